theorem d_Model_layUp_0 : decode prog_12_method_45_code 0 = .ok (.iload_n 1, 1) := by decide +kernel
theorem d_Model_layUp_1 : decode prog_12_method_45_code 1 = .ok (.i2l, 1) := by decide +kernel
theorem d_Model_layUp_2 : decode prog_12_method_45_code 2 = .ok (.invokestatic 110, 3) := by decide +kernel
theorem d_Model_layUp_5 : decode prog_12_method_45_code 5 = .ok (.ifCond .eq 11, 3) := by decide +kernel
theorem d_Model_layUp_8 : decode prog_12_method_45_code 8 = .ok (.aload_n 0, 1) := by decide +kernel
theorem d_Model_layUp_9 : decode prog_12_method_45_code 9 = .ok (.iload_n 1, 1) := by decide +kernel
theorem d_Model_layUp_10 : decode prog_12_method_45_code 10 = .ok (.invokevirtual 89, 3) := by decide +kernel
theorem d_Model_layUp_13 : decode prog_12_method_45_code 13 = .ok (.ifCond .eq 5, 3) := by decide +kernel
theorem d_Model_layUp_16 : decode prog_12_method_45_code 16 = .ok (.iconst (-1), 1) := by decide +kernel
theorem d_Model_layUp_17 : decode prog_12_method_45_code 17 = .ok (.ireturn, 1) := by decide +kernel
theorem d_Model_layUp_18 : decode prog_12_method_45_code 18 = .ok (.bipush (-2), 2) := by decide +kernel
theorem d_Model_layUp_20 : decode prog_12_method_45_code 20 = .ok (.istore_n 2, 1) := by decide +kernel
theorem d_Model_layUp_21 : decode prog_12_method_45_code 21 = .ok (.iconst (-1), 1) := by decide +kernel
theorem d_Model_layUp_22 : decode prog_12_method_45_code 22 = .ok (.istore_n 3, 1) := by decide +kernel
theorem d_Model_layUp_23 : decode prog_12_method_45_code 23 = .ok (.iconst 0, 1) := by decide +kernel
theorem d_Model_layUp_24 : decode prog_12_method_45_code 24 = .ok (.istore 4, 2) := by decide +kernel
theorem d_Model_layUp_26 : decode prog_12_method_45_code 26 = .ok (.iload 4, 2) := by decide +kernel
theorem d_Model_layUp_28 : decode prog_12_method_45_code 28 = .ok (.aload_n 0, 1) := by decide +kernel
theorem d_Model_layUp_29 : decode prog_12_method_45_code 29 = .ok (.getfield 80, 3) := by decide +kernel
theorem d_Model_layUp_32 : decode prog_12_method_45_code 32 = .ok (.if_icmp .ge 48, 3) := by decide +kernel
theorem d_Model_layUp_35 : decode prog_12_method_45_code 35 = .ok (.aload_n 0, 1) := by decide +kernel
theorem d_Model_layUp_36 : decode prog_12_method_45_code 36 = .ok (.iload_n 1, 1) := by decide +kernel
theorem d_Model_layUp_37 : decode prog_12_method_45_code 37 = .ok (.aload_n 0, 1) := by decide +kernel
theorem d_Model_layUp_38 : decode prog_12_method_45_code 38 = .ok (.getfield 11, 3) := by decide +kernel
theorem d_Model_layUp_41 : decode prog_12_method_45_code 41 = .ok (.bipush 31, 2) := by decide +kernel
theorem d_Model_layUp_43 : decode prog_12_method_45_code 43 = .ok (.iload 4, 2) := by decide +kernel
theorem d_Model_layUp_45 : decode prog_12_method_45_code 45 = .ok (.iadd, 1) := by decide +kernel
theorem d_Model_layUp_46 : decode prog_12_method_45_code 46 = .ok (.iaload, 1) := by decide +kernel
theorem d_Model_layUp_47 : decode prog_12_method_45_code 47 = .ok (.invokevirtual 207, 3) := by decide +kernel
theorem d_Model_layUp_50 : decode prog_12_method_45_code 50 = .ok (.istore 5, 2) := by decide +kernel
theorem d_Model_layUp_52 : decode prog_12_method_45_code 52 = .ok (.aload_n 0, 1) := by decide +kernel
theorem d_Model_layUp_53 : decode prog_12_method_45_code 53 = .ok (.iload_n 1, 1) := by decide +kernel
theorem d_Model_layUp_54 : decode prog_12_method_45_code 54 = .ok (.iload 4, 2) := by decide +kernel
theorem d_Model_layUp_56 : decode prog_12_method_45_code 56 = .ok (.invokevirtual 233, 3) := by decide +kernel
theorem d_Model_layUp_59 : decode prog_12_method_45_code 59 = .ok (.ifCond .ne 15, 3) := by decide +kernel
theorem d_Model_layUp_62 : decode prog_12_method_45_code 62 = .ok (.iload 5, 2) := by decide +kernel
theorem d_Model_layUp_64 : decode prog_12_method_45_code 64 = .ok (.iload_n 3, 1) := by decide +kernel
theorem d_Model_layUp_65 : decode prog_12_method_45_code 65 = .ok (.if_icmp .le 9, 3) := by decide +kernel
theorem d_Model_layUp_68 : decode prog_12_method_45_code 68 = .ok (.iload 4, 2) := by decide +kernel
theorem d_Model_layUp_70 : decode prog_12_method_45_code 70 = .ok (.istore_n 2, 1) := by decide +kernel
theorem d_Model_layUp_71 : decode prog_12_method_45_code 71 = .ok (.iload 5, 2) := by decide +kernel
theorem d_Model_layUp_73 : decode prog_12_method_45_code 73 = .ok (.istore_n 3, 1) := by decide +kernel
theorem d_Model_layUp_74 : decode prog_12_method_45_code 74 = .ok (.iinc 4 1, 3) := by decide +kernel
theorem d_Model_layUp_77 : decode prog_12_method_45_code 77 = .ok (.goto (-51), 3) := by decide +kernel
theorem d_Model_layUp_80 : decode prog_12_method_45_code 80 = .ok (.iload_n 2, 1) := by decide +kernel
theorem d_Model_layUp_81 : decode prog_12_method_45_code 81 = .ok (.ireturn, 1) := by decide +kernel
theorem b_Model_layUp_0 {d : Nat} {x1 : Int32} {h : am_H} {Q : am_Q} (k : m_Model_isCell d [.long x1.toInt64] h (fun r hh => am_W (X_Model_layUp (d + 1)) 5 [some (.ref 0), some (.int x1), none, none, none, none] (r.toList ++ []) hh Q)) : am_W (X_Model_layUp (d + 1)) 0 [some (.ref 0), some (.int x1), none, none, none, none] [] h Q :=
  am_iload_n d_Model_layUp_0 rfl (i := 1) rfl <|
    am_i2l d_Model_layUp_1 <|
    am_callS (vs := [.long x1.toInt64]) (st := []) rfl d_Model_layUp_2 w_1469 w_1470 w_94 w_1471 p_Model_isCell (Nat.le_of_ble_eq_true rfl) (Nat.le_of_ble_eq_true rfl) rfl k
theorem b_Model_layUp_5 {d : Nat} {x1 : Int32} {y0 : Bool} {h : am_H} {Q : am_Q} (kt : (am_b y0) = 0 → am_W (X_Model_layUp d) 16 [some (.ref 0), some (.int x1), none, none, none, none] [] h Q) (kf : ¬ (am_b y0) = 0 → am_W (X_Model_layUp d) 8 [some (.ref 0), some (.int x1), none, none, none, none] [] h Q) : am_W (X_Model_layUp d) 5 [some (.ref 0), some (.int x1), none, none, none, none] [.int (am_b y0)] h Q :=
  am_if_eq (tgt := 16) d_Model_layUp_5 (by decide) kt kf
theorem b_Model_layUp_8 {d : Nat} {x1 : Int32} {h : am_H} {Q : am_Q} (k : m_Model_isGreen d [.ref 0, .int x1] h (fun r hh => am_W (X_Model_layUp (d + 1)) 13 [some (.ref 0), some (.int x1), none, none, none, none] (r.toList ++ []) hh Q)) : am_W (X_Model_layUp (d + 1)) 8 [some (.ref 0), some (.int x1), none, none, none, none] [] h Q :=
  am_aload_n d_Model_layUp_8 rfl (i := 0) rfl <|
    am_iload_n d_Model_layUp_9 rfl (i := 1) rfl <|
    am_callV (vs := [.int x1]) (st := []) (k := 0) (ci := 10) rfl d_Model_layUp_10 rfl rfl w_1550 w_1552 w_49 w_94 w_1553 p_Model_isGreen (Nat.le_of_ble_eq_true rfl) (Nat.le_of_ble_eq_true rfl) rfl k
theorem b_Model_layUp_13 {d : Nat} {x1 : Int32} {y0 : Bool} {h : am_H} {Q : am_Q} (kt : (am_b y0) = 0 → am_W (X_Model_layUp d) 18 [some (.ref 0), some (.int x1), none, none, none, none] [] h Q) (kf : ¬ (am_b y0) = 0 → am_W (X_Model_layUp d) 16 [some (.ref 0), some (.int x1), none, none, none, none] [] h Q) : am_W (X_Model_layUp d) 13 [some (.ref 0), some (.int x1), none, none, none, none] [.int (am_b y0)] h Q :=
  am_if_eq (tgt := 18) d_Model_layUp_13 (by decide) kt kf
theorem b_Model_layUp_16 {d : Nat} {x1 : Int32} {h : am_H} {Q : am_Q} (q : Q (some (.int (-1))) h) : am_W (X_Model_layUp d) 16 [some (.ref 0), some (.int x1), none, none, none, none] [] h Q :=
  am_iconst (v := (-1)) d_Model_layUp_16 (by decide) <|
    am_iret rfl d_Model_layUp_17 q
theorem b_Model_layUp_18 {d : Nat} {x1 : Int32} {h : am_H} {Q : am_Q} (k : am_W (X_Model_layUp d) 26 [some (.ref 0), some (.int x1), some (.int (-2)), some (.int (-1)), some (.int 0), none] [] h Q) : am_W (X_Model_layUp d) 18 [some (.ref 0), some (.int x1), none, none, none, none] [] h Q :=
  am_bipush (v := (-2)) d_Model_layUp_18 (by decide) <|
    am_istore_n (ls' := [some (.ref 0), some (.int x1), some (.int (-2)), none, none, none]) d_Model_layUp_20 rfl (Nat.le_of_ble_eq_true rfl) rfl <|
    am_iconst (v := (-1)) d_Model_layUp_21 (by decide) <|
    am_istore_n (ls' := [some (.ref 0), some (.int x1), some (.int (-2)), some (.int (-1)), none, none]) d_Model_layUp_22 rfl (Nat.le_of_ble_eq_true rfl) rfl <|
    am_iconst (v := 0) d_Model_layUp_23 (by decide) <|
    am_istore (ls' := [some (.ref 0), some (.int x1), some (.int (-2)), some (.int (-1)), some (.int 0), none]) d_Model_layUp_24 (Nat.le_of_ble_eq_true rfl) rfl <|
    k
theorem b_Model_layUp_26 {d : Nat} {x1 : Int32} {x2 : Int32} {x3 : Int32} {x4 : Int32} {h : am_H} {Q : am_Q} (kt : (h.1 0 6) ≤ x4 → am_W (X_Model_layUp d) 80 [some (.ref 0), some (.int x1), some (.int x2), some (.int x3), some (.int x4), none] [] h Q) (kf : ¬ (h.1 0 6) ≤ x4 → am_W (X_Model_layUp d) 35 [some (.ref 0), some (.int x1), some (.int x2), some (.int x3), some (.int x4), none] [] h Q) : am_W (X_Model_layUp d) 26 [some (.ref 0), some (.int x1), some (.int x2), some (.int x3), some (.int x4), none] [] h Q :=
  am_iload d_Model_layUp_26 rfl <|
    am_aload_n d_Model_layUp_28 rfl (i := 0) rfl <|
    am_getI (ci := 10) (i := 6) rfl rfl rfl (Nat.le_of_ble_eq_true rfl) w_1324 d_Model_layUp_29 <|
    am_icmp_ge (tgt := 80) d_Model_layUp_32 (by decide) kt kf
theorem b_Model_layUp_35 {d : Nat} {x1 : Int32} {x2 : Int32} {x3 : Int32} {x4 : Int32} {h : am_H} {Q : am_Q} (q0 : vp_in (31 + x4) 54) (k : m_Model_lengthOf d [.ref 0, .int x1, .int (h.1 1 (31 + x4).toNatClampNeg)] h (fun r hh => am_W (X_Model_layUp (d + 1)) 50 [some (.ref 0), some (.int x1), some (.int x2), some (.int x3), some (.int x4), none] (r.toList ++ []) hh Q)) : am_W (X_Model_layUp (d + 1)) 35 [some (.ref 0), some (.int x1), some (.int x2), some (.int x3), some (.int x4), none] [] h Q :=
  am_aload_n d_Model_layUp_35 rfl (i := 0) rfl <|
    am_iload_n d_Model_layUp_36 rfl (i := 1) rfl <|
    am_aload_n d_Model_layUp_37 rfl (i := 0) rfl <|
    am_getR (ci := 10) (i := 0) rfl rfl rfl (Nat.le_of_ble_eq_true rfl) w_1318 d_Model_layUp_38 <|
    am_bipush (v := 31) d_Model_layUp_41 (by decide) <|
    am_iload d_Model_layUp_43 rfl <|
    am_iadd d_Model_layUp_45 <|
    am_iald rfl q0 d_Model_layUp_46 <|
    am_callV (vs := [.int x1, .int (h.1 1 (31 + x4).toNatClampNeg)]) (st := []) (k := 0) (ci := 10) rfl d_Model_layUp_47 rfl rfl w_1582 w_1584 w_55 w_94 w_1585 p_Model_lengthOf (Nat.le_of_ble_eq_true rfl) (Nat.le_of_ble_eq_true rfl) rfl k
theorem b_Model_layUp_50 {d : Nat} {x1 : Int32} {x2 : Int32} {x3 : Int32} {x4 : Int32} {y0 : Int32} {h : am_H} {Q : am_Q} (k : m_Model_wetWays d [.ref 0, .int x1, .int x4] h (fun r hh => am_W (X_Model_layUp (d + 1)) 59 [some (.ref 0), some (.int x1), some (.int x2), some (.int x3), some (.int x4), some (.int y0)] (r.toList ++ []) hh Q)) : am_W (X_Model_layUp (d + 1)) 50 [some (.ref 0), some (.int x1), some (.int x2), some (.int x3), some (.int x4), none] [.int y0] h Q :=
  am_istore (ls' := [some (.ref 0), some (.int x1), some (.int x2), some (.int x3), some (.int x4), some (.int y0)]) d_Model_layUp_50 (Nat.le_of_ble_eq_true rfl) rfl <|
    am_aload_n d_Model_layUp_52 rfl (i := 0) rfl <|
    am_iload_n d_Model_layUp_53 rfl (i := 1) rfl <|
    am_iload d_Model_layUp_54 rfl <|
    am_callV (vs := [.int x1, .int x4]) (st := []) (k := 0) (ci := 10) rfl d_Model_layUp_56 rfl rfl w_1600 w_1602 w_57 w_94 w_1603 p_Model_wetWays (Nat.le_of_ble_eq_true rfl) (Nat.le_of_ble_eq_true rfl) rfl k
theorem b_Model_layUp_59 {d : Nat} {x1 : Int32} {x2 : Int32} {x3 : Int32} {x4 : Int32} {x5 : Int32} {y0 : Int32} {h : am_H} {Q : am_Q} (kt : ¬ y0 = 0 → am_W (X_Model_layUp d) 74 [some (.ref 0), some (.int x1), some (.int x2), some (.int x3), some (.int x4), some (.int x5)] [] h Q) (kf : y0 = 0 → am_W (X_Model_layUp d) 62 [some (.ref 0), some (.int x1), some (.int x2), some (.int x3), some (.int x4), some (.int x5)] [] h Q) : am_W (X_Model_layUp d) 59 [some (.ref 0), some (.int x1), some (.int x2), some (.int x3), some (.int x4), some (.int x5)] [.int y0] h Q :=
  am_if_ne (tgt := 74) d_Model_layUp_59 (by decide) kt kf
theorem b_Model_layUp_62 {d : Nat} {x1 : Int32} {x2 : Int32} {x3 : Int32} {x4 : Int32} {x5 : Int32} {h : am_H} {Q : am_Q} (kt : x5 ≤ x3 → am_W (X_Model_layUp d) 74 [some (.ref 0), some (.int x1), some (.int x2), some (.int x3), some (.int x4), some (.int x5)] [] h Q) (kf : ¬ x5 ≤ x3 → am_W (X_Model_layUp d) 68 [some (.ref 0), some (.int x1), some (.int x2), some (.int x3), some (.int x4), some (.int x5)] [] h Q) : am_W (X_Model_layUp d) 62 [some (.ref 0), some (.int x1), some (.int x2), some (.int x3), some (.int x4), some (.int x5)] [] h Q :=
  am_iload d_Model_layUp_62 rfl <|
    am_iload_n d_Model_layUp_64 rfl (i := 3) rfl <|
    am_icmp_le (tgt := 74) d_Model_layUp_65 (by decide) kt kf
theorem b_Model_layUp_68 {d : Nat} {x1 : Int32} {x2 : Int32} {x3 : Int32} {x4 : Int32} {x5 : Int32} {h : am_H} {Q : am_Q} (k : am_W (X_Model_layUp d) 74 [some (.ref 0), some (.int x1), some (.int x4), some (.int x5), some (.int x4), some (.int x5)] [] h Q) : am_W (X_Model_layUp d) 68 [some (.ref 0), some (.int x1), some (.int x2), some (.int x3), some (.int x4), some (.int x5)] [] h Q :=
  am_iload d_Model_layUp_68 rfl <|
    am_istore_n (ls' := [some (.ref 0), some (.int x1), some (.int x4), some (.int x3), some (.int x4), some (.int x5)]) d_Model_layUp_70 rfl (Nat.le_of_ble_eq_true rfl) rfl <|
    am_iload d_Model_layUp_71 rfl <|
    am_istore_n (ls' := [some (.ref 0), some (.int x1), some (.int x4), some (.int x5), some (.int x4), some (.int x5)]) d_Model_layUp_73 rfl (Nat.le_of_ble_eq_true rfl) rfl <|
    k
theorem b_Model_layUp_74 {d : Nat} {x1 : Int32} {x2 : Int32} {x3 : Int32} {x4 : Int32} {x5 : Int32} {h : am_H} {Q : am_Q} (k : am_W (X_Model_layUp d) 26 [some (.ref 0), some (.int x1), some (.int x2), some (.int x3), some (.int (x4 + 1)), some (.int x5)] [] h Q) : am_W (X_Model_layUp d) 74 [some (.ref 0), some (.int x1), some (.int x2), some (.int x3), some (.int x4), some (.int x5)] [] h Q :=
  am_iinc (v := (x4 + 1)) (ls' := [some (.ref 0), some (.int x1), some (.int x2), some (.int x3), some (.int (x4 + 1)), some (.int x5)]) d_Model_layUp_74 rfl rfl (Nat.le_of_ble_eq_true rfl) rfl <|
    am_goto (tgt := 26) d_Model_layUp_77 (by decide) k
theorem b_Model_layUp_80 {d : Nat} {x1 : Int32} {x2 : Int32} {x3 : Int32} {x4 : Int32} {h : am_H} {Q : am_Q} (q : Q (some (.int x2)) h) : am_W (X_Model_layUp d) 80 [some (.ref 0), some (.int x1), some (.int x2), some (.int x3), some (.int x4), none] [] h Q :=
  am_iload_n d_Model_layUp_80 rfl (i := 2) rfl <|
    am_iret rfl d_Model_layUp_81 q
theorem t_Model_layUp_16 {d : Nat} {x1 : Int32} {h : am_H} {Q : am_Q} {res : Int32} (e : f_Model_layUp_16 h = some res) (q : Q (some (.int res)) h) : am_W (X_Model_layUp (d + 3)) 16 [some (.ref 0), some (.int x1), none, none, none, none] [] h Q :=
  b_Model_layUp_16 (d := (d + 3)) (q := (am_rIp (v := (-1)) e q))
theorem t_Model_layUp_80 {d : Nat} {x1 : Int32} {x2 : Int32} {x3 : Int32} {x4 : Int32} {h : am_H} {Q : am_Q} {res : Int32} (e : f_Model_layUp_80 h x2 = some res) (q : Q (some (.int res)) h) : am_W (X_Model_layUp (d + 3)) 80 [some (.ref 0), some (.int x1), some (.int x2), some (.int x3), some (.int x4), none] [] h Q :=
  b_Model_layUp_80 (d := (d + 3)) (q := (am_rIp (v := x2) e q))
theorem t_Model_layUp_74 {d : Nat} {k26 : Int32 → Int32 → Int32 → Int32 → Option (Int32)} {x1 : Int32} {x2 : Int32} {x3 : Int32} {x4 : Int32} {x5 : Int32} {h : am_H} {Q : am_Q} {res : Int32} (hk26 : ∀ (x1 : Int32) (x2 : Int32) (x3 : Int32) (x4 : Int32), k26 x1 x2 x3 x4 = some res → am_W (X_Model_layUp (d + 3)) 26 [some (.ref 0), some (.int x1), some (.int x2), some (.int x3), some (.int x4), none] [] h Q) (e : f_Model_layUp_74 k26 h x1 x2 x3 x4 = some res) (q : Q (some (.int res)) h) : am_W (X_Model_layUp (d + 3)) 74 [some (.ref 0), some (.int x1), some (.int x2), some (.int x3), some (.int x4), some (.int x5)] [] h Q :=
  b_Model_layUp_74 (d := (d + 3)) (k := (am_wk2 (hk26 _ _ _ _ e) ⟨rfl, ⟨rfl, ⟨rfl, ⟨rfl, ⟨rfl, trivial⟩⟩⟩⟩⟩))
theorem t_Model_layUp_68 {d : Nat} {k26 : Int32 → Int32 → Int32 → Int32 → Option (Int32)} {x1 : Int32} {x2 : Int32} {x3 : Int32} {x4 : Int32} {x5 : Int32} {h : am_H} {Q : am_Q} {res : Int32} (hk26 : ∀ (x1 : Int32) (x2 : Int32) (x3 : Int32) (x4 : Int32), k26 x1 x2 x3 x4 = some res → am_W (X_Model_layUp (d + 3)) 26 [some (.ref 0), some (.int x1), some (.int x2), some (.int x3), some (.int x4), none] [] h Q) (e : f_Model_layUp_68 k26 h x1 x4 x5 = some res) (q : Q (some (.int res)) h) : am_W (X_Model_layUp (d + 3)) 68 [some (.ref 0), some (.int x1), some (.int x2), some (.int x3), some (.int x4), some (.int x5)] [] h Q :=
  b_Model_layUp_68 (d := (d + 3)) (k := (t_Model_layUp_74 hk26 e q))
theorem t_Model_layUp_62 {d : Nat} {k26 : Int32 → Int32 → Int32 → Int32 → Option (Int32)} {x1 : Int32} {x2 : Int32} {x3 : Int32} {x4 : Int32} {x5 : Int32} {h : am_H} {Q : am_Q} {res : Int32} (hk26 : ∀ (x1 : Int32) (x2 : Int32) (x3 : Int32) (x4 : Int32), k26 x1 x2 x3 x4 = some res → am_W (X_Model_layUp (d + 3)) 26 [some (.ref 0), some (.int x1), some (.int x2), some (.int x3), some (.int x4), none] [] h Q) (e : f_Model_layUp_62 k26 h x1 x2 x3 x4 x5 = some res) (q : Q (some (.int res)) h) : am_W (X_Model_layUp (d + 3)) 62 [some (.ref 0), some (.int x1), some (.int x2), some (.int x3), some (.int x4), some (.int x5)] [] h Q :=
  b_Model_layUp_62 (d := (d + 3)) (kt := fun c => (t_Model_layUp_74 hk26 (am_ift e c) q)) (kf := fun c => (t_Model_layUp_68 hk26 (am_ife e c) q))
theorem t_Model_layUp_59 {d : Nat} {k26 : Int32 → Int32 → Int32 → Int32 → Option (Int32)} {x1 : Int32} {x2 : Int32} {x3 : Int32} {x4 : Int32} {x5 : Int32} {y0 : Int32} {h : am_H} {Q : am_Q} {res : Int32} (hk26 : ∀ (x1 : Int32) (x2 : Int32) (x3 : Int32) (x4 : Int32), k26 x1 x2 x3 x4 = some res → am_W (X_Model_layUp (d + 3)) 26 [some (.ref 0), some (.int x1), some (.int x2), some (.int x3), some (.int x4), none] [] h Q) (e : f_Model_layUp_59 k26 h x1 x2 x3 x4 x5 y0 = some res) (q : Q (some (.int res)) h) : am_W (X_Model_layUp (d + 3)) 59 [some (.ref 0), some (.int x1), some (.int x2), some (.int x3), some (.int x4), some (.int x5)] [.int y0] h Q :=
  b_Model_layUp_59 (d := (d + 3)) (kt := fun c => (t_Model_layUp_74 hk26 (am_ife e c) q)) (kf := fun c => (t_Model_layUp_62 hk26 (am_ift e c) q))
theorem t_Model_layUp_50 {d : Nat} {k26 : Int32 → Int32 → Int32 → Int32 → Option (Int32)} {x1 : Int32} {x2 : Int32} {x3 : Int32} {x4 : Int32} {y0 : Int32} {h : am_H} {Q : am_Q} {res : Int32} (hk26 : ∀ (x1 : Int32) (x2 : Int32) (x3 : Int32) (x4 : Int32), k26 x1 x2 x3 x4 = some res → am_W (X_Model_layUp (d + 3)) 26 [some (.ref 0), some (.int x1), some (.int x2), some (.int x3), some (.int x4), none] [] h Q) (e : f_Model_layUp_50 k26 h x1 x2 x3 x4 y0 = some res) (q : Q (some (.int res)) h) : am_W (X_Model_layUp (d + 3)) 50 [some (.ref 0), some (.int x1), some (.int x2), some (.int x3), some (.int x4), none] [.int y0] h Q :=
  (am_bd e).elim fun p hp => b_Model_layUp_50 (d := (d + 2)) (k := c_Model_wetWays (d := d) hp.1 (t_Model_layUp_59 hk26 hp.2 q))
theorem t_Model_layUp_35 {d : Nat} {k26 : Int32 → Int32 → Int32 → Int32 → Option (Int32)} {x1 : Int32} {x2 : Int32} {x3 : Int32} {x4 : Int32} {h : am_H} {Q : am_Q} {res : Int32} (hk26 : ∀ (x1 : Int32) (x2 : Int32) (x3 : Int32) (x4 : Int32), k26 x1 x2 x3 x4 = some res → am_W (X_Model_layUp (d + 3)) 26 [some (.ref 0), some (.int x1), some (.int x2), some (.int x3), some (.int x4), none] [] h Q) (e : f_Model_layUp_35 k26 h x1 x2 x3 x4 = some res) (q : Q (some (.int res)) h) : am_W (X_Model_layUp (d + 3)) 35 [some (.ref 0), some (.int x1), some (.int x2), some (.int x3), some (.int x4), none] [] h Q :=
  (am_bd (am_ga e)).elim fun p hp => b_Model_layUp_35 (d := (d + 2)) (q0 := (am_okv (am_gd e))) (k := c_Model_lengthOf (d := d + 2) hp.1 (t_Model_layUp_50 hk26 hp.2 q))
theorem t_Model_layUp_26 {d : Nat} {k26 : Int32 → Int32 → Int32 → Int32 → Option (Int32)} {x1 : Int32} {x2 : Int32} {x3 : Int32} {x4 : Int32} {h : am_H} {Q : am_Q} {res : Int32} (hk26 : ∀ (x1 : Int32) (x2 : Int32) (x3 : Int32) (x4 : Int32), k26 x1 x2 x3 x4 = some res → am_W (X_Model_layUp (d + 3)) 26 [some (.ref 0), some (.int x1), some (.int x2), some (.int x3), some (.int x4), none] [] h Q) (e : f_Model_layUp_26 k26 h x1 x2 x3 x4 = some res) (q : Q (some (.int res)) h) : am_W (X_Model_layUp (d + 3)) 26 [some (.ref 0), some (.int x1), some (.int x2), some (.int x3), some (.int x4), none] [] h Q :=
  b_Model_layUp_26 (d := (d + 3)) (kt := fun c => (t_Model_layUp_80 (am_ift e c) q)) (kf := fun c => (t_Model_layUp_35 hk26 (am_ife e c) q))
theorem t_Model_layUp_26_l {d : Nat} {h : am_H} {Q : am_Q} {res : Int32} (q : Q (some (.int res)) h) : ∀ (n : Nat) (x1 : Int32) (x2 : Int32) (x3 : Int32) (x4 : Int32), f_Model_layUp_26_l h n x1 x2 x3 x4 = some res → am_W (X_Model_layUp (d + 3)) 26 [some (.ref 0), some (.int x1), some (.int x2), some (.int x3), some (.int x4), none] [] h Q := by
  intro n
  induction n with
  | zero => intro x1 x2 x3 x4 e; exact am_nn e
  | succ n ih => intro x1 x2 x3 x4 e; exact t_Model_layUp_26 (fun x1 x2 x3 x4 e => ih x1 x2 x3 x4  e) e q
theorem t_Model_layUp_18 {d : Nat} {x1 : Int32} {h : am_H} {Q : am_Q} {res : Int32} (e : f_Model_layUp_18 h x1 = some res) (q : Q (some (.int res)) h) : am_W (X_Model_layUp (d + 3)) 18 [some (.ref 0), some (.int x1), none, none, none, none] [] h Q :=
  b_Model_layUp_18 (d := (d + 3)) (k := (t_Model_layUp_26_l q am_fu _ _ _ _ e))
theorem t_Model_layUp_13 {d : Nat} {x1 : Int32} {y0 : Bool} {h : am_H} {Q : am_Q} {res : Int32} (e : f_Model_layUp_13 h x1 y0 = some res) (q : Q (some (.int res)) h) : am_W (X_Model_layUp (d + 3)) 13 [some (.ref 0), some (.int x1), none, none, none, none] [.int (am_b y0)] h Q :=
  b_Model_layUp_13 (d := (d + 3)) (kt := fun c => (t_Model_layUp_18 (am_iff e (am_bz c)) q)) (kf := fun c => (t_Model_layUp_16 (am_ift e (am_bn c)) q))
theorem t_Model_layUp_8 {d : Nat} {x1 : Int32} {h : am_H} {Q : am_Q} {res : Int32} (e : f_Model_layUp_8 h x1 = some res) (q : Q (some (.int res)) h) : am_W (X_Model_layUp (d + 3)) 8 [some (.ref 0), some (.int x1), none, none, none, none] [] h Q :=
  (am_bd e).elim fun p hp => b_Model_layUp_8 (d := (d + 2)) (k := c_Model_isGreen (d := d + 2) hp.1 (t_Model_layUp_13 hp.2 q))
theorem t_Model_layUp_5 {d : Nat} {x1 : Int32} {y0 : Bool} {h : am_H} {Q : am_Q} {res : Int32} (e : f_Model_layUp_5 h x1 y0 = some res) (q : Q (some (.int res)) h) : am_W (X_Model_layUp (d + 3)) 5 [some (.ref 0), some (.int x1), none, none, none, none] [.int (am_b y0)] h Q :=
  b_Model_layUp_5 (d := (d + 3)) (kt := fun c => (t_Model_layUp_16 (am_iff e (am_bz c)) q)) (kf := fun c => (t_Model_layUp_8 (am_ift e (am_bn c)) q))
theorem t_Model_layUp_0 {d : Nat} {x1 : Int32} {h : am_H} {Q : am_Q} {res : Int32} (e : f_Model_layUp h x1 = some res) (q : Q (some (.int res)) h) : am_W (X_Model_layUp (d + 3)) 0 [some (.ref 0), some (.int x1), none, none, none, none] [] h Q :=
  b_Model_layUp_0 (d := (d + 2)) (k := c_Model_isCell (d := d + 1) rfl (t_Model_layUp_5 e q))
theorem c_Model_layUp {d : Nat} {x1 : Int32} {h : am_H} {Q : am_Q} {res : Int32} (e : f_Model_layUp h x1 = some res) (q : Q (some (.int res)) h) : m_Model_layUp (d + 3) [.ref 0, .int x1] h Q :=
  e_Model_layUp (t_Model_layUp_0 e q)
theorem d_Model_byClub_0 : decode prog_12_method_46_code 0 = .ok (.aload_n 0, 1) := by decide +kernel
theorem d_Model_byClub_1 : decode prog_12_method_46_code 1 = .ok (.getfield 11, 3) := by decide +kernel
theorem d_Model_byClub_4 : decode prog_12_method_46_code 4 = .ok (.bipush 37, 2) := by decide +kernel
theorem d_Model_byClub_6 : decode prog_12_method_46_code 6 = .ok (.iload_n 3, 1) := by decide +kernel
theorem d_Model_byClub_7 : decode prog_12_method_46_code 7 = .ok (.iadd, 1) := by decide +kernel
theorem d_Model_byClub_8 : decode prog_12_method_46_code 8 = .ok (.iaload, 1) := by decide +kernel
theorem d_Model_byClub_9 : decode prog_12_method_46_code 9 = .ok (.istore 4, 2) := by decide +kernel
theorem d_Model_byClub_11 : decode prog_12_method_46_code 11 = .ok (.lconst 0, 1) := by decide +kernel
theorem d_Model_byClub_12 : decode prog_12_method_46_code 12 = .ok (.lstore 5, 2) := by decide +kernel
theorem d_Model_byClub_14 : decode prog_12_method_46_code 14 = .ok (.iload 4, 2) := by decide +kernel
theorem d_Model_byClub_16 : decode prog_12_method_46_code 16 = .ok (.ineg, 1) := by decide +kernel
theorem d_Model_byClub_17 : decode prog_12_method_46_code 17 = .ok (.istore 7, 2) := by decide +kernel
theorem d_Model_byClub_19 : decode prog_12_method_46_code 19 = .ok (.iload 7, 2) := by decide +kernel
theorem d_Model_byClub_21 : decode prog_12_method_46_code 21 = .ok (.iload 4, 2) := by decide +kernel
theorem d_Model_byClub_23 : decode prog_12_method_46_code 23 = .ok (.if_icmp .gt 85, 3) := by decide +kernel
theorem d_Model_byClub_26 : decode prog_12_method_46_code 26 = .ok (.aload_n 0, 1) := by decide +kernel
theorem d_Model_byClub_27 : decode prog_12_method_46_code 27 = .ok (.iload_n 1, 1) := by decide +kernel
theorem d_Model_byClub_28 : decode prog_12_method_46_code 28 = .ok (.aload_n 0, 1) := by decide +kernel
theorem d_Model_byClub_29 : decode prog_12_method_46_code 29 = .ok (.getfield 11, 3) := by decide +kernel
theorem d_Model_byClub_32 : decode prog_12_method_46_code 32 = .ok (.bipush 31, 2) := by decide +kernel
theorem d_Model_byClub_34 : decode prog_12_method_46_code 34 = .ok (.iload_n 3, 1) := by decide +kernel
theorem d_Model_byClub_35 : decode prog_12_method_46_code 35 = .ok (.iadd, 1) := by decide +kernel
theorem d_Model_byClub_36 : decode prog_12_method_46_code 36 = .ok (.iaload, 1) := by decide +kernel
theorem d_Model_byClub_37 : decode prog_12_method_46_code 37 = .ok (.iload 7, 2) := by decide +kernel
theorem d_Model_byClub_39 : decode prog_12_method_46_code 39 = .ok (.invokevirtual 214, 3) := by decide +kernel
theorem d_Model_byClub_42 : decode prog_12_method_46_code 42 = .ok (.istore 8, 2) := by decide +kernel
theorem d_Model_byClub_44 : decode prog_12_method_46_code 44 = .ok (.aload_n 0, 1) := by decide +kernel
theorem d_Model_byClub_45 : decode prog_12_method_46_code 45 = .ok (.iload 8, 2) := by decide +kernel
theorem d_Model_byClub_47 : decode prog_12_method_46_code 47 = .ok (.invokevirtual 217, 3) := by decide +kernel
theorem d_Model_byClub_50 : decode prog_12_method_46_code 50 = .ok (.istore 9, 2) := by decide +kernel
theorem d_Model_byClub_52 : decode prog_12_method_46_code 52 = .ok (.lload 5, 2) := by decide +kernel
theorem d_Model_byClub_54 : decode prog_12_method_46_code 54 = .ok (.iload 9, 2) := by decide +kernel
theorem d_Model_byClub_56 : decode prog_12_method_46_code 56 = .ok (.ifCond .eq 9, 3) := by decide +kernel
theorem d_Model_byClub_59 : decode prog_12_method_46_code 59 = .ok (.ldc2_w 239, 3) := by decide +kernel
theorem d_Model_byClub_62 : decode prog_12_method_46_code 62 = .ok (.goto 4, 3) := by decide +kernel
theorem d_Model_byClub_65 : decode prog_12_method_46_code 65 = .ok (.lconst 1, 1) := by decide +kernel
theorem d_Model_byClub_66 : decode prog_12_method_46_code 66 = .ok (.aload_n 0, 1) := by decide +kernel
theorem d_Model_byClub_67 : decode prog_12_method_46_code 67 = .ok (.getfield 40, 3) := by decide +kernel
theorem d_Model_byClub_70 : decode prog_12_method_46_code 70 = .ok (.iload_n 2, 1) := by decide +kernel
theorem d_Model_byClub_71 : decode prog_12_method_46_code 71 = .ok (.iconst 1, 1) := by decide +kernel
theorem d_Model_byClub_72 : decode prog_12_method_46_code 72 = .ok (.isub, 1) := by decide +kernel
theorem d_Model_byClub_73 : decode prog_12_method_46_code 73 = .ok (.laload, 1) := by decide +kernel
theorem d_Model_byClub_74 : decode prog_12_method_46_code 74 = .ok (.lmul, 1) := by decide +kernel
theorem d_Model_byClub_75 : decode prog_12_method_46_code 75 = .ok (.aload_n 0, 1) := by decide +kernel
theorem d_Model_byClub_76 : decode prog_12_method_46_code 76 = .ok (.getfield 33, 3) := by decide +kernel
theorem d_Model_byClub_79 : decode prog_12_method_46_code 79 = .ok (.bipush 31, 2) := by decide +kernel
theorem d_Model_byClub_81 : decode prog_12_method_46_code 81 = .ok (.iload_n 2, 1) := by decide +kernel
theorem d_Model_byClub_82 : decode prog_12_method_46_code 82 = .ok (.iconst 1, 1) := by decide +kernel
theorem d_Model_byClub_83 : decode prog_12_method_46_code 83 = .ok (.isub, 1) := by decide +kernel
theorem d_Model_byClub_84 : decode prog_12_method_46_code 84 = .ok (.imul, 1) := by decide +kernel
theorem d_Model_byClub_85 : decode prog_12_method_46_code 85 = .ok (.iload 9, 2) := by decide +kernel
theorem d_Model_byClub_87 : decode prog_12_method_46_code 87 = .ok (.ifCond .eq 7, 3) := by decide +kernel
theorem d_Model_byClub_90 : decode prog_12_method_46_code 90 = .ok (.iload_n 1, 1) := by decide +kernel
theorem d_Model_byClub_91 : decode prog_12_method_46_code 91 = .ok (.goto 5, 3) := by decide +kernel
theorem d_Model_byClub_94 : decode prog_12_method_46_code 94 = .ok (.iload 8, 2) := by decide +kernel
theorem d_Model_byClub_96 : decode prog_12_method_46_code 96 = .ok (.iadd, 1) := by decide +kernel
theorem d_Model_byClub_97 : decode prog_12_method_46_code 97 = .ok (.laload, 1) := by decide +kernel
theorem d_Model_byClub_98 : decode prog_12_method_46_code 98 = .ok (.ladd, 1) := by decide +kernel
theorem d_Model_byClub_99 : decode prog_12_method_46_code 99 = .ok (.ladd, 1) := by decide +kernel
theorem d_Model_byClub_100 : decode prog_12_method_46_code 100 = .ok (.lstore 5, 2) := by decide +kernel
theorem d_Model_byClub_102 : decode prog_12_method_46_code 102 = .ok (.iinc 7 1, 3) := by decide +kernel
theorem d_Model_byClub_105 : decode prog_12_method_46_code 105 = .ok (.goto (-86), 3) := by decide +kernel
theorem d_Model_byClub_108 : decode prog_12_method_46_code 108 = .ok (.lload 5, 2) := by decide +kernel
theorem d_Model_byClub_110 : decode prog_12_method_46_code 110 = .ok (.bipush 105, 2) := by decide +kernel
theorem d_Model_byClub_112 : decode prog_12_method_46_code 112 = .ok (.iconst 2, 1) := by decide +kernel
theorem d_Model_byClub_113 : decode prog_12_method_46_code 113 = .ok (.iload 4, 2) := by decide +kernel
theorem d_Model_byClub_115 : decode prog_12_method_46_code 115 = .ok (.imul, 1) := by decide +kernel
theorem d_Model_byClub_116 : decode prog_12_method_46_code 116 = .ok (.iconst 1, 1) := by decide +kernel
theorem d_Model_byClub_117 : decode prog_12_method_46_code 117 = .ok (.iadd, 1) := by decide +kernel
theorem d_Model_byClub_118 : decode prog_12_method_46_code 118 = .ok (.idiv, 1) := by decide +kernel
theorem d_Model_byClub_119 : decode prog_12_method_46_code 119 = .ok (.i2l, 1) := by decide +kernel
theorem d_Model_byClub_120 : decode prog_12_method_46_code 120 = .ok (.lmul, 1) := by decide +kernel
theorem d_Model_byClub_121 : decode prog_12_method_46_code 121 = .ok (.lreturn, 1) := by decide +kernel
theorem b_Model_byClub_0 {d : Nat} {x1 : Int32} {x2 : Int32} {x3 : Int32} {h : am_H} {Q : am_Q} (q0 : vp_in (37 + x3) 54) (k : am_W (X_Model_byClub d) 19 [some (.ref 0), some (.int x1), some (.int x2), some (.int x3), some (.int (h.1 1 (37 + x3).toNatClampNeg)), some (.long 0), none, some (.int (-(h.1 1 (37 + x3).toNatClampNeg))), none, none] [] h Q) : am_W (X_Model_byClub d) 0 [some (.ref 0), some (.int x1), some (.int x2), some (.int x3), none, none, none, none, none, none] [] h Q :=
  am_aload_n d_Model_byClub_0 rfl (i := 0) rfl <|
    am_getR (ci := 10) (i := 0) rfl rfl rfl (Nat.le_of_ble_eq_true rfl) w_1318 d_Model_byClub_1 <|
    am_bipush (v := 37) d_Model_byClub_4 (by decide) <|
    am_iload_n d_Model_byClub_6 rfl (i := 3) rfl <|
    am_iadd d_Model_byClub_7 <|
    am_iald rfl q0 d_Model_byClub_8 <|
    am_istore (ls' := [some (.ref 0), some (.int x1), some (.int x2), some (.int x3), some (.int (h.1 1 (37 + x3).toNatClampNeg)), none, none, none, none, none]) d_Model_byClub_9 (Nat.le_of_ble_eq_true rfl) rfl <|
    am_lconst (v := 0) d_Model_byClub_11 (by decide) <|
    am_lstore (ls' := [some (.ref 0), some (.int x1), some (.int x2), some (.int x3), some (.int (h.1 1 (37 + x3).toNatClampNeg)), some (.long 0), none, none, none, none]) d_Model_byClub_12 (Nat.le_of_ble_eq_true rfl) rfl <|
    am_iload d_Model_byClub_14 rfl <|
    am_ineg d_Model_byClub_16 <|
    am_istore (ls' := [some (.ref 0), some (.int x1), some (.int x2), some (.int x3), some (.int (h.1 1 (37 + x3).toNatClampNeg)), some (.long 0), none, some (.int (-(h.1 1 (37 + x3).toNatClampNeg))), none, none]) d_Model_byClub_17 (Nat.le_of_ble_eq_true rfl) rfl <|
    k
theorem b_Model_byClub_19 {d : Nat} {x1 : Int32} {x2 : Int32} {x3 : Int32} {x4 : Int32} {x5 : Int64} {x7 : Int32} {h : am_H} {Q : am_Q} (kt : x4 < x7 → am_W (X_Model_byClub d) 108 [some (.ref 0), some (.int x1), some (.int x2), some (.int x3), some (.int x4), some (.long x5), none, some (.int x7), none, none] [] h Q) (kf : ¬ x4 < x7 → am_W (X_Model_byClub d) 26 [some (.ref 0), some (.int x1), some (.int x2), some (.int x3), some (.int x4), some (.long x5), none, some (.int x7), none, none] [] h Q) : am_W (X_Model_byClub d) 19 [some (.ref 0), some (.int x1), some (.int x2), some (.int x3), some (.int x4), some (.long x5), none, some (.int x7), none, none] [] h Q :=
  am_iload d_Model_byClub_19 rfl <|
    am_iload d_Model_byClub_21 rfl <|
    am_icmp_gt (tgt := 108) d_Model_byClub_23 (by decide) kt kf
theorem b_Model_byClub_26 {d : Nat} {x1 : Int32} {x2 : Int32} {x3 : Int32} {x4 : Int32} {x5 : Int64} {x7 : Int32} {h : am_H} {Q : am_Q} (q0 : vp_in (31 + x3) 54) (k : m_Model_downOf d [.ref 0, .int x1, .int (h.1 1 (31 + x3).toNatClampNeg), .int x7] h (fun r hh => am_W (X_Model_byClub (d + 1)) 42 [some (.ref 0), some (.int x1), some (.int x2), some (.int x3), some (.int x4), some (.long x5), none, some (.int x7), none, none] (r.toList ++ []) hh Q)) : am_W (X_Model_byClub (d + 1)) 26 [some (.ref 0), some (.int x1), some (.int x2), some (.int x3), some (.int x4), some (.long x5), none, some (.int x7), none, none] [] h Q :=
  am_aload_n d_Model_byClub_26 rfl (i := 0) rfl <|
    am_iload_n d_Model_byClub_27 rfl (i := 1) rfl <|
    am_aload_n d_Model_byClub_28 rfl (i := 0) rfl <|
    am_getR (ci := 10) (i := 0) rfl rfl rfl (Nat.le_of_ble_eq_true rfl) w_1318 d_Model_byClub_29 <|
    am_bipush (v := 31) d_Model_byClub_32 (by decide) <|
    am_iload_n d_Model_byClub_34 rfl (i := 3) rfl <|
    am_iadd d_Model_byClub_35 <|
    am_iald rfl q0 d_Model_byClub_36 <|
    am_iload d_Model_byClub_37 rfl <|
    am_callV (vs := [.int x1, .int (h.1 1 (31 + x3).toNatClampNeg), .int x7]) (st := []) (k := 0) (ci := 10) rfl d_Model_byClub_39 rfl rfl w_1578 w_1580 w_54 w_94 w_1581 p_Model_downOf (Nat.le_of_ble_eq_true rfl) (Nat.le_of_ble_eq_true rfl) rfl k
theorem b_Model_byClub_42 {d : Nat} {x1 : Int32} {x2 : Int32} {x3 : Int32} {x4 : Int32} {x5 : Int64} {x7 : Int32} {y0 : Int32} {h : am_H} {Q : am_Q} (k : m_Model_isWater d [.ref 0, .int y0] h (fun r hh => am_W (X_Model_byClub (d + 1)) 50 [some (.ref 0), some (.int x1), some (.int x2), some (.int x3), some (.int x4), some (.long x5), none, some (.int x7), some (.int y0), none] (r.toList ++ []) hh Q)) : am_W (X_Model_byClub (d + 1)) 42 [some (.ref 0), some (.int x1), some (.int x2), some (.int x3), some (.int x4), some (.long x5), none, some (.int x7), none, none] [.int y0] h Q :=
  am_istore (ls' := [some (.ref 0), some (.int x1), some (.int x2), some (.int x3), some (.int x4), some (.long x5), none, some (.int x7), some (.int y0), none]) d_Model_byClub_42 (Nat.le_of_ble_eq_true rfl) rfl <|
    am_aload_n d_Model_byClub_44 rfl (i := 0) rfl <|
    am_iload d_Model_byClub_45 rfl <|
    am_callV (vs := [.int y0]) (st := []) (k := 0) (ci := 10) rfl d_Model_byClub_47 rfl rfl w_1586 w_1588 w_56 w_94 w_1589 p_Model_isWater (Nat.le_of_ble_eq_true rfl) (Nat.le_of_ble_eq_true rfl) rfl k
theorem b_Model_byClub_50 {d : Nat} {x1 : Int32} {x2 : Int32} {x3 : Int32} {x4 : Int32} {x5 : Int64} {x7 : Int32} {x8 : Int32} {y0 : Bool} {h : am_H} {Q : am_Q} (kt : (am_b y0) = 0 → am_W (X_Model_byClub d) 65 [some (.ref 0), some (.int x1), some (.int x2), some (.int x3), some (.int x4), some (.long x5), none, some (.int x7), some (.int x8), some (.int (am_b y0))] [.long x5] h Q) (kf : ¬ (am_b y0) = 0 → am_W (X_Model_byClub d) 59 [some (.ref 0), some (.int x1), some (.int x2), some (.int x3), some (.int x4), some (.long x5), none, some (.int x7), some (.int x8), some (.int (am_b y0))] [.long x5] h Q) : am_W (X_Model_byClub d) 50 [some (.ref 0), some (.int x1), some (.int x2), some (.int x3), some (.int x4), some (.long x5), none, some (.int x7), some (.int x8), none] [.int (am_b y0)] h Q :=
  am_istore (ls' := [some (.ref 0), some (.int x1), some (.int x2), some (.int x3), some (.int x4), some (.long x5), none, some (.int x7), some (.int x8), some (.int (am_b y0))]) d_Model_byClub_50 (Nat.le_of_ble_eq_true rfl) rfl <|
    am_lload d_Model_byClub_52 rfl <|
    am_iload d_Model_byClub_54 rfl <|
    am_if_eq (tgt := 65) d_Model_byClub_56 (by decide) kt kf
theorem b_Model_byClub_59 {d : Nat} {x1 : Int32} {x2 : Int32} {x3 : Int32} {x4 : Int32} {x5 : Int64} {x7 : Int32} {x8 : Int32} {x9 : Bool} {y0 : Int64} {h : am_H} {Q : am_Q} (k : am_W (X_Model_byClub d) 66 [some (.ref 0), some (.int x1), some (.int x2), some (.int x3), some (.int x4), some (.long x5), none, some (.int x7), some (.int x8), some (.int (am_b x9))] [.long 2, .long y0] h Q) : am_W (X_Model_byClub d) 59 [some (.ref 0), some (.int x1), some (.int x2), some (.int x3), some (.int x4), some (.long x5), none, some (.int x7), some (.int x8), some (.int (am_b x9))] [.long y0] h Q :=
  am_ldc2 (v := 2) d_Model_byClub_59 w_1616 <|
    am_goto (tgt := 66) d_Model_byClub_62 (by decide) k
theorem b_Model_byClub_65 {d : Nat} {x1 : Int32} {x2 : Int32} {x3 : Int32} {x4 : Int32} {x5 : Int64} {x7 : Int32} {x8 : Int32} {x9 : Bool} {y0 : Int64} {h : am_H} {Q : am_Q} (k : am_W (X_Model_byClub d) 66 [some (.ref 0), some (.int x1), some (.int x2), some (.int x3), some (.int x4), some (.long x5), none, some (.int x7), some (.int x8), some (.int (am_b x9))] [.long 1, .long y0] h Q) : am_W (X_Model_byClub d) 65 [some (.ref 0), some (.int x1), some (.int x2), some (.int x3), some (.int x4), some (.long x5), none, some (.int x7), some (.int x8), some (.int (am_b x9))] [.long y0] h Q :=
  am_lconst (v := 1) d_Model_byClub_65 (by decide) <|
    k
theorem b_Model_byClub_66 {d : Nat} {x1 : Int32} {x2 : Int32} {x3 : Int32} {x4 : Int32} {x5 : Int64} {x7 : Int32} {x8 : Int32} {x9 : Bool} {y1 : Int64} {y0 : Int64} {h : am_H} {Q : am_Q} (q0 : vp_in (x2 - 1) 5) (kt : (am_b x9) = 0 → am_W (X_Model_byClub d) 94 [some (.ref 0), some (.int x1), some (.int x2), some (.int x3), some (.int x4), some (.long x5), none, some (.int x7), some (.int x8), some (.int (am_b x9))] [.int (31 * (x2 - 1)), .ref 8, .long (y1 * (h.2 10 (x2 - 1).toNatClampNeg)), .long y0] h Q) (kf : ¬ (am_b x9) = 0 → am_W (X_Model_byClub d) 90 [some (.ref 0), some (.int x1), some (.int x2), some (.int x3), some (.int x4), some (.long x5), none, some (.int x7), some (.int x8), some (.int (am_b x9))] [.int (31 * (x2 - 1)), .ref 8, .long (y1 * (h.2 10 (x2 - 1).toNatClampNeg)), .long y0] h Q) : am_W (X_Model_byClub d) 66 [some (.ref 0), some (.int x1), some (.int x2), some (.int x3), some (.int x4), some (.long x5), none, some (.int x7), some (.int x8), some (.int (am_b x9))] [.long y1, .long y0] h Q :=
  am_aload_n d_Model_byClub_66 rfl (i := 0) rfl <|
    am_getR (ci := 10) (i := 19) rfl rfl rfl (Nat.le_of_ble_eq_true rfl) w_1337 d_Model_byClub_67 <|
    am_iload_n d_Model_byClub_70 rfl (i := 2) rfl <|
    am_iconst (v := 1) d_Model_byClub_71 (by decide) <|
    am_isub d_Model_byClub_72 <|
    am_lald rfl q0 d_Model_byClub_73 <|
    am_lmul d_Model_byClub_74 <|
    am_aload_n d_Model_byClub_75 rfl (i := 0) rfl <|
    am_getR (ci := 10) (i := 17) rfl rfl rfl (Nat.le_of_ble_eq_true rfl) w_1335 d_Model_byClub_76 <|
    am_bipush (v := 31) d_Model_byClub_79 (by decide) <|
    am_iload_n d_Model_byClub_81 rfl (i := 2) rfl <|
    am_iconst (v := 1) d_Model_byClub_82 (by decide) <|
    am_isub d_Model_byClub_83 <|
    am_imul d_Model_byClub_84 <|
    am_iload d_Model_byClub_85 rfl <|
    am_if_eq (tgt := 94) d_Model_byClub_87 (by decide) kt kf
theorem b_Model_byClub_90 {d : Nat} {x1 : Int32} {x2 : Int32} {x3 : Int32} {x4 : Int32} {x5 : Int64} {x7 : Int32} {x8 : Int32} {x9 : Bool} {y3 : Int32} {y1 : Int64} {y0 : Int64} {h : am_H} {Q : am_Q} (k : am_W (X_Model_byClub d) 96 [some (.ref 0), some (.int x1), some (.int x2), some (.int x3), some (.int x4), some (.long x5), none, some (.int x7), some (.int x8), some (.int (am_b x9))] [.int x1, .int y3, .ref 8, .long y1, .long y0] h Q) : am_W (X_Model_byClub d) 90 [some (.ref 0), some (.int x1), some (.int x2), some (.int x3), some (.int x4), some (.long x5), none, some (.int x7), some (.int x8), some (.int (am_b x9))] [.int y3, .ref 8, .long y1, .long y0] h Q :=
  am_iload_n d_Model_byClub_90 rfl (i := 1) rfl <|
    am_goto (tgt := 96) d_Model_byClub_91 (by decide) k
theorem b_Model_byClub_94 {d : Nat} {x1 : Int32} {x2 : Int32} {x3 : Int32} {x4 : Int32} {x5 : Int64} {x7 : Int32} {x8 : Int32} {x9 : Bool} {y3 : Int32} {y1 : Int64} {y0 : Int64} {h : am_H} {Q : am_Q} (k : am_W (X_Model_byClub d) 96 [some (.ref 0), some (.int x1), some (.int x2), some (.int x3), some (.int x4), some (.long x5), none, some (.int x7), some (.int x8), some (.int (am_b x9))] [.int x8, .int y3, .ref 8, .long y1, .long y0] h Q) : am_W (X_Model_byClub d) 94 [some (.ref 0), some (.int x1), some (.int x2), some (.int x3), some (.int x4), some (.long x5), none, some (.int x7), some (.int x8), some (.int (am_b x9))] [.int y3, .ref 8, .long y1, .long y0] h Q :=
  am_iload d_Model_byClub_94 rfl <|
    k
theorem b_Model_byClub_96 {d : Nat} {x1 : Int32} {x2 : Int32} {x3 : Int32} {x4 : Int32} {x5 : Int64} {x7 : Int32} {x8 : Int32} {x9 : Bool} {y4 : Int32} {y3 : Int32} {y1 : Int64} {y0 : Int64} {h : am_H} {Q : am_Q} (q0 : vp_in (y3 + y4) 155) (k : am_W (X_Model_byClub d) 19 [some (.ref 0), some (.int x1), some (.int x2), some (.int x3), some (.int x4), some (.long (y0 + (y1 + (h.2 8 (y3 + y4).toNatClampNeg)))), none, some (.int (x7 + 1)), some (.int x8), some (.int (am_b x9))] [] h Q) : am_W (X_Model_byClub d) 96 [some (.ref 0), some (.int x1), some (.int x2), some (.int x3), some (.int x4), some (.long x5), none, some (.int x7), some (.int x8), some (.int (am_b x9))] [.int y4, .int y3, .ref 8, .long y1, .long y0] h Q :=
  am_iadd d_Model_byClub_96 <|
    am_lald rfl q0 d_Model_byClub_97 <|
    am_ladd d_Model_byClub_98 <|
    am_ladd d_Model_byClub_99 <|
    am_lstore (ls' := [some (.ref 0), some (.int x1), some (.int x2), some (.int x3), some (.int x4), some (.long (y0 + (y1 + (h.2 8 (y3 + y4).toNatClampNeg)))), none, some (.int x7), some (.int x8), some (.int (am_b x9))]) d_Model_byClub_100 (Nat.le_of_ble_eq_true rfl) rfl <|
    am_iinc (v := (x7 + 1)) (ls' := [some (.ref 0), some (.int x1), some (.int x2), some (.int x3), some (.int x4), some (.long (y0 + (y1 + (h.2 8 (y3 + y4).toNatClampNeg)))), none, some (.int (x7 + 1)), some (.int x8), some (.int (am_b x9))]) d_Model_byClub_102 rfl rfl (Nat.le_of_ble_eq_true rfl) rfl <|
    am_goto (tgt := 19) d_Model_byClub_105 (by decide) k
theorem b_Model_byClub_108 {d : Nat} {x1 : Int32} {x2 : Int32} {x3 : Int32} {x4 : Int32} {x5 : Int64} {x7 : Int32} {h : am_H} {Q : am_Q} (q0 : ¬ ((2 * x4) + 1) = 0) (q : Q (some (.long (x5 * ((105 / ((2 * x4) + 1)).toInt64)))) h) : am_W (X_Model_byClub d) 108 [some (.ref 0), some (.int x1), some (.int x2), some (.int x3), some (.int x4), some (.long x5), none, some (.int x7), none, none] [] h Q :=
  am_lload d_Model_byClub_108 rfl <|
    am_bipush (v := 105) d_Model_byClub_110 (by decide) <|
    am_iconst (v := 2) d_Model_byClub_112 (by decide) <|
    am_iload d_Model_byClub_113 rfl <|
    am_imul d_Model_byClub_115 <|
    am_iconst (v := 1) d_Model_byClub_116 (by decide) <|
    am_iadd d_Model_byClub_117 <|
    am_idiv d_Model_byClub_118 q0 <|
    am_i2l d_Model_byClub_119 <|
    am_lmul d_Model_byClub_120 <|
    am_lret rfl d_Model_byClub_121 q
theorem t_Model_byClub_108 {d : Nat} {x1 : Int32} {x2 : Int32} {x3 : Int32} {x4 : Int32} {x5 : Int64} {x7 : Int32} {h : am_H} {Q : am_Q} {res : Int64} (e : f_Model_byClub_108 h x4 x5 = some res) (q : Q (some (.long res)) h) : am_W (X_Model_byClub (d + 2)) 108 [some (.ref 0), some (.int x1), some (.int x2), some (.int x3), some (.int x4), some (.long x5), none, some (.int x7), none, none] [] h Q :=
  b_Model_byClub_108 (d := (d + 2)) (q0 := (am_gd e)) (q := (am_rJp (v := (x5 * ((105 / ((2 * x4) + 1)).toInt64))) (am_ga e) q))
theorem t_Model_byClub_96 {d : Nat} {k19 : Int32 → Int32 → Int32 → Int32 → Int64 → Int32 → Option (Int64)} {x1 : Int32} {x2 : Int32} {x3 : Int32} {x4 : Int32} {x5 : Int64} {x7 : Int32} {x8 : Int32} {x9 : Bool} {y4 : Int32} {y3 : Int32} {y1 : Int64} {y0 : Int64} {h : am_H} {Q : am_Q} {res : Int64} (hk19 : ∀ (x1 : Int32) (x2 : Int32) (x3 : Int32) (x4 : Int32) (x5 : Int64) (x7 : Int32), k19 x1 x2 x3 x4 x5 x7 = some res → am_W (X_Model_byClub (d + 2)) 19 [some (.ref 0), some (.int x1), some (.int x2), some (.int x3), some (.int x4), some (.long x5), none, some (.int x7), none, none] [] h Q) (e : f_Model_byClub_96 k19 h x1 x2 x3 x4 x7 y4 y3 y1 y0 = some res) (q : Q (some (.long res)) h) : am_W (X_Model_byClub (d + 2)) 96 [some (.ref 0), some (.int x1), some (.int x2), some (.int x3), some (.int x4), some (.long x5), none, some (.int x7), some (.int x8), some (.int (am_b x9))] [.int y4, .int y3, .ref 8, .long y1, .long y0] h Q :=
  b_Model_byClub_96 (d := (d + 2)) (q0 := (am_okv (am_gd e))) (k := (am_wk2 (hk19 _ _ _ _ _ _ (am_ga e)) ⟨rfl, ⟨rfl, ⟨rfl, ⟨rfl, ⟨rfl, ⟨rfl, ⟨rfl, trivial⟩⟩⟩⟩⟩⟩⟩))
theorem t_Model_byClub_94 {d : Nat} {k19 : Int32 → Int32 → Int32 → Int32 → Int64 → Int32 → Option (Int64)} {x1 : Int32} {x2 : Int32} {x3 : Int32} {x4 : Int32} {x5 : Int64} {x7 : Int32} {x8 : Int32} {x9 : Bool} {y3 : Int32} {y1 : Int64} {y0 : Int64} {h : am_H} {Q : am_Q} {res : Int64} (hk19 : ∀ (x1 : Int32) (x2 : Int32) (x3 : Int32) (x4 : Int32) (x5 : Int64) (x7 : Int32), k19 x1 x2 x3 x4 x5 x7 = some res → am_W (X_Model_byClub (d + 2)) 19 [some (.ref 0), some (.int x1), some (.int x2), some (.int x3), some (.int x4), some (.long x5), none, some (.int x7), none, none] [] h Q) (e : f_Model_byClub_94 k19 h x1 x2 x3 x4 x7 x8 y3 y1 y0 = some res) (q : Q (some (.long res)) h) : am_W (X_Model_byClub (d + 2)) 94 [some (.ref 0), some (.int x1), some (.int x2), some (.int x3), some (.int x4), some (.long x5), none, some (.int x7), some (.int x8), some (.int (am_b x9))] [.int y3, .ref 8, .long y1, .long y0] h Q :=
  b_Model_byClub_94 (d := (d + 2)) (k := (t_Model_byClub_96 hk19 e q))
theorem t_Model_byClub_90 {d : Nat} {k19 : Int32 → Int32 → Int32 → Int32 → Int64 → Int32 → Option (Int64)} {x1 : Int32} {x2 : Int32} {x3 : Int32} {x4 : Int32} {x5 : Int64} {x7 : Int32} {x8 : Int32} {x9 : Bool} {y3 : Int32} {y1 : Int64} {y0 : Int64} {h : am_H} {Q : am_Q} {res : Int64} (hk19 : ∀ (x1 : Int32) (x2 : Int32) (x3 : Int32) (x4 : Int32) (x5 : Int64) (x7 : Int32), k19 x1 x2 x3 x4 x5 x7 = some res → am_W (X_Model_byClub (d + 2)) 19 [some (.ref 0), some (.int x1), some (.int x2), some (.int x3), some (.int x4), some (.long x5), none, some (.int x7), none, none] [] h Q) (e : f_Model_byClub_90 k19 h x1 x2 x3 x4 x7 y3 y1 y0 = some res) (q : Q (some (.long res)) h) : am_W (X_Model_byClub (d + 2)) 90 [some (.ref 0), some (.int x1), some (.int x2), some (.int x3), some (.int x4), some (.long x5), none, some (.int x7), some (.int x8), some (.int (am_b x9))] [.int y3, .ref 8, .long y1, .long y0] h Q :=
  b_Model_byClub_90 (d := (d + 2)) (k := (t_Model_byClub_96 hk19 e q))
theorem t_Model_byClub_66 {d : Nat} {k19 : Int32 → Int32 → Int32 → Int32 → Int64 → Int32 → Option (Int64)} {x1 : Int32} {x2 : Int32} {x3 : Int32} {x4 : Int32} {x5 : Int64} {x7 : Int32} {x8 : Int32} {x9 : Bool} {y1 : Int64} {y0 : Int64} {h : am_H} {Q : am_Q} {res : Int64} (hk19 : ∀ (x1 : Int32) (x2 : Int32) (x3 : Int32) (x4 : Int32) (x5 : Int64) (x7 : Int32), k19 x1 x2 x3 x4 x5 x7 = some res → am_W (X_Model_byClub (d + 2)) 19 [some (.ref 0), some (.int x1), some (.int x2), some (.int x3), some (.int x4), some (.long x5), none, some (.int x7), none, none] [] h Q) (e : f_Model_byClub_66 k19 h x1 x2 x3 x4 x7 x8 x9 y1 y0 = some res) (q : Q (some (.long res)) h) : am_W (X_Model_byClub (d + 2)) 66 [some (.ref 0), some (.int x1), some (.int x2), some (.int x3), some (.int x4), some (.long x5), none, some (.int x7), some (.int x8), some (.int (am_b x9))] [.long y1, .long y0] h Q :=
  b_Model_byClub_66 (d := (d + 2)) (q0 := (am_okv (am_gd e))) (kt := fun c => (t_Model_byClub_94 hk19 (am_iff (am_ga e) (am_bz c)) q)) (kf := fun c => (t_Model_byClub_90 hk19 (am_ift (am_ga e) (am_bn c)) q))
theorem t_Model_byClub_65 {d : Nat} {k19 : Int32 → Int32 → Int32 → Int32 → Int64 → Int32 → Option (Int64)} {x1 : Int32} {x2 : Int32} {x3 : Int32} {x4 : Int32} {x5 : Int64} {x7 : Int32} {x8 : Int32} {x9 : Bool} {y0 : Int64} {h : am_H} {Q : am_Q} {res : Int64} (hk19 : ∀ (x1 : Int32) (x2 : Int32) (x3 : Int32) (x4 : Int32) (x5 : Int64) (x7 : Int32), k19 x1 x2 x3 x4 x5 x7 = some res → am_W (X_Model_byClub (d + 2)) 19 [some (.ref 0), some (.int x1), some (.int x2), some (.int x3), some (.int x4), some (.long x5), none, some (.int x7), none, none] [] h Q) (e : f_Model_byClub_65 k19 h x1 x2 x3 x4 x7 x8 x9 y0 = some res) (q : Q (some (.long res)) h) : am_W (X_Model_byClub (d + 2)) 65 [some (.ref 0), some (.int x1), some (.int x2), some (.int x3), some (.int x4), some (.long x5), none, some (.int x7), some (.int x8), some (.int (am_b x9))] [.long y0] h Q :=
  b_Model_byClub_65 (d := (d + 2)) (k := (t_Model_byClub_66 hk19 e q))
theorem t_Model_byClub_59 {d : Nat} {k19 : Int32 → Int32 → Int32 → Int32 → Int64 → Int32 → Option (Int64)} {x1 : Int32} {x2 : Int32} {x3 : Int32} {x4 : Int32} {x5 : Int64} {x7 : Int32} {x8 : Int32} {x9 : Bool} {y0 : Int64} {h : am_H} {Q : am_Q} {res : Int64} (hk19 : ∀ (x1 : Int32) (x2 : Int32) (x3 : Int32) (x4 : Int32) (x5 : Int64) (x7 : Int32), k19 x1 x2 x3 x4 x5 x7 = some res → am_W (X_Model_byClub (d + 2)) 19 [some (.ref 0), some (.int x1), some (.int x2), some (.int x3), some (.int x4), some (.long x5), none, some (.int x7), none, none] [] h Q) (e : f_Model_byClub_59 k19 h x1 x2 x3 x4 x7 x8 x9 y0 = some res) (q : Q (some (.long res)) h) : am_W (X_Model_byClub (d + 2)) 59 [some (.ref 0), some (.int x1), some (.int x2), some (.int x3), some (.int x4), some (.long x5), none, some (.int x7), some (.int x8), some (.int (am_b x9))] [.long y0] h Q :=
  b_Model_byClub_59 (d := (d + 2)) (k := (t_Model_byClub_66 hk19 e q))
theorem t_Model_byClub_50 {d : Nat} {k19 : Int32 → Int32 → Int32 → Int32 → Int64 → Int32 → Option (Int64)} {x1 : Int32} {x2 : Int32} {x3 : Int32} {x4 : Int32} {x5 : Int64} {x7 : Int32} {x8 : Int32} {y0 : Bool} {h : am_H} {Q : am_Q} {res : Int64} (hk19 : ∀ (x1 : Int32) (x2 : Int32) (x3 : Int32) (x4 : Int32) (x5 : Int64) (x7 : Int32), k19 x1 x2 x3 x4 x5 x7 = some res → am_W (X_Model_byClub (d + 2)) 19 [some (.ref 0), some (.int x1), some (.int x2), some (.int x3), some (.int x4), some (.long x5), none, some (.int x7), none, none] [] h Q) (e : f_Model_byClub_50 k19 h x1 x2 x3 x4 x5 x7 x8 y0 = some res) (q : Q (some (.long res)) h) : am_W (X_Model_byClub (d + 2)) 50 [some (.ref 0), some (.int x1), some (.int x2), some (.int x3), some (.int x4), some (.long x5), none, some (.int x7), some (.int x8), none] [.int (am_b y0)] h Q :=
  b_Model_byClub_50 (d := (d + 2)) (kt := fun c => (t_Model_byClub_65 hk19 (am_iff e (am_bz c)) q)) (kf := fun c => (t_Model_byClub_59 hk19 (am_ift e (am_bn c)) q))
theorem t_Model_byClub_42 {d : Nat} {k19 : Int32 → Int32 → Int32 → Int32 → Int64 → Int32 → Option (Int64)} {x1 : Int32} {x2 : Int32} {x3 : Int32} {x4 : Int32} {x5 : Int64} {x7 : Int32} {y0 : Int32} {h : am_H} {Q : am_Q} {res : Int64} (hk19 : ∀ (x1 : Int32) (x2 : Int32) (x3 : Int32) (x4 : Int32) (x5 : Int64) (x7 : Int32), k19 x1 x2 x3 x4 x5 x7 = some res → am_W (X_Model_byClub (d + 2)) 19 [some (.ref 0), some (.int x1), some (.int x2), some (.int x3), some (.int x4), some (.long x5), none, some (.int x7), none, none] [] h Q) (e : f_Model_byClub_42 k19 h x1 x2 x3 x4 x5 x7 y0 = some res) (q : Q (some (.long res)) h) : am_W (X_Model_byClub (d + 2)) 42 [some (.ref 0), some (.int x1), some (.int x2), some (.int x3), some (.int x4), some (.long x5), none, some (.int x7), none, none] [.int y0] h Q :=
  (am_bd e).elim fun p hp => b_Model_byClub_42 (d := (d + 1)) (k := c_Model_isWater (d := d) hp.1 (t_Model_byClub_50 hk19 hp.2 q))
theorem t_Model_byClub_26 {d : Nat} {k19 : Int32 → Int32 → Int32 → Int32 → Int64 → Int32 → Option (Int64)} {x1 : Int32} {x2 : Int32} {x3 : Int32} {x4 : Int32} {x5 : Int64} {x7 : Int32} {h : am_H} {Q : am_Q} {res : Int64} (hk19 : ∀ (x1 : Int32) (x2 : Int32) (x3 : Int32) (x4 : Int32) (x5 : Int64) (x7 : Int32), k19 x1 x2 x3 x4 x5 x7 = some res → am_W (X_Model_byClub (d + 2)) 19 [some (.ref 0), some (.int x1), some (.int x2), some (.int x3), some (.int x4), some (.long x5), none, some (.int x7), none, none] [] h Q) (e : f_Model_byClub_26 k19 h x1 x2 x3 x4 x5 x7 = some res) (q : Q (some (.long res)) h) : am_W (X_Model_byClub (d + 2)) 26 [some (.ref 0), some (.int x1), some (.int x2), some (.int x3), some (.int x4), some (.long x5), none, some (.int x7), none, none] [] h Q :=
  (am_bd (am_ga e)).elim fun p hp => b_Model_byClub_26 (d := (d + 1)) (q0 := (am_okv (am_gd e))) (k := c_Model_downOf (d := d) hp.1 (t_Model_byClub_42 hk19 hp.2 q))
theorem t_Model_byClub_19 {d : Nat} {k19 : Int32 → Int32 → Int32 → Int32 → Int64 → Int32 → Option (Int64)} {x1 : Int32} {x2 : Int32} {x3 : Int32} {x4 : Int32} {x5 : Int64} {x7 : Int32} {h : am_H} {Q : am_Q} {res : Int64} (hk19 : ∀ (x1 : Int32) (x2 : Int32) (x3 : Int32) (x4 : Int32) (x5 : Int64) (x7 : Int32), k19 x1 x2 x3 x4 x5 x7 = some res → am_W (X_Model_byClub (d + 2)) 19 [some (.ref 0), some (.int x1), some (.int x2), some (.int x3), some (.int x4), some (.long x5), none, some (.int x7), none, none] [] h Q) (e : f_Model_byClub_19 k19 h x1 x2 x3 x4 x5 x7 = some res) (q : Q (some (.long res)) h) : am_W (X_Model_byClub (d + 2)) 19 [some (.ref 0), some (.int x1), some (.int x2), some (.int x3), some (.int x4), some (.long x5), none, some (.int x7), none, none] [] h Q :=
  b_Model_byClub_19 (d := (d + 2)) (kt := fun c => (t_Model_byClub_108 (am_ift e c) q)) (kf := fun c => (t_Model_byClub_26 hk19 (am_ife e c) q))
theorem t_Model_byClub_19_l {d : Nat} {h : am_H} {Q : am_Q} {res : Int64} (q : Q (some (.long res)) h) : ∀ (n : Nat) (x1 : Int32) (x2 : Int32) (x3 : Int32) (x4 : Int32) (x5 : Int64) (x7 : Int32), f_Model_byClub_19_l h n x1 x2 x3 x4 x5 x7 = some res → am_W (X_Model_byClub (d + 2)) 19 [some (.ref 0), some (.int x1), some (.int x2), some (.int x3), some (.int x4), some (.long x5), none, some (.int x7), none, none] [] h Q := by
  intro n
  induction n with
  | zero => intro x1 x2 x3 x4 x5 x7 e; exact am_nn e
  | succ n ih => intro x1 x2 x3 x4 x5 x7 e; exact t_Model_byClub_19 (fun x1 x2 x3 x4 x5 x7 e => ih x1 x2 x3 x4 x5 x7  e) e q
theorem t_Model_byClub_0 {d : Nat} {x1 : Int32} {x2 : Int32} {x3 : Int32} {h : am_H} {Q : am_Q} {res : Int64} (e : f_Model_byClub h x1 x2 x3 = some res) (q : Q (some (.long res)) h) : am_W (X_Model_byClub (d + 2)) 0 [some (.ref 0), some (.int x1), some (.int x2), some (.int x3), none, none, none, none, none, none] [] h Q :=
  b_Model_byClub_0 (d := (d + 2)) (q0 := (am_okv (am_gd e))) (k := (t_Model_byClub_19_l q am_fu _ _ _ _ _ _ (am_ga e)))
theorem c_Model_byClub {d : Nat} {x1 : Int32} {x2 : Int32} {x3 : Int32} {h : am_H} {Q : am_Q} {res : Int64} (e : f_Model_byClub h x1 x2 x3 = some res) (q : Q (some (.long res)) h) : m_Model_byClub (d + 2) [.ref 0, .int x1, .int x2, .int x3] h Q :=
  e_Model_byClub (t_Model_byClub_0 e q)
theorem d_Model_onGreen_0 : decode prog_12_method_47_code 0 = .ok (.aload_n 0, 1) := by decide +kernel
theorem d_Model_onGreen_1 : decode prog_12_method_47_code 1 = .ok (.getfield 40, 3) := by decide +kernel
theorem d_Model_onGreen_4 : decode prog_12_method_47_code 4 = .ok (.iload_n 2, 1) := by decide +kernel
theorem d_Model_onGreen_5 : decode prog_12_method_47_code 5 = .ok (.laload, 1) := by decide +kernel
theorem d_Model_onGreen_6 : decode prog_12_method_47_code 6 = .ok (.ldc2_w 125, 3) := by decide +kernel
theorem d_Model_onGreen_9 : decode prog_12_method_47_code 9 = .ok (.ldiv, 1) := by decide +kernel
theorem d_Model_onGreen_10 : decode prog_12_method_47_code 10 = .ok (.iload_n 1, 1) := by decide +kernel
theorem d_Model_onGreen_11 : decode prog_12_method_47_code 11 = .ok (.aload_n 0, 1) := by decide +kernel
theorem d_Model_onGreen_12 : decode prog_12_method_47_code 12 = .ok (.getfield 11, 3) := by decide +kernel
theorem d_Model_onGreen_15 : decode prog_12_method_47_code 15 = .ok (.bipush 49, 2) := by decide +kernel
theorem d_Model_onGreen_17 : decode prog_12_method_47_code 17 = .ok (.iaload, 1) := by decide +kernel
theorem d_Model_onGreen_18 : decode prog_12_method_47_code 18 = .ok (.if_icmp .ne 8, 3) := by decide +kernel
theorem d_Model_onGreen_21 : decode prog_12_method_47_code 21 = .ok (.bipush 12, 2) := by decide +kernel
theorem d_Model_onGreen_23 : decode prog_12_method_47_code 23 = .ok (.goto 13, 3) := by decide +kernel
theorem d_Model_onGreen_26 : decode prog_12_method_47_code 26 = .ok (.bipush 24, 2) := by decide +kernel
theorem d_Model_onGreen_28 : decode prog_12_method_47_code 28 = .ok (.aload_n 0, 1) := by decide +kernel
theorem d_Model_onGreen_29 : decode prog_12_method_47_code 29 = .ok (.getfield 11, 3) := by decide +kernel
theorem d_Model_onGreen_32 : decode prog_12_method_47_code 32 = .ok (.bipush 51, 2) := by decide +kernel
theorem d_Model_onGreen_34 : decode prog_12_method_47_code 34 = .ok (.iaload, 1) := by decide +kernel
theorem d_Model_onGreen_35 : decode prog_12_method_47_code 35 = .ok (.isub, 1) := by decide +kernel
theorem d_Model_onGreen_36 : decode prog_12_method_47_code 36 = .ok (.i2l, 1) := by decide +kernel
theorem d_Model_onGreen_37 : decode prog_12_method_47_code 37 = .ok (.lmul, 1) := by decide +kernel
theorem d_Model_onGreen_38 : decode prog_12_method_47_code 38 = .ok (.lreturn, 1) := by decide +kernel
theorem b_Model_onGreen_0 {d : Nat} {x1 : Int32} {x2 : Int32} {h : am_H} {Q : am_Q} (q0 : vp_in x2 5) (kt : ¬ x1 = (h.1 1 (49 : Int32).toNatClampNeg) → am_W (X_Model_onGreen d) 26 [some (.ref 0), some (.int x1), some (.int x2)] [.long ((h.2 10 x2.toNatClampNeg) / 12)] h Q) (kf : x1 = (h.1 1 (49 : Int32).toNatClampNeg) → am_W (X_Model_onGreen d) 21 [some (.ref 0), some (.int x1), some (.int x2)] [.long ((h.2 10 x2.toNatClampNeg) / 12)] h Q) : am_W (X_Model_onGreen d) 0 [some (.ref 0), some (.int x1), some (.int x2)] [] h Q :=
  am_aload_n d_Model_onGreen_0 rfl (i := 0) rfl <|
    am_getR (ci := 10) (i := 19) rfl rfl rfl (Nat.le_of_ble_eq_true rfl) w_1337 d_Model_onGreen_1 <|
    am_iload_n d_Model_onGreen_4 rfl (i := 2) rfl <|
    am_lald rfl q0 d_Model_onGreen_5 <|
    am_ldc2 (v := 12) d_Model_onGreen_6 w_1484 <|
    am_ldiv d_Model_onGreen_9 (by decide) <|
    am_iload_n d_Model_onGreen_10 rfl (i := 1) rfl <|
    am_aload_n d_Model_onGreen_11 rfl (i := 0) rfl <|
    am_getR (ci := 10) (i := 0) rfl rfl rfl (Nat.le_of_ble_eq_true rfl) w_1318 d_Model_onGreen_12 <|
    am_bipush (v := 49) d_Model_onGreen_15 (by decide) <|
    am_iald rfl (am_vin (by decide)) d_Model_onGreen_17 <|
    am_icmp_ne (tgt := 26) d_Model_onGreen_18 (by decide) kt kf
theorem b_Model_onGreen_21 {d : Nat} {x1 : Int32} {x2 : Int32} {y0 : Int64} {h : am_H} {Q : am_Q} (k : am_W (X_Model_onGreen d) 36 [some (.ref 0), some (.int x1), some (.int x2)] [.int 12, .long y0] h Q) : am_W (X_Model_onGreen d) 21 [some (.ref 0), some (.int x1), some (.int x2)] [.long y0] h Q :=
  am_bipush (v := 12) d_Model_onGreen_21 (by decide) <|
    am_goto (tgt := 36) d_Model_onGreen_23 (by decide) k
theorem b_Model_onGreen_26 {d : Nat} {x1 : Int32} {x2 : Int32} {y0 : Int64} {h : am_H} {Q : am_Q} (k : am_W (X_Model_onGreen d) 36 [some (.ref 0), some (.int x1), some (.int x2)] [.int (24 - (h.1 1 (51 : Int32).toNatClampNeg)), .long y0] h Q) : am_W (X_Model_onGreen d) 26 [some (.ref 0), some (.int x1), some (.int x2)] [.long y0] h Q :=
  am_bipush (v := 24) d_Model_onGreen_26 (by decide) <|
    am_aload_n d_Model_onGreen_28 rfl (i := 0) rfl <|
    am_getR (ci := 10) (i := 0) rfl rfl rfl (Nat.le_of_ble_eq_true rfl) w_1318 d_Model_onGreen_29 <|
    am_bipush (v := 51) d_Model_onGreen_32 (by decide) <|
    am_iald rfl (am_vin (by decide)) d_Model_onGreen_34 <|
    am_isub d_Model_onGreen_35 <|
    k
theorem b_Model_onGreen_36 {d : Nat} {x1 : Int32} {x2 : Int32} {y1 : Int32} {y0 : Int64} {h : am_H} {Q : am_Q} (q : Q (some (.long (y0 * y1.toInt64))) h) : am_W (X_Model_onGreen d) 36 [some (.ref 0), some (.int x1), some (.int x2)] [.int y1, .long y0] h Q :=
  am_i2l d_Model_onGreen_36 <|
    am_lmul d_Model_onGreen_37 <|
    am_lret rfl d_Model_onGreen_38 q
theorem t_Model_onGreen_36 {d : Nat} {x1 : Int32} {x2 : Int32} {y1 : Int32} {y0 : Int64} {h : am_H} {Q : am_Q} {res : Int64} (e : f_Model_onGreen_36 h y1 y0 = some res) (q : Q (some (.long res)) h) : am_W (X_Model_onGreen d) 36 [some (.ref 0), some (.int x1), some (.int x2)] [.int y1, .long y0] h Q :=
  b_Model_onGreen_36 (d := d) (q := (am_rJp (v := (y0 * y1.toInt64)) e q))
theorem t_Model_onGreen_26 {d : Nat} {x1 : Int32} {x2 : Int32} {y0 : Int64} {h : am_H} {Q : am_Q} {res : Int64} (e : f_Model_onGreen_26 h y0 = some res) (q : Q (some (.long res)) h) : am_W (X_Model_onGreen d) 26 [some (.ref 0), some (.int x1), some (.int x2)] [.long y0] h Q :=
  b_Model_onGreen_26 (d := d) (k := (t_Model_onGreen_36 e q))
theorem t_Model_onGreen_21 {d : Nat} {x1 : Int32} {x2 : Int32} {y0 : Int64} {h : am_H} {Q : am_Q} {res : Int64} (e : f_Model_onGreen_21 h y0 = some res) (q : Q (some (.long res)) h) : am_W (X_Model_onGreen d) 21 [some (.ref 0), some (.int x1), some (.int x2)] [.long y0] h Q :=
  b_Model_onGreen_21 (d := d) (k := (t_Model_onGreen_36 e q))
theorem t_Model_onGreen_0 {d : Nat} {x1 : Int32} {x2 : Int32} {h : am_H} {Q : am_Q} {res : Int64} (e : f_Model_onGreen h x1 x2 = some res) (q : Q (some (.long res)) h) : am_W (X_Model_onGreen d) 0 [some (.ref 0), some (.int x1), some (.int x2)] [] h Q :=
  b_Model_onGreen_0 (d := d) (q0 := (am_okv (am_gd e))) (kt := fun c => (t_Model_onGreen_26 (am_ife (am_ga e) c) q)) (kf := fun c => (t_Model_onGreen_21 (am_ift (am_ga e) c) q))
theorem c_Model_onGreen {d : Nat} {x1 : Int32} {x2 : Int32} {h : am_H} {Q : am_Q} {res : Int64} (e : f_Model_onGreen h x1 x2 = some res) (q : Q (some (.long res)) h) : m_Model_onGreen d [.ref 0, .int x1, .int x2] h Q :=
  e_Model_onGreen (t_Model_onGreen_0 e q)
theorem d_Model_fills_0 : decode prog_12_method_48_code 0 = .ok (.aload_n 0, 1) := by decide +kernel
theorem d_Model_fills_1 : decode prog_12_method_48_code 1 = .ok (.getfield 40, 3) := by decide +kernel
theorem d_Model_fills_4 : decode prog_12_method_48_code 4 = .ok (.iconst 0, 1) := by decide +kernel
theorem d_Model_fills_5 : decode prog_12_method_48_code 5 = .ok (.ldc2_w 125, 3) := by decide +kernel
theorem d_Model_fills_8 : decode prog_12_method_48_code 8 = .ok (.lastore, 1) := by decide +kernel
theorem d_Model_fills_9 : decode prog_12_method_48_code 9 = .ok (.iconst 1, 1) := by decide +kernel
theorem d_Model_fills_10 : decode prog_12_method_48_code 10 = .ok (.istore_n 2, 1) := by decide +kernel
theorem d_Model_fills_11 : decode prog_12_method_48_code 11 = .ok (.iload_n 2, 1) := by decide +kernel
theorem d_Model_fills_12 : decode prog_12_method_48_code 12 = .ok (.iconst 4, 1) := by decide +kernel
theorem d_Model_fills_13 : decode prog_12_method_48_code 13 = .ok (.if_icmp .gt 27, 3) := by decide +kernel
theorem d_Model_fills_16 : decode prog_12_method_48_code 16 = .ok (.aload_n 0, 1) := by decide +kernel
theorem d_Model_fills_17 : decode prog_12_method_48_code 17 = .ok (.getfield 40, 3) := by decide +kernel
theorem d_Model_fills_20 : decode prog_12_method_48_code 20 = .ok (.iload_n 2, 1) := by decide +kernel
theorem d_Model_fills_21 : decode prog_12_method_48_code 21 = .ok (.aload_n 0, 1) := by decide +kernel
theorem d_Model_fills_22 : decode prog_12_method_48_code 22 = .ok (.getfield 40, 3) := by decide +kernel
theorem d_Model_fills_25 : decode prog_12_method_48_code 25 = .ok (.iload_n 2, 1) := by decide +kernel
theorem d_Model_fills_26 : decode prog_12_method_48_code 26 = .ok (.iconst 1, 1) := by decide +kernel
theorem d_Model_fills_27 : decode prog_12_method_48_code 27 = .ok (.isub, 1) := by decide +kernel
theorem d_Model_fills_28 : decode prog_12_method_48_code 28 = .ok (.laload, 1) := by decide +kernel
theorem d_Model_fills_29 : decode prog_12_method_48_code 29 = .ok (.ldc2_w 241, 3) := by decide +kernel
theorem d_Model_fills_32 : decode prog_12_method_48_code 32 = .ok (.lmul, 1) := by decide +kernel
theorem d_Model_fills_33 : decode prog_12_method_48_code 33 = .ok (.lastore, 1) := by decide +kernel
theorem d_Model_fills_34 : decode prog_12_method_48_code 34 = .ok (.iinc 2 1, 3) := by decide +kernel
theorem d_Model_fills_37 : decode prog_12_method_48_code 37 = .ok (.goto (-26), 3) := by decide +kernel
theorem d_Model_fills_40 : decode prog_12_method_48_code 40 = .ok (.iconst 0, 1) := by decide +kernel
theorem d_Model_fills_41 : decode prog_12_method_48_code 41 = .ok (.istore_n 2, 1) := by decide +kernel
theorem d_Model_fills_42 : decode prog_12_method_48_code 42 = .ok (.iload_n 2, 1) := by decide +kernel
theorem d_Model_fills_43 : decode prog_12_method_48_code 43 = .ok (.iconst 4, 1) := by decide +kernel
theorem d_Model_fills_44 : decode prog_12_method_48_code 44 = .ok (.if_icmp .gt 256, 3) := by decide +kernel
theorem d_Model_fills_47 : decode prog_12_method_48_code 47 = .ok (.iconst 0, 1) := by decide +kernel
theorem d_Model_fills_48 : decode prog_12_method_48_code 48 = .ok (.istore_n 3, 1) := by decide +kernel
theorem d_Model_fills_49 : decode prog_12_method_48_code 49 = .ok (.iload_n 3, 1) := by decide +kernel
theorem d_Model_fills_50 : decode prog_12_method_48_code 50 = .ok (.bipush 31, 2) := by decide +kernel
theorem d_Model_fills_52 : decode prog_12_method_48_code 52 = .ok (.if_icmp .ge 242, 3) := by decide +kernel
theorem d_Model_fills_55 : decode prog_12_method_48_code 55 = .ok (.bipush 31, 2) := by decide +kernel
theorem d_Model_fills_57 : decode prog_12_method_48_code 57 = .ok (.iload_n 2, 1) := by decide +kernel
theorem d_Model_fills_58 : decode prog_12_method_48_code 58 = .ok (.imul, 1) := by decide +kernel
theorem d_Model_fills_59 : decode prog_12_method_48_code 59 = .ok (.iload_n 3, 1) := by decide +kernel
theorem d_Model_fills_60 : decode prog_12_method_48_code 60 = .ok (.iadd, 1) := by decide +kernel
theorem d_Model_fills_61 : decode prog_12_method_48_code 61 = .ok (.istore 4, 2) := by decide +kernel
theorem d_Model_fills_63 : decode prog_12_method_48_code 63 = .ok (.aload_n 0, 1) := by decide +kernel
theorem d_Model_fills_64 : decode prog_12_method_48_code 64 = .ok (.getfield 37, 3) := by decide +kernel
theorem d_Model_fills_67 : decode prog_12_method_48_code 67 = .ok (.iload 4, 2) := by decide +kernel
theorem d_Model_fills_69 : decode prog_12_method_48_code 69 = .ok (.bipush (-2), 2) := by decide +kernel
theorem d_Model_fills_71 : decode prog_12_method_48_code 71 = .ok (.iastore, 1) := by decide +kernel
theorem d_Model_fills_72 : decode prog_12_method_48_code 72 = .ok (.aload_n 0, 1) := by decide +kernel
theorem d_Model_fills_73 : decode prog_12_method_48_code 73 = .ok (.iload_n 3, 1) := by decide +kernel
theorem d_Model_fills_74 : decode prog_12_method_48_code 74 = .ok (.invokevirtual 89, 3) := by decide +kernel
theorem d_Model_fills_77 : decode prog_12_method_48_code 77 = .ok (.ifCond .eq 19, 3) := by decide +kernel
theorem d_Model_fills_80 : decode prog_12_method_48_code 80 = .ok (.aload_n 0, 1) := by decide +kernel
theorem d_Model_fills_81 : decode prog_12_method_48_code 81 = .ok (.getfield 33, 3) := by decide +kernel
theorem d_Model_fills_84 : decode prog_12_method_48_code 84 = .ok (.iload 4, 2) := by decide +kernel
theorem d_Model_fills_86 : decode prog_12_method_48_code 86 = .ok (.aload_n 0, 1) := by decide +kernel
theorem d_Model_fills_87 : decode prog_12_method_48_code 87 = .ok (.iload_n 3, 1) := by decide +kernel
theorem d_Model_fills_88 : decode prog_12_method_48_code 88 = .ok (.iload_n 2, 1) := by decide +kernel
theorem d_Model_fills_89 : decode prog_12_method_48_code 89 = .ok (.invokevirtual 243, 3) := by decide +kernel
theorem d_Model_fills_92 : decode prog_12_method_48_code 92 = .ok (.lastore, 1) := by decide +kernel
theorem d_Model_fills_93 : decode prog_12_method_48_code 93 = .ok (.goto 195, 3) := by decide +kernel
theorem d_Model_fills_96 : decode prog_12_method_48_code 96 = .ok (.iload_n 2, 1) := by decide +kernel
theorem d_Model_fills_97 : decode prog_12_method_48_code 97 = .ok (.ifCond .eq 10, 3) := by decide +kernel
theorem d_Model_fills_100 : decode prog_12_method_48_code 100 = .ok (.aload_n 0, 1) := by decide +kernel
theorem d_Model_fills_101 : decode prog_12_method_48_code 101 = .ok (.getfield 80, 3) := by decide +kernel
theorem d_Model_fills_104 : decode prog_12_method_48_code 104 = .ok (.ifCond .ne 37, 3) := by decide +kernel
theorem d_Model_fills_107 : decode prog_12_method_48_code 107 = .ok (.aload_n 0, 1) := by decide +kernel
theorem d_Model_fills_108 : decode prog_12_method_48_code 108 = .ok (.getfield 33, 3) := by decide +kernel
theorem d_Model_fills_111 : decode prog_12_method_48_code 111 = .ok (.iload 4, 2) := by decide +kernel
theorem d_Model_fills_113 : decode prog_12_method_48_code 113 = .ok (.iconst 2, 1) := by decide +kernel
theorem d_Model_fills_114 : decode prog_12_method_48_code 114 = .ok (.aload_n 0, 1) := by decide +kernel
theorem d_Model_fills_115 : decode prog_12_method_48_code 115 = .ok (.getfield 11, 3) := by decide +kernel
theorem d_Model_fills_118 : decode prog_12_method_48_code 118 = .ok (.bipush 49, 2) := by decide +kernel
theorem d_Model_fills_120 : decode prog_12_method_48_code 120 = .ok (.iaload, 1) := by decide +kernel
theorem d_Model_fills_121 : decode prog_12_method_48_code 121 = .ok (.iload_n 3, 1) := by decide +kernel
theorem d_Model_fills_122 : decode prog_12_method_48_code 122 = .ok (.isub, 1) := by decide +kernel
theorem d_Model_fills_123 : decode prog_12_method_48_code 123 = .ok (.invokestatic 197, 3) := by decide +kernel
theorem d_Model_fills_126 : decode prog_12_method_48_code 126 = .ok (.iconst 5, 1) := by decide +kernel
theorem d_Model_fills_127 : decode prog_12_method_48_code 127 = .ok (.idiv, 1) := by decide +kernel
theorem d_Model_fills_128 : decode prog_12_method_48_code 128 = .ok (.iadd, 1) := by decide +kernel
theorem d_Model_fills_129 : decode prog_12_method_48_code 129 = .ok (.i2l, 1) := by decide +kernel
theorem d_Model_fills_130 : decode prog_12_method_48_code 130 = .ok (.aload_n 0, 1) := by decide +kernel
theorem d_Model_fills_131 : decode prog_12_method_48_code 131 = .ok (.getfield 40, 3) := by decide +kernel
theorem d_Model_fills_134 : decode prog_12_method_48_code 134 = .ok (.iload_n 2, 1) := by decide +kernel
theorem d_Model_fills_135 : decode prog_12_method_48_code 135 = .ok (.laload, 1) := by decide +kernel
theorem d_Model_fills_136 : decode prog_12_method_48_code 136 = .ok (.lmul, 1) := by decide +kernel
theorem d_Model_fills_137 : decode prog_12_method_48_code 137 = .ok (.lastore, 1) := by decide +kernel
theorem d_Model_fills_138 : decode prog_12_method_48_code 138 = .ok (.goto 150, 3) := by decide +kernel
theorem d_Model_fills_141 : decode prog_12_method_48_code 141 = .ok (.iload_n 1, 1) := by decide +kernel
theorem d_Model_fills_142 : decode prog_12_method_48_code 142 = .ok (.iconst 1, 1) := by decide +kernel
theorem d_Model_fills_143 : decode prog_12_method_48_code 143 = .ok (.if_icmp .ne 39, 3) := by decide +kernel
theorem d_Model_fills_146 : decode prog_12_method_48_code 146 = .ok (.aload_n 0, 1) := by decide +kernel
theorem d_Model_fills_147 : decode prog_12_method_48_code 147 = .ok (.getfield 37, 3) := by decide +kernel
theorem d_Model_fills_150 : decode prog_12_method_48_code 150 = .ok (.iload 4, 2) := by decide +kernel
theorem d_Model_fills_152 : decode prog_12_method_48_code 152 = .ok (.aload_n 0, 1) := by decide +kernel
theorem d_Model_fills_153 : decode prog_12_method_48_code 153 = .ok (.iload_n 3, 1) := by decide +kernel
theorem d_Model_fills_154 : decode prog_12_method_48_code 154 = .ok (.iconst 0, 1) := by decide +kernel
theorem d_Model_fills_155 : decode prog_12_method_48_code 155 = .ok (.invokevirtual 204, 3) := by decide +kernel
theorem d_Model_fills_158 : decode prog_12_method_48_code 158 = .ok (.iastore, 1) := by decide +kernel
theorem d_Model_fills_159 : decode prog_12_method_48_code 159 = .ok (.aload_n 0, 1) := by decide +kernel
theorem d_Model_fills_160 : decode prog_12_method_48_code 160 = .ok (.getfield 33, 3) := by decide +kernel
theorem d_Model_fills_163 : decode prog_12_method_48_code 163 = .ok (.iload 4, 2) := by decide +kernel
theorem d_Model_fills_165 : decode prog_12_method_48_code 165 = .ok (.aload_n 0, 1) := by decide +kernel
theorem d_Model_fills_166 : decode prog_12_method_48_code 166 = .ok (.iload_n 3, 1) := by decide +kernel
theorem d_Model_fills_167 : decode prog_12_method_48_code 167 = .ok (.iload_n 2, 1) := by decide +kernel
theorem d_Model_fills_168 : decode prog_12_method_48_code 168 = .ok (.aload_n 0, 1) := by decide +kernel
theorem d_Model_fills_169 : decode prog_12_method_48_code 169 = .ok (.getfield 37, 3) := by decide +kernel
theorem d_Model_fills_172 : decode prog_12_method_48_code 172 = .ok (.iload 4, 2) := by decide +kernel
theorem d_Model_fills_174 : decode prog_12_method_48_code 174 = .ok (.iaload, 1) := by decide +kernel
theorem d_Model_fills_175 : decode prog_12_method_48_code 175 = .ok (.invokevirtual 247, 3) := by decide +kernel
theorem d_Model_fills_178 : decode prog_12_method_48_code 178 = .ok (.lastore, 1) := by decide +kernel
theorem d_Model_fills_179 : decode prog_12_method_48_code 179 = .ok (.goto 109, 3) := by decide +kernel
theorem d_Model_fills_182 : decode prog_12_method_48_code 182 = .ok (.iconst 0, 1) := by decide +kernel
theorem d_Model_fills_183 : decode prog_12_method_48_code 183 = .ok (.istore 5, 2) := by decide +kernel
theorem d_Model_fills_185 : decode prog_12_method_48_code 185 = .ok (.iload 5, 2) := by decide +kernel
theorem d_Model_fills_187 : decode prog_12_method_48_code 187 = .ok (.aload_n 0, 1) := by decide +kernel
theorem d_Model_fills_188 : decode prog_12_method_48_code 188 = .ok (.getfield 80, 3) := by decide +kernel
theorem d_Model_fills_191 : decode prog_12_method_48_code 191 = .ok (.if_icmp .ge 97, 3) := by decide +kernel
theorem d_Model_fills_194 : decode prog_12_method_48_code 194 = .ok (.aload_n 0, 1) := by decide +kernel
theorem d_Model_fills_195 : decode prog_12_method_48_code 195 = .ok (.iload_n 3, 1) := by decide +kernel
theorem d_Model_fills_196 : decode prog_12_method_48_code 196 = .ok (.iload_n 2, 1) := by decide +kernel
theorem d_Model_fills_197 : decode prog_12_method_48_code 197 = .ok (.iload 5, 2) := by decide +kernel
theorem d_Model_fills_199 : decode prog_12_method_48_code 199 = .ok (.invokevirtual 247, 3) := by decide +kernel
theorem d_Model_fills_202 : decode prog_12_method_48_code 202 = .ok (.lstore 6, 2) := by decide +kernel
theorem d_Model_fills_204 : decode prog_12_method_48_code 204 = .ok (.aload_n 0, 1) := by decide +kernel
theorem d_Model_fills_205 : decode prog_12_method_48_code 205 = .ok (.getfield 37, 3) := by decide +kernel
theorem d_Model_fills_208 : decode prog_12_method_48_code 208 = .ok (.iload 4, 2) := by decide +kernel
theorem d_Model_fills_210 : decode prog_12_method_48_code 210 = .ok (.iaload, 1) := by decide +kernel
theorem d_Model_fills_211 : decode prog_12_method_48_code 211 = .ok (.ifCond .lt 16, 3) := by decide +kernel
theorem d_Model_fills_214 : decode prog_12_method_48_code 214 = .ok (.lload 6, 2) := by decide +kernel
theorem d_Model_fills_216 : decode prog_12_method_48_code 216 = .ok (.aload_n 0, 1) := by decide +kernel
theorem d_Model_fills_217 : decode prog_12_method_48_code 217 = .ok (.getfield 33, 3) := by decide +kernel
theorem d_Model_fills_220 : decode prog_12_method_48_code 220 = .ok (.iload 4, 2) := by decide +kernel
theorem d_Model_fills_222 : decode prog_12_method_48_code 222 = .ok (.laload, 1) := by decide +kernel
theorem d_Model_fills_223 : decode prog_12_method_48_code 223 = .ok (.lcmp, 1) := by decide +kernel
theorem d_Model_fills_224 : decode prog_12_method_48_code 224 = .ok (.ifCond .ge 7, 3) := by decide +kernel
theorem d_Model_fills_227 : decode prog_12_method_48_code 227 = .ok (.iconst 1, 1) := by decide +kernel
theorem d_Model_fills_228 : decode prog_12_method_48_code 228 = .ok (.goto 4, 3) := by decide +kernel
theorem d_Model_fills_231 : decode prog_12_method_48_code 231 = .ok (.iconst 0, 1) := by decide +kernel
theorem d_Model_fills_232 : decode prog_12_method_48_code 232 = .ok (.istore 8, 2) := by decide +kernel
theorem d_Model_fills_234 : decode prog_12_method_48_code 234 = .ok (.aload_n 0, 1) := by decide +kernel
theorem d_Model_fills_235 : decode prog_12_method_48_code 235 = .ok (.getfield 37, 3) := by decide +kernel
theorem d_Model_fills_238 : decode prog_12_method_48_code 238 = .ok (.iload 4, 2) := by decide +kernel
theorem d_Model_fills_240 : decode prog_12_method_48_code 240 = .ok (.iload 8, 2) := by decide +kernel
theorem d_Model_fills_242 : decode prog_12_method_48_code 242 = .ok (.ifCond .eq 8, 3) := by decide +kernel
theorem d_Model_fills_245 : decode prog_12_method_48_code 245 = .ok (.iload 5, 2) := by decide +kernel
theorem d_Model_fills_247 : decode prog_12_method_48_code 247 = .ok (.goto 10, 3) := by decide +kernel
theorem d_Model_fills_250 : decode prog_12_method_48_code 250 = .ok (.aload_n 0, 1) := by decide +kernel
theorem d_Model_fills_251 : decode prog_12_method_48_code 251 = .ok (.getfield 37, 3) := by decide +kernel
theorem d_Model_fills_254 : decode prog_12_method_48_code 254 = .ok (.iload 4, 2) := by decide +kernel
theorem d_Model_fills_256 : decode prog_12_method_48_code 256 = .ok (.iaload, 1) := by decide +kernel
theorem d_Model_fills_257 : decode prog_12_method_48_code 257 = .ok (.iastore, 1) := by decide +kernel
theorem d_Model_fills_258 : decode prog_12_method_48_code 258 = .ok (.aload_n 0, 1) := by decide +kernel
theorem d_Model_fills_259 : decode prog_12_method_48_code 259 = .ok (.getfield 33, 3) := by decide +kernel
theorem d_Model_fills_262 : decode prog_12_method_48_code 262 = .ok (.iload 4, 2) := by decide +kernel
theorem d_Model_fills_264 : decode prog_12_method_48_code 264 = .ok (.iload 8, 2) := by decide +kernel
theorem d_Model_fills_266 : decode prog_12_method_48_code 266 = .ok (.ifCond .eq 8, 3) := by decide +kernel
theorem d_Model_fills_269 : decode prog_12_method_48_code 269 = .ok (.lload 6, 2) := by decide +kernel
theorem d_Model_fills_271 : decode prog_12_method_48_code 271 = .ok (.goto 10, 3) := by decide +kernel
theorem d_Model_fills_274 : decode prog_12_method_48_code 274 = .ok (.aload_n 0, 1) := by decide +kernel
theorem d_Model_fills_275 : decode prog_12_method_48_code 275 = .ok (.getfield 33, 3) := by decide +kernel
theorem d_Model_fills_278 : decode prog_12_method_48_code 278 = .ok (.iload 4, 2) := by decide +kernel
theorem d_Model_fills_280 : decode prog_12_method_48_code 280 = .ok (.laload, 1) := by decide +kernel
theorem d_Model_fills_281 : decode prog_12_method_48_code 281 = .ok (.lastore, 1) := by decide +kernel
theorem d_Model_fills_282 : decode prog_12_method_48_code 282 = .ok (.iinc 5 1, 3) := by decide +kernel
theorem d_Model_fills_285 : decode prog_12_method_48_code 285 = .ok (.goto (-100), 3) := by decide +kernel
theorem d_Model_fills_288 : decode prog_12_method_48_code 288 = .ok (.iinc 3 1, 3) := by decide +kernel
theorem d_Model_fills_291 : decode prog_12_method_48_code 291 = .ok (.goto (-242), 3) := by decide +kernel
theorem d_Model_fills_294 : decode prog_12_method_48_code 294 = .ok (.iinc 2 1, 3) := by decide +kernel
theorem d_Model_fills_297 : decode prog_12_method_48_code 297 = .ok (.goto (-255), 3) := by decide +kernel
theorem d_Model_fills_300 : decode prog_12_method_48_code 300 = .ok (.return_, 1) := by decide +kernel
theorem b_Model_fills_0 {d : Nat} {x1 : Int32} {h : am_H} {Q : am_Q} (k : am_W (X_Model_fills d) 11 [some (.ref 0), some (.int x1), some (.int 1), none, none, none, none, none, none] [] (am_pL h 10 (0 : Int32).toNatClampNeg 12) Q) : am_W (X_Model_fills d) 0 [some (.ref 0), some (.int x1), none, none, none, none, none, none, none] [] h Q :=
  am_aload_n d_Model_fills_0 rfl (i := 0) rfl <|
    am_getR (ci := 10) (i := 19) rfl rfl rfl (Nat.le_of_ble_eq_true rfl) w_1337 d_Model_fills_1 <|
    am_iconst (v := 0) d_Model_fills_4 (by decide) <|
    am_ldc2 (v := 12) d_Model_fills_5 w_1484 <|
    am_last rfl (am_vin (by decide)) d_Model_fills_8 <|
    am_iconst (v := 1) d_Model_fills_9 (by decide) <|
    am_istore_n (ls' := [some (.ref 0), some (.int x1), some (.int 1), none, none, none, none, none, none]) d_Model_fills_10 rfl (Nat.le_of_ble_eq_true rfl) rfl <|
    k
theorem b_Model_fills_11 {d : Nat} {x1 : Int32} {x2 : Int32} {h : am_H} {Q : am_Q} (kt : 4 < x2 → am_W (X_Model_fills d) 40 [some (.ref 0), some (.int x1), some (.int x2), none, none, none, none, none, none] [] h Q) (kf : ¬ 4 < x2 → am_W (X_Model_fills d) 16 [some (.ref 0), some (.int x1), some (.int x2), none, none, none, none, none, none] [] h Q) : am_W (X_Model_fills d) 11 [some (.ref 0), some (.int x1), some (.int x2), none, none, none, none, none, none] [] h Q :=
  am_iload_n d_Model_fills_11 rfl (i := 2) rfl <|
    am_iconst (v := 4) d_Model_fills_12 (by decide) <|
    am_icmp_gt (tgt := 40) d_Model_fills_13 (by decide) kt kf
theorem b_Model_fills_16 {d : Nat} {x1 : Int32} {x2 : Int32} {h : am_H} {Q : am_Q} (q0 : vp_in (x2 - 1) 5) (q1 : vp_in x2 5) (k : am_W (X_Model_fills d) 11 [some (.ref 0), some (.int x1), some (.int (x2 + 1)), none, none, none, none, none, none] [] (am_pL h 10 x2.toNatClampNeg ((h.2 10 (x2 - 1).toNatClampNeg) * 105)) Q) : am_W (X_Model_fills d) 16 [some (.ref 0), some (.int x1), some (.int x2), none, none, none, none, none, none] [] h Q :=
  am_aload_n d_Model_fills_16 rfl (i := 0) rfl <|
    am_getR (ci := 10) (i := 19) rfl rfl rfl (Nat.le_of_ble_eq_true rfl) w_1337 d_Model_fills_17 <|
    am_iload_n d_Model_fills_20 rfl (i := 2) rfl <|
    am_aload_n d_Model_fills_21 rfl (i := 0) rfl <|
    am_getR (ci := 10) (i := 19) rfl rfl rfl (Nat.le_of_ble_eq_true rfl) w_1337 d_Model_fills_22 <|
    am_iload_n d_Model_fills_25 rfl (i := 2) rfl <|
    am_iconst (v := 1) d_Model_fills_26 (by decide) <|
    am_isub d_Model_fills_27 <|
    am_lald rfl q0 d_Model_fills_28 <|
    am_ldc2 (v := 105) d_Model_fills_29 w_1621 <|
    am_lmul d_Model_fills_32 <|
    am_last rfl q1 d_Model_fills_33 <|
    am_iinc (v := (x2 + 1)) (ls' := [some (.ref 0), some (.int x1), some (.int (x2 + 1)), none, none, none, none, none, none]) d_Model_fills_34 rfl rfl (Nat.le_of_ble_eq_true rfl) rfl <|
    am_goto (tgt := 11) d_Model_fills_37 (by decide) k
theorem b_Model_fills_40 {d : Nat} {x1 : Int32} {x2 : Int32} {h : am_H} {Q : am_Q} (k : am_W (X_Model_fills d) 42 [some (.ref 0), some (.int x1), some (.int 0), none, none, none, none, none, none] [] h Q) : am_W (X_Model_fills d) 40 [some (.ref 0), some (.int x1), some (.int x2), none, none, none, none, none, none] [] h Q :=
  am_iconst (v := 0) d_Model_fills_40 (by decide) <|
    am_istore_n (ls' := [some (.ref 0), some (.int x1), some (.int 0), none, none, none, none, none, none]) d_Model_fills_41 rfl (Nat.le_of_ble_eq_true rfl) rfl <|
    k
theorem b_Model_fills_42 {d : Nat} {x1 : Int32} {x2 : Int32} {h : am_H} {Q : am_Q} (kt : 4 < x2 → am_W (X_Model_fills d) 300 [some (.ref 0), some (.int x1), some (.int x2), none, none, none, none, none, none] [] h Q) (kf : ¬ 4 < x2 → am_W (X_Model_fills d) 47 [some (.ref 0), some (.int x1), some (.int x2), none, none, none, none, none, none] [] h Q) : am_W (X_Model_fills d) 42 [some (.ref 0), some (.int x1), some (.int x2), none, none, none, none, none, none] [] h Q :=
  am_iload_n d_Model_fills_42 rfl (i := 2) rfl <|
    am_iconst (v := 4) d_Model_fills_43 (by decide) <|
    am_icmp_gt (tgt := 300) d_Model_fills_44 (by decide) kt kf
theorem b_Model_fills_47 {d : Nat} {x1 : Int32} {x2 : Int32} {h : am_H} {Q : am_Q} (k : am_W (X_Model_fills d) 49 [some (.ref 0), some (.int x1), some (.int x2), some (.int 0), none, none, none, none, none] [] h Q) : am_W (X_Model_fills d) 47 [some (.ref 0), some (.int x1), some (.int x2), none, none, none, none, none, none] [] h Q :=
  am_iconst (v := 0) d_Model_fills_47 (by decide) <|
    am_istore_n (ls' := [some (.ref 0), some (.int x1), some (.int x2), some (.int 0), none, none, none, none, none]) d_Model_fills_48 rfl (Nat.le_of_ble_eq_true rfl) rfl <|
    k
theorem b_Model_fills_49 {d : Nat} {x1 : Int32} {x2 : Int32} {x3 : Int32} {h : am_H} {Q : am_Q} (kt : 31 ≤ x3 → am_W (X_Model_fills d) 294 [some (.ref 0), some (.int x1), some (.int x2), some (.int x3), none, none, none, none, none] [] h Q) (kf : ¬ 31 ≤ x3 → am_W (X_Model_fills d) 55 [some (.ref 0), some (.int x1), some (.int x2), some (.int x3), none, none, none, none, none] [] h Q) : am_W (X_Model_fills d) 49 [some (.ref 0), some (.int x1), some (.int x2), some (.int x3), none, none, none, none, none] [] h Q :=
  am_iload_n d_Model_fills_49 rfl (i := 3) rfl <|
    am_bipush (v := 31) d_Model_fills_50 (by decide) <|
    am_icmp_ge (tgt := 294) d_Model_fills_52 (by decide) kt kf
theorem b_Model_fills_55 {d : Nat} {x1 : Int32} {x2 : Int32} {x3 : Int32} {h : am_H} {Q : am_Q} (q0 : vp_in ((31 * x2) + x3) 155) (k : m_Model_isGreen d [.ref 0, .int x3] (am_pI h 9 ((31 * x2) + x3).toNatClampNeg (-2)) (fun r hh => am_W (X_Model_fills (d + 1)) 77 [some (.ref 0), some (.int x1), some (.int x2), some (.int x3), some (.int ((31 * x2) + x3)), none, none, none, none] (r.toList ++ []) hh Q)) : am_W (X_Model_fills (d + 1)) 55 [some (.ref 0), some (.int x1), some (.int x2), some (.int x3), none, none, none, none, none] [] h Q :=
  am_bipush (v := 31) d_Model_fills_55 (by decide) <|
    am_iload_n d_Model_fills_57 rfl (i := 2) rfl <|
    am_imul d_Model_fills_58 <|
    am_iload_n d_Model_fills_59 rfl (i := 3) rfl <|
    am_iadd d_Model_fills_60 <|
    am_istore (ls' := [some (.ref 0), some (.int x1), some (.int x2), some (.int x3), some (.int ((31 * x2) + x3)), none, none, none, none]) d_Model_fills_61 (Nat.le_of_ble_eq_true rfl) rfl <|
    am_aload_n d_Model_fills_63 rfl (i := 0) rfl <|
    am_getR (ci := 10) (i := 18) rfl rfl rfl (Nat.le_of_ble_eq_true rfl) w_1336 d_Model_fills_64 <|
    am_iload d_Model_fills_67 rfl <|
    am_bipush (v := (-2)) d_Model_fills_69 (by decide) <|
    am_iast rfl q0 d_Model_fills_71 <|
    am_aload_n d_Model_fills_72 rfl (i := 0) rfl <|
    am_iload_n d_Model_fills_73 rfl (i := 3) rfl <|
    am_callV (vs := [.int x3]) (st := []) (k := 0) (ci := 10) rfl d_Model_fills_74 rfl rfl w_1550 w_1552 w_49 w_94 w_1553 p_Model_isGreen (Nat.le_of_ble_eq_true rfl) (Nat.le_of_ble_eq_true rfl) rfl k
theorem b_Model_fills_77 {d : Nat} {x1 : Int32} {x2 : Int32} {x3 : Int32} {x4 : Int32} {y0 : Bool} {h : am_H} {Q : am_Q} (kt : (am_b y0) = 0 → am_W (X_Model_fills d) 96 [some (.ref 0), some (.int x1), some (.int x2), some (.int x3), some (.int x4), none, none, none, none] [] h Q) (kf : ¬ (am_b y0) = 0 → am_W (X_Model_fills d) 80 [some (.ref 0), some (.int x1), some (.int x2), some (.int x3), some (.int x4), none, none, none, none] [] h Q) : am_W (X_Model_fills d) 77 [some (.ref 0), some (.int x1), some (.int x2), some (.int x3), some (.int x4), none, none, none, none] [.int (am_b y0)] h Q :=
  am_if_eq (tgt := 96) d_Model_fills_77 (by decide) kt kf
theorem b_Model_fills_80 {d : Nat} {x1 : Int32} {x2 : Int32} {x3 : Int32} {x4 : Int32} {h : am_H} {Q : am_Q} (k : m_Model_onGreen d [.ref 0, .int x3, .int x2] h (fun r hh => am_W (X_Model_fills (d + 1)) 92 [some (.ref 0), some (.int x1), some (.int x2), some (.int x3), some (.int x4), none, none, none, none] (r.toList ++ [.int x4, .ref 8]) hh Q)) : am_W (X_Model_fills (d + 1)) 80 [some (.ref 0), some (.int x1), some (.int x2), some (.int x3), some (.int x4), none, none, none, none] [] h Q :=
  am_aload_n d_Model_fills_80 rfl (i := 0) rfl <|
    am_getR (ci := 10) (i := 17) rfl rfl rfl (Nat.le_of_ble_eq_true rfl) w_1335 d_Model_fills_81 <|
    am_iload d_Model_fills_84 rfl <|
    am_aload_n d_Model_fills_86 rfl (i := 0) rfl <|
    am_iload_n d_Model_fills_87 rfl (i := 3) rfl <|
    am_iload_n d_Model_fills_88 rfl (i := 2) rfl <|
    am_callV (vs := [.int x3, .int x2]) (st := [.int x4, .ref 8]) (k := 0) (ci := 10) rfl d_Model_fills_89 rfl rfl w_1622 w_1624 w_60 w_94 w_1625 p_Model_onGreen (Nat.le_of_ble_eq_true rfl) (Nat.le_of_ble_eq_true rfl) rfl k
theorem b_Model_fills_92 {d : Nat} {x1 : Int32} {x2 : Int32} {x3 : Int32} {x4 : Int32} {y2 : Int64} {y1 : Int32} {h : am_H} {Q : am_Q} (q0 : vp_in y1 155) (k : am_W (X_Model_fills d) 288 [some (.ref 0), some (.int x1), some (.int x2), some (.int x3), some (.int x4), none, none, none, none] [] (am_pL h 8 y1.toNatClampNeg y2) Q) : am_W (X_Model_fills d) 92 [some (.ref 0), some (.int x1), some (.int x2), some (.int x3), some (.int x4), none, none, none, none] [.long y2, .int y1, .ref 8] h Q :=
  am_last rfl q0 d_Model_fills_92 <|
    am_goto (tgt := 288) d_Model_fills_93 (by decide) k
theorem b_Model_fills_96 {d : Nat} {x1 : Int32} {x2 : Int32} {x3 : Int32} {x4 : Int32} {h : am_H} {Q : am_Q} (kt : x2 = 0 → am_W (X_Model_fills d) 107 [some (.ref 0), some (.int x1), some (.int x2), some (.int x3), some (.int x4), none, none, none, none] [] h Q) (kf : ¬ x2 = 0 → am_W (X_Model_fills d) 100 [some (.ref 0), some (.int x1), some (.int x2), some (.int x3), some (.int x4), none, none, none, none] [] h Q) : am_W (X_Model_fills d) 96 [some (.ref 0), some (.int x1), some (.int x2), some (.int x3), some (.int x4), none, none, none, none] [] h Q :=
  am_iload_n d_Model_fills_96 rfl (i := 2) rfl <|
    am_if_eq (tgt := 107) d_Model_fills_97 (by decide) kt kf
theorem b_Model_fills_100 {d : Nat} {x1 : Int32} {x2 : Int32} {x3 : Int32} {x4 : Int32} {h : am_H} {Q : am_Q} (kt : ¬ (h.1 0 6) = 0 → am_W (X_Model_fills d) 141 [some (.ref 0), some (.int x1), some (.int x2), some (.int x3), some (.int x4), none, none, none, none] [] h Q) (kf : (h.1 0 6) = 0 → am_W (X_Model_fills d) 107 [some (.ref 0), some (.int x1), some (.int x2), some (.int x3), some (.int x4), none, none, none, none] [] h Q) : am_W (X_Model_fills d) 100 [some (.ref 0), some (.int x1), some (.int x2), some (.int x3), some (.int x4), none, none, none, none] [] h Q :=
  am_aload_n d_Model_fills_100 rfl (i := 0) rfl <|
    am_getI (ci := 10) (i := 6) rfl rfl rfl (Nat.le_of_ble_eq_true rfl) w_1324 d_Model_fills_101 <|
    am_if_ne (tgt := 141) d_Model_fills_104 (by decide) kt kf
theorem b_Model_fills_107 {d : Nat} {x1 : Int32} {x2 : Int32} {x3 : Int32} {x4 : Int32} {h : am_H} {Q : am_Q} (k : m_Model_sizeOf d [.int ((h.1 1 (49 : Int32).toNatClampNeg) - x3)] h (fun r hh => am_W (X_Model_fills (d + 1)) 126 [some (.ref 0), some (.int x1), some (.int x2), some (.int x3), some (.int x4), none, none, none, none] (r.toList ++ [.int 2, .int x4, .ref 8]) hh Q)) : am_W (X_Model_fills (d + 1)) 107 [some (.ref 0), some (.int x1), some (.int x2), some (.int x3), some (.int x4), none, none, none, none] [] h Q :=
  am_aload_n d_Model_fills_107 rfl (i := 0) rfl <|
    am_getR (ci := 10) (i := 17) rfl rfl rfl (Nat.le_of_ble_eq_true rfl) w_1335 d_Model_fills_108 <|
    am_iload d_Model_fills_111 rfl <|
    am_iconst (v := 2) d_Model_fills_113 (by decide) <|
    am_aload_n d_Model_fills_114 rfl (i := 0) rfl <|
    am_getR (ci := 10) (i := 0) rfl rfl rfl (Nat.le_of_ble_eq_true rfl) w_1318 d_Model_fills_115 <|
    am_bipush (v := 49) d_Model_fills_118 (by decide) <|
    am_iald rfl (am_vin (by decide)) d_Model_fills_120 <|
    am_iload_n d_Model_fills_121 rfl (i := 3) rfl <|
    am_isub d_Model_fills_122 <|
    am_callS (vs := [.int ((h.1 1 (49 : Int32).toNatClampNeg) - x3)]) (st := [.int 2, .int x4, .ref 8]) rfl d_Model_fills_123 w_1562 w_1563 w_94 w_1564 p_Model_sizeOf (Nat.le_of_ble_eq_true rfl) (Nat.le_of_ble_eq_true rfl) rfl k
theorem b_Model_fills_126 {d : Nat} {x1 : Int32} {x2 : Int32} {x3 : Int32} {x4 : Int32} {y3 : Int32} {y2 : Int32} {y1 : Int32} {h : am_H} {Q : am_Q} (q0 : vp_in x2 5) (q1 : vp_in y1 155) (k : am_W (X_Model_fills d) 288 [some (.ref 0), some (.int x1), some (.int x2), some (.int x3), some (.int x4), none, none, none, none] [] (am_pL h 8 y1.toNatClampNeg (((y2 + (y3 / 5)).toInt64) * (h.2 10 x2.toNatClampNeg))) Q) : am_W (X_Model_fills d) 126 [some (.ref 0), some (.int x1), some (.int x2), some (.int x3), some (.int x4), none, none, none, none] [.int y3, .int y2, .int y1, .ref 8] h Q :=
  am_iconst (v := 5) d_Model_fills_126 (by decide) <|
    am_idiv d_Model_fills_127 (by decide) <|
    am_iadd d_Model_fills_128 <|
    am_i2l d_Model_fills_129 <|
    am_aload_n d_Model_fills_130 rfl (i := 0) rfl <|
    am_getR (ci := 10) (i := 19) rfl rfl rfl (Nat.le_of_ble_eq_true rfl) w_1337 d_Model_fills_131 <|
    am_iload_n d_Model_fills_134 rfl (i := 2) rfl <|
    am_lald rfl q0 d_Model_fills_135 <|
    am_lmul d_Model_fills_136 <|
    am_last rfl q1 d_Model_fills_137 <|
    am_goto (tgt := 288) d_Model_fills_138 (by decide) k
theorem b_Model_fills_141 {d : Nat} {x1 : Int32} {x2 : Int32} {x3 : Int32} {x4 : Int32} {h : am_H} {Q : am_Q} (kt : ¬ x1 = 1 → am_W (X_Model_fills d) 182 [some (.ref 0), some (.int x1), some (.int x2), some (.int x3), some (.int x4), none, none, none, none] [] h Q) (kf : x1 = 1 → am_W (X_Model_fills d) 146 [some (.ref 0), some (.int x1), some (.int x2), some (.int x3), some (.int x4), none, none, none, none] [] h Q) : am_W (X_Model_fills d) 141 [some (.ref 0), some (.int x1), some (.int x2), some (.int x3), some (.int x4), none, none, none, none] [] h Q :=
  am_iload_n d_Model_fills_141 rfl (i := 1) rfl <|
    am_iconst (v := 1) d_Model_fills_142 (by decide) <|
    am_icmp_ne (tgt := 182) d_Model_fills_143 (by decide) kt kf
theorem b_Model_fills_146 {d : Nat} {x1 : Int32} {x2 : Int32} {x3 : Int32} {x4 : Int32} {h : am_H} {Q : am_Q} (k : m_Model_takenFrom d [.ref 0, .int x3, .int 0] h (fun r hh => am_W (X_Model_fills (d + 1)) 158 [some (.ref 0), some (.int x1), some (.int x2), some (.int x3), some (.int x4), none, none, none, none] (r.toList ++ [.int x4, .ref 9]) hh Q)) : am_W (X_Model_fills (d + 1)) 146 [some (.ref 0), some (.int x1), some (.int x2), some (.int x3), some (.int x4), none, none, none, none] [] h Q :=
  am_aload_n d_Model_fills_146 rfl (i := 0) rfl <|
    am_getR (ci := 10) (i := 18) rfl rfl rfl (Nat.le_of_ble_eq_true rfl) w_1336 d_Model_fills_147 <|
    am_iload d_Model_fills_150 rfl <|
    am_aload_n d_Model_fills_152 rfl (i := 0) rfl <|
    am_iload_n d_Model_fills_153 rfl (i := 3) rfl <|
    am_iconst (v := 0) d_Model_fills_154 (by decide) <|
    am_callV (vs := [.int x3, .int 0]) (st := [.int x4, .ref 9]) (k := 0) (ci := 10) rfl d_Model_fills_155 rfl rfl w_1554 w_1556 w_50 w_94 w_1557 p_Model_takenFrom (Nat.le_of_ble_eq_true rfl) (Nat.le_of_ble_eq_true rfl) rfl k
theorem b_Model_fills_158 {d : Nat} {x1 : Int32} {x2 : Int32} {x3 : Int32} {x4 : Int32} {y2 : Int32} {y1 : Int32} {h : am_H} {Q : am_Q} (q0 : vp_in y1 155) (q1 : vp_in x4 155) (k : m_Model_byClub d [.ref 0, .int x3, .int x2, .int ((am_pI h 9 y1.toNatClampNeg y2).1 9 x4.toNatClampNeg)] (am_pI h 9 y1.toNatClampNeg y2) (fun r hh => am_W (X_Model_fills (d + 1)) 178 [some (.ref 0), some (.int x1), some (.int x2), some (.int x3), some (.int x4), none, none, none, none] (r.toList ++ [.int x4, .ref 8]) hh Q)) : am_W (X_Model_fills (d + 1)) 158 [some (.ref 0), some (.int x1), some (.int x2), some (.int x3), some (.int x4), none, none, none, none] [.int y2, .int y1, .ref 9] h Q :=
  am_iast rfl q0 d_Model_fills_158 <|
    am_aload_n d_Model_fills_159 rfl (i := 0) rfl <|
    am_getR (ci := 10) (i := 17) rfl rfl rfl (Nat.le_of_ble_eq_true rfl) w_1335 d_Model_fills_160 <|
    am_iload d_Model_fills_163 rfl <|
    am_aload_n d_Model_fills_165 rfl (i := 0) rfl <|
    am_iload_n d_Model_fills_166 rfl (i := 3) rfl <|
    am_iload_n d_Model_fills_167 rfl (i := 2) rfl <|
    am_aload_n d_Model_fills_168 rfl (i := 0) rfl <|
    am_getR (ci := 10) (i := 18) rfl rfl rfl (Nat.le_of_ble_eq_true rfl) w_1336 d_Model_fills_169 <|
    am_iload d_Model_fills_172 rfl <|
    am_iald rfl q1 d_Model_fills_174 <|
    am_callV (vs := [.int x3, .int x2, .int ((am_pI h 9 y1.toNatClampNeg y2).1 9 x4.toNatClampNeg)]) (st := [.int x4, .ref 8]) (k := 0) (ci := 10) rfl d_Model_fills_175 rfl rfl w_1626 w_1628 w_61 w_94 w_1629 p_Model_byClub (Nat.le_of_ble_eq_true rfl) (Nat.le_of_ble_eq_true rfl) rfl k
theorem b_Model_fills_178 {d : Nat} {x1 : Int32} {x2 : Int32} {x3 : Int32} {x4 : Int32} {y2 : Int64} {y1 : Int32} {h : am_H} {Q : am_Q} (q0 : vp_in y1 155) (k : am_W (X_Model_fills d) 288 [some (.ref 0), some (.int x1), some (.int x2), some (.int x3), some (.int x4), none, none, none, none] [] (am_pL h 8 y1.toNatClampNeg y2) Q) : am_W (X_Model_fills d) 178 [some (.ref 0), some (.int x1), some (.int x2), some (.int x3), some (.int x4), none, none, none, none] [.long y2, .int y1, .ref 8] h Q :=
  am_last rfl q0 d_Model_fills_178 <|
    am_goto (tgt := 288) d_Model_fills_179 (by decide) k
theorem b_Model_fills_182 {d : Nat} {x1 : Int32} {x2 : Int32} {x3 : Int32} {x4 : Int32} {h : am_H} {Q : am_Q} (k : am_W (X_Model_fills d) 185 [some (.ref 0), some (.int x1), some (.int x2), some (.int x3), some (.int x4), some (.int 0), none, none, none] [] h Q) : am_W (X_Model_fills d) 182 [some (.ref 0), some (.int x1), some (.int x2), some (.int x3), some (.int x4), none, none, none, none] [] h Q :=
  am_iconst (v := 0) d_Model_fills_182 (by decide) <|
    am_istore (ls' := [some (.ref 0), some (.int x1), some (.int x2), some (.int x3), some (.int x4), some (.int 0), none, none, none]) d_Model_fills_183 (Nat.le_of_ble_eq_true rfl) rfl <|
    k
theorem b_Model_fills_185 {d : Nat} {x1 : Int32} {x2 : Int32} {x3 : Int32} {x4 : Int32} {x5 : Int32} {h : am_H} {Q : am_Q} (kt : (h.1 0 6) ≤ x5 → am_W (X_Model_fills d) 288 [some (.ref 0), some (.int x1), some (.int x2), some (.int x3), some (.int x4), some (.int x5), none, none, none] [] h Q) (kf : ¬ (h.1 0 6) ≤ x5 → am_W (X_Model_fills d) 194 [some (.ref 0), some (.int x1), some (.int x2), some (.int x3), some (.int x4), some (.int x5), none, none, none] [] h Q) : am_W (X_Model_fills d) 185 [some (.ref 0), some (.int x1), some (.int x2), some (.int x3), some (.int x4), some (.int x5), none, none, none] [] h Q :=
  am_iload d_Model_fills_185 rfl <|
    am_aload_n d_Model_fills_187 rfl (i := 0) rfl <|
    am_getI (ci := 10) (i := 6) rfl rfl rfl (Nat.le_of_ble_eq_true rfl) w_1324 d_Model_fills_188 <|
    am_icmp_ge (tgt := 288) d_Model_fills_191 (by decide) kt kf
theorem b_Model_fills_194 {d : Nat} {x1 : Int32} {x2 : Int32} {x3 : Int32} {x4 : Int32} {x5 : Int32} {h : am_H} {Q : am_Q} (k : m_Model_byClub d [.ref 0, .int x3, .int x2, .int x5] h (fun r hh => am_W (X_Model_fills (d + 1)) 202 [some (.ref 0), some (.int x1), some (.int x2), some (.int x3), some (.int x4), some (.int x5), none, none, none] (r.toList ++ []) hh Q)) : am_W (X_Model_fills (d + 1)) 194 [some (.ref 0), some (.int x1), some (.int x2), some (.int x3), some (.int x4), some (.int x5), none, none, none] [] h Q :=
  am_aload_n d_Model_fills_194 rfl (i := 0) rfl <|
    am_iload_n d_Model_fills_195 rfl (i := 3) rfl <|
    am_iload_n d_Model_fills_196 rfl (i := 2) rfl <|
    am_iload d_Model_fills_197 rfl <|
    am_callV (vs := [.int x3, .int x2, .int x5]) (st := []) (k := 0) (ci := 10) rfl d_Model_fills_199 rfl rfl w_1626 w_1628 w_61 w_94 w_1629 p_Model_byClub (Nat.le_of_ble_eq_true rfl) (Nat.le_of_ble_eq_true rfl) rfl k
theorem b_Model_fills_202 {d : Nat} {x1 : Int32} {x2 : Int32} {x3 : Int32} {x4 : Int32} {x5 : Int32} {y0 : Int64} {h : am_H} {Q : am_Q} (q0 : vp_in x4 155) (kt : (h.1 9 x4.toNatClampNeg) < 0 → am_W (X_Model_fills d) 227 [some (.ref 0), some (.int x1), some (.int x2), some (.int x3), some (.int x4), some (.int x5), some (.long y0), none, none] [] h Q) (kf : ¬ (h.1 9 x4.toNatClampNeg) < 0 → am_W (X_Model_fills d) 214 [some (.ref 0), some (.int x1), some (.int x2), some (.int x3), some (.int x4), some (.int x5), some (.long y0), none, none] [] h Q) : am_W (X_Model_fills d) 202 [some (.ref 0), some (.int x1), some (.int x2), some (.int x3), some (.int x4), some (.int x5), none, none, none] [.long y0] h Q :=
  am_lstore (ls' := [some (.ref 0), some (.int x1), some (.int x2), some (.int x3), some (.int x4), some (.int x5), some (.long y0), none, none]) d_Model_fills_202 (Nat.le_of_ble_eq_true rfl) rfl <|
    am_aload_n d_Model_fills_204 rfl (i := 0) rfl <|
    am_getR (ci := 10) (i := 18) rfl rfl rfl (Nat.le_of_ble_eq_true rfl) w_1336 d_Model_fills_205 <|
    am_iload d_Model_fills_208 rfl <|
    am_iald rfl q0 d_Model_fills_210 <|
    am_if_lt (tgt := 227) d_Model_fills_211 (by decide) kt kf
theorem b_Model_fills_214 {d : Nat} {x1 : Int32} {x2 : Int32} {x3 : Int32} {x4 : Int32} {x5 : Int32} {x6 : Int64} {h : am_H} {Q : am_Q} (q0 : vp_in x4 155) (kt : (h.2 8 x4.toNatClampNeg) ≤ x6 → am_W (X_Model_fills d) 231 [some (.ref 0), some (.int x1), some (.int x2), some (.int x3), some (.int x4), some (.int x5), some (.long x6), none, none] [] h Q) (kf : ¬ (h.2 8 x4.toNatClampNeg) ≤ x6 → am_W (X_Model_fills d) 227 [some (.ref 0), some (.int x1), some (.int x2), some (.int x3), some (.int x4), some (.int x5), some (.long x6), none, none] [] h Q) : am_W (X_Model_fills d) 214 [some (.ref 0), some (.int x1), some (.int x2), some (.int x3), some (.int x4), some (.int x5), some (.long x6), none, none] [] h Q :=
  am_lload d_Model_fills_214 rfl <|
    am_aload_n d_Model_fills_216 rfl (i := 0) rfl <|
    am_getR (ci := 10) (i := 17) rfl rfl rfl (Nat.le_of_ble_eq_true rfl) w_1335 d_Model_fills_217 <|
    am_iload d_Model_fills_220 rfl <|
    am_lald rfl q0 d_Model_fills_222 <|
    am_lc_if_ge (tgt := 231) d_Model_fills_223 d_Model_fills_224 (by decide) kt kf
theorem b_Model_fills_227 {d : Nat} {x1 : Int32} {x2 : Int32} {x3 : Int32} {x4 : Int32} {x5 : Int32} {x6 : Int64} {h : am_H} {Q : am_Q} (k : am_W (X_Model_fills d) 232 [some (.ref 0), some (.int x1), some (.int x2), some (.int x3), some (.int x4), some (.int x5), some (.long x6), none, none] [.int 1] h Q) : am_W (X_Model_fills d) 227 [some (.ref 0), some (.int x1), some (.int x2), some (.int x3), some (.int x4), some (.int x5), some (.long x6), none, none] [] h Q :=
  am_iconst (v := 1) d_Model_fills_227 (by decide) <|
    am_goto (tgt := 232) d_Model_fills_228 (by decide) k
theorem b_Model_fills_231 {d : Nat} {x1 : Int32} {x2 : Int32} {x3 : Int32} {x4 : Int32} {x5 : Int32} {x6 : Int64} {h : am_H} {Q : am_Q} (k : am_W (X_Model_fills d) 232 [some (.ref 0), some (.int x1), some (.int x2), some (.int x3), some (.int x4), some (.int x5), some (.long x6), none, none] [.int 0] h Q) : am_W (X_Model_fills d) 231 [some (.ref 0), some (.int x1), some (.int x2), some (.int x3), some (.int x4), some (.int x5), some (.long x6), none, none] [] h Q :=
  am_iconst (v := 0) d_Model_fills_231 (by decide) <|
    k
theorem b_Model_fills_232 {d : Nat} {x1 : Int32} {x2 : Int32} {x3 : Int32} {x4 : Int32} {x5 : Int32} {x6 : Int64} {y0 : Int32} {h : am_H} {Q : am_Q} (kt : y0 = 0 → am_W (X_Model_fills d) 250 [some (.ref 0), some (.int x1), some (.int x2), some (.int x3), some (.int x4), some (.int x5), some (.long x6), none, some (.int y0)] [.int x4, .ref 9] h Q) (kf : ¬ y0 = 0 → am_W (X_Model_fills d) 245 [some (.ref 0), some (.int x1), some (.int x2), some (.int x3), some (.int x4), some (.int x5), some (.long x6), none, some (.int y0)] [.int x4, .ref 9] h Q) : am_W (X_Model_fills d) 232 [some (.ref 0), some (.int x1), some (.int x2), some (.int x3), some (.int x4), some (.int x5), some (.long x6), none, none] [.int y0] h Q :=
  am_istore (ls' := [some (.ref 0), some (.int x1), some (.int x2), some (.int x3), some (.int x4), some (.int x5), some (.long x6), none, some (.int y0)]) d_Model_fills_232 (Nat.le_of_ble_eq_true rfl) rfl <|
    am_aload_n d_Model_fills_234 rfl (i := 0) rfl <|
    am_getR (ci := 10) (i := 18) rfl rfl rfl (Nat.le_of_ble_eq_true rfl) w_1336 d_Model_fills_235 <|
    am_iload d_Model_fills_238 rfl <|
    am_iload d_Model_fills_240 rfl <|
    am_if_eq (tgt := 250) d_Model_fills_242 (by decide) kt kf
theorem b_Model_fills_245 {d : Nat} {x1 : Int32} {x2 : Int32} {x3 : Int32} {x4 : Int32} {x5 : Int32} {x6 : Int64} {x8 : Int32} {y1 : Int32} {h : am_H} {Q : am_Q} (k : am_W (X_Model_fills d) 257 [some (.ref 0), some (.int x1), some (.int x2), some (.int x3), some (.int x4), some (.int x5), some (.long x6), none, some (.int x8)] [.int x5, .int y1, .ref 9] h Q) : am_W (X_Model_fills d) 245 [some (.ref 0), some (.int x1), some (.int x2), some (.int x3), some (.int x4), some (.int x5), some (.long x6), none, some (.int x8)] [.int y1, .ref 9] h Q :=
  am_iload d_Model_fills_245 rfl <|
    am_goto (tgt := 257) d_Model_fills_247 (by decide) k
theorem b_Model_fills_250 {d : Nat} {x1 : Int32} {x2 : Int32} {x3 : Int32} {x4 : Int32} {x5 : Int32} {x6 : Int64} {x8 : Int32} {y1 : Int32} {h : am_H} {Q : am_Q} (q0 : vp_in x4 155) (k : am_W (X_Model_fills d) 257 [some (.ref 0), some (.int x1), some (.int x2), some (.int x3), some (.int x4), some (.int x5), some (.long x6), none, some (.int x8)] [.int (h.1 9 x4.toNatClampNeg), .int y1, .ref 9] h Q) : am_W (X_Model_fills d) 250 [some (.ref 0), some (.int x1), some (.int x2), some (.int x3), some (.int x4), some (.int x5), some (.long x6), none, some (.int x8)] [.int y1, .ref 9] h Q :=
  am_aload_n d_Model_fills_250 rfl (i := 0) rfl <|
    am_getR (ci := 10) (i := 18) rfl rfl rfl (Nat.le_of_ble_eq_true rfl) w_1336 d_Model_fills_251 <|
    am_iload d_Model_fills_254 rfl <|
    am_iald rfl q0 d_Model_fills_256 <|
    k
theorem b_Model_fills_257 {d : Nat} {x1 : Int32} {x2 : Int32} {x3 : Int32} {x4 : Int32} {x5 : Int32} {x6 : Int64} {x8 : Int32} {y2 : Int32} {y1 : Int32} {h : am_H} {Q : am_Q} (q0 : vp_in y1 155) (kt : x8 = 0 → am_W (X_Model_fills d) 274 [some (.ref 0), some (.int x1), some (.int x2), some (.int x3), some (.int x4), some (.int x5), some (.long x6), none, some (.int x8)] [.int x4, .ref 8] (am_pI h 9 y1.toNatClampNeg y2) Q) (kf : ¬ x8 = 0 → am_W (X_Model_fills d) 269 [some (.ref 0), some (.int x1), some (.int x2), some (.int x3), some (.int x4), some (.int x5), some (.long x6), none, some (.int x8)] [.int x4, .ref 8] (am_pI h 9 y1.toNatClampNeg y2) Q) : am_W (X_Model_fills d) 257 [some (.ref 0), some (.int x1), some (.int x2), some (.int x3), some (.int x4), some (.int x5), some (.long x6), none, some (.int x8)] [.int y2, .int y1, .ref 9] h Q :=
  am_iast rfl q0 d_Model_fills_257 <|
    am_aload_n d_Model_fills_258 rfl (i := 0) rfl <|
    am_getR (ci := 10) (i := 17) rfl rfl rfl (Nat.le_of_ble_eq_true rfl) w_1335 d_Model_fills_259 <|
    am_iload d_Model_fills_262 rfl <|
    am_iload d_Model_fills_264 rfl <|
    am_if_eq (tgt := 274) d_Model_fills_266 (by decide) kt kf
theorem b_Model_fills_269 {d : Nat} {x1 : Int32} {x2 : Int32} {x3 : Int32} {x4 : Int32} {x5 : Int32} {x6 : Int64} {x8 : Int32} {y1 : Int32} {h : am_H} {Q : am_Q} (k : am_W (X_Model_fills d) 281 [some (.ref 0), some (.int x1), some (.int x2), some (.int x3), some (.int x4), some (.int x5), some (.long x6), none, some (.int x8)] [.long x6, .int y1, .ref 8] h Q) : am_W (X_Model_fills d) 269 [some (.ref 0), some (.int x1), some (.int x2), some (.int x3), some (.int x4), some (.int x5), some (.long x6), none, some (.int x8)] [.int y1, .ref 8] h Q :=
  am_lload d_Model_fills_269 rfl <|
    am_goto (tgt := 281) d_Model_fills_271 (by decide) k
theorem b_Model_fills_274 {d : Nat} {x1 : Int32} {x2 : Int32} {x3 : Int32} {x4 : Int32} {x5 : Int32} {x6 : Int64} {x8 : Int32} {y1 : Int32} {h : am_H} {Q : am_Q} (q0 : vp_in x4 155) (k : am_W (X_Model_fills d) 281 [some (.ref 0), some (.int x1), some (.int x2), some (.int x3), some (.int x4), some (.int x5), some (.long x6), none, some (.int x8)] [.long (h.2 8 x4.toNatClampNeg), .int y1, .ref 8] h Q) : am_W (X_Model_fills d) 274 [some (.ref 0), some (.int x1), some (.int x2), some (.int x3), some (.int x4), some (.int x5), some (.long x6), none, some (.int x8)] [.int y1, .ref 8] h Q :=
  am_aload_n d_Model_fills_274 rfl (i := 0) rfl <|
    am_getR (ci := 10) (i := 17) rfl rfl rfl (Nat.le_of_ble_eq_true rfl) w_1335 d_Model_fills_275 <|
    am_iload d_Model_fills_278 rfl <|
    am_lald rfl q0 d_Model_fills_280 <|
    k
theorem b_Model_fills_281 {d : Nat} {x1 : Int32} {x2 : Int32} {x3 : Int32} {x4 : Int32} {x5 : Int32} {x6 : Int64} {x8 : Int32} {y2 : Int64} {y1 : Int32} {h : am_H} {Q : am_Q} (q0 : vp_in y1 155) (k : am_W (X_Model_fills d) 185 [some (.ref 0), some (.int x1), some (.int x2), some (.int x3), some (.int x4), some (.int (x5 + 1)), some (.long x6), none, some (.int x8)] [] (am_pL h 8 y1.toNatClampNeg y2) Q) : am_W (X_Model_fills d) 281 [some (.ref 0), some (.int x1), some (.int x2), some (.int x3), some (.int x4), some (.int x5), some (.long x6), none, some (.int x8)] [.long y2, .int y1, .ref 8] h Q :=
  am_last rfl q0 d_Model_fills_281 <|
    am_iinc (v := (x5 + 1)) (ls' := [some (.ref 0), some (.int x1), some (.int x2), some (.int x3), some (.int x4), some (.int (x5 + 1)), some (.long x6), none, some (.int x8)]) d_Model_fills_282 rfl rfl (Nat.le_of_ble_eq_true rfl) rfl <|
    am_goto (tgt := 185) d_Model_fills_285 (by decide) k
theorem b_Model_fills_288 {d : Nat} {x1 : Int32} {x2 : Int32} {x3 : Int32} {x4 : Int32} {h : am_H} {Q : am_Q} (k : am_W (X_Model_fills d) 49 [some (.ref 0), some (.int x1), some (.int x2), some (.int (x3 + 1)), some (.int x4), none, none, none, none] [] h Q) : am_W (X_Model_fills d) 288 [some (.ref 0), some (.int x1), some (.int x2), some (.int x3), some (.int x4), none, none, none, none] [] h Q :=
  am_iinc (v := (x3 + 1)) (ls' := [some (.ref 0), some (.int x1), some (.int x2), some (.int (x3 + 1)), some (.int x4), none, none, none, none]) d_Model_fills_288 rfl rfl (Nat.le_of_ble_eq_true rfl) rfl <|
    am_goto (tgt := 49) d_Model_fills_291 (by decide) k
theorem b_Model_fills_294 {d : Nat} {x1 : Int32} {x2 : Int32} {x3 : Int32} {h : am_H} {Q : am_Q} (k : am_W (X_Model_fills d) 42 [some (.ref 0), some (.int x1), some (.int (x2 + 1)), some (.int x3), none, none, none, none, none] [] h Q) : am_W (X_Model_fills d) 294 [some (.ref 0), some (.int x1), some (.int x2), some (.int x3), none, none, none, none, none] [] h Q :=
  am_iinc (v := (x2 + 1)) (ls' := [some (.ref 0), some (.int x1), some (.int (x2 + 1)), some (.int x3), none, none, none, none, none]) d_Model_fills_294 rfl rfl (Nat.le_of_ble_eq_true rfl) rfl <|
    am_goto (tgt := 42) d_Model_fills_297 (by decide) k
theorem b_Model_fills_300 {d : Nat} {x1 : Int32} {x2 : Int32} {h : am_H} {Q : am_Q} (q : Q none h) : am_W (X_Model_fills d) 300 [some (.ref 0), some (.int x1), some (.int x2), none, none, none, none, none, none] [] h Q :=
  am_vret rfl d_Model_fills_300 q
theorem t_Model_fills_300 {d : Nat} {x1 : Int32} {x2 : Int32} {h : am_H} {Q : am_Q} {res : am_H} (e : f_Model_fills_300 h = some res) (q : Q none res) : am_W (X_Model_fills (d + 69)) 300 [some (.ref 0), some (.int x1), some (.int x2), none, none, none, none, none, none] [] h Q :=
  b_Model_fills_300 (d := (d + 69)) (q := (am_rVpi e q))
theorem t_Model_fills_294 {d : Nat} {k42 : am_H → Int32 → Int32 → Option (am_H)} {x1 : Int32} {x2 : Int32} {x3 : Int32} {h : am_H} {Q : am_Q} {res : am_H} (hk42 : ∀ (x1 : Int32) (x2 : Int32) (h : am_H), k42 h x1 x2 = some res → am_W (X_Model_fills (d + 69)) 42 [some (.ref 0), some (.int x1), some (.int x2), none, none, none, none, none, none] [] h Q) (e : f_Model_fills_294 k42 h x1 x2 = some res) (q : Q none res) : am_W (X_Model_fills (d + 69)) 294 [some (.ref 0), some (.int x1), some (.int x2), some (.int x3), none, none, none, none, none] [] h Q :=
  b_Model_fills_294 (d := (d + 69)) (k := (am_wk2 (hk42 _ _ _ e) ⟨rfl, ⟨rfl, ⟨rfl, trivial⟩⟩⟩))
theorem t_Model_fills_288 {d : Nat} {k42 : am_H → Int32 → Int32 → Option (am_H)} {k49 : am_H → Int32 → Int32 → Int32 → Option (am_H)} {x1 : Int32} {x2 : Int32} {x3 : Int32} {x4 : Int32} {h : am_H} {Q : am_Q} {res : am_H} (hk42 : ∀ (x1 : Int32) (x2 : Int32) (h : am_H), k42 h x1 x2 = some res → am_W (X_Model_fills (d + 69)) 42 [some (.ref 0), some (.int x1), some (.int x2), none, none, none, none, none, none] [] h Q) (hk49 : ∀ (x1 : Int32) (x2 : Int32) (x3 : Int32) (h : am_H), k49 h x1 x2 x3 = some res → am_W (X_Model_fills (d + 69)) 49 [some (.ref 0), some (.int x1), some (.int x2), some (.int x3), none, none, none, none, none] [] h Q) (e : f_Model_fills_288 k42 k49 h x1 x2 x3 = some res) (q : Q none res) : am_W (X_Model_fills (d + 69)) 288 [some (.ref 0), some (.int x1), some (.int x2), some (.int x3), some (.int x4), none, none, none, none] [] h Q :=
  b_Model_fills_288 (d := (d + 69)) (k := (am_wk2 (hk49 _ _ _ _ e) ⟨rfl, ⟨rfl, ⟨rfl, ⟨rfl, trivial⟩⟩⟩⟩))
theorem t_Model_fills_126 {d : Nat} {k42 : am_H → Int32 → Int32 → Option (am_H)} {k49 : am_H → Int32 → Int32 → Int32 → Option (am_H)} {x1 : Int32} {x2 : Int32} {x3 : Int32} {x4 : Int32} {y3 : Int32} {y2 : Int32} {y1 : Int32} {h : am_H} {Q : am_Q} {res : am_H} (hk42 : ∀ (x1 : Int32) (x2 : Int32) (h : am_H), k42 h x1 x2 = some res → am_W (X_Model_fills (d + 69)) 42 [some (.ref 0), some (.int x1), some (.int x2), none, none, none, none, none, none] [] h Q) (hk49 : ∀ (x1 : Int32) (x2 : Int32) (x3 : Int32) (h : am_H), k49 h x1 x2 x3 = some res → am_W (X_Model_fills (d + 69)) 49 [some (.ref 0), some (.int x1), some (.int x2), some (.int x3), none, none, none, none, none] [] h Q) (e : f_Model_fills_126 k42 k49 h x1 x2 x3 y3 y2 y1 = some res) (q : Q none res) : am_W (X_Model_fills (d + 69)) 126 [some (.ref 0), some (.int x1), some (.int x2), some (.int x3), some (.int x4), none, none, none, none] [.int y3, .int y2, .int y1, .ref 8] h Q :=
  b_Model_fills_126 (d := (d + 69)) (q0 := (am_okv (am_gd e))) (q1 := (am_okv (am_gd (am_ga e)))) (k := (t_Model_fills_288 hk42 hk49 (am_ga (am_ga e)) q))
theorem t_Model_fills_107 {d : Nat} {k42 : am_H → Int32 → Int32 → Option (am_H)} {k49 : am_H → Int32 → Int32 → Int32 → Option (am_H)} {x1 : Int32} {x2 : Int32} {x3 : Int32} {x4 : Int32} {h : am_H} {Q : am_Q} {res : am_H} (hk42 : ∀ (x1 : Int32) (x2 : Int32) (h : am_H), k42 h x1 x2 = some res → am_W (X_Model_fills (d + 69)) 42 [some (.ref 0), some (.int x1), some (.int x2), none, none, none, none, none, none] [] h Q) (hk49 : ∀ (x1 : Int32) (x2 : Int32) (x3 : Int32) (h : am_H), k49 h x1 x2 x3 = some res → am_W (X_Model_fills (d + 69)) 49 [some (.ref 0), some (.int x1), some (.int x2), some (.int x3), none, none, none, none, none] [] h Q) (e : f_Model_fills_107 k42 k49 h x1 x2 x3 x4 = some res) (q : Q none res) : am_W (X_Model_fills (d + 69)) 107 [some (.ref 0), some (.int x1), some (.int x2), some (.int x3), some (.int x4), none, none, none, none] [] h Q :=
  b_Model_fills_107 (d := (d + 68)) (k := c_Model_sizeOf (d := d + 68) rfl (t_Model_fills_126 hk42 hk49 e q))
theorem t_Model_fills_281 {d : Nat} {k42 : am_H → Int32 → Int32 → Option (am_H)} {k49 : am_H → Int32 → Int32 → Int32 → Option (am_H)} {k185 : am_H → Int32 → Int32 → Int32 → Int32 → Int32 → Option (am_H)} {x1 : Int32} {x2 : Int32} {x3 : Int32} {x4 : Int32} {x5 : Int32} {x6 : Int64} {x8 : Int32} {y2 : Int64} {y1 : Int32} {h : am_H} {Q : am_Q} {res : am_H} (hk42 : ∀ (x1 : Int32) (x2 : Int32) (h : am_H), k42 h x1 x2 = some res → am_W (X_Model_fills (d + 69)) 42 [some (.ref 0), some (.int x1), some (.int x2), none, none, none, none, none, none] [] h Q) (hk49 : ∀ (x1 : Int32) (x2 : Int32) (x3 : Int32) (h : am_H), k49 h x1 x2 x3 = some res → am_W (X_Model_fills (d + 69)) 49 [some (.ref 0), some (.int x1), some (.int x2), some (.int x3), none, none, none, none, none] [] h Q) (hk185 : ∀ (x1 : Int32) (x2 : Int32) (x3 : Int32) (x4 : Int32) (x5 : Int32) (h : am_H), k185 h x1 x2 x3 x4 x5 = some res → am_W (X_Model_fills (d + 69)) 185 [some (.ref 0), some (.int x1), some (.int x2), some (.int x3), some (.int x4), some (.int x5), none, none, none] [] h Q) (e : f_Model_fills_281 k42 k49 k185 h x1 x2 x3 x4 x5 y2 y1 = some res) (q : Q none res) : am_W (X_Model_fills (d + 69)) 281 [some (.ref 0), some (.int x1), some (.int x2), some (.int x3), some (.int x4), some (.int x5), some (.long x6), none, some (.int x8)] [.long y2, .int y1, .ref 8] h Q :=
  b_Model_fills_281 (d := (d + 69)) (q0 := (am_okv (am_gd e))) (k := (am_wk2 (hk185 _ _ _ _ _ _ (am_ga e)) ⟨rfl, ⟨rfl, ⟨rfl, ⟨rfl, ⟨rfl, ⟨rfl, trivial⟩⟩⟩⟩⟩⟩))
theorem t_Model_fills_274 {d : Nat} {k42 : am_H → Int32 → Int32 → Option (am_H)} {k49 : am_H → Int32 → Int32 → Int32 → Option (am_H)} {k185 : am_H → Int32 → Int32 → Int32 → Int32 → Int32 → Option (am_H)} {x1 : Int32} {x2 : Int32} {x3 : Int32} {x4 : Int32} {x5 : Int32} {x6 : Int64} {x8 : Int32} {y1 : Int32} {h : am_H} {Q : am_Q} {res : am_H} (hk42 : ∀ (x1 : Int32) (x2 : Int32) (h : am_H), k42 h x1 x2 = some res → am_W (X_Model_fills (d + 69)) 42 [some (.ref 0), some (.int x1), some (.int x2), none, none, none, none, none, none] [] h Q) (hk49 : ∀ (x1 : Int32) (x2 : Int32) (x3 : Int32) (h : am_H), k49 h x1 x2 x3 = some res → am_W (X_Model_fills (d + 69)) 49 [some (.ref 0), some (.int x1), some (.int x2), some (.int x3), none, none, none, none, none] [] h Q) (hk185 : ∀ (x1 : Int32) (x2 : Int32) (x3 : Int32) (x4 : Int32) (x5 : Int32) (h : am_H), k185 h x1 x2 x3 x4 x5 = some res → am_W (X_Model_fills (d + 69)) 185 [some (.ref 0), some (.int x1), some (.int x2), some (.int x3), some (.int x4), some (.int x5), none, none, none] [] h Q) (e : f_Model_fills_274 k42 k49 k185 h x1 x2 x3 x4 x5 y1 = some res) (q : Q none res) : am_W (X_Model_fills (d + 69)) 274 [some (.ref 0), some (.int x1), some (.int x2), some (.int x3), some (.int x4), some (.int x5), some (.long x6), none, some (.int x8)] [.int y1, .ref 8] h Q :=
  b_Model_fills_274 (d := (d + 69)) (q0 := (am_okv (am_gd e))) (k := (t_Model_fills_281 hk42 hk49 hk185 (am_ga e) q))
theorem t_Model_fills_269 {d : Nat} {k42 : am_H → Int32 → Int32 → Option (am_H)} {k49 : am_H → Int32 → Int32 → Int32 → Option (am_H)} {k185 : am_H → Int32 → Int32 → Int32 → Int32 → Int32 → Option (am_H)} {x1 : Int32} {x2 : Int32} {x3 : Int32} {x4 : Int32} {x5 : Int32} {x6 : Int64} {x8 : Int32} {y1 : Int32} {h : am_H} {Q : am_Q} {res : am_H} (hk42 : ∀ (x1 : Int32) (x2 : Int32) (h : am_H), k42 h x1 x2 = some res → am_W (X_Model_fills (d + 69)) 42 [some (.ref 0), some (.int x1), some (.int x2), none, none, none, none, none, none] [] h Q) (hk49 : ∀ (x1 : Int32) (x2 : Int32) (x3 : Int32) (h : am_H), k49 h x1 x2 x3 = some res → am_W (X_Model_fills (d + 69)) 49 [some (.ref 0), some (.int x1), some (.int x2), some (.int x3), none, none, none, none, none] [] h Q) (hk185 : ∀ (x1 : Int32) (x2 : Int32) (x3 : Int32) (x4 : Int32) (x5 : Int32) (h : am_H), k185 h x1 x2 x3 x4 x5 = some res → am_W (X_Model_fills (d + 69)) 185 [some (.ref 0), some (.int x1), some (.int x2), some (.int x3), some (.int x4), some (.int x5), none, none, none] [] h Q) (e : f_Model_fills_269 k42 k49 k185 h x1 x2 x3 x4 x5 x6 y1 = some res) (q : Q none res) : am_W (X_Model_fills (d + 69)) 269 [some (.ref 0), some (.int x1), some (.int x2), some (.int x3), some (.int x4), some (.int x5), some (.long x6), none, some (.int x8)] [.int y1, .ref 8] h Q :=
  b_Model_fills_269 (d := (d + 69)) (k := (t_Model_fills_281 hk42 hk49 hk185 e q))
theorem t_Model_fills_257 {d : Nat} {k42 : am_H → Int32 → Int32 → Option (am_H)} {k49 : am_H → Int32 → Int32 → Int32 → Option (am_H)} {k185 : am_H → Int32 → Int32 → Int32 → Int32 → Int32 → Option (am_H)} {x1 : Int32} {x2 : Int32} {x3 : Int32} {x4 : Int32} {x5 : Int32} {x6 : Int64} {x8 : Int32} {y2 : Int32} {y1 : Int32} {h : am_H} {Q : am_Q} {res : am_H} (hk42 : ∀ (x1 : Int32) (x2 : Int32) (h : am_H), k42 h x1 x2 = some res → am_W (X_Model_fills (d + 69)) 42 [some (.ref 0), some (.int x1), some (.int x2), none, none, none, none, none, none] [] h Q) (hk49 : ∀ (x1 : Int32) (x2 : Int32) (x3 : Int32) (h : am_H), k49 h x1 x2 x3 = some res → am_W (X_Model_fills (d + 69)) 49 [some (.ref 0), some (.int x1), some (.int x2), some (.int x3), none, none, none, none, none] [] h Q) (hk185 : ∀ (x1 : Int32) (x2 : Int32) (x3 : Int32) (x4 : Int32) (x5 : Int32) (h : am_H), k185 h x1 x2 x3 x4 x5 = some res → am_W (X_Model_fills (d + 69)) 185 [some (.ref 0), some (.int x1), some (.int x2), some (.int x3), some (.int x4), some (.int x5), none, none, none] [] h Q) (e : f_Model_fills_257 k42 k49 k185 h x1 x2 x3 x4 x5 x6 x8 y2 y1 = some res) (q : Q none res) : am_W (X_Model_fills (d + 69)) 257 [some (.ref 0), some (.int x1), some (.int x2), some (.int x3), some (.int x4), some (.int x5), some (.long x6), none, some (.int x8)] [.int y2, .int y1, .ref 9] h Q :=
  b_Model_fills_257 (d := (d + 69)) (q0 := (am_okv (am_gd e))) (kt := fun c => (t_Model_fills_274 hk42 hk49 hk185 (am_ift (am_ga e) c) q)) (kf := fun c => (t_Model_fills_269 hk42 hk49 hk185 (am_ife (am_ga e) c) q))
theorem t_Model_fills_250 {d : Nat} {k42 : am_H → Int32 → Int32 → Option (am_H)} {k49 : am_H → Int32 → Int32 → Int32 → Option (am_H)} {k185 : am_H → Int32 → Int32 → Int32 → Int32 → Int32 → Option (am_H)} {x1 : Int32} {x2 : Int32} {x3 : Int32} {x4 : Int32} {x5 : Int32} {x6 : Int64} {x8 : Int32} {y1 : Int32} {h : am_H} {Q : am_Q} {res : am_H} (hk42 : ∀ (x1 : Int32) (x2 : Int32) (h : am_H), k42 h x1 x2 = some res → am_W (X_Model_fills (d + 69)) 42 [some (.ref 0), some (.int x1), some (.int x2), none, none, none, none, none, none] [] h Q) (hk49 : ∀ (x1 : Int32) (x2 : Int32) (x3 : Int32) (h : am_H), k49 h x1 x2 x3 = some res → am_W (X_Model_fills (d + 69)) 49 [some (.ref 0), some (.int x1), some (.int x2), some (.int x3), none, none, none, none, none] [] h Q) (hk185 : ∀ (x1 : Int32) (x2 : Int32) (x3 : Int32) (x4 : Int32) (x5 : Int32) (h : am_H), k185 h x1 x2 x3 x4 x5 = some res → am_W (X_Model_fills (d + 69)) 185 [some (.ref 0), some (.int x1), some (.int x2), some (.int x3), some (.int x4), some (.int x5), none, none, none] [] h Q) (e : f_Model_fills_250 k42 k49 k185 h x1 x2 x3 x4 x5 x6 x8 y1 = some res) (q : Q none res) : am_W (X_Model_fills (d + 69)) 250 [some (.ref 0), some (.int x1), some (.int x2), some (.int x3), some (.int x4), some (.int x5), some (.long x6), none, some (.int x8)] [.int y1, .ref 9] h Q :=
  b_Model_fills_250 (d := (d + 69)) (q0 := (am_okv (am_gd e))) (k := (t_Model_fills_257 hk42 hk49 hk185 (am_ga e) q))
theorem t_Model_fills_245 {d : Nat} {k42 : am_H → Int32 → Int32 → Option (am_H)} {k49 : am_H → Int32 → Int32 → Int32 → Option (am_H)} {k185 : am_H → Int32 → Int32 → Int32 → Int32 → Int32 → Option (am_H)} {x1 : Int32} {x2 : Int32} {x3 : Int32} {x4 : Int32} {x5 : Int32} {x6 : Int64} {x8 : Int32} {y1 : Int32} {h : am_H} {Q : am_Q} {res : am_H} (hk42 : ∀ (x1 : Int32) (x2 : Int32) (h : am_H), k42 h x1 x2 = some res → am_W (X_Model_fills (d + 69)) 42 [some (.ref 0), some (.int x1), some (.int x2), none, none, none, none, none, none] [] h Q) (hk49 : ∀ (x1 : Int32) (x2 : Int32) (x3 : Int32) (h : am_H), k49 h x1 x2 x3 = some res → am_W (X_Model_fills (d + 69)) 49 [some (.ref 0), some (.int x1), some (.int x2), some (.int x3), none, none, none, none, none] [] h Q) (hk185 : ∀ (x1 : Int32) (x2 : Int32) (x3 : Int32) (x4 : Int32) (x5 : Int32) (h : am_H), k185 h x1 x2 x3 x4 x5 = some res → am_W (X_Model_fills (d + 69)) 185 [some (.ref 0), some (.int x1), some (.int x2), some (.int x3), some (.int x4), some (.int x5), none, none, none] [] h Q) (e : f_Model_fills_245 k42 k49 k185 h x1 x2 x3 x4 x5 x6 x8 y1 = some res) (q : Q none res) : am_W (X_Model_fills (d + 69)) 245 [some (.ref 0), some (.int x1), some (.int x2), some (.int x3), some (.int x4), some (.int x5), some (.long x6), none, some (.int x8)] [.int y1, .ref 9] h Q :=
  b_Model_fills_245 (d := (d + 69)) (k := (t_Model_fills_257 hk42 hk49 hk185 e q))
theorem t_Model_fills_232 {d : Nat} {k42 : am_H → Int32 → Int32 → Option (am_H)} {k49 : am_H → Int32 → Int32 → Int32 → Option (am_H)} {k185 : am_H → Int32 → Int32 → Int32 → Int32 → Int32 → Option (am_H)} {x1 : Int32} {x2 : Int32} {x3 : Int32} {x4 : Int32} {x5 : Int32} {x6 : Int64} {y0 : Int32} {h : am_H} {Q : am_Q} {res : am_H} (hk42 : ∀ (x1 : Int32) (x2 : Int32) (h : am_H), k42 h x1 x2 = some res → am_W (X_Model_fills (d + 69)) 42 [some (.ref 0), some (.int x1), some (.int x2), none, none, none, none, none, none] [] h Q) (hk49 : ∀ (x1 : Int32) (x2 : Int32) (x3 : Int32) (h : am_H), k49 h x1 x2 x3 = some res → am_W (X_Model_fills (d + 69)) 49 [some (.ref 0), some (.int x1), some (.int x2), some (.int x3), none, none, none, none, none] [] h Q) (hk185 : ∀ (x1 : Int32) (x2 : Int32) (x3 : Int32) (x4 : Int32) (x5 : Int32) (h : am_H), k185 h x1 x2 x3 x4 x5 = some res → am_W (X_Model_fills (d + 69)) 185 [some (.ref 0), some (.int x1), some (.int x2), some (.int x3), some (.int x4), some (.int x5), none, none, none] [] h Q) (e : f_Model_fills_232 k42 k49 k185 h x1 x2 x3 x4 x5 x6 y0 = some res) (q : Q none res) : am_W (X_Model_fills (d + 69)) 232 [some (.ref 0), some (.int x1), some (.int x2), some (.int x3), some (.int x4), some (.int x5), some (.long x6), none, none] [.int y0] h Q :=
  b_Model_fills_232 (d := (d + 69)) (kt := fun c => (t_Model_fills_250 hk42 hk49 hk185 (am_ift e c) q)) (kf := fun c => (t_Model_fills_245 hk42 hk49 hk185 (am_ife e c) q))
theorem t_Model_fills_227 {d : Nat} {k42 : am_H → Int32 → Int32 → Option (am_H)} {k49 : am_H → Int32 → Int32 → Int32 → Option (am_H)} {k185 : am_H → Int32 → Int32 → Int32 → Int32 → Int32 → Option (am_H)} {x1 : Int32} {x2 : Int32} {x3 : Int32} {x4 : Int32} {x5 : Int32} {x6 : Int64} {h : am_H} {Q : am_Q} {res : am_H} (hk42 : ∀ (x1 : Int32) (x2 : Int32) (h : am_H), k42 h x1 x2 = some res → am_W (X_Model_fills (d + 69)) 42 [some (.ref 0), some (.int x1), some (.int x2), none, none, none, none, none, none] [] h Q) (hk49 : ∀ (x1 : Int32) (x2 : Int32) (x3 : Int32) (h : am_H), k49 h x1 x2 x3 = some res → am_W (X_Model_fills (d + 69)) 49 [some (.ref 0), some (.int x1), some (.int x2), some (.int x3), none, none, none, none, none] [] h Q) (hk185 : ∀ (x1 : Int32) (x2 : Int32) (x3 : Int32) (x4 : Int32) (x5 : Int32) (h : am_H), k185 h x1 x2 x3 x4 x5 = some res → am_W (X_Model_fills (d + 69)) 185 [some (.ref 0), some (.int x1), some (.int x2), some (.int x3), some (.int x4), some (.int x5), none, none, none] [] h Q) (e : f_Model_fills_227 k42 k49 k185 h x1 x2 x3 x4 x5 x6 = some res) (q : Q none res) : am_W (X_Model_fills (d + 69)) 227 [some (.ref 0), some (.int x1), some (.int x2), some (.int x3), some (.int x4), some (.int x5), some (.long x6), none, none] [] h Q :=
  b_Model_fills_227 (d := (d + 69)) (k := (t_Model_fills_232 hk42 hk49 hk185 e q))
theorem t_Model_fills_231 {d : Nat} {k42 : am_H → Int32 → Int32 → Option (am_H)} {k49 : am_H → Int32 → Int32 → Int32 → Option (am_H)} {k185 : am_H → Int32 → Int32 → Int32 → Int32 → Int32 → Option (am_H)} {x1 : Int32} {x2 : Int32} {x3 : Int32} {x4 : Int32} {x5 : Int32} {x6 : Int64} {h : am_H} {Q : am_Q} {res : am_H} (hk42 : ∀ (x1 : Int32) (x2 : Int32) (h : am_H), k42 h x1 x2 = some res → am_W (X_Model_fills (d + 69)) 42 [some (.ref 0), some (.int x1), some (.int x2), none, none, none, none, none, none] [] h Q) (hk49 : ∀ (x1 : Int32) (x2 : Int32) (x3 : Int32) (h : am_H), k49 h x1 x2 x3 = some res → am_W (X_Model_fills (d + 69)) 49 [some (.ref 0), some (.int x1), some (.int x2), some (.int x3), none, none, none, none, none] [] h Q) (hk185 : ∀ (x1 : Int32) (x2 : Int32) (x3 : Int32) (x4 : Int32) (x5 : Int32) (h : am_H), k185 h x1 x2 x3 x4 x5 = some res → am_W (X_Model_fills (d + 69)) 185 [some (.ref 0), some (.int x1), some (.int x2), some (.int x3), some (.int x4), some (.int x5), none, none, none] [] h Q) (e : f_Model_fills_231 k42 k49 k185 h x1 x2 x3 x4 x5 x6 = some res) (q : Q none res) : am_W (X_Model_fills (d + 69)) 231 [some (.ref 0), some (.int x1), some (.int x2), some (.int x3), some (.int x4), some (.int x5), some (.long x6), none, none] [] h Q :=
  b_Model_fills_231 (d := (d + 69)) (k := (t_Model_fills_232 hk42 hk49 hk185 e q))
theorem t_Model_fills_214 {d : Nat} {k42 : am_H → Int32 → Int32 → Option (am_H)} {k49 : am_H → Int32 → Int32 → Int32 → Option (am_H)} {k185 : am_H → Int32 → Int32 → Int32 → Int32 → Int32 → Option (am_H)} {x1 : Int32} {x2 : Int32} {x3 : Int32} {x4 : Int32} {x5 : Int32} {x6 : Int64} {h : am_H} {Q : am_Q} {res : am_H} (hk42 : ∀ (x1 : Int32) (x2 : Int32) (h : am_H), k42 h x1 x2 = some res → am_W (X_Model_fills (d + 69)) 42 [some (.ref 0), some (.int x1), some (.int x2), none, none, none, none, none, none] [] h Q) (hk49 : ∀ (x1 : Int32) (x2 : Int32) (x3 : Int32) (h : am_H), k49 h x1 x2 x3 = some res → am_W (X_Model_fills (d + 69)) 49 [some (.ref 0), some (.int x1), some (.int x2), some (.int x3), none, none, none, none, none] [] h Q) (hk185 : ∀ (x1 : Int32) (x2 : Int32) (x3 : Int32) (x4 : Int32) (x5 : Int32) (h : am_H), k185 h x1 x2 x3 x4 x5 = some res → am_W (X_Model_fills (d + 69)) 185 [some (.ref 0), some (.int x1), some (.int x2), some (.int x3), some (.int x4), some (.int x5), none, none, none] [] h Q) (e : f_Model_fills_214 k42 k49 k185 h x1 x2 x3 x4 x5 x6 = some res) (q : Q none res) : am_W (X_Model_fills (d + 69)) 214 [some (.ref 0), some (.int x1), some (.int x2), some (.int x3), some (.int x4), some (.int x5), some (.long x6), none, none] [] h Q :=
  b_Model_fills_214 (d := (d + 69)) (q0 := (am_okv (am_gd e))) (kt := fun c => (t_Model_fills_231 hk42 hk49 hk185 (am_ift (am_ga e) c) q)) (kf := fun c => (t_Model_fills_227 hk42 hk49 hk185 (am_ife (am_ga e) c) q))
theorem t_Model_fills_202 {d : Nat} {k42 : am_H → Int32 → Int32 → Option (am_H)} {k49 : am_H → Int32 → Int32 → Int32 → Option (am_H)} {k185 : am_H → Int32 → Int32 → Int32 → Int32 → Int32 → Option (am_H)} {x1 : Int32} {x2 : Int32} {x3 : Int32} {x4 : Int32} {x5 : Int32} {y0 : Int64} {h : am_H} {Q : am_Q} {res : am_H} (hk42 : ∀ (x1 : Int32) (x2 : Int32) (h : am_H), k42 h x1 x2 = some res → am_W (X_Model_fills (d + 69)) 42 [some (.ref 0), some (.int x1), some (.int x2), none, none, none, none, none, none] [] h Q) (hk49 : ∀ (x1 : Int32) (x2 : Int32) (x3 : Int32) (h : am_H), k49 h x1 x2 x3 = some res → am_W (X_Model_fills (d + 69)) 49 [some (.ref 0), some (.int x1), some (.int x2), some (.int x3), none, none, none, none, none] [] h Q) (hk185 : ∀ (x1 : Int32) (x2 : Int32) (x3 : Int32) (x4 : Int32) (x5 : Int32) (h : am_H), k185 h x1 x2 x3 x4 x5 = some res → am_W (X_Model_fills (d + 69)) 185 [some (.ref 0), some (.int x1), some (.int x2), some (.int x3), some (.int x4), some (.int x5), none, none, none] [] h Q) (e : f_Model_fills_202 k42 k49 k185 h x1 x2 x3 x4 x5 y0 = some res) (q : Q none res) : am_W (X_Model_fills (d + 69)) 202 [some (.ref 0), some (.int x1), some (.int x2), some (.int x3), some (.int x4), some (.int x5), none, none, none] [.long y0] h Q :=
  b_Model_fills_202 (d := (d + 69)) (q0 := (am_okv (am_gd e))) (kt := fun c => (t_Model_fills_227 hk42 hk49 hk185 (am_ift (am_ga e) c) q)) (kf := fun c => (t_Model_fills_214 hk42 hk49 hk185 (am_ife (am_ga e) c) q))
theorem t_Model_fills_194 {d : Nat} {k42 : am_H → Int32 → Int32 → Option (am_H)} {k49 : am_H → Int32 → Int32 → Int32 → Option (am_H)} {k185 : am_H → Int32 → Int32 → Int32 → Int32 → Int32 → Option (am_H)} {x1 : Int32} {x2 : Int32} {x3 : Int32} {x4 : Int32} {x5 : Int32} {h : am_H} {Q : am_Q} {res : am_H} (hk42 : ∀ (x1 : Int32) (x2 : Int32) (h : am_H), k42 h x1 x2 = some res → am_W (X_Model_fills (d + 69)) 42 [some (.ref 0), some (.int x1), some (.int x2), none, none, none, none, none, none] [] h Q) (hk49 : ∀ (x1 : Int32) (x2 : Int32) (x3 : Int32) (h : am_H), k49 h x1 x2 x3 = some res → am_W (X_Model_fills (d + 69)) 49 [some (.ref 0), some (.int x1), some (.int x2), some (.int x3), none, none, none, none, none] [] h Q) (hk185 : ∀ (x1 : Int32) (x2 : Int32) (x3 : Int32) (x4 : Int32) (x5 : Int32) (h : am_H), k185 h x1 x2 x3 x4 x5 = some res → am_W (X_Model_fills (d + 69)) 185 [some (.ref 0), some (.int x1), some (.int x2), some (.int x3), some (.int x4), some (.int x5), none, none, none] [] h Q) (e : f_Model_fills_194 k42 k49 k185 h x1 x2 x3 x4 x5 = some res) (q : Q none res) : am_W (X_Model_fills (d + 69)) 194 [some (.ref 0), some (.int x1), some (.int x2), some (.int x3), some (.int x4), some (.int x5), none, none, none] [] h Q :=
  (am_bd e).elim fun p hp => b_Model_fills_194 (d := (d + 68)) (k := c_Model_byClub (d := d + 66) hp.1 (t_Model_fills_202 hk42 hk49 hk185 hp.2 q))
theorem t_Model_fills_185 {d : Nat} {k42 : am_H → Int32 → Int32 → Option (am_H)} {k49 : am_H → Int32 → Int32 → Int32 → Option (am_H)} {k185 : am_H → Int32 → Int32 → Int32 → Int32 → Int32 → Option (am_H)} {x1 : Int32} {x2 : Int32} {x3 : Int32} {x4 : Int32} {x5 : Int32} {h : am_H} {Q : am_Q} {res : am_H} (hk42 : ∀ (x1 : Int32) (x2 : Int32) (h : am_H), k42 h x1 x2 = some res → am_W (X_Model_fills (d + 69)) 42 [some (.ref 0), some (.int x1), some (.int x2), none, none, none, none, none, none] [] h Q) (hk49 : ∀ (x1 : Int32) (x2 : Int32) (x3 : Int32) (h : am_H), k49 h x1 x2 x3 = some res → am_W (X_Model_fills (d + 69)) 49 [some (.ref 0), some (.int x1), some (.int x2), some (.int x3), none, none, none, none, none] [] h Q) (hk185 : ∀ (x1 : Int32) (x2 : Int32) (x3 : Int32) (x4 : Int32) (x5 : Int32) (h : am_H), k185 h x1 x2 x3 x4 x5 = some res → am_W (X_Model_fills (d + 69)) 185 [some (.ref 0), some (.int x1), some (.int x2), some (.int x3), some (.int x4), some (.int x5), none, none, none] [] h Q) (e : f_Model_fills_185 k42 k49 k185 h x1 x2 x3 x4 x5 = some res) (q : Q none res) : am_W (X_Model_fills (d + 69)) 185 [some (.ref 0), some (.int x1), some (.int x2), some (.int x3), some (.int x4), some (.int x5), none, none, none] [] h Q :=
  b_Model_fills_185 (d := (d + 69)) (kt := fun c => (am_wk2 (t_Model_fills_288 hk42 hk49 (am_ift e c) q) ⟨rfl, ⟨rfl, ⟨rfl, ⟨rfl, ⟨rfl, trivial⟩⟩⟩⟩⟩)) (kf := fun c => (t_Model_fills_194 hk42 hk49 hk185 (am_ife e c) q))
theorem t_Model_fills_185_l {d : Nat} {k42 : am_H → Int32 → Int32 → Option (am_H)} {k49 : am_H → Int32 → Int32 → Int32 → Option (am_H)} {Q : am_Q} {res : am_H} (hk42 : ∀ (x1 : Int32) (x2 : Int32) (h : am_H), k42 h x1 x2 = some res → am_W (X_Model_fills (d + 69)) 42 [some (.ref 0), some (.int x1), some (.int x2), none, none, none, none, none, none] [] h Q) (hk49 : ∀ (x1 : Int32) (x2 : Int32) (x3 : Int32) (h : am_H), k49 h x1 x2 x3 = some res → am_W (X_Model_fills (d + 69)) 49 [some (.ref 0), some (.int x1), some (.int x2), some (.int x3), none, none, none, none, none] [] h Q) (q : Q none res) : ∀ (n : Nat) (x1 : Int32) (x2 : Int32) (x3 : Int32) (x4 : Int32) (x5 : Int32) (h : am_H), f_Model_fills_185_l k42 k49 n h x1 x2 x3 x4 x5 = some res → am_W (X_Model_fills (d + 69)) 185 [some (.ref 0), some (.int x1), some (.int x2), some (.int x3), some (.int x4), some (.int x5), none, none, none] [] h Q := by
  intro n
  induction n with
  | zero => intro x1 x2 x3 x4 x5 h e; exact am_nn e
  | succ n ih => intro x1 x2 x3 x4 x5 h e; exact t_Model_fills_185 hk42 hk49 (fun x1 x2 x3 x4 x5 h e => ih x1 x2 x3 x4 x5 h  e) e q
theorem t_Model_fills_182 {d : Nat} {k42 : am_H → Int32 → Int32 → Option (am_H)} {k49 : am_H → Int32 → Int32 → Int32 → Option (am_H)} {x1 : Int32} {x2 : Int32} {x3 : Int32} {x4 : Int32} {h : am_H} {Q : am_Q} {res : am_H} (hk42 : ∀ (x1 : Int32) (x2 : Int32) (h : am_H), k42 h x1 x2 = some res → am_W (X_Model_fills (d + 69)) 42 [some (.ref 0), some (.int x1), some (.int x2), none, none, none, none, none, none] [] h Q) (hk49 : ∀ (x1 : Int32) (x2 : Int32) (x3 : Int32) (h : am_H), k49 h x1 x2 x3 = some res → am_W (X_Model_fills (d + 69)) 49 [some (.ref 0), some (.int x1), some (.int x2), some (.int x3), none, none, none, none, none] [] h Q) (e : f_Model_fills_182 k42 k49 h x1 x2 x3 x4 = some res) (q : Q none res) : am_W (X_Model_fills (d + 69)) 182 [some (.ref 0), some (.int x1), some (.int x2), some (.int x3), some (.int x4), none, none, none, none] [] h Q :=
  b_Model_fills_182 (d := (d + 69)) (k := (t_Model_fills_185_l hk42 hk49 q am_fu _ _ _ _ _ _ e))
theorem t_Model_fills_178 {d : Nat} {k42 : am_H → Int32 → Int32 → Option (am_H)} {k49 : am_H → Int32 → Int32 → Int32 → Option (am_H)} {x1 : Int32} {x2 : Int32} {x3 : Int32} {x4 : Int32} {y2 : Int64} {y1 : Int32} {h : am_H} {Q : am_Q} {res : am_H} (hk42 : ∀ (x1 : Int32) (x2 : Int32) (h : am_H), k42 h x1 x2 = some res → am_W (X_Model_fills (d + 69)) 42 [some (.ref 0), some (.int x1), some (.int x2), none, none, none, none, none, none] [] h Q) (hk49 : ∀ (x1 : Int32) (x2 : Int32) (x3 : Int32) (h : am_H), k49 h x1 x2 x3 = some res → am_W (X_Model_fills (d + 69)) 49 [some (.ref 0), some (.int x1), some (.int x2), some (.int x3), none, none, none, none, none] [] h Q) (e : f_Model_fills_178 k42 k49 h x1 x2 x3 y2 y1 = some res) (q : Q none res) : am_W (X_Model_fills (d + 69)) 178 [some (.ref 0), some (.int x1), some (.int x2), some (.int x3), some (.int x4), none, none, none, none] [.long y2, .int y1, .ref 8] h Q :=
  b_Model_fills_178 (d := (d + 69)) (q0 := (am_okv (am_gd e))) (k := (t_Model_fills_288 hk42 hk49 (am_ga e) q))
theorem t_Model_fills_158 {d : Nat} {k42 : am_H → Int32 → Int32 → Option (am_H)} {k49 : am_H → Int32 → Int32 → Int32 → Option (am_H)} {x1 : Int32} {x2 : Int32} {x3 : Int32} {x4 : Int32} {y2 : Int32} {y1 : Int32} {h : am_H} {Q : am_Q} {res : am_H} (hk42 : ∀ (x1 : Int32) (x2 : Int32) (h : am_H), k42 h x1 x2 = some res → am_W (X_Model_fills (d + 69)) 42 [some (.ref 0), some (.int x1), some (.int x2), none, none, none, none, none, none] [] h Q) (hk49 : ∀ (x1 : Int32) (x2 : Int32) (x3 : Int32) (h : am_H), k49 h x1 x2 x3 = some res → am_W (X_Model_fills (d + 69)) 49 [some (.ref 0), some (.int x1), some (.int x2), some (.int x3), none, none, none, none, none] [] h Q) (e : f_Model_fills_158 k42 k49 h x1 x2 x3 x4 y2 y1 = some res) (q : Q none res) : am_W (X_Model_fills (d + 69)) 158 [some (.ref 0), some (.int x1), some (.int x2), some (.int x3), some (.int x4), none, none, none, none] [.int y2, .int y1, .ref 9] h Q :=
  (am_bd (am_ga (am_ga e))).elim fun p hp => b_Model_fills_158 (d := (d + 68)) (q0 := (am_okv (am_gd e))) (q1 := (am_okv (am_gd (am_ga e)))) (k := c_Model_byClub (d := d + 66) hp.1 (t_Model_fills_178 hk42 hk49 hp.2 q))
theorem t_Model_fills_146 {d : Nat} {k42 : am_H → Int32 → Int32 → Option (am_H)} {k49 : am_H → Int32 → Int32 → Int32 → Option (am_H)} {x1 : Int32} {x2 : Int32} {x3 : Int32} {x4 : Int32} {h : am_H} {Q : am_Q} {res : am_H} (hk42 : ∀ (x1 : Int32) (x2 : Int32) (h : am_H), k42 h x1 x2 = some res → am_W (X_Model_fills (d + 69)) 42 [some (.ref 0), some (.int x1), some (.int x2), none, none, none, none, none, none] [] h Q) (hk49 : ∀ (x1 : Int32) (x2 : Int32) (x3 : Int32) (h : am_H), k49 h x1 x2 x3 = some res → am_W (X_Model_fills (d + 69)) 49 [some (.ref 0), some (.int x1), some (.int x2), some (.int x3), none, none, none, none, none] [] h Q) (e : f_Model_fills_146 k42 k49 h x1 x2 x3 x4 = some res) (q : Q none res) : am_W (X_Model_fills (d + 69)) 146 [some (.ref 0), some (.int x1), some (.int x2), some (.int x3), some (.int x4), none, none, none, none] [] h Q :=
  (am_bd e).elim fun p hp => b_Model_fills_146 (d := (d + 68)) (k := c_Model_takenFrom (d := d) hp.1 (t_Model_fills_158 hk42 hk49 hp.2 q))
theorem t_Model_fills_141 {d : Nat} {k42 : am_H → Int32 → Int32 → Option (am_H)} {k49 : am_H → Int32 → Int32 → Int32 → Option (am_H)} {x1 : Int32} {x2 : Int32} {x3 : Int32} {x4 : Int32} {h : am_H} {Q : am_Q} {res : am_H} (hk42 : ∀ (x1 : Int32) (x2 : Int32) (h : am_H), k42 h x1 x2 = some res → am_W (X_Model_fills (d + 69)) 42 [some (.ref 0), some (.int x1), some (.int x2), none, none, none, none, none, none] [] h Q) (hk49 : ∀ (x1 : Int32) (x2 : Int32) (x3 : Int32) (h : am_H), k49 h x1 x2 x3 = some res → am_W (X_Model_fills (d + 69)) 49 [some (.ref 0), some (.int x1), some (.int x2), some (.int x3), none, none, none, none, none] [] h Q) (e : f_Model_fills_141 k42 k49 h x1 x2 x3 x4 = some res) (q : Q none res) : am_W (X_Model_fills (d + 69)) 141 [some (.ref 0), some (.int x1), some (.int x2), some (.int x3), some (.int x4), none, none, none, none] [] h Q :=
  b_Model_fills_141 (d := (d + 69)) (kt := fun c => (t_Model_fills_182 hk42 hk49 (am_ife e c) q)) (kf := fun c => (t_Model_fills_146 hk42 hk49 (am_ift e c) q))
theorem t_Model_fills_100 {d : Nat} {k42 : am_H → Int32 → Int32 → Option (am_H)} {k49 : am_H → Int32 → Int32 → Int32 → Option (am_H)} {x1 : Int32} {x2 : Int32} {x3 : Int32} {x4 : Int32} {h : am_H} {Q : am_Q} {res : am_H} (hk42 : ∀ (x1 : Int32) (x2 : Int32) (h : am_H), k42 h x1 x2 = some res → am_W (X_Model_fills (d + 69)) 42 [some (.ref 0), some (.int x1), some (.int x2), none, none, none, none, none, none] [] h Q) (hk49 : ∀ (x1 : Int32) (x2 : Int32) (x3 : Int32) (h : am_H), k49 h x1 x2 x3 = some res → am_W (X_Model_fills (d + 69)) 49 [some (.ref 0), some (.int x1), some (.int x2), some (.int x3), none, none, none, none, none] [] h Q) (e : f_Model_fills_100 k42 k49 h x1 x2 x3 x4 = some res) (q : Q none res) : am_W (X_Model_fills (d + 69)) 100 [some (.ref 0), some (.int x1), some (.int x2), some (.int x3), some (.int x4), none, none, none, none] [] h Q :=
  b_Model_fills_100 (d := (d + 69)) (kt := fun c => (t_Model_fills_141 hk42 hk49 (am_ife e c) q)) (kf := fun c => (t_Model_fills_107 hk42 hk49 (am_ift e c) q))
theorem t_Model_fills_96 {d : Nat} {k42 : am_H → Int32 → Int32 → Option (am_H)} {k49 : am_H → Int32 → Int32 → Int32 → Option (am_H)} {x1 : Int32} {x2 : Int32} {x3 : Int32} {x4 : Int32} {h : am_H} {Q : am_Q} {res : am_H} (hk42 : ∀ (x1 : Int32) (x2 : Int32) (h : am_H), k42 h x1 x2 = some res → am_W (X_Model_fills (d + 69)) 42 [some (.ref 0), some (.int x1), some (.int x2), none, none, none, none, none, none] [] h Q) (hk49 : ∀ (x1 : Int32) (x2 : Int32) (x3 : Int32) (h : am_H), k49 h x1 x2 x3 = some res → am_W (X_Model_fills (d + 69)) 49 [some (.ref 0), some (.int x1), some (.int x2), some (.int x3), none, none, none, none, none] [] h Q) (e : f_Model_fills_96 k42 k49 h x1 x2 x3 x4 = some res) (q : Q none res) : am_W (X_Model_fills (d + 69)) 96 [some (.ref 0), some (.int x1), some (.int x2), some (.int x3), some (.int x4), none, none, none, none] [] h Q :=
  b_Model_fills_96 (d := (d + 69)) (kt := fun c => (t_Model_fills_107 hk42 hk49 (am_ift e c) q)) (kf := fun c => (t_Model_fills_100 hk42 hk49 (am_ife e c) q))
theorem t_Model_fills_92 {d : Nat} {k42 : am_H → Int32 → Int32 → Option (am_H)} {k49 : am_H → Int32 → Int32 → Int32 → Option (am_H)} {x1 : Int32} {x2 : Int32} {x3 : Int32} {x4 : Int32} {y2 : Int64} {y1 : Int32} {h : am_H} {Q : am_Q} {res : am_H} (hk42 : ∀ (x1 : Int32) (x2 : Int32) (h : am_H), k42 h x1 x2 = some res → am_W (X_Model_fills (d + 69)) 42 [some (.ref 0), some (.int x1), some (.int x2), none, none, none, none, none, none] [] h Q) (hk49 : ∀ (x1 : Int32) (x2 : Int32) (x3 : Int32) (h : am_H), k49 h x1 x2 x3 = some res → am_W (X_Model_fills (d + 69)) 49 [some (.ref 0), some (.int x1), some (.int x2), some (.int x3), none, none, none, none, none] [] h Q) (e : f_Model_fills_92 k42 k49 h x1 x2 x3 y2 y1 = some res) (q : Q none res) : am_W (X_Model_fills (d + 69)) 92 [some (.ref 0), some (.int x1), some (.int x2), some (.int x3), some (.int x4), none, none, none, none] [.long y2, .int y1, .ref 8] h Q :=
  b_Model_fills_92 (d := (d + 69)) (q0 := (am_okv (am_gd e))) (k := (t_Model_fills_288 hk42 hk49 (am_ga e) q))
theorem t_Model_fills_80 {d : Nat} {k42 : am_H → Int32 → Int32 → Option (am_H)} {k49 : am_H → Int32 → Int32 → Int32 → Option (am_H)} {x1 : Int32} {x2 : Int32} {x3 : Int32} {x4 : Int32} {h : am_H} {Q : am_Q} {res : am_H} (hk42 : ∀ (x1 : Int32) (x2 : Int32) (h : am_H), k42 h x1 x2 = some res → am_W (X_Model_fills (d + 69)) 42 [some (.ref 0), some (.int x1), some (.int x2), none, none, none, none, none, none] [] h Q) (hk49 : ∀ (x1 : Int32) (x2 : Int32) (x3 : Int32) (h : am_H), k49 h x1 x2 x3 = some res → am_W (X_Model_fills (d + 69)) 49 [some (.ref 0), some (.int x1), some (.int x2), some (.int x3), none, none, none, none, none] [] h Q) (e : f_Model_fills_80 k42 k49 h x1 x2 x3 x4 = some res) (q : Q none res) : am_W (X_Model_fills (d + 69)) 80 [some (.ref 0), some (.int x1), some (.int x2), some (.int x3), some (.int x4), none, none, none, none] [] h Q :=
  (am_bd e).elim fun p hp => b_Model_fills_80 (d := (d + 68)) (k := c_Model_onGreen (d := d + 68) hp.1 (t_Model_fills_92 hk42 hk49 hp.2 q))
theorem t_Model_fills_77 {d : Nat} {k42 : am_H → Int32 → Int32 → Option (am_H)} {k49 : am_H → Int32 → Int32 → Int32 → Option (am_H)} {x1 : Int32} {x2 : Int32} {x3 : Int32} {x4 : Int32} {y0 : Bool} {h : am_H} {Q : am_Q} {res : am_H} (hk42 : ∀ (x1 : Int32) (x2 : Int32) (h : am_H), k42 h x1 x2 = some res → am_W (X_Model_fills (d + 69)) 42 [some (.ref 0), some (.int x1), some (.int x2), none, none, none, none, none, none] [] h Q) (hk49 : ∀ (x1 : Int32) (x2 : Int32) (x3 : Int32) (h : am_H), k49 h x1 x2 x3 = some res → am_W (X_Model_fills (d + 69)) 49 [some (.ref 0), some (.int x1), some (.int x2), some (.int x3), none, none, none, none, none] [] h Q) (e : f_Model_fills_77 k42 k49 h x1 x2 x3 x4 y0 = some res) (q : Q none res) : am_W (X_Model_fills (d + 69)) 77 [some (.ref 0), some (.int x1), some (.int x2), some (.int x3), some (.int x4), none, none, none, none] [.int (am_b y0)] h Q :=
  b_Model_fills_77 (d := (d + 69)) (kt := fun c => (t_Model_fills_96 hk42 hk49 (am_iff e (am_bz c)) q)) (kf := fun c => (t_Model_fills_80 hk42 hk49 (am_ift e (am_bn c)) q))
theorem t_Model_fills_55 {d : Nat} {k42 : am_H → Int32 → Int32 → Option (am_H)} {k49 : am_H → Int32 → Int32 → Int32 → Option (am_H)} {x1 : Int32} {x2 : Int32} {x3 : Int32} {h : am_H} {Q : am_Q} {res : am_H} (hk42 : ∀ (x1 : Int32) (x2 : Int32) (h : am_H), k42 h x1 x2 = some res → am_W (X_Model_fills (d + 69)) 42 [some (.ref 0), some (.int x1), some (.int x2), none, none, none, none, none, none] [] h Q) (hk49 : ∀ (x1 : Int32) (x2 : Int32) (x3 : Int32) (h : am_H), k49 h x1 x2 x3 = some res → am_W (X_Model_fills (d + 69)) 49 [some (.ref 0), some (.int x1), some (.int x2), some (.int x3), none, none, none, none, none] [] h Q) (e : f_Model_fills_55 k42 k49 h x1 x2 x3 = some res) (q : Q none res) : am_W (X_Model_fills (d + 69)) 55 [some (.ref 0), some (.int x1), some (.int x2), some (.int x3), none, none, none, none, none] [] h Q :=
  (am_bd (am_ga e)).elim fun p hp => b_Model_fills_55 (d := (d + 68)) (q0 := (am_okv (am_gd e))) (k := c_Model_isGreen (d := d + 68) hp.1 (t_Model_fills_77 hk42 hk49 hp.2 q))
theorem t_Model_fills_49 {d : Nat} {k42 : am_H → Int32 → Int32 → Option (am_H)} {k49 : am_H → Int32 → Int32 → Int32 → Option (am_H)} {x1 : Int32} {x2 : Int32} {x3 : Int32} {h : am_H} {Q : am_Q} {res : am_H} (hk42 : ∀ (x1 : Int32) (x2 : Int32) (h : am_H), k42 h x1 x2 = some res → am_W (X_Model_fills (d + 69)) 42 [some (.ref 0), some (.int x1), some (.int x2), none, none, none, none, none, none] [] h Q) (hk49 : ∀ (x1 : Int32) (x2 : Int32) (x3 : Int32) (h : am_H), k49 h x1 x2 x3 = some res → am_W (X_Model_fills (d + 69)) 49 [some (.ref 0), some (.int x1), some (.int x2), some (.int x3), none, none, none, none, none] [] h Q) (e : f_Model_fills_49 k42 k49 h x1 x2 x3 = some res) (q : Q none res) : am_W (X_Model_fills (d + 69)) 49 [some (.ref 0), some (.int x1), some (.int x2), some (.int x3), none, none, none, none, none] [] h Q :=
  b_Model_fills_49 (d := (d + 69)) (kt := fun c => (t_Model_fills_294 hk42 (am_ift e c) q)) (kf := fun c => (t_Model_fills_55 hk42 hk49 (am_ife e c) q))
theorem t_Model_fills_49_l {d : Nat} {k42 : am_H → Int32 → Int32 → Option (am_H)} {Q : am_Q} {res : am_H} (hk42 : ∀ (x1 : Int32) (x2 : Int32) (h : am_H), k42 h x1 x2 = some res → am_W (X_Model_fills (d + 69)) 42 [some (.ref 0), some (.int x1), some (.int x2), none, none, none, none, none, none] [] h Q) (q : Q none res) : ∀ (n : Nat) (x1 : Int32) (x2 : Int32) (x3 : Int32) (h : am_H), f_Model_fills_49_l k42 n h x1 x2 x3 = some res → am_W (X_Model_fills (d + 69)) 49 [some (.ref 0), some (.int x1), some (.int x2), some (.int x3), none, none, none, none, none] [] h Q := by
  intro n
  induction n with
  | zero => intro x1 x2 x3 h e; exact am_nn e
  | succ n ih => intro x1 x2 x3 h e; exact t_Model_fills_49 hk42 (fun x1 x2 x3 h e => ih x1 x2 x3 h  e) e q
theorem t_Model_fills_47 {d : Nat} {k42 : am_H → Int32 → Int32 → Option (am_H)} {x1 : Int32} {x2 : Int32} {h : am_H} {Q : am_Q} {res : am_H} (hk42 : ∀ (x1 : Int32) (x2 : Int32) (h : am_H), k42 h x1 x2 = some res → am_W (X_Model_fills (d + 69)) 42 [some (.ref 0), some (.int x1), some (.int x2), none, none, none, none, none, none] [] h Q) (e : f_Model_fills_47 k42 h x1 x2 = some res) (q : Q none res) : am_W (X_Model_fills (d + 69)) 47 [some (.ref 0), some (.int x1), some (.int x2), none, none, none, none, none, none] [] h Q :=
  b_Model_fills_47 (d := (d + 69)) (k := (t_Model_fills_49_l hk42 q am_fu _ _ _ _ e))
theorem t_Model_fills_42 {d : Nat} {k42 : am_H → Int32 → Int32 → Option (am_H)} {x1 : Int32} {x2 : Int32} {h : am_H} {Q : am_Q} {res : am_H} (hk42 : ∀ (x1 : Int32) (x2 : Int32) (h : am_H), k42 h x1 x2 = some res → am_W (X_Model_fills (d + 69)) 42 [some (.ref 0), some (.int x1), some (.int x2), none, none, none, none, none, none] [] h Q) (e : f_Model_fills_42 k42 h x1 x2 = some res) (q : Q none res) : am_W (X_Model_fills (d + 69)) 42 [some (.ref 0), some (.int x1), some (.int x2), none, none, none, none, none, none] [] h Q :=
  b_Model_fills_42 (d := (d + 69)) (kt := fun c => (t_Model_fills_300 (am_ift e c) q)) (kf := fun c => (t_Model_fills_47 hk42 (am_ife e c) q))
theorem t_Model_fills_42_l {d : Nat} {Q : am_Q} {res : am_H} (q : Q none res) : ∀ (n : Nat) (x1 : Int32) (x2 : Int32) (h : am_H), f_Model_fills_42_l n h x1 x2 = some res → am_W (X_Model_fills (d + 69)) 42 [some (.ref 0), some (.int x1), some (.int x2), none, none, none, none, none, none] [] h Q := by
  intro n
  induction n with
  | zero => intro x1 x2 h e; exact am_nn e
  | succ n ih => intro x1 x2 h e; exact t_Model_fills_42 (fun x1 x2 h e => ih x1 x2 h  e) e q
theorem t_Model_fills_40 {d : Nat} {x1 : Int32} {x2 : Int32} {h : am_H} {Q : am_Q} {res : am_H} (e : f_Model_fills_40 h x1 = some res) (q : Q none res) : am_W (X_Model_fills (d + 69)) 40 [some (.ref 0), some (.int x1), some (.int x2), none, none, none, none, none, none] [] h Q :=
  b_Model_fills_40 (d := (d + 69)) (k := (t_Model_fills_42_l q am_fu _ _ _ e))
theorem t_Model_fills_16 {d : Nat} {k11 : am_H → Int32 → Int32 → Option (am_H)} {x1 : Int32} {x2 : Int32} {h : am_H} {Q : am_Q} {res : am_H} (hk11 : ∀ (x1 : Int32) (x2 : Int32) (h : am_H), k11 h x1 x2 = some res → am_W (X_Model_fills (d + 69)) 11 [some (.ref 0), some (.int x1), some (.int x2), none, none, none, none, none, none] [] h Q) (e : f_Model_fills_16 k11 h x1 x2 = some res) (q : Q none res) : am_W (X_Model_fills (d + 69)) 16 [some (.ref 0), some (.int x1), some (.int x2), none, none, none, none, none, none] [] h Q :=
  b_Model_fills_16 (d := (d + 69)) (q0 := (am_okv (am_gd e))) (q1 := (am_okv (am_gd (am_ga e)))) (k := (hk11 _ _ _ (am_ga (am_ga e))))
theorem t_Model_fills_11 {d : Nat} {k11 : am_H → Int32 → Int32 → Option (am_H)} {x1 : Int32} {x2 : Int32} {h : am_H} {Q : am_Q} {res : am_H} (hk11 : ∀ (x1 : Int32) (x2 : Int32) (h : am_H), k11 h x1 x2 = some res → am_W (X_Model_fills (d + 69)) 11 [some (.ref 0), some (.int x1), some (.int x2), none, none, none, none, none, none] [] h Q) (e : f_Model_fills_11 k11 h x1 x2 = some res) (q : Q none res) : am_W (X_Model_fills (d + 69)) 11 [some (.ref 0), some (.int x1), some (.int x2), none, none, none, none, none, none] [] h Q :=
  b_Model_fills_11 (d := (d + 69)) (kt := fun c => (t_Model_fills_40 (am_ift e c) q)) (kf := fun c => (t_Model_fills_16 hk11 (am_ife e c) q))
theorem t_Model_fills_11_l {d : Nat} {Q : am_Q} {res : am_H} (q : Q none res) : ∀ (n : Nat) (x1 : Int32) (x2 : Int32) (h : am_H), f_Model_fills_11_l n h x1 x2 = some res → am_W (X_Model_fills (d + 69)) 11 [some (.ref 0), some (.int x1), some (.int x2), none, none, none, none, none, none] [] h Q := by
  intro n
  induction n with
  | zero => intro x1 x2 h e; exact am_nn e
  | succ n ih => intro x1 x2 h e; exact t_Model_fills_11 (fun x1 x2 h e => ih x1 x2 h  e) e q
theorem t_Model_fills_0 {d : Nat} {x1 : Int32} {h : am_H} {Q : am_Q} {res : am_H} (e : f_Model_fills h x1 = some res) (q : Q none res) : am_W (X_Model_fills (d + 69)) 0 [some (.ref 0), some (.int x1), none, none, none, none, none, none, none] [] h Q :=
  b_Model_fills_0 (d := (d + 69)) (k := (t_Model_fills_11_l q am_fu _ _ _ e))
theorem c_Model_fills {d : Nat} {x1 : Int32} {h : am_H} {Q : am_Q} {res : am_H} (e : f_Model_fills h x1 = some res) (q : Q none res) : m_Model_fills (d + 69) [.ref 0, .int x1] h Q :=
  e_Model_fills (t_Model_fills_0 e q)
theorem d_Model_strokes_0 : decode prog_12_method_49_code 0 = .ok (.iload_n 1, 1) := by decide +kernel
theorem d_Model_strokes_1 : decode prog_12_method_49_code 1 = .ok (.i2l, 1) := by decide +kernel
theorem d_Model_strokes_2 : decode prog_12_method_49_code 2 = .ok (.invokestatic 110, 3) := by decide +kernel
theorem d_Model_strokes_5 : decode prog_12_method_49_code 5 = .ok (.ifCond .eq 27, 3) := by decide +kernel
theorem d_Model_strokes_8 : decode prog_12_method_49_code 8 = .ok (.iload_n 2, 1) := by decide +kernel
theorem d_Model_strokes_9 : decode prog_12_method_49_code 9 = .ok (.i2l, 1) := by decide +kernel
theorem d_Model_strokes_10 : decode prog_12_method_49_code 10 = .ok (.lconst 0, 1) := by decide +kernel
theorem d_Model_strokes_11 : decode prog_12_method_49_code 11 = .ok (.ldc2_w 117, 3) := by decide +kernel
theorem d_Model_strokes_14 : decode prog_12_method_49_code 14 = .ok (.invokestatic 83, 3) := by decide +kernel
theorem d_Model_strokes_17 : decode prog_12_method_49_code 17 = .ok (.ifCond .eq 15, 3) := by decide +kernel
theorem d_Model_strokes_20 : decode prog_12_method_49_code 20 = .ok (.iload_n 3, 1) := by decide +kernel
theorem d_Model_strokes_21 : decode prog_12_method_49_code 21 = .ok (.i2l, 1) := by decide +kernel
theorem d_Model_strokes_22 : decode prog_12_method_49_code 22 = .ok (.lconst 0, 1) := by decide +kernel
theorem d_Model_strokes_23 : decode prog_12_method_49_code 23 = .ok (.ldc2_w 239, 3) := by decide +kernel
theorem d_Model_strokes_26 : decode prog_12_method_49_code 26 = .ok (.invokestatic 83, 3) := by decide +kernel
theorem d_Model_strokes_29 : decode prog_12_method_49_code 29 = .ok (.ifCond .ne 7, 3) := by decide +kernel
theorem d_Model_strokes_32 : decode prog_12_method_49_code 32 = .ok (.ldc2_w 223, 3) := by decide +kernel
theorem d_Model_strokes_35 : decode prog_12_method_49_code 35 = .ok (.lreturn, 1) := by decide +kernel
theorem d_Model_strokes_36 : decode prog_12_method_49_code 36 = .ok (.aload_n 0, 1) := by decide +kernel
theorem d_Model_strokes_37 : decode prog_12_method_49_code 37 = .ok (.iconst 0, 1) := by decide +kernel
theorem d_Model_strokes_38 : decode prog_12_method_49_code 38 = .ok (.invokevirtual 251, 3) := by decide +kernel
theorem d_Model_strokes_41 : decode prog_12_method_49_code 41 = .ok (.iload_n 3, 1) := by decide +kernel
theorem d_Model_strokes_42 : decode prog_12_method_49_code 42 = .ok (.iconst 2, 1) := by decide +kernel
theorem d_Model_strokes_43 : decode prog_12_method_49_code 43 = .ok (.if_icmp .ne 18, 3) := by decide +kernel
theorem d_Model_strokes_46 : decode prog_12_method_49_code 46 = .ok (.aload_n 0, 1) := by decide +kernel
theorem d_Model_strokes_47 : decode prog_12_method_49_code 47 = .ok (.getfield 37, 3) := by decide +kernel
theorem d_Model_strokes_50 : decode prog_12_method_49_code 50 = .ok (.bipush 31, 2) := by decide +kernel
theorem d_Model_strokes_52 : decode prog_12_method_49_code 52 = .ok (.iload_n 2, 1) := by decide +kernel
theorem d_Model_strokes_53 : decode prog_12_method_49_code 53 = .ok (.imul, 1) := by decide +kernel
theorem d_Model_strokes_54 : decode prog_12_method_49_code 54 = .ok (.iload_n 1, 1) := by decide +kernel
theorem d_Model_strokes_55 : decode prog_12_method_49_code 55 = .ok (.iadd, 1) := by decide +kernel
theorem d_Model_strokes_56 : decode prog_12_method_49_code 56 = .ok (.iaload, 1) := by decide +kernel
theorem d_Model_strokes_57 : decode prog_12_method_49_code 57 = .ok (.i2l, 1) := by decide +kernel
theorem d_Model_strokes_58 : decode prog_12_method_49_code 58 = .ok (.goto 24, 3) := by decide +kernel
theorem d_Model_strokes_61 : decode prog_12_method_49_code 61 = .ok (.aload_n 0, 1) := by decide +kernel
theorem d_Model_strokes_62 : decode prog_12_method_49_code 62 = .ok (.getfield 33, 3) := by decide +kernel
theorem d_Model_strokes_65 : decode prog_12_method_49_code 65 = .ok (.bipush 31, 2) := by decide +kernel
theorem d_Model_strokes_67 : decode prog_12_method_49_code 67 = .ok (.iload_n 2, 1) := by decide +kernel
theorem d_Model_strokes_68 : decode prog_12_method_49_code 68 = .ok (.imul, 1) := by decide +kernel
theorem d_Model_strokes_69 : decode prog_12_method_49_code 69 = .ok (.iload_n 1, 1) := by decide +kernel
theorem d_Model_strokes_70 : decode prog_12_method_49_code 70 = .ok (.iadd, 1) := by decide +kernel
theorem d_Model_strokes_71 : decode prog_12_method_49_code 71 = .ok (.laload, 1) := by decide +kernel
theorem d_Model_strokes_72 : decode prog_12_method_49_code 72 = .ok (.aload_n 0, 1) := by decide +kernel
theorem d_Model_strokes_73 : decode prog_12_method_49_code 73 = .ok (.getfield 40, 3) := by decide +kernel
theorem d_Model_strokes_76 : decode prog_12_method_49_code 76 = .ok (.iload_n 2, 1) := by decide +kernel
theorem d_Model_strokes_77 : decode prog_12_method_49_code 77 = .ok (.laload, 1) := by decide +kernel
theorem d_Model_strokes_78 : decode prog_12_method_49_code 78 = .ok (.iload_n 3, 1) := by decide +kernel
theorem d_Model_strokes_79 : decode prog_12_method_49_code 79 = .ok (.invokestatic 229, 3) := by decide +kernel
theorem d_Model_strokes_82 : decode prog_12_method_49_code 82 = .ok (.lreturn, 1) := by decide +kernel
theorem b_Model_strokes_0 {d : Nat} {x1 : Int32} {x2 : Int32} {x3 : Int32} {h : am_H} {Q : am_Q} (k : m_Model_isCell d [.long x1.toInt64] h (fun r hh => am_W (X_Model_strokes (d + 1)) 5 [some (.ref 0), some (.int x1), some (.int x2), some (.int x3)] (r.toList ++ []) hh Q)) : am_W (X_Model_strokes (d + 1)) 0 [some (.ref 0), some (.int x1), some (.int x2), some (.int x3)] [] h Q :=
  am_iload_n d_Model_strokes_0 rfl (i := 1) rfl <|
    am_i2l d_Model_strokes_1 <|
    am_callS (vs := [.long x1.toInt64]) (st := []) rfl d_Model_strokes_2 w_1469 w_1470 w_94 w_1471 p_Model_isCell (Nat.le_of_ble_eq_true rfl) (Nat.le_of_ble_eq_true rfl) rfl k
theorem b_Model_strokes_5 {d : Nat} {x1 : Int32} {x2 : Int32} {x3 : Int32} {y0 : Bool} {h : am_H} {Q : am_Q} (kt : (am_b y0) = 0 → am_W (X_Model_strokes d) 32 [some (.ref 0), some (.int x1), some (.int x2), some (.int x3)] [] h Q) (kf : ¬ (am_b y0) = 0 → am_W (X_Model_strokes d) 8 [some (.ref 0), some (.int x1), some (.int x2), some (.int x3)] [] h Q) : am_W (X_Model_strokes d) 5 [some (.ref 0), some (.int x1), some (.int x2), some (.int x3)] [.int (am_b y0)] h Q :=
  am_if_eq (tgt := 32) d_Model_strokes_5 (by decide) kt kf
theorem b_Model_strokes_8 {d : Nat} {x1 : Int32} {x2 : Int32} {x3 : Int32} {h : am_H} {Q : am_Q} (k : m_Model_within d [.long x2.toInt64, .long 0, .long 4] h (fun r hh => am_W (X_Model_strokes (d + 1)) 17 [some (.ref 0), some (.int x1), some (.int x2), some (.int x3)] (r.toList ++ []) hh Q)) : am_W (X_Model_strokes (d + 1)) 8 [some (.ref 0), some (.int x1), some (.int x2), some (.int x3)] [] h Q :=
  am_iload_n d_Model_strokes_8 rfl (i := 2) rfl <|
    am_i2l d_Model_strokes_9 <|
    am_lconst (v := 0) d_Model_strokes_10 (by decide) <|
    am_ldc2 (v := 4) d_Model_strokes_11 w_1476 <|
    am_callS (vs := [.long x2.toInt64, .long 0, .long 4]) (st := []) rfl d_Model_strokes_14 w_1443 w_1444 w_94 w_1445 p_Model_within (Nat.le_of_ble_eq_true rfl) (Nat.le_of_ble_eq_true rfl) rfl k
theorem b_Model_strokes_17 {d : Nat} {x1 : Int32} {x2 : Int32} {x3 : Int32} {y0 : Bool} {h : am_H} {Q : am_Q} (kt : (am_b y0) = 0 → am_W (X_Model_strokes d) 32 [some (.ref 0), some (.int x1), some (.int x2), some (.int x3)] [] h Q) (kf : ¬ (am_b y0) = 0 → am_W (X_Model_strokes d) 20 [some (.ref 0), some (.int x1), some (.int x2), some (.int x3)] [] h Q) : am_W (X_Model_strokes d) 17 [some (.ref 0), some (.int x1), some (.int x2), some (.int x3)] [.int (am_b y0)] h Q :=
  am_if_eq (tgt := 32) d_Model_strokes_17 (by decide) kt kf
theorem b_Model_strokes_20 {d : Nat} {x1 : Int32} {x2 : Int32} {x3 : Int32} {h : am_H} {Q : am_Q} (k : m_Model_within d [.long x3.toInt64, .long 0, .long 2] h (fun r hh => am_W (X_Model_strokes (d + 1)) 29 [some (.ref 0), some (.int x1), some (.int x2), some (.int x3)] (r.toList ++ []) hh Q)) : am_W (X_Model_strokes (d + 1)) 20 [some (.ref 0), some (.int x1), some (.int x2), some (.int x3)] [] h Q :=
  am_iload_n d_Model_strokes_20 rfl (i := 3) rfl <|
    am_i2l d_Model_strokes_21 <|
    am_lconst (v := 0) d_Model_strokes_22 (by decide) <|
    am_ldc2 (v := 2) d_Model_strokes_23 w_1616 <|
    am_callS (vs := [.long x3.toInt64, .long 0, .long 2]) (st := []) rfl d_Model_strokes_26 w_1443 w_1444 w_94 w_1445 p_Model_within (Nat.le_of_ble_eq_true rfl) (Nat.le_of_ble_eq_true rfl) rfl k
theorem b_Model_strokes_29 {d : Nat} {x1 : Int32} {x2 : Int32} {x3 : Int32} {y0 : Bool} {h : am_H} {Q : am_Q} (kt : ¬ (am_b y0) = 0 → am_W (X_Model_strokes d) 36 [some (.ref 0), some (.int x1), some (.int x2), some (.int x3)] [] h Q) (kf : (am_b y0) = 0 → am_W (X_Model_strokes d) 32 [some (.ref 0), some (.int x1), some (.int x2), some (.int x3)] [] h Q) : am_W (X_Model_strokes d) 29 [some (.ref 0), some (.int x1), some (.int x2), some (.int x3)] [.int (am_b y0)] h Q :=
  am_if_ne (tgt := 36) d_Model_strokes_29 (by decide) kt kf
theorem b_Model_strokes_32 {d : Nat} {x1 : Int32} {x2 : Int32} {x3 : Int32} {h : am_H} {Q : am_Q} (q : Q (some (.long (-9223372036854775808))) h) : am_W (X_Model_strokes d) 32 [some (.ref 0), some (.int x1), some (.int x2), some (.int x3)] [] h Q :=
  am_ldc2 (v := (-9223372036854775808)) d_Model_strokes_32 w_1573 <|
    am_lret rfl d_Model_strokes_35 q
theorem b_Model_strokes_36 {d : Nat} {x1 : Int32} {x2 : Int32} {x3 : Int32} {h : am_H} {Q : am_Q} (k : m_Model_fills d [.ref 0, .int 0] h (fun r hh => am_W (X_Model_strokes (d + 1)) 41 [some (.ref 0), some (.int x1), some (.int x2), some (.int x3)] (r.toList ++ []) hh Q)) : am_W (X_Model_strokes (d + 1)) 36 [some (.ref 0), some (.int x1), some (.int x2), some (.int x3)] [] h Q :=
  am_aload_n d_Model_strokes_36 rfl (i := 0) rfl <|
    am_iconst (v := 0) d_Model_strokes_37 (by decide) <|
    am_callV (vs := [.int 0]) (st := []) (k := 0) (ci := 10) rfl d_Model_strokes_38 rfl rfl w_1617 w_1619 w_59 w_94 w_1620 p_Model_fills (Nat.le_of_ble_eq_true rfl) (Nat.le_of_ble_eq_true rfl) rfl k
theorem b_Model_strokes_41 {d : Nat} {x1 : Int32} {x2 : Int32} {x3 : Int32} {h : am_H} {Q : am_Q} (kt : ¬ x3 = 2 → am_W (X_Model_strokes d) 61 [some (.ref 0), some (.int x1), some (.int x2), some (.int x3)] [] h Q) (kf : x3 = 2 → am_W (X_Model_strokes d) 46 [some (.ref 0), some (.int x1), some (.int x2), some (.int x3)] [] h Q) : am_W (X_Model_strokes d) 41 [some (.ref 0), some (.int x1), some (.int x2), some (.int x3)] [] h Q :=
  am_iload_n d_Model_strokes_41 rfl (i := 3) rfl <|
    am_iconst (v := 2) d_Model_strokes_42 (by decide) <|
    am_icmp_ne (tgt := 61) d_Model_strokes_43 (by decide) kt kf
theorem b_Model_strokes_46 {d : Nat} {x1 : Int32} {x2 : Int32} {x3 : Int32} {h : am_H} {Q : am_Q} (q0 : vp_in ((31 * x2) + x1) 155) (q : Q (some (.long ((h.1 9 ((31 * x2) + x1).toNatClampNeg).toInt64))) h) : am_W (X_Model_strokes d) 46 [some (.ref 0), some (.int x1), some (.int x2), some (.int x3)] [] h Q :=
  am_aload_n d_Model_strokes_46 rfl (i := 0) rfl <|
    am_getR (ci := 10) (i := 18) rfl rfl rfl (Nat.le_of_ble_eq_true rfl) w_1336 d_Model_strokes_47 <|
    am_bipush (v := 31) d_Model_strokes_50 (by decide) <|
    am_iload_n d_Model_strokes_52 rfl (i := 2) rfl <|
    am_imul d_Model_strokes_53 <|
    am_iload_n d_Model_strokes_54 rfl (i := 1) rfl <|
    am_iadd d_Model_strokes_55 <|
    am_iald rfl q0 d_Model_strokes_56 <|
    am_i2l d_Model_strokes_57 <|
    am_goto (tgt := 82) d_Model_strokes_58 (by decide) <|
    am_lret rfl d_Model_strokes_82 q
theorem b_Model_strokes_61 {d : Nat} {x1 : Int32} {x2 : Int32} {x3 : Int32} {h : am_H} {Q : am_Q} (q0 : vp_in ((31 * x2) + x1) 155) (q1 : vp_in x2 5) (k : m_Model_partOf d [.long (h.2 8 ((31 * x2) + x1).toNatClampNeg), .long (h.2 10 x2.toNatClampNeg), .int x3] h (fun r hh => am_W (X_Model_strokes (d + 1)) 82 [some (.ref 0), some (.int x1), some (.int x2), some (.int x3)] (r.toList ++ []) hh Q)) : am_W (X_Model_strokes (d + 1)) 61 [some (.ref 0), some (.int x1), some (.int x2), some (.int x3)] [] h Q :=
  am_aload_n d_Model_strokes_61 rfl (i := 0) rfl <|
    am_getR (ci := 10) (i := 17) rfl rfl rfl (Nat.le_of_ble_eq_true rfl) w_1335 d_Model_strokes_62 <|
    am_bipush (v := 31) d_Model_strokes_65 (by decide) <|
    am_iload_n d_Model_strokes_67 rfl (i := 2) rfl <|
    am_imul d_Model_strokes_68 <|
    am_iload_n d_Model_strokes_69 rfl (i := 1) rfl <|
    am_iadd d_Model_strokes_70 <|
    am_lald rfl q0 d_Model_strokes_71 <|
    am_aload_n d_Model_strokes_72 rfl (i := 0) rfl <|
    am_getR (ci := 10) (i := 19) rfl rfl rfl (Nat.le_of_ble_eq_true rfl) w_1337 d_Model_strokes_73 <|
    am_iload_n d_Model_strokes_76 rfl (i := 2) rfl <|
    am_lald rfl q1 d_Model_strokes_77 <|
    am_iload_n d_Model_strokes_78 rfl (i := 3) rfl <|
    am_callS (vs := [.long (h.2 8 ((31 * x2) + x1).toNatClampNeg), .long (h.2 10 x2.toNatClampNeg), .int x3]) (st := []) rfl d_Model_strokes_79 w_1590 w_1591 w_94 w_1592 p_Model_partOf (Nat.le_of_ble_eq_true rfl) (Nat.le_of_ble_eq_true rfl) rfl k
theorem b_Model_strokes_82 {d : Nat} {x1 : Int32} {x2 : Int32} {x3 : Int32} {y0 : Int64} {h : am_H} {Q : am_Q} (q : Q (some (.long y0)) h) : am_W (X_Model_strokes d) 82 [some (.ref 0), some (.int x1), some (.int x2), some (.int x3)] [.long y0] h Q :=
  am_lret rfl d_Model_strokes_82 q
theorem t_Model_strokes_32 {d : Nat} {x1 : Int32} {x2 : Int32} {x3 : Int32} {h : am_H} {Q : am_Q} {res : Int64 × am_H} (e : f_Model_strokes_32 h = some res) (q : Q (some (.long res.1)) res.2) : am_W (X_Model_strokes (d + 70)) 32 [some (.ref 0), some (.int x1), some (.int x2), some (.int x3)] [] h Q :=
  b_Model_strokes_32 (d := (d + 70)) (q := (am_rJpi (v := (-9223372036854775808)) e q))
theorem t_Model_strokes_82 {d : Nat} {x1 : Int32} {x2 : Int32} {x3 : Int32} {y0 : Int64} {h : am_H} {Q : am_Q} {res : Int64 × am_H} (e : f_Model_strokes_82 h y0 = some res) (q : Q (some (.long res.1)) res.2) : am_W (X_Model_strokes (d + 70)) 82 [some (.ref 0), some (.int x1), some (.int x2), some (.int x3)] [.long y0] h Q :=
  b_Model_strokes_82 (d := (d + 70)) (q := (am_rJpi (v := y0) e q))
theorem t_Model_strokes_61 {d : Nat} {x1 : Int32} {x2 : Int32} {x3 : Int32} {h : am_H} {Q : am_Q} {res : Int64 × am_H} (e : f_Model_strokes_61 h x1 x2 x3 = some res) (q : Q (some (.long res.1)) res.2) : am_W (X_Model_strokes (d + 70)) 61 [some (.ref 0), some (.int x1), some (.int x2), some (.int x3)] [] h Q :=
  (am_bd (am_ga (am_ga e))).elim fun p hp => b_Model_strokes_61 (d := (d + 69)) (q0 := (am_okv (am_gd e))) (q1 := (am_okv (am_gd (am_ga e)))) (k := c_Model_partOf (d := d + 68) hp.1 (t_Model_strokes_82 hp.2 q))
theorem t_Model_strokes_46 {d : Nat} {x1 : Int32} {x2 : Int32} {x3 : Int32} {h : am_H} {Q : am_Q} {res : Int64 × am_H} (e : f_Model_strokes_46 h x1 x2 = some res) (q : Q (some (.long res.1)) res.2) : am_W (X_Model_strokes (d + 70)) 46 [some (.ref 0), some (.int x1), some (.int x2), some (.int x3)] [] h Q :=
  b_Model_strokes_46 (d := (d + 70)) (q0 := (am_okv (am_gd e))) (q := (am_rJpi (v := (h.1 9 ((31 * x2) + x1).toNatClampNeg).toInt64) (am_ga e) q))
theorem t_Model_strokes_41 {d : Nat} {x1 : Int32} {x2 : Int32} {x3 : Int32} {h : am_H} {Q : am_Q} {res : Int64 × am_H} (e : f_Model_strokes_41 h x1 x2 x3 = some res) (q : Q (some (.long res.1)) res.2) : am_W (X_Model_strokes (d + 70)) 41 [some (.ref 0), some (.int x1), some (.int x2), some (.int x3)] [] h Q :=
  b_Model_strokes_41 (d := (d + 70)) (kt := fun c => (t_Model_strokes_61 (am_ife e c) q)) (kf := fun c => (t_Model_strokes_46 (am_ift e c) q))
theorem t_Model_strokes_36 {d : Nat} {x1 : Int32} {x2 : Int32} {x3 : Int32} {h : am_H} {Q : am_Q} {res : Int64 × am_H} (e : f_Model_strokes_36 h x1 x2 x3 = some res) (q : Q (some (.long res.1)) res.2) : am_W (X_Model_strokes (d + 70)) 36 [some (.ref 0), some (.int x1), some (.int x2), some (.int x3)] [] h Q :=
  (am_bd e).elim fun p hp => b_Model_strokes_36 (d := (d + 69)) (k := c_Model_fills (d := d) hp.1 (t_Model_strokes_41 hp.2 q))
theorem t_Model_strokes_29 {d : Nat} {x1 : Int32} {x2 : Int32} {x3 : Int32} {y0 : Bool} {h : am_H} {Q : am_Q} {res : Int64 × am_H} (e : f_Model_strokes_29 h x1 x2 x3 y0 = some res) (q : Q (some (.long res.1)) res.2) : am_W (X_Model_strokes (d + 70)) 29 [some (.ref 0), some (.int x1), some (.int x2), some (.int x3)] [.int (am_b y0)] h Q :=
  b_Model_strokes_29 (d := (d + 70)) (kt := fun c => (t_Model_strokes_36 (am_ift e (am_bn c)) q)) (kf := fun c => (t_Model_strokes_32 (am_iff e (am_bz c)) q))
theorem t_Model_strokes_20 {d : Nat} {x1 : Int32} {x2 : Int32} {x3 : Int32} {h : am_H} {Q : am_Q} {res : Int64 × am_H} (e : f_Model_strokes_20 h x1 x2 x3 = some res) (q : Q (some (.long res.1)) res.2) : am_W (X_Model_strokes (d + 70)) 20 [some (.ref 0), some (.int x1), some (.int x2), some (.int x3)] [] h Q :=
  b_Model_strokes_20 (d := (d + 69)) (k := c_Model_within (d := d + 69) rfl (t_Model_strokes_29 e q))
theorem t_Model_strokes_17 {d : Nat} {x1 : Int32} {x2 : Int32} {x3 : Int32} {y0 : Bool} {h : am_H} {Q : am_Q} {res : Int64 × am_H} (e : f_Model_strokes_17 h x1 x2 x3 y0 = some res) (q : Q (some (.long res.1)) res.2) : am_W (X_Model_strokes (d + 70)) 17 [some (.ref 0), some (.int x1), some (.int x2), some (.int x3)] [.int (am_b y0)] h Q :=
  b_Model_strokes_17 (d := (d + 70)) (kt := fun c => (t_Model_strokes_32 (am_iff e (am_bz c)) q)) (kf := fun c => (t_Model_strokes_20 (am_ift e (am_bn c)) q))
theorem t_Model_strokes_8 {d : Nat} {x1 : Int32} {x2 : Int32} {x3 : Int32} {h : am_H} {Q : am_Q} {res : Int64 × am_H} (e : f_Model_strokes_8 h x1 x2 x3 = some res) (q : Q (some (.long res.1)) res.2) : am_W (X_Model_strokes (d + 70)) 8 [some (.ref 0), some (.int x1), some (.int x2), some (.int x3)] [] h Q :=
  b_Model_strokes_8 (d := (d + 69)) (k := c_Model_within (d := d + 69) rfl (t_Model_strokes_17 e q))
theorem t_Model_strokes_5 {d : Nat} {x1 : Int32} {x2 : Int32} {x3 : Int32} {y0 : Bool} {h : am_H} {Q : am_Q} {res : Int64 × am_H} (e : f_Model_strokes_5 h x1 x2 x3 y0 = some res) (q : Q (some (.long res.1)) res.2) : am_W (X_Model_strokes (d + 70)) 5 [some (.ref 0), some (.int x1), some (.int x2), some (.int x3)] [.int (am_b y0)] h Q :=
  b_Model_strokes_5 (d := (d + 70)) (kt := fun c => (t_Model_strokes_32 (am_iff e (am_bz c)) q)) (kf := fun c => (t_Model_strokes_8 (am_ift e (am_bn c)) q))
theorem t_Model_strokes_0 {d : Nat} {x1 : Int32} {x2 : Int32} {x3 : Int32} {h : am_H} {Q : am_Q} {res : Int64 × am_H} (e : f_Model_strokes h x1 x2 x3 = some res) (q : Q (some (.long res.1)) res.2) : am_W (X_Model_strokes (d + 70)) 0 [some (.ref 0), some (.int x1), some (.int x2), some (.int x3)] [] h Q :=
  b_Model_strokes_0 (d := (d + 69)) (k := c_Model_isCell (d := d + 68) rfl (t_Model_strokes_5 e q))
theorem c_Model_strokes {d : Nat} {x1 : Int32} {x2 : Int32} {x3 : Int32} {h : am_H} {Q : am_Q} {res : Int64 × am_H} (e : f_Model_strokes h x1 x2 x3 = some res) (q : Q (some (.long res.1)) res.2) : m_Model_strokes (d + 70) [.ref 0, .int x1, .int x2, .int x3] h Q :=
  e_Model_strokes (t_Model_strokes_0 e q)
theorem d_Model_byLaw_0 : decode prog_12_method_50_code 0 = .ok (.iload_n 1, 1) := by decide +kernel
theorem d_Model_byLaw_1 : decode prog_12_method_50_code 1 = .ok (.i2l, 1) := by decide +kernel
theorem d_Model_byLaw_2 : decode prog_12_method_50_code 2 = .ok (.invokestatic 110, 3) := by decide +kernel
theorem d_Model_byLaw_5 : decode prog_12_method_50_code 5 = .ok (.ifCond .eq 25, 3) := by decide +kernel
theorem d_Model_byLaw_8 : decode prog_12_method_50_code 8 = .ok (.iload_n 2, 1) := by decide +kernel
theorem d_Model_byLaw_9 : decode prog_12_method_50_code 9 = .ok (.i2l, 1) := by decide +kernel
theorem d_Model_byLaw_10 : decode prog_12_method_50_code 10 = .ok (.lconst 0, 1) := by decide +kernel
theorem d_Model_byLaw_11 : decode prog_12_method_50_code 11 = .ok (.ldc2_w 117, 3) := by decide +kernel
theorem d_Model_byLaw_14 : decode prog_12_method_50_code 14 = .ok (.invokestatic 83, 3) := by decide +kernel
theorem d_Model_byLaw_17 : decode prog_12_method_50_code 17 = .ok (.ifCond .eq 13, 3) := by decide +kernel
theorem d_Model_byLaw_20 : decode prog_12_method_50_code 20 = .ok (.iload_n 3, 1) := by decide +kernel
theorem d_Model_byLaw_21 : decode prog_12_method_50_code 21 = .ok (.i2l, 1) := by decide +kernel
theorem d_Model_byLaw_22 : decode prog_12_method_50_code 22 = .ok (.lconst 0, 1) := by decide +kernel
theorem d_Model_byLaw_23 : decode prog_12_method_50_code 23 = .ok (.lconst 1, 1) := by decide +kernel
theorem d_Model_byLaw_24 : decode prog_12_method_50_code 24 = .ok (.invokestatic 83, 3) := by decide +kernel
theorem d_Model_byLaw_27 : decode prog_12_method_50_code 27 = .ok (.ifCond .ne 7, 3) := by decide +kernel
theorem d_Model_byLaw_30 : decode prog_12_method_50_code 30 = .ok (.ldc2_w 223, 3) := by decide +kernel
theorem d_Model_byLaw_33 : decode prog_12_method_50_code 33 = .ok (.lreturn, 1) := by decide +kernel
theorem d_Model_byLaw_34 : decode prog_12_method_50_code 34 = .ok (.aload_n 0, 1) := by decide +kernel
theorem d_Model_byLaw_35 : decode prog_12_method_50_code 35 = .ok (.iconst 1, 1) := by decide +kernel
theorem d_Model_byLaw_36 : decode prog_12_method_50_code 36 = .ok (.invokevirtual 251, 3) := by decide +kernel
theorem d_Model_byLaw_39 : decode prog_12_method_50_code 39 = .ok (.aload_n 0, 1) := by decide +kernel
theorem d_Model_byLaw_40 : decode prog_12_method_50_code 40 = .ok (.getfield 33, 3) := by decide +kernel
theorem d_Model_byLaw_43 : decode prog_12_method_50_code 43 = .ok (.bipush 31, 2) := by decide +kernel
theorem d_Model_byLaw_45 : decode prog_12_method_50_code 45 = .ok (.iload_n 2, 1) := by decide +kernel
theorem d_Model_byLaw_46 : decode prog_12_method_50_code 46 = .ok (.imul, 1) := by decide +kernel
theorem d_Model_byLaw_47 : decode prog_12_method_50_code 47 = .ok (.iload_n 1, 1) := by decide +kernel
theorem d_Model_byLaw_48 : decode prog_12_method_50_code 48 = .ok (.iadd, 1) := by decide +kernel
theorem d_Model_byLaw_49 : decode prog_12_method_50_code 49 = .ok (.laload, 1) := by decide +kernel
theorem d_Model_byLaw_50 : decode prog_12_method_50_code 50 = .ok (.aload_n 0, 1) := by decide +kernel
theorem d_Model_byLaw_51 : decode prog_12_method_50_code 51 = .ok (.getfield 40, 3) := by decide +kernel
theorem d_Model_byLaw_54 : decode prog_12_method_50_code 54 = .ok (.iload_n 2, 1) := by decide +kernel
theorem d_Model_byLaw_55 : decode prog_12_method_50_code 55 = .ok (.laload, 1) := by decide +kernel
theorem d_Model_byLaw_56 : decode prog_12_method_50_code 56 = .ok (.iload_n 3, 1) := by decide +kernel
theorem d_Model_byLaw_57 : decode prog_12_method_50_code 57 = .ok (.invokestatic 229, 3) := by decide +kernel
theorem d_Model_byLaw_60 : decode prog_12_method_50_code 60 = .ok (.lreturn, 1) := by decide +kernel
theorem b_Model_byLaw_0 {d : Nat} {x1 : Int32} {x2 : Int32} {x3 : Int32} {h : am_H} {Q : am_Q} (k : m_Model_isCell d [.long x1.toInt64] h (fun r hh => am_W (X_Model_byLaw (d + 1)) 5 [some (.ref 0), some (.int x1), some (.int x2), some (.int x3)] (r.toList ++ []) hh Q)) : am_W (X_Model_byLaw (d + 1)) 0 [some (.ref 0), some (.int x1), some (.int x2), some (.int x3)] [] h Q :=
  am_iload_n d_Model_byLaw_0 rfl (i := 1) rfl <|
    am_i2l d_Model_byLaw_1 <|
    am_callS (vs := [.long x1.toInt64]) (st := []) rfl d_Model_byLaw_2 w_1469 w_1470 w_94 w_1471 p_Model_isCell (Nat.le_of_ble_eq_true rfl) (Nat.le_of_ble_eq_true rfl) rfl k
theorem b_Model_byLaw_5 {d : Nat} {x1 : Int32} {x2 : Int32} {x3 : Int32} {y0 : Bool} {h : am_H} {Q : am_Q} (kt : (am_b y0) = 0 → am_W (X_Model_byLaw d) 30 [some (.ref 0), some (.int x1), some (.int x2), some (.int x3)] [] h Q) (kf : ¬ (am_b y0) = 0 → am_W (X_Model_byLaw d) 8 [some (.ref 0), some (.int x1), some (.int x2), some (.int x3)] [] h Q) : am_W (X_Model_byLaw d) 5 [some (.ref 0), some (.int x1), some (.int x2), some (.int x3)] [.int (am_b y0)] h Q :=
  am_if_eq (tgt := 30) d_Model_byLaw_5 (by decide) kt kf
theorem b_Model_byLaw_8 {d : Nat} {x1 : Int32} {x2 : Int32} {x3 : Int32} {h : am_H} {Q : am_Q} (k : m_Model_within d [.long x2.toInt64, .long 0, .long 4] h (fun r hh => am_W (X_Model_byLaw (d + 1)) 17 [some (.ref 0), some (.int x1), some (.int x2), some (.int x3)] (r.toList ++ []) hh Q)) : am_W (X_Model_byLaw (d + 1)) 8 [some (.ref 0), some (.int x1), some (.int x2), some (.int x3)] [] h Q :=
  am_iload_n d_Model_byLaw_8 rfl (i := 2) rfl <|
    am_i2l d_Model_byLaw_9 <|
    am_lconst (v := 0) d_Model_byLaw_10 (by decide) <|
    am_ldc2 (v := 4) d_Model_byLaw_11 w_1476 <|
    am_callS (vs := [.long x2.toInt64, .long 0, .long 4]) (st := []) rfl d_Model_byLaw_14 w_1443 w_1444 w_94 w_1445 p_Model_within (Nat.le_of_ble_eq_true rfl) (Nat.le_of_ble_eq_true rfl) rfl k
theorem b_Model_byLaw_17 {d : Nat} {x1 : Int32} {x2 : Int32} {x3 : Int32} {y0 : Bool} {h : am_H} {Q : am_Q} (kt : (am_b y0) = 0 → am_W (X_Model_byLaw d) 30 [some (.ref 0), some (.int x1), some (.int x2), some (.int x3)] [] h Q) (kf : ¬ (am_b y0) = 0 → am_W (X_Model_byLaw d) 20 [some (.ref 0), some (.int x1), some (.int x2), some (.int x3)] [] h Q) : am_W (X_Model_byLaw d) 17 [some (.ref 0), some (.int x1), some (.int x2), some (.int x3)] [.int (am_b y0)] h Q :=
  am_if_eq (tgt := 30) d_Model_byLaw_17 (by decide) kt kf
theorem b_Model_byLaw_20 {d : Nat} {x1 : Int32} {x2 : Int32} {x3 : Int32} {h : am_H} {Q : am_Q} (k : m_Model_within d [.long x3.toInt64, .long 0, .long 1] h (fun r hh => am_W (X_Model_byLaw (d + 1)) 27 [some (.ref 0), some (.int x1), some (.int x2), some (.int x3)] (r.toList ++ []) hh Q)) : am_W (X_Model_byLaw (d + 1)) 20 [some (.ref 0), some (.int x1), some (.int x2), some (.int x3)] [] h Q :=
  am_iload_n d_Model_byLaw_20 rfl (i := 3) rfl <|
    am_i2l d_Model_byLaw_21 <|
    am_lconst (v := 0) d_Model_byLaw_22 (by decide) <|
    am_lconst (v := 1) d_Model_byLaw_23 (by decide) <|
    am_callS (vs := [.long x3.toInt64, .long 0, .long 1]) (st := []) rfl d_Model_byLaw_24 w_1443 w_1444 w_94 w_1445 p_Model_within (Nat.le_of_ble_eq_true rfl) (Nat.le_of_ble_eq_true rfl) rfl k
theorem b_Model_byLaw_27 {d : Nat} {x1 : Int32} {x2 : Int32} {x3 : Int32} {y0 : Bool} {h : am_H} {Q : am_Q} (kt : ¬ (am_b y0) = 0 → am_W (X_Model_byLaw d) 34 [some (.ref 0), some (.int x1), some (.int x2), some (.int x3)] [] h Q) (kf : (am_b y0) = 0 → am_W (X_Model_byLaw d) 30 [some (.ref 0), some (.int x1), some (.int x2), some (.int x3)] [] h Q) : am_W (X_Model_byLaw d) 27 [some (.ref 0), some (.int x1), some (.int x2), some (.int x3)] [.int (am_b y0)] h Q :=
  am_if_ne (tgt := 34) d_Model_byLaw_27 (by decide) kt kf
theorem b_Model_byLaw_30 {d : Nat} {x1 : Int32} {x2 : Int32} {x3 : Int32} {h : am_H} {Q : am_Q} (q : Q (some (.long (-9223372036854775808))) h) : am_W (X_Model_byLaw d) 30 [some (.ref 0), some (.int x1), some (.int x2), some (.int x3)] [] h Q :=
  am_ldc2 (v := (-9223372036854775808)) d_Model_byLaw_30 w_1573 <|
    am_lret rfl d_Model_byLaw_33 q
theorem b_Model_byLaw_34 {d : Nat} {x1 : Int32} {x2 : Int32} {x3 : Int32} {h : am_H} {Q : am_Q} (k : m_Model_fills d [.ref 0, .int 1] h (fun r hh => am_W (X_Model_byLaw (d + 1)) 39 [some (.ref 0), some (.int x1), some (.int x2), some (.int x3)] (r.toList ++ []) hh Q)) : am_W (X_Model_byLaw (d + 1)) 34 [some (.ref 0), some (.int x1), some (.int x2), some (.int x3)] [] h Q :=
  am_aload_n d_Model_byLaw_34 rfl (i := 0) rfl <|
    am_iconst (v := 1) d_Model_byLaw_35 (by decide) <|
    am_callV (vs := [.int 1]) (st := []) (k := 0) (ci := 10) rfl d_Model_byLaw_36 rfl rfl w_1617 w_1619 w_59 w_94 w_1620 p_Model_fills (Nat.le_of_ble_eq_true rfl) (Nat.le_of_ble_eq_true rfl) rfl k
theorem b_Model_byLaw_39 {d : Nat} {x1 : Int32} {x2 : Int32} {x3 : Int32} {h : am_H} {Q : am_Q} (q0 : vp_in ((31 * x2) + x1) 155) (q1 : vp_in x2 5) (k : m_Model_partOf d [.long (h.2 8 ((31 * x2) + x1).toNatClampNeg), .long (h.2 10 x2.toNatClampNeg), .int x3] h (fun r hh => am_W (X_Model_byLaw (d + 1)) 60 [some (.ref 0), some (.int x1), some (.int x2), some (.int x3)] (r.toList ++ []) hh Q)) : am_W (X_Model_byLaw (d + 1)) 39 [some (.ref 0), some (.int x1), some (.int x2), some (.int x3)] [] h Q :=
  am_aload_n d_Model_byLaw_39 rfl (i := 0) rfl <|
    am_getR (ci := 10) (i := 17) rfl rfl rfl (Nat.le_of_ble_eq_true rfl) w_1335 d_Model_byLaw_40 <|
    am_bipush (v := 31) d_Model_byLaw_43 (by decide) <|
    am_iload_n d_Model_byLaw_45 rfl (i := 2) rfl <|
    am_imul d_Model_byLaw_46 <|
    am_iload_n d_Model_byLaw_47 rfl (i := 1) rfl <|
    am_iadd d_Model_byLaw_48 <|
    am_lald rfl q0 d_Model_byLaw_49 <|
    am_aload_n d_Model_byLaw_50 rfl (i := 0) rfl <|
    am_getR (ci := 10) (i := 19) rfl rfl rfl (Nat.le_of_ble_eq_true rfl) w_1337 d_Model_byLaw_51 <|
    am_iload_n d_Model_byLaw_54 rfl (i := 2) rfl <|
    am_lald rfl q1 d_Model_byLaw_55 <|
    am_iload_n d_Model_byLaw_56 rfl (i := 3) rfl <|
    am_callS (vs := [.long (h.2 8 ((31 * x2) + x1).toNatClampNeg), .long (h.2 10 x2.toNatClampNeg), .int x3]) (st := []) rfl d_Model_byLaw_57 w_1590 w_1591 w_94 w_1592 p_Model_partOf (Nat.le_of_ble_eq_true rfl) (Nat.le_of_ble_eq_true rfl) rfl k
theorem b_Model_byLaw_60 {d : Nat} {x1 : Int32} {x2 : Int32} {x3 : Int32} {y0 : Int64} {h : am_H} {Q : am_Q} (q : Q (some (.long y0)) h) : am_W (X_Model_byLaw d) 60 [some (.ref 0), some (.int x1), some (.int x2), some (.int x3)] [.long y0] h Q :=
  am_lret rfl d_Model_byLaw_60 q
theorem t_Model_byLaw_30 {d : Nat} {x1 : Int32} {x2 : Int32} {x3 : Int32} {h : am_H} {Q : am_Q} {res : Int64 × am_H} (e : f_Model_byLaw_30 h = some res) (q : Q (some (.long res.1)) res.2) : am_W (X_Model_byLaw (d + 70)) 30 [some (.ref 0), some (.int x1), some (.int x2), some (.int x3)] [] h Q :=
  b_Model_byLaw_30 (d := (d + 70)) (q := (am_rJpi (v := (-9223372036854775808)) e q))
theorem t_Model_byLaw_60 {d : Nat} {x1 : Int32} {x2 : Int32} {x3 : Int32} {y0 : Int64} {h : am_H} {Q : am_Q} {res : Int64 × am_H} (e : f_Model_byLaw_60 h y0 = some res) (q : Q (some (.long res.1)) res.2) : am_W (X_Model_byLaw (d + 70)) 60 [some (.ref 0), some (.int x1), some (.int x2), some (.int x3)] [.long y0] h Q :=
  b_Model_byLaw_60 (d := (d + 70)) (q := (am_rJpi (v := y0) e q))
theorem t_Model_byLaw_39 {d : Nat} {x1 : Int32} {x2 : Int32} {x3 : Int32} {h : am_H} {Q : am_Q} {res : Int64 × am_H} (e : f_Model_byLaw_39 h x1 x2 x3 = some res) (q : Q (some (.long res.1)) res.2) : am_W (X_Model_byLaw (d + 70)) 39 [some (.ref 0), some (.int x1), some (.int x2), some (.int x3)] [] h Q :=
  (am_bd (am_ga (am_ga e))).elim fun p hp => b_Model_byLaw_39 (d := (d + 69)) (q0 := (am_okv (am_gd e))) (q1 := (am_okv (am_gd (am_ga e)))) (k := c_Model_partOf (d := d + 68) hp.1 (t_Model_byLaw_60 hp.2 q))
theorem t_Model_byLaw_34 {d : Nat} {x1 : Int32} {x2 : Int32} {x3 : Int32} {h : am_H} {Q : am_Q} {res : Int64 × am_H} (e : f_Model_byLaw_34 h x1 x2 x3 = some res) (q : Q (some (.long res.1)) res.2) : am_W (X_Model_byLaw (d + 70)) 34 [some (.ref 0), some (.int x1), some (.int x2), some (.int x3)] [] h Q :=
  (am_bd e).elim fun p hp => b_Model_byLaw_34 (d := (d + 69)) (k := c_Model_fills (d := d) hp.1 (t_Model_byLaw_39 hp.2 q))
theorem t_Model_byLaw_27 {d : Nat} {x1 : Int32} {x2 : Int32} {x3 : Int32} {y0 : Bool} {h : am_H} {Q : am_Q} {res : Int64 × am_H} (e : f_Model_byLaw_27 h x1 x2 x3 y0 = some res) (q : Q (some (.long res.1)) res.2) : am_W (X_Model_byLaw (d + 70)) 27 [some (.ref 0), some (.int x1), some (.int x2), some (.int x3)] [.int (am_b y0)] h Q :=
  b_Model_byLaw_27 (d := (d + 70)) (kt := fun c => (t_Model_byLaw_34 (am_ift e (am_bn c)) q)) (kf := fun c => (t_Model_byLaw_30 (am_iff e (am_bz c)) q))
theorem t_Model_byLaw_20 {d : Nat} {x1 : Int32} {x2 : Int32} {x3 : Int32} {h : am_H} {Q : am_Q} {res : Int64 × am_H} (e : f_Model_byLaw_20 h x1 x2 x3 = some res) (q : Q (some (.long res.1)) res.2) : am_W (X_Model_byLaw (d + 70)) 20 [some (.ref 0), some (.int x1), some (.int x2), some (.int x3)] [] h Q :=
  b_Model_byLaw_20 (d := (d + 69)) (k := c_Model_within (d := d + 69) rfl (t_Model_byLaw_27 e q))
theorem t_Model_byLaw_17 {d : Nat} {x1 : Int32} {x2 : Int32} {x3 : Int32} {y0 : Bool} {h : am_H} {Q : am_Q} {res : Int64 × am_H} (e : f_Model_byLaw_17 h x1 x2 x3 y0 = some res) (q : Q (some (.long res.1)) res.2) : am_W (X_Model_byLaw (d + 70)) 17 [some (.ref 0), some (.int x1), some (.int x2), some (.int x3)] [.int (am_b y0)] h Q :=
  b_Model_byLaw_17 (d := (d + 70)) (kt := fun c => (t_Model_byLaw_30 (am_iff e (am_bz c)) q)) (kf := fun c => (t_Model_byLaw_20 (am_ift e (am_bn c)) q))
theorem t_Model_byLaw_8 {d : Nat} {x1 : Int32} {x2 : Int32} {x3 : Int32} {h : am_H} {Q : am_Q} {res : Int64 × am_H} (e : f_Model_byLaw_8 h x1 x2 x3 = some res) (q : Q (some (.long res.1)) res.2) : am_W (X_Model_byLaw (d + 70)) 8 [some (.ref 0), some (.int x1), some (.int x2), some (.int x3)] [] h Q :=
  b_Model_byLaw_8 (d := (d + 69)) (k := c_Model_within (d := d + 69) rfl (t_Model_byLaw_17 e q))
theorem t_Model_byLaw_5 {d : Nat} {x1 : Int32} {x2 : Int32} {x3 : Int32} {y0 : Bool} {h : am_H} {Q : am_Q} {res : Int64 × am_H} (e : f_Model_byLaw_5 h x1 x2 x3 y0 = some res) (q : Q (some (.long res.1)) res.2) : am_W (X_Model_byLaw (d + 70)) 5 [some (.ref 0), some (.int x1), some (.int x2), some (.int x3)] [.int (am_b y0)] h Q :=
  b_Model_byLaw_5 (d := (d + 70)) (kt := fun c => (t_Model_byLaw_30 (am_iff e (am_bz c)) q)) (kf := fun c => (t_Model_byLaw_8 (am_ift e (am_bn c)) q))
theorem t_Model_byLaw_0 {d : Nat} {x1 : Int32} {x2 : Int32} {x3 : Int32} {h : am_H} {Q : am_Q} {res : Int64 × am_H} (e : f_Model_byLaw h x1 x2 x3 = some res) (q : Q (some (.long res.1)) res.2) : am_W (X_Model_byLaw (d + 70)) 0 [some (.ref 0), some (.int x1), some (.int x2), some (.int x3)] [] h Q :=
  b_Model_byLaw_0 (d := (d + 69)) (k := c_Model_isCell (d := d + 68) rfl (t_Model_byLaw_5 e q))
theorem c_Model_byLaw {d : Nat} {x1 : Int32} {x2 : Int32} {x3 : Int32} {h : am_H} {Q : am_Q} {res : Int64 × am_H} (e : f_Model_byLaw h x1 x2 x3 = some res) (q : Q (some (.long res.1)) res.2) : m_Model_byLaw (d + 70) [.ref 0, .int x1, .int x2, .int x3] h Q :=
  e_Model_byLaw (t_Model_byLaw_0 e q)
theorem d_Model_lie_0 : decode prog_12_method_51_code 0 = .ok (.iload_n 1, 1) := by decide +kernel
theorem d_Model_lie_1 : decode prog_12_method_51_code 1 = .ok (.i2l, 1) := by decide +kernel
theorem d_Model_lie_2 : decode prog_12_method_51_code 2 = .ok (.invokestatic 110, 3) := by decide +kernel
theorem d_Model_lie_5 : decode prog_12_method_51_code 5 = .ok (.ifCond .eq 42, 3) := by decide +kernel
theorem d_Model_lie_8 : decode prog_12_method_51_code 8 = .ok (.iload_n 2, 1) := by decide +kernel
theorem d_Model_lie_9 : decode prog_12_method_51_code 9 = .ok (.i2l, 1) := by decide +kernel
theorem d_Model_lie_10 : decode prog_12_method_51_code 10 = .ok (.lconst 1, 1) := by decide +kernel
theorem d_Model_lie_11 : decode prog_12_method_51_code 11 = .ok (.ldc2_w 117, 3) := by decide +kernel
theorem d_Model_lie_14 : decode prog_12_method_51_code 14 = .ok (.invokestatic 83, 3) := by decide +kernel
theorem d_Model_lie_17 : decode prog_12_method_51_code 17 = .ok (.ifCond .eq 30, 3) := by decide +kernel
theorem d_Model_lie_20 : decode prog_12_method_51_code 20 = .ok (.iload_n 3, 1) := by decide +kernel
theorem d_Model_lie_21 : decode prog_12_method_51_code 21 = .ok (.i2l, 1) := by decide +kernel
theorem d_Model_lie_22 : decode prog_12_method_51_code 22 = .ok (.lconst 0, 1) := by decide +kernel
theorem d_Model_lie_23 : decode prog_12_method_51_code 23 = .ok (.ldc2_w 106, 3) := by decide +kernel
theorem d_Model_lie_26 : decode prog_12_method_51_code 26 = .ok (.invokestatic 83, 3) := by decide +kernel
theorem d_Model_lie_29 : decode prog_12_method_51_code 29 = .ok (.ifCond .eq 18, 3) := by decide +kernel
theorem d_Model_lie_32 : decode prog_12_method_51_code 32 = .ok (.aload_n 0, 1) := by decide +kernel
theorem d_Model_lie_33 : decode prog_12_method_51_code 33 = .ok (.getfield 80, 3) := by decide +kernel
theorem d_Model_lie_36 : decode prog_12_method_51_code 36 = .ok (.ifCond .eq 11, 3) := by decide +kernel
theorem d_Model_lie_39 : decode prog_12_method_51_code 39 = .ok (.aload_n 0, 1) := by decide +kernel
theorem d_Model_lie_40 : decode prog_12_method_51_code 40 = .ok (.iload_n 1, 1) := by decide +kernel
theorem d_Model_lie_41 : decode prog_12_method_51_code 41 = .ok (.invokevirtual 89, 3) := by decide +kernel
theorem d_Model_lie_44 : decode prog_12_method_51_code 44 = .ok (.ifCond .eq 7, 3) := by decide +kernel
theorem d_Model_lie_47 : decode prog_12_method_51_code 47 = .ok (.ldc2_w 223, 3) := by decide +kernel
theorem d_Model_lie_50 : decode prog_12_method_51_code 50 = .ok (.lreturn, 1) := by decide +kernel
theorem d_Model_lie_51 : decode prog_12_method_51_code 51 = .ok (.aload_n 0, 1) := by decide +kernel
theorem d_Model_lie_52 : decode prog_12_method_51_code 52 = .ok (.iconst 1, 1) := by decide +kernel
theorem d_Model_lie_53 : decode prog_12_method_51_code 53 = .ok (.invokevirtual 251, 3) := by decide +kernel
theorem d_Model_lie_56 : decode prog_12_method_51_code 56 = .ok (.aload_n 0, 1) := by decide +kernel
theorem d_Model_lie_57 : decode prog_12_method_51_code 57 = .ok (.iload_n 1, 1) := by decide +kernel
theorem d_Model_lie_58 : decode prog_12_method_51_code 58 = .ok (.iload_n 2, 1) := by decide +kernel
theorem d_Model_lie_59 : decode prog_12_method_51_code 59 = .ok (.aload_n 0, 1) := by decide +kernel
theorem d_Model_lie_60 : decode prog_12_method_51_code 60 = .ok (.iload_n 1, 1) := by decide +kernel
theorem d_Model_lie_61 : decode prog_12_method_51_code 61 = .ok (.iconst 0, 1) := by decide +kernel
theorem d_Model_lie_62 : decode prog_12_method_51_code 62 = .ok (.invokevirtual 204, 3) := by decide +kernel
theorem d_Model_lie_65 : decode prog_12_method_51_code 65 = .ok (.invokevirtual 247, 3) := by decide +kernel
theorem d_Model_lie_68 : decode prog_12_method_51_code 68 = .ok (.lstore 4, 2) := by decide +kernel
theorem d_Model_lie_70 : decode prog_12_method_51_code 70 = .ok (.lload 4, 2) := by decide +kernel
theorem d_Model_lie_72 : decode prog_12_method_51_code 72 = .ok (.lstore 6, 2) := by decide +kernel
theorem d_Model_lie_74 : decode prog_12_method_51_code 74 = .ok (.lload 4, 2) := by decide +kernel
theorem d_Model_lie_76 : decode prog_12_method_51_code 76 = .ok (.lstore 8, 2) := by decide +kernel
theorem d_Model_lie_78 : decode prog_12_method_51_code 78 = .ok (.iconst 0, 1) := by decide +kernel
theorem d_Model_lie_79 : decode prog_12_method_51_code 79 = .ok (.istore 10, 2) := by decide +kernel
theorem d_Model_lie_81 : decode prog_12_method_51_code 81 = .ok (.iconst 1, 1) := by decide +kernel
theorem d_Model_lie_82 : decode prog_12_method_51_code 82 = .ok (.istore 11, 2) := by decide +kernel
theorem d_Model_lie_84 : decode prog_12_method_51_code 84 = .ok (.iload 11, 2) := by decide +kernel
theorem d_Model_lie_86 : decode prog_12_method_51_code 86 = .ok (.iconst 5, 1) := by decide +kernel
theorem d_Model_lie_87 : decode prog_12_method_51_code 87 = .ok (.if_icmp .gt 116, 3) := by decide +kernel
theorem d_Model_lie_90 : decode prog_12_method_51_code 90 = .ok (.iconst (-1), 1) := by decide +kernel
theorem d_Model_lie_91 : decode prog_12_method_51_code 91 = .ok (.istore 12, 2) := by decide +kernel
theorem d_Model_lie_93 : decode prog_12_method_51_code 93 = .ok (.iload 12, 2) := by decide +kernel
theorem d_Model_lie_95 : decode prog_12_method_51_code 95 = .ok (.iconst 2, 1) := by decide +kernel
theorem d_Model_lie_96 : decode prog_12_method_51_code 96 = .ok (.if_icmp .ge 101, 3) := by decide +kernel
theorem d_Model_lie_99 : decode prog_12_method_51_code 99 = .ok (.aload_n 0, 1) := by decide +kernel
theorem d_Model_lie_100 : decode prog_12_method_51_code 100 = .ok (.iload_n 1, 1) := by decide +kernel
theorem d_Model_lie_101 : decode prog_12_method_51_code 101 = .ok (.iload_n 2, 1) := by decide +kernel
theorem d_Model_lie_102 : decode prog_12_method_51_code 102 = .ok (.aload_n 0, 1) := by decide +kernel
theorem d_Model_lie_103 : decode prog_12_method_51_code 103 = .ok (.iload_n 1, 1) := by decide +kernel
theorem d_Model_lie_104 : decode prog_12_method_51_code 104 = .ok (.iload 12, 2) := by decide +kernel
theorem d_Model_lie_106 : decode prog_12_method_51_code 106 = .ok (.iload 11, 2) := by decide +kernel
theorem d_Model_lie_108 : decode prog_12_method_51_code 108 = .ok (.imul, 1) := by decide +kernel
theorem d_Model_lie_109 : decode prog_12_method_51_code 109 = .ok (.invokevirtual 204, 3) := by decide +kernel
theorem d_Model_lie_112 : decode prog_12_method_51_code 112 = .ok (.invokevirtual 247, 3) := by decide +kernel
theorem d_Model_lie_115 : decode prog_12_method_51_code 115 = .ok (.lstore 13, 2) := by decide +kernel
theorem d_Model_lie_117 : decode prog_12_method_51_code 117 = .ok (.lload 13, 2) := by decide +kernel
theorem d_Model_lie_119 : decode prog_12_method_51_code 119 = .ok (.lload 6, 2) := by decide +kernel
theorem d_Model_lie_121 : decode prog_12_method_51_code 121 = .ok (.lcmp, 1) := by decide +kernel
theorem d_Model_lie_122 : decode prog_12_method_51_code 122 = .ok (.ifCond .ge 11, 3) := by decide +kernel
theorem d_Model_lie_125 : decode prog_12_method_51_code 125 = .ok (.iload 12, 2) := by decide +kernel
theorem d_Model_lie_127 : decode prog_12_method_51_code 127 = .ok (.iload 11, 2) := by decide +kernel
theorem d_Model_lie_129 : decode prog_12_method_51_code 129 = .ok (.imul, 1) := by decide +kernel
theorem d_Model_lie_130 : decode prog_12_method_51_code 130 = .ok (.goto 5, 3) := by decide +kernel
theorem d_Model_lie_133 : decode prog_12_method_51_code 133 = .ok (.iload 10, 2) := by decide +kernel
theorem d_Model_lie_135 : decode prog_12_method_51_code 135 = .ok (.istore 10, 2) := by decide +kernel
theorem d_Model_lie_137 : decode prog_12_method_51_code 137 = .ok (.lload 13, 2) := by decide +kernel
theorem d_Model_lie_139 : decode prog_12_method_51_code 139 = .ok (.lload 6, 2) := by decide +kernel
theorem d_Model_lie_141 : decode prog_12_method_51_code 141 = .ok (.lcmp, 1) := by decide +kernel
theorem d_Model_lie_142 : decode prog_12_method_51_code 142 = .ok (.ifCond .ge 8, 3) := by decide +kernel
theorem d_Model_lie_145 : decode prog_12_method_51_code 145 = .ok (.lload 13, 2) := by decide +kernel
theorem d_Model_lie_147 : decode prog_12_method_51_code 147 = .ok (.goto 5, 3) := by decide +kernel
theorem d_Model_lie_150 : decode prog_12_method_51_code 150 = .ok (.lload 6, 2) := by decide +kernel
theorem d_Model_lie_152 : decode prog_12_method_51_code 152 = .ok (.lstore 6, 2) := by decide +kernel
theorem d_Model_lie_154 : decode prog_12_method_51_code 154 = .ok (.aload_n 0, 1) := by decide +kernel
theorem d_Model_lie_155 : decode prog_12_method_51_code 155 = .ok (.iload_n 1, 1) := by decide +kernel
theorem d_Model_lie_156 : decode prog_12_method_51_code 156 = .ok (.iload_n 2, 1) := by decide +kernel
theorem d_Model_lie_157 : decode prog_12_method_51_code 157 = .ok (.aload_n 0, 1) := by decide +kernel
theorem d_Model_lie_158 : decode prog_12_method_51_code 158 = .ok (.iload_n 1, 1) := by decide +kernel
theorem d_Model_lie_159 : decode prog_12_method_51_code 159 = .ok (.iload 12, 2) := by decide +kernel
theorem d_Model_lie_161 : decode prog_12_method_51_code 161 = .ok (.iload 11, 2) := by decide +kernel
theorem d_Model_lie_163 : decode prog_12_method_51_code 163 = .ok (.imul, 1) := by decide +kernel
theorem d_Model_lie_164 : decode prog_12_method_51_code 164 = .ok (.iconst 2, 1) := by decide +kernel
theorem d_Model_lie_165 : decode prog_12_method_51_code 165 = .ok (.idiv, 1) := by decide +kernel
theorem d_Model_lie_166 : decode prog_12_method_51_code 166 = .ok (.invokevirtual 204, 3) := by decide +kernel
theorem d_Model_lie_169 : decode prog_12_method_51_code 169 = .ok (.invokevirtual 247, 3) := by decide +kernel
theorem d_Model_lie_172 : decode prog_12_method_51_code 172 = .ok (.lstore 15, 2) := by decide +kernel
theorem d_Model_lie_174 : decode prog_12_method_51_code 174 = .ok (.lload 15, 2) := by decide +kernel
theorem d_Model_lie_176 : decode prog_12_method_51_code 176 = .ok (.lload 8, 2) := by decide +kernel
theorem d_Model_lie_178 : decode prog_12_method_51_code 178 = .ok (.lcmp, 1) := by decide +kernel
theorem d_Model_lie_179 : decode prog_12_method_51_code 179 = .ok (.ifCond .ge 8, 3) := by decide +kernel
theorem d_Model_lie_182 : decode prog_12_method_51_code 182 = .ok (.lload 15, 2) := by decide +kernel
theorem d_Model_lie_184 : decode prog_12_method_51_code 184 = .ok (.goto 5, 3) := by decide +kernel
theorem d_Model_lie_187 : decode prog_12_method_51_code 187 = .ok (.lload 8, 2) := by decide +kernel
theorem d_Model_lie_189 : decode prog_12_method_51_code 189 = .ok (.lstore 8, 2) := by decide +kernel
theorem d_Model_lie_191 : decode prog_12_method_51_code 191 = .ok (.iinc 12 2, 3) := by decide +kernel
theorem d_Model_lie_194 : decode prog_12_method_51_code 194 = .ok (.goto (-101), 3) := by decide +kernel
theorem d_Model_lie_197 : decode prog_12_method_51_code 197 = .ok (.iinc 11 1, 3) := by decide +kernel
theorem d_Model_lie_200 : decode prog_12_method_51_code 200 = .ok (.goto (-116), 3) := by decide +kernel
theorem d_Model_lie_203 : decode prog_12_method_51_code 203 = .ok (.iload_n 3, 1) := by decide +kernel
theorem d_Model_lie_204 : decode prog_12_method_51_code 204 = .ok (.iconst 2, 1) := by decide +kernel
theorem d_Model_lie_205 : decode prog_12_method_51_code 205 = .ok (.if_icmp .ge 16, 3) := by decide +kernel
theorem d_Model_lie_208 : decode prog_12_method_51_code 208 = .ok (.lload 6, 2) := by decide +kernel
theorem d_Model_lie_210 : decode prog_12_method_51_code 210 = .ok (.aload_n 0, 1) := by decide +kernel
theorem d_Model_lie_211 : decode prog_12_method_51_code 211 = .ok (.getfield 40, 3) := by decide +kernel
theorem d_Model_lie_214 : decode prog_12_method_51_code 214 = .ok (.iload_n 2, 1) := by decide +kernel
theorem d_Model_lie_215 : decode prog_12_method_51_code 215 = .ok (.laload, 1) := by decide +kernel
theorem d_Model_lie_216 : decode prog_12_method_51_code 216 = .ok (.iload_n 3, 1) := by decide +kernel
theorem d_Model_lie_217 : decode prog_12_method_51_code 217 = .ok (.invokestatic 229, 3) := by decide +kernel
theorem d_Model_lie_220 : decode prog_12_method_51_code 220 = .ok (.lreturn, 1) := by decide +kernel
theorem d_Model_lie_221 : decode prog_12_method_51_code 221 = .ok (.iload_n 3, 1) := by decide +kernel
theorem d_Model_lie_222 : decode prog_12_method_51_code 222 = .ok (.iconst 2, 1) := by decide +kernel
theorem d_Model_lie_223 : decode prog_12_method_51_code 223 = .ok (.if_icmp .ne 9, 3) := by decide +kernel
theorem d_Model_lie_226 : decode prog_12_method_51_code 226 = .ok (.iload 10, 2) := by decide +kernel
theorem d_Model_lie_228 : decode prog_12_method_51_code 228 = .ok (.i2l, 1) := by decide +kernel
theorem d_Model_lie_229 : decode prog_12_method_51_code 229 = .ok (.goto 45, 3) := by decide +kernel
theorem d_Model_lie_232 : decode prog_12_method_51_code 232 = .ok (.iload_n 3, 1) := by decide +kernel
theorem d_Model_lie_233 : decode prog_12_method_51_code 233 = .ok (.iconst 5, 1) := by decide +kernel
theorem d_Model_lie_234 : decode prog_12_method_51_code 234 = .ok (.if_icmp .ge 23, 3) := by decide +kernel
theorem d_Model_lie_237 : decode prog_12_method_51_code 237 = .ok (.lload 4, 2) := by decide +kernel
theorem d_Model_lie_239 : decode prog_12_method_51_code 239 = .ok (.lload 6, 2) := by decide +kernel
theorem d_Model_lie_241 : decode prog_12_method_51_code 241 = .ok (.lsub, 1) := by decide +kernel
theorem d_Model_lie_242 : decode prog_12_method_51_code 242 = .ok (.aload_n 0, 1) := by decide +kernel
theorem d_Model_lie_243 : decode prog_12_method_51_code 243 = .ok (.getfield 40, 3) := by decide +kernel
theorem d_Model_lie_246 : decode prog_12_method_51_code 246 = .ok (.iload_n 2, 1) := by decide +kernel
theorem d_Model_lie_247 : decode prog_12_method_51_code 247 = .ok (.laload, 1) := by decide +kernel
theorem d_Model_lie_248 : decode prog_12_method_51_code 248 = .ok (.iload_n 3, 1) := by decide +kernel
theorem d_Model_lie_249 : decode prog_12_method_51_code 249 = .ok (.iconst 3, 1) := by decide +kernel
theorem d_Model_lie_250 : decode prog_12_method_51_code 250 = .ok (.isub, 1) := by decide +kernel
theorem d_Model_lie_251 : decode prog_12_method_51_code 251 = .ok (.invokestatic 229, 3) := by decide +kernel
theorem d_Model_lie_254 : decode prog_12_method_51_code 254 = .ok (.goto 20, 3) := by decide +kernel
theorem d_Model_lie_257 : decode prog_12_method_51_code 257 = .ok (.lload 4, 2) := by decide +kernel
theorem d_Model_lie_259 : decode prog_12_method_51_code 259 = .ok (.lload 8, 2) := by decide +kernel
theorem d_Model_lie_261 : decode prog_12_method_51_code 261 = .ok (.lsub, 1) := by decide +kernel
theorem d_Model_lie_262 : decode prog_12_method_51_code 262 = .ok (.aload_n 0, 1) := by decide +kernel
theorem d_Model_lie_263 : decode prog_12_method_51_code 263 = .ok (.getfield 40, 3) := by decide +kernel
theorem d_Model_lie_266 : decode prog_12_method_51_code 266 = .ok (.iload_n 2, 1) := by decide +kernel
theorem d_Model_lie_267 : decode prog_12_method_51_code 267 = .ok (.laload, 1) := by decide +kernel
theorem d_Model_lie_268 : decode prog_12_method_51_code 268 = .ok (.iload_n 3, 1) := by decide +kernel
theorem d_Model_lie_269 : decode prog_12_method_51_code 269 = .ok (.iconst 5, 1) := by decide +kernel
theorem d_Model_lie_270 : decode prog_12_method_51_code 270 = .ok (.isub, 1) := by decide +kernel
theorem d_Model_lie_271 : decode prog_12_method_51_code 271 = .ok (.invokestatic 229, 3) := by decide +kernel
theorem d_Model_lie_274 : decode prog_12_method_51_code 274 = .ok (.lreturn, 1) := by decide +kernel
theorem b_Model_lie_0 {d : Nat} {x1 : Int32} {x2 : Int32} {x3 : Int32} {h : am_H} {Q : am_Q} (k : m_Model_isCell d [.long x1.toInt64] h (fun r hh => am_W (X_Model_lie (d + 1)) 5 [some (.ref 0), some (.int x1), some (.int x2), some (.int x3), none, none, none, none, none, none, none, none, none, none, none, none, none] (r.toList ++ []) hh Q)) : am_W (X_Model_lie (d + 1)) 0 [some (.ref 0), some (.int x1), some (.int x2), some (.int x3), none, none, none, none, none, none, none, none, none, none, none, none, none] [] h Q :=
  am_iload_n d_Model_lie_0 rfl (i := 1) rfl <|
    am_i2l d_Model_lie_1 <|
    am_callS (vs := [.long x1.toInt64]) (st := []) rfl d_Model_lie_2 w_1469 w_1470 w_94 w_1471 p_Model_isCell (Nat.le_of_ble_eq_true rfl) (Nat.le_of_ble_eq_true rfl) rfl k
theorem b_Model_lie_5 {d : Nat} {x1 : Int32} {x2 : Int32} {x3 : Int32} {y0 : Bool} {h : am_H} {Q : am_Q} (kt : (am_b y0) = 0 → am_W (X_Model_lie d) 47 [some (.ref 0), some (.int x1), some (.int x2), some (.int x3), none, none, none, none, none, none, none, none, none, none, none, none, none] [] h Q) (kf : ¬ (am_b y0) = 0 → am_W (X_Model_lie d) 8 [some (.ref 0), some (.int x1), some (.int x2), some (.int x3), none, none, none, none, none, none, none, none, none, none, none, none, none] [] h Q) : am_W (X_Model_lie d) 5 [some (.ref 0), some (.int x1), some (.int x2), some (.int x3), none, none, none, none, none, none, none, none, none, none, none, none, none] [.int (am_b y0)] h Q :=
  am_if_eq (tgt := 47) d_Model_lie_5 (by decide) kt kf
theorem b_Model_lie_8 {d : Nat} {x1 : Int32} {x2 : Int32} {x3 : Int32} {h : am_H} {Q : am_Q} (k : m_Model_within d [.long x2.toInt64, .long 1, .long 4] h (fun r hh => am_W (X_Model_lie (d + 1)) 17 [some (.ref 0), some (.int x1), some (.int x2), some (.int x3), none, none, none, none, none, none, none, none, none, none, none, none, none] (r.toList ++ []) hh Q)) : am_W (X_Model_lie (d + 1)) 8 [some (.ref 0), some (.int x1), some (.int x2), some (.int x3), none, none, none, none, none, none, none, none, none, none, none, none, none] [] h Q :=
  am_iload_n d_Model_lie_8 rfl (i := 2) rfl <|
    am_i2l d_Model_lie_9 <|
    am_lconst (v := 1) d_Model_lie_10 (by decide) <|
    am_ldc2 (v := 4) d_Model_lie_11 w_1476 <|
    am_callS (vs := [.long x2.toInt64, .long 1, .long 4]) (st := []) rfl d_Model_lie_14 w_1443 w_1444 w_94 w_1445 p_Model_within (Nat.le_of_ble_eq_true rfl) (Nat.le_of_ble_eq_true rfl) rfl k
theorem b_Model_lie_17 {d : Nat} {x1 : Int32} {x2 : Int32} {x3 : Int32} {y0 : Bool} {h : am_H} {Q : am_Q} (kt : (am_b y0) = 0 → am_W (X_Model_lie d) 47 [some (.ref 0), some (.int x1), some (.int x2), some (.int x3), none, none, none, none, none, none, none, none, none, none, none, none, none] [] h Q) (kf : ¬ (am_b y0) = 0 → am_W (X_Model_lie d) 20 [some (.ref 0), some (.int x1), some (.int x2), some (.int x3), none, none, none, none, none, none, none, none, none, none, none, none, none] [] h Q) : am_W (X_Model_lie d) 17 [some (.ref 0), some (.int x1), some (.int x2), some (.int x3), none, none, none, none, none, none, none, none, none, none, none, none, none] [.int (am_b y0)] h Q :=
  am_if_eq (tgt := 47) d_Model_lie_17 (by decide) kt kf
theorem b_Model_lie_20 {d : Nat} {x1 : Int32} {x2 : Int32} {x3 : Int32} {h : am_H} {Q : am_Q} (k : m_Model_within d [.long x3.toInt64, .long 0, .long 6] h (fun r hh => am_W (X_Model_lie (d + 1)) 29 [some (.ref 0), some (.int x1), some (.int x2), some (.int x3), none, none, none, none, none, none, none, none, none, none, none, none, none] (r.toList ++ []) hh Q)) : am_W (X_Model_lie (d + 1)) 20 [some (.ref 0), some (.int x1), some (.int x2), some (.int x3), none, none, none, none, none, none, none, none, none, none, none, none, none] [] h Q :=
  am_iload_n d_Model_lie_20 rfl (i := 3) rfl <|
    am_i2l d_Model_lie_21 <|
    am_lconst (v := 0) d_Model_lie_22 (by decide) <|
    am_ldc2 (v := 6) d_Model_lie_23 w_1459 <|
    am_callS (vs := [.long x3.toInt64, .long 0, .long 6]) (st := []) rfl d_Model_lie_26 w_1443 w_1444 w_94 w_1445 p_Model_within (Nat.le_of_ble_eq_true rfl) (Nat.le_of_ble_eq_true rfl) rfl k
theorem b_Model_lie_29 {d : Nat} {x1 : Int32} {x2 : Int32} {x3 : Int32} {y0 : Bool} {h : am_H} {Q : am_Q} (kt : (am_b y0) = 0 → am_W (X_Model_lie d) 47 [some (.ref 0), some (.int x1), some (.int x2), some (.int x3), none, none, none, none, none, none, none, none, none, none, none, none, none] [] h Q) (kf : ¬ (am_b y0) = 0 → am_W (X_Model_lie d) 32 [some (.ref 0), some (.int x1), some (.int x2), some (.int x3), none, none, none, none, none, none, none, none, none, none, none, none, none] [] h Q) : am_W (X_Model_lie d) 29 [some (.ref 0), some (.int x1), some (.int x2), some (.int x3), none, none, none, none, none, none, none, none, none, none, none, none, none] [.int (am_b y0)] h Q :=
  am_if_eq (tgt := 47) d_Model_lie_29 (by decide) kt kf
theorem b_Model_lie_32 {d : Nat} {x1 : Int32} {x2 : Int32} {x3 : Int32} {h : am_H} {Q : am_Q} (kt : (h.1 0 6) = 0 → am_W (X_Model_lie d) 47 [some (.ref 0), some (.int x1), some (.int x2), some (.int x3), none, none, none, none, none, none, none, none, none, none, none, none, none] [] h Q) (kf : ¬ (h.1 0 6) = 0 → am_W (X_Model_lie d) 39 [some (.ref 0), some (.int x1), some (.int x2), some (.int x3), none, none, none, none, none, none, none, none, none, none, none, none, none] [] h Q) : am_W (X_Model_lie d) 32 [some (.ref 0), some (.int x1), some (.int x2), some (.int x3), none, none, none, none, none, none, none, none, none, none, none, none, none] [] h Q :=
  am_aload_n d_Model_lie_32 rfl (i := 0) rfl <|
    am_getI (ci := 10) (i := 6) rfl rfl rfl (Nat.le_of_ble_eq_true rfl) w_1324 d_Model_lie_33 <|
    am_if_eq (tgt := 47) d_Model_lie_36 (by decide) kt kf
theorem b_Model_lie_39 {d : Nat} {x1 : Int32} {x2 : Int32} {x3 : Int32} {h : am_H} {Q : am_Q} (k : m_Model_isGreen d [.ref 0, .int x1] h (fun r hh => am_W (X_Model_lie (d + 1)) 44 [some (.ref 0), some (.int x1), some (.int x2), some (.int x3), none, none, none, none, none, none, none, none, none, none, none, none, none] (r.toList ++ []) hh Q)) : am_W (X_Model_lie (d + 1)) 39 [some (.ref 0), some (.int x1), some (.int x2), some (.int x3), none, none, none, none, none, none, none, none, none, none, none, none, none] [] h Q :=
  am_aload_n d_Model_lie_39 rfl (i := 0) rfl <|
    am_iload_n d_Model_lie_40 rfl (i := 1) rfl <|
    am_callV (vs := [.int x1]) (st := []) (k := 0) (ci := 10) rfl d_Model_lie_41 rfl rfl w_1550 w_1552 w_49 w_94 w_1553 p_Model_isGreen (Nat.le_of_ble_eq_true rfl) (Nat.le_of_ble_eq_true rfl) rfl k
theorem b_Model_lie_44 {d : Nat} {x1 : Int32} {x2 : Int32} {x3 : Int32} {y0 : Bool} {h : am_H} {Q : am_Q} (kt : (am_b y0) = 0 → am_W (X_Model_lie d) 51 [some (.ref 0), some (.int x1), some (.int x2), some (.int x3), none, none, none, none, none, none, none, none, none, none, none, none, none] [] h Q) (kf : ¬ (am_b y0) = 0 → am_W (X_Model_lie d) 47 [some (.ref 0), some (.int x1), some (.int x2), some (.int x3), none, none, none, none, none, none, none, none, none, none, none, none, none] [] h Q) : am_W (X_Model_lie d) 44 [some (.ref 0), some (.int x1), some (.int x2), some (.int x3), none, none, none, none, none, none, none, none, none, none, none, none, none] [.int (am_b y0)] h Q :=
  am_if_eq (tgt := 51) d_Model_lie_44 (by decide) kt kf
theorem b_Model_lie_47 {d : Nat} {x1 : Int32} {x2 : Int32} {x3 : Int32} {h : am_H} {Q : am_Q} (q : Q (some (.long (-9223372036854775808))) h) : am_W (X_Model_lie d) 47 [some (.ref 0), some (.int x1), some (.int x2), some (.int x3), none, none, none, none, none, none, none, none, none, none, none, none, none] [] h Q :=
  am_ldc2 (v := (-9223372036854775808)) d_Model_lie_47 w_1573 <|
    am_lret rfl d_Model_lie_50 q
theorem b_Model_lie_51 {d : Nat} {x1 : Int32} {x2 : Int32} {x3 : Int32} {h : am_H} {Q : am_Q} (k : m_Model_fills d [.ref 0, .int 1] h (fun r hh => am_W (X_Model_lie (d + 1)) 56 [some (.ref 0), some (.int x1), some (.int x2), some (.int x3), none, none, none, none, none, none, none, none, none, none, none, none, none] (r.toList ++ []) hh Q)) : am_W (X_Model_lie (d + 1)) 51 [some (.ref 0), some (.int x1), some (.int x2), some (.int x3), none, none, none, none, none, none, none, none, none, none, none, none, none] [] h Q :=
  am_aload_n d_Model_lie_51 rfl (i := 0) rfl <|
    am_iconst (v := 1) d_Model_lie_52 (by decide) <|
    am_callV (vs := [.int 1]) (st := []) (k := 0) (ci := 10) rfl d_Model_lie_53 rfl rfl w_1617 w_1619 w_59 w_94 w_1620 p_Model_fills (Nat.le_of_ble_eq_true rfl) (Nat.le_of_ble_eq_true rfl) rfl k
theorem b_Model_lie_56 {d : Nat} {x1 : Int32} {x2 : Int32} {x3 : Int32} {h : am_H} {Q : am_Q} (k : m_Model_takenFrom d [.ref 0, .int x1, .int 0] h (fun r hh => am_W (X_Model_lie (d + 1)) 65 [some (.ref 0), some (.int x1), some (.int x2), some (.int x3), none, none, none, none, none, none, none, none, none, none, none, none, none] (r.toList ++ [.int x2, .int x1, .ref 0]) hh Q)) : am_W (X_Model_lie (d + 1)) 56 [some (.ref 0), some (.int x1), some (.int x2), some (.int x3), none, none, none, none, none, none, none, none, none, none, none, none, none] [] h Q :=
  am_aload_n d_Model_lie_56 rfl (i := 0) rfl <|
    am_iload_n d_Model_lie_57 rfl (i := 1) rfl <|
    am_iload_n d_Model_lie_58 rfl (i := 2) rfl <|
    am_aload_n d_Model_lie_59 rfl (i := 0) rfl <|
    am_iload_n d_Model_lie_60 rfl (i := 1) rfl <|
    am_iconst (v := 0) d_Model_lie_61 (by decide) <|
    am_callV (vs := [.int x1, .int 0]) (st := [.int x2, .int x1, .ref 0]) (k := 0) (ci := 10) rfl d_Model_lie_62 rfl rfl w_1554 w_1556 w_50 w_94 w_1557 p_Model_takenFrom (Nat.le_of_ble_eq_true rfl) (Nat.le_of_ble_eq_true rfl) rfl k
theorem b_Model_lie_65 {d : Nat} {x1 : Int32} {x2 : Int32} {x3 : Int32} {y3 : Int32} {y2 : Int32} {y1 : Int32} {h : am_H} {Q : am_Q} (k : m_Model_byClub d [.ref 0, .int y1, .int y2, .int y3] h (fun r hh => am_W (X_Model_lie (d + 1)) 68 [some (.ref 0), some (.int x1), some (.int x2), some (.int x3), none, none, none, none, none, none, none, none, none, none, none, none, none] (r.toList ++ []) hh Q)) : am_W (X_Model_lie (d + 1)) 65 [some (.ref 0), some (.int x1), some (.int x2), some (.int x3), none, none, none, none, none, none, none, none, none, none, none, none, none] [.int y3, .int y2, .int y1, .ref 0] h Q :=
  am_callV (vs := [.int y1, .int y2, .int y3]) (st := []) (k := 0) (ci := 10) rfl d_Model_lie_65 rfl rfl w_1626 w_1628 w_61 w_94 w_1629 p_Model_byClub (Nat.le_of_ble_eq_true rfl) (Nat.le_of_ble_eq_true rfl) rfl k
theorem b_Model_lie_68 {d : Nat} {x1 : Int32} {x2 : Int32} {x3 : Int32} {y0 : Int64} {h : am_H} {Q : am_Q} (k : am_W (X_Model_lie d) 84 [some (.ref 0), some (.int x1), some (.int x2), some (.int x3), some (.long y0), none, some (.long y0), none, some (.long y0), none, some (.int 0), some (.int 1), none, none, none, none, none] [] h Q) : am_W (X_Model_lie d) 68 [some (.ref 0), some (.int x1), some (.int x2), some (.int x3), none, none, none, none, none, none, none, none, none, none, none, none, none] [.long y0] h Q :=
  am_lstore (ls' := [some (.ref 0), some (.int x1), some (.int x2), some (.int x3), some (.long y0), none, none, none, none, none, none, none, none, none, none, none, none]) d_Model_lie_68 (Nat.le_of_ble_eq_true rfl) rfl <|
    am_lload d_Model_lie_70 rfl <|
    am_lstore (ls' := [some (.ref 0), some (.int x1), some (.int x2), some (.int x3), some (.long y0), none, some (.long y0), none, none, none, none, none, none, none, none, none, none]) d_Model_lie_72 (Nat.le_of_ble_eq_true rfl) rfl <|
    am_lload d_Model_lie_74 rfl <|
    am_lstore (ls' := [some (.ref 0), some (.int x1), some (.int x2), some (.int x3), some (.long y0), none, some (.long y0), none, some (.long y0), none, none, none, none, none, none, none, none]) d_Model_lie_76 (Nat.le_of_ble_eq_true rfl) rfl <|
    am_iconst (v := 0) d_Model_lie_78 (by decide) <|
    am_istore (ls' := [some (.ref 0), some (.int x1), some (.int x2), some (.int x3), some (.long y0), none, some (.long y0), none, some (.long y0), none, some (.int 0), none, none, none, none, none, none]) d_Model_lie_79 (Nat.le_of_ble_eq_true rfl) rfl <|
    am_iconst (v := 1) d_Model_lie_81 (by decide) <|
    am_istore (ls' := [some (.ref 0), some (.int x1), some (.int x2), some (.int x3), some (.long y0), none, some (.long y0), none, some (.long y0), none, some (.int 0), some (.int 1), none, none, none, none, none]) d_Model_lie_82 (Nat.le_of_ble_eq_true rfl) rfl <|
    k
theorem b_Model_lie_84 {d : Nat} {x1 : Int32} {x2 : Int32} {x3 : Int32} {x4 : Int64} {x6 : Int64} {x8 : Int64} {x10 : Int32} {x11 : Int32} {h : am_H} {Q : am_Q} (kt : 5 < x11 → am_W (X_Model_lie d) 203 [some (.ref 0), some (.int x1), some (.int x2), some (.int x3), some (.long x4), none, some (.long x6), none, some (.long x8), none, some (.int x10), some (.int x11), none, none, none, none, none] [] h Q) (kf : ¬ 5 < x11 → am_W (X_Model_lie d) 90 [some (.ref 0), some (.int x1), some (.int x2), some (.int x3), some (.long x4), none, some (.long x6), none, some (.long x8), none, some (.int x10), some (.int x11), none, none, none, none, none] [] h Q) : am_W (X_Model_lie d) 84 [some (.ref 0), some (.int x1), some (.int x2), some (.int x3), some (.long x4), none, some (.long x6), none, some (.long x8), none, some (.int x10), some (.int x11), none, none, none, none, none] [] h Q :=
  am_iload d_Model_lie_84 rfl <|
    am_iconst (v := 5) d_Model_lie_86 (by decide) <|
    am_icmp_gt (tgt := 203) d_Model_lie_87 (by decide) kt kf
theorem b_Model_lie_90 {d : Nat} {x1 : Int32} {x2 : Int32} {x3 : Int32} {x4 : Int64} {x6 : Int64} {x8 : Int64} {x10 : Int32} {x11 : Int32} {h : am_H} {Q : am_Q} (k : am_W (X_Model_lie d) 93 [some (.ref 0), some (.int x1), some (.int x2), some (.int x3), some (.long x4), none, some (.long x6), none, some (.long x8), none, some (.int x10), some (.int x11), some (.int (-1)), none, none, none, none] [] h Q) : am_W (X_Model_lie d) 90 [some (.ref 0), some (.int x1), some (.int x2), some (.int x3), some (.long x4), none, some (.long x6), none, some (.long x8), none, some (.int x10), some (.int x11), none, none, none, none, none] [] h Q :=
  am_iconst (v := (-1)) d_Model_lie_90 (by decide) <|
    am_istore (ls' := [some (.ref 0), some (.int x1), some (.int x2), some (.int x3), some (.long x4), none, some (.long x6), none, some (.long x8), none, some (.int x10), some (.int x11), some (.int (-1)), none, none, none, none]) d_Model_lie_91 (Nat.le_of_ble_eq_true rfl) rfl <|
    k
theorem b_Model_lie_93 {d : Nat} {x1 : Int32} {x2 : Int32} {x3 : Int32} {x4 : Int64} {x6 : Int64} {x8 : Int64} {x10 : Int32} {x11 : Int32} {x12 : Int32} {h : am_H} {Q : am_Q} (kt : 2 ≤ x12 → am_W (X_Model_lie d) 197 [some (.ref 0), some (.int x1), some (.int x2), some (.int x3), some (.long x4), none, some (.long x6), none, some (.long x8), none, some (.int x10), some (.int x11), some (.int x12), none, none, none, none] [] h Q) (kf : ¬ 2 ≤ x12 → am_W (X_Model_lie d) 99 [some (.ref 0), some (.int x1), some (.int x2), some (.int x3), some (.long x4), none, some (.long x6), none, some (.long x8), none, some (.int x10), some (.int x11), some (.int x12), none, none, none, none] [] h Q) : am_W (X_Model_lie d) 93 [some (.ref 0), some (.int x1), some (.int x2), some (.int x3), some (.long x4), none, some (.long x6), none, some (.long x8), none, some (.int x10), some (.int x11), some (.int x12), none, none, none, none] [] h Q :=
  am_iload d_Model_lie_93 rfl <|
    am_iconst (v := 2) d_Model_lie_95 (by decide) <|
    am_icmp_ge (tgt := 197) d_Model_lie_96 (by decide) kt kf
theorem b_Model_lie_99 {d : Nat} {x1 : Int32} {x2 : Int32} {x3 : Int32} {x4 : Int64} {x6 : Int64} {x8 : Int64} {x10 : Int32} {x11 : Int32} {x12 : Int32} {h : am_H} {Q : am_Q} (k : m_Model_takenFrom d [.ref 0, .int x1, .int (x12 * x11)] h (fun r hh => am_W (X_Model_lie (d + 1)) 112 [some (.ref 0), some (.int x1), some (.int x2), some (.int x3), some (.long x4), none, some (.long x6), none, some (.long x8), none, some (.int x10), some (.int x11), some (.int x12), none, none, none, none] (r.toList ++ [.int x2, .int x1, .ref 0]) hh Q)) : am_W (X_Model_lie (d + 1)) 99 [some (.ref 0), some (.int x1), some (.int x2), some (.int x3), some (.long x4), none, some (.long x6), none, some (.long x8), none, some (.int x10), some (.int x11), some (.int x12), none, none, none, none] [] h Q :=
  am_aload_n d_Model_lie_99 rfl (i := 0) rfl <|
    am_iload_n d_Model_lie_100 rfl (i := 1) rfl <|
    am_iload_n d_Model_lie_101 rfl (i := 2) rfl <|
    am_aload_n d_Model_lie_102 rfl (i := 0) rfl <|
    am_iload_n d_Model_lie_103 rfl (i := 1) rfl <|
    am_iload d_Model_lie_104 rfl <|
    am_iload d_Model_lie_106 rfl <|
    am_imul d_Model_lie_108 <|
    am_callV (vs := [.int x1, .int (x12 * x11)]) (st := [.int x2, .int x1, .ref 0]) (k := 0) (ci := 10) rfl d_Model_lie_109 rfl rfl w_1554 w_1556 w_50 w_94 w_1557 p_Model_takenFrom (Nat.le_of_ble_eq_true rfl) (Nat.le_of_ble_eq_true rfl) rfl k
theorem b_Model_lie_112 {d : Nat} {x1 : Int32} {x2 : Int32} {x3 : Int32} {x4 : Int64} {x6 : Int64} {x8 : Int64} {x10 : Int32} {x11 : Int32} {x12 : Int32} {y3 : Int32} {y2 : Int32} {y1 : Int32} {h : am_H} {Q : am_Q} (k : m_Model_byClub d [.ref 0, .int y1, .int y2, .int y3] h (fun r hh => am_W (X_Model_lie (d + 1)) 115 [some (.ref 0), some (.int x1), some (.int x2), some (.int x3), some (.long x4), none, some (.long x6), none, some (.long x8), none, some (.int x10), some (.int x11), some (.int x12), none, none, none, none] (r.toList ++ []) hh Q)) : am_W (X_Model_lie (d + 1)) 112 [some (.ref 0), some (.int x1), some (.int x2), some (.int x3), some (.long x4), none, some (.long x6), none, some (.long x8), none, some (.int x10), some (.int x11), some (.int x12), none, none, none, none] [.int y3, .int y2, .int y1, .ref 0] h Q :=
  am_callV (vs := [.int y1, .int y2, .int y3]) (st := []) (k := 0) (ci := 10) rfl d_Model_lie_112 rfl rfl w_1626 w_1628 w_61 w_94 w_1629 p_Model_byClub (Nat.le_of_ble_eq_true rfl) (Nat.le_of_ble_eq_true rfl) rfl k
theorem b_Model_lie_115 {d : Nat} {x1 : Int32} {x2 : Int32} {x3 : Int32} {x4 : Int64} {x6 : Int64} {x8 : Int64} {x10 : Int32} {x11 : Int32} {x12 : Int32} {y0 : Int64} {h : am_H} {Q : am_Q} (kt : x6 ≤ y0 → am_W (X_Model_lie d) 133 [some (.ref 0), some (.int x1), some (.int x2), some (.int x3), some (.long x4), none, some (.long x6), none, some (.long x8), none, some (.int x10), some (.int x11), some (.int x12), some (.long y0), none, none, none] [] h Q) (kf : ¬ x6 ≤ y0 → am_W (X_Model_lie d) 125 [some (.ref 0), some (.int x1), some (.int x2), some (.int x3), some (.long x4), none, some (.long x6), none, some (.long x8), none, some (.int x10), some (.int x11), some (.int x12), some (.long y0), none, none, none] [] h Q) : am_W (X_Model_lie d) 115 [some (.ref 0), some (.int x1), some (.int x2), some (.int x3), some (.long x4), none, some (.long x6), none, some (.long x8), none, some (.int x10), some (.int x11), some (.int x12), none, none, none, none] [.long y0] h Q :=
  am_lstore (ls' := [some (.ref 0), some (.int x1), some (.int x2), some (.int x3), some (.long x4), none, some (.long x6), none, some (.long x8), none, some (.int x10), some (.int x11), some (.int x12), some (.long y0), none, none, none]) d_Model_lie_115 (Nat.le_of_ble_eq_true rfl) rfl <|
    am_lload d_Model_lie_117 rfl <|
    am_lload d_Model_lie_119 rfl <|
    am_lc_if_ge (tgt := 133) d_Model_lie_121 d_Model_lie_122 (by decide) kt kf
theorem b_Model_lie_125 {d : Nat} {x1 : Int32} {x2 : Int32} {x3 : Int32} {x4 : Int64} {x6 : Int64} {x8 : Int64} {x10 : Int32} {x11 : Int32} {x12 : Int32} {x13 : Int64} {h : am_H} {Q : am_Q} (k : am_W (X_Model_lie d) 135 [some (.ref 0), some (.int x1), some (.int x2), some (.int x3), some (.long x4), none, some (.long x6), none, some (.long x8), none, some (.int x10), some (.int x11), some (.int x12), some (.long x13), none, none, none] [.int (x12 * x11)] h Q) : am_W (X_Model_lie d) 125 [some (.ref 0), some (.int x1), some (.int x2), some (.int x3), some (.long x4), none, some (.long x6), none, some (.long x8), none, some (.int x10), some (.int x11), some (.int x12), some (.long x13), none, none, none] [] h Q :=
  am_iload d_Model_lie_125 rfl <|
    am_iload d_Model_lie_127 rfl <|
    am_imul d_Model_lie_129 <|
    am_goto (tgt := 135) d_Model_lie_130 (by decide) k
theorem b_Model_lie_133 {d : Nat} {x1 : Int32} {x2 : Int32} {x3 : Int32} {x4 : Int64} {x6 : Int64} {x8 : Int64} {x10 : Int32} {x11 : Int32} {x12 : Int32} {x13 : Int64} {h : am_H} {Q : am_Q} (k : am_W (X_Model_lie d) 135 [some (.ref 0), some (.int x1), some (.int x2), some (.int x3), some (.long x4), none, some (.long x6), none, some (.long x8), none, some (.int x10), some (.int x11), some (.int x12), some (.long x13), none, none, none] [.int x10] h Q) : am_W (X_Model_lie d) 133 [some (.ref 0), some (.int x1), some (.int x2), some (.int x3), some (.long x4), none, some (.long x6), none, some (.long x8), none, some (.int x10), some (.int x11), some (.int x12), some (.long x13), none, none, none] [] h Q :=
  am_iload d_Model_lie_133 rfl <|
    k
theorem b_Model_lie_135 {d : Nat} {x1 : Int32} {x2 : Int32} {x3 : Int32} {x4 : Int64} {x6 : Int64} {x8 : Int64} {x10 : Int32} {x11 : Int32} {x12 : Int32} {x13 : Int64} {y0 : Int32} {h : am_H} {Q : am_Q} (kt : x6 ≤ x13 → am_W (X_Model_lie d) 150 [some (.ref 0), some (.int x1), some (.int x2), some (.int x3), some (.long x4), none, some (.long x6), none, some (.long x8), none, some (.int y0), some (.int x11), some (.int x12), some (.long x13), none, none, none] [] h Q) (kf : ¬ x6 ≤ x13 → am_W (X_Model_lie d) 145 [some (.ref 0), some (.int x1), some (.int x2), some (.int x3), some (.long x4), none, some (.long x6), none, some (.long x8), none, some (.int y0), some (.int x11), some (.int x12), some (.long x13), none, none, none] [] h Q) : am_W (X_Model_lie d) 135 [some (.ref 0), some (.int x1), some (.int x2), some (.int x3), some (.long x4), none, some (.long x6), none, some (.long x8), none, some (.int x10), some (.int x11), some (.int x12), some (.long x13), none, none, none] [.int y0] h Q :=
  am_istore (ls' := [some (.ref 0), some (.int x1), some (.int x2), some (.int x3), some (.long x4), none, some (.long x6), none, some (.long x8), none, some (.int y0), some (.int x11), some (.int x12), some (.long x13), none, none, none]) d_Model_lie_135 (Nat.le_of_ble_eq_true rfl) rfl <|
    am_lload d_Model_lie_137 rfl <|
    am_lload d_Model_lie_139 rfl <|
    am_lc_if_ge (tgt := 150) d_Model_lie_141 d_Model_lie_142 (by decide) kt kf
theorem b_Model_lie_145 {d : Nat} {x1 : Int32} {x2 : Int32} {x3 : Int32} {x4 : Int64} {x6 : Int64} {x8 : Int64} {x10 : Int32} {x11 : Int32} {x12 : Int32} {x13 : Int64} {h : am_H} {Q : am_Q} (k : am_W (X_Model_lie d) 152 [some (.ref 0), some (.int x1), some (.int x2), some (.int x3), some (.long x4), none, some (.long x6), none, some (.long x8), none, some (.int x10), some (.int x11), some (.int x12), some (.long x13), none, none, none] [.long x13] h Q) : am_W (X_Model_lie d) 145 [some (.ref 0), some (.int x1), some (.int x2), some (.int x3), some (.long x4), none, some (.long x6), none, some (.long x8), none, some (.int x10), some (.int x11), some (.int x12), some (.long x13), none, none, none] [] h Q :=
  am_lload d_Model_lie_145 rfl <|
    am_goto (tgt := 152) d_Model_lie_147 (by decide) k
theorem b_Model_lie_150 {d : Nat} {x1 : Int32} {x2 : Int32} {x3 : Int32} {x4 : Int64} {x6 : Int64} {x8 : Int64} {x10 : Int32} {x11 : Int32} {x12 : Int32} {x13 : Int64} {h : am_H} {Q : am_Q} (k : am_W (X_Model_lie d) 152 [some (.ref 0), some (.int x1), some (.int x2), some (.int x3), some (.long x4), none, some (.long x6), none, some (.long x8), none, some (.int x10), some (.int x11), some (.int x12), some (.long x13), none, none, none] [.long x6] h Q) : am_W (X_Model_lie d) 150 [some (.ref 0), some (.int x1), some (.int x2), some (.int x3), some (.long x4), none, some (.long x6), none, some (.long x8), none, some (.int x10), some (.int x11), some (.int x12), some (.long x13), none, none, none] [] h Q :=
  am_lload d_Model_lie_150 rfl <|
    k
theorem b_Model_lie_152 {d : Nat} {x1 : Int32} {x2 : Int32} {x3 : Int32} {x4 : Int64} {x6 : Int64} {x8 : Int64} {x10 : Int32} {x11 : Int32} {x12 : Int32} {x13 : Int64} {y0 : Int64} {h : am_H} {Q : am_Q} (k : m_Model_takenFrom d [.ref 0, .int x1, .int ((x12 * x11) / 2)] h (fun r hh => am_W (X_Model_lie (d + 1)) 169 [some (.ref 0), some (.int x1), some (.int x2), some (.int x3), some (.long x4), none, some (.long y0), none, some (.long x8), none, some (.int x10), some (.int x11), some (.int x12), some (.long x13), none, none, none] (r.toList ++ [.int x2, .int x1, .ref 0]) hh Q)) : am_W (X_Model_lie (d + 1)) 152 [some (.ref 0), some (.int x1), some (.int x2), some (.int x3), some (.long x4), none, some (.long x6), none, some (.long x8), none, some (.int x10), some (.int x11), some (.int x12), some (.long x13), none, none, none] [.long y0] h Q :=
  am_lstore (ls' := [some (.ref 0), some (.int x1), some (.int x2), some (.int x3), some (.long x4), none, some (.long y0), none, some (.long x8), none, some (.int x10), some (.int x11), some (.int x12), some (.long x13), none, none, none]) d_Model_lie_152 (Nat.le_of_ble_eq_true rfl) rfl <|
    am_aload_n d_Model_lie_154 rfl (i := 0) rfl <|
    am_iload_n d_Model_lie_155 rfl (i := 1) rfl <|
    am_iload_n d_Model_lie_156 rfl (i := 2) rfl <|
    am_aload_n d_Model_lie_157 rfl (i := 0) rfl <|
    am_iload_n d_Model_lie_158 rfl (i := 1) rfl <|
    am_iload d_Model_lie_159 rfl <|
    am_iload d_Model_lie_161 rfl <|
    am_imul d_Model_lie_163 <|
    am_iconst (v := 2) d_Model_lie_164 (by decide) <|
    am_idiv d_Model_lie_165 (by decide) <|
    am_callV (vs := [.int x1, .int ((x12 * x11) / 2)]) (st := [.int x2, .int x1, .ref 0]) (k := 0) (ci := 10) rfl d_Model_lie_166 rfl rfl w_1554 w_1556 w_50 w_94 w_1557 p_Model_takenFrom (Nat.le_of_ble_eq_true rfl) (Nat.le_of_ble_eq_true rfl) rfl k
theorem b_Model_lie_169 {d : Nat} {x1 : Int32} {x2 : Int32} {x3 : Int32} {x4 : Int64} {x6 : Int64} {x8 : Int64} {x10 : Int32} {x11 : Int32} {x12 : Int32} {x13 : Int64} {y3 : Int32} {y2 : Int32} {y1 : Int32} {h : am_H} {Q : am_Q} (k : m_Model_byClub d [.ref 0, .int y1, .int y2, .int y3] h (fun r hh => am_W (X_Model_lie (d + 1)) 172 [some (.ref 0), some (.int x1), some (.int x2), some (.int x3), some (.long x4), none, some (.long x6), none, some (.long x8), none, some (.int x10), some (.int x11), some (.int x12), some (.long x13), none, none, none] (r.toList ++ []) hh Q)) : am_W (X_Model_lie (d + 1)) 169 [some (.ref 0), some (.int x1), some (.int x2), some (.int x3), some (.long x4), none, some (.long x6), none, some (.long x8), none, some (.int x10), some (.int x11), some (.int x12), some (.long x13), none, none, none] [.int y3, .int y2, .int y1, .ref 0] h Q :=
  am_callV (vs := [.int y1, .int y2, .int y3]) (st := []) (k := 0) (ci := 10) rfl d_Model_lie_169 rfl rfl w_1626 w_1628 w_61 w_94 w_1629 p_Model_byClub (Nat.le_of_ble_eq_true rfl) (Nat.le_of_ble_eq_true rfl) rfl k
theorem b_Model_lie_172 {d : Nat} {x1 : Int32} {x2 : Int32} {x3 : Int32} {x4 : Int64} {x6 : Int64} {x8 : Int64} {x10 : Int32} {x11 : Int32} {x12 : Int32} {x13 : Int64} {y0 : Int64} {h : am_H} {Q : am_Q} (kt : x8 ≤ y0 → am_W (X_Model_lie d) 187 [some (.ref 0), some (.int x1), some (.int x2), some (.int x3), some (.long x4), none, some (.long x6), none, some (.long x8), none, some (.int x10), some (.int x11), some (.int x12), some (.long x13), none, some (.long y0), none] [] h Q) (kf : ¬ x8 ≤ y0 → am_W (X_Model_lie d) 182 [some (.ref 0), some (.int x1), some (.int x2), some (.int x3), some (.long x4), none, some (.long x6), none, some (.long x8), none, some (.int x10), some (.int x11), some (.int x12), some (.long x13), none, some (.long y0), none] [] h Q) : am_W (X_Model_lie d) 172 [some (.ref 0), some (.int x1), some (.int x2), some (.int x3), some (.long x4), none, some (.long x6), none, some (.long x8), none, some (.int x10), some (.int x11), some (.int x12), some (.long x13), none, none, none] [.long y0] h Q :=
  am_lstore (ls' := [some (.ref 0), some (.int x1), some (.int x2), some (.int x3), some (.long x4), none, some (.long x6), none, some (.long x8), none, some (.int x10), some (.int x11), some (.int x12), some (.long x13), none, some (.long y0), none]) d_Model_lie_172 (Nat.le_of_ble_eq_true rfl) rfl <|
    am_lload d_Model_lie_174 rfl <|
    am_lload d_Model_lie_176 rfl <|
    am_lc_if_ge (tgt := 187) d_Model_lie_178 d_Model_lie_179 (by decide) kt kf
theorem b_Model_lie_182 {d : Nat} {x1 : Int32} {x2 : Int32} {x3 : Int32} {x4 : Int64} {x6 : Int64} {x8 : Int64} {x10 : Int32} {x11 : Int32} {x12 : Int32} {x13 : Int64} {x15 : Int64} {h : am_H} {Q : am_Q} (k : am_W (X_Model_lie d) 189 [some (.ref 0), some (.int x1), some (.int x2), some (.int x3), some (.long x4), none, some (.long x6), none, some (.long x8), none, some (.int x10), some (.int x11), some (.int x12), some (.long x13), none, some (.long x15), none] [.long x15] h Q) : am_W (X_Model_lie d) 182 [some (.ref 0), some (.int x1), some (.int x2), some (.int x3), some (.long x4), none, some (.long x6), none, some (.long x8), none, some (.int x10), some (.int x11), some (.int x12), some (.long x13), none, some (.long x15), none] [] h Q :=
  am_lload d_Model_lie_182 rfl <|
    am_goto (tgt := 189) d_Model_lie_184 (by decide) k
theorem b_Model_lie_187 {d : Nat} {x1 : Int32} {x2 : Int32} {x3 : Int32} {x4 : Int64} {x6 : Int64} {x8 : Int64} {x10 : Int32} {x11 : Int32} {x12 : Int32} {x13 : Int64} {x15 : Int64} {h : am_H} {Q : am_Q} (k : am_W (X_Model_lie d) 189 [some (.ref 0), some (.int x1), some (.int x2), some (.int x3), some (.long x4), none, some (.long x6), none, some (.long x8), none, some (.int x10), some (.int x11), some (.int x12), some (.long x13), none, some (.long x15), none] [.long x8] h Q) : am_W (X_Model_lie d) 187 [some (.ref 0), some (.int x1), some (.int x2), some (.int x3), some (.long x4), none, some (.long x6), none, some (.long x8), none, some (.int x10), some (.int x11), some (.int x12), some (.long x13), none, some (.long x15), none] [] h Q :=
  am_lload d_Model_lie_187 rfl <|
    k
theorem b_Model_lie_189 {d : Nat} {x1 : Int32} {x2 : Int32} {x3 : Int32} {x4 : Int64} {x6 : Int64} {x8 : Int64} {x10 : Int32} {x11 : Int32} {x12 : Int32} {x13 : Int64} {x15 : Int64} {y0 : Int64} {h : am_H} {Q : am_Q} (k : am_W (X_Model_lie d) 93 [some (.ref 0), some (.int x1), some (.int x2), some (.int x3), some (.long x4), none, some (.long x6), none, some (.long y0), none, some (.int x10), some (.int x11), some (.int (x12 + 2)), some (.long x13), none, some (.long x15), none] [] h Q) : am_W (X_Model_lie d) 189 [some (.ref 0), some (.int x1), some (.int x2), some (.int x3), some (.long x4), none, some (.long x6), none, some (.long x8), none, some (.int x10), some (.int x11), some (.int x12), some (.long x13), none, some (.long x15), none] [.long y0] h Q :=
  am_lstore (ls' := [some (.ref 0), some (.int x1), some (.int x2), some (.int x3), some (.long x4), none, some (.long x6), none, some (.long y0), none, some (.int x10), some (.int x11), some (.int x12), some (.long x13), none, some (.long x15), none]) d_Model_lie_189 (Nat.le_of_ble_eq_true rfl) rfl <|
    am_iinc (v := (x12 + 2)) (ls' := [some (.ref 0), some (.int x1), some (.int x2), some (.int x3), some (.long x4), none, some (.long x6), none, some (.long y0), none, some (.int x10), some (.int x11), some (.int (x12 + 2)), some (.long x13), none, some (.long x15), none]) d_Model_lie_191 rfl rfl (Nat.le_of_ble_eq_true rfl) rfl <|
    am_goto (tgt := 93) d_Model_lie_194 (by decide) k
theorem b_Model_lie_197 {d : Nat} {x1 : Int32} {x2 : Int32} {x3 : Int32} {x4 : Int64} {x6 : Int64} {x8 : Int64} {x10 : Int32} {x11 : Int32} {x12 : Int32} {h : am_H} {Q : am_Q} (k : am_W (X_Model_lie d) 84 [some (.ref 0), some (.int x1), some (.int x2), some (.int x3), some (.long x4), none, some (.long x6), none, some (.long x8), none, some (.int x10), some (.int (x11 + 1)), some (.int x12), none, none, none, none] [] h Q) : am_W (X_Model_lie d) 197 [some (.ref 0), some (.int x1), some (.int x2), some (.int x3), some (.long x4), none, some (.long x6), none, some (.long x8), none, some (.int x10), some (.int x11), some (.int x12), none, none, none, none] [] h Q :=
  am_iinc (v := (x11 + 1)) (ls' := [some (.ref 0), some (.int x1), some (.int x2), some (.int x3), some (.long x4), none, some (.long x6), none, some (.long x8), none, some (.int x10), some (.int (x11 + 1)), some (.int x12), none, none, none, none]) d_Model_lie_197 rfl rfl (Nat.le_of_ble_eq_true rfl) rfl <|
    am_goto (tgt := 84) d_Model_lie_200 (by decide) k
theorem b_Model_lie_203 {d : Nat} {x1 : Int32} {x2 : Int32} {x3 : Int32} {x4 : Int64} {x6 : Int64} {x8 : Int64} {x10 : Int32} {x11 : Int32} {h : am_H} {Q : am_Q} (kt : 2 ≤ x3 → am_W (X_Model_lie d) 221 [some (.ref 0), some (.int x1), some (.int x2), some (.int x3), some (.long x4), none, some (.long x6), none, some (.long x8), none, some (.int x10), some (.int x11), none, none, none, none, none] [] h Q) (kf : ¬ 2 ≤ x3 → am_W (X_Model_lie d) 208 [some (.ref 0), some (.int x1), some (.int x2), some (.int x3), some (.long x4), none, some (.long x6), none, some (.long x8), none, some (.int x10), some (.int x11), none, none, none, none, none] [] h Q) : am_W (X_Model_lie d) 203 [some (.ref 0), some (.int x1), some (.int x2), some (.int x3), some (.long x4), none, some (.long x6), none, some (.long x8), none, some (.int x10), some (.int x11), none, none, none, none, none] [] h Q :=
  am_iload_n d_Model_lie_203 rfl (i := 3) rfl <|
    am_iconst (v := 2) d_Model_lie_204 (by decide) <|
    am_icmp_ge (tgt := 221) d_Model_lie_205 (by decide) kt kf
theorem b_Model_lie_208 {d : Nat} {x1 : Int32} {x2 : Int32} {x3 : Int32} {x4 : Int64} {x6 : Int64} {x8 : Int64} {x10 : Int32} {x11 : Int32} {h : am_H} {Q : am_Q} (q0 : vp_in x2 5) (k : m_Model_partOf d [.long x6, .long (h.2 10 x2.toNatClampNeg), .int x3] h (fun r hh => am_W (X_Model_lie (d + 1)) 220 [some (.ref 0), some (.int x1), some (.int x2), some (.int x3), some (.long x4), none, some (.long x6), none, some (.long x8), none, some (.int x10), some (.int x11), none, none, none, none, none] (r.toList ++ []) hh Q)) : am_W (X_Model_lie (d + 1)) 208 [some (.ref 0), some (.int x1), some (.int x2), some (.int x3), some (.long x4), none, some (.long x6), none, some (.long x8), none, some (.int x10), some (.int x11), none, none, none, none, none] [] h Q :=
  am_lload d_Model_lie_208 rfl <|
    am_aload_n d_Model_lie_210 rfl (i := 0) rfl <|
    am_getR (ci := 10) (i := 19) rfl rfl rfl (Nat.le_of_ble_eq_true rfl) w_1337 d_Model_lie_211 <|
    am_iload_n d_Model_lie_214 rfl (i := 2) rfl <|
    am_lald rfl q0 d_Model_lie_215 <|
    am_iload_n d_Model_lie_216 rfl (i := 3) rfl <|
    am_callS (vs := [.long x6, .long (h.2 10 x2.toNatClampNeg), .int x3]) (st := []) rfl d_Model_lie_217 w_1590 w_1591 w_94 w_1592 p_Model_partOf (Nat.le_of_ble_eq_true rfl) (Nat.le_of_ble_eq_true rfl) rfl k
theorem b_Model_lie_220 {d : Nat} {x1 : Int32} {x2 : Int32} {x3 : Int32} {x4 : Int64} {x6 : Int64} {x8 : Int64} {x10 : Int32} {x11 : Int32} {y0 : Int64} {h : am_H} {Q : am_Q} (q : Q (some (.long y0)) h) : am_W (X_Model_lie d) 220 [some (.ref 0), some (.int x1), some (.int x2), some (.int x3), some (.long x4), none, some (.long x6), none, some (.long x8), none, some (.int x10), some (.int x11), none, none, none, none, none] [.long y0] h Q :=
  am_lret rfl d_Model_lie_220 q
theorem b_Model_lie_221 {d : Nat} {x1 : Int32} {x2 : Int32} {x3 : Int32} {x4 : Int64} {x6 : Int64} {x8 : Int64} {x10 : Int32} {x11 : Int32} {h : am_H} {Q : am_Q} (kt : ¬ x3 = 2 → am_W (X_Model_lie d) 232 [some (.ref 0), some (.int x1), some (.int x2), some (.int x3), some (.long x4), none, some (.long x6), none, some (.long x8), none, some (.int x10), some (.int x11), none, none, none, none, none] [] h Q) (kf : x3 = 2 → am_W (X_Model_lie d) 226 [some (.ref 0), some (.int x1), some (.int x2), some (.int x3), some (.long x4), none, some (.long x6), none, some (.long x8), none, some (.int x10), some (.int x11), none, none, none, none, none] [] h Q) : am_W (X_Model_lie d) 221 [some (.ref 0), some (.int x1), some (.int x2), some (.int x3), some (.long x4), none, some (.long x6), none, some (.long x8), none, some (.int x10), some (.int x11), none, none, none, none, none] [] h Q :=
  am_iload_n d_Model_lie_221 rfl (i := 3) rfl <|
    am_iconst (v := 2) d_Model_lie_222 (by decide) <|
    am_icmp_ne (tgt := 232) d_Model_lie_223 (by decide) kt kf
theorem b_Model_lie_226 {d : Nat} {x1 : Int32} {x2 : Int32} {x3 : Int32} {x4 : Int64} {x6 : Int64} {x8 : Int64} {x10 : Int32} {x11 : Int32} {h : am_H} {Q : am_Q} (q : Q (some (.long x10.toInt64)) h) : am_W (X_Model_lie d) 226 [some (.ref 0), some (.int x1), some (.int x2), some (.int x3), some (.long x4), none, some (.long x6), none, some (.long x8), none, some (.int x10), some (.int x11), none, none, none, none, none] [] h Q :=
  am_iload d_Model_lie_226 rfl <|
    am_i2l d_Model_lie_228 <|
    am_goto (tgt := 274) d_Model_lie_229 (by decide) <|
    am_lret rfl d_Model_lie_274 q
theorem b_Model_lie_232 {d : Nat} {x1 : Int32} {x2 : Int32} {x3 : Int32} {x4 : Int64} {x6 : Int64} {x8 : Int64} {x10 : Int32} {x11 : Int32} {h : am_H} {Q : am_Q} (kt : 5 ≤ x3 → am_W (X_Model_lie d) 257 [some (.ref 0), some (.int x1), some (.int x2), some (.int x3), some (.long x4), none, some (.long x6), none, some (.long x8), none, some (.int x10), some (.int x11), none, none, none, none, none] [] h Q) (kf : ¬ 5 ≤ x3 → am_W (X_Model_lie d) 237 [some (.ref 0), some (.int x1), some (.int x2), some (.int x3), some (.long x4), none, some (.long x6), none, some (.long x8), none, some (.int x10), some (.int x11), none, none, none, none, none] [] h Q) : am_W (X_Model_lie d) 232 [some (.ref 0), some (.int x1), some (.int x2), some (.int x3), some (.long x4), none, some (.long x6), none, some (.long x8), none, some (.int x10), some (.int x11), none, none, none, none, none] [] h Q :=
  am_iload_n d_Model_lie_232 rfl (i := 3) rfl <|
    am_iconst (v := 5) d_Model_lie_233 (by decide) <|
    am_icmp_ge (tgt := 257) d_Model_lie_234 (by decide) kt kf
theorem b_Model_lie_237 {d : Nat} {x1 : Int32} {x2 : Int32} {x3 : Int32} {x4 : Int64} {x6 : Int64} {x8 : Int64} {x10 : Int32} {x11 : Int32} {h : am_H} {Q : am_Q} (q0 : vp_in x2 5) (k : m_Model_partOf d [.long (x4 - x6), .long (h.2 10 x2.toNatClampNeg), .int (x3 - 3)] h (fun r hh => am_W (X_Model_lie (d + 1)) 254 [some (.ref 0), some (.int x1), some (.int x2), some (.int x3), some (.long x4), none, some (.long x6), none, some (.long x8), none, some (.int x10), some (.int x11), none, none, none, none, none] (r.toList ++ []) hh Q)) : am_W (X_Model_lie (d + 1)) 237 [some (.ref 0), some (.int x1), some (.int x2), some (.int x3), some (.long x4), none, some (.long x6), none, some (.long x8), none, some (.int x10), some (.int x11), none, none, none, none, none] [] h Q :=
  am_lload d_Model_lie_237 rfl <|
    am_lload d_Model_lie_239 rfl <|
    am_lsub d_Model_lie_241 <|
    am_aload_n d_Model_lie_242 rfl (i := 0) rfl <|
    am_getR (ci := 10) (i := 19) rfl rfl rfl (Nat.le_of_ble_eq_true rfl) w_1337 d_Model_lie_243 <|
    am_iload_n d_Model_lie_246 rfl (i := 2) rfl <|
    am_lald rfl q0 d_Model_lie_247 <|
    am_iload_n d_Model_lie_248 rfl (i := 3) rfl <|
    am_iconst (v := 3) d_Model_lie_249 (by decide) <|
    am_isub d_Model_lie_250 <|
    am_callS (vs := [.long (x4 - x6), .long (h.2 10 x2.toNatClampNeg), .int (x3 - 3)]) (st := []) rfl d_Model_lie_251 w_1590 w_1591 w_94 w_1592 p_Model_partOf (Nat.le_of_ble_eq_true rfl) (Nat.le_of_ble_eq_true rfl) rfl k
theorem b_Model_lie_254 {d : Nat} {x1 : Int32} {x2 : Int32} {x3 : Int32} {x4 : Int64} {x6 : Int64} {x8 : Int64} {x10 : Int32} {x11 : Int32} {y0 : Int64} {h : am_H} {Q : am_Q} (q : Q (some (.long y0)) h) : am_W (X_Model_lie d) 254 [some (.ref 0), some (.int x1), some (.int x2), some (.int x3), some (.long x4), none, some (.long x6), none, some (.long x8), none, some (.int x10), some (.int x11), none, none, none, none, none] [.long y0] h Q :=
  am_goto (tgt := 274) d_Model_lie_254 (by decide) <|
    am_lret rfl d_Model_lie_274 q
theorem b_Model_lie_257 {d : Nat} {x1 : Int32} {x2 : Int32} {x3 : Int32} {x4 : Int64} {x6 : Int64} {x8 : Int64} {x10 : Int32} {x11 : Int32} {h : am_H} {Q : am_Q} (q0 : vp_in x2 5) (k : m_Model_partOf d [.long (x4 - x8), .long (h.2 10 x2.toNatClampNeg), .int (x3 - 5)] h (fun r hh => am_W (X_Model_lie (d + 1)) 274 [some (.ref 0), some (.int x1), some (.int x2), some (.int x3), some (.long x4), none, some (.long x6), none, some (.long x8), none, some (.int x10), some (.int x11), none, none, none, none, none] (r.toList ++ []) hh Q)) : am_W (X_Model_lie (d + 1)) 257 [some (.ref 0), some (.int x1), some (.int x2), some (.int x3), some (.long x4), none, some (.long x6), none, some (.long x8), none, some (.int x10), some (.int x11), none, none, none, none, none] [] h Q :=
  am_lload d_Model_lie_257 rfl <|
    am_lload d_Model_lie_259 rfl <|
    am_lsub d_Model_lie_261 <|
    am_aload_n d_Model_lie_262 rfl (i := 0) rfl <|
    am_getR (ci := 10) (i := 19) rfl rfl rfl (Nat.le_of_ble_eq_true rfl) w_1337 d_Model_lie_263 <|
    am_iload_n d_Model_lie_266 rfl (i := 2) rfl <|
    am_lald rfl q0 d_Model_lie_267 <|
    am_iload_n d_Model_lie_268 rfl (i := 3) rfl <|
    am_iconst (v := 5) d_Model_lie_269 (by decide) <|
    am_isub d_Model_lie_270 <|
    am_callS (vs := [.long (x4 - x8), .long (h.2 10 x2.toNatClampNeg), .int (x3 - 5)]) (st := []) rfl d_Model_lie_271 w_1590 w_1591 w_94 w_1592 p_Model_partOf (Nat.le_of_ble_eq_true rfl) (Nat.le_of_ble_eq_true rfl) rfl k
theorem b_Model_lie_274 {d : Nat} {x1 : Int32} {x2 : Int32} {x3 : Int32} {x4 : Int64} {x6 : Int64} {x8 : Int64} {x10 : Int32} {x11 : Int32} {y0 : Int64} {h : am_H} {Q : am_Q} (q : Q (some (.long y0)) h) : am_W (X_Model_lie d) 274 [some (.ref 0), some (.int x1), some (.int x2), some (.int x3), some (.long x4), none, some (.long x6), none, some (.long x8), none, some (.int x10), some (.int x11), none, none, none, none, none] [.long y0] h Q :=
  am_lret rfl d_Model_lie_274 q
theorem t_Model_lie_47 {d : Nat} {x1 : Int32} {x2 : Int32} {x3 : Int32} {h : am_H} {Q : am_Q} {res : Int64 × am_H} (e : f_Model_lie_47 h = some res) (q : Q (some (.long res.1)) res.2) : am_W (X_Model_lie (d + 70)) 47 [some (.ref 0), some (.int x1), some (.int x2), some (.int x3), none, none, none, none, none, none, none, none, none, none, none, none, none] [] h Q :=
  b_Model_lie_47 (d := (d + 70)) (q := (am_rJpi (v := (-9223372036854775808)) e q))
theorem t_Model_lie_274 {d : Nat} {x1 : Int32} {x2 : Int32} {x3 : Int32} {x4 : Int64} {x6 : Int64} {x8 : Int64} {x10 : Int32} {x11 : Int32} {y0 : Int64} {h : am_H} {Q : am_Q} {res : Int64 × am_H} (e : f_Model_lie_274 h y0 = some res) (q : Q (some (.long res.1)) res.2) : am_W (X_Model_lie (d + 70)) 274 [some (.ref 0), some (.int x1), some (.int x2), some (.int x3), some (.long x4), none, some (.long x6), none, some (.long x8), none, some (.int x10), some (.int x11), none, none, none, none, none] [.long y0] h Q :=
  b_Model_lie_274 (d := (d + 70)) (q := (am_rJpi (v := y0) e q))
theorem t_Model_lie_257 {d : Nat} {x1 : Int32} {x2 : Int32} {x3 : Int32} {x4 : Int64} {x6 : Int64} {x8 : Int64} {x10 : Int32} {x11 : Int32} {h : am_H} {Q : am_Q} {res : Int64 × am_H} (e : f_Model_lie_257 h x2 x3 x4 x8 = some res) (q : Q (some (.long res.1)) res.2) : am_W (X_Model_lie (d + 70)) 257 [some (.ref 0), some (.int x1), some (.int x2), some (.int x3), some (.long x4), none, some (.long x6), none, some (.long x8), none, some (.int x10), some (.int x11), none, none, none, none, none] [] h Q :=
  (am_bd (am_ga e)).elim fun p hp => b_Model_lie_257 (d := (d + 69)) (q0 := (am_okv (am_gd e))) (k := c_Model_partOf (d := d + 68) hp.1 (t_Model_lie_274 hp.2 q))
theorem t_Model_lie_254 {d : Nat} {x1 : Int32} {x2 : Int32} {x3 : Int32} {x4 : Int64} {x6 : Int64} {x8 : Int64} {x10 : Int32} {x11 : Int32} {y0 : Int64} {h : am_H} {Q : am_Q} {res : Int64 × am_H} (e : f_Model_lie_254 h y0 = some res) (q : Q (some (.long res.1)) res.2) : am_W (X_Model_lie (d + 70)) 254 [some (.ref 0), some (.int x1), some (.int x2), some (.int x3), some (.long x4), none, some (.long x6), none, some (.long x8), none, some (.int x10), some (.int x11), none, none, none, none, none] [.long y0] h Q :=
  b_Model_lie_254 (d := (d + 70)) (q := (am_rJpi (v := y0) e q))
theorem t_Model_lie_237 {d : Nat} {x1 : Int32} {x2 : Int32} {x3 : Int32} {x4 : Int64} {x6 : Int64} {x8 : Int64} {x10 : Int32} {x11 : Int32} {h : am_H} {Q : am_Q} {res : Int64 × am_H} (e : f_Model_lie_237 h x2 x3 x4 x6 = some res) (q : Q (some (.long res.1)) res.2) : am_W (X_Model_lie (d + 70)) 237 [some (.ref 0), some (.int x1), some (.int x2), some (.int x3), some (.long x4), none, some (.long x6), none, some (.long x8), none, some (.int x10), some (.int x11), none, none, none, none, none] [] h Q :=
  (am_bd (am_ga e)).elim fun p hp => b_Model_lie_237 (d := (d + 69)) (q0 := (am_okv (am_gd e))) (k := c_Model_partOf (d := d + 68) hp.1 (t_Model_lie_254 hp.2 q))
theorem t_Model_lie_232 {d : Nat} {x1 : Int32} {x2 : Int32} {x3 : Int32} {x4 : Int64} {x6 : Int64} {x8 : Int64} {x10 : Int32} {x11 : Int32} {h : am_H} {Q : am_Q} {res : Int64 × am_H} (e : f_Model_lie_232 h x2 x3 x4 x6 x8 = some res) (q : Q (some (.long res.1)) res.2) : am_W (X_Model_lie (d + 70)) 232 [some (.ref 0), some (.int x1), some (.int x2), some (.int x3), some (.long x4), none, some (.long x6), none, some (.long x8), none, some (.int x10), some (.int x11), none, none, none, none, none] [] h Q :=
  b_Model_lie_232 (d := (d + 70)) (kt := fun c => (t_Model_lie_257 (am_ift e c) q)) (kf := fun c => (t_Model_lie_237 (am_ife e c) q))
theorem t_Model_lie_226 {d : Nat} {x1 : Int32} {x2 : Int32} {x3 : Int32} {x4 : Int64} {x6 : Int64} {x8 : Int64} {x10 : Int32} {x11 : Int32} {h : am_H} {Q : am_Q} {res : Int64 × am_H} (e : f_Model_lie_226 h x10 = some res) (q : Q (some (.long res.1)) res.2) : am_W (X_Model_lie (d + 70)) 226 [some (.ref 0), some (.int x1), some (.int x2), some (.int x3), some (.long x4), none, some (.long x6), none, some (.long x8), none, some (.int x10), some (.int x11), none, none, none, none, none] [] h Q :=
  b_Model_lie_226 (d := (d + 70)) (q := (am_rJpi (v := x10.toInt64) e q))
theorem t_Model_lie_221 {d : Nat} {x1 : Int32} {x2 : Int32} {x3 : Int32} {x4 : Int64} {x6 : Int64} {x8 : Int64} {x10 : Int32} {x11 : Int32} {h : am_H} {Q : am_Q} {res : Int64 × am_H} (e : f_Model_lie_221 h x2 x3 x4 x6 x8 x10 = some res) (q : Q (some (.long res.1)) res.2) : am_W (X_Model_lie (d + 70)) 221 [some (.ref 0), some (.int x1), some (.int x2), some (.int x3), some (.long x4), none, some (.long x6), none, some (.long x8), none, some (.int x10), some (.int x11), none, none, none, none, none] [] h Q :=
  b_Model_lie_221 (d := (d + 70)) (kt := fun c => (t_Model_lie_232 (am_ife e c) q)) (kf := fun c => (t_Model_lie_226 (am_ift e c) q))
theorem t_Model_lie_220 {d : Nat} {x1 : Int32} {x2 : Int32} {x3 : Int32} {x4 : Int64} {x6 : Int64} {x8 : Int64} {x10 : Int32} {x11 : Int32} {y0 : Int64} {h : am_H} {Q : am_Q} {res : Int64 × am_H} (e : f_Model_lie_220 h y0 = some res) (q : Q (some (.long res.1)) res.2) : am_W (X_Model_lie (d + 70)) 220 [some (.ref 0), some (.int x1), some (.int x2), some (.int x3), some (.long x4), none, some (.long x6), none, some (.long x8), none, some (.int x10), some (.int x11), none, none, none, none, none] [.long y0] h Q :=
  b_Model_lie_220 (d := (d + 70)) (q := (am_rJpi (v := y0) e q))
theorem t_Model_lie_208 {d : Nat} {x1 : Int32} {x2 : Int32} {x3 : Int32} {x4 : Int64} {x6 : Int64} {x8 : Int64} {x10 : Int32} {x11 : Int32} {h : am_H} {Q : am_Q} {res : Int64 × am_H} (e : f_Model_lie_208 h x2 x3 x6 = some res) (q : Q (some (.long res.1)) res.2) : am_W (X_Model_lie (d + 70)) 208 [some (.ref 0), some (.int x1), some (.int x2), some (.int x3), some (.long x4), none, some (.long x6), none, some (.long x8), none, some (.int x10), some (.int x11), none, none, none, none, none] [] h Q :=
  (am_bd (am_ga e)).elim fun p hp => b_Model_lie_208 (d := (d + 69)) (q0 := (am_okv (am_gd e))) (k := c_Model_partOf (d := d + 68) hp.1 (t_Model_lie_220 hp.2 q))
theorem t_Model_lie_203 {d : Nat} {x1 : Int32} {x2 : Int32} {x3 : Int32} {x4 : Int64} {x6 : Int64} {x8 : Int64} {x10 : Int32} {x11 : Int32} {h : am_H} {Q : am_Q} {res : Int64 × am_H} (e : f_Model_lie_203 h x2 x3 x4 x6 x8 x10 = some res) (q : Q (some (.long res.1)) res.2) : am_W (X_Model_lie (d + 70)) 203 [some (.ref 0), some (.int x1), some (.int x2), some (.int x3), some (.long x4), none, some (.long x6), none, some (.long x8), none, some (.int x10), some (.int x11), none, none, none, none, none] [] h Q :=
  b_Model_lie_203 (d := (d + 70)) (kt := fun c => (t_Model_lie_221 (am_ift e c) q)) (kf := fun c => (t_Model_lie_208 (am_ife e c) q))
theorem t_Model_lie_197 {d : Nat} {k84 : am_H → Int32 → Int32 → Int32 → Int64 → Int64 → Int64 → Int32 → Int32 → Option (Int64 × am_H)} {x1 : Int32} {x2 : Int32} {x3 : Int32} {x4 : Int64} {x6 : Int64} {x8 : Int64} {x10 : Int32} {x11 : Int32} {x12 : Int32} {h : am_H} {Q : am_Q} {res : Int64 × am_H} (hk84 : ∀ (x1 : Int32) (x2 : Int32) (x3 : Int32) (x4 : Int64) (x6 : Int64) (x8 : Int64) (x10 : Int32) (x11 : Int32) (h : am_H), k84 h x1 x2 x3 x4 x6 x8 x10 x11 = some res → am_W (X_Model_lie (d + 70)) 84 [some (.ref 0), some (.int x1), some (.int x2), some (.int x3), some (.long x4), none, some (.long x6), none, some (.long x8), none, some (.int x10), some (.int x11), none, none, none, none, none] [] h Q) (e : f_Model_lie_197 k84 h x1 x2 x3 x4 x6 x8 x10 x11 = some res) (q : Q (some (.long res.1)) res.2) : am_W (X_Model_lie (d + 70)) 197 [some (.ref 0), some (.int x1), some (.int x2), some (.int x3), some (.long x4), none, some (.long x6), none, some (.long x8), none, some (.int x10), some (.int x11), some (.int x12), none, none, none, none] [] h Q :=
  b_Model_lie_197 (d := (d + 70)) (k := (am_wk2 (hk84 _ _ _ _ _ _ _ _ _ e) ⟨rfl, ⟨rfl, ⟨rfl, ⟨rfl, ⟨rfl, ⟨rfl, ⟨rfl, ⟨rfl, ⟨rfl, trivial⟩⟩⟩⟩⟩⟩⟩⟩⟩))
theorem t_Model_lie_189 {d : Nat} {k84 : am_H → Int32 → Int32 → Int32 → Int64 → Int64 → Int64 → Int32 → Int32 → Option (Int64 × am_H)} {k93 : am_H → Int32 → Int32 → Int32 → Int64 → Int64 → Int64 → Int32 → Int32 → Int32 → Option (Int64 × am_H)} {x1 : Int32} {x2 : Int32} {x3 : Int32} {x4 : Int64} {x6 : Int64} {x8 : Int64} {x10 : Int32} {x11 : Int32} {x12 : Int32} {x13 : Int64} {x15 : Int64} {y0 : Int64} {h : am_H} {Q : am_Q} {res : Int64 × am_H} (hk84 : ∀ (x1 : Int32) (x2 : Int32) (x3 : Int32) (x4 : Int64) (x6 : Int64) (x8 : Int64) (x10 : Int32) (x11 : Int32) (h : am_H), k84 h x1 x2 x3 x4 x6 x8 x10 x11 = some res → am_W (X_Model_lie (d + 70)) 84 [some (.ref 0), some (.int x1), some (.int x2), some (.int x3), some (.long x4), none, some (.long x6), none, some (.long x8), none, some (.int x10), some (.int x11), none, none, none, none, none] [] h Q) (hk93 : ∀ (x1 : Int32) (x2 : Int32) (x3 : Int32) (x4 : Int64) (x6 : Int64) (x8 : Int64) (x10 : Int32) (x11 : Int32) (x12 : Int32) (h : am_H), k93 h x1 x2 x3 x4 x6 x8 x10 x11 x12 = some res → am_W (X_Model_lie (d + 70)) 93 [some (.ref 0), some (.int x1), some (.int x2), some (.int x3), some (.long x4), none, some (.long x6), none, some (.long x8), none, some (.int x10), some (.int x11), some (.int x12), none, none, none, none] [] h Q) (e : f_Model_lie_189 k84 k93 h x1 x2 x3 x4 x6 x10 x11 x12 y0 = some res) (q : Q (some (.long res.1)) res.2) : am_W (X_Model_lie (d + 70)) 189 [some (.ref 0), some (.int x1), some (.int x2), some (.int x3), some (.long x4), none, some (.long x6), none, some (.long x8), none, some (.int x10), some (.int x11), some (.int x12), some (.long x13), none, some (.long x15), none] [.long y0] h Q :=
  b_Model_lie_189 (d := (d + 70)) (k := (am_wk2 (hk93 _ _ _ _ _ _ _ _ _ _ e) ⟨rfl, ⟨rfl, ⟨rfl, ⟨rfl, ⟨rfl, ⟨rfl, ⟨rfl, ⟨rfl, ⟨rfl, ⟨rfl, trivial⟩⟩⟩⟩⟩⟩⟩⟩⟩⟩))
theorem t_Model_lie_187 {d : Nat} {k84 : am_H → Int32 → Int32 → Int32 → Int64 → Int64 → Int64 → Int32 → Int32 → Option (Int64 × am_H)} {k93 : am_H → Int32 → Int32 → Int32 → Int64 → Int64 → Int64 → Int32 → Int32 → Int32 → Option (Int64 × am_H)} {x1 : Int32} {x2 : Int32} {x3 : Int32} {x4 : Int64} {x6 : Int64} {x8 : Int64} {x10 : Int32} {x11 : Int32} {x12 : Int32} {x13 : Int64} {x15 : Int64} {h : am_H} {Q : am_Q} {res : Int64 × am_H} (hk84 : ∀ (x1 : Int32) (x2 : Int32) (x3 : Int32) (x4 : Int64) (x6 : Int64) (x8 : Int64) (x10 : Int32) (x11 : Int32) (h : am_H), k84 h x1 x2 x3 x4 x6 x8 x10 x11 = some res → am_W (X_Model_lie (d + 70)) 84 [some (.ref 0), some (.int x1), some (.int x2), some (.int x3), some (.long x4), none, some (.long x6), none, some (.long x8), none, some (.int x10), some (.int x11), none, none, none, none, none] [] h Q) (hk93 : ∀ (x1 : Int32) (x2 : Int32) (x3 : Int32) (x4 : Int64) (x6 : Int64) (x8 : Int64) (x10 : Int32) (x11 : Int32) (x12 : Int32) (h : am_H), k93 h x1 x2 x3 x4 x6 x8 x10 x11 x12 = some res → am_W (X_Model_lie (d + 70)) 93 [some (.ref 0), some (.int x1), some (.int x2), some (.int x3), some (.long x4), none, some (.long x6), none, some (.long x8), none, some (.int x10), some (.int x11), some (.int x12), none, none, none, none] [] h Q) (e : f_Model_lie_187 k84 k93 h x1 x2 x3 x4 x6 x8 x10 x11 x12 = some res) (q : Q (some (.long res.1)) res.2) : am_W (X_Model_lie (d + 70)) 187 [some (.ref 0), some (.int x1), some (.int x2), some (.int x3), some (.long x4), none, some (.long x6), none, some (.long x8), none, some (.int x10), some (.int x11), some (.int x12), some (.long x13), none, some (.long x15), none] [] h Q :=
  b_Model_lie_187 (d := (d + 70)) (k := (t_Model_lie_189 hk84 hk93 e q))
theorem t_Model_lie_182 {d : Nat} {k84 : am_H → Int32 → Int32 → Int32 → Int64 → Int64 → Int64 → Int32 → Int32 → Option (Int64 × am_H)} {k93 : am_H → Int32 → Int32 → Int32 → Int64 → Int64 → Int64 → Int32 → Int32 → Int32 → Option (Int64 × am_H)} {x1 : Int32} {x2 : Int32} {x3 : Int32} {x4 : Int64} {x6 : Int64} {x8 : Int64} {x10 : Int32} {x11 : Int32} {x12 : Int32} {x13 : Int64} {x15 : Int64} {h : am_H} {Q : am_Q} {res : Int64 × am_H} (hk84 : ∀ (x1 : Int32) (x2 : Int32) (x3 : Int32) (x4 : Int64) (x6 : Int64) (x8 : Int64) (x10 : Int32) (x11 : Int32) (h : am_H), k84 h x1 x2 x3 x4 x6 x8 x10 x11 = some res → am_W (X_Model_lie (d + 70)) 84 [some (.ref 0), some (.int x1), some (.int x2), some (.int x3), some (.long x4), none, some (.long x6), none, some (.long x8), none, some (.int x10), some (.int x11), none, none, none, none, none] [] h Q) (hk93 : ∀ (x1 : Int32) (x2 : Int32) (x3 : Int32) (x4 : Int64) (x6 : Int64) (x8 : Int64) (x10 : Int32) (x11 : Int32) (x12 : Int32) (h : am_H), k93 h x1 x2 x3 x4 x6 x8 x10 x11 x12 = some res → am_W (X_Model_lie (d + 70)) 93 [some (.ref 0), some (.int x1), some (.int x2), some (.int x3), some (.long x4), none, some (.long x6), none, some (.long x8), none, some (.int x10), some (.int x11), some (.int x12), none, none, none, none] [] h Q) (e : f_Model_lie_182 k84 k93 h x1 x2 x3 x4 x6 x10 x11 x12 x15 = some res) (q : Q (some (.long res.1)) res.2) : am_W (X_Model_lie (d + 70)) 182 [some (.ref 0), some (.int x1), some (.int x2), some (.int x3), some (.long x4), none, some (.long x6), none, some (.long x8), none, some (.int x10), some (.int x11), some (.int x12), some (.long x13), none, some (.long x15), none] [] h Q :=
  b_Model_lie_182 (d := (d + 70)) (k := (t_Model_lie_189 hk84 hk93 e q))
theorem t_Model_lie_172 {d : Nat} {k84 : am_H → Int32 → Int32 → Int32 → Int64 → Int64 → Int64 → Int32 → Int32 → Option (Int64 × am_H)} {k93 : am_H → Int32 → Int32 → Int32 → Int64 → Int64 → Int64 → Int32 → Int32 → Int32 → Option (Int64 × am_H)} {x1 : Int32} {x2 : Int32} {x3 : Int32} {x4 : Int64} {x6 : Int64} {x8 : Int64} {x10 : Int32} {x11 : Int32} {x12 : Int32} {x13 : Int64} {y0 : Int64} {h : am_H} {Q : am_Q} {res : Int64 × am_H} (hk84 : ∀ (x1 : Int32) (x2 : Int32) (x3 : Int32) (x4 : Int64) (x6 : Int64) (x8 : Int64) (x10 : Int32) (x11 : Int32) (h : am_H), k84 h x1 x2 x3 x4 x6 x8 x10 x11 = some res → am_W (X_Model_lie (d + 70)) 84 [some (.ref 0), some (.int x1), some (.int x2), some (.int x3), some (.long x4), none, some (.long x6), none, some (.long x8), none, some (.int x10), some (.int x11), none, none, none, none, none] [] h Q) (hk93 : ∀ (x1 : Int32) (x2 : Int32) (x3 : Int32) (x4 : Int64) (x6 : Int64) (x8 : Int64) (x10 : Int32) (x11 : Int32) (x12 : Int32) (h : am_H), k93 h x1 x2 x3 x4 x6 x8 x10 x11 x12 = some res → am_W (X_Model_lie (d + 70)) 93 [some (.ref 0), some (.int x1), some (.int x2), some (.int x3), some (.long x4), none, some (.long x6), none, some (.long x8), none, some (.int x10), some (.int x11), some (.int x12), none, none, none, none] [] h Q) (e : f_Model_lie_172 k84 k93 h x1 x2 x3 x4 x6 x8 x10 x11 x12 y0 = some res) (q : Q (some (.long res.1)) res.2) : am_W (X_Model_lie (d + 70)) 172 [some (.ref 0), some (.int x1), some (.int x2), some (.int x3), some (.long x4), none, some (.long x6), none, some (.long x8), none, some (.int x10), some (.int x11), some (.int x12), some (.long x13), none, none, none] [.long y0] h Q :=
  b_Model_lie_172 (d := (d + 70)) (kt := fun c => (t_Model_lie_187 hk84 hk93 (am_ift e c) q)) (kf := fun c => (t_Model_lie_182 hk84 hk93 (am_ife e c) q))
theorem t_Model_lie_169 {d : Nat} {k84 : am_H → Int32 → Int32 → Int32 → Int64 → Int64 → Int64 → Int32 → Int32 → Option (Int64 × am_H)} {k93 : am_H → Int32 → Int32 → Int32 → Int64 → Int64 → Int64 → Int32 → Int32 → Int32 → Option (Int64 × am_H)} {x1 : Int32} {x2 : Int32} {x3 : Int32} {x4 : Int64} {x6 : Int64} {x8 : Int64} {x10 : Int32} {x11 : Int32} {x12 : Int32} {x13 : Int64} {y3 : Int32} {y2 : Int32} {y1 : Int32} {h : am_H} {Q : am_Q} {res : Int64 × am_H} (hk84 : ∀ (x1 : Int32) (x2 : Int32) (x3 : Int32) (x4 : Int64) (x6 : Int64) (x8 : Int64) (x10 : Int32) (x11 : Int32) (h : am_H), k84 h x1 x2 x3 x4 x6 x8 x10 x11 = some res → am_W (X_Model_lie (d + 70)) 84 [some (.ref 0), some (.int x1), some (.int x2), some (.int x3), some (.long x4), none, some (.long x6), none, some (.long x8), none, some (.int x10), some (.int x11), none, none, none, none, none] [] h Q) (hk93 : ∀ (x1 : Int32) (x2 : Int32) (x3 : Int32) (x4 : Int64) (x6 : Int64) (x8 : Int64) (x10 : Int32) (x11 : Int32) (x12 : Int32) (h : am_H), k93 h x1 x2 x3 x4 x6 x8 x10 x11 x12 = some res → am_W (X_Model_lie (d + 70)) 93 [some (.ref 0), some (.int x1), some (.int x2), some (.int x3), some (.long x4), none, some (.long x6), none, some (.long x8), none, some (.int x10), some (.int x11), some (.int x12), none, none, none, none] [] h Q) (e : f_Model_lie_169 k84 k93 h x1 x2 x3 x4 x6 x8 x10 x11 x12 y3 y2 y1 = some res) (q : Q (some (.long res.1)) res.2) : am_W (X_Model_lie (d + 70)) 169 [some (.ref 0), some (.int x1), some (.int x2), some (.int x3), some (.long x4), none, some (.long x6), none, some (.long x8), none, some (.int x10), some (.int x11), some (.int x12), some (.long x13), none, none, none] [.int y3, .int y2, .int y1, .ref 0] h Q :=
  (am_bd e).elim fun p hp => b_Model_lie_169 (d := (d + 69)) (k := c_Model_byClub (d := d + 67) hp.1 (t_Model_lie_172 hk84 hk93 hp.2 q))
theorem t_Model_lie_152 {d : Nat} {k84 : am_H → Int32 → Int32 → Int32 → Int64 → Int64 → Int64 → Int32 → Int32 → Option (Int64 × am_H)} {k93 : am_H → Int32 → Int32 → Int32 → Int64 → Int64 → Int64 → Int32 → Int32 → Int32 → Option (Int64 × am_H)} {x1 : Int32} {x2 : Int32} {x3 : Int32} {x4 : Int64} {x6 : Int64} {x8 : Int64} {x10 : Int32} {x11 : Int32} {x12 : Int32} {x13 : Int64} {y0 : Int64} {h : am_H} {Q : am_Q} {res : Int64 × am_H} (hk84 : ∀ (x1 : Int32) (x2 : Int32) (x3 : Int32) (x4 : Int64) (x6 : Int64) (x8 : Int64) (x10 : Int32) (x11 : Int32) (h : am_H), k84 h x1 x2 x3 x4 x6 x8 x10 x11 = some res → am_W (X_Model_lie (d + 70)) 84 [some (.ref 0), some (.int x1), some (.int x2), some (.int x3), some (.long x4), none, some (.long x6), none, some (.long x8), none, some (.int x10), some (.int x11), none, none, none, none, none] [] h Q) (hk93 : ∀ (x1 : Int32) (x2 : Int32) (x3 : Int32) (x4 : Int64) (x6 : Int64) (x8 : Int64) (x10 : Int32) (x11 : Int32) (x12 : Int32) (h : am_H), k93 h x1 x2 x3 x4 x6 x8 x10 x11 x12 = some res → am_W (X_Model_lie (d + 70)) 93 [some (.ref 0), some (.int x1), some (.int x2), some (.int x3), some (.long x4), none, some (.long x6), none, some (.long x8), none, some (.int x10), some (.int x11), some (.int x12), none, none, none, none] [] h Q) (e : f_Model_lie_152 k84 k93 h x1 x2 x3 x4 x8 x10 x11 x12 y0 = some res) (q : Q (some (.long res.1)) res.2) : am_W (X_Model_lie (d + 70)) 152 [some (.ref 0), some (.int x1), some (.int x2), some (.int x3), some (.long x4), none, some (.long x6), none, some (.long x8), none, some (.int x10), some (.int x11), some (.int x12), some (.long x13), none, none, none] [.long y0] h Q :=
  (am_bd e).elim fun p hp => b_Model_lie_152 (d := (d + 69)) (k := c_Model_takenFrom (d := d + 1) hp.1 (t_Model_lie_169 hk84 hk93 hp.2 q))
theorem t_Model_lie_150 {d : Nat} {k84 : am_H → Int32 → Int32 → Int32 → Int64 → Int64 → Int64 → Int32 → Int32 → Option (Int64 × am_H)} {k93 : am_H → Int32 → Int32 → Int32 → Int64 → Int64 → Int64 → Int32 → Int32 → Int32 → Option (Int64 × am_H)} {x1 : Int32} {x2 : Int32} {x3 : Int32} {x4 : Int64} {x6 : Int64} {x8 : Int64} {x10 : Int32} {x11 : Int32} {x12 : Int32} {x13 : Int64} {h : am_H} {Q : am_Q} {res : Int64 × am_H} (hk84 : ∀ (x1 : Int32) (x2 : Int32) (x3 : Int32) (x4 : Int64) (x6 : Int64) (x8 : Int64) (x10 : Int32) (x11 : Int32) (h : am_H), k84 h x1 x2 x3 x4 x6 x8 x10 x11 = some res → am_W (X_Model_lie (d + 70)) 84 [some (.ref 0), some (.int x1), some (.int x2), some (.int x3), some (.long x4), none, some (.long x6), none, some (.long x8), none, some (.int x10), some (.int x11), none, none, none, none, none] [] h Q) (hk93 : ∀ (x1 : Int32) (x2 : Int32) (x3 : Int32) (x4 : Int64) (x6 : Int64) (x8 : Int64) (x10 : Int32) (x11 : Int32) (x12 : Int32) (h : am_H), k93 h x1 x2 x3 x4 x6 x8 x10 x11 x12 = some res → am_W (X_Model_lie (d + 70)) 93 [some (.ref 0), some (.int x1), some (.int x2), some (.int x3), some (.long x4), none, some (.long x6), none, some (.long x8), none, some (.int x10), some (.int x11), some (.int x12), none, none, none, none] [] h Q) (e : f_Model_lie_150 k84 k93 h x1 x2 x3 x4 x6 x8 x10 x11 x12 = some res) (q : Q (some (.long res.1)) res.2) : am_W (X_Model_lie (d + 70)) 150 [some (.ref 0), some (.int x1), some (.int x2), some (.int x3), some (.long x4), none, some (.long x6), none, some (.long x8), none, some (.int x10), some (.int x11), some (.int x12), some (.long x13), none, none, none] [] h Q :=
  b_Model_lie_150 (d := (d + 70)) (k := (t_Model_lie_152 hk84 hk93 e q))
theorem t_Model_lie_145 {d : Nat} {k84 : am_H → Int32 → Int32 → Int32 → Int64 → Int64 → Int64 → Int32 → Int32 → Option (Int64 × am_H)} {k93 : am_H → Int32 → Int32 → Int32 → Int64 → Int64 → Int64 → Int32 → Int32 → Int32 → Option (Int64 × am_H)} {x1 : Int32} {x2 : Int32} {x3 : Int32} {x4 : Int64} {x6 : Int64} {x8 : Int64} {x10 : Int32} {x11 : Int32} {x12 : Int32} {x13 : Int64} {h : am_H} {Q : am_Q} {res : Int64 × am_H} (hk84 : ∀ (x1 : Int32) (x2 : Int32) (x3 : Int32) (x4 : Int64) (x6 : Int64) (x8 : Int64) (x10 : Int32) (x11 : Int32) (h : am_H), k84 h x1 x2 x3 x4 x6 x8 x10 x11 = some res → am_W (X_Model_lie (d + 70)) 84 [some (.ref 0), some (.int x1), some (.int x2), some (.int x3), some (.long x4), none, some (.long x6), none, some (.long x8), none, some (.int x10), some (.int x11), none, none, none, none, none] [] h Q) (hk93 : ∀ (x1 : Int32) (x2 : Int32) (x3 : Int32) (x4 : Int64) (x6 : Int64) (x8 : Int64) (x10 : Int32) (x11 : Int32) (x12 : Int32) (h : am_H), k93 h x1 x2 x3 x4 x6 x8 x10 x11 x12 = some res → am_W (X_Model_lie (d + 70)) 93 [some (.ref 0), some (.int x1), some (.int x2), some (.int x3), some (.long x4), none, some (.long x6), none, some (.long x8), none, some (.int x10), some (.int x11), some (.int x12), none, none, none, none] [] h Q) (e : f_Model_lie_145 k84 k93 h x1 x2 x3 x4 x8 x10 x11 x12 x13 = some res) (q : Q (some (.long res.1)) res.2) : am_W (X_Model_lie (d + 70)) 145 [some (.ref 0), some (.int x1), some (.int x2), some (.int x3), some (.long x4), none, some (.long x6), none, some (.long x8), none, some (.int x10), some (.int x11), some (.int x12), some (.long x13), none, none, none] [] h Q :=
  b_Model_lie_145 (d := (d + 70)) (k := (t_Model_lie_152 hk84 hk93 e q))
theorem t_Model_lie_135 {d : Nat} {k84 : am_H → Int32 → Int32 → Int32 → Int64 → Int64 → Int64 → Int32 → Int32 → Option (Int64 × am_H)} {k93 : am_H → Int32 → Int32 → Int32 → Int64 → Int64 → Int64 → Int32 → Int32 → Int32 → Option (Int64 × am_H)} {x1 : Int32} {x2 : Int32} {x3 : Int32} {x4 : Int64} {x6 : Int64} {x8 : Int64} {x10 : Int32} {x11 : Int32} {x12 : Int32} {x13 : Int64} {y0 : Int32} {h : am_H} {Q : am_Q} {res : Int64 × am_H} (hk84 : ∀ (x1 : Int32) (x2 : Int32) (x3 : Int32) (x4 : Int64) (x6 : Int64) (x8 : Int64) (x10 : Int32) (x11 : Int32) (h : am_H), k84 h x1 x2 x3 x4 x6 x8 x10 x11 = some res → am_W (X_Model_lie (d + 70)) 84 [some (.ref 0), some (.int x1), some (.int x2), some (.int x3), some (.long x4), none, some (.long x6), none, some (.long x8), none, some (.int x10), some (.int x11), none, none, none, none, none] [] h Q) (hk93 : ∀ (x1 : Int32) (x2 : Int32) (x3 : Int32) (x4 : Int64) (x6 : Int64) (x8 : Int64) (x10 : Int32) (x11 : Int32) (x12 : Int32) (h : am_H), k93 h x1 x2 x3 x4 x6 x8 x10 x11 x12 = some res → am_W (X_Model_lie (d + 70)) 93 [some (.ref 0), some (.int x1), some (.int x2), some (.int x3), some (.long x4), none, some (.long x6), none, some (.long x8), none, some (.int x10), some (.int x11), some (.int x12), none, none, none, none] [] h Q) (e : f_Model_lie_135 k84 k93 h x1 x2 x3 x4 x6 x8 x11 x12 x13 y0 = some res) (q : Q (some (.long res.1)) res.2) : am_W (X_Model_lie (d + 70)) 135 [some (.ref 0), some (.int x1), some (.int x2), some (.int x3), some (.long x4), none, some (.long x6), none, some (.long x8), none, some (.int x10), some (.int x11), some (.int x12), some (.long x13), none, none, none] [.int y0] h Q :=
  b_Model_lie_135 (d := (d + 70)) (kt := fun c => (t_Model_lie_150 hk84 hk93 (am_ift e c) q)) (kf := fun c => (t_Model_lie_145 hk84 hk93 (am_ife e c) q))
theorem t_Model_lie_133 {d : Nat} {k84 : am_H → Int32 → Int32 → Int32 → Int64 → Int64 → Int64 → Int32 → Int32 → Option (Int64 × am_H)} {k93 : am_H → Int32 → Int32 → Int32 → Int64 → Int64 → Int64 → Int32 → Int32 → Int32 → Option (Int64 × am_H)} {x1 : Int32} {x2 : Int32} {x3 : Int32} {x4 : Int64} {x6 : Int64} {x8 : Int64} {x10 : Int32} {x11 : Int32} {x12 : Int32} {x13 : Int64} {h : am_H} {Q : am_Q} {res : Int64 × am_H} (hk84 : ∀ (x1 : Int32) (x2 : Int32) (x3 : Int32) (x4 : Int64) (x6 : Int64) (x8 : Int64) (x10 : Int32) (x11 : Int32) (h : am_H), k84 h x1 x2 x3 x4 x6 x8 x10 x11 = some res → am_W (X_Model_lie (d + 70)) 84 [some (.ref 0), some (.int x1), some (.int x2), some (.int x3), some (.long x4), none, some (.long x6), none, some (.long x8), none, some (.int x10), some (.int x11), none, none, none, none, none] [] h Q) (hk93 : ∀ (x1 : Int32) (x2 : Int32) (x3 : Int32) (x4 : Int64) (x6 : Int64) (x8 : Int64) (x10 : Int32) (x11 : Int32) (x12 : Int32) (h : am_H), k93 h x1 x2 x3 x4 x6 x8 x10 x11 x12 = some res → am_W (X_Model_lie (d + 70)) 93 [some (.ref 0), some (.int x1), some (.int x2), some (.int x3), some (.long x4), none, some (.long x6), none, some (.long x8), none, some (.int x10), some (.int x11), some (.int x12), none, none, none, none] [] h Q) (e : f_Model_lie_133 k84 k93 h x1 x2 x3 x4 x6 x8 x10 x11 x12 x13 = some res) (q : Q (some (.long res.1)) res.2) : am_W (X_Model_lie (d + 70)) 133 [some (.ref 0), some (.int x1), some (.int x2), some (.int x3), some (.long x4), none, some (.long x6), none, some (.long x8), none, some (.int x10), some (.int x11), some (.int x12), some (.long x13), none, none, none] [] h Q :=
  b_Model_lie_133 (d := (d + 70)) (k := (t_Model_lie_135 hk84 hk93 e q))
theorem t_Model_lie_125 {d : Nat} {k84 : am_H → Int32 → Int32 → Int32 → Int64 → Int64 → Int64 → Int32 → Int32 → Option (Int64 × am_H)} {k93 : am_H → Int32 → Int32 → Int32 → Int64 → Int64 → Int64 → Int32 → Int32 → Int32 → Option (Int64 × am_H)} {x1 : Int32} {x2 : Int32} {x3 : Int32} {x4 : Int64} {x6 : Int64} {x8 : Int64} {x10 : Int32} {x11 : Int32} {x12 : Int32} {x13 : Int64} {h : am_H} {Q : am_Q} {res : Int64 × am_H} (hk84 : ∀ (x1 : Int32) (x2 : Int32) (x3 : Int32) (x4 : Int64) (x6 : Int64) (x8 : Int64) (x10 : Int32) (x11 : Int32) (h : am_H), k84 h x1 x2 x3 x4 x6 x8 x10 x11 = some res → am_W (X_Model_lie (d + 70)) 84 [some (.ref 0), some (.int x1), some (.int x2), some (.int x3), some (.long x4), none, some (.long x6), none, some (.long x8), none, some (.int x10), some (.int x11), none, none, none, none, none] [] h Q) (hk93 : ∀ (x1 : Int32) (x2 : Int32) (x3 : Int32) (x4 : Int64) (x6 : Int64) (x8 : Int64) (x10 : Int32) (x11 : Int32) (x12 : Int32) (h : am_H), k93 h x1 x2 x3 x4 x6 x8 x10 x11 x12 = some res → am_W (X_Model_lie (d + 70)) 93 [some (.ref 0), some (.int x1), some (.int x2), some (.int x3), some (.long x4), none, some (.long x6), none, some (.long x8), none, some (.int x10), some (.int x11), some (.int x12), none, none, none, none] [] h Q) (e : f_Model_lie_125 k84 k93 h x1 x2 x3 x4 x6 x8 x11 x12 x13 = some res) (q : Q (some (.long res.1)) res.2) : am_W (X_Model_lie (d + 70)) 125 [some (.ref 0), some (.int x1), some (.int x2), some (.int x3), some (.long x4), none, some (.long x6), none, some (.long x8), none, some (.int x10), some (.int x11), some (.int x12), some (.long x13), none, none, none] [] h Q :=
  b_Model_lie_125 (d := (d + 70)) (k := (t_Model_lie_135 hk84 hk93 e q))
theorem t_Model_lie_115 {d : Nat} {k84 : am_H → Int32 → Int32 → Int32 → Int64 → Int64 → Int64 → Int32 → Int32 → Option (Int64 × am_H)} {k93 : am_H → Int32 → Int32 → Int32 → Int64 → Int64 → Int64 → Int32 → Int32 → Int32 → Option (Int64 × am_H)} {x1 : Int32} {x2 : Int32} {x3 : Int32} {x4 : Int64} {x6 : Int64} {x8 : Int64} {x10 : Int32} {x11 : Int32} {x12 : Int32} {y0 : Int64} {h : am_H} {Q : am_Q} {res : Int64 × am_H} (hk84 : ∀ (x1 : Int32) (x2 : Int32) (x3 : Int32) (x4 : Int64) (x6 : Int64) (x8 : Int64) (x10 : Int32) (x11 : Int32) (h : am_H), k84 h x1 x2 x3 x4 x6 x8 x10 x11 = some res → am_W (X_Model_lie (d + 70)) 84 [some (.ref 0), some (.int x1), some (.int x2), some (.int x3), some (.long x4), none, some (.long x6), none, some (.long x8), none, some (.int x10), some (.int x11), none, none, none, none, none] [] h Q) (hk93 : ∀ (x1 : Int32) (x2 : Int32) (x3 : Int32) (x4 : Int64) (x6 : Int64) (x8 : Int64) (x10 : Int32) (x11 : Int32) (x12 : Int32) (h : am_H), k93 h x1 x2 x3 x4 x6 x8 x10 x11 x12 = some res → am_W (X_Model_lie (d + 70)) 93 [some (.ref 0), some (.int x1), some (.int x2), some (.int x3), some (.long x4), none, some (.long x6), none, some (.long x8), none, some (.int x10), some (.int x11), some (.int x12), none, none, none, none] [] h Q) (e : f_Model_lie_115 k84 k93 h x1 x2 x3 x4 x6 x8 x10 x11 x12 y0 = some res) (q : Q (some (.long res.1)) res.2) : am_W (X_Model_lie (d + 70)) 115 [some (.ref 0), some (.int x1), some (.int x2), some (.int x3), some (.long x4), none, some (.long x6), none, some (.long x8), none, some (.int x10), some (.int x11), some (.int x12), none, none, none, none] [.long y0] h Q :=
  b_Model_lie_115 (d := (d + 70)) (kt := fun c => (t_Model_lie_133 hk84 hk93 (am_ift e c) q)) (kf := fun c => (t_Model_lie_125 hk84 hk93 (am_ife e c) q))
theorem t_Model_lie_112 {d : Nat} {k84 : am_H → Int32 → Int32 → Int32 → Int64 → Int64 → Int64 → Int32 → Int32 → Option (Int64 × am_H)} {k93 : am_H → Int32 → Int32 → Int32 → Int64 → Int64 → Int64 → Int32 → Int32 → Int32 → Option (Int64 × am_H)} {x1 : Int32} {x2 : Int32} {x3 : Int32} {x4 : Int64} {x6 : Int64} {x8 : Int64} {x10 : Int32} {x11 : Int32} {x12 : Int32} {y3 : Int32} {y2 : Int32} {y1 : Int32} {h : am_H} {Q : am_Q} {res : Int64 × am_H} (hk84 : ∀ (x1 : Int32) (x2 : Int32) (x3 : Int32) (x4 : Int64) (x6 : Int64) (x8 : Int64) (x10 : Int32) (x11 : Int32) (h : am_H), k84 h x1 x2 x3 x4 x6 x8 x10 x11 = some res → am_W (X_Model_lie (d + 70)) 84 [some (.ref 0), some (.int x1), some (.int x2), some (.int x3), some (.long x4), none, some (.long x6), none, some (.long x8), none, some (.int x10), some (.int x11), none, none, none, none, none] [] h Q) (hk93 : ∀ (x1 : Int32) (x2 : Int32) (x3 : Int32) (x4 : Int64) (x6 : Int64) (x8 : Int64) (x10 : Int32) (x11 : Int32) (x12 : Int32) (h : am_H), k93 h x1 x2 x3 x4 x6 x8 x10 x11 x12 = some res → am_W (X_Model_lie (d + 70)) 93 [some (.ref 0), some (.int x1), some (.int x2), some (.int x3), some (.long x4), none, some (.long x6), none, some (.long x8), none, some (.int x10), some (.int x11), some (.int x12), none, none, none, none] [] h Q) (e : f_Model_lie_112 k84 k93 h x1 x2 x3 x4 x6 x8 x10 x11 x12 y3 y2 y1 = some res) (q : Q (some (.long res.1)) res.2) : am_W (X_Model_lie (d + 70)) 112 [some (.ref 0), some (.int x1), some (.int x2), some (.int x3), some (.long x4), none, some (.long x6), none, some (.long x8), none, some (.int x10), some (.int x11), some (.int x12), none, none, none, none] [.int y3, .int y2, .int y1, .ref 0] h Q :=
  (am_bd e).elim fun p hp => b_Model_lie_112 (d := (d + 69)) (k := c_Model_byClub (d := d + 67) hp.1 (t_Model_lie_115 hk84 hk93 hp.2 q))
theorem t_Model_lie_99 {d : Nat} {k84 : am_H → Int32 → Int32 → Int32 → Int64 → Int64 → Int64 → Int32 → Int32 → Option (Int64 × am_H)} {k93 : am_H → Int32 → Int32 → Int32 → Int64 → Int64 → Int64 → Int32 → Int32 → Int32 → Option (Int64 × am_H)} {x1 : Int32} {x2 : Int32} {x3 : Int32} {x4 : Int64} {x6 : Int64} {x8 : Int64} {x10 : Int32} {x11 : Int32} {x12 : Int32} {h : am_H} {Q : am_Q} {res : Int64 × am_H} (hk84 : ∀ (x1 : Int32) (x2 : Int32) (x3 : Int32) (x4 : Int64) (x6 : Int64) (x8 : Int64) (x10 : Int32) (x11 : Int32) (h : am_H), k84 h x1 x2 x3 x4 x6 x8 x10 x11 = some res → am_W (X_Model_lie (d + 70)) 84 [some (.ref 0), some (.int x1), some (.int x2), some (.int x3), some (.long x4), none, some (.long x6), none, some (.long x8), none, some (.int x10), some (.int x11), none, none, none, none, none] [] h Q) (hk93 : ∀ (x1 : Int32) (x2 : Int32) (x3 : Int32) (x4 : Int64) (x6 : Int64) (x8 : Int64) (x10 : Int32) (x11 : Int32) (x12 : Int32) (h : am_H), k93 h x1 x2 x3 x4 x6 x8 x10 x11 x12 = some res → am_W (X_Model_lie (d + 70)) 93 [some (.ref 0), some (.int x1), some (.int x2), some (.int x3), some (.long x4), none, some (.long x6), none, some (.long x8), none, some (.int x10), some (.int x11), some (.int x12), none, none, none, none] [] h Q) (e : f_Model_lie_99 k84 k93 h x1 x2 x3 x4 x6 x8 x10 x11 x12 = some res) (q : Q (some (.long res.1)) res.2) : am_W (X_Model_lie (d + 70)) 99 [some (.ref 0), some (.int x1), some (.int x2), some (.int x3), some (.long x4), none, some (.long x6), none, some (.long x8), none, some (.int x10), some (.int x11), some (.int x12), none, none, none, none] [] h Q :=
  (am_bd e).elim fun p hp => b_Model_lie_99 (d := (d + 69)) (k := c_Model_takenFrom (d := d + 1) hp.1 (t_Model_lie_112 hk84 hk93 hp.2 q))
theorem t_Model_lie_93 {d : Nat} {k84 : am_H → Int32 → Int32 → Int32 → Int64 → Int64 → Int64 → Int32 → Int32 → Option (Int64 × am_H)} {k93 : am_H → Int32 → Int32 → Int32 → Int64 → Int64 → Int64 → Int32 → Int32 → Int32 → Option (Int64 × am_H)} {x1 : Int32} {x2 : Int32} {x3 : Int32} {x4 : Int64} {x6 : Int64} {x8 : Int64} {x10 : Int32} {x11 : Int32} {x12 : Int32} {h : am_H} {Q : am_Q} {res : Int64 × am_H} (hk84 : ∀ (x1 : Int32) (x2 : Int32) (x3 : Int32) (x4 : Int64) (x6 : Int64) (x8 : Int64) (x10 : Int32) (x11 : Int32) (h : am_H), k84 h x1 x2 x3 x4 x6 x8 x10 x11 = some res → am_W (X_Model_lie (d + 70)) 84 [some (.ref 0), some (.int x1), some (.int x2), some (.int x3), some (.long x4), none, some (.long x6), none, some (.long x8), none, some (.int x10), some (.int x11), none, none, none, none, none] [] h Q) (hk93 : ∀ (x1 : Int32) (x2 : Int32) (x3 : Int32) (x4 : Int64) (x6 : Int64) (x8 : Int64) (x10 : Int32) (x11 : Int32) (x12 : Int32) (h : am_H), k93 h x1 x2 x3 x4 x6 x8 x10 x11 x12 = some res → am_W (X_Model_lie (d + 70)) 93 [some (.ref 0), some (.int x1), some (.int x2), some (.int x3), some (.long x4), none, some (.long x6), none, some (.long x8), none, some (.int x10), some (.int x11), some (.int x12), none, none, none, none] [] h Q) (e : f_Model_lie_93 k84 k93 h x1 x2 x3 x4 x6 x8 x10 x11 x12 = some res) (q : Q (some (.long res.1)) res.2) : am_W (X_Model_lie (d + 70)) 93 [some (.ref 0), some (.int x1), some (.int x2), some (.int x3), some (.long x4), none, some (.long x6), none, some (.long x8), none, some (.int x10), some (.int x11), some (.int x12), none, none, none, none] [] h Q :=
  b_Model_lie_93 (d := (d + 70)) (kt := fun c => (t_Model_lie_197 hk84 (am_ift e c) q)) (kf := fun c => (t_Model_lie_99 hk84 hk93 (am_ife e c) q))
theorem t_Model_lie_93_l {d : Nat} {k84 : am_H → Int32 → Int32 → Int32 → Int64 → Int64 → Int64 → Int32 → Int32 → Option (Int64 × am_H)} {Q : am_Q} {res : Int64 × am_H} (hk84 : ∀ (x1 : Int32) (x2 : Int32) (x3 : Int32) (x4 : Int64) (x6 : Int64) (x8 : Int64) (x10 : Int32) (x11 : Int32) (h : am_H), k84 h x1 x2 x3 x4 x6 x8 x10 x11 = some res → am_W (X_Model_lie (d + 70)) 84 [some (.ref 0), some (.int x1), some (.int x2), some (.int x3), some (.long x4), none, some (.long x6), none, some (.long x8), none, some (.int x10), some (.int x11), none, none, none, none, none] [] h Q) (q : Q (some (.long res.1)) res.2) : ∀ (n : Nat) (x1 : Int32) (x2 : Int32) (x3 : Int32) (x4 : Int64) (x6 : Int64) (x8 : Int64) (x10 : Int32) (x11 : Int32) (x12 : Int32) (h : am_H), f_Model_lie_93_l k84 n h x1 x2 x3 x4 x6 x8 x10 x11 x12 = some res → am_W (X_Model_lie (d + 70)) 93 [some (.ref 0), some (.int x1), some (.int x2), some (.int x3), some (.long x4), none, some (.long x6), none, some (.long x8), none, some (.int x10), some (.int x11), some (.int x12), none, none, none, none] [] h Q := by
  intro n
  induction n with
  | zero => intro x1 x2 x3 x4 x6 x8 x10 x11 x12 h e; exact am_nn e
  | succ n ih => intro x1 x2 x3 x4 x6 x8 x10 x11 x12 h e; exact t_Model_lie_93 hk84 (fun x1 x2 x3 x4 x6 x8 x10 x11 x12 h e => ih x1 x2 x3 x4 x6 x8 x10 x11 x12 h  e) e q
theorem t_Model_lie_90 {d : Nat} {k84 : am_H → Int32 → Int32 → Int32 → Int64 → Int64 → Int64 → Int32 → Int32 → Option (Int64 × am_H)} {x1 : Int32} {x2 : Int32} {x3 : Int32} {x4 : Int64} {x6 : Int64} {x8 : Int64} {x10 : Int32} {x11 : Int32} {h : am_H} {Q : am_Q} {res : Int64 × am_H} (hk84 : ∀ (x1 : Int32) (x2 : Int32) (x3 : Int32) (x4 : Int64) (x6 : Int64) (x8 : Int64) (x10 : Int32) (x11 : Int32) (h : am_H), k84 h x1 x2 x3 x4 x6 x8 x10 x11 = some res → am_W (X_Model_lie (d + 70)) 84 [some (.ref 0), some (.int x1), some (.int x2), some (.int x3), some (.long x4), none, some (.long x6), none, some (.long x8), none, some (.int x10), some (.int x11), none, none, none, none, none] [] h Q) (e : f_Model_lie_90 k84 h x1 x2 x3 x4 x6 x8 x10 x11 = some res) (q : Q (some (.long res.1)) res.2) : am_W (X_Model_lie (d + 70)) 90 [some (.ref 0), some (.int x1), some (.int x2), some (.int x3), some (.long x4), none, some (.long x6), none, some (.long x8), none, some (.int x10), some (.int x11), none, none, none, none, none] [] h Q :=
  b_Model_lie_90 (d := (d + 70)) (k := (t_Model_lie_93_l hk84 q am_fu _ _ _ _ _ _ _ _ _ _ e))
theorem t_Model_lie_84 {d : Nat} {k84 : am_H → Int32 → Int32 → Int32 → Int64 → Int64 → Int64 → Int32 → Int32 → Option (Int64 × am_H)} {x1 : Int32} {x2 : Int32} {x3 : Int32} {x4 : Int64} {x6 : Int64} {x8 : Int64} {x10 : Int32} {x11 : Int32} {h : am_H} {Q : am_Q} {res : Int64 × am_H} (hk84 : ∀ (x1 : Int32) (x2 : Int32) (x3 : Int32) (x4 : Int64) (x6 : Int64) (x8 : Int64) (x10 : Int32) (x11 : Int32) (h : am_H), k84 h x1 x2 x3 x4 x6 x8 x10 x11 = some res → am_W (X_Model_lie (d + 70)) 84 [some (.ref 0), some (.int x1), some (.int x2), some (.int x3), some (.long x4), none, some (.long x6), none, some (.long x8), none, some (.int x10), some (.int x11), none, none, none, none, none] [] h Q) (e : f_Model_lie_84 k84 h x1 x2 x3 x4 x6 x8 x10 x11 = some res) (q : Q (some (.long res.1)) res.2) : am_W (X_Model_lie (d + 70)) 84 [some (.ref 0), some (.int x1), some (.int x2), some (.int x3), some (.long x4), none, some (.long x6), none, some (.long x8), none, some (.int x10), some (.int x11), none, none, none, none, none] [] h Q :=
  b_Model_lie_84 (d := (d + 70)) (kt := fun c => (t_Model_lie_203 (am_ift e c) q)) (kf := fun c => (t_Model_lie_90 hk84 (am_ife e c) q))
theorem t_Model_lie_84_l {d : Nat} {Q : am_Q} {res : Int64 × am_H} (q : Q (some (.long res.1)) res.2) : ∀ (n : Nat) (x1 : Int32) (x2 : Int32) (x3 : Int32) (x4 : Int64) (x6 : Int64) (x8 : Int64) (x10 : Int32) (x11 : Int32) (h : am_H), f_Model_lie_84_l n h x1 x2 x3 x4 x6 x8 x10 x11 = some res → am_W (X_Model_lie (d + 70)) 84 [some (.ref 0), some (.int x1), some (.int x2), some (.int x3), some (.long x4), none, some (.long x6), none, some (.long x8), none, some (.int x10), some (.int x11), none, none, none, none, none] [] h Q := by
  intro n
  induction n with
  | zero => intro x1 x2 x3 x4 x6 x8 x10 x11 h e; exact am_nn e
  | succ n ih => intro x1 x2 x3 x4 x6 x8 x10 x11 h e; exact t_Model_lie_84 (fun x1 x2 x3 x4 x6 x8 x10 x11 h e => ih x1 x2 x3 x4 x6 x8 x10 x11 h  e) e q
theorem t_Model_lie_68 {d : Nat} {x1 : Int32} {x2 : Int32} {x3 : Int32} {y0 : Int64} {h : am_H} {Q : am_Q} {res : Int64 × am_H} (e : f_Model_lie_68 h x1 x2 x3 y0 = some res) (q : Q (some (.long res.1)) res.2) : am_W (X_Model_lie (d + 70)) 68 [some (.ref 0), some (.int x1), some (.int x2), some (.int x3), none, none, none, none, none, none, none, none, none, none, none, none, none] [.long y0] h Q :=
  b_Model_lie_68 (d := (d + 70)) (k := (t_Model_lie_84_l q am_fu _ _ _ _ _ _ _ _ _ e))
theorem t_Model_lie_65 {d : Nat} {x1 : Int32} {x2 : Int32} {x3 : Int32} {y3 : Int32} {y2 : Int32} {y1 : Int32} {h : am_H} {Q : am_Q} {res : Int64 × am_H} (e : f_Model_lie_65 h x1 x2 x3 y3 y2 y1 = some res) (q : Q (some (.long res.1)) res.2) : am_W (X_Model_lie (d + 70)) 65 [some (.ref 0), some (.int x1), some (.int x2), some (.int x3), none, none, none, none, none, none, none, none, none, none, none, none, none] [.int y3, .int y2, .int y1, .ref 0] h Q :=
  (am_bd e).elim fun p hp => b_Model_lie_65 (d := (d + 69)) (k := c_Model_byClub (d := d + 67) hp.1 (t_Model_lie_68 hp.2 q))
theorem t_Model_lie_56 {d : Nat} {x1 : Int32} {x2 : Int32} {x3 : Int32} {h : am_H} {Q : am_Q} {res : Int64 × am_H} (e : f_Model_lie_56 h x1 x2 x3 = some res) (q : Q (some (.long res.1)) res.2) : am_W (X_Model_lie (d + 70)) 56 [some (.ref 0), some (.int x1), some (.int x2), some (.int x3), none, none, none, none, none, none, none, none, none, none, none, none, none] [] h Q :=
  (am_bd e).elim fun p hp => b_Model_lie_56 (d := (d + 69)) (k := c_Model_takenFrom (d := d + 1) hp.1 (t_Model_lie_65 hp.2 q))
theorem t_Model_lie_51 {d : Nat} {x1 : Int32} {x2 : Int32} {x3 : Int32} {h : am_H} {Q : am_Q} {res : Int64 × am_H} (e : f_Model_lie_51 h x1 x2 x3 = some res) (q : Q (some (.long res.1)) res.2) : am_W (X_Model_lie (d + 70)) 51 [some (.ref 0), some (.int x1), some (.int x2), some (.int x3), none, none, none, none, none, none, none, none, none, none, none, none, none] [] h Q :=
  (am_bd e).elim fun p hp => b_Model_lie_51 (d := (d + 69)) (k := c_Model_fills (d := d) hp.1 (t_Model_lie_56 hp.2 q))
theorem t_Model_lie_44 {d : Nat} {x1 : Int32} {x2 : Int32} {x3 : Int32} {y0 : Bool} {h : am_H} {Q : am_Q} {res : Int64 × am_H} (e : f_Model_lie_44 h x1 x2 x3 y0 = some res) (q : Q (some (.long res.1)) res.2) : am_W (X_Model_lie (d + 70)) 44 [some (.ref 0), some (.int x1), some (.int x2), some (.int x3), none, none, none, none, none, none, none, none, none, none, none, none, none] [.int (am_b y0)] h Q :=
  b_Model_lie_44 (d := (d + 70)) (kt := fun c => (t_Model_lie_51 (am_iff e (am_bz c)) q)) (kf := fun c => (t_Model_lie_47 (am_ift e (am_bn c)) q))
theorem t_Model_lie_39 {d : Nat} {x1 : Int32} {x2 : Int32} {x3 : Int32} {h : am_H} {Q : am_Q} {res : Int64 × am_H} (e : f_Model_lie_39 h x1 x2 x3 = some res) (q : Q (some (.long res.1)) res.2) : am_W (X_Model_lie (d + 70)) 39 [some (.ref 0), some (.int x1), some (.int x2), some (.int x3), none, none, none, none, none, none, none, none, none, none, none, none, none] [] h Q :=
  (am_bd e).elim fun p hp => b_Model_lie_39 (d := (d + 69)) (k := c_Model_isGreen (d := d + 69) hp.1 (t_Model_lie_44 hp.2 q))
theorem t_Model_lie_32 {d : Nat} {x1 : Int32} {x2 : Int32} {x3 : Int32} {h : am_H} {Q : am_Q} {res : Int64 × am_H} (e : f_Model_lie_32 h x1 x2 x3 = some res) (q : Q (some (.long res.1)) res.2) : am_W (X_Model_lie (d + 70)) 32 [some (.ref 0), some (.int x1), some (.int x2), some (.int x3), none, none, none, none, none, none, none, none, none, none, none, none, none] [] h Q :=
  b_Model_lie_32 (d := (d + 70)) (kt := fun c => (t_Model_lie_47 (am_ift e c) q)) (kf := fun c => (t_Model_lie_39 (am_ife e c) q))
theorem t_Model_lie_29 {d : Nat} {x1 : Int32} {x2 : Int32} {x3 : Int32} {y0 : Bool} {h : am_H} {Q : am_Q} {res : Int64 × am_H} (e : f_Model_lie_29 h x1 x2 x3 y0 = some res) (q : Q (some (.long res.1)) res.2) : am_W (X_Model_lie (d + 70)) 29 [some (.ref 0), some (.int x1), some (.int x2), some (.int x3), none, none, none, none, none, none, none, none, none, none, none, none, none] [.int (am_b y0)] h Q :=
  b_Model_lie_29 (d := (d + 70)) (kt := fun c => (t_Model_lie_47 (am_iff e (am_bz c)) q)) (kf := fun c => (t_Model_lie_32 (am_ift e (am_bn c)) q))
theorem t_Model_lie_20 {d : Nat} {x1 : Int32} {x2 : Int32} {x3 : Int32} {h : am_H} {Q : am_Q} {res : Int64 × am_H} (e : f_Model_lie_20 h x1 x2 x3 = some res) (q : Q (some (.long res.1)) res.2) : am_W (X_Model_lie (d + 70)) 20 [some (.ref 0), some (.int x1), some (.int x2), some (.int x3), none, none, none, none, none, none, none, none, none, none, none, none, none] [] h Q :=
  b_Model_lie_20 (d := (d + 69)) (k := c_Model_within (d := d + 69) rfl (t_Model_lie_29 e q))
theorem t_Model_lie_17 {d : Nat} {x1 : Int32} {x2 : Int32} {x3 : Int32} {y0 : Bool} {h : am_H} {Q : am_Q} {res : Int64 × am_H} (e : f_Model_lie_17 h x1 x2 x3 y0 = some res) (q : Q (some (.long res.1)) res.2) : am_W (X_Model_lie (d + 70)) 17 [some (.ref 0), some (.int x1), some (.int x2), some (.int x3), none, none, none, none, none, none, none, none, none, none, none, none, none] [.int (am_b y0)] h Q :=
  b_Model_lie_17 (d := (d + 70)) (kt := fun c => (t_Model_lie_47 (am_iff e (am_bz c)) q)) (kf := fun c => (t_Model_lie_20 (am_ift e (am_bn c)) q))
theorem t_Model_lie_8 {d : Nat} {x1 : Int32} {x2 : Int32} {x3 : Int32} {h : am_H} {Q : am_Q} {res : Int64 × am_H} (e : f_Model_lie_8 h x1 x2 x3 = some res) (q : Q (some (.long res.1)) res.2) : am_W (X_Model_lie (d + 70)) 8 [some (.ref 0), some (.int x1), some (.int x2), some (.int x3), none, none, none, none, none, none, none, none, none, none, none, none, none] [] h Q :=
  b_Model_lie_8 (d := (d + 69)) (k := c_Model_within (d := d + 69) rfl (t_Model_lie_17 e q))
theorem t_Model_lie_5 {d : Nat} {x1 : Int32} {x2 : Int32} {x3 : Int32} {y0 : Bool} {h : am_H} {Q : am_Q} {res : Int64 × am_H} (e : f_Model_lie_5 h x1 x2 x3 y0 = some res) (q : Q (some (.long res.1)) res.2) : am_W (X_Model_lie (d + 70)) 5 [some (.ref 0), some (.int x1), some (.int x2), some (.int x3), none, none, none, none, none, none, none, none, none, none, none, none, none] [.int (am_b y0)] h Q :=
  b_Model_lie_5 (d := (d + 70)) (kt := fun c => (t_Model_lie_47 (am_iff e (am_bz c)) q)) (kf := fun c => (t_Model_lie_8 (am_ift e (am_bn c)) q))
theorem t_Model_lie_0 {d : Nat} {x1 : Int32} {x2 : Int32} {x3 : Int32} {h : am_H} {Q : am_Q} {res : Int64 × am_H} (e : f_Model_lie h x1 x2 x3 = some res) (q : Q (some (.long res.1)) res.2) : am_W (X_Model_lie (d + 70)) 0 [some (.ref 0), some (.int x1), some (.int x2), some (.int x3), none, none, none, none, none, none, none, none, none, none, none, none, none] [] h Q :=
  b_Model_lie_0 (d := (d + 69)) (k := c_Model_isCell (d := d + 68) rfl (t_Model_lie_5 e q))
theorem c_Model_lie {d : Nat} {x1 : Int32} {x2 : Int32} {x3 : Int32} {h : am_H} {Q : am_Q} {res : Int64 × am_H} (e : f_Model_lie h x1 x2 x3 = some res) (q : Q (some (.long res.1)) res.2) : m_Model_lie (d + 70) [.ref 0, .int x1, .int x2, .int x3] h Q :=
  e_Model_lie (t_Model_lie_0 e q)
theorem d_Model_even_0 : decode prog_12_method_53_code 0 = .ok (.aload_n 0, 1) := by decide +kernel
theorem d_Model_even_1 : decode prog_12_method_53_code 1 = .ok (.iload_n 1, 1) := by decide +kernel
theorem d_Model_even_2 : decode prog_12_method_53_code 2 = .ok (.iload_n 2, 1) := by decide +kernel
theorem d_Model_even_3 : decode prog_12_method_53_code 3 = .ok (.iconst 0, 1) := by decide +kernel
theorem d_Model_even_4 : decode prog_12_method_53_code 4 = .ok (.invokevirtual 258, 3) := by decide +kernel
theorem d_Model_even_7 : decode prog_12_method_53_code 7 = .ok (.istore_n 3, 1) := by decide +kernel
theorem d_Model_even_8 : decode prog_12_method_53_code 8 = .ok (.aload_n 0, 1) := by decide +kernel
theorem d_Model_even_9 : decode prog_12_method_53_code 9 = .ok (.iload_n 1, 1) := by decide +kernel
theorem d_Model_even_10 : decode prog_12_method_53_code 10 = .ok (.iload_n 2, 1) := by decide +kernel
theorem d_Model_even_11 : decode prog_12_method_53_code 11 = .ok (.iconst 1, 1) := by decide +kernel
theorem d_Model_even_12 : decode prog_12_method_53_code 12 = .ok (.invokevirtual 258, 3) := by decide +kernel
theorem d_Model_even_15 : decode prog_12_method_53_code 15 = .ok (.istore 4, 2) := by decide +kernel
theorem d_Model_even_17 : decode prog_12_method_53_code 17 = .ok (.iload_n 3, 1) := by decide +kernel
theorem d_Model_even_18 : decode prog_12_method_53_code 18 = .ok (.iload 4, 2) := by decide +kernel
theorem d_Model_even_20 : decode prog_12_method_53_code 20 = .ok (.if_icmp .le 7, 3) := by decide +kernel
theorem d_Model_even_23 : decode prog_12_method_53_code 23 = .ok (.iload_n 3, 1) := by decide +kernel
theorem d_Model_even_24 : decode prog_12_method_53_code 24 = .ok (.goto 5, 3) := by decide +kernel
theorem d_Model_even_27 : decode prog_12_method_53_code 27 = .ok (.iload 4, 2) := by decide +kernel
theorem d_Model_even_29 : decode prog_12_method_53_code 29 = .ok (.ireturn, 1) := by decide +kernel
theorem b_Model_even_0 {d : Nat} {x1 : Int32} {x2 : Int32} {h : am_H} {Q : am_Q} (k : m_Model_evenBy d [.ref 0, .int x1, .int x2, .int 0] h (fun r hh => am_W (X_Model_even (d + 1)) 7 [some (.ref 0), some (.int x1), some (.int x2), none, none] (r.toList ++ []) hh Q)) : am_W (X_Model_even (d + 1)) 0 [some (.ref 0), some (.int x1), some (.int x2), none, none] [] h Q :=
  am_aload_n d_Model_even_0 rfl (i := 0) rfl <|
    am_iload_n d_Model_even_1 rfl (i := 1) rfl <|
    am_iload_n d_Model_even_2 rfl (i := 2) rfl <|
    am_iconst (v := 0) d_Model_even_3 (by decide) <|
    am_callV (vs := [.int x1, .int x2, .int 0]) (st := []) (k := 0) (ci := 10) rfl d_Model_even_4 rfl rfl w_1642 w_1644 w_62 w_94 w_1645 p_Model_evenBy (Nat.le_of_ble_eq_true rfl) (Nat.le_of_ble_eq_true rfl) rfl k
theorem b_Model_even_7 {d : Nat} {x1 : Int32} {x2 : Int32} {y0 : Int32} {h : am_H} {Q : am_Q} (k : m_Model_evenBy d [.ref 0, .int x1, .int x2, .int 1] h (fun r hh => am_W (X_Model_even (d + 1)) 15 [some (.ref 0), some (.int x1), some (.int x2), some (.int y0), none] (r.toList ++ []) hh Q)) : am_W (X_Model_even (d + 1)) 7 [some (.ref 0), some (.int x1), some (.int x2), none, none] [.int y0] h Q :=
  am_istore_n (ls' := [some (.ref 0), some (.int x1), some (.int x2), some (.int y0), none]) d_Model_even_7 rfl (Nat.le_of_ble_eq_true rfl) rfl <|
    am_aload_n d_Model_even_8 rfl (i := 0) rfl <|
    am_iload_n d_Model_even_9 rfl (i := 1) rfl <|
    am_iload_n d_Model_even_10 rfl (i := 2) rfl <|
    am_iconst (v := 1) d_Model_even_11 (by decide) <|
    am_callV (vs := [.int x1, .int x2, .int 1]) (st := []) (k := 0) (ci := 10) rfl d_Model_even_12 rfl rfl w_1642 w_1644 w_62 w_94 w_1645 p_Model_evenBy (Nat.le_of_ble_eq_true rfl) (Nat.le_of_ble_eq_true rfl) rfl k
theorem b_Model_even_15 {d : Nat} {x1 : Int32} {x2 : Int32} {x3 : Int32} {y0 : Int32} {h : am_H} {Q : am_Q} (kt : x3 ≤ y0 → am_W (X_Model_even d) 27 [some (.ref 0), some (.int x1), some (.int x2), some (.int x3), some (.int y0)] [] h Q) (kf : ¬ x3 ≤ y0 → am_W (X_Model_even d) 23 [some (.ref 0), some (.int x1), some (.int x2), some (.int x3), some (.int y0)] [] h Q) : am_W (X_Model_even d) 15 [some (.ref 0), some (.int x1), some (.int x2), some (.int x3), none] [.int y0] h Q :=
  am_istore (ls' := [some (.ref 0), some (.int x1), some (.int x2), some (.int x3), some (.int y0)]) d_Model_even_15 (Nat.le_of_ble_eq_true rfl) rfl <|
    am_iload_n d_Model_even_17 rfl (i := 3) rfl <|
    am_iload d_Model_even_18 rfl <|
    am_icmp_le (tgt := 27) d_Model_even_20 (by decide) kt kf
theorem b_Model_even_23 {d : Nat} {x1 : Int32} {x2 : Int32} {x3 : Int32} {x4 : Int32} {h : am_H} {Q : am_Q} (q : Q (some (.int x3)) h) : am_W (X_Model_even d) 23 [some (.ref 0), some (.int x1), some (.int x2), some (.int x3), some (.int x4)] [] h Q :=
  am_iload_n d_Model_even_23 rfl (i := 3) rfl <|
    am_goto (tgt := 29) d_Model_even_24 (by decide) <|
    am_iret rfl d_Model_even_29 q
theorem b_Model_even_27 {d : Nat} {x1 : Int32} {x2 : Int32} {x3 : Int32} {x4 : Int32} {h : am_H} {Q : am_Q} (q : Q (some (.int x4)) h) : am_W (X_Model_even d) 27 [some (.ref 0), some (.int x1), some (.int x2), some (.int x3), some (.int x4)] [] h Q :=
  am_iload d_Model_even_27 rfl <|
    am_iret rfl d_Model_even_29 q
theorem d_Model_evenBy_0 : decode prog_12_method_52_code 0 = .ok (.iload_n 2, 1) := by decide +kernel
theorem d_Model_evenBy_1 : decode prog_12_method_52_code 1 = .ok (.ifCond .ne 13, 3) := by decide +kernel
theorem d_Model_evenBy_4 : decode prog_12_method_52_code 4 = .ok (.iload_n 1, 1) := by decide +kernel
theorem d_Model_evenBy_5 : decode prog_12_method_52_code 5 = .ok (.ifCond .gt 7, 3) := by decide +kernel
theorem d_Model_evenBy_8 : decode prog_12_method_52_code 8 = .ok (.iconst 1, 1) := by decide +kernel
theorem d_Model_evenBy_9 : decode prog_12_method_52_code 9 = .ok (.goto 4, 3) := by decide +kernel
theorem d_Model_evenBy_12 : decode prog_12_method_52_code 12 = .ok (.iconst 0, 1) := by decide +kernel
theorem d_Model_evenBy_13 : decode prog_12_method_52_code 13 = .ok (.ireturn, 1) := by decide +kernel
theorem d_Model_evenBy_14 : decode prog_12_method_52_code 14 = .ok (.iload_n 3, 1) := by decide +kernel
theorem d_Model_evenBy_15 : decode prog_12_method_52_code 15 = .ok (.ifCond .ne 15, 3) := by decide +kernel
theorem d_Model_evenBy_18 : decode prog_12_method_52_code 18 = .ok (.bipush 12, 2) := by decide +kernel
theorem d_Model_evenBy_20 : decode prog_12_method_52_code 20 = .ok (.aload_n 0, 1) := by decide +kernel
theorem d_Model_evenBy_21 : decode prog_12_method_52_code 21 = .ok (.iload_n 1, 1) := by decide +kernel
theorem d_Model_evenBy_22 : decode prog_12_method_52_code 22 = .ok (.iload_n 2, 1) := by decide +kernel
theorem d_Model_evenBy_23 : decode prog_12_method_52_code 23 = .ok (.iconst 1, 1) := by decide +kernel
theorem d_Model_evenBy_24 : decode prog_12_method_52_code 24 = .ok (.isub, 1) := by decide +kernel
theorem d_Model_evenBy_25 : decode prog_12_method_52_code 25 = .ok (.invokevirtual 255, 3) := by decide +kernel
theorem d_Model_evenBy_28 : decode prog_12_method_52_code 28 = .ok (.imul, 1) := by decide +kernel
theorem d_Model_evenBy_29 : decode prog_12_method_52_code 29 = .ok (.ireturn, 1) := by decide +kernel
theorem d_Model_evenBy_30 : decode prog_12_method_52_code 30 = .ok (.aload_n 0, 1) := by decide +kernel
theorem d_Model_evenBy_31 : decode prog_12_method_52_code 31 = .ok (.getfield 11, 3) := by decide +kernel
theorem d_Model_evenBy_34 : decode prog_12_method_52_code 34 = .ok (.bipush 52, 2) := by decide +kernel
theorem d_Model_evenBy_36 : decode prog_12_method_52_code 36 = .ok (.iaload, 1) := by decide +kernel
theorem d_Model_evenBy_37 : decode prog_12_method_52_code 37 = .ok (.istore 4, 2) := by decide +kernel
theorem d_Model_evenBy_39 : decode prog_12_method_52_code 39 = .ok (.aload_n 0, 1) := by decide +kernel
theorem d_Model_evenBy_40 : decode prog_12_method_52_code 40 = .ok (.getfield 11, 3) := by decide +kernel
theorem d_Model_evenBy_43 : decode prog_12_method_52_code 43 = .ok (.bipush 53, 2) := by decide +kernel
theorem d_Model_evenBy_45 : decode prog_12_method_52_code 45 = .ok (.iaload, 1) := by decide +kernel
theorem d_Model_evenBy_46 : decode prog_12_method_52_code 46 = .ok (.istore 5, 2) := by decide +kernel
theorem d_Model_evenBy_48 : decode prog_12_method_52_code 48 = .ok (.iload 4, 2) := by decide +kernel
theorem d_Model_evenBy_50 : decode prog_12_method_52_code 50 = .ok (.aload_n 0, 1) := by decide +kernel
theorem d_Model_evenBy_51 : decode prog_12_method_52_code 51 = .ok (.iload_n 1, 1) := by decide +kernel
theorem d_Model_evenBy_52 : decode prog_12_method_52_code 52 = .ok (.iconst 1, 1) := by decide +kernel
theorem d_Model_evenBy_53 : decode prog_12_method_52_code 53 = .ok (.isub, 1) := by decide +kernel
theorem d_Model_evenBy_54 : decode prog_12_method_52_code 54 = .ok (.iload_n 2, 1) := by decide +kernel
theorem d_Model_evenBy_55 : decode prog_12_method_52_code 55 = .ok (.iconst 1, 1) := by decide +kernel
theorem d_Model_evenBy_56 : decode prog_12_method_52_code 56 = .ok (.isub, 1) := by decide +kernel
theorem d_Model_evenBy_57 : decode prog_12_method_52_code 57 = .ok (.invokevirtual 255, 3) := by decide +kernel
theorem d_Model_evenBy_60 : decode prog_12_method_52_code 60 = .ok (.imul, 1) := by decide +kernel
theorem d_Model_evenBy_61 : decode prog_12_method_52_code 61 = .ok (.iload 5, 2) := by decide +kernel
theorem d_Model_evenBy_63 : decode prog_12_method_52_code 63 = .ok (.aload_n 0, 1) := by decide +kernel
theorem d_Model_evenBy_64 : decode prog_12_method_52_code 64 = .ok (.iload_n 1, 1) := by decide +kernel
theorem d_Model_evenBy_65 : decode prog_12_method_52_code 65 = .ok (.iconst 2, 1) := by decide +kernel
theorem d_Model_evenBy_66 : decode prog_12_method_52_code 66 = .ok (.iadd, 1) := by decide +kernel
theorem d_Model_evenBy_67 : decode prog_12_method_52_code 67 = .ok (.iload_n 2, 1) := by decide +kernel
theorem d_Model_evenBy_68 : decode prog_12_method_52_code 68 = .ok (.iconst 1, 1) := by decide +kernel
theorem d_Model_evenBy_69 : decode prog_12_method_52_code 69 = .ok (.isub, 1) := by decide +kernel
theorem d_Model_evenBy_70 : decode prog_12_method_52_code 70 = .ok (.invokevirtual 255, 3) := by decide +kernel
theorem d_Model_evenBy_73 : decode prog_12_method_52_code 73 = .ok (.imul, 1) := by decide +kernel
theorem d_Model_evenBy_74 : decode prog_12_method_52_code 74 = .ok (.iadd, 1) := by decide +kernel
theorem d_Model_evenBy_75 : decode prog_12_method_52_code 75 = .ok (.bipush 12, 2) := by decide +kernel
theorem d_Model_evenBy_77 : decode prog_12_method_52_code 77 = .ok (.iload 4, 2) := by decide +kernel
theorem d_Model_evenBy_79 : decode prog_12_method_52_code 79 = .ok (.isub, 1) := by decide +kernel
theorem d_Model_evenBy_80 : decode prog_12_method_52_code 80 = .ok (.iload 5, 2) := by decide +kernel
theorem d_Model_evenBy_82 : decode prog_12_method_52_code 82 = .ok (.isub, 1) := by decide +kernel
theorem d_Model_evenBy_83 : decode prog_12_method_52_code 83 = .ok (.aload_n 0, 1) := by decide +kernel
theorem d_Model_evenBy_84 : decode prog_12_method_52_code 84 = .ok (.iload_n 1, 1) := by decide +kernel
theorem d_Model_evenBy_85 : decode prog_12_method_52_code 85 = .ok (.iload_n 2, 1) := by decide +kernel
theorem d_Model_evenBy_86 : decode prog_12_method_52_code 86 = .ok (.iconst 1, 1) := by decide +kernel
theorem d_Model_evenBy_87 : decode prog_12_method_52_code 87 = .ok (.isub, 1) := by decide +kernel
theorem d_Model_evenBy_88 : decode prog_12_method_52_code 88 = .ok (.invokevirtual 255, 3) := by decide +kernel
theorem d_Model_evenBy_91 : decode prog_12_method_52_code 91 = .ok (.imul, 1) := by decide +kernel
theorem d_Model_evenBy_92 : decode prog_12_method_52_code 92 = .ok (.iadd, 1) := by decide +kernel
theorem d_Model_evenBy_93 : decode prog_12_method_52_code 93 = .ok (.ireturn, 1) := by decide +kernel
theorem b_Model_evenBy_0 {d : Nat} {x1 : Int32} {x2 : Int32} {x3 : Int32} {h : am_H} {Q : am_Q} (kt : ¬ x2 = 0 → am_W (X_Model_evenBy d) 14 [some (.ref 0), some (.int x1), some (.int x2), some (.int x3), none, none] [] h Q) (kf : x2 = 0 → am_W (X_Model_evenBy d) 4 [some (.ref 0), some (.int x1), some (.int x2), some (.int x3), none, none] [] h Q) : am_W (X_Model_evenBy d) 0 [some (.ref 0), some (.int x1), some (.int x2), some (.int x3), none, none] [] h Q :=
  am_iload_n d_Model_evenBy_0 rfl (i := 2) rfl <|
    am_if_ne (tgt := 14) d_Model_evenBy_1 (by decide) kt kf
theorem b_Model_evenBy_4 {d : Nat} {x1 : Int32} {x2 : Int32} {x3 : Int32} {h : am_H} {Q : am_Q} (kt : 0 < x1 → am_W (X_Model_evenBy d) 12 [some (.ref 0), some (.int x1), some (.int x2), some (.int x3), none, none] [] h Q) (kf : ¬ 0 < x1 → am_W (X_Model_evenBy d) 8 [some (.ref 0), some (.int x1), some (.int x2), some (.int x3), none, none] [] h Q) : am_W (X_Model_evenBy d) 4 [some (.ref 0), some (.int x1), some (.int x2), some (.int x3), none, none] [] h Q :=
  am_iload_n d_Model_evenBy_4 rfl (i := 1) rfl <|
    am_if_gt (tgt := 12) d_Model_evenBy_5 (by decide) kt kf
theorem b_Model_evenBy_8 {d : Nat} {x1 : Int32} {x2 : Int32} {x3 : Int32} {h : am_H} {Q : am_Q} (q : Q (some (.int 1)) h) : am_W (X_Model_evenBy d) 8 [some (.ref 0), some (.int x1), some (.int x2), some (.int x3), none, none] [] h Q :=
  am_iconst (v := 1) d_Model_evenBy_8 (by decide) <|
    am_goto (tgt := 13) d_Model_evenBy_9 (by decide) <|
    am_iret rfl d_Model_evenBy_13 q
theorem b_Model_evenBy_12 {d : Nat} {x1 : Int32} {x2 : Int32} {x3 : Int32} {h : am_H} {Q : am_Q} (q : Q (some (.int 0)) h) : am_W (X_Model_evenBy d) 12 [some (.ref 0), some (.int x1), some (.int x2), some (.int x3), none, none] [] h Q :=
  am_iconst (v := 0) d_Model_evenBy_12 (by decide) <|
    am_iret rfl d_Model_evenBy_13 q
theorem b_Model_evenBy_14 {d : Nat} {x1 : Int32} {x2 : Int32} {x3 : Int32} {h : am_H} {Q : am_Q} (kt : ¬ x3 = 0 → am_W (X_Model_evenBy d) 30 [some (.ref 0), some (.int x1), some (.int x2), some (.int x3), none, none] [] h Q) (kf : x3 = 0 → am_W (X_Model_evenBy d) 18 [some (.ref 0), some (.int x1), some (.int x2), some (.int x3), none, none] [] h Q) : am_W (X_Model_evenBy d) 14 [some (.ref 0), some (.int x1), some (.int x2), some (.int x3), none, none] [] h Q :=
  am_iload_n d_Model_evenBy_14 rfl (i := 3) rfl <|
    am_if_ne (tgt := 30) d_Model_evenBy_15 (by decide) kt kf
theorem b_Model_evenBy_18 {d : Nat} {x1 : Int32} {x2 : Int32} {x3 : Int32} {h : am_H} {Q : am_Q} (k : m_Model_even d [.ref 0, .int x1, .int (x2 - 1)] h (fun r hh => am_W (X_Model_evenBy (d + 1)) 28 [some (.ref 0), some (.int x1), some (.int x2), some (.int x3), none, none] (r.toList ++ [.int 12]) hh Q)) : am_W (X_Model_evenBy (d + 1)) 18 [some (.ref 0), some (.int x1), some (.int x2), some (.int x3), none, none] [] h Q :=
  am_bipush (v := 12) d_Model_evenBy_18 (by decide) <|
    am_aload_n d_Model_evenBy_20 rfl (i := 0) rfl <|
    am_iload_n d_Model_evenBy_21 rfl (i := 1) rfl <|
    am_iload_n d_Model_evenBy_22 rfl (i := 2) rfl <|
    am_iconst (v := 1) d_Model_evenBy_23 (by decide) <|
    am_isub d_Model_evenBy_24 <|
    am_callV (vs := [.int x1, .int (x2 - 1)]) (st := [.int 12]) (k := 0) (ci := 10) rfl d_Model_evenBy_25 rfl rfl w_1646 w_1648 w_63 w_94 w_1649 p_Model_even (Nat.le_of_ble_eq_true rfl) (Nat.le_of_ble_eq_true rfl) rfl k
theorem b_Model_evenBy_28 {d : Nat} {x1 : Int32} {x2 : Int32} {x3 : Int32} {y1 : Int32} {y0 : Int32} {h : am_H} {Q : am_Q} (q : Q (some (.int (y0 * y1))) h) : am_W (X_Model_evenBy d) 28 [some (.ref 0), some (.int x1), some (.int x2), some (.int x3), none, none] [.int y1, .int y0] h Q :=
  am_imul d_Model_evenBy_28 <|
    am_iret rfl d_Model_evenBy_29 q
theorem b_Model_evenBy_30 {d : Nat} {x1 : Int32} {x2 : Int32} {x3 : Int32} {h : am_H} {Q : am_Q} (k : m_Model_even d [.ref 0, .int (x1 - 1), .int (x2 - 1)] h (fun r hh => am_W (X_Model_evenBy (d + 1)) 60 [some (.ref 0), some (.int x1), some (.int x2), some (.int x3), some (.int (h.1 1 (52 : Int32).toNatClampNeg)), some (.int (h.1 1 (53 : Int32).toNatClampNeg))] (r.toList ++ [.int (h.1 1 (52 : Int32).toNatClampNeg)]) hh Q)) : am_W (X_Model_evenBy (d + 1)) 30 [some (.ref 0), some (.int x1), some (.int x2), some (.int x3), none, none] [] h Q :=
  am_aload_n d_Model_evenBy_30 rfl (i := 0) rfl <|
    am_getR (ci := 10) (i := 0) rfl rfl rfl (Nat.le_of_ble_eq_true rfl) w_1318 d_Model_evenBy_31 <|
    am_bipush (v := 52) d_Model_evenBy_34 (by decide) <|
    am_iald rfl (am_vin (by decide)) d_Model_evenBy_36 <|
    am_istore (ls' := [some (.ref 0), some (.int x1), some (.int x2), some (.int x3), some (.int (h.1 1 (52 : Int32).toNatClampNeg)), none]) d_Model_evenBy_37 (Nat.le_of_ble_eq_true rfl) rfl <|
    am_aload_n d_Model_evenBy_39 rfl (i := 0) rfl <|
    am_getR (ci := 10) (i := 0) rfl rfl rfl (Nat.le_of_ble_eq_true rfl) w_1318 d_Model_evenBy_40 <|
    am_bipush (v := 53) d_Model_evenBy_43 (by decide) <|
    am_iald rfl (am_vin (by decide)) d_Model_evenBy_45 <|
    am_istore (ls' := [some (.ref 0), some (.int x1), some (.int x2), some (.int x3), some (.int (h.1 1 (52 : Int32).toNatClampNeg)), some (.int (h.1 1 (53 : Int32).toNatClampNeg))]) d_Model_evenBy_46 (Nat.le_of_ble_eq_true rfl) rfl <|
    am_iload d_Model_evenBy_48 rfl <|
    am_aload_n d_Model_evenBy_50 rfl (i := 0) rfl <|
    am_iload_n d_Model_evenBy_51 rfl (i := 1) rfl <|
    am_iconst (v := 1) d_Model_evenBy_52 (by decide) <|
    am_isub d_Model_evenBy_53 <|
    am_iload_n d_Model_evenBy_54 rfl (i := 2) rfl <|
    am_iconst (v := 1) d_Model_evenBy_55 (by decide) <|
    am_isub d_Model_evenBy_56 <|
    am_callV (vs := [.int (x1 - 1), .int (x2 - 1)]) (st := [.int (h.1 1 (52 : Int32).toNatClampNeg)]) (k := 0) (ci := 10) rfl d_Model_evenBy_57 rfl rfl w_1646 w_1648 w_63 w_94 w_1649 p_Model_even (Nat.le_of_ble_eq_true rfl) (Nat.le_of_ble_eq_true rfl) rfl k
theorem b_Model_evenBy_60 {d : Nat} {x1 : Int32} {x2 : Int32} {x3 : Int32} {x4 : Int32} {x5 : Int32} {y1 : Int32} {y0 : Int32} {h : am_H} {Q : am_Q} (k : m_Model_even d [.ref 0, .int (x1 + 2), .int (x2 - 1)] h (fun r hh => am_W (X_Model_evenBy (d + 1)) 73 [some (.ref 0), some (.int x1), some (.int x2), some (.int x3), some (.int x4), some (.int x5)] (r.toList ++ [.int x5, .int (y0 * y1)]) hh Q)) : am_W (X_Model_evenBy (d + 1)) 60 [some (.ref 0), some (.int x1), some (.int x2), some (.int x3), some (.int x4), some (.int x5)] [.int y1, .int y0] h Q :=
  am_imul d_Model_evenBy_60 <|
    am_iload d_Model_evenBy_61 rfl <|
    am_aload_n d_Model_evenBy_63 rfl (i := 0) rfl <|
    am_iload_n d_Model_evenBy_64 rfl (i := 1) rfl <|
    am_iconst (v := 2) d_Model_evenBy_65 (by decide) <|
    am_iadd d_Model_evenBy_66 <|
    am_iload_n d_Model_evenBy_67 rfl (i := 2) rfl <|
    am_iconst (v := 1) d_Model_evenBy_68 (by decide) <|
    am_isub d_Model_evenBy_69 <|
    am_callV (vs := [.int (x1 + 2), .int (x2 - 1)]) (st := [.int x5, .int (y0 * y1)]) (k := 0) (ci := 10) rfl d_Model_evenBy_70 rfl rfl w_1646 w_1648 w_63 w_94 w_1649 p_Model_even (Nat.le_of_ble_eq_true rfl) (Nat.le_of_ble_eq_true rfl) rfl k
theorem b_Model_evenBy_73 {d : Nat} {x1 : Int32} {x2 : Int32} {x3 : Int32} {x4 : Int32} {x5 : Int32} {y2 : Int32} {y1 : Int32} {y0 : Int32} {h : am_H} {Q : am_Q} (k : m_Model_even d [.ref 0, .int x1, .int (x2 - 1)] h (fun r hh => am_W (X_Model_evenBy (d + 1)) 91 [some (.ref 0), some (.int x1), some (.int x2), some (.int x3), some (.int x4), some (.int x5)] (r.toList ++ [.int ((12 - x4) - x5), .int (y0 + (y1 * y2))]) hh Q)) : am_W (X_Model_evenBy (d + 1)) 73 [some (.ref 0), some (.int x1), some (.int x2), some (.int x3), some (.int x4), some (.int x5)] [.int y2, .int y1, .int y0] h Q :=
  am_imul d_Model_evenBy_73 <|
    am_iadd d_Model_evenBy_74 <|
    am_bipush (v := 12) d_Model_evenBy_75 (by decide) <|
    am_iload d_Model_evenBy_77 rfl <|
    am_isub d_Model_evenBy_79 <|
    am_iload d_Model_evenBy_80 rfl <|
    am_isub d_Model_evenBy_82 <|
    am_aload_n d_Model_evenBy_83 rfl (i := 0) rfl <|
    am_iload_n d_Model_evenBy_84 rfl (i := 1) rfl <|
    am_iload_n d_Model_evenBy_85 rfl (i := 2) rfl <|
    am_iconst (v := 1) d_Model_evenBy_86 (by decide) <|
    am_isub d_Model_evenBy_87 <|
    am_callV (vs := [.int x1, .int (x2 - 1)]) (st := [.int ((12 - x4) - x5), .int (y0 + (y1 * y2))]) (k := 0) (ci := 10) rfl d_Model_evenBy_88 rfl rfl w_1646 w_1648 w_63 w_94 w_1649 p_Model_even (Nat.le_of_ble_eq_true rfl) (Nat.le_of_ble_eq_true rfl) rfl k
theorem b_Model_evenBy_91 {d : Nat} {x1 : Int32} {x2 : Int32} {x3 : Int32} {x4 : Int32} {x5 : Int32} {y2 : Int32} {y1 : Int32} {y0 : Int32} {h : am_H} {Q : am_Q} (q : Q (some (.int (y0 + (y1 * y2)))) h) : am_W (X_Model_evenBy d) 91 [some (.ref 0), some (.int x1), some (.int x2), some (.int x3), some (.int x4), some (.int x5)] [.int y2, .int y1, .int y0] h Q :=
  am_imul d_Model_evenBy_91 <|
    am_iadd d_Model_evenBy_92 <|
    am_iret rfl d_Model_evenBy_93 q
theorem t_Model_even_27 {d : Nat} {rc : rc_Model_even} {x1 : Int32} {x2 : Int32} {x3 : Int32} {x4 : Int32} {h : am_H} {Q : am_Q} {res : Int32} (hr0 : ∀ {x1 : Int32} {x2 : Int32} {h : am_H} {Q : am_Q} {res : Int32}, rc.1 h x1 x2 = some res → Q (some (.int res)) h → m_Model_even (d + 0) [.ref 0, .int x1, .int x2] h Q) (hr1 : ∀ {x1 : Int32} {x2 : Int32} {x3 : Int32} {h : am_H} {Q : am_Q} {res : Int32}, rc.2 h x1 x2 x3 = some res → Q (some (.int res)) h → m_Model_evenBy (d + 0) [.ref 0, .int x1, .int x2, .int x3] h Q) (e : f_Model_even_27 rc h x4 = some res) (q : Q (some (.int res)) h) : am_W (X_Model_even (d + 0 + 1)) 27 [some (.ref 0), some (.int x1), some (.int x2), some (.int x3), some (.int x4)] [] h Q :=
  b_Model_even_27 (d := (d + 0 + 1)) (q := (am_rIp (v := x4) e q))
theorem t_Model_even_23 {d : Nat} {rc : rc_Model_even} {x1 : Int32} {x2 : Int32} {x3 : Int32} {x4 : Int32} {h : am_H} {Q : am_Q} {res : Int32} (hr0 : ∀ {x1 : Int32} {x2 : Int32} {h : am_H} {Q : am_Q} {res : Int32}, rc.1 h x1 x2 = some res → Q (some (.int res)) h → m_Model_even (d + 0) [.ref 0, .int x1, .int x2] h Q) (hr1 : ∀ {x1 : Int32} {x2 : Int32} {x3 : Int32} {h : am_H} {Q : am_Q} {res : Int32}, rc.2 h x1 x2 x3 = some res → Q (some (.int res)) h → m_Model_evenBy (d + 0) [.ref 0, .int x1, .int x2, .int x3] h Q) (e : f_Model_even_23 rc h x3 = some res) (q : Q (some (.int res)) h) : am_W (X_Model_even (d + 0 + 1)) 23 [some (.ref 0), some (.int x1), some (.int x2), some (.int x3), some (.int x4)] [] h Q :=
  b_Model_even_23 (d := (d + 0 + 1)) (q := (am_rIp (v := x3) e q))
theorem t_Model_even_15 {d : Nat} {rc : rc_Model_even} {x1 : Int32} {x2 : Int32} {x3 : Int32} {y0 : Int32} {h : am_H} {Q : am_Q} {res : Int32} (hr0 : ∀ {x1 : Int32} {x2 : Int32} {h : am_H} {Q : am_Q} {res : Int32}, rc.1 h x1 x2 = some res → Q (some (.int res)) h → m_Model_even (d + 0) [.ref 0, .int x1, .int x2] h Q) (hr1 : ∀ {x1 : Int32} {x2 : Int32} {x3 : Int32} {h : am_H} {Q : am_Q} {res : Int32}, rc.2 h x1 x2 x3 = some res → Q (some (.int res)) h → m_Model_evenBy (d + 0) [.ref 0, .int x1, .int x2, .int x3] h Q) (e : f_Model_even_15 rc h x3 y0 = some res) (q : Q (some (.int res)) h) : am_W (X_Model_even (d + 0 + 1)) 15 [some (.ref 0), some (.int x1), some (.int x2), some (.int x3), none] [.int y0] h Q :=
  b_Model_even_15 (d := (d + 0 + 1)) (kt := fun c => (t_Model_even_27 hr0 hr1 (am_ift e c) q)) (kf := fun c => (t_Model_even_23 hr0 hr1 (am_ife e c) q))
theorem t_Model_even_7 {d : Nat} {rc : rc_Model_even} {x1 : Int32} {x2 : Int32} {y0 : Int32} {h : am_H} {Q : am_Q} {res : Int32} (hr0 : ∀ {x1 : Int32} {x2 : Int32} {h : am_H} {Q : am_Q} {res : Int32}, rc.1 h x1 x2 = some res → Q (some (.int res)) h → m_Model_even (d + 0) [.ref 0, .int x1, .int x2] h Q) (hr1 : ∀ {x1 : Int32} {x2 : Int32} {x3 : Int32} {h : am_H} {Q : am_Q} {res : Int32}, rc.2 h x1 x2 x3 = some res → Q (some (.int res)) h → m_Model_evenBy (d + 0) [.ref 0, .int x1, .int x2, .int x3] h Q) (e : f_Model_even_7 rc h x1 x2 y0 = some res) (q : Q (some (.int res)) h) : am_W (X_Model_even (d + 0 + 1)) 7 [some (.ref 0), some (.int x1), some (.int x2), none, none] [.int y0] h Q :=
  (am_bd e).elim fun p hp => b_Model_even_7 (d := (d + 0)) (k := hr1 hp.1 (t_Model_even_15 hr0 hr1 hp.2 q))
theorem t_Model_even_0 {d : Nat} {rc : rc_Model_even} {x1 : Int32} {x2 : Int32} {h : am_H} {Q : am_Q} {res : Int32} (hr0 : ∀ {x1 : Int32} {x2 : Int32} {h : am_H} {Q : am_Q} {res : Int32}, rc.1 h x1 x2 = some res → Q (some (.int res)) h → m_Model_even (d + 0) [.ref 0, .int x1, .int x2] h Q) (hr1 : ∀ {x1 : Int32} {x2 : Int32} {x3 : Int32} {h : am_H} {Q : am_Q} {res : Int32}, rc.2 h x1 x2 x3 = some res → Q (some (.int res)) h → m_Model_evenBy (d + 0) [.ref 0, .int x1, .int x2, .int x3] h Q) (e : f_Model_even_0 rc h x1 x2 = some res) (q : Q (some (.int res)) h) : am_W (X_Model_even (d + 0 + 1)) 0 [some (.ref 0), some (.int x1), some (.int x2), none, none] [] h Q :=
  (am_bd e).elim fun p hp => b_Model_even_0 (d := (d + 0)) (k := hr1 hp.1 (t_Model_even_7 hr0 hr1 hp.2 q))
theorem t_Model_evenBy_91 {d : Nat} {rc : rc_Model_even} {x1 : Int32} {x2 : Int32} {x3 : Int32} {x4 : Int32} {x5 : Int32} {y2 : Int32} {y1 : Int32} {y0 : Int32} {h : am_H} {Q : am_Q} {res : Int32} (hr0 : ∀ {x1 : Int32} {x2 : Int32} {h : am_H} {Q : am_Q} {res : Int32}, rc.1 h x1 x2 = some res → Q (some (.int res)) h → m_Model_even (d + 0) [.ref 0, .int x1, .int x2] h Q) (hr1 : ∀ {x1 : Int32} {x2 : Int32} {x3 : Int32} {h : am_H} {Q : am_Q} {res : Int32}, rc.2 h x1 x2 x3 = some res → Q (some (.int res)) h → m_Model_evenBy (d + 0) [.ref 0, .int x1, .int x2, .int x3] h Q) (e : f_Model_evenBy_91 rc h y2 y1 y0 = some res) (q : Q (some (.int res)) h) : am_W (X_Model_evenBy (d + 0 + 1)) 91 [some (.ref 0), some (.int x1), some (.int x2), some (.int x3), some (.int x4), some (.int x5)] [.int y2, .int y1, .int y0] h Q :=
  b_Model_evenBy_91 (d := (d + 0 + 1)) (q := (am_rIp (v := (y0 + (y1 * y2))) e q))
theorem t_Model_evenBy_73 {d : Nat} {rc : rc_Model_even} {x1 : Int32} {x2 : Int32} {x3 : Int32} {x4 : Int32} {x5 : Int32} {y2 : Int32} {y1 : Int32} {y0 : Int32} {h : am_H} {Q : am_Q} {res : Int32} (hr0 : ∀ {x1 : Int32} {x2 : Int32} {h : am_H} {Q : am_Q} {res : Int32}, rc.1 h x1 x2 = some res → Q (some (.int res)) h → m_Model_even (d + 0) [.ref 0, .int x1, .int x2] h Q) (hr1 : ∀ {x1 : Int32} {x2 : Int32} {x3 : Int32} {h : am_H} {Q : am_Q} {res : Int32}, rc.2 h x1 x2 x3 = some res → Q (some (.int res)) h → m_Model_evenBy (d + 0) [.ref 0, .int x1, .int x2, .int x3] h Q) (e : f_Model_evenBy_73 rc h x1 x2 x4 x5 y2 y1 y0 = some res) (q : Q (some (.int res)) h) : am_W (X_Model_evenBy (d + 0 + 1)) 73 [some (.ref 0), some (.int x1), some (.int x2), some (.int x3), some (.int x4), some (.int x5)] [.int y2, .int y1, .int y0] h Q :=
  (am_bd e).elim fun p hp => b_Model_evenBy_73 (d := (d + 0)) (k := hr0 hp.1 (t_Model_evenBy_91 hr0 hr1 hp.2 q))
theorem t_Model_evenBy_60 {d : Nat} {rc : rc_Model_even} {x1 : Int32} {x2 : Int32} {x3 : Int32} {x4 : Int32} {x5 : Int32} {y1 : Int32} {y0 : Int32} {h : am_H} {Q : am_Q} {res : Int32} (hr0 : ∀ {x1 : Int32} {x2 : Int32} {h : am_H} {Q : am_Q} {res : Int32}, rc.1 h x1 x2 = some res → Q (some (.int res)) h → m_Model_even (d + 0) [.ref 0, .int x1, .int x2] h Q) (hr1 : ∀ {x1 : Int32} {x2 : Int32} {x3 : Int32} {h : am_H} {Q : am_Q} {res : Int32}, rc.2 h x1 x2 x3 = some res → Q (some (.int res)) h → m_Model_evenBy (d + 0) [.ref 0, .int x1, .int x2, .int x3] h Q) (e : f_Model_evenBy_60 rc h x1 x2 x4 x5 y1 y0 = some res) (q : Q (some (.int res)) h) : am_W (X_Model_evenBy (d + 0 + 1)) 60 [some (.ref 0), some (.int x1), some (.int x2), some (.int x3), some (.int x4), some (.int x5)] [.int y1, .int y0] h Q :=
  (am_bd e).elim fun p hp => b_Model_evenBy_60 (d := (d + 0)) (k := hr0 hp.1 (t_Model_evenBy_73 hr0 hr1 hp.2 q))
theorem t_Model_evenBy_30 {d : Nat} {rc : rc_Model_even} {x1 : Int32} {x2 : Int32} {x3 : Int32} {h : am_H} {Q : am_Q} {res : Int32} (hr0 : ∀ {x1 : Int32} {x2 : Int32} {h : am_H} {Q : am_Q} {res : Int32}, rc.1 h x1 x2 = some res → Q (some (.int res)) h → m_Model_even (d + 0) [.ref 0, .int x1, .int x2] h Q) (hr1 : ∀ {x1 : Int32} {x2 : Int32} {x3 : Int32} {h : am_H} {Q : am_Q} {res : Int32}, rc.2 h x1 x2 x3 = some res → Q (some (.int res)) h → m_Model_evenBy (d + 0) [.ref 0, .int x1, .int x2, .int x3] h Q) (e : f_Model_evenBy_30 rc h x1 x2 = some res) (q : Q (some (.int res)) h) : am_W (X_Model_evenBy (d + 0 + 1)) 30 [some (.ref 0), some (.int x1), some (.int x2), some (.int x3), none, none] [] h Q :=
  (am_bd e).elim fun p hp => b_Model_evenBy_30 (d := (d + 0)) (k := hr0 hp.1 (t_Model_evenBy_60 hr0 hr1 hp.2 q))
theorem t_Model_evenBy_28 {d : Nat} {rc : rc_Model_even} {x1 : Int32} {x2 : Int32} {x3 : Int32} {y1 : Int32} {y0 : Int32} {h : am_H} {Q : am_Q} {res : Int32} (hr0 : ∀ {x1 : Int32} {x2 : Int32} {h : am_H} {Q : am_Q} {res : Int32}, rc.1 h x1 x2 = some res → Q (some (.int res)) h → m_Model_even (d + 0) [.ref 0, .int x1, .int x2] h Q) (hr1 : ∀ {x1 : Int32} {x2 : Int32} {x3 : Int32} {h : am_H} {Q : am_Q} {res : Int32}, rc.2 h x1 x2 x3 = some res → Q (some (.int res)) h → m_Model_evenBy (d + 0) [.ref 0, .int x1, .int x2, .int x3] h Q) (e : f_Model_evenBy_28 rc h y1 y0 = some res) (q : Q (some (.int res)) h) : am_W (X_Model_evenBy (d + 0 + 1)) 28 [some (.ref 0), some (.int x1), some (.int x2), some (.int x3), none, none] [.int y1, .int y0] h Q :=
  b_Model_evenBy_28 (d := (d + 0 + 1)) (q := (am_rIp (v := (y0 * y1)) e q))
theorem t_Model_evenBy_18 {d : Nat} {rc : rc_Model_even} {x1 : Int32} {x2 : Int32} {x3 : Int32} {h : am_H} {Q : am_Q} {res : Int32} (hr0 : ∀ {x1 : Int32} {x2 : Int32} {h : am_H} {Q : am_Q} {res : Int32}, rc.1 h x1 x2 = some res → Q (some (.int res)) h → m_Model_even (d + 0) [.ref 0, .int x1, .int x2] h Q) (hr1 : ∀ {x1 : Int32} {x2 : Int32} {x3 : Int32} {h : am_H} {Q : am_Q} {res : Int32}, rc.2 h x1 x2 x3 = some res → Q (some (.int res)) h → m_Model_evenBy (d + 0) [.ref 0, .int x1, .int x2, .int x3] h Q) (e : f_Model_evenBy_18 rc h x1 x2 = some res) (q : Q (some (.int res)) h) : am_W (X_Model_evenBy (d + 0 + 1)) 18 [some (.ref 0), some (.int x1), some (.int x2), some (.int x3), none, none] [] h Q :=
  (am_bd e).elim fun p hp => b_Model_evenBy_18 (d := (d + 0)) (k := hr0 hp.1 (t_Model_evenBy_28 hr0 hr1 hp.2 q))
theorem t_Model_evenBy_14 {d : Nat} {rc : rc_Model_even} {x1 : Int32} {x2 : Int32} {x3 : Int32} {h : am_H} {Q : am_Q} {res : Int32} (hr0 : ∀ {x1 : Int32} {x2 : Int32} {h : am_H} {Q : am_Q} {res : Int32}, rc.1 h x1 x2 = some res → Q (some (.int res)) h → m_Model_even (d + 0) [.ref 0, .int x1, .int x2] h Q) (hr1 : ∀ {x1 : Int32} {x2 : Int32} {x3 : Int32} {h : am_H} {Q : am_Q} {res : Int32}, rc.2 h x1 x2 x3 = some res → Q (some (.int res)) h → m_Model_evenBy (d + 0) [.ref 0, .int x1, .int x2, .int x3] h Q) (e : f_Model_evenBy_14 rc h x1 x2 x3 = some res) (q : Q (some (.int res)) h) : am_W (X_Model_evenBy (d + 0 + 1)) 14 [some (.ref 0), some (.int x1), some (.int x2), some (.int x3), none, none] [] h Q :=
  b_Model_evenBy_14 (d := (d + 0 + 1)) (kt := fun c => (t_Model_evenBy_30 hr0 hr1 (am_ife e c) q)) (kf := fun c => (t_Model_evenBy_18 hr0 hr1 (am_ift e c) q))
theorem t_Model_evenBy_12 {d : Nat} {rc : rc_Model_even} {x1 : Int32} {x2 : Int32} {x3 : Int32} {h : am_H} {Q : am_Q} {res : Int32} (hr0 : ∀ {x1 : Int32} {x2 : Int32} {h : am_H} {Q : am_Q} {res : Int32}, rc.1 h x1 x2 = some res → Q (some (.int res)) h → m_Model_even (d + 0) [.ref 0, .int x1, .int x2] h Q) (hr1 : ∀ {x1 : Int32} {x2 : Int32} {x3 : Int32} {h : am_H} {Q : am_Q} {res : Int32}, rc.2 h x1 x2 x3 = some res → Q (some (.int res)) h → m_Model_evenBy (d + 0) [.ref 0, .int x1, .int x2, .int x3] h Q) (e : f_Model_evenBy_12 rc h = some res) (q : Q (some (.int res)) h) : am_W (X_Model_evenBy (d + 0 + 1)) 12 [some (.ref 0), some (.int x1), some (.int x2), some (.int x3), none, none] [] h Q :=
  b_Model_evenBy_12 (d := (d + 0 + 1)) (q := (am_rIp (v := 0) e q))
theorem t_Model_evenBy_8 {d : Nat} {rc : rc_Model_even} {x1 : Int32} {x2 : Int32} {x3 : Int32} {h : am_H} {Q : am_Q} {res : Int32} (hr0 : ∀ {x1 : Int32} {x2 : Int32} {h : am_H} {Q : am_Q} {res : Int32}, rc.1 h x1 x2 = some res → Q (some (.int res)) h → m_Model_even (d + 0) [.ref 0, .int x1, .int x2] h Q) (hr1 : ∀ {x1 : Int32} {x2 : Int32} {x3 : Int32} {h : am_H} {Q : am_Q} {res : Int32}, rc.2 h x1 x2 x3 = some res → Q (some (.int res)) h → m_Model_evenBy (d + 0) [.ref 0, .int x1, .int x2, .int x3] h Q) (e : f_Model_evenBy_8 rc h = some res) (q : Q (some (.int res)) h) : am_W (X_Model_evenBy (d + 0 + 1)) 8 [some (.ref 0), some (.int x1), some (.int x2), some (.int x3), none, none] [] h Q :=
  b_Model_evenBy_8 (d := (d + 0 + 1)) (q := (am_rIp (v := 1) e q))
theorem t_Model_evenBy_4 {d : Nat} {rc : rc_Model_even} {x1 : Int32} {x2 : Int32} {x3 : Int32} {h : am_H} {Q : am_Q} {res : Int32} (hr0 : ∀ {x1 : Int32} {x2 : Int32} {h : am_H} {Q : am_Q} {res : Int32}, rc.1 h x1 x2 = some res → Q (some (.int res)) h → m_Model_even (d + 0) [.ref 0, .int x1, .int x2] h Q) (hr1 : ∀ {x1 : Int32} {x2 : Int32} {x3 : Int32} {h : am_H} {Q : am_Q} {res : Int32}, rc.2 h x1 x2 x3 = some res → Q (some (.int res)) h → m_Model_evenBy (d + 0) [.ref 0, .int x1, .int x2, .int x3] h Q) (e : f_Model_evenBy_4 rc h x1 = some res) (q : Q (some (.int res)) h) : am_W (X_Model_evenBy (d + 0 + 1)) 4 [some (.ref 0), some (.int x1), some (.int x2), some (.int x3), none, none] [] h Q :=
  b_Model_evenBy_4 (d := (d + 0 + 1)) (kt := fun c => (t_Model_evenBy_12 hr0 hr1 (am_ift e c) q)) (kf := fun c => (t_Model_evenBy_8 hr0 hr1 (am_ife e c) q))
theorem t_Model_evenBy_0 {d : Nat} {rc : rc_Model_even} {x1 : Int32} {x2 : Int32} {x3 : Int32} {h : am_H} {Q : am_Q} {res : Int32} (hr0 : ∀ {x1 : Int32} {x2 : Int32} {h : am_H} {Q : am_Q} {res : Int32}, rc.1 h x1 x2 = some res → Q (some (.int res)) h → m_Model_even (d + 0) [.ref 0, .int x1, .int x2] h Q) (hr1 : ∀ {x1 : Int32} {x2 : Int32} {x3 : Int32} {h : am_H} {Q : am_Q} {res : Int32}, rc.2 h x1 x2 x3 = some res → Q (some (.int res)) h → m_Model_evenBy (d + 0) [.ref 0, .int x1, .int x2, .int x3] h Q) (e : f_Model_evenBy_0 rc h x1 x2 x3 = some res) (q : Q (some (.int res)) h) : am_W (X_Model_evenBy (d + 0 + 1)) 0 [some (.ref 0), some (.int x1), some (.int x2), some (.int x3), none, none] [] h Q :=
  b_Model_evenBy_0 (d := (d + 0 + 1)) (kt := fun c => (t_Model_evenBy_14 hr0 hr1 (am_ife e c) q)) (kf := fun c => (t_Model_evenBy_4 hr0 hr1 (am_ift e c) q))
theorem s_Model_even : ∀ (n : Nat) {d D : Nat}, D = d + n + 0 → (∀ {x1 : Int32} {x2 : Int32} {h : am_H} {Q : am_Q} {res : Int32}, (g_Model_even n).1 h x1 x2 = some res → Q (some (.int res)) h → m_Model_even D [.ref 0, .int x1, .int x2] h Q) ∧ (∀ {x1 : Int32} {x2 : Int32} {x3 : Int32} {h : am_H} {Q : am_Q} {res : Int32}, (g_Model_even n).2 h x1 x2 x3 = some res → Q (some (.int res)) h → m_Model_evenBy D [.ref 0, .int x1, .int x2, .int x3] h Q) := by
  intro n
  induction n with
  | zero =>
    intro d D hD
    refine ⟨?_, ?_⟩
    · intro x1 x2 h Q res  e q; exact am_nn e
    · intro x1 x2 x3 h Q res  e q; exact am_nn e
  | succ n ih =>
    intro d D hD
    obtain rfl : D = d + n + 0 + 1 := by omega
    obtain ⟨i0, i1⟩ := ih (d := d) rfl
    refine ⟨?_, ?_⟩
    · intro x1 x2 h Q res  e q; exact e_Model_even (t_Model_even_0 (d := d + n) i0 i1 e q)
    · intro x1 x2 x3 h Q res  e q; exact e_Model_evenBy (t_Model_evenBy_0 (d := d + n) i0 i1 e q)

theorem c_Model_even {d : Nat} {x1 : Int32} {x2 : Int32} {h : am_H} {Q : am_Q} {res : Int32} (e : f_Model_even h x1 x2 = some res) (q : Q (some (.int res)) h) : m_Model_even (d + 64) [.ref 0, .int x1, .int x2] h Q :=
  (s_Model_even 64 (d := d) (D := d + 64) rfl).1 e q
theorem c_Model_evenBy {d : Nat} {x1 : Int32} {x2 : Int32} {x3 : Int32} {h : am_H} {Q : am_Q} {res : Int32} (e : f_Model_evenBy h x1 x2 x3 = some res) (q : Q (some (.int res)) h) : m_Model_evenBy (d + 64) [.ref 0, .int x1, .int x2, .int x3] h Q :=
  (s_Model_even 64 (d := d) (D := d + 64) rfl).2 e q
