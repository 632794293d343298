theorem d_Model_workOut_0 : decode prog_12_method_30_code 0 = .ok (.aload_n 0, 1) := by decide +kernel
theorem d_Model_workOut_1 : decode prog_12_method_30_code 1 = .ok (.iload_n 1, 1) := by decide +kernel
theorem d_Model_workOut_2 : decode prog_12_method_30_code 2 = .ok (.putfield 153, 3) := by decide +kernel
theorem d_Model_workOut_5 : decode prog_12_method_30_code 5 = .ok (.aload_n 0, 1) := by decide +kernel
theorem d_Model_workOut_6 : decode prog_12_method_30_code 6 = .ok (.iconst 0, 1) := by decide +kernel
theorem d_Model_workOut_7 : decode prog_12_method_30_code 7 = .ok (.putfield 147, 3) := by decide +kernel
theorem d_Model_workOut_10 : decode prog_12_method_30_code 10 = .ok (.aload_n 0, 1) := by decide +kernel
theorem d_Model_workOut_11 : decode prog_12_method_30_code 11 = .ok (.iload_n 2, 1) := by decide +kernel
theorem d_Model_workOut_12 : decode prog_12_method_30_code 12 = .ok (.putfield 150, 3) := by decide +kernel
theorem d_Model_workOut_15 : decode prog_12_method_30_code 15 = .ok (.aload_n 0, 1) := by decide +kernel
theorem d_Model_workOut_16 : decode prog_12_method_30_code 16 = .ok (.iconst (-1), 1) := by decide +kernel
theorem d_Model_workOut_17 : decode prog_12_method_30_code 17 = .ok (.putfield 156, 3) := by decide +kernel
theorem d_Model_workOut_20 : decode prog_12_method_30_code 20 = .ok (.aload_n 0, 1) := by decide +kernel
theorem d_Model_workOut_21 : decode prog_12_method_30_code 21 = .ok (.iconst 0, 1) := by decide +kernel
theorem d_Model_workOut_22 : decode prog_12_method_30_code 22 = .ok (.putfield 181, 3) := by decide +kernel
theorem d_Model_workOut_25 : decode prog_12_method_30_code 25 = .ok (.iconst 0, 1) := by decide +kernel
theorem d_Model_workOut_26 : decode prog_12_method_30_code 26 = .ok (.istore_n 3, 1) := by decide +kernel
theorem d_Model_workOut_27 : decode prog_12_method_30_code 27 = .ok (.iconst 0, 1) := by decide +kernel
theorem d_Model_workOut_28 : decode prog_12_method_30_code 28 = .ok (.istore 4, 2) := by decide +kernel
theorem d_Model_workOut_30 : decode prog_12_method_30_code 30 = .ok (.iconst 1, 1) := by decide +kernel
theorem d_Model_workOut_31 : decode prog_12_method_30_code 31 = .ok (.istore 5, 2) := by decide +kernel
theorem d_Model_workOut_33 : decode prog_12_method_30_code 33 = .ok (.iload 5, 2) := by decide +kernel
theorem d_Model_workOut_35 : decode prog_12_method_30_code 35 = .ok (.ifCond .eq 72, 3) := by decide +kernel
theorem d_Model_workOut_38 : decode prog_12_method_30_code 38 = .ok (.aload_n 0, 1) := by decide +kernel
theorem d_Model_workOut_39 : decode prog_12_method_30_code 39 = .ok (.invokevirtual 187, 3) := by decide +kernel
theorem d_Model_workOut_42 : decode prog_12_method_30_code 42 = .ok (.istore 6, 2) := by decide +kernel
theorem d_Model_workOut_44 : decode prog_12_method_30_code 44 = .ok (.iconst 1, 1) := by decide +kernel
theorem d_Model_workOut_45 : decode prog_12_method_30_code 45 = .ok (.istore 7, 2) := by decide +kernel
theorem d_Model_workOut_47 : decode prog_12_method_30_code 47 = .ok (.aload_n 0, 1) := by decide +kernel
theorem d_Model_workOut_48 : decode prog_12_method_30_code 48 = .ok (.bipush 63, 2) := by decide +kernel
theorem d_Model_workOut_50 : decode prog_12_method_30_code 50 = .ok (.invokevirtual 166, 3) := by decide +kernel
theorem d_Model_workOut_53 : decode prog_12_method_30_code 53 = .ok (.ifCond .eq 21, 3) := by decide +kernel
theorem d_Model_workOut_56 : decode prog_12_method_30_code 56 = .ok (.iload 6, 2) := by decide +kernel
theorem d_Model_workOut_58 : decode prog_12_method_30_code 58 = .ok (.ifCond .eq 7, 3) := by decide +kernel
theorem d_Model_workOut_61 : decode prog_12_method_30_code 61 = .ok (.iconst 1, 1) := by decide +kernel
theorem d_Model_workOut_62 : decode prog_12_method_30_code 62 = .ok (.goto 4, 3) := by decide +kernel
theorem d_Model_workOut_65 : decode prog_12_method_30_code 65 = .ok (.iconst 0, 1) := by decide +kernel
theorem d_Model_workOut_66 : decode prog_12_method_30_code 66 = .ok (.istore 7, 2) := by decide +kernel
theorem d_Model_workOut_68 : decode prog_12_method_30_code 68 = .ok (.aload_n 0, 1) := by decide +kernel
theorem d_Model_workOut_69 : decode prog_12_method_30_code 69 = .ok (.invokevirtual 187, 3) := by decide +kernel
theorem d_Model_workOut_72 : decode prog_12_method_30_code 72 = .ok (.istore 6, 2) := by decide +kernel
theorem d_Model_workOut_74 : decode prog_12_method_30_code 74 = .ok (.aload_n 0, 1) := by decide +kernel
theorem d_Model_workOut_75 : decode prog_12_method_30_code 75 = .ok (.getfield 156, 3) := by decide +kernel
theorem d_Model_workOut_78 : decode prog_12_method_30_code 78 = .ok (.ifCond .ge 18, 3) := by decide +kernel
theorem d_Model_workOut_81 : decode prog_12_method_30_code 81 = .ok (.iload 7, 2) := by decide +kernel
theorem d_Model_workOut_83 : decode prog_12_method_30_code 83 = .ok (.ifCond .eq 13, 3) := by decide +kernel
theorem d_Model_workOut_86 : decode prog_12_method_30_code 86 = .ok (.iload_n 3, 1) := by decide +kernel
theorem d_Model_workOut_87 : decode prog_12_method_30_code 87 = .ok (.ifCond .ne 9, 3) := by decide +kernel
theorem d_Model_workOut_90 : decode prog_12_method_30_code 90 = .ok (.iconst 1, 1) := by decide +kernel
theorem d_Model_workOut_91 : decode prog_12_method_30_code 91 = .ok (.istore_n 3, 1) := by decide +kernel
theorem d_Model_workOut_92 : decode prog_12_method_30_code 92 = .ok (.iload 6, 2) := by decide +kernel
theorem d_Model_workOut_94 : decode prog_12_method_30_code 94 = .ok (.istore 4, 2) := by decide +kernel
theorem d_Model_workOut_96 : decode prog_12_method_30_code 96 = .ok (.aload_n 0, 1) := by decide +kernel
theorem d_Model_workOut_97 : decode prog_12_method_30_code 97 = .ok (.bipush 59, 2) := by decide +kernel
theorem d_Model_workOut_99 : decode prog_12_method_30_code 99 = .ok (.invokevirtual 166, 3) := by decide +kernel
theorem d_Model_workOut_102 : decode prog_12_method_30_code 102 = .ok (.istore 5, 2) := by decide +kernel
theorem d_Model_workOut_104 : decode prog_12_method_30_code 104 = .ok (.goto (-71), 3) := by decide +kernel
theorem d_Model_workOut_107 : decode prog_12_method_30_code 107 = .ok (.aload_n 0, 1) := by decide +kernel
theorem d_Model_workOut_108 : decode prog_12_method_30_code 108 = .ok (.getfield 156, 3) := by decide +kernel
theorem d_Model_workOut_111 : decode prog_12_method_30_code 111 = .ok (.ifCond .ge 19, 3) := by decide +kernel
theorem d_Model_workOut_114 : decode prog_12_method_30_code 114 = .ok (.aload_n 0, 1) := by decide +kernel
theorem d_Model_workOut_115 : decode prog_12_method_30_code 115 = .ok (.getfield 147, 3) := by decide +kernel
theorem d_Model_workOut_118 : decode prog_12_method_30_code 118 = .ok (.aload_n 0, 1) := by decide +kernel
theorem d_Model_workOut_119 : decode prog_12_method_30_code 119 = .ok (.getfield 150, 3) := by decide +kernel
theorem d_Model_workOut_122 : decode prog_12_method_30_code 122 = .ok (.if_icmp .ge 8, 3) := by decide +kernel
theorem d_Model_workOut_125 : decode prog_12_method_30_code 125 = .ok (.aload_n 0, 1) := by decide +kernel
theorem d_Model_workOut_126 : decode prog_12_method_30_code 126 = .ok (.invokevirtual 184, 3) := by decide +kernel
theorem d_Model_workOut_129 : decode prog_12_method_30_code 129 = .ok (.ireturn, 1) := by decide +kernel
theorem d_Model_workOut_130 : decode prog_12_method_30_code 130 = .ok (.iload 4, 2) := by decide +kernel
theorem d_Model_workOut_132 : decode prog_12_method_30_code 132 = .ok (.ireturn, 1) := by decide +kernel
theorem b_Model_workOut_0 {d : Nat} {x1 : Int32} {x2 : Int32} {h : am_H} {Q : am_Q} (k : am_W (X_Model_workOut d) 33 [some (.ref 0), some (.int x1), some (.int x2), some (.int 0), some (.int 0), some (.int 1), none, none] [] (am_pI (am_pI (am_pI (am_pI (am_pI h 0 11 x1) 0 12 0) 0 13 x2) 0 14 (-1)) 0 15 0) Q) : am_W (X_Model_workOut d) 0 [some (.ref 0), some (.int x1), some (.int x2), none, none, none, none, none] [] h Q :=
  am_aload_n d_Model_workOut_0 rfl (i := 0) rfl <|
    am_iload_n d_Model_workOut_1 rfl (i := 1) rfl <|
    am_putI (ci := 10) (i := 11) rfl rfl rfl (Nat.le_of_ble_eq_true rfl) w_1329 rfl rfl rfl d_Model_workOut_2 <|
    am_aload_n d_Model_workOut_5 rfl (i := 0) rfl <|
    am_iconst (v := 0) d_Model_workOut_6 (by decide) <|
    am_putI (ci := 10) (i := 12) rfl rfl rfl (Nat.le_of_ble_eq_true rfl) w_1330 rfl rfl rfl d_Model_workOut_7 <|
    am_aload_n d_Model_workOut_10 rfl (i := 0) rfl <|
    am_iload_n d_Model_workOut_11 rfl (i := 2) rfl <|
    am_putI (ci := 10) (i := 13) rfl rfl rfl (Nat.le_of_ble_eq_true rfl) w_1331 rfl rfl rfl d_Model_workOut_12 <|
    am_aload_n d_Model_workOut_15 rfl (i := 0) rfl <|
    am_iconst (v := (-1)) d_Model_workOut_16 (by decide) <|
    am_putI (ci := 10) (i := 14) rfl rfl rfl (Nat.le_of_ble_eq_true rfl) w_1332 rfl rfl rfl d_Model_workOut_17 <|
    am_aload_n d_Model_workOut_20 rfl (i := 0) rfl <|
    am_iconst (v := 0) d_Model_workOut_21 (by decide) <|
    am_putI (ci := 10) (i := 15) rfl rfl rfl (Nat.le_of_ble_eq_true rfl) w_1333 rfl rfl rfl d_Model_workOut_22 <|
    am_iconst (v := 0) d_Model_workOut_25 (by decide) <|
    am_istore_n (ls' := [some (.ref 0), some (.int x1), some (.int x2), some (.int 0), none, none, none, none]) d_Model_workOut_26 rfl (Nat.le_of_ble_eq_true rfl) rfl <|
    am_iconst (v := 0) d_Model_workOut_27 (by decide) <|
    am_istore (ls' := [some (.ref 0), some (.int x1), some (.int x2), some (.int 0), some (.int 0), none, none, none]) d_Model_workOut_28 (Nat.le_of_ble_eq_true rfl) rfl <|
    am_iconst (v := 1) d_Model_workOut_30 (by decide) <|
    am_istore (ls' := [some (.ref 0), some (.int x1), some (.int x2), some (.int 0), some (.int 0), some (.int 1), none, none]) d_Model_workOut_31 (Nat.le_of_ble_eq_true rfl) rfl <|
    k
theorem b_Model_workOut_33 {d : Nat} {x1 : Int32} {x2 : Int32} {x3 : Int32} {x4 : Int32} {x5 : Int32} {h : am_H} {Q : am_Q} (kt : x5 = 0 → am_W (X_Model_workOut d) 107 [some (.ref 0), some (.int x1), some (.int x2), some (.int x3), some (.int x4), some (.int x5), none, none] [] h Q) (kf : ¬ x5 = 0 → am_W (X_Model_workOut d) 38 [some (.ref 0), some (.int x1), some (.int x2), some (.int x3), some (.int x4), some (.int x5), none, none] [] h Q) : am_W (X_Model_workOut d) 33 [some (.ref 0), some (.int x1), some (.int x2), some (.int x3), some (.int x4), some (.int x5), none, none] [] h Q :=
  am_iload d_Model_workOut_33 rfl <|
    am_if_eq (tgt := 107) d_Model_workOut_35 (by decide) kt kf
theorem b_Model_workOut_38 {d : Nat} {x1 : Int32} {x2 : Int32} {x3 : Int32} {x4 : Int32} {x5 : Int32} {h : am_H} {Q : am_Q} (k : m_Model_either d [.ref 0] h (fun r hh => am_W (X_Model_workOut (d + 1)) 42 [some (.ref 0), some (.int x1), some (.int x2), some (.int x3), some (.int x4), some (.int x5), none, none] (r.toList ++ []) hh Q)) : am_W (X_Model_workOut (d + 1)) 38 [some (.ref 0), some (.int x1), some (.int x2), some (.int x3), some (.int x4), some (.int x5), none, none] [] h Q :=
  am_aload_n d_Model_workOut_38 rfl (i := 0) rfl <|
    am_callV (vs := []) (st := []) (k := 0) (ci := 10) rfl d_Model_workOut_39 rfl rfl w_1507 w_1509 w_40 w_94 w_1510 p_Model_either (Nat.le_of_ble_eq_true rfl) (Nat.le_of_ble_eq_true rfl) rfl k
theorem b_Model_workOut_42 {d : Nat} {x1 : Int32} {x2 : Int32} {x3 : Int32} {x4 : Int32} {x5 : Int32} {y0 : Int32} {h : am_H} {Q : am_Q} (k : m_Model_takes d [.ref 0, .int 63] h (fun r hh => am_W (X_Model_workOut (d + 1)) 53 [some (.ref 0), some (.int x1), some (.int x2), some (.int x3), some (.int x4), some (.int x5), some (.int y0), some (.int 1)] (r.toList ++ []) hh Q)) : am_W (X_Model_workOut (d + 1)) 42 [some (.ref 0), some (.int x1), some (.int x2), some (.int x3), some (.int x4), some (.int x5), none, none] [.int y0] h Q :=
  am_istore (ls' := [some (.ref 0), some (.int x1), some (.int x2), some (.int x3), some (.int x4), some (.int x5), some (.int y0), none]) d_Model_workOut_42 (Nat.le_of_ble_eq_true rfl) rfl <|
    am_iconst (v := 1) d_Model_workOut_44 (by decide) <|
    am_istore (ls' := [some (.ref 0), some (.int x1), some (.int x2), some (.int x3), some (.int x4), some (.int x5), some (.int y0), some (.int 1)]) d_Model_workOut_45 (Nat.le_of_ble_eq_true rfl) rfl <|
    am_aload_n d_Model_workOut_47 rfl (i := 0) rfl <|
    am_bipush (v := 63) d_Model_workOut_48 (by decide) <|
    am_callV (vs := [.int 63]) (st := []) (k := 0) (ci := 10) rfl d_Model_workOut_50 rfl rfl w_1539 w_1541 w_48 w_94 w_1542 p_Model_takes (Nat.le_of_ble_eq_true rfl) (Nat.le_of_ble_eq_true rfl) rfl k
theorem b_Model_workOut_53 {d : Nat} {x1 : Int32} {x2 : Int32} {x3 : Int32} {x4 : Int32} {x5 : Int32} {x6 : Int32} {x7 : Int32} {y0 : Bool} {h : am_H} {Q : am_Q} (kt : (am_b y0) = 0 → am_W (X_Model_workOut d) 74 [some (.ref 0), some (.int x1), some (.int x2), some (.int x3), some (.int x4), some (.int x5), some (.int x6), some (.int x7)] [] h Q) (kf : ¬ (am_b y0) = 0 → am_W (X_Model_workOut d) 56 [some (.ref 0), some (.int x1), some (.int x2), some (.int x3), some (.int x4), some (.int x5), some (.int x6), some (.int x7)] [] h Q) : am_W (X_Model_workOut d) 53 [some (.ref 0), some (.int x1), some (.int x2), some (.int x3), some (.int x4), some (.int x5), some (.int x6), some (.int x7)] [.int (am_b y0)] h Q :=
  am_if_eq (tgt := 74) d_Model_workOut_53 (by decide) kt kf
theorem b_Model_workOut_56 {d : Nat} {x1 : Int32} {x2 : Int32} {x3 : Int32} {x4 : Int32} {x5 : Int32} {x6 : Int32} {x7 : Int32} {h : am_H} {Q : am_Q} (kt : x6 = 0 → am_W (X_Model_workOut d) 65 [some (.ref 0), some (.int x1), some (.int x2), some (.int x3), some (.int x4), some (.int x5), some (.int x6), some (.int x7)] [] h Q) (kf : ¬ x6 = 0 → am_W (X_Model_workOut d) 61 [some (.ref 0), some (.int x1), some (.int x2), some (.int x3), some (.int x4), some (.int x5), some (.int x6), some (.int x7)] [] h Q) : am_W (X_Model_workOut d) 56 [some (.ref 0), some (.int x1), some (.int x2), some (.int x3), some (.int x4), some (.int x5), some (.int x6), some (.int x7)] [] h Q :=
  am_iload d_Model_workOut_56 rfl <|
    am_if_eq (tgt := 65) d_Model_workOut_58 (by decide) kt kf
theorem b_Model_workOut_61 {d : Nat} {x1 : Int32} {x2 : Int32} {x3 : Int32} {x4 : Int32} {x5 : Int32} {x6 : Int32} {x7 : Int32} {h : am_H} {Q : am_Q} (k : am_W (X_Model_workOut d) 66 [some (.ref 0), some (.int x1), some (.int x2), some (.int x3), some (.int x4), some (.int x5), some (.int x6), some (.int x7)] [.int 1] h Q) : am_W (X_Model_workOut d) 61 [some (.ref 0), some (.int x1), some (.int x2), some (.int x3), some (.int x4), some (.int x5), some (.int x6), some (.int x7)] [] h Q :=
  am_iconst (v := 1) d_Model_workOut_61 (by decide) <|
    am_goto (tgt := 66) d_Model_workOut_62 (by decide) k
theorem b_Model_workOut_65 {d : Nat} {x1 : Int32} {x2 : Int32} {x3 : Int32} {x4 : Int32} {x5 : Int32} {x6 : Int32} {x7 : Int32} {h : am_H} {Q : am_Q} (k : am_W (X_Model_workOut d) 66 [some (.ref 0), some (.int x1), some (.int x2), some (.int x3), some (.int x4), some (.int x5), some (.int x6), some (.int x7)] [.int 0] h Q) : am_W (X_Model_workOut d) 65 [some (.ref 0), some (.int x1), some (.int x2), some (.int x3), some (.int x4), some (.int x5), some (.int x6), some (.int x7)] [] h Q :=
  am_iconst (v := 0) d_Model_workOut_65 (by decide) <|
    k
theorem b_Model_workOut_66 {d : Nat} {x1 : Int32} {x2 : Int32} {x3 : Int32} {x4 : Int32} {x5 : Int32} {x6 : Int32} {x7 : Int32} {y0 : Int32} {h : am_H} {Q : am_Q} (k : m_Model_either d [.ref 0] h (fun r hh => am_W (X_Model_workOut (d + 1)) 72 [some (.ref 0), some (.int x1), some (.int x2), some (.int x3), some (.int x4), some (.int x5), some (.int x6), some (.int y0)] (r.toList ++ []) hh Q)) : am_W (X_Model_workOut (d + 1)) 66 [some (.ref 0), some (.int x1), some (.int x2), some (.int x3), some (.int x4), some (.int x5), some (.int x6), some (.int x7)] [.int y0] h Q :=
  am_istore (ls' := [some (.ref 0), some (.int x1), some (.int x2), some (.int x3), some (.int x4), some (.int x5), some (.int x6), some (.int y0)]) d_Model_workOut_66 (Nat.le_of_ble_eq_true rfl) rfl <|
    am_aload_n d_Model_workOut_68 rfl (i := 0) rfl <|
    am_callV (vs := []) (st := []) (k := 0) (ci := 10) rfl d_Model_workOut_69 rfl rfl w_1507 w_1509 w_40 w_94 w_1510 p_Model_either (Nat.le_of_ble_eq_true rfl) (Nat.le_of_ble_eq_true rfl) rfl k
theorem b_Model_workOut_72 {d : Nat} {x1 : Int32} {x2 : Int32} {x3 : Int32} {x4 : Int32} {x5 : Int32} {x6 : Int32} {x7 : Int32} {y0 : Int32} {h : am_H} {Q : am_Q} (k : am_W (X_Model_workOut d) 74 [some (.ref 0), some (.int x1), some (.int x2), some (.int x3), some (.int x4), some (.int x5), some (.int y0), some (.int x7)] [] h Q) : am_W (X_Model_workOut d) 72 [some (.ref 0), some (.int x1), some (.int x2), some (.int x3), some (.int x4), some (.int x5), some (.int x6), some (.int x7)] [.int y0] h Q :=
  am_istore (ls' := [some (.ref 0), some (.int x1), some (.int x2), some (.int x3), some (.int x4), some (.int x5), some (.int y0), some (.int x7)]) d_Model_workOut_72 (Nat.le_of_ble_eq_true rfl) rfl <|
    k
theorem b_Model_workOut_74 {d : Nat} {x1 : Int32} {x2 : Int32} {x3 : Int32} {x4 : Int32} {x5 : Int32} {x6 : Int32} {x7 : Int32} {h : am_H} {Q : am_Q} (kt : 0 ≤ (h.1 0 14) → am_W (X_Model_workOut d) 96 [some (.ref 0), some (.int x1), some (.int x2), some (.int x3), some (.int x4), some (.int x5), some (.int x6), some (.int x7)] [] h Q) (kf : ¬ 0 ≤ (h.1 0 14) → am_W (X_Model_workOut d) 81 [some (.ref 0), some (.int x1), some (.int x2), some (.int x3), some (.int x4), some (.int x5), some (.int x6), some (.int x7)] [] h Q) : am_W (X_Model_workOut d) 74 [some (.ref 0), some (.int x1), some (.int x2), some (.int x3), some (.int x4), some (.int x5), some (.int x6), some (.int x7)] [] h Q :=
  am_aload_n d_Model_workOut_74 rfl (i := 0) rfl <|
    am_getI (ci := 10) (i := 14) rfl rfl rfl (Nat.le_of_ble_eq_true rfl) w_1332 d_Model_workOut_75 <|
    am_if_ge (tgt := 96) d_Model_workOut_78 (by decide) kt kf
theorem b_Model_workOut_81 {d : Nat} {x1 : Int32} {x2 : Int32} {x3 : Int32} {x4 : Int32} {x5 : Int32} {x6 : Int32} {x7 : Int32} {h : am_H} {Q : am_Q} (kt : x7 = 0 → am_W (X_Model_workOut d) 96 [some (.ref 0), some (.int x1), some (.int x2), some (.int x3), some (.int x4), some (.int x5), some (.int x6), some (.int x7)] [] h Q) (kf : ¬ x7 = 0 → am_W (X_Model_workOut d) 86 [some (.ref 0), some (.int x1), some (.int x2), some (.int x3), some (.int x4), some (.int x5), some (.int x6), some (.int x7)] [] h Q) : am_W (X_Model_workOut d) 81 [some (.ref 0), some (.int x1), some (.int x2), some (.int x3), some (.int x4), some (.int x5), some (.int x6), some (.int x7)] [] h Q :=
  am_iload d_Model_workOut_81 rfl <|
    am_if_eq (tgt := 96) d_Model_workOut_83 (by decide) kt kf
theorem b_Model_workOut_86 {d : Nat} {x1 : Int32} {x2 : Int32} {x3 : Int32} {x4 : Int32} {x5 : Int32} {x6 : Int32} {x7 : Int32} {h : am_H} {Q : am_Q} (kt : ¬ x3 = 0 → am_W (X_Model_workOut d) 96 [some (.ref 0), some (.int x1), some (.int x2), some (.int x3), some (.int x4), some (.int x5), some (.int x6), some (.int x7)] [] h Q) (kf : x3 = 0 → am_W (X_Model_workOut d) 90 [some (.ref 0), some (.int x1), some (.int x2), some (.int x3), some (.int x4), some (.int x5), some (.int x6), some (.int x7)] [] h Q) : am_W (X_Model_workOut d) 86 [some (.ref 0), some (.int x1), some (.int x2), some (.int x3), some (.int x4), some (.int x5), some (.int x6), some (.int x7)] [] h Q :=
  am_iload_n d_Model_workOut_86 rfl (i := 3) rfl <|
    am_if_ne (tgt := 96) d_Model_workOut_87 (by decide) kt kf
theorem b_Model_workOut_90 {d : Nat} {x1 : Int32} {x2 : Int32} {x3 : Int32} {x4 : Int32} {x5 : Int32} {x6 : Int32} {x7 : Int32} {h : am_H} {Q : am_Q} (k : am_W (X_Model_workOut d) 96 [some (.ref 0), some (.int x1), some (.int x2), some (.int 1), some (.int x6), some (.int x5), some (.int x6), some (.int x7)] [] h Q) : am_W (X_Model_workOut d) 90 [some (.ref 0), some (.int x1), some (.int x2), some (.int x3), some (.int x4), some (.int x5), some (.int x6), some (.int x7)] [] h Q :=
  am_iconst (v := 1) d_Model_workOut_90 (by decide) <|
    am_istore_n (ls' := [some (.ref 0), some (.int x1), some (.int x2), some (.int 1), some (.int x4), some (.int x5), some (.int x6), some (.int x7)]) d_Model_workOut_91 rfl (Nat.le_of_ble_eq_true rfl) rfl <|
    am_iload d_Model_workOut_92 rfl <|
    am_istore (ls' := [some (.ref 0), some (.int x1), some (.int x2), some (.int 1), some (.int x6), some (.int x5), some (.int x6), some (.int x7)]) d_Model_workOut_94 (Nat.le_of_ble_eq_true rfl) rfl <|
    k
theorem b_Model_workOut_96 {d : Nat} {x1 : Int32} {x2 : Int32} {x3 : Int32} {x4 : Int32} {x5 : Int32} {x6 : Int32} {x7 : Int32} {h : am_H} {Q : am_Q} (k : m_Model_takes d [.ref 0, .int 59] h (fun r hh => am_W (X_Model_workOut (d + 1)) 102 [some (.ref 0), some (.int x1), some (.int x2), some (.int x3), some (.int x4), some (.int x5), some (.int x6), some (.int x7)] (r.toList ++ []) hh Q)) : am_W (X_Model_workOut (d + 1)) 96 [some (.ref 0), some (.int x1), some (.int x2), some (.int x3), some (.int x4), some (.int x5), some (.int x6), some (.int x7)] [] h Q :=
  am_aload_n d_Model_workOut_96 rfl (i := 0) rfl <|
    am_bipush (v := 59) d_Model_workOut_97 (by decide) <|
    am_callV (vs := [.int 59]) (st := []) (k := 0) (ci := 10) rfl d_Model_workOut_99 rfl rfl w_1539 w_1541 w_48 w_94 w_1542 p_Model_takes (Nat.le_of_ble_eq_true rfl) (Nat.le_of_ble_eq_true rfl) rfl k
theorem b_Model_workOut_102 {d : Nat} {x1 : Int32} {x2 : Int32} {x3 : Int32} {x4 : Int32} {x5 : Int32} {x6 : Int32} {x7 : Int32} {y0 : Bool} {h : am_H} {Q : am_Q} (k : am_W (X_Model_workOut d) 33 [some (.ref 0), some (.int x1), some (.int x2), some (.int x3), some (.int x4), some (.int (am_b y0)), some (.int x6), some (.int x7)] [] h Q) : am_W (X_Model_workOut d) 102 [some (.ref 0), some (.int x1), some (.int x2), some (.int x3), some (.int x4), some (.int x5), some (.int x6), some (.int x7)] [.int (am_b y0)] h Q :=
  am_istore (ls' := [some (.ref 0), some (.int x1), some (.int x2), some (.int x3), some (.int x4), some (.int (am_b y0)), some (.int x6), some (.int x7)]) d_Model_workOut_102 (Nat.le_of_ble_eq_true rfl) rfl <|
    am_goto (tgt := 33) d_Model_workOut_104 (by decide) k
theorem b_Model_workOut_107 {d : Nat} {x1 : Int32} {x2 : Int32} {x3 : Int32} {x4 : Int32} {x5 : Int32} {h : am_H} {Q : am_Q} (kt : 0 ≤ (h.1 0 14) → am_W (X_Model_workOut d) 130 [some (.ref 0), some (.int x1), some (.int x2), some (.int x3), some (.int x4), some (.int x5), none, none] [] h Q) (kf : ¬ 0 ≤ (h.1 0 14) → am_W (X_Model_workOut d) 114 [some (.ref 0), some (.int x1), some (.int x2), some (.int x3), some (.int x4), some (.int x5), none, none] [] h Q) : am_W (X_Model_workOut d) 107 [some (.ref 0), some (.int x1), some (.int x2), some (.int x3), some (.int x4), some (.int x5), none, none] [] h Q :=
  am_aload_n d_Model_workOut_107 rfl (i := 0) rfl <|
    am_getI (ci := 10) (i := 14) rfl rfl rfl (Nat.le_of_ble_eq_true rfl) w_1332 d_Model_workOut_108 <|
    am_if_ge (tgt := 130) d_Model_workOut_111 (by decide) kt kf
theorem b_Model_workOut_114 {d : Nat} {x1 : Int32} {x2 : Int32} {x3 : Int32} {x4 : Int32} {x5 : Int32} {h : am_H} {Q : am_Q} (kt : (h.1 0 13) ≤ (h.1 0 12) → am_W (X_Model_workOut d) 130 [some (.ref 0), some (.int x1), some (.int x2), some (.int x3), some (.int x4), some (.int x5), none, none] [] h Q) (kf : ¬ (h.1 0 13) ≤ (h.1 0 12) → am_W (X_Model_workOut d) 125 [some (.ref 0), some (.int x1), some (.int x2), some (.int x3), some (.int x4), some (.int x5), none, none] [] h Q) : am_W (X_Model_workOut d) 114 [some (.ref 0), some (.int x1), some (.int x2), some (.int x3), some (.int x4), some (.int x5), none, none] [] h Q :=
  am_aload_n d_Model_workOut_114 rfl (i := 0) rfl <|
    am_getI (ci := 10) (i := 12) rfl rfl rfl (Nat.le_of_ble_eq_true rfl) w_1330 d_Model_workOut_115 <|
    am_aload_n d_Model_workOut_118 rfl (i := 0) rfl <|
    am_getI (ci := 10) (i := 13) rfl rfl rfl (Nat.le_of_ble_eq_true rfl) w_1331 d_Model_workOut_119 <|
    am_icmp_ge (tgt := 130) d_Model_workOut_122 (by decide) kt kf
theorem b_Model_workOut_125 {d : Nat} {x1 : Int32} {x2 : Int32} {x3 : Int32} {x4 : Int32} {x5 : Int32} {h : am_H} {Q : am_Q} (k : m_Model_wrong d [.ref 0] h (fun r hh => am_W (X_Model_workOut (d + 1)) 129 [some (.ref 0), some (.int x1), some (.int x2), some (.int x3), some (.int x4), some (.int x5), none, none] (r.toList ++ []) hh Q)) : am_W (X_Model_workOut (d + 1)) 125 [some (.ref 0), some (.int x1), some (.int x2), some (.int x3), some (.int x4), some (.int x5), none, none] [] h Q :=
  am_aload_n d_Model_workOut_125 rfl (i := 0) rfl <|
    am_callV (vs := []) (st := []) (k := 0) (ci := 10) rfl d_Model_workOut_126 rfl rfl w_1535 w_1537 w_47 w_94 w_1538 p_Model_wrong (Nat.le_of_ble_eq_true rfl) (Nat.le_of_ble_eq_true rfl) rfl k
theorem b_Model_workOut_129 {d : Nat} {x1 : Int32} {x2 : Int32} {x3 : Int32} {x4 : Int32} {x5 : Int32} {y0 : Int32} {h : am_H} {Q : am_Q} (q : Q (some (.int y0)) h) : am_W (X_Model_workOut d) 129 [some (.ref 0), some (.int x1), some (.int x2), some (.int x3), some (.int x4), some (.int x5), none, none] [.int y0] h Q :=
  am_iret rfl d_Model_workOut_129 q
theorem b_Model_workOut_130 {d : Nat} {x1 : Int32} {x2 : Int32} {x3 : Int32} {x4 : Int32} {x5 : Int32} {h : am_H} {Q : am_Q} (q : Q (some (.int x4)) h) : am_W (X_Model_workOut d) 130 [some (.ref 0), some (.int x1), some (.int x2), some (.int x3), some (.int x4), some (.int x5), none, none] [] h Q :=
  am_iload d_Model_workOut_130 rfl <|
    am_iret rfl d_Model_workOut_132 q
theorem t_Model_workOut_130 {d : Nat} {x1 : Int32} {x2 : Int32} {x3 : Int32} {x4 : Int32} {x5 : Int32} {h : am_H} {Q : am_Q} {res : Int32 × am_H} (e : f_Model_workOut_130 h x4 = some res) (q : Q (some (.int res.1)) res.2) : am_W (X_Model_workOut (d + 66)) 130 [some (.ref 0), some (.int x1), some (.int x2), some (.int x3), some (.int x4), some (.int x5), none, none] [] h Q :=
  b_Model_workOut_130 (d := (d + 66)) (q := (am_rIpi (v := x4) e q))
theorem t_Model_workOut_129 {d : Nat} {x1 : Int32} {x2 : Int32} {x3 : Int32} {x4 : Int32} {x5 : Int32} {y0 : Int32} {h : am_H} {Q : am_Q} {res : Int32 × am_H} (e : f_Model_workOut_129 h y0 = some res) (q : Q (some (.int res.1)) res.2) : am_W (X_Model_workOut (d + 66)) 129 [some (.ref 0), some (.int x1), some (.int x2), some (.int x3), some (.int x4), some (.int x5), none, none] [.int y0] h Q :=
  b_Model_workOut_129 (d := (d + 66)) (q := (am_rIpi (v := y0) e q))
theorem t_Model_workOut_125 {d : Nat} {x1 : Int32} {x2 : Int32} {x3 : Int32} {x4 : Int32} {x5 : Int32} {h : am_H} {Q : am_Q} {res : Int32 × am_H} (e : f_Model_workOut_125 h = some res) (q : Q (some (.int res.1)) res.2) : am_W (X_Model_workOut (d + 66)) 125 [some (.ref 0), some (.int x1), some (.int x2), some (.int x3), some (.int x4), some (.int x5), none, none] [] h Q :=
  b_Model_workOut_125 (d := (d + 65)) (k := c_Model_wrong (d := d + 65) rfl (t_Model_workOut_129 e q))
theorem t_Model_workOut_114 {d : Nat} {x1 : Int32} {x2 : Int32} {x3 : Int32} {x4 : Int32} {x5 : Int32} {h : am_H} {Q : am_Q} {res : Int32 × am_H} (e : f_Model_workOut_114 h x4 = some res) (q : Q (some (.int res.1)) res.2) : am_W (X_Model_workOut (d + 66)) 114 [some (.ref 0), some (.int x1), some (.int x2), some (.int x3), some (.int x4), some (.int x5), none, none] [] h Q :=
  b_Model_workOut_114 (d := (d + 66)) (kt := fun c => (t_Model_workOut_130 (am_ift e c) q)) (kf := fun c => (t_Model_workOut_125 (am_ife e c) q))
theorem t_Model_workOut_107 {d : Nat} {x1 : Int32} {x2 : Int32} {x3 : Int32} {x4 : Int32} {x5 : Int32} {h : am_H} {Q : am_Q} {res : Int32 × am_H} (e : f_Model_workOut_107 h x4 = some res) (q : Q (some (.int res.1)) res.2) : am_W (X_Model_workOut (d + 66)) 107 [some (.ref 0), some (.int x1), some (.int x2), some (.int x3), some (.int x4), some (.int x5), none, none] [] h Q :=
  b_Model_workOut_107 (d := (d + 66)) (kt := fun c => (t_Model_workOut_130 (am_ift e c) q)) (kf := fun c => (t_Model_workOut_114 (am_ife e c) q))
theorem t_Model_workOut_102 {d : Nat} {k33 : am_H → Int32 → Int32 → Int32 → Option (Int32 × am_H)} {x1 : Int32} {x2 : Int32} {x3 : Int32} {x4 : Int32} {x5 : Int32} {x6 : Int32} {x7 : Int32} {y0 : Bool} {h : am_H} {Q : am_Q} {res : Int32 × am_H} (hk33 : ∀ (x1 : Int32) (x2 : Int32) (x3 : Int32) (x4 : Int32) (x5 : Int32) (h : am_H), k33 h x3 x4 x5 = some res → am_W (X_Model_workOut (d + 66)) 33 [some (.ref 0), some (.int x1), some (.int x2), some (.int x3), some (.int x4), some (.int x5), none, none] [] h Q) (e : f_Model_workOut_102 k33 h x3 x4 y0 = some res) (q : Q (some (.int res.1)) res.2) : am_W (X_Model_workOut (d + 66)) 102 [some (.ref 0), some (.int x1), some (.int x2), some (.int x3), some (.int x4), some (.int x5), some (.int x6), some (.int x7)] [.int (am_b y0)] h Q :=
  b_Model_workOut_102 (d := (d + 66)) (k := (am_wk2 (hk33 _ _ _ _ _ _ e) ⟨rfl, ⟨rfl, ⟨rfl, ⟨rfl, ⟨rfl, ⟨rfl, trivial⟩⟩⟩⟩⟩⟩))
theorem t_Model_workOut_96 {d : Nat} {k33 : am_H → Int32 → Int32 → Int32 → Option (Int32 × am_H)} {x1 : Int32} {x2 : Int32} {x3 : Int32} {x4 : Int32} {x5 : Int32} {x6 : Int32} {x7 : Int32} {h : am_H} {Q : am_Q} {res : Int32 × am_H} (hk33 : ∀ (x1 : Int32) (x2 : Int32) (x3 : Int32) (x4 : Int32) (x5 : Int32) (h : am_H), k33 h x3 x4 x5 = some res → am_W (X_Model_workOut (d + 66)) 33 [some (.ref 0), some (.int x1), some (.int x2), some (.int x3), some (.int x4), some (.int x5), none, none] [] h Q) (e : f_Model_workOut_96 k33 h x3 x4 = some res) (q : Q (some (.int res.1)) res.2) : am_W (X_Model_workOut (d + 66)) 96 [some (.ref 0), some (.int x1), some (.int x2), some (.int x3), some (.int x4), some (.int x5), some (.int x6), some (.int x7)] [] h Q :=
  (am_bd e).elim fun p hp => b_Model_workOut_96 (d := (d + 65)) (k := c_Model_takes (d := d + 64) hp.1 (t_Model_workOut_102 hk33 hp.2 q))
theorem t_Model_workOut_90 {d : Nat} {k33 : am_H → Int32 → Int32 → Int32 → Option (Int32 × am_H)} {x1 : Int32} {x2 : Int32} {x3 : Int32} {x4 : Int32} {x5 : Int32} {x6 : Int32} {x7 : Int32} {h : am_H} {Q : am_Q} {res : Int32 × am_H} (hk33 : ∀ (x1 : Int32) (x2 : Int32) (x3 : Int32) (x4 : Int32) (x5 : Int32) (h : am_H), k33 h x3 x4 x5 = some res → am_W (X_Model_workOut (d + 66)) 33 [some (.ref 0), some (.int x1), some (.int x2), some (.int x3), some (.int x4), some (.int x5), none, none] [] h Q) (e : f_Model_workOut_90 k33 h x6 = some res) (q : Q (some (.int res.1)) res.2) : am_W (X_Model_workOut (d + 66)) 90 [some (.ref 0), some (.int x1), some (.int x2), some (.int x3), some (.int x4), some (.int x5), some (.int x6), some (.int x7)] [] h Q :=
  b_Model_workOut_90 (d := (d + 66)) (k := (t_Model_workOut_96 hk33 e q))
theorem t_Model_workOut_86 {d : Nat} {k33 : am_H → Int32 → Int32 → Int32 → Option (Int32 × am_H)} {x1 : Int32} {x2 : Int32} {x3 : Int32} {x4 : Int32} {x5 : Int32} {x6 : Int32} {x7 : Int32} {h : am_H} {Q : am_Q} {res : Int32 × am_H} (hk33 : ∀ (x1 : Int32) (x2 : Int32) (x3 : Int32) (x4 : Int32) (x5 : Int32) (h : am_H), k33 h x3 x4 x5 = some res → am_W (X_Model_workOut (d + 66)) 33 [some (.ref 0), some (.int x1), some (.int x2), some (.int x3), some (.int x4), some (.int x5), none, none] [] h Q) (e : f_Model_workOut_86 k33 h x3 x4 x6 = some res) (q : Q (some (.int res.1)) res.2) : am_W (X_Model_workOut (d + 66)) 86 [some (.ref 0), some (.int x1), some (.int x2), some (.int x3), some (.int x4), some (.int x5), some (.int x6), some (.int x7)] [] h Q :=
  b_Model_workOut_86 (d := (d + 66)) (kt := fun c => (t_Model_workOut_96 hk33 (am_ife e c) q)) (kf := fun c => (t_Model_workOut_90 hk33 (am_ift e c) q))
theorem t_Model_workOut_81 {d : Nat} {k33 : am_H → Int32 → Int32 → Int32 → Option (Int32 × am_H)} {x1 : Int32} {x2 : Int32} {x3 : Int32} {x4 : Int32} {x5 : Int32} {x6 : Int32} {x7 : Int32} {h : am_H} {Q : am_Q} {res : Int32 × am_H} (hk33 : ∀ (x1 : Int32) (x2 : Int32) (x3 : Int32) (x4 : Int32) (x5 : Int32) (h : am_H), k33 h x3 x4 x5 = some res → am_W (X_Model_workOut (d + 66)) 33 [some (.ref 0), some (.int x1), some (.int x2), some (.int x3), some (.int x4), some (.int x5), none, none] [] h Q) (e : f_Model_workOut_81 k33 h x3 x4 x6 x7 = some res) (q : Q (some (.int res.1)) res.2) : am_W (X_Model_workOut (d + 66)) 81 [some (.ref 0), some (.int x1), some (.int x2), some (.int x3), some (.int x4), some (.int x5), some (.int x6), some (.int x7)] [] h Q :=
  b_Model_workOut_81 (d := (d + 66)) (kt := fun c => (t_Model_workOut_96 hk33 (am_ift e c) q)) (kf := fun c => (t_Model_workOut_86 hk33 (am_ife e c) q))
theorem t_Model_workOut_74 {d : Nat} {k33 : am_H → Int32 → Int32 → Int32 → Option (Int32 × am_H)} {x1 : Int32} {x2 : Int32} {x3 : Int32} {x4 : Int32} {x5 : Int32} {x6 : Int32} {x7 : Int32} {h : am_H} {Q : am_Q} {res : Int32 × am_H} (hk33 : ∀ (x1 : Int32) (x2 : Int32) (x3 : Int32) (x4 : Int32) (x5 : Int32) (h : am_H), k33 h x3 x4 x5 = some res → am_W (X_Model_workOut (d + 66)) 33 [some (.ref 0), some (.int x1), some (.int x2), some (.int x3), some (.int x4), some (.int x5), none, none] [] h Q) (e : f_Model_workOut_74 k33 h x3 x4 x6 x7 = some res) (q : Q (some (.int res.1)) res.2) : am_W (X_Model_workOut (d + 66)) 74 [some (.ref 0), some (.int x1), some (.int x2), some (.int x3), some (.int x4), some (.int x5), some (.int x6), some (.int x7)] [] h Q :=
  b_Model_workOut_74 (d := (d + 66)) (kt := fun c => (t_Model_workOut_96 hk33 (am_ift e c) q)) (kf := fun c => (t_Model_workOut_81 hk33 (am_ife e c) q))
theorem t_Model_workOut_72 {d : Nat} {k33 : am_H → Int32 → Int32 → Int32 → Option (Int32 × am_H)} {x1 : Int32} {x2 : Int32} {x3 : Int32} {x4 : Int32} {x5 : Int32} {x6 : Int32} {x7 : Int32} {y0 : Int32} {h : am_H} {Q : am_Q} {res : Int32 × am_H} (hk33 : ∀ (x1 : Int32) (x2 : Int32) (x3 : Int32) (x4 : Int32) (x5 : Int32) (h : am_H), k33 h x3 x4 x5 = some res → am_W (X_Model_workOut (d + 66)) 33 [some (.ref 0), some (.int x1), some (.int x2), some (.int x3), some (.int x4), some (.int x5), none, none] [] h Q) (e : f_Model_workOut_72 k33 h x3 x4 x7 y0 = some res) (q : Q (some (.int res.1)) res.2) : am_W (X_Model_workOut (d + 66)) 72 [some (.ref 0), some (.int x1), some (.int x2), some (.int x3), some (.int x4), some (.int x5), some (.int x6), some (.int x7)] [.int y0] h Q :=
  b_Model_workOut_72 (d := (d + 66)) (k := (t_Model_workOut_74 hk33 e q))
theorem t_Model_workOut_66 {d : Nat} {k33 : am_H → Int32 → Int32 → Int32 → Option (Int32 × am_H)} {x1 : Int32} {x2 : Int32} {x3 : Int32} {x4 : Int32} {x5 : Int32} {x6 : Int32} {x7 : Int32} {y0 : Int32} {h : am_H} {Q : am_Q} {res : Int32 × am_H} (hk33 : ∀ (x1 : Int32) (x2 : Int32) (x3 : Int32) (x4 : Int32) (x5 : Int32) (h : am_H), k33 h x3 x4 x5 = some res → am_W (X_Model_workOut (d + 66)) 33 [some (.ref 0), some (.int x1), some (.int x2), some (.int x3), some (.int x4), some (.int x5), none, none] [] h Q) (e : f_Model_workOut_66 k33 h x3 x4 y0 = some res) (q : Q (some (.int res.1)) res.2) : am_W (X_Model_workOut (d + 66)) 66 [some (.ref 0), some (.int x1), some (.int x2), some (.int x3), some (.int x4), some (.int x5), some (.int x6), some (.int x7)] [.int y0] h Q :=
  (am_bd e).elim fun p hp => b_Model_workOut_66 (d := (d + 65)) (k := c_Model_either (d := d) hp.1 (t_Model_workOut_72 hk33 hp.2 q))
theorem t_Model_workOut_65 {d : Nat} {k33 : am_H → Int32 → Int32 → Int32 → Option (Int32 × am_H)} {x1 : Int32} {x2 : Int32} {x3 : Int32} {x4 : Int32} {x5 : Int32} {x6 : Int32} {x7 : Int32} {h : am_H} {Q : am_Q} {res : Int32 × am_H} (hk33 : ∀ (x1 : Int32) (x2 : Int32) (x3 : Int32) (x4 : Int32) (x5 : Int32) (h : am_H), k33 h x3 x4 x5 = some res → am_W (X_Model_workOut (d + 66)) 33 [some (.ref 0), some (.int x1), some (.int x2), some (.int x3), some (.int x4), some (.int x5), none, none] [] h Q) (e : f_Model_workOut_65 k33 h x3 x4 = some res) (q : Q (some (.int res.1)) res.2) : am_W (X_Model_workOut (d + 66)) 65 [some (.ref 0), some (.int x1), some (.int x2), some (.int x3), some (.int x4), some (.int x5), some (.int x6), some (.int x7)] [] h Q :=
  b_Model_workOut_65 (d := (d + 66)) (k := (t_Model_workOut_66 hk33 e q))
theorem t_Model_workOut_61 {d : Nat} {k33 : am_H → Int32 → Int32 → Int32 → Option (Int32 × am_H)} {x1 : Int32} {x2 : Int32} {x3 : Int32} {x4 : Int32} {x5 : Int32} {x6 : Int32} {x7 : Int32} {h : am_H} {Q : am_Q} {res : Int32 × am_H} (hk33 : ∀ (x1 : Int32) (x2 : Int32) (x3 : Int32) (x4 : Int32) (x5 : Int32) (h : am_H), k33 h x3 x4 x5 = some res → am_W (X_Model_workOut (d + 66)) 33 [some (.ref 0), some (.int x1), some (.int x2), some (.int x3), some (.int x4), some (.int x5), none, none] [] h Q) (e : f_Model_workOut_61 k33 h x3 x4 = some res) (q : Q (some (.int res.1)) res.2) : am_W (X_Model_workOut (d + 66)) 61 [some (.ref 0), some (.int x1), some (.int x2), some (.int x3), some (.int x4), some (.int x5), some (.int x6), some (.int x7)] [] h Q :=
  b_Model_workOut_61 (d := (d + 66)) (k := (t_Model_workOut_66 hk33 e q))
theorem t_Model_workOut_56 {d : Nat} {k33 : am_H → Int32 → Int32 → Int32 → Option (Int32 × am_H)} {x1 : Int32} {x2 : Int32} {x3 : Int32} {x4 : Int32} {x5 : Int32} {x6 : Int32} {x7 : Int32} {h : am_H} {Q : am_Q} {res : Int32 × am_H} (hk33 : ∀ (x1 : Int32) (x2 : Int32) (x3 : Int32) (x4 : Int32) (x5 : Int32) (h : am_H), k33 h x3 x4 x5 = some res → am_W (X_Model_workOut (d + 66)) 33 [some (.ref 0), some (.int x1), some (.int x2), some (.int x3), some (.int x4), some (.int x5), none, none] [] h Q) (e : f_Model_workOut_56 k33 h x3 x4 x6 = some res) (q : Q (some (.int res.1)) res.2) : am_W (X_Model_workOut (d + 66)) 56 [some (.ref 0), some (.int x1), some (.int x2), some (.int x3), some (.int x4), some (.int x5), some (.int x6), some (.int x7)] [] h Q :=
  b_Model_workOut_56 (d := (d + 66)) (kt := fun c => (t_Model_workOut_65 hk33 (am_ift e c) q)) (kf := fun c => (t_Model_workOut_61 hk33 (am_ife e c) q))
theorem t_Model_workOut_53 {d : Nat} {k33 : am_H → Int32 → Int32 → Int32 → Option (Int32 × am_H)} {x1 : Int32} {x2 : Int32} {x3 : Int32} {x4 : Int32} {x5 : Int32} {x6 : Int32} {x7 : Int32} {y0 : Bool} {h : am_H} {Q : am_Q} {res : Int32 × am_H} (hk33 : ∀ (x1 : Int32) (x2 : Int32) (x3 : Int32) (x4 : Int32) (x5 : Int32) (h : am_H), k33 h x3 x4 x5 = some res → am_W (X_Model_workOut (d + 66)) 33 [some (.ref 0), some (.int x1), some (.int x2), some (.int x3), some (.int x4), some (.int x5), none, none] [] h Q) (e : f_Model_workOut_53 k33 h x3 x4 x6 x7 y0 = some res) (q : Q (some (.int res.1)) res.2) : am_W (X_Model_workOut (d + 66)) 53 [some (.ref 0), some (.int x1), some (.int x2), some (.int x3), some (.int x4), some (.int x5), some (.int x6), some (.int x7)] [.int (am_b y0)] h Q :=
  b_Model_workOut_53 (d := (d + 66)) (kt := fun c => (t_Model_workOut_74 hk33 (am_iff e (am_bz c)) q)) (kf := fun c => (t_Model_workOut_56 hk33 (am_ift e (am_bn c)) q))
theorem t_Model_workOut_42 {d : Nat} {k33 : am_H → Int32 → Int32 → Int32 → Option (Int32 × am_H)} {x1 : Int32} {x2 : Int32} {x3 : Int32} {x4 : Int32} {x5 : Int32} {y0 : Int32} {h : am_H} {Q : am_Q} {res : Int32 × am_H} (hk33 : ∀ (x1 : Int32) (x2 : Int32) (x3 : Int32) (x4 : Int32) (x5 : Int32) (h : am_H), k33 h x3 x4 x5 = some res → am_W (X_Model_workOut (d + 66)) 33 [some (.ref 0), some (.int x1), some (.int x2), some (.int x3), some (.int x4), some (.int x5), none, none] [] h Q) (e : f_Model_workOut_42 k33 h x3 x4 y0 = some res) (q : Q (some (.int res.1)) res.2) : am_W (X_Model_workOut (d + 66)) 42 [some (.ref 0), some (.int x1), some (.int x2), some (.int x3), some (.int x4), some (.int x5), none, none] [.int y0] h Q :=
  (am_bd e).elim fun p hp => b_Model_workOut_42 (d := (d + 65)) (k := c_Model_takes (d := d + 64) hp.1 (t_Model_workOut_53 hk33 hp.2 q))
theorem t_Model_workOut_38 {d : Nat} {k33 : am_H → Int32 → Int32 → Int32 → Option (Int32 × am_H)} {x1 : Int32} {x2 : Int32} {x3 : Int32} {x4 : Int32} {x5 : Int32} {h : am_H} {Q : am_Q} {res : Int32 × am_H} (hk33 : ∀ (x1 : Int32) (x2 : Int32) (x3 : Int32) (x4 : Int32) (x5 : Int32) (h : am_H), k33 h x3 x4 x5 = some res → am_W (X_Model_workOut (d + 66)) 33 [some (.ref 0), some (.int x1), some (.int x2), some (.int x3), some (.int x4), some (.int x5), none, none] [] h Q) (e : f_Model_workOut_38 k33 h x3 x4 = some res) (q : Q (some (.int res.1)) res.2) : am_W (X_Model_workOut (d + 66)) 38 [some (.ref 0), some (.int x1), some (.int x2), some (.int x3), some (.int x4), some (.int x5), none, none] [] h Q :=
  (am_bd e).elim fun p hp => b_Model_workOut_38 (d := (d + 65)) (k := c_Model_either (d := d) hp.1 (t_Model_workOut_42 hk33 hp.2 q))
theorem t_Model_workOut_33 {d : Nat} {k33 : am_H → Int32 → Int32 → Int32 → Option (Int32 × am_H)} {x1 : Int32} {x2 : Int32} {x3 : Int32} {x4 : Int32} {x5 : Int32} {h : am_H} {Q : am_Q} {res : Int32 × am_H} (hk33 : ∀ (x1 : Int32) (x2 : Int32) (x3 : Int32) (x4 : Int32) (x5 : Int32) (h : am_H), k33 h x3 x4 x5 = some res → am_W (X_Model_workOut (d + 66)) 33 [some (.ref 0), some (.int x1), some (.int x2), some (.int x3), some (.int x4), some (.int x5), none, none] [] h Q) (e : f_Model_workOut_33 k33 h x3 x4 x5 = some res) (q : Q (some (.int res.1)) res.2) : am_W (X_Model_workOut (d + 66)) 33 [some (.ref 0), some (.int x1), some (.int x2), some (.int x3), some (.int x4), some (.int x5), none, none] [] h Q :=
  b_Model_workOut_33 (d := (d + 66)) (kt := fun c => (t_Model_workOut_107 (am_ift e c) q)) (kf := fun c => (t_Model_workOut_38 hk33 (am_ife e c) q))
theorem t_Model_workOut_33_l {d : Nat} {Q : am_Q} {res : Int32 × am_H} (q : Q (some (.int res.1)) res.2) : ∀ (n : Nat) (x1 : Int32) (x2 : Int32) (x3 : Int32) (x4 : Int32) (x5 : Int32) (h : am_H), f_Model_workOut_33_l n h x3 x4 x5 = some res → am_W (X_Model_workOut (d + 66)) 33 [some (.ref 0), some (.int x1), some (.int x2), some (.int x3), some (.int x4), some (.int x5), none, none] [] h Q := by
  intro n
  induction n with
  | zero => intro x1 x2 x3 x4 x5 h e; exact am_nn e
  | succ n ih => intro x1 x2 x3 x4 x5 h e; exact t_Model_workOut_33 (fun x1 x2 x3 x4 x5 h e => ih x1 x2 x3 x4 x5 h  e) e q
theorem t_Model_workOut_0 {d : Nat} {x1 : Int32} {x2 : Int32} {h : am_H} {Q : am_Q} {res : Int32 × am_H} (e : f_Model_workOut h x1 x2 = some res) (q : Q (some (.int res.1)) res.2) : am_W (X_Model_workOut (d + 66)) 0 [some (.ref 0), some (.int x1), some (.int x2), none, none, none, none, none] [] h Q :=
  b_Model_workOut_0 (d := (d + 66)) (k := (t_Model_workOut_33_l q am_fu _ _ _ _ _ _ e))
theorem c_Model_workOut {d : Nat} {x1 : Int32} {x2 : Int32} {h : am_H} {Q : am_Q} {res : Int32 × am_H} (e : f_Model_workOut h x1 x2 = some res) (q : Q (some (.int res.1)) res.2) : m_Model_workOut (d + 66) [.ref 0, .int x1, .int x2] h Q :=
  e_Model_workOut (t_Model_workOut_0 e q)
theorem d_Model_law_0 : decode prog_12_method_31_code 0 = .ok (.aload_n 0, 1) := by decide +kernel
theorem d_Model_law_1 : decode prog_12_method_31_code 1 = .ok (.iconst (-1), 1) := by decide +kernel
theorem d_Model_law_2 : decode prog_12_method_31_code 2 = .ok (.aload_n 0, 1) := by decide +kernel
theorem d_Model_law_3 : decode prog_12_method_31_code 3 = .ok (.getfield 144, 3) := by decide +kernel
theorem d_Model_law_6 : decode prog_12_method_31_code 6 = .ok (.invokevirtual 194, 3) := by decide +kernel
theorem d_Model_law_9 : decode prog_12_method_31_code 9 = .ok (.istore_n 1, 1) := by decide +kernel
theorem d_Model_law_10 : decode prog_12_method_31_code 10 = .ok (.aload_n 0, 1) := by decide +kernel
theorem d_Model_law_11 : decode prog_12_method_31_code 11 = .ok (.getfield 144, 3) := by decide +kernel
theorem d_Model_law_14 : decode prog_12_method_31_code 14 = .ok (.istore_n 2, 1) := by decide +kernel
theorem d_Model_law_15 : decode prog_12_method_31_code 15 = .ok (.aload_n 0, 1) := by decide +kernel
theorem d_Model_law_16 : decode prog_12_method_31_code 16 = .ok (.iconst 0, 1) := by decide +kernel
theorem d_Model_law_17 : decode prog_12_method_31_code 17 = .ok (.putfield 144, 3) := by decide +kernel
theorem d_Model_law_20 : decode prog_12_method_31_code 20 = .ok (.aload_n 0, 1) := by decide +kernel
theorem d_Model_law_21 : decode prog_12_method_31_code 21 = .ok (.getfield 156, 3) := by decide +kernel
theorem d_Model_law_24 : decode prog_12_method_31_code 24 = .ok (.ifCond .lt 11, 3) := by decide +kernel
theorem d_Model_law_27 : decode prog_12_method_31_code 27 = .ok (.bipush (-100), 2) := by decide +kernel
theorem d_Model_law_29 : decode prog_12_method_31_code 29 = .ok (.aload_n 0, 1) := by decide +kernel
theorem d_Model_law_30 : decode prog_12_method_31_code 30 = .ok (.getfield 156, 3) := by decide +kernel
theorem d_Model_law_33 : decode prog_12_method_31_code 33 = .ok (.isub, 1) := by decide +kernel
theorem d_Model_law_34 : decode prog_12_method_31_code 34 = .ok (.ireturn, 1) := by decide +kernel
theorem d_Model_law_35 : decode prog_12_method_31_code 35 = .ok (.iconst 0, 1) := by decide +kernel
theorem d_Model_law_36 : decode prog_12_method_31_code 36 = .ok (.istore_n 3, 1) := by decide +kernel
theorem d_Model_law_37 : decode prog_12_method_31_code 37 = .ok (.iload_n 3, 1) := by decide +kernel
theorem d_Model_law_38 : decode prog_12_method_31_code 38 = .ok (.iload_n 2, 1) := by decide +kernel
theorem d_Model_law_39 : decode prog_12_method_31_code 39 = .ok (.if_icmp .ge 21, 3) := by decide +kernel
theorem d_Model_law_42 : decode prog_12_method_31_code 42 = .ok (.aload_n 0, 1) := by decide +kernel
theorem d_Model_law_43 : decode prog_12_method_31_code 43 = .ok (.getfield 27, 3) := by decide +kernel
theorem d_Model_law_46 : decode prog_12_method_31_code 46 = .ok (.iload_n 3, 1) := by decide +kernel
theorem d_Model_law_47 : decode prog_12_method_31_code 47 = .ok (.aload_n 0, 1) := by decide +kernel
theorem d_Model_law_48 : decode prog_12_method_31_code 48 = .ok (.getfield 24, 3) := by decide +kernel
theorem d_Model_law_51 : decode prog_12_method_31_code 51 = .ok (.iload_n 3, 1) := by decide +kernel
theorem d_Model_law_52 : decode prog_12_method_31_code 52 = .ok (.iaload, 1) := by decide +kernel
theorem d_Model_law_53 : decode prog_12_method_31_code 53 = .ok (.iastore, 1) := by decide +kernel
theorem d_Model_law_54 : decode prog_12_method_31_code 54 = .ok (.iinc 3 1, 3) := by decide +kernel
theorem d_Model_law_57 : decode prog_12_method_31_code 57 = .ok (.goto (-20), 3) := by decide +kernel
theorem d_Model_law_60 : decode prog_12_method_31_code 60 = .ok (.aload_n 0, 1) := by decide +kernel
theorem d_Model_law_61 : decode prog_12_method_31_code 61 = .ok (.iload_n 2, 1) := by decide +kernel
theorem d_Model_law_62 : decode prog_12_method_31_code 62 = .ok (.putfield 70, 3) := by decide +kernel
theorem d_Model_law_65 : decode prog_12_method_31_code 65 = .ok (.iconst 1, 1) := by decide +kernel
theorem d_Model_law_66 : decode prog_12_method_31_code 66 = .ok (.ireturn, 1) := by decide +kernel
theorem b_Model_law_0 {d : Nat} {h : am_H} {Q : am_Q} (k : m_Model_workOut d [.ref 0, .int (-1), .int (h.1 0 8)] h (fun r hh => am_W (X_Model_law (d + 1)) 9 [some (.ref 0), none, none, none] (r.toList ++ []) hh Q)) : am_W (X_Model_law (d + 1)) 0 [some (.ref 0), none, none, none] [] h Q :=
  am_aload_n d_Model_law_0 rfl (i := 0) rfl <|
    am_iconst (v := (-1)) d_Model_law_1 (by decide) <|
    am_aload_n d_Model_law_2 rfl (i := 0) rfl <|
    am_getI (ci := 10) (i := 8) rfl rfl rfl (Nat.le_of_ble_eq_true rfl) w_1326 d_Model_law_3 <|
    am_callV (vs := [.int (-1), .int (h.1 0 8)]) (st := []) (k := 0) (ci := 10) rfl d_Model_law_6 rfl rfl w_1503 w_1505 w_39 w_94 w_1506 p_Model_workOut (Nat.le_of_ble_eq_true rfl) (Nat.le_of_ble_eq_true rfl) rfl k
theorem b_Model_law_9 {d : Nat} {y0 : Int32} {h : am_H} {Q : am_Q} (kt : ((am_pI h 0 8 0).1 0 14) < 0 → am_W (X_Model_law d) 35 [some (.ref 0), some (.int y0), some (.int (h.1 0 8)), none] [] (am_pI h 0 8 0) Q) (kf : ¬ ((am_pI h 0 8 0).1 0 14) < 0 → am_W (X_Model_law d) 27 [some (.ref 0), some (.int y0), some (.int (h.1 0 8)), none] [] (am_pI h 0 8 0) Q) : am_W (X_Model_law d) 9 [some (.ref 0), none, none, none] [.int y0] h Q :=
  am_istore_n (ls' := [some (.ref 0), some (.int y0), none, none]) d_Model_law_9 rfl (Nat.le_of_ble_eq_true rfl) rfl <|
    am_aload_n d_Model_law_10 rfl (i := 0) rfl <|
    am_getI (ci := 10) (i := 8) rfl rfl rfl (Nat.le_of_ble_eq_true rfl) w_1326 d_Model_law_11 <|
    am_istore_n (ls' := [some (.ref 0), some (.int y0), some (.int (h.1 0 8)), none]) d_Model_law_14 rfl (Nat.le_of_ble_eq_true rfl) rfl <|
    am_aload_n d_Model_law_15 rfl (i := 0) rfl <|
    am_iconst (v := 0) d_Model_law_16 (by decide) <|
    am_putI (ci := 10) (i := 8) rfl rfl rfl (Nat.le_of_ble_eq_true rfl) w_1326 rfl rfl rfl d_Model_law_17 <|
    am_aload_n d_Model_law_20 rfl (i := 0) rfl <|
    am_getI (ci := 10) (i := 14) rfl rfl rfl (Nat.le_of_ble_eq_true rfl) w_1332 d_Model_law_21 <|
    am_if_lt (tgt := 35) d_Model_law_24 (by decide) kt kf
theorem b_Model_law_27 {d : Nat} {x1 : Int32} {x2 : Int32} {h : am_H} {Q : am_Q} (q : Q (some (.int ((-100) - (h.1 0 14)))) h) : am_W (X_Model_law d) 27 [some (.ref 0), some (.int x1), some (.int x2), none] [] h Q :=
  am_bipush (v := (-100)) d_Model_law_27 (by decide) <|
    am_aload_n d_Model_law_29 rfl (i := 0) rfl <|
    am_getI (ci := 10) (i := 14) rfl rfl rfl (Nat.le_of_ble_eq_true rfl) w_1332 d_Model_law_30 <|
    am_isub d_Model_law_33 <|
    am_iret rfl d_Model_law_34 q
theorem b_Model_law_35 {d : Nat} {x1 : Int32} {x2 : Int32} {h : am_H} {Q : am_Q} (k : am_W (X_Model_law d) 37 [some (.ref 0), some (.int x1), some (.int x2), some (.int 0)] [] h Q) : am_W (X_Model_law d) 35 [some (.ref 0), some (.int x1), some (.int x2), none] [] h Q :=
  am_iconst (v := 0) d_Model_law_35 (by decide) <|
    am_istore_n (ls' := [some (.ref 0), some (.int x1), some (.int x2), some (.int 0)]) d_Model_law_36 rfl (Nat.le_of_ble_eq_true rfl) rfl <|
    k
theorem b_Model_law_37 {d : Nat} {x1 : Int32} {x2 : Int32} {x3 : Int32} {h : am_H} {Q : am_Q} (kt : x2 ≤ x3 → am_W (X_Model_law d) 60 [some (.ref 0), some (.int x1), some (.int x2), some (.int x3)] [] h Q) (kf : ¬ x2 ≤ x3 → am_W (X_Model_law d) 42 [some (.ref 0), some (.int x1), some (.int x2), some (.int x3)] [] h Q) : am_W (X_Model_law d) 37 [some (.ref 0), some (.int x1), some (.int x2), some (.int x3)] [] h Q :=
  am_iload_n d_Model_law_37 rfl (i := 3) rfl <|
    am_iload_n d_Model_law_38 rfl (i := 2) rfl <|
    am_icmp_ge (tgt := 60) d_Model_law_39 (by decide) kt kf
theorem b_Model_law_42 {d : Nat} {x1 : Int32} {x2 : Int32} {x3 : Int32} {h : am_H} {Q : am_Q} (q0 : vp_in x3 120) (k : am_W (X_Model_law d) 37 [some (.ref 0), some (.int x1), some (.int x2), some (.int (x3 + 1))] [] (am_pI h 6 x3.toNatClampNeg (h.1 5 x3.toNatClampNeg)) Q) : am_W (X_Model_law d) 42 [some (.ref 0), some (.int x1), some (.int x2), some (.int x3)] [] h Q :=
  am_aload_n d_Model_law_42 rfl (i := 0) rfl <|
    am_getR (ci := 10) (i := 9) rfl rfl rfl (Nat.le_of_ble_eq_true rfl) w_1327 d_Model_law_43 <|
    am_iload_n d_Model_law_46 rfl (i := 3) rfl <|
    am_aload_n d_Model_law_47 rfl (i := 0) rfl <|
    am_getR (ci := 10) (i := 7) rfl rfl rfl (Nat.le_of_ble_eq_true rfl) w_1325 d_Model_law_48 <|
    am_iload_n d_Model_law_51 rfl (i := 3) rfl <|
    am_iald rfl q0 d_Model_law_52 <|
    am_iast rfl q0 d_Model_law_53 <|
    am_iinc (v := (x3 + 1)) (ls' := [some (.ref 0), some (.int x1), some (.int x2), some (.int (x3 + 1))]) d_Model_law_54 rfl rfl (Nat.le_of_ble_eq_true rfl) rfl <|
    am_goto (tgt := 37) d_Model_law_57 (by decide) k
theorem b_Model_law_60 {d : Nat} {x1 : Int32} {x2 : Int32} {x3 : Int32} {h : am_H} {Q : am_Q} (q : Q (some (.int 1)) (am_pI h 0 10 x2)) : am_W (X_Model_law d) 60 [some (.ref 0), some (.int x1), some (.int x2), some (.int x3)] [] h Q :=
  am_aload_n d_Model_law_60 rfl (i := 0) rfl <|
    am_iload_n d_Model_law_61 rfl (i := 2) rfl <|
    am_putI (ci := 10) (i := 10) rfl rfl rfl (Nat.le_of_ble_eq_true rfl) w_1328 rfl rfl rfl d_Model_law_62 <|
    am_iconst (v := 1) d_Model_law_65 (by decide) <|
    am_iret rfl d_Model_law_66 q
theorem t_Model_law_60 {d : Nat} {x1 : Int32} {x2 : Int32} {x3 : Int32} {h : am_H} {Q : am_Q} {res : Int32 × am_H} (e : f_Model_law_60 h x2 = some res) (q : Q (some (.int res.1)) res.2) : am_W (X_Model_law (d + 67)) 60 [some (.ref 0), some (.int x1), some (.int x2), some (.int x3)] [] h Q :=
  b_Model_law_60 (d := (d + 67)) (q := (am_rIpi (v := 1) e q))
theorem t_Model_law_42 {d : Nat} {k37 : am_H → Int32 → Int32 → Option (Int32 × am_H)} {x1 : Int32} {x2 : Int32} {x3 : Int32} {h : am_H} {Q : am_Q} {res : Int32 × am_H} (hk37 : ∀ (x1 : Int32) (x2 : Int32) (x3 : Int32) (h : am_H), k37 h x2 x3 = some res → am_W (X_Model_law (d + 67)) 37 [some (.ref 0), some (.int x1), some (.int x2), some (.int x3)] [] h Q) (e : f_Model_law_42 k37 h x2 x3 = some res) (q : Q (some (.int res.1)) res.2) : am_W (X_Model_law (d + 67)) 42 [some (.ref 0), some (.int x1), some (.int x2), some (.int x3)] [] h Q :=
  b_Model_law_42 (d := (d + 67)) (q0 := (am_okv (am_gd e))) (k := (hk37 _ _ _ _ (am_ga e)))
theorem t_Model_law_37 {d : Nat} {k37 : am_H → Int32 → Int32 → Option (Int32 × am_H)} {x1 : Int32} {x2 : Int32} {x3 : Int32} {h : am_H} {Q : am_Q} {res : Int32 × am_H} (hk37 : ∀ (x1 : Int32) (x2 : Int32) (x3 : Int32) (h : am_H), k37 h x2 x3 = some res → am_W (X_Model_law (d + 67)) 37 [some (.ref 0), some (.int x1), some (.int x2), some (.int x3)] [] h Q) (e : f_Model_law_37 k37 h x2 x3 = some res) (q : Q (some (.int res.1)) res.2) : am_W (X_Model_law (d + 67)) 37 [some (.ref 0), some (.int x1), some (.int x2), some (.int x3)] [] h Q :=
  b_Model_law_37 (d := (d + 67)) (kt := fun c => (t_Model_law_60 (am_ift e c) q)) (kf := fun c => (t_Model_law_42 hk37 (am_ife e c) q))
theorem t_Model_law_37_l {d : Nat} {Q : am_Q} {res : Int32 × am_H} (q : Q (some (.int res.1)) res.2) : ∀ (n : Nat) (x1 : Int32) (x2 : Int32) (x3 : Int32) (h : am_H), f_Model_law_37_l n h x2 x3 = some res → am_W (X_Model_law (d + 67)) 37 [some (.ref 0), some (.int x1), some (.int x2), some (.int x3)] [] h Q := by
  intro n
  induction n with
  | zero => intro x1 x2 x3 h e; exact am_nn e
  | succ n ih => intro x1 x2 x3 h e; exact t_Model_law_37 (fun x1 x2 x3 h e => ih x1 x2 x3 h  e) e q
theorem t_Model_law_35 {d : Nat} {x1 : Int32} {x2 : Int32} {h : am_H} {Q : am_Q} {res : Int32 × am_H} (e : f_Model_law_35 h x2 = some res) (q : Q (some (.int res.1)) res.2) : am_W (X_Model_law (d + 67)) 35 [some (.ref 0), some (.int x1), some (.int x2), none] [] h Q :=
  b_Model_law_35 (d := (d + 67)) (k := (t_Model_law_37_l q am_fu _ _ _ _ e))
theorem t_Model_law_27 {d : Nat} {x1 : Int32} {x2 : Int32} {h : am_H} {Q : am_Q} {res : Int32 × am_H} (e : f_Model_law_27 h = some res) (q : Q (some (.int res.1)) res.2) : am_W (X_Model_law (d + 67)) 27 [some (.ref 0), some (.int x1), some (.int x2), none] [] h Q :=
  b_Model_law_27 (d := (d + 67)) (q := (am_rIpi (v := ((-100) - (h.1 0 14))) e q))
theorem t_Model_law_9 {d : Nat} {y0 : Int32} {h : am_H} {Q : am_Q} {res : Int32 × am_H} (e : f_Model_law_9 h y0 = some res) (q : Q (some (.int res.1)) res.2) : am_W (X_Model_law (d + 67)) 9 [some (.ref 0), none, none, none] [.int y0] h Q :=
  b_Model_law_9 (d := (d + 67)) (kt := fun c => (t_Model_law_35 (am_ift e c) q)) (kf := fun c => (t_Model_law_27 (am_ife e c) q))
theorem t_Model_law_0 {d : Nat} {h : am_H} {Q : am_Q} {res : Int32 × am_H} (e : f_Model_law h = some res) (q : Q (some (.int res.1)) res.2) : am_W (X_Model_law (d + 67)) 0 [some (.ref 0), none, none, none] [] h Q :=
  (am_bd e).elim fun p hp => b_Model_law_0 (d := (d + 66)) (k := c_Model_workOut (d := d) hp.1 (t_Model_law_9 hp.2 q))
theorem c_Model_law {d : Nat} {h : am_H} {Q : am_Q} {res : Int32 × am_H} (e : f_Model_law h = some res) (q : Q (some (.int res.1)) res.2) : m_Model_law (d + 67) [.ref 0] h Q :=
  e_Model_law (t_Model_law_0 e q)
theorem d_Model_rankOf_0 : decode prog_12_method_32_code 0 = .ok (.aload_n 0, 1) := by decide +kernel
theorem d_Model_rankOf_1 : decode prog_12_method_32_code 1 = .ok (.getfield 11, 3) := by decide +kernel
theorem d_Model_rankOf_4 : decode prog_12_method_32_code 4 = .ok (.bipush 49, 2) := by decide +kernel
theorem d_Model_rankOf_6 : decode prog_12_method_32_code 6 = .ok (.iaload, 1) := by decide +kernel
theorem d_Model_rankOf_7 : decode prog_12_method_32_code 7 = .ok (.iload_n 2, 1) := by decide +kernel
theorem d_Model_rankOf_8 : decode prog_12_method_32_code 8 = .ok (.isub, 1) := by decide +kernel
theorem d_Model_rankOf_9 : decode prog_12_method_32_code 9 = .ok (.invokestatic 197, 3) := by decide +kernel
theorem d_Model_rankOf_12 : decode prog_12_method_32_code 12 = .ok (.iload_n 3, 1) := by decide +kernel
theorem d_Model_rankOf_13 : decode prog_12_method_32_code 13 = .ok (.iadd, 1) := by decide +kernel
theorem d_Model_rankOf_14 : decode prog_12_method_32_code 14 = .ok (.istore 4, 2) := by decide +kernel
theorem d_Model_rankOf_16 : decode prog_12_method_32_code 16 = .ok (.aload_n 0, 1) := by decide +kernel
theorem d_Model_rankOf_17 : decode prog_12_method_32_code 17 = .ok (.getfield 11, 3) := by decide +kernel
theorem d_Model_rankOf_20 : decode prog_12_method_32_code 20 = .ok (.bipush 31, 2) := by decide +kernel
theorem d_Model_rankOf_22 : decode prog_12_method_32_code 22 = .ok (.iload_n 1, 1) := by decide +kernel
theorem d_Model_rankOf_23 : decode prog_12_method_32_code 23 = .ok (.iadd, 1) := by decide +kernel
theorem d_Model_rankOf_24 : decode prog_12_method_32_code 24 = .ok (.iaload, 1) := by decide +kernel
theorem d_Model_rankOf_25 : decode prog_12_method_32_code 25 = .ok (.aload_n 0, 1) := by decide +kernel
theorem d_Model_rankOf_26 : decode prog_12_method_32_code 26 = .ok (.getfield 11, 3) := by decide +kernel
theorem d_Model_rankOf_29 : decode prog_12_method_32_code 29 = .ok (.bipush 43, 2) := by decide +kernel
theorem d_Model_rankOf_31 : decode prog_12_method_32_code 31 = .ok (.iload_n 1, 1) := by decide +kernel
theorem d_Model_rankOf_32 : decode prog_12_method_32_code 32 = .ok (.iadd, 1) := by decide +kernel
theorem d_Model_rankOf_33 : decode prog_12_method_32_code 33 = .ok (.iaload, 1) := by decide +kernel
theorem d_Model_rankOf_34 : decode prog_12_method_32_code 34 = .ok (.iadd, 1) := by decide +kernel
theorem d_Model_rankOf_35 : decode prog_12_method_32_code 35 = .ok (.istore 5, 2) := by decide +kernel
theorem d_Model_rankOf_37 : decode prog_12_method_32_code 37 = .ok (.aload_n 0, 1) := by decide +kernel
theorem d_Model_rankOf_38 : decode prog_12_method_32_code 38 = .ok (.getfield 70, 3) := by decide +kernel
theorem d_Model_rankOf_41 : decode prog_12_method_32_code 41 = .ok (.ifCond .ge 21, 3) := by decide +kernel
theorem d_Model_rankOf_44 : decode prog_12_method_32_code 44 = .ok (.iload 4, 2) := by decide +kernel
theorem d_Model_rankOf_46 : decode prog_12_method_32_code 46 = .ok (.iload 5, 2) := by decide +kernel
theorem d_Model_rankOf_48 : decode prog_12_method_32_code 48 = .ok (.isub, 1) := by decide +kernel
theorem d_Model_rankOf_49 : decode prog_12_method_32_code 49 = .ok (.aload_n 0, 1) := by decide +kernel
theorem d_Model_rankOf_50 : decode prog_12_method_32_code 50 = .ok (.getfield 11, 3) := by decide +kernel
theorem d_Model_rankOf_53 : decode prog_12_method_32_code 53 = .ok (.bipush 50, 2) := by decide +kernel
theorem d_Model_rankOf_55 : decode prog_12_method_32_code 55 = .ok (.iaload, 1) := by decide +kernel
theorem d_Model_rankOf_56 : decode prog_12_method_32_code 56 = .ok (.isub, 1) := by decide +kernel
theorem d_Model_rankOf_57 : decode prog_12_method_32_code 57 = .ok (.invokestatic 197, 3) := by decide +kernel
theorem d_Model_rankOf_60 : decode prog_12_method_32_code 60 = .ok (.ineg, 1) := by decide +kernel
theorem d_Model_rankOf_61 : decode prog_12_method_32_code 61 = .ok (.ireturn, 1) := by decide +kernel
theorem d_Model_rankOf_62 : decode prog_12_method_32_code 62 = .ok (.aload_n 0, 1) := by decide +kernel
theorem d_Model_rankOf_63 : decode prog_12_method_32_code 63 = .ok (.getfield 30, 3) := by decide +kernel
theorem d_Model_rankOf_66 : decode prog_12_method_32_code 66 = .ok (.iconst 0, 1) := by decide +kernel
theorem d_Model_rankOf_67 : decode prog_12_method_32_code 67 = .ok (.iload 4, 2) := by decide +kernel
theorem d_Model_rankOf_69 : decode prog_12_method_32_code 69 = .ok (.iastore, 1) := by decide +kernel
theorem d_Model_rankOf_70 : decode prog_12_method_32_code 70 = .ok (.aload_n 0, 1) := by decide +kernel
theorem d_Model_rankOf_71 : decode prog_12_method_32_code 71 = .ok (.getfield 30, 3) := by decide +kernel
theorem d_Model_rankOf_74 : decode prog_12_method_32_code 74 = .ok (.iconst 1, 1) := by decide +kernel
theorem d_Model_rankOf_75 : decode prog_12_method_32_code 75 = .ok (.aload_n 0, 1) := by decide +kernel
theorem d_Model_rankOf_76 : decode prog_12_method_32_code 76 = .ok (.getfield 11, 3) := by decide +kernel
theorem d_Model_rankOf_79 : decode prog_12_method_32_code 79 = .ok (.iload_n 2, 1) := by decide +kernel
theorem d_Model_rankOf_80 : decode prog_12_method_32_code 80 = .ok (.iaload, 1) := by decide +kernel
theorem d_Model_rankOf_81 : decode prog_12_method_32_code 81 = .ok (.iastore, 1) := by decide +kernel
theorem d_Model_rankOf_82 : decode prog_12_method_32_code 82 = .ok (.aload_n 0, 1) := by decide +kernel
theorem d_Model_rankOf_83 : decode prog_12_method_32_code 83 = .ok (.getfield 30, 3) := by decide +kernel
theorem d_Model_rankOf_86 : decode prog_12_method_32_code 86 = .ok (.iconst 2, 1) := by decide +kernel
theorem d_Model_rankOf_87 : decode prog_12_method_32_code 87 = .ok (.iload 5, 2) := by decide +kernel
theorem d_Model_rankOf_89 : decode prog_12_method_32_code 89 = .ok (.iastore, 1) := by decide +kernel
theorem d_Model_rankOf_90 : decode prog_12_method_32_code 90 = .ok (.aload_n 0, 1) := by decide +kernel
theorem d_Model_rankOf_91 : decode prog_12_method_32_code 91 = .ok (.getfield 30, 3) := by decide +kernel
theorem d_Model_rankOf_94 : decode prog_12_method_32_code 94 = .ok (.iconst 3, 1) := by decide +kernel
theorem d_Model_rankOf_95 : decode prog_12_method_32_code 95 = .ok (.aload_n 0, 1) := by decide +kernel
theorem d_Model_rankOf_96 : decode prog_12_method_32_code 96 = .ok (.getfield 11, 3) := by decide +kernel
theorem d_Model_rankOf_99 : decode prog_12_method_32_code 99 = .ok (.bipush 37, 2) := by decide +kernel
theorem d_Model_rankOf_101 : decode prog_12_method_32_code 101 = .ok (.iload_n 1, 1) := by decide +kernel
theorem d_Model_rankOf_102 : decode prog_12_method_32_code 102 = .ok (.iadd, 1) := by decide +kernel
theorem d_Model_rankOf_103 : decode prog_12_method_32_code 103 = .ok (.iaload, 1) := by decide +kernel
theorem d_Model_rankOf_104 : decode prog_12_method_32_code 104 = .ok (.iastore, 1) := by decide +kernel
theorem d_Model_rankOf_105 : decode prog_12_method_32_code 105 = .ok (.aload_n 0, 1) := by decide +kernel
theorem d_Model_rankOf_106 : decode prog_12_method_32_code 106 = .ok (.getfield 30, 3) := by decide +kernel
theorem d_Model_rankOf_109 : decode prog_12_method_32_code 109 = .ok (.iconst 4, 1) := by decide +kernel
theorem d_Model_rankOf_110 : decode prog_12_method_32_code 110 = .ok (.aload_n 0, 1) := by decide +kernel
theorem d_Model_rankOf_111 : decode prog_12_method_32_code 111 = .ok (.getfield 11, 3) := by decide +kernel
theorem d_Model_rankOf_114 : decode prog_12_method_32_code 114 = .ok (.bipush 50, 2) := by decide +kernel
theorem d_Model_rankOf_116 : decode prog_12_method_32_code 116 = .ok (.iaload, 1) := by decide +kernel
theorem d_Model_rankOf_117 : decode prog_12_method_32_code 117 = .ok (.iastore, 1) := by decide +kernel
theorem d_Model_rankOf_118 : decode prog_12_method_32_code 118 = .ok (.aload_n 0, 1) := by decide +kernel
theorem d_Model_rankOf_119 : decode prog_12_method_32_code 119 = .ok (.getfield 30, 3) := by decide +kernel
theorem d_Model_rankOf_122 : decode prog_12_method_32_code 122 = .ok (.iconst 5, 1) := by decide +kernel
theorem d_Model_rankOf_123 : decode prog_12_method_32_code 123 = .ok (.iload_n 1, 1) := by decide +kernel
theorem d_Model_rankOf_124 : decode prog_12_method_32_code 124 = .ok (.iastore, 1) := by decide +kernel
theorem d_Model_rankOf_125 : decode prog_12_method_32_code 125 = .ok (.aload_n 0, 1) := by decide +kernel
theorem d_Model_rankOf_126 : decode prog_12_method_32_code 126 = .ok (.iconst 0, 1) := by decide +kernel
theorem d_Model_rankOf_127 : decode prog_12_method_32_code 127 = .ok (.aload_n 0, 1) := by decide +kernel
theorem d_Model_rankOf_128 : decode prog_12_method_32_code 128 = .ok (.getfield 70, 3) := by decide +kernel
theorem d_Model_rankOf_131 : decode prog_12_method_32_code 131 = .ok (.invokevirtual 194, 3) := by decide +kernel
theorem d_Model_rankOf_134 : decode prog_12_method_32_code 134 = .ok (.ireturn, 1) := by decide +kernel
theorem b_Model_rankOf_0 {d : Nat} {x1 : Int32} {x2 : Int32} {x3 : Int32} {h : am_H} {Q : am_Q} (k : m_Model_sizeOf d [.int ((h.1 1 (49 : Int32).toNatClampNeg) - x2)] h (fun r hh => am_W (X_Model_rankOf (d + 1)) 12 [some (.ref 0), some (.int x1), some (.int x2), some (.int x3), none, none] (r.toList ++ []) hh Q)) : am_W (X_Model_rankOf (d + 1)) 0 [some (.ref 0), some (.int x1), some (.int x2), some (.int x3), none, none] [] h Q :=
  am_aload_n d_Model_rankOf_0 rfl (i := 0) rfl <|
    am_getR (ci := 10) (i := 0) rfl rfl rfl (Nat.le_of_ble_eq_true rfl) w_1318 d_Model_rankOf_1 <|
    am_bipush (v := 49) d_Model_rankOf_4 (by decide) <|
    am_iald rfl (am_vin (by decide)) d_Model_rankOf_6 <|
    am_iload_n d_Model_rankOf_7 rfl (i := 2) rfl <|
    am_isub d_Model_rankOf_8 <|
    am_callS (vs := [.int ((h.1 1 (49 : Int32).toNatClampNeg) - x2)]) (st := []) rfl d_Model_rankOf_9 w_1562 w_1563 w_94 w_1564 p_Model_sizeOf (Nat.le_of_ble_eq_true rfl) (Nat.le_of_ble_eq_true rfl) rfl k
theorem b_Model_rankOf_12 {d : Nat} {x1 : Int32} {x2 : Int32} {x3 : Int32} {y0 : Int32} {h : am_H} {Q : am_Q} (q0 : vp_in (31 + x1) 54) (q1 : vp_in (43 + x1) 54) (kt : 0 ≤ (h.1 0 10) → am_W (X_Model_rankOf d) 62 [some (.ref 0), some (.int x1), some (.int x2), some (.int x3), some (.int (y0 + x3)), some (.int ((h.1 1 (31 + x1).toNatClampNeg) + (h.1 1 (43 + x1).toNatClampNeg)))] [] h Q) (kf : ¬ 0 ≤ (h.1 0 10) → am_W (X_Model_rankOf d) 44 [some (.ref 0), some (.int x1), some (.int x2), some (.int x3), some (.int (y0 + x3)), some (.int ((h.1 1 (31 + x1).toNatClampNeg) + (h.1 1 (43 + x1).toNatClampNeg)))] [] h Q) : am_W (X_Model_rankOf d) 12 [some (.ref 0), some (.int x1), some (.int x2), some (.int x3), none, none] [.int y0] h Q :=
  am_iload_n d_Model_rankOf_12 rfl (i := 3) rfl <|
    am_iadd d_Model_rankOf_13 <|
    am_istore (ls' := [some (.ref 0), some (.int x1), some (.int x2), some (.int x3), some (.int (y0 + x3)), none]) d_Model_rankOf_14 (Nat.le_of_ble_eq_true rfl) rfl <|
    am_aload_n d_Model_rankOf_16 rfl (i := 0) rfl <|
    am_getR (ci := 10) (i := 0) rfl rfl rfl (Nat.le_of_ble_eq_true rfl) w_1318 d_Model_rankOf_17 <|
    am_bipush (v := 31) d_Model_rankOf_20 (by decide) <|
    am_iload_n d_Model_rankOf_22 rfl (i := 1) rfl <|
    am_iadd d_Model_rankOf_23 <|
    am_iald rfl q0 d_Model_rankOf_24 <|
    am_aload_n d_Model_rankOf_25 rfl (i := 0) rfl <|
    am_getR (ci := 10) (i := 0) rfl rfl rfl (Nat.le_of_ble_eq_true rfl) w_1318 d_Model_rankOf_26 <|
    am_bipush (v := 43) d_Model_rankOf_29 (by decide) <|
    am_iload_n d_Model_rankOf_31 rfl (i := 1) rfl <|
    am_iadd d_Model_rankOf_32 <|
    am_iald rfl q1 d_Model_rankOf_33 <|
    am_iadd d_Model_rankOf_34 <|
    am_istore (ls' := [some (.ref 0), some (.int x1), some (.int x2), some (.int x3), some (.int (y0 + x3)), some (.int ((h.1 1 (31 + x1).toNatClampNeg) + (h.1 1 (43 + x1).toNatClampNeg)))]) d_Model_rankOf_35 (Nat.le_of_ble_eq_true rfl) rfl <|
    am_aload_n d_Model_rankOf_37 rfl (i := 0) rfl <|
    am_getI (ci := 10) (i := 10) rfl rfl rfl (Nat.le_of_ble_eq_true rfl) w_1328 d_Model_rankOf_38 <|
    am_if_ge (tgt := 62) d_Model_rankOf_41 (by decide) kt kf
theorem b_Model_rankOf_44 {d : Nat} {x1 : Int32} {x2 : Int32} {x3 : Int32} {x4 : Int32} {x5 : Int32} {h : am_H} {Q : am_Q} (k : m_Model_sizeOf d [.int ((x4 - x5) - (h.1 1 (50 : Int32).toNatClampNeg))] h (fun r hh => am_W (X_Model_rankOf (d + 1)) 60 [some (.ref 0), some (.int x1), some (.int x2), some (.int x3), some (.int x4), some (.int x5)] (r.toList ++ []) hh Q)) : am_W (X_Model_rankOf (d + 1)) 44 [some (.ref 0), some (.int x1), some (.int x2), some (.int x3), some (.int x4), some (.int x5)] [] h Q :=
  am_iload d_Model_rankOf_44 rfl <|
    am_iload d_Model_rankOf_46 rfl <|
    am_isub d_Model_rankOf_48 <|
    am_aload_n d_Model_rankOf_49 rfl (i := 0) rfl <|
    am_getR (ci := 10) (i := 0) rfl rfl rfl (Nat.le_of_ble_eq_true rfl) w_1318 d_Model_rankOf_50 <|
    am_bipush (v := 50) d_Model_rankOf_53 (by decide) <|
    am_iald rfl (am_vin (by decide)) d_Model_rankOf_55 <|
    am_isub d_Model_rankOf_56 <|
    am_callS (vs := [.int ((x4 - x5) - (h.1 1 (50 : Int32).toNatClampNeg))]) (st := []) rfl d_Model_rankOf_57 w_1562 w_1563 w_94 w_1564 p_Model_sizeOf (Nat.le_of_ble_eq_true rfl) (Nat.le_of_ble_eq_true rfl) rfl k
theorem b_Model_rankOf_60 {d : Nat} {x1 : Int32} {x2 : Int32} {x3 : Int32} {x4 : Int32} {x5 : Int32} {y0 : Int32} {h : am_H} {Q : am_Q} (q : Q (some (.int (-y0))) h) : am_W (X_Model_rankOf d) 60 [some (.ref 0), some (.int x1), some (.int x2), some (.int x3), some (.int x4), some (.int x5)] [.int y0] h Q :=
  am_ineg d_Model_rankOf_60 <|
    am_iret rfl d_Model_rankOf_61 q
theorem b_Model_rankOf_62 {d : Nat} {x1 : Int32} {x2 : Int32} {x3 : Int32} {x4 : Int32} {x5 : Int32} {h : am_H} {Q : am_Q} (q0 : vp_in x2 54) (q1 : vp_in (37 + x1) 54) (k : m_Model_workOut d [.ref 0, .int 0, .int ((am_pI (am_pI (am_pI (am_pI (am_pI (am_pI h 7 (0 : Int32).toNatClampNeg x4) 7 (1 : Int32).toNatClampNeg ((am_pI h 7 (0 : Int32).toNatClampNeg x4).1 1 x2.toNatClampNeg)) 7 (2 : Int32).toNatClampNeg x5) 7 (3 : Int32).toNatClampNeg ((am_pI (am_pI (am_pI h 7 (0 : Int32).toNatClampNeg x4) 7 (1 : Int32).toNatClampNeg ((am_pI h 7 (0 : Int32).toNatClampNeg x4).1 1 x2.toNatClampNeg)) 7 (2 : Int32).toNatClampNeg x5).1 1 (37 + x1).toNatClampNeg)) 7 (4 : Int32).toNatClampNeg ((am_pI (am_pI (am_pI (am_pI h 7 (0 : Int32).toNatClampNeg x4) 7 (1 : Int32).toNatClampNeg ((am_pI h 7 (0 : Int32).toNatClampNeg x4).1 1 x2.toNatClampNeg)) 7 (2 : Int32).toNatClampNeg x5) 7 (3 : Int32).toNatClampNeg ((am_pI (am_pI (am_pI h 7 (0 : Int32).toNatClampNeg x4) 7 (1 : Int32).toNatClampNeg ((am_pI h 7 (0 : Int32).toNatClampNeg x4).1 1 x2.toNatClampNeg)) 7 (2 : Int32).toNatClampNeg x5).1 1 (37 + x1).toNatClampNeg)).1 1 (50 : Int32).toNatClampNeg)) 7 (5 : Int32).toNatClampNeg x1).1 0 10)] (am_pI (am_pI (am_pI (am_pI (am_pI (am_pI h 7 (0 : Int32).toNatClampNeg x4) 7 (1 : Int32).toNatClampNeg ((am_pI h 7 (0 : Int32).toNatClampNeg x4).1 1 x2.toNatClampNeg)) 7 (2 : Int32).toNatClampNeg x5) 7 (3 : Int32).toNatClampNeg ((am_pI (am_pI (am_pI h 7 (0 : Int32).toNatClampNeg x4) 7 (1 : Int32).toNatClampNeg ((am_pI h 7 (0 : Int32).toNatClampNeg x4).1 1 x2.toNatClampNeg)) 7 (2 : Int32).toNatClampNeg x5).1 1 (37 + x1).toNatClampNeg)) 7 (4 : Int32).toNatClampNeg ((am_pI (am_pI (am_pI (am_pI h 7 (0 : Int32).toNatClampNeg x4) 7 (1 : Int32).toNatClampNeg ((am_pI h 7 (0 : Int32).toNatClampNeg x4).1 1 x2.toNatClampNeg)) 7 (2 : Int32).toNatClampNeg x5) 7 (3 : Int32).toNatClampNeg ((am_pI (am_pI (am_pI h 7 (0 : Int32).toNatClampNeg x4) 7 (1 : Int32).toNatClampNeg ((am_pI h 7 (0 : Int32).toNatClampNeg x4).1 1 x2.toNatClampNeg)) 7 (2 : Int32).toNatClampNeg x5).1 1 (37 + x1).toNatClampNeg)).1 1 (50 : Int32).toNatClampNeg)) 7 (5 : Int32).toNatClampNeg x1) (fun r hh => am_W (X_Model_rankOf (d + 1)) 134 [some (.ref 0), some (.int x1), some (.int x2), some (.int x3), some (.int x4), some (.int x5)] (r.toList ++ []) hh Q)) : am_W (X_Model_rankOf (d + 1)) 62 [some (.ref 0), some (.int x1), some (.int x2), some (.int x3), some (.int x4), some (.int x5)] [] h Q :=
  am_aload_n d_Model_rankOf_62 rfl (i := 0) rfl <|
    am_getR (ci := 10) (i := 16) rfl rfl rfl (Nat.le_of_ble_eq_true rfl) w_1334 d_Model_rankOf_63 <|
    am_iconst (v := 0) d_Model_rankOf_66 (by decide) <|
    am_iload d_Model_rankOf_67 rfl <|
    am_iast rfl (am_vin (by decide)) d_Model_rankOf_69 <|
    am_aload_n d_Model_rankOf_70 rfl (i := 0) rfl <|
    am_getR (ci := 10) (i := 16) rfl rfl rfl (Nat.le_of_ble_eq_true rfl) w_1334 d_Model_rankOf_71 <|
    am_iconst (v := 1) d_Model_rankOf_74 (by decide) <|
    am_aload_n d_Model_rankOf_75 rfl (i := 0) rfl <|
    am_getR (ci := 10) (i := 0) rfl rfl rfl (Nat.le_of_ble_eq_true rfl) w_1318 d_Model_rankOf_76 <|
    am_iload_n d_Model_rankOf_79 rfl (i := 2) rfl <|
    am_iald rfl q0 d_Model_rankOf_80 <|
    am_iast rfl (am_vin (by decide)) d_Model_rankOf_81 <|
    am_aload_n d_Model_rankOf_82 rfl (i := 0) rfl <|
    am_getR (ci := 10) (i := 16) rfl rfl rfl (Nat.le_of_ble_eq_true rfl) w_1334 d_Model_rankOf_83 <|
    am_iconst (v := 2) d_Model_rankOf_86 (by decide) <|
    am_iload d_Model_rankOf_87 rfl <|
    am_iast rfl (am_vin (by decide)) d_Model_rankOf_89 <|
    am_aload_n d_Model_rankOf_90 rfl (i := 0) rfl <|
    am_getR (ci := 10) (i := 16) rfl rfl rfl (Nat.le_of_ble_eq_true rfl) w_1334 d_Model_rankOf_91 <|
    am_iconst (v := 3) d_Model_rankOf_94 (by decide) <|
    am_aload_n d_Model_rankOf_95 rfl (i := 0) rfl <|
    am_getR (ci := 10) (i := 0) rfl rfl rfl (Nat.le_of_ble_eq_true rfl) w_1318 d_Model_rankOf_96 <|
    am_bipush (v := 37) d_Model_rankOf_99 (by decide) <|
    am_iload_n d_Model_rankOf_101 rfl (i := 1) rfl <|
    am_iadd d_Model_rankOf_102 <|
    am_iald rfl q1 d_Model_rankOf_103 <|
    am_iast rfl (am_vin (by decide)) d_Model_rankOf_104 <|
    am_aload_n d_Model_rankOf_105 rfl (i := 0) rfl <|
    am_getR (ci := 10) (i := 16) rfl rfl rfl (Nat.le_of_ble_eq_true rfl) w_1334 d_Model_rankOf_106 <|
    am_iconst (v := 4) d_Model_rankOf_109 (by decide) <|
    am_aload_n d_Model_rankOf_110 rfl (i := 0) rfl <|
    am_getR (ci := 10) (i := 0) rfl rfl rfl (Nat.le_of_ble_eq_true rfl) w_1318 d_Model_rankOf_111 <|
    am_bipush (v := 50) d_Model_rankOf_114 (by decide) <|
    am_iald rfl (am_vin (by decide)) d_Model_rankOf_116 <|
    am_iast rfl (am_vin (by decide)) d_Model_rankOf_117 <|
    am_aload_n d_Model_rankOf_118 rfl (i := 0) rfl <|
    am_getR (ci := 10) (i := 16) rfl rfl rfl (Nat.le_of_ble_eq_true rfl) w_1334 d_Model_rankOf_119 <|
    am_iconst (v := 5) d_Model_rankOf_122 (by decide) <|
    am_iload_n d_Model_rankOf_123 rfl (i := 1) rfl <|
    am_iast rfl (am_vin (by decide)) d_Model_rankOf_124 <|
    am_aload_n d_Model_rankOf_125 rfl (i := 0) rfl <|
    am_iconst (v := 0) d_Model_rankOf_126 (by decide) <|
    am_aload_n d_Model_rankOf_127 rfl (i := 0) rfl <|
    am_getI (ci := 10) (i := 10) rfl rfl rfl (Nat.le_of_ble_eq_true rfl) w_1328 d_Model_rankOf_128 <|
    am_callV (vs := [.int 0, .int ((am_pI (am_pI (am_pI (am_pI (am_pI (am_pI h 7 (0 : Int32).toNatClampNeg x4) 7 (1 : Int32).toNatClampNeg ((am_pI h 7 (0 : Int32).toNatClampNeg x4).1 1 x2.toNatClampNeg)) 7 (2 : Int32).toNatClampNeg x5) 7 (3 : Int32).toNatClampNeg ((am_pI (am_pI (am_pI h 7 (0 : Int32).toNatClampNeg x4) 7 (1 : Int32).toNatClampNeg ((am_pI h 7 (0 : Int32).toNatClampNeg x4).1 1 x2.toNatClampNeg)) 7 (2 : Int32).toNatClampNeg x5).1 1 (37 + x1).toNatClampNeg)) 7 (4 : Int32).toNatClampNeg ((am_pI (am_pI (am_pI (am_pI h 7 (0 : Int32).toNatClampNeg x4) 7 (1 : Int32).toNatClampNeg ((am_pI h 7 (0 : Int32).toNatClampNeg x4).1 1 x2.toNatClampNeg)) 7 (2 : Int32).toNatClampNeg x5) 7 (3 : Int32).toNatClampNeg ((am_pI (am_pI (am_pI h 7 (0 : Int32).toNatClampNeg x4) 7 (1 : Int32).toNatClampNeg ((am_pI h 7 (0 : Int32).toNatClampNeg x4).1 1 x2.toNatClampNeg)) 7 (2 : Int32).toNatClampNeg x5).1 1 (37 + x1).toNatClampNeg)).1 1 (50 : Int32).toNatClampNeg)) 7 (5 : Int32).toNatClampNeg x1).1 0 10)]) (st := []) (k := 0) (ci := 10) rfl d_Model_rankOf_131 rfl rfl w_1503 w_1505 w_39 w_94 w_1506 p_Model_workOut (Nat.le_of_ble_eq_true rfl) (Nat.le_of_ble_eq_true rfl) rfl k
theorem b_Model_rankOf_134 {d : Nat} {x1 : Int32} {x2 : Int32} {x3 : Int32} {x4 : Int32} {x5 : Int32} {y0 : Int32} {h : am_H} {Q : am_Q} (q : Q (some (.int y0)) h) : am_W (X_Model_rankOf d) 134 [some (.ref 0), some (.int x1), some (.int x2), some (.int x3), some (.int x4), some (.int x5)] [.int y0] h Q :=
  am_iret rfl d_Model_rankOf_134 q
theorem t_Model_rankOf_134 {d : Nat} {x1 : Int32} {x2 : Int32} {x3 : Int32} {x4 : Int32} {x5 : Int32} {y0 : Int32} {h : am_H} {Q : am_Q} {res : Int32 × am_H} (e : f_Model_rankOf_134 h y0 = some res) (q : Q (some (.int res.1)) res.2) : am_W (X_Model_rankOf (d + 67)) 134 [some (.ref 0), some (.int x1), some (.int x2), some (.int x3), some (.int x4), some (.int x5)] [.int y0] h Q :=
  b_Model_rankOf_134 (d := (d + 67)) (q := (am_rIpi (v := y0) e q))
theorem t_Model_rankOf_62 {d : Nat} {x1 : Int32} {x2 : Int32} {x3 : Int32} {x4 : Int32} {x5 : Int32} {h : am_H} {Q : am_Q} {res : Int32 × am_H} (e : f_Model_rankOf_62 h x1 x2 x4 x5 = some res) (q : Q (some (.int res.1)) res.2) : am_W (X_Model_rankOf (d + 67)) 62 [some (.ref 0), some (.int x1), some (.int x2), some (.int x3), some (.int x4), some (.int x5)] [] h Q :=
  (am_bd (am_ga (am_ga e))).elim fun p hp => b_Model_rankOf_62 (d := (d + 66)) (q0 := (am_okv (am_gd e))) (q1 := (am_okv (am_gd (am_ga e)))) (k := c_Model_workOut (d := d) hp.1 (t_Model_rankOf_134 hp.2 q))
theorem t_Model_rankOf_60 {d : Nat} {x1 : Int32} {x2 : Int32} {x3 : Int32} {x4 : Int32} {x5 : Int32} {y0 : Int32} {h : am_H} {Q : am_Q} {res : Int32 × am_H} (e : f_Model_rankOf_60 h y0 = some res) (q : Q (some (.int res.1)) res.2) : am_W (X_Model_rankOf (d + 67)) 60 [some (.ref 0), some (.int x1), some (.int x2), some (.int x3), some (.int x4), some (.int x5)] [.int y0] h Q :=
  b_Model_rankOf_60 (d := (d + 67)) (q := (am_rIpi (v := (-y0)) e q))
theorem t_Model_rankOf_44 {d : Nat} {x1 : Int32} {x2 : Int32} {x3 : Int32} {x4 : Int32} {x5 : Int32} {h : am_H} {Q : am_Q} {res : Int32 × am_H} (e : f_Model_rankOf_44 h x4 x5 = some res) (q : Q (some (.int res.1)) res.2) : am_W (X_Model_rankOf (d + 67)) 44 [some (.ref 0), some (.int x1), some (.int x2), some (.int x3), some (.int x4), some (.int x5)] [] h Q :=
  b_Model_rankOf_44 (d := (d + 66)) (k := c_Model_sizeOf (d := d + 66) rfl (t_Model_rankOf_60 e q))
theorem t_Model_rankOf_12 {d : Nat} {x1 : Int32} {x2 : Int32} {x3 : Int32} {y0 : Int32} {h : am_H} {Q : am_Q} {res : Int32 × am_H} (e : f_Model_rankOf_12 h x1 x2 x3 y0 = some res) (q : Q (some (.int res.1)) res.2) : am_W (X_Model_rankOf (d + 67)) 12 [some (.ref 0), some (.int x1), some (.int x2), some (.int x3), none, none] [.int y0] h Q :=
  b_Model_rankOf_12 (d := (d + 67)) (q0 := (am_okv (am_gd e))) (q1 := (am_okv (am_gd (am_ga e)))) (kt := fun c => (t_Model_rankOf_62 (am_ift (am_ga (am_ga e)) c) q)) (kf := fun c => (t_Model_rankOf_44 (am_ife (am_ga (am_ga e)) c) q))
theorem t_Model_rankOf_0 {d : Nat} {x1 : Int32} {x2 : Int32} {x3 : Int32} {h : am_H} {Q : am_Q} {res : Int32 × am_H} (e : f_Model_rankOf h x1 x2 x3 = some res) (q : Q (some (.int res.1)) res.2) : am_W (X_Model_rankOf (d + 67)) 0 [some (.ref 0), some (.int x1), some (.int x2), some (.int x3), none, none] [] h Q :=
  b_Model_rankOf_0 (d := (d + 66)) (k := c_Model_sizeOf (d := d + 66) rfl (t_Model_rankOf_12 e q))
theorem c_Model_rankOf {d : Nat} {x1 : Int32} {x2 : Int32} {x3 : Int32} {h : am_H} {Q : am_Q} {res : Int32 × am_H} (e : f_Model_rankOf h x1 x2 x3 = some res) (q : Q (some (.int res.1)) res.2) : m_Model_rankOf (d + 67) [.ref 0, .int x1, .int x2, .int x3] h Q :=
  e_Model_rankOf (t_Model_rankOf_0 e q)
theorem d_Model_takenFrom_0 : decode prog_12_method_33_code 0 = .ok (.iconst (-1), 1) := by decide +kernel
theorem d_Model_takenFrom_1 : decode prog_12_method_33_code 1 = .ok (.istore_n 3, 1) := by decide +kernel
theorem d_Model_takenFrom_2 : decode prog_12_method_33_code 2 = .ok (.iconst 0, 1) := by decide +kernel
theorem d_Model_takenFrom_3 : decode prog_12_method_33_code 3 = .ok (.istore 4, 2) := by decide +kernel
theorem d_Model_takenFrom_5 : decode prog_12_method_33_code 5 = .ok (.iconst 0, 1) := by decide +kernel
theorem d_Model_takenFrom_6 : decode prog_12_method_33_code 6 = .ok (.istore 5, 2) := by decide +kernel
theorem d_Model_takenFrom_8 : decode prog_12_method_33_code 8 = .ok (.iload 5, 2) := by decide +kernel
theorem d_Model_takenFrom_10 : decode prog_12_method_33_code 10 = .ok (.aload_n 0, 1) := by decide +kernel
theorem d_Model_takenFrom_11 : decode prog_12_method_33_code 11 = .ok (.getfield 80, 3) := by decide +kernel
theorem d_Model_takenFrom_14 : decode prog_12_method_33_code 14 = .ok (.if_icmp .ge 37, 3) := by decide +kernel
theorem d_Model_takenFrom_17 : decode prog_12_method_33_code 17 = .ok (.aload_n 0, 1) := by decide +kernel
theorem d_Model_takenFrom_18 : decode prog_12_method_33_code 18 = .ok (.iload 5, 2) := by decide +kernel
theorem d_Model_takenFrom_20 : decode prog_12_method_33_code 20 = .ok (.iload_n 1, 1) := by decide +kernel
theorem d_Model_takenFrom_21 : decode prog_12_method_33_code 21 = .ok (.iload_n 2, 1) := by decide +kernel
theorem d_Model_takenFrom_22 : decode prog_12_method_33_code 22 = .ok (.invokevirtual 200, 3) := by decide +kernel
theorem d_Model_takenFrom_25 : decode prog_12_method_33_code 25 = .ok (.istore 6, 2) := by decide +kernel
theorem d_Model_takenFrom_27 : decode prog_12_method_33_code 27 = .ok (.iload_n 3, 1) := by decide +kernel
theorem d_Model_takenFrom_28 : decode prog_12_method_33_code 28 = .ok (.ifCond .lt 10, 3) := by decide +kernel
theorem d_Model_takenFrom_31 : decode prog_12_method_33_code 31 = .ok (.iload 6, 2) := by decide +kernel
theorem d_Model_takenFrom_33 : decode prog_12_method_33_code 33 = .ok (.iload 4, 2) := by decide +kernel
theorem d_Model_takenFrom_35 : decode prog_12_method_33_code 35 = .ok (.if_icmp .le 10, 3) := by decide +kernel
theorem d_Model_takenFrom_38 : decode prog_12_method_33_code 38 = .ok (.iload 5, 2) := by decide +kernel
theorem d_Model_takenFrom_40 : decode prog_12_method_33_code 40 = .ok (.istore_n 3, 1) := by decide +kernel
theorem d_Model_takenFrom_41 : decode prog_12_method_33_code 41 = .ok (.iload 6, 2) := by decide +kernel
theorem d_Model_takenFrom_43 : decode prog_12_method_33_code 43 = .ok (.istore 4, 2) := by decide +kernel
theorem d_Model_takenFrom_45 : decode prog_12_method_33_code 45 = .ok (.iinc 5 1, 3) := by decide +kernel
theorem d_Model_takenFrom_48 : decode prog_12_method_33_code 48 = .ok (.goto (-40), 3) := by decide +kernel
theorem d_Model_takenFrom_51 : decode prog_12_method_33_code 51 = .ok (.iload_n 3, 1) := by decide +kernel
theorem d_Model_takenFrom_52 : decode prog_12_method_33_code 52 = .ok (.ireturn, 1) := by decide +kernel
theorem b_Model_takenFrom_0 {d : Nat} {x1 : Int32} {x2 : Int32} {h : am_H} {Q : am_Q} (k : am_W (X_Model_takenFrom d) 8 [some (.ref 0), some (.int x1), some (.int x2), some (.int (-1)), some (.int 0), some (.int 0), none] [] h Q) : am_W (X_Model_takenFrom d) 0 [some (.ref 0), some (.int x1), some (.int x2), none, none, none, none] [] h Q :=
  am_iconst (v := (-1)) d_Model_takenFrom_0 (by decide) <|
    am_istore_n (ls' := [some (.ref 0), some (.int x1), some (.int x2), some (.int (-1)), none, none, none]) d_Model_takenFrom_1 rfl (Nat.le_of_ble_eq_true rfl) rfl <|
    am_iconst (v := 0) d_Model_takenFrom_2 (by decide) <|
    am_istore (ls' := [some (.ref 0), some (.int x1), some (.int x2), some (.int (-1)), some (.int 0), none, none]) d_Model_takenFrom_3 (Nat.le_of_ble_eq_true rfl) rfl <|
    am_iconst (v := 0) d_Model_takenFrom_5 (by decide) <|
    am_istore (ls' := [some (.ref 0), some (.int x1), some (.int x2), some (.int (-1)), some (.int 0), some (.int 0), none]) d_Model_takenFrom_6 (Nat.le_of_ble_eq_true rfl) rfl <|
    k
theorem b_Model_takenFrom_8 {d : Nat} {x1 : Int32} {x2 : Int32} {x3 : Int32} {x4 : Int32} {x5 : Int32} {h : am_H} {Q : am_Q} (kt : (h.1 0 6) ≤ x5 → am_W (X_Model_takenFrom d) 51 [some (.ref 0), some (.int x1), some (.int x2), some (.int x3), some (.int x4), some (.int x5), none] [] h Q) (kf : ¬ (h.1 0 6) ≤ x5 → am_W (X_Model_takenFrom d) 17 [some (.ref 0), some (.int x1), some (.int x2), some (.int x3), some (.int x4), some (.int x5), none] [] h Q) : am_W (X_Model_takenFrom d) 8 [some (.ref 0), some (.int x1), some (.int x2), some (.int x3), some (.int x4), some (.int x5), none] [] h Q :=
  am_iload d_Model_takenFrom_8 rfl <|
    am_aload_n d_Model_takenFrom_10 rfl (i := 0) rfl <|
    am_getI (ci := 10) (i := 6) rfl rfl rfl (Nat.le_of_ble_eq_true rfl) w_1324 d_Model_takenFrom_11 <|
    am_icmp_ge (tgt := 51) d_Model_takenFrom_14 (by decide) kt kf
theorem b_Model_takenFrom_17 {d : Nat} {x1 : Int32} {x2 : Int32} {x3 : Int32} {x4 : Int32} {x5 : Int32} {h : am_H} {Q : am_Q} (k : m_Model_rankOf d [.ref 0, .int x5, .int x1, .int x2] h (fun r hh => am_W (X_Model_takenFrom (d + 1)) 25 [some (.ref 0), some (.int x1), some (.int x2), some (.int x3), some (.int x4), some (.int x5), none] (r.toList ++ []) hh Q)) : am_W (X_Model_takenFrom (d + 1)) 17 [some (.ref 0), some (.int x1), some (.int x2), some (.int x3), some (.int x4), some (.int x5), none] [] h Q :=
  am_aload_n d_Model_takenFrom_17 rfl (i := 0) rfl <|
    am_iload d_Model_takenFrom_18 rfl <|
    am_iload_n d_Model_takenFrom_20 rfl (i := 1) rfl <|
    am_iload_n d_Model_takenFrom_21 rfl (i := 2) rfl <|
    am_callV (vs := [.int x5, .int x1, .int x2]) (st := []) (k := 0) (ci := 10) rfl d_Model_takenFrom_22 rfl rfl w_1558 w_1560 w_51 w_94 w_1561 p_Model_rankOf (Nat.le_of_ble_eq_true rfl) (Nat.le_of_ble_eq_true rfl) rfl k
theorem b_Model_takenFrom_25 {d : Nat} {x1 : Int32} {x2 : Int32} {x3 : Int32} {x4 : Int32} {x5 : Int32} {y0 : Int32} {h : am_H} {Q : am_Q} (kt : x3 < 0 → am_W (X_Model_takenFrom d) 38 [some (.ref 0), some (.int x1), some (.int x2), some (.int x3), some (.int x4), some (.int x5), some (.int y0)] [] h Q) (kf : ¬ x3 < 0 → am_W (X_Model_takenFrom d) 31 [some (.ref 0), some (.int x1), some (.int x2), some (.int x3), some (.int x4), some (.int x5), some (.int y0)] [] h Q) : am_W (X_Model_takenFrom d) 25 [some (.ref 0), some (.int x1), some (.int x2), some (.int x3), some (.int x4), some (.int x5), none] [.int y0] h Q :=
  am_istore (ls' := [some (.ref 0), some (.int x1), some (.int x2), some (.int x3), some (.int x4), some (.int x5), some (.int y0)]) d_Model_takenFrom_25 (Nat.le_of_ble_eq_true rfl) rfl <|
    am_iload_n d_Model_takenFrom_27 rfl (i := 3) rfl <|
    am_if_lt (tgt := 38) d_Model_takenFrom_28 (by decide) kt kf
theorem b_Model_takenFrom_31 {d : Nat} {x1 : Int32} {x2 : Int32} {x3 : Int32} {x4 : Int32} {x5 : Int32} {x6 : Int32} {h : am_H} {Q : am_Q} (kt : x6 ≤ x4 → am_W (X_Model_takenFrom d) 45 [some (.ref 0), some (.int x1), some (.int x2), some (.int x3), some (.int x4), some (.int x5), some (.int x6)] [] h Q) (kf : ¬ x6 ≤ x4 → am_W (X_Model_takenFrom d) 38 [some (.ref 0), some (.int x1), some (.int x2), some (.int x3), some (.int x4), some (.int x5), some (.int x6)] [] h Q) : am_W (X_Model_takenFrom d) 31 [some (.ref 0), some (.int x1), some (.int x2), some (.int x3), some (.int x4), some (.int x5), some (.int x6)] [] h Q :=
  am_iload d_Model_takenFrom_31 rfl <|
    am_iload d_Model_takenFrom_33 rfl <|
    am_icmp_le (tgt := 45) d_Model_takenFrom_35 (by decide) kt kf
theorem b_Model_takenFrom_38 {d : Nat} {x1 : Int32} {x2 : Int32} {x3 : Int32} {x4 : Int32} {x5 : Int32} {x6 : Int32} {h : am_H} {Q : am_Q} (k : am_W (X_Model_takenFrom d) 45 [some (.ref 0), some (.int x1), some (.int x2), some (.int x5), some (.int x6), some (.int x5), some (.int x6)] [] h Q) : am_W (X_Model_takenFrom d) 38 [some (.ref 0), some (.int x1), some (.int x2), some (.int x3), some (.int x4), some (.int x5), some (.int x6)] [] h Q :=
  am_iload d_Model_takenFrom_38 rfl <|
    am_istore_n (ls' := [some (.ref 0), some (.int x1), some (.int x2), some (.int x5), some (.int x4), some (.int x5), some (.int x6)]) d_Model_takenFrom_40 rfl (Nat.le_of_ble_eq_true rfl) rfl <|
    am_iload d_Model_takenFrom_41 rfl <|
    am_istore (ls' := [some (.ref 0), some (.int x1), some (.int x2), some (.int x5), some (.int x6), some (.int x5), some (.int x6)]) d_Model_takenFrom_43 (Nat.le_of_ble_eq_true rfl) rfl <|
    k
theorem b_Model_takenFrom_45 {d : Nat} {x1 : Int32} {x2 : Int32} {x3 : Int32} {x4 : Int32} {x5 : Int32} {x6 : Int32} {h : am_H} {Q : am_Q} (k : am_W (X_Model_takenFrom d) 8 [some (.ref 0), some (.int x1), some (.int x2), some (.int x3), some (.int x4), some (.int (x5 + 1)), some (.int x6)] [] h Q) : am_W (X_Model_takenFrom d) 45 [some (.ref 0), some (.int x1), some (.int x2), some (.int x3), some (.int x4), some (.int x5), some (.int x6)] [] h Q :=
  am_iinc (v := (x5 + 1)) (ls' := [some (.ref 0), some (.int x1), some (.int x2), some (.int x3), some (.int x4), some (.int (x5 + 1)), some (.int x6)]) d_Model_takenFrom_45 rfl rfl (Nat.le_of_ble_eq_true rfl) rfl <|
    am_goto (tgt := 8) d_Model_takenFrom_48 (by decide) k
theorem b_Model_takenFrom_51 {d : Nat} {x1 : Int32} {x2 : Int32} {x3 : Int32} {x4 : Int32} {x5 : Int32} {h : am_H} {Q : am_Q} (q : Q (some (.int x3)) h) : am_W (X_Model_takenFrom d) 51 [some (.ref 0), some (.int x1), some (.int x2), some (.int x3), some (.int x4), some (.int x5), none] [] h Q :=
  am_iload_n d_Model_takenFrom_51 rfl (i := 3) rfl <|
    am_iret rfl d_Model_takenFrom_52 q
theorem t_Model_takenFrom_51 {d : Nat} {x1 : Int32} {x2 : Int32} {x3 : Int32} {x4 : Int32} {x5 : Int32} {h : am_H} {Q : am_Q} {res : Int32 × am_H} (e : f_Model_takenFrom_51 h x3 = some res) (q : Q (some (.int res.1)) res.2) : am_W (X_Model_takenFrom (d + 68)) 51 [some (.ref 0), some (.int x1), some (.int x2), some (.int x3), some (.int x4), some (.int x5), none] [] h Q :=
  b_Model_takenFrom_51 (d := (d + 68)) (q := (am_rIpi (v := x3) e q))
theorem t_Model_takenFrom_45 {d : Nat} {k8 : am_H → Int32 → Int32 → Int32 → Int32 → Int32 → Option (Int32 × am_H)} {x1 : Int32} {x2 : Int32} {x3 : Int32} {x4 : Int32} {x5 : Int32} {x6 : Int32} {h : am_H} {Q : am_Q} {res : Int32 × am_H} (hk8 : ∀ (x1 : Int32) (x2 : Int32) (x3 : Int32) (x4 : Int32) (x5 : Int32) (h : am_H), k8 h x1 x2 x3 x4 x5 = some res → am_W (X_Model_takenFrom (d + 68)) 8 [some (.ref 0), some (.int x1), some (.int x2), some (.int x3), some (.int x4), some (.int x5), none] [] h Q) (e : f_Model_takenFrom_45 k8 h x1 x2 x3 x4 x5 = some res) (q : Q (some (.int res.1)) res.2) : am_W (X_Model_takenFrom (d + 68)) 45 [some (.ref 0), some (.int x1), some (.int x2), some (.int x3), some (.int x4), some (.int x5), some (.int x6)] [] h Q :=
  b_Model_takenFrom_45 (d := (d + 68)) (k := (am_wk2 (hk8 _ _ _ _ _ _ e) ⟨rfl, ⟨rfl, ⟨rfl, ⟨rfl, ⟨rfl, ⟨rfl, trivial⟩⟩⟩⟩⟩⟩))
theorem t_Model_takenFrom_38 {d : Nat} {k8 : am_H → Int32 → Int32 → Int32 → Int32 → Int32 → Option (Int32 × am_H)} {x1 : Int32} {x2 : Int32} {x3 : Int32} {x4 : Int32} {x5 : Int32} {x6 : Int32} {h : am_H} {Q : am_Q} {res : Int32 × am_H} (hk8 : ∀ (x1 : Int32) (x2 : Int32) (x3 : Int32) (x4 : Int32) (x5 : Int32) (h : am_H), k8 h x1 x2 x3 x4 x5 = some res → am_W (X_Model_takenFrom (d + 68)) 8 [some (.ref 0), some (.int x1), some (.int x2), some (.int x3), some (.int x4), some (.int x5), none] [] h Q) (e : f_Model_takenFrom_38 k8 h x1 x2 x5 x6 = some res) (q : Q (some (.int res.1)) res.2) : am_W (X_Model_takenFrom (d + 68)) 38 [some (.ref 0), some (.int x1), some (.int x2), some (.int x3), some (.int x4), some (.int x5), some (.int x6)] [] h Q :=
  b_Model_takenFrom_38 (d := (d + 68)) (k := (t_Model_takenFrom_45 hk8 e q))
theorem t_Model_takenFrom_31 {d : Nat} {k8 : am_H → Int32 → Int32 → Int32 → Int32 → Int32 → Option (Int32 × am_H)} {x1 : Int32} {x2 : Int32} {x3 : Int32} {x4 : Int32} {x5 : Int32} {x6 : Int32} {h : am_H} {Q : am_Q} {res : Int32 × am_H} (hk8 : ∀ (x1 : Int32) (x2 : Int32) (x3 : Int32) (x4 : Int32) (x5 : Int32) (h : am_H), k8 h x1 x2 x3 x4 x5 = some res → am_W (X_Model_takenFrom (d + 68)) 8 [some (.ref 0), some (.int x1), some (.int x2), some (.int x3), some (.int x4), some (.int x5), none] [] h Q) (e : f_Model_takenFrom_31 k8 h x1 x2 x3 x4 x5 x6 = some res) (q : Q (some (.int res.1)) res.2) : am_W (X_Model_takenFrom (d + 68)) 31 [some (.ref 0), some (.int x1), some (.int x2), some (.int x3), some (.int x4), some (.int x5), some (.int x6)] [] h Q :=
  b_Model_takenFrom_31 (d := (d + 68)) (kt := fun c => (t_Model_takenFrom_45 hk8 (am_ift e c) q)) (kf := fun c => (t_Model_takenFrom_38 hk8 (am_ife e c) q))
theorem t_Model_takenFrom_25 {d : Nat} {k8 : am_H → Int32 → Int32 → Int32 → Int32 → Int32 → Option (Int32 × am_H)} {x1 : Int32} {x2 : Int32} {x3 : Int32} {x4 : Int32} {x5 : Int32} {y0 : Int32} {h : am_H} {Q : am_Q} {res : Int32 × am_H} (hk8 : ∀ (x1 : Int32) (x2 : Int32) (x3 : Int32) (x4 : Int32) (x5 : Int32) (h : am_H), k8 h x1 x2 x3 x4 x5 = some res → am_W (X_Model_takenFrom (d + 68)) 8 [some (.ref 0), some (.int x1), some (.int x2), some (.int x3), some (.int x4), some (.int x5), none] [] h Q) (e : f_Model_takenFrom_25 k8 h x1 x2 x3 x4 x5 y0 = some res) (q : Q (some (.int res.1)) res.2) : am_W (X_Model_takenFrom (d + 68)) 25 [some (.ref 0), some (.int x1), some (.int x2), some (.int x3), some (.int x4), some (.int x5), none] [.int y0] h Q :=
  b_Model_takenFrom_25 (d := (d + 68)) (kt := fun c => (t_Model_takenFrom_38 hk8 (am_ift e c) q)) (kf := fun c => (t_Model_takenFrom_31 hk8 (am_ife e c) q))
theorem t_Model_takenFrom_17 {d : Nat} {k8 : am_H → Int32 → Int32 → Int32 → Int32 → Int32 → Option (Int32 × am_H)} {x1 : Int32} {x2 : Int32} {x3 : Int32} {x4 : Int32} {x5 : Int32} {h : am_H} {Q : am_Q} {res : Int32 × am_H} (hk8 : ∀ (x1 : Int32) (x2 : Int32) (x3 : Int32) (x4 : Int32) (x5 : Int32) (h : am_H), k8 h x1 x2 x3 x4 x5 = some res → am_W (X_Model_takenFrom (d + 68)) 8 [some (.ref 0), some (.int x1), some (.int x2), some (.int x3), some (.int x4), some (.int x5), none] [] h Q) (e : f_Model_takenFrom_17 k8 h x1 x2 x3 x4 x5 = some res) (q : Q (some (.int res.1)) res.2) : am_W (X_Model_takenFrom (d + 68)) 17 [some (.ref 0), some (.int x1), some (.int x2), some (.int x3), some (.int x4), some (.int x5), none] [] h Q :=
  (am_bd e).elim fun p hp => b_Model_takenFrom_17 (d := (d + 67)) (k := c_Model_rankOf (d := d) hp.1 (t_Model_takenFrom_25 hk8 hp.2 q))
theorem t_Model_takenFrom_8 {d : Nat} {k8 : am_H → Int32 → Int32 → Int32 → Int32 → Int32 → Option (Int32 × am_H)} {x1 : Int32} {x2 : Int32} {x3 : Int32} {x4 : Int32} {x5 : Int32} {h : am_H} {Q : am_Q} {res : Int32 × am_H} (hk8 : ∀ (x1 : Int32) (x2 : Int32) (x3 : Int32) (x4 : Int32) (x5 : Int32) (h : am_H), k8 h x1 x2 x3 x4 x5 = some res → am_W (X_Model_takenFrom (d + 68)) 8 [some (.ref 0), some (.int x1), some (.int x2), some (.int x3), some (.int x4), some (.int x5), none] [] h Q) (e : f_Model_takenFrom_8 k8 h x1 x2 x3 x4 x5 = some res) (q : Q (some (.int res.1)) res.2) : am_W (X_Model_takenFrom (d + 68)) 8 [some (.ref 0), some (.int x1), some (.int x2), some (.int x3), some (.int x4), some (.int x5), none] [] h Q :=
  b_Model_takenFrom_8 (d := (d + 68)) (kt := fun c => (t_Model_takenFrom_51 (am_ift e c) q)) (kf := fun c => (t_Model_takenFrom_17 hk8 (am_ife e c) q))
theorem t_Model_takenFrom_8_l {d : Nat} {Q : am_Q} {res : Int32 × am_H} (q : Q (some (.int res.1)) res.2) : ∀ (n : Nat) (x1 : Int32) (x2 : Int32) (x3 : Int32) (x4 : Int32) (x5 : Int32) (h : am_H), f_Model_takenFrom_8_l n h x1 x2 x3 x4 x5 = some res → am_W (X_Model_takenFrom (d + 68)) 8 [some (.ref 0), some (.int x1), some (.int x2), some (.int x3), some (.int x4), some (.int x5), none] [] h Q := by
  intro n
  induction n with
  | zero => intro x1 x2 x3 x4 x5 h e; exact am_nn e
  | succ n ih => intro x1 x2 x3 x4 x5 h e; exact t_Model_takenFrom_8 (fun x1 x2 x3 x4 x5 h e => ih x1 x2 x3 x4 x5 h  e) e q
theorem t_Model_takenFrom_0 {d : Nat} {x1 : Int32} {x2 : Int32} {h : am_H} {Q : am_Q} {res : Int32 × am_H} (e : f_Model_takenFrom h x1 x2 = some res) (q : Q (some (.int res.1)) res.2) : am_W (X_Model_takenFrom (d + 68)) 0 [some (.ref 0), some (.int x1), some (.int x2), none, none, none, none] [] h Q :=
  b_Model_takenFrom_0 (d := (d + 68)) (k := (t_Model_takenFrom_8_l q am_fu _ _ _ _ _ _ e))
theorem c_Model_takenFrom {d : Nat} {x1 : Int32} {x2 : Int32} {h : am_H} {Q : am_Q} {res : Int32 × am_H} (e : f_Model_takenFrom h x1 x2 = some res) (q : Q (some (.int res.1)) res.2) : m_Model_takenFrom (d + 68) [.ref 0, .int x1, .int x2] h Q :=
  e_Model_takenFrom (t_Model_takenFrom_0 e q)
theorem d_Model_believed_0 : decode prog_12_method_34_code 0 = .ok (.iload_n 1, 1) := by decide +kernel
theorem d_Model_believed_1 : decode prog_12_method_34_code 1 = .ok (.i2l, 1) := by decide +kernel
theorem d_Model_believed_2 : decode prog_12_method_34_code 2 = .ok (.invokestatic 110, 3) := by decide +kernel
theorem d_Model_believed_5 : decode prog_12_method_34_code 5 = .ok (.ifCond .ne 5, 3) := by decide +kernel
theorem d_Model_believed_8 : decode prog_12_method_34_code 8 = .ok (.iconst (-1), 1) := by decide +kernel
theorem d_Model_believed_9 : decode prog_12_method_34_code 9 = .ok (.ireturn, 1) := by decide +kernel
theorem d_Model_believed_10 : decode prog_12_method_34_code 10 = .ok (.aload_n 0, 1) := by decide +kernel
theorem d_Model_believed_11 : decode prog_12_method_34_code 11 = .ok (.getfield 80, 3) := by decide +kernel
theorem d_Model_believed_14 : decode prog_12_method_34_code 14 = .ok (.ifCond .eq 11, 3) := by decide +kernel
theorem d_Model_believed_17 : decode prog_12_method_34_code 17 = .ok (.aload_n 0, 1) := by decide +kernel
theorem d_Model_believed_18 : decode prog_12_method_34_code 18 = .ok (.iload_n 1, 1) := by decide +kernel
theorem d_Model_believed_19 : decode prog_12_method_34_code 19 = .ok (.invokevirtual 89, 3) := by decide +kernel
theorem d_Model_believed_22 : decode prog_12_method_34_code 22 = .ok (.ifCond .eq 8, 3) := by decide +kernel
theorem d_Model_believed_25 : decode prog_12_method_34_code 25 = .ok (.bipush (-2), 2) := by decide +kernel
theorem d_Model_believed_27 : decode prog_12_method_34_code 27 = .ok (.goto 9, 3) := by decide +kernel
theorem d_Model_believed_30 : decode prog_12_method_34_code 30 = .ok (.aload_n 0, 1) := by decide +kernel
theorem d_Model_believed_31 : decode prog_12_method_34_code 31 = .ok (.iload_n 1, 1) := by decide +kernel
theorem d_Model_believed_32 : decode prog_12_method_34_code 32 = .ok (.iconst 0, 1) := by decide +kernel
theorem d_Model_believed_33 : decode prog_12_method_34_code 33 = .ok (.invokevirtual 204, 3) := by decide +kernel
theorem d_Model_believed_36 : decode prog_12_method_34_code 36 = .ok (.ireturn, 1) := by decide +kernel
theorem b_Model_believed_0 {d : Nat} {x1 : Int32} {h : am_H} {Q : am_Q} (k : m_Model_isCell d [.long x1.toInt64] h (fun r hh => am_W (X_Model_believed (d + 1)) 5 [some (.ref 0), some (.int x1)] (r.toList ++ []) hh Q)) : am_W (X_Model_believed (d + 1)) 0 [some (.ref 0), some (.int x1)] [] h Q :=
  am_iload_n d_Model_believed_0 rfl (i := 1) rfl <|
    am_i2l d_Model_believed_1 <|
    am_callS (vs := [.long x1.toInt64]) (st := []) rfl d_Model_believed_2 w_1469 w_1470 w_94 w_1471 p_Model_isCell (Nat.le_of_ble_eq_true rfl) (Nat.le_of_ble_eq_true rfl) rfl k
theorem b_Model_believed_5 {d : Nat} {x1 : Int32} {y0 : Bool} {h : am_H} {Q : am_Q} (kt : ¬ (am_b y0) = 0 → am_W (X_Model_believed d) 10 [some (.ref 0), some (.int x1)] [] h Q) (kf : (am_b y0) = 0 → am_W (X_Model_believed d) 8 [some (.ref 0), some (.int x1)] [] h Q) : am_W (X_Model_believed d) 5 [some (.ref 0), some (.int x1)] [.int (am_b y0)] h Q :=
  am_if_ne (tgt := 10) d_Model_believed_5 (by decide) kt kf
theorem b_Model_believed_8 {d : Nat} {x1 : Int32} {h : am_H} {Q : am_Q} (q : Q (some (.int (-1))) h) : am_W (X_Model_believed d) 8 [some (.ref 0), some (.int x1)] [] h Q :=
  am_iconst (v := (-1)) d_Model_believed_8 (by decide) <|
    am_iret rfl d_Model_believed_9 q
theorem b_Model_believed_10 {d : Nat} {x1 : Int32} {h : am_H} {Q : am_Q} (kt : (h.1 0 6) = 0 → am_W (X_Model_believed d) 25 [some (.ref 0), some (.int x1)] [] h Q) (kf : ¬ (h.1 0 6) = 0 → am_W (X_Model_believed d) 17 [some (.ref 0), some (.int x1)] [] h Q) : am_W (X_Model_believed d) 10 [some (.ref 0), some (.int x1)] [] h Q :=
  am_aload_n d_Model_believed_10 rfl (i := 0) rfl <|
    am_getI (ci := 10) (i := 6) rfl rfl rfl (Nat.le_of_ble_eq_true rfl) w_1324 d_Model_believed_11 <|
    am_if_eq (tgt := 25) d_Model_believed_14 (by decide) kt kf
theorem b_Model_believed_17 {d : Nat} {x1 : Int32} {h : am_H} {Q : am_Q} (k : m_Model_isGreen d [.ref 0, .int x1] h (fun r hh => am_W (X_Model_believed (d + 1)) 22 [some (.ref 0), some (.int x1)] (r.toList ++ []) hh Q)) : am_W (X_Model_believed (d + 1)) 17 [some (.ref 0), some (.int x1)] [] h Q :=
  am_aload_n d_Model_believed_17 rfl (i := 0) rfl <|
    am_iload_n d_Model_believed_18 rfl (i := 1) rfl <|
    am_callV (vs := [.int x1]) (st := []) (k := 0) (ci := 10) rfl d_Model_believed_19 rfl rfl w_1550 w_1552 w_49 w_94 w_1553 p_Model_isGreen (Nat.le_of_ble_eq_true rfl) (Nat.le_of_ble_eq_true rfl) rfl k
theorem b_Model_believed_22 {d : Nat} {x1 : Int32} {y0 : Bool} {h : am_H} {Q : am_Q} (kt : (am_b y0) = 0 → am_W (X_Model_believed d) 30 [some (.ref 0), some (.int x1)] [] h Q) (kf : ¬ (am_b y0) = 0 → am_W (X_Model_believed d) 25 [some (.ref 0), some (.int x1)] [] h Q) : am_W (X_Model_believed d) 22 [some (.ref 0), some (.int x1)] [.int (am_b y0)] h Q :=
  am_if_eq (tgt := 30) d_Model_believed_22 (by decide) kt kf
theorem b_Model_believed_25 {d : Nat} {x1 : Int32} {h : am_H} {Q : am_Q} (q : Q (some (.int (-2))) h) : am_W (X_Model_believed d) 25 [some (.ref 0), some (.int x1)] [] h Q :=
  am_bipush (v := (-2)) d_Model_believed_25 (by decide) <|
    am_goto (tgt := 36) d_Model_believed_27 (by decide) <|
    am_iret rfl d_Model_believed_36 q
theorem b_Model_believed_30 {d : Nat} {x1 : Int32} {h : am_H} {Q : am_Q} (k : m_Model_takenFrom d [.ref 0, .int x1, .int 0] h (fun r hh => am_W (X_Model_believed (d + 1)) 36 [some (.ref 0), some (.int x1)] (r.toList ++ []) hh Q)) : am_W (X_Model_believed (d + 1)) 30 [some (.ref 0), some (.int x1)] [] h Q :=
  am_aload_n d_Model_believed_30 rfl (i := 0) rfl <|
    am_iload_n d_Model_believed_31 rfl (i := 1) rfl <|
    am_iconst (v := 0) d_Model_believed_32 (by decide) <|
    am_callV (vs := [.int x1, .int 0]) (st := []) (k := 0) (ci := 10) rfl d_Model_believed_33 rfl rfl w_1554 w_1556 w_50 w_94 w_1557 p_Model_takenFrom (Nat.le_of_ble_eq_true rfl) (Nat.le_of_ble_eq_true rfl) rfl k
theorem b_Model_believed_36 {d : Nat} {x1 : Int32} {y0 : Int32} {h : am_H} {Q : am_Q} (q : Q (some (.int y0)) h) : am_W (X_Model_believed d) 36 [some (.ref 0), some (.int x1)] [.int y0] h Q :=
  am_iret rfl d_Model_believed_36 q
theorem t_Model_believed_25 {d : Nat} {x1 : Int32} {h : am_H} {Q : am_Q} {res : Int32 × am_H} (e : f_Model_believed_25 h = some res) (q : Q (some (.int res.1)) res.2) : am_W (X_Model_believed (d + 69)) 25 [some (.ref 0), some (.int x1)] [] h Q :=
  b_Model_believed_25 (d := (d + 69)) (q := (am_rIpi (v := (-2)) e q))
theorem t_Model_believed_36 {d : Nat} {x1 : Int32} {y0 : Int32} {h : am_H} {Q : am_Q} {res : Int32 × am_H} (e : f_Model_believed_36 h y0 = some res) (q : Q (some (.int res.1)) res.2) : am_W (X_Model_believed (d + 69)) 36 [some (.ref 0), some (.int x1)] [.int y0] h Q :=
  b_Model_believed_36 (d := (d + 69)) (q := (am_rIpi (v := y0) e q))
theorem t_Model_believed_30 {d : Nat} {x1 : Int32} {h : am_H} {Q : am_Q} {res : Int32 × am_H} (e : f_Model_believed_30 h x1 = some res) (q : Q (some (.int res.1)) res.2) : am_W (X_Model_believed (d + 69)) 30 [some (.ref 0), some (.int x1)] [] h Q :=
  (am_bd e).elim fun p hp => b_Model_believed_30 (d := (d + 68)) (k := c_Model_takenFrom (d := d) hp.1 (t_Model_believed_36 hp.2 q))
theorem t_Model_believed_22 {d : Nat} {x1 : Int32} {y0 : Bool} {h : am_H} {Q : am_Q} {res : Int32 × am_H} (e : f_Model_believed_22 h x1 y0 = some res) (q : Q (some (.int res.1)) res.2) : am_W (X_Model_believed (d + 69)) 22 [some (.ref 0), some (.int x1)] [.int (am_b y0)] h Q :=
  b_Model_believed_22 (d := (d + 69)) (kt := fun c => (t_Model_believed_30 (am_iff e (am_bz c)) q)) (kf := fun c => (t_Model_believed_25 (am_ift e (am_bn c)) q))
theorem t_Model_believed_17 {d : Nat} {x1 : Int32} {h : am_H} {Q : am_Q} {res : Int32 × am_H} (e : f_Model_believed_17 h x1 = some res) (q : Q (some (.int res.1)) res.2) : am_W (X_Model_believed (d + 69)) 17 [some (.ref 0), some (.int x1)] [] h Q :=
  (am_bd e).elim fun p hp => b_Model_believed_17 (d := (d + 68)) (k := c_Model_isGreen (d := d + 68) hp.1 (t_Model_believed_22 hp.2 q))
theorem t_Model_believed_10 {d : Nat} {x1 : Int32} {h : am_H} {Q : am_Q} {res : Int32 × am_H} (e : f_Model_believed_10 h x1 = some res) (q : Q (some (.int res.1)) res.2) : am_W (X_Model_believed (d + 69)) 10 [some (.ref 0), some (.int x1)] [] h Q :=
  b_Model_believed_10 (d := (d + 69)) (kt := fun c => (t_Model_believed_25 (am_ift e c) q)) (kf := fun c => (t_Model_believed_17 (am_ife e c) q))
theorem t_Model_believed_8 {d : Nat} {x1 : Int32} {h : am_H} {Q : am_Q} {res : Int32 × am_H} (e : f_Model_believed_8 h = some res) (q : Q (some (.int res.1)) res.2) : am_W (X_Model_believed (d + 69)) 8 [some (.ref 0), some (.int x1)] [] h Q :=
  b_Model_believed_8 (d := (d + 69)) (q := (am_rIpi (v := (-1)) e q))
theorem t_Model_believed_5 {d : Nat} {x1 : Int32} {y0 : Bool} {h : am_H} {Q : am_Q} {res : Int32 × am_H} (e : f_Model_believed_5 h x1 y0 = some res) (q : Q (some (.int res.1)) res.2) : am_W (X_Model_believed (d + 69)) 5 [some (.ref 0), some (.int x1)] [.int (am_b y0)] h Q :=
  b_Model_believed_5 (d := (d + 69)) (kt := fun c => (t_Model_believed_10 (am_ift e (am_bn c)) q)) (kf := fun c => (t_Model_believed_8 (am_iff e (am_bz c)) q))
theorem t_Model_believed_0 {d : Nat} {x1 : Int32} {h : am_H} {Q : am_Q} {res : Int32 × am_H} (e : f_Model_believed h x1 = some res) (q : Q (some (.int res.1)) res.2) : am_W (X_Model_believed (d + 69)) 0 [some (.ref 0), some (.int x1)] [] h Q :=
  b_Model_believed_0 (d := (d + 68)) (k := c_Model_isCell (d := d + 67) rfl (t_Model_believed_5 e q))
theorem c_Model_believed {d : Nat} {x1 : Int32} {h : am_H} {Q : am_Q} {res : Int32 × am_H} (e : f_Model_believed h x1 = some res) (q : Q (some (.int res.1)) res.2) : m_Model_believed (d + 69) [.ref 0, .int x1] h Q :=
  e_Model_believed (t_Model_believed_0 e q)
theorem d_Model_lengthOf_0 : decode prog_12_method_35_code 0 = .ok (.iload_n 1, 1) := by decide +kernel
theorem d_Model_lengthOf_1 : decode prog_12_method_35_code 1 = .ok (.aload_n 0, 1) := by decide +kernel
theorem d_Model_lengthOf_2 : decode prog_12_method_35_code 2 = .ok (.getfield 11, 3) := by decide +kernel
theorem d_Model_lengthOf_5 : decode prog_12_method_35_code 5 = .ok (.bipush 49, 2) := by decide +kernel
theorem d_Model_lengthOf_7 : decode prog_12_method_35_code 7 = .ok (.iaload, 1) := by decide +kernel
theorem d_Model_lengthOf_8 : decode prog_12_method_35_code 8 = .ok (.if_icmp .le 7, 3) := by decide +kernel
theorem d_Model_lengthOf_11 : decode prog_12_method_35_code 11 = .ok (.iconst 1, 1) := by decide +kernel
theorem d_Model_lengthOf_12 : decode prog_12_method_35_code 12 = .ok (.goto 4, 3) := by decide +kernel
theorem d_Model_lengthOf_15 : decode prog_12_method_35_code 15 = .ok (.iconst 0, 1) := by decide +kernel
theorem d_Model_lengthOf_16 : decode prog_12_method_35_code 16 = .ok (.istore_n 3, 1) := by decide +kernel
theorem d_Model_lengthOf_17 : decode prog_12_method_35_code 17 = .ok (.iload_n 2, 1) := by decide +kernel
theorem d_Model_lengthOf_18 : decode prog_12_method_35_code 18 = .ok (.iconst 5, 1) := by decide +kernel
theorem d_Model_lengthOf_19 : decode prog_12_method_35_code 19 = .ok (.if_icmp .ge 7, 3) := by decide +kernel
theorem d_Model_lengthOf_22 : decode prog_12_method_35_code 22 = .ok (.iconst 0, 1) := by decide +kernel
theorem d_Model_lengthOf_23 : decode prog_12_method_35_code 23 = .ok (.goto 25, 3) := by decide +kernel
theorem d_Model_lengthOf_26 : decode prog_12_method_35_code 26 = .ok (.iload_n 3, 1) := by decide +kernel
theorem d_Model_lengthOf_27 : decode prog_12_method_35_code 27 = .ok (.ifCond .eq 14, 3) := by decide +kernel
theorem d_Model_lengthOf_30 : decode prog_12_method_35_code 30 = .ok (.aload_n 0, 1) := by decide +kernel
theorem d_Model_lengthOf_31 : decode prog_12_method_35_code 31 = .ok (.getfield 11, 3) := by decide +kernel
theorem d_Model_lengthOf_34 : decode prog_12_method_35_code 34 = .ok (.bipush 50, 2) := by decide +kernel
theorem d_Model_lengthOf_36 : decode prog_12_method_35_code 36 = .ok (.iaload, 1) := by decide +kernel
theorem d_Model_lengthOf_37 : decode prog_12_method_35_code 37 = .ok (.ineg, 1) := by decide +kernel
theorem d_Model_lengthOf_38 : decode prog_12_method_35_code 38 = .ok (.goto 10, 3) := by decide +kernel
theorem d_Model_lengthOf_41 : decode prog_12_method_35_code 41 = .ok (.aload_n 0, 1) := by decide +kernel
theorem d_Model_lengthOf_42 : decode prog_12_method_35_code 42 = .ok (.getfield 11, 3) := by decide +kernel
theorem d_Model_lengthOf_45 : decode prog_12_method_35_code 45 = .ok (.bipush 50, 2) := by decide +kernel
theorem d_Model_lengthOf_47 : decode prog_12_method_35_code 47 = .ok (.iaload, 1) := by decide +kernel
theorem d_Model_lengthOf_48 : decode prog_12_method_35_code 48 = .ok (.istore 4, 2) := by decide +kernel
theorem d_Model_lengthOf_50 : decode prog_12_method_35_code 50 = .ok (.iload_n 2, 1) := by decide +kernel
theorem d_Model_lengthOf_51 : decode prog_12_method_35_code 51 = .ok (.iload 4, 2) := by decide +kernel
theorem d_Model_lengthOf_53 : decode prog_12_method_35_code 53 = .ok (.iadd, 1) := by decide +kernel
theorem d_Model_lengthOf_54 : decode prog_12_method_35_code 54 = .ok (.istore 5, 2) := by decide +kernel
theorem d_Model_lengthOf_56 : decode prog_12_method_35_code 56 = .ok (.aload_n 0, 1) := by decide +kernel
theorem d_Model_lengthOf_57 : decode prog_12_method_35_code 57 = .ok (.getfield 11, 3) := by decide +kernel
theorem d_Model_lengthOf_60 : decode prog_12_method_35_code 60 = .ok (.iload_n 1, 1) := by decide +kernel
theorem d_Model_lengthOf_61 : decode prog_12_method_35_code 61 = .ok (.iaload, 1) := by decide +kernel
theorem d_Model_lengthOf_62 : decode prog_12_method_35_code 62 = .ok (.iconst 1, 1) := by decide +kernel
theorem d_Model_lengthOf_63 : decode prog_12_method_35_code 63 = .ok (.if_icmp .ne 10, 3) := by decide +kernel
theorem d_Model_lengthOf_66 : decode prog_12_method_35_code 66 = .ok (.iload 5, 2) := by decide +kernel
theorem d_Model_lengthOf_68 : decode prog_12_method_35_code 68 = .ok (.iconst 1, 1) := by decide +kernel
theorem d_Model_lengthOf_69 : decode prog_12_method_35_code 69 = .ok (.isub, 1) := by decide +kernel
theorem d_Model_lengthOf_70 : decode prog_12_method_35_code 70 = .ok (.goto 22, 3) := by decide +kernel
theorem d_Model_lengthOf_73 : decode prog_12_method_35_code 73 = .ok (.aload_n 0, 1) := by decide +kernel
theorem d_Model_lengthOf_74 : decode prog_12_method_35_code 74 = .ok (.getfield 11, 3) := by decide +kernel
theorem d_Model_lengthOf_77 : decode prog_12_method_35_code 77 = .ok (.iload_n 1, 1) := by decide +kernel
theorem d_Model_lengthOf_78 : decode prog_12_method_35_code 78 = .ok (.iaload, 1) := by decide +kernel
theorem d_Model_lengthOf_79 : decode prog_12_method_35_code 79 = .ok (.iconst 2, 1) := by decide +kernel
theorem d_Model_lengthOf_80 : decode prog_12_method_35_code 80 = .ok (.if_icmp .ne 10, 3) := by decide +kernel
theorem d_Model_lengthOf_83 : decode prog_12_method_35_code 83 = .ok (.iload 5, 2) := by decide +kernel
theorem d_Model_lengthOf_85 : decode prog_12_method_35_code 85 = .ok (.iconst 2, 1) := by decide +kernel
theorem d_Model_lengthOf_86 : decode prog_12_method_35_code 86 = .ok (.idiv, 1) := by decide +kernel
theorem d_Model_lengthOf_87 : decode prog_12_method_35_code 87 = .ok (.goto 5, 3) := by decide +kernel
theorem d_Model_lengthOf_90 : decode prog_12_method_35_code 90 = .ok (.iload 5, 2) := by decide +kernel
theorem d_Model_lengthOf_92 : decode prog_12_method_35_code 92 = .ok (.istore 5, 2) := by decide +kernel
theorem d_Model_lengthOf_94 : decode prog_12_method_35_code 94 = .ok (.iload 5, 2) := by decide +kernel
theorem d_Model_lengthOf_96 : decode prog_12_method_35_code 96 = .ok (.ifCond .ge 7, 3) := by decide +kernel
theorem d_Model_lengthOf_99 : decode prog_12_method_35_code 99 = .ok (.iconst 0, 1) := by decide +kernel
theorem d_Model_lengthOf_100 : decode prog_12_method_35_code 100 = .ok (.goto 5, 3) := by decide +kernel
theorem d_Model_lengthOf_103 : decode prog_12_method_35_code 103 = .ok (.iload 5, 2) := by decide +kernel
theorem d_Model_lengthOf_105 : decode prog_12_method_35_code 105 = .ok (.ireturn, 1) := by decide +kernel
theorem b_Model_lengthOf_0 {d : Nat} {x1 : Int32} {x2 : Int32} {h : am_H} {Q : am_Q} (kt : x1 ≤ (h.1 1 (49 : Int32).toNatClampNeg) → am_W (X_Model_lengthOf d) 15 [some (.ref 0), some (.int x1), some (.int x2), none, none, none] [] h Q) (kf : ¬ x1 ≤ (h.1 1 (49 : Int32).toNatClampNeg) → am_W (X_Model_lengthOf d) 11 [some (.ref 0), some (.int x1), some (.int x2), none, none, none] [] h Q) : am_W (X_Model_lengthOf d) 0 [some (.ref 0), some (.int x1), some (.int x2), none, none, none] [] h Q :=
  am_iload_n d_Model_lengthOf_0 rfl (i := 1) rfl <|
    am_aload_n d_Model_lengthOf_1 rfl (i := 0) rfl <|
    am_getR (ci := 10) (i := 0) rfl rfl rfl (Nat.le_of_ble_eq_true rfl) w_1318 d_Model_lengthOf_2 <|
    am_bipush (v := 49) d_Model_lengthOf_5 (by decide) <|
    am_iald rfl (am_vin (by decide)) d_Model_lengthOf_7 <|
    am_icmp_le (tgt := 15) d_Model_lengthOf_8 (by decide) kt kf
theorem b_Model_lengthOf_11 {d : Nat} {x1 : Int32} {x2 : Int32} {h : am_H} {Q : am_Q} (k : am_W (X_Model_lengthOf d) 16 [some (.ref 0), some (.int x1), some (.int x2), none, none, none] [.int 1] h Q) : am_W (X_Model_lengthOf d) 11 [some (.ref 0), some (.int x1), some (.int x2), none, none, none] [] h Q :=
  am_iconst (v := 1) d_Model_lengthOf_11 (by decide) <|
    am_goto (tgt := 16) d_Model_lengthOf_12 (by decide) k
theorem b_Model_lengthOf_15 {d : Nat} {x1 : Int32} {x2 : Int32} {h : am_H} {Q : am_Q} (k : am_W (X_Model_lengthOf d) 16 [some (.ref 0), some (.int x1), some (.int x2), none, none, none] [.int 0] h Q) : am_W (X_Model_lengthOf d) 15 [some (.ref 0), some (.int x1), some (.int x2), none, none, none] [] h Q :=
  am_iconst (v := 0) d_Model_lengthOf_15 (by decide) <|
    k
theorem b_Model_lengthOf_16 {d : Nat} {x1 : Int32} {x2 : Int32} {y0 : Int32} {h : am_H} {Q : am_Q} (kt : 5 ≤ x2 → am_W (X_Model_lengthOf d) 26 [some (.ref 0), some (.int x1), some (.int x2), some (.int y0), none, none] [] h Q) (kf : ¬ 5 ≤ x2 → am_W (X_Model_lengthOf d) 22 [some (.ref 0), some (.int x1), some (.int x2), some (.int y0), none, none] [] h Q) : am_W (X_Model_lengthOf d) 16 [some (.ref 0), some (.int x1), some (.int x2), none, none, none] [.int y0] h Q :=
  am_istore_n (ls' := [some (.ref 0), some (.int x1), some (.int x2), some (.int y0), none, none]) d_Model_lengthOf_16 rfl (Nat.le_of_ble_eq_true rfl) rfl <|
    am_iload_n d_Model_lengthOf_17 rfl (i := 2) rfl <|
    am_iconst (v := 5) d_Model_lengthOf_18 (by decide) <|
    am_icmp_ge (tgt := 26) d_Model_lengthOf_19 (by decide) kt kf
theorem b_Model_lengthOf_22 {d : Nat} {x1 : Int32} {x2 : Int32} {x3 : Int32} {h : am_H} {Q : am_Q} (k : am_W (X_Model_lengthOf d) 48 [some (.ref 0), some (.int x1), some (.int x2), some (.int x3), none, none] [.int 0] h Q) : am_W (X_Model_lengthOf d) 22 [some (.ref 0), some (.int x1), some (.int x2), some (.int x3), none, none] [] h Q :=
  am_iconst (v := 0) d_Model_lengthOf_22 (by decide) <|
    am_goto (tgt := 48) d_Model_lengthOf_23 (by decide) k
theorem b_Model_lengthOf_26 {d : Nat} {x1 : Int32} {x2 : Int32} {x3 : Int32} {h : am_H} {Q : am_Q} (kt : x3 = 0 → am_W (X_Model_lengthOf d) 41 [some (.ref 0), some (.int x1), some (.int x2), some (.int x3), none, none] [] h Q) (kf : ¬ x3 = 0 → am_W (X_Model_lengthOf d) 30 [some (.ref 0), some (.int x1), some (.int x2), some (.int x3), none, none] [] h Q) : am_W (X_Model_lengthOf d) 26 [some (.ref 0), some (.int x1), some (.int x2), some (.int x3), none, none] [] h Q :=
  am_iload_n d_Model_lengthOf_26 rfl (i := 3) rfl <|
    am_if_eq (tgt := 41) d_Model_lengthOf_27 (by decide) kt kf
theorem b_Model_lengthOf_30 {d : Nat} {x1 : Int32} {x2 : Int32} {x3 : Int32} {h : am_H} {Q : am_Q} (k : am_W (X_Model_lengthOf d) 48 [some (.ref 0), some (.int x1), some (.int x2), some (.int x3), none, none] [.int (-(h.1 1 (50 : Int32).toNatClampNeg))] h Q) : am_W (X_Model_lengthOf d) 30 [some (.ref 0), some (.int x1), some (.int x2), some (.int x3), none, none] [] h Q :=
  am_aload_n d_Model_lengthOf_30 rfl (i := 0) rfl <|
    am_getR (ci := 10) (i := 0) rfl rfl rfl (Nat.le_of_ble_eq_true rfl) w_1318 d_Model_lengthOf_31 <|
    am_bipush (v := 50) d_Model_lengthOf_34 (by decide) <|
    am_iald rfl (am_vin (by decide)) d_Model_lengthOf_36 <|
    am_ineg d_Model_lengthOf_37 <|
    am_goto (tgt := 48) d_Model_lengthOf_38 (by decide) k
theorem b_Model_lengthOf_41 {d : Nat} {x1 : Int32} {x2 : Int32} {x3 : Int32} {h : am_H} {Q : am_Q} (k : am_W (X_Model_lengthOf d) 48 [some (.ref 0), some (.int x1), some (.int x2), some (.int x3), none, none] [.int (h.1 1 (50 : Int32).toNatClampNeg)] h Q) : am_W (X_Model_lengthOf d) 41 [some (.ref 0), some (.int x1), some (.int x2), some (.int x3), none, none] [] h Q :=
  am_aload_n d_Model_lengthOf_41 rfl (i := 0) rfl <|
    am_getR (ci := 10) (i := 0) rfl rfl rfl (Nat.le_of_ble_eq_true rfl) w_1318 d_Model_lengthOf_42 <|
    am_bipush (v := 50) d_Model_lengthOf_45 (by decide) <|
    am_iald rfl (am_vin (by decide)) d_Model_lengthOf_47 <|
    k
theorem b_Model_lengthOf_48 {d : Nat} {x1 : Int32} {x2 : Int32} {x3 : Int32} {y0 : Int32} {h : am_H} {Q : am_Q} (q0 : vp_in x1 54) (kt : ¬ (h.1 1 x1.toNatClampNeg) = 1 → am_W (X_Model_lengthOf d) 73 [some (.ref 0), some (.int x1), some (.int x2), some (.int x3), some (.int y0), some (.int (x2 + y0))] [] h Q) (kf : (h.1 1 x1.toNatClampNeg) = 1 → am_W (X_Model_lengthOf d) 66 [some (.ref 0), some (.int x1), some (.int x2), some (.int x3), some (.int y0), some (.int (x2 + y0))] [] h Q) : am_W (X_Model_lengthOf d) 48 [some (.ref 0), some (.int x1), some (.int x2), some (.int x3), none, none] [.int y0] h Q :=
  am_istore (ls' := [some (.ref 0), some (.int x1), some (.int x2), some (.int x3), some (.int y0), none]) d_Model_lengthOf_48 (Nat.le_of_ble_eq_true rfl) rfl <|
    am_iload_n d_Model_lengthOf_50 rfl (i := 2) rfl <|
    am_iload d_Model_lengthOf_51 rfl <|
    am_iadd d_Model_lengthOf_53 <|
    am_istore (ls' := [some (.ref 0), some (.int x1), some (.int x2), some (.int x3), some (.int y0), some (.int (x2 + y0))]) d_Model_lengthOf_54 (Nat.le_of_ble_eq_true rfl) rfl <|
    am_aload_n d_Model_lengthOf_56 rfl (i := 0) rfl <|
    am_getR (ci := 10) (i := 0) rfl rfl rfl (Nat.le_of_ble_eq_true rfl) w_1318 d_Model_lengthOf_57 <|
    am_iload_n d_Model_lengthOf_60 rfl (i := 1) rfl <|
    am_iald rfl q0 d_Model_lengthOf_61 <|
    am_iconst (v := 1) d_Model_lengthOf_62 (by decide) <|
    am_icmp_ne (tgt := 73) d_Model_lengthOf_63 (by decide) kt kf
theorem b_Model_lengthOf_66 {d : Nat} {x1 : Int32} {x2 : Int32} {x3 : Int32} {x4 : Int32} {x5 : Int32} {h : am_H} {Q : am_Q} (k : am_W (X_Model_lengthOf d) 92 [some (.ref 0), some (.int x1), some (.int x2), some (.int x3), some (.int x4), some (.int x5)] [.int (x5 - 1)] h Q) : am_W (X_Model_lengthOf d) 66 [some (.ref 0), some (.int x1), some (.int x2), some (.int x3), some (.int x4), some (.int x5)] [] h Q :=
  am_iload d_Model_lengthOf_66 rfl <|
    am_iconst (v := 1) d_Model_lengthOf_68 (by decide) <|
    am_isub d_Model_lengthOf_69 <|
    am_goto (tgt := 92) d_Model_lengthOf_70 (by decide) k
theorem b_Model_lengthOf_73 {d : Nat} {x1 : Int32} {x2 : Int32} {x3 : Int32} {x4 : Int32} {x5 : Int32} {h : am_H} {Q : am_Q} (q0 : vp_in x1 54) (kt : ¬ (h.1 1 x1.toNatClampNeg) = 2 → am_W (X_Model_lengthOf d) 90 [some (.ref 0), some (.int x1), some (.int x2), some (.int x3), some (.int x4), some (.int x5)] [] h Q) (kf : (h.1 1 x1.toNatClampNeg) = 2 → am_W (X_Model_lengthOf d) 83 [some (.ref 0), some (.int x1), some (.int x2), some (.int x3), some (.int x4), some (.int x5)] [] h Q) : am_W (X_Model_lengthOf d) 73 [some (.ref 0), some (.int x1), some (.int x2), some (.int x3), some (.int x4), some (.int x5)] [] h Q :=
  am_aload_n d_Model_lengthOf_73 rfl (i := 0) rfl <|
    am_getR (ci := 10) (i := 0) rfl rfl rfl (Nat.le_of_ble_eq_true rfl) w_1318 d_Model_lengthOf_74 <|
    am_iload_n d_Model_lengthOf_77 rfl (i := 1) rfl <|
    am_iald rfl q0 d_Model_lengthOf_78 <|
    am_iconst (v := 2) d_Model_lengthOf_79 (by decide) <|
    am_icmp_ne (tgt := 90) d_Model_lengthOf_80 (by decide) kt kf
theorem b_Model_lengthOf_83 {d : Nat} {x1 : Int32} {x2 : Int32} {x3 : Int32} {x4 : Int32} {x5 : Int32} {h : am_H} {Q : am_Q} (k : am_W (X_Model_lengthOf d) 92 [some (.ref 0), some (.int x1), some (.int x2), some (.int x3), some (.int x4), some (.int x5)] [.int (x5 / 2)] h Q) : am_W (X_Model_lengthOf d) 83 [some (.ref 0), some (.int x1), some (.int x2), some (.int x3), some (.int x4), some (.int x5)] [] h Q :=
  am_iload d_Model_lengthOf_83 rfl <|
    am_iconst (v := 2) d_Model_lengthOf_85 (by decide) <|
    am_idiv d_Model_lengthOf_86 (by decide) <|
    am_goto (tgt := 92) d_Model_lengthOf_87 (by decide) k
theorem b_Model_lengthOf_90 {d : Nat} {x1 : Int32} {x2 : Int32} {x3 : Int32} {x4 : Int32} {x5 : Int32} {h : am_H} {Q : am_Q} (k : am_W (X_Model_lengthOf d) 92 [some (.ref 0), some (.int x1), some (.int x2), some (.int x3), some (.int x4), some (.int x5)] [.int x5] h Q) : am_W (X_Model_lengthOf d) 90 [some (.ref 0), some (.int x1), some (.int x2), some (.int x3), some (.int x4), some (.int x5)] [] h Q :=
  am_iload d_Model_lengthOf_90 rfl <|
    k
theorem b_Model_lengthOf_92 {d : Nat} {x1 : Int32} {x2 : Int32} {x3 : Int32} {x4 : Int32} {x5 : Int32} {y0 : Int32} {h : am_H} {Q : am_Q} (kt : 0 ≤ y0 → am_W (X_Model_lengthOf d) 103 [some (.ref 0), some (.int x1), some (.int x2), some (.int x3), some (.int x4), some (.int y0)] [] h Q) (kf : ¬ 0 ≤ y0 → am_W (X_Model_lengthOf d) 99 [some (.ref 0), some (.int x1), some (.int x2), some (.int x3), some (.int x4), some (.int y0)] [] h Q) : am_W (X_Model_lengthOf d) 92 [some (.ref 0), some (.int x1), some (.int x2), some (.int x3), some (.int x4), some (.int x5)] [.int y0] h Q :=
  am_istore (ls' := [some (.ref 0), some (.int x1), some (.int x2), some (.int x3), some (.int x4), some (.int y0)]) d_Model_lengthOf_92 (Nat.le_of_ble_eq_true rfl) rfl <|
    am_iload d_Model_lengthOf_94 rfl <|
    am_if_ge (tgt := 103) d_Model_lengthOf_96 (by decide) kt kf
theorem b_Model_lengthOf_99 {d : Nat} {x1 : Int32} {x2 : Int32} {x3 : Int32} {x4 : Int32} {x5 : Int32} {h : am_H} {Q : am_Q} (q : Q (some (.int 0)) h) : am_W (X_Model_lengthOf d) 99 [some (.ref 0), some (.int x1), some (.int x2), some (.int x3), some (.int x4), some (.int x5)] [] h Q :=
  am_iconst (v := 0) d_Model_lengthOf_99 (by decide) <|
    am_goto (tgt := 105) d_Model_lengthOf_100 (by decide) <|
    am_iret rfl d_Model_lengthOf_105 q
theorem b_Model_lengthOf_103 {d : Nat} {x1 : Int32} {x2 : Int32} {x3 : Int32} {x4 : Int32} {x5 : Int32} {h : am_H} {Q : am_Q} (q : Q (some (.int x5)) h) : am_W (X_Model_lengthOf d) 103 [some (.ref 0), some (.int x1), some (.int x2), some (.int x3), some (.int x4), some (.int x5)] [] h Q :=
  am_iload d_Model_lengthOf_103 rfl <|
    am_iret rfl d_Model_lengthOf_105 q
theorem t_Model_lengthOf_103 {d : Nat} {x1 : Int32} {x2 : Int32} {x3 : Int32} {x4 : Int32} {x5 : Int32} {h : am_H} {Q : am_Q} {res : Int32} (e : f_Model_lengthOf_103 h x5 = some res) (q : Q (some (.int res)) h) : am_W (X_Model_lengthOf d) 103 [some (.ref 0), some (.int x1), some (.int x2), some (.int x3), some (.int x4), some (.int x5)] [] h Q :=
  b_Model_lengthOf_103 (d := d) (q := (am_rIp (v := x5) e q))
theorem t_Model_lengthOf_99 {d : Nat} {x1 : Int32} {x2 : Int32} {x3 : Int32} {x4 : Int32} {x5 : Int32} {h : am_H} {Q : am_Q} {res : Int32} (e : f_Model_lengthOf_99 h = some res) (q : Q (some (.int res)) h) : am_W (X_Model_lengthOf d) 99 [some (.ref 0), some (.int x1), some (.int x2), some (.int x3), some (.int x4), some (.int x5)] [] h Q :=
  b_Model_lengthOf_99 (d := d) (q := (am_rIp (v := 0) e q))
theorem t_Model_lengthOf_92 {d : Nat} {x1 : Int32} {x2 : Int32} {x3 : Int32} {x4 : Int32} {x5 : Int32} {y0 : Int32} {h : am_H} {Q : am_Q} {res : Int32} (e : f_Model_lengthOf_92 h y0 = some res) (q : Q (some (.int res)) h) : am_W (X_Model_lengthOf d) 92 [some (.ref 0), some (.int x1), some (.int x2), some (.int x3), some (.int x4), some (.int x5)] [.int y0] h Q :=
  b_Model_lengthOf_92 (d := d) (kt := fun c => (t_Model_lengthOf_103 (am_ift e c) q)) (kf := fun c => (t_Model_lengthOf_99 (am_ife e c) q))
theorem t_Model_lengthOf_90 {d : Nat} {x1 : Int32} {x2 : Int32} {x3 : Int32} {x4 : Int32} {x5 : Int32} {h : am_H} {Q : am_Q} {res : Int32} (e : f_Model_lengthOf_90 h x5 = some res) (q : Q (some (.int res)) h) : am_W (X_Model_lengthOf d) 90 [some (.ref 0), some (.int x1), some (.int x2), some (.int x3), some (.int x4), some (.int x5)] [] h Q :=
  b_Model_lengthOf_90 (d := d) (k := (t_Model_lengthOf_92 e q))
theorem t_Model_lengthOf_83 {d : Nat} {x1 : Int32} {x2 : Int32} {x3 : Int32} {x4 : Int32} {x5 : Int32} {h : am_H} {Q : am_Q} {res : Int32} (e : f_Model_lengthOf_83 h x5 = some res) (q : Q (some (.int res)) h) : am_W (X_Model_lengthOf d) 83 [some (.ref 0), some (.int x1), some (.int x2), some (.int x3), some (.int x4), some (.int x5)] [] h Q :=
  b_Model_lengthOf_83 (d := d) (k := (t_Model_lengthOf_92 e q))
theorem t_Model_lengthOf_73 {d : Nat} {x1 : Int32} {x2 : Int32} {x3 : Int32} {x4 : Int32} {x5 : Int32} {h : am_H} {Q : am_Q} {res : Int32} (e : f_Model_lengthOf_73 h x1 x5 = some res) (q : Q (some (.int res)) h) : am_W (X_Model_lengthOf d) 73 [some (.ref 0), some (.int x1), some (.int x2), some (.int x3), some (.int x4), some (.int x5)] [] h Q :=
  b_Model_lengthOf_73 (d := d) (q0 := (am_okv (am_gd e))) (kt := fun c => (t_Model_lengthOf_90 (am_ife (am_ga e) c) q)) (kf := fun c => (t_Model_lengthOf_83 (am_ift (am_ga e) c) q))
theorem t_Model_lengthOf_66 {d : Nat} {x1 : Int32} {x2 : Int32} {x3 : Int32} {x4 : Int32} {x5 : Int32} {h : am_H} {Q : am_Q} {res : Int32} (e : f_Model_lengthOf_66 h x5 = some res) (q : Q (some (.int res)) h) : am_W (X_Model_lengthOf d) 66 [some (.ref 0), some (.int x1), some (.int x2), some (.int x3), some (.int x4), some (.int x5)] [] h Q :=
  b_Model_lengthOf_66 (d := d) (k := (t_Model_lengthOf_92 e q))
theorem t_Model_lengthOf_48 {d : Nat} {x1 : Int32} {x2 : Int32} {x3 : Int32} {y0 : Int32} {h : am_H} {Q : am_Q} {res : Int32} (e : f_Model_lengthOf_48 h x1 x2 y0 = some res) (q : Q (some (.int res)) h) : am_W (X_Model_lengthOf d) 48 [some (.ref 0), some (.int x1), some (.int x2), some (.int x3), none, none] [.int y0] h Q :=
  b_Model_lengthOf_48 (d := d) (q0 := (am_okv (am_gd e))) (kt := fun c => (t_Model_lengthOf_73 (am_ife (am_ga e) c) q)) (kf := fun c => (t_Model_lengthOf_66 (am_ift (am_ga e) c) q))
theorem t_Model_lengthOf_41 {d : Nat} {x1 : Int32} {x2 : Int32} {x3 : Int32} {h : am_H} {Q : am_Q} {res : Int32} (e : f_Model_lengthOf_41 h x1 x2 = some res) (q : Q (some (.int res)) h) : am_W (X_Model_lengthOf d) 41 [some (.ref 0), some (.int x1), some (.int x2), some (.int x3), none, none] [] h Q :=
  b_Model_lengthOf_41 (d := d) (k := (t_Model_lengthOf_48 e q))
theorem t_Model_lengthOf_30 {d : Nat} {x1 : Int32} {x2 : Int32} {x3 : Int32} {h : am_H} {Q : am_Q} {res : Int32} (e : f_Model_lengthOf_30 h x1 x2 = some res) (q : Q (some (.int res)) h) : am_W (X_Model_lengthOf d) 30 [some (.ref 0), some (.int x1), some (.int x2), some (.int x3), none, none] [] h Q :=
  b_Model_lengthOf_30 (d := d) (k := (t_Model_lengthOf_48 e q))
theorem t_Model_lengthOf_26 {d : Nat} {x1 : Int32} {x2 : Int32} {x3 : Int32} {h : am_H} {Q : am_Q} {res : Int32} (e : f_Model_lengthOf_26 h x1 x2 x3 = some res) (q : Q (some (.int res)) h) : am_W (X_Model_lengthOf d) 26 [some (.ref 0), some (.int x1), some (.int x2), some (.int x3), none, none] [] h Q :=
  b_Model_lengthOf_26 (d := d) (kt := fun c => (t_Model_lengthOf_41 (am_ift e c) q)) (kf := fun c => (t_Model_lengthOf_30 (am_ife e c) q))
theorem t_Model_lengthOf_22 {d : Nat} {x1 : Int32} {x2 : Int32} {x3 : Int32} {h : am_H} {Q : am_Q} {res : Int32} (e : f_Model_lengthOf_22 h x1 x2 = some res) (q : Q (some (.int res)) h) : am_W (X_Model_lengthOf d) 22 [some (.ref 0), some (.int x1), some (.int x2), some (.int x3), none, none] [] h Q :=
  b_Model_lengthOf_22 (d := d) (k := (t_Model_lengthOf_48 e q))
theorem t_Model_lengthOf_16 {d : Nat} {x1 : Int32} {x2 : Int32} {y0 : Int32} {h : am_H} {Q : am_Q} {res : Int32} (e : f_Model_lengthOf_16 h x1 x2 y0 = some res) (q : Q (some (.int res)) h) : am_W (X_Model_lengthOf d) 16 [some (.ref 0), some (.int x1), some (.int x2), none, none, none] [.int y0] h Q :=
  b_Model_lengthOf_16 (d := d) (kt := fun c => (t_Model_lengthOf_26 (am_ift e c) q)) (kf := fun c => (t_Model_lengthOf_22 (am_ife e c) q))
theorem t_Model_lengthOf_15 {d : Nat} {x1 : Int32} {x2 : Int32} {h : am_H} {Q : am_Q} {res : Int32} (e : f_Model_lengthOf_15 h x1 x2 = some res) (q : Q (some (.int res)) h) : am_W (X_Model_lengthOf d) 15 [some (.ref 0), some (.int x1), some (.int x2), none, none, none] [] h Q :=
  b_Model_lengthOf_15 (d := d) (k := (t_Model_lengthOf_16 e q))
theorem t_Model_lengthOf_11 {d : Nat} {x1 : Int32} {x2 : Int32} {h : am_H} {Q : am_Q} {res : Int32} (e : f_Model_lengthOf_11 h x1 x2 = some res) (q : Q (some (.int res)) h) : am_W (X_Model_lengthOf d) 11 [some (.ref 0), some (.int x1), some (.int x2), none, none, none] [] h Q :=
  b_Model_lengthOf_11 (d := d) (k := (t_Model_lengthOf_16 e q))
theorem t_Model_lengthOf_0 {d : Nat} {x1 : Int32} {x2 : Int32} {h : am_H} {Q : am_Q} {res : Int32} (e : f_Model_lengthOf h x1 x2 = some res) (q : Q (some (.int res)) h) : am_W (X_Model_lengthOf d) 0 [some (.ref 0), some (.int x1), some (.int x2), none, none, none] [] h Q :=
  b_Model_lengthOf_0 (d := d) (kt := fun c => (t_Model_lengthOf_15 (am_ift e c) q)) (kf := fun c => (t_Model_lengthOf_11 (am_ife e c) q))
theorem c_Model_lengthOf {d : Nat} {x1 : Int32} {x2 : Int32} {h : am_H} {Q : am_Q} {res : Int32} (e : f_Model_lengthOf h x1 x2 = some res) (q : Q (some (.int res)) h) : m_Model_lengthOf d [.ref 0, .int x1, .int x2] h Q :=
  e_Model_lengthOf (t_Model_lengthOf_0 e q)
theorem d_Model_downOf_0 : decode prog_12_method_36_code 0 = .ok (.aload_n 0, 1) := by decide +kernel
theorem d_Model_downOf_1 : decode prog_12_method_36_code 1 = .ok (.iload_n 1, 1) := by decide +kernel
theorem d_Model_downOf_2 : decode prog_12_method_36_code 2 = .ok (.iload_n 2, 1) := by decide +kernel
theorem d_Model_downOf_3 : decode prog_12_method_36_code 3 = .ok (.invokevirtual 207, 3) := by decide +kernel
theorem d_Model_downOf_6 : decode prog_12_method_36_code 6 = .ok (.istore 4, 2) := by decide +kernel
theorem d_Model_downOf_8 : decode prog_12_method_36_code 8 = .ok (.iload_n 1, 1) := by decide +kernel
theorem d_Model_downOf_9 : decode prog_12_method_36_code 9 = .ok (.aload_n 0, 1) := by decide +kernel
theorem d_Model_downOf_10 : decode prog_12_method_36_code 10 = .ok (.getfield 11, 3) := by decide +kernel
theorem d_Model_downOf_13 : decode prog_12_method_36_code 13 = .ok (.bipush 49, 2) := by decide +kernel
theorem d_Model_downOf_15 : decode prog_12_method_36_code 15 = .ok (.iaload, 1) := by decide +kernel
theorem d_Model_downOf_16 : decode prog_12_method_36_code 16 = .ok (.if_icmp .le 10, 3) := by decide +kernel
theorem d_Model_downOf_19 : decode prog_12_method_36_code 19 = .ok (.iload_n 1, 1) := by decide +kernel
theorem d_Model_downOf_20 : decode prog_12_method_36_code 20 = .ok (.iload 4, 2) := by decide +kernel
theorem d_Model_downOf_22 : decode prog_12_method_36_code 22 = .ok (.isub, 1) := by decide +kernel
theorem d_Model_downOf_23 : decode prog_12_method_36_code 23 = .ok (.goto 7, 3) := by decide +kernel
theorem d_Model_downOf_26 : decode prog_12_method_36_code 26 = .ok (.iload_n 1, 1) := by decide +kernel
theorem d_Model_downOf_27 : decode prog_12_method_36_code 27 = .ok (.iload 4, 2) := by decide +kernel
theorem d_Model_downOf_29 : decode prog_12_method_36_code 29 = .ok (.iadd, 1) := by decide +kernel
theorem d_Model_downOf_30 : decode prog_12_method_36_code 30 = .ok (.iload_n 3, 1) := by decide +kernel
theorem d_Model_downOf_31 : decode prog_12_method_36_code 31 = .ok (.iadd, 1) := by decide +kernel
theorem d_Model_downOf_32 : decode prog_12_method_36_code 32 = .ok (.istore 5, 2) := by decide +kernel
theorem d_Model_downOf_34 : decode prog_12_method_36_code 34 = .ok (.iload 5, 2) := by decide +kernel
theorem d_Model_downOf_36 : decode prog_12_method_36_code 36 = .ok (.ifCond .ge 7, 3) := by decide +kernel
theorem d_Model_downOf_39 : decode prog_12_method_36_code 39 = .ok (.iconst 0, 1) := by decide +kernel
theorem d_Model_downOf_40 : decode prog_12_method_36_code 40 = .ok (.goto 17, 3) := by decide +kernel
theorem d_Model_downOf_43 : decode prog_12_method_36_code 43 = .ok (.iload 5, 2) := by decide +kernel
theorem d_Model_downOf_45 : decode prog_12_method_36_code 45 = .ok (.bipush 30, 2) := by decide +kernel
theorem d_Model_downOf_47 : decode prog_12_method_36_code 47 = .ok (.if_icmp .le 8, 3) := by decide +kernel
theorem d_Model_downOf_50 : decode prog_12_method_36_code 50 = .ok (.bipush 30, 2) := by decide +kernel
theorem d_Model_downOf_52 : decode prog_12_method_36_code 52 = .ok (.goto 5, 3) := by decide +kernel
theorem d_Model_downOf_55 : decode prog_12_method_36_code 55 = .ok (.iload 5, 2) := by decide +kernel
theorem d_Model_downOf_57 : decode prog_12_method_36_code 57 = .ok (.ireturn, 1) := by decide +kernel
theorem b_Model_downOf_0 {d : Nat} {x1 : Int32} {x2 : Int32} {x3 : Int32} {h : am_H} {Q : am_Q} (k : m_Model_lengthOf d [.ref 0, .int x1, .int x2] h (fun r hh => am_W (X_Model_downOf (d + 1)) 6 [some (.ref 0), some (.int x1), some (.int x2), some (.int x3), none, none] (r.toList ++ []) hh Q)) : am_W (X_Model_downOf (d + 1)) 0 [some (.ref 0), some (.int x1), some (.int x2), some (.int x3), none, none] [] h Q :=
  am_aload_n d_Model_downOf_0 rfl (i := 0) rfl <|
    am_iload_n d_Model_downOf_1 rfl (i := 1) rfl <|
    am_iload_n d_Model_downOf_2 rfl (i := 2) rfl <|
    am_callV (vs := [.int x1, .int x2]) (st := []) (k := 0) (ci := 10) rfl d_Model_downOf_3 rfl rfl w_1582 w_1584 w_55 w_94 w_1585 p_Model_lengthOf (Nat.le_of_ble_eq_true rfl) (Nat.le_of_ble_eq_true rfl) rfl k
theorem b_Model_downOf_6 {d : Nat} {x1 : Int32} {x2 : Int32} {x3 : Int32} {y0 : Int32} {h : am_H} {Q : am_Q} (kt : x1 ≤ (h.1 1 (49 : Int32).toNatClampNeg) → am_W (X_Model_downOf d) 26 [some (.ref 0), some (.int x1), some (.int x2), some (.int x3), some (.int y0), none] [] h Q) (kf : ¬ x1 ≤ (h.1 1 (49 : Int32).toNatClampNeg) → am_W (X_Model_downOf d) 19 [some (.ref 0), some (.int x1), some (.int x2), some (.int x3), some (.int y0), none] [] h Q) : am_W (X_Model_downOf d) 6 [some (.ref 0), some (.int x1), some (.int x2), some (.int x3), none, none] [.int y0] h Q :=
  am_istore (ls' := [some (.ref 0), some (.int x1), some (.int x2), some (.int x3), some (.int y0), none]) d_Model_downOf_6 (Nat.le_of_ble_eq_true rfl) rfl <|
    am_iload_n d_Model_downOf_8 rfl (i := 1) rfl <|
    am_aload_n d_Model_downOf_9 rfl (i := 0) rfl <|
    am_getR (ci := 10) (i := 0) rfl rfl rfl (Nat.le_of_ble_eq_true rfl) w_1318 d_Model_downOf_10 <|
    am_bipush (v := 49) d_Model_downOf_13 (by decide) <|
    am_iald rfl (am_vin (by decide)) d_Model_downOf_15 <|
    am_icmp_le (tgt := 26) d_Model_downOf_16 (by decide) kt kf
theorem b_Model_downOf_19 {d : Nat} {x1 : Int32} {x2 : Int32} {x3 : Int32} {x4 : Int32} {h : am_H} {Q : am_Q} (k : am_W (X_Model_downOf d) 30 [some (.ref 0), some (.int x1), some (.int x2), some (.int x3), some (.int x4), none] [.int (x1 - x4)] h Q) : am_W (X_Model_downOf d) 19 [some (.ref 0), some (.int x1), some (.int x2), some (.int x3), some (.int x4), none] [] h Q :=
  am_iload_n d_Model_downOf_19 rfl (i := 1) rfl <|
    am_iload d_Model_downOf_20 rfl <|
    am_isub d_Model_downOf_22 <|
    am_goto (tgt := 30) d_Model_downOf_23 (by decide) k
theorem b_Model_downOf_26 {d : Nat} {x1 : Int32} {x2 : Int32} {x3 : Int32} {x4 : Int32} {h : am_H} {Q : am_Q} (k : am_W (X_Model_downOf d) 30 [some (.ref 0), some (.int x1), some (.int x2), some (.int x3), some (.int x4), none] [.int (x1 + x4)] h Q) : am_W (X_Model_downOf d) 26 [some (.ref 0), some (.int x1), some (.int x2), some (.int x3), some (.int x4), none] [] h Q :=
  am_iload_n d_Model_downOf_26 rfl (i := 1) rfl <|
    am_iload d_Model_downOf_27 rfl <|
    am_iadd d_Model_downOf_29 <|
    k
theorem b_Model_downOf_30 {d : Nat} {x1 : Int32} {x2 : Int32} {x3 : Int32} {x4 : Int32} {y0 : Int32} {h : am_H} {Q : am_Q} (kt : 0 ≤ (y0 + x3) → am_W (X_Model_downOf d) 43 [some (.ref 0), some (.int x1), some (.int x2), some (.int x3), some (.int x4), some (.int (y0 + x3))] [] h Q) (kf : ¬ 0 ≤ (y0 + x3) → am_W (X_Model_downOf d) 39 [some (.ref 0), some (.int x1), some (.int x2), some (.int x3), some (.int x4), some (.int (y0 + x3))] [] h Q) : am_W (X_Model_downOf d) 30 [some (.ref 0), some (.int x1), some (.int x2), some (.int x3), some (.int x4), none] [.int y0] h Q :=
  am_iload_n d_Model_downOf_30 rfl (i := 3) rfl <|
    am_iadd d_Model_downOf_31 <|
    am_istore (ls' := [some (.ref 0), some (.int x1), some (.int x2), some (.int x3), some (.int x4), some (.int (y0 + x3))]) d_Model_downOf_32 (Nat.le_of_ble_eq_true rfl) rfl <|
    am_iload d_Model_downOf_34 rfl <|
    am_if_ge (tgt := 43) d_Model_downOf_36 (by decide) kt kf
theorem b_Model_downOf_39 {d : Nat} {x1 : Int32} {x2 : Int32} {x3 : Int32} {x4 : Int32} {x5 : Int32} {h : am_H} {Q : am_Q} (q : Q (some (.int 0)) h) : am_W (X_Model_downOf d) 39 [some (.ref 0), some (.int x1), some (.int x2), some (.int x3), some (.int x4), some (.int x5)] [] h Q :=
  am_iconst (v := 0) d_Model_downOf_39 (by decide) <|
    am_goto (tgt := 57) d_Model_downOf_40 (by decide) <|
    am_iret rfl d_Model_downOf_57 q
theorem b_Model_downOf_43 {d : Nat} {x1 : Int32} {x2 : Int32} {x3 : Int32} {x4 : Int32} {x5 : Int32} {h : am_H} {Q : am_Q} (kt : x5 ≤ 30 → am_W (X_Model_downOf d) 55 [some (.ref 0), some (.int x1), some (.int x2), some (.int x3), some (.int x4), some (.int x5)] [] h Q) (kf : ¬ x5 ≤ 30 → am_W (X_Model_downOf d) 50 [some (.ref 0), some (.int x1), some (.int x2), some (.int x3), some (.int x4), some (.int x5)] [] h Q) : am_W (X_Model_downOf d) 43 [some (.ref 0), some (.int x1), some (.int x2), some (.int x3), some (.int x4), some (.int x5)] [] h Q :=
  am_iload d_Model_downOf_43 rfl <|
    am_bipush (v := 30) d_Model_downOf_45 (by decide) <|
    am_icmp_le (tgt := 55) d_Model_downOf_47 (by decide) kt kf
theorem b_Model_downOf_50 {d : Nat} {x1 : Int32} {x2 : Int32} {x3 : Int32} {x4 : Int32} {x5 : Int32} {h : am_H} {Q : am_Q} (q : Q (some (.int 30)) h) : am_W (X_Model_downOf d) 50 [some (.ref 0), some (.int x1), some (.int x2), some (.int x3), some (.int x4), some (.int x5)] [] h Q :=
  am_bipush (v := 30) d_Model_downOf_50 (by decide) <|
    am_goto (tgt := 57) d_Model_downOf_52 (by decide) <|
    am_iret rfl d_Model_downOf_57 q
theorem b_Model_downOf_55 {d : Nat} {x1 : Int32} {x2 : Int32} {x3 : Int32} {x4 : Int32} {x5 : Int32} {h : am_H} {Q : am_Q} (q : Q (some (.int x5)) h) : am_W (X_Model_downOf d) 55 [some (.ref 0), some (.int x1), some (.int x2), some (.int x3), some (.int x4), some (.int x5)] [] h Q :=
  am_iload d_Model_downOf_55 rfl <|
    am_iret rfl d_Model_downOf_57 q
theorem t_Model_downOf_55 {d : Nat} {x1 : Int32} {x2 : Int32} {x3 : Int32} {x4 : Int32} {x5 : Int32} {h : am_H} {Q : am_Q} {res : Int32} (e : f_Model_downOf_55 h x5 = some res) (q : Q (some (.int res)) h) : am_W (X_Model_downOf (d + 1)) 55 [some (.ref 0), some (.int x1), some (.int x2), some (.int x3), some (.int x4), some (.int x5)] [] h Q :=
  b_Model_downOf_55 (d := (d + 1)) (q := (am_rIp (v := x5) e q))
theorem t_Model_downOf_50 {d : Nat} {x1 : Int32} {x2 : Int32} {x3 : Int32} {x4 : Int32} {x5 : Int32} {h : am_H} {Q : am_Q} {res : Int32} (e : f_Model_downOf_50 h = some res) (q : Q (some (.int res)) h) : am_W (X_Model_downOf (d + 1)) 50 [some (.ref 0), some (.int x1), some (.int x2), some (.int x3), some (.int x4), some (.int x5)] [] h Q :=
  b_Model_downOf_50 (d := (d + 1)) (q := (am_rIp (v := 30) e q))
theorem t_Model_downOf_43 {d : Nat} {x1 : Int32} {x2 : Int32} {x3 : Int32} {x4 : Int32} {x5 : Int32} {h : am_H} {Q : am_Q} {res : Int32} (e : f_Model_downOf_43 h x5 = some res) (q : Q (some (.int res)) h) : am_W (X_Model_downOf (d + 1)) 43 [some (.ref 0), some (.int x1), some (.int x2), some (.int x3), some (.int x4), some (.int x5)] [] h Q :=
  b_Model_downOf_43 (d := (d + 1)) (kt := fun c => (t_Model_downOf_55 (am_ift e c) q)) (kf := fun c => (t_Model_downOf_50 (am_ife e c) q))
theorem t_Model_downOf_39 {d : Nat} {x1 : Int32} {x2 : Int32} {x3 : Int32} {x4 : Int32} {x5 : Int32} {h : am_H} {Q : am_Q} {res : Int32} (e : f_Model_downOf_39 h = some res) (q : Q (some (.int res)) h) : am_W (X_Model_downOf (d + 1)) 39 [some (.ref 0), some (.int x1), some (.int x2), some (.int x3), some (.int x4), some (.int x5)] [] h Q :=
  b_Model_downOf_39 (d := (d + 1)) (q := (am_rIp (v := 0) e q))
theorem t_Model_downOf_30 {d : Nat} {x1 : Int32} {x2 : Int32} {x3 : Int32} {x4 : Int32} {y0 : Int32} {h : am_H} {Q : am_Q} {res : Int32} (e : f_Model_downOf_30 h x3 y0 = some res) (q : Q (some (.int res)) h) : am_W (X_Model_downOf (d + 1)) 30 [some (.ref 0), some (.int x1), some (.int x2), some (.int x3), some (.int x4), none] [.int y0] h Q :=
  b_Model_downOf_30 (d := (d + 1)) (kt := fun c => (t_Model_downOf_43 (am_ift e c) q)) (kf := fun c => (t_Model_downOf_39 (am_ife e c) q))
theorem t_Model_downOf_26 {d : Nat} {x1 : Int32} {x2 : Int32} {x3 : Int32} {x4 : Int32} {h : am_H} {Q : am_Q} {res : Int32} (e : f_Model_downOf_26 h x1 x3 x4 = some res) (q : Q (some (.int res)) h) : am_W (X_Model_downOf (d + 1)) 26 [some (.ref 0), some (.int x1), some (.int x2), some (.int x3), some (.int x4), none] [] h Q :=
  b_Model_downOf_26 (d := (d + 1)) (k := (t_Model_downOf_30 e q))
theorem t_Model_downOf_19 {d : Nat} {x1 : Int32} {x2 : Int32} {x3 : Int32} {x4 : Int32} {h : am_H} {Q : am_Q} {res : Int32} (e : f_Model_downOf_19 h x1 x3 x4 = some res) (q : Q (some (.int res)) h) : am_W (X_Model_downOf (d + 1)) 19 [some (.ref 0), some (.int x1), some (.int x2), some (.int x3), some (.int x4), none] [] h Q :=
  b_Model_downOf_19 (d := (d + 1)) (k := (t_Model_downOf_30 e q))
theorem t_Model_downOf_6 {d : Nat} {x1 : Int32} {x2 : Int32} {x3 : Int32} {y0 : Int32} {h : am_H} {Q : am_Q} {res : Int32} (e : f_Model_downOf_6 h x1 x3 y0 = some res) (q : Q (some (.int res)) h) : am_W (X_Model_downOf (d + 1)) 6 [some (.ref 0), some (.int x1), some (.int x2), some (.int x3), none, none] [.int y0] h Q :=
  b_Model_downOf_6 (d := (d + 1)) (kt := fun c => (t_Model_downOf_26 (am_ift e c) q)) (kf := fun c => (t_Model_downOf_19 (am_ife e c) q))
theorem t_Model_downOf_0 {d : Nat} {x1 : Int32} {x2 : Int32} {x3 : Int32} {h : am_H} {Q : am_Q} {res : Int32} (e : f_Model_downOf h x1 x2 x3 = some res) (q : Q (some (.int res)) h) : am_W (X_Model_downOf (d + 1)) 0 [some (.ref 0), some (.int x1), some (.int x2), some (.int x3), none, none] [] h Q :=
  (am_bd e).elim fun p hp => b_Model_downOf_0 (d := d) (k := c_Model_lengthOf (d := d) hp.1 (t_Model_downOf_6 hp.2 q))
theorem c_Model_downOf {d : Nat} {x1 : Int32} {x2 : Int32} {x3 : Int32} {h : am_H} {Q : am_Q} {res : Int32} (e : f_Model_downOf h x1 x2 x3 = some res) (q : Q (some (.int res)) h) : m_Model_downOf (d + 1) [.ref 0, .int x1, .int x2, .int x3] h Q :=
  e_Model_downOf (t_Model_downOf_0 e q)
theorem d_Model_isCc_0 : decode prog_12_method_37_code 0 = .ok (.iload_n 1, 1) := by decide +kernel
theorem d_Model_isCc_1 : decode prog_12_method_37_code 1 = .ok (.ifCond .lt 41, 3) := by decide +kernel
theorem d_Model_isCc_4 : decode prog_12_method_37_code 4 = .ok (.iload_n 1, 1) := by decide +kernel
theorem d_Model_isCc_5 : decode prog_12_method_37_code 5 = .ok (.bipush 10, 2) := by decide +kernel
theorem d_Model_isCc_7 : decode prog_12_method_37_code 7 = .ok (.idiv, 1) := by decide +kernel
theorem d_Model_isCc_8 : decode prog_12_method_37_code 8 = .ok (.i2l, 1) := by decide +kernel
theorem d_Model_isCc_9 : decode prog_12_method_37_code 9 = .ok (.invokestatic 110, 3) := by decide +kernel
theorem d_Model_isCc_12 : decode prog_12_method_37_code 12 = .ok (.ifCond .eq 30, 3) := by decide +kernel
theorem d_Model_isCc_15 : decode prog_12_method_37_code 15 = .ok (.aload_n 0, 1) := by decide +kernel
theorem d_Model_isCc_16 : decode prog_12_method_37_code 16 = .ok (.iload_n 1, 1) := by decide +kernel
theorem d_Model_isCc_17 : decode prog_12_method_37_code 17 = .ok (.bipush 10, 2) := by decide +kernel
theorem d_Model_isCc_19 : decode prog_12_method_37_code 19 = .ok (.irem, 1) := by decide +kernel
theorem d_Model_isCc_20 : decode prog_12_method_37_code 20 = .ok (.i2l, 1) := by decide +kernel
theorem d_Model_isCc_21 : decode prog_12_method_37_code 21 = .ok (.invokevirtual 114, 3) := by decide +kernel
theorem d_Model_isCc_24 : decode prog_12_method_37_code 24 = .ok (.ifCond .eq 18, 3) := by decide +kernel
theorem d_Model_isCc_27 : decode prog_12_method_37_code 27 = .ok (.aload_n 0, 1) := by decide +kernel
theorem d_Model_isCc_28 : decode prog_12_method_37_code 28 = .ok (.iload_n 1, 1) := by decide +kernel
theorem d_Model_isCc_29 : decode prog_12_method_37_code 29 = .ok (.bipush 10, 2) := by decide +kernel
theorem d_Model_isCc_31 : decode prog_12_method_37_code 31 = .ok (.idiv, 1) := by decide +kernel
theorem d_Model_isCc_32 : decode prog_12_method_37_code 32 = .ok (.invokevirtual 89, 3) := by decide +kernel
theorem d_Model_isCc_35 : decode prog_12_method_37_code 35 = .ok (.ifCond .ne 7, 3) := by decide +kernel
theorem d_Model_isCc_38 : decode prog_12_method_37_code 38 = .ok (.iconst 1, 1) := by decide +kernel
theorem d_Model_isCc_39 : decode prog_12_method_37_code 39 = .ok (.goto 4, 3) := by decide +kernel
theorem d_Model_isCc_42 : decode prog_12_method_37_code 42 = .ok (.iconst 0, 1) := by decide +kernel
theorem d_Model_isCc_43 : decode prog_12_method_37_code 43 = .ok (.ireturn, 1) := by decide +kernel
theorem b_Model_isCc_0 {d : Nat} {x1 : Int32} {h : am_H} {Q : am_Q} (kt : x1 < 0 → am_W (X_Model_isCc d) 42 [some (.ref 0), some (.int x1)] [] h Q) (kf : ¬ x1 < 0 → am_W (X_Model_isCc d) 4 [some (.ref 0), some (.int x1)] [] h Q) : am_W (X_Model_isCc d) 0 [some (.ref 0), some (.int x1)] [] h Q :=
  am_iload_n d_Model_isCc_0 rfl (i := 1) rfl <|
    am_if_lt (tgt := 42) d_Model_isCc_1 (by decide) kt kf
theorem b_Model_isCc_4 {d : Nat} {x1 : Int32} {h : am_H} {Q : am_Q} (k : m_Model_isCell d [.long ((x1 / 10).toInt64)] h (fun r hh => am_W (X_Model_isCc (d + 1)) 12 [some (.ref 0), some (.int x1)] (r.toList ++ []) hh Q)) : am_W (X_Model_isCc (d + 1)) 4 [some (.ref 0), some (.int x1)] [] h Q :=
  am_iload_n d_Model_isCc_4 rfl (i := 1) rfl <|
    am_bipush (v := 10) d_Model_isCc_5 (by decide) <|
    am_idiv d_Model_isCc_7 (by decide) <|
    am_i2l d_Model_isCc_8 <|
    am_callS (vs := [.long ((x1 / 10).toInt64)]) (st := []) rfl d_Model_isCc_9 w_1469 w_1470 w_94 w_1471 p_Model_isCell (Nat.le_of_ble_eq_true rfl) (Nat.le_of_ble_eq_true rfl) rfl k
theorem b_Model_isCc_12 {d : Nat} {x1 : Int32} {y0 : Bool} {h : am_H} {Q : am_Q} (kt : (am_b y0) = 0 → am_W (X_Model_isCc d) 42 [some (.ref 0), some (.int x1)] [] h Q) (kf : ¬ (am_b y0) = 0 → am_W (X_Model_isCc d) 15 [some (.ref 0), some (.int x1)] [] h Q) : am_W (X_Model_isCc d) 12 [some (.ref 0), some (.int x1)] [.int (am_b y0)] h Q :=
  am_if_eq (tgt := 42) d_Model_isCc_12 (by decide) kt kf
theorem b_Model_isCc_15 {d : Nat} {x1 : Int32} {h : am_H} {Q : am_Q} (k : m_Model_isClub d [.ref 0, .long ((x1 - x1 / 10 * 10).toInt64)] h (fun r hh => am_W (X_Model_isCc (d + 1)) 24 [some (.ref 0), some (.int x1)] (r.toList ++ []) hh Q)) : am_W (X_Model_isCc (d + 1)) 15 [some (.ref 0), some (.int x1)] [] h Q :=
  am_aload_n d_Model_isCc_15 rfl (i := 0) rfl <|
    am_iload_n d_Model_isCc_16 rfl (i := 1) rfl <|
    am_bipush (v := 10) d_Model_isCc_17 (by decide) <|
    am_irem d_Model_isCc_19 (by decide) <|
    am_i2l d_Model_isCc_20 <|
    am_callV (vs := [.long ((x1 - x1 / 10 * 10).toInt64)]) (st := []) (k := 0) (ci := 10) rfl d_Model_isCc_21 rfl rfl w_1472 w_1474 w_36 w_94 w_1475 p_Model_isClub (Nat.le_of_ble_eq_true rfl) (Nat.le_of_ble_eq_true rfl) rfl k
theorem b_Model_isCc_24 {d : Nat} {x1 : Int32} {y0 : Bool} {h : am_H} {Q : am_Q} (kt : (am_b y0) = 0 → am_W (X_Model_isCc d) 42 [some (.ref 0), some (.int x1)] [] h Q) (kf : ¬ (am_b y0) = 0 → am_W (X_Model_isCc d) 27 [some (.ref 0), some (.int x1)] [] h Q) : am_W (X_Model_isCc d) 24 [some (.ref 0), some (.int x1)] [.int (am_b y0)] h Q :=
  am_if_eq (tgt := 42) d_Model_isCc_24 (by decide) kt kf
theorem b_Model_isCc_27 {d : Nat} {x1 : Int32} {h : am_H} {Q : am_Q} (k : m_Model_isGreen d [.ref 0, .int (x1 / 10)] h (fun r hh => am_W (X_Model_isCc (d + 1)) 35 [some (.ref 0), some (.int x1)] (r.toList ++ []) hh Q)) : am_W (X_Model_isCc (d + 1)) 27 [some (.ref 0), some (.int x1)] [] h Q :=
  am_aload_n d_Model_isCc_27 rfl (i := 0) rfl <|
    am_iload_n d_Model_isCc_28 rfl (i := 1) rfl <|
    am_bipush (v := 10) d_Model_isCc_29 (by decide) <|
    am_idiv d_Model_isCc_31 (by decide) <|
    am_callV (vs := [.int (x1 / 10)]) (st := []) (k := 0) (ci := 10) rfl d_Model_isCc_32 rfl rfl w_1550 w_1552 w_49 w_94 w_1553 p_Model_isGreen (Nat.le_of_ble_eq_true rfl) (Nat.le_of_ble_eq_true rfl) rfl k
theorem b_Model_isCc_35 {d : Nat} {x1 : Int32} {y0 : Bool} {h : am_H} {Q : am_Q} (kt : ¬ (am_b y0) = 0 → am_W (X_Model_isCc d) 42 [some (.ref 0), some (.int x1)] [] h Q) (kf : (am_b y0) = 0 → am_W (X_Model_isCc d) 38 [some (.ref 0), some (.int x1)] [] h Q) : am_W (X_Model_isCc d) 35 [some (.ref 0), some (.int x1)] [.int (am_b y0)] h Q :=
  am_if_ne (tgt := 42) d_Model_isCc_35 (by decide) kt kf
theorem b_Model_isCc_38 {d : Nat} {x1 : Int32} {h : am_H} {Q : am_Q} (q : Q (some (.int 1)) h) : am_W (X_Model_isCc d) 38 [some (.ref 0), some (.int x1)] [] h Q :=
  am_iconst (v := 1) d_Model_isCc_38 (by decide) <|
    am_goto (tgt := 43) d_Model_isCc_39 (by decide) <|
    am_zret (ty := .boolean) rfl (by decide) d_Model_isCc_43 q
theorem b_Model_isCc_42 {d : Nat} {x1 : Int32} {h : am_H} {Q : am_Q} (q : Q (some (.int 0)) h) : am_W (X_Model_isCc d) 42 [some (.ref 0), some (.int x1)] [] h Q :=
  am_iconst (v := 0) d_Model_isCc_42 (by decide) <|
    am_zret (ty := .boolean) rfl (by decide) d_Model_isCc_43 q
theorem t_Model_isCc_42 {d : Nat} {x1 : Int32} {h : am_H} {Q : am_Q} {res : Bool} (e : f_Model_isCc_42 h = some res) (q : Q (some (.int (am_b res))) h) : am_W (X_Model_isCc (d + 2)) 42 [some (.ref 0), some (.int x1)] [] h Q :=
  b_Model_isCc_42 (d := (d + 2)) (q := (am_rZp (v := false) e q))
theorem t_Model_isCc_38 {d : Nat} {x1 : Int32} {h : am_H} {Q : am_Q} {res : Bool} (e : f_Model_isCc_38 h = some res) (q : Q (some (.int (am_b res))) h) : am_W (X_Model_isCc (d + 2)) 38 [some (.ref 0), some (.int x1)] [] h Q :=
  b_Model_isCc_38 (d := (d + 2)) (q := (am_rZp (v := true) e q))
theorem t_Model_isCc_35 {d : Nat} {x1 : Int32} {y0 : Bool} {h : am_H} {Q : am_Q} {res : Bool} (e : f_Model_isCc_35 h y0 = some res) (q : Q (some (.int (am_b res))) h) : am_W (X_Model_isCc (d + 2)) 35 [some (.ref 0), some (.int x1)] [.int (am_b y0)] h Q :=
  b_Model_isCc_35 (d := (d + 2)) (kt := fun c => (t_Model_isCc_42 (am_ift e (am_bn c)) q)) (kf := fun c => (t_Model_isCc_38 (am_iff e (am_bz c)) q))
theorem t_Model_isCc_27 {d : Nat} {x1 : Int32} {h : am_H} {Q : am_Q} {res : Bool} (e : f_Model_isCc_27 h x1 = some res) (q : Q (some (.int (am_b res))) h) : am_W (X_Model_isCc (d + 2)) 27 [some (.ref 0), some (.int x1)] [] h Q :=
  (am_bd e).elim fun p hp => b_Model_isCc_27 (d := (d + 1)) (k := c_Model_isGreen (d := d + 1) hp.1 (t_Model_isCc_35 hp.2 q))
theorem t_Model_isCc_24 {d : Nat} {x1 : Int32} {y0 : Bool} {h : am_H} {Q : am_Q} {res : Bool} (e : f_Model_isCc_24 h x1 y0 = some res) (q : Q (some (.int (am_b res))) h) : am_W (X_Model_isCc (d + 2)) 24 [some (.ref 0), some (.int x1)] [.int (am_b y0)] h Q :=
  b_Model_isCc_24 (d := (d + 2)) (kt := fun c => (t_Model_isCc_42 (am_iff e (am_bz c)) q)) (kf := fun c => (t_Model_isCc_27 (am_ift e (am_bn c)) q))
theorem t_Model_isCc_15 {d : Nat} {x1 : Int32} {h : am_H} {Q : am_Q} {res : Bool} (e : f_Model_isCc_15 h x1 = some res) (q : Q (some (.int (am_b res))) h) : am_W (X_Model_isCc (d + 2)) 15 [some (.ref 0), some (.int x1)] [] h Q :=
  b_Model_isCc_15 (d := (d + 1)) (k := c_Model_isClub (d := d) rfl (t_Model_isCc_24 e q))
theorem t_Model_isCc_12 {d : Nat} {x1 : Int32} {y0 : Bool} {h : am_H} {Q : am_Q} {res : Bool} (e : f_Model_isCc_12 h x1 y0 = some res) (q : Q (some (.int (am_b res))) h) : am_W (X_Model_isCc (d + 2)) 12 [some (.ref 0), some (.int x1)] [.int (am_b y0)] h Q :=
  b_Model_isCc_12 (d := (d + 2)) (kt := fun c => (t_Model_isCc_42 (am_iff e (am_bz c)) q)) (kf := fun c => (t_Model_isCc_15 (am_ift e (am_bn c)) q))
theorem t_Model_isCc_4 {d : Nat} {x1 : Int32} {h : am_H} {Q : am_Q} {res : Bool} (e : f_Model_isCc_4 h x1 = some res) (q : Q (some (.int (am_b res))) h) : am_W (X_Model_isCc (d + 2)) 4 [some (.ref 0), some (.int x1)] [] h Q :=
  b_Model_isCc_4 (d := (d + 1)) (k := c_Model_isCell (d := d) rfl (t_Model_isCc_12 e q))
theorem t_Model_isCc_0 {d : Nat} {x1 : Int32} {h : am_H} {Q : am_Q} {res : Bool} (e : f_Model_isCc h x1 = some res) (q : Q (some (.int (am_b res))) h) : am_W (X_Model_isCc (d + 2)) 0 [some (.ref 0), some (.int x1)] [] h Q :=
  b_Model_isCc_0 (d := (d + 2)) (kt := fun c => (t_Model_isCc_42 (am_ift e c) q)) (kf := fun c => (t_Model_isCc_4 (am_ife e c) q))
theorem c_Model_isCc {d : Nat} {x1 : Int32} {h : am_H} {Q : am_Q} {res : Bool} (e : f_Model_isCc h x1 = some res) (q : Q (some (.int (am_b res))) h) : m_Model_isCc (d + 2) [.ref 0, .int x1] h Q :=
  e_Model_isCc (t_Model_isCc_0 e q)
theorem d_Model_commonOf_0 : decode prog_12_method_38_code 0 = .ok (.lload_n 0, 1) := by decide +kernel
theorem d_Model_commonOf_1 : decode prog_12_method_38_code 1 = .ok (.lconst 0, 1) := by decide +kernel
theorem d_Model_commonOf_2 : decode prog_12_method_38_code 2 = .ok (.lcmp, 1) := by decide +kernel
theorem d_Model_commonOf_3 : decode prog_12_method_38_code 3 = .ok (.ifCond .ge 8, 3) := by decide +kernel
theorem d_Model_commonOf_6 : decode prog_12_method_38_code 6 = .ok (.lload_n 0, 1) := by decide +kernel
theorem d_Model_commonOf_7 : decode prog_12_method_38_code 7 = .ok (.lneg, 1) := by decide +kernel
theorem d_Model_commonOf_8 : decode prog_12_method_38_code 8 = .ok (.goto 4, 3) := by decide +kernel
theorem d_Model_commonOf_11 : decode prog_12_method_38_code 11 = .ok (.lload_n 0, 1) := by decide +kernel
theorem d_Model_commonOf_12 : decode prog_12_method_38_code 12 = .ok (.lstore 4, 2) := by decide +kernel
theorem d_Model_commonOf_14 : decode prog_12_method_38_code 14 = .ok (.lload_n 2, 1) := by decide +kernel
theorem d_Model_commonOf_15 : decode prog_12_method_38_code 15 = .ok (.lstore 6, 2) := by decide +kernel
theorem d_Model_commonOf_17 : decode prog_12_method_38_code 17 = .ok (.lload 6, 2) := by decide +kernel
theorem d_Model_commonOf_19 : decode prog_12_method_38_code 19 = .ok (.lconst 0, 1) := by decide +kernel
theorem d_Model_commonOf_20 : decode prog_12_method_38_code 20 = .ok (.lcmp, 1) := by decide +kernel
theorem d_Model_commonOf_21 : decode prog_12_method_38_code 21 = .ok (.ifCond .eq 21, 3) := by decide +kernel
theorem d_Model_commonOf_24 : decode prog_12_method_38_code 24 = .ok (.lload 4, 2) := by decide +kernel
theorem d_Model_commonOf_26 : decode prog_12_method_38_code 26 = .ok (.lload 6, 2) := by decide +kernel
theorem d_Model_commonOf_28 : decode prog_12_method_38_code 28 = .ok (.lrem, 1) := by decide +kernel
theorem d_Model_commonOf_29 : decode prog_12_method_38_code 29 = .ok (.lstore 8, 2) := by decide +kernel
theorem d_Model_commonOf_31 : decode prog_12_method_38_code 31 = .ok (.lload 6, 2) := by decide +kernel
theorem d_Model_commonOf_33 : decode prog_12_method_38_code 33 = .ok (.lstore 4, 2) := by decide +kernel
theorem d_Model_commonOf_35 : decode prog_12_method_38_code 35 = .ok (.lload 8, 2) := by decide +kernel
theorem d_Model_commonOf_37 : decode prog_12_method_38_code 37 = .ok (.lstore 6, 2) := by decide +kernel
theorem d_Model_commonOf_39 : decode prog_12_method_38_code 39 = .ok (.goto (-22), 3) := by decide +kernel
theorem d_Model_commonOf_42 : decode prog_12_method_38_code 42 = .ok (.lload 4, 2) := by decide +kernel
theorem d_Model_commonOf_44 : decode prog_12_method_38_code 44 = .ok (.lreturn, 1) := by decide +kernel
theorem b_Model_commonOf_0 {d : Nat} {x0 : Int64} {x2 : Int64} {h : am_H} {Q : am_Q} (kt : 0 ≤ x0 → am_W (X_Model_commonOf d) 11 [some (.long x0), none, some (.long x2), none, none, none, none, none, none, none] [] h Q) (kf : ¬ 0 ≤ x0 → am_W (X_Model_commonOf d) 6 [some (.long x0), none, some (.long x2), none, none, none, none, none, none, none] [] h Q) : am_W (X_Model_commonOf d) 0 [some (.long x0), none, some (.long x2), none, none, none, none, none, none, none] [] h Q :=
  am_lload_n d_Model_commonOf_0 rfl (i := 0) rfl <|
    am_lconst (v := 0) d_Model_commonOf_1 (by decide) <|
    am_lc_if_ge (tgt := 11) d_Model_commonOf_2 d_Model_commonOf_3 (by decide) kt kf
theorem b_Model_commonOf_6 {d : Nat} {x0 : Int64} {x2 : Int64} {h : am_H} {Q : am_Q} (k : am_W (X_Model_commonOf d) 12 [some (.long x0), none, some (.long x2), none, none, none, none, none, none, none] [.long (-x0)] h Q) : am_W (X_Model_commonOf d) 6 [some (.long x0), none, some (.long x2), none, none, none, none, none, none, none] [] h Q :=
  am_lload_n d_Model_commonOf_6 rfl (i := 0) rfl <|
    am_lneg d_Model_commonOf_7 <|
    am_goto (tgt := 12) d_Model_commonOf_8 (by decide) k
theorem b_Model_commonOf_11 {d : Nat} {x0 : Int64} {x2 : Int64} {h : am_H} {Q : am_Q} (k : am_W (X_Model_commonOf d) 12 [some (.long x0), none, some (.long x2), none, none, none, none, none, none, none] [.long x0] h Q) : am_W (X_Model_commonOf d) 11 [some (.long x0), none, some (.long x2), none, none, none, none, none, none, none] [] h Q :=
  am_lload_n d_Model_commonOf_11 rfl (i := 0) rfl <|
    k
theorem b_Model_commonOf_12 {d : Nat} {x0 : Int64} {x2 : Int64} {y0 : Int64} {h : am_H} {Q : am_Q} (k : am_W (X_Model_commonOf d) 17 [some (.long x0), none, some (.long x2), none, some (.long y0), none, some (.long x2), none, none, none] [] h Q) : am_W (X_Model_commonOf d) 12 [some (.long x0), none, some (.long x2), none, none, none, none, none, none, none] [.long y0] h Q :=
  am_lstore (ls' := [some (.long x0), none, some (.long x2), none, some (.long y0), none, none, none, none, none]) d_Model_commonOf_12 (Nat.le_of_ble_eq_true rfl) rfl <|
    am_lload_n d_Model_commonOf_14 rfl (i := 2) rfl <|
    am_lstore (ls' := [some (.long x0), none, some (.long x2), none, some (.long y0), none, some (.long x2), none, none, none]) d_Model_commonOf_15 (Nat.le_of_ble_eq_true rfl) rfl <|
    k
theorem b_Model_commonOf_17 {d : Nat} {x0 : Int64} {x2 : Int64} {x4 : Int64} {x6 : Int64} {h : am_H} {Q : am_Q} (kt : x6 = 0 → am_W (X_Model_commonOf d) 42 [some (.long x0), none, some (.long x2), none, some (.long x4), none, some (.long x6), none, none, none] [] h Q) (kf : ¬ x6 = 0 → am_W (X_Model_commonOf d) 24 [some (.long x0), none, some (.long x2), none, some (.long x4), none, some (.long x6), none, none, none] [] h Q) : am_W (X_Model_commonOf d) 17 [some (.long x0), none, some (.long x2), none, some (.long x4), none, some (.long x6), none, none, none] [] h Q :=
  am_lload d_Model_commonOf_17 rfl <|
    am_lconst (v := 0) d_Model_commonOf_19 (by decide) <|
    am_lc_if_eq (tgt := 42) d_Model_commonOf_20 d_Model_commonOf_21 (by decide) kt kf
theorem b_Model_commonOf_24 {d : Nat} {x0 : Int64} {x2 : Int64} {x4 : Int64} {x6 : Int64} {h : am_H} {Q : am_Q} (q0 : ¬ x6 = 0) (k : am_W (X_Model_commonOf d) 17 [some (.long x0), none, some (.long x2), none, some (.long x6), none, some (.long (x4 - x4 / x6 * x6)), none, some (.long (x4 - x4 / x6 * x6)), none] [] h Q) : am_W (X_Model_commonOf d) 24 [some (.long x0), none, some (.long x2), none, some (.long x4), none, some (.long x6), none, none, none] [] h Q :=
  am_lload d_Model_commonOf_24 rfl <|
    am_lload d_Model_commonOf_26 rfl <|
    am_lrem d_Model_commonOf_28 q0 <|
    am_lstore (ls' := [some (.long x0), none, some (.long x2), none, some (.long x4), none, some (.long x6), none, some (.long (x4 - x4 / x6 * x6)), none]) d_Model_commonOf_29 (Nat.le_of_ble_eq_true rfl) rfl <|
    am_lload d_Model_commonOf_31 rfl <|
    am_lstore (ls' := [some (.long x0), none, some (.long x2), none, some (.long x6), none, some (.long x6), none, some (.long (x4 - x4 / x6 * x6)), none]) d_Model_commonOf_33 (Nat.le_of_ble_eq_true rfl) rfl <|
    am_lload d_Model_commonOf_35 rfl <|
    am_lstore (ls' := [some (.long x0), none, some (.long x2), none, some (.long x6), none, some (.long (x4 - x4 / x6 * x6)), none, some (.long (x4 - x4 / x6 * x6)), none]) d_Model_commonOf_37 (Nat.le_of_ble_eq_true rfl) rfl <|
    am_goto (tgt := 17) d_Model_commonOf_39 (by decide) k
theorem b_Model_commonOf_42 {d : Nat} {x0 : Int64} {x2 : Int64} {x4 : Int64} {x6 : Int64} {h : am_H} {Q : am_Q} (q : Q (some (.long x4)) h) : am_W (X_Model_commonOf d) 42 [some (.long x0), none, some (.long x2), none, some (.long x4), none, some (.long x6), none, none, none] [] h Q :=
  am_lload d_Model_commonOf_42 rfl <|
    am_lret rfl d_Model_commonOf_44 q
theorem t_Model_commonOf_42 {d : Nat} {x0 : Int64} {x2 : Int64} {x4 : Int64} {x6 : Int64} {h : am_H} {Q : am_Q} {res : Int64} (e : f_Model_commonOf_42 x4 = some res) (q : Q (some (.long res)) h) : am_W (X_Model_commonOf d) 42 [some (.long x0), none, some (.long x2), none, some (.long x4), none, some (.long x6), none, none, none] [] h Q :=
  b_Model_commonOf_42 (d := d) (q := (am_rJp (v := x4) e q))
theorem t_Model_commonOf_24 {d : Nat} {k17 : Int64 → Int64 → Option (Int64)} {x0 : Int64} {x2 : Int64} {x4 : Int64} {x6 : Int64} {h : am_H} {Q : am_Q} {res : Int64} (hk17 : ∀ (x0 : Int64) (x2 : Int64) (x4 : Int64) (x6 : Int64), k17 x4 x6 = some res → am_W (X_Model_commonOf d) 17 [some (.long x0), none, some (.long x2), none, some (.long x4), none, some (.long x6), none, none, none] [] h Q) (e : f_Model_commonOf_24 k17 x4 x6 = some res) (q : Q (some (.long res)) h) : am_W (X_Model_commonOf d) 24 [some (.long x0), none, some (.long x2), none, some (.long x4), none, some (.long x6), none, none, none] [] h Q :=
  b_Model_commonOf_24 (d := d) (q0 := (am_gd e)) (k := (am_wk2 (hk17 _ _ _ _ (am_ga e)) ⟨rfl, ⟨rfl, ⟨rfl, ⟨rfl, trivial⟩⟩⟩⟩))
theorem t_Model_commonOf_17 {d : Nat} {k17 : Int64 → Int64 → Option (Int64)} {x0 : Int64} {x2 : Int64} {x4 : Int64} {x6 : Int64} {h : am_H} {Q : am_Q} {res : Int64} (hk17 : ∀ (x0 : Int64) (x2 : Int64) (x4 : Int64) (x6 : Int64), k17 x4 x6 = some res → am_W (X_Model_commonOf d) 17 [some (.long x0), none, some (.long x2), none, some (.long x4), none, some (.long x6), none, none, none] [] h Q) (e : f_Model_commonOf_17 k17 x4 x6 = some res) (q : Q (some (.long res)) h) : am_W (X_Model_commonOf d) 17 [some (.long x0), none, some (.long x2), none, some (.long x4), none, some (.long x6), none, none, none] [] h Q :=
  b_Model_commonOf_17 (d := d) (kt := fun c => (t_Model_commonOf_42 (am_ift e c) q)) (kf := fun c => (t_Model_commonOf_24 hk17 (am_ife e c) q))
theorem t_Model_commonOf_17_l {d : Nat} {h : am_H} {Q : am_Q} {res : Int64} (q : Q (some (.long res)) h) : ∀ (n : Nat) (x0 : Int64) (x2 : Int64) (x4 : Int64) (x6 : Int64), f_Model_commonOf_17_l n x4 x6 = some res → am_W (X_Model_commonOf d) 17 [some (.long x0), none, some (.long x2), none, some (.long x4), none, some (.long x6), none, none, none] [] h Q := by
  intro n
  induction n with
  | zero => intro x0 x2 x4 x6 e; exact am_nn e
  | succ n ih => intro x0 x2 x4 x6 e; exact t_Model_commonOf_17 (fun x0 x2 x4 x6 e => ih x0 x2 x4 x6  e) e q
theorem t_Model_commonOf_12 {d : Nat} {x0 : Int64} {x2 : Int64} {y0 : Int64} {h : am_H} {Q : am_Q} {res : Int64} (e : f_Model_commonOf_12 x2 y0 = some res) (q : Q (some (.long res)) h) : am_W (X_Model_commonOf d) 12 [some (.long x0), none, some (.long x2), none, none, none, none, none, none, none] [.long y0] h Q :=
  b_Model_commonOf_12 (d := d) (k := (t_Model_commonOf_17_l q am_fu _ _ _ _ e))
theorem t_Model_commonOf_11 {d : Nat} {x0 : Int64} {x2 : Int64} {h : am_H} {Q : am_Q} {res : Int64} (e : f_Model_commonOf_11 x0 x2 = some res) (q : Q (some (.long res)) h) : am_W (X_Model_commonOf d) 11 [some (.long x0), none, some (.long x2), none, none, none, none, none, none, none] [] h Q :=
  b_Model_commonOf_11 (d := d) (k := (t_Model_commonOf_12 e q))
theorem t_Model_commonOf_6 {d : Nat} {x0 : Int64} {x2 : Int64} {h : am_H} {Q : am_Q} {res : Int64} (e : f_Model_commonOf_6 x0 x2 = some res) (q : Q (some (.long res)) h) : am_W (X_Model_commonOf d) 6 [some (.long x0), none, some (.long x2), none, none, none, none, none, none, none] [] h Q :=
  b_Model_commonOf_6 (d := d) (k := (t_Model_commonOf_12 e q))
theorem t_Model_commonOf_0 {d : Nat} {x0 : Int64} {x2 : Int64} {h : am_H} {Q : am_Q} {res : Int64} (e : f_Model_commonOf x0 x2 = some res) (q : Q (some (.long res)) h) : am_W (X_Model_commonOf d) 0 [some (.long x0), none, some (.long x2), none, none, none, none, none, none, none] [] h Q :=
  b_Model_commonOf_0 (d := d) (kt := fun c => (t_Model_commonOf_11 (am_ift e c) q)) (kf := fun c => (t_Model_commonOf_6 (am_ife e c) q))
theorem c_Model_commonOf {d : Nat} {x0 : Int64} {x2 : Int64} {h : am_H} {Q : am_Q} {res : Int64} (e : f_Model_commonOf x0 x2 = some res) (q : Q (some (.long res)) h) : m_Model_commonOf d [.long x0, .long x2] h Q :=
  e_Model_commonOf (t_Model_commonOf_0 e q)
theorem d_Model_partOf_0 : decode prog_12_method_39_code 0 = .ok (.lload_n 0, 1) := by decide +kernel
theorem d_Model_partOf_1 : decode prog_12_method_39_code 1 = .ok (.lconst 0, 1) := by decide +kernel
theorem d_Model_partOf_2 : decode prog_12_method_39_code 2 = .ok (.lcmp, 1) := by decide +kernel
theorem d_Model_partOf_3 : decode prog_12_method_39_code 3 = .ok (.ifCond .ne 7, 3) := by decide +kernel
theorem d_Model_partOf_6 : decode prog_12_method_39_code 6 = .ok (.iload 4, 2) := by decide +kernel
theorem d_Model_partOf_8 : decode prog_12_method_39_code 8 = .ok (.i2l, 1) := by decide +kernel
theorem d_Model_partOf_9 : decode prog_12_method_39_code 9 = .ok (.lreturn, 1) := by decide +kernel
theorem d_Model_partOf_10 : decode prog_12_method_39_code 10 = .ok (.lload_n 0, 1) := by decide +kernel
theorem d_Model_partOf_11 : decode prog_12_method_39_code 11 = .ok (.lload_n 2, 1) := by decide +kernel
theorem d_Model_partOf_12 : decode prog_12_method_39_code 12 = .ok (.invokestatic 210, 3) := by decide +kernel
theorem d_Model_partOf_15 : decode prog_12_method_39_code 15 = .ok (.lstore 5, 2) := by decide +kernel
theorem d_Model_partOf_17 : decode prog_12_method_39_code 17 = .ok (.iload 4, 2) := by decide +kernel
theorem d_Model_partOf_19 : decode prog_12_method_39_code 19 = .ok (.ifCond .ne 10, 3) := by decide +kernel
theorem d_Model_partOf_22 : decode prog_12_method_39_code 22 = .ok (.lload_n 0, 1) := by decide +kernel
theorem d_Model_partOf_23 : decode prog_12_method_39_code 23 = .ok (.lload 5, 2) := by decide +kernel
theorem d_Model_partOf_25 : decode prog_12_method_39_code 25 = .ok (.ldiv, 1) := by decide +kernel
theorem d_Model_partOf_26 : decode prog_12_method_39_code 26 = .ok (.goto 7, 3) := by decide +kernel
theorem d_Model_partOf_29 : decode prog_12_method_39_code 29 = .ok (.lload_n 2, 1) := by decide +kernel
theorem d_Model_partOf_30 : decode prog_12_method_39_code 30 = .ok (.lload 5, 2) := by decide +kernel
theorem d_Model_partOf_32 : decode prog_12_method_39_code 32 = .ok (.ldiv, 1) := by decide +kernel
theorem d_Model_partOf_33 : decode prog_12_method_39_code 33 = .ok (.lreturn, 1) := by decide +kernel
theorem b_Model_partOf_0 {d : Nat} {x0 : Int64} {x2 : Int64} {x4 : Int32} {h : am_H} {Q : am_Q} (kt : ¬ x0 = 0 → am_W (X_Model_partOf d) 10 [some (.long x0), none, some (.long x2), none, some (.int x4), none, none] [] h Q) (kf : x0 = 0 → am_W (X_Model_partOf d) 6 [some (.long x0), none, some (.long x2), none, some (.int x4), none, none] [] h Q) : am_W (X_Model_partOf d) 0 [some (.long x0), none, some (.long x2), none, some (.int x4), none, none] [] h Q :=
  am_lload_n d_Model_partOf_0 rfl (i := 0) rfl <|
    am_lconst (v := 0) d_Model_partOf_1 (by decide) <|
    am_lc_if_ne (tgt := 10) d_Model_partOf_2 d_Model_partOf_3 (by decide) kt kf
theorem b_Model_partOf_6 {d : Nat} {x0 : Int64} {x2 : Int64} {x4 : Int32} {h : am_H} {Q : am_Q} (q : Q (some (.long x4.toInt64)) h) : am_W (X_Model_partOf d) 6 [some (.long x0), none, some (.long x2), none, some (.int x4), none, none] [] h Q :=
  am_iload d_Model_partOf_6 rfl <|
    am_i2l d_Model_partOf_8 <|
    am_lret rfl d_Model_partOf_9 q
theorem b_Model_partOf_10 {d : Nat} {x0 : Int64} {x2 : Int64} {x4 : Int32} {h : am_H} {Q : am_Q} (k : m_Model_commonOf d [.long x0, .long x2] h (fun r hh => am_W (X_Model_partOf (d + 1)) 15 [some (.long x0), none, some (.long x2), none, some (.int x4), none, none] (r.toList ++ []) hh Q)) : am_W (X_Model_partOf (d + 1)) 10 [some (.long x0), none, some (.long x2), none, some (.int x4), none, none] [] h Q :=
  am_lload_n d_Model_partOf_10 rfl (i := 0) rfl <|
    am_lload_n d_Model_partOf_11 rfl (i := 2) rfl <|
    am_callS (vs := [.long x0, .long x2]) (st := []) rfl d_Model_partOf_12 w_1593 w_1594 w_94 w_1595 p_Model_commonOf (Nat.le_of_ble_eq_true rfl) (Nat.le_of_ble_eq_true rfl) rfl k
theorem b_Model_partOf_15 {d : Nat} {x0 : Int64} {x2 : Int64} {x4 : Int32} {y0 : Int64} {h : am_H} {Q : am_Q} (kt : ¬ x4 = 0 → am_W (X_Model_partOf d) 29 [some (.long x0), none, some (.long x2), none, some (.int x4), some (.long y0), none] [] h Q) (kf : x4 = 0 → am_W (X_Model_partOf d) 22 [some (.long x0), none, some (.long x2), none, some (.int x4), some (.long y0), none] [] h Q) : am_W (X_Model_partOf d) 15 [some (.long x0), none, some (.long x2), none, some (.int x4), none, none] [.long y0] h Q :=
  am_lstore (ls' := [some (.long x0), none, some (.long x2), none, some (.int x4), some (.long y0), none]) d_Model_partOf_15 (Nat.le_of_ble_eq_true rfl) rfl <|
    am_iload d_Model_partOf_17 rfl <|
    am_if_ne (tgt := 29) d_Model_partOf_19 (by decide) kt kf
theorem b_Model_partOf_22 {d : Nat} {x0 : Int64} {x2 : Int64} {x4 : Int32} {x5 : Int64} {h : am_H} {Q : am_Q} (q0 : ¬ x5 = 0) (q : Q (some (.long (x0 / x5))) h) : am_W (X_Model_partOf d) 22 [some (.long x0), none, some (.long x2), none, some (.int x4), some (.long x5), none] [] h Q :=
  am_lload_n d_Model_partOf_22 rfl (i := 0) rfl <|
    am_lload d_Model_partOf_23 rfl <|
    am_ldiv d_Model_partOf_25 q0 <|
    am_goto (tgt := 33) d_Model_partOf_26 (by decide) <|
    am_lret rfl d_Model_partOf_33 q
theorem b_Model_partOf_29 {d : Nat} {x0 : Int64} {x2 : Int64} {x4 : Int32} {x5 : Int64} {h : am_H} {Q : am_Q} (q0 : ¬ x5 = 0) (q : Q (some (.long (x2 / x5))) h) : am_W (X_Model_partOf d) 29 [some (.long x0), none, some (.long x2), none, some (.int x4), some (.long x5), none] [] h Q :=
  am_lload_n d_Model_partOf_29 rfl (i := 2) rfl <|
    am_lload d_Model_partOf_30 rfl <|
    am_ldiv d_Model_partOf_32 q0 <|
    am_lret rfl d_Model_partOf_33 q
theorem t_Model_partOf_29 {d : Nat} {x0 : Int64} {x2 : Int64} {x4 : Int32} {x5 : Int64} {h : am_H} {Q : am_Q} {res : Int64} (e : f_Model_partOf_29 x2 x5 = some res) (q : Q (some (.long res)) h) : am_W (X_Model_partOf (d + 1)) 29 [some (.long x0), none, some (.long x2), none, some (.int x4), some (.long x5), none] [] h Q :=
  b_Model_partOf_29 (d := (d + 1)) (q0 := (am_gd e)) (q := (am_rJp (v := (x2 / x5)) (am_ga e) q))
theorem t_Model_partOf_22 {d : Nat} {x0 : Int64} {x2 : Int64} {x4 : Int32} {x5 : Int64} {h : am_H} {Q : am_Q} {res : Int64} (e : f_Model_partOf_22 x0 x5 = some res) (q : Q (some (.long res)) h) : am_W (X_Model_partOf (d + 1)) 22 [some (.long x0), none, some (.long x2), none, some (.int x4), some (.long x5), none] [] h Q :=
  b_Model_partOf_22 (d := (d + 1)) (q0 := (am_gd e)) (q := (am_rJp (v := (x0 / x5)) (am_ga e) q))
theorem t_Model_partOf_15 {d : Nat} {x0 : Int64} {x2 : Int64} {x4 : Int32} {y0 : Int64} {h : am_H} {Q : am_Q} {res : Int64} (e : f_Model_partOf_15 x0 x2 x4 y0 = some res) (q : Q (some (.long res)) h) : am_W (X_Model_partOf (d + 1)) 15 [some (.long x0), none, some (.long x2), none, some (.int x4), none, none] [.long y0] h Q :=
  b_Model_partOf_15 (d := (d + 1)) (kt := fun c => (t_Model_partOf_29 (am_ife e c) q)) (kf := fun c => (t_Model_partOf_22 (am_ift e c) q))
theorem t_Model_partOf_10 {d : Nat} {x0 : Int64} {x2 : Int64} {x4 : Int32} {h : am_H} {Q : am_Q} {res : Int64} (e : f_Model_partOf_10 x0 x2 x4 = some res) (q : Q (some (.long res)) h) : am_W (X_Model_partOf (d + 1)) 10 [some (.long x0), none, some (.long x2), none, some (.int x4), none, none] [] h Q :=
  (am_bd e).elim fun p hp => b_Model_partOf_10 (d := d) (k := c_Model_commonOf (d := d) hp.1 (t_Model_partOf_15 hp.2 q))
theorem t_Model_partOf_6 {d : Nat} {x0 : Int64} {x2 : Int64} {x4 : Int32} {h : am_H} {Q : am_Q} {res : Int64} (e : f_Model_partOf_6 x4 = some res) (q : Q (some (.long res)) h) : am_W (X_Model_partOf (d + 1)) 6 [some (.long x0), none, some (.long x2), none, some (.int x4), none, none] [] h Q :=
  b_Model_partOf_6 (d := (d + 1)) (q := (am_rJp (v := x4.toInt64) e q))
theorem t_Model_partOf_0 {d : Nat} {x0 : Int64} {x2 : Int64} {x4 : Int32} {h : am_H} {Q : am_Q} {res : Int64} (e : f_Model_partOf x0 x2 x4 = some res) (q : Q (some (.long res)) h) : am_W (X_Model_partOf (d + 1)) 0 [some (.long x0), none, some (.long x2), none, some (.int x4), none, none] [] h Q :=
  b_Model_partOf_0 (d := (d + 1)) (kt := fun c => (t_Model_partOf_10 (am_ife e c) q)) (kf := fun c => (t_Model_partOf_6 (am_ift e c) q))
theorem c_Model_partOf {d : Nat} {x0 : Int64} {x2 : Int64} {x4 : Int32} {h : am_H} {Q : am_Q} {res : Int64} (e : f_Model_partOf x0 x2 x4 = some res) (q : Q (some (.long res)) h) : m_Model_partOf (d + 1) [.long x0, .long x2, .int x4] h Q :=
  e_Model_partOf (t_Model_partOf_0 e q)
theorem d_Model_waysTo_0 : decode prog_12_method_40_code 0 = .ok (.iconst 0, 1) := by decide +kernel
theorem d_Model_waysTo_1 : decode prog_12_method_40_code 1 = .ok (.istore 5, 2) := by decide +kernel
theorem d_Model_waysTo_3 : decode prog_12_method_40_code 3 = .ok (.iload_n 3, 1) := by decide +kernel
theorem d_Model_waysTo_4 : decode prog_12_method_40_code 4 = .ok (.ineg, 1) := by decide +kernel
theorem d_Model_waysTo_5 : decode prog_12_method_40_code 5 = .ok (.istore 6, 2) := by decide +kernel
theorem d_Model_waysTo_7 : decode prog_12_method_40_code 7 = .ok (.iload 6, 2) := by decide +kernel
theorem d_Model_waysTo_9 : decode prog_12_method_40_code 9 = .ok (.iload_n 3, 1) := by decide +kernel
theorem d_Model_waysTo_10 : decode prog_12_method_40_code 10 = .ok (.if_icmp .gt 49, 3) := by decide +kernel
theorem d_Model_waysTo_13 : decode prog_12_method_40_code 13 = .ok (.aload_n 0, 1) := by decide +kernel
theorem d_Model_waysTo_14 : decode prog_12_method_40_code 14 = .ok (.iload_n 1, 1) := by decide +kernel
theorem d_Model_waysTo_15 : decode prog_12_method_40_code 15 = .ok (.iload_n 2, 1) := by decide +kernel
theorem d_Model_waysTo_16 : decode prog_12_method_40_code 16 = .ok (.iload 6, 2) := by decide +kernel
theorem d_Model_waysTo_18 : decode prog_12_method_40_code 18 = .ok (.invokevirtual 214, 3) := by decide +kernel
theorem d_Model_waysTo_21 : decode prog_12_method_40_code 21 = .ok (.istore 7, 2) := by decide +kernel
theorem d_Model_waysTo_23 : decode prog_12_method_40_code 23 = .ok (.iload 5, 2) := by decide +kernel
theorem d_Model_waysTo_25 : decode prog_12_method_40_code 25 = .ok (.aload_n 0, 1) := by decide +kernel
theorem d_Model_waysTo_26 : decode prog_12_method_40_code 26 = .ok (.iload 7, 2) := by decide +kernel
theorem d_Model_waysTo_28 : decode prog_12_method_40_code 28 = .ok (.invokevirtual 217, 3) := by decide +kernel
theorem d_Model_waysTo_31 : decode prog_12_method_40_code 31 = .ok (.ifCond .eq 7, 3) := by decide +kernel
theorem d_Model_waysTo_34 : decode prog_12_method_40_code 34 = .ok (.iload_n 1, 1) := by decide +kernel
theorem d_Model_waysTo_35 : decode prog_12_method_40_code 35 = .ok (.goto 5, 3) := by decide +kernel
theorem d_Model_waysTo_38 : decode prog_12_method_40_code 38 = .ok (.iload 7, 2) := by decide +kernel
theorem d_Model_waysTo_40 : decode prog_12_method_40_code 40 = .ok (.iload 4, 2) := by decide +kernel
theorem d_Model_waysTo_42 : decode prog_12_method_40_code 42 = .ok (.if_icmp .ne 7, 3) := by decide +kernel
theorem d_Model_waysTo_45 : decode prog_12_method_40_code 45 = .ok (.iconst 1, 1) := by decide +kernel
theorem d_Model_waysTo_46 : decode prog_12_method_40_code 46 = .ok (.goto 4, 3) := by decide +kernel
theorem d_Model_waysTo_49 : decode prog_12_method_40_code 49 = .ok (.iconst 0, 1) := by decide +kernel
theorem d_Model_waysTo_50 : decode prog_12_method_40_code 50 = .ok (.iadd, 1) := by decide +kernel
theorem d_Model_waysTo_51 : decode prog_12_method_40_code 51 = .ok (.istore 5, 2) := by decide +kernel
theorem d_Model_waysTo_53 : decode prog_12_method_40_code 53 = .ok (.iinc 6 1, 3) := by decide +kernel
theorem d_Model_waysTo_56 : decode prog_12_method_40_code 56 = .ok (.goto (-49), 3) := by decide +kernel
theorem d_Model_waysTo_59 : decode prog_12_method_40_code 59 = .ok (.iload 5, 2) := by decide +kernel
theorem d_Model_waysTo_61 : decode prog_12_method_40_code 61 = .ok (.ireturn, 1) := by decide +kernel
theorem b_Model_waysTo_0 {d : Nat} {x1 : Int32} {x2 : Int32} {x3 : Int32} {x4 : Int32} {h : am_H} {Q : am_Q} (k : am_W (X_Model_waysTo d) 7 [some (.ref 0), some (.int x1), some (.int x2), some (.int x3), some (.int x4), some (.int 0), some (.int (-x3)), none] [] h Q) : am_W (X_Model_waysTo d) 0 [some (.ref 0), some (.int x1), some (.int x2), some (.int x3), some (.int x4), none, none, none] [] h Q :=
  am_iconst (v := 0) d_Model_waysTo_0 (by decide) <|
    am_istore (ls' := [some (.ref 0), some (.int x1), some (.int x2), some (.int x3), some (.int x4), some (.int 0), none, none]) d_Model_waysTo_1 (Nat.le_of_ble_eq_true rfl) rfl <|
    am_iload_n d_Model_waysTo_3 rfl (i := 3) rfl <|
    am_ineg d_Model_waysTo_4 <|
    am_istore (ls' := [some (.ref 0), some (.int x1), some (.int x2), some (.int x3), some (.int x4), some (.int 0), some (.int (-x3)), none]) d_Model_waysTo_5 (Nat.le_of_ble_eq_true rfl) rfl <|
    k
theorem b_Model_waysTo_7 {d : Nat} {x1 : Int32} {x2 : Int32} {x3 : Int32} {x4 : Int32} {x5 : Int32} {x6 : Int32} {h : am_H} {Q : am_Q} (kt : x3 < x6 → am_W (X_Model_waysTo d) 59 [some (.ref 0), some (.int x1), some (.int x2), some (.int x3), some (.int x4), some (.int x5), some (.int x6), none] [] h Q) (kf : ¬ x3 < x6 → am_W (X_Model_waysTo d) 13 [some (.ref 0), some (.int x1), some (.int x2), some (.int x3), some (.int x4), some (.int x5), some (.int x6), none] [] h Q) : am_W (X_Model_waysTo d) 7 [some (.ref 0), some (.int x1), some (.int x2), some (.int x3), some (.int x4), some (.int x5), some (.int x6), none] [] h Q :=
  am_iload d_Model_waysTo_7 rfl <|
    am_iload_n d_Model_waysTo_9 rfl (i := 3) rfl <|
    am_icmp_gt (tgt := 59) d_Model_waysTo_10 (by decide) kt kf
theorem b_Model_waysTo_13 {d : Nat} {x1 : Int32} {x2 : Int32} {x3 : Int32} {x4 : Int32} {x5 : Int32} {x6 : Int32} {h : am_H} {Q : am_Q} (k : m_Model_downOf d [.ref 0, .int x1, .int x2, .int x6] h (fun r hh => am_W (X_Model_waysTo (d + 1)) 21 [some (.ref 0), some (.int x1), some (.int x2), some (.int x3), some (.int x4), some (.int x5), some (.int x6), none] (r.toList ++ []) hh Q)) : am_W (X_Model_waysTo (d + 1)) 13 [some (.ref 0), some (.int x1), some (.int x2), some (.int x3), some (.int x4), some (.int x5), some (.int x6), none] [] h Q :=
  am_aload_n d_Model_waysTo_13 rfl (i := 0) rfl <|
    am_iload_n d_Model_waysTo_14 rfl (i := 1) rfl <|
    am_iload_n d_Model_waysTo_15 rfl (i := 2) rfl <|
    am_iload d_Model_waysTo_16 rfl <|
    am_callV (vs := [.int x1, .int x2, .int x6]) (st := []) (k := 0) (ci := 10) rfl d_Model_waysTo_18 rfl rfl w_1578 w_1580 w_54 w_94 w_1581 p_Model_downOf (Nat.le_of_ble_eq_true rfl) (Nat.le_of_ble_eq_true rfl) rfl k
theorem b_Model_waysTo_21 {d : Nat} {x1 : Int32} {x2 : Int32} {x3 : Int32} {x4 : Int32} {x5 : Int32} {x6 : Int32} {y0 : Int32} {h : am_H} {Q : am_Q} (k : m_Model_isWater d [.ref 0, .int y0] h (fun r hh => am_W (X_Model_waysTo (d + 1)) 31 [some (.ref 0), some (.int x1), some (.int x2), some (.int x3), some (.int x4), some (.int x5), some (.int x6), some (.int y0)] (r.toList ++ [.int x5]) hh Q)) : am_W (X_Model_waysTo (d + 1)) 21 [some (.ref 0), some (.int x1), some (.int x2), some (.int x3), some (.int x4), some (.int x5), some (.int x6), none] [.int y0] h Q :=
  am_istore (ls' := [some (.ref 0), some (.int x1), some (.int x2), some (.int x3), some (.int x4), some (.int x5), some (.int x6), some (.int y0)]) d_Model_waysTo_21 (Nat.le_of_ble_eq_true rfl) rfl <|
    am_iload d_Model_waysTo_23 rfl <|
    am_aload_n d_Model_waysTo_25 rfl (i := 0) rfl <|
    am_iload d_Model_waysTo_26 rfl <|
    am_callV (vs := [.int y0]) (st := [.int x5]) (k := 0) (ci := 10) rfl d_Model_waysTo_28 rfl rfl w_1586 w_1588 w_56 w_94 w_1589 p_Model_isWater (Nat.le_of_ble_eq_true rfl) (Nat.le_of_ble_eq_true rfl) rfl k
theorem b_Model_waysTo_31 {d : Nat} {x1 : Int32} {x2 : Int32} {x3 : Int32} {x4 : Int32} {x5 : Int32} {x6 : Int32} {x7 : Int32} {y1 : Bool} {y0 : Int32} {h : am_H} {Q : am_Q} (kt : (am_b y1) = 0 → am_W (X_Model_waysTo d) 38 [some (.ref 0), some (.int x1), some (.int x2), some (.int x3), some (.int x4), some (.int x5), some (.int x6), some (.int x7)] [.int y0] h Q) (kf : ¬ (am_b y1) = 0 → am_W (X_Model_waysTo d) 34 [some (.ref 0), some (.int x1), some (.int x2), some (.int x3), some (.int x4), some (.int x5), some (.int x6), some (.int x7)] [.int y0] h Q) : am_W (X_Model_waysTo d) 31 [some (.ref 0), some (.int x1), some (.int x2), some (.int x3), some (.int x4), some (.int x5), some (.int x6), some (.int x7)] [.int (am_b y1), .int y0] h Q :=
  am_if_eq (tgt := 38) d_Model_waysTo_31 (by decide) kt kf
theorem b_Model_waysTo_34 {d : Nat} {x1 : Int32} {x2 : Int32} {x3 : Int32} {x4 : Int32} {x5 : Int32} {x6 : Int32} {x7 : Int32} {y0 : Int32} {h : am_H} {Q : am_Q} (k : am_W (X_Model_waysTo d) 40 [some (.ref 0), some (.int x1), some (.int x2), some (.int x3), some (.int x4), some (.int x5), some (.int x6), some (.int x7)] [.int x1, .int y0] h Q) : am_W (X_Model_waysTo d) 34 [some (.ref 0), some (.int x1), some (.int x2), some (.int x3), some (.int x4), some (.int x5), some (.int x6), some (.int x7)] [.int y0] h Q :=
  am_iload_n d_Model_waysTo_34 rfl (i := 1) rfl <|
    am_goto (tgt := 40) d_Model_waysTo_35 (by decide) k
theorem b_Model_waysTo_38 {d : Nat} {x1 : Int32} {x2 : Int32} {x3 : Int32} {x4 : Int32} {x5 : Int32} {x6 : Int32} {x7 : Int32} {y0 : Int32} {h : am_H} {Q : am_Q} (k : am_W (X_Model_waysTo d) 40 [some (.ref 0), some (.int x1), some (.int x2), some (.int x3), some (.int x4), some (.int x5), some (.int x6), some (.int x7)] [.int x7, .int y0] h Q) : am_W (X_Model_waysTo d) 38 [some (.ref 0), some (.int x1), some (.int x2), some (.int x3), some (.int x4), some (.int x5), some (.int x6), some (.int x7)] [.int y0] h Q :=
  am_iload d_Model_waysTo_38 rfl <|
    k
theorem b_Model_waysTo_40 {d : Nat} {x1 : Int32} {x2 : Int32} {x3 : Int32} {x4 : Int32} {x5 : Int32} {x6 : Int32} {x7 : Int32} {y1 : Int32} {y0 : Int32} {h : am_H} {Q : am_Q} (kt : ¬ y1 = x4 → am_W (X_Model_waysTo d) 49 [some (.ref 0), some (.int x1), some (.int x2), some (.int x3), some (.int x4), some (.int x5), some (.int x6), some (.int x7)] [.int y0] h Q) (kf : y1 = x4 → am_W (X_Model_waysTo d) 45 [some (.ref 0), some (.int x1), some (.int x2), some (.int x3), some (.int x4), some (.int x5), some (.int x6), some (.int x7)] [.int y0] h Q) : am_W (X_Model_waysTo d) 40 [some (.ref 0), some (.int x1), some (.int x2), some (.int x3), some (.int x4), some (.int x5), some (.int x6), some (.int x7)] [.int y1, .int y0] h Q :=
  am_iload d_Model_waysTo_40 rfl <|
    am_icmp_ne (tgt := 49) d_Model_waysTo_42 (by decide) kt kf
theorem b_Model_waysTo_45 {d : Nat} {x1 : Int32} {x2 : Int32} {x3 : Int32} {x4 : Int32} {x5 : Int32} {x6 : Int32} {x7 : Int32} {y0 : Int32} {h : am_H} {Q : am_Q} (k : am_W (X_Model_waysTo d) 50 [some (.ref 0), some (.int x1), some (.int x2), some (.int x3), some (.int x4), some (.int x5), some (.int x6), some (.int x7)] [.int 1, .int y0] h Q) : am_W (X_Model_waysTo d) 45 [some (.ref 0), some (.int x1), some (.int x2), some (.int x3), some (.int x4), some (.int x5), some (.int x6), some (.int x7)] [.int y0] h Q :=
  am_iconst (v := 1) d_Model_waysTo_45 (by decide) <|
    am_goto (tgt := 50) d_Model_waysTo_46 (by decide) k
theorem b_Model_waysTo_49 {d : Nat} {x1 : Int32} {x2 : Int32} {x3 : Int32} {x4 : Int32} {x5 : Int32} {x6 : Int32} {x7 : Int32} {y0 : Int32} {h : am_H} {Q : am_Q} (k : am_W (X_Model_waysTo d) 50 [some (.ref 0), some (.int x1), some (.int x2), some (.int x3), some (.int x4), some (.int x5), some (.int x6), some (.int x7)] [.int 0, .int y0] h Q) : am_W (X_Model_waysTo d) 49 [some (.ref 0), some (.int x1), some (.int x2), some (.int x3), some (.int x4), some (.int x5), some (.int x6), some (.int x7)] [.int y0] h Q :=
  am_iconst (v := 0) d_Model_waysTo_49 (by decide) <|
    k
theorem b_Model_waysTo_50 {d : Nat} {x1 : Int32} {x2 : Int32} {x3 : Int32} {x4 : Int32} {x5 : Int32} {x6 : Int32} {x7 : Int32} {y1 : Int32} {y0 : Int32} {h : am_H} {Q : am_Q} (k : am_W (X_Model_waysTo d) 7 [some (.ref 0), some (.int x1), some (.int x2), some (.int x3), some (.int x4), some (.int (y0 + y1)), some (.int (x6 + 1)), some (.int x7)] [] h Q) : am_W (X_Model_waysTo d) 50 [some (.ref 0), some (.int x1), some (.int x2), some (.int x3), some (.int x4), some (.int x5), some (.int x6), some (.int x7)] [.int y1, .int y0] h Q :=
  am_iadd d_Model_waysTo_50 <|
    am_istore (ls' := [some (.ref 0), some (.int x1), some (.int x2), some (.int x3), some (.int x4), some (.int (y0 + y1)), some (.int x6), some (.int x7)]) d_Model_waysTo_51 (Nat.le_of_ble_eq_true rfl) rfl <|
    am_iinc (v := (x6 + 1)) (ls' := [some (.ref 0), some (.int x1), some (.int x2), some (.int x3), some (.int x4), some (.int (y0 + y1)), some (.int (x6 + 1)), some (.int x7)]) d_Model_waysTo_53 rfl rfl (Nat.le_of_ble_eq_true rfl) rfl <|
    am_goto (tgt := 7) d_Model_waysTo_56 (by decide) k
theorem b_Model_waysTo_59 {d : Nat} {x1 : Int32} {x2 : Int32} {x3 : Int32} {x4 : Int32} {x5 : Int32} {x6 : Int32} {h : am_H} {Q : am_Q} (q : Q (some (.int x5)) h) : am_W (X_Model_waysTo d) 59 [some (.ref 0), some (.int x1), some (.int x2), some (.int x3), some (.int x4), some (.int x5), some (.int x6), none] [] h Q :=
  am_iload d_Model_waysTo_59 rfl <|
    am_iret rfl d_Model_waysTo_61 q
theorem t_Model_waysTo_59 {d : Nat} {x1 : Int32} {x2 : Int32} {x3 : Int32} {x4 : Int32} {x5 : Int32} {x6 : Int32} {h : am_H} {Q : am_Q} {res : Int32} (e : f_Model_waysTo_59 h x5 = some res) (q : Q (some (.int res)) h) : am_W (X_Model_waysTo (d + 2)) 59 [some (.ref 0), some (.int x1), some (.int x2), some (.int x3), some (.int x4), some (.int x5), some (.int x6), none] [] h Q :=
  b_Model_waysTo_59 (d := (d + 2)) (q := (am_rIp (v := x5) e q))
theorem t_Model_waysTo_50 {d : Nat} {k7 : Int32 → Int32 → Int32 → Int32 → Int32 → Int32 → Option (Int32)} {x1 : Int32} {x2 : Int32} {x3 : Int32} {x4 : Int32} {x5 : Int32} {x6 : Int32} {x7 : Int32} {y1 : Int32} {y0 : Int32} {h : am_H} {Q : am_Q} {res : Int32} (hk7 : ∀ (x1 : Int32) (x2 : Int32) (x3 : Int32) (x4 : Int32) (x5 : Int32) (x6 : Int32), k7 x1 x2 x3 x4 x5 x6 = some res → am_W (X_Model_waysTo (d + 2)) 7 [some (.ref 0), some (.int x1), some (.int x2), some (.int x3), some (.int x4), some (.int x5), some (.int x6), none] [] h Q) (e : f_Model_waysTo_50 k7 h x1 x2 x3 x4 x6 y1 y0 = some res) (q : Q (some (.int res)) h) : am_W (X_Model_waysTo (d + 2)) 50 [some (.ref 0), some (.int x1), some (.int x2), some (.int x3), some (.int x4), some (.int x5), some (.int x6), some (.int x7)] [.int y1, .int y0] h Q :=
  b_Model_waysTo_50 (d := (d + 2)) (k := (am_wk2 (hk7 _ _ _ _ _ _ e) ⟨rfl, ⟨rfl, ⟨rfl, ⟨rfl, ⟨rfl, ⟨rfl, ⟨rfl, trivial⟩⟩⟩⟩⟩⟩⟩))
theorem t_Model_waysTo_49 {d : Nat} {k7 : Int32 → Int32 → Int32 → Int32 → Int32 → Int32 → Option (Int32)} {x1 : Int32} {x2 : Int32} {x3 : Int32} {x4 : Int32} {x5 : Int32} {x6 : Int32} {x7 : Int32} {y0 : Int32} {h : am_H} {Q : am_Q} {res : Int32} (hk7 : ∀ (x1 : Int32) (x2 : Int32) (x3 : Int32) (x4 : Int32) (x5 : Int32) (x6 : Int32), k7 x1 x2 x3 x4 x5 x6 = some res → am_W (X_Model_waysTo (d + 2)) 7 [some (.ref 0), some (.int x1), some (.int x2), some (.int x3), some (.int x4), some (.int x5), some (.int x6), none] [] h Q) (e : f_Model_waysTo_49 k7 h x1 x2 x3 x4 x6 y0 = some res) (q : Q (some (.int res)) h) : am_W (X_Model_waysTo (d + 2)) 49 [some (.ref 0), some (.int x1), some (.int x2), some (.int x3), some (.int x4), some (.int x5), some (.int x6), some (.int x7)] [.int y0] h Q :=
  b_Model_waysTo_49 (d := (d + 2)) (k := (t_Model_waysTo_50 hk7 e q))
theorem t_Model_waysTo_45 {d : Nat} {k7 : Int32 → Int32 → Int32 → Int32 → Int32 → Int32 → Option (Int32)} {x1 : Int32} {x2 : Int32} {x3 : Int32} {x4 : Int32} {x5 : Int32} {x6 : Int32} {x7 : Int32} {y0 : Int32} {h : am_H} {Q : am_Q} {res : Int32} (hk7 : ∀ (x1 : Int32) (x2 : Int32) (x3 : Int32) (x4 : Int32) (x5 : Int32) (x6 : Int32), k7 x1 x2 x3 x4 x5 x6 = some res → am_W (X_Model_waysTo (d + 2)) 7 [some (.ref 0), some (.int x1), some (.int x2), some (.int x3), some (.int x4), some (.int x5), some (.int x6), none] [] h Q) (e : f_Model_waysTo_45 k7 h x1 x2 x3 x4 x6 y0 = some res) (q : Q (some (.int res)) h) : am_W (X_Model_waysTo (d + 2)) 45 [some (.ref 0), some (.int x1), some (.int x2), some (.int x3), some (.int x4), some (.int x5), some (.int x6), some (.int x7)] [.int y0] h Q :=
  b_Model_waysTo_45 (d := (d + 2)) (k := (t_Model_waysTo_50 hk7 e q))
theorem t_Model_waysTo_40 {d : Nat} {k7 : Int32 → Int32 → Int32 → Int32 → Int32 → Int32 → Option (Int32)} {x1 : Int32} {x2 : Int32} {x3 : Int32} {x4 : Int32} {x5 : Int32} {x6 : Int32} {x7 : Int32} {y1 : Int32} {y0 : Int32} {h : am_H} {Q : am_Q} {res : Int32} (hk7 : ∀ (x1 : Int32) (x2 : Int32) (x3 : Int32) (x4 : Int32) (x5 : Int32) (x6 : Int32), k7 x1 x2 x3 x4 x5 x6 = some res → am_W (X_Model_waysTo (d + 2)) 7 [some (.ref 0), some (.int x1), some (.int x2), some (.int x3), some (.int x4), some (.int x5), some (.int x6), none] [] h Q) (e : f_Model_waysTo_40 k7 h x1 x2 x3 x4 x6 y1 y0 = some res) (q : Q (some (.int res)) h) : am_W (X_Model_waysTo (d + 2)) 40 [some (.ref 0), some (.int x1), some (.int x2), some (.int x3), some (.int x4), some (.int x5), some (.int x6), some (.int x7)] [.int y1, .int y0] h Q :=
  b_Model_waysTo_40 (d := (d + 2)) (kt := fun c => (t_Model_waysTo_49 hk7 (am_ife e c) q)) (kf := fun c => (t_Model_waysTo_45 hk7 (am_ift e c) q))
theorem t_Model_waysTo_38 {d : Nat} {k7 : Int32 → Int32 → Int32 → Int32 → Int32 → Int32 → Option (Int32)} {x1 : Int32} {x2 : Int32} {x3 : Int32} {x4 : Int32} {x5 : Int32} {x6 : Int32} {x7 : Int32} {y0 : Int32} {h : am_H} {Q : am_Q} {res : Int32} (hk7 : ∀ (x1 : Int32) (x2 : Int32) (x3 : Int32) (x4 : Int32) (x5 : Int32) (x6 : Int32), k7 x1 x2 x3 x4 x5 x6 = some res → am_W (X_Model_waysTo (d + 2)) 7 [some (.ref 0), some (.int x1), some (.int x2), some (.int x3), some (.int x4), some (.int x5), some (.int x6), none] [] h Q) (e : f_Model_waysTo_38 k7 h x1 x2 x3 x4 x6 x7 y0 = some res) (q : Q (some (.int res)) h) : am_W (X_Model_waysTo (d + 2)) 38 [some (.ref 0), some (.int x1), some (.int x2), some (.int x3), some (.int x4), some (.int x5), some (.int x6), some (.int x7)] [.int y0] h Q :=
  b_Model_waysTo_38 (d := (d + 2)) (k := (t_Model_waysTo_40 hk7 e q))
theorem t_Model_waysTo_34 {d : Nat} {k7 : Int32 → Int32 → Int32 → Int32 → Int32 → Int32 → Option (Int32)} {x1 : Int32} {x2 : Int32} {x3 : Int32} {x4 : Int32} {x5 : Int32} {x6 : Int32} {x7 : Int32} {y0 : Int32} {h : am_H} {Q : am_Q} {res : Int32} (hk7 : ∀ (x1 : Int32) (x2 : Int32) (x3 : Int32) (x4 : Int32) (x5 : Int32) (x6 : Int32), k7 x1 x2 x3 x4 x5 x6 = some res → am_W (X_Model_waysTo (d + 2)) 7 [some (.ref 0), some (.int x1), some (.int x2), some (.int x3), some (.int x4), some (.int x5), some (.int x6), none] [] h Q) (e : f_Model_waysTo_34 k7 h x1 x2 x3 x4 x6 y0 = some res) (q : Q (some (.int res)) h) : am_W (X_Model_waysTo (d + 2)) 34 [some (.ref 0), some (.int x1), some (.int x2), some (.int x3), some (.int x4), some (.int x5), some (.int x6), some (.int x7)] [.int y0] h Q :=
  b_Model_waysTo_34 (d := (d + 2)) (k := (t_Model_waysTo_40 hk7 e q))
theorem t_Model_waysTo_31 {d : Nat} {k7 : Int32 → Int32 → Int32 → Int32 → Int32 → Int32 → Option (Int32)} {x1 : Int32} {x2 : Int32} {x3 : Int32} {x4 : Int32} {x5 : Int32} {x6 : Int32} {x7 : Int32} {y1 : Bool} {y0 : Int32} {h : am_H} {Q : am_Q} {res : Int32} (hk7 : ∀ (x1 : Int32) (x2 : Int32) (x3 : Int32) (x4 : Int32) (x5 : Int32) (x6 : Int32), k7 x1 x2 x3 x4 x5 x6 = some res → am_W (X_Model_waysTo (d + 2)) 7 [some (.ref 0), some (.int x1), some (.int x2), some (.int x3), some (.int x4), some (.int x5), some (.int x6), none] [] h Q) (e : f_Model_waysTo_31 k7 h x1 x2 x3 x4 x6 x7 y1 y0 = some res) (q : Q (some (.int res)) h) : am_W (X_Model_waysTo (d + 2)) 31 [some (.ref 0), some (.int x1), some (.int x2), some (.int x3), some (.int x4), some (.int x5), some (.int x6), some (.int x7)] [.int (am_b y1), .int y0] h Q :=
  b_Model_waysTo_31 (d := (d + 2)) (kt := fun c => (t_Model_waysTo_38 hk7 (am_iff e (am_bz c)) q)) (kf := fun c => (t_Model_waysTo_34 hk7 (am_ift e (am_bn c)) q))
theorem t_Model_waysTo_21 {d : Nat} {k7 : Int32 → Int32 → Int32 → Int32 → Int32 → Int32 → Option (Int32)} {x1 : Int32} {x2 : Int32} {x3 : Int32} {x4 : Int32} {x5 : Int32} {x6 : Int32} {y0 : Int32} {h : am_H} {Q : am_Q} {res : Int32} (hk7 : ∀ (x1 : Int32) (x2 : Int32) (x3 : Int32) (x4 : Int32) (x5 : Int32) (x6 : Int32), k7 x1 x2 x3 x4 x5 x6 = some res → am_W (X_Model_waysTo (d + 2)) 7 [some (.ref 0), some (.int x1), some (.int x2), some (.int x3), some (.int x4), some (.int x5), some (.int x6), none] [] h Q) (e : f_Model_waysTo_21 k7 h x1 x2 x3 x4 x5 x6 y0 = some res) (q : Q (some (.int res)) h) : am_W (X_Model_waysTo (d + 2)) 21 [some (.ref 0), some (.int x1), some (.int x2), some (.int x3), some (.int x4), some (.int x5), some (.int x6), none] [.int y0] h Q :=
  (am_bd e).elim fun p hp => b_Model_waysTo_21 (d := (d + 1)) (k := c_Model_isWater (d := d) hp.1 (t_Model_waysTo_31 hk7 hp.2 q))
theorem t_Model_waysTo_13 {d : Nat} {k7 : Int32 → Int32 → Int32 → Int32 → Int32 → Int32 → Option (Int32)} {x1 : Int32} {x2 : Int32} {x3 : Int32} {x4 : Int32} {x5 : Int32} {x6 : Int32} {h : am_H} {Q : am_Q} {res : Int32} (hk7 : ∀ (x1 : Int32) (x2 : Int32) (x3 : Int32) (x4 : Int32) (x5 : Int32) (x6 : Int32), k7 x1 x2 x3 x4 x5 x6 = some res → am_W (X_Model_waysTo (d + 2)) 7 [some (.ref 0), some (.int x1), some (.int x2), some (.int x3), some (.int x4), some (.int x5), some (.int x6), none] [] h Q) (e : f_Model_waysTo_13 k7 h x1 x2 x3 x4 x5 x6 = some res) (q : Q (some (.int res)) h) : am_W (X_Model_waysTo (d + 2)) 13 [some (.ref 0), some (.int x1), some (.int x2), some (.int x3), some (.int x4), some (.int x5), some (.int x6), none] [] h Q :=
  (am_bd e).elim fun p hp => b_Model_waysTo_13 (d := (d + 1)) (k := c_Model_downOf (d := d) hp.1 (t_Model_waysTo_21 hk7 hp.2 q))
theorem t_Model_waysTo_7 {d : Nat} {k7 : Int32 → Int32 → Int32 → Int32 → Int32 → Int32 → Option (Int32)} {x1 : Int32} {x2 : Int32} {x3 : Int32} {x4 : Int32} {x5 : Int32} {x6 : Int32} {h : am_H} {Q : am_Q} {res : Int32} (hk7 : ∀ (x1 : Int32) (x2 : Int32) (x3 : Int32) (x4 : Int32) (x5 : Int32) (x6 : Int32), k7 x1 x2 x3 x4 x5 x6 = some res → am_W (X_Model_waysTo (d + 2)) 7 [some (.ref 0), some (.int x1), some (.int x2), some (.int x3), some (.int x4), some (.int x5), some (.int x6), none] [] h Q) (e : f_Model_waysTo_7 k7 h x1 x2 x3 x4 x5 x6 = some res) (q : Q (some (.int res)) h) : am_W (X_Model_waysTo (d + 2)) 7 [some (.ref 0), some (.int x1), some (.int x2), some (.int x3), some (.int x4), some (.int x5), some (.int x6), none] [] h Q :=
  b_Model_waysTo_7 (d := (d + 2)) (kt := fun c => (t_Model_waysTo_59 (am_ift e c) q)) (kf := fun c => (t_Model_waysTo_13 hk7 (am_ife e c) q))
theorem t_Model_waysTo_7_l {d : Nat} {h : am_H} {Q : am_Q} {res : Int32} (q : Q (some (.int res)) h) : ∀ (n : Nat) (x1 : Int32) (x2 : Int32) (x3 : Int32) (x4 : Int32) (x5 : Int32) (x6 : Int32), f_Model_waysTo_7_l h n x1 x2 x3 x4 x5 x6 = some res → am_W (X_Model_waysTo (d + 2)) 7 [some (.ref 0), some (.int x1), some (.int x2), some (.int x3), some (.int x4), some (.int x5), some (.int x6), none] [] h Q := by
  intro n
  induction n with
  | zero => intro x1 x2 x3 x4 x5 x6 e; exact am_nn e
  | succ n ih => intro x1 x2 x3 x4 x5 x6 e; exact t_Model_waysTo_7 (fun x1 x2 x3 x4 x5 x6 e => ih x1 x2 x3 x4 x5 x6  e) e q
theorem t_Model_waysTo_0 {d : Nat} {x1 : Int32} {x2 : Int32} {x3 : Int32} {x4 : Int32} {h : am_H} {Q : am_Q} {res : Int32} (e : f_Model_waysTo h x1 x2 x3 x4 = some res) (q : Q (some (.int res)) h) : am_W (X_Model_waysTo (d + 2)) 0 [some (.ref 0), some (.int x1), some (.int x2), some (.int x3), some (.int x4), none, none, none] [] h Q :=
  b_Model_waysTo_0 (d := (d + 2)) (k := (t_Model_waysTo_7_l q am_fu _ _ _ _ _ _ e))
theorem c_Model_waysTo {d : Nat} {x1 : Int32} {x2 : Int32} {x3 : Int32} {x4 : Int32} {h : am_H} {Q : am_Q} {res : Int32} (e : f_Model_waysTo h x1 x2 x3 x4 = some res) (q : Q (some (.int res)) h) : m_Model_waysTo (d + 2) [.ref 0, .int x1, .int x2, .int x3, .int x4] h Q :=
  e_Model_waysTo (t_Model_waysTo_0 e q)
theorem d_Model_lies_0 : decode prog_12_method_41_code 0 = .ok (.aload_n 0, 1) := by decide +kernel
theorem d_Model_lies_1 : decode prog_12_method_41_code 1 = .ok (.iload_n 1, 1) := by decide +kernel
theorem d_Model_lies_2 : decode prog_12_method_41_code 2 = .ok (.invokevirtual 220, 3) := by decide +kernel
theorem d_Model_lies_5 : decode prog_12_method_41_code 5 = .ok (.ifCond .eq 21, 3) := by decide +kernel
theorem d_Model_lies_8 : decode prog_12_method_41_code 8 = .ok (.iload_n 2, 1) := by decide +kernel
theorem d_Model_lies_9 : decode prog_12_method_41_code 9 = .ok (.i2l, 1) := by decide +kernel
theorem d_Model_lies_10 : decode prog_12_method_41_code 10 = .ok (.invokestatic 110, 3) := by decide +kernel
theorem d_Model_lies_13 : decode prog_12_method_41_code 13 = .ok (.ifCond .eq 13, 3) := by decide +kernel
theorem d_Model_lies_16 : decode prog_12_method_41_code 16 = .ok (.iload_n 3, 1) := by decide +kernel
theorem d_Model_lies_17 : decode prog_12_method_41_code 17 = .ok (.i2l, 1) := by decide +kernel
theorem d_Model_lies_18 : decode prog_12_method_41_code 18 = .ok (.lconst 0, 1) := by decide +kernel
theorem d_Model_lies_19 : decode prog_12_method_41_code 19 = .ok (.lconst 1, 1) := by decide +kernel
theorem d_Model_lies_20 : decode prog_12_method_41_code 20 = .ok (.invokestatic 83, 3) := by decide +kernel
theorem d_Model_lies_23 : decode prog_12_method_41_code 23 = .ok (.ifCond .ne 7, 3) := by decide +kernel
theorem d_Model_lies_26 : decode prog_12_method_41_code 26 = .ok (.ldc2_w 223, 3) := by decide +kernel
theorem d_Model_lies_29 : decode prog_12_method_41_code 29 = .ok (.lreturn, 1) := by decide +kernel
theorem d_Model_lies_30 : decode prog_12_method_41_code 30 = .ok (.aload_n 0, 1) := by decide +kernel
theorem d_Model_lies_31 : decode prog_12_method_41_code 31 = .ok (.getfield 11, 3) := by decide +kernel
theorem d_Model_lies_34 : decode prog_12_method_41_code 34 = .ok (.bipush 37, 2) := by decide +kernel
theorem d_Model_lies_36 : decode prog_12_method_41_code 36 = .ok (.iload_n 1, 1) := by decide +kernel
theorem d_Model_lies_37 : decode prog_12_method_41_code 37 = .ok (.bipush 10, 2) := by decide +kernel
theorem d_Model_lies_39 : decode prog_12_method_41_code 39 = .ok (.irem, 1) := by decide +kernel
theorem d_Model_lies_40 : decode prog_12_method_41_code 40 = .ok (.iadd, 1) := by decide +kernel
theorem d_Model_lies_41 : decode prog_12_method_41_code 41 = .ok (.iaload, 1) := by decide +kernel
theorem d_Model_lies_42 : decode prog_12_method_41_code 42 = .ok (.istore 4, 2) := by decide +kernel
theorem d_Model_lies_44 : decode prog_12_method_41_code 44 = .ok (.aload_n 0, 1) := by decide +kernel
theorem d_Model_lies_45 : decode prog_12_method_41_code 45 = .ok (.iload_n 1, 1) := by decide +kernel
theorem d_Model_lies_46 : decode prog_12_method_41_code 46 = .ok (.bipush 10, 2) := by decide +kernel
theorem d_Model_lies_48 : decode prog_12_method_41_code 48 = .ok (.idiv, 1) := by decide +kernel
theorem d_Model_lies_49 : decode prog_12_method_41_code 49 = .ok (.aload_n 0, 1) := by decide +kernel
theorem d_Model_lies_50 : decode prog_12_method_41_code 50 = .ok (.getfield 11, 3) := by decide +kernel
theorem d_Model_lies_53 : decode prog_12_method_41_code 53 = .ok (.bipush 31, 2) := by decide +kernel
theorem d_Model_lies_55 : decode prog_12_method_41_code 55 = .ok (.iload_n 1, 1) := by decide +kernel
theorem d_Model_lies_56 : decode prog_12_method_41_code 56 = .ok (.bipush 10, 2) := by decide +kernel
theorem d_Model_lies_58 : decode prog_12_method_41_code 58 = .ok (.irem, 1) := by decide +kernel
theorem d_Model_lies_59 : decode prog_12_method_41_code 59 = .ok (.iadd, 1) := by decide +kernel
theorem d_Model_lies_60 : decode prog_12_method_41_code 60 = .ok (.iaload, 1) := by decide +kernel
theorem d_Model_lies_61 : decode prog_12_method_41_code 61 = .ok (.iload 4, 2) := by decide +kernel
theorem d_Model_lies_63 : decode prog_12_method_41_code 63 = .ok (.iload_n 2, 1) := by decide +kernel
theorem d_Model_lies_64 : decode prog_12_method_41_code 64 = .ok (.invokevirtual 225, 3) := by decide +kernel
theorem d_Model_lies_67 : decode prog_12_method_41_code 67 = .ok (.i2l, 1) := by decide +kernel
theorem d_Model_lies_68 : decode prog_12_method_41_code 68 = .ok (.iconst 2, 1) := by decide +kernel
theorem d_Model_lies_69 : decode prog_12_method_41_code 69 = .ok (.iload 4, 2) := by decide +kernel
theorem d_Model_lies_71 : decode prog_12_method_41_code 71 = .ok (.imul, 1) := by decide +kernel
theorem d_Model_lies_72 : decode prog_12_method_41_code 72 = .ok (.iconst 1, 1) := by decide +kernel
theorem d_Model_lies_73 : decode prog_12_method_41_code 73 = .ok (.iadd, 1) := by decide +kernel
theorem d_Model_lies_74 : decode prog_12_method_41_code 74 = .ok (.i2l, 1) := by decide +kernel
theorem d_Model_lies_75 : decode prog_12_method_41_code 75 = .ok (.iload_n 3, 1) := by decide +kernel
theorem d_Model_lies_76 : decode prog_12_method_41_code 76 = .ok (.invokestatic 229, 3) := by decide +kernel
theorem d_Model_lies_79 : decode prog_12_method_41_code 79 = .ok (.lreturn, 1) := by decide +kernel
theorem b_Model_lies_0 {d : Nat} {x1 : Int32} {x2 : Int32} {x3 : Int32} {h : am_H} {Q : am_Q} (k : m_Model_isCc d [.ref 0, .int x1] h (fun r hh => am_W (X_Model_lies (d + 1)) 5 [some (.ref 0), some (.int x1), some (.int x2), some (.int x3), none] (r.toList ++ []) hh Q)) : am_W (X_Model_lies (d + 1)) 0 [some (.ref 0), some (.int x1), some (.int x2), some (.int x3), none] [] h Q :=
  am_aload_n d_Model_lies_0 rfl (i := 0) rfl <|
    am_iload_n d_Model_lies_1 rfl (i := 1) rfl <|
    am_callV (vs := [.int x1]) (st := []) (k := 0) (ci := 10) rfl d_Model_lies_2 rfl rfl w_1569 w_1571 w_52 w_94 w_1572 p_Model_isCc (Nat.le_of_ble_eq_true rfl) (Nat.le_of_ble_eq_true rfl) rfl k
theorem b_Model_lies_5 {d : Nat} {x1 : Int32} {x2 : Int32} {x3 : Int32} {y0 : Bool} {h : am_H} {Q : am_Q} (kt : (am_b y0) = 0 → am_W (X_Model_lies d) 26 [some (.ref 0), some (.int x1), some (.int x2), some (.int x3), none] [] h Q) (kf : ¬ (am_b y0) = 0 → am_W (X_Model_lies d) 8 [some (.ref 0), some (.int x1), some (.int x2), some (.int x3), none] [] h Q) : am_W (X_Model_lies d) 5 [some (.ref 0), some (.int x1), some (.int x2), some (.int x3), none] [.int (am_b y0)] h Q :=
  am_if_eq (tgt := 26) d_Model_lies_5 (by decide) kt kf
theorem b_Model_lies_8 {d : Nat} {x1 : Int32} {x2 : Int32} {x3 : Int32} {h : am_H} {Q : am_Q} (k : m_Model_isCell d [.long x2.toInt64] h (fun r hh => am_W (X_Model_lies (d + 1)) 13 [some (.ref 0), some (.int x1), some (.int x2), some (.int x3), none] (r.toList ++ []) hh Q)) : am_W (X_Model_lies (d + 1)) 8 [some (.ref 0), some (.int x1), some (.int x2), some (.int x3), none] [] h Q :=
  am_iload_n d_Model_lies_8 rfl (i := 2) rfl <|
    am_i2l d_Model_lies_9 <|
    am_callS (vs := [.long x2.toInt64]) (st := []) rfl d_Model_lies_10 w_1469 w_1470 w_94 w_1471 p_Model_isCell (Nat.le_of_ble_eq_true rfl) (Nat.le_of_ble_eq_true rfl) rfl k
theorem b_Model_lies_13 {d : Nat} {x1 : Int32} {x2 : Int32} {x3 : Int32} {y0 : Bool} {h : am_H} {Q : am_Q} (kt : (am_b y0) = 0 → am_W (X_Model_lies d) 26 [some (.ref 0), some (.int x1), some (.int x2), some (.int x3), none] [] h Q) (kf : ¬ (am_b y0) = 0 → am_W (X_Model_lies d) 16 [some (.ref 0), some (.int x1), some (.int x2), some (.int x3), none] [] h Q) : am_W (X_Model_lies d) 13 [some (.ref 0), some (.int x1), some (.int x2), some (.int x3), none] [.int (am_b y0)] h Q :=
  am_if_eq (tgt := 26) d_Model_lies_13 (by decide) kt kf
theorem b_Model_lies_16 {d : Nat} {x1 : Int32} {x2 : Int32} {x3 : Int32} {h : am_H} {Q : am_Q} (k : m_Model_within d [.long x3.toInt64, .long 0, .long 1] h (fun r hh => am_W (X_Model_lies (d + 1)) 23 [some (.ref 0), some (.int x1), some (.int x2), some (.int x3), none] (r.toList ++ []) hh Q)) : am_W (X_Model_lies (d + 1)) 16 [some (.ref 0), some (.int x1), some (.int x2), some (.int x3), none] [] h Q :=
  am_iload_n d_Model_lies_16 rfl (i := 3) rfl <|
    am_i2l d_Model_lies_17 <|
    am_lconst (v := 0) d_Model_lies_18 (by decide) <|
    am_lconst (v := 1) d_Model_lies_19 (by decide) <|
    am_callS (vs := [.long x3.toInt64, .long 0, .long 1]) (st := []) rfl d_Model_lies_20 w_1443 w_1444 w_94 w_1445 p_Model_within (Nat.le_of_ble_eq_true rfl) (Nat.le_of_ble_eq_true rfl) rfl k
theorem b_Model_lies_23 {d : Nat} {x1 : Int32} {x2 : Int32} {x3 : Int32} {y0 : Bool} {h : am_H} {Q : am_Q} (kt : ¬ (am_b y0) = 0 → am_W (X_Model_lies d) 30 [some (.ref 0), some (.int x1), some (.int x2), some (.int x3), none] [] h Q) (kf : (am_b y0) = 0 → am_W (X_Model_lies d) 26 [some (.ref 0), some (.int x1), some (.int x2), some (.int x3), none] [] h Q) : am_W (X_Model_lies d) 23 [some (.ref 0), some (.int x1), some (.int x2), some (.int x3), none] [.int (am_b y0)] h Q :=
  am_if_ne (tgt := 30) d_Model_lies_23 (by decide) kt kf
theorem b_Model_lies_26 {d : Nat} {x1 : Int32} {x2 : Int32} {x3 : Int32} {h : am_H} {Q : am_Q} (q : Q (some (.long (-9223372036854775808))) h) : am_W (X_Model_lies d) 26 [some (.ref 0), some (.int x1), some (.int x2), some (.int x3), none] [] h Q :=
  am_ldc2 (v := (-9223372036854775808)) d_Model_lies_26 w_1573 <|
    am_lret rfl d_Model_lies_29 q
theorem b_Model_lies_30 {d : Nat} {x1 : Int32} {x2 : Int32} {x3 : Int32} {h : am_H} {Q : am_Q} (q0 : vp_in (37 + (x1 - x1 / 10 * 10)) 54) (q1 : vp_in (31 + (x1 - x1 / 10 * 10)) 54) (k : m_Model_waysTo d [.ref 0, .int (x1 / 10), .int (h.1 1 (31 + (x1 - x1 / 10 * 10)).toNatClampNeg), .int (h.1 1 (37 + (x1 - x1 / 10 * 10)).toNatClampNeg), .int x2] h (fun r hh => am_W (X_Model_lies (d + 1)) 67 [some (.ref 0), some (.int x1), some (.int x2), some (.int x3), some (.int (h.1 1 (37 + (x1 - x1 / 10 * 10)).toNatClampNeg))] (r.toList ++ []) hh Q)) : am_W (X_Model_lies (d + 1)) 30 [some (.ref 0), some (.int x1), some (.int x2), some (.int x3), none] [] h Q :=
  am_aload_n d_Model_lies_30 rfl (i := 0) rfl <|
    am_getR (ci := 10) (i := 0) rfl rfl rfl (Nat.le_of_ble_eq_true rfl) w_1318 d_Model_lies_31 <|
    am_bipush (v := 37) d_Model_lies_34 (by decide) <|
    am_iload_n d_Model_lies_36 rfl (i := 1) rfl <|
    am_bipush (v := 10) d_Model_lies_37 (by decide) <|
    am_irem d_Model_lies_39 (by decide) <|
    am_iadd d_Model_lies_40 <|
    am_iald rfl q0 d_Model_lies_41 <|
    am_istore (ls' := [some (.ref 0), some (.int x1), some (.int x2), some (.int x3), some (.int (h.1 1 (37 + (x1 - x1 / 10 * 10)).toNatClampNeg))]) d_Model_lies_42 (Nat.le_of_ble_eq_true rfl) rfl <|
    am_aload_n d_Model_lies_44 rfl (i := 0) rfl <|
    am_iload_n d_Model_lies_45 rfl (i := 1) rfl <|
    am_bipush (v := 10) d_Model_lies_46 (by decide) <|
    am_idiv d_Model_lies_48 (by decide) <|
    am_aload_n d_Model_lies_49 rfl (i := 0) rfl <|
    am_getR (ci := 10) (i := 0) rfl rfl rfl (Nat.le_of_ble_eq_true rfl) w_1318 d_Model_lies_50 <|
    am_bipush (v := 31) d_Model_lies_53 (by decide) <|
    am_iload_n d_Model_lies_55 rfl (i := 1) rfl <|
    am_bipush (v := 10) d_Model_lies_56 (by decide) <|
    am_irem d_Model_lies_58 (by decide) <|
    am_iadd d_Model_lies_59 <|
    am_iald rfl q1 d_Model_lies_60 <|
    am_iload d_Model_lies_61 rfl <|
    am_iload_n d_Model_lies_63 rfl (i := 2) rfl <|
    am_callV (vs := [.int (x1 / 10), .int (h.1 1 (31 + (x1 - x1 / 10 * 10)).toNatClampNeg), .int (h.1 1 (37 + (x1 - x1 / 10 * 10)).toNatClampNeg), .int x2]) (st := []) (k := 0) (ci := 10) rfl d_Model_lies_64 rfl rfl w_1574 w_1576 w_53 w_94 w_1577 p_Model_waysTo (Nat.le_of_ble_eq_true rfl) (Nat.le_of_ble_eq_true rfl) rfl k
theorem b_Model_lies_67 {d : Nat} {x1 : Int32} {x2 : Int32} {x3 : Int32} {x4 : Int32} {y0 : Int32} {h : am_H} {Q : am_Q} (k : m_Model_partOf d [.long y0.toInt64, .long (((2 * x4) + 1).toInt64), .int x3] h (fun r hh => am_W (X_Model_lies (d + 1)) 79 [some (.ref 0), some (.int x1), some (.int x2), some (.int x3), some (.int x4)] (r.toList ++ []) hh Q)) : am_W (X_Model_lies (d + 1)) 67 [some (.ref 0), some (.int x1), some (.int x2), some (.int x3), some (.int x4)] [.int y0] h Q :=
  am_i2l d_Model_lies_67 <|
    am_iconst (v := 2) d_Model_lies_68 (by decide) <|
    am_iload d_Model_lies_69 rfl <|
    am_imul d_Model_lies_71 <|
    am_iconst (v := 1) d_Model_lies_72 (by decide) <|
    am_iadd d_Model_lies_73 <|
    am_i2l d_Model_lies_74 <|
    am_iload_n d_Model_lies_75 rfl (i := 3) rfl <|
    am_callS (vs := [.long y0.toInt64, .long (((2 * x4) + 1).toInt64), .int x3]) (st := []) rfl d_Model_lies_76 w_1590 w_1591 w_94 w_1592 p_Model_partOf (Nat.le_of_ble_eq_true rfl) (Nat.le_of_ble_eq_true rfl) rfl k
theorem b_Model_lies_79 {d : Nat} {x1 : Int32} {x2 : Int32} {x3 : Int32} {x4 : Int32} {y0 : Int64} {h : am_H} {Q : am_Q} (q : Q (some (.long y0)) h) : am_W (X_Model_lies d) 79 [some (.ref 0), some (.int x1), some (.int x2), some (.int x3), some (.int x4)] [.long y0] h Q :=
  am_lret rfl d_Model_lies_79 q
theorem t_Model_lies_26 {d : Nat} {x1 : Int32} {x2 : Int32} {x3 : Int32} {h : am_H} {Q : am_Q} {res : Int64} (e : f_Model_lies_26 h = some res) (q : Q (some (.long res)) h) : am_W (X_Model_lies (d + 3)) 26 [some (.ref 0), some (.int x1), some (.int x2), some (.int x3), none] [] h Q :=
  b_Model_lies_26 (d := (d + 3)) (q := (am_rJp (v := (-9223372036854775808)) e q))
theorem t_Model_lies_79 {d : Nat} {x1 : Int32} {x2 : Int32} {x3 : Int32} {x4 : Int32} {y0 : Int64} {h : am_H} {Q : am_Q} {res : Int64} (e : f_Model_lies_79 h y0 = some res) (q : Q (some (.long res)) h) : am_W (X_Model_lies (d + 3)) 79 [some (.ref 0), some (.int x1), some (.int x2), some (.int x3), some (.int x4)] [.long y0] h Q :=
  b_Model_lies_79 (d := (d + 3)) (q := (am_rJp (v := y0) e q))
theorem t_Model_lies_67 {d : Nat} {x1 : Int32} {x2 : Int32} {x3 : Int32} {x4 : Int32} {y0 : Int32} {h : am_H} {Q : am_Q} {res : Int64} (e : f_Model_lies_67 h x3 x4 y0 = some res) (q : Q (some (.long res)) h) : am_W (X_Model_lies (d + 3)) 67 [some (.ref 0), some (.int x1), some (.int x2), some (.int x3), some (.int x4)] [.int y0] h Q :=
  (am_bd e).elim fun p hp => b_Model_lies_67 (d := (d + 2)) (k := c_Model_partOf (d := d + 1) hp.1 (t_Model_lies_79 hp.2 q))
theorem t_Model_lies_30 {d : Nat} {x1 : Int32} {x2 : Int32} {x3 : Int32} {h : am_H} {Q : am_Q} {res : Int64} (e : f_Model_lies_30 h x1 x2 x3 = some res) (q : Q (some (.long res)) h) : am_W (X_Model_lies (d + 3)) 30 [some (.ref 0), some (.int x1), some (.int x2), some (.int x3), none] [] h Q :=
  (am_bd (am_ga (am_ga e))).elim fun p hp => b_Model_lies_30 (d := (d + 2)) (q0 := (am_okv (am_gd e))) (q1 := (am_okv (am_gd (am_ga e)))) (k := c_Model_waysTo (d := d) hp.1 (t_Model_lies_67 hp.2 q))
theorem t_Model_lies_23 {d : Nat} {x1 : Int32} {x2 : Int32} {x3 : Int32} {y0 : Bool} {h : am_H} {Q : am_Q} {res : Int64} (e : f_Model_lies_23 h x1 x2 x3 y0 = some res) (q : Q (some (.long res)) h) : am_W (X_Model_lies (d + 3)) 23 [some (.ref 0), some (.int x1), some (.int x2), some (.int x3), none] [.int (am_b y0)] h Q :=
  b_Model_lies_23 (d := (d + 3)) (kt := fun c => (t_Model_lies_30 (am_ift e (am_bn c)) q)) (kf := fun c => (t_Model_lies_26 (am_iff e (am_bz c)) q))
theorem t_Model_lies_16 {d : Nat} {x1 : Int32} {x2 : Int32} {x3 : Int32} {h : am_H} {Q : am_Q} {res : Int64} (e : f_Model_lies_16 h x1 x2 x3 = some res) (q : Q (some (.long res)) h) : am_W (X_Model_lies (d + 3)) 16 [some (.ref 0), some (.int x1), some (.int x2), some (.int x3), none] [] h Q :=
  b_Model_lies_16 (d := (d + 2)) (k := c_Model_within (d := d + 2) rfl (t_Model_lies_23 e q))
theorem t_Model_lies_13 {d : Nat} {x1 : Int32} {x2 : Int32} {x3 : Int32} {y0 : Bool} {h : am_H} {Q : am_Q} {res : Int64} (e : f_Model_lies_13 h x1 x2 x3 y0 = some res) (q : Q (some (.long res)) h) : am_W (X_Model_lies (d + 3)) 13 [some (.ref 0), some (.int x1), some (.int x2), some (.int x3), none] [.int (am_b y0)] h Q :=
  b_Model_lies_13 (d := (d + 3)) (kt := fun c => (t_Model_lies_26 (am_iff e (am_bz c)) q)) (kf := fun c => (t_Model_lies_16 (am_ift e (am_bn c)) q))
theorem t_Model_lies_8 {d : Nat} {x1 : Int32} {x2 : Int32} {x3 : Int32} {h : am_H} {Q : am_Q} {res : Int64} (e : f_Model_lies_8 h x1 x2 x3 = some res) (q : Q (some (.long res)) h) : am_W (X_Model_lies (d + 3)) 8 [some (.ref 0), some (.int x1), some (.int x2), some (.int x3), none] [] h Q :=
  b_Model_lies_8 (d := (d + 2)) (k := c_Model_isCell (d := d + 1) rfl (t_Model_lies_13 e q))
theorem t_Model_lies_5 {d : Nat} {x1 : Int32} {x2 : Int32} {x3 : Int32} {y0 : Bool} {h : am_H} {Q : am_Q} {res : Int64} (e : f_Model_lies_5 h x1 x2 x3 y0 = some res) (q : Q (some (.long res)) h) : am_W (X_Model_lies (d + 3)) 5 [some (.ref 0), some (.int x1), some (.int x2), some (.int x3), none] [.int (am_b y0)] h Q :=
  b_Model_lies_5 (d := (d + 3)) (kt := fun c => (t_Model_lies_26 (am_iff e (am_bz c)) q)) (kf := fun c => (t_Model_lies_8 (am_ift e (am_bn c)) q))
theorem t_Model_lies_0 {d : Nat} {x1 : Int32} {x2 : Int32} {x3 : Int32} {h : am_H} {Q : am_Q} {res : Int64} (e : f_Model_lies h x1 x2 x3 = some res) (q : Q (some (.long res)) h) : am_W (X_Model_lies (d + 3)) 0 [some (.ref 0), some (.int x1), some (.int x2), some (.int x3), none] [] h Q :=
  (am_bd e).elim fun p hp => b_Model_lies_0 (d := (d + 2)) (k := c_Model_isCc (d := d) hp.1 (t_Model_lies_5 hp.2 q))
theorem c_Model_lies {d : Nat} {x1 : Int32} {x2 : Int32} {x3 : Int32} {h : am_H} {Q : am_Q} {res : Int64} (e : f_Model_lies h x1 x2 x3 = some res) (q : Q (some (.long res)) h) : m_Model_lies (d + 3) [.ref 0, .int x1, .int x2, .int x3] h Q :=
  e_Model_lies (t_Model_lies_0 e q)
theorem d_Model_wetWays_0 : decode prog_12_method_42_code 0 = .ok (.iconst 0, 1) := by decide +kernel
theorem d_Model_wetWays_1 : decode prog_12_method_42_code 1 = .ok (.istore_n 3, 1) := by decide +kernel
theorem d_Model_wetWays_2 : decode prog_12_method_42_code 2 = .ok (.aload_n 0, 1) := by decide +kernel
theorem d_Model_wetWays_3 : decode prog_12_method_42_code 3 = .ok (.getfield 11, 3) := by decide +kernel
theorem d_Model_wetWays_6 : decode prog_12_method_42_code 6 = .ok (.bipush 37, 2) := by decide +kernel
theorem d_Model_wetWays_8 : decode prog_12_method_42_code 8 = .ok (.iload_n 2, 1) := by decide +kernel
theorem d_Model_wetWays_9 : decode prog_12_method_42_code 9 = .ok (.iadd, 1) := by decide +kernel
theorem d_Model_wetWays_10 : decode prog_12_method_42_code 10 = .ok (.iaload, 1) := by decide +kernel
theorem d_Model_wetWays_11 : decode prog_12_method_42_code 11 = .ok (.ineg, 1) := by decide +kernel
theorem d_Model_wetWays_12 : decode prog_12_method_42_code 12 = .ok (.istore 4, 2) := by decide +kernel
theorem d_Model_wetWays_14 : decode prog_12_method_42_code 14 = .ok (.iload 4, 2) := by decide +kernel
theorem d_Model_wetWays_16 : decode prog_12_method_42_code 16 = .ok (.aload_n 0, 1) := by decide +kernel
theorem d_Model_wetWays_17 : decode prog_12_method_42_code 17 = .ok (.getfield 11, 3) := by decide +kernel
theorem d_Model_wetWays_20 : decode prog_12_method_42_code 20 = .ok (.bipush 37, 2) := by decide +kernel
theorem d_Model_wetWays_22 : decode prog_12_method_42_code 22 = .ok (.iload_n 2, 1) := by decide +kernel
theorem d_Model_wetWays_23 : decode prog_12_method_42_code 23 = .ok (.iadd, 1) := by decide +kernel
theorem d_Model_wetWays_24 : decode prog_12_method_42_code 24 = .ok (.iaload, 1) := by decide +kernel
theorem d_Model_wetWays_25 : decode prog_12_method_42_code 25 = .ok (.if_icmp .gt 40, 3) := by decide +kernel
theorem d_Model_wetWays_28 : decode prog_12_method_42_code 28 = .ok (.iload_n 3, 1) := by decide +kernel
theorem d_Model_wetWays_29 : decode prog_12_method_42_code 29 = .ok (.aload_n 0, 1) := by decide +kernel
theorem d_Model_wetWays_30 : decode prog_12_method_42_code 30 = .ok (.aload_n 0, 1) := by decide +kernel
theorem d_Model_wetWays_31 : decode prog_12_method_42_code 31 = .ok (.iload_n 1, 1) := by decide +kernel
theorem d_Model_wetWays_32 : decode prog_12_method_42_code 32 = .ok (.aload_n 0, 1) := by decide +kernel
theorem d_Model_wetWays_33 : decode prog_12_method_42_code 33 = .ok (.getfield 11, 3) := by decide +kernel
theorem d_Model_wetWays_36 : decode prog_12_method_42_code 36 = .ok (.bipush 31, 2) := by decide +kernel
theorem d_Model_wetWays_38 : decode prog_12_method_42_code 38 = .ok (.iload_n 2, 1) := by decide +kernel
theorem d_Model_wetWays_39 : decode prog_12_method_42_code 39 = .ok (.iadd, 1) := by decide +kernel
theorem d_Model_wetWays_40 : decode prog_12_method_42_code 40 = .ok (.iaload, 1) := by decide +kernel
theorem d_Model_wetWays_41 : decode prog_12_method_42_code 41 = .ok (.iload 4, 2) := by decide +kernel
theorem d_Model_wetWays_43 : decode prog_12_method_42_code 43 = .ok (.invokevirtual 214, 3) := by decide +kernel
theorem d_Model_wetWays_46 : decode prog_12_method_42_code 46 = .ok (.invokevirtual 217, 3) := by decide +kernel
theorem d_Model_wetWays_49 : decode prog_12_method_42_code 49 = .ok (.ifCond .eq 7, 3) := by decide +kernel
theorem d_Model_wetWays_52 : decode prog_12_method_42_code 52 = .ok (.iconst 1, 1) := by decide +kernel
theorem d_Model_wetWays_53 : decode prog_12_method_42_code 53 = .ok (.goto 4, 3) := by decide +kernel
theorem d_Model_wetWays_56 : decode prog_12_method_42_code 56 = .ok (.iconst 0, 1) := by decide +kernel
theorem d_Model_wetWays_57 : decode prog_12_method_42_code 57 = .ok (.iadd, 1) := by decide +kernel
theorem d_Model_wetWays_58 : decode prog_12_method_42_code 58 = .ok (.istore_n 3, 1) := by decide +kernel
theorem d_Model_wetWays_59 : decode prog_12_method_42_code 59 = .ok (.iinc 4 1, 3) := by decide +kernel
theorem d_Model_wetWays_62 : decode prog_12_method_42_code 62 = .ok (.goto (-48), 3) := by decide +kernel
theorem d_Model_wetWays_65 : decode prog_12_method_42_code 65 = .ok (.iload_n 3, 1) := by decide +kernel
theorem d_Model_wetWays_66 : decode prog_12_method_42_code 66 = .ok (.ireturn, 1) := by decide +kernel
theorem b_Model_wetWays_0 {d : Nat} {x1 : Int32} {x2 : Int32} {h : am_H} {Q : am_Q} (q0 : vp_in (37 + x2) 54) (k : am_W (X_Model_wetWays d) 14 [some (.ref 0), some (.int x1), some (.int x2), some (.int 0), some (.int (-(h.1 1 (37 + x2).toNatClampNeg)))] [] h Q) : am_W (X_Model_wetWays d) 0 [some (.ref 0), some (.int x1), some (.int x2), none, none] [] h Q :=
  am_iconst (v := 0) d_Model_wetWays_0 (by decide) <|
    am_istore_n (ls' := [some (.ref 0), some (.int x1), some (.int x2), some (.int 0), none]) d_Model_wetWays_1 rfl (Nat.le_of_ble_eq_true rfl) rfl <|
    am_aload_n d_Model_wetWays_2 rfl (i := 0) rfl <|
    am_getR (ci := 10) (i := 0) rfl rfl rfl (Nat.le_of_ble_eq_true rfl) w_1318 d_Model_wetWays_3 <|
    am_bipush (v := 37) d_Model_wetWays_6 (by decide) <|
    am_iload_n d_Model_wetWays_8 rfl (i := 2) rfl <|
    am_iadd d_Model_wetWays_9 <|
    am_iald rfl q0 d_Model_wetWays_10 <|
    am_ineg d_Model_wetWays_11 <|
    am_istore (ls' := [some (.ref 0), some (.int x1), some (.int x2), some (.int 0), some (.int (-(h.1 1 (37 + x2).toNatClampNeg)))]) d_Model_wetWays_12 (Nat.le_of_ble_eq_true rfl) rfl <|
    k
theorem b_Model_wetWays_14 {d : Nat} {x1 : Int32} {x2 : Int32} {x3 : Int32} {x4 : Int32} {h : am_H} {Q : am_Q} (q0 : vp_in (37 + x2) 54) (kt : (h.1 1 (37 + x2).toNatClampNeg) < x4 → am_W (X_Model_wetWays d) 65 [some (.ref 0), some (.int x1), some (.int x2), some (.int x3), some (.int x4)] [] h Q) (kf : ¬ (h.1 1 (37 + x2).toNatClampNeg) < x4 → am_W (X_Model_wetWays d) 28 [some (.ref 0), some (.int x1), some (.int x2), some (.int x3), some (.int x4)] [] h Q) : am_W (X_Model_wetWays d) 14 [some (.ref 0), some (.int x1), some (.int x2), some (.int x3), some (.int x4)] [] h Q :=
  am_iload d_Model_wetWays_14 rfl <|
    am_aload_n d_Model_wetWays_16 rfl (i := 0) rfl <|
    am_getR (ci := 10) (i := 0) rfl rfl rfl (Nat.le_of_ble_eq_true rfl) w_1318 d_Model_wetWays_17 <|
    am_bipush (v := 37) d_Model_wetWays_20 (by decide) <|
    am_iload_n d_Model_wetWays_22 rfl (i := 2) rfl <|
    am_iadd d_Model_wetWays_23 <|
    am_iald rfl q0 d_Model_wetWays_24 <|
    am_icmp_gt (tgt := 65) d_Model_wetWays_25 (by decide) kt kf
theorem b_Model_wetWays_28 {d : Nat} {x1 : Int32} {x2 : Int32} {x3 : Int32} {x4 : Int32} {h : am_H} {Q : am_Q} (q0 : vp_in (31 + x2) 54) (k : m_Model_downOf d [.ref 0, .int x1, .int (h.1 1 (31 + x2).toNatClampNeg), .int x4] h (fun r hh => am_W (X_Model_wetWays (d + 1)) 46 [some (.ref 0), some (.int x1), some (.int x2), some (.int x3), some (.int x4)] (r.toList ++ [.ref 0, .int x3]) hh Q)) : am_W (X_Model_wetWays (d + 1)) 28 [some (.ref 0), some (.int x1), some (.int x2), some (.int x3), some (.int x4)] [] h Q :=
  am_iload_n d_Model_wetWays_28 rfl (i := 3) rfl <|
    am_aload_n d_Model_wetWays_29 rfl (i := 0) rfl <|
    am_aload_n d_Model_wetWays_30 rfl (i := 0) rfl <|
    am_iload_n d_Model_wetWays_31 rfl (i := 1) rfl <|
    am_aload_n d_Model_wetWays_32 rfl (i := 0) rfl <|
    am_getR (ci := 10) (i := 0) rfl rfl rfl (Nat.le_of_ble_eq_true rfl) w_1318 d_Model_wetWays_33 <|
    am_bipush (v := 31) d_Model_wetWays_36 (by decide) <|
    am_iload_n d_Model_wetWays_38 rfl (i := 2) rfl <|
    am_iadd d_Model_wetWays_39 <|
    am_iald rfl q0 d_Model_wetWays_40 <|
    am_iload d_Model_wetWays_41 rfl <|
    am_callV (vs := [.int x1, .int (h.1 1 (31 + x2).toNatClampNeg), .int x4]) (st := [.ref 0, .int x3]) (k := 0) (ci := 10) rfl d_Model_wetWays_43 rfl rfl w_1578 w_1580 w_54 w_94 w_1581 p_Model_downOf (Nat.le_of_ble_eq_true rfl) (Nat.le_of_ble_eq_true rfl) rfl k
theorem b_Model_wetWays_46 {d : Nat} {x1 : Int32} {x2 : Int32} {x3 : Int32} {x4 : Int32} {y2 : Int32} {y0 : Int32} {h : am_H} {Q : am_Q} (k : m_Model_isWater d [.ref 0, .int y2] h (fun r hh => am_W (X_Model_wetWays (d + 1)) 49 [some (.ref 0), some (.int x1), some (.int x2), some (.int x3), some (.int x4)] (r.toList ++ [.int y0]) hh Q)) : am_W (X_Model_wetWays (d + 1)) 46 [some (.ref 0), some (.int x1), some (.int x2), some (.int x3), some (.int x4)] [.int y2, .ref 0, .int y0] h Q :=
  am_callV (vs := [.int y2]) (st := [.int y0]) (k := 0) (ci := 10) rfl d_Model_wetWays_46 rfl rfl w_1586 w_1588 w_56 w_94 w_1589 p_Model_isWater (Nat.le_of_ble_eq_true rfl) (Nat.le_of_ble_eq_true rfl) rfl k
theorem b_Model_wetWays_49 {d : Nat} {x1 : Int32} {x2 : Int32} {x3 : Int32} {x4 : Int32} {y1 : Bool} {y0 : Int32} {h : am_H} {Q : am_Q} (kt : (am_b y1) = 0 → am_W (X_Model_wetWays d) 56 [some (.ref 0), some (.int x1), some (.int x2), some (.int x3), some (.int x4)] [.int y0] h Q) (kf : ¬ (am_b y1) = 0 → am_W (X_Model_wetWays d) 52 [some (.ref 0), some (.int x1), some (.int x2), some (.int x3), some (.int x4)] [.int y0] h Q) : am_W (X_Model_wetWays d) 49 [some (.ref 0), some (.int x1), some (.int x2), some (.int x3), some (.int x4)] [.int (am_b y1), .int y0] h Q :=
  am_if_eq (tgt := 56) d_Model_wetWays_49 (by decide) kt kf
theorem b_Model_wetWays_52 {d : Nat} {x1 : Int32} {x2 : Int32} {x3 : Int32} {x4 : Int32} {y0 : Int32} {h : am_H} {Q : am_Q} (k : am_W (X_Model_wetWays d) 57 [some (.ref 0), some (.int x1), some (.int x2), some (.int x3), some (.int x4)] [.int 1, .int y0] h Q) : am_W (X_Model_wetWays d) 52 [some (.ref 0), some (.int x1), some (.int x2), some (.int x3), some (.int x4)] [.int y0] h Q :=
  am_iconst (v := 1) d_Model_wetWays_52 (by decide) <|
    am_goto (tgt := 57) d_Model_wetWays_53 (by decide) k
theorem b_Model_wetWays_56 {d : Nat} {x1 : Int32} {x2 : Int32} {x3 : Int32} {x4 : Int32} {y0 : Int32} {h : am_H} {Q : am_Q} (k : am_W (X_Model_wetWays d) 57 [some (.ref 0), some (.int x1), some (.int x2), some (.int x3), some (.int x4)] [.int 0, .int y0] h Q) : am_W (X_Model_wetWays d) 56 [some (.ref 0), some (.int x1), some (.int x2), some (.int x3), some (.int x4)] [.int y0] h Q :=
  am_iconst (v := 0) d_Model_wetWays_56 (by decide) <|
    k
theorem b_Model_wetWays_57 {d : Nat} {x1 : Int32} {x2 : Int32} {x3 : Int32} {x4 : Int32} {y1 : Int32} {y0 : Int32} {h : am_H} {Q : am_Q} (k : am_W (X_Model_wetWays d) 14 [some (.ref 0), some (.int x1), some (.int x2), some (.int (y0 + y1)), some (.int (x4 + 1))] [] h Q) : am_W (X_Model_wetWays d) 57 [some (.ref 0), some (.int x1), some (.int x2), some (.int x3), some (.int x4)] [.int y1, .int y0] h Q :=
  am_iadd d_Model_wetWays_57 <|
    am_istore_n (ls' := [some (.ref 0), some (.int x1), some (.int x2), some (.int (y0 + y1)), some (.int x4)]) d_Model_wetWays_58 rfl (Nat.le_of_ble_eq_true rfl) rfl <|
    am_iinc (v := (x4 + 1)) (ls' := [some (.ref 0), some (.int x1), some (.int x2), some (.int (y0 + y1)), some (.int (x4 + 1))]) d_Model_wetWays_59 rfl rfl (Nat.le_of_ble_eq_true rfl) rfl <|
    am_goto (tgt := 14) d_Model_wetWays_62 (by decide) k
theorem b_Model_wetWays_65 {d : Nat} {x1 : Int32} {x2 : Int32} {x3 : Int32} {x4 : Int32} {h : am_H} {Q : am_Q} (q : Q (some (.int x3)) h) : am_W (X_Model_wetWays d) 65 [some (.ref 0), some (.int x1), some (.int x2), some (.int x3), some (.int x4)] [] h Q :=
  am_iload_n d_Model_wetWays_65 rfl (i := 3) rfl <|
    am_iret rfl d_Model_wetWays_66 q
theorem t_Model_wetWays_65 {d : Nat} {x1 : Int32} {x2 : Int32} {x3 : Int32} {x4 : Int32} {h : am_H} {Q : am_Q} {res : Int32} (e : f_Model_wetWays_65 h x3 = some res) (q : Q (some (.int res)) h) : am_W (X_Model_wetWays (d + 2)) 65 [some (.ref 0), some (.int x1), some (.int x2), some (.int x3), some (.int x4)] [] h Q :=
  b_Model_wetWays_65 (d := (d + 2)) (q := (am_rIp (v := x3) e q))
theorem t_Model_wetWays_57 {d : Nat} {k14 : Int32 → Int32 → Int32 → Int32 → Option (Int32)} {x1 : Int32} {x2 : Int32} {x3 : Int32} {x4 : Int32} {y1 : Int32} {y0 : Int32} {h : am_H} {Q : am_Q} {res : Int32} (hk14 : ∀ (x1 : Int32) (x2 : Int32) (x3 : Int32) (x4 : Int32), k14 x1 x2 x3 x4 = some res → am_W (X_Model_wetWays (d + 2)) 14 [some (.ref 0), some (.int x1), some (.int x2), some (.int x3), some (.int x4)] [] h Q) (e : f_Model_wetWays_57 k14 h x1 x2 x4 y1 y0 = some res) (q : Q (some (.int res)) h) : am_W (X_Model_wetWays (d + 2)) 57 [some (.ref 0), some (.int x1), some (.int x2), some (.int x3), some (.int x4)] [.int y1, .int y0] h Q :=
  b_Model_wetWays_57 (d := (d + 2)) (k := (hk14 _ _ _ _ e))
theorem t_Model_wetWays_56 {d : Nat} {k14 : Int32 → Int32 → Int32 → Int32 → Option (Int32)} {x1 : Int32} {x2 : Int32} {x3 : Int32} {x4 : Int32} {y0 : Int32} {h : am_H} {Q : am_Q} {res : Int32} (hk14 : ∀ (x1 : Int32) (x2 : Int32) (x3 : Int32) (x4 : Int32), k14 x1 x2 x3 x4 = some res → am_W (X_Model_wetWays (d + 2)) 14 [some (.ref 0), some (.int x1), some (.int x2), some (.int x3), some (.int x4)] [] h Q) (e : f_Model_wetWays_56 k14 h x1 x2 x4 y0 = some res) (q : Q (some (.int res)) h) : am_W (X_Model_wetWays (d + 2)) 56 [some (.ref 0), some (.int x1), some (.int x2), some (.int x3), some (.int x4)] [.int y0] h Q :=
  b_Model_wetWays_56 (d := (d + 2)) (k := (t_Model_wetWays_57 hk14 e q))
theorem t_Model_wetWays_52 {d : Nat} {k14 : Int32 → Int32 → Int32 → Int32 → Option (Int32)} {x1 : Int32} {x2 : Int32} {x3 : Int32} {x4 : Int32} {y0 : Int32} {h : am_H} {Q : am_Q} {res : Int32} (hk14 : ∀ (x1 : Int32) (x2 : Int32) (x3 : Int32) (x4 : Int32), k14 x1 x2 x3 x4 = some res → am_W (X_Model_wetWays (d + 2)) 14 [some (.ref 0), some (.int x1), some (.int x2), some (.int x3), some (.int x4)] [] h Q) (e : f_Model_wetWays_52 k14 h x1 x2 x4 y0 = some res) (q : Q (some (.int res)) h) : am_W (X_Model_wetWays (d + 2)) 52 [some (.ref 0), some (.int x1), some (.int x2), some (.int x3), some (.int x4)] [.int y0] h Q :=
  b_Model_wetWays_52 (d := (d + 2)) (k := (t_Model_wetWays_57 hk14 e q))
theorem t_Model_wetWays_49 {d : Nat} {k14 : Int32 → Int32 → Int32 → Int32 → Option (Int32)} {x1 : Int32} {x2 : Int32} {x3 : Int32} {x4 : Int32} {y1 : Bool} {y0 : Int32} {h : am_H} {Q : am_Q} {res : Int32} (hk14 : ∀ (x1 : Int32) (x2 : Int32) (x3 : Int32) (x4 : Int32), k14 x1 x2 x3 x4 = some res → am_W (X_Model_wetWays (d + 2)) 14 [some (.ref 0), some (.int x1), some (.int x2), some (.int x3), some (.int x4)] [] h Q) (e : f_Model_wetWays_49 k14 h x1 x2 x4 y1 y0 = some res) (q : Q (some (.int res)) h) : am_W (X_Model_wetWays (d + 2)) 49 [some (.ref 0), some (.int x1), some (.int x2), some (.int x3), some (.int x4)] [.int (am_b y1), .int y0] h Q :=
  b_Model_wetWays_49 (d := (d + 2)) (kt := fun c => (t_Model_wetWays_56 hk14 (am_iff e (am_bz c)) q)) (kf := fun c => (t_Model_wetWays_52 hk14 (am_ift e (am_bn c)) q))
theorem t_Model_wetWays_46 {d : Nat} {k14 : Int32 → Int32 → Int32 → Int32 → Option (Int32)} {x1 : Int32} {x2 : Int32} {x3 : Int32} {x4 : Int32} {y2 : Int32} {y0 : Int32} {h : am_H} {Q : am_Q} {res : Int32} (hk14 : ∀ (x1 : Int32) (x2 : Int32) (x3 : Int32) (x4 : Int32), k14 x1 x2 x3 x4 = some res → am_W (X_Model_wetWays (d + 2)) 14 [some (.ref 0), some (.int x1), some (.int x2), some (.int x3), some (.int x4)] [] h Q) (e : f_Model_wetWays_46 k14 h x1 x2 x4 y2 y0 = some res) (q : Q (some (.int res)) h) : am_W (X_Model_wetWays (d + 2)) 46 [some (.ref 0), some (.int x1), some (.int x2), some (.int x3), some (.int x4)] [.int y2, .ref 0, .int y0] h Q :=
  (am_bd e).elim fun p hp => b_Model_wetWays_46 (d := (d + 1)) (k := c_Model_isWater (d := d) hp.1 (t_Model_wetWays_49 hk14 hp.2 q))
theorem t_Model_wetWays_28 {d : Nat} {k14 : Int32 → Int32 → Int32 → Int32 → Option (Int32)} {x1 : Int32} {x2 : Int32} {x3 : Int32} {x4 : Int32} {h : am_H} {Q : am_Q} {res : Int32} (hk14 : ∀ (x1 : Int32) (x2 : Int32) (x3 : Int32) (x4 : Int32), k14 x1 x2 x3 x4 = some res → am_W (X_Model_wetWays (d + 2)) 14 [some (.ref 0), some (.int x1), some (.int x2), some (.int x3), some (.int x4)] [] h Q) (e : f_Model_wetWays_28 k14 h x1 x2 x3 x4 = some res) (q : Q (some (.int res)) h) : am_W (X_Model_wetWays (d + 2)) 28 [some (.ref 0), some (.int x1), some (.int x2), some (.int x3), some (.int x4)] [] h Q :=
  (am_bd (am_ga e)).elim fun p hp => b_Model_wetWays_28 (d := (d + 1)) (q0 := (am_okv (am_gd e))) (k := c_Model_downOf (d := d) hp.1 (t_Model_wetWays_46 hk14 hp.2 q))
theorem t_Model_wetWays_14 {d : Nat} {k14 : Int32 → Int32 → Int32 → Int32 → Option (Int32)} {x1 : Int32} {x2 : Int32} {x3 : Int32} {x4 : Int32} {h : am_H} {Q : am_Q} {res : Int32} (hk14 : ∀ (x1 : Int32) (x2 : Int32) (x3 : Int32) (x4 : Int32), k14 x1 x2 x3 x4 = some res → am_W (X_Model_wetWays (d + 2)) 14 [some (.ref 0), some (.int x1), some (.int x2), some (.int x3), some (.int x4)] [] h Q) (e : f_Model_wetWays_14 k14 h x1 x2 x3 x4 = some res) (q : Q (some (.int res)) h) : am_W (X_Model_wetWays (d + 2)) 14 [some (.ref 0), some (.int x1), some (.int x2), some (.int x3), some (.int x4)] [] h Q :=
  b_Model_wetWays_14 (d := (d + 2)) (q0 := (am_okv (am_gd e))) (kt := fun c => (t_Model_wetWays_65 (am_ift (am_ga e) c) q)) (kf := fun c => (t_Model_wetWays_28 hk14 (am_ife (am_ga e) c) q))
theorem t_Model_wetWays_14_l {d : Nat} {h : am_H} {Q : am_Q} {res : Int32} (q : Q (some (.int res)) h) : ∀ (n : Nat) (x1 : Int32) (x2 : Int32) (x3 : Int32) (x4 : Int32), f_Model_wetWays_14_l h n x1 x2 x3 x4 = some res → am_W (X_Model_wetWays (d + 2)) 14 [some (.ref 0), some (.int x1), some (.int x2), some (.int x3), some (.int x4)] [] h Q := by
  intro n
  induction n with
  | zero => intro x1 x2 x3 x4 e; exact am_nn e
  | succ n ih => intro x1 x2 x3 x4 e; exact t_Model_wetWays_14 (fun x1 x2 x3 x4 e => ih x1 x2 x3 x4  e) e q
theorem t_Model_wetWays_0 {d : Nat} {x1 : Int32} {x2 : Int32} {h : am_H} {Q : am_Q} {res : Int32} (e : f_Model_wetWays h x1 x2 = some res) (q : Q (some (.int res)) h) : am_W (X_Model_wetWays (d + 2)) 0 [some (.ref 0), some (.int x1), some (.int x2), none, none] [] h Q :=
  b_Model_wetWays_0 (d := (d + 2)) (q0 := (am_okv (am_gd e))) (k := (t_Model_wetWays_14_l q am_fu _ _ _ _ (am_ga e)))
theorem c_Model_wetWays {d : Nat} {x1 : Int32} {x2 : Int32} {h : am_H} {Q : am_Q} {res : Int32} (e : f_Model_wetWays h x1 x2 = some res) (q : Q (some (.int res)) h) : m_Model_wetWays (d + 2) [.ref 0, .int x1, .int x2] h Q :=
  e_Model_wetWays (t_Model_wetWays_0 e q)
theorem d_Model_greenWays_0 : decode prog_12_method_43_code 0 = .ok (.iconst 0, 1) := by decide +kernel
theorem d_Model_greenWays_1 : decode prog_12_method_43_code 1 = .ok (.istore_n 3, 1) := by decide +kernel
theorem d_Model_greenWays_2 : decode prog_12_method_43_code 2 = .ok (.aload_n 0, 1) := by decide +kernel
theorem d_Model_greenWays_3 : decode prog_12_method_43_code 3 = .ok (.getfield 11, 3) := by decide +kernel
theorem d_Model_greenWays_6 : decode prog_12_method_43_code 6 = .ok (.bipush 37, 2) := by decide +kernel
theorem d_Model_greenWays_8 : decode prog_12_method_43_code 8 = .ok (.iload_n 2, 1) := by decide +kernel
theorem d_Model_greenWays_9 : decode prog_12_method_43_code 9 = .ok (.iadd, 1) := by decide +kernel
theorem d_Model_greenWays_10 : decode prog_12_method_43_code 10 = .ok (.iaload, 1) := by decide +kernel
theorem d_Model_greenWays_11 : decode prog_12_method_43_code 11 = .ok (.ineg, 1) := by decide +kernel
theorem d_Model_greenWays_12 : decode prog_12_method_43_code 12 = .ok (.istore 4, 2) := by decide +kernel
theorem d_Model_greenWays_14 : decode prog_12_method_43_code 14 = .ok (.iload 4, 2) := by decide +kernel
theorem d_Model_greenWays_16 : decode prog_12_method_43_code 16 = .ok (.aload_n 0, 1) := by decide +kernel
theorem d_Model_greenWays_17 : decode prog_12_method_43_code 17 = .ok (.getfield 11, 3) := by decide +kernel
theorem d_Model_greenWays_20 : decode prog_12_method_43_code 20 = .ok (.bipush 37, 2) := by decide +kernel
theorem d_Model_greenWays_22 : decode prog_12_method_43_code 22 = .ok (.iload_n 2, 1) := by decide +kernel
theorem d_Model_greenWays_23 : decode prog_12_method_43_code 23 = .ok (.iadd, 1) := by decide +kernel
theorem d_Model_greenWays_24 : decode prog_12_method_43_code 24 = .ok (.iaload, 1) := by decide +kernel
theorem d_Model_greenWays_25 : decode prog_12_method_43_code 25 = .ok (.if_icmp .gt 40, 3) := by decide +kernel
theorem d_Model_greenWays_28 : decode prog_12_method_43_code 28 = .ok (.iload_n 3, 1) := by decide +kernel
theorem d_Model_greenWays_29 : decode prog_12_method_43_code 29 = .ok (.aload_n 0, 1) := by decide +kernel
theorem d_Model_greenWays_30 : decode prog_12_method_43_code 30 = .ok (.aload_n 0, 1) := by decide +kernel
theorem d_Model_greenWays_31 : decode prog_12_method_43_code 31 = .ok (.iload_n 1, 1) := by decide +kernel
theorem d_Model_greenWays_32 : decode prog_12_method_43_code 32 = .ok (.aload_n 0, 1) := by decide +kernel
theorem d_Model_greenWays_33 : decode prog_12_method_43_code 33 = .ok (.getfield 11, 3) := by decide +kernel
theorem d_Model_greenWays_36 : decode prog_12_method_43_code 36 = .ok (.bipush 31, 2) := by decide +kernel
theorem d_Model_greenWays_38 : decode prog_12_method_43_code 38 = .ok (.iload_n 2, 1) := by decide +kernel
theorem d_Model_greenWays_39 : decode prog_12_method_43_code 39 = .ok (.iadd, 1) := by decide +kernel
theorem d_Model_greenWays_40 : decode prog_12_method_43_code 40 = .ok (.iaload, 1) := by decide +kernel
theorem d_Model_greenWays_41 : decode prog_12_method_43_code 41 = .ok (.iload 4, 2) := by decide +kernel
theorem d_Model_greenWays_43 : decode prog_12_method_43_code 43 = .ok (.invokevirtual 214, 3) := by decide +kernel
theorem d_Model_greenWays_46 : decode prog_12_method_43_code 46 = .ok (.invokevirtual 89, 3) := by decide +kernel
theorem d_Model_greenWays_49 : decode prog_12_method_43_code 49 = .ok (.ifCond .eq 7, 3) := by decide +kernel
theorem d_Model_greenWays_52 : decode prog_12_method_43_code 52 = .ok (.iconst 1, 1) := by decide +kernel
theorem d_Model_greenWays_53 : decode prog_12_method_43_code 53 = .ok (.goto 4, 3) := by decide +kernel
theorem d_Model_greenWays_56 : decode prog_12_method_43_code 56 = .ok (.iconst 0, 1) := by decide +kernel
theorem d_Model_greenWays_57 : decode prog_12_method_43_code 57 = .ok (.iadd, 1) := by decide +kernel
theorem d_Model_greenWays_58 : decode prog_12_method_43_code 58 = .ok (.istore_n 3, 1) := by decide +kernel
theorem d_Model_greenWays_59 : decode prog_12_method_43_code 59 = .ok (.iinc 4 1, 3) := by decide +kernel
theorem d_Model_greenWays_62 : decode prog_12_method_43_code 62 = .ok (.goto (-48), 3) := by decide +kernel
theorem d_Model_greenWays_65 : decode prog_12_method_43_code 65 = .ok (.iload_n 3, 1) := by decide +kernel
theorem d_Model_greenWays_66 : decode prog_12_method_43_code 66 = .ok (.ireturn, 1) := by decide +kernel
theorem b_Model_greenWays_0 {d : Nat} {x1 : Int32} {x2 : Int32} {h : am_H} {Q : am_Q} (q0 : vp_in (37 + x2) 54) (k : am_W (X_Model_greenWays d) 14 [some (.ref 0), some (.int x1), some (.int x2), some (.int 0), some (.int (-(h.1 1 (37 + x2).toNatClampNeg)))] [] h Q) : am_W (X_Model_greenWays d) 0 [some (.ref 0), some (.int x1), some (.int x2), none, none] [] h Q :=
  am_iconst (v := 0) d_Model_greenWays_0 (by decide) <|
    am_istore_n (ls' := [some (.ref 0), some (.int x1), some (.int x2), some (.int 0), none]) d_Model_greenWays_1 rfl (Nat.le_of_ble_eq_true rfl) rfl <|
    am_aload_n d_Model_greenWays_2 rfl (i := 0) rfl <|
    am_getR (ci := 10) (i := 0) rfl rfl rfl (Nat.le_of_ble_eq_true rfl) w_1318 d_Model_greenWays_3 <|
    am_bipush (v := 37) d_Model_greenWays_6 (by decide) <|
    am_iload_n d_Model_greenWays_8 rfl (i := 2) rfl <|
    am_iadd d_Model_greenWays_9 <|
    am_iald rfl q0 d_Model_greenWays_10 <|
    am_ineg d_Model_greenWays_11 <|
    am_istore (ls' := [some (.ref 0), some (.int x1), some (.int x2), some (.int 0), some (.int (-(h.1 1 (37 + x2).toNatClampNeg)))]) d_Model_greenWays_12 (Nat.le_of_ble_eq_true rfl) rfl <|
    k
theorem b_Model_greenWays_14 {d : Nat} {x1 : Int32} {x2 : Int32} {x3 : Int32} {x4 : Int32} {h : am_H} {Q : am_Q} (q0 : vp_in (37 + x2) 54) (kt : (h.1 1 (37 + x2).toNatClampNeg) < x4 → am_W (X_Model_greenWays d) 65 [some (.ref 0), some (.int x1), some (.int x2), some (.int x3), some (.int x4)] [] h Q) (kf : ¬ (h.1 1 (37 + x2).toNatClampNeg) < x4 → am_W (X_Model_greenWays d) 28 [some (.ref 0), some (.int x1), some (.int x2), some (.int x3), some (.int x4)] [] h Q) : am_W (X_Model_greenWays d) 14 [some (.ref 0), some (.int x1), some (.int x2), some (.int x3), some (.int x4)] [] h Q :=
  am_iload d_Model_greenWays_14 rfl <|
    am_aload_n d_Model_greenWays_16 rfl (i := 0) rfl <|
    am_getR (ci := 10) (i := 0) rfl rfl rfl (Nat.le_of_ble_eq_true rfl) w_1318 d_Model_greenWays_17 <|
    am_bipush (v := 37) d_Model_greenWays_20 (by decide) <|
    am_iload_n d_Model_greenWays_22 rfl (i := 2) rfl <|
    am_iadd d_Model_greenWays_23 <|
    am_iald rfl q0 d_Model_greenWays_24 <|
    am_icmp_gt (tgt := 65) d_Model_greenWays_25 (by decide) kt kf
theorem b_Model_greenWays_28 {d : Nat} {x1 : Int32} {x2 : Int32} {x3 : Int32} {x4 : Int32} {h : am_H} {Q : am_Q} (q0 : vp_in (31 + x2) 54) (k : m_Model_downOf d [.ref 0, .int x1, .int (h.1 1 (31 + x2).toNatClampNeg), .int x4] h (fun r hh => am_W (X_Model_greenWays (d + 1)) 46 [some (.ref 0), some (.int x1), some (.int x2), some (.int x3), some (.int x4)] (r.toList ++ [.ref 0, .int x3]) hh Q)) : am_W (X_Model_greenWays (d + 1)) 28 [some (.ref 0), some (.int x1), some (.int x2), some (.int x3), some (.int x4)] [] h Q :=
  am_iload_n d_Model_greenWays_28 rfl (i := 3) rfl <|
    am_aload_n d_Model_greenWays_29 rfl (i := 0) rfl <|
    am_aload_n d_Model_greenWays_30 rfl (i := 0) rfl <|
    am_iload_n d_Model_greenWays_31 rfl (i := 1) rfl <|
    am_aload_n d_Model_greenWays_32 rfl (i := 0) rfl <|
    am_getR (ci := 10) (i := 0) rfl rfl rfl (Nat.le_of_ble_eq_true rfl) w_1318 d_Model_greenWays_33 <|
    am_bipush (v := 31) d_Model_greenWays_36 (by decide) <|
    am_iload_n d_Model_greenWays_38 rfl (i := 2) rfl <|
    am_iadd d_Model_greenWays_39 <|
    am_iald rfl q0 d_Model_greenWays_40 <|
    am_iload d_Model_greenWays_41 rfl <|
    am_callV (vs := [.int x1, .int (h.1 1 (31 + x2).toNatClampNeg), .int x4]) (st := [.ref 0, .int x3]) (k := 0) (ci := 10) rfl d_Model_greenWays_43 rfl rfl w_1578 w_1580 w_54 w_94 w_1581 p_Model_downOf (Nat.le_of_ble_eq_true rfl) (Nat.le_of_ble_eq_true rfl) rfl k
theorem b_Model_greenWays_46 {d : Nat} {x1 : Int32} {x2 : Int32} {x3 : Int32} {x4 : Int32} {y2 : Int32} {y0 : Int32} {h : am_H} {Q : am_Q} (k : m_Model_isGreen d [.ref 0, .int y2] h (fun r hh => am_W (X_Model_greenWays (d + 1)) 49 [some (.ref 0), some (.int x1), some (.int x2), some (.int x3), some (.int x4)] (r.toList ++ [.int y0]) hh Q)) : am_W (X_Model_greenWays (d + 1)) 46 [some (.ref 0), some (.int x1), some (.int x2), some (.int x3), some (.int x4)] [.int y2, .ref 0, .int y0] h Q :=
  am_callV (vs := [.int y2]) (st := [.int y0]) (k := 0) (ci := 10) rfl d_Model_greenWays_46 rfl rfl w_1550 w_1552 w_49 w_94 w_1553 p_Model_isGreen (Nat.le_of_ble_eq_true rfl) (Nat.le_of_ble_eq_true rfl) rfl k
theorem b_Model_greenWays_49 {d : Nat} {x1 : Int32} {x2 : Int32} {x3 : Int32} {x4 : Int32} {y1 : Bool} {y0 : Int32} {h : am_H} {Q : am_Q} (kt : (am_b y1) = 0 → am_W (X_Model_greenWays d) 56 [some (.ref 0), some (.int x1), some (.int x2), some (.int x3), some (.int x4)] [.int y0] h Q) (kf : ¬ (am_b y1) = 0 → am_W (X_Model_greenWays d) 52 [some (.ref 0), some (.int x1), some (.int x2), some (.int x3), some (.int x4)] [.int y0] h Q) : am_W (X_Model_greenWays d) 49 [some (.ref 0), some (.int x1), some (.int x2), some (.int x3), some (.int x4)] [.int (am_b y1), .int y0] h Q :=
  am_if_eq (tgt := 56) d_Model_greenWays_49 (by decide) kt kf
theorem b_Model_greenWays_52 {d : Nat} {x1 : Int32} {x2 : Int32} {x3 : Int32} {x4 : Int32} {y0 : Int32} {h : am_H} {Q : am_Q} (k : am_W (X_Model_greenWays d) 57 [some (.ref 0), some (.int x1), some (.int x2), some (.int x3), some (.int x4)] [.int 1, .int y0] h Q) : am_W (X_Model_greenWays d) 52 [some (.ref 0), some (.int x1), some (.int x2), some (.int x3), some (.int x4)] [.int y0] h Q :=
  am_iconst (v := 1) d_Model_greenWays_52 (by decide) <|
    am_goto (tgt := 57) d_Model_greenWays_53 (by decide) k
theorem b_Model_greenWays_56 {d : Nat} {x1 : Int32} {x2 : Int32} {x3 : Int32} {x4 : Int32} {y0 : Int32} {h : am_H} {Q : am_Q} (k : am_W (X_Model_greenWays d) 57 [some (.ref 0), some (.int x1), some (.int x2), some (.int x3), some (.int x4)] [.int 0, .int y0] h Q) : am_W (X_Model_greenWays d) 56 [some (.ref 0), some (.int x1), some (.int x2), some (.int x3), some (.int x4)] [.int y0] h Q :=
  am_iconst (v := 0) d_Model_greenWays_56 (by decide) <|
    k
theorem b_Model_greenWays_57 {d : Nat} {x1 : Int32} {x2 : Int32} {x3 : Int32} {x4 : Int32} {y1 : Int32} {y0 : Int32} {h : am_H} {Q : am_Q} (k : am_W (X_Model_greenWays d) 14 [some (.ref 0), some (.int x1), some (.int x2), some (.int (y0 + y1)), some (.int (x4 + 1))] [] h Q) : am_W (X_Model_greenWays d) 57 [some (.ref 0), some (.int x1), some (.int x2), some (.int x3), some (.int x4)] [.int y1, .int y0] h Q :=
  am_iadd d_Model_greenWays_57 <|
    am_istore_n (ls' := [some (.ref 0), some (.int x1), some (.int x2), some (.int (y0 + y1)), some (.int x4)]) d_Model_greenWays_58 rfl (Nat.le_of_ble_eq_true rfl) rfl <|
    am_iinc (v := (x4 + 1)) (ls' := [some (.ref 0), some (.int x1), some (.int x2), some (.int (y0 + y1)), some (.int (x4 + 1))]) d_Model_greenWays_59 rfl rfl (Nat.le_of_ble_eq_true rfl) rfl <|
    am_goto (tgt := 14) d_Model_greenWays_62 (by decide) k
theorem b_Model_greenWays_65 {d : Nat} {x1 : Int32} {x2 : Int32} {x3 : Int32} {x4 : Int32} {h : am_H} {Q : am_Q} (q : Q (some (.int x3)) h) : am_W (X_Model_greenWays d) 65 [some (.ref 0), some (.int x1), some (.int x2), some (.int x3), some (.int x4)] [] h Q :=
  am_iload_n d_Model_greenWays_65 rfl (i := 3) rfl <|
    am_iret rfl d_Model_greenWays_66 q
theorem t_Model_greenWays_65 {d : Nat} {x1 : Int32} {x2 : Int32} {x3 : Int32} {x4 : Int32} {h : am_H} {Q : am_Q} {res : Int32} (e : f_Model_greenWays_65 h x3 = some res) (q : Q (some (.int res)) h) : am_W (X_Model_greenWays (d + 2)) 65 [some (.ref 0), some (.int x1), some (.int x2), some (.int x3), some (.int x4)] [] h Q :=
  b_Model_greenWays_65 (d := (d + 2)) (q := (am_rIp (v := x3) e q))
theorem t_Model_greenWays_57 {d : Nat} {k14 : Int32 → Int32 → Int32 → Int32 → Option (Int32)} {x1 : Int32} {x2 : Int32} {x3 : Int32} {x4 : Int32} {y1 : Int32} {y0 : Int32} {h : am_H} {Q : am_Q} {res : Int32} (hk14 : ∀ (x1 : Int32) (x2 : Int32) (x3 : Int32) (x4 : Int32), k14 x1 x2 x3 x4 = some res → am_W (X_Model_greenWays (d + 2)) 14 [some (.ref 0), some (.int x1), some (.int x2), some (.int x3), some (.int x4)] [] h Q) (e : f_Model_greenWays_57 k14 h x1 x2 x4 y1 y0 = some res) (q : Q (some (.int res)) h) : am_W (X_Model_greenWays (d + 2)) 57 [some (.ref 0), some (.int x1), some (.int x2), some (.int x3), some (.int x4)] [.int y1, .int y0] h Q :=
  b_Model_greenWays_57 (d := (d + 2)) (k := (hk14 _ _ _ _ e))
theorem t_Model_greenWays_56 {d : Nat} {k14 : Int32 → Int32 → Int32 → Int32 → Option (Int32)} {x1 : Int32} {x2 : Int32} {x3 : Int32} {x4 : Int32} {y0 : Int32} {h : am_H} {Q : am_Q} {res : Int32} (hk14 : ∀ (x1 : Int32) (x2 : Int32) (x3 : Int32) (x4 : Int32), k14 x1 x2 x3 x4 = some res → am_W (X_Model_greenWays (d + 2)) 14 [some (.ref 0), some (.int x1), some (.int x2), some (.int x3), some (.int x4)] [] h Q) (e : f_Model_greenWays_56 k14 h x1 x2 x4 y0 = some res) (q : Q (some (.int res)) h) : am_W (X_Model_greenWays (d + 2)) 56 [some (.ref 0), some (.int x1), some (.int x2), some (.int x3), some (.int x4)] [.int y0] h Q :=
  b_Model_greenWays_56 (d := (d + 2)) (k := (t_Model_greenWays_57 hk14 e q))
theorem t_Model_greenWays_52 {d : Nat} {k14 : Int32 → Int32 → Int32 → Int32 → Option (Int32)} {x1 : Int32} {x2 : Int32} {x3 : Int32} {x4 : Int32} {y0 : Int32} {h : am_H} {Q : am_Q} {res : Int32} (hk14 : ∀ (x1 : Int32) (x2 : Int32) (x3 : Int32) (x4 : Int32), k14 x1 x2 x3 x4 = some res → am_W (X_Model_greenWays (d + 2)) 14 [some (.ref 0), some (.int x1), some (.int x2), some (.int x3), some (.int x4)] [] h Q) (e : f_Model_greenWays_52 k14 h x1 x2 x4 y0 = some res) (q : Q (some (.int res)) h) : am_W (X_Model_greenWays (d + 2)) 52 [some (.ref 0), some (.int x1), some (.int x2), some (.int x3), some (.int x4)] [.int y0] h Q :=
  b_Model_greenWays_52 (d := (d + 2)) (k := (t_Model_greenWays_57 hk14 e q))
theorem t_Model_greenWays_49 {d : Nat} {k14 : Int32 → Int32 → Int32 → Int32 → Option (Int32)} {x1 : Int32} {x2 : Int32} {x3 : Int32} {x4 : Int32} {y1 : Bool} {y0 : Int32} {h : am_H} {Q : am_Q} {res : Int32} (hk14 : ∀ (x1 : Int32) (x2 : Int32) (x3 : Int32) (x4 : Int32), k14 x1 x2 x3 x4 = some res → am_W (X_Model_greenWays (d + 2)) 14 [some (.ref 0), some (.int x1), some (.int x2), some (.int x3), some (.int x4)] [] h Q) (e : f_Model_greenWays_49 k14 h x1 x2 x4 y1 y0 = some res) (q : Q (some (.int res)) h) : am_W (X_Model_greenWays (d + 2)) 49 [some (.ref 0), some (.int x1), some (.int x2), some (.int x3), some (.int x4)] [.int (am_b y1), .int y0] h Q :=
  b_Model_greenWays_49 (d := (d + 2)) (kt := fun c => (t_Model_greenWays_56 hk14 (am_iff e (am_bz c)) q)) (kf := fun c => (t_Model_greenWays_52 hk14 (am_ift e (am_bn c)) q))
theorem t_Model_greenWays_46 {d : Nat} {k14 : Int32 → Int32 → Int32 → Int32 → Option (Int32)} {x1 : Int32} {x2 : Int32} {x3 : Int32} {x4 : Int32} {y2 : Int32} {y0 : Int32} {h : am_H} {Q : am_Q} {res : Int32} (hk14 : ∀ (x1 : Int32) (x2 : Int32) (x3 : Int32) (x4 : Int32), k14 x1 x2 x3 x4 = some res → am_W (X_Model_greenWays (d + 2)) 14 [some (.ref 0), some (.int x1), some (.int x2), some (.int x3), some (.int x4)] [] h Q) (e : f_Model_greenWays_46 k14 h x1 x2 x4 y2 y0 = some res) (q : Q (some (.int res)) h) : am_W (X_Model_greenWays (d + 2)) 46 [some (.ref 0), some (.int x1), some (.int x2), some (.int x3), some (.int x4)] [.int y2, .ref 0, .int y0] h Q :=
  (am_bd e).elim fun p hp => b_Model_greenWays_46 (d := (d + 1)) (k := c_Model_isGreen (d := d + 1) hp.1 (t_Model_greenWays_49 hk14 hp.2 q))
theorem t_Model_greenWays_28 {d : Nat} {k14 : Int32 → Int32 → Int32 → Int32 → Option (Int32)} {x1 : Int32} {x2 : Int32} {x3 : Int32} {x4 : Int32} {h : am_H} {Q : am_Q} {res : Int32} (hk14 : ∀ (x1 : Int32) (x2 : Int32) (x3 : Int32) (x4 : Int32), k14 x1 x2 x3 x4 = some res → am_W (X_Model_greenWays (d + 2)) 14 [some (.ref 0), some (.int x1), some (.int x2), some (.int x3), some (.int x4)] [] h Q) (e : f_Model_greenWays_28 k14 h x1 x2 x3 x4 = some res) (q : Q (some (.int res)) h) : am_W (X_Model_greenWays (d + 2)) 28 [some (.ref 0), some (.int x1), some (.int x2), some (.int x3), some (.int x4)] [] h Q :=
  (am_bd (am_ga e)).elim fun p hp => b_Model_greenWays_28 (d := (d + 1)) (q0 := (am_okv (am_gd e))) (k := c_Model_downOf (d := d) hp.1 (t_Model_greenWays_46 hk14 hp.2 q))
theorem t_Model_greenWays_14 {d : Nat} {k14 : Int32 → Int32 → Int32 → Int32 → Option (Int32)} {x1 : Int32} {x2 : Int32} {x3 : Int32} {x4 : Int32} {h : am_H} {Q : am_Q} {res : Int32} (hk14 : ∀ (x1 : Int32) (x2 : Int32) (x3 : Int32) (x4 : Int32), k14 x1 x2 x3 x4 = some res → am_W (X_Model_greenWays (d + 2)) 14 [some (.ref 0), some (.int x1), some (.int x2), some (.int x3), some (.int x4)] [] h Q) (e : f_Model_greenWays_14 k14 h x1 x2 x3 x4 = some res) (q : Q (some (.int res)) h) : am_W (X_Model_greenWays (d + 2)) 14 [some (.ref 0), some (.int x1), some (.int x2), some (.int x3), some (.int x4)] [] h Q :=
  b_Model_greenWays_14 (d := (d + 2)) (q0 := (am_okv (am_gd e))) (kt := fun c => (t_Model_greenWays_65 (am_ift (am_ga e) c) q)) (kf := fun c => (t_Model_greenWays_28 hk14 (am_ife (am_ga e) c) q))
theorem t_Model_greenWays_14_l {d : Nat} {h : am_H} {Q : am_Q} {res : Int32} (q : Q (some (.int res)) h) : ∀ (n : Nat) (x1 : Int32) (x2 : Int32) (x3 : Int32) (x4 : Int32), f_Model_greenWays_14_l h n x1 x2 x3 x4 = some res → am_W (X_Model_greenWays (d + 2)) 14 [some (.ref 0), some (.int x1), some (.int x2), some (.int x3), some (.int x4)] [] h Q := by
  intro n
  induction n with
  | zero => intro x1 x2 x3 x4 e; exact am_nn e
  | succ n ih => intro x1 x2 x3 x4 e; exact t_Model_greenWays_14 (fun x1 x2 x3 x4 e => ih x1 x2 x3 x4  e) e q
theorem t_Model_greenWays_0 {d : Nat} {x1 : Int32} {x2 : Int32} {h : am_H} {Q : am_Q} {res : Int32} (e : f_Model_greenWays h x1 x2 = some res) (q : Q (some (.int res)) h) : am_W (X_Model_greenWays (d + 2)) 0 [some (.ref 0), some (.int x1), some (.int x2), none, none] [] h Q :=
  b_Model_greenWays_0 (d := (d + 2)) (q0 := (am_okv (am_gd e))) (k := (t_Model_greenWays_14_l q am_fu _ _ _ _ (am_ga e)))
theorem c_Model_greenWays {d : Nat} {x1 : Int32} {x2 : Int32} {h : am_H} {Q : am_Q} {res : Int32} (e : f_Model_greenWays h x1 x2 = some res) (q : Q (some (.int res)) h) : m_Model_greenWays (d + 2) [.ref 0, .int x1, .int x2] h Q :=
  e_Model_greenWays (t_Model_greenWays_0 e q)
theorem d_Model_chance_0 : decode prog_12_method_44_code 0 = .ok (.aload_n 0, 1) := by decide +kernel
theorem d_Model_chance_1 : decode prog_12_method_44_code 1 = .ok (.iload_n 1, 1) := by decide +kernel
theorem d_Model_chance_2 : decode prog_12_method_44_code 2 = .ok (.invokevirtual 220, 3) := by decide +kernel
theorem d_Model_chance_5 : decode prog_12_method_44_code 5 = .ok (.ifCond .eq 23, 3) := by decide +kernel
theorem d_Model_chance_8 : decode prog_12_method_44_code 8 = .ok (.iload_n 2, 1) := by decide +kernel
theorem d_Model_chance_9 : decode prog_12_method_44_code 9 = .ok (.i2l, 1) := by decide +kernel
theorem d_Model_chance_10 : decode prog_12_method_44_code 10 = .ok (.lconst 0, 1) := by decide +kernel
theorem d_Model_chance_11 : decode prog_12_method_44_code 11 = .ok (.lconst 1, 1) := by decide +kernel
theorem d_Model_chance_12 : decode prog_12_method_44_code 12 = .ok (.invokestatic 83, 3) := by decide +kernel
theorem d_Model_chance_15 : decode prog_12_method_44_code 15 = .ok (.ifCond .eq 13, 3) := by decide +kernel
theorem d_Model_chance_18 : decode prog_12_method_44_code 18 = .ok (.iload_n 3, 1) := by decide +kernel
theorem d_Model_chance_19 : decode prog_12_method_44_code 19 = .ok (.i2l, 1) := by decide +kernel
theorem d_Model_chance_20 : decode prog_12_method_44_code 20 = .ok (.lconst 0, 1) := by decide +kernel
theorem d_Model_chance_21 : decode prog_12_method_44_code 21 = .ok (.lconst 1, 1) := by decide +kernel
theorem d_Model_chance_22 : decode prog_12_method_44_code 22 = .ok (.invokestatic 83, 3) := by decide +kernel
theorem d_Model_chance_25 : decode prog_12_method_44_code 25 = .ok (.ifCond .ne 7, 3) := by decide +kernel
theorem d_Model_chance_28 : decode prog_12_method_44_code 28 = .ok (.ldc2_w 223, 3) := by decide +kernel
theorem d_Model_chance_31 : decode prog_12_method_44_code 31 = .ok (.lreturn, 1) := by decide +kernel
theorem d_Model_chance_32 : decode prog_12_method_44_code 32 = .ok (.iload_n 2, 1) := by decide +kernel
theorem d_Model_chance_33 : decode prog_12_method_44_code 33 = .ok (.ifCond .ne 18, 3) := by decide +kernel
theorem d_Model_chance_36 : decode prog_12_method_44_code 36 = .ok (.aload_n 0, 1) := by decide +kernel
theorem d_Model_chance_37 : decode prog_12_method_44_code 37 = .ok (.iload_n 1, 1) := by decide +kernel
theorem d_Model_chance_38 : decode prog_12_method_44_code 38 = .ok (.bipush 10, 2) := by decide +kernel
theorem d_Model_chance_40 : decode prog_12_method_44_code 40 = .ok (.idiv, 1) := by decide +kernel
theorem d_Model_chance_41 : decode prog_12_method_44_code 41 = .ok (.iload_n 1, 1) := by decide +kernel
theorem d_Model_chance_42 : decode prog_12_method_44_code 42 = .ok (.bipush 10, 2) := by decide +kernel
theorem d_Model_chance_44 : decode prog_12_method_44_code 44 = .ok (.irem, 1) := by decide +kernel
theorem d_Model_chance_45 : decode prog_12_method_44_code 45 = .ok (.invokevirtual 233, 3) := by decide +kernel
theorem d_Model_chance_48 : decode prog_12_method_44_code 48 = .ok (.goto 15, 3) := by decide +kernel
theorem d_Model_chance_51 : decode prog_12_method_44_code 51 = .ok (.aload_n 0, 1) := by decide +kernel
theorem d_Model_chance_52 : decode prog_12_method_44_code 52 = .ok (.iload_n 1, 1) := by decide +kernel
theorem d_Model_chance_53 : decode prog_12_method_44_code 53 = .ok (.bipush 10, 2) := by decide +kernel
theorem d_Model_chance_55 : decode prog_12_method_44_code 55 = .ok (.idiv, 1) := by decide +kernel
theorem d_Model_chance_56 : decode prog_12_method_44_code 56 = .ok (.iload_n 1, 1) := by decide +kernel
theorem d_Model_chance_57 : decode prog_12_method_44_code 57 = .ok (.bipush 10, 2) := by decide +kernel
theorem d_Model_chance_59 : decode prog_12_method_44_code 59 = .ok (.irem, 1) := by decide +kernel
theorem d_Model_chance_60 : decode prog_12_method_44_code 60 = .ok (.invokevirtual 236, 3) := by decide +kernel
theorem d_Model_chance_63 : decode prog_12_method_44_code 63 = .ok (.istore 4, 2) := by decide +kernel
theorem d_Model_chance_65 : decode prog_12_method_44_code 65 = .ok (.iload 4, 2) := by decide +kernel
theorem d_Model_chance_67 : decode prog_12_method_44_code 67 = .ok (.i2l, 1) := by decide +kernel
theorem d_Model_chance_68 : decode prog_12_method_44_code 68 = .ok (.iconst 2, 1) := by decide +kernel
theorem d_Model_chance_69 : decode prog_12_method_44_code 69 = .ok (.aload_n 0, 1) := by decide +kernel
theorem d_Model_chance_70 : decode prog_12_method_44_code 70 = .ok (.getfield 11, 3) := by decide +kernel
theorem d_Model_chance_73 : decode prog_12_method_44_code 73 = .ok (.bipush 37, 2) := by decide +kernel
theorem d_Model_chance_75 : decode prog_12_method_44_code 75 = .ok (.iload_n 1, 1) := by decide +kernel
theorem d_Model_chance_76 : decode prog_12_method_44_code 76 = .ok (.bipush 10, 2) := by decide +kernel
theorem d_Model_chance_78 : decode prog_12_method_44_code 78 = .ok (.irem, 1) := by decide +kernel
theorem d_Model_chance_79 : decode prog_12_method_44_code 79 = .ok (.iadd, 1) := by decide +kernel
theorem d_Model_chance_80 : decode prog_12_method_44_code 80 = .ok (.iaload, 1) := by decide +kernel
theorem d_Model_chance_81 : decode prog_12_method_44_code 81 = .ok (.imul, 1) := by decide +kernel
theorem d_Model_chance_82 : decode prog_12_method_44_code 82 = .ok (.iconst 1, 1) := by decide +kernel
theorem d_Model_chance_83 : decode prog_12_method_44_code 83 = .ok (.iadd, 1) := by decide +kernel
theorem d_Model_chance_84 : decode prog_12_method_44_code 84 = .ok (.i2l, 1) := by decide +kernel
theorem d_Model_chance_85 : decode prog_12_method_44_code 85 = .ok (.iload_n 3, 1) := by decide +kernel
theorem d_Model_chance_86 : decode prog_12_method_44_code 86 = .ok (.invokestatic 229, 3) := by decide +kernel
theorem d_Model_chance_89 : decode prog_12_method_44_code 89 = .ok (.lreturn, 1) := by decide +kernel
theorem b_Model_chance_0 {d : Nat} {x1 : Int32} {x2 : Int32} {x3 : Int32} {h : am_H} {Q : am_Q} (k : m_Model_isCc d [.ref 0, .int x1] h (fun r hh => am_W (X_Model_chance (d + 1)) 5 [some (.ref 0), some (.int x1), some (.int x2), some (.int x3), none] (r.toList ++ []) hh Q)) : am_W (X_Model_chance (d + 1)) 0 [some (.ref 0), some (.int x1), some (.int x2), some (.int x3), none] [] h Q :=
  am_aload_n d_Model_chance_0 rfl (i := 0) rfl <|
    am_iload_n d_Model_chance_1 rfl (i := 1) rfl <|
    am_callV (vs := [.int x1]) (st := []) (k := 0) (ci := 10) rfl d_Model_chance_2 rfl rfl w_1569 w_1571 w_52 w_94 w_1572 p_Model_isCc (Nat.le_of_ble_eq_true rfl) (Nat.le_of_ble_eq_true rfl) rfl k
theorem b_Model_chance_5 {d : Nat} {x1 : Int32} {x2 : Int32} {x3 : Int32} {y0 : Bool} {h : am_H} {Q : am_Q} (kt : (am_b y0) = 0 → am_W (X_Model_chance d) 28 [some (.ref 0), some (.int x1), some (.int x2), some (.int x3), none] [] h Q) (kf : ¬ (am_b y0) = 0 → am_W (X_Model_chance d) 8 [some (.ref 0), some (.int x1), some (.int x2), some (.int x3), none] [] h Q) : am_W (X_Model_chance d) 5 [some (.ref 0), some (.int x1), some (.int x2), some (.int x3), none] [.int (am_b y0)] h Q :=
  am_if_eq (tgt := 28) d_Model_chance_5 (by decide) kt kf
theorem b_Model_chance_8 {d : Nat} {x1 : Int32} {x2 : Int32} {x3 : Int32} {h : am_H} {Q : am_Q} (k : m_Model_within d [.long x2.toInt64, .long 0, .long 1] h (fun r hh => am_W (X_Model_chance (d + 1)) 15 [some (.ref 0), some (.int x1), some (.int x2), some (.int x3), none] (r.toList ++ []) hh Q)) : am_W (X_Model_chance (d + 1)) 8 [some (.ref 0), some (.int x1), some (.int x2), some (.int x3), none] [] h Q :=
  am_iload_n d_Model_chance_8 rfl (i := 2) rfl <|
    am_i2l d_Model_chance_9 <|
    am_lconst (v := 0) d_Model_chance_10 (by decide) <|
    am_lconst (v := 1) d_Model_chance_11 (by decide) <|
    am_callS (vs := [.long x2.toInt64, .long 0, .long 1]) (st := []) rfl d_Model_chance_12 w_1443 w_1444 w_94 w_1445 p_Model_within (Nat.le_of_ble_eq_true rfl) (Nat.le_of_ble_eq_true rfl) rfl k
theorem b_Model_chance_15 {d : Nat} {x1 : Int32} {x2 : Int32} {x3 : Int32} {y0 : Bool} {h : am_H} {Q : am_Q} (kt : (am_b y0) = 0 → am_W (X_Model_chance d) 28 [some (.ref 0), some (.int x1), some (.int x2), some (.int x3), none] [] h Q) (kf : ¬ (am_b y0) = 0 → am_W (X_Model_chance d) 18 [some (.ref 0), some (.int x1), some (.int x2), some (.int x3), none] [] h Q) : am_W (X_Model_chance d) 15 [some (.ref 0), some (.int x1), some (.int x2), some (.int x3), none] [.int (am_b y0)] h Q :=
  am_if_eq (tgt := 28) d_Model_chance_15 (by decide) kt kf
theorem b_Model_chance_18 {d : Nat} {x1 : Int32} {x2 : Int32} {x3 : Int32} {h : am_H} {Q : am_Q} (k : m_Model_within d [.long x3.toInt64, .long 0, .long 1] h (fun r hh => am_W (X_Model_chance (d + 1)) 25 [some (.ref 0), some (.int x1), some (.int x2), some (.int x3), none] (r.toList ++ []) hh Q)) : am_W (X_Model_chance (d + 1)) 18 [some (.ref 0), some (.int x1), some (.int x2), some (.int x3), none] [] h Q :=
  am_iload_n d_Model_chance_18 rfl (i := 3) rfl <|
    am_i2l d_Model_chance_19 <|
    am_lconst (v := 0) d_Model_chance_20 (by decide) <|
    am_lconst (v := 1) d_Model_chance_21 (by decide) <|
    am_callS (vs := [.long x3.toInt64, .long 0, .long 1]) (st := []) rfl d_Model_chance_22 w_1443 w_1444 w_94 w_1445 p_Model_within (Nat.le_of_ble_eq_true rfl) (Nat.le_of_ble_eq_true rfl) rfl k
theorem b_Model_chance_25 {d : Nat} {x1 : Int32} {x2 : Int32} {x3 : Int32} {y0 : Bool} {h : am_H} {Q : am_Q} (kt : ¬ (am_b y0) = 0 → am_W (X_Model_chance d) 32 [some (.ref 0), some (.int x1), some (.int x2), some (.int x3), none] [] h Q) (kf : (am_b y0) = 0 → am_W (X_Model_chance d) 28 [some (.ref 0), some (.int x1), some (.int x2), some (.int x3), none] [] h Q) : am_W (X_Model_chance d) 25 [some (.ref 0), some (.int x1), some (.int x2), some (.int x3), none] [.int (am_b y0)] h Q :=
  am_if_ne (tgt := 32) d_Model_chance_25 (by decide) kt kf
theorem b_Model_chance_28 {d : Nat} {x1 : Int32} {x2 : Int32} {x3 : Int32} {h : am_H} {Q : am_Q} (q : Q (some (.long (-9223372036854775808))) h) : am_W (X_Model_chance d) 28 [some (.ref 0), some (.int x1), some (.int x2), some (.int x3), none] [] h Q :=
  am_ldc2 (v := (-9223372036854775808)) d_Model_chance_28 w_1573 <|
    am_lret rfl d_Model_chance_31 q
theorem b_Model_chance_32 {d : Nat} {x1 : Int32} {x2 : Int32} {x3 : Int32} {h : am_H} {Q : am_Q} (kt : ¬ x2 = 0 → am_W (X_Model_chance d) 51 [some (.ref 0), some (.int x1), some (.int x2), some (.int x3), none] [] h Q) (kf : x2 = 0 → am_W (X_Model_chance d) 36 [some (.ref 0), some (.int x1), some (.int x2), some (.int x3), none] [] h Q) : am_W (X_Model_chance d) 32 [some (.ref 0), some (.int x1), some (.int x2), some (.int x3), none] [] h Q :=
  am_iload_n d_Model_chance_32 rfl (i := 2) rfl <|
    am_if_ne (tgt := 51) d_Model_chance_33 (by decide) kt kf
theorem b_Model_chance_36 {d : Nat} {x1 : Int32} {x2 : Int32} {x3 : Int32} {h : am_H} {Q : am_Q} (k : m_Model_wetWays d [.ref 0, .int (x1 / 10), .int (x1 - x1 / 10 * 10)] h (fun r hh => am_W (X_Model_chance (d + 1)) 48 [some (.ref 0), some (.int x1), some (.int x2), some (.int x3), none] (r.toList ++ []) hh Q)) : am_W (X_Model_chance (d + 1)) 36 [some (.ref 0), some (.int x1), some (.int x2), some (.int x3), none] [] h Q :=
  am_aload_n d_Model_chance_36 rfl (i := 0) rfl <|
    am_iload_n d_Model_chance_37 rfl (i := 1) rfl <|
    am_bipush (v := 10) d_Model_chance_38 (by decide) <|
    am_idiv d_Model_chance_40 (by decide) <|
    am_iload_n d_Model_chance_41 rfl (i := 1) rfl <|
    am_bipush (v := 10) d_Model_chance_42 (by decide) <|
    am_irem d_Model_chance_44 (by decide) <|
    am_callV (vs := [.int (x1 / 10), .int (x1 - x1 / 10 * 10)]) (st := []) (k := 0) (ci := 10) rfl d_Model_chance_45 rfl rfl w_1600 w_1602 w_57 w_94 w_1603 p_Model_wetWays (Nat.le_of_ble_eq_true rfl) (Nat.le_of_ble_eq_true rfl) rfl k
theorem b_Model_chance_48 {d : Nat} {x1 : Int32} {x2 : Int32} {x3 : Int32} {y0 : Int32} {h : am_H} {Q : am_Q} (k : am_W (X_Model_chance d) 63 [some (.ref 0), some (.int x1), some (.int x2), some (.int x3), none] [.int y0] h Q) : am_W (X_Model_chance d) 48 [some (.ref 0), some (.int x1), some (.int x2), some (.int x3), none] [.int y0] h Q :=
  am_goto (tgt := 63) d_Model_chance_48 (by decide) k
theorem b_Model_chance_51 {d : Nat} {x1 : Int32} {x2 : Int32} {x3 : Int32} {h : am_H} {Q : am_Q} (k : m_Model_greenWays d [.ref 0, .int (x1 / 10), .int (x1 - x1 / 10 * 10)] h (fun r hh => am_W (X_Model_chance (d + 1)) 63 [some (.ref 0), some (.int x1), some (.int x2), some (.int x3), none] (r.toList ++ []) hh Q)) : am_W (X_Model_chance (d + 1)) 51 [some (.ref 0), some (.int x1), some (.int x2), some (.int x3), none] [] h Q :=
  am_aload_n d_Model_chance_51 rfl (i := 0) rfl <|
    am_iload_n d_Model_chance_52 rfl (i := 1) rfl <|
    am_bipush (v := 10) d_Model_chance_53 (by decide) <|
    am_idiv d_Model_chance_55 (by decide) <|
    am_iload_n d_Model_chance_56 rfl (i := 1) rfl <|
    am_bipush (v := 10) d_Model_chance_57 (by decide) <|
    am_irem d_Model_chance_59 (by decide) <|
    am_callV (vs := [.int (x1 / 10), .int (x1 - x1 / 10 * 10)]) (st := []) (k := 0) (ci := 10) rfl d_Model_chance_60 rfl rfl w_1604 w_1606 w_58 w_94 w_1607 p_Model_greenWays (Nat.le_of_ble_eq_true rfl) (Nat.le_of_ble_eq_true rfl) rfl k
theorem b_Model_chance_63 {d : Nat} {x1 : Int32} {x2 : Int32} {x3 : Int32} {y0 : Int32} {h : am_H} {Q : am_Q} (q0 : vp_in (37 + (x1 - x1 / 10 * 10)) 54) (k : m_Model_partOf d [.long y0.toInt64, .long (((2 * (h.1 1 (37 + (x1 - x1 / 10 * 10)).toNatClampNeg)) + 1).toInt64), .int x3] h (fun r hh => am_W (X_Model_chance (d + 1)) 89 [some (.ref 0), some (.int x1), some (.int x2), some (.int x3), some (.int y0)] (r.toList ++ []) hh Q)) : am_W (X_Model_chance (d + 1)) 63 [some (.ref 0), some (.int x1), some (.int x2), some (.int x3), none] [.int y0] h Q :=
  am_istore (ls' := [some (.ref 0), some (.int x1), some (.int x2), some (.int x3), some (.int y0)]) d_Model_chance_63 (Nat.le_of_ble_eq_true rfl) rfl <|
    am_iload d_Model_chance_65 rfl <|
    am_i2l d_Model_chance_67 <|
    am_iconst (v := 2) d_Model_chance_68 (by decide) <|
    am_aload_n d_Model_chance_69 rfl (i := 0) rfl <|
    am_getR (ci := 10) (i := 0) rfl rfl rfl (Nat.le_of_ble_eq_true rfl) w_1318 d_Model_chance_70 <|
    am_bipush (v := 37) d_Model_chance_73 (by decide) <|
    am_iload_n d_Model_chance_75 rfl (i := 1) rfl <|
    am_bipush (v := 10) d_Model_chance_76 (by decide) <|
    am_irem d_Model_chance_78 (by decide) <|
    am_iadd d_Model_chance_79 <|
    am_iald rfl q0 d_Model_chance_80 <|
    am_imul d_Model_chance_81 <|
    am_iconst (v := 1) d_Model_chance_82 (by decide) <|
    am_iadd d_Model_chance_83 <|
    am_i2l d_Model_chance_84 <|
    am_iload_n d_Model_chance_85 rfl (i := 3) rfl <|
    am_callS (vs := [.long y0.toInt64, .long (((2 * (h.1 1 (37 + (x1 - x1 / 10 * 10)).toNatClampNeg)) + 1).toInt64), .int x3]) (st := []) rfl d_Model_chance_86 w_1590 w_1591 w_94 w_1592 p_Model_partOf (Nat.le_of_ble_eq_true rfl) (Nat.le_of_ble_eq_true rfl) rfl k
theorem b_Model_chance_89 {d : Nat} {x1 : Int32} {x2 : Int32} {x3 : Int32} {x4 : Int32} {y0 : Int64} {h : am_H} {Q : am_Q} (q : Q (some (.long y0)) h) : am_W (X_Model_chance d) 89 [some (.ref 0), some (.int x1), some (.int x2), some (.int x3), some (.int x4)] [.long y0] h Q :=
  am_lret rfl d_Model_chance_89 q
theorem t_Model_chance_28 {d : Nat} {x1 : Int32} {x2 : Int32} {x3 : Int32} {h : am_H} {Q : am_Q} {res : Int64} (e : f_Model_chance_28 h = some res) (q : Q (some (.long res)) h) : am_W (X_Model_chance (d + 3)) 28 [some (.ref 0), some (.int x1), some (.int x2), some (.int x3), none] [] h Q :=
  b_Model_chance_28 (d := (d + 3)) (q := (am_rJp (v := (-9223372036854775808)) e q))
theorem t_Model_chance_89 {d : Nat} {x1 : Int32} {x2 : Int32} {x3 : Int32} {x4 : Int32} {y0 : Int64} {h : am_H} {Q : am_Q} {res : Int64} (e : f_Model_chance_89 h y0 = some res) (q : Q (some (.long res)) h) : am_W (X_Model_chance (d + 3)) 89 [some (.ref 0), some (.int x1), some (.int x2), some (.int x3), some (.int x4)] [.long y0] h Q :=
  b_Model_chance_89 (d := (d + 3)) (q := (am_rJp (v := y0) e q))
theorem t_Model_chance_63 {d : Nat} {x1 : Int32} {x2 : Int32} {x3 : Int32} {y0 : Int32} {h : am_H} {Q : am_Q} {res : Int64} (e : f_Model_chance_63 h x1 x3 y0 = some res) (q : Q (some (.long res)) h) : am_W (X_Model_chance (d + 3)) 63 [some (.ref 0), some (.int x1), some (.int x2), some (.int x3), none] [.int y0] h Q :=
  (am_bd (am_ga e)).elim fun p hp => b_Model_chance_63 (d := (d + 2)) (q0 := (am_okv (am_gd e))) (k := c_Model_partOf (d := d + 1) hp.1 (t_Model_chance_89 hp.2 q))
theorem t_Model_chance_51 {d : Nat} {x1 : Int32} {x2 : Int32} {x3 : Int32} {h : am_H} {Q : am_Q} {res : Int64} (e : f_Model_chance_51 h x1 x3 = some res) (q : Q (some (.long res)) h) : am_W (X_Model_chance (d + 3)) 51 [some (.ref 0), some (.int x1), some (.int x2), some (.int x3), none] [] h Q :=
  (am_bd e).elim fun p hp => b_Model_chance_51 (d := (d + 2)) (k := c_Model_greenWays (d := d) hp.1 (t_Model_chance_63 hp.2 q))
theorem t_Model_chance_48 {d : Nat} {x1 : Int32} {x2 : Int32} {x3 : Int32} {y0 : Int32} {h : am_H} {Q : am_Q} {res : Int64} (e : f_Model_chance_48 h x1 x3 y0 = some res) (q : Q (some (.long res)) h) : am_W (X_Model_chance (d + 3)) 48 [some (.ref 0), some (.int x1), some (.int x2), some (.int x3), none] [.int y0] h Q :=
  b_Model_chance_48 (d := (d + 3)) (k := (t_Model_chance_63 e q))
theorem t_Model_chance_36 {d : Nat} {x1 : Int32} {x2 : Int32} {x3 : Int32} {h : am_H} {Q : am_Q} {res : Int64} (e : f_Model_chance_36 h x1 x3 = some res) (q : Q (some (.long res)) h) : am_W (X_Model_chance (d + 3)) 36 [some (.ref 0), some (.int x1), some (.int x2), some (.int x3), none] [] h Q :=
  (am_bd e).elim fun p hp => b_Model_chance_36 (d := (d + 2)) (k := c_Model_wetWays (d := d) hp.1 (t_Model_chance_48 hp.2 q))
theorem t_Model_chance_32 {d : Nat} {x1 : Int32} {x2 : Int32} {x3 : Int32} {h : am_H} {Q : am_Q} {res : Int64} (e : f_Model_chance_32 h x1 x2 x3 = some res) (q : Q (some (.long res)) h) : am_W (X_Model_chance (d + 3)) 32 [some (.ref 0), some (.int x1), some (.int x2), some (.int x3), none] [] h Q :=
  b_Model_chance_32 (d := (d + 3)) (kt := fun c => (t_Model_chance_51 (am_ife e c) q)) (kf := fun c => (t_Model_chance_36 (am_ift e c) q))
theorem t_Model_chance_25 {d : Nat} {x1 : Int32} {x2 : Int32} {x3 : Int32} {y0 : Bool} {h : am_H} {Q : am_Q} {res : Int64} (e : f_Model_chance_25 h x1 x2 x3 y0 = some res) (q : Q (some (.long res)) h) : am_W (X_Model_chance (d + 3)) 25 [some (.ref 0), some (.int x1), some (.int x2), some (.int x3), none] [.int (am_b y0)] h Q :=
  b_Model_chance_25 (d := (d + 3)) (kt := fun c => (t_Model_chance_32 (am_ift e (am_bn c)) q)) (kf := fun c => (t_Model_chance_28 (am_iff e (am_bz c)) q))
theorem t_Model_chance_18 {d : Nat} {x1 : Int32} {x2 : Int32} {x3 : Int32} {h : am_H} {Q : am_Q} {res : Int64} (e : f_Model_chance_18 h x1 x2 x3 = some res) (q : Q (some (.long res)) h) : am_W (X_Model_chance (d + 3)) 18 [some (.ref 0), some (.int x1), some (.int x2), some (.int x3), none] [] h Q :=
  b_Model_chance_18 (d := (d + 2)) (k := c_Model_within (d := d + 2) rfl (t_Model_chance_25 e q))
theorem t_Model_chance_15 {d : Nat} {x1 : Int32} {x2 : Int32} {x3 : Int32} {y0 : Bool} {h : am_H} {Q : am_Q} {res : Int64} (e : f_Model_chance_15 h x1 x2 x3 y0 = some res) (q : Q (some (.long res)) h) : am_W (X_Model_chance (d + 3)) 15 [some (.ref 0), some (.int x1), some (.int x2), some (.int x3), none] [.int (am_b y0)] h Q :=
  b_Model_chance_15 (d := (d + 3)) (kt := fun c => (t_Model_chance_28 (am_iff e (am_bz c)) q)) (kf := fun c => (t_Model_chance_18 (am_ift e (am_bn c)) q))
theorem t_Model_chance_8 {d : Nat} {x1 : Int32} {x2 : Int32} {x3 : Int32} {h : am_H} {Q : am_Q} {res : Int64} (e : f_Model_chance_8 h x1 x2 x3 = some res) (q : Q (some (.long res)) h) : am_W (X_Model_chance (d + 3)) 8 [some (.ref 0), some (.int x1), some (.int x2), some (.int x3), none] [] h Q :=
  b_Model_chance_8 (d := (d + 2)) (k := c_Model_within (d := d + 2) rfl (t_Model_chance_15 e q))
theorem t_Model_chance_5 {d : Nat} {x1 : Int32} {x2 : Int32} {x3 : Int32} {y0 : Bool} {h : am_H} {Q : am_Q} {res : Int64} (e : f_Model_chance_5 h x1 x2 x3 y0 = some res) (q : Q (some (.long res)) h) : am_W (X_Model_chance (d + 3)) 5 [some (.ref 0), some (.int x1), some (.int x2), some (.int x3), none] [.int (am_b y0)] h Q :=
  b_Model_chance_5 (d := (d + 3)) (kt := fun c => (t_Model_chance_28 (am_iff e (am_bz c)) q)) (kf := fun c => (t_Model_chance_8 (am_ift e (am_bn c)) q))
theorem t_Model_chance_0 {d : Nat} {x1 : Int32} {x2 : Int32} {x3 : Int32} {h : am_H} {Q : am_Q} {res : Int64} (e : f_Model_chance h x1 x2 x3 = some res) (q : Q (some (.long res)) h) : am_W (X_Model_chance (d + 3)) 0 [some (.ref 0), some (.int x1), some (.int x2), some (.int x3), none] [] h Q :=
  (am_bd e).elim fun p hp => b_Model_chance_0 (d := (d + 2)) (k := c_Model_isCc (d := d) hp.1 (t_Model_chance_5 hp.2 q))
theorem c_Model_chance {d : Nat} {x1 : Int32} {x2 : Int32} {x3 : Int32} {h : am_H} {Q : am_Q} {res : Int64} (e : f_Model_chance h x1 x2 x3 = some res) (q : Q (some (.long res)) h) : m_Model_chance (d + 3) [.ref 0, .int x1, .int x2, .int x3] h Q :=
  e_Model_chance (t_Model_chance_0 e q)
