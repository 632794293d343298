theorem d_Model_hitsAs_0 : decode prog_12_method_82_code 0 = .ok (.iload_n 1, 1) := by decide +kernel
theorem d_Model_hitsAs_1 : decode prog_12_method_82_code 1 = .ok (.iconst 3, 1) := by decide +kernel
theorem d_Model_hitsAs_2 : decode prog_12_method_82_code 2 = .ok (.if_icmp .eq 8, 3) := by decide +kernel
theorem d_Model_hitsAs_5 : decode prog_12_method_82_code 5 = .ok (.iload_n 1, 1) := by decide +kernel
theorem d_Model_hitsAs_6 : decode prog_12_method_82_code 6 = .ok (.iconst 5, 1) := by decide +kernel
theorem d_Model_hitsAs_7 : decode prog_12_method_82_code 7 = .ok (.if_icmp .ne 18, 3) := by decide +kernel
theorem d_Model_hitsAs_10 : decode prog_12_method_82_code 10 = .ok (.aload_n 0, 1) := by decide +kernel
theorem d_Model_hitsAs_11 : decode prog_12_method_82_code 11 = .ok (.bipush 41, 2) := by decide +kernel
theorem d_Model_hitsAs_13 : decode prog_12_method_82_code 13 = .ok (.invokevirtual 309, 3) := by decide +kernel
theorem d_Model_hitsAs_16 : decode prog_12_method_82_code 16 = .ok (.aload_n 0, 1) := by decide +kernel
theorem d_Model_hitsAs_17 : decode prog_12_method_82_code 17 = .ok (.iconst 2, 1) := by decide +kernel
theorem d_Model_hitsAs_18 : decode prog_12_method_82_code 18 = .ok (.iload_n 2, 1) := by decide +kernel
theorem d_Model_hitsAs_19 : decode prog_12_method_82_code 19 = .ok (.iconst 1, 1) := by decide +kernel
theorem d_Model_hitsAs_20 : decode prog_12_method_82_code 20 = .ok (.iadd, 1) := by decide +kernel
theorem d_Model_hitsAs_21 : decode prog_12_method_82_code 21 = .ok (.invokevirtual 318, 3) := by decide +kernel
theorem d_Model_hitsAs_24 : decode prog_12_method_82_code 24 = .ok (.ireturn, 1) := by decide +kernel
theorem d_Model_hitsAs_25 : decode prog_12_method_82_code 25 = .ok (.iload_n 1, 1) := by decide +kernel
theorem d_Model_hitsAs_26 : decode prog_12_method_82_code 26 = .ok (.iconst 2, 1) := by decide +kernel
theorem d_Model_hitsAs_27 : decode prog_12_method_82_code 27 = .ok (.if_icmp .ne 17, 3) := by decide +kernel
theorem d_Model_hitsAs_30 : decode prog_12_method_82_code 30 = .ok (.aload_n 0, 1) := by decide +kernel
theorem d_Model_hitsAs_31 : decode prog_12_method_82_code 31 = .ok (.bipush 30, 2) := by decide +kernel
theorem d_Model_hitsAs_33 : decode prog_12_method_82_code 33 = .ok (.invokevirtual 309, 3) := by decide +kernel
theorem d_Model_hitsAs_36 : decode prog_12_method_82_code 36 = .ok (.aload_n 0, 1) := by decide +kernel
theorem d_Model_hitsAs_37 : decode prog_12_method_82_code 37 = .ok (.iconst 0, 1) := by decide +kernel
theorem d_Model_hitsAs_38 : decode prog_12_method_82_code 38 = .ok (.iload_n 2, 1) := by decide +kernel
theorem d_Model_hitsAs_39 : decode prog_12_method_82_code 39 = .ok (.invokevirtual 318, 3) := by decide +kernel
theorem d_Model_hitsAs_42 : decode prog_12_method_82_code 42 = .ok (.ineg, 1) := by decide +kernel
theorem d_Model_hitsAs_43 : decode prog_12_method_82_code 43 = .ok (.ireturn, 1) := by decide +kernel
theorem d_Model_hitsAs_44 : decode prog_12_method_82_code 44 = .ok (.iload_n 1, 1) := by decide +kernel
theorem d_Model_hitsAs_45 : decode prog_12_method_82_code 45 = .ok (.bipush 7, 2) := by decide +kernel
theorem d_Model_hitsAs_47 : decode prog_12_method_82_code 47 = .ok (.if_icmp .ne 28, 3) := by decide +kernel
theorem d_Model_hitsAs_50 : decode prog_12_method_82_code 50 = .ok (.aload_n 0, 1) := by decide +kernel
theorem d_Model_hitsAs_51 : decode prog_12_method_82_code 51 = .ok (.bipush 80, 2) := by decide +kernel
theorem d_Model_hitsAs_53 : decode prog_12_method_82_code 53 = .ok (.invokevirtual 309, 3) := by decide +kernel
theorem d_Model_hitsAs_56 : decode prog_12_method_82_code 56 = .ok (.aload_n 0, 1) := by decide +kernel
theorem d_Model_hitsAs_57 : decode prog_12_method_82_code 57 = .ok (.iconst 4, 1) := by decide +kernel
theorem d_Model_hitsAs_58 : decode prog_12_method_82_code 58 = .ok (.iload_n 2, 1) := by decide +kernel
theorem d_Model_hitsAs_59 : decode prog_12_method_82_code 59 = .ok (.invokevirtual 318, 3) := by decide +kernel
theorem d_Model_hitsAs_62 : decode prog_12_method_82_code 62 = .ok (.istore_n 3, 1) := by decide +kernel
theorem d_Model_hitsAs_63 : decode prog_12_method_82_code 63 = .ok (.iload_n 3, 1) := by decide +kernel
theorem d_Model_hitsAs_64 : decode prog_12_method_82_code 64 = .ok (.aload_n 0, 1) := by decide +kernel
theorem d_Model_hitsAs_65 : decode prog_12_method_82_code 65 = .ok (.aload_n 0, 1) := by decide +kernel
theorem d_Model_hitsAs_66 : decode prog_12_method_82_code 66 = .ok (.getfield 321, 3) := by decide +kernel
theorem d_Model_hitsAs_69 : decode prog_12_method_82_code 69 = .ok (.iconst 2, 1) := by decide +kernel
theorem d_Model_hitsAs_70 : decode prog_12_method_82_code 70 = .ok (.invokevirtual 324, 3) := by decide +kernel
theorem d_Model_hitsAs_73 : decode prog_12_method_82_code 73 = .ok (.iadd, 1) := by decide +kernel
theorem d_Model_hitsAs_74 : decode prog_12_method_82_code 74 = .ok (.ireturn, 1) := by decide +kernel
theorem d_Model_hitsAs_75 : decode prog_12_method_82_code 75 = .ok (.aload_n 0, 1) := by decide +kernel
theorem d_Model_hitsAs_76 : decode prog_12_method_82_code 76 = .ok (.bipush 10, 2) := by decide +kernel
theorem d_Model_hitsAs_78 : decode prog_12_method_82_code 78 = .ok (.invokevirtual 309, 3) := by decide +kernel
theorem d_Model_hitsAs_81 : decode prog_12_method_82_code 81 = .ok (.aload_n 0, 1) := by decide +kernel
theorem d_Model_hitsAs_82 : decode prog_12_method_82_code 82 = .ok (.aload_n 0, 1) := by decide +kernel
theorem d_Model_hitsAs_83 : decode prog_12_method_82_code 83 = .ok (.getfield 321, 3) := by decide +kernel
theorem d_Model_hitsAs_86 : decode prog_12_method_82_code 86 = .ok (.iload_n 2, 1) := by decide +kernel
theorem d_Model_hitsAs_87 : decode prog_12_method_82_code 87 = .ok (.invokevirtual 312, 3) := by decide +kernel
theorem d_Model_hitsAs_90 : decode prog_12_method_82_code 90 = .ok (.iconst 2, 1) := by decide +kernel
theorem d_Model_hitsAs_91 : decode prog_12_method_82_code 91 = .ok (.imul, 1) := by decide +kernel
theorem d_Model_hitsAs_92 : decode prog_12_method_82_code 92 = .ok (.ireturn, 1) := by decide +kernel
theorem b_Model_hitsAs_0 {d : Nat} {x1 : Int32} {x2 : Int32} {h : am_H} {Q : am_Q} (kt : x1 = 3 → am_W (X_Model_hitsAs d) 10 [some (.ref 0), some (.int x1), some (.int x2), none] [] h Q) (kf : ¬ x1 = 3 → am_W (X_Model_hitsAs d) 5 [some (.ref 0), some (.int x1), some (.int x2), none] [] h Q) : am_W (X_Model_hitsAs d) 0 [some (.ref 0), some (.int x1), some (.int x2), none] [] h Q :=
  am_iload_n d_Model_hitsAs_0 rfl (i := 1) rfl <|
    am_iconst (v := 3) d_Model_hitsAs_1 (by decide) <|
    am_icmp_eq (tgt := 10) d_Model_hitsAs_2 (by decide) kt kf
theorem b_Model_hitsAs_5 {d : Nat} {x1 : Int32} {x2 : Int32} {h : am_H} {Q : am_Q} (kt : ¬ x1 = 5 → am_W (X_Model_hitsAs d) 25 [some (.ref 0), some (.int x1), some (.int x2), none] [] h Q) (kf : x1 = 5 → am_W (X_Model_hitsAs d) 10 [some (.ref 0), some (.int x1), some (.int x2), none] [] h Q) : am_W (X_Model_hitsAs d) 5 [some (.ref 0), some (.int x1), some (.int x2), none] [] h Q :=
  am_iload_n d_Model_hitsAs_5 rfl (i := 1) rfl <|
    am_iconst (v := 5) d_Model_hitsAs_6 (by decide) <|
    am_icmp_ne (tgt := 25) d_Model_hitsAs_7 (by decide) kt kf
theorem b_Model_hitsAs_10 {d : Nat} {x1 : Int32} {x2 : Int32} {h : am_H} {Q : am_Q} (k : m_Model_begins d [.ref 0, .int 41] h (fun r hh => am_W (X_Model_hitsAs (d + 1)) 16 [some (.ref 0), some (.int x1), some (.int x2), none] (r.toList ++ []) hh Q)) : am_W (X_Model_hitsAs (d + 1)) 10 [some (.ref 0), some (.int x1), some (.int x2), none] [] h Q :=
  am_aload_n d_Model_hitsAs_10 rfl (i := 0) rfl <|
    am_bipush (v := 41) d_Model_hitsAs_11 (by decide) <|
    am_callV (vs := [.int 41]) (st := []) (k := 0) (ci := 10) rfl d_Model_hitsAs_13 rfl rfl w_1750 w_1752 w_75 w_94 w_1753 p_Model_begins (Nat.le_of_ble_eq_true rfl) (Nat.le_of_ble_eq_true rfl) rfl k
theorem b_Model_hitsAs_16 {d : Nat} {x1 : Int32} {x2 : Int32} {h : am_H} {Q : am_Q} (k : m_Model_hitsAs d [.ref 0, .int 2, .int (x2 + 1)] h (fun r hh => am_W (X_Model_hitsAs (d + 1)) 24 [some (.ref 0), some (.int x1), some (.int x2), none] (r.toList ++ []) hh Q)) : am_W (X_Model_hitsAs (d + 1)) 16 [some (.ref 0), some (.int x1), some (.int x2), none] [] h Q :=
  am_aload_n d_Model_hitsAs_16 rfl (i := 0) rfl <|
    am_iconst (v := 2) d_Model_hitsAs_17 (by decide) <|
    am_iload_n d_Model_hitsAs_18 rfl (i := 2) rfl <|
    am_iconst (v := 1) d_Model_hitsAs_19 (by decide) <|
    am_iadd d_Model_hitsAs_20 <|
    am_callV (vs := [.int 2, .int (x2 + 1)]) (st := []) (k := 0) (ci := 10) rfl d_Model_hitsAs_21 rfl rfl w_1754 w_1756 w_76 w_94 w_1757 p_Model_hitsAs (Nat.le_of_ble_eq_true rfl) (Nat.le_of_ble_eq_true rfl) rfl k
theorem b_Model_hitsAs_24 {d : Nat} {x1 : Int32} {x2 : Int32} {y0 : Int32} {h : am_H} {Q : am_Q} (q : Q (some (.int y0)) h) : am_W (X_Model_hitsAs d) 24 [some (.ref 0), some (.int x1), some (.int x2), none] [.int y0] h Q :=
  am_iret rfl d_Model_hitsAs_24 q
theorem b_Model_hitsAs_25 {d : Nat} {x1 : Int32} {x2 : Int32} {h : am_H} {Q : am_Q} (kt : ¬ x1 = 2 → am_W (X_Model_hitsAs d) 44 [some (.ref 0), some (.int x1), some (.int x2), none] [] h Q) (kf : x1 = 2 → am_W (X_Model_hitsAs d) 30 [some (.ref 0), some (.int x1), some (.int x2), none] [] h Q) : am_W (X_Model_hitsAs d) 25 [some (.ref 0), some (.int x1), some (.int x2), none] [] h Q :=
  am_iload_n d_Model_hitsAs_25 rfl (i := 1) rfl <|
    am_iconst (v := 2) d_Model_hitsAs_26 (by decide) <|
    am_icmp_ne (tgt := 44) d_Model_hitsAs_27 (by decide) kt kf
theorem b_Model_hitsAs_30 {d : Nat} {x1 : Int32} {x2 : Int32} {h : am_H} {Q : am_Q} (k : m_Model_begins d [.ref 0, .int 30] h (fun r hh => am_W (X_Model_hitsAs (d + 1)) 36 [some (.ref 0), some (.int x1), some (.int x2), none] (r.toList ++ []) hh Q)) : am_W (X_Model_hitsAs (d + 1)) 30 [some (.ref 0), some (.int x1), some (.int x2), none] [] h Q :=
  am_aload_n d_Model_hitsAs_30 rfl (i := 0) rfl <|
    am_bipush (v := 30) d_Model_hitsAs_31 (by decide) <|
    am_callV (vs := [.int 30]) (st := []) (k := 0) (ci := 10) rfl d_Model_hitsAs_33 rfl rfl w_1750 w_1752 w_75 w_94 w_1753 p_Model_begins (Nat.le_of_ble_eq_true rfl) (Nat.le_of_ble_eq_true rfl) rfl k
theorem b_Model_hitsAs_36 {d : Nat} {x1 : Int32} {x2 : Int32} {h : am_H} {Q : am_Q} (k : m_Model_hitsAs d [.ref 0, .int 0, .int x2] h (fun r hh => am_W (X_Model_hitsAs (d + 1)) 42 [some (.ref 0), some (.int x1), some (.int x2), none] (r.toList ++ []) hh Q)) : am_W (X_Model_hitsAs (d + 1)) 36 [some (.ref 0), some (.int x1), some (.int x2), none] [] h Q :=
  am_aload_n d_Model_hitsAs_36 rfl (i := 0) rfl <|
    am_iconst (v := 0) d_Model_hitsAs_37 (by decide) <|
    am_iload_n d_Model_hitsAs_38 rfl (i := 2) rfl <|
    am_callV (vs := [.int 0, .int x2]) (st := []) (k := 0) (ci := 10) rfl d_Model_hitsAs_39 rfl rfl w_1754 w_1756 w_76 w_94 w_1757 p_Model_hitsAs (Nat.le_of_ble_eq_true rfl) (Nat.le_of_ble_eq_true rfl) rfl k
theorem b_Model_hitsAs_42 {d : Nat} {x1 : Int32} {x2 : Int32} {y0 : Int32} {h : am_H} {Q : am_Q} (q : Q (some (.int (-y0))) h) : am_W (X_Model_hitsAs d) 42 [some (.ref 0), some (.int x1), some (.int x2), none] [.int y0] h Q :=
  am_ineg d_Model_hitsAs_42 <|
    am_iret rfl d_Model_hitsAs_43 q
theorem b_Model_hitsAs_44 {d : Nat} {x1 : Int32} {x2 : Int32} {h : am_H} {Q : am_Q} (kt : ¬ x1 = 7 → am_W (X_Model_hitsAs d) 75 [some (.ref 0), some (.int x1), some (.int x2), none] [] h Q) (kf : x1 = 7 → am_W (X_Model_hitsAs d) 50 [some (.ref 0), some (.int x1), some (.int x2), none] [] h Q) : am_W (X_Model_hitsAs d) 44 [some (.ref 0), some (.int x1), some (.int x2), none] [] h Q :=
  am_iload_n d_Model_hitsAs_44 rfl (i := 1) rfl <|
    am_bipush (v := 7) d_Model_hitsAs_45 (by decide) <|
    am_icmp_ne (tgt := 75) d_Model_hitsAs_47 (by decide) kt kf
theorem b_Model_hitsAs_50 {d : Nat} {x1 : Int32} {x2 : Int32} {h : am_H} {Q : am_Q} (k : m_Model_begins d [.ref 0, .int 80] h (fun r hh => am_W (X_Model_hitsAs (d + 1)) 56 [some (.ref 0), some (.int x1), some (.int x2), none] (r.toList ++ []) hh Q)) : am_W (X_Model_hitsAs (d + 1)) 50 [some (.ref 0), some (.int x1), some (.int x2), none] [] h Q :=
  am_aload_n d_Model_hitsAs_50 rfl (i := 0) rfl <|
    am_bipush (v := 80) d_Model_hitsAs_51 (by decide) <|
    am_callV (vs := [.int 80]) (st := []) (k := 0) (ci := 10) rfl d_Model_hitsAs_53 rfl rfl w_1750 w_1752 w_75 w_94 w_1753 p_Model_begins (Nat.le_of_ble_eq_true rfl) (Nat.le_of_ble_eq_true rfl) rfl k
theorem b_Model_hitsAs_56 {d : Nat} {x1 : Int32} {x2 : Int32} {h : am_H} {Q : am_Q} (k : m_Model_hitsAs d [.ref 0, .int 4, .int x2] h (fun r hh => am_W (X_Model_hitsAs (d + 1)) 62 [some (.ref 0), some (.int x1), some (.int x2), none] (r.toList ++ []) hh Q)) : am_W (X_Model_hitsAs (d + 1)) 56 [some (.ref 0), some (.int x1), some (.int x2), none] [] h Q :=
  am_aload_n d_Model_hitsAs_56 rfl (i := 0) rfl <|
    am_iconst (v := 4) d_Model_hitsAs_57 (by decide) <|
    am_iload_n d_Model_hitsAs_58 rfl (i := 2) rfl <|
    am_callV (vs := [.int 4, .int x2]) (st := []) (k := 0) (ci := 10) rfl d_Model_hitsAs_59 rfl rfl w_1754 w_1756 w_76 w_94 w_1757 p_Model_hitsAs (Nat.le_of_ble_eq_true rfl) (Nat.le_of_ble_eq_true rfl) rfl k
theorem b_Model_hitsAs_62 {d : Nat} {x1 : Int32} {x2 : Int32} {y0 : Int32} {h : am_H} {Q : am_Q} (k : m_Model_liesAs d [.ref 0, .int (h.1 0 30), .int 2] h (fun r hh => am_W (X_Model_hitsAs (d + 1)) 73 [some (.ref 0), some (.int x1), some (.int x2), some (.int y0)] (r.toList ++ [.int y0]) hh Q)) : am_W (X_Model_hitsAs (d + 1)) 62 [some (.ref 0), some (.int x1), some (.int x2), none] [.int y0] h Q :=
  am_istore_n (ls' := [some (.ref 0), some (.int x1), some (.int x2), some (.int y0)]) d_Model_hitsAs_62 rfl (Nat.le_of_ble_eq_true rfl) rfl <|
    am_iload_n d_Model_hitsAs_63 rfl (i := 3) rfl <|
    am_aload_n d_Model_hitsAs_64 rfl (i := 0) rfl <|
    am_aload_n d_Model_hitsAs_65 rfl (i := 0) rfl <|
    am_getI (ci := 10) (i := 30) rfl rfl rfl (Nat.le_of_ble_eq_true rfl) w_1348 d_Model_hitsAs_66 <|
    am_iconst (v := 2) d_Model_hitsAs_69 (by decide) <|
    am_callV (vs := [.int (h.1 0 30), .int 2]) (st := [.int y0]) (k := 0) (ci := 10) rfl d_Model_hitsAs_70 rfl rfl w_1758 w_1760 w_77 w_94 w_1761 p_Model_liesAs (Nat.le_of_ble_eq_true rfl) (Nat.le_of_ble_eq_true rfl) rfl k
theorem b_Model_hitsAs_73 {d : Nat} {x1 : Int32} {x2 : Int32} {x3 : Int32} {y1 : Int32} {y0 : Int32} {h : am_H} {Q : am_Q} (q : Q (some (.int (y0 + y1))) h) : am_W (X_Model_hitsAs d) 73 [some (.ref 0), some (.int x1), some (.int x2), some (.int x3)] [.int y1, .int y0] h Q :=
  am_iadd d_Model_hitsAs_73 <|
    am_iret rfl d_Model_hitsAs_74 q
theorem b_Model_hitsAs_75 {d : Nat} {x1 : Int32} {x2 : Int32} {h : am_H} {Q : am_Q} (k : m_Model_begins d [.ref 0, .int 10] h (fun r hh => am_W (X_Model_hitsAs (d + 1)) 81 [some (.ref 0), some (.int x1), some (.int x2), none] (r.toList ++ []) hh Q)) : am_W (X_Model_hitsAs (d + 1)) 75 [some (.ref 0), some (.int x1), some (.int x2), none] [] h Q :=
  am_aload_n d_Model_hitsAs_75 rfl (i := 0) rfl <|
    am_bipush (v := 10) d_Model_hitsAs_76 (by decide) <|
    am_callV (vs := [.int 10]) (st := []) (k := 0) (ci := 10) rfl d_Model_hitsAs_78 rfl rfl w_1750 w_1752 w_75 w_94 w_1753 p_Model_begins (Nat.le_of_ble_eq_true rfl) (Nat.le_of_ble_eq_true rfl) rfl k
theorem b_Model_hitsAs_81 {d : Nat} {x1 : Int32} {x2 : Int32} {h : am_H} {Q : am_Q} (k : m_Model_saysAs d [.ref 0, .int (h.1 0 30), .int x2] h (fun r hh => am_W (X_Model_hitsAs (d + 1)) 90 [some (.ref 0), some (.int x1), some (.int x2), none] (r.toList ++ []) hh Q)) : am_W (X_Model_hitsAs (d + 1)) 81 [some (.ref 0), some (.int x1), some (.int x2), none] [] h Q :=
  am_aload_n d_Model_hitsAs_81 rfl (i := 0) rfl <|
    am_aload_n d_Model_hitsAs_82 rfl (i := 0) rfl <|
    am_getI (ci := 10) (i := 30) rfl rfl rfl (Nat.le_of_ble_eq_true rfl) w_1348 d_Model_hitsAs_83 <|
    am_iload_n d_Model_hitsAs_86 rfl (i := 2) rfl <|
    am_callV (vs := [.int (h.1 0 30), .int x2]) (st := []) (k := 0) (ci := 10) rfl d_Model_hitsAs_87 rfl rfl w_1746 w_1748 w_74 w_94 w_1749 p_Model_saysAs (Nat.le_of_ble_eq_true rfl) (Nat.le_of_ble_eq_true rfl) rfl k
theorem b_Model_hitsAs_90 {d : Nat} {x1 : Int32} {x2 : Int32} {y0 : Int32} {h : am_H} {Q : am_Q} (q : Q (some (.int (y0 * 2))) h) : am_W (X_Model_hitsAs d) 90 [some (.ref 0), some (.int x1), some (.int x2), none] [.int y0] h Q :=
  am_iconst (v := 2) d_Model_hitsAs_90 (by decide) <|
    am_imul d_Model_hitsAs_91 <|
    am_iret rfl d_Model_hitsAs_92 q
theorem t_Model_hitsAs_24 {d : Nat} {rc : rc_Model_hitsAs} {x1 : Int32} {x2 : Int32} {y0 : Int32} {h : am_H} {Q : am_Q} {res : Int32 × am_H} (hr0 : ∀ {x1 : Int32} {x2 : Int32} {h : am_H} {Q : am_Q} {res : Int32 × am_H}, rc h x1 x2 = some res → Q (some (.int res.1)) res.2 → m_Model_hitsAs (d + 128) [.ref 0, .int x1, .int x2] h Q) (e : f_Model_hitsAs_24 rc h y0 = some res) (q : Q (some (.int res.1)) res.2) : am_W (X_Model_hitsAs (d + 128 + 1)) 24 [some (.ref 0), some (.int x1), some (.int x2), none] [.int y0] h Q :=
  b_Model_hitsAs_24 (d := (d + 128 + 1)) (q := (am_rIpi (v := y0) e q))
theorem t_Model_hitsAs_16 {d : Nat} {rc : rc_Model_hitsAs} {x1 : Int32} {x2 : Int32} {h : am_H} {Q : am_Q} {res : Int32 × am_H} (hr0 : ∀ {x1 : Int32} {x2 : Int32} {h : am_H} {Q : am_Q} {res : Int32 × am_H}, rc h x1 x2 = some res → Q (some (.int res.1)) res.2 → m_Model_hitsAs (d + 128) [.ref 0, .int x1, .int x2] h Q) (e : f_Model_hitsAs_16 rc h x2 = some res) (q : Q (some (.int res.1)) res.2) : am_W (X_Model_hitsAs (d + 128 + 1)) 16 [some (.ref 0), some (.int x1), some (.int x2), none] [] h Q :=
  (am_bd e).elim fun p hp => b_Model_hitsAs_16 (d := (d + 128)) (k := hr0 hp.1 (t_Model_hitsAs_24 hr0 hp.2 q))
theorem t_Model_hitsAs_10 {d : Nat} {rc : rc_Model_hitsAs} {x1 : Int32} {x2 : Int32} {h : am_H} {Q : am_Q} {res : Int32 × am_H} (hr0 : ∀ {x1 : Int32} {x2 : Int32} {h : am_H} {Q : am_Q} {res : Int32 × am_H}, rc h x1 x2 = some res → Q (some (.int res.1)) res.2 → m_Model_hitsAs (d + 128) [.ref 0, .int x1, .int x2] h Q) (e : f_Model_hitsAs_10 rc h x2 = some res) (q : Q (some (.int res.1)) res.2) : am_W (X_Model_hitsAs (d + 128 + 1)) 10 [some (.ref 0), some (.int x1), some (.int x2), none] [] h Q :=
  (am_bd e).elim fun p hp => b_Model_hitsAs_10 (d := (d + 128)) (k := c_Model_begins (d := d + 128) hp.1 (t_Model_hitsAs_16 hr0 hp.2 q))
theorem t_Model_hitsAs_90 {d : Nat} {rc : rc_Model_hitsAs} {x1 : Int32} {x2 : Int32} {y0 : Int32} {h : am_H} {Q : am_Q} {res : Int32 × am_H} (hr0 : ∀ {x1 : Int32} {x2 : Int32} {h : am_H} {Q : am_Q} {res : Int32 × am_H}, rc h x1 x2 = some res → Q (some (.int res.1)) res.2 → m_Model_hitsAs (d + 128) [.ref 0, .int x1, .int x2] h Q) (e : f_Model_hitsAs_90 rc h y0 = some res) (q : Q (some (.int res.1)) res.2) : am_W (X_Model_hitsAs (d + 128 + 1)) 90 [some (.ref 0), some (.int x1), some (.int x2), none] [.int y0] h Q :=
  b_Model_hitsAs_90 (d := (d + 128 + 1)) (q := (am_rIpi (v := (y0 * 2)) e q))
theorem t_Model_hitsAs_81 {d : Nat} {rc : rc_Model_hitsAs} {x1 : Int32} {x2 : Int32} {h : am_H} {Q : am_Q} {res : Int32 × am_H} (hr0 : ∀ {x1 : Int32} {x2 : Int32} {h : am_H} {Q : am_Q} {res : Int32 × am_H}, rc h x1 x2 = some res → Q (some (.int res.1)) res.2 → m_Model_hitsAs (d + 128) [.ref 0, .int x1, .int x2] h Q) (e : f_Model_hitsAs_81 rc h x2 = some res) (q : Q (some (.int res.1)) res.2) : am_W (X_Model_hitsAs (d + 128 + 1)) 81 [some (.ref 0), some (.int x1), some (.int x2), none] [] h Q :=
  (am_bd e).elim fun p hp => b_Model_hitsAs_81 (d := (d + 128)) (k := c_Model_saysAs (d := d + 64) hp.1 (t_Model_hitsAs_90 hr0 hp.2 q))
theorem t_Model_hitsAs_75 {d : Nat} {rc : rc_Model_hitsAs} {x1 : Int32} {x2 : Int32} {h : am_H} {Q : am_Q} {res : Int32 × am_H} (hr0 : ∀ {x1 : Int32} {x2 : Int32} {h : am_H} {Q : am_Q} {res : Int32 × am_H}, rc h x1 x2 = some res → Q (some (.int res.1)) res.2 → m_Model_hitsAs (d + 128) [.ref 0, .int x1, .int x2] h Q) (e : f_Model_hitsAs_75 rc h x2 = some res) (q : Q (some (.int res.1)) res.2) : am_W (X_Model_hitsAs (d + 128 + 1)) 75 [some (.ref 0), some (.int x1), some (.int x2), none] [] h Q :=
  (am_bd e).elim fun p hp => b_Model_hitsAs_75 (d := (d + 128)) (k := c_Model_begins (d := d + 128) hp.1 (t_Model_hitsAs_81 hr0 hp.2 q))
theorem t_Model_hitsAs_73 {d : Nat} {rc : rc_Model_hitsAs} {x1 : Int32} {x2 : Int32} {x3 : Int32} {y1 : Int32} {y0 : Int32} {h : am_H} {Q : am_Q} {res : Int32 × am_H} (hr0 : ∀ {x1 : Int32} {x2 : Int32} {h : am_H} {Q : am_Q} {res : Int32 × am_H}, rc h x1 x2 = some res → Q (some (.int res.1)) res.2 → m_Model_hitsAs (d + 128) [.ref 0, .int x1, .int x2] h Q) (e : f_Model_hitsAs_73 rc h y1 y0 = some res) (q : Q (some (.int res.1)) res.2) : am_W (X_Model_hitsAs (d + 128 + 1)) 73 [some (.ref 0), some (.int x1), some (.int x2), some (.int x3)] [.int y1, .int y0] h Q :=
  b_Model_hitsAs_73 (d := (d + 128 + 1)) (q := (am_rIpi (v := (y0 + y1)) e q))
theorem t_Model_hitsAs_62 {d : Nat} {rc : rc_Model_hitsAs} {x1 : Int32} {x2 : Int32} {y0 : Int32} {h : am_H} {Q : am_Q} {res : Int32 × am_H} (hr0 : ∀ {x1 : Int32} {x2 : Int32} {h : am_H} {Q : am_Q} {res : Int32 × am_H}, rc h x1 x2 = some res → Q (some (.int res.1)) res.2 → m_Model_hitsAs (d + 128) [.ref 0, .int x1, .int x2] h Q) (e : f_Model_hitsAs_62 rc h y0 = some res) (q : Q (some (.int res.1)) res.2) : am_W (X_Model_hitsAs (d + 128 + 1)) 62 [some (.ref 0), some (.int x1), some (.int x2), none] [.int y0] h Q :=
  (am_bd e).elim fun p hp => b_Model_hitsAs_62 (d := (d + 128)) (k := c_Model_liesAs (d := d) hp.1 (t_Model_hitsAs_73 hr0 hp.2 q))
theorem t_Model_hitsAs_56 {d : Nat} {rc : rc_Model_hitsAs} {x1 : Int32} {x2 : Int32} {h : am_H} {Q : am_Q} {res : Int32 × am_H} (hr0 : ∀ {x1 : Int32} {x2 : Int32} {h : am_H} {Q : am_Q} {res : Int32 × am_H}, rc h x1 x2 = some res → Q (some (.int res.1)) res.2 → m_Model_hitsAs (d + 128) [.ref 0, .int x1, .int x2] h Q) (e : f_Model_hitsAs_56 rc h x2 = some res) (q : Q (some (.int res.1)) res.2) : am_W (X_Model_hitsAs (d + 128 + 1)) 56 [some (.ref 0), some (.int x1), some (.int x2), none] [] h Q :=
  (am_bd e).elim fun p hp => b_Model_hitsAs_56 (d := (d + 128)) (k := hr0 hp.1 (t_Model_hitsAs_62 hr0 hp.2 q))
theorem t_Model_hitsAs_50 {d : Nat} {rc : rc_Model_hitsAs} {x1 : Int32} {x2 : Int32} {h : am_H} {Q : am_Q} {res : Int32 × am_H} (hr0 : ∀ {x1 : Int32} {x2 : Int32} {h : am_H} {Q : am_Q} {res : Int32 × am_H}, rc h x1 x2 = some res → Q (some (.int res.1)) res.2 → m_Model_hitsAs (d + 128) [.ref 0, .int x1, .int x2] h Q) (e : f_Model_hitsAs_50 rc h x2 = some res) (q : Q (some (.int res.1)) res.2) : am_W (X_Model_hitsAs (d + 128 + 1)) 50 [some (.ref 0), some (.int x1), some (.int x2), none] [] h Q :=
  (am_bd e).elim fun p hp => b_Model_hitsAs_50 (d := (d + 128)) (k := c_Model_begins (d := d + 128) hp.1 (t_Model_hitsAs_56 hr0 hp.2 q))
theorem t_Model_hitsAs_44 {d : Nat} {rc : rc_Model_hitsAs} {x1 : Int32} {x2 : Int32} {h : am_H} {Q : am_Q} {res : Int32 × am_H} (hr0 : ∀ {x1 : Int32} {x2 : Int32} {h : am_H} {Q : am_Q} {res : Int32 × am_H}, rc h x1 x2 = some res → Q (some (.int res.1)) res.2 → m_Model_hitsAs (d + 128) [.ref 0, .int x1, .int x2] h Q) (e : f_Model_hitsAs_44 rc h x1 x2 = some res) (q : Q (some (.int res.1)) res.2) : am_W (X_Model_hitsAs (d + 128 + 1)) 44 [some (.ref 0), some (.int x1), some (.int x2), none] [] h Q :=
  b_Model_hitsAs_44 (d := (d + 128 + 1)) (kt := fun c => (t_Model_hitsAs_75 hr0 (am_ife e c) q)) (kf := fun c => (t_Model_hitsAs_50 hr0 (am_ift e c) q))
theorem t_Model_hitsAs_42 {d : Nat} {rc : rc_Model_hitsAs} {x1 : Int32} {x2 : Int32} {y0 : Int32} {h : am_H} {Q : am_Q} {res : Int32 × am_H} (hr0 : ∀ {x1 : Int32} {x2 : Int32} {h : am_H} {Q : am_Q} {res : Int32 × am_H}, rc h x1 x2 = some res → Q (some (.int res.1)) res.2 → m_Model_hitsAs (d + 128) [.ref 0, .int x1, .int x2] h Q) (e : f_Model_hitsAs_42 rc h y0 = some res) (q : Q (some (.int res.1)) res.2) : am_W (X_Model_hitsAs (d + 128 + 1)) 42 [some (.ref 0), some (.int x1), some (.int x2), none] [.int y0] h Q :=
  b_Model_hitsAs_42 (d := (d + 128 + 1)) (q := (am_rIpi (v := (-y0)) e q))
theorem t_Model_hitsAs_36 {d : Nat} {rc : rc_Model_hitsAs} {x1 : Int32} {x2 : Int32} {h : am_H} {Q : am_Q} {res : Int32 × am_H} (hr0 : ∀ {x1 : Int32} {x2 : Int32} {h : am_H} {Q : am_Q} {res : Int32 × am_H}, rc h x1 x2 = some res → Q (some (.int res.1)) res.2 → m_Model_hitsAs (d + 128) [.ref 0, .int x1, .int x2] h Q) (e : f_Model_hitsAs_36 rc h x2 = some res) (q : Q (some (.int res.1)) res.2) : am_W (X_Model_hitsAs (d + 128 + 1)) 36 [some (.ref 0), some (.int x1), some (.int x2), none] [] h Q :=
  (am_bd e).elim fun p hp => b_Model_hitsAs_36 (d := (d + 128)) (k := hr0 hp.1 (t_Model_hitsAs_42 hr0 hp.2 q))
theorem t_Model_hitsAs_30 {d : Nat} {rc : rc_Model_hitsAs} {x1 : Int32} {x2 : Int32} {h : am_H} {Q : am_Q} {res : Int32 × am_H} (hr0 : ∀ {x1 : Int32} {x2 : Int32} {h : am_H} {Q : am_Q} {res : Int32 × am_H}, rc h x1 x2 = some res → Q (some (.int res.1)) res.2 → m_Model_hitsAs (d + 128) [.ref 0, .int x1, .int x2] h Q) (e : f_Model_hitsAs_30 rc h x2 = some res) (q : Q (some (.int res.1)) res.2) : am_W (X_Model_hitsAs (d + 128 + 1)) 30 [some (.ref 0), some (.int x1), some (.int x2), none] [] h Q :=
  (am_bd e).elim fun p hp => b_Model_hitsAs_30 (d := (d + 128)) (k := c_Model_begins (d := d + 128) hp.1 (t_Model_hitsAs_36 hr0 hp.2 q))
theorem t_Model_hitsAs_25 {d : Nat} {rc : rc_Model_hitsAs} {x1 : Int32} {x2 : Int32} {h : am_H} {Q : am_Q} {res : Int32 × am_H} (hr0 : ∀ {x1 : Int32} {x2 : Int32} {h : am_H} {Q : am_Q} {res : Int32 × am_H}, rc h x1 x2 = some res → Q (some (.int res.1)) res.2 → m_Model_hitsAs (d + 128) [.ref 0, .int x1, .int x2] h Q) (e : f_Model_hitsAs_25 rc h x1 x2 = some res) (q : Q (some (.int res.1)) res.2) : am_W (X_Model_hitsAs (d + 128 + 1)) 25 [some (.ref 0), some (.int x1), some (.int x2), none] [] h Q :=
  b_Model_hitsAs_25 (d := (d + 128 + 1)) (kt := fun c => (t_Model_hitsAs_44 hr0 (am_ife e c) q)) (kf := fun c => (t_Model_hitsAs_30 hr0 (am_ift e c) q))
theorem t_Model_hitsAs_5 {d : Nat} {rc : rc_Model_hitsAs} {x1 : Int32} {x2 : Int32} {h : am_H} {Q : am_Q} {res : Int32 × am_H} (hr0 : ∀ {x1 : Int32} {x2 : Int32} {h : am_H} {Q : am_Q} {res : Int32 × am_H}, rc h x1 x2 = some res → Q (some (.int res.1)) res.2 → m_Model_hitsAs (d + 128) [.ref 0, .int x1, .int x2] h Q) (e : f_Model_hitsAs_5 rc h x1 x2 = some res) (q : Q (some (.int res.1)) res.2) : am_W (X_Model_hitsAs (d + 128 + 1)) 5 [some (.ref 0), some (.int x1), some (.int x2), none] [] h Q :=
  b_Model_hitsAs_5 (d := (d + 128 + 1)) (kt := fun c => (t_Model_hitsAs_25 hr0 (am_ife e c) q)) (kf := fun c => (t_Model_hitsAs_10 hr0 (am_ift e c) q))
theorem t_Model_hitsAs_0 {d : Nat} {rc : rc_Model_hitsAs} {x1 : Int32} {x2 : Int32} {h : am_H} {Q : am_Q} {res : Int32 × am_H} (hr0 : ∀ {x1 : Int32} {x2 : Int32} {h : am_H} {Q : am_Q} {res : Int32 × am_H}, rc h x1 x2 = some res → Q (some (.int res.1)) res.2 → m_Model_hitsAs (d + 128) [.ref 0, .int x1, .int x2] h Q) (e : f_Model_hitsAs_0 rc h x1 x2 = some res) (q : Q (some (.int res.1)) res.2) : am_W (X_Model_hitsAs (d + 128 + 1)) 0 [some (.ref 0), some (.int x1), some (.int x2), none] [] h Q :=
  b_Model_hitsAs_0 (d := (d + 128 + 1)) (kt := fun c => (t_Model_hitsAs_10 hr0 (am_ift e c) q)) (kf := fun c => (t_Model_hitsAs_5 hr0 (am_ife e c) q))
theorem s_Model_hitsAs : ∀ (n : Nat) {d D : Nat}, D = d + n + 128 → (∀ {x1 : Int32} {x2 : Int32} {h : am_H} {Q : am_Q} {res : Int32 × am_H}, (g_Model_hitsAs n) h x1 x2 = some res → Q (some (.int res.1)) res.2 → m_Model_hitsAs D [.ref 0, .int x1, .int x2] h Q) := by
  intro n
  induction n with
  | zero =>
    intro d D hD
    skip
    · intro x1 x2 h Q res  e q; exact am_nn e
  | succ n ih =>
    intro d D hD
    obtain rfl : D = d + n + 128 + 1 := by omega
    have i0 := @ih d _ rfl
    skip
    · intro x1 x2 h Q res  e q; exact e_Model_hitsAs (t_Model_hitsAs_0 (d := d + n) @i0 e q)

theorem c_Model_hitsAs {d : Nat} {x1 : Int32} {x2 : Int32} {h : am_H} {Q : am_Q} {res : Int32 × am_H} (e : f_Model_hitsAs h x1 x2 = some res) (q : Q (some (.int res.1)) res.2) : m_Model_hitsAs (d + 192) [.ref 0, .int x1, .int x2] h Q :=
  (s_Model_hitsAs 64 (d := d) (D := d + 192) rfl) e q
theorem d_Model_tellsAs_0 : decode prog_12_method_84_code 0 = .ok (.iload_n 1, 1) := by decide +kernel
theorem d_Model_tellsAs_1 : decode prog_12_method_84_code 1 = .ok (.iconst 5, 1) := by decide +kernel
theorem d_Model_tellsAs_2 : decode prog_12_method_84_code 2 = .ok (.if_icmp .ne 18, 3) := by decide +kernel
theorem d_Model_tellsAs_5 : decode prog_12_method_84_code 5 = .ok (.aload_n 0, 1) := by decide +kernel
theorem d_Model_tellsAs_6 : decode prog_12_method_84_code 6 = .ok (.bipush 60, 2) := by decide +kernel
theorem d_Model_tellsAs_8 : decode prog_12_method_84_code 8 = .ok (.invokevirtual 309, 3) := by decide +kernel
theorem d_Model_tellsAs_11 : decode prog_12_method_84_code 11 = .ok (.aload_n 0, 1) := by decide +kernel
theorem d_Model_tellsAs_12 : decode prog_12_method_84_code 12 = .ok (.iconst 3, 1) := by decide +kernel
theorem d_Model_tellsAs_13 : decode prog_12_method_84_code 13 = .ok (.iload_n 2, 1) := by decide +kernel
theorem d_Model_tellsAs_14 : decode prog_12_method_84_code 14 = .ok (.invokevirtual 327, 3) := by decide +kernel
theorem d_Model_tellsAs_17 : decode prog_12_method_84_code 17 = .ok (.iconst 5, 1) := by decide +kernel
theorem d_Model_tellsAs_18 : decode prog_12_method_84_code 18 = .ok (.ixor, 1) := by decide +kernel
theorem d_Model_tellsAs_19 : decode prog_12_method_84_code 19 = .ok (.ireturn, 1) := by decide +kernel
theorem d_Model_tellsAs_20 : decode prog_12_method_84_code 20 = .ok (.iload_n 1, 1) := by decide +kernel
theorem d_Model_tellsAs_21 : decode prog_12_method_84_code 21 = .ok (.bipush 7, 2) := by decide +kernel
theorem d_Model_tellsAs_23 : decode prog_12_method_84_code 23 = .ok (.if_icmp .ne 18, 3) := by decide +kernel
theorem d_Model_tellsAs_26 : decode prog_12_method_84_code 26 = .ok (.aload_n 0, 1) := by decide +kernel
theorem d_Model_tellsAs_27 : decode prog_12_method_84_code 27 = .ok (.bipush 81, 2) := by decide +kernel
theorem d_Model_tellsAs_29 : decode prog_12_method_84_code 29 = .ok (.invokevirtual 309, 3) := by decide +kernel
theorem d_Model_tellsAs_32 : decode prog_12_method_84_code 32 = .ok (.aload_n 0, 1) := by decide +kernel
theorem d_Model_tellsAs_33 : decode prog_12_method_84_code 33 = .ok (.iconst 4, 1) := by decide +kernel
theorem d_Model_tellsAs_34 : decode prog_12_method_84_code 34 = .ok (.iload_n 2, 1) := by decide +kernel
theorem d_Model_tellsAs_35 : decode prog_12_method_84_code 35 = .ok (.invokevirtual 327, 3) := by decide +kernel
theorem d_Model_tellsAs_38 : decode prog_12_method_84_code 38 = .ok (.iconst 1, 1) := by decide +kernel
theorem d_Model_tellsAs_39 : decode prog_12_method_84_code 39 = .ok (.isub, 1) := by decide +kernel
theorem d_Model_tellsAs_40 : decode prog_12_method_84_code 40 = .ok (.ireturn, 1) := by decide +kernel
theorem d_Model_tellsAs_41 : decode prog_12_method_84_code 41 = .ok (.aload_n 0, 1) := by decide +kernel
theorem d_Model_tellsAs_42 : decode prog_12_method_84_code 42 = .ok (.iconst 2, 1) := by decide +kernel
theorem d_Model_tellsAs_43 : decode prog_12_method_84_code 43 = .ok (.invokevirtual 309, 3) := by decide +kernel
theorem d_Model_tellsAs_46 : decode prog_12_method_84_code 46 = .ok (.aload_n 0, 1) := by decide +kernel
theorem d_Model_tellsAs_47 : decode prog_12_method_84_code 47 = .ok (.aload_n 0, 1) := by decide +kernel
theorem d_Model_tellsAs_48 : decode prog_12_method_84_code 48 = .ok (.getfield 321, 3) := by decide +kernel
theorem d_Model_tellsAs_51 : decode prog_12_method_84_code 51 = .ok (.iload_n 2, 1) := by decide +kernel
theorem d_Model_tellsAs_52 : decode prog_12_method_84_code 52 = .ok (.invokevirtual 318, 3) := by decide +kernel
theorem d_Model_tellsAs_55 : decode prog_12_method_84_code 55 = .ok (.istore_n 3, 1) := by decide +kernel
theorem d_Model_tellsAs_56 : decode prog_12_method_84_code 56 = .ok (.iload_n 3, 1) := by decide +kernel
theorem d_Model_tellsAs_57 : decode prog_12_method_84_code 57 = .ok (.aload_n 0, 1) := by decide +kernel
theorem d_Model_tellsAs_58 : decode prog_12_method_84_code 58 = .ok (.aload_n 0, 1) := by decide +kernel
theorem d_Model_tellsAs_59 : decode prog_12_method_84_code 59 = .ok (.getfield 321, 3) := by decide +kernel
theorem d_Model_tellsAs_62 : decode prog_12_method_84_code 62 = .ok (.iconst 1, 1) := by decide +kernel
theorem d_Model_tellsAs_63 : decode prog_12_method_84_code 63 = .ok (.invokevirtual 324, 3) := by decide +kernel
theorem d_Model_tellsAs_66 : decode prog_12_method_84_code 66 = .ok (.isub, 1) := by decide +kernel
theorem d_Model_tellsAs_67 : decode prog_12_method_84_code 67 = .ok (.ireturn, 1) := by decide +kernel
theorem b_Model_tellsAs_0 {d : Nat} {x1 : Int32} {x2 : Int32} {h : am_H} {Q : am_Q} (kt : ¬ x1 = 5 → am_W (X_Model_tellsAs d) 20 [some (.ref 0), some (.int x1), some (.int x2), none] [] h Q) (kf : x1 = 5 → am_W (X_Model_tellsAs d) 5 [some (.ref 0), some (.int x1), some (.int x2), none] [] h Q) : am_W (X_Model_tellsAs d) 0 [some (.ref 0), some (.int x1), some (.int x2), none] [] h Q :=
  am_iload_n d_Model_tellsAs_0 rfl (i := 1) rfl <|
    am_iconst (v := 5) d_Model_tellsAs_1 (by decide) <|
    am_icmp_ne (tgt := 20) d_Model_tellsAs_2 (by decide) kt kf
theorem b_Model_tellsAs_5 {d : Nat} {x1 : Int32} {x2 : Int32} {h : am_H} {Q : am_Q} (k : m_Model_begins d [.ref 0, .int 60] h (fun r hh => am_W (X_Model_tellsAs (d + 1)) 11 [some (.ref 0), some (.int x1), some (.int x2), none] (r.toList ++ []) hh Q)) : am_W (X_Model_tellsAs (d + 1)) 5 [some (.ref 0), some (.int x1), some (.int x2), none] [] h Q :=
  am_aload_n d_Model_tellsAs_5 rfl (i := 0) rfl <|
    am_bipush (v := 60) d_Model_tellsAs_6 (by decide) <|
    am_callV (vs := [.int 60]) (st := []) (k := 0) (ci := 10) rfl d_Model_tellsAs_8 rfl rfl w_1750 w_1752 w_75 w_94 w_1753 p_Model_begins (Nat.le_of_ble_eq_true rfl) (Nat.le_of_ble_eq_true rfl) rfl k
theorem b_Model_tellsAs_11 {d : Nat} {x1 : Int32} {x2 : Int32} {h : am_H} {Q : am_Q} (k : m_Model_tellsAs d [.ref 0, .int 3, .int x2] h (fun r hh => am_W (X_Model_tellsAs (d + 1)) 17 [some (.ref 0), some (.int x1), some (.int x2), none] (r.toList ++ []) hh Q)) : am_W (X_Model_tellsAs (d + 1)) 11 [some (.ref 0), some (.int x1), some (.int x2), none] [] h Q :=
  am_aload_n d_Model_tellsAs_11 rfl (i := 0) rfl <|
    am_iconst (v := 3) d_Model_tellsAs_12 (by decide) <|
    am_iload_n d_Model_tellsAs_13 rfl (i := 2) rfl <|
    am_callV (vs := [.int 3, .int x2]) (st := []) (k := 0) (ci := 10) rfl d_Model_tellsAs_14 rfl rfl w_1762 w_1764 w_78 w_94 w_1765 p_Model_tellsAs (Nat.le_of_ble_eq_true rfl) (Nat.le_of_ble_eq_true rfl) rfl k
theorem b_Model_tellsAs_17 {d : Nat} {x1 : Int32} {x2 : Int32} {y0 : Int32} {h : am_H} {Q : am_Q} (q : Q (some (.int (y0 ^^^ 5))) h) : am_W (X_Model_tellsAs d) 17 [some (.ref 0), some (.int x1), some (.int x2), none] [.int y0] h Q :=
  am_iconst (v := 5) d_Model_tellsAs_17 (by decide) <|
    am_ixor d_Model_tellsAs_18 <|
    am_iret rfl d_Model_tellsAs_19 q
theorem b_Model_tellsAs_20 {d : Nat} {x1 : Int32} {x2 : Int32} {h : am_H} {Q : am_Q} (kt : ¬ x1 = 7 → am_W (X_Model_tellsAs d) 41 [some (.ref 0), some (.int x1), some (.int x2), none] [] h Q) (kf : x1 = 7 → am_W (X_Model_tellsAs d) 26 [some (.ref 0), some (.int x1), some (.int x2), none] [] h Q) : am_W (X_Model_tellsAs d) 20 [some (.ref 0), some (.int x1), some (.int x2), none] [] h Q :=
  am_iload_n d_Model_tellsAs_20 rfl (i := 1) rfl <|
    am_bipush (v := 7) d_Model_tellsAs_21 (by decide) <|
    am_icmp_ne (tgt := 41) d_Model_tellsAs_23 (by decide) kt kf
theorem b_Model_tellsAs_26 {d : Nat} {x1 : Int32} {x2 : Int32} {h : am_H} {Q : am_Q} (k : m_Model_begins d [.ref 0, .int 81] h (fun r hh => am_W (X_Model_tellsAs (d + 1)) 32 [some (.ref 0), some (.int x1), some (.int x2), none] (r.toList ++ []) hh Q)) : am_W (X_Model_tellsAs (d + 1)) 26 [some (.ref 0), some (.int x1), some (.int x2), none] [] h Q :=
  am_aload_n d_Model_tellsAs_26 rfl (i := 0) rfl <|
    am_bipush (v := 81) d_Model_tellsAs_27 (by decide) <|
    am_callV (vs := [.int 81]) (st := []) (k := 0) (ci := 10) rfl d_Model_tellsAs_29 rfl rfl w_1750 w_1752 w_75 w_94 w_1753 p_Model_begins (Nat.le_of_ble_eq_true rfl) (Nat.le_of_ble_eq_true rfl) rfl k
theorem b_Model_tellsAs_32 {d : Nat} {x1 : Int32} {x2 : Int32} {h : am_H} {Q : am_Q} (k : m_Model_tellsAs d [.ref 0, .int 4, .int x2] h (fun r hh => am_W (X_Model_tellsAs (d + 1)) 38 [some (.ref 0), some (.int x1), some (.int x2), none] (r.toList ++ []) hh Q)) : am_W (X_Model_tellsAs (d + 1)) 32 [some (.ref 0), some (.int x1), some (.int x2), none] [] h Q :=
  am_aload_n d_Model_tellsAs_32 rfl (i := 0) rfl <|
    am_iconst (v := 4) d_Model_tellsAs_33 (by decide) <|
    am_iload_n d_Model_tellsAs_34 rfl (i := 2) rfl <|
    am_callV (vs := [.int 4, .int x2]) (st := []) (k := 0) (ci := 10) rfl d_Model_tellsAs_35 rfl rfl w_1762 w_1764 w_78 w_94 w_1765 p_Model_tellsAs (Nat.le_of_ble_eq_true rfl) (Nat.le_of_ble_eq_true rfl) rfl k
theorem b_Model_tellsAs_38 {d : Nat} {x1 : Int32} {x2 : Int32} {y0 : Int32} {h : am_H} {Q : am_Q} (q : Q (some (.int (y0 - 1))) h) : am_W (X_Model_tellsAs d) 38 [some (.ref 0), some (.int x1), some (.int x2), none] [.int y0] h Q :=
  am_iconst (v := 1) d_Model_tellsAs_38 (by decide) <|
    am_isub d_Model_tellsAs_39 <|
    am_iret rfl d_Model_tellsAs_40 q
theorem b_Model_tellsAs_41 {d : Nat} {x1 : Int32} {x2 : Int32} {h : am_H} {Q : am_Q} (k : m_Model_begins d [.ref 0, .int 2] h (fun r hh => am_W (X_Model_tellsAs (d + 1)) 46 [some (.ref 0), some (.int x1), some (.int x2), none] (r.toList ++ []) hh Q)) : am_W (X_Model_tellsAs (d + 1)) 41 [some (.ref 0), some (.int x1), some (.int x2), none] [] h Q :=
  am_aload_n d_Model_tellsAs_41 rfl (i := 0) rfl <|
    am_iconst (v := 2) d_Model_tellsAs_42 (by decide) <|
    am_callV (vs := [.int 2]) (st := []) (k := 0) (ci := 10) rfl d_Model_tellsAs_43 rfl rfl w_1750 w_1752 w_75 w_94 w_1753 p_Model_begins (Nat.le_of_ble_eq_true rfl) (Nat.le_of_ble_eq_true rfl) rfl k
theorem b_Model_tellsAs_46 {d : Nat} {x1 : Int32} {x2 : Int32} {h : am_H} {Q : am_Q} (k : m_Model_hitsAs d [.ref 0, .int (h.1 0 30), .int x2] h (fun r hh => am_W (X_Model_tellsAs (d + 1)) 55 [some (.ref 0), some (.int x1), some (.int x2), none] (r.toList ++ []) hh Q)) : am_W (X_Model_tellsAs (d + 1)) 46 [some (.ref 0), some (.int x1), some (.int x2), none] [] h Q :=
  am_aload_n d_Model_tellsAs_46 rfl (i := 0) rfl <|
    am_aload_n d_Model_tellsAs_47 rfl (i := 0) rfl <|
    am_getI (ci := 10) (i := 30) rfl rfl rfl (Nat.le_of_ble_eq_true rfl) w_1348 d_Model_tellsAs_48 <|
    am_iload_n d_Model_tellsAs_51 rfl (i := 2) rfl <|
    am_callV (vs := [.int (h.1 0 30), .int x2]) (st := []) (k := 0) (ci := 10) rfl d_Model_tellsAs_52 rfl rfl w_1754 w_1756 w_76 w_94 w_1757 p_Model_hitsAs (Nat.le_of_ble_eq_true rfl) (Nat.le_of_ble_eq_true rfl) rfl k
theorem b_Model_tellsAs_55 {d : Nat} {x1 : Int32} {x2 : Int32} {y0 : Int32} {h : am_H} {Q : am_Q} (k : m_Model_liesAs d [.ref 0, .int (h.1 0 30), .int 1] h (fun r hh => am_W (X_Model_tellsAs (d + 1)) 66 [some (.ref 0), some (.int x1), some (.int x2), some (.int y0)] (r.toList ++ [.int y0]) hh Q)) : am_W (X_Model_tellsAs (d + 1)) 55 [some (.ref 0), some (.int x1), some (.int x2), none] [.int y0] h Q :=
  am_istore_n (ls' := [some (.ref 0), some (.int x1), some (.int x2), some (.int y0)]) d_Model_tellsAs_55 rfl (Nat.le_of_ble_eq_true rfl) rfl <|
    am_iload_n d_Model_tellsAs_56 rfl (i := 3) rfl <|
    am_aload_n d_Model_tellsAs_57 rfl (i := 0) rfl <|
    am_aload_n d_Model_tellsAs_58 rfl (i := 0) rfl <|
    am_getI (ci := 10) (i := 30) rfl rfl rfl (Nat.le_of_ble_eq_true rfl) w_1348 d_Model_tellsAs_59 <|
    am_iconst (v := 1) d_Model_tellsAs_62 (by decide) <|
    am_callV (vs := [.int (h.1 0 30), .int 1]) (st := [.int y0]) (k := 0) (ci := 10) rfl d_Model_tellsAs_63 rfl rfl w_1758 w_1760 w_77 w_94 w_1761 p_Model_liesAs (Nat.le_of_ble_eq_true rfl) (Nat.le_of_ble_eq_true rfl) rfl k
theorem b_Model_tellsAs_66 {d : Nat} {x1 : Int32} {x2 : Int32} {x3 : Int32} {y1 : Int32} {y0 : Int32} {h : am_H} {Q : am_Q} (q : Q (some (.int (y0 - y1))) h) : am_W (X_Model_tellsAs d) 66 [some (.ref 0), some (.int x1), some (.int x2), some (.int x3)] [.int y1, .int y0] h Q :=
  am_isub d_Model_tellsAs_66 <|
    am_iret rfl d_Model_tellsAs_67 q
theorem t_Model_tellsAs_66 {d : Nat} {rc : rc_Model_tellsAs} {x1 : Int32} {x2 : Int32} {x3 : Int32} {y1 : Int32} {y0 : Int32} {h : am_H} {Q : am_Q} {res : Int32 × am_H} (hr0 : ∀ {x1 : Int32} {x2 : Int32} {h : am_H} {Q : am_Q} {res : Int32 × am_H}, rc h x1 x2 = some res → Q (some (.int res.1)) res.2 → m_Model_tellsAs (d + 192) [.ref 0, .int x1, .int x2] h Q) (e : f_Model_tellsAs_66 rc h y1 y0 = some res) (q : Q (some (.int res.1)) res.2) : am_W (X_Model_tellsAs (d + 192 + 1)) 66 [some (.ref 0), some (.int x1), some (.int x2), some (.int x3)] [.int y1, .int y0] h Q :=
  b_Model_tellsAs_66 (d := (d + 192 + 1)) (q := (am_rIpi (v := (y0 - y1)) e q))
theorem t_Model_tellsAs_55 {d : Nat} {rc : rc_Model_tellsAs} {x1 : Int32} {x2 : Int32} {y0 : Int32} {h : am_H} {Q : am_Q} {res : Int32 × am_H} (hr0 : ∀ {x1 : Int32} {x2 : Int32} {h : am_H} {Q : am_Q} {res : Int32 × am_H}, rc h x1 x2 = some res → Q (some (.int res.1)) res.2 → m_Model_tellsAs (d + 192) [.ref 0, .int x1, .int x2] h Q) (e : f_Model_tellsAs_55 rc h y0 = some res) (q : Q (some (.int res.1)) res.2) : am_W (X_Model_tellsAs (d + 192 + 1)) 55 [some (.ref 0), some (.int x1), some (.int x2), none] [.int y0] h Q :=
  (am_bd e).elim fun p hp => b_Model_tellsAs_55 (d := (d + 192)) (k := c_Model_liesAs (d := d + 64) hp.1 (t_Model_tellsAs_66 hr0 hp.2 q))
theorem t_Model_tellsAs_46 {d : Nat} {rc : rc_Model_tellsAs} {x1 : Int32} {x2 : Int32} {h : am_H} {Q : am_Q} {res : Int32 × am_H} (hr0 : ∀ {x1 : Int32} {x2 : Int32} {h : am_H} {Q : am_Q} {res : Int32 × am_H}, rc h x1 x2 = some res → Q (some (.int res.1)) res.2 → m_Model_tellsAs (d + 192) [.ref 0, .int x1, .int x2] h Q) (e : f_Model_tellsAs_46 rc h x2 = some res) (q : Q (some (.int res.1)) res.2) : am_W (X_Model_tellsAs (d + 192 + 1)) 46 [some (.ref 0), some (.int x1), some (.int x2), none] [] h Q :=
  (am_bd e).elim fun p hp => b_Model_tellsAs_46 (d := (d + 192)) (k := c_Model_hitsAs (d := d) hp.1 (t_Model_tellsAs_55 hr0 hp.2 q))
theorem t_Model_tellsAs_41 {d : Nat} {rc : rc_Model_tellsAs} {x1 : Int32} {x2 : Int32} {h : am_H} {Q : am_Q} {res : Int32 × am_H} (hr0 : ∀ {x1 : Int32} {x2 : Int32} {h : am_H} {Q : am_Q} {res : Int32 × am_H}, rc h x1 x2 = some res → Q (some (.int res.1)) res.2 → m_Model_tellsAs (d + 192) [.ref 0, .int x1, .int x2] h Q) (e : f_Model_tellsAs_41 rc h x2 = some res) (q : Q (some (.int res.1)) res.2) : am_W (X_Model_tellsAs (d + 192 + 1)) 41 [some (.ref 0), some (.int x1), some (.int x2), none] [] h Q :=
  (am_bd e).elim fun p hp => b_Model_tellsAs_41 (d := (d + 192)) (k := c_Model_begins (d := d + 192) hp.1 (t_Model_tellsAs_46 hr0 hp.2 q))
theorem t_Model_tellsAs_38 {d : Nat} {rc : rc_Model_tellsAs} {x1 : Int32} {x2 : Int32} {y0 : Int32} {h : am_H} {Q : am_Q} {res : Int32 × am_H} (hr0 : ∀ {x1 : Int32} {x2 : Int32} {h : am_H} {Q : am_Q} {res : Int32 × am_H}, rc h x1 x2 = some res → Q (some (.int res.1)) res.2 → m_Model_tellsAs (d + 192) [.ref 0, .int x1, .int x2] h Q) (e : f_Model_tellsAs_38 rc h y0 = some res) (q : Q (some (.int res.1)) res.2) : am_W (X_Model_tellsAs (d + 192 + 1)) 38 [some (.ref 0), some (.int x1), some (.int x2), none] [.int y0] h Q :=
  b_Model_tellsAs_38 (d := (d + 192 + 1)) (q := (am_rIpi (v := (y0 - 1)) e q))
theorem t_Model_tellsAs_32 {d : Nat} {rc : rc_Model_tellsAs} {x1 : Int32} {x2 : Int32} {h : am_H} {Q : am_Q} {res : Int32 × am_H} (hr0 : ∀ {x1 : Int32} {x2 : Int32} {h : am_H} {Q : am_Q} {res : Int32 × am_H}, rc h x1 x2 = some res → Q (some (.int res.1)) res.2 → m_Model_tellsAs (d + 192) [.ref 0, .int x1, .int x2] h Q) (e : f_Model_tellsAs_32 rc h x2 = some res) (q : Q (some (.int res.1)) res.2) : am_W (X_Model_tellsAs (d + 192 + 1)) 32 [some (.ref 0), some (.int x1), some (.int x2), none] [] h Q :=
  (am_bd e).elim fun p hp => b_Model_tellsAs_32 (d := (d + 192)) (k := hr0 hp.1 (t_Model_tellsAs_38 hr0 hp.2 q))
theorem t_Model_tellsAs_26 {d : Nat} {rc : rc_Model_tellsAs} {x1 : Int32} {x2 : Int32} {h : am_H} {Q : am_Q} {res : Int32 × am_H} (hr0 : ∀ {x1 : Int32} {x2 : Int32} {h : am_H} {Q : am_Q} {res : Int32 × am_H}, rc h x1 x2 = some res → Q (some (.int res.1)) res.2 → m_Model_tellsAs (d + 192) [.ref 0, .int x1, .int x2] h Q) (e : f_Model_tellsAs_26 rc h x2 = some res) (q : Q (some (.int res.1)) res.2) : am_W (X_Model_tellsAs (d + 192 + 1)) 26 [some (.ref 0), some (.int x1), some (.int x2), none] [] h Q :=
  (am_bd e).elim fun p hp => b_Model_tellsAs_26 (d := (d + 192)) (k := c_Model_begins (d := d + 192) hp.1 (t_Model_tellsAs_32 hr0 hp.2 q))
theorem t_Model_tellsAs_20 {d : Nat} {rc : rc_Model_tellsAs} {x1 : Int32} {x2 : Int32} {h : am_H} {Q : am_Q} {res : Int32 × am_H} (hr0 : ∀ {x1 : Int32} {x2 : Int32} {h : am_H} {Q : am_Q} {res : Int32 × am_H}, rc h x1 x2 = some res → Q (some (.int res.1)) res.2 → m_Model_tellsAs (d + 192) [.ref 0, .int x1, .int x2] h Q) (e : f_Model_tellsAs_20 rc h x1 x2 = some res) (q : Q (some (.int res.1)) res.2) : am_W (X_Model_tellsAs (d + 192 + 1)) 20 [some (.ref 0), some (.int x1), some (.int x2), none] [] h Q :=
  b_Model_tellsAs_20 (d := (d + 192 + 1)) (kt := fun c => (t_Model_tellsAs_41 hr0 (am_ife e c) q)) (kf := fun c => (t_Model_tellsAs_26 hr0 (am_ift e c) q))
theorem t_Model_tellsAs_17 {d : Nat} {rc : rc_Model_tellsAs} {x1 : Int32} {x2 : Int32} {y0 : Int32} {h : am_H} {Q : am_Q} {res : Int32 × am_H} (hr0 : ∀ {x1 : Int32} {x2 : Int32} {h : am_H} {Q : am_Q} {res : Int32 × am_H}, rc h x1 x2 = some res → Q (some (.int res.1)) res.2 → m_Model_tellsAs (d + 192) [.ref 0, .int x1, .int x2] h Q) (e : f_Model_tellsAs_17 rc h y0 = some res) (q : Q (some (.int res.1)) res.2) : am_W (X_Model_tellsAs (d + 192 + 1)) 17 [some (.ref 0), some (.int x1), some (.int x2), none] [.int y0] h Q :=
  b_Model_tellsAs_17 (d := (d + 192 + 1)) (q := (am_rIpi (v := (y0 ^^^ 5)) e q))
theorem t_Model_tellsAs_11 {d : Nat} {rc : rc_Model_tellsAs} {x1 : Int32} {x2 : Int32} {h : am_H} {Q : am_Q} {res : Int32 × am_H} (hr0 : ∀ {x1 : Int32} {x2 : Int32} {h : am_H} {Q : am_Q} {res : Int32 × am_H}, rc h x1 x2 = some res → Q (some (.int res.1)) res.2 → m_Model_tellsAs (d + 192) [.ref 0, .int x1, .int x2] h Q) (e : f_Model_tellsAs_11 rc h x2 = some res) (q : Q (some (.int res.1)) res.2) : am_W (X_Model_tellsAs (d + 192 + 1)) 11 [some (.ref 0), some (.int x1), some (.int x2), none] [] h Q :=
  (am_bd e).elim fun p hp => b_Model_tellsAs_11 (d := (d + 192)) (k := hr0 hp.1 (t_Model_tellsAs_17 hr0 hp.2 q))
theorem t_Model_tellsAs_5 {d : Nat} {rc : rc_Model_tellsAs} {x1 : Int32} {x2 : Int32} {h : am_H} {Q : am_Q} {res : Int32 × am_H} (hr0 : ∀ {x1 : Int32} {x2 : Int32} {h : am_H} {Q : am_Q} {res : Int32 × am_H}, rc h x1 x2 = some res → Q (some (.int res.1)) res.2 → m_Model_tellsAs (d + 192) [.ref 0, .int x1, .int x2] h Q) (e : f_Model_tellsAs_5 rc h x2 = some res) (q : Q (some (.int res.1)) res.2) : am_W (X_Model_tellsAs (d + 192 + 1)) 5 [some (.ref 0), some (.int x1), some (.int x2), none] [] h Q :=
  (am_bd e).elim fun p hp => b_Model_tellsAs_5 (d := (d + 192)) (k := c_Model_begins (d := d + 192) hp.1 (t_Model_tellsAs_11 hr0 hp.2 q))
theorem t_Model_tellsAs_0 {d : Nat} {rc : rc_Model_tellsAs} {x1 : Int32} {x2 : Int32} {h : am_H} {Q : am_Q} {res : Int32 × am_H} (hr0 : ∀ {x1 : Int32} {x2 : Int32} {h : am_H} {Q : am_Q} {res : Int32 × am_H}, rc h x1 x2 = some res → Q (some (.int res.1)) res.2 → m_Model_tellsAs (d + 192) [.ref 0, .int x1, .int x2] h Q) (e : f_Model_tellsAs_0 rc h x1 x2 = some res) (q : Q (some (.int res.1)) res.2) : am_W (X_Model_tellsAs (d + 192 + 1)) 0 [some (.ref 0), some (.int x1), some (.int x2), none] [] h Q :=
  b_Model_tellsAs_0 (d := (d + 192 + 1)) (kt := fun c => (t_Model_tellsAs_20 hr0 (am_ife e c) q)) (kf := fun c => (t_Model_tellsAs_5 hr0 (am_ift e c) q))
theorem s_Model_tellsAs : ∀ (n : Nat) {d D : Nat}, D = d + n + 192 → (∀ {x1 : Int32} {x2 : Int32} {h : am_H} {Q : am_Q} {res : Int32 × am_H}, (g_Model_tellsAs n) h x1 x2 = some res → Q (some (.int res.1)) res.2 → m_Model_tellsAs D [.ref 0, .int x1, .int x2] h Q) := by
  intro n
  induction n with
  | zero =>
    intro d D hD
    skip
    · intro x1 x2 h Q res  e q; exact am_nn e
  | succ n ih =>
    intro d D hD
    obtain rfl : D = d + n + 192 + 1 := by omega
    have i0 := @ih d _ rfl
    skip
    · intro x1 x2 h Q res  e q; exact e_Model_tellsAs (t_Model_tellsAs_0 (d := d + n) @i0 e q)

theorem c_Model_tellsAs {d : Nat} {x1 : Int32} {x2 : Int32} {h : am_H} {Q : am_Q} {res : Int32 × am_H} (e : f_Model_tellsAs h x1 x2 = some res) (q : Q (some (.int res.1)) res.2) : m_Model_tellsAs (d + 256) [.ref 0, .int x1, .int x2] h Q :=
  (s_Model_tellsAs 64 (d := d) (D := d + 256) rfl) e q
theorem d_Model_act_0 : decode prog_12_method_85_code 0 = .ok (.aload_n 0, 1) := by decide +kernel
theorem d_Model_act_1 : decode prog_12_method_85_code 1 = .ok (.iconst 0, 1) := by decide +kernel
theorem d_Model_act_2 : decode prog_12_method_85_code 2 = .ok (.putfield 306, 3) := by decide +kernel
theorem d_Model_act_5 : decode prog_12_method_85_code 5 = .ok (.aload_n 0, 1) := by decide +kernel
theorem d_Model_act_6 : decode prog_12_method_85_code 6 = .ok (.iload_n 1, 1) := by decide +kernel
theorem d_Model_act_7 : decode prog_12_method_85_code 7 = .ok (.invokevirtual 330, 3) := by decide +kernel
theorem d_Model_act_10 : decode prog_12_method_85_code 10 = .ok (.ifCond .ne 5, 3) := by decide +kernel
theorem d_Model_act_13 : decode prog_12_method_85_code 13 = .ok (.iconst 0, 1) := by decide +kernel
theorem d_Model_act_14 : decode prog_12_method_85_code 14 = .ok (.ireturn, 1) := by decide +kernel
theorem d_Model_act_15 : decode prog_12_method_85_code 15 = .ok (.aload_n 0, 1) := by decide +kernel
theorem d_Model_act_16 : decode prog_12_method_85_code 16 = .ok (.aload_n 0, 1) := by decide +kernel
theorem d_Model_act_17 : decode prog_12_method_85_code 17 = .ok (.getfield 52, 3) := by decide +kernel
theorem d_Model_act_20 : decode prog_12_method_85_code 20 = .ok (.iload_n 1, 1) := by decide +kernel
theorem d_Model_act_21 : decode prog_12_method_85_code 21 = .ok (.iaload, 1) := by decide +kernel
theorem d_Model_act_22 : decode prog_12_method_85_code 22 = .ok (.putfield 321, 3) := by decide +kernel
theorem d_Model_act_25 : decode prog_12_method_85_code 25 = .ok (.aload_n 0, 1) := by decide +kernel
theorem d_Model_act_26 : decode prog_12_method_85_code 26 = .ok (.iload_n 1, 1) := by decide +kernel
theorem d_Model_act_27 : decode prog_12_method_85_code 27 = .ok (.putfield 315, 3) := by decide +kernel
theorem d_Model_act_30 : decode prog_12_method_85_code 30 = .ok (.iload_n 2, 1) := by decide +kernel
theorem d_Model_act_31 : decode prog_12_method_85_code 31 = .ok (.tableswitch 69 0 3 #[29, 39, 49, 59], 29) := by decide +kernel
theorem d_Model_act_60 : decode prog_12_method_85_code 60 = .ok (.aload_n 0, 1) := by decide +kernel
theorem d_Model_act_61 : decode prog_12_method_85_code 61 = .ok (.aload_n 0, 1) := by decide +kernel
theorem d_Model_act_62 : decode prog_12_method_85_code 62 = .ok (.getfield 321, 3) := by decide +kernel
theorem d_Model_act_65 : decode prog_12_method_85_code 65 = .ok (.iload_n 3, 1) := by decide +kernel
theorem d_Model_act_66 : decode prog_12_method_85_code 66 = .ok (.invokevirtual 312, 3) := by decide +kernel
theorem d_Model_act_69 : decode prog_12_method_85_code 69 = .ok (.ireturn, 1) := by decide +kernel
theorem d_Model_act_70 : decode prog_12_method_85_code 70 = .ok (.aload_n 0, 1) := by decide +kernel
theorem d_Model_act_71 : decode prog_12_method_85_code 71 = .ok (.aload_n 0, 1) := by decide +kernel
theorem d_Model_act_72 : decode prog_12_method_85_code 72 = .ok (.getfield 321, 3) := by decide +kernel
theorem d_Model_act_75 : decode prog_12_method_85_code 75 = .ok (.iload_n 3, 1) := by decide +kernel
theorem d_Model_act_76 : decode prog_12_method_85_code 76 = .ok (.invokevirtual 318, 3) := by decide +kernel
theorem d_Model_act_79 : decode prog_12_method_85_code 79 = .ok (.ireturn, 1) := by decide +kernel
theorem d_Model_act_80 : decode prog_12_method_85_code 80 = .ok (.aload_n 0, 1) := by decide +kernel
theorem d_Model_act_81 : decode prog_12_method_85_code 81 = .ok (.aload_n 0, 1) := by decide +kernel
theorem d_Model_act_82 : decode prog_12_method_85_code 82 = .ok (.getfield 321, 3) := by decide +kernel
theorem d_Model_act_85 : decode prog_12_method_85_code 85 = .ok (.iload_n 3, 1) := by decide +kernel
theorem d_Model_act_86 : decode prog_12_method_85_code 86 = .ok (.invokevirtual 324, 3) := by decide +kernel
theorem d_Model_act_89 : decode prog_12_method_85_code 89 = .ok (.ireturn, 1) := by decide +kernel
theorem d_Model_act_90 : decode prog_12_method_85_code 90 = .ok (.aload_n 0, 1) := by decide +kernel
theorem d_Model_act_91 : decode prog_12_method_85_code 91 = .ok (.aload_n 0, 1) := by decide +kernel
theorem d_Model_act_92 : decode prog_12_method_85_code 92 = .ok (.getfield 321, 3) := by decide +kernel
theorem d_Model_act_95 : decode prog_12_method_85_code 95 = .ok (.iload_n 3, 1) := by decide +kernel
theorem d_Model_act_96 : decode prog_12_method_85_code 96 = .ok (.invokevirtual 327, 3) := by decide +kernel
theorem d_Model_act_99 : decode prog_12_method_85_code 99 = .ok (.ireturn, 1) := by decide +kernel
theorem d_Model_act_100 : decode prog_12_method_85_code 100 = .ok (.iconst 0, 1) := by decide +kernel
theorem d_Model_act_101 : decode prog_12_method_85_code 101 = .ok (.ireturn, 1) := by decide +kernel
theorem b_Model_act_0 {d : Nat} {x1 : Int32} {x2 : Int32} {x3 : Int32} {h : am_H} {Q : am_Q} (k : m_Model_isBody d [.ref 0, .int x1] (am_pI h 0 29 0) (fun r hh => am_W (X_Model_act (d + 1)) 10 [some (.ref 0), some (.int x1), some (.int x2), some (.int x3)] (r.toList ++ []) hh Q)) : am_W (X_Model_act (d + 1)) 0 [some (.ref 0), some (.int x1), some (.int x2), some (.int x3)] [] h Q :=
  am_aload_n d_Model_act_0 rfl (i := 0) rfl <|
    am_iconst (v := 0) d_Model_act_1 (by decide) <|
    am_putI (ci := 10) (i := 29) rfl rfl rfl (Nat.le_of_ble_eq_true rfl) w_1347 rfl rfl rfl d_Model_act_2 <|
    am_aload_n d_Model_act_5 rfl (i := 0) rfl <|
    am_iload_n d_Model_act_6 rfl (i := 1) rfl <|
    am_callV (vs := [.int x1]) (st := []) (k := 0) (ci := 10) rfl d_Model_act_7 rfl rfl w_1742 w_1744 w_73 w_94 w_1745 p_Model_isBody (Nat.le_of_ble_eq_true rfl) (Nat.le_of_ble_eq_true rfl) rfl k
theorem b_Model_act_10 {d : Nat} {x1 : Int32} {x2 : Int32} {x3 : Int32} {y0 : Bool} {h : am_H} {Q : am_Q} (kt : ¬ (am_b y0) = 0 → am_W (X_Model_act d) 15 [some (.ref 0), some (.int x1), some (.int x2), some (.int x3)] [] h Q) (kf : (am_b y0) = 0 → am_W (X_Model_act d) 13 [some (.ref 0), some (.int x1), some (.int x2), some (.int x3)] [] h Q) : am_W (X_Model_act d) 10 [some (.ref 0), some (.int x1), some (.int x2), some (.int x3)] [.int (am_b y0)] h Q :=
  am_if_ne (tgt := 15) d_Model_act_10 (by decide) kt kf
theorem b_Model_act_13 {d : Nat} {x1 : Int32} {x2 : Int32} {x3 : Int32} {h : am_H} {Q : am_Q} (q : Q (some (.int 0)) h) : am_W (X_Model_act d) 13 [some (.ref 0), some (.int x1), some (.int x2), some (.int x3)] [] h Q :=
  am_iconst (v := 0) d_Model_act_13 (by decide) <|
    am_iret rfl d_Model_act_14 q
theorem b_Model_act_15 {d : Nat} {x1 : Int32} {x2 : Int32} {x3 : Int32} {h : am_H} {Q : am_Q} (q0 : vp_in x1 50) (k0 : x2 = 0 → am_W (X_Model_act d) 60 [some (.ref 0), some (.int x1), some (.int x2), some (.int x3)] [] (am_pI (am_pI h 0 30 (h.1 14 x1.toNatClampNeg)) 0 31 x1) Q) (k1 : x2 = 1 → am_W (X_Model_act d) 70 [some (.ref 0), some (.int x1), some (.int x2), some (.int x3)] [] (am_pI (am_pI h 0 30 (h.1 14 x1.toNatClampNeg)) 0 31 x1) Q) (k2 : x2 = 2 → am_W (X_Model_act d) 80 [some (.ref 0), some (.int x1), some (.int x2), some (.int x3)] [] (am_pI (am_pI h 0 30 (h.1 14 x1.toNatClampNeg)) 0 31 x1) Q) (k3 : x2 = 3 → am_W (X_Model_act d) 90 [some (.ref 0), some (.int x1), some (.int x2), some (.int x3)] [] (am_pI (am_pI h 0 30 (h.1 14 x1.toNatClampNeg)) 0 31 x1) Q) (kd : ¬ x2 = 0 → ¬ x2 = 1 → ¬ x2 = 2 → ¬ x2 = 3 → am_W (X_Model_act d) 100 [some (.ref 0), some (.int x1), some (.int x2), some (.int x3)] [] (am_pI (am_pI h 0 30 (h.1 14 x1.toNatClampNeg)) 0 31 x1) Q) : am_W (X_Model_act d) 15 [some (.ref 0), some (.int x1), some (.int x2), some (.int x3)] [] h Q := by
  refine am_aload_n d_Model_act_15 rfl (i := 0) rfl ?_
  refine am_aload_n d_Model_act_16 rfl (i := 0) rfl ?_
  refine am_getR (ci := 10) (i := 27) rfl rfl rfl (Nat.le_of_ble_eq_true rfl) w_1345 d_Model_act_17 ?_
  refine am_iload_n d_Model_act_20 rfl (i := 1) rfl ?_
  refine am_iald rfl q0 d_Model_act_21 ?_
  refine am_putI (ci := 10) (i := 30) rfl rfl rfl (Nat.le_of_ble_eq_true rfl) w_1348 rfl rfl rfl d_Model_act_22 ?_
  refine am_aload_n d_Model_act_25 rfl (i := 0) rfl ?_
  refine am_iload_n d_Model_act_26 rfl (i := 1) rfl ?_
  refine am_putI (ci := 10) (i := 31) rfl rfl rfl (Nat.le_of_ble_eq_true rfl) w_1349 rfl rfl rfl d_Model_act_27 ?_
  refine am_iload_n d_Model_act_30 rfl (i := 2) rfl ?_
  by_cases e0 : (x2 : Int32).toInt < 0 ∨ 3 < (x2 : Int32).toInt
  · exact am_tableOut (tgt := 100) d_Model_act_31 e0 (by decide) (kd (fun e => by rw [e] at e0; revert e0; decide) (fun e => by rw [e] at e0; revert e0; decide) (fun e => by rw [e] at e0; revert e0; decide) (fun e => by rw [e] at e0; revert e0; decide))
  by_cases e1 : x2 = 0
  · exact am_tableIn (tgt := 60) (off := 29) d_Model_act_31 (fun e => e0 (Or.inl e)) (fun e => e0 (Or.inr e)) (by rw [e1]; decide +kernel) (by decide) (k0 e1)
  by_cases e2 : x2 = 1
  · exact am_tableIn (tgt := 70) (off := 39) d_Model_act_31 (fun e => e0 (Or.inl e)) (fun e => e0 (Or.inr e)) (by rw [e2]; decide +kernel) (by decide) (k1 e2)
  by_cases e3 : x2 = 2
  · exact am_tableIn (tgt := 80) (off := 49) d_Model_act_31 (fun e => e0 (Or.inl e)) (fun e => e0 (Or.inr e)) (by rw [e3]; decide +kernel) (by decide) (k2 e3)
  by_cases e4 : x2 = 3
  · exact am_tableIn (tgt := 90) (off := 59) d_Model_act_31 (fun e => e0 (Or.inl e)) (fun e => e0 (Or.inr e)) (by rw [e4]; decide +kernel) (by decide) (k3 e4)
  exfalso
  simp only [← Int32.toInt_inj] at e1 e2 e3 e4
  simp only [Int32.reduceToInt] at e1 e2 e3 e4
  omega
theorem b_Model_act_60 {d : Nat} {x1 : Int32} {x2 : Int32} {x3 : Int32} {h : am_H} {Q : am_Q} (k : m_Model_saysAs d [.ref 0, .int (h.1 0 30), .int x3] h (fun r hh => am_W (X_Model_act (d + 1)) 69 [some (.ref 0), some (.int x1), some (.int x2), some (.int x3)] (r.toList ++ []) hh Q)) : am_W (X_Model_act (d + 1)) 60 [some (.ref 0), some (.int x1), some (.int x2), some (.int x3)] [] h Q :=
  am_aload_n d_Model_act_60 rfl (i := 0) rfl <|
    am_aload_n d_Model_act_61 rfl (i := 0) rfl <|
    am_getI (ci := 10) (i := 30) rfl rfl rfl (Nat.le_of_ble_eq_true rfl) w_1348 d_Model_act_62 <|
    am_iload_n d_Model_act_65 rfl (i := 3) rfl <|
    am_callV (vs := [.int (h.1 0 30), .int x3]) (st := []) (k := 0) (ci := 10) rfl d_Model_act_66 rfl rfl w_1746 w_1748 w_74 w_94 w_1749 p_Model_saysAs (Nat.le_of_ble_eq_true rfl) (Nat.le_of_ble_eq_true rfl) rfl k
theorem b_Model_act_69 {d : Nat} {x1 : Int32} {x2 : Int32} {x3 : Int32} {y0 : Int32} {h : am_H} {Q : am_Q} (q : Q (some (.int y0)) h) : am_W (X_Model_act d) 69 [some (.ref 0), some (.int x1), some (.int x2), some (.int x3)] [.int y0] h Q :=
  am_iret rfl d_Model_act_69 q
theorem b_Model_act_70 {d : Nat} {x1 : Int32} {x2 : Int32} {x3 : Int32} {h : am_H} {Q : am_Q} (k : m_Model_hitsAs d [.ref 0, .int (h.1 0 30), .int x3] h (fun r hh => am_W (X_Model_act (d + 1)) 79 [some (.ref 0), some (.int x1), some (.int x2), some (.int x3)] (r.toList ++ []) hh Q)) : am_W (X_Model_act (d + 1)) 70 [some (.ref 0), some (.int x1), some (.int x2), some (.int x3)] [] h Q :=
  am_aload_n d_Model_act_70 rfl (i := 0) rfl <|
    am_aload_n d_Model_act_71 rfl (i := 0) rfl <|
    am_getI (ci := 10) (i := 30) rfl rfl rfl (Nat.le_of_ble_eq_true rfl) w_1348 d_Model_act_72 <|
    am_iload_n d_Model_act_75 rfl (i := 3) rfl <|
    am_callV (vs := [.int (h.1 0 30), .int x3]) (st := []) (k := 0) (ci := 10) rfl d_Model_act_76 rfl rfl w_1754 w_1756 w_76 w_94 w_1757 p_Model_hitsAs (Nat.le_of_ble_eq_true rfl) (Nat.le_of_ble_eq_true rfl) rfl k
theorem b_Model_act_79 {d : Nat} {x1 : Int32} {x2 : Int32} {x3 : Int32} {y0 : Int32} {h : am_H} {Q : am_Q} (q : Q (some (.int y0)) h) : am_W (X_Model_act d) 79 [some (.ref 0), some (.int x1), some (.int x2), some (.int x3)] [.int y0] h Q :=
  am_iret rfl d_Model_act_79 q
theorem b_Model_act_80 {d : Nat} {x1 : Int32} {x2 : Int32} {x3 : Int32} {h : am_H} {Q : am_Q} (k : m_Model_liesAs d [.ref 0, .int (h.1 0 30), .int x3] h (fun r hh => am_W (X_Model_act (d + 1)) 89 [some (.ref 0), some (.int x1), some (.int x2), some (.int x3)] (r.toList ++ []) hh Q)) : am_W (X_Model_act (d + 1)) 80 [some (.ref 0), some (.int x1), some (.int x2), some (.int x3)] [] h Q :=
  am_aload_n d_Model_act_80 rfl (i := 0) rfl <|
    am_aload_n d_Model_act_81 rfl (i := 0) rfl <|
    am_getI (ci := 10) (i := 30) rfl rfl rfl (Nat.le_of_ble_eq_true rfl) w_1348 d_Model_act_82 <|
    am_iload_n d_Model_act_85 rfl (i := 3) rfl <|
    am_callV (vs := [.int (h.1 0 30), .int x3]) (st := []) (k := 0) (ci := 10) rfl d_Model_act_86 rfl rfl w_1758 w_1760 w_77 w_94 w_1761 p_Model_liesAs (Nat.le_of_ble_eq_true rfl) (Nat.le_of_ble_eq_true rfl) rfl k
theorem b_Model_act_89 {d : Nat} {x1 : Int32} {x2 : Int32} {x3 : Int32} {y0 : Int32} {h : am_H} {Q : am_Q} (q : Q (some (.int y0)) h) : am_W (X_Model_act d) 89 [some (.ref 0), some (.int x1), some (.int x2), some (.int x3)] [.int y0] h Q :=
  am_iret rfl d_Model_act_89 q
theorem b_Model_act_90 {d : Nat} {x1 : Int32} {x2 : Int32} {x3 : Int32} {h : am_H} {Q : am_Q} (k : m_Model_tellsAs d [.ref 0, .int (h.1 0 30), .int x3] h (fun r hh => am_W (X_Model_act (d + 1)) 99 [some (.ref 0), some (.int x1), some (.int x2), some (.int x3)] (r.toList ++ []) hh Q)) : am_W (X_Model_act (d + 1)) 90 [some (.ref 0), some (.int x1), some (.int x2), some (.int x3)] [] h Q :=
  am_aload_n d_Model_act_90 rfl (i := 0) rfl <|
    am_aload_n d_Model_act_91 rfl (i := 0) rfl <|
    am_getI (ci := 10) (i := 30) rfl rfl rfl (Nat.le_of_ble_eq_true rfl) w_1348 d_Model_act_92 <|
    am_iload_n d_Model_act_95 rfl (i := 3) rfl <|
    am_callV (vs := [.int (h.1 0 30), .int x3]) (st := []) (k := 0) (ci := 10) rfl d_Model_act_96 rfl rfl w_1762 w_1764 w_78 w_94 w_1765 p_Model_tellsAs (Nat.le_of_ble_eq_true rfl) (Nat.le_of_ble_eq_true rfl) rfl k
theorem b_Model_act_99 {d : Nat} {x1 : Int32} {x2 : Int32} {x3 : Int32} {y0 : Int32} {h : am_H} {Q : am_Q} (q : Q (some (.int y0)) h) : am_W (X_Model_act d) 99 [some (.ref 0), some (.int x1), some (.int x2), some (.int x3)] [.int y0] h Q :=
  am_iret rfl d_Model_act_99 q
theorem b_Model_act_100 {d : Nat} {x1 : Int32} {x2 : Int32} {x3 : Int32} {h : am_H} {Q : am_Q} (q : Q (some (.int 0)) h) : am_W (X_Model_act d) 100 [some (.ref 0), some (.int x1), some (.int x2), some (.int x3)] [] h Q :=
  am_iconst (v := 0) d_Model_act_100 (by decide) <|
    am_iret rfl d_Model_act_101 q
theorem t_Model_act_69 {d : Nat} {x1 : Int32} {x2 : Int32} {x3 : Int32} {y0 : Int32} {h : am_H} {Q : am_Q} {res : Int32 × am_H} (e : f_Model_act_69 h y0 = some res) (q : Q (some (.int res.1)) res.2) : am_W (X_Model_act (d + 257)) 69 [some (.ref 0), some (.int x1), some (.int x2), some (.int x3)] [.int y0] h Q :=
  b_Model_act_69 (d := (d + 257)) (q := (am_rIpi (v := y0) e q))
theorem t_Model_act_60 {d : Nat} {x1 : Int32} {x2 : Int32} {x3 : Int32} {h : am_H} {Q : am_Q} {res : Int32 × am_H} (e : f_Model_act_60 h x3 = some res) (q : Q (some (.int res.1)) res.2) : am_W (X_Model_act (d + 257)) 60 [some (.ref 0), some (.int x1), some (.int x2), some (.int x3)] [] h Q :=
  (am_bd e).elim fun p hp => b_Model_act_60 (d := (d + 256)) (k := c_Model_saysAs (d := d + 192) hp.1 (t_Model_act_69 hp.2 q))
theorem t_Model_act_79 {d : Nat} {x1 : Int32} {x2 : Int32} {x3 : Int32} {y0 : Int32} {h : am_H} {Q : am_Q} {res : Int32 × am_H} (e : f_Model_act_79 h y0 = some res) (q : Q (some (.int res.1)) res.2) : am_W (X_Model_act (d + 257)) 79 [some (.ref 0), some (.int x1), some (.int x2), some (.int x3)] [.int y0] h Q :=
  b_Model_act_79 (d := (d + 257)) (q := (am_rIpi (v := y0) e q))
theorem t_Model_act_70 {d : Nat} {x1 : Int32} {x2 : Int32} {x3 : Int32} {h : am_H} {Q : am_Q} {res : Int32 × am_H} (e : f_Model_act_70 h x3 = some res) (q : Q (some (.int res.1)) res.2) : am_W (X_Model_act (d + 257)) 70 [some (.ref 0), some (.int x1), some (.int x2), some (.int x3)] [] h Q :=
  (am_bd e).elim fun p hp => b_Model_act_70 (d := (d + 256)) (k := c_Model_hitsAs (d := d + 64) hp.1 (t_Model_act_79 hp.2 q))
theorem t_Model_act_89 {d : Nat} {x1 : Int32} {x2 : Int32} {x3 : Int32} {y0 : Int32} {h : am_H} {Q : am_Q} {res : Int32 × am_H} (e : f_Model_act_89 h y0 = some res) (q : Q (some (.int res.1)) res.2) : am_W (X_Model_act (d + 257)) 89 [some (.ref 0), some (.int x1), some (.int x2), some (.int x3)] [.int y0] h Q :=
  b_Model_act_89 (d := (d + 257)) (q := (am_rIpi (v := y0) e q))
theorem t_Model_act_80 {d : Nat} {x1 : Int32} {x2 : Int32} {x3 : Int32} {h : am_H} {Q : am_Q} {res : Int32 × am_H} (e : f_Model_act_80 h x3 = some res) (q : Q (some (.int res.1)) res.2) : am_W (X_Model_act (d + 257)) 80 [some (.ref 0), some (.int x1), some (.int x2), some (.int x3)] [] h Q :=
  (am_bd e).elim fun p hp => b_Model_act_80 (d := (d + 256)) (k := c_Model_liesAs (d := d + 128) hp.1 (t_Model_act_89 hp.2 q))
theorem t_Model_act_99 {d : Nat} {x1 : Int32} {x2 : Int32} {x3 : Int32} {y0 : Int32} {h : am_H} {Q : am_Q} {res : Int32 × am_H} (e : f_Model_act_99 h y0 = some res) (q : Q (some (.int res.1)) res.2) : am_W (X_Model_act (d + 257)) 99 [some (.ref 0), some (.int x1), some (.int x2), some (.int x3)] [.int y0] h Q :=
  b_Model_act_99 (d := (d + 257)) (q := (am_rIpi (v := y0) e q))
theorem t_Model_act_90 {d : Nat} {x1 : Int32} {x2 : Int32} {x3 : Int32} {h : am_H} {Q : am_Q} {res : Int32 × am_H} (e : f_Model_act_90 h x3 = some res) (q : Q (some (.int res.1)) res.2) : am_W (X_Model_act (d + 257)) 90 [some (.ref 0), some (.int x1), some (.int x2), some (.int x3)] [] h Q :=
  (am_bd e).elim fun p hp => b_Model_act_90 (d := (d + 256)) (k := c_Model_tellsAs (d := d) hp.1 (t_Model_act_99 hp.2 q))
theorem t_Model_act_100 {d : Nat} {x1 : Int32} {x2 : Int32} {x3 : Int32} {h : am_H} {Q : am_Q} {res : Int32 × am_H} (e : f_Model_act_100 h = some res) (q : Q (some (.int res.1)) res.2) : am_W (X_Model_act (d + 257)) 100 [some (.ref 0), some (.int x1), some (.int x2), some (.int x3)] [] h Q :=
  b_Model_act_100 (d := (d + 257)) (q := (am_rIpi (v := 0) e q))
theorem t_Model_act_15 {d : Nat} {x1 : Int32} {x2 : Int32} {x3 : Int32} {h : am_H} {Q : am_Q} {res : Int32 × am_H} (e : f_Model_act_15 h x1 x2 x3 = some res) (q : Q (some (.int res.1)) res.2) : am_W (X_Model_act (d + 257)) 15 [some (.ref 0), some (.int x1), some (.int x2), some (.int x3)] [] h Q :=
  b_Model_act_15 (d := (d + 257)) (q0 := (am_okv (am_gd e))) (k0 := fun c => (t_Model_act_60 (am_ift (am_ga e) c) q)) (k1 := fun c => (t_Model_act_70 (am_ift (am_ife (am_ga e) (fun z => absurd (c.symm.trans z) (by decide))) c) q)) (k2 := fun c => (t_Model_act_80 (am_ift (am_ife (am_ife (am_ga e) (fun z => absurd (c.symm.trans z) (by decide))) (fun z => absurd (c.symm.trans z) (by decide))) c) q)) (k3 := fun c => (t_Model_act_90 (am_ift (am_ife (am_ife (am_ife (am_ga e) (fun z => absurd (c.symm.trans z) (by decide))) (fun z => absurd (c.symm.trans z) (by decide))) (fun z => absurd (c.symm.trans z) (by decide))) c) q)) (kd := fun c0 c1 c2 c3 => (t_Model_act_100 (am_ife (am_ife (am_ife (am_ife (am_ga e) c0) c1) c2) c3) q))
theorem t_Model_act_13 {d : Nat} {x1 : Int32} {x2 : Int32} {x3 : Int32} {h : am_H} {Q : am_Q} {res : Int32 × am_H} (e : f_Model_act_13 h = some res) (q : Q (some (.int res.1)) res.2) : am_W (X_Model_act (d + 257)) 13 [some (.ref 0), some (.int x1), some (.int x2), some (.int x3)] [] h Q :=
  b_Model_act_13 (d := (d + 257)) (q := (am_rIpi (v := 0) e q))
theorem t_Model_act_10 {d : Nat} {x1 : Int32} {x2 : Int32} {x3 : Int32} {y0 : Bool} {h : am_H} {Q : am_Q} {res : Int32 × am_H} (e : f_Model_act_10 h x1 x2 x3 y0 = some res) (q : Q (some (.int res.1)) res.2) : am_W (X_Model_act (d + 257)) 10 [some (.ref 0), some (.int x1), some (.int x2), some (.int x3)] [.int (am_b y0)] h Q :=
  b_Model_act_10 (d := (d + 257)) (kt := fun c => (t_Model_act_15 (am_ift e (am_bn c)) q)) (kf := fun c => (t_Model_act_13 (am_iff e (am_bz c)) q))
theorem t_Model_act_0 {d : Nat} {x1 : Int32} {x2 : Int32} {x3 : Int32} {h : am_H} {Q : am_Q} {res : Int32 × am_H} (e : f_Model_act h x1 x2 x3 = some res) (q : Q (some (.int res.1)) res.2) : am_W (X_Model_act (d + 257)) 0 [some (.ref 0), some (.int x1), some (.int x2), some (.int x3)] [] h Q :=
  b_Model_act_0 (d := (d + 256)) (k := c_Model_isBody (d := d + 255) rfl (t_Model_act_10 e q))
theorem c_Model_act {d : Nat} {x1 : Int32} {x2 : Int32} {x3 : Int32} {h : am_H} {Q : am_Q} {res : Int32 × am_H} (e : f_Model_act h x1 x2 x3 = some res) (q : Q (some (.int res.1)) res.2) : m_Model_act (d + 257) [.ref 0, .int x1, .int x2, .int x3] h Q :=
  e_Model_act (t_Model_act_0 e q)
theorem d_Model_trace_0 : decode prog_12_method_86_code 0 = .ok (.iload_n 1, 1) := by decide +kernel
theorem d_Model_trace_1 : decode prog_12_method_86_code 1 = .ok (.ifCond .lt 26, 3) := by decide +kernel
theorem d_Model_trace_4 : decode prog_12_method_86_code 4 = .ok (.iload_n 1, 1) := by decide +kernel
theorem d_Model_trace_5 : decode prog_12_method_86_code 5 = .ok (.aload_n 0, 1) := by decide +kernel
theorem d_Model_trace_6 : decode prog_12_method_86_code 6 = .ok (.getfield 306, 3) := by decide +kernel
theorem d_Model_trace_9 : decode prog_12_method_86_code 9 = .ok (.if_icmp .ge 18, 3) := by decide +kernel
theorem d_Model_trace_12 : decode prog_12_method_86_code 12 = .ok (.iload_n 1, 1) := by decide +kernel
theorem d_Model_trace_13 : decode prog_12_method_86_code 13 = .ok (.bipush 24, 2) := by decide +kernel
theorem d_Model_trace_15 : decode prog_12_method_86_code 15 = .ok (.if_icmp .ge 12, 3) := by decide +kernel
theorem d_Model_trace_18 : decode prog_12_method_86_code 18 = .ok (.aload_n 0, 1) := by decide +kernel
theorem d_Model_trace_19 : decode prog_12_method_86_code 19 = .ok (.getfield 55, 3) := by decide +kernel
theorem d_Model_trace_22 : decode prog_12_method_86_code 22 = .ok (.iload_n 1, 1) := by decide +kernel
theorem d_Model_trace_23 : decode prog_12_method_86_code 23 = .ok (.iaload, 1) := by decide +kernel
theorem d_Model_trace_24 : decode prog_12_method_86_code 24 = .ok (.goto 4, 3) := by decide +kernel
theorem d_Model_trace_27 : decode prog_12_method_86_code 27 = .ok (.iconst (-1), 1) := by decide +kernel
theorem d_Model_trace_28 : decode prog_12_method_86_code 28 = .ok (.ireturn, 1) := by decide +kernel
theorem b_Model_trace_0 {d : Nat} {x1 : Int32} {h : am_H} {Q : am_Q} (kt : x1 < 0 → am_W (X_Model_trace d) 27 [some (.ref 0), some (.int x1)] [] h Q) (kf : ¬ x1 < 0 → am_W (X_Model_trace d) 4 [some (.ref 0), some (.int x1)] [] h Q) : am_W (X_Model_trace d) 0 [some (.ref 0), some (.int x1)] [] h Q :=
  am_iload_n d_Model_trace_0 rfl (i := 1) rfl <|
    am_if_lt (tgt := 27) d_Model_trace_1 (by decide) kt kf
theorem b_Model_trace_4 {d : Nat} {x1 : Int32} {h : am_H} {Q : am_Q} (kt : (h.1 0 29) ≤ x1 → am_W (X_Model_trace d) 27 [some (.ref 0), some (.int x1)] [] h Q) (kf : ¬ (h.1 0 29) ≤ x1 → am_W (X_Model_trace d) 12 [some (.ref 0), some (.int x1)] [] h Q) : am_W (X_Model_trace d) 4 [some (.ref 0), some (.int x1)] [] h Q :=
  am_iload_n d_Model_trace_4 rfl (i := 1) rfl <|
    am_aload_n d_Model_trace_5 rfl (i := 0) rfl <|
    am_getI (ci := 10) (i := 29) rfl rfl rfl (Nat.le_of_ble_eq_true rfl) w_1347 d_Model_trace_6 <|
    am_icmp_ge (tgt := 27) d_Model_trace_9 (by decide) kt kf
theorem b_Model_trace_12 {d : Nat} {x1 : Int32} {h : am_H} {Q : am_Q} (kt : 24 ≤ x1 → am_W (X_Model_trace d) 27 [some (.ref 0), some (.int x1)] [] h Q) (kf : ¬ 24 ≤ x1 → am_W (X_Model_trace d) 18 [some (.ref 0), some (.int x1)] [] h Q) : am_W (X_Model_trace d) 12 [some (.ref 0), some (.int x1)] [] h Q :=
  am_iload_n d_Model_trace_12 rfl (i := 1) rfl <|
    am_bipush (v := 24) d_Model_trace_13 (by decide) <|
    am_icmp_ge (tgt := 27) d_Model_trace_15 (by decide) kt kf
theorem b_Model_trace_18 {d : Nat} {x1 : Int32} {h : am_H} {Q : am_Q} (q0 : vp_in x1 24) (q : Q (some (.int (h.1 15 x1.toNatClampNeg))) h) : am_W (X_Model_trace d) 18 [some (.ref 0), some (.int x1)] [] h Q :=
  am_aload_n d_Model_trace_18 rfl (i := 0) rfl <|
    am_getR (ci := 10) (i := 28) rfl rfl rfl (Nat.le_of_ble_eq_true rfl) w_1346 d_Model_trace_19 <|
    am_iload_n d_Model_trace_22 rfl (i := 1) rfl <|
    am_iald rfl q0 d_Model_trace_23 <|
    am_goto (tgt := 28) d_Model_trace_24 (by decide) <|
    am_iret rfl d_Model_trace_28 q
theorem b_Model_trace_27 {d : Nat} {x1 : Int32} {h : am_H} {Q : am_Q} (q : Q (some (.int (-1))) h) : am_W (X_Model_trace d) 27 [some (.ref 0), some (.int x1)] [] h Q :=
  am_iconst (v := (-1)) d_Model_trace_27 (by decide) <|
    am_iret rfl d_Model_trace_28 q
theorem t_Model_trace_27 {d : Nat} {x1 : Int32} {h : am_H} {Q : am_Q} {res : Int32} (e : f_Model_trace_27 h = some res) (q : Q (some (.int res)) h) : am_W (X_Model_trace d) 27 [some (.ref 0), some (.int x1)] [] h Q :=
  b_Model_trace_27 (d := d) (q := (am_rIp (v := (-1)) e q))
theorem t_Model_trace_18 {d : Nat} {x1 : Int32} {h : am_H} {Q : am_Q} {res : Int32} (e : f_Model_trace_18 h x1 = some res) (q : Q (some (.int res)) h) : am_W (X_Model_trace d) 18 [some (.ref 0), some (.int x1)] [] h Q :=
  b_Model_trace_18 (d := d) (q0 := (am_okv (am_gd e))) (q := (am_rIp (v := (h.1 15 x1.toNatClampNeg)) (am_ga e) q))
theorem t_Model_trace_12 {d : Nat} {x1 : Int32} {h : am_H} {Q : am_Q} {res : Int32} (e : f_Model_trace_12 h x1 = some res) (q : Q (some (.int res)) h) : am_W (X_Model_trace d) 12 [some (.ref 0), some (.int x1)] [] h Q :=
  b_Model_trace_12 (d := d) (kt := fun c => (t_Model_trace_27 (am_ift e c) q)) (kf := fun c => (t_Model_trace_18 (am_ife e c) q))
theorem t_Model_trace_4 {d : Nat} {x1 : Int32} {h : am_H} {Q : am_Q} {res : Int32} (e : f_Model_trace_4 h x1 = some res) (q : Q (some (.int res)) h) : am_W (X_Model_trace d) 4 [some (.ref 0), some (.int x1)] [] h Q :=
  b_Model_trace_4 (d := d) (kt := fun c => (t_Model_trace_27 (am_ift e c) q)) (kf := fun c => (t_Model_trace_12 (am_ife e c) q))
theorem t_Model_trace_0 {d : Nat} {x1 : Int32} {h : am_H} {Q : am_Q} {res : Int32} (e : f_Model_trace h x1 = some res) (q : Q (some (.int res)) h) : am_W (X_Model_trace d) 0 [some (.ref 0), some (.int x1)] [] h Q :=
  b_Model_trace_0 (d := d) (kt := fun c => (t_Model_trace_27 (am_ift e c) q)) (kf := fun c => (t_Model_trace_4 (am_ife e c) q))
theorem c_Model_trace {d : Nat} {x1 : Int32} {h : am_H} {Q : am_Q} {res : Int32} (e : f_Model_trace h x1 = some res) (q : Q (some (.int res)) h) : m_Model_trace d [.ref 0, .int x1] h Q :=
  e_Model_trace (t_Model_trace_0 e q)
theorem d_Model_keep_0 : decode prog_12_method_88_code 0 = .ok (.iload_n 1, 1) := by decide +kernel
theorem d_Model_keep_1 : decode prog_12_method_88_code 1 = .ok (.invokestatic 103, 3) := by decide +kernel
theorem d_Model_keep_4 : decode prog_12_method_88_code 4 = .ok (.ifCond .eq 16, 3) := by decide +kernel
theorem d_Model_keep_7 : decode prog_12_method_88_code 7 = .ok (.iload_n 2, 1) := by decide +kernel
theorem d_Model_keep_8 : decode prog_12_method_88_code 8 = .ok (.iconst (-1), 1) := by decide +kernel
theorem d_Model_keep_9 : decode prog_12_method_88_code 9 = .ok (.if_icmp .eq 13, 3) := by decide +kernel
theorem d_Model_keep_12 : decode prog_12_method_88_code 12 = .ok (.aload_n 0, 1) := by decide +kernel
theorem d_Model_keep_13 : decode prog_12_method_88_code 13 = .ok (.iload_n 2, 1) := by decide +kernel
theorem d_Model_keep_14 : decode prog_12_method_88_code 14 = .ok (.invokevirtual 330, 3) := by decide +kernel
theorem d_Model_keep_17 : decode prog_12_method_88_code 17 = .ok (.ifCond .ne 5, 3) := by decide +kernel
theorem d_Model_keep_20 : decode prog_12_method_88_code 20 = .ok (.iconst (-1), 1) := by decide +kernel
theorem d_Model_keep_21 : decode prog_12_method_88_code 21 = .ok (.ireturn, 1) := by decide +kernel
theorem d_Model_keep_22 : decode prog_12_method_88_code 22 = .ok (.aload_n 0, 1) := by decide +kernel
theorem d_Model_keep_23 : decode prog_12_method_88_code 23 = .ok (.getfield 58, 3) := by decide +kernel
theorem d_Model_keep_26 : decode prog_12_method_88_code 26 = .ok (.iload_n 1, 1) := by decide +kernel
theorem d_Model_keep_27 : decode prog_12_method_88_code 27 = .ok (.iload_n 2, 1) := by decide +kernel
theorem d_Model_keep_28 : decode prog_12_method_88_code 28 = .ok (.iastore, 1) := by decide +kernel
theorem d_Model_keep_29 : decode prog_12_method_88_code 29 = .ok (.aload_n 0, 1) := by decide +kernel
theorem d_Model_keep_30 : decode prog_12_method_88_code 30 = .ok (.getfield 61, 3) := by decide +kernel
theorem d_Model_keep_33 : decode prog_12_method_88_code 33 = .ok (.iload_n 1, 1) := by decide +kernel
theorem d_Model_keep_34 : decode prog_12_method_88_code 34 = .ok (.iconst 0, 1) := by decide +kernel
theorem d_Model_keep_35 : decode prog_12_method_88_code 35 = .ok (.iastore, 1) := by decide +kernel
theorem d_Model_keep_36 : decode prog_12_method_88_code 36 = .ok (.iconst 1, 1) := by decide +kernel
theorem d_Model_keep_37 : decode prog_12_method_88_code 37 = .ok (.ireturn, 1) := by decide +kernel
theorem b_Model_keep_0 {d : Nat} {x1 : Int32} {x2 : Int32} {h : am_H} {Q : am_Q} (k : m_Model_isShelf d [.int x1] h (fun r hh => am_W (X_Model_keep (d + 1)) 4 [some (.ref 0), some (.int x1), some (.int x2)] (r.toList ++ []) hh Q)) : am_W (X_Model_keep (d + 1)) 0 [some (.ref 0), some (.int x1), some (.int x2)] [] h Q :=
  am_iload_n d_Model_keep_0 rfl (i := 1) rfl <|
    am_callS (vs := [.int x1]) (st := []) rfl d_Model_keep_1 w_1455 w_1456 w_94 w_1457 p_Model_isShelf (Nat.le_of_ble_eq_true rfl) (Nat.le_of_ble_eq_true rfl) rfl k
theorem b_Model_keep_4 {d : Nat} {x1 : Int32} {x2 : Int32} {y0 : Bool} {h : am_H} {Q : am_Q} (kt : (am_b y0) = 0 → am_W (X_Model_keep d) 20 [some (.ref 0), some (.int x1), some (.int x2)] [] h Q) (kf : ¬ (am_b y0) = 0 → am_W (X_Model_keep d) 7 [some (.ref 0), some (.int x1), some (.int x2)] [] h Q) : am_W (X_Model_keep d) 4 [some (.ref 0), some (.int x1), some (.int x2)] [.int (am_b y0)] h Q :=
  am_if_eq (tgt := 20) d_Model_keep_4 (by decide) kt kf
theorem b_Model_keep_7 {d : Nat} {x1 : Int32} {x2 : Int32} {h : am_H} {Q : am_Q} (kt : x2 = (-1) → am_W (X_Model_keep d) 22 [some (.ref 0), some (.int x1), some (.int x2)] [] h Q) (kf : ¬ x2 = (-1) → am_W (X_Model_keep d) 12 [some (.ref 0), some (.int x1), some (.int x2)] [] h Q) : am_W (X_Model_keep d) 7 [some (.ref 0), some (.int x1), some (.int x2)] [] h Q :=
  am_iload_n d_Model_keep_7 rfl (i := 2) rfl <|
    am_iconst (v := (-1)) d_Model_keep_8 (by decide) <|
    am_icmp_eq (tgt := 22) d_Model_keep_9 (by decide) kt kf
theorem b_Model_keep_12 {d : Nat} {x1 : Int32} {x2 : Int32} {h : am_H} {Q : am_Q} (k : m_Model_isBody d [.ref 0, .int x2] h (fun r hh => am_W (X_Model_keep (d + 1)) 17 [some (.ref 0), some (.int x1), some (.int x2)] (r.toList ++ []) hh Q)) : am_W (X_Model_keep (d + 1)) 12 [some (.ref 0), some (.int x1), some (.int x2)] [] h Q :=
  am_aload_n d_Model_keep_12 rfl (i := 0) rfl <|
    am_iload_n d_Model_keep_13 rfl (i := 2) rfl <|
    am_callV (vs := [.int x2]) (st := []) (k := 0) (ci := 10) rfl d_Model_keep_14 rfl rfl w_1742 w_1744 w_73 w_94 w_1745 p_Model_isBody (Nat.le_of_ble_eq_true rfl) (Nat.le_of_ble_eq_true rfl) rfl k
theorem b_Model_keep_17 {d : Nat} {x1 : Int32} {x2 : Int32} {y0 : Bool} {h : am_H} {Q : am_Q} (kt : ¬ (am_b y0) = 0 → am_W (X_Model_keep d) 22 [some (.ref 0), some (.int x1), some (.int x2)] [] h Q) (kf : (am_b y0) = 0 → am_W (X_Model_keep d) 20 [some (.ref 0), some (.int x1), some (.int x2)] [] h Q) : am_W (X_Model_keep d) 17 [some (.ref 0), some (.int x1), some (.int x2)] [.int (am_b y0)] h Q :=
  am_if_ne (tgt := 22) d_Model_keep_17 (by decide) kt kf
theorem b_Model_keep_20 {d : Nat} {x1 : Int32} {x2 : Int32} {h : am_H} {Q : am_Q} (q : Q (some (.int (-1))) h) : am_W (X_Model_keep d) 20 [some (.ref 0), some (.int x1), some (.int x2)] [] h Q :=
  am_iconst (v := (-1)) d_Model_keep_20 (by decide) <|
    am_iret rfl d_Model_keep_21 q
theorem b_Model_keep_22 {d : Nat} {x1 : Int32} {x2 : Int32} {h : am_H} {Q : am_Q} (q0 : vp_in x1 6) (q : Q (some (.int 1)) (am_pI (am_pI h 16 x1.toNatClampNeg x2) 17 x1.toNatClampNeg 0)) : am_W (X_Model_keep d) 22 [some (.ref 0), some (.int x1), some (.int x2)] [] h Q :=
  am_aload_n d_Model_keep_22 rfl (i := 0) rfl <|
    am_getR (ci := 10) (i := 32) rfl rfl rfl (Nat.le_of_ble_eq_true rfl) w_1350 d_Model_keep_23 <|
    am_iload_n d_Model_keep_26 rfl (i := 1) rfl <|
    am_iload_n d_Model_keep_27 rfl (i := 2) rfl <|
    am_iast rfl q0 d_Model_keep_28 <|
    am_aload_n d_Model_keep_29 rfl (i := 0) rfl <|
    am_getR (ci := 10) (i := 33) rfl rfl rfl (Nat.le_of_ble_eq_true rfl) w_1351 d_Model_keep_30 <|
    am_iload_n d_Model_keep_33 rfl (i := 1) rfl <|
    am_iconst (v := 0) d_Model_keep_34 (by decide) <|
    am_iast rfl q0 d_Model_keep_35 <|
    am_iconst (v := 1) d_Model_keep_36 (by decide) <|
    am_iret rfl d_Model_keep_37 q
theorem t_Model_keep_20 {d : Nat} {x1 : Int32} {x2 : Int32} {h : am_H} {Q : am_Q} {res : Int32 × am_H} (e : f_Model_keep_20 h = some res) (q : Q (some (.int res.1)) res.2) : am_W (X_Model_keep (d + 2)) 20 [some (.ref 0), some (.int x1), some (.int x2)] [] h Q :=
  b_Model_keep_20 (d := (d + 2)) (q := (am_rIpi (v := (-1)) e q))
theorem t_Model_keep_22 {d : Nat} {x1 : Int32} {x2 : Int32} {h : am_H} {Q : am_Q} {res : Int32 × am_H} (e : f_Model_keep_22 h x1 x2 = some res) (q : Q (some (.int res.1)) res.2) : am_W (X_Model_keep (d + 2)) 22 [some (.ref 0), some (.int x1), some (.int x2)] [] h Q :=
  b_Model_keep_22 (d := (d + 2)) (q0 := (am_okv (am_gd e))) (q := (am_rIpi (v := 1) (am_ga e) q))
theorem t_Model_keep_17 {d : Nat} {x1 : Int32} {x2 : Int32} {y0 : Bool} {h : am_H} {Q : am_Q} {res : Int32 × am_H} (e : f_Model_keep_17 h x1 x2 y0 = some res) (q : Q (some (.int res.1)) res.2) : am_W (X_Model_keep (d + 2)) 17 [some (.ref 0), some (.int x1), some (.int x2)] [.int (am_b y0)] h Q :=
  b_Model_keep_17 (d := (d + 2)) (kt := fun c => (t_Model_keep_22 (am_ift e (am_bn c)) q)) (kf := fun c => (t_Model_keep_20 (am_iff e (am_bz c)) q))
theorem t_Model_keep_12 {d : Nat} {x1 : Int32} {x2 : Int32} {h : am_H} {Q : am_Q} {res : Int32 × am_H} (e : f_Model_keep_12 h x1 x2 = some res) (q : Q (some (.int res.1)) res.2) : am_W (X_Model_keep (d + 2)) 12 [some (.ref 0), some (.int x1), some (.int x2)] [] h Q :=
  b_Model_keep_12 (d := (d + 1)) (k := c_Model_isBody (d := d) rfl (t_Model_keep_17 e q))
theorem t_Model_keep_7 {d : Nat} {x1 : Int32} {x2 : Int32} {h : am_H} {Q : am_Q} {res : Int32 × am_H} (e : f_Model_keep_7 h x1 x2 = some res) (q : Q (some (.int res.1)) res.2) : am_W (X_Model_keep (d + 2)) 7 [some (.ref 0), some (.int x1), some (.int x2)] [] h Q :=
  b_Model_keep_7 (d := (d + 2)) (kt := fun c => (t_Model_keep_22 (am_ift e c) q)) (kf := fun c => (t_Model_keep_12 (am_ife e c) q))
theorem t_Model_keep_4 {d : Nat} {x1 : Int32} {x2 : Int32} {y0 : Bool} {h : am_H} {Q : am_Q} {res : Int32 × am_H} (e : f_Model_keep_4 h x1 x2 y0 = some res) (q : Q (some (.int res.1)) res.2) : am_W (X_Model_keep (d + 2)) 4 [some (.ref 0), some (.int x1), some (.int x2)] [.int (am_b y0)] h Q :=
  b_Model_keep_4 (d := (d + 2)) (kt := fun c => (t_Model_keep_20 (am_iff e (am_bz c)) q)) (kf := fun c => (t_Model_keep_7 (am_ift e (am_bn c)) q))
theorem t_Model_keep_0 {d : Nat} {x1 : Int32} {x2 : Int32} {h : am_H} {Q : am_Q} {res : Int32 × am_H} (e : f_Model_keep h x1 x2 = some res) (q : Q (some (.int res.1)) res.2) : am_W (X_Model_keep (d + 2)) 0 [some (.ref 0), some (.int x1), some (.int x2)] [] h Q :=
  b_Model_keep_0 (d := (d + 1)) (k := c_Model_isShelf (d := d) rfl (t_Model_keep_4 e q))
theorem c_Model_keep {d : Nat} {x1 : Int32} {x2 : Int32} {h : am_H} {Q : am_Q} {res : Int32 × am_H} (e : f_Model_keep h x1 x2 = some res) (q : Q (some (.int res.1)) res.2) : m_Model_keep (d + 2) [.ref 0, .int x1, .int x2] h Q :=
  e_Model_keep (t_Model_keep_0 e q)
theorem d_Model_row_0 : decode prog_12_method_89_code 0 = .ok (.iload_n 1, 1) := by decide +kernel
theorem d_Model_row_1 : decode prog_12_method_89_code 1 = .ok (.invokestatic 103, 3) := by decide +kernel
theorem d_Model_row_4 : decode prog_12_method_89_code 4 = .ok (.ifCond .eq 21, 3) := by decide +kernel
theorem d_Model_row_7 : decode prog_12_method_89_code 7 = .ok (.iload_n 2, 1) := by decide +kernel
theorem d_Model_row_8 : decode prog_12_method_89_code 8 = .ok (.i2l, 1) := by decide +kernel
theorem d_Model_row_9 : decode prog_12_method_89_code 9 = .ok (.lconst 0, 1) := by decide +kernel
theorem d_Model_row_10 : decode prog_12_method_89_code 10 = .ok (.ldc2_w 117, 3) := by decide +kernel
theorem d_Model_row_13 : decode prog_12_method_89_code 13 = .ok (.invokestatic 83, 3) := by decide +kernel
theorem d_Model_row_16 : decode prog_12_method_89_code 16 = .ok (.ifCond .eq 9, 3) := by decide +kernel
theorem d_Model_row_19 : decode prog_12_method_89_code 19 = .ok (.iload_n 3, 1) := by decide +kernel
theorem d_Model_row_20 : decode prog_12_method_89_code 20 = .ok (.bipush 60, 2) := by decide +kernel
theorem d_Model_row_22 : decode prog_12_method_89_code 22 = .ok (.if_icmp .le 5, 3) := by decide +kernel
theorem d_Model_row_25 : decode prog_12_method_89_code 25 = .ok (.iconst (-1), 1) := by decide +kernel
theorem d_Model_row_26 : decode prog_12_method_89_code 26 = .ok (.ireturn, 1) := by decide +kernel
theorem d_Model_row_27 : decode prog_12_method_89_code 27 = .ok (.iload_n 3, 1) := by decide +kernel
theorem d_Model_row_28 : decode prog_12_method_89_code 28 = .ok (.ifCond .ge 6, 3) := by decide +kernel
theorem d_Model_row_31 : decode prog_12_method_89_code 31 = .ok (.bipush (-14), 2) := by decide +kernel
theorem d_Model_row_33 : decode prog_12_method_89_code 33 = .ok (.ireturn, 1) := by decide +kernel
theorem d_Model_row_34 : decode prog_12_method_89_code 34 = .ok (.aload_n 0, 1) := by decide +kernel
theorem d_Model_row_35 : decode prog_12_method_89_code 35 = .ok (.getfield 58, 3) := by decide +kernel
theorem d_Model_row_38 : decode prog_12_method_89_code 38 = .ok (.iload_n 1, 1) := by decide +kernel
theorem d_Model_row_39 : decode prog_12_method_89_code 39 = .ok (.bipush 50, 2) := by decide +kernel
theorem d_Model_row_41 : decode prog_12_method_89_code 41 = .ok (.iload_n 2, 1) := by decide +kernel
theorem d_Model_row_42 : decode prog_12_method_89_code 42 = .ok (.iadd, 1) := by decide +kernel
theorem d_Model_row_43 : decode prog_12_method_89_code 43 = .ok (.iastore, 1) := by decide +kernel
theorem d_Model_row_44 : decode prog_12_method_89_code 44 = .ok (.aload_n 0, 1) := by decide +kernel
theorem d_Model_row_45 : decode prog_12_method_89_code 45 = .ok (.getfield 61, 3) := by decide +kernel
theorem d_Model_row_48 : decode prog_12_method_89_code 48 = .ok (.iload_n 1, 1) := by decide +kernel
theorem d_Model_row_49 : decode prog_12_method_89_code 49 = .ok (.iload_n 3, 1) := by decide +kernel
theorem d_Model_row_50 : decode prog_12_method_89_code 50 = .ok (.iastore, 1) := by decide +kernel
theorem d_Model_row_51 : decode prog_12_method_89_code 51 = .ok (.bipush 60, 2) := by decide +kernel
theorem d_Model_row_53 : decode prog_12_method_89_code 53 = .ok (.iload_n 1, 1) := by decide +kernel
theorem d_Model_row_54 : decode prog_12_method_89_code 54 = .ok (.imul, 1) := by decide +kernel
theorem d_Model_row_55 : decode prog_12_method_89_code 55 = .ok (.istore 4, 2) := by decide +kernel
theorem d_Model_row_57 : decode prog_12_method_89_code 57 = .ok (.iload 4, 2) := by decide +kernel
theorem d_Model_row_59 : decode prog_12_method_89_code 59 = .ok (.bipush 60, 2) := by decide +kernel
theorem d_Model_row_61 : decode prog_12_method_89_code 61 = .ok (.iload_n 1, 1) := by decide +kernel
theorem d_Model_row_62 : decode prog_12_method_89_code 62 = .ok (.imul, 1) := by decide +kernel
theorem d_Model_row_63 : decode prog_12_method_89_code 63 = .ok (.bipush 60, 2) := by decide +kernel
theorem d_Model_row_65 : decode prog_12_method_89_code 65 = .ok (.iadd, 1) := by decide +kernel
theorem d_Model_row_66 : decode prog_12_method_89_code 66 = .ok (.if_icmp .ge 17, 3) := by decide +kernel
theorem d_Model_row_69 : decode prog_12_method_89_code 69 = .ok (.aload_n 0, 1) := by decide +kernel
theorem d_Model_row_70 : decode prog_12_method_89_code 70 = .ok (.getfield 64, 3) := by decide +kernel
theorem d_Model_row_73 : decode prog_12_method_89_code 73 = .ok (.iload 4, 2) := by decide +kernel
theorem d_Model_row_75 : decode prog_12_method_89_code 75 = .ok (.lconst 0, 1) := by decide +kernel
theorem d_Model_row_76 : decode prog_12_method_89_code 76 = .ok (.lastore, 1) := by decide +kernel
theorem d_Model_row_77 : decode prog_12_method_89_code 77 = .ok (.iinc 4 1, 3) := by decide +kernel
theorem d_Model_row_80 : decode prog_12_method_89_code 80 = .ok (.goto (-23), 3) := by decide +kernel
theorem d_Model_row_83 : decode prog_12_method_89_code 83 = .ok (.iconst 1, 1) := by decide +kernel
theorem d_Model_row_84 : decode prog_12_method_89_code 84 = .ok (.ireturn, 1) := by decide +kernel
theorem b_Model_row_0 {d : Nat} {x1 : Int32} {x2 : Int32} {x3 : Int32} {h : am_H} {Q : am_Q} (k : m_Model_isShelf d [.int x1] h (fun r hh => am_W (X_Model_row (d + 1)) 4 [some (.ref 0), some (.int x1), some (.int x2), some (.int x3), none] (r.toList ++ []) hh Q)) : am_W (X_Model_row (d + 1)) 0 [some (.ref 0), some (.int x1), some (.int x2), some (.int x3), none] [] h Q :=
  am_iload_n d_Model_row_0 rfl (i := 1) rfl <|
    am_callS (vs := [.int x1]) (st := []) rfl d_Model_row_1 w_1455 w_1456 w_94 w_1457 p_Model_isShelf (Nat.le_of_ble_eq_true rfl) (Nat.le_of_ble_eq_true rfl) rfl k
theorem b_Model_row_4 {d : Nat} {x1 : Int32} {x2 : Int32} {x3 : Int32} {y0 : Bool} {h : am_H} {Q : am_Q} (kt : (am_b y0) = 0 → am_W (X_Model_row d) 25 [some (.ref 0), some (.int x1), some (.int x2), some (.int x3), none] [] h Q) (kf : ¬ (am_b y0) = 0 → am_W (X_Model_row d) 7 [some (.ref 0), some (.int x1), some (.int x2), some (.int x3), none] [] h Q) : am_W (X_Model_row d) 4 [some (.ref 0), some (.int x1), some (.int x2), some (.int x3), none] [.int (am_b y0)] h Q :=
  am_if_eq (tgt := 25) d_Model_row_4 (by decide) kt kf
theorem b_Model_row_7 {d : Nat} {x1 : Int32} {x2 : Int32} {x3 : Int32} {h : am_H} {Q : am_Q} (k : m_Model_within d [.long x2.toInt64, .long 0, .long 4] h (fun r hh => am_W (X_Model_row (d + 1)) 16 [some (.ref 0), some (.int x1), some (.int x2), some (.int x3), none] (r.toList ++ []) hh Q)) : am_W (X_Model_row (d + 1)) 7 [some (.ref 0), some (.int x1), some (.int x2), some (.int x3), none] [] h Q :=
  am_iload_n d_Model_row_7 rfl (i := 2) rfl <|
    am_i2l d_Model_row_8 <|
    am_lconst (v := 0) d_Model_row_9 (by decide) <|
    am_ldc2 (v := 4) d_Model_row_10 w_1476 <|
    am_callS (vs := [.long x2.toInt64, .long 0, .long 4]) (st := []) rfl d_Model_row_13 w_1443 w_1444 w_94 w_1445 p_Model_within (Nat.le_of_ble_eq_true rfl) (Nat.le_of_ble_eq_true rfl) rfl k
theorem b_Model_row_16 {d : Nat} {x1 : Int32} {x2 : Int32} {x3 : Int32} {y0 : Bool} {h : am_H} {Q : am_Q} (kt : (am_b y0) = 0 → am_W (X_Model_row d) 25 [some (.ref 0), some (.int x1), some (.int x2), some (.int x3), none] [] h Q) (kf : ¬ (am_b y0) = 0 → am_W (X_Model_row d) 19 [some (.ref 0), some (.int x1), some (.int x2), some (.int x3), none] [] h Q) : am_W (X_Model_row d) 16 [some (.ref 0), some (.int x1), some (.int x2), some (.int x3), none] [.int (am_b y0)] h Q :=
  am_if_eq (tgt := 25) d_Model_row_16 (by decide) kt kf
theorem b_Model_row_19 {d : Nat} {x1 : Int32} {x2 : Int32} {x3 : Int32} {h : am_H} {Q : am_Q} (kt : x3 ≤ 60 → am_W (X_Model_row d) 27 [some (.ref 0), some (.int x1), some (.int x2), some (.int x3), none] [] h Q) (kf : ¬ x3 ≤ 60 → am_W (X_Model_row d) 25 [some (.ref 0), some (.int x1), some (.int x2), some (.int x3), none] [] h Q) : am_W (X_Model_row d) 19 [some (.ref 0), some (.int x1), some (.int x2), some (.int x3), none] [] h Q :=
  am_iload_n d_Model_row_19 rfl (i := 3) rfl <|
    am_bipush (v := 60) d_Model_row_20 (by decide) <|
    am_icmp_le (tgt := 27) d_Model_row_22 (by decide) kt kf
theorem b_Model_row_25 {d : Nat} {x1 : Int32} {x2 : Int32} {x3 : Int32} {h : am_H} {Q : am_Q} (q : Q (some (.int (-1))) h) : am_W (X_Model_row d) 25 [some (.ref 0), some (.int x1), some (.int x2), some (.int x3), none] [] h Q :=
  am_iconst (v := (-1)) d_Model_row_25 (by decide) <|
    am_iret rfl d_Model_row_26 q
theorem b_Model_row_27 {d : Nat} {x1 : Int32} {x2 : Int32} {x3 : Int32} {h : am_H} {Q : am_Q} (kt : 0 ≤ x3 → am_W (X_Model_row d) 34 [some (.ref 0), some (.int x1), some (.int x2), some (.int x3), none] [] h Q) (kf : ¬ 0 ≤ x3 → am_W (X_Model_row d) 31 [some (.ref 0), some (.int x1), some (.int x2), some (.int x3), none] [] h Q) : am_W (X_Model_row d) 27 [some (.ref 0), some (.int x1), some (.int x2), some (.int x3), none] [] h Q :=
  am_iload_n d_Model_row_27 rfl (i := 3) rfl <|
    am_if_ge (tgt := 34) d_Model_row_28 (by decide) kt kf
theorem b_Model_row_31 {d : Nat} {x1 : Int32} {x2 : Int32} {x3 : Int32} {h : am_H} {Q : am_Q} (q : Q (some (.int (-14))) h) : am_W (X_Model_row d) 31 [some (.ref 0), some (.int x1), some (.int x2), some (.int x3), none] [] h Q :=
  am_bipush (v := (-14)) d_Model_row_31 (by decide) <|
    am_iret rfl d_Model_row_33 q
theorem b_Model_row_34 {d : Nat} {x1 : Int32} {x2 : Int32} {x3 : Int32} {h : am_H} {Q : am_Q} (q0 : vp_in x1 6) (k : am_W (X_Model_row d) 57 [some (.ref 0), some (.int x1), some (.int x2), some (.int x3), some (.int (60 * x1))] [] (am_pI (am_pI h 16 x1.toNatClampNeg (50 + x2)) 17 x1.toNatClampNeg x3) Q) : am_W (X_Model_row d) 34 [some (.ref 0), some (.int x1), some (.int x2), some (.int x3), none] [] h Q :=
  am_aload_n d_Model_row_34 rfl (i := 0) rfl <|
    am_getR (ci := 10) (i := 32) rfl rfl rfl (Nat.le_of_ble_eq_true rfl) w_1350 d_Model_row_35 <|
    am_iload_n d_Model_row_38 rfl (i := 1) rfl <|
    am_bipush (v := 50) d_Model_row_39 (by decide) <|
    am_iload_n d_Model_row_41 rfl (i := 2) rfl <|
    am_iadd d_Model_row_42 <|
    am_iast rfl q0 d_Model_row_43 <|
    am_aload_n d_Model_row_44 rfl (i := 0) rfl <|
    am_getR (ci := 10) (i := 33) rfl rfl rfl (Nat.le_of_ble_eq_true rfl) w_1351 d_Model_row_45 <|
    am_iload_n d_Model_row_48 rfl (i := 1) rfl <|
    am_iload_n d_Model_row_49 rfl (i := 3) rfl <|
    am_iast rfl q0 d_Model_row_50 <|
    am_bipush (v := 60) d_Model_row_51 (by decide) <|
    am_iload_n d_Model_row_53 rfl (i := 1) rfl <|
    am_imul d_Model_row_54 <|
    am_istore (ls' := [some (.ref 0), some (.int x1), some (.int x2), some (.int x3), some (.int (60 * x1))]) d_Model_row_55 (Nat.le_of_ble_eq_true rfl) rfl <|
    k
theorem b_Model_row_57 {d : Nat} {x1 : Int32} {x2 : Int32} {x3 : Int32} {x4 : Int32} {h : am_H} {Q : am_Q} (kt : ((60 * x1) + 60) ≤ x4 → am_W (X_Model_row d) 83 [some (.ref 0), some (.int x1), some (.int x2), some (.int x3), some (.int x4)] [] h Q) (kf : ¬ ((60 * x1) + 60) ≤ x4 → am_W (X_Model_row d) 69 [some (.ref 0), some (.int x1), some (.int x2), some (.int x3), some (.int x4)] [] h Q) : am_W (X_Model_row d) 57 [some (.ref 0), some (.int x1), some (.int x2), some (.int x3), some (.int x4)] [] h Q :=
  am_iload d_Model_row_57 rfl <|
    am_bipush (v := 60) d_Model_row_59 (by decide) <|
    am_iload_n d_Model_row_61 rfl (i := 1) rfl <|
    am_imul d_Model_row_62 <|
    am_bipush (v := 60) d_Model_row_63 (by decide) <|
    am_iadd d_Model_row_65 <|
    am_icmp_ge (tgt := 83) d_Model_row_66 (by decide) kt kf
theorem b_Model_row_69 {d : Nat} {x1 : Int32} {x2 : Int32} {x3 : Int32} {x4 : Int32} {h : am_H} {Q : am_Q} (q0 : vp_in x4 360) (k : am_W (X_Model_row d) 57 [some (.ref 0), some (.int x1), some (.int x2), some (.int x3), some (.int (x4 + 1))] [] (am_pL h 18 x4.toNatClampNeg 0) Q) : am_W (X_Model_row d) 69 [some (.ref 0), some (.int x1), some (.int x2), some (.int x3), some (.int x4)] [] h Q :=
  am_aload_n d_Model_row_69 rfl (i := 0) rfl <|
    am_getR (ci := 10) (i := 34) rfl rfl rfl (Nat.le_of_ble_eq_true rfl) w_1352 d_Model_row_70 <|
    am_iload d_Model_row_73 rfl <|
    am_lconst (v := 0) d_Model_row_75 (by decide) <|
    am_last rfl q0 d_Model_row_76 <|
    am_iinc (v := (x4 + 1)) (ls' := [some (.ref 0), some (.int x1), some (.int x2), some (.int x3), some (.int (x4 + 1))]) d_Model_row_77 rfl rfl (Nat.le_of_ble_eq_true rfl) rfl <|
    am_goto (tgt := 57) d_Model_row_80 (by decide) k
theorem b_Model_row_83 {d : Nat} {x1 : Int32} {x2 : Int32} {x3 : Int32} {x4 : Int32} {h : am_H} {Q : am_Q} (q : Q (some (.int 1)) h) : am_W (X_Model_row d) 83 [some (.ref 0), some (.int x1), some (.int x2), some (.int x3), some (.int x4)] [] h Q :=
  am_iconst (v := 1) d_Model_row_83 (by decide) <|
    am_iret rfl d_Model_row_84 q
theorem t_Model_row_25 {d : Nat} {x1 : Int32} {x2 : Int32} {x3 : Int32} {h : am_H} {Q : am_Q} {res : Int32 × am_H} (e : f_Model_row_25 h = some res) (q : Q (some (.int res.1)) res.2) : am_W (X_Model_row (d + 2)) 25 [some (.ref 0), some (.int x1), some (.int x2), some (.int x3), none] [] h Q :=
  b_Model_row_25 (d := (d + 2)) (q := (am_rIpi (v := (-1)) e q))
theorem t_Model_row_83 {d : Nat} {x1 : Int32} {x2 : Int32} {x3 : Int32} {x4 : Int32} {h : am_H} {Q : am_Q} {res : Int32 × am_H} (e : f_Model_row_83 h = some res) (q : Q (some (.int res.1)) res.2) : am_W (X_Model_row (d + 2)) 83 [some (.ref 0), some (.int x1), some (.int x2), some (.int x3), some (.int x4)] [] h Q :=
  b_Model_row_83 (d := (d + 2)) (q := (am_rIpi (v := 1) e q))
theorem t_Model_row_69 {d : Nat} {k57 : am_H → Int32 → Int32 → Option (Int32 × am_H)} {x1 : Int32} {x2 : Int32} {x3 : Int32} {x4 : Int32} {h : am_H} {Q : am_Q} {res : Int32 × am_H} (hk57 : ∀ (x1 : Int32) (x2 : Int32) (x3 : Int32) (x4 : Int32) (h : am_H), k57 h x1 x4 = some res → am_W (X_Model_row (d + 2)) 57 [some (.ref 0), some (.int x1), some (.int x2), some (.int x3), some (.int x4)] [] h Q) (e : f_Model_row_69 k57 h x1 x4 = some res) (q : Q (some (.int res.1)) res.2) : am_W (X_Model_row (d + 2)) 69 [some (.ref 0), some (.int x1), some (.int x2), some (.int x3), some (.int x4)] [] h Q :=
  b_Model_row_69 (d := (d + 2)) (q0 := (am_okv (am_gd e))) (k := (hk57 _ _ _ _ _ (am_ga e)))
theorem t_Model_row_57 {d : Nat} {k57 : am_H → Int32 → Int32 → Option (Int32 × am_H)} {x1 : Int32} {x2 : Int32} {x3 : Int32} {x4 : Int32} {h : am_H} {Q : am_Q} {res : Int32 × am_H} (hk57 : ∀ (x1 : Int32) (x2 : Int32) (x3 : Int32) (x4 : Int32) (h : am_H), k57 h x1 x4 = some res → am_W (X_Model_row (d + 2)) 57 [some (.ref 0), some (.int x1), some (.int x2), some (.int x3), some (.int x4)] [] h Q) (e : f_Model_row_57 k57 h x1 x4 = some res) (q : Q (some (.int res.1)) res.2) : am_W (X_Model_row (d + 2)) 57 [some (.ref 0), some (.int x1), some (.int x2), some (.int x3), some (.int x4)] [] h Q :=
  b_Model_row_57 (d := (d + 2)) (kt := fun c => (t_Model_row_83 (am_ift e c) q)) (kf := fun c => (t_Model_row_69 hk57 (am_ife e c) q))
theorem t_Model_row_57_l {d : Nat} {Q : am_Q} {res : Int32 × am_H} (q : Q (some (.int res.1)) res.2) : ∀ (n : Nat) (x1 : Int32) (x2 : Int32) (x3 : Int32) (x4 : Int32) (h : am_H), f_Model_row_57_l n h x1 x4 = some res → am_W (X_Model_row (d + 2)) 57 [some (.ref 0), some (.int x1), some (.int x2), some (.int x3), some (.int x4)] [] h Q := by
  intro n
  induction n with
  | zero => intro x1 x2 x3 x4 h e; exact am_nn e
  | succ n ih => intro x1 x2 x3 x4 h e; exact t_Model_row_57 (fun x1 x2 x3 x4 h e => ih x1 x2 x3 x4 h  e) e q
theorem t_Model_row_34 {d : Nat} {x1 : Int32} {x2 : Int32} {x3 : Int32} {h : am_H} {Q : am_Q} {res : Int32 × am_H} (e : f_Model_row_34 h x1 x2 x3 = some res) (q : Q (some (.int res.1)) res.2) : am_W (X_Model_row (d + 2)) 34 [some (.ref 0), some (.int x1), some (.int x2), some (.int x3), none] [] h Q :=
  b_Model_row_34 (d := (d + 2)) (q0 := (am_okv (am_gd e))) (k := (t_Model_row_57_l q am_fu _ _ _ _ _ (am_ga e)))
theorem t_Model_row_31 {d : Nat} {x1 : Int32} {x2 : Int32} {x3 : Int32} {h : am_H} {Q : am_Q} {res : Int32 × am_H} (e : f_Model_row_31 h = some res) (q : Q (some (.int res.1)) res.2) : am_W (X_Model_row (d + 2)) 31 [some (.ref 0), some (.int x1), some (.int x2), some (.int x3), none] [] h Q :=
  b_Model_row_31 (d := (d + 2)) (q := (am_rIpi (v := (-14)) e q))
theorem t_Model_row_27 {d : Nat} {x1 : Int32} {x2 : Int32} {x3 : Int32} {h : am_H} {Q : am_Q} {res : Int32 × am_H} (e : f_Model_row_27 h x1 x2 x3 = some res) (q : Q (some (.int res.1)) res.2) : am_W (X_Model_row (d + 2)) 27 [some (.ref 0), some (.int x1), some (.int x2), some (.int x3), none] [] h Q :=
  b_Model_row_27 (d := (d + 2)) (kt := fun c => (t_Model_row_34 (am_ift e c) q)) (kf := fun c => (t_Model_row_31 (am_ife e c) q))
theorem t_Model_row_19 {d : Nat} {x1 : Int32} {x2 : Int32} {x3 : Int32} {h : am_H} {Q : am_Q} {res : Int32 × am_H} (e : f_Model_row_19 h x1 x2 x3 = some res) (q : Q (some (.int res.1)) res.2) : am_W (X_Model_row (d + 2)) 19 [some (.ref 0), some (.int x1), some (.int x2), some (.int x3), none] [] h Q :=
  b_Model_row_19 (d := (d + 2)) (kt := fun c => (t_Model_row_27 (am_ift e c) q)) (kf := fun c => (t_Model_row_25 (am_ife e c) q))
theorem t_Model_row_16 {d : Nat} {x1 : Int32} {x2 : Int32} {x3 : Int32} {y0 : Bool} {h : am_H} {Q : am_Q} {res : Int32 × am_H} (e : f_Model_row_16 h x1 x2 x3 y0 = some res) (q : Q (some (.int res.1)) res.2) : am_W (X_Model_row (d + 2)) 16 [some (.ref 0), some (.int x1), some (.int x2), some (.int x3), none] [.int (am_b y0)] h Q :=
  b_Model_row_16 (d := (d + 2)) (kt := fun c => (t_Model_row_25 (am_iff e (am_bz c)) q)) (kf := fun c => (t_Model_row_19 (am_ift e (am_bn c)) q))
theorem t_Model_row_7 {d : Nat} {x1 : Int32} {x2 : Int32} {x3 : Int32} {h : am_H} {Q : am_Q} {res : Int32 × am_H} (e : f_Model_row_7 h x1 x2 x3 = some res) (q : Q (some (.int res.1)) res.2) : am_W (X_Model_row (d + 2)) 7 [some (.ref 0), some (.int x1), some (.int x2), some (.int x3), none] [] h Q :=
  b_Model_row_7 (d := (d + 1)) (k := c_Model_within (d := d + 1) rfl (t_Model_row_16 e q))
theorem t_Model_row_4 {d : Nat} {x1 : Int32} {x2 : Int32} {x3 : Int32} {y0 : Bool} {h : am_H} {Q : am_Q} {res : Int32 × am_H} (e : f_Model_row_4 h x1 x2 x3 y0 = some res) (q : Q (some (.int res.1)) res.2) : am_W (X_Model_row (d + 2)) 4 [some (.ref 0), some (.int x1), some (.int x2), some (.int x3), none] [.int (am_b y0)] h Q :=
  b_Model_row_4 (d := (d + 2)) (kt := fun c => (t_Model_row_25 (am_iff e (am_bz c)) q)) (kf := fun c => (t_Model_row_7 (am_ift e (am_bn c)) q))
theorem t_Model_row_0 {d : Nat} {x1 : Int32} {x2 : Int32} {x3 : Int32} {h : am_H} {Q : am_Q} {res : Int32 × am_H} (e : f_Model_row h x1 x2 x3 = some res) (q : Q (some (.int res.1)) res.2) : am_W (X_Model_row (d + 2)) 0 [some (.ref 0), some (.int x1), some (.int x2), some (.int x3), none] [] h Q :=
  b_Model_row_0 (d := (d + 1)) (k := c_Model_isShelf (d := d) rfl (t_Model_row_4 e q))
theorem c_Model_row {d : Nat} {x1 : Int32} {x2 : Int32} {x3 : Int32} {h : am_H} {Q : am_Q} {res : Int32 × am_H} (e : f_Model_row h x1 x2 x3 = some res) (q : Q (some (.int res.1)) res.2) : m_Model_row (d + 2) [.ref 0, .int x1, .int x2, .int x3] h Q :=
  e_Model_row (t_Model_row_0 e q)
theorem d_Model_refusal_0 : decode prog_12_method_90_code 0 = .ok (.iload_n 1, 1) := by decide +kernel
theorem d_Model_refusal_1 : decode prog_12_method_90_code 1 = .ok (.invokestatic 103, 3) := by decide +kernel
theorem d_Model_refusal_4 : decode prog_12_method_90_code 4 = .ok (.ifCond .ne 5, 3) := by decide +kernel
theorem d_Model_refusal_7 : decode prog_12_method_90_code 7 = .ok (.iconst (-1), 1) := by decide +kernel
theorem d_Model_refusal_8 : decode prog_12_method_90_code 8 = .ok (.ireturn, 1) := by decide +kernel
theorem d_Model_refusal_9 : decode prog_12_method_90_code 9 = .ok (.aload_n 0, 1) := by decide +kernel
theorem d_Model_refusal_10 : decode prog_12_method_90_code 10 = .ok (.getfield 58, 3) := by decide +kernel
theorem d_Model_refusal_13 : decode prog_12_method_90_code 13 = .ok (.iload_n 1, 1) := by decide +kernel
theorem d_Model_refusal_14 : decode prog_12_method_90_code 14 = .ok (.iaload, 1) := by decide +kernel
theorem d_Model_refusal_15 : decode prog_12_method_90_code 15 = .ok (.ifCond .ge 6, 3) := by decide +kernel
theorem d_Model_refusal_18 : decode prog_12_method_90_code 18 = .ok (.bipush (-11), 2) := by decide +kernel
theorem d_Model_refusal_20 : decode prog_12_method_90_code 20 = .ok (.ireturn, 1) := by decide +kernel
theorem d_Model_refusal_21 : decode prog_12_method_90_code 21 = .ok (.aload_n 0, 1) := by decide +kernel
theorem d_Model_refusal_22 : decode prog_12_method_90_code 22 = .ok (.getfield 58, 3) := by decide +kernel
theorem d_Model_refusal_25 : decode prog_12_method_90_code 25 = .ok (.iload_n 1, 1) := by decide +kernel
theorem d_Model_refusal_26 : decode prog_12_method_90_code 26 = .ok (.iaload, 1) := by decide +kernel
theorem d_Model_refusal_27 : decode prog_12_method_90_code 27 = .ok (.bipush 50, 2) := by decide +kernel
theorem d_Model_refusal_29 : decode prog_12_method_90_code 29 = .ok (.if_icmp .ge 6, 3) := by decide +kernel
theorem d_Model_refusal_32 : decode prog_12_method_90_code 32 = .ok (.bipush (-12), 2) := by decide +kernel
theorem d_Model_refusal_34 : decode prog_12_method_90_code 34 = .ok (.ireturn, 1) := by decide +kernel
theorem d_Model_refusal_35 : decode prog_12_method_90_code 35 = .ok (.iload_n 2, 1) := by decide +kernel
theorem d_Model_refusal_36 : decode prog_12_method_90_code 36 = .ok (.ifCond .lt 17, 3) := by decide +kernel
theorem d_Model_refusal_39 : decode prog_12_method_90_code 39 = .ok (.iload_n 2, 1) := by decide +kernel
theorem d_Model_refusal_40 : decode prog_12_method_90_code 40 = .ok (.aload_n 0, 1) := by decide +kernel
theorem d_Model_refusal_41 : decode prog_12_method_90_code 41 = .ok (.getfield 61, 3) := by decide +kernel
theorem d_Model_refusal_44 : decode prog_12_method_90_code 44 = .ok (.iload_n 1, 1) := by decide +kernel
theorem d_Model_refusal_45 : decode prog_12_method_90_code 45 = .ok (.iaload, 1) := by decide +kernel
theorem d_Model_refusal_46 : decode prog_12_method_90_code 46 = .ok (.if_icmp .ge 7, 3) := by decide +kernel
theorem d_Model_refusal_49 : decode prog_12_method_90_code 49 = .ok (.iconst 0, 1) := by decide +kernel
theorem d_Model_refusal_50 : decode prog_12_method_90_code 50 = .ok (.goto 5, 3) := by decide +kernel
theorem d_Model_refusal_53 : decode prog_12_method_90_code 53 = .ok (.bipush (-13), 2) := by decide +kernel
theorem d_Model_refusal_55 : decode prog_12_method_90_code 55 = .ok (.ireturn, 1) := by decide +kernel
theorem b_Model_refusal_0 {d : Nat} {x1 : Int32} {x2 : Int32} {h : am_H} {Q : am_Q} (k : m_Model_isShelf d [.int x1] h (fun r hh => am_W (X_Model_refusal (d + 1)) 4 [some (.ref 0), some (.int x1), some (.int x2)] (r.toList ++ []) hh Q)) : am_W (X_Model_refusal (d + 1)) 0 [some (.ref 0), some (.int x1), some (.int x2)] [] h Q :=
  am_iload_n d_Model_refusal_0 rfl (i := 1) rfl <|
    am_callS (vs := [.int x1]) (st := []) rfl d_Model_refusal_1 w_1455 w_1456 w_94 w_1457 p_Model_isShelf (Nat.le_of_ble_eq_true rfl) (Nat.le_of_ble_eq_true rfl) rfl k
theorem b_Model_refusal_4 {d : Nat} {x1 : Int32} {x2 : Int32} {y0 : Bool} {h : am_H} {Q : am_Q} (kt : ¬ (am_b y0) = 0 → am_W (X_Model_refusal d) 9 [some (.ref 0), some (.int x1), some (.int x2)] [] h Q) (kf : (am_b y0) = 0 → am_W (X_Model_refusal d) 7 [some (.ref 0), some (.int x1), some (.int x2)] [] h Q) : am_W (X_Model_refusal d) 4 [some (.ref 0), some (.int x1), some (.int x2)] [.int (am_b y0)] h Q :=
  am_if_ne (tgt := 9) d_Model_refusal_4 (by decide) kt kf
theorem b_Model_refusal_7 {d : Nat} {x1 : Int32} {x2 : Int32} {h : am_H} {Q : am_Q} (q : Q (some (.int (-1))) h) : am_W (X_Model_refusal d) 7 [some (.ref 0), some (.int x1), some (.int x2)] [] h Q :=
  am_iconst (v := (-1)) d_Model_refusal_7 (by decide) <|
    am_iret rfl d_Model_refusal_8 q
theorem b_Model_refusal_9 {d : Nat} {x1 : Int32} {x2 : Int32} {h : am_H} {Q : am_Q} (q0 : vp_in x1 6) (kt : 0 ≤ (h.1 16 x1.toNatClampNeg) → am_W (X_Model_refusal d) 21 [some (.ref 0), some (.int x1), some (.int x2)] [] h Q) (kf : ¬ 0 ≤ (h.1 16 x1.toNatClampNeg) → am_W (X_Model_refusal d) 18 [some (.ref 0), some (.int x1), some (.int x2)] [] h Q) : am_W (X_Model_refusal d) 9 [some (.ref 0), some (.int x1), some (.int x2)] [] h Q :=
  am_aload_n d_Model_refusal_9 rfl (i := 0) rfl <|
    am_getR (ci := 10) (i := 32) rfl rfl rfl (Nat.le_of_ble_eq_true rfl) w_1350 d_Model_refusal_10 <|
    am_iload_n d_Model_refusal_13 rfl (i := 1) rfl <|
    am_iald rfl q0 d_Model_refusal_14 <|
    am_if_ge (tgt := 21) d_Model_refusal_15 (by decide) kt kf
theorem b_Model_refusal_18 {d : Nat} {x1 : Int32} {x2 : Int32} {h : am_H} {Q : am_Q} (q : Q (some (.int (-11))) h) : am_W (X_Model_refusal d) 18 [some (.ref 0), some (.int x1), some (.int x2)] [] h Q :=
  am_bipush (v := (-11)) d_Model_refusal_18 (by decide) <|
    am_iret rfl d_Model_refusal_20 q
theorem b_Model_refusal_21 {d : Nat} {x1 : Int32} {x2 : Int32} {h : am_H} {Q : am_Q} (q0 : vp_in x1 6) (kt : 50 ≤ (h.1 16 x1.toNatClampNeg) → am_W (X_Model_refusal d) 35 [some (.ref 0), some (.int x1), some (.int x2)] [] h Q) (kf : ¬ 50 ≤ (h.1 16 x1.toNatClampNeg) → am_W (X_Model_refusal d) 32 [some (.ref 0), some (.int x1), some (.int x2)] [] h Q) : am_W (X_Model_refusal d) 21 [some (.ref 0), some (.int x1), some (.int x2)] [] h Q :=
  am_aload_n d_Model_refusal_21 rfl (i := 0) rfl <|
    am_getR (ci := 10) (i := 32) rfl rfl rfl (Nat.le_of_ble_eq_true rfl) w_1350 d_Model_refusal_22 <|
    am_iload_n d_Model_refusal_25 rfl (i := 1) rfl <|
    am_iald rfl q0 d_Model_refusal_26 <|
    am_bipush (v := 50) d_Model_refusal_27 (by decide) <|
    am_icmp_ge (tgt := 35) d_Model_refusal_29 (by decide) kt kf
theorem b_Model_refusal_32 {d : Nat} {x1 : Int32} {x2 : Int32} {h : am_H} {Q : am_Q} (q : Q (some (.int (-12))) h) : am_W (X_Model_refusal d) 32 [some (.ref 0), some (.int x1), some (.int x2)] [] h Q :=
  am_bipush (v := (-12)) d_Model_refusal_32 (by decide) <|
    am_iret rfl d_Model_refusal_34 q
theorem b_Model_refusal_35 {d : Nat} {x1 : Int32} {x2 : Int32} {h : am_H} {Q : am_Q} (kt : x2 < 0 → am_W (X_Model_refusal d) 53 [some (.ref 0), some (.int x1), some (.int x2)] [] h Q) (kf : ¬ x2 < 0 → am_W (X_Model_refusal d) 39 [some (.ref 0), some (.int x1), some (.int x2)] [] h Q) : am_W (X_Model_refusal d) 35 [some (.ref 0), some (.int x1), some (.int x2)] [] h Q :=
  am_iload_n d_Model_refusal_35 rfl (i := 2) rfl <|
    am_if_lt (tgt := 53) d_Model_refusal_36 (by decide) kt kf
theorem b_Model_refusal_39 {d : Nat} {x1 : Int32} {x2 : Int32} {h : am_H} {Q : am_Q} (q0 : vp_in x1 6) (kt : (h.1 17 x1.toNatClampNeg) ≤ x2 → am_W (X_Model_refusal d) 53 [some (.ref 0), some (.int x1), some (.int x2)] [] h Q) (kf : ¬ (h.1 17 x1.toNatClampNeg) ≤ x2 → am_W (X_Model_refusal d) 49 [some (.ref 0), some (.int x1), some (.int x2)] [] h Q) : am_W (X_Model_refusal d) 39 [some (.ref 0), some (.int x1), some (.int x2)] [] h Q :=
  am_iload_n d_Model_refusal_39 rfl (i := 2) rfl <|
    am_aload_n d_Model_refusal_40 rfl (i := 0) rfl <|
    am_getR (ci := 10) (i := 33) rfl rfl rfl (Nat.le_of_ble_eq_true rfl) w_1351 d_Model_refusal_41 <|
    am_iload_n d_Model_refusal_44 rfl (i := 1) rfl <|
    am_iald rfl q0 d_Model_refusal_45 <|
    am_icmp_ge (tgt := 53) d_Model_refusal_46 (by decide) kt kf
theorem b_Model_refusal_49 {d : Nat} {x1 : Int32} {x2 : Int32} {h : am_H} {Q : am_Q} (q : Q (some (.int 0)) h) : am_W (X_Model_refusal d) 49 [some (.ref 0), some (.int x1), some (.int x2)] [] h Q :=
  am_iconst (v := 0) d_Model_refusal_49 (by decide) <|
    am_goto (tgt := 55) d_Model_refusal_50 (by decide) <|
    am_iret rfl d_Model_refusal_55 q
theorem b_Model_refusal_53 {d : Nat} {x1 : Int32} {x2 : Int32} {h : am_H} {Q : am_Q} (q : Q (some (.int (-13))) h) : am_W (X_Model_refusal d) 53 [some (.ref 0), some (.int x1), some (.int x2)] [] h Q :=
  am_bipush (v := (-13)) d_Model_refusal_53 (by decide) <|
    am_iret rfl d_Model_refusal_55 q
theorem t_Model_refusal_53 {d : Nat} {x1 : Int32} {x2 : Int32} {h : am_H} {Q : am_Q} {res : Int32} (e : f_Model_refusal_53 h = some res) (q : Q (some (.int res)) h) : am_W (X_Model_refusal (d + 2)) 53 [some (.ref 0), some (.int x1), some (.int x2)] [] h Q :=
  b_Model_refusal_53 (d := (d + 2)) (q := (am_rIp (v := (-13)) e q))
theorem t_Model_refusal_49 {d : Nat} {x1 : Int32} {x2 : Int32} {h : am_H} {Q : am_Q} {res : Int32} (e : f_Model_refusal_49 h = some res) (q : Q (some (.int res)) h) : am_W (X_Model_refusal (d + 2)) 49 [some (.ref 0), some (.int x1), some (.int x2)] [] h Q :=
  b_Model_refusal_49 (d := (d + 2)) (q := (am_rIp (v := 0) e q))
theorem t_Model_refusal_39 {d : Nat} {x1 : Int32} {x2 : Int32} {h : am_H} {Q : am_Q} {res : Int32} (e : f_Model_refusal_39 h x1 x2 = some res) (q : Q (some (.int res)) h) : am_W (X_Model_refusal (d + 2)) 39 [some (.ref 0), some (.int x1), some (.int x2)] [] h Q :=
  b_Model_refusal_39 (d := (d + 2)) (q0 := (am_okv (am_gd e))) (kt := fun c => (t_Model_refusal_53 (am_ift (am_ga e) c) q)) (kf := fun c => (t_Model_refusal_49 (am_ife (am_ga e) c) q))
theorem t_Model_refusal_35 {d : Nat} {x1 : Int32} {x2 : Int32} {h : am_H} {Q : am_Q} {res : Int32} (e : f_Model_refusal_35 h x1 x2 = some res) (q : Q (some (.int res)) h) : am_W (X_Model_refusal (d + 2)) 35 [some (.ref 0), some (.int x1), some (.int x2)] [] h Q :=
  b_Model_refusal_35 (d := (d + 2)) (kt := fun c => (t_Model_refusal_53 (am_ift e c) q)) (kf := fun c => (t_Model_refusal_39 (am_ife e c) q))
theorem t_Model_refusal_32 {d : Nat} {x1 : Int32} {x2 : Int32} {h : am_H} {Q : am_Q} {res : Int32} (e : f_Model_refusal_32 h = some res) (q : Q (some (.int res)) h) : am_W (X_Model_refusal (d + 2)) 32 [some (.ref 0), some (.int x1), some (.int x2)] [] h Q :=
  b_Model_refusal_32 (d := (d + 2)) (q := (am_rIp (v := (-12)) e q))
theorem t_Model_refusal_21 {d : Nat} {x1 : Int32} {x2 : Int32} {h : am_H} {Q : am_Q} {res : Int32} (e : f_Model_refusal_21 h x1 x2 = some res) (q : Q (some (.int res)) h) : am_W (X_Model_refusal (d + 2)) 21 [some (.ref 0), some (.int x1), some (.int x2)] [] h Q :=
  b_Model_refusal_21 (d := (d + 2)) (q0 := (am_okv (am_gd e))) (kt := fun c => (t_Model_refusal_35 (am_ift (am_ga e) c) q)) (kf := fun c => (t_Model_refusal_32 (am_ife (am_ga e) c) q))
theorem t_Model_refusal_18 {d : Nat} {x1 : Int32} {x2 : Int32} {h : am_H} {Q : am_Q} {res : Int32} (e : f_Model_refusal_18 h = some res) (q : Q (some (.int res)) h) : am_W (X_Model_refusal (d + 2)) 18 [some (.ref 0), some (.int x1), some (.int x2)] [] h Q :=
  b_Model_refusal_18 (d := (d + 2)) (q := (am_rIp (v := (-11)) e q))
theorem t_Model_refusal_9 {d : Nat} {x1 : Int32} {x2 : Int32} {h : am_H} {Q : am_Q} {res : Int32} (e : f_Model_refusal_9 h x1 x2 = some res) (q : Q (some (.int res)) h) : am_W (X_Model_refusal (d + 2)) 9 [some (.ref 0), some (.int x1), some (.int x2)] [] h Q :=
  b_Model_refusal_9 (d := (d + 2)) (q0 := (am_okv (am_gd e))) (kt := fun c => (t_Model_refusal_21 (am_ift (am_ga e) c) q)) (kf := fun c => (t_Model_refusal_18 (am_ife (am_ga e) c) q))
theorem t_Model_refusal_7 {d : Nat} {x1 : Int32} {x2 : Int32} {h : am_H} {Q : am_Q} {res : Int32} (e : f_Model_refusal_7 h = some res) (q : Q (some (.int res)) h) : am_W (X_Model_refusal (d + 2)) 7 [some (.ref 0), some (.int x1), some (.int x2)] [] h Q :=
  b_Model_refusal_7 (d := (d + 2)) (q := (am_rIp (v := (-1)) e q))
theorem t_Model_refusal_4 {d : Nat} {x1 : Int32} {x2 : Int32} {y0 : Bool} {h : am_H} {Q : am_Q} {res : Int32} (e : f_Model_refusal_4 h x1 x2 y0 = some res) (q : Q (some (.int res)) h) : am_W (X_Model_refusal (d + 2)) 4 [some (.ref 0), some (.int x1), some (.int x2)] [.int (am_b y0)] h Q :=
  b_Model_refusal_4 (d := (d + 2)) (kt := fun c => (t_Model_refusal_9 (am_ift e (am_bn c)) q)) (kf := fun c => (t_Model_refusal_7 (am_iff e (am_bz c)) q))
theorem t_Model_refusal_0 {d : Nat} {x1 : Int32} {x2 : Int32} {h : am_H} {Q : am_Q} {res : Int32} (e : f_Model_refusal h x1 x2 = some res) (q : Q (some (.int res)) h) : am_W (X_Model_refusal (d + 2)) 0 [some (.ref 0), some (.int x1), some (.int x2)] [] h Q :=
  b_Model_refusal_0 (d := (d + 1)) (k := c_Model_isShelf (d := d) rfl (t_Model_refusal_4 e q))
theorem c_Model_refusal {d : Nat} {x1 : Int32} {x2 : Int32} {h : am_H} {Q : am_Q} {res : Int32} (e : f_Model_refusal h x1 x2 = some res) (q : Q (some (.int res)) h) : m_Model_refusal (d + 2) [.ref 0, .int x1, .int x2] h Q :=
  e_Model_refusal (t_Model_refusal_0 e q)
theorem d_Model_asSort_0 : decode prog_12_method_91_code 0 = .ok (.iload_n 0, 1) := by decide +kernel
theorem d_Model_asSort_1 : decode prog_12_method_91_code 1 = .ok (.ifCond .ne 10, 3) := by decide +kernel
theorem d_Model_asSort_4 : decode prog_12_method_91_code 4 = .ok (.lload_n 1, 1) := by decide +kernel
theorem d_Model_asSort_5 : decode prog_12_method_91_code 5 = .ok (.l2i, 1) := by decide +kernel
theorem d_Model_asSort_6 : decode prog_12_method_91_code 6 = .ok (.i2b, 1) := by decide +kernel
theorem d_Model_asSort_7 : decode prog_12_method_91_code 7 = .ok (.i2l, 1) := by decide +kernel
theorem d_Model_asSort_8 : decode prog_12_method_91_code 8 = .ok (.goto 46, 3) := by decide +kernel
theorem d_Model_asSort_11 : decode prog_12_method_91_code 11 = .ok (.iload_n 0, 1) := by decide +kernel
theorem d_Model_asSort_12 : decode prog_12_method_91_code 12 = .ok (.iconst 1, 1) := by decide +kernel
theorem d_Model_asSort_13 : decode prog_12_method_91_code 13 = .ok (.if_icmp .ne 10, 3) := by decide +kernel
theorem d_Model_asSort_16 : decode prog_12_method_91_code 16 = .ok (.lload_n 1, 1) := by decide +kernel
theorem d_Model_asSort_17 : decode prog_12_method_91_code 17 = .ok (.l2i, 1) := by decide +kernel
theorem d_Model_asSort_18 : decode prog_12_method_91_code 18 = .ok (.i2s, 1) := by decide +kernel
theorem d_Model_asSort_19 : decode prog_12_method_91_code 19 = .ok (.i2l, 1) := by decide +kernel
theorem d_Model_asSort_20 : decode prog_12_method_91_code 20 = .ok (.goto 34, 3) := by decide +kernel
theorem d_Model_asSort_23 : decode prog_12_method_91_code 23 = .ok (.iload_n 0, 1) := by decide +kernel
theorem d_Model_asSort_24 : decode prog_12_method_91_code 24 = .ok (.iconst 2, 1) := by decide +kernel
theorem d_Model_asSort_25 : decode prog_12_method_91_code 25 = .ok (.if_icmp .ne 9, 3) := by decide +kernel
theorem d_Model_asSort_28 : decode prog_12_method_91_code 28 = .ok (.lload_n 1, 1) := by decide +kernel
theorem d_Model_asSort_29 : decode prog_12_method_91_code 29 = .ok (.l2i, 1) := by decide +kernel
theorem d_Model_asSort_30 : decode prog_12_method_91_code 30 = .ok (.i2l, 1) := by decide +kernel
theorem d_Model_asSort_31 : decode prog_12_method_91_code 31 = .ok (.goto 23, 3) := by decide +kernel
theorem d_Model_asSort_34 : decode prog_12_method_91_code 34 = .ok (.iload_n 0, 1) := by decide +kernel
theorem d_Model_asSort_35 : decode prog_12_method_91_code 35 = .ok (.iconst 4, 1) := by decide +kernel
theorem d_Model_asSort_36 : decode prog_12_method_91_code 36 = .ok (.if_icmp .ne 17, 3) := by decide +kernel
theorem d_Model_asSort_39 : decode prog_12_method_91_code 39 = .ok (.lload_n 1, 1) := by decide +kernel
theorem d_Model_asSort_40 : decode prog_12_method_91_code 40 = .ok (.lconst 0, 1) := by decide +kernel
theorem d_Model_asSort_41 : decode prog_12_method_91_code 41 = .ok (.lcmp, 1) := by decide +kernel
theorem d_Model_asSort_42 : decode prog_12_method_91_code 42 = .ok (.ifCond .eq 7, 3) := by decide +kernel
theorem d_Model_asSort_45 : decode prog_12_method_91_code 45 = .ok (.lconst 1, 1) := by decide +kernel
theorem d_Model_asSort_46 : decode prog_12_method_91_code 46 = .ok (.goto 8, 3) := by decide +kernel
theorem d_Model_asSort_49 : decode prog_12_method_91_code 49 = .ok (.lconst 0, 1) := by decide +kernel
theorem d_Model_asSort_50 : decode prog_12_method_91_code 50 = .ok (.goto 4, 3) := by decide +kernel
theorem d_Model_asSort_53 : decode prog_12_method_91_code 53 = .ok (.lload_n 1, 1) := by decide +kernel
theorem d_Model_asSort_54 : decode prog_12_method_91_code 54 = .ok (.lreturn, 1) := by decide +kernel
theorem b_Model_asSort_0 {d : Nat} {x0 : Int32} {x1 : Int64} {h : am_H} {Q : am_Q} (kt : ¬ x0 = 0 → am_W (X_Model_asSort d) 11 [some (.int x0), some (.long x1), none] [] h Q) (kf : x0 = 0 → am_W (X_Model_asSort d) 4 [some (.int x0), some (.long x1), none] [] h Q) : am_W (X_Model_asSort d) 0 [some (.int x0), some (.long x1), none] [] h Q :=
  am_iload_n d_Model_asSort_0 rfl (i := 0) rfl <|
    am_if_ne (tgt := 11) d_Model_asSort_1 (by decide) kt kf
theorem b_Model_asSort_4 {d : Nat} {x0 : Int32} {x1 : Int64} {h : am_H} {Q : am_Q} (q : Q (some (.long x1.toInt32.toInt8.toInt32.toInt64)) h) : am_W (X_Model_asSort d) 4 [some (.int x0), some (.long x1), none] [] h Q :=
  am_lload_n d_Model_asSort_4 rfl (i := 1) rfl <|
    am_l2i d_Model_asSort_5 <|
    am_i2b d_Model_asSort_6 <|
    am_i2l d_Model_asSort_7 <|
    am_goto (tgt := 54) d_Model_asSort_8 (by decide) <|
    am_lret rfl d_Model_asSort_54 q
theorem b_Model_asSort_11 {d : Nat} {x0 : Int32} {x1 : Int64} {h : am_H} {Q : am_Q} (kt : ¬ x0 = 1 → am_W (X_Model_asSort d) 23 [some (.int x0), some (.long x1), none] [] h Q) (kf : x0 = 1 → am_W (X_Model_asSort d) 16 [some (.int x0), some (.long x1), none] [] h Q) : am_W (X_Model_asSort d) 11 [some (.int x0), some (.long x1), none] [] h Q :=
  am_iload_n d_Model_asSort_11 rfl (i := 0) rfl <|
    am_iconst (v := 1) d_Model_asSort_12 (by decide) <|
    am_icmp_ne (tgt := 23) d_Model_asSort_13 (by decide) kt kf
theorem b_Model_asSort_16 {d : Nat} {x0 : Int32} {x1 : Int64} {h : am_H} {Q : am_Q} (q : Q (some (.long x1.toInt32.toInt16.toInt32.toInt64)) h) : am_W (X_Model_asSort d) 16 [some (.int x0), some (.long x1), none] [] h Q :=
  am_lload_n d_Model_asSort_16 rfl (i := 1) rfl <|
    am_l2i d_Model_asSort_17 <|
    am_i2s d_Model_asSort_18 <|
    am_i2l d_Model_asSort_19 <|
    am_goto (tgt := 54) d_Model_asSort_20 (by decide) <|
    am_lret rfl d_Model_asSort_54 q
theorem b_Model_asSort_23 {d : Nat} {x0 : Int32} {x1 : Int64} {h : am_H} {Q : am_Q} (kt : ¬ x0 = 2 → am_W (X_Model_asSort d) 34 [some (.int x0), some (.long x1), none] [] h Q) (kf : x0 = 2 → am_W (X_Model_asSort d) 28 [some (.int x0), some (.long x1), none] [] h Q) : am_W (X_Model_asSort d) 23 [some (.int x0), some (.long x1), none] [] h Q :=
  am_iload_n d_Model_asSort_23 rfl (i := 0) rfl <|
    am_iconst (v := 2) d_Model_asSort_24 (by decide) <|
    am_icmp_ne (tgt := 34) d_Model_asSort_25 (by decide) kt kf
theorem b_Model_asSort_28 {d : Nat} {x0 : Int32} {x1 : Int64} {h : am_H} {Q : am_Q} (q : Q (some (.long x1.toInt32.toInt64)) h) : am_W (X_Model_asSort d) 28 [some (.int x0), some (.long x1), none] [] h Q :=
  am_lload_n d_Model_asSort_28 rfl (i := 1) rfl <|
    am_l2i d_Model_asSort_29 <|
    am_i2l d_Model_asSort_30 <|
    am_goto (tgt := 54) d_Model_asSort_31 (by decide) <|
    am_lret rfl d_Model_asSort_54 q
theorem b_Model_asSort_34 {d : Nat} {x0 : Int32} {x1 : Int64} {h : am_H} {Q : am_Q} (kt : ¬ x0 = 4 → am_W (X_Model_asSort d) 53 [some (.int x0), some (.long x1), none] [] h Q) (kf : x0 = 4 → am_W (X_Model_asSort d) 39 [some (.int x0), some (.long x1), none] [] h Q) : am_W (X_Model_asSort d) 34 [some (.int x0), some (.long x1), none] [] h Q :=
  am_iload_n d_Model_asSort_34 rfl (i := 0) rfl <|
    am_iconst (v := 4) d_Model_asSort_35 (by decide) <|
    am_icmp_ne (tgt := 53) d_Model_asSort_36 (by decide) kt kf
theorem b_Model_asSort_39 {d : Nat} {x0 : Int32} {x1 : Int64} {h : am_H} {Q : am_Q} (kt : x1 = 0 → am_W (X_Model_asSort d) 49 [some (.int x0), some (.long x1), none] [] h Q) (kf : ¬ x1 = 0 → am_W (X_Model_asSort d) 45 [some (.int x0), some (.long x1), none] [] h Q) : am_W (X_Model_asSort d) 39 [some (.int x0), some (.long x1), none] [] h Q :=
  am_lload_n d_Model_asSort_39 rfl (i := 1) rfl <|
    am_lconst (v := 0) d_Model_asSort_40 (by decide) <|
    am_lc_if_eq (tgt := 49) d_Model_asSort_41 d_Model_asSort_42 (by decide) kt kf
theorem b_Model_asSort_45 {d : Nat} {x0 : Int32} {x1 : Int64} {h : am_H} {Q : am_Q} (q : Q (some (.long 1)) h) : am_W (X_Model_asSort d) 45 [some (.int x0), some (.long x1), none] [] h Q :=
  am_lconst (v := 1) d_Model_asSort_45 (by decide) <|
    am_goto (tgt := 54) d_Model_asSort_46 (by decide) <|
    am_lret rfl d_Model_asSort_54 q
theorem b_Model_asSort_49 {d : Nat} {x0 : Int32} {x1 : Int64} {h : am_H} {Q : am_Q} (q : Q (some (.long 0)) h) : am_W (X_Model_asSort d) 49 [some (.int x0), some (.long x1), none] [] h Q :=
  am_lconst (v := 0) d_Model_asSort_49 (by decide) <|
    am_goto (tgt := 54) d_Model_asSort_50 (by decide) <|
    am_lret rfl d_Model_asSort_54 q
theorem b_Model_asSort_53 {d : Nat} {x0 : Int32} {x1 : Int64} {h : am_H} {Q : am_Q} (q : Q (some (.long x1)) h) : am_W (X_Model_asSort d) 53 [some (.int x0), some (.long x1), none] [] h Q :=
  am_lload_n d_Model_asSort_53 rfl (i := 1) rfl <|
    am_lret rfl d_Model_asSort_54 q
theorem t_Model_asSort_53 {d : Nat} {x0 : Int32} {x1 : Int64} {h : am_H} {Q : am_Q} {res : Int64} (e : f_Model_asSort_53 x1 = res) (q : Q (some (.long res)) h) : am_W (X_Model_asSort d) 53 [some (.int x0), some (.long x1), none] [] h Q :=
  b_Model_asSort_53 (d := d) (q := (am_rJt (v := x1) e q))
theorem t_Model_asSort_49 {d : Nat} {x0 : Int32} {x1 : Int64} {h : am_H} {Q : am_Q} {res : Int64} (e : f_Model_asSort_49 = res) (q : Q (some (.long res)) h) : am_W (X_Model_asSort d) 49 [some (.int x0), some (.long x1), none] [] h Q :=
  b_Model_asSort_49 (d := d) (q := (am_rJt (v := 0) e q))
theorem t_Model_asSort_45 {d : Nat} {x0 : Int32} {x1 : Int64} {h : am_H} {Q : am_Q} {res : Int64} (e : f_Model_asSort_45 = res) (q : Q (some (.long res)) h) : am_W (X_Model_asSort d) 45 [some (.int x0), some (.long x1), none] [] h Q :=
  b_Model_asSort_45 (d := d) (q := (am_rJt (v := 1) e q))
theorem t_Model_asSort_39 {d : Nat} {x0 : Int32} {x1 : Int64} {h : am_H} {Q : am_Q} {res : Int64} (e : f_Model_asSort_39 x1 = res) (q : Q (some (.long res)) h) : am_W (X_Model_asSort d) 39 [some (.int x0), some (.long x1), none] [] h Q :=
  b_Model_asSort_39 (d := d) (kt := fun c => (t_Model_asSort_49 (am_ift e c) q)) (kf := fun c => (t_Model_asSort_45 (am_ife e c) q))
theorem t_Model_asSort_34 {d : Nat} {x0 : Int32} {x1 : Int64} {h : am_H} {Q : am_Q} {res : Int64} (e : f_Model_asSort_34 x0 x1 = res) (q : Q (some (.long res)) h) : am_W (X_Model_asSort d) 34 [some (.int x0), some (.long x1), none] [] h Q :=
  b_Model_asSort_34 (d := d) (kt := fun c => (t_Model_asSort_53 (am_ife e c) q)) (kf := fun c => (t_Model_asSort_39 (am_ift e c) q))
theorem t_Model_asSort_28 {d : Nat} {x0 : Int32} {x1 : Int64} {h : am_H} {Q : am_Q} {res : Int64} (e : f_Model_asSort_28 x1 = res) (q : Q (some (.long res)) h) : am_W (X_Model_asSort d) 28 [some (.int x0), some (.long x1), none] [] h Q :=
  b_Model_asSort_28 (d := d) (q := (am_rJt (v := x1.toInt32.toInt64) e q))
theorem t_Model_asSort_23 {d : Nat} {x0 : Int32} {x1 : Int64} {h : am_H} {Q : am_Q} {res : Int64} (e : f_Model_asSort_23 x0 x1 = res) (q : Q (some (.long res)) h) : am_W (X_Model_asSort d) 23 [some (.int x0), some (.long x1), none] [] h Q :=
  b_Model_asSort_23 (d := d) (kt := fun c => (t_Model_asSort_34 (am_ife e c) q)) (kf := fun c => (t_Model_asSort_28 (am_ift e c) q))
theorem t_Model_asSort_16 {d : Nat} {x0 : Int32} {x1 : Int64} {h : am_H} {Q : am_Q} {res : Int64} (e : f_Model_asSort_16 x1 = res) (q : Q (some (.long res)) h) : am_W (X_Model_asSort d) 16 [some (.int x0), some (.long x1), none] [] h Q :=
  b_Model_asSort_16 (d := d) (q := (am_rJt (v := x1.toInt32.toInt16.toInt32.toInt64) e q))
theorem t_Model_asSort_11 {d : Nat} {x0 : Int32} {x1 : Int64} {h : am_H} {Q : am_Q} {res : Int64} (e : f_Model_asSort_11 x0 x1 = res) (q : Q (some (.long res)) h) : am_W (X_Model_asSort d) 11 [some (.int x0), some (.long x1), none] [] h Q :=
  b_Model_asSort_11 (d := d) (kt := fun c => (t_Model_asSort_23 (am_ife e c) q)) (kf := fun c => (t_Model_asSort_16 (am_ift e c) q))
theorem t_Model_asSort_4 {d : Nat} {x0 : Int32} {x1 : Int64} {h : am_H} {Q : am_Q} {res : Int64} (e : f_Model_asSort_4 x1 = res) (q : Q (some (.long res)) h) : am_W (X_Model_asSort d) 4 [some (.int x0), some (.long x1), none] [] h Q :=
  b_Model_asSort_4 (d := d) (q := (am_rJt (v := x1.toInt32.toInt8.toInt32.toInt64) e q))
theorem t_Model_asSort_0 {d : Nat} {x0 : Int32} {x1 : Int64} {h : am_H} {Q : am_Q} {res : Int64} (e : f_Model_asSort x0 x1 = res) (q : Q (some (.long res)) h) : am_W (X_Model_asSort d) 0 [some (.int x0), some (.long x1), none] [] h Q :=
  b_Model_asSort_0 (d := d) (kt := fun c => (t_Model_asSort_11 (am_ife e c) q)) (kf := fun c => (t_Model_asSort_4 (am_ift e c) q))
theorem c_Model_asSort {d : Nat} {x0 : Int32} {x1 : Int64} {h : am_H} {Q : am_Q} {res : Int64} (e : f_Model_asSort x0 x1 = res) (q : Q (some (.long res)) h) : m_Model_asSort d [.int x0, .long x1] h Q :=
  e_Model_asSort (t_Model_asSort_0 e q)
theorem d_Model_put_0 : decode prog_12_method_92_code 0 = .ok (.aload_n 0, 1) := by decide +kernel
theorem d_Model_put_1 : decode prog_12_method_92_code 1 = .ok (.iload_n 1, 1) := by decide +kernel
theorem d_Model_put_2 : decode prog_12_method_92_code 2 = .ok (.iload_n 2, 1) := by decide +kernel
theorem d_Model_put_3 : decode prog_12_method_92_code 3 = .ok (.invokevirtual 335, 3) := by decide +kernel
theorem d_Model_put_6 : decode prog_12_method_92_code 6 = .ok (.istore 5, 2) := by decide +kernel
theorem d_Model_put_8 : decode prog_12_method_92_code 8 = .ok (.iload 5, 2) := by decide +kernel
theorem d_Model_put_10 : decode prog_12_method_92_code 10 = .ok (.ifCond .ne 27, 3) := by decide +kernel
theorem d_Model_put_13 : decode prog_12_method_92_code 13 = .ok (.aload_n 0, 1) := by decide +kernel
theorem d_Model_put_14 : decode prog_12_method_92_code 14 = .ok (.getfield 64, 3) := by decide +kernel
theorem d_Model_put_17 : decode prog_12_method_92_code 17 = .ok (.bipush 60, 2) := by decide +kernel
theorem d_Model_put_19 : decode prog_12_method_92_code 19 = .ok (.iload_n 1, 1) := by decide +kernel
theorem d_Model_put_20 : decode prog_12_method_92_code 20 = .ok (.imul, 1) := by decide +kernel
theorem d_Model_put_21 : decode prog_12_method_92_code 21 = .ok (.iload_n 2, 1) := by decide +kernel
theorem d_Model_put_22 : decode prog_12_method_92_code 22 = .ok (.iadd, 1) := by decide +kernel
theorem d_Model_put_23 : decode prog_12_method_92_code 23 = .ok (.aload_n 0, 1) := by decide +kernel
theorem d_Model_put_24 : decode prog_12_method_92_code 24 = .ok (.getfield 58, 3) := by decide +kernel
theorem d_Model_put_27 : decode prog_12_method_92_code 27 = .ok (.iload_n 1, 1) := by decide +kernel
theorem d_Model_put_28 : decode prog_12_method_92_code 28 = .ok (.iaload, 1) := by decide +kernel
theorem d_Model_put_29 : decode prog_12_method_92_code 29 = .ok (.bipush 50, 2) := by decide +kernel
theorem d_Model_put_31 : decode prog_12_method_92_code 31 = .ok (.isub, 1) := by decide +kernel
theorem d_Model_put_32 : decode prog_12_method_92_code 32 = .ok (.lload_n 3, 1) := by decide +kernel
theorem d_Model_put_33 : decode prog_12_method_92_code 33 = .ok (.invokestatic 338, 3) := by decide +kernel
theorem d_Model_put_36 : decode prog_12_method_92_code 36 = .ok (.lastore, 1) := by decide +kernel
theorem d_Model_put_37 : decode prog_12_method_92_code 37 = .ok (.iload 5, 2) := by decide +kernel
theorem d_Model_put_39 : decode prog_12_method_92_code 39 = .ok (.ifCond .ne 7, 3) := by decide +kernel
theorem d_Model_put_42 : decode prog_12_method_92_code 42 = .ok (.iconst 1, 1) := by decide +kernel
theorem d_Model_put_43 : decode prog_12_method_92_code 43 = .ok (.goto 5, 3) := by decide +kernel
theorem d_Model_put_46 : decode prog_12_method_92_code 46 = .ok (.iload 5, 2) := by decide +kernel
theorem d_Model_put_48 : decode prog_12_method_92_code 48 = .ok (.ireturn, 1) := by decide +kernel
theorem b_Model_put_0 {d : Nat} {x1 : Int32} {x2 : Int32} {x3 : Int64} {h : am_H} {Q : am_Q} (k : m_Model_refusal d [.ref 0, .int x1, .int x2] h (fun r hh => am_W (X_Model_put (d + 1)) 6 [some (.ref 0), some (.int x1), some (.int x2), some (.long x3), none, none] (r.toList ++ []) hh Q)) : am_W (X_Model_put (d + 1)) 0 [some (.ref 0), some (.int x1), some (.int x2), some (.long x3), none, none] [] h Q :=
  am_aload_n d_Model_put_0 rfl (i := 0) rfl <|
    am_iload_n d_Model_put_1 rfl (i := 1) rfl <|
    am_iload_n d_Model_put_2 rfl (i := 2) rfl <|
    am_callV (vs := [.int x1, .int x2]) (st := []) (k := 0) (ci := 10) rfl d_Model_put_3 rfl rfl w_1782 w_1784 w_79 w_94 w_1785 p_Model_refusal (Nat.le_of_ble_eq_true rfl) (Nat.le_of_ble_eq_true rfl) rfl k
theorem b_Model_put_6 {d : Nat} {x1 : Int32} {x2 : Int32} {x3 : Int64} {y0 : Int32} {h : am_H} {Q : am_Q} (kt : ¬ y0 = 0 → am_W (X_Model_put d) 37 [some (.ref 0), some (.int x1), some (.int x2), some (.long x3), none, some (.int y0)] [] h Q) (kf : y0 = 0 → am_W (X_Model_put d) 13 [some (.ref 0), some (.int x1), some (.int x2), some (.long x3), none, some (.int y0)] [] h Q) : am_W (X_Model_put d) 6 [some (.ref 0), some (.int x1), some (.int x2), some (.long x3), none, none] [.int y0] h Q :=
  am_istore (ls' := [some (.ref 0), some (.int x1), some (.int x2), some (.long x3), none, some (.int y0)]) d_Model_put_6 (Nat.le_of_ble_eq_true rfl) rfl <|
    am_iload d_Model_put_8 rfl <|
    am_if_ne (tgt := 37) d_Model_put_10 (by decide) kt kf
theorem b_Model_put_13 {d : Nat} {x1 : Int32} {x2 : Int32} {x3 : Int64} {x5 : Int32} {h : am_H} {Q : am_Q} (q0 : vp_in x1 6) (k : m_Model_asSort d [.int ((h.1 16 x1.toNatClampNeg) - 50), .long x3] h (fun r hh => am_W (X_Model_put (d + 1)) 36 [some (.ref 0), some (.int x1), some (.int x2), some (.long x3), none, some (.int x5)] (r.toList ++ [.int ((60 * x1) + x2), .ref 18]) hh Q)) : am_W (X_Model_put (d + 1)) 13 [some (.ref 0), some (.int x1), some (.int x2), some (.long x3), none, some (.int x5)] [] h Q :=
  am_aload_n d_Model_put_13 rfl (i := 0) rfl <|
    am_getR (ci := 10) (i := 34) rfl rfl rfl (Nat.le_of_ble_eq_true rfl) w_1352 d_Model_put_14 <|
    am_bipush (v := 60) d_Model_put_17 (by decide) <|
    am_iload_n d_Model_put_19 rfl (i := 1) rfl <|
    am_imul d_Model_put_20 <|
    am_iload_n d_Model_put_21 rfl (i := 2) rfl <|
    am_iadd d_Model_put_22 <|
    am_aload_n d_Model_put_23 rfl (i := 0) rfl <|
    am_getR (ci := 10) (i := 32) rfl rfl rfl (Nat.le_of_ble_eq_true rfl) w_1350 d_Model_put_24 <|
    am_iload_n d_Model_put_27 rfl (i := 1) rfl <|
    am_iald rfl q0 d_Model_put_28 <|
    am_bipush (v := 50) d_Model_put_29 (by decide) <|
    am_isub d_Model_put_31 <|
    am_lload_n d_Model_put_32 rfl (i := 3) rfl <|
    am_callS (vs := [.int ((h.1 16 x1.toNatClampNeg) - 50), .long x3]) (st := [.int ((60 * x1) + x2), .ref 18]) rfl d_Model_put_33 w_1786 w_1787 w_94 w_1788 p_Model_asSort (Nat.le_of_ble_eq_true rfl) (Nat.le_of_ble_eq_true rfl) rfl k
theorem b_Model_put_36 {d : Nat} {x1 : Int32} {x2 : Int32} {x3 : Int64} {x5 : Int32} {y2 : Int64} {y1 : Int32} {h : am_H} {Q : am_Q} (q0 : vp_in y1 360) (k : am_W (X_Model_put d) 37 [some (.ref 0), some (.int x1), some (.int x2), some (.long x3), none, some (.int x5)] [] (am_pL h 18 y1.toNatClampNeg y2) Q) : am_W (X_Model_put d) 36 [some (.ref 0), some (.int x1), some (.int x2), some (.long x3), none, some (.int x5)] [.long y2, .int y1, .ref 18] h Q :=
  am_last rfl q0 d_Model_put_36 <|
    k
theorem b_Model_put_37 {d : Nat} {x1 : Int32} {x2 : Int32} {x3 : Int64} {x5 : Int32} {h : am_H} {Q : am_Q} (kt : ¬ x5 = 0 → am_W (X_Model_put d) 46 [some (.ref 0), some (.int x1), some (.int x2), some (.long x3), none, some (.int x5)] [] h Q) (kf : x5 = 0 → am_W (X_Model_put d) 42 [some (.ref 0), some (.int x1), some (.int x2), some (.long x3), none, some (.int x5)] [] h Q) : am_W (X_Model_put d) 37 [some (.ref 0), some (.int x1), some (.int x2), some (.long x3), none, some (.int x5)] [] h Q :=
  am_iload d_Model_put_37 rfl <|
    am_if_ne (tgt := 46) d_Model_put_39 (by decide) kt kf
theorem b_Model_put_42 {d : Nat} {x1 : Int32} {x2 : Int32} {x3 : Int64} {x5 : Int32} {h : am_H} {Q : am_Q} (q : Q (some (.int 1)) h) : am_W (X_Model_put d) 42 [some (.ref 0), some (.int x1), some (.int x2), some (.long x3), none, some (.int x5)] [] h Q :=
  am_iconst (v := 1) d_Model_put_42 (by decide) <|
    am_goto (tgt := 48) d_Model_put_43 (by decide) <|
    am_iret rfl d_Model_put_48 q
theorem b_Model_put_46 {d : Nat} {x1 : Int32} {x2 : Int32} {x3 : Int64} {x5 : Int32} {h : am_H} {Q : am_Q} (q : Q (some (.int x5)) h) : am_W (X_Model_put d) 46 [some (.ref 0), some (.int x1), some (.int x2), some (.long x3), none, some (.int x5)] [] h Q :=
  am_iload d_Model_put_46 rfl <|
    am_iret rfl d_Model_put_48 q
theorem t_Model_put_46 {d : Nat} {x1 : Int32} {x2 : Int32} {x3 : Int64} {x5 : Int32} {h : am_H} {Q : am_Q} {res : Int32 × am_H} (e : f_Model_put_46 h x5 = some res) (q : Q (some (.int res.1)) res.2) : am_W (X_Model_put (d + 3)) 46 [some (.ref 0), some (.int x1), some (.int x2), some (.long x3), none, some (.int x5)] [] h Q :=
  b_Model_put_46 (d := (d + 3)) (q := (am_rIpi (v := x5) e q))
theorem t_Model_put_42 {d : Nat} {x1 : Int32} {x2 : Int32} {x3 : Int64} {x5 : Int32} {h : am_H} {Q : am_Q} {res : Int32 × am_H} (e : f_Model_put_42 h = some res) (q : Q (some (.int res.1)) res.2) : am_W (X_Model_put (d + 3)) 42 [some (.ref 0), some (.int x1), some (.int x2), some (.long x3), none, some (.int x5)] [] h Q :=
  b_Model_put_42 (d := (d + 3)) (q := (am_rIpi (v := 1) e q))
theorem t_Model_put_37 {d : Nat} {x1 : Int32} {x2 : Int32} {x3 : Int64} {x5 : Int32} {h : am_H} {Q : am_Q} {res : Int32 × am_H} (e : f_Model_put_37 h x5 = some res) (q : Q (some (.int res.1)) res.2) : am_W (X_Model_put (d + 3)) 37 [some (.ref 0), some (.int x1), some (.int x2), some (.long x3), none, some (.int x5)] [] h Q :=
  b_Model_put_37 (d := (d + 3)) (kt := fun c => (t_Model_put_46 (am_ife e c) q)) (kf := fun c => (t_Model_put_42 (am_ift e c) q))
theorem t_Model_put_36 {d : Nat} {x1 : Int32} {x2 : Int32} {x3 : Int64} {x5 : Int32} {y2 : Int64} {y1 : Int32} {h : am_H} {Q : am_Q} {res : Int32 × am_H} (e : f_Model_put_36 h x5 y2 y1 = some res) (q : Q (some (.int res.1)) res.2) : am_W (X_Model_put (d + 3)) 36 [some (.ref 0), some (.int x1), some (.int x2), some (.long x3), none, some (.int x5)] [.long y2, .int y1, .ref 18] h Q :=
  b_Model_put_36 (d := (d + 3)) (q0 := (am_okv (am_gd e))) (k := (t_Model_put_37 (am_ga e) q))
theorem t_Model_put_13 {d : Nat} {x1 : Int32} {x2 : Int32} {x3 : Int64} {x5 : Int32} {h : am_H} {Q : am_Q} {res : Int32 × am_H} (e : f_Model_put_13 h x1 x2 x3 x5 = some res) (q : Q (some (.int res.1)) res.2) : am_W (X_Model_put (d + 3)) 13 [some (.ref 0), some (.int x1), some (.int x2), some (.long x3), none, some (.int x5)] [] h Q :=
  b_Model_put_13 (d := (d + 2)) (q0 := (am_okv (am_gd e))) (k := c_Model_asSort (d := d + 2) rfl (t_Model_put_36 (am_ga e) q))
theorem t_Model_put_6 {d : Nat} {x1 : Int32} {x2 : Int32} {x3 : Int64} {y0 : Int32} {h : am_H} {Q : am_Q} {res : Int32 × am_H} (e : f_Model_put_6 h x1 x2 x3 y0 = some res) (q : Q (some (.int res.1)) res.2) : am_W (X_Model_put (d + 3)) 6 [some (.ref 0), some (.int x1), some (.int x2), some (.long x3), none, none] [.int y0] h Q :=
  b_Model_put_6 (d := (d + 3)) (kt := fun c => (t_Model_put_37 (am_ife e c) q)) (kf := fun c => (t_Model_put_13 (am_ift e c) q))
theorem t_Model_put_0 {d : Nat} {x1 : Int32} {x2 : Int32} {x3 : Int64} {h : am_H} {Q : am_Q} {res : Int32 × am_H} (e : f_Model_put h x1 x2 x3 = some res) (q : Q (some (.int res.1)) res.2) : am_W (X_Model_put (d + 3)) 0 [some (.ref 0), some (.int x1), some (.int x2), some (.long x3), none, none] [] h Q :=
  (am_bd e).elim fun p hp => b_Model_put_0 (d := (d + 2)) (k := c_Model_refusal (d := d) hp.1 (t_Model_put_6 hp.2 q))
theorem c_Model_put {d : Nat} {x1 : Int32} {x2 : Int32} {x3 : Int64} {h : am_H} {Q : am_Q} {res : Int32 × am_H} (e : f_Model_put h x1 x2 x3 = some res) (q : Q (some (.int res.1)) res.2) : m_Model_put (d + 3) [.ref 0, .int x1, .int x2, .long x3] h Q :=
  e_Model_put (t_Model_put_0 e q)
theorem d_Model_element_0 : decode prog_12_method_93_code 0 = .ok (.aload_n 0, 1) := by decide +kernel
theorem d_Model_element_1 : decode prog_12_method_93_code 1 = .ok (.iload_n 1, 1) := by decide +kernel
theorem d_Model_element_2 : decode prog_12_method_93_code 2 = .ok (.iload_n 2, 1) := by decide +kernel
theorem d_Model_element_3 : decode prog_12_method_93_code 3 = .ok (.invokevirtual 335, 3) := by decide +kernel
theorem d_Model_element_6 : decode prog_12_method_93_code 6 = .ok (.ifCond .eq 9, 3) := by decide +kernel
theorem d_Model_element_9 : decode prog_12_method_93_code 9 = .ok (.ldc2_w 223, 3) := by decide +kernel
theorem d_Model_element_12 : decode prog_12_method_93_code 12 = .ok (.goto 14, 3) := by decide +kernel
theorem d_Model_element_15 : decode prog_12_method_93_code 15 = .ok (.aload_n 0, 1) := by decide +kernel
theorem d_Model_element_16 : decode prog_12_method_93_code 16 = .ok (.getfield 64, 3) := by decide +kernel
theorem d_Model_element_19 : decode prog_12_method_93_code 19 = .ok (.bipush 60, 2) := by decide +kernel
theorem d_Model_element_21 : decode prog_12_method_93_code 21 = .ok (.iload_n 1, 1) := by decide +kernel
theorem d_Model_element_22 : decode prog_12_method_93_code 22 = .ok (.imul, 1) := by decide +kernel
theorem d_Model_element_23 : decode prog_12_method_93_code 23 = .ok (.iload_n 2, 1) := by decide +kernel
theorem d_Model_element_24 : decode prog_12_method_93_code 24 = .ok (.iadd, 1) := by decide +kernel
theorem d_Model_element_25 : decode prog_12_method_93_code 25 = .ok (.laload, 1) := by decide +kernel
theorem d_Model_element_26 : decode prog_12_method_93_code 26 = .ok (.lreturn, 1) := by decide +kernel
theorem b_Model_element_0 {d : Nat} {x1 : Int32} {x2 : Int32} {h : am_H} {Q : am_Q} (k : m_Model_refusal d [.ref 0, .int x1, .int x2] h (fun r hh => am_W (X_Model_element (d + 1)) 6 [some (.ref 0), some (.int x1), some (.int x2)] (r.toList ++ []) hh Q)) : am_W (X_Model_element (d + 1)) 0 [some (.ref 0), some (.int x1), some (.int x2)] [] h Q :=
  am_aload_n d_Model_element_0 rfl (i := 0) rfl <|
    am_iload_n d_Model_element_1 rfl (i := 1) rfl <|
    am_iload_n d_Model_element_2 rfl (i := 2) rfl <|
    am_callV (vs := [.int x1, .int x2]) (st := []) (k := 0) (ci := 10) rfl d_Model_element_3 rfl rfl w_1782 w_1784 w_79 w_94 w_1785 p_Model_refusal (Nat.le_of_ble_eq_true rfl) (Nat.le_of_ble_eq_true rfl) rfl k
theorem b_Model_element_6 {d : Nat} {x1 : Int32} {x2 : Int32} {y0 : Int32} {h : am_H} {Q : am_Q} (kt : y0 = 0 → am_W (X_Model_element d) 15 [some (.ref 0), some (.int x1), some (.int x2)] [] h Q) (kf : ¬ y0 = 0 → am_W (X_Model_element d) 9 [some (.ref 0), some (.int x1), some (.int x2)] [] h Q) : am_W (X_Model_element d) 6 [some (.ref 0), some (.int x1), some (.int x2)] [.int y0] h Q :=
  am_if_eq (tgt := 15) d_Model_element_6 (by decide) kt kf
theorem b_Model_element_9 {d : Nat} {x1 : Int32} {x2 : Int32} {h : am_H} {Q : am_Q} (q : Q (some (.long (-9223372036854775808))) h) : am_W (X_Model_element d) 9 [some (.ref 0), some (.int x1), some (.int x2)] [] h Q :=
  am_ldc2 (v := (-9223372036854775808)) d_Model_element_9 w_1573 <|
    am_goto (tgt := 26) d_Model_element_12 (by decide) <|
    am_lret rfl d_Model_element_26 q
theorem b_Model_element_15 {d : Nat} {x1 : Int32} {x2 : Int32} {h : am_H} {Q : am_Q} (q0 : vp_in ((60 * x1) + x2) 360) (q : Q (some (.long (h.2 18 ((60 * x1) + x2).toNatClampNeg))) h) : am_W (X_Model_element d) 15 [some (.ref 0), some (.int x1), some (.int x2)] [] h Q :=
  am_aload_n d_Model_element_15 rfl (i := 0) rfl <|
    am_getR (ci := 10) (i := 34) rfl rfl rfl (Nat.le_of_ble_eq_true rfl) w_1352 d_Model_element_16 <|
    am_bipush (v := 60) d_Model_element_19 (by decide) <|
    am_iload_n d_Model_element_21 rfl (i := 1) rfl <|
    am_imul d_Model_element_22 <|
    am_iload_n d_Model_element_23 rfl (i := 2) rfl <|
    am_iadd d_Model_element_24 <|
    am_lald rfl q0 d_Model_element_25 <|
    am_lret rfl d_Model_element_26 q
theorem t_Model_element_15 {d : Nat} {x1 : Int32} {x2 : Int32} {h : am_H} {Q : am_Q} {res : Int64} (e : f_Model_element_15 h x1 x2 = some res) (q : Q (some (.long res)) h) : am_W (X_Model_element (d + 3)) 15 [some (.ref 0), some (.int x1), some (.int x2)] [] h Q :=
  b_Model_element_15 (d := (d + 3)) (q0 := (am_okv (am_gd e))) (q := (am_rJp (v := (h.2 18 ((60 * x1) + x2).toNatClampNeg)) (am_ga e) q))
theorem t_Model_element_9 {d : Nat} {x1 : Int32} {x2 : Int32} {h : am_H} {Q : am_Q} {res : Int64} (e : f_Model_element_9 h = some res) (q : Q (some (.long res)) h) : am_W (X_Model_element (d + 3)) 9 [some (.ref 0), some (.int x1), some (.int x2)] [] h Q :=
  b_Model_element_9 (d := (d + 3)) (q := (am_rJp (v := (-9223372036854775808)) e q))
theorem t_Model_element_6 {d : Nat} {x1 : Int32} {x2 : Int32} {y0 : Int32} {h : am_H} {Q : am_Q} {res : Int64} (e : f_Model_element_6 h x1 x2 y0 = some res) (q : Q (some (.long res)) h) : am_W (X_Model_element (d + 3)) 6 [some (.ref 0), some (.int x1), some (.int x2)] [.int y0] h Q :=
  b_Model_element_6 (d := (d + 3)) (kt := fun c => (t_Model_element_15 (am_ift e c) q)) (kf := fun c => (t_Model_element_9 (am_ife e c) q))
theorem t_Model_element_0 {d : Nat} {x1 : Int32} {x2 : Int32} {h : am_H} {Q : am_Q} {res : Int64} (e : f_Model_element h x1 x2 = some res) (q : Q (some (.long res)) h) : am_W (X_Model_element (d + 3)) 0 [some (.ref 0), some (.int x1), some (.int x2)] [] h Q :=
  (am_bd e).elim fun p hp => b_Model_element_0 (d := (d + 2)) (k := c_Model_refusal (d := d) hp.1 (t_Model_element_6 hp.2 q))
theorem c_Model_element {d : Nat} {x1 : Int32} {x2 : Int32} {h : am_H} {Q : am_Q} {res : Int64} (e : f_Model_element h x1 x2 = some res) (q : Q (some (.long res)) h) : m_Model_element (d + 3) [.ref 0, .int x1, .int x2] h Q :=
  e_Model_element (t_Model_element_0 e q)
theorem d_Model_shift_0 : decode prog_12_method_94_code 0 = .ok (.iload_n 1, 1) := by decide +kernel
theorem d_Model_shift_1 : decode prog_12_method_94_code 1 = .ok (.invokestatic 103, 3) := by decide +kernel
theorem d_Model_shift_4 : decode prog_12_method_94_code 4 = .ok (.ifCond .eq 10, 3) := by decide +kernel
theorem d_Model_shift_7 : decode prog_12_method_94_code 7 = .ok (.iload_n 3, 1) := by decide +kernel
theorem d_Model_shift_8 : decode prog_12_method_94_code 8 = .ok (.invokestatic 103, 3) := by decide +kernel
theorem d_Model_shift_11 : decode prog_12_method_94_code 11 = .ok (.ifCond .ne 5, 3) := by decide +kernel
theorem d_Model_shift_14 : decode prog_12_method_94_code 14 = .ok (.iconst (-1), 1) := by decide +kernel
theorem d_Model_shift_15 : decode prog_12_method_94_code 15 = .ok (.ireturn, 1) := by decide +kernel
theorem d_Model_shift_16 : decode prog_12_method_94_code 16 = .ok (.aload_n 0, 1) := by decide +kernel
theorem d_Model_shift_17 : decode prog_12_method_94_code 17 = .ok (.getfield 58, 3) := by decide +kernel
theorem d_Model_shift_20 : decode prog_12_method_94_code 20 = .ok (.iload_n 1, 1) := by decide +kernel
theorem d_Model_shift_21 : decode prog_12_method_94_code 21 = .ok (.iaload, 1) := by decide +kernel
theorem d_Model_shift_22 : decode prog_12_method_94_code 22 = .ok (.ifCond .lt 12, 3) := by decide +kernel
theorem d_Model_shift_25 : decode prog_12_method_94_code 25 = .ok (.aload_n 0, 1) := by decide +kernel
theorem d_Model_shift_26 : decode prog_12_method_94_code 26 = .ok (.getfield 58, 3) := by decide +kernel
theorem d_Model_shift_29 : decode prog_12_method_94_code 29 = .ok (.iload_n 3, 1) := by decide +kernel
theorem d_Model_shift_30 : decode prog_12_method_94_code 30 = .ok (.iaload, 1) := by decide +kernel
theorem d_Model_shift_31 : decode prog_12_method_94_code 31 = .ok (.ifCond .ge 6, 3) := by decide +kernel
theorem d_Model_shift_34 : decode prog_12_method_94_code 34 = .ok (.bipush (-11), 2) := by decide +kernel
theorem d_Model_shift_36 : decode prog_12_method_94_code 36 = .ok (.ireturn, 1) := by decide +kernel
theorem d_Model_shift_37 : decode prog_12_method_94_code 37 = .ok (.aload_n 0, 1) := by decide +kernel
theorem d_Model_shift_38 : decode prog_12_method_94_code 38 = .ok (.getfield 58, 3) := by decide +kernel
theorem d_Model_shift_41 : decode prog_12_method_94_code 41 = .ok (.iload_n 1, 1) := by decide +kernel
theorem d_Model_shift_42 : decode prog_12_method_94_code 42 = .ok (.iaload, 1) := by decide +kernel
theorem d_Model_shift_43 : decode prog_12_method_94_code 43 = .ok (.bipush 50, 2) := by decide +kernel
theorem d_Model_shift_45 : decode prog_12_method_94_code 45 = .ok (.if_icmp .lt 18, 3) := by decide +kernel
theorem d_Model_shift_48 : decode prog_12_method_94_code 48 = .ok (.aload_n 0, 1) := by decide +kernel
theorem d_Model_shift_49 : decode prog_12_method_94_code 49 = .ok (.getfield 58, 3) := by decide +kernel
theorem d_Model_shift_52 : decode prog_12_method_94_code 52 = .ok (.iload_n 1, 1) := by decide +kernel
theorem d_Model_shift_53 : decode prog_12_method_94_code 53 = .ok (.iaload, 1) := by decide +kernel
theorem d_Model_shift_54 : decode prog_12_method_94_code 54 = .ok (.aload_n 0, 1) := by decide +kernel
theorem d_Model_shift_55 : decode prog_12_method_94_code 55 = .ok (.getfield 58, 3) := by decide +kernel
theorem d_Model_shift_58 : decode prog_12_method_94_code 58 = .ok (.iload_n 3, 1) := by decide +kernel
theorem d_Model_shift_59 : decode prog_12_method_94_code 59 = .ok (.iaload, 1) := by decide +kernel
theorem d_Model_shift_60 : decode prog_12_method_94_code 60 = .ok (.if_icmp .eq 6, 3) := by decide +kernel
theorem d_Model_shift_63 : decode prog_12_method_94_code 63 = .ok (.bipush (-12), 2) := by decide +kernel
theorem d_Model_shift_65 : decode prog_12_method_94_code 65 = .ok (.ireturn, 1) := by decide +kernel
theorem d_Model_shift_66 : decode prog_12_method_94_code 66 = .ok (.iload 5, 2) := by decide +kernel
theorem d_Model_shift_68 : decode prog_12_method_94_code 68 = .ok (.ifCond .lt 39, 3) := by decide +kernel
theorem d_Model_shift_71 : decode prog_12_method_94_code 71 = .ok (.iload_n 2, 1) := by decide +kernel
theorem d_Model_shift_72 : decode prog_12_method_94_code 72 = .ok (.ifCond .lt 35, 3) := by decide +kernel
theorem d_Model_shift_75 : decode prog_12_method_94_code 75 = .ok (.iload 4, 2) := by decide +kernel
theorem d_Model_shift_77 : decode prog_12_method_94_code 77 = .ok (.ifCond .lt 30, 3) := by decide +kernel
theorem d_Model_shift_80 : decode prog_12_method_94_code 80 = .ok (.iload_n 2, 1) := by decide +kernel
theorem d_Model_shift_81 : decode prog_12_method_94_code 81 = .ok (.aload_n 0, 1) := by decide +kernel
theorem d_Model_shift_82 : decode prog_12_method_94_code 82 = .ok (.getfield 61, 3) := by decide +kernel
theorem d_Model_shift_85 : decode prog_12_method_94_code 85 = .ok (.iload_n 1, 1) := by decide +kernel
theorem d_Model_shift_86 : decode prog_12_method_94_code 86 = .ok (.iaload, 1) := by decide +kernel
theorem d_Model_shift_87 : decode prog_12_method_94_code 87 = .ok (.iload 5, 2) := by decide +kernel
theorem d_Model_shift_89 : decode prog_12_method_94_code 89 = .ok (.isub, 1) := by decide +kernel
theorem d_Model_shift_90 : decode prog_12_method_94_code 90 = .ok (.if_icmp .gt 17, 3) := by decide +kernel
theorem d_Model_shift_93 : decode prog_12_method_94_code 93 = .ok (.iload 4, 2) := by decide +kernel
theorem d_Model_shift_95 : decode prog_12_method_94_code 95 = .ok (.aload_n 0, 1) := by decide +kernel
theorem d_Model_shift_96 : decode prog_12_method_94_code 96 = .ok (.getfield 61, 3) := by decide +kernel
theorem d_Model_shift_99 : decode prog_12_method_94_code 99 = .ok (.iload_n 3, 1) := by decide +kernel
theorem d_Model_shift_100 : decode prog_12_method_94_code 100 = .ok (.iaload, 1) := by decide +kernel
theorem d_Model_shift_101 : decode prog_12_method_94_code 101 = .ok (.iload 5, 2) := by decide +kernel
theorem d_Model_shift_103 : decode prog_12_method_94_code 103 = .ok (.isub, 1) := by decide +kernel
theorem d_Model_shift_104 : decode prog_12_method_94_code 104 = .ok (.if_icmp .le 6, 3) := by decide +kernel
theorem d_Model_shift_107 : decode prog_12_method_94_code 107 = .ok (.bipush (-13), 2) := by decide +kernel
theorem d_Model_shift_109 : decode prog_12_method_94_code 109 = .ok (.ireturn, 1) := by decide +kernel
theorem d_Model_shift_110 : decode prog_12_method_94_code 110 = .ok (.iconst 0, 1) := by decide +kernel
theorem d_Model_shift_111 : decode prog_12_method_94_code 111 = .ok (.istore 6, 2) := by decide +kernel
theorem d_Model_shift_113 : decode prog_12_method_94_code 113 = .ok (.iload 6, 2) := by decide +kernel
theorem d_Model_shift_115 : decode prog_12_method_94_code 115 = .ok (.iload 5, 2) := by decide +kernel
theorem d_Model_shift_117 : decode prog_12_method_94_code 117 = .ok (.if_icmp .ge 30, 3) := by decide +kernel
theorem d_Model_shift_120 : decode prog_12_method_94_code 120 = .ok (.aload_n 0, 1) := by decide +kernel
theorem d_Model_shift_121 : decode prog_12_method_94_code 121 = .ok (.getfield 67, 3) := by decide +kernel
theorem d_Model_shift_124 : decode prog_12_method_94_code 124 = .ok (.iload 6, 2) := by decide +kernel
theorem d_Model_shift_126 : decode prog_12_method_94_code 126 = .ok (.aload_n 0, 1) := by decide +kernel
theorem d_Model_shift_127 : decode prog_12_method_94_code 127 = .ok (.getfield 64, 3) := by decide +kernel
theorem d_Model_shift_130 : decode prog_12_method_94_code 130 = .ok (.bipush 60, 2) := by decide +kernel
theorem d_Model_shift_132 : decode prog_12_method_94_code 132 = .ok (.iload_n 1, 1) := by decide +kernel
theorem d_Model_shift_133 : decode prog_12_method_94_code 133 = .ok (.imul, 1) := by decide +kernel
theorem d_Model_shift_134 : decode prog_12_method_94_code 134 = .ok (.iload_n 2, 1) := by decide +kernel
theorem d_Model_shift_135 : decode prog_12_method_94_code 135 = .ok (.iadd, 1) := by decide +kernel
theorem d_Model_shift_136 : decode prog_12_method_94_code 136 = .ok (.iload 6, 2) := by decide +kernel
theorem d_Model_shift_138 : decode prog_12_method_94_code 138 = .ok (.iadd, 1) := by decide +kernel
theorem d_Model_shift_139 : decode prog_12_method_94_code 139 = .ok (.laload, 1) := by decide +kernel
theorem d_Model_shift_140 : decode prog_12_method_94_code 140 = .ok (.lastore, 1) := by decide +kernel
theorem d_Model_shift_141 : decode prog_12_method_94_code 141 = .ok (.iinc 6 1, 3) := by decide +kernel
theorem d_Model_shift_144 : decode prog_12_method_94_code 144 = .ok (.goto (-31), 3) := by decide +kernel
theorem d_Model_shift_147 : decode prog_12_method_94_code 147 = .ok (.iconst 0, 1) := by decide +kernel
theorem d_Model_shift_148 : decode prog_12_method_94_code 148 = .ok (.istore 6, 2) := by decide +kernel
theorem d_Model_shift_150 : decode prog_12_method_94_code 150 = .ok (.iload 6, 2) := by decide +kernel
theorem d_Model_shift_152 : decode prog_12_method_94_code 152 = .ok (.iload 5, 2) := by decide +kernel
theorem d_Model_shift_154 : decode prog_12_method_94_code 154 = .ok (.if_icmp .ge 31, 3) := by decide +kernel
theorem d_Model_shift_157 : decode prog_12_method_94_code 157 = .ok (.aload_n 0, 1) := by decide +kernel
theorem d_Model_shift_158 : decode prog_12_method_94_code 158 = .ok (.getfield 64, 3) := by decide +kernel
theorem d_Model_shift_161 : decode prog_12_method_94_code 161 = .ok (.bipush 60, 2) := by decide +kernel
theorem d_Model_shift_163 : decode prog_12_method_94_code 163 = .ok (.iload_n 3, 1) := by decide +kernel
theorem d_Model_shift_164 : decode prog_12_method_94_code 164 = .ok (.imul, 1) := by decide +kernel
theorem d_Model_shift_165 : decode prog_12_method_94_code 165 = .ok (.iload 4, 2) := by decide +kernel
theorem d_Model_shift_167 : decode prog_12_method_94_code 167 = .ok (.iadd, 1) := by decide +kernel
theorem d_Model_shift_168 : decode prog_12_method_94_code 168 = .ok (.iload 6, 2) := by decide +kernel
theorem d_Model_shift_170 : decode prog_12_method_94_code 170 = .ok (.iadd, 1) := by decide +kernel
theorem d_Model_shift_171 : decode prog_12_method_94_code 171 = .ok (.aload_n 0, 1) := by decide +kernel
theorem d_Model_shift_172 : decode prog_12_method_94_code 172 = .ok (.getfield 67, 3) := by decide +kernel
theorem d_Model_shift_175 : decode prog_12_method_94_code 175 = .ok (.iload 6, 2) := by decide +kernel
theorem d_Model_shift_177 : decode prog_12_method_94_code 177 = .ok (.laload, 1) := by decide +kernel
theorem d_Model_shift_178 : decode prog_12_method_94_code 178 = .ok (.lastore, 1) := by decide +kernel
theorem d_Model_shift_179 : decode prog_12_method_94_code 179 = .ok (.iinc 6 1, 3) := by decide +kernel
theorem d_Model_shift_182 : decode prog_12_method_94_code 182 = .ok (.goto (-32), 3) := by decide +kernel
theorem d_Model_shift_185 : decode prog_12_method_94_code 185 = .ok (.iload 5, 2) := by decide +kernel
theorem d_Model_shift_187 : decode prog_12_method_94_code 187 = .ok (.ireturn, 1) := by decide +kernel
theorem b_Model_shift_0 {d : Nat} {x1 : Int32} {x2 : Int32} {x3 : Int32} {x4 : Int32} {x5 : Int32} {h : am_H} {Q : am_Q} (k : m_Model_isShelf d [.int x1] h (fun r hh => am_W (X_Model_shift (d + 1)) 4 [some (.ref 0), some (.int x1), some (.int x2), some (.int x3), some (.int x4), some (.int x5), none] (r.toList ++ []) hh Q)) : am_W (X_Model_shift (d + 1)) 0 [some (.ref 0), some (.int x1), some (.int x2), some (.int x3), some (.int x4), some (.int x5), none] [] h Q :=
  am_iload_n d_Model_shift_0 rfl (i := 1) rfl <|
    am_callS (vs := [.int x1]) (st := []) rfl d_Model_shift_1 w_1455 w_1456 w_94 w_1457 p_Model_isShelf (Nat.le_of_ble_eq_true rfl) (Nat.le_of_ble_eq_true rfl) rfl k
theorem b_Model_shift_4 {d : Nat} {x1 : Int32} {x2 : Int32} {x3 : Int32} {x4 : Int32} {x5 : Int32} {y0 : Bool} {h : am_H} {Q : am_Q} (kt : (am_b y0) = 0 → am_W (X_Model_shift d) 14 [some (.ref 0), some (.int x1), some (.int x2), some (.int x3), some (.int x4), some (.int x5), none] [] h Q) (kf : ¬ (am_b y0) = 0 → am_W (X_Model_shift d) 7 [some (.ref 0), some (.int x1), some (.int x2), some (.int x3), some (.int x4), some (.int x5), none] [] h Q) : am_W (X_Model_shift d) 4 [some (.ref 0), some (.int x1), some (.int x2), some (.int x3), some (.int x4), some (.int x5), none] [.int (am_b y0)] h Q :=
  am_if_eq (tgt := 14) d_Model_shift_4 (by decide) kt kf
theorem b_Model_shift_7 {d : Nat} {x1 : Int32} {x2 : Int32} {x3 : Int32} {x4 : Int32} {x5 : Int32} {h : am_H} {Q : am_Q} (k : m_Model_isShelf d [.int x3] h (fun r hh => am_W (X_Model_shift (d + 1)) 11 [some (.ref 0), some (.int x1), some (.int x2), some (.int x3), some (.int x4), some (.int x5), none] (r.toList ++ []) hh Q)) : am_W (X_Model_shift (d + 1)) 7 [some (.ref 0), some (.int x1), some (.int x2), some (.int x3), some (.int x4), some (.int x5), none] [] h Q :=
  am_iload_n d_Model_shift_7 rfl (i := 3) rfl <|
    am_callS (vs := [.int x3]) (st := []) rfl d_Model_shift_8 w_1455 w_1456 w_94 w_1457 p_Model_isShelf (Nat.le_of_ble_eq_true rfl) (Nat.le_of_ble_eq_true rfl) rfl k
theorem b_Model_shift_11 {d : Nat} {x1 : Int32} {x2 : Int32} {x3 : Int32} {x4 : Int32} {x5 : Int32} {y0 : Bool} {h : am_H} {Q : am_Q} (kt : ¬ (am_b y0) = 0 → am_W (X_Model_shift d) 16 [some (.ref 0), some (.int x1), some (.int x2), some (.int x3), some (.int x4), some (.int x5), none] [] h Q) (kf : (am_b y0) = 0 → am_W (X_Model_shift d) 14 [some (.ref 0), some (.int x1), some (.int x2), some (.int x3), some (.int x4), some (.int x5), none] [] h Q) : am_W (X_Model_shift d) 11 [some (.ref 0), some (.int x1), some (.int x2), some (.int x3), some (.int x4), some (.int x5), none] [.int (am_b y0)] h Q :=
  am_if_ne (tgt := 16) d_Model_shift_11 (by decide) kt kf
theorem b_Model_shift_14 {d : Nat} {x1 : Int32} {x2 : Int32} {x3 : Int32} {x4 : Int32} {x5 : Int32} {h : am_H} {Q : am_Q} (q : Q (some (.int (-1))) h) : am_W (X_Model_shift d) 14 [some (.ref 0), some (.int x1), some (.int x2), some (.int x3), some (.int x4), some (.int x5), none] [] h Q :=
  am_iconst (v := (-1)) d_Model_shift_14 (by decide) <|
    am_iret rfl d_Model_shift_15 q
theorem b_Model_shift_16 {d : Nat} {x1 : Int32} {x2 : Int32} {x3 : Int32} {x4 : Int32} {x5 : Int32} {h : am_H} {Q : am_Q} (q0 : vp_in x1 6) (kt : (h.1 16 x1.toNatClampNeg) < 0 → am_W (X_Model_shift d) 34 [some (.ref 0), some (.int x1), some (.int x2), some (.int x3), some (.int x4), some (.int x5), none] [] h Q) (kf : ¬ (h.1 16 x1.toNatClampNeg) < 0 → am_W (X_Model_shift d) 25 [some (.ref 0), some (.int x1), some (.int x2), some (.int x3), some (.int x4), some (.int x5), none] [] h Q) : am_W (X_Model_shift d) 16 [some (.ref 0), some (.int x1), some (.int x2), some (.int x3), some (.int x4), some (.int x5), none] [] h Q :=
  am_aload_n d_Model_shift_16 rfl (i := 0) rfl <|
    am_getR (ci := 10) (i := 32) rfl rfl rfl (Nat.le_of_ble_eq_true rfl) w_1350 d_Model_shift_17 <|
    am_iload_n d_Model_shift_20 rfl (i := 1) rfl <|
    am_iald rfl q0 d_Model_shift_21 <|
    am_if_lt (tgt := 34) d_Model_shift_22 (by decide) kt kf
theorem b_Model_shift_25 {d : Nat} {x1 : Int32} {x2 : Int32} {x3 : Int32} {x4 : Int32} {x5 : Int32} {h : am_H} {Q : am_Q} (q0 : vp_in x3 6) (kt : 0 ≤ (h.1 16 x3.toNatClampNeg) → am_W (X_Model_shift d) 37 [some (.ref 0), some (.int x1), some (.int x2), some (.int x3), some (.int x4), some (.int x5), none] [] h Q) (kf : ¬ 0 ≤ (h.1 16 x3.toNatClampNeg) → am_W (X_Model_shift d) 34 [some (.ref 0), some (.int x1), some (.int x2), some (.int x3), some (.int x4), some (.int x5), none] [] h Q) : am_W (X_Model_shift d) 25 [some (.ref 0), some (.int x1), some (.int x2), some (.int x3), some (.int x4), some (.int x5), none] [] h Q :=
  am_aload_n d_Model_shift_25 rfl (i := 0) rfl <|
    am_getR (ci := 10) (i := 32) rfl rfl rfl (Nat.le_of_ble_eq_true rfl) w_1350 d_Model_shift_26 <|
    am_iload_n d_Model_shift_29 rfl (i := 3) rfl <|
    am_iald rfl q0 d_Model_shift_30 <|
    am_if_ge (tgt := 37) d_Model_shift_31 (by decide) kt kf
theorem b_Model_shift_34 {d : Nat} {x1 : Int32} {x2 : Int32} {x3 : Int32} {x4 : Int32} {x5 : Int32} {h : am_H} {Q : am_Q} (q : Q (some (.int (-11))) h) : am_W (X_Model_shift d) 34 [some (.ref 0), some (.int x1), some (.int x2), some (.int x3), some (.int x4), some (.int x5), none] [] h Q :=
  am_bipush (v := (-11)) d_Model_shift_34 (by decide) <|
    am_iret rfl d_Model_shift_36 q
theorem b_Model_shift_37 {d : Nat} {x1 : Int32} {x2 : Int32} {x3 : Int32} {x4 : Int32} {x5 : Int32} {h : am_H} {Q : am_Q} (q0 : vp_in x1 6) (kt : (h.1 16 x1.toNatClampNeg) < 50 → am_W (X_Model_shift d) 63 [some (.ref 0), some (.int x1), some (.int x2), some (.int x3), some (.int x4), some (.int x5), none] [] h Q) (kf : ¬ (h.1 16 x1.toNatClampNeg) < 50 → am_W (X_Model_shift d) 48 [some (.ref 0), some (.int x1), some (.int x2), some (.int x3), some (.int x4), some (.int x5), none] [] h Q) : am_W (X_Model_shift d) 37 [some (.ref 0), some (.int x1), some (.int x2), some (.int x3), some (.int x4), some (.int x5), none] [] h Q :=
  am_aload_n d_Model_shift_37 rfl (i := 0) rfl <|
    am_getR (ci := 10) (i := 32) rfl rfl rfl (Nat.le_of_ble_eq_true rfl) w_1350 d_Model_shift_38 <|
    am_iload_n d_Model_shift_41 rfl (i := 1) rfl <|
    am_iald rfl q0 d_Model_shift_42 <|
    am_bipush (v := 50) d_Model_shift_43 (by decide) <|
    am_icmp_lt (tgt := 63) d_Model_shift_45 (by decide) kt kf
theorem b_Model_shift_48 {d : Nat} {x1 : Int32} {x2 : Int32} {x3 : Int32} {x4 : Int32} {x5 : Int32} {h : am_H} {Q : am_Q} (q0 : vp_in x1 6) (q1 : vp_in x3 6) (kt : (h.1 16 x1.toNatClampNeg) = (h.1 16 x3.toNatClampNeg) → am_W (X_Model_shift d) 66 [some (.ref 0), some (.int x1), some (.int x2), some (.int x3), some (.int x4), some (.int x5), none] [] h Q) (kf : ¬ (h.1 16 x1.toNatClampNeg) = (h.1 16 x3.toNatClampNeg) → am_W (X_Model_shift d) 63 [some (.ref 0), some (.int x1), some (.int x2), some (.int x3), some (.int x4), some (.int x5), none] [] h Q) : am_W (X_Model_shift d) 48 [some (.ref 0), some (.int x1), some (.int x2), some (.int x3), some (.int x4), some (.int x5), none] [] h Q :=
  am_aload_n d_Model_shift_48 rfl (i := 0) rfl <|
    am_getR (ci := 10) (i := 32) rfl rfl rfl (Nat.le_of_ble_eq_true rfl) w_1350 d_Model_shift_49 <|
    am_iload_n d_Model_shift_52 rfl (i := 1) rfl <|
    am_iald rfl q0 d_Model_shift_53 <|
    am_aload_n d_Model_shift_54 rfl (i := 0) rfl <|
    am_getR (ci := 10) (i := 32) rfl rfl rfl (Nat.le_of_ble_eq_true rfl) w_1350 d_Model_shift_55 <|
    am_iload_n d_Model_shift_58 rfl (i := 3) rfl <|
    am_iald rfl q1 d_Model_shift_59 <|
    am_icmp_eq (tgt := 66) d_Model_shift_60 (by decide) kt kf
theorem b_Model_shift_63 {d : Nat} {x1 : Int32} {x2 : Int32} {x3 : Int32} {x4 : Int32} {x5 : Int32} {h : am_H} {Q : am_Q} (q : Q (some (.int (-12))) h) : am_W (X_Model_shift d) 63 [some (.ref 0), some (.int x1), some (.int x2), some (.int x3), some (.int x4), some (.int x5), none] [] h Q :=
  am_bipush (v := (-12)) d_Model_shift_63 (by decide) <|
    am_iret rfl d_Model_shift_65 q
theorem b_Model_shift_66 {d : Nat} {x1 : Int32} {x2 : Int32} {x3 : Int32} {x4 : Int32} {x5 : Int32} {h : am_H} {Q : am_Q} (kt : x5 < 0 → am_W (X_Model_shift d) 107 [some (.ref 0), some (.int x1), some (.int x2), some (.int x3), some (.int x4), some (.int x5), none] [] h Q) (kf : ¬ x5 < 0 → am_W (X_Model_shift d) 71 [some (.ref 0), some (.int x1), some (.int x2), some (.int x3), some (.int x4), some (.int x5), none] [] h Q) : am_W (X_Model_shift d) 66 [some (.ref 0), some (.int x1), some (.int x2), some (.int x3), some (.int x4), some (.int x5), none] [] h Q :=
  am_iload d_Model_shift_66 rfl <|
    am_if_lt (tgt := 107) d_Model_shift_68 (by decide) kt kf
theorem b_Model_shift_71 {d : Nat} {x1 : Int32} {x2 : Int32} {x3 : Int32} {x4 : Int32} {x5 : Int32} {h : am_H} {Q : am_Q} (kt : x2 < 0 → am_W (X_Model_shift d) 107 [some (.ref 0), some (.int x1), some (.int x2), some (.int x3), some (.int x4), some (.int x5), none] [] h Q) (kf : ¬ x2 < 0 → am_W (X_Model_shift d) 75 [some (.ref 0), some (.int x1), some (.int x2), some (.int x3), some (.int x4), some (.int x5), none] [] h Q) : am_W (X_Model_shift d) 71 [some (.ref 0), some (.int x1), some (.int x2), some (.int x3), some (.int x4), some (.int x5), none] [] h Q :=
  am_iload_n d_Model_shift_71 rfl (i := 2) rfl <|
    am_if_lt (tgt := 107) d_Model_shift_72 (by decide) kt kf
theorem b_Model_shift_75 {d : Nat} {x1 : Int32} {x2 : Int32} {x3 : Int32} {x4 : Int32} {x5 : Int32} {h : am_H} {Q : am_Q} (kt : x4 < 0 → am_W (X_Model_shift d) 107 [some (.ref 0), some (.int x1), some (.int x2), some (.int x3), some (.int x4), some (.int x5), none] [] h Q) (kf : ¬ x4 < 0 → am_W (X_Model_shift d) 80 [some (.ref 0), some (.int x1), some (.int x2), some (.int x3), some (.int x4), some (.int x5), none] [] h Q) : am_W (X_Model_shift d) 75 [some (.ref 0), some (.int x1), some (.int x2), some (.int x3), some (.int x4), some (.int x5), none] [] h Q :=
  am_iload d_Model_shift_75 rfl <|
    am_if_lt (tgt := 107) d_Model_shift_77 (by decide) kt kf
theorem b_Model_shift_80 {d : Nat} {x1 : Int32} {x2 : Int32} {x3 : Int32} {x4 : Int32} {x5 : Int32} {h : am_H} {Q : am_Q} (q0 : vp_in x1 6) (kt : ((h.1 17 x1.toNatClampNeg) - x5) < x2 → am_W (X_Model_shift d) 107 [some (.ref 0), some (.int x1), some (.int x2), some (.int x3), some (.int x4), some (.int x5), none] [] h Q) (kf : ¬ ((h.1 17 x1.toNatClampNeg) - x5) < x2 → am_W (X_Model_shift d) 93 [some (.ref 0), some (.int x1), some (.int x2), some (.int x3), some (.int x4), some (.int x5), none] [] h Q) : am_W (X_Model_shift d) 80 [some (.ref 0), some (.int x1), some (.int x2), some (.int x3), some (.int x4), some (.int x5), none] [] h Q :=
  am_iload_n d_Model_shift_80 rfl (i := 2) rfl <|
    am_aload_n d_Model_shift_81 rfl (i := 0) rfl <|
    am_getR (ci := 10) (i := 33) rfl rfl rfl (Nat.le_of_ble_eq_true rfl) w_1351 d_Model_shift_82 <|
    am_iload_n d_Model_shift_85 rfl (i := 1) rfl <|
    am_iald rfl q0 d_Model_shift_86 <|
    am_iload d_Model_shift_87 rfl <|
    am_isub d_Model_shift_89 <|
    am_icmp_gt (tgt := 107) d_Model_shift_90 (by decide) kt kf
theorem b_Model_shift_93 {d : Nat} {x1 : Int32} {x2 : Int32} {x3 : Int32} {x4 : Int32} {x5 : Int32} {h : am_H} {Q : am_Q} (q0 : vp_in x3 6) (kt : x4 ≤ ((h.1 17 x3.toNatClampNeg) - x5) → am_W (X_Model_shift d) 110 [some (.ref 0), some (.int x1), some (.int x2), some (.int x3), some (.int x4), some (.int x5), none] [] h Q) (kf : ¬ x4 ≤ ((h.1 17 x3.toNatClampNeg) - x5) → am_W (X_Model_shift d) 107 [some (.ref 0), some (.int x1), some (.int x2), some (.int x3), some (.int x4), some (.int x5), none] [] h Q) : am_W (X_Model_shift d) 93 [some (.ref 0), some (.int x1), some (.int x2), some (.int x3), some (.int x4), some (.int x5), none] [] h Q :=
  am_iload d_Model_shift_93 rfl <|
    am_aload_n d_Model_shift_95 rfl (i := 0) rfl <|
    am_getR (ci := 10) (i := 33) rfl rfl rfl (Nat.le_of_ble_eq_true rfl) w_1351 d_Model_shift_96 <|
    am_iload_n d_Model_shift_99 rfl (i := 3) rfl <|
    am_iald rfl q0 d_Model_shift_100 <|
    am_iload d_Model_shift_101 rfl <|
    am_isub d_Model_shift_103 <|
    am_icmp_le (tgt := 110) d_Model_shift_104 (by decide) kt kf
theorem b_Model_shift_107 {d : Nat} {x1 : Int32} {x2 : Int32} {x3 : Int32} {x4 : Int32} {x5 : Int32} {h : am_H} {Q : am_Q} (q : Q (some (.int (-13))) h) : am_W (X_Model_shift d) 107 [some (.ref 0), some (.int x1), some (.int x2), some (.int x3), some (.int x4), some (.int x5), none] [] h Q :=
  am_bipush (v := (-13)) d_Model_shift_107 (by decide) <|
    am_iret rfl d_Model_shift_109 q
theorem b_Model_shift_110 {d : Nat} {x1 : Int32} {x2 : Int32} {x3 : Int32} {x4 : Int32} {x5 : Int32} {h : am_H} {Q : am_Q} (k : am_W (X_Model_shift d) 113 [some (.ref 0), some (.int x1), some (.int x2), some (.int x3), some (.int x4), some (.int x5), some (.int 0)] [] h Q) : am_W (X_Model_shift d) 110 [some (.ref 0), some (.int x1), some (.int x2), some (.int x3), some (.int x4), some (.int x5), none] [] h Q :=
  am_iconst (v := 0) d_Model_shift_110 (by decide) <|
    am_istore (ls' := [some (.ref 0), some (.int x1), some (.int x2), some (.int x3), some (.int x4), some (.int x5), some (.int 0)]) d_Model_shift_111 (Nat.le_of_ble_eq_true rfl) rfl <|
    k
theorem b_Model_shift_113 {d : Nat} {x1 : Int32} {x2 : Int32} {x3 : Int32} {x4 : Int32} {x5 : Int32} {x6 : Int32} {h : am_H} {Q : am_Q} (kt : x5 ≤ x6 → am_W (X_Model_shift d) 147 [some (.ref 0), some (.int x1), some (.int x2), some (.int x3), some (.int x4), some (.int x5), some (.int x6)] [] h Q) (kf : ¬ x5 ≤ x6 → am_W (X_Model_shift d) 120 [some (.ref 0), some (.int x1), some (.int x2), some (.int x3), some (.int x4), some (.int x5), some (.int x6)] [] h Q) : am_W (X_Model_shift d) 113 [some (.ref 0), some (.int x1), some (.int x2), some (.int x3), some (.int x4), some (.int x5), some (.int x6)] [] h Q :=
  am_iload d_Model_shift_113 rfl <|
    am_iload d_Model_shift_115 rfl <|
    am_icmp_ge (tgt := 147) d_Model_shift_117 (by decide) kt kf
theorem b_Model_shift_120 {d : Nat} {x1 : Int32} {x2 : Int32} {x3 : Int32} {x4 : Int32} {x5 : Int32} {x6 : Int32} {h : am_H} {Q : am_Q} (q0 : vp_in (((60 * x1) + x2) + x6) 360) (q1 : vp_in x6 60) (k : am_W (X_Model_shift d) 113 [some (.ref 0), some (.int x1), some (.int x2), some (.int x3), some (.int x4), some (.int x5), some (.int (x6 + 1))] [] (am_pL h 19 x6.toNatClampNeg (h.2 18 (((60 * x1) + x2) + x6).toNatClampNeg)) Q) : am_W (X_Model_shift d) 120 [some (.ref 0), some (.int x1), some (.int x2), some (.int x3), some (.int x4), some (.int x5), some (.int x6)] [] h Q :=
  am_aload_n d_Model_shift_120 rfl (i := 0) rfl <|
    am_getR (ci := 10) (i := 35) rfl rfl rfl (Nat.le_of_ble_eq_true rfl) w_1353 d_Model_shift_121 <|
    am_iload d_Model_shift_124 rfl <|
    am_aload_n d_Model_shift_126 rfl (i := 0) rfl <|
    am_getR (ci := 10) (i := 34) rfl rfl rfl (Nat.le_of_ble_eq_true rfl) w_1352 d_Model_shift_127 <|
    am_bipush (v := 60) d_Model_shift_130 (by decide) <|
    am_iload_n d_Model_shift_132 rfl (i := 1) rfl <|
    am_imul d_Model_shift_133 <|
    am_iload_n d_Model_shift_134 rfl (i := 2) rfl <|
    am_iadd d_Model_shift_135 <|
    am_iload d_Model_shift_136 rfl <|
    am_iadd d_Model_shift_138 <|
    am_lald rfl q0 d_Model_shift_139 <|
    am_last rfl q1 d_Model_shift_140 <|
    am_iinc (v := (x6 + 1)) (ls' := [some (.ref 0), some (.int x1), some (.int x2), some (.int x3), some (.int x4), some (.int x5), some (.int (x6 + 1))]) d_Model_shift_141 rfl rfl (Nat.le_of_ble_eq_true rfl) rfl <|
    am_goto (tgt := 113) d_Model_shift_144 (by decide) k
theorem b_Model_shift_147 {d : Nat} {x1 : Int32} {x2 : Int32} {x3 : Int32} {x4 : Int32} {x5 : Int32} {x6 : Int32} {h : am_H} {Q : am_Q} (k : am_W (X_Model_shift d) 150 [some (.ref 0), some (.int x1), some (.int x2), some (.int x3), some (.int x4), some (.int x5), some (.int 0)] [] h Q) : am_W (X_Model_shift d) 147 [some (.ref 0), some (.int x1), some (.int x2), some (.int x3), some (.int x4), some (.int x5), some (.int x6)] [] h Q :=
  am_iconst (v := 0) d_Model_shift_147 (by decide) <|
    am_istore (ls' := [some (.ref 0), some (.int x1), some (.int x2), some (.int x3), some (.int x4), some (.int x5), some (.int 0)]) d_Model_shift_148 (Nat.le_of_ble_eq_true rfl) rfl <|
    k
theorem b_Model_shift_150 {d : Nat} {x1 : Int32} {x2 : Int32} {x3 : Int32} {x4 : Int32} {x5 : Int32} {x6 : Int32} {h : am_H} {Q : am_Q} (kt : x5 ≤ x6 → am_W (X_Model_shift d) 185 [some (.ref 0), some (.int x1), some (.int x2), some (.int x3), some (.int x4), some (.int x5), some (.int x6)] [] h Q) (kf : ¬ x5 ≤ x6 → am_W (X_Model_shift d) 157 [some (.ref 0), some (.int x1), some (.int x2), some (.int x3), some (.int x4), some (.int x5), some (.int x6)] [] h Q) : am_W (X_Model_shift d) 150 [some (.ref 0), some (.int x1), some (.int x2), some (.int x3), some (.int x4), some (.int x5), some (.int x6)] [] h Q :=
  am_iload d_Model_shift_150 rfl <|
    am_iload d_Model_shift_152 rfl <|
    am_icmp_ge (tgt := 185) d_Model_shift_154 (by decide) kt kf
theorem b_Model_shift_157 {d : Nat} {x1 : Int32} {x2 : Int32} {x3 : Int32} {x4 : Int32} {x5 : Int32} {x6 : Int32} {h : am_H} {Q : am_Q} (q0 : vp_in x6 60) (q1 : vp_in (((60 * x3) + x4) + x6) 360) (k : am_W (X_Model_shift d) 150 [some (.ref 0), some (.int x1), some (.int x2), some (.int x3), some (.int x4), some (.int x5), some (.int (x6 + 1))] [] (am_pL h 18 (((60 * x3) + x4) + x6).toNatClampNeg (h.2 19 x6.toNatClampNeg)) Q) : am_W (X_Model_shift d) 157 [some (.ref 0), some (.int x1), some (.int x2), some (.int x3), some (.int x4), some (.int x5), some (.int x6)] [] h Q :=
  am_aload_n d_Model_shift_157 rfl (i := 0) rfl <|
    am_getR (ci := 10) (i := 34) rfl rfl rfl (Nat.le_of_ble_eq_true rfl) w_1352 d_Model_shift_158 <|
    am_bipush (v := 60) d_Model_shift_161 (by decide) <|
    am_iload_n d_Model_shift_163 rfl (i := 3) rfl <|
    am_imul d_Model_shift_164 <|
    am_iload d_Model_shift_165 rfl <|
    am_iadd d_Model_shift_167 <|
    am_iload d_Model_shift_168 rfl <|
    am_iadd d_Model_shift_170 <|
    am_aload_n d_Model_shift_171 rfl (i := 0) rfl <|
    am_getR (ci := 10) (i := 35) rfl rfl rfl (Nat.le_of_ble_eq_true rfl) w_1353 d_Model_shift_172 <|
    am_iload d_Model_shift_175 rfl <|
    am_lald rfl q0 d_Model_shift_177 <|
    am_last rfl q1 d_Model_shift_178 <|
    am_iinc (v := (x6 + 1)) (ls' := [some (.ref 0), some (.int x1), some (.int x2), some (.int x3), some (.int x4), some (.int x5), some (.int (x6 + 1))]) d_Model_shift_179 rfl rfl (Nat.le_of_ble_eq_true rfl) rfl <|
    am_goto (tgt := 150) d_Model_shift_182 (by decide) k
theorem b_Model_shift_185 {d : Nat} {x1 : Int32} {x2 : Int32} {x3 : Int32} {x4 : Int32} {x5 : Int32} {x6 : Int32} {h : am_H} {Q : am_Q} (q : Q (some (.int x5)) h) : am_W (X_Model_shift d) 185 [some (.ref 0), some (.int x1), some (.int x2), some (.int x3), some (.int x4), some (.int x5), some (.int x6)] [] h Q :=
  am_iload d_Model_shift_185 rfl <|
    am_iret rfl d_Model_shift_187 q
theorem t_Model_shift_14 {d : Nat} {x1 : Int32} {x2 : Int32} {x3 : Int32} {x4 : Int32} {x5 : Int32} {h : am_H} {Q : am_Q} {res : Int32 × am_H} (e : f_Model_shift_14 h = some res) (q : Q (some (.int res.1)) res.2) : am_W (X_Model_shift (d + 2)) 14 [some (.ref 0), some (.int x1), some (.int x2), some (.int x3), some (.int x4), some (.int x5), none] [] h Q :=
  b_Model_shift_14 (d := (d + 2)) (q := (am_rIpi (v := (-1)) e q))
theorem t_Model_shift_34 {d : Nat} {x1 : Int32} {x2 : Int32} {x3 : Int32} {x4 : Int32} {x5 : Int32} {h : am_H} {Q : am_Q} {res : Int32 × am_H} (e : f_Model_shift_34 h = some res) (q : Q (some (.int res.1)) res.2) : am_W (X_Model_shift (d + 2)) 34 [some (.ref 0), some (.int x1), some (.int x2), some (.int x3), some (.int x4), some (.int x5), none] [] h Q :=
  b_Model_shift_34 (d := (d + 2)) (q := (am_rIpi (v := (-11)) e q))
theorem t_Model_shift_63 {d : Nat} {x1 : Int32} {x2 : Int32} {x3 : Int32} {x4 : Int32} {x5 : Int32} {h : am_H} {Q : am_Q} {res : Int32 × am_H} (e : f_Model_shift_63 h = some res) (q : Q (some (.int res.1)) res.2) : am_W (X_Model_shift (d + 2)) 63 [some (.ref 0), some (.int x1), some (.int x2), some (.int x3), some (.int x4), some (.int x5), none] [] h Q :=
  b_Model_shift_63 (d := (d + 2)) (q := (am_rIpi (v := (-12)) e q))
theorem t_Model_shift_107 {d : Nat} {x1 : Int32} {x2 : Int32} {x3 : Int32} {x4 : Int32} {x5 : Int32} {h : am_H} {Q : am_Q} {res : Int32 × am_H} (e : f_Model_shift_107 h = some res) (q : Q (some (.int res.1)) res.2) : am_W (X_Model_shift (d + 2)) 107 [some (.ref 0), some (.int x1), some (.int x2), some (.int x3), some (.int x4), some (.int x5), none] [] h Q :=
  b_Model_shift_107 (d := (d + 2)) (q := (am_rIpi (v := (-13)) e q))
theorem t_Model_shift_185 {d : Nat} {x1 : Int32} {x2 : Int32} {x3 : Int32} {x4 : Int32} {x5 : Int32} {x6 : Int32} {h : am_H} {Q : am_Q} {res : Int32 × am_H} (e : f_Model_shift_185 h x5 = some res) (q : Q (some (.int res.1)) res.2) : am_W (X_Model_shift (d + 2)) 185 [some (.ref 0), some (.int x1), some (.int x2), some (.int x3), some (.int x4), some (.int x5), some (.int x6)] [] h Q :=
  b_Model_shift_185 (d := (d + 2)) (q := (am_rIpi (v := x5) e q))
theorem t_Model_shift_157 {d : Nat} {k150 : am_H → Int32 → Int32 → Int32 → Int32 → Option (Int32 × am_H)} {x1 : Int32} {x2 : Int32} {x3 : Int32} {x4 : Int32} {x5 : Int32} {x6 : Int32} {h : am_H} {Q : am_Q} {res : Int32 × am_H} (hk150 : ∀ (x1 : Int32) (x2 : Int32) (x3 : Int32) (x4 : Int32) (x5 : Int32) (x6 : Int32) (h : am_H), k150 h x3 x4 x5 x6 = some res → am_W (X_Model_shift (d + 2)) 150 [some (.ref 0), some (.int x1), some (.int x2), some (.int x3), some (.int x4), some (.int x5), some (.int x6)] [] h Q) (e : f_Model_shift_157 k150 h x3 x4 x5 x6 = some res) (q : Q (some (.int res.1)) res.2) : am_W (X_Model_shift (d + 2)) 157 [some (.ref 0), some (.int x1), some (.int x2), some (.int x3), some (.int x4), some (.int x5), some (.int x6)] [] h Q :=
  b_Model_shift_157 (d := (d + 2)) (q0 := (am_okv (am_gd e))) (q1 := (am_okv (am_gd (am_ga e)))) (k := (hk150 _ _ _ _ _ _ _ (am_ga (am_ga e))))
theorem t_Model_shift_150 {d : Nat} {k150 : am_H → Int32 → Int32 → Int32 → Int32 → Option (Int32 × am_H)} {x1 : Int32} {x2 : Int32} {x3 : Int32} {x4 : Int32} {x5 : Int32} {x6 : Int32} {h : am_H} {Q : am_Q} {res : Int32 × am_H} (hk150 : ∀ (x1 : Int32) (x2 : Int32) (x3 : Int32) (x4 : Int32) (x5 : Int32) (x6 : Int32) (h : am_H), k150 h x3 x4 x5 x6 = some res → am_W (X_Model_shift (d + 2)) 150 [some (.ref 0), some (.int x1), some (.int x2), some (.int x3), some (.int x4), some (.int x5), some (.int x6)] [] h Q) (e : f_Model_shift_150 k150 h x3 x4 x5 x6 = some res) (q : Q (some (.int res.1)) res.2) : am_W (X_Model_shift (d + 2)) 150 [some (.ref 0), some (.int x1), some (.int x2), some (.int x3), some (.int x4), some (.int x5), some (.int x6)] [] h Q :=
  b_Model_shift_150 (d := (d + 2)) (kt := fun c => (t_Model_shift_185 (am_ift e c) q)) (kf := fun c => (t_Model_shift_157 hk150 (am_ife e c) q))
theorem t_Model_shift_150_l {d : Nat} {Q : am_Q} {res : Int32 × am_H} (q : Q (some (.int res.1)) res.2) : ∀ (n : Nat) (x1 : Int32) (x2 : Int32) (x3 : Int32) (x4 : Int32) (x5 : Int32) (x6 : Int32) (h : am_H), f_Model_shift_150_l n h x3 x4 x5 x6 = some res → am_W (X_Model_shift (d + 2)) 150 [some (.ref 0), some (.int x1), some (.int x2), some (.int x3), some (.int x4), some (.int x5), some (.int x6)] [] h Q := by
  intro n
  induction n with
  | zero => intro x1 x2 x3 x4 x5 x6 h e; exact am_nn e
  | succ n ih => intro x1 x2 x3 x4 x5 x6 h e; exact t_Model_shift_150 (fun x1 x2 x3 x4 x5 x6 h e => ih x1 x2 x3 x4 x5 x6 h  e) e q
theorem t_Model_shift_147 {d : Nat} {x1 : Int32} {x2 : Int32} {x3 : Int32} {x4 : Int32} {x5 : Int32} {x6 : Int32} {h : am_H} {Q : am_Q} {res : Int32 × am_H} (e : f_Model_shift_147 h x3 x4 x5 = some res) (q : Q (some (.int res.1)) res.2) : am_W (X_Model_shift (d + 2)) 147 [some (.ref 0), some (.int x1), some (.int x2), some (.int x3), some (.int x4), some (.int x5), some (.int x6)] [] h Q :=
  b_Model_shift_147 (d := (d + 2)) (k := (t_Model_shift_150_l q am_fu _ _ _ _ _ _ _ e))
theorem t_Model_shift_120 {d : Nat} {k113 : am_H → Int32 → Int32 → Int32 → Int32 → Int32 → Int32 → Option (Int32 × am_H)} {x1 : Int32} {x2 : Int32} {x3 : Int32} {x4 : Int32} {x5 : Int32} {x6 : Int32} {h : am_H} {Q : am_Q} {res : Int32 × am_H} (hk113 : ∀ (x1 : Int32) (x2 : Int32) (x3 : Int32) (x4 : Int32) (x5 : Int32) (x6 : Int32) (h : am_H), k113 h x1 x2 x3 x4 x5 x6 = some res → am_W (X_Model_shift (d + 2)) 113 [some (.ref 0), some (.int x1), some (.int x2), some (.int x3), some (.int x4), some (.int x5), some (.int x6)] [] h Q) (e : f_Model_shift_120 k113 h x1 x2 x3 x4 x5 x6 = some res) (q : Q (some (.int res.1)) res.2) : am_W (X_Model_shift (d + 2)) 120 [some (.ref 0), some (.int x1), some (.int x2), some (.int x3), some (.int x4), some (.int x5), some (.int x6)] [] h Q :=
  b_Model_shift_120 (d := (d + 2)) (q0 := (am_okv (am_gd e))) (q1 := (am_okv (am_gd (am_ga e)))) (k := (hk113 _ _ _ _ _ _ _ (am_ga (am_ga e))))
theorem t_Model_shift_113 {d : Nat} {k113 : am_H → Int32 → Int32 → Int32 → Int32 → Int32 → Int32 → Option (Int32 × am_H)} {x1 : Int32} {x2 : Int32} {x3 : Int32} {x4 : Int32} {x5 : Int32} {x6 : Int32} {h : am_H} {Q : am_Q} {res : Int32 × am_H} (hk113 : ∀ (x1 : Int32) (x2 : Int32) (x3 : Int32) (x4 : Int32) (x5 : Int32) (x6 : Int32) (h : am_H), k113 h x1 x2 x3 x4 x5 x6 = some res → am_W (X_Model_shift (d + 2)) 113 [some (.ref 0), some (.int x1), some (.int x2), some (.int x3), some (.int x4), some (.int x5), some (.int x6)] [] h Q) (e : f_Model_shift_113 k113 h x1 x2 x3 x4 x5 x6 = some res) (q : Q (some (.int res.1)) res.2) : am_W (X_Model_shift (d + 2)) 113 [some (.ref 0), some (.int x1), some (.int x2), some (.int x3), some (.int x4), some (.int x5), some (.int x6)] [] h Q :=
  b_Model_shift_113 (d := (d + 2)) (kt := fun c => (t_Model_shift_147 (am_ift e c) q)) (kf := fun c => (t_Model_shift_120 hk113 (am_ife e c) q))
theorem t_Model_shift_113_l {d : Nat} {Q : am_Q} {res : Int32 × am_H} (q : Q (some (.int res.1)) res.2) : ∀ (n : Nat) (x1 : Int32) (x2 : Int32) (x3 : Int32) (x4 : Int32) (x5 : Int32) (x6 : Int32) (h : am_H), f_Model_shift_113_l n h x1 x2 x3 x4 x5 x6 = some res → am_W (X_Model_shift (d + 2)) 113 [some (.ref 0), some (.int x1), some (.int x2), some (.int x3), some (.int x4), some (.int x5), some (.int x6)] [] h Q := by
  intro n
  induction n with
  | zero => intro x1 x2 x3 x4 x5 x6 h e; exact am_nn e
  | succ n ih => intro x1 x2 x3 x4 x5 x6 h e; exact t_Model_shift_113 (fun x1 x2 x3 x4 x5 x6 h e => ih x1 x2 x3 x4 x5 x6 h  e) e q
theorem t_Model_shift_110 {d : Nat} {x1 : Int32} {x2 : Int32} {x3 : Int32} {x4 : Int32} {x5 : Int32} {h : am_H} {Q : am_Q} {res : Int32 × am_H} (e : f_Model_shift_110 h x1 x2 x3 x4 x5 = some res) (q : Q (some (.int res.1)) res.2) : am_W (X_Model_shift (d + 2)) 110 [some (.ref 0), some (.int x1), some (.int x2), some (.int x3), some (.int x4), some (.int x5), none] [] h Q :=
  b_Model_shift_110 (d := (d + 2)) (k := (t_Model_shift_113_l q am_fu _ _ _ _ _ _ _ e))
theorem t_Model_shift_93 {d : Nat} {x1 : Int32} {x2 : Int32} {x3 : Int32} {x4 : Int32} {x5 : Int32} {h : am_H} {Q : am_Q} {res : Int32 × am_H} (e : f_Model_shift_93 h x1 x2 x3 x4 x5 = some res) (q : Q (some (.int res.1)) res.2) : am_W (X_Model_shift (d + 2)) 93 [some (.ref 0), some (.int x1), some (.int x2), some (.int x3), some (.int x4), some (.int x5), none] [] h Q :=
  b_Model_shift_93 (d := (d + 2)) (q0 := (am_okv (am_gd e))) (kt := fun c => (t_Model_shift_110 (am_ift (am_ga e) c) q)) (kf := fun c => (t_Model_shift_107 (am_ife (am_ga e) c) q))
theorem t_Model_shift_80 {d : Nat} {x1 : Int32} {x2 : Int32} {x3 : Int32} {x4 : Int32} {x5 : Int32} {h : am_H} {Q : am_Q} {res : Int32 × am_H} (e : f_Model_shift_80 h x1 x2 x3 x4 x5 = some res) (q : Q (some (.int res.1)) res.2) : am_W (X_Model_shift (d + 2)) 80 [some (.ref 0), some (.int x1), some (.int x2), some (.int x3), some (.int x4), some (.int x5), none] [] h Q :=
  b_Model_shift_80 (d := (d + 2)) (q0 := (am_okv (am_gd e))) (kt := fun c => (t_Model_shift_107 (am_ift (am_ga e) c) q)) (kf := fun c => (t_Model_shift_93 (am_ife (am_ga e) c) q))
theorem t_Model_shift_75 {d : Nat} {x1 : Int32} {x2 : Int32} {x3 : Int32} {x4 : Int32} {x5 : Int32} {h : am_H} {Q : am_Q} {res : Int32 × am_H} (e : f_Model_shift_75 h x1 x2 x3 x4 x5 = some res) (q : Q (some (.int res.1)) res.2) : am_W (X_Model_shift (d + 2)) 75 [some (.ref 0), some (.int x1), some (.int x2), some (.int x3), some (.int x4), some (.int x5), none] [] h Q :=
  b_Model_shift_75 (d := (d + 2)) (kt := fun c => (t_Model_shift_107 (am_ift e c) q)) (kf := fun c => (t_Model_shift_80 (am_ife e c) q))
theorem t_Model_shift_71 {d : Nat} {x1 : Int32} {x2 : Int32} {x3 : Int32} {x4 : Int32} {x5 : Int32} {h : am_H} {Q : am_Q} {res : Int32 × am_H} (e : f_Model_shift_71 h x1 x2 x3 x4 x5 = some res) (q : Q (some (.int res.1)) res.2) : am_W (X_Model_shift (d + 2)) 71 [some (.ref 0), some (.int x1), some (.int x2), some (.int x3), some (.int x4), some (.int x5), none] [] h Q :=
  b_Model_shift_71 (d := (d + 2)) (kt := fun c => (t_Model_shift_107 (am_ift e c) q)) (kf := fun c => (t_Model_shift_75 (am_ife e c) q))
theorem t_Model_shift_66 {d : Nat} {x1 : Int32} {x2 : Int32} {x3 : Int32} {x4 : Int32} {x5 : Int32} {h : am_H} {Q : am_Q} {res : Int32 × am_H} (e : f_Model_shift_66 h x1 x2 x3 x4 x5 = some res) (q : Q (some (.int res.1)) res.2) : am_W (X_Model_shift (d + 2)) 66 [some (.ref 0), some (.int x1), some (.int x2), some (.int x3), some (.int x4), some (.int x5), none] [] h Q :=
  b_Model_shift_66 (d := (d + 2)) (kt := fun c => (t_Model_shift_107 (am_ift e c) q)) (kf := fun c => (t_Model_shift_71 (am_ife e c) q))
theorem t_Model_shift_48 {d : Nat} {x1 : Int32} {x2 : Int32} {x3 : Int32} {x4 : Int32} {x5 : Int32} {h : am_H} {Q : am_Q} {res : Int32 × am_H} (e : f_Model_shift_48 h x1 x2 x3 x4 x5 = some res) (q : Q (some (.int res.1)) res.2) : am_W (X_Model_shift (d + 2)) 48 [some (.ref 0), some (.int x1), some (.int x2), some (.int x3), some (.int x4), some (.int x5), none] [] h Q :=
  b_Model_shift_48 (d := (d + 2)) (q0 := (am_okv (am_gd e))) (q1 := (am_okv (am_gd (am_ga e)))) (kt := fun c => (t_Model_shift_66 (am_ift (am_ga (am_ga e)) c) q)) (kf := fun c => (t_Model_shift_63 (am_ife (am_ga (am_ga e)) c) q))
theorem t_Model_shift_37 {d : Nat} {x1 : Int32} {x2 : Int32} {x3 : Int32} {x4 : Int32} {x5 : Int32} {h : am_H} {Q : am_Q} {res : Int32 × am_H} (e : f_Model_shift_37 h x1 x2 x3 x4 x5 = some res) (q : Q (some (.int res.1)) res.2) : am_W (X_Model_shift (d + 2)) 37 [some (.ref 0), some (.int x1), some (.int x2), some (.int x3), some (.int x4), some (.int x5), none] [] h Q :=
  b_Model_shift_37 (d := (d + 2)) (q0 := (am_okv (am_gd e))) (kt := fun c => (t_Model_shift_63 (am_ift (am_ga e) c) q)) (kf := fun c => (t_Model_shift_48 (am_ife (am_ga e) c) q))
theorem t_Model_shift_25 {d : Nat} {x1 : Int32} {x2 : Int32} {x3 : Int32} {x4 : Int32} {x5 : Int32} {h : am_H} {Q : am_Q} {res : Int32 × am_H} (e : f_Model_shift_25 h x1 x2 x3 x4 x5 = some res) (q : Q (some (.int res.1)) res.2) : am_W (X_Model_shift (d + 2)) 25 [some (.ref 0), some (.int x1), some (.int x2), some (.int x3), some (.int x4), some (.int x5), none] [] h Q :=
  b_Model_shift_25 (d := (d + 2)) (q0 := (am_okv (am_gd e))) (kt := fun c => (t_Model_shift_37 (am_ift (am_ga e) c) q)) (kf := fun c => (t_Model_shift_34 (am_ife (am_ga e) c) q))
theorem t_Model_shift_16 {d : Nat} {x1 : Int32} {x2 : Int32} {x3 : Int32} {x4 : Int32} {x5 : Int32} {h : am_H} {Q : am_Q} {res : Int32 × am_H} (e : f_Model_shift_16 h x1 x2 x3 x4 x5 = some res) (q : Q (some (.int res.1)) res.2) : am_W (X_Model_shift (d + 2)) 16 [some (.ref 0), some (.int x1), some (.int x2), some (.int x3), some (.int x4), some (.int x5), none] [] h Q :=
  b_Model_shift_16 (d := (d + 2)) (q0 := (am_okv (am_gd e))) (kt := fun c => (t_Model_shift_34 (am_ift (am_ga e) c) q)) (kf := fun c => (t_Model_shift_25 (am_ife (am_ga e) c) q))
theorem t_Model_shift_11 {d : Nat} {x1 : Int32} {x2 : Int32} {x3 : Int32} {x4 : Int32} {x5 : Int32} {y0 : Bool} {h : am_H} {Q : am_Q} {res : Int32 × am_H} (e : f_Model_shift_11 h x1 x2 x3 x4 x5 y0 = some res) (q : Q (some (.int res.1)) res.2) : am_W (X_Model_shift (d + 2)) 11 [some (.ref 0), some (.int x1), some (.int x2), some (.int x3), some (.int x4), some (.int x5), none] [.int (am_b y0)] h Q :=
  b_Model_shift_11 (d := (d + 2)) (kt := fun c => (t_Model_shift_16 (am_ift e (am_bn c)) q)) (kf := fun c => (t_Model_shift_14 (am_iff e (am_bz c)) q))
theorem t_Model_shift_7 {d : Nat} {x1 : Int32} {x2 : Int32} {x3 : Int32} {x4 : Int32} {x5 : Int32} {h : am_H} {Q : am_Q} {res : Int32 × am_H} (e : f_Model_shift_7 h x1 x2 x3 x4 x5 = some res) (q : Q (some (.int res.1)) res.2) : am_W (X_Model_shift (d + 2)) 7 [some (.ref 0), some (.int x1), some (.int x2), some (.int x3), some (.int x4), some (.int x5), none] [] h Q :=
  b_Model_shift_7 (d := (d + 1)) (k := c_Model_isShelf (d := d) rfl (t_Model_shift_11 e q))
theorem t_Model_shift_4 {d : Nat} {x1 : Int32} {x2 : Int32} {x3 : Int32} {x4 : Int32} {x5 : Int32} {y0 : Bool} {h : am_H} {Q : am_Q} {res : Int32 × am_H} (e : f_Model_shift_4 h x1 x2 x3 x4 x5 y0 = some res) (q : Q (some (.int res.1)) res.2) : am_W (X_Model_shift (d + 2)) 4 [some (.ref 0), some (.int x1), some (.int x2), some (.int x3), some (.int x4), some (.int x5), none] [.int (am_b y0)] h Q :=
  b_Model_shift_4 (d := (d + 2)) (kt := fun c => (t_Model_shift_14 (am_iff e (am_bz c)) q)) (kf := fun c => (t_Model_shift_7 (am_ift e (am_bn c)) q))
theorem t_Model_shift_0 {d : Nat} {x1 : Int32} {x2 : Int32} {x3 : Int32} {x4 : Int32} {x5 : Int32} {h : am_H} {Q : am_Q} {res : Int32 × am_H} (e : f_Model_shift h x1 x2 x3 x4 x5 = some res) (q : Q (some (.int res.1)) res.2) : am_W (X_Model_shift (d + 2)) 0 [some (.ref 0), some (.int x1), some (.int x2), some (.int x3), some (.int x4), some (.int x5), none] [] h Q :=
  b_Model_shift_0 (d := (d + 1)) (k := c_Model_isShelf (d := d) rfl (t_Model_shift_4 e q))
theorem c_Model_shift {d : Nat} {x1 : Int32} {x2 : Int32} {x3 : Int32} {x4 : Int32} {x5 : Int32} {h : am_H} {Q : am_Q} {res : Int32 × am_H} (e : f_Model_shift h x1 x2 x3 x4 x5 = some res) (q : Q (some (.int res.1)) res.2) : m_Model_shift (d + 2) [.ref 0, .int x1, .int x2, .int x3, .int x4, .int x5] h Q :=
  e_Model_shift (t_Model_shift_0 e q)
theorem d_Model_taken_0 : decode prog_12_method_95_code 0 = .ok (.iload_n 1, 1) := by decide +kernel
theorem d_Model_taken_1 : decode prog_12_method_95_code 1 = .ok (.invokestatic 103, 3) := by decide +kernel
theorem d_Model_taken_4 : decode prog_12_method_95_code 4 = .ok (.ifCond .eq 15, 3) := by decide +kernel
theorem d_Model_taken_7 : decode prog_12_method_95_code 7 = .ok (.iload_n 2, 1) := by decide +kernel
theorem d_Model_taken_8 : decode prog_12_method_95_code 8 = .ok (.i2l, 1) := by decide +kernel
theorem d_Model_taken_9 : decode prog_12_method_95_code 9 = .ok (.lconst 0, 1) := by decide +kernel
theorem d_Model_taken_10 : decode prog_12_method_95_code 10 = .ok (.ldc2_w 304, 3) := by decide +kernel
theorem d_Model_taken_13 : decode prog_12_method_95_code 13 = .ok (.invokestatic 83, 3) := by decide +kernel
theorem d_Model_taken_16 : decode prog_12_method_95_code 16 = .ok (.ifCond .ne 5, 3) := by decide +kernel
theorem d_Model_taken_19 : decode prog_12_method_95_code 19 = .ok (.iconst (-1), 1) := by decide +kernel
theorem d_Model_taken_20 : decode prog_12_method_95_code 20 = .ok (.ireturn, 1) := by decide +kernel
theorem d_Model_taken_21 : decode prog_12_method_95_code 21 = .ok (.aload_n 0, 1) := by decide +kernel
theorem d_Model_taken_22 : decode prog_12_method_95_code 22 = .ok (.getfield 58, 3) := by decide +kernel
theorem d_Model_taken_25 : decode prog_12_method_95_code 25 = .ok (.iload_n 1, 1) := by decide +kernel
theorem d_Model_taken_26 : decode prog_12_method_95_code 26 = .ok (.iaload, 1) := by decide +kernel
theorem d_Model_taken_27 : decode prog_12_method_95_code 27 = .ok (.ifCond .ge 6, 3) := by decide +kernel
theorem d_Model_taken_30 : decode prog_12_method_95_code 30 = .ok (.bipush (-11), 2) := by decide +kernel
theorem d_Model_taken_32 : decode prog_12_method_95_code 32 = .ok (.ireturn, 1) := by decide +kernel
theorem d_Model_taken_33 : decode prog_12_method_95_code 33 = .ok (.aload_n 0, 1) := by decide +kernel
theorem d_Model_taken_34 : decode prog_12_method_95_code 34 = .ok (.getfield 58, 3) := by decide +kernel
theorem d_Model_taken_37 : decode prog_12_method_95_code 37 = .ok (.iload_n 1, 1) := by decide +kernel
theorem d_Model_taken_38 : decode prog_12_method_95_code 38 = .ok (.iaload, 1) := by decide +kernel
theorem d_Model_taken_39 : decode prog_12_method_95_code 39 = .ok (.bipush 50, 2) := by decide +kernel
theorem d_Model_taken_41 : decode prog_12_method_95_code 41 = .ok (.if_icmp .lt 6, 3) := by decide +kernel
theorem d_Model_taken_44 : decode prog_12_method_95_code 44 = .ok (.bipush (-12), 2) := by decide +kernel
theorem d_Model_taken_46 : decode prog_12_method_95_code 46 = .ok (.ireturn, 1) := by decide +kernel
theorem d_Model_taken_47 : decode prog_12_method_95_code 47 = .ok (.aload_n 0, 1) := by decide +kernel
theorem d_Model_taken_48 : decode prog_12_method_95_code 48 = .ok (.aload_n 0, 1) := by decide +kernel
theorem d_Model_taken_49 : decode prog_12_method_95_code 49 = .ok (.getfield 58, 3) := by decide +kernel
theorem d_Model_taken_52 : decode prog_12_method_95_code 52 = .ok (.iload_n 1, 1) := by decide +kernel
theorem d_Model_taken_53 : decode prog_12_method_95_code 53 = .ok (.iaload, 1) := by decide +kernel
theorem d_Model_taken_54 : decode prog_12_method_95_code 54 = .ok (.invokevirtual 342, 3) := by decide +kernel
theorem d_Model_taken_57 : decode prog_12_method_95_code 57 = .ok (.istore_n 3, 1) := by decide +kernel
theorem d_Model_taken_58 : decode prog_12_method_95_code 58 = .ok (.iload_n 3, 1) := by decide +kernel
theorem d_Model_taken_59 : decode prog_12_method_95_code 59 = .ok (.iload_n 2, 1) := by decide +kernel
theorem d_Model_taken_60 : decode prog_12_method_95_code 60 = .ok (.if_icmp .eq 15, 3) := by decide +kernel
theorem d_Model_taken_63 : decode prog_12_method_95_code 63 = .ok (.iload_n 3, 1) := by decide +kernel
theorem d_Model_taken_64 : decode prog_12_method_95_code 64 = .ok (.ifCond .le 11, 3) := by decide +kernel
theorem d_Model_taken_67 : decode prog_12_method_95_code 67 = .ok (.iload_n 3, 1) := by decide +kernel
theorem d_Model_taken_68 : decode prog_12_method_95_code 68 = .ok (.invokestatic 345, 3) := by decide +kernel
theorem d_Model_taken_71 : decode prog_12_method_95_code 71 = .ok (.istore_n 3, 1) := by decide +kernel
theorem d_Model_taken_72 : decode prog_12_method_95_code 72 = .ok (.goto (-14), 3) := by decide +kernel
theorem d_Model_taken_75 : decode prog_12_method_95_code 75 = .ok (.iload_n 3, 1) := by decide +kernel
theorem d_Model_taken_76 : decode prog_12_method_95_code 76 = .ok (.iload_n 2, 1) := by decide +kernel
theorem d_Model_taken_77 : decode prog_12_method_95_code 77 = .ok (.if_icmp .ne 16, 3) := by decide +kernel
theorem d_Model_taken_80 : decode prog_12_method_95_code 80 = .ok (.aload_n 0, 1) := by decide +kernel
theorem d_Model_taken_81 : decode prog_12_method_95_code 81 = .ok (.aload_n 0, 1) := by decide +kernel
theorem d_Model_taken_82 : decode prog_12_method_95_code 82 = .ok (.getfield 58, 3) := by decide +kernel
theorem d_Model_taken_85 : decode prog_12_method_95_code 85 = .ok (.iload_n 1, 1) := by decide +kernel
theorem d_Model_taken_86 : decode prog_12_method_95_code 86 = .ok (.iaload, 1) := by decide +kernel
theorem d_Model_taken_87 : decode prog_12_method_95_code 87 = .ok (.invokevirtual 342, 3) := by decide +kernel
theorem d_Model_taken_90 : decode prog_12_method_95_code 90 = .ok (.goto 5, 3) := by decide +kernel
theorem d_Model_taken_93 : decode prog_12_method_95_code 93 = .ok (.bipush (-12), 2) := by decide +kernel
theorem d_Model_taken_95 : decode prog_12_method_95_code 95 = .ok (.ireturn, 1) := by decide +kernel
theorem b_Model_taken_0 {d : Nat} {x1 : Int32} {x2 : Int32} {h : am_H} {Q : am_Q} (k : m_Model_isShelf d [.int x1] h (fun r hh => am_W (X_Model_taken (d + 1)) 4 [some (.ref 0), some (.int x1), some (.int x2), none] (r.toList ++ []) hh Q)) : am_W (X_Model_taken (d + 1)) 0 [some (.ref 0), some (.int x1), some (.int x2), none] [] h Q :=
  am_iload_n d_Model_taken_0 rfl (i := 1) rfl <|
    am_callS (vs := [.int x1]) (st := []) rfl d_Model_taken_1 w_1455 w_1456 w_94 w_1457 p_Model_isShelf (Nat.le_of_ble_eq_true rfl) (Nat.le_of_ble_eq_true rfl) rfl k
theorem b_Model_taken_4 {d : Nat} {x1 : Int32} {x2 : Int32} {y0 : Bool} {h : am_H} {Q : am_Q} (kt : (am_b y0) = 0 → am_W (X_Model_taken d) 19 [some (.ref 0), some (.int x1), some (.int x2), none] [] h Q) (kf : ¬ (am_b y0) = 0 → am_W (X_Model_taken d) 7 [some (.ref 0), some (.int x1), some (.int x2), none] [] h Q) : am_W (X_Model_taken d) 4 [some (.ref 0), some (.int x1), some (.int x2), none] [.int (am_b y0)] h Q :=
  am_if_eq (tgt := 19) d_Model_taken_4 (by decide) kt kf
theorem b_Model_taken_7 {d : Nat} {x1 : Int32} {x2 : Int32} {h : am_H} {Q : am_Q} (k : m_Model_within d [.long x2.toInt64, .long 0, .long 7] h (fun r hh => am_W (X_Model_taken (d + 1)) 16 [some (.ref 0), some (.int x1), some (.int x2), none] (r.toList ++ []) hh Q)) : am_W (X_Model_taken (d + 1)) 7 [some (.ref 0), some (.int x1), some (.int x2), none] [] h Q :=
  am_iload_n d_Model_taken_7 rfl (i := 2) rfl <|
    am_i2l d_Model_taken_8 <|
    am_lconst (v := 0) d_Model_taken_9 (by decide) <|
    am_ldc2 (v := 7) d_Model_taken_10 w_1737 <|
    am_callS (vs := [.long x2.toInt64, .long 0, .long 7]) (st := []) rfl d_Model_taken_13 w_1443 w_1444 w_94 w_1445 p_Model_within (Nat.le_of_ble_eq_true rfl) (Nat.le_of_ble_eq_true rfl) rfl k
theorem b_Model_taken_16 {d : Nat} {x1 : Int32} {x2 : Int32} {y0 : Bool} {h : am_H} {Q : am_Q} (kt : ¬ (am_b y0) = 0 → am_W (X_Model_taken d) 21 [some (.ref 0), some (.int x1), some (.int x2), none] [] h Q) (kf : (am_b y0) = 0 → am_W (X_Model_taken d) 19 [some (.ref 0), some (.int x1), some (.int x2), none] [] h Q) : am_W (X_Model_taken d) 16 [some (.ref 0), some (.int x1), some (.int x2), none] [.int (am_b y0)] h Q :=
  am_if_ne (tgt := 21) d_Model_taken_16 (by decide) kt kf
theorem b_Model_taken_19 {d : Nat} {x1 : Int32} {x2 : Int32} {h : am_H} {Q : am_Q} (q : Q (some (.int (-1))) h) : am_W (X_Model_taken d) 19 [some (.ref 0), some (.int x1), some (.int x2), none] [] h Q :=
  am_iconst (v := (-1)) d_Model_taken_19 (by decide) <|
    am_iret rfl d_Model_taken_20 q
theorem b_Model_taken_21 {d : Nat} {x1 : Int32} {x2 : Int32} {h : am_H} {Q : am_Q} (q0 : vp_in x1 6) (kt : 0 ≤ (h.1 16 x1.toNatClampNeg) → am_W (X_Model_taken d) 33 [some (.ref 0), some (.int x1), some (.int x2), none] [] h Q) (kf : ¬ 0 ≤ (h.1 16 x1.toNatClampNeg) → am_W (X_Model_taken d) 30 [some (.ref 0), some (.int x1), some (.int x2), none] [] h Q) : am_W (X_Model_taken d) 21 [some (.ref 0), some (.int x1), some (.int x2), none] [] h Q :=
  am_aload_n d_Model_taken_21 rfl (i := 0) rfl <|
    am_getR (ci := 10) (i := 32) rfl rfl rfl (Nat.le_of_ble_eq_true rfl) w_1350 d_Model_taken_22 <|
    am_iload_n d_Model_taken_25 rfl (i := 1) rfl <|
    am_iald rfl q0 d_Model_taken_26 <|
    am_if_ge (tgt := 33) d_Model_taken_27 (by decide) kt kf
theorem b_Model_taken_30 {d : Nat} {x1 : Int32} {x2 : Int32} {h : am_H} {Q : am_Q} (q : Q (some (.int (-11))) h) : am_W (X_Model_taken d) 30 [some (.ref 0), some (.int x1), some (.int x2), none] [] h Q :=
  am_bipush (v := (-11)) d_Model_taken_30 (by decide) <|
    am_iret rfl d_Model_taken_32 q
theorem b_Model_taken_33 {d : Nat} {x1 : Int32} {x2 : Int32} {h : am_H} {Q : am_Q} (q0 : vp_in x1 6) (kt : (h.1 16 x1.toNatClampNeg) < 50 → am_W (X_Model_taken d) 47 [some (.ref 0), some (.int x1), some (.int x2), none] [] h Q) (kf : ¬ (h.1 16 x1.toNatClampNeg) < 50 → am_W (X_Model_taken d) 44 [some (.ref 0), some (.int x1), some (.int x2), none] [] h Q) : am_W (X_Model_taken d) 33 [some (.ref 0), some (.int x1), some (.int x2), none] [] h Q :=
  am_aload_n d_Model_taken_33 rfl (i := 0) rfl <|
    am_getR (ci := 10) (i := 32) rfl rfl rfl (Nat.le_of_ble_eq_true rfl) w_1350 d_Model_taken_34 <|
    am_iload_n d_Model_taken_37 rfl (i := 1) rfl <|
    am_iald rfl q0 d_Model_taken_38 <|
    am_bipush (v := 50) d_Model_taken_39 (by decide) <|
    am_icmp_lt (tgt := 47) d_Model_taken_41 (by decide) kt kf
theorem b_Model_taken_44 {d : Nat} {x1 : Int32} {x2 : Int32} {h : am_H} {Q : am_Q} (q : Q (some (.int (-12))) h) : am_W (X_Model_taken d) 44 [some (.ref 0), some (.int x1), some (.int x2), none] [] h Q :=
  am_bipush (v := (-12)) d_Model_taken_44 (by decide) <|
    am_iret rfl d_Model_taken_46 q
theorem b_Model_taken_47 {d : Nat} {x1 : Int32} {x2 : Int32} {h : am_H} {Q : am_Q} (q0 : vp_in x1 6) (k : m_Model_kindOf d [.ref 0, .int (h.1 16 x1.toNatClampNeg)] h (fun r hh => am_W (X_Model_taken (d + 1)) 57 [some (.ref 0), some (.int x1), some (.int x2), none] (r.toList ++ []) hh Q)) : am_W (X_Model_taken (d + 1)) 47 [some (.ref 0), some (.int x1), some (.int x2), none] [] h Q :=
  am_aload_n d_Model_taken_47 rfl (i := 0) rfl <|
    am_aload_n d_Model_taken_48 rfl (i := 0) rfl <|
    am_getR (ci := 10) (i := 32) rfl rfl rfl (Nat.le_of_ble_eq_true rfl) w_1350 d_Model_taken_49 <|
    am_iload_n d_Model_taken_52 rfl (i := 1) rfl <|
    am_iald rfl q0 d_Model_taken_53 <|
    am_callV (vs := [.int (h.1 16 x1.toNatClampNeg)]) (st := []) (k := 0) (ci := 10) rfl d_Model_taken_54 rfl rfl w_1801 w_1803 w_80 w_94 w_1804 p_Model_kindOf (Nat.le_of_ble_eq_true rfl) (Nat.le_of_ble_eq_true rfl) rfl k
theorem b_Model_taken_57 {d : Nat} {x1 : Int32} {x2 : Int32} {y0 : Int32} {h : am_H} {Q : am_Q} (k : am_W (X_Model_taken d) 58 [some (.ref 0), some (.int x1), some (.int x2), some (.int y0)] [] h Q) : am_W (X_Model_taken d) 57 [some (.ref 0), some (.int x1), some (.int x2), none] [.int y0] h Q :=
  am_istore_n (ls' := [some (.ref 0), some (.int x1), some (.int x2), some (.int y0)]) d_Model_taken_57 rfl (Nat.le_of_ble_eq_true rfl) rfl <|
    k
theorem b_Model_taken_58 {d : Nat} {x1 : Int32} {x2 : Int32} {x3 : Int32} {h : am_H} {Q : am_Q} (kt : x3 = x2 → am_W (X_Model_taken d) 75 [some (.ref 0), some (.int x1), some (.int x2), some (.int x3)] [] h Q) (kf : ¬ x3 = x2 → am_W (X_Model_taken d) 63 [some (.ref 0), some (.int x1), some (.int x2), some (.int x3)] [] h Q) : am_W (X_Model_taken d) 58 [some (.ref 0), some (.int x1), some (.int x2), some (.int x3)] [] h Q :=
  am_iload_n d_Model_taken_58 rfl (i := 3) rfl <|
    am_iload_n d_Model_taken_59 rfl (i := 2) rfl <|
    am_icmp_eq (tgt := 75) d_Model_taken_60 (by decide) kt kf
theorem b_Model_taken_63 {d : Nat} {x1 : Int32} {x2 : Int32} {x3 : Int32} {h : am_H} {Q : am_Q} (kt : x3 ≤ 0 → am_W (X_Model_taken d) 75 [some (.ref 0), some (.int x1), some (.int x2), some (.int x3)] [] h Q) (kf : ¬ x3 ≤ 0 → am_W (X_Model_taken d) 67 [some (.ref 0), some (.int x1), some (.int x2), some (.int x3)] [] h Q) : am_W (X_Model_taken d) 63 [some (.ref 0), some (.int x1), some (.int x2), some (.int x3)] [] h Q :=
  am_iload_n d_Model_taken_63 rfl (i := 3) rfl <|
    am_if_le (tgt := 75) d_Model_taken_64 (by decide) kt kf
theorem b_Model_taken_67 {d : Nat} {x1 : Int32} {x2 : Int32} {x3 : Int32} {h : am_H} {Q : am_Q} (k : m_Model_above d [.int x3] h (fun r hh => am_W (X_Model_taken (d + 1)) 71 [some (.ref 0), some (.int x1), some (.int x2), some (.int x3)] (r.toList ++ []) hh Q)) : am_W (X_Model_taken (d + 1)) 67 [some (.ref 0), some (.int x1), some (.int x2), some (.int x3)] [] h Q :=
  am_iload_n d_Model_taken_67 rfl (i := 3) rfl <|
    am_callS (vs := [.int x3]) (st := []) rfl d_Model_taken_68 w_1805 w_1806 w_94 w_1807 p_Model_above (Nat.le_of_ble_eq_true rfl) (Nat.le_of_ble_eq_true rfl) rfl k
theorem b_Model_taken_71 {d : Nat} {x1 : Int32} {x2 : Int32} {x3 : Int32} {y0 : Int32} {h : am_H} {Q : am_Q} (k : am_W (X_Model_taken d) 58 [some (.ref 0), some (.int x1), some (.int x2), some (.int y0)] [] h Q) : am_W (X_Model_taken d) 71 [some (.ref 0), some (.int x1), some (.int x2), some (.int x3)] [.int y0] h Q :=
  am_istore_n (ls' := [some (.ref 0), some (.int x1), some (.int x2), some (.int y0)]) d_Model_taken_71 rfl (Nat.le_of_ble_eq_true rfl) rfl <|
    am_goto (tgt := 58) d_Model_taken_72 (by decide) k
theorem b_Model_taken_75 {d : Nat} {x1 : Int32} {x2 : Int32} {x3 : Int32} {h : am_H} {Q : am_Q} (kt : ¬ x3 = x2 → am_W (X_Model_taken d) 93 [some (.ref 0), some (.int x1), some (.int x2), some (.int x3)] [] h Q) (kf : x3 = x2 → am_W (X_Model_taken d) 80 [some (.ref 0), some (.int x1), some (.int x2), some (.int x3)] [] h Q) : am_W (X_Model_taken d) 75 [some (.ref 0), some (.int x1), some (.int x2), some (.int x3)] [] h Q :=
  am_iload_n d_Model_taken_75 rfl (i := 3) rfl <|
    am_iload_n d_Model_taken_76 rfl (i := 2) rfl <|
    am_icmp_ne (tgt := 93) d_Model_taken_77 (by decide) kt kf
theorem b_Model_taken_80 {d : Nat} {x1 : Int32} {x2 : Int32} {x3 : Int32} {h : am_H} {Q : am_Q} (q0 : vp_in x1 6) (k : m_Model_kindOf d [.ref 0, .int (h.1 16 x1.toNatClampNeg)] h (fun r hh => am_W (X_Model_taken (d + 1)) 90 [some (.ref 0), some (.int x1), some (.int x2), some (.int x3)] (r.toList ++ []) hh Q)) : am_W (X_Model_taken (d + 1)) 80 [some (.ref 0), some (.int x1), some (.int x2), some (.int x3)] [] h Q :=
  am_aload_n d_Model_taken_80 rfl (i := 0) rfl <|
    am_aload_n d_Model_taken_81 rfl (i := 0) rfl <|
    am_getR (ci := 10) (i := 32) rfl rfl rfl (Nat.le_of_ble_eq_true rfl) w_1350 d_Model_taken_82 <|
    am_iload_n d_Model_taken_85 rfl (i := 1) rfl <|
    am_iald rfl q0 d_Model_taken_86 <|
    am_callV (vs := [.int (h.1 16 x1.toNatClampNeg)]) (st := []) (k := 0) (ci := 10) rfl d_Model_taken_87 rfl rfl w_1801 w_1803 w_80 w_94 w_1804 p_Model_kindOf (Nat.le_of_ble_eq_true rfl) (Nat.le_of_ble_eq_true rfl) rfl k
theorem b_Model_taken_90 {d : Nat} {x1 : Int32} {x2 : Int32} {x3 : Int32} {y0 : Int32} {h : am_H} {Q : am_Q} (q : Q (some (.int y0)) h) : am_W (X_Model_taken d) 90 [some (.ref 0), some (.int x1), some (.int x2), some (.int x3)] [.int y0] h Q :=
  am_goto (tgt := 95) d_Model_taken_90 (by decide) <|
    am_iret rfl d_Model_taken_95 q
theorem b_Model_taken_93 {d : Nat} {x1 : Int32} {x2 : Int32} {x3 : Int32} {h : am_H} {Q : am_Q} (q : Q (some (.int (-12))) h) : am_W (X_Model_taken d) 93 [some (.ref 0), some (.int x1), some (.int x2), some (.int x3)] [] h Q :=
  am_bipush (v := (-12)) d_Model_taken_93 (by decide) <|
    am_iret rfl d_Model_taken_95 q
theorem t_Model_taken_19 {d : Nat} {x1 : Int32} {x2 : Int32} {h : am_H} {Q : am_Q} {res : Int32} (e : f_Model_taken_19 h = some res) (q : Q (some (.int res)) h) : am_W (X_Model_taken (d + 2)) 19 [some (.ref 0), some (.int x1), some (.int x2), none] [] h Q :=
  b_Model_taken_19 (d := (d + 2)) (q := (am_rIp (v := (-1)) e q))
theorem t_Model_taken_93 {d : Nat} {x1 : Int32} {x2 : Int32} {x3 : Int32} {h : am_H} {Q : am_Q} {res : Int32} (e : f_Model_taken_93 h = some res) (q : Q (some (.int res)) h) : am_W (X_Model_taken (d + 2)) 93 [some (.ref 0), some (.int x1), some (.int x2), some (.int x3)] [] h Q :=
  b_Model_taken_93 (d := (d + 2)) (q := (am_rIp (v := (-12)) e q))
theorem t_Model_taken_90 {d : Nat} {x1 : Int32} {x2 : Int32} {x3 : Int32} {y0 : Int32} {h : am_H} {Q : am_Q} {res : Int32} (e : f_Model_taken_90 h y0 = some res) (q : Q (some (.int res)) h) : am_W (X_Model_taken (d + 2)) 90 [some (.ref 0), some (.int x1), some (.int x2), some (.int x3)] [.int y0] h Q :=
  b_Model_taken_90 (d := (d + 2)) (q := (am_rIp (v := y0) e q))
theorem t_Model_taken_80 {d : Nat} {x1 : Int32} {x2 : Int32} {x3 : Int32} {h : am_H} {Q : am_Q} {res : Int32} (e : f_Model_taken_80 h x1 = some res) (q : Q (some (.int res)) h) : am_W (X_Model_taken (d + 2)) 80 [some (.ref 0), some (.int x1), some (.int x2), some (.int x3)] [] h Q :=
  (am_bd (am_ga e)).elim fun p hp => b_Model_taken_80 (d := (d + 1)) (q0 := (am_okv (am_gd e))) (k := c_Model_kindOf (d := d + 1) hp.1 (t_Model_taken_90 hp.2 q))
theorem t_Model_taken_75 {d : Nat} {x1 : Int32} {x2 : Int32} {x3 : Int32} {h : am_H} {Q : am_Q} {res : Int32} (e : f_Model_taken_75 h x1 x2 x3 = some res) (q : Q (some (.int res)) h) : am_W (X_Model_taken (d + 2)) 75 [some (.ref 0), some (.int x1), some (.int x2), some (.int x3)] [] h Q :=
  b_Model_taken_75 (d := (d + 2)) (kt := fun c => (t_Model_taken_93 (am_ife e c) q)) (kf := fun c => (t_Model_taken_80 (am_ift e c) q))
theorem t_Model_taken_71 {d : Nat} {k58 : Int32 → Int32 → Int32 → Option (Int32)} {x1 : Int32} {x2 : Int32} {x3 : Int32} {y0 : Int32} {h : am_H} {Q : am_Q} {res : Int32} (hk58 : ∀ (x1 : Int32) (x2 : Int32) (x3 : Int32), k58 x1 x2 x3 = some res → am_W (X_Model_taken (d + 2)) 58 [some (.ref 0), some (.int x1), some (.int x2), some (.int x3)] [] h Q) (e : f_Model_taken_71 k58 h x1 x2 y0 = some res) (q : Q (some (.int res)) h) : am_W (X_Model_taken (d + 2)) 71 [some (.ref 0), some (.int x1), some (.int x2), some (.int x3)] [.int y0] h Q :=
  b_Model_taken_71 (d := (d + 2)) (k := (hk58 _ _ _ e))
theorem t_Model_taken_67 {d : Nat} {k58 : Int32 → Int32 → Int32 → Option (Int32)} {x1 : Int32} {x2 : Int32} {x3 : Int32} {h : am_H} {Q : am_Q} {res : Int32} (hk58 : ∀ (x1 : Int32) (x2 : Int32) (x3 : Int32), k58 x1 x2 x3 = some res → am_W (X_Model_taken (d + 2)) 58 [some (.ref 0), some (.int x1), some (.int x2), some (.int x3)] [] h Q) (e : f_Model_taken_67 k58 h x1 x2 x3 = some res) (q : Q (some (.int res)) h) : am_W (X_Model_taken (d + 2)) 67 [some (.ref 0), some (.int x1), some (.int x2), some (.int x3)] [] h Q :=
  b_Model_taken_67 (d := (d + 1)) (k := c_Model_above (d := d + 1) rfl (t_Model_taken_71 hk58 e q))
theorem t_Model_taken_63 {d : Nat} {k58 : Int32 → Int32 → Int32 → Option (Int32)} {x1 : Int32} {x2 : Int32} {x3 : Int32} {h : am_H} {Q : am_Q} {res : Int32} (hk58 : ∀ (x1 : Int32) (x2 : Int32) (x3 : Int32), k58 x1 x2 x3 = some res → am_W (X_Model_taken (d + 2)) 58 [some (.ref 0), some (.int x1), some (.int x2), some (.int x3)] [] h Q) (e : f_Model_taken_63 k58 h x1 x2 x3 = some res) (q : Q (some (.int res)) h) : am_W (X_Model_taken (d + 2)) 63 [some (.ref 0), some (.int x1), some (.int x2), some (.int x3)] [] h Q :=
  b_Model_taken_63 (d := (d + 2)) (kt := fun c => (t_Model_taken_75 (am_ift e c) q)) (kf := fun c => (t_Model_taken_67 hk58 (am_ife e c) q))
theorem t_Model_taken_58 {d : Nat} {k58 : Int32 → Int32 → Int32 → Option (Int32)} {x1 : Int32} {x2 : Int32} {x3 : Int32} {h : am_H} {Q : am_Q} {res : Int32} (hk58 : ∀ (x1 : Int32) (x2 : Int32) (x3 : Int32), k58 x1 x2 x3 = some res → am_W (X_Model_taken (d + 2)) 58 [some (.ref 0), some (.int x1), some (.int x2), some (.int x3)] [] h Q) (e : f_Model_taken_58 k58 h x1 x2 x3 = some res) (q : Q (some (.int res)) h) : am_W (X_Model_taken (d + 2)) 58 [some (.ref 0), some (.int x1), some (.int x2), some (.int x3)] [] h Q :=
  b_Model_taken_58 (d := (d + 2)) (kt := fun c => (t_Model_taken_75 (am_ift e c) q)) (kf := fun c => (t_Model_taken_63 hk58 (am_ife e c) q))
theorem t_Model_taken_58_l {d : Nat} {h : am_H} {Q : am_Q} {res : Int32} (q : Q (some (.int res)) h) : ∀ (n : Nat) (x1 : Int32) (x2 : Int32) (x3 : Int32), f_Model_taken_58_l h n x1 x2 x3 = some res → am_W (X_Model_taken (d + 2)) 58 [some (.ref 0), some (.int x1), some (.int x2), some (.int x3)] [] h Q := by
  intro n
  induction n with
  | zero => intro x1 x2 x3 e; exact am_nn e
  | succ n ih => intro x1 x2 x3 e; exact t_Model_taken_58 (fun x1 x2 x3 e => ih x1 x2 x3  e) e q
theorem t_Model_taken_57 {d : Nat} {x1 : Int32} {x2 : Int32} {y0 : Int32} {h : am_H} {Q : am_Q} {res : Int32} (e : f_Model_taken_57 h x1 x2 y0 = some res) (q : Q (some (.int res)) h) : am_W (X_Model_taken (d + 2)) 57 [some (.ref 0), some (.int x1), some (.int x2), none] [.int y0] h Q :=
  b_Model_taken_57 (d := (d + 2)) (k := (t_Model_taken_58_l q am_fu _ _ _ e))
theorem t_Model_taken_47 {d : Nat} {x1 : Int32} {x2 : Int32} {h : am_H} {Q : am_Q} {res : Int32} (e : f_Model_taken_47 h x1 x2 = some res) (q : Q (some (.int res)) h) : am_W (X_Model_taken (d + 2)) 47 [some (.ref 0), some (.int x1), some (.int x2), none] [] h Q :=
  (am_bd (am_ga e)).elim fun p hp => b_Model_taken_47 (d := (d + 1)) (q0 := (am_okv (am_gd e))) (k := c_Model_kindOf (d := d + 1) hp.1 (t_Model_taken_57 hp.2 q))
theorem t_Model_taken_44 {d : Nat} {x1 : Int32} {x2 : Int32} {h : am_H} {Q : am_Q} {res : Int32} (e : f_Model_taken_44 h = some res) (q : Q (some (.int res)) h) : am_W (X_Model_taken (d + 2)) 44 [some (.ref 0), some (.int x1), some (.int x2), none] [] h Q :=
  b_Model_taken_44 (d := (d + 2)) (q := (am_rIp (v := (-12)) e q))
theorem t_Model_taken_33 {d : Nat} {x1 : Int32} {x2 : Int32} {h : am_H} {Q : am_Q} {res : Int32} (e : f_Model_taken_33 h x1 x2 = some res) (q : Q (some (.int res)) h) : am_W (X_Model_taken (d + 2)) 33 [some (.ref 0), some (.int x1), some (.int x2), none] [] h Q :=
  b_Model_taken_33 (d := (d + 2)) (q0 := (am_okv (am_gd e))) (kt := fun c => (t_Model_taken_47 (am_ift (am_ga e) c) q)) (kf := fun c => (t_Model_taken_44 (am_ife (am_ga e) c) q))
theorem t_Model_taken_30 {d : Nat} {x1 : Int32} {x2 : Int32} {h : am_H} {Q : am_Q} {res : Int32} (e : f_Model_taken_30 h = some res) (q : Q (some (.int res)) h) : am_W (X_Model_taken (d + 2)) 30 [some (.ref 0), some (.int x1), some (.int x2), none] [] h Q :=
  b_Model_taken_30 (d := (d + 2)) (q := (am_rIp (v := (-11)) e q))
theorem t_Model_taken_21 {d : Nat} {x1 : Int32} {x2 : Int32} {h : am_H} {Q : am_Q} {res : Int32} (e : f_Model_taken_21 h x1 x2 = some res) (q : Q (some (.int res)) h) : am_W (X_Model_taken (d + 2)) 21 [some (.ref 0), some (.int x1), some (.int x2), none] [] h Q :=
  b_Model_taken_21 (d := (d + 2)) (q0 := (am_okv (am_gd e))) (kt := fun c => (t_Model_taken_33 (am_ift (am_ga e) c) q)) (kf := fun c => (t_Model_taken_30 (am_ife (am_ga e) c) q))
theorem t_Model_taken_16 {d : Nat} {x1 : Int32} {x2 : Int32} {y0 : Bool} {h : am_H} {Q : am_Q} {res : Int32} (e : f_Model_taken_16 h x1 x2 y0 = some res) (q : Q (some (.int res)) h) : am_W (X_Model_taken (d + 2)) 16 [some (.ref 0), some (.int x1), some (.int x2), none] [.int (am_b y0)] h Q :=
  b_Model_taken_16 (d := (d + 2)) (kt := fun c => (t_Model_taken_21 (am_ift e (am_bn c)) q)) (kf := fun c => (t_Model_taken_19 (am_iff e (am_bz c)) q))
theorem t_Model_taken_7 {d : Nat} {x1 : Int32} {x2 : Int32} {h : am_H} {Q : am_Q} {res : Int32} (e : f_Model_taken_7 h x1 x2 = some res) (q : Q (some (.int res)) h) : am_W (X_Model_taken (d + 2)) 7 [some (.ref 0), some (.int x1), some (.int x2), none] [] h Q :=
  b_Model_taken_7 (d := (d + 1)) (k := c_Model_within (d := d + 1) rfl (t_Model_taken_16 e q))
theorem t_Model_taken_4 {d : Nat} {x1 : Int32} {x2 : Int32} {y0 : Bool} {h : am_H} {Q : am_Q} {res : Int32} (e : f_Model_taken_4 h x1 x2 y0 = some res) (q : Q (some (.int res)) h) : am_W (X_Model_taken (d + 2)) 4 [some (.ref 0), some (.int x1), some (.int x2), none] [.int (am_b y0)] h Q :=
  b_Model_taken_4 (d := (d + 2)) (kt := fun c => (t_Model_taken_19 (am_iff e (am_bz c)) q)) (kf := fun c => (t_Model_taken_7 (am_ift e (am_bn c)) q))
theorem t_Model_taken_0 {d : Nat} {x1 : Int32} {x2 : Int32} {h : am_H} {Q : am_Q} {res : Int32} (e : f_Model_taken h x1 x2 = some res) (q : Q (some (.int res)) h) : am_W (X_Model_taken (d + 2)) 0 [some (.ref 0), some (.int x1), some (.int x2), none] [] h Q :=
  b_Model_taken_0 (d := (d + 1)) (k := c_Model_isShelf (d := d) rfl (t_Model_taken_4 e q))
theorem c_Model_taken {d : Nat} {x1 : Int32} {x2 : Int32} {h : am_H} {Q : am_Q} {res : Int32} (e : f_Model_taken h x1 x2 = some res) (q : Q (some (.int res)) h) : m_Model_taken (d + 2) [.ref 0, .int x1, .int x2] h Q :=
  e_Model_taken (t_Model_taken_0 e q)
theorem d_Model_count_0 : decode prog_12_method_96_code 0 = .ok (.iload_n 1, 1) := by decide +kernel
theorem d_Model_count_1 : decode prog_12_method_96_code 1 = .ok (.tableswitch 80 0 6 #[43, 48, 54, 60, 65, 70, 75], 43) := by decide +kernel
theorem d_Model_count_44 : decode prog_12_method_96_code 44 = .ok (.aload_n 0, 1) := by decide +kernel
theorem d_Model_count_45 : decode prog_12_method_96_code 45 = .ok (.getfield 80, 3) := by decide +kernel
theorem d_Model_count_48 : decode prog_12_method_96_code 48 = .ok (.ireturn, 1) := by decide +kernel
theorem d_Model_count_49 : decode prog_12_method_96_code 49 = .ok (.aload_n 0, 1) := by decide +kernel
theorem d_Model_count_50 : decode prog_12_method_96_code 50 = .ok (.iconst 1, 1) := by decide +kernel
theorem d_Model_count_51 : decode prog_12_method_96_code 51 = .ok (.invokevirtual 348, 3) := by decide +kernel
theorem d_Model_count_54 : decode prog_12_method_96_code 54 = .ok (.ireturn, 1) := by decide +kernel
theorem d_Model_count_55 : decode prog_12_method_96_code 55 = .ok (.aload_n 0, 1) := by decide +kernel
theorem d_Model_count_56 : decode prog_12_method_96_code 56 = .ok (.iconst 0, 1) := by decide +kernel
theorem d_Model_count_57 : decode prog_12_method_96_code 57 = .ok (.invokevirtual 348, 3) := by decide +kernel
theorem d_Model_count_60 : decode prog_12_method_96_code 60 = .ok (.ireturn, 1) := by decide +kernel
theorem d_Model_count_61 : decode prog_12_method_96_code 61 = .ok (.aload_n 0, 1) := by decide +kernel
theorem d_Model_count_62 : decode prog_12_method_96_code 62 = .ok (.getfield 144, 3) := by decide +kernel
theorem d_Model_count_65 : decode prog_12_method_96_code 65 = .ok (.ireturn, 1) := by decide +kernel
theorem d_Model_count_66 : decode prog_12_method_96_code 66 = .ok (.aload_n 0, 1) := by decide +kernel
theorem d_Model_count_67 : decode prog_12_method_96_code 67 = .ok (.getfield 74, 3) := by decide +kernel
theorem d_Model_count_70 : decode prog_12_method_96_code 70 = .ok (.ireturn, 1) := by decide +kernel
theorem d_Model_count_71 : decode prog_12_method_96_code 71 = .ok (.aload_n 0, 1) := by decide +kernel
theorem d_Model_count_72 : decode prog_12_method_96_code 72 = .ok (.getfield 301, 3) := by decide +kernel
theorem d_Model_count_75 : decode prog_12_method_96_code 75 = .ok (.ireturn, 1) := by decide +kernel
theorem d_Model_count_76 : decode prog_12_method_96_code 76 = .ok (.aload_n 0, 1) := by decide +kernel
theorem d_Model_count_77 : decode prog_12_method_96_code 77 = .ok (.getfield 306, 3) := by decide +kernel
theorem d_Model_count_80 : decode prog_12_method_96_code 80 = .ok (.ireturn, 1) := by decide +kernel
theorem d_Model_count_81 : decode prog_12_method_96_code 81 = .ok (.iconst (-1), 1) := by decide +kernel
theorem d_Model_count_82 : decode prog_12_method_96_code 82 = .ok (.ireturn, 1) := by decide +kernel
theorem b_Model_count_0 {d : Nat} {x1 : Int32} {h : am_H} {Q : am_Q} (k0 : x1 = 0 → am_W (X_Model_count d) 44 [some (.ref 0), some (.int x1)] [] h Q) (k1 : x1 = 1 → am_W (X_Model_count d) 49 [some (.ref 0), some (.int x1)] [] h Q) (k2 : x1 = 2 → am_W (X_Model_count d) 55 [some (.ref 0), some (.int x1)] [] h Q) (k3 : x1 = 3 → am_W (X_Model_count d) 61 [some (.ref 0), some (.int x1)] [] h Q) (k4 : x1 = 4 → am_W (X_Model_count d) 66 [some (.ref 0), some (.int x1)] [] h Q) (k5 : x1 = 5 → am_W (X_Model_count d) 71 [some (.ref 0), some (.int x1)] [] h Q) (k6 : x1 = 6 → am_W (X_Model_count d) 76 [some (.ref 0), some (.int x1)] [] h Q) (kd : ¬ x1 = 0 → ¬ x1 = 1 → ¬ x1 = 2 → ¬ x1 = 3 → ¬ x1 = 4 → ¬ x1 = 5 → ¬ x1 = 6 → am_W (X_Model_count d) 81 [some (.ref 0), some (.int x1)] [] h Q) : am_W (X_Model_count d) 0 [some (.ref 0), some (.int x1)] [] h Q := by
  refine am_iload_n d_Model_count_0 rfl (i := 1) rfl ?_
  by_cases e0 : (x1 : Int32).toInt < 0 ∨ 6 < (x1 : Int32).toInt
  · exact am_tableOut (tgt := 81) d_Model_count_1 e0 (by decide) (kd (fun e => by rw [e] at e0; revert e0; decide) (fun e => by rw [e] at e0; revert e0; decide) (fun e => by rw [e] at e0; revert e0; decide) (fun e => by rw [e] at e0; revert e0; decide) (fun e => by rw [e] at e0; revert e0; decide) (fun e => by rw [e] at e0; revert e0; decide) (fun e => by rw [e] at e0; revert e0; decide))
  by_cases e1 : x1 = 0
  · exact am_tableIn (tgt := 44) (off := 43) d_Model_count_1 (fun e => e0 (Or.inl e)) (fun e => e0 (Or.inr e)) (by rw [e1]; decide +kernel) (by decide) (k0 e1)
  by_cases e2 : x1 = 1
  · exact am_tableIn (tgt := 49) (off := 48) d_Model_count_1 (fun e => e0 (Or.inl e)) (fun e => e0 (Or.inr e)) (by rw [e2]; decide +kernel) (by decide) (k1 e2)
  by_cases e3 : x1 = 2
  · exact am_tableIn (tgt := 55) (off := 54) d_Model_count_1 (fun e => e0 (Or.inl e)) (fun e => e0 (Or.inr e)) (by rw [e3]; decide +kernel) (by decide) (k2 e3)
  by_cases e4 : x1 = 3
  · exact am_tableIn (tgt := 61) (off := 60) d_Model_count_1 (fun e => e0 (Or.inl e)) (fun e => e0 (Or.inr e)) (by rw [e4]; decide +kernel) (by decide) (k3 e4)
  by_cases e5 : x1 = 4
  · exact am_tableIn (tgt := 66) (off := 65) d_Model_count_1 (fun e => e0 (Or.inl e)) (fun e => e0 (Or.inr e)) (by rw [e5]; decide +kernel) (by decide) (k4 e5)
  by_cases e6 : x1 = 5
  · exact am_tableIn (tgt := 71) (off := 70) d_Model_count_1 (fun e => e0 (Or.inl e)) (fun e => e0 (Or.inr e)) (by rw [e6]; decide +kernel) (by decide) (k5 e6)
  by_cases e7 : x1 = 6
  · exact am_tableIn (tgt := 76) (off := 75) d_Model_count_1 (fun e => e0 (Or.inl e)) (fun e => e0 (Or.inr e)) (by rw [e7]; decide +kernel) (by decide) (k6 e7)
  exfalso
  simp only [← Int32.toInt_inj] at e1 e2 e3 e4 e5 e6 e7
  simp only [Int32.reduceToInt] at e1 e2 e3 e4 e5 e6 e7
  omega
theorem b_Model_count_44 {d : Nat} {x1 : Int32} {h : am_H} {Q : am_Q} (q : Q (some (.int (h.1 0 6))) h) : am_W (X_Model_count d) 44 [some (.ref 0), some (.int x1)] [] h Q :=
  am_aload_n d_Model_count_44 rfl (i := 0) rfl <|
    am_getI (ci := 10) (i := 6) rfl rfl rfl (Nat.le_of_ble_eq_true rfl) w_1324 d_Model_count_45 <|
    am_iret rfl d_Model_count_48 q
theorem b_Model_count_49 {d : Nat} {x1 : Int32} {h : am_H} {Q : am_Q} (k : m_Model_cellsOf d [.ref 0, .int 1] h (fun r hh => am_W (X_Model_count (d + 1)) 54 [some (.ref 0), some (.int x1)] (r.toList ++ []) hh Q)) : am_W (X_Model_count (d + 1)) 49 [some (.ref 0), some (.int x1)] [] h Q :=
  am_aload_n d_Model_count_49 rfl (i := 0) rfl <|
    am_iconst (v := 1) d_Model_count_50 (by decide) <|
    am_callV (vs := [.int 1]) (st := []) (k := 0) (ci := 10) rfl d_Model_count_51 rfl rfl w_1812 w_1814 w_81 w_94 w_1815 p_Model_cellsOf (Nat.le_of_ble_eq_true rfl) (Nat.le_of_ble_eq_true rfl) rfl k
theorem b_Model_count_54 {d : Nat} {x1 : Int32} {y0 : Int32} {h : am_H} {Q : am_Q} (q : Q (some (.int y0)) h) : am_W (X_Model_count d) 54 [some (.ref 0), some (.int x1)] [.int y0] h Q :=
  am_iret rfl d_Model_count_54 q
theorem b_Model_count_55 {d : Nat} {x1 : Int32} {h : am_H} {Q : am_Q} (k : m_Model_cellsOf d [.ref 0, .int 0] h (fun r hh => am_W (X_Model_count (d + 1)) 60 [some (.ref 0), some (.int x1)] (r.toList ++ []) hh Q)) : am_W (X_Model_count (d + 1)) 55 [some (.ref 0), some (.int x1)] [] h Q :=
  am_aload_n d_Model_count_55 rfl (i := 0) rfl <|
    am_iconst (v := 0) d_Model_count_56 (by decide) <|
    am_callV (vs := [.int 0]) (st := []) (k := 0) (ci := 10) rfl d_Model_count_57 rfl rfl w_1812 w_1814 w_81 w_94 w_1815 p_Model_cellsOf (Nat.le_of_ble_eq_true rfl) (Nat.le_of_ble_eq_true rfl) rfl k
theorem b_Model_count_60 {d : Nat} {x1 : Int32} {y0 : Int32} {h : am_H} {Q : am_Q} (q : Q (some (.int y0)) h) : am_W (X_Model_count d) 60 [some (.ref 0), some (.int x1)] [.int y0] h Q :=
  am_iret rfl d_Model_count_60 q
theorem b_Model_count_61 {d : Nat} {x1 : Int32} {h : am_H} {Q : am_Q} (q : Q (some (.int (h.1 0 8))) h) : am_W (X_Model_count d) 61 [some (.ref 0), some (.int x1)] [] h Q :=
  am_aload_n d_Model_count_61 rfl (i := 0) rfl <|
    am_getI (ci := 10) (i := 8) rfl rfl rfl (Nat.le_of_ble_eq_true rfl) w_1326 d_Model_count_62 <|
    am_iret rfl d_Model_count_65 q
theorem b_Model_count_66 {d : Nat} {x1 : Int32} {h : am_H} {Q : am_Q} (q : Q (some (.int (h.1 0 5))) h) : am_W (X_Model_count d) 66 [some (.ref 0), some (.int x1)] [] h Q :=
  am_aload_n d_Model_count_66 rfl (i := 0) rfl <|
    am_getI (ci := 10) (i := 5) rfl rfl rfl (Nat.le_of_ble_eq_true rfl) w_1323 d_Model_count_67 <|
    am_iret rfl d_Model_count_70 q
theorem b_Model_count_71 {d : Nat} {x1 : Int32} {h : am_H} {Q : am_Q} (q : Q (some (.int (h.1 0 26))) h) : am_W (X_Model_count d) 71 [some (.ref 0), some (.int x1)] [] h Q :=
  am_aload_n d_Model_count_71 rfl (i := 0) rfl <|
    am_getI (ci := 10) (i := 26) rfl rfl rfl (Nat.le_of_ble_eq_true rfl) w_1344 d_Model_count_72 <|
    am_iret rfl d_Model_count_75 q
theorem b_Model_count_76 {d : Nat} {x1 : Int32} {h : am_H} {Q : am_Q} (q : Q (some (.int (h.1 0 29))) h) : am_W (X_Model_count d) 76 [some (.ref 0), some (.int x1)] [] h Q :=
  am_aload_n d_Model_count_76 rfl (i := 0) rfl <|
    am_getI (ci := 10) (i := 29) rfl rfl rfl (Nat.le_of_ble_eq_true rfl) w_1347 d_Model_count_77 <|
    am_iret rfl d_Model_count_80 q
theorem b_Model_count_81 {d : Nat} {x1 : Int32} {h : am_H} {Q : am_Q} (q : Q (some (.int (-1))) h) : am_W (X_Model_count d) 81 [some (.ref 0), some (.int x1)] [] h Q :=
  am_iconst (v := (-1)) d_Model_count_81 (by decide) <|
    am_iret rfl d_Model_count_82 q
theorem t_Model_count_44 {d : Nat} {x1 : Int32} {h : am_H} {Q : am_Q} {res : Int32} (e : f_Model_count_44 h = some res) (q : Q (some (.int res)) h) : am_W (X_Model_count (d + 3)) 44 [some (.ref 0), some (.int x1)] [] h Q :=
  b_Model_count_44 (d := (d + 3)) (q := (am_rIp (v := (h.1 0 6)) e q))
theorem t_Model_count_54 {d : Nat} {x1 : Int32} {y0 : Int32} {h : am_H} {Q : am_Q} {res : Int32} (e : f_Model_count_54 h y0 = some res) (q : Q (some (.int res)) h) : am_W (X_Model_count (d + 3)) 54 [some (.ref 0), some (.int x1)] [.int y0] h Q :=
  b_Model_count_54 (d := (d + 3)) (q := (am_rIp (v := y0) e q))
theorem t_Model_count_49 {d : Nat} {x1 : Int32} {h : am_H} {Q : am_Q} {res : Int32} (e : f_Model_count_49 h = some res) (q : Q (some (.int res)) h) : am_W (X_Model_count (d + 3)) 49 [some (.ref 0), some (.int x1)] [] h Q :=
  (am_bd e).elim fun p hp => b_Model_count_49 (d := (d + 2)) (k := c_Model_cellsOf (d := d) hp.1 (t_Model_count_54 hp.2 q))
theorem t_Model_count_60 {d : Nat} {x1 : Int32} {y0 : Int32} {h : am_H} {Q : am_Q} {res : Int32} (e : f_Model_count_60 h y0 = some res) (q : Q (some (.int res)) h) : am_W (X_Model_count (d + 3)) 60 [some (.ref 0), some (.int x1)] [.int y0] h Q :=
  b_Model_count_60 (d := (d + 3)) (q := (am_rIp (v := y0) e q))
theorem t_Model_count_55 {d : Nat} {x1 : Int32} {h : am_H} {Q : am_Q} {res : Int32} (e : f_Model_count_55 h = some res) (q : Q (some (.int res)) h) : am_W (X_Model_count (d + 3)) 55 [some (.ref 0), some (.int x1)] [] h Q :=
  (am_bd e).elim fun p hp => b_Model_count_55 (d := (d + 2)) (k := c_Model_cellsOf (d := d) hp.1 (t_Model_count_60 hp.2 q))
theorem t_Model_count_61 {d : Nat} {x1 : Int32} {h : am_H} {Q : am_Q} {res : Int32} (e : f_Model_count_61 h = some res) (q : Q (some (.int res)) h) : am_W (X_Model_count (d + 3)) 61 [some (.ref 0), some (.int x1)] [] h Q :=
  b_Model_count_61 (d := (d + 3)) (q := (am_rIp (v := (h.1 0 8)) e q))
theorem t_Model_count_66 {d : Nat} {x1 : Int32} {h : am_H} {Q : am_Q} {res : Int32} (e : f_Model_count_66 h = some res) (q : Q (some (.int res)) h) : am_W (X_Model_count (d + 3)) 66 [some (.ref 0), some (.int x1)] [] h Q :=
  b_Model_count_66 (d := (d + 3)) (q := (am_rIp (v := (h.1 0 5)) e q))
theorem t_Model_count_71 {d : Nat} {x1 : Int32} {h : am_H} {Q : am_Q} {res : Int32} (e : f_Model_count_71 h = some res) (q : Q (some (.int res)) h) : am_W (X_Model_count (d + 3)) 71 [some (.ref 0), some (.int x1)] [] h Q :=
  b_Model_count_71 (d := (d + 3)) (q := (am_rIp (v := (h.1 0 26)) e q))
theorem t_Model_count_76 {d : Nat} {x1 : Int32} {h : am_H} {Q : am_Q} {res : Int32} (e : f_Model_count_76 h = some res) (q : Q (some (.int res)) h) : am_W (X_Model_count (d + 3)) 76 [some (.ref 0), some (.int x1)] [] h Q :=
  b_Model_count_76 (d := (d + 3)) (q := (am_rIp (v := (h.1 0 29)) e q))
theorem t_Model_count_81 {d : Nat} {x1 : Int32} {h : am_H} {Q : am_Q} {res : Int32} (e : f_Model_count_81 h = some res) (q : Q (some (.int res)) h) : am_W (X_Model_count (d + 3)) 81 [some (.ref 0), some (.int x1)] [] h Q :=
  b_Model_count_81 (d := (d + 3)) (q := (am_rIp (v := (-1)) e q))
theorem t_Model_count_0 {d : Nat} {x1 : Int32} {h : am_H} {Q : am_Q} {res : Int32} (e : f_Model_count h x1 = some res) (q : Q (some (.int res)) h) : am_W (X_Model_count (d + 3)) 0 [some (.ref 0), some (.int x1)] [] h Q :=
  b_Model_count_0 (d := (d + 3)) (k0 := fun c => (t_Model_count_44 (am_ift e c) q)) (k1 := fun c => (t_Model_count_49 (am_ift (am_ife e (fun z => absurd (c.symm.trans z) (by decide))) c) q)) (k2 := fun c => (t_Model_count_55 (am_ift (am_ife (am_ife e (fun z => absurd (c.symm.trans z) (by decide))) (fun z => absurd (c.symm.trans z) (by decide))) c) q)) (k3 := fun c => (t_Model_count_61 (am_ift (am_ife (am_ife (am_ife e (fun z => absurd (c.symm.trans z) (by decide))) (fun z => absurd (c.symm.trans z) (by decide))) (fun z => absurd (c.symm.trans z) (by decide))) c) q)) (k4 := fun c => (t_Model_count_66 (am_ift (am_ife (am_ife (am_ife (am_ife e (fun z => absurd (c.symm.trans z) (by decide))) (fun z => absurd (c.symm.trans z) (by decide))) (fun z => absurd (c.symm.trans z) (by decide))) (fun z => absurd (c.symm.trans z) (by decide))) c) q)) (k5 := fun c => (t_Model_count_71 (am_ift (am_ife (am_ife (am_ife (am_ife (am_ife e (fun z => absurd (c.symm.trans z) (by decide))) (fun z => absurd (c.symm.trans z) (by decide))) (fun z => absurd (c.symm.trans z) (by decide))) (fun z => absurd (c.symm.trans z) (by decide))) (fun z => absurd (c.symm.trans z) (by decide))) c) q)) (k6 := fun c => (t_Model_count_76 (am_ift (am_ife (am_ife (am_ife (am_ife (am_ife (am_ife e (fun z => absurd (c.symm.trans z) (by decide))) (fun z => absurd (c.symm.trans z) (by decide))) (fun z => absurd (c.symm.trans z) (by decide))) (fun z => absurd (c.symm.trans z) (by decide))) (fun z => absurd (c.symm.trans z) (by decide))) (fun z => absurd (c.symm.trans z) (by decide))) c) q)) (kd := fun c0 c1 c2 c3 c4 c5 c6 => (t_Model_count_81 (am_ife (am_ife (am_ife (am_ife (am_ife (am_ife (am_ife e c0) c1) c2) c3) c4) c5) c6) q))
theorem c_Model_count {d : Nat} {x1 : Int32} {h : am_H} {Q : am_Q} {res : Int32} (e : f_Model_count h x1 = some res) (q : Q (some (.int res)) h) : m_Model_count (d + 3) [.ref 0, .int x1] h Q :=
  e_Model_count (t_Model_count_0 e q)
