theorem d_Model_atPin_0 : decode prog_12_method_54_code 0 = .ok (.iload_n 1, 1) := by decide +kernel
theorem d_Model_atPin_1 : decode prog_12_method_54_code 1 = .ok (.ifCond .lt 39, 3) := by decide +kernel
theorem d_Model_atPin_4 : decode prog_12_method_54_code 4 = .ok (.iload_n 1, 1) := by decide +kernel
theorem d_Model_atPin_5 : decode prog_12_method_54_code 5 = .ok (.bipush 10, 2) := by decide +kernel
theorem d_Model_atPin_7 : decode prog_12_method_54_code 7 = .ok (.idiv, 1) := by decide +kernel
theorem d_Model_atPin_8 : decode prog_12_method_54_code 8 = .ok (.bipush 18, 2) := by decide +kernel
theorem d_Model_atPin_10 : decode prog_12_method_54_code 10 = .ok (.if_icmp .gt 30, 3) := by decide +kernel
theorem d_Model_atPin_13 : decode prog_12_method_54_code 13 = .ok (.iload_n 1, 1) := by decide +kernel
theorem d_Model_atPin_14 : decode prog_12_method_54_code 14 = .ok (.bipush 10, 2) := by decide +kernel
theorem d_Model_atPin_16 : decode prog_12_method_54_code 16 = .ok (.irem, 1) := by decide +kernel
theorem d_Model_atPin_17 : decode prog_12_method_54_code 17 = .ok (.i2l, 1) := by decide +kernel
theorem d_Model_atPin_18 : decode prog_12_method_54_code 18 = .ok (.lconst 1, 1) := by decide +kernel
theorem d_Model_atPin_19 : decode prog_12_method_54_code 19 = .ok (.ldc2_w 239, 3) := by decide +kernel
theorem d_Model_atPin_22 : decode prog_12_method_54_code 22 = .ok (.invokestatic 83, 3) := by decide +kernel
theorem d_Model_atPin_25 : decode prog_12_method_54_code 25 = .ok (.ifCond .eq 15, 3) := by decide +kernel
theorem d_Model_atPin_28 : decode prog_12_method_54_code 28 = .ok (.iload_n 2, 1) := by decide +kernel
theorem d_Model_atPin_29 : decode prog_12_method_54_code 29 = .ok (.i2l, 1) := by decide +kernel
theorem d_Model_atPin_30 : decode prog_12_method_54_code 30 = .ok (.lconst 0, 1) := by decide +kernel
theorem d_Model_atPin_31 : decode prog_12_method_54_code 31 = .ok (.ldc2_w 239, 3) := by decide +kernel
theorem d_Model_atPin_34 : decode prog_12_method_54_code 34 = .ok (.invokestatic 83, 3) := by decide +kernel
theorem d_Model_atPin_37 : decode prog_12_method_54_code 37 = .ok (.ifCond .ne 7, 3) := by decide +kernel
theorem d_Model_atPin_40 : decode prog_12_method_54_code 40 = .ok (.ldc2_w 223, 3) := by decide +kernel
theorem d_Model_atPin_43 : decode prog_12_method_54_code 43 = .ok (.lreturn, 1) := by decide +kernel
theorem d_Model_atPin_44 : decode prog_12_method_54_code 44 = .ok (.aload_n 0, 1) := by decide +kernel
theorem d_Model_atPin_45 : decode prog_12_method_54_code 45 = .ok (.iload_n 1, 1) := by decide +kernel
theorem d_Model_atPin_46 : decode prog_12_method_54_code 46 = .ok (.bipush 10, 2) := by decide +kernel
theorem d_Model_atPin_48 : decode prog_12_method_54_code 48 = .ok (.idiv, 1) := by decide +kernel
theorem d_Model_atPin_49 : decode prog_12_method_54_code 49 = .ok (.bipush 9, 2) := by decide +kernel
theorem d_Model_atPin_51 : decode prog_12_method_54_code 51 = .ok (.isub, 1) := by decide +kernel
theorem d_Model_atPin_52 : decode prog_12_method_54_code 52 = .ok (.iload_n 1, 1) := by decide +kernel
theorem d_Model_atPin_53 : decode prog_12_method_54_code 53 = .ok (.bipush 10, 2) := by decide +kernel
theorem d_Model_atPin_55 : decode prog_12_method_54_code 55 = .ok (.irem, 1) := by decide +kernel
theorem d_Model_atPin_56 : decode prog_12_method_54_code 56 = .ok (.iconst 0, 1) := by decide +kernel
theorem d_Model_atPin_57 : decode prog_12_method_54_code 57 = .ok (.invokevirtual 258, 3) := by decide +kernel
theorem d_Model_atPin_60 : decode prog_12_method_54_code 60 = .ok (.istore_n 3, 1) := by decide +kernel
theorem d_Model_atPin_61 : decode prog_12_method_54_code 61 = .ok (.aload_n 0, 1) := by decide +kernel
theorem d_Model_atPin_62 : decode prog_12_method_54_code 62 = .ok (.iload_n 1, 1) := by decide +kernel
theorem d_Model_atPin_63 : decode prog_12_method_54_code 63 = .ok (.bipush 10, 2) := by decide +kernel
theorem d_Model_atPin_65 : decode prog_12_method_54_code 65 = .ok (.idiv, 1) := by decide +kernel
theorem d_Model_atPin_66 : decode prog_12_method_54_code 66 = .ok (.bipush 9, 2) := by decide +kernel
theorem d_Model_atPin_68 : decode prog_12_method_54_code 68 = .ok (.isub, 1) := by decide +kernel
theorem d_Model_atPin_69 : decode prog_12_method_54_code 69 = .ok (.iload_n 1, 1) := by decide +kernel
theorem d_Model_atPin_70 : decode prog_12_method_54_code 70 = .ok (.bipush 10, 2) := by decide +kernel
theorem d_Model_atPin_72 : decode prog_12_method_54_code 72 = .ok (.irem, 1) := by decide +kernel
theorem d_Model_atPin_73 : decode prog_12_method_54_code 73 = .ok (.iconst 1, 1) := by decide +kernel
theorem d_Model_atPin_74 : decode prog_12_method_54_code 74 = .ok (.invokevirtual 258, 3) := by decide +kernel
theorem d_Model_atPin_77 : decode prog_12_method_54_code 77 = .ok (.istore 4, 2) := by decide +kernel
theorem d_Model_atPin_79 : decode prog_12_method_54_code 79 = .ok (.iload_n 2, 1) := by decide +kernel
theorem d_Model_atPin_80 : decode prog_12_method_54_code 80 = .ok (.iconst 2, 1) := by decide +kernel
theorem d_Model_atPin_81 : decode prog_12_method_54_code 81 = .ok (.if_icmp .ne 15, 3) := by decide +kernel
theorem d_Model_atPin_84 : decode prog_12_method_54_code 84 = .ok (.iload 4, 2) := by decide +kernel
theorem d_Model_atPin_86 : decode prog_12_method_54_code 86 = .ok (.iload_n 3, 1) := by decide +kernel
theorem d_Model_atPin_87 : decode prog_12_method_54_code 87 = .ok (.if_icmp .le 7, 3) := by decide +kernel
theorem d_Model_atPin_90 : decode prog_12_method_54_code 90 = .ok (.lconst 1, 1) := by decide +kernel
theorem d_Model_atPin_91 : decode prog_12_method_54_code 91 = .ok (.goto 4, 3) := by decide +kernel
theorem d_Model_atPin_94 : decode prog_12_method_54_code 94 = .ok (.lconst 0, 1) := by decide +kernel
theorem d_Model_atPin_95 : decode prog_12_method_54_code 95 = .ok (.lreturn, 1) := by decide +kernel
theorem d_Model_atPin_96 : decode prog_12_method_54_code 96 = .ok (.iload 4, 2) := by decide +kernel
theorem d_Model_atPin_98 : decode prog_12_method_54_code 98 = .ok (.iload_n 3, 1) := by decide +kernel
theorem d_Model_atPin_99 : decode prog_12_method_54_code 99 = .ok (.if_icmp .le 9, 3) := by decide +kernel
theorem d_Model_atPin_102 : decode prog_12_method_54_code 102 = .ok (.iload 4, 2) := by decide +kernel
theorem d_Model_atPin_104 : decode prog_12_method_54_code 104 = .ok (.i2l, 1) := by decide +kernel
theorem d_Model_atPin_105 : decode prog_12_method_54_code 105 = .ok (.goto 5, 3) := by decide +kernel
theorem d_Model_atPin_108 : decode prog_12_method_54_code 108 = .ok (.iload_n 3, 1) := by decide +kernel
theorem d_Model_atPin_109 : decode prog_12_method_54_code 109 = .ok (.i2l, 1) := by decide +kernel
theorem d_Model_atPin_110 : decode prog_12_method_54_code 110 = .ok (.iload_n 1, 1) := by decide +kernel
theorem d_Model_atPin_111 : decode prog_12_method_54_code 111 = .ok (.bipush 10, 2) := by decide +kernel
theorem d_Model_atPin_113 : decode prog_12_method_54_code 113 = .ok (.irem, 1) := by decide +kernel
theorem d_Model_atPin_114 : decode prog_12_method_54_code 114 = .ok (.iconst 1, 1) := by decide +kernel
theorem d_Model_atPin_115 : decode prog_12_method_54_code 115 = .ok (.if_icmp .ne 9, 3) := by decide +kernel
theorem d_Model_atPin_118 : decode prog_12_method_54_code 118 = .ok (.ldc2_w 125, 3) := by decide +kernel
theorem d_Model_atPin_121 : decode prog_12_method_54_code 121 = .ok (.goto 6, 3) := by decide +kernel
theorem d_Model_atPin_124 : decode prog_12_method_54_code 124 = .ok (.ldc2_w 261, 3) := by decide +kernel
theorem d_Model_atPin_127 : decode prog_12_method_54_code 127 = .ok (.iload_n 2, 1) := by decide +kernel
theorem d_Model_atPin_128 : decode prog_12_method_54_code 128 = .ok (.invokestatic 229, 3) := by decide +kernel
theorem d_Model_atPin_131 : decode prog_12_method_54_code 131 = .ok (.lreturn, 1) := by decide +kernel
theorem b_Model_atPin_0 {d : Nat} {x1 : Int32} {x2 : Int32} {h : am_H} {Q : am_Q} (kt : x1 < 0 → am_W (X_Model_atPin d) 40 [some (.ref 0), some (.int x1), some (.int x2), none, none] [] h Q) (kf : ¬ x1 < 0 → am_W (X_Model_atPin d) 4 [some (.ref 0), some (.int x1), some (.int x2), none, none] [] h Q) : am_W (X_Model_atPin d) 0 [some (.ref 0), some (.int x1), some (.int x2), none, none] [] h Q :=
  am_iload_n d_Model_atPin_0 rfl (i := 1) rfl <|
    am_if_lt (tgt := 40) d_Model_atPin_1 (by decide) kt kf
theorem b_Model_atPin_4 {d : Nat} {x1 : Int32} {x2 : Int32} {h : am_H} {Q : am_Q} (kt : 18 < (x1 / 10) → am_W (X_Model_atPin d) 40 [some (.ref 0), some (.int x1), some (.int x2), none, none] [] h Q) (kf : ¬ 18 < (x1 / 10) → am_W (X_Model_atPin d) 13 [some (.ref 0), some (.int x1), some (.int x2), none, none] [] h Q) : am_W (X_Model_atPin d) 4 [some (.ref 0), some (.int x1), some (.int x2), none, none] [] h Q :=
  am_iload_n d_Model_atPin_4 rfl (i := 1) rfl <|
    am_bipush (v := 10) d_Model_atPin_5 (by decide) <|
    am_idiv d_Model_atPin_7 (by decide) <|
    am_bipush (v := 18) d_Model_atPin_8 (by decide) <|
    am_icmp_gt (tgt := 40) d_Model_atPin_10 (by decide) kt kf
theorem b_Model_atPin_13 {d : Nat} {x1 : Int32} {x2 : Int32} {h : am_H} {Q : am_Q} (k : m_Model_within d [.long ((x1 - x1 / 10 * 10).toInt64), .long 1, .long 2] h (fun r hh => am_W (X_Model_atPin (d + 1)) 25 [some (.ref 0), some (.int x1), some (.int x2), none, none] (r.toList ++ []) hh Q)) : am_W (X_Model_atPin (d + 1)) 13 [some (.ref 0), some (.int x1), some (.int x2), none, none] [] h Q :=
  am_iload_n d_Model_atPin_13 rfl (i := 1) rfl <|
    am_bipush (v := 10) d_Model_atPin_14 (by decide) <|
    am_irem d_Model_atPin_16 (by decide) <|
    am_i2l d_Model_atPin_17 <|
    am_lconst (v := 1) d_Model_atPin_18 (by decide) <|
    am_ldc2 (v := 2) d_Model_atPin_19 w_1616 <|
    am_callS (vs := [.long ((x1 - x1 / 10 * 10).toInt64), .long 1, .long 2]) (st := []) rfl d_Model_atPin_22 w_1443 w_1444 w_94 w_1445 p_Model_within (Nat.le_of_ble_eq_true rfl) (Nat.le_of_ble_eq_true rfl) rfl k
theorem b_Model_atPin_25 {d : Nat} {x1 : Int32} {x2 : Int32} {y0 : Bool} {h : am_H} {Q : am_Q} (kt : (am_b y0) = 0 → am_W (X_Model_atPin d) 40 [some (.ref 0), some (.int x1), some (.int x2), none, none] [] h Q) (kf : ¬ (am_b y0) = 0 → am_W (X_Model_atPin d) 28 [some (.ref 0), some (.int x1), some (.int x2), none, none] [] h Q) : am_W (X_Model_atPin d) 25 [some (.ref 0), some (.int x1), some (.int x2), none, none] [.int (am_b y0)] h Q :=
  am_if_eq (tgt := 40) d_Model_atPin_25 (by decide) kt kf
theorem b_Model_atPin_28 {d : Nat} {x1 : Int32} {x2 : Int32} {h : am_H} {Q : am_Q} (k : m_Model_within d [.long x2.toInt64, .long 0, .long 2] h (fun r hh => am_W (X_Model_atPin (d + 1)) 37 [some (.ref 0), some (.int x1), some (.int x2), none, none] (r.toList ++ []) hh Q)) : am_W (X_Model_atPin (d + 1)) 28 [some (.ref 0), some (.int x1), some (.int x2), none, none] [] h Q :=
  am_iload_n d_Model_atPin_28 rfl (i := 2) rfl <|
    am_i2l d_Model_atPin_29 <|
    am_lconst (v := 0) d_Model_atPin_30 (by decide) <|
    am_ldc2 (v := 2) d_Model_atPin_31 w_1616 <|
    am_callS (vs := [.long x2.toInt64, .long 0, .long 2]) (st := []) rfl d_Model_atPin_34 w_1443 w_1444 w_94 w_1445 p_Model_within (Nat.le_of_ble_eq_true rfl) (Nat.le_of_ble_eq_true rfl) rfl k
theorem b_Model_atPin_37 {d : Nat} {x1 : Int32} {x2 : Int32} {y0 : Bool} {h : am_H} {Q : am_Q} (kt : ¬ (am_b y0) = 0 → am_W (X_Model_atPin d) 44 [some (.ref 0), some (.int x1), some (.int x2), none, none] [] h Q) (kf : (am_b y0) = 0 → am_W (X_Model_atPin d) 40 [some (.ref 0), some (.int x1), some (.int x2), none, none] [] h Q) : am_W (X_Model_atPin d) 37 [some (.ref 0), some (.int x1), some (.int x2), none, none] [.int (am_b y0)] h Q :=
  am_if_ne (tgt := 44) d_Model_atPin_37 (by decide) kt kf
theorem b_Model_atPin_40 {d : Nat} {x1 : Int32} {x2 : Int32} {h : am_H} {Q : am_Q} (q : Q (some (.long (-9223372036854775808))) h) : am_W (X_Model_atPin d) 40 [some (.ref 0), some (.int x1), some (.int x2), none, none] [] h Q :=
  am_ldc2 (v := (-9223372036854775808)) d_Model_atPin_40 w_1573 <|
    am_lret rfl d_Model_atPin_43 q
theorem b_Model_atPin_44 {d : Nat} {x1 : Int32} {x2 : Int32} {h : am_H} {Q : am_Q} (k : m_Model_evenBy d [.ref 0, .int ((x1 / 10) - 9), .int (x1 - x1 / 10 * 10), .int 0] h (fun r hh => am_W (X_Model_atPin (d + 1)) 60 [some (.ref 0), some (.int x1), some (.int x2), none, none] (r.toList ++ []) hh Q)) : am_W (X_Model_atPin (d + 1)) 44 [some (.ref 0), some (.int x1), some (.int x2), none, none] [] h Q :=
  am_aload_n d_Model_atPin_44 rfl (i := 0) rfl <|
    am_iload_n d_Model_atPin_45 rfl (i := 1) rfl <|
    am_bipush (v := 10) d_Model_atPin_46 (by decide) <|
    am_idiv d_Model_atPin_48 (by decide) <|
    am_bipush (v := 9) d_Model_atPin_49 (by decide) <|
    am_isub d_Model_atPin_51 <|
    am_iload_n d_Model_atPin_52 rfl (i := 1) rfl <|
    am_bipush (v := 10) d_Model_atPin_53 (by decide) <|
    am_irem d_Model_atPin_55 (by decide) <|
    am_iconst (v := 0) d_Model_atPin_56 (by decide) <|
    am_callV (vs := [.int ((x1 / 10) - 9), .int (x1 - x1 / 10 * 10), .int 0]) (st := []) (k := 0) (ci := 10) rfl d_Model_atPin_57 rfl rfl w_1642 w_1644 w_62 w_94 w_1645 p_Model_evenBy (Nat.le_of_ble_eq_true rfl) (Nat.le_of_ble_eq_true rfl) rfl k
theorem b_Model_atPin_60 {d : Nat} {x1 : Int32} {x2 : Int32} {y0 : Int32} {h : am_H} {Q : am_Q} (k : m_Model_evenBy d [.ref 0, .int ((x1 / 10) - 9), .int (x1 - x1 / 10 * 10), .int 1] h (fun r hh => am_W (X_Model_atPin (d + 1)) 77 [some (.ref 0), some (.int x1), some (.int x2), some (.int y0), none] (r.toList ++ []) hh Q)) : am_W (X_Model_atPin (d + 1)) 60 [some (.ref 0), some (.int x1), some (.int x2), none, none] [.int y0] h Q :=
  am_istore_n (ls' := [some (.ref 0), some (.int x1), some (.int x2), some (.int y0), none]) d_Model_atPin_60 rfl (Nat.le_of_ble_eq_true rfl) rfl <|
    am_aload_n d_Model_atPin_61 rfl (i := 0) rfl <|
    am_iload_n d_Model_atPin_62 rfl (i := 1) rfl <|
    am_bipush (v := 10) d_Model_atPin_63 (by decide) <|
    am_idiv d_Model_atPin_65 (by decide) <|
    am_bipush (v := 9) d_Model_atPin_66 (by decide) <|
    am_isub d_Model_atPin_68 <|
    am_iload_n d_Model_atPin_69 rfl (i := 1) rfl <|
    am_bipush (v := 10) d_Model_atPin_70 (by decide) <|
    am_irem d_Model_atPin_72 (by decide) <|
    am_iconst (v := 1) d_Model_atPin_73 (by decide) <|
    am_callV (vs := [.int ((x1 / 10) - 9), .int (x1 - x1 / 10 * 10), .int 1]) (st := []) (k := 0) (ci := 10) rfl d_Model_atPin_74 rfl rfl w_1642 w_1644 w_62 w_94 w_1645 p_Model_evenBy (Nat.le_of_ble_eq_true rfl) (Nat.le_of_ble_eq_true rfl) rfl k
theorem b_Model_atPin_77 {d : Nat} {x1 : Int32} {x2 : Int32} {x3 : Int32} {y0 : Int32} {h : am_H} {Q : am_Q} (kt : ¬ x2 = 2 → am_W (X_Model_atPin d) 96 [some (.ref 0), some (.int x1), some (.int x2), some (.int x3), some (.int y0)] [] h Q) (kf : x2 = 2 → am_W (X_Model_atPin d) 84 [some (.ref 0), some (.int x1), some (.int x2), some (.int x3), some (.int y0)] [] h Q) : am_W (X_Model_atPin d) 77 [some (.ref 0), some (.int x1), some (.int x2), some (.int x3), none] [.int y0] h Q :=
  am_istore (ls' := [some (.ref 0), some (.int x1), some (.int x2), some (.int x3), some (.int y0)]) d_Model_atPin_77 (Nat.le_of_ble_eq_true rfl) rfl <|
    am_iload_n d_Model_atPin_79 rfl (i := 2) rfl <|
    am_iconst (v := 2) d_Model_atPin_80 (by decide) <|
    am_icmp_ne (tgt := 96) d_Model_atPin_81 (by decide) kt kf
theorem b_Model_atPin_84 {d : Nat} {x1 : Int32} {x2 : Int32} {x3 : Int32} {x4 : Int32} {h : am_H} {Q : am_Q} (kt : x4 ≤ x3 → am_W (X_Model_atPin d) 94 [some (.ref 0), some (.int x1), some (.int x2), some (.int x3), some (.int x4)] [] h Q) (kf : ¬ x4 ≤ x3 → am_W (X_Model_atPin d) 90 [some (.ref 0), some (.int x1), some (.int x2), some (.int x3), some (.int x4)] [] h Q) : am_W (X_Model_atPin d) 84 [some (.ref 0), some (.int x1), some (.int x2), some (.int x3), some (.int x4)] [] h Q :=
  am_iload d_Model_atPin_84 rfl <|
    am_iload_n d_Model_atPin_86 rfl (i := 3) rfl <|
    am_icmp_le (tgt := 94) d_Model_atPin_87 (by decide) kt kf
theorem b_Model_atPin_90 {d : Nat} {x1 : Int32} {x2 : Int32} {x3 : Int32} {x4 : Int32} {h : am_H} {Q : am_Q} (q : Q (some (.long 1)) h) : am_W (X_Model_atPin d) 90 [some (.ref 0), some (.int x1), some (.int x2), some (.int x3), some (.int x4)] [] h Q :=
  am_lconst (v := 1) d_Model_atPin_90 (by decide) <|
    am_goto (tgt := 95) d_Model_atPin_91 (by decide) <|
    am_lret rfl d_Model_atPin_95 q
theorem b_Model_atPin_94 {d : Nat} {x1 : Int32} {x2 : Int32} {x3 : Int32} {x4 : Int32} {h : am_H} {Q : am_Q} (q : Q (some (.long 0)) h) : am_W (X_Model_atPin d) 94 [some (.ref 0), some (.int x1), some (.int x2), some (.int x3), some (.int x4)] [] h Q :=
  am_lconst (v := 0) d_Model_atPin_94 (by decide) <|
    am_lret rfl d_Model_atPin_95 q
theorem b_Model_atPin_96 {d : Nat} {x1 : Int32} {x2 : Int32} {x3 : Int32} {x4 : Int32} {h : am_H} {Q : am_Q} (kt : x4 ≤ x3 → am_W (X_Model_atPin d) 108 [some (.ref 0), some (.int x1), some (.int x2), some (.int x3), some (.int x4)] [] h Q) (kf : ¬ x4 ≤ x3 → am_W (X_Model_atPin d) 102 [some (.ref 0), some (.int x1), some (.int x2), some (.int x3), some (.int x4)] [] h Q) : am_W (X_Model_atPin d) 96 [some (.ref 0), some (.int x1), some (.int x2), some (.int x3), some (.int x4)] [] h Q :=
  am_iload d_Model_atPin_96 rfl <|
    am_iload_n d_Model_atPin_98 rfl (i := 3) rfl <|
    am_icmp_le (tgt := 108) d_Model_atPin_99 (by decide) kt kf
theorem b_Model_atPin_102 {d : Nat} {x1 : Int32} {x2 : Int32} {x3 : Int32} {x4 : Int32} {h : am_H} {Q : am_Q} (k : am_W (X_Model_atPin d) 110 [some (.ref 0), some (.int x1), some (.int x2), some (.int x3), some (.int x4)] [.long x4.toInt64] h Q) : am_W (X_Model_atPin d) 102 [some (.ref 0), some (.int x1), some (.int x2), some (.int x3), some (.int x4)] [] h Q :=
  am_iload d_Model_atPin_102 rfl <|
    am_i2l d_Model_atPin_104 <|
    am_goto (tgt := 110) d_Model_atPin_105 (by decide) k
theorem b_Model_atPin_108 {d : Nat} {x1 : Int32} {x2 : Int32} {x3 : Int32} {x4 : Int32} {h : am_H} {Q : am_Q} (k : am_W (X_Model_atPin d) 110 [some (.ref 0), some (.int x1), some (.int x2), some (.int x3), some (.int x4)] [.long x3.toInt64] h Q) : am_W (X_Model_atPin d) 108 [some (.ref 0), some (.int x1), some (.int x2), some (.int x3), some (.int x4)] [] h Q :=
  am_iload_n d_Model_atPin_108 rfl (i := 3) rfl <|
    am_i2l d_Model_atPin_109 <|
    k
theorem b_Model_atPin_110 {d : Nat} {x1 : Int32} {x2 : Int32} {x3 : Int32} {x4 : Int32} {y0 : Int64} {h : am_H} {Q : am_Q} (kt : ¬ (x1 - x1 / 10 * 10) = 1 → am_W (X_Model_atPin d) 124 [some (.ref 0), some (.int x1), some (.int x2), some (.int x3), some (.int x4)] [.long y0] h Q) (kf : (x1 - x1 / 10 * 10) = 1 → am_W (X_Model_atPin d) 118 [some (.ref 0), some (.int x1), some (.int x2), some (.int x3), some (.int x4)] [.long y0] h Q) : am_W (X_Model_atPin d) 110 [some (.ref 0), some (.int x1), some (.int x2), some (.int x3), some (.int x4)] [.long y0] h Q :=
  am_iload_n d_Model_atPin_110 rfl (i := 1) rfl <|
    am_bipush (v := 10) d_Model_atPin_111 (by decide) <|
    am_irem d_Model_atPin_113 (by decide) <|
    am_iconst (v := 1) d_Model_atPin_114 (by decide) <|
    am_icmp_ne (tgt := 124) d_Model_atPin_115 (by decide) kt kf
theorem b_Model_atPin_118 {d : Nat} {x1 : Int32} {x2 : Int32} {x3 : Int32} {x4 : Int32} {y0 : Int64} {h : am_H} {Q : am_Q} (k : am_W (X_Model_atPin d) 127 [some (.ref 0), some (.int x1), some (.int x2), some (.int x3), some (.int x4)] [.long 12, .long y0] h Q) : am_W (X_Model_atPin d) 118 [some (.ref 0), some (.int x1), some (.int x2), some (.int x3), some (.int x4)] [.long y0] h Q :=
  am_ldc2 (v := 12) d_Model_atPin_118 w_1484 <|
    am_goto (tgt := 127) d_Model_atPin_121 (by decide) k
theorem b_Model_atPin_124 {d : Nat} {x1 : Int32} {x2 : Int32} {x3 : Int32} {x4 : Int32} {y0 : Int64} {h : am_H} {Q : am_Q} (k : am_W (X_Model_atPin d) 127 [some (.ref 0), some (.int x1), some (.int x2), some (.int x3), some (.int x4)] [.long 144, .long y0] h Q) : am_W (X_Model_atPin d) 124 [some (.ref 0), some (.int x1), some (.int x2), some (.int x3), some (.int x4)] [.long y0] h Q :=
  am_ldc2 (v := 144) d_Model_atPin_124 w_1650 <|
    k
theorem b_Model_atPin_127 {d : Nat} {x1 : Int32} {x2 : Int32} {x3 : Int32} {x4 : Int32} {y1 : Int64} {y0 : Int64} {h : am_H} {Q : am_Q} (k : m_Model_partOf d [.long y0, .long y1, .int x2] h (fun r hh => am_W (X_Model_atPin (d + 1)) 131 [some (.ref 0), some (.int x1), some (.int x2), some (.int x3), some (.int x4)] (r.toList ++ []) hh Q)) : am_W (X_Model_atPin (d + 1)) 127 [some (.ref 0), some (.int x1), some (.int x2), some (.int x3), some (.int x4)] [.long y1, .long y0] h Q :=
  am_iload_n d_Model_atPin_127 rfl (i := 2) rfl <|
    am_callS (vs := [.long y0, .long y1, .int x2]) (st := []) rfl d_Model_atPin_128 w_1590 w_1591 w_94 w_1592 p_Model_partOf (Nat.le_of_ble_eq_true rfl) (Nat.le_of_ble_eq_true rfl) rfl k
theorem b_Model_atPin_131 {d : Nat} {x1 : Int32} {x2 : Int32} {x3 : Int32} {x4 : Int32} {y0 : Int64} {h : am_H} {Q : am_Q} (q : Q (some (.long y0)) h) : am_W (X_Model_atPin d) 131 [some (.ref 0), some (.int x1), some (.int x2), some (.int x3), some (.int x4)] [.long y0] h Q :=
  am_lret rfl d_Model_atPin_131 q
theorem t_Model_atPin_40 {d : Nat} {x1 : Int32} {x2 : Int32} {h : am_H} {Q : am_Q} {res : Int64} (e : f_Model_atPin_40 h = some res) (q : Q (some (.long res)) h) : am_W (X_Model_atPin (d + 65)) 40 [some (.ref 0), some (.int x1), some (.int x2), none, none] [] h Q :=
  b_Model_atPin_40 (d := (d + 65)) (q := (am_rJp (v := (-9223372036854775808)) e q))
theorem t_Model_atPin_131 {d : Nat} {x1 : Int32} {x2 : Int32} {x3 : Int32} {x4 : Int32} {y0 : Int64} {h : am_H} {Q : am_Q} {res : Int64} (e : f_Model_atPin_131 h y0 = some res) (q : Q (some (.long res)) h) : am_W (X_Model_atPin (d + 65)) 131 [some (.ref 0), some (.int x1), some (.int x2), some (.int x3), some (.int x4)] [.long y0] h Q :=
  b_Model_atPin_131 (d := (d + 65)) (q := (am_rJp (v := y0) e q))
theorem t_Model_atPin_127 {d : Nat} {x1 : Int32} {x2 : Int32} {x3 : Int32} {x4 : Int32} {y1 : Int64} {y0 : Int64} {h : am_H} {Q : am_Q} {res : Int64} (e : f_Model_atPin_127 h x2 y1 y0 = some res) (q : Q (some (.long res)) h) : am_W (X_Model_atPin (d + 65)) 127 [some (.ref 0), some (.int x1), some (.int x2), some (.int x3), some (.int x4)] [.long y1, .long y0] h Q :=
  (am_bd e).elim fun p hp => b_Model_atPin_127 (d := (d + 64)) (k := c_Model_partOf (d := d + 63) hp.1 (t_Model_atPin_131 hp.2 q))
theorem t_Model_atPin_124 {d : Nat} {x1 : Int32} {x2 : Int32} {x3 : Int32} {x4 : Int32} {y0 : Int64} {h : am_H} {Q : am_Q} {res : Int64} (e : f_Model_atPin_124 h x2 y0 = some res) (q : Q (some (.long res)) h) : am_W (X_Model_atPin (d + 65)) 124 [some (.ref 0), some (.int x1), some (.int x2), some (.int x3), some (.int x4)] [.long y0] h Q :=
  b_Model_atPin_124 (d := (d + 65)) (k := (t_Model_atPin_127 e q))
theorem t_Model_atPin_118 {d : Nat} {x1 : Int32} {x2 : Int32} {x3 : Int32} {x4 : Int32} {y0 : Int64} {h : am_H} {Q : am_Q} {res : Int64} (e : f_Model_atPin_118 h x2 y0 = some res) (q : Q (some (.long res)) h) : am_W (X_Model_atPin (d + 65)) 118 [some (.ref 0), some (.int x1), some (.int x2), some (.int x3), some (.int x4)] [.long y0] h Q :=
  b_Model_atPin_118 (d := (d + 65)) (k := (t_Model_atPin_127 e q))
theorem t_Model_atPin_110 {d : Nat} {x1 : Int32} {x2 : Int32} {x3 : Int32} {x4 : Int32} {y0 : Int64} {h : am_H} {Q : am_Q} {res : Int64} (e : f_Model_atPin_110 h x1 x2 y0 = some res) (q : Q (some (.long res)) h) : am_W (X_Model_atPin (d + 65)) 110 [some (.ref 0), some (.int x1), some (.int x2), some (.int x3), some (.int x4)] [.long y0] h Q :=
  b_Model_atPin_110 (d := (d + 65)) (kt := fun c => (t_Model_atPin_124 (am_ife e c) q)) (kf := fun c => (t_Model_atPin_118 (am_ift e c) q))
theorem t_Model_atPin_108 {d : Nat} {x1 : Int32} {x2 : Int32} {x3 : Int32} {x4 : Int32} {h : am_H} {Q : am_Q} {res : Int64} (e : f_Model_atPin_108 h x1 x2 x3 = some res) (q : Q (some (.long res)) h) : am_W (X_Model_atPin (d + 65)) 108 [some (.ref 0), some (.int x1), some (.int x2), some (.int x3), some (.int x4)] [] h Q :=
  b_Model_atPin_108 (d := (d + 65)) (k := (t_Model_atPin_110 e q))
theorem t_Model_atPin_102 {d : Nat} {x1 : Int32} {x2 : Int32} {x3 : Int32} {x4 : Int32} {h : am_H} {Q : am_Q} {res : Int64} (e : f_Model_atPin_102 h x1 x2 x4 = some res) (q : Q (some (.long res)) h) : am_W (X_Model_atPin (d + 65)) 102 [some (.ref 0), some (.int x1), some (.int x2), some (.int x3), some (.int x4)] [] h Q :=
  b_Model_atPin_102 (d := (d + 65)) (k := (t_Model_atPin_110 e q))
theorem t_Model_atPin_96 {d : Nat} {x1 : Int32} {x2 : Int32} {x3 : Int32} {x4 : Int32} {h : am_H} {Q : am_Q} {res : Int64} (e : f_Model_atPin_96 h x1 x2 x3 x4 = some res) (q : Q (some (.long res)) h) : am_W (X_Model_atPin (d + 65)) 96 [some (.ref 0), some (.int x1), some (.int x2), some (.int x3), some (.int x4)] [] h Q :=
  b_Model_atPin_96 (d := (d + 65)) (kt := fun c => (t_Model_atPin_108 (am_ift e c) q)) (kf := fun c => (t_Model_atPin_102 (am_ife e c) q))
theorem t_Model_atPin_94 {d : Nat} {x1 : Int32} {x2 : Int32} {x3 : Int32} {x4 : Int32} {h : am_H} {Q : am_Q} {res : Int64} (e : f_Model_atPin_94 h = some res) (q : Q (some (.long res)) h) : am_W (X_Model_atPin (d + 65)) 94 [some (.ref 0), some (.int x1), some (.int x2), some (.int x3), some (.int x4)] [] h Q :=
  b_Model_atPin_94 (d := (d + 65)) (q := (am_rJp (v := 0) e q))
theorem t_Model_atPin_90 {d : Nat} {x1 : Int32} {x2 : Int32} {x3 : Int32} {x4 : Int32} {h : am_H} {Q : am_Q} {res : Int64} (e : f_Model_atPin_90 h = some res) (q : Q (some (.long res)) h) : am_W (X_Model_atPin (d + 65)) 90 [some (.ref 0), some (.int x1), some (.int x2), some (.int x3), some (.int x4)] [] h Q :=
  b_Model_atPin_90 (d := (d + 65)) (q := (am_rJp (v := 1) e q))
theorem t_Model_atPin_84 {d : Nat} {x1 : Int32} {x2 : Int32} {x3 : Int32} {x4 : Int32} {h : am_H} {Q : am_Q} {res : Int64} (e : f_Model_atPin_84 h x3 x4 = some res) (q : Q (some (.long res)) h) : am_W (X_Model_atPin (d + 65)) 84 [some (.ref 0), some (.int x1), some (.int x2), some (.int x3), some (.int x4)] [] h Q :=
  b_Model_atPin_84 (d := (d + 65)) (kt := fun c => (t_Model_atPin_94 (am_ift e c) q)) (kf := fun c => (t_Model_atPin_90 (am_ife e c) q))
theorem t_Model_atPin_77 {d : Nat} {x1 : Int32} {x2 : Int32} {x3 : Int32} {y0 : Int32} {h : am_H} {Q : am_Q} {res : Int64} (e : f_Model_atPin_77 h x1 x2 x3 y0 = some res) (q : Q (some (.long res)) h) : am_W (X_Model_atPin (d + 65)) 77 [some (.ref 0), some (.int x1), some (.int x2), some (.int x3), none] [.int y0] h Q :=
  b_Model_atPin_77 (d := (d + 65)) (kt := fun c => (t_Model_atPin_96 (am_ife e c) q)) (kf := fun c => (t_Model_atPin_84 (am_ift e c) q))
theorem t_Model_atPin_60 {d : Nat} {x1 : Int32} {x2 : Int32} {y0 : Int32} {h : am_H} {Q : am_Q} {res : Int64} (e : f_Model_atPin_60 h x1 x2 y0 = some res) (q : Q (some (.long res)) h) : am_W (X_Model_atPin (d + 65)) 60 [some (.ref 0), some (.int x1), some (.int x2), none, none] [.int y0] h Q :=
  (am_bd e).elim fun p hp => b_Model_atPin_60 (d := (d + 64)) (k := c_Model_evenBy (d := d) hp.1 (t_Model_atPin_77 hp.2 q))
theorem t_Model_atPin_44 {d : Nat} {x1 : Int32} {x2 : Int32} {h : am_H} {Q : am_Q} {res : Int64} (e : f_Model_atPin_44 h x1 x2 = some res) (q : Q (some (.long res)) h) : am_W (X_Model_atPin (d + 65)) 44 [some (.ref 0), some (.int x1), some (.int x2), none, none] [] h Q :=
  (am_bd e).elim fun p hp => b_Model_atPin_44 (d := (d + 64)) (k := c_Model_evenBy (d := d) hp.1 (t_Model_atPin_60 hp.2 q))
theorem t_Model_atPin_37 {d : Nat} {x1 : Int32} {x2 : Int32} {y0 : Bool} {h : am_H} {Q : am_Q} {res : Int64} (e : f_Model_atPin_37 h x1 x2 y0 = some res) (q : Q (some (.long res)) h) : am_W (X_Model_atPin (d + 65)) 37 [some (.ref 0), some (.int x1), some (.int x2), none, none] [.int (am_b y0)] h Q :=
  b_Model_atPin_37 (d := (d + 65)) (kt := fun c => (t_Model_atPin_44 (am_ift e (am_bn c)) q)) (kf := fun c => (t_Model_atPin_40 (am_iff e (am_bz c)) q))
theorem t_Model_atPin_28 {d : Nat} {x1 : Int32} {x2 : Int32} {h : am_H} {Q : am_Q} {res : Int64} (e : f_Model_atPin_28 h x1 x2 = some res) (q : Q (some (.long res)) h) : am_W (X_Model_atPin (d + 65)) 28 [some (.ref 0), some (.int x1), some (.int x2), none, none] [] h Q :=
  b_Model_atPin_28 (d := (d + 64)) (k := c_Model_within (d := d + 64) rfl (t_Model_atPin_37 e q))
theorem t_Model_atPin_25 {d : Nat} {x1 : Int32} {x2 : Int32} {y0 : Bool} {h : am_H} {Q : am_Q} {res : Int64} (e : f_Model_atPin_25 h x1 x2 y0 = some res) (q : Q (some (.long res)) h) : am_W (X_Model_atPin (d + 65)) 25 [some (.ref 0), some (.int x1), some (.int x2), none, none] [.int (am_b y0)] h Q :=
  b_Model_atPin_25 (d := (d + 65)) (kt := fun c => (t_Model_atPin_40 (am_iff e (am_bz c)) q)) (kf := fun c => (t_Model_atPin_28 (am_ift e (am_bn c)) q))
theorem t_Model_atPin_13 {d : Nat} {x1 : Int32} {x2 : Int32} {h : am_H} {Q : am_Q} {res : Int64} (e : f_Model_atPin_13 h x1 x2 = some res) (q : Q (some (.long res)) h) : am_W (X_Model_atPin (d + 65)) 13 [some (.ref 0), some (.int x1), some (.int x2), none, none] [] h Q :=
  b_Model_atPin_13 (d := (d + 64)) (k := c_Model_within (d := d + 64) rfl (t_Model_atPin_25 e q))
theorem t_Model_atPin_4 {d : Nat} {x1 : Int32} {x2 : Int32} {h : am_H} {Q : am_Q} {res : Int64} (e : f_Model_atPin_4 h x1 x2 = some res) (q : Q (some (.long res)) h) : am_W (X_Model_atPin (d + 65)) 4 [some (.ref 0), some (.int x1), some (.int x2), none, none] [] h Q :=
  b_Model_atPin_4 (d := (d + 65)) (kt := fun c => (t_Model_atPin_40 (am_ift e c) q)) (kf := fun c => (t_Model_atPin_13 (am_ife e c) q))
theorem t_Model_atPin_0 {d : Nat} {x1 : Int32} {x2 : Int32} {h : am_H} {Q : am_Q} {res : Int64} (e : f_Model_atPin h x1 x2 = some res) (q : Q (some (.long res)) h) : am_W (X_Model_atPin (d + 65)) 0 [some (.ref 0), some (.int x1), some (.int x2), none, none] [] h Q :=
  b_Model_atPin_0 (d := (d + 65)) (kt := fun c => (t_Model_atPin_40 (am_ift e c) q)) (kf := fun c => (t_Model_atPin_4 (am_ife e c) q))
theorem c_Model_atPin {d : Nat} {x1 : Int32} {x2 : Int32} {h : am_H} {Q : am_Q} {res : Int64} (e : f_Model_atPin h x1 x2 = some res) (q : Q (some (.long res)) h) : m_Model_atPin (d + 65) [.ref 0, .int x1, .int x2] h Q :=
  e_Model_atPin (t_Model_atPin_0 e q)
theorem d_Model_fromTee_0 : decode prog_12_method_55_code 0 = .ok (.aload_n 0, 1) := by decide +kernel
theorem d_Model_fromTee_1 : decode prog_12_method_55_code 1 = .ok (.iload_n 1, 1) := by decide +kernel
theorem d_Model_fromTee_2 : decode prog_12_method_55_code 2 = .ok (.invokevirtual 251, 3) := by decide +kernel
theorem d_Model_fromTee_5 : decode prog_12_method_55_code 5 = .ok (.aload_n 0, 1) := by decide +kernel
theorem d_Model_fromTee_6 : decode prog_12_method_55_code 6 = .ok (.getfield 33, 3) := by decide +kernel
theorem d_Model_fromTee_9 : decode prog_12_method_55_code 9 = .ok (.bipush 93, 2) := by decide +kernel
theorem d_Model_fromTee_11 : decode prog_12_method_55_code 11 = .ok (.laload, 1) := by decide +kernel
theorem d_Model_fromTee_12 : decode prog_12_method_55_code 12 = .ok (.lreturn, 1) := by decide +kernel
theorem b_Model_fromTee_0 {d : Nat} {x1 : Int32} {h : am_H} {Q : am_Q} (k : m_Model_fills d [.ref 0, .int x1] h (fun r hh => am_W (X_Model_fromTee (d + 1)) 5 [some (.ref 0), some (.int x1)] (r.toList ++ []) hh Q)) : am_W (X_Model_fromTee (d + 1)) 0 [some (.ref 0), some (.int x1)] [] h Q :=
  am_aload_n d_Model_fromTee_0 rfl (i := 0) rfl <|
    am_iload_n d_Model_fromTee_1 rfl (i := 1) rfl <|
    am_callV (vs := [.int x1]) (st := []) (k := 0) (ci := 10) rfl d_Model_fromTee_2 rfl rfl w_1617 w_1619 w_59 w_94 w_1620 p_Model_fills (Nat.le_of_ble_eq_true rfl) (Nat.le_of_ble_eq_true rfl) rfl k
theorem b_Model_fromTee_5 {d : Nat} {x1 : Int32} {h : am_H} {Q : am_Q} (q : Q (some (.long (h.2 8 (93 : Int32).toNatClampNeg))) h) : am_W (X_Model_fromTee d) 5 [some (.ref 0), some (.int x1)] [] h Q :=
  am_aload_n d_Model_fromTee_5 rfl (i := 0) rfl <|
    am_getR (ci := 10) (i := 17) rfl rfl rfl (Nat.le_of_ble_eq_true rfl) w_1335 d_Model_fromTee_6 <|
    am_bipush (v := 93) d_Model_fromTee_9 (by decide) <|
    am_lald rfl (am_vin (by decide)) d_Model_fromTee_11 <|
    am_lret rfl d_Model_fromTee_12 q
theorem t_Model_fromTee_5 {d : Nat} {x1 : Int32} {h : am_H} {Q : am_Q} {res : Int64 × am_H} (e : f_Model_fromTee_5 h = some res) (q : Q (some (.long res.1)) res.2) : am_W (X_Model_fromTee (d + 70)) 5 [some (.ref 0), some (.int x1)] [] h Q :=
  b_Model_fromTee_5 (d := (d + 70)) (q := (am_rJpi (v := (h.2 8 (93 : Int32).toNatClampNeg)) e q))
theorem t_Model_fromTee_0 {d : Nat} {x1 : Int32} {h : am_H} {Q : am_Q} {res : Int64 × am_H} (e : f_Model_fromTee h x1 = some res) (q : Q (some (.long res.1)) res.2) : am_W (X_Model_fromTee (d + 70)) 0 [some (.ref 0), some (.int x1)] [] h Q :=
  (am_bd e).elim fun p hp => b_Model_fromTee_0 (d := (d + 69)) (k := c_Model_fills (d := d) hp.1 (t_Model_fromTee_5 hp.2 q))
theorem c_Model_fromTee {d : Nat} {x1 : Int32} {h : am_H} {Q : am_Q} {res : Int64 × am_H} (e : f_Model_fromTee h x1 = some res) (q : Q (some (.long res.1)) res.2) : m_Model_fromTee (d + 70) [.ref 0, .int x1] h Q :=
  e_Model_fromTee (t_Model_fromTee_0 e q)
theorem d_Model_teeWith_0 : decode prog_12_method_56_code 0 = .ok (.aload_n 0, 1) := by decide +kernel
theorem d_Model_teeWith_1 : decode prog_12_method_56_code 1 = .ok (.getfield 11, 3) := by decide +kernel
theorem d_Model_teeWith_4 : decode prog_12_method_56_code 4 = .ok (.iload_n 1, 1) := by decide +kernel
theorem d_Model_teeWith_5 : decode prog_12_method_56_code 5 = .ok (.iaload, 1) := by decide +kernel
theorem d_Model_teeWith_6 : decode prog_12_method_56_code 6 = .ok (.istore_n 3, 1) := by decide +kernel
theorem d_Model_teeWith_7 : decode prog_12_method_56_code 7 = .ok (.aload_n 0, 1) := by decide +kernel
theorem d_Model_teeWith_8 : decode prog_12_method_56_code 8 = .ok (.getfield 11, 3) := by decide +kernel
theorem d_Model_teeWith_11 : decode prog_12_method_56_code 11 = .ok (.iload_n 1, 1) := by decide +kernel
theorem d_Model_teeWith_12 : decode prog_12_method_56_code 12 = .ok (.iload_n 2, 1) := by decide +kernel
theorem d_Model_teeWith_13 : decode prog_12_method_56_code 13 = .ok (.iastore, 1) := by decide +kernel
theorem d_Model_teeWith_14 : decode prog_12_method_56_code 14 = .ok (.aload_n 0, 1) := by decide +kernel
theorem d_Model_teeWith_15 : decode prog_12_method_56_code 15 = .ok (.iconst 0, 1) := by decide +kernel
theorem d_Model_teeWith_16 : decode prog_12_method_56_code 16 = .ok (.invokevirtual 263, 3) := by decide +kernel
theorem d_Model_teeWith_19 : decode prog_12_method_56_code 19 = .ok (.lstore 4, 2) := by decide +kernel
theorem d_Model_teeWith_21 : decode prog_12_method_56_code 21 = .ok (.aload_n 0, 1) := by decide +kernel
theorem d_Model_teeWith_22 : decode prog_12_method_56_code 22 = .ok (.getfield 11, 3) := by decide +kernel
theorem d_Model_teeWith_25 : decode prog_12_method_56_code 25 = .ok (.iload_n 1, 1) := by decide +kernel
theorem d_Model_teeWith_26 : decode prog_12_method_56_code 26 = .ok (.iload_n 3, 1) := by decide +kernel
theorem d_Model_teeWith_27 : decode prog_12_method_56_code 27 = .ok (.iastore, 1) := by decide +kernel
theorem d_Model_teeWith_28 : decode prog_12_method_56_code 28 = .ok (.lload 4, 2) := by decide +kernel
theorem d_Model_teeWith_30 : decode prog_12_method_56_code 30 = .ok (.lreturn, 1) := by decide +kernel
theorem b_Model_teeWith_0 {d : Nat} {x1 : Int32} {x2 : Int32} {h : am_H} {Q : am_Q} (q0 : vp_in x1 54) (k : m_Model_fromTee d [.ref 0, .int 0] (am_pI h 1 x1.toNatClampNeg x2) (fun r hh => am_W (X_Model_teeWith (d + 1)) 19 [some (.ref 0), some (.int x1), some (.int x2), some (.int (h.1 1 x1.toNatClampNeg)), none, none] (r.toList ++ []) hh Q)) : am_W (X_Model_teeWith (d + 1)) 0 [some (.ref 0), some (.int x1), some (.int x2), none, none, none] [] h Q :=
  am_aload_n d_Model_teeWith_0 rfl (i := 0) rfl <|
    am_getR (ci := 10) (i := 0) rfl rfl rfl (Nat.le_of_ble_eq_true rfl) w_1318 d_Model_teeWith_1 <|
    am_iload_n d_Model_teeWith_4 rfl (i := 1) rfl <|
    am_iald rfl q0 d_Model_teeWith_5 <|
    am_istore_n (ls' := [some (.ref 0), some (.int x1), some (.int x2), some (.int (h.1 1 x1.toNatClampNeg)), none, none]) d_Model_teeWith_6 rfl (Nat.le_of_ble_eq_true rfl) rfl <|
    am_aload_n d_Model_teeWith_7 rfl (i := 0) rfl <|
    am_getR (ci := 10) (i := 0) rfl rfl rfl (Nat.le_of_ble_eq_true rfl) w_1318 d_Model_teeWith_8 <|
    am_iload_n d_Model_teeWith_11 rfl (i := 1) rfl <|
    am_iload_n d_Model_teeWith_12 rfl (i := 2) rfl <|
    am_iast rfl q0 d_Model_teeWith_13 <|
    am_aload_n d_Model_teeWith_14 rfl (i := 0) rfl <|
    am_iconst (v := 0) d_Model_teeWith_15 (by decide) <|
    am_callV (vs := [.int 0]) (st := []) (k := 0) (ci := 10) rfl d_Model_teeWith_16 rfl rfl w_1655 w_1657 w_64 w_94 w_1658 p_Model_fromTee (Nat.le_of_ble_eq_true rfl) (Nat.le_of_ble_eq_true rfl) rfl k
theorem b_Model_teeWith_19 {d : Nat} {x1 : Int32} {x2 : Int32} {x3 : Int32} {y0 : Int64} {h : am_H} {Q : am_Q} (q0 : vp_in x1 54) (q : Q (some (.long y0)) (am_pI h 1 x1.toNatClampNeg x3)) : am_W (X_Model_teeWith d) 19 [some (.ref 0), some (.int x1), some (.int x2), some (.int x3), none, none] [.long y0] h Q :=
  am_lstore (ls' := [some (.ref 0), some (.int x1), some (.int x2), some (.int x3), some (.long y0), none]) d_Model_teeWith_19 (Nat.le_of_ble_eq_true rfl) rfl <|
    am_aload_n d_Model_teeWith_21 rfl (i := 0) rfl <|
    am_getR (ci := 10) (i := 0) rfl rfl rfl (Nat.le_of_ble_eq_true rfl) w_1318 d_Model_teeWith_22 <|
    am_iload_n d_Model_teeWith_25 rfl (i := 1) rfl <|
    am_iload_n d_Model_teeWith_26 rfl (i := 3) rfl <|
    am_iast rfl q0 d_Model_teeWith_27 <|
    am_lload d_Model_teeWith_28 rfl <|
    am_lret rfl d_Model_teeWith_30 q
theorem t_Model_teeWith_19 {d : Nat} {x1 : Int32} {x2 : Int32} {x3 : Int32} {y0 : Int64} {h : am_H} {Q : am_Q} {res : Int64 × am_H} (e : f_Model_teeWith_19 h x1 x3 y0 = some res) (q : Q (some (.long res.1)) res.2) : am_W (X_Model_teeWith (d + 71)) 19 [some (.ref 0), some (.int x1), some (.int x2), some (.int x3), none, none] [.long y0] h Q :=
  b_Model_teeWith_19 (d := (d + 71)) (q0 := (am_okv (am_gd e))) (q := (am_rJpi (v := y0) (am_ga e) q))
theorem t_Model_teeWith_0 {d : Nat} {x1 : Int32} {x2 : Int32} {h : am_H} {Q : am_Q} {res : Int64 × am_H} (e : f_Model_teeWith h x1 x2 = some res) (q : Q (some (.long res.1)) res.2) : am_W (X_Model_teeWith (d + 71)) 0 [some (.ref 0), some (.int x1), some (.int x2), none, none, none] [] h Q :=
  (am_bd (am_ga e)).elim fun p hp => b_Model_teeWith_0 (d := (d + 70)) (q0 := (am_okv (am_gd e))) (k := c_Model_fromTee (d := d) hp.1 (t_Model_teeWith_19 hp.2 q))
theorem c_Model_teeWith {d : Nat} {x1 : Int32} {x2 : Int32} {h : am_H} {Q : am_Q} {res : Int64 × am_H} (e : f_Model_teeWith h x1 x2 = some res) (q : Q (some (.long res.1)) res.2) : m_Model_teeWith (d + 71) [.ref 0, .int x1, .int x2] h Q :=
  e_Model_teeWith (t_Model_teeWith_0 e q)
theorem d_Model_practise_0 : decode prog_12_method_57_code 0 = .ok (.iload_n 1, 1) := by decide +kernel
theorem d_Model_practise_1 : decode prog_12_method_57_code 1 = .ok (.i2l, 1) := by decide +kernel
theorem d_Model_practise_2 : decode prog_12_method_57_code 2 = .ok (.lconst 0, 1) := by decide +kernel
theorem d_Model_practise_3 : decode prog_12_method_57_code 3 = .ok (.ldc2_w 239, 3) := by decide +kernel
theorem d_Model_practise_6 : decode prog_12_method_57_code 6 = .ok (.invokestatic 83, 3) := by decide +kernel
theorem d_Model_practise_9 : decode prog_12_method_57_code 9 = .ok (.ifCond .ne 7, 3) := by decide +kernel
theorem d_Model_practise_12 : decode prog_12_method_57_code 12 = .ok (.ldc2_w 223, 3) := by decide +kernel
theorem d_Model_practise_15 : decode prog_12_method_57_code 15 = .ok (.lreturn, 1) := by decide +kernel
theorem d_Model_practise_16 : decode prog_12_method_57_code 16 = .ok (.aload_n 0, 1) := by decide +kernel
theorem d_Model_practise_17 : decode prog_12_method_57_code 17 = .ok (.iconst 0, 1) := by decide +kernel
theorem d_Model_practise_18 : decode prog_12_method_57_code 18 = .ok (.invokevirtual 263, 3) := by decide +kernel
theorem d_Model_practise_21 : decode prog_12_method_57_code 21 = .ok (.lstore_n 2, 1) := by decide +kernel
theorem d_Model_practise_22 : decode prog_12_method_57_code 22 = .ok (.iconst 0, 1) := by decide +kernel
theorem d_Model_practise_23 : decode prog_12_method_57_code 23 = .ok (.istore 4, 2) := by decide +kernel
theorem d_Model_practise_25 : decode prog_12_method_57_code 25 = .ok (.lload_n 2, 1) := by decide +kernel
theorem d_Model_practise_26 : decode prog_12_method_57_code 26 = .ok (.aload_n 0, 1) := by decide +kernel
theorem d_Model_practise_27 : decode prog_12_method_57_code 27 = .ok (.bipush 51, 2) := by decide +kernel
theorem d_Model_practise_29 : decode prog_12_method_57_code 29 = .ok (.aload_n 0, 1) := by decide +kernel
theorem d_Model_practise_30 : decode prog_12_method_57_code 30 = .ok (.getfield 11, 3) := by decide +kernel
theorem d_Model_practise_33 : decode prog_12_method_57_code 33 = .ok (.bipush 51, 2) := by decide +kernel
theorem d_Model_practise_35 : decode prog_12_method_57_code 35 = .ok (.iaload, 1) := by decide +kernel
theorem d_Model_practise_36 : decode prog_12_method_57_code 36 = .ok (.bipush 12, 2) := by decide +kernel
theorem d_Model_practise_38 : decode prog_12_method_57_code 38 = .ok (.if_icmp .ge 15, 3) := by decide +kernel
theorem d_Model_practise_41 : decode prog_12_method_57_code 41 = .ok (.aload_n 0, 1) := by decide +kernel
theorem d_Model_practise_42 : decode prog_12_method_57_code 42 = .ok (.getfield 11, 3) := by decide +kernel
theorem d_Model_practise_45 : decode prog_12_method_57_code 45 = .ok (.bipush 51, 2) := by decide +kernel
theorem d_Model_practise_47 : decode prog_12_method_57_code 47 = .ok (.iaload, 1) := by decide +kernel
theorem d_Model_practise_48 : decode prog_12_method_57_code 48 = .ok (.iconst 1, 1) := by decide +kernel
theorem d_Model_practise_49 : decode prog_12_method_57_code 49 = .ok (.iadd, 1) := by decide +kernel
theorem d_Model_practise_50 : decode prog_12_method_57_code 50 = .ok (.goto 5, 3) := by decide +kernel
theorem d_Model_practise_53 : decode prog_12_method_57_code 53 = .ok (.bipush 12, 2) := by decide +kernel
theorem d_Model_practise_55 : decode prog_12_method_57_code 55 = .ok (.invokevirtual 267, 3) := by decide +kernel
theorem d_Model_practise_58 : decode prog_12_method_57_code 58 = .ok (.lsub, 1) := by decide +kernel
theorem d_Model_practise_59 : decode prog_12_method_57_code 59 = .ok (.lstore 5, 2) := by decide +kernel
theorem d_Model_practise_61 : decode prog_12_method_57_code 61 = .ok (.iconst 0, 1) := by decide +kernel
theorem d_Model_practise_62 : decode prog_12_method_57_code 62 = .ok (.istore 7, 2) := by decide +kernel
theorem d_Model_practise_64 : decode prog_12_method_57_code 64 = .ok (.iload 7, 2) := by decide +kernel
theorem d_Model_practise_66 : decode prog_12_method_57_code 66 = .ok (.aload_n 0, 1) := by decide +kernel
theorem d_Model_practise_67 : decode prog_12_method_57_code 67 = .ok (.getfield 80, 3) := by decide +kernel
theorem d_Model_practise_70 : decode prog_12_method_57_code 70 = .ok (.if_icmp .ge 83, 3) := by decide +kernel
theorem d_Model_practise_73 : decode prog_12_method_57_code 73 = .ok (.aload_n 0, 1) := by decide +kernel
theorem d_Model_practise_74 : decode prog_12_method_57_code 74 = .ok (.getfield 11, 3) := by decide +kernel
theorem d_Model_practise_77 : decode prog_12_method_57_code 77 = .ok (.bipush 37, 2) := by decide +kernel
theorem d_Model_practise_79 : decode prog_12_method_57_code 79 = .ok (.iload 7, 2) := by decide +kernel
theorem d_Model_practise_81 : decode prog_12_method_57_code 81 = .ok (.iadd, 1) := by decide +kernel
theorem d_Model_practise_82 : decode prog_12_method_57_code 82 = .ok (.iaload, 1) := by decide +kernel
theorem d_Model_practise_83 : decode prog_12_method_57_code 83 = .ok (.istore 8, 2) := by decide +kernel
theorem d_Model_practise_85 : decode prog_12_method_57_code 85 = .ok (.lload_n 2, 1) := by decide +kernel
theorem d_Model_practise_86 : decode prog_12_method_57_code 86 = .ok (.aload_n 0, 1) := by decide +kernel
theorem d_Model_practise_87 : decode prog_12_method_57_code 87 = .ok (.bipush 37, 2) := by decide +kernel
theorem d_Model_practise_89 : decode prog_12_method_57_code 89 = .ok (.iload 7, 2) := by decide +kernel
theorem d_Model_practise_91 : decode prog_12_method_57_code 91 = .ok (.iadd, 1) := by decide +kernel
theorem d_Model_practise_92 : decode prog_12_method_57_code 92 = .ok (.iload 8, 2) := by decide +kernel
theorem d_Model_practise_94 : decode prog_12_method_57_code 94 = .ok (.ifCond .le 10, 3) := by decide +kernel
theorem d_Model_practise_97 : decode prog_12_method_57_code 97 = .ok (.iload 8, 2) := by decide +kernel
theorem d_Model_practise_99 : decode prog_12_method_57_code 99 = .ok (.iconst 1, 1) := by decide +kernel
theorem d_Model_practise_100 : decode prog_12_method_57_code 100 = .ok (.isub, 1) := by decide +kernel
theorem d_Model_practise_101 : decode prog_12_method_57_code 101 = .ok (.goto 4, 3) := by decide +kernel
theorem d_Model_practise_104 : decode prog_12_method_57_code 104 = .ok (.iconst 0, 1) := by decide +kernel
theorem d_Model_practise_105 : decode prog_12_method_57_code 105 = .ok (.invokevirtual 267, 3) := by decide +kernel
theorem d_Model_practise_108 : decode prog_12_method_57_code 108 = .ok (.lsub, 1) := by decide +kernel
theorem d_Model_practise_109 : decode prog_12_method_57_code 109 = .ok (.lstore 9, 2) := by decide +kernel
theorem d_Model_practise_111 : decode prog_12_method_57_code 111 = .ok (.lload 9, 2) := by decide +kernel
theorem d_Model_practise_113 : decode prog_12_method_57_code 113 = .ok (.lload 5, 2) := by decide +kernel
theorem d_Model_practise_115 : decode prog_12_method_57_code 115 = .ok (.lcmp, 1) := by decide +kernel
theorem d_Model_practise_116 : decode prog_12_method_57_code 116 = .ok (.ifCond .le 10, 3) := by decide +kernel
theorem d_Model_practise_119 : decode prog_12_method_57_code 119 = .ok (.iload 7, 2) := by decide +kernel
theorem d_Model_practise_121 : decode prog_12_method_57_code 121 = .ok (.iconst 1, 1) := by decide +kernel
theorem d_Model_practise_122 : decode prog_12_method_57_code 122 = .ok (.iadd, 1) := by decide +kernel
theorem d_Model_practise_123 : decode prog_12_method_57_code 123 = .ok (.goto 5, 3) := by decide +kernel
theorem d_Model_practise_126 : decode prog_12_method_57_code 126 = .ok (.iload 4, 2) := by decide +kernel
theorem d_Model_practise_128 : decode prog_12_method_57_code 128 = .ok (.istore 4, 2) := by decide +kernel
theorem d_Model_practise_130 : decode prog_12_method_57_code 130 = .ok (.lload 9, 2) := by decide +kernel
theorem d_Model_practise_132 : decode prog_12_method_57_code 132 = .ok (.lload 5, 2) := by decide +kernel
theorem d_Model_practise_134 : decode prog_12_method_57_code 134 = .ok (.lcmp, 1) := by decide +kernel
theorem d_Model_practise_135 : decode prog_12_method_57_code 135 = .ok (.ifCond .le 8, 3) := by decide +kernel
theorem d_Model_practise_138 : decode prog_12_method_57_code 138 = .ok (.lload 9, 2) := by decide +kernel
theorem d_Model_practise_140 : decode prog_12_method_57_code 140 = .ok (.goto 5, 3) := by decide +kernel
theorem d_Model_practise_143 : decode prog_12_method_57_code 143 = .ok (.lload 5, 2) := by decide +kernel
theorem d_Model_practise_145 : decode prog_12_method_57_code 145 = .ok (.lstore 5, 2) := by decide +kernel
theorem d_Model_practise_147 : decode prog_12_method_57_code 147 = .ok (.iinc 7 1, 3) := by decide +kernel
theorem d_Model_practise_150 : decode prog_12_method_57_code 150 = .ok (.goto (-86), 3) := by decide +kernel
theorem d_Model_practise_153 : decode prog_12_method_57_code 153 = .ok (.iload_n 1, 1) := by decide +kernel
theorem d_Model_practise_154 : decode prog_12_method_57_code 154 = .ok (.iconst 2, 1) := by decide +kernel
theorem d_Model_practise_155 : decode prog_12_method_57_code 155 = .ok (.if_icmp .ne 9, 3) := by decide +kernel
theorem d_Model_practise_158 : decode prog_12_method_57_code 158 = .ok (.iload 4, 2) := by decide +kernel
theorem d_Model_practise_160 : decode prog_12_method_57_code 160 = .ok (.i2l, 1) := by decide +kernel
theorem d_Model_practise_161 : decode prog_12_method_57_code 161 = .ok (.goto 15, 3) := by decide +kernel
theorem d_Model_practise_164 : decode prog_12_method_57_code 164 = .ok (.lload 5, 2) := by decide +kernel
theorem d_Model_practise_166 : decode prog_12_method_57_code 166 = .ok (.aload_n 0, 1) := by decide +kernel
theorem d_Model_practise_167 : decode prog_12_method_57_code 167 = .ok (.getfield 40, 3) := by decide +kernel
theorem d_Model_practise_170 : decode prog_12_method_57_code 170 = .ok (.iconst 3, 1) := by decide +kernel
theorem d_Model_practise_171 : decode prog_12_method_57_code 171 = .ok (.laload, 1) := by decide +kernel
theorem d_Model_practise_172 : decode prog_12_method_57_code 172 = .ok (.iload_n 1, 1) := by decide +kernel
theorem d_Model_practise_173 : decode prog_12_method_57_code 173 = .ok (.invokestatic 229, 3) := by decide +kernel
theorem d_Model_practise_176 : decode prog_12_method_57_code 176 = .ok (.lreturn, 1) := by decide +kernel
theorem b_Model_practise_0 {d : Nat} {x1 : Int32} {h : am_H} {Q : am_Q} (k : m_Model_within d [.long x1.toInt64, .long 0, .long 2] h (fun r hh => am_W (X_Model_practise (d + 1)) 9 [some (.ref 0), some (.int x1), none, none, none, none, none, none, none, none, none] (r.toList ++ []) hh Q)) : am_W (X_Model_practise (d + 1)) 0 [some (.ref 0), some (.int x1), none, none, none, none, none, none, none, none, none] [] h Q :=
  am_iload_n d_Model_practise_0 rfl (i := 1) rfl <|
    am_i2l d_Model_practise_1 <|
    am_lconst (v := 0) d_Model_practise_2 (by decide) <|
    am_ldc2 (v := 2) d_Model_practise_3 w_1616 <|
    am_callS (vs := [.long x1.toInt64, .long 0, .long 2]) (st := []) rfl d_Model_practise_6 w_1443 w_1444 w_94 w_1445 p_Model_within (Nat.le_of_ble_eq_true rfl) (Nat.le_of_ble_eq_true rfl) rfl k
theorem b_Model_practise_9 {d : Nat} {x1 : Int32} {y0 : Bool} {h : am_H} {Q : am_Q} (kt : ¬ (am_b y0) = 0 → am_W (X_Model_practise d) 16 [some (.ref 0), some (.int x1), none, none, none, none, none, none, none, none, none] [] h Q) (kf : (am_b y0) = 0 → am_W (X_Model_practise d) 12 [some (.ref 0), some (.int x1), none, none, none, none, none, none, none, none, none] [] h Q) : am_W (X_Model_practise d) 9 [some (.ref 0), some (.int x1), none, none, none, none, none, none, none, none, none] [.int (am_b y0)] h Q :=
  am_if_ne (tgt := 16) d_Model_practise_9 (by decide) kt kf
theorem b_Model_practise_12 {d : Nat} {x1 : Int32} {h : am_H} {Q : am_Q} (q : Q (some (.long (-9223372036854775808))) h) : am_W (X_Model_practise d) 12 [some (.ref 0), some (.int x1), none, none, none, none, none, none, none, none, none] [] h Q :=
  am_ldc2 (v := (-9223372036854775808)) d_Model_practise_12 w_1573 <|
    am_lret rfl d_Model_practise_15 q
theorem b_Model_practise_16 {d : Nat} {x1 : Int32} {h : am_H} {Q : am_Q} (k : m_Model_fromTee d [.ref 0, .int 0] h (fun r hh => am_W (X_Model_practise (d + 1)) 21 [some (.ref 0), some (.int x1), none, none, none, none, none, none, none, none, none] (r.toList ++ []) hh Q)) : am_W (X_Model_practise (d + 1)) 16 [some (.ref 0), some (.int x1), none, none, none, none, none, none, none, none, none] [] h Q :=
  am_aload_n d_Model_practise_16 rfl (i := 0) rfl <|
    am_iconst (v := 0) d_Model_practise_17 (by decide) <|
    am_callV (vs := [.int 0]) (st := []) (k := 0) (ci := 10) rfl d_Model_practise_18 rfl rfl w_1655 w_1657 w_64 w_94 w_1658 p_Model_fromTee (Nat.le_of_ble_eq_true rfl) (Nat.le_of_ble_eq_true rfl) rfl k
theorem b_Model_practise_21 {d : Nat} {x1 : Int32} {y0 : Int64} {h : am_H} {Q : am_Q} (kt : 12 ≤ (h.1 1 (51 : Int32).toNatClampNeg) → am_W (X_Model_practise d) 53 [some (.ref 0), some (.int x1), some (.long y0), none, some (.int 0), none, none, none, none, none, none] [.int 51, .ref 0, .long y0] h Q) (kf : ¬ 12 ≤ (h.1 1 (51 : Int32).toNatClampNeg) → am_W (X_Model_practise d) 41 [some (.ref 0), some (.int x1), some (.long y0), none, some (.int 0), none, none, none, none, none, none] [.int 51, .ref 0, .long y0] h Q) : am_W (X_Model_practise d) 21 [some (.ref 0), some (.int x1), none, none, none, none, none, none, none, none, none] [.long y0] h Q :=
  am_lstore_n (ls' := [some (.ref 0), some (.int x1), some (.long y0), none, none, none, none, none, none, none, none]) d_Model_practise_21 rfl (Nat.le_of_ble_eq_true rfl) rfl <|
    am_iconst (v := 0) d_Model_practise_22 (by decide) <|
    am_istore (ls' := [some (.ref 0), some (.int x1), some (.long y0), none, some (.int 0), none, none, none, none, none, none]) d_Model_practise_23 (Nat.le_of_ble_eq_true rfl) rfl <|
    am_lload_n d_Model_practise_25 rfl (i := 2) rfl <|
    am_aload_n d_Model_practise_26 rfl (i := 0) rfl <|
    am_bipush (v := 51) d_Model_practise_27 (by decide) <|
    am_aload_n d_Model_practise_29 rfl (i := 0) rfl <|
    am_getR (ci := 10) (i := 0) rfl rfl rfl (Nat.le_of_ble_eq_true rfl) w_1318 d_Model_practise_30 <|
    am_bipush (v := 51) d_Model_practise_33 (by decide) <|
    am_iald rfl (am_vin (by decide)) d_Model_practise_35 <|
    am_bipush (v := 12) d_Model_practise_36 (by decide) <|
    am_icmp_ge (tgt := 53) d_Model_practise_38 (by decide) kt kf
theorem b_Model_practise_41 {d : Nat} {x1 : Int32} {x2 : Int64} {x4 : Int32} {y2 : Int32} {y0 : Int64} {h : am_H} {Q : am_Q} (k : am_W (X_Model_practise d) 55 [some (.ref 0), some (.int x1), some (.long x2), none, some (.int x4), none, none, none, none, none, none] [.int ((h.1 1 (51 : Int32).toNatClampNeg) + 1), .int y2, .ref 0, .long y0] h Q) : am_W (X_Model_practise d) 41 [some (.ref 0), some (.int x1), some (.long x2), none, some (.int x4), none, none, none, none, none, none] [.int y2, .ref 0, .long y0] h Q :=
  am_aload_n d_Model_practise_41 rfl (i := 0) rfl <|
    am_getR (ci := 10) (i := 0) rfl rfl rfl (Nat.le_of_ble_eq_true rfl) w_1318 d_Model_practise_42 <|
    am_bipush (v := 51) d_Model_practise_45 (by decide) <|
    am_iald rfl (am_vin (by decide)) d_Model_practise_47 <|
    am_iconst (v := 1) d_Model_practise_48 (by decide) <|
    am_iadd d_Model_practise_49 <|
    am_goto (tgt := 55) d_Model_practise_50 (by decide) k
theorem b_Model_practise_53 {d : Nat} {x1 : Int32} {x2 : Int64} {x4 : Int32} {y2 : Int32} {y0 : Int64} {h : am_H} {Q : am_Q} (k : am_W (X_Model_practise d) 55 [some (.ref 0), some (.int x1), some (.long x2), none, some (.int x4), none, none, none, none, none, none] [.int 12, .int y2, .ref 0, .long y0] h Q) : am_W (X_Model_practise d) 53 [some (.ref 0), some (.int x1), some (.long x2), none, some (.int x4), none, none, none, none, none, none] [.int y2, .ref 0, .long y0] h Q :=
  am_bipush (v := 12) d_Model_practise_53 (by decide) <|
    k
theorem b_Model_practise_55 {d : Nat} {x1 : Int32} {x2 : Int64} {x4 : Int32} {y3 : Int32} {y2 : Int32} {y0 : Int64} {h : am_H} {Q : am_Q} (k : m_Model_teeWith d [.ref 0, .int y2, .int y3] h (fun r hh => am_W (X_Model_practise (d + 1)) 58 [some (.ref 0), some (.int x1), some (.long x2), none, some (.int x4), none, none, none, none, none, none] (r.toList ++ [.long y0]) hh Q)) : am_W (X_Model_practise (d + 1)) 55 [some (.ref 0), some (.int x1), some (.long x2), none, some (.int x4), none, none, none, none, none, none] [.int y3, .int y2, .ref 0, .long y0] h Q :=
  am_callV (vs := [.int y2, .int y3]) (st := [.long y0]) (k := 0) (ci := 10) rfl d_Model_practise_55 rfl rfl w_1659 w_1661 w_65 w_94 w_1662 p_Model_teeWith (Nat.le_of_ble_eq_true rfl) (Nat.le_of_ble_eq_true rfl) rfl k
theorem b_Model_practise_58 {d : Nat} {x1 : Int32} {x2 : Int64} {x4 : Int32} {y1 : Int64} {y0 : Int64} {h : am_H} {Q : am_Q} (k : am_W (X_Model_practise d) 64 [some (.ref 0), some (.int x1), some (.long x2), none, some (.int x4), some (.long (y0 - y1)), none, some (.int 0), none, none, none] [] h Q) : am_W (X_Model_practise d) 58 [some (.ref 0), some (.int x1), some (.long x2), none, some (.int x4), none, none, none, none, none, none] [.long y1, .long y0] h Q :=
  am_lsub d_Model_practise_58 <|
    am_lstore (ls' := [some (.ref 0), some (.int x1), some (.long x2), none, some (.int x4), some (.long (y0 - y1)), none, none, none, none, none]) d_Model_practise_59 (Nat.le_of_ble_eq_true rfl) rfl <|
    am_iconst (v := 0) d_Model_practise_61 (by decide) <|
    am_istore (ls' := [some (.ref 0), some (.int x1), some (.long x2), none, some (.int x4), some (.long (y0 - y1)), none, some (.int 0), none, none, none]) d_Model_practise_62 (Nat.le_of_ble_eq_true rfl) rfl <|
    k
theorem b_Model_practise_64 {d : Nat} {x1 : Int32} {x2 : Int64} {x4 : Int32} {x5 : Int64} {x7 : Int32} {h : am_H} {Q : am_Q} (kt : (h.1 0 6) ≤ x7 → am_W (X_Model_practise d) 153 [some (.ref 0), some (.int x1), some (.long x2), none, some (.int x4), some (.long x5), none, some (.int x7), none, none, none] [] h Q) (kf : ¬ (h.1 0 6) ≤ x7 → am_W (X_Model_practise d) 73 [some (.ref 0), some (.int x1), some (.long x2), none, some (.int x4), some (.long x5), none, some (.int x7), none, none, none] [] h Q) : am_W (X_Model_practise d) 64 [some (.ref 0), some (.int x1), some (.long x2), none, some (.int x4), some (.long x5), none, some (.int x7), none, none, none] [] h Q :=
  am_iload d_Model_practise_64 rfl <|
    am_aload_n d_Model_practise_66 rfl (i := 0) rfl <|
    am_getI (ci := 10) (i := 6) rfl rfl rfl (Nat.le_of_ble_eq_true rfl) w_1324 d_Model_practise_67 <|
    am_icmp_ge (tgt := 153) d_Model_practise_70 (by decide) kt kf
theorem b_Model_practise_73 {d : Nat} {x1 : Int32} {x2 : Int64} {x4 : Int32} {x5 : Int64} {x7 : Int32} {h : am_H} {Q : am_Q} (q0 : vp_in (37 + x7) 54) (kt : (h.1 1 (37 + x7).toNatClampNeg) ≤ 0 → am_W (X_Model_practise d) 104 [some (.ref 0), some (.int x1), some (.long x2), none, some (.int x4), some (.long x5), none, some (.int x7), some (.int (h.1 1 (37 + x7).toNatClampNeg)), none, none] [.int (37 + x7), .ref 0, .long x2] h Q) (kf : ¬ (h.1 1 (37 + x7).toNatClampNeg) ≤ 0 → am_W (X_Model_practise d) 97 [some (.ref 0), some (.int x1), some (.long x2), none, some (.int x4), some (.long x5), none, some (.int x7), some (.int (h.1 1 (37 + x7).toNatClampNeg)), none, none] [.int (37 + x7), .ref 0, .long x2] h Q) : am_W (X_Model_practise d) 73 [some (.ref 0), some (.int x1), some (.long x2), none, some (.int x4), some (.long x5), none, some (.int x7), none, none, none] [] h Q :=
  am_aload_n d_Model_practise_73 rfl (i := 0) rfl <|
    am_getR (ci := 10) (i := 0) rfl rfl rfl (Nat.le_of_ble_eq_true rfl) w_1318 d_Model_practise_74 <|
    am_bipush (v := 37) d_Model_practise_77 (by decide) <|
    am_iload d_Model_practise_79 rfl <|
    am_iadd d_Model_practise_81 <|
    am_iald rfl q0 d_Model_practise_82 <|
    am_istore (ls' := [some (.ref 0), some (.int x1), some (.long x2), none, some (.int x4), some (.long x5), none, some (.int x7), some (.int (h.1 1 (37 + x7).toNatClampNeg)), none, none]) d_Model_practise_83 (Nat.le_of_ble_eq_true rfl) rfl <|
    am_lload_n d_Model_practise_85 rfl (i := 2) rfl <|
    am_aload_n d_Model_practise_86 rfl (i := 0) rfl <|
    am_bipush (v := 37) d_Model_practise_87 (by decide) <|
    am_iload d_Model_practise_89 rfl <|
    am_iadd d_Model_practise_91 <|
    am_iload d_Model_practise_92 rfl <|
    am_if_le (tgt := 104) d_Model_practise_94 (by decide) kt kf
theorem b_Model_practise_97 {d : Nat} {x1 : Int32} {x2 : Int64} {x4 : Int32} {x5 : Int64} {x7 : Int32} {x8 : Int32} {y2 : Int32} {y0 : Int64} {h : am_H} {Q : am_Q} (k : am_W (X_Model_practise d) 105 [some (.ref 0), some (.int x1), some (.long x2), none, some (.int x4), some (.long x5), none, some (.int x7), some (.int x8), none, none] [.int (x8 - 1), .int y2, .ref 0, .long y0] h Q) : am_W (X_Model_practise d) 97 [some (.ref 0), some (.int x1), some (.long x2), none, some (.int x4), some (.long x5), none, some (.int x7), some (.int x8), none, none] [.int y2, .ref 0, .long y0] h Q :=
  am_iload d_Model_practise_97 rfl <|
    am_iconst (v := 1) d_Model_practise_99 (by decide) <|
    am_isub d_Model_practise_100 <|
    am_goto (tgt := 105) d_Model_practise_101 (by decide) k
theorem b_Model_practise_104 {d : Nat} {x1 : Int32} {x2 : Int64} {x4 : Int32} {x5 : Int64} {x7 : Int32} {x8 : Int32} {y2 : Int32} {y0 : Int64} {h : am_H} {Q : am_Q} (k : am_W (X_Model_practise d) 105 [some (.ref 0), some (.int x1), some (.long x2), none, some (.int x4), some (.long x5), none, some (.int x7), some (.int x8), none, none] [.int 0, .int y2, .ref 0, .long y0] h Q) : am_W (X_Model_practise d) 104 [some (.ref 0), some (.int x1), some (.long x2), none, some (.int x4), some (.long x5), none, some (.int x7), some (.int x8), none, none] [.int y2, .ref 0, .long y0] h Q :=
  am_iconst (v := 0) d_Model_practise_104 (by decide) <|
    k
theorem b_Model_practise_105 {d : Nat} {x1 : Int32} {x2 : Int64} {x4 : Int32} {x5 : Int64} {x7 : Int32} {x8 : Int32} {y3 : Int32} {y2 : Int32} {y0 : Int64} {h : am_H} {Q : am_Q} (k : m_Model_teeWith d [.ref 0, .int y2, .int y3] h (fun r hh => am_W (X_Model_practise (d + 1)) 108 [some (.ref 0), some (.int x1), some (.long x2), none, some (.int x4), some (.long x5), none, some (.int x7), some (.int x8), none, none] (r.toList ++ [.long y0]) hh Q)) : am_W (X_Model_practise (d + 1)) 105 [some (.ref 0), some (.int x1), some (.long x2), none, some (.int x4), some (.long x5), none, some (.int x7), some (.int x8), none, none] [.int y3, .int y2, .ref 0, .long y0] h Q :=
  am_callV (vs := [.int y2, .int y3]) (st := [.long y0]) (k := 0) (ci := 10) rfl d_Model_practise_105 rfl rfl w_1659 w_1661 w_65 w_94 w_1662 p_Model_teeWith (Nat.le_of_ble_eq_true rfl) (Nat.le_of_ble_eq_true rfl) rfl k
theorem b_Model_practise_108 {d : Nat} {x1 : Int32} {x2 : Int64} {x4 : Int32} {x5 : Int64} {x7 : Int32} {x8 : Int32} {y1 : Int64} {y0 : Int64} {h : am_H} {Q : am_Q} (kt : (y0 - y1) ≤ x5 → am_W (X_Model_practise d) 126 [some (.ref 0), some (.int x1), some (.long x2), none, some (.int x4), some (.long x5), none, some (.int x7), some (.int x8), some (.long (y0 - y1)), none] [] h Q) (kf : ¬ (y0 - y1) ≤ x5 → am_W (X_Model_practise d) 119 [some (.ref 0), some (.int x1), some (.long x2), none, some (.int x4), some (.long x5), none, some (.int x7), some (.int x8), some (.long (y0 - y1)), none] [] h Q) : am_W (X_Model_practise d) 108 [some (.ref 0), some (.int x1), some (.long x2), none, some (.int x4), some (.long x5), none, some (.int x7), some (.int x8), none, none] [.long y1, .long y0] h Q :=
  am_lsub d_Model_practise_108 <|
    am_lstore (ls' := [some (.ref 0), some (.int x1), some (.long x2), none, some (.int x4), some (.long x5), none, some (.int x7), some (.int x8), some (.long (y0 - y1)), none]) d_Model_practise_109 (Nat.le_of_ble_eq_true rfl) rfl <|
    am_lload d_Model_practise_111 rfl <|
    am_lload d_Model_practise_113 rfl <|
    am_lc_if_le (tgt := 126) d_Model_practise_115 d_Model_practise_116 (by decide) kt kf
theorem b_Model_practise_119 {d : Nat} {x1 : Int32} {x2 : Int64} {x4 : Int32} {x5 : Int64} {x7 : Int32} {x8 : Int32} {x9 : Int64} {h : am_H} {Q : am_Q} (k : am_W (X_Model_practise d) 128 [some (.ref 0), some (.int x1), some (.long x2), none, some (.int x4), some (.long x5), none, some (.int x7), some (.int x8), some (.long x9), none] [.int (x7 + 1)] h Q) : am_W (X_Model_practise d) 119 [some (.ref 0), some (.int x1), some (.long x2), none, some (.int x4), some (.long x5), none, some (.int x7), some (.int x8), some (.long x9), none] [] h Q :=
  am_iload d_Model_practise_119 rfl <|
    am_iconst (v := 1) d_Model_practise_121 (by decide) <|
    am_iadd d_Model_practise_122 <|
    am_goto (tgt := 128) d_Model_practise_123 (by decide) k
theorem b_Model_practise_126 {d : Nat} {x1 : Int32} {x2 : Int64} {x4 : Int32} {x5 : Int64} {x7 : Int32} {x8 : Int32} {x9 : Int64} {h : am_H} {Q : am_Q} (k : am_W (X_Model_practise d) 128 [some (.ref 0), some (.int x1), some (.long x2), none, some (.int x4), some (.long x5), none, some (.int x7), some (.int x8), some (.long x9), none] [.int x4] h Q) : am_W (X_Model_practise d) 126 [some (.ref 0), some (.int x1), some (.long x2), none, some (.int x4), some (.long x5), none, some (.int x7), some (.int x8), some (.long x9), none] [] h Q :=
  am_iload d_Model_practise_126 rfl <|
    k
theorem b_Model_practise_128 {d : Nat} {x1 : Int32} {x2 : Int64} {x4 : Int32} {x5 : Int64} {x7 : Int32} {x8 : Int32} {x9 : Int64} {y0 : Int32} {h : am_H} {Q : am_Q} (kt : x9 ≤ x5 → am_W (X_Model_practise d) 143 [some (.ref 0), some (.int x1), some (.long x2), none, some (.int y0), some (.long x5), none, some (.int x7), some (.int x8), some (.long x9), none] [] h Q) (kf : ¬ x9 ≤ x5 → am_W (X_Model_practise d) 138 [some (.ref 0), some (.int x1), some (.long x2), none, some (.int y0), some (.long x5), none, some (.int x7), some (.int x8), some (.long x9), none] [] h Q) : am_W (X_Model_practise d) 128 [some (.ref 0), some (.int x1), some (.long x2), none, some (.int x4), some (.long x5), none, some (.int x7), some (.int x8), some (.long x9), none] [.int y0] h Q :=
  am_istore (ls' := [some (.ref 0), some (.int x1), some (.long x2), none, some (.int y0), some (.long x5), none, some (.int x7), some (.int x8), some (.long x9), none]) d_Model_practise_128 (Nat.le_of_ble_eq_true rfl) rfl <|
    am_lload d_Model_practise_130 rfl <|
    am_lload d_Model_practise_132 rfl <|
    am_lc_if_le (tgt := 143) d_Model_practise_134 d_Model_practise_135 (by decide) kt kf
theorem b_Model_practise_138 {d : Nat} {x1 : Int32} {x2 : Int64} {x4 : Int32} {x5 : Int64} {x7 : Int32} {x8 : Int32} {x9 : Int64} {h : am_H} {Q : am_Q} (k : am_W (X_Model_practise d) 145 [some (.ref 0), some (.int x1), some (.long x2), none, some (.int x4), some (.long x5), none, some (.int x7), some (.int x8), some (.long x9), none] [.long x9] h Q) : am_W (X_Model_practise d) 138 [some (.ref 0), some (.int x1), some (.long x2), none, some (.int x4), some (.long x5), none, some (.int x7), some (.int x8), some (.long x9), none] [] h Q :=
  am_lload d_Model_practise_138 rfl <|
    am_goto (tgt := 145) d_Model_practise_140 (by decide) k
theorem b_Model_practise_143 {d : Nat} {x1 : Int32} {x2 : Int64} {x4 : Int32} {x5 : Int64} {x7 : Int32} {x8 : Int32} {x9 : Int64} {h : am_H} {Q : am_Q} (k : am_W (X_Model_practise d) 145 [some (.ref 0), some (.int x1), some (.long x2), none, some (.int x4), some (.long x5), none, some (.int x7), some (.int x8), some (.long x9), none] [.long x5] h Q) : am_W (X_Model_practise d) 143 [some (.ref 0), some (.int x1), some (.long x2), none, some (.int x4), some (.long x5), none, some (.int x7), some (.int x8), some (.long x9), none] [] h Q :=
  am_lload d_Model_practise_143 rfl <|
    k
theorem b_Model_practise_145 {d : Nat} {x1 : Int32} {x2 : Int64} {x4 : Int32} {x5 : Int64} {x7 : Int32} {x8 : Int32} {x9 : Int64} {y0 : Int64} {h : am_H} {Q : am_Q} (k : am_W (X_Model_practise d) 64 [some (.ref 0), some (.int x1), some (.long x2), none, some (.int x4), some (.long y0), none, some (.int (x7 + 1)), some (.int x8), some (.long x9), none] [] h Q) : am_W (X_Model_practise d) 145 [some (.ref 0), some (.int x1), some (.long x2), none, some (.int x4), some (.long x5), none, some (.int x7), some (.int x8), some (.long x9), none] [.long y0] h Q :=
  am_lstore (ls' := [some (.ref 0), some (.int x1), some (.long x2), none, some (.int x4), some (.long y0), none, some (.int x7), some (.int x8), some (.long x9), none]) d_Model_practise_145 (Nat.le_of_ble_eq_true rfl) rfl <|
    am_iinc (v := (x7 + 1)) (ls' := [some (.ref 0), some (.int x1), some (.long x2), none, some (.int x4), some (.long y0), none, some (.int (x7 + 1)), some (.int x8), some (.long x9), none]) d_Model_practise_147 rfl rfl (Nat.le_of_ble_eq_true rfl) rfl <|
    am_goto (tgt := 64) d_Model_practise_150 (by decide) k
theorem b_Model_practise_153 {d : Nat} {x1 : Int32} {x2 : Int64} {x4 : Int32} {x5 : Int64} {x7 : Int32} {h : am_H} {Q : am_Q} (kt : ¬ x1 = 2 → am_W (X_Model_practise d) 164 [some (.ref 0), some (.int x1), some (.long x2), none, some (.int x4), some (.long x5), none, some (.int x7), none, none, none] [] h Q) (kf : x1 = 2 → am_W (X_Model_practise d) 158 [some (.ref 0), some (.int x1), some (.long x2), none, some (.int x4), some (.long x5), none, some (.int x7), none, none, none] [] h Q) : am_W (X_Model_practise d) 153 [some (.ref 0), some (.int x1), some (.long x2), none, some (.int x4), some (.long x5), none, some (.int x7), none, none, none] [] h Q :=
  am_iload_n d_Model_practise_153 rfl (i := 1) rfl <|
    am_iconst (v := 2) d_Model_practise_154 (by decide) <|
    am_icmp_ne (tgt := 164) d_Model_practise_155 (by decide) kt kf
theorem b_Model_practise_158 {d : Nat} {x1 : Int32} {x2 : Int64} {x4 : Int32} {x5 : Int64} {x7 : Int32} {h : am_H} {Q : am_Q} (q : Q (some (.long x4.toInt64)) h) : am_W (X_Model_practise d) 158 [some (.ref 0), some (.int x1), some (.long x2), none, some (.int x4), some (.long x5), none, some (.int x7), none, none, none] [] h Q :=
  am_iload d_Model_practise_158 rfl <|
    am_i2l d_Model_practise_160 <|
    am_goto (tgt := 176) d_Model_practise_161 (by decide) <|
    am_lret rfl d_Model_practise_176 q
theorem b_Model_practise_164 {d : Nat} {x1 : Int32} {x2 : Int64} {x4 : Int32} {x5 : Int64} {x7 : Int32} {h : am_H} {Q : am_Q} (k : m_Model_partOf d [.long x5, .long (h.2 10 (3 : Int32).toNatClampNeg), .int x1] h (fun r hh => am_W (X_Model_practise (d + 1)) 176 [some (.ref 0), some (.int x1), some (.long x2), none, some (.int x4), some (.long x5), none, some (.int x7), none, none, none] (r.toList ++ []) hh Q)) : am_W (X_Model_practise (d + 1)) 164 [some (.ref 0), some (.int x1), some (.long x2), none, some (.int x4), some (.long x5), none, some (.int x7), none, none, none] [] h Q :=
  am_lload d_Model_practise_164 rfl <|
    am_aload_n d_Model_practise_166 rfl (i := 0) rfl <|
    am_getR (ci := 10) (i := 19) rfl rfl rfl (Nat.le_of_ble_eq_true rfl) w_1337 d_Model_practise_167 <|
    am_iconst (v := 3) d_Model_practise_170 (by decide) <|
    am_lald rfl (am_vin (by decide)) d_Model_practise_171 <|
    am_iload_n d_Model_practise_172 rfl (i := 1) rfl <|
    am_callS (vs := [.long x5, .long (h.2 10 (3 : Int32).toNatClampNeg), .int x1]) (st := []) rfl d_Model_practise_173 w_1590 w_1591 w_94 w_1592 p_Model_partOf (Nat.le_of_ble_eq_true rfl) (Nat.le_of_ble_eq_true rfl) rfl k
theorem b_Model_practise_176 {d : Nat} {x1 : Int32} {x2 : Int64} {x4 : Int32} {x5 : Int64} {x7 : Int32} {y0 : Int64} {h : am_H} {Q : am_Q} (q : Q (some (.long y0)) h) : am_W (X_Model_practise d) 176 [some (.ref 0), some (.int x1), some (.long x2), none, some (.int x4), some (.long x5), none, some (.int x7), none, none, none] [.long y0] h Q :=
  am_lret rfl d_Model_practise_176 q
theorem t_Model_practise_176 {d : Nat} {x1 : Int32} {x2 : Int64} {x4 : Int32} {x5 : Int64} {x7 : Int32} {y0 : Int64} {h : am_H} {Q : am_Q} {res : Int64 × am_H} (e : f_Model_practise_176 h y0 = some res) (q : Q (some (.long res.1)) res.2) : am_W (X_Model_practise (d + 72)) 176 [some (.ref 0), some (.int x1), some (.long x2), none, some (.int x4), some (.long x5), none, some (.int x7), none, none, none] [.long y0] h Q :=
  b_Model_practise_176 (d := (d + 72)) (q := (am_rJpi (v := y0) e q))
theorem t_Model_practise_164 {d : Nat} {x1 : Int32} {x2 : Int64} {x4 : Int32} {x5 : Int64} {x7 : Int32} {h : am_H} {Q : am_Q} {res : Int64 × am_H} (e : f_Model_practise_164 h x1 x5 = some res) (q : Q (some (.long res.1)) res.2) : am_W (X_Model_practise (d + 72)) 164 [some (.ref 0), some (.int x1), some (.long x2), none, some (.int x4), some (.long x5), none, some (.int x7), none, none, none] [] h Q :=
  (am_bd e).elim fun p hp => b_Model_practise_164 (d := (d + 71)) (k := c_Model_partOf (d := d + 70) hp.1 (t_Model_practise_176 hp.2 q))
theorem t_Model_practise_158 {d : Nat} {x1 : Int32} {x2 : Int64} {x4 : Int32} {x5 : Int64} {x7 : Int32} {h : am_H} {Q : am_Q} {res : Int64 × am_H} (e : f_Model_practise_158 h x4 = some res) (q : Q (some (.long res.1)) res.2) : am_W (X_Model_practise (d + 72)) 158 [some (.ref 0), some (.int x1), some (.long x2), none, some (.int x4), some (.long x5), none, some (.int x7), none, none, none] [] h Q :=
  b_Model_practise_158 (d := (d + 72)) (q := (am_rJpi (v := x4.toInt64) e q))
theorem t_Model_practise_153 {d : Nat} {x1 : Int32} {x2 : Int64} {x4 : Int32} {x5 : Int64} {x7 : Int32} {h : am_H} {Q : am_Q} {res : Int64 × am_H} (e : f_Model_practise_153 h x1 x4 x5 = some res) (q : Q (some (.long res.1)) res.2) : am_W (X_Model_practise (d + 72)) 153 [some (.ref 0), some (.int x1), some (.long x2), none, some (.int x4), some (.long x5), none, some (.int x7), none, none, none] [] h Q :=
  b_Model_practise_153 (d := (d + 72)) (kt := fun c => (t_Model_practise_164 (am_ife e c) q)) (kf := fun c => (t_Model_practise_158 (am_ift e c) q))
theorem t_Model_practise_145 {d : Nat} {k64 : am_H → Int32 → Int64 → Int32 → Int64 → Int32 → Option (Int64 × am_H)} {x1 : Int32} {x2 : Int64} {x4 : Int32} {x5 : Int64} {x7 : Int32} {x8 : Int32} {x9 : Int64} {y0 : Int64} {h : am_H} {Q : am_Q} {res : Int64 × am_H} (hk64 : ∀ (x1 : Int32) (x2 : Int64) (x4 : Int32) (x5 : Int64) (x7 : Int32) (h : am_H), k64 h x1 x2 x4 x5 x7 = some res → am_W (X_Model_practise (d + 72)) 64 [some (.ref 0), some (.int x1), some (.long x2), none, some (.int x4), some (.long x5), none, some (.int x7), none, none, none] [] h Q) (e : f_Model_practise_145 k64 h x1 x2 x4 x7 y0 = some res) (q : Q (some (.long res.1)) res.2) : am_W (X_Model_practise (d + 72)) 145 [some (.ref 0), some (.int x1), some (.long x2), none, some (.int x4), some (.long x5), none, some (.int x7), some (.int x8), some (.long x9), none] [.long y0] h Q :=
  b_Model_practise_145 (d := (d + 72)) (k := (am_wk2 (hk64 _ _ _ _ _ _ e) ⟨rfl, ⟨rfl, ⟨rfl, ⟨rfl, ⟨rfl, ⟨rfl, trivial⟩⟩⟩⟩⟩⟩))
theorem t_Model_practise_143 {d : Nat} {k64 : am_H → Int32 → Int64 → Int32 → Int64 → Int32 → Option (Int64 × am_H)} {x1 : Int32} {x2 : Int64} {x4 : Int32} {x5 : Int64} {x7 : Int32} {x8 : Int32} {x9 : Int64} {h : am_H} {Q : am_Q} {res : Int64 × am_H} (hk64 : ∀ (x1 : Int32) (x2 : Int64) (x4 : Int32) (x5 : Int64) (x7 : Int32) (h : am_H), k64 h x1 x2 x4 x5 x7 = some res → am_W (X_Model_practise (d + 72)) 64 [some (.ref 0), some (.int x1), some (.long x2), none, some (.int x4), some (.long x5), none, some (.int x7), none, none, none] [] h Q) (e : f_Model_practise_143 k64 h x1 x2 x4 x5 x7 = some res) (q : Q (some (.long res.1)) res.2) : am_W (X_Model_practise (d + 72)) 143 [some (.ref 0), some (.int x1), some (.long x2), none, some (.int x4), some (.long x5), none, some (.int x7), some (.int x8), some (.long x9), none] [] h Q :=
  b_Model_practise_143 (d := (d + 72)) (k := (t_Model_practise_145 hk64 e q))
theorem t_Model_practise_138 {d : Nat} {k64 : am_H → Int32 → Int64 → Int32 → Int64 → Int32 → Option (Int64 × am_H)} {x1 : Int32} {x2 : Int64} {x4 : Int32} {x5 : Int64} {x7 : Int32} {x8 : Int32} {x9 : Int64} {h : am_H} {Q : am_Q} {res : Int64 × am_H} (hk64 : ∀ (x1 : Int32) (x2 : Int64) (x4 : Int32) (x5 : Int64) (x7 : Int32) (h : am_H), k64 h x1 x2 x4 x5 x7 = some res → am_W (X_Model_practise (d + 72)) 64 [some (.ref 0), some (.int x1), some (.long x2), none, some (.int x4), some (.long x5), none, some (.int x7), none, none, none] [] h Q) (e : f_Model_practise_138 k64 h x1 x2 x4 x7 x9 = some res) (q : Q (some (.long res.1)) res.2) : am_W (X_Model_practise (d + 72)) 138 [some (.ref 0), some (.int x1), some (.long x2), none, some (.int x4), some (.long x5), none, some (.int x7), some (.int x8), some (.long x9), none] [] h Q :=
  b_Model_practise_138 (d := (d + 72)) (k := (t_Model_practise_145 hk64 e q))
theorem t_Model_practise_128 {d : Nat} {k64 : am_H → Int32 → Int64 → Int32 → Int64 → Int32 → Option (Int64 × am_H)} {x1 : Int32} {x2 : Int64} {x4 : Int32} {x5 : Int64} {x7 : Int32} {x8 : Int32} {x9 : Int64} {y0 : Int32} {h : am_H} {Q : am_Q} {res : Int64 × am_H} (hk64 : ∀ (x1 : Int32) (x2 : Int64) (x4 : Int32) (x5 : Int64) (x7 : Int32) (h : am_H), k64 h x1 x2 x4 x5 x7 = some res → am_W (X_Model_practise (d + 72)) 64 [some (.ref 0), some (.int x1), some (.long x2), none, some (.int x4), some (.long x5), none, some (.int x7), none, none, none] [] h Q) (e : f_Model_practise_128 k64 h x1 x2 x5 x7 x9 y0 = some res) (q : Q (some (.long res.1)) res.2) : am_W (X_Model_practise (d + 72)) 128 [some (.ref 0), some (.int x1), some (.long x2), none, some (.int x4), some (.long x5), none, some (.int x7), some (.int x8), some (.long x9), none] [.int y0] h Q :=
  b_Model_practise_128 (d := (d + 72)) (kt := fun c => (t_Model_practise_143 hk64 (am_ift e c) q)) (kf := fun c => (t_Model_practise_138 hk64 (am_ife e c) q))
theorem t_Model_practise_126 {d : Nat} {k64 : am_H → Int32 → Int64 → Int32 → Int64 → Int32 → Option (Int64 × am_H)} {x1 : Int32} {x2 : Int64} {x4 : Int32} {x5 : Int64} {x7 : Int32} {x8 : Int32} {x9 : Int64} {h : am_H} {Q : am_Q} {res : Int64 × am_H} (hk64 : ∀ (x1 : Int32) (x2 : Int64) (x4 : Int32) (x5 : Int64) (x7 : Int32) (h : am_H), k64 h x1 x2 x4 x5 x7 = some res → am_W (X_Model_practise (d + 72)) 64 [some (.ref 0), some (.int x1), some (.long x2), none, some (.int x4), some (.long x5), none, some (.int x7), none, none, none] [] h Q) (e : f_Model_practise_126 k64 h x1 x2 x4 x5 x7 x9 = some res) (q : Q (some (.long res.1)) res.2) : am_W (X_Model_practise (d + 72)) 126 [some (.ref 0), some (.int x1), some (.long x2), none, some (.int x4), some (.long x5), none, some (.int x7), some (.int x8), some (.long x9), none] [] h Q :=
  b_Model_practise_126 (d := (d + 72)) (k := (t_Model_practise_128 hk64 e q))
theorem t_Model_practise_119 {d : Nat} {k64 : am_H → Int32 → Int64 → Int32 → Int64 → Int32 → Option (Int64 × am_H)} {x1 : Int32} {x2 : Int64} {x4 : Int32} {x5 : Int64} {x7 : Int32} {x8 : Int32} {x9 : Int64} {h : am_H} {Q : am_Q} {res : Int64 × am_H} (hk64 : ∀ (x1 : Int32) (x2 : Int64) (x4 : Int32) (x5 : Int64) (x7 : Int32) (h : am_H), k64 h x1 x2 x4 x5 x7 = some res → am_W (X_Model_practise (d + 72)) 64 [some (.ref 0), some (.int x1), some (.long x2), none, some (.int x4), some (.long x5), none, some (.int x7), none, none, none] [] h Q) (e : f_Model_practise_119 k64 h x1 x2 x5 x7 x9 = some res) (q : Q (some (.long res.1)) res.2) : am_W (X_Model_practise (d + 72)) 119 [some (.ref 0), some (.int x1), some (.long x2), none, some (.int x4), some (.long x5), none, some (.int x7), some (.int x8), some (.long x9), none] [] h Q :=
  b_Model_practise_119 (d := (d + 72)) (k := (t_Model_practise_128 hk64 e q))
theorem t_Model_practise_108 {d : Nat} {k64 : am_H → Int32 → Int64 → Int32 → Int64 → Int32 → Option (Int64 × am_H)} {x1 : Int32} {x2 : Int64} {x4 : Int32} {x5 : Int64} {x7 : Int32} {x8 : Int32} {y1 : Int64} {y0 : Int64} {h : am_H} {Q : am_Q} {res : Int64 × am_H} (hk64 : ∀ (x1 : Int32) (x2 : Int64) (x4 : Int32) (x5 : Int64) (x7 : Int32) (h : am_H), k64 h x1 x2 x4 x5 x7 = some res → am_W (X_Model_practise (d + 72)) 64 [some (.ref 0), some (.int x1), some (.long x2), none, some (.int x4), some (.long x5), none, some (.int x7), none, none, none] [] h Q) (e : f_Model_practise_108 k64 h x1 x2 x4 x5 x7 y1 y0 = some res) (q : Q (some (.long res.1)) res.2) : am_W (X_Model_practise (d + 72)) 108 [some (.ref 0), some (.int x1), some (.long x2), none, some (.int x4), some (.long x5), none, some (.int x7), some (.int x8), none, none] [.long y1, .long y0] h Q :=
  b_Model_practise_108 (d := (d + 72)) (kt := fun c => (t_Model_practise_126 hk64 (am_ift e c) q)) (kf := fun c => (t_Model_practise_119 hk64 (am_ife e c) q))
theorem t_Model_practise_105 {d : Nat} {k64 : am_H → Int32 → Int64 → Int32 → Int64 → Int32 → Option (Int64 × am_H)} {x1 : Int32} {x2 : Int64} {x4 : Int32} {x5 : Int64} {x7 : Int32} {x8 : Int32} {y3 : Int32} {y2 : Int32} {y0 : Int64} {h : am_H} {Q : am_Q} {res : Int64 × am_H} (hk64 : ∀ (x1 : Int32) (x2 : Int64) (x4 : Int32) (x5 : Int64) (x7 : Int32) (h : am_H), k64 h x1 x2 x4 x5 x7 = some res → am_W (X_Model_practise (d + 72)) 64 [some (.ref 0), some (.int x1), some (.long x2), none, some (.int x4), some (.long x5), none, some (.int x7), none, none, none] [] h Q) (e : f_Model_practise_105 k64 h x1 x2 x4 x5 x7 y3 y2 y0 = some res) (q : Q (some (.long res.1)) res.2) : am_W (X_Model_practise (d + 72)) 105 [some (.ref 0), some (.int x1), some (.long x2), none, some (.int x4), some (.long x5), none, some (.int x7), some (.int x8), none, none] [.int y3, .int y2, .ref 0, .long y0] h Q :=
  (am_bd e).elim fun p hp => b_Model_practise_105 (d := (d + 71)) (k := c_Model_teeWith (d := d) hp.1 (t_Model_practise_108 hk64 hp.2 q))
theorem t_Model_practise_104 {d : Nat} {k64 : am_H → Int32 → Int64 → Int32 → Int64 → Int32 → Option (Int64 × am_H)} {x1 : Int32} {x2 : Int64} {x4 : Int32} {x5 : Int64} {x7 : Int32} {x8 : Int32} {y2 : Int32} {y0 : Int64} {h : am_H} {Q : am_Q} {res : Int64 × am_H} (hk64 : ∀ (x1 : Int32) (x2 : Int64) (x4 : Int32) (x5 : Int64) (x7 : Int32) (h : am_H), k64 h x1 x2 x4 x5 x7 = some res → am_W (X_Model_practise (d + 72)) 64 [some (.ref 0), some (.int x1), some (.long x2), none, some (.int x4), some (.long x5), none, some (.int x7), none, none, none] [] h Q) (e : f_Model_practise_104 k64 h x1 x2 x4 x5 x7 y2 y0 = some res) (q : Q (some (.long res.1)) res.2) : am_W (X_Model_practise (d + 72)) 104 [some (.ref 0), some (.int x1), some (.long x2), none, some (.int x4), some (.long x5), none, some (.int x7), some (.int x8), none, none] [.int y2, .ref 0, .long y0] h Q :=
  b_Model_practise_104 (d := (d + 72)) (k := (t_Model_practise_105 hk64 e q))
theorem t_Model_practise_97 {d : Nat} {k64 : am_H → Int32 → Int64 → Int32 → Int64 → Int32 → Option (Int64 × am_H)} {x1 : Int32} {x2 : Int64} {x4 : Int32} {x5 : Int64} {x7 : Int32} {x8 : Int32} {y2 : Int32} {y0 : Int64} {h : am_H} {Q : am_Q} {res : Int64 × am_H} (hk64 : ∀ (x1 : Int32) (x2 : Int64) (x4 : Int32) (x5 : Int64) (x7 : Int32) (h : am_H), k64 h x1 x2 x4 x5 x7 = some res → am_W (X_Model_practise (d + 72)) 64 [some (.ref 0), some (.int x1), some (.long x2), none, some (.int x4), some (.long x5), none, some (.int x7), none, none, none] [] h Q) (e : f_Model_practise_97 k64 h x1 x2 x4 x5 x7 x8 y2 y0 = some res) (q : Q (some (.long res.1)) res.2) : am_W (X_Model_practise (d + 72)) 97 [some (.ref 0), some (.int x1), some (.long x2), none, some (.int x4), some (.long x5), none, some (.int x7), some (.int x8), none, none] [.int y2, .ref 0, .long y0] h Q :=
  b_Model_practise_97 (d := (d + 72)) (k := (t_Model_practise_105 hk64 e q))
theorem t_Model_practise_73 {d : Nat} {k64 : am_H → Int32 → Int64 → Int32 → Int64 → Int32 → Option (Int64 × am_H)} {x1 : Int32} {x2 : Int64} {x4 : Int32} {x5 : Int64} {x7 : Int32} {h : am_H} {Q : am_Q} {res : Int64 × am_H} (hk64 : ∀ (x1 : Int32) (x2 : Int64) (x4 : Int32) (x5 : Int64) (x7 : Int32) (h : am_H), k64 h x1 x2 x4 x5 x7 = some res → am_W (X_Model_practise (d + 72)) 64 [some (.ref 0), some (.int x1), some (.long x2), none, some (.int x4), some (.long x5), none, some (.int x7), none, none, none] [] h Q) (e : f_Model_practise_73 k64 h x1 x2 x4 x5 x7 = some res) (q : Q (some (.long res.1)) res.2) : am_W (X_Model_practise (d + 72)) 73 [some (.ref 0), some (.int x1), some (.long x2), none, some (.int x4), some (.long x5), none, some (.int x7), none, none, none] [] h Q :=
  b_Model_practise_73 (d := (d + 72)) (q0 := (am_okv (am_gd e))) (kt := fun c => (t_Model_practise_104 hk64 (am_ift (am_ga e) c) q)) (kf := fun c => (t_Model_practise_97 hk64 (am_ife (am_ga e) c) q))
theorem t_Model_practise_64 {d : Nat} {k64 : am_H → Int32 → Int64 → Int32 → Int64 → Int32 → Option (Int64 × am_H)} {x1 : Int32} {x2 : Int64} {x4 : Int32} {x5 : Int64} {x7 : Int32} {h : am_H} {Q : am_Q} {res : Int64 × am_H} (hk64 : ∀ (x1 : Int32) (x2 : Int64) (x4 : Int32) (x5 : Int64) (x7 : Int32) (h : am_H), k64 h x1 x2 x4 x5 x7 = some res → am_W (X_Model_practise (d + 72)) 64 [some (.ref 0), some (.int x1), some (.long x2), none, some (.int x4), some (.long x5), none, some (.int x7), none, none, none] [] h Q) (e : f_Model_practise_64 k64 h x1 x2 x4 x5 x7 = some res) (q : Q (some (.long res.1)) res.2) : am_W (X_Model_practise (d + 72)) 64 [some (.ref 0), some (.int x1), some (.long x2), none, some (.int x4), some (.long x5), none, some (.int x7), none, none, none] [] h Q :=
  b_Model_practise_64 (d := (d + 72)) (kt := fun c => (t_Model_practise_153 (am_ift e c) q)) (kf := fun c => (t_Model_practise_73 hk64 (am_ife e c) q))
theorem t_Model_practise_64_l {d : Nat} {Q : am_Q} {res : Int64 × am_H} (q : Q (some (.long res.1)) res.2) : ∀ (n : Nat) (x1 : Int32) (x2 : Int64) (x4 : Int32) (x5 : Int64) (x7 : Int32) (h : am_H), f_Model_practise_64_l n h x1 x2 x4 x5 x7 = some res → am_W (X_Model_practise (d + 72)) 64 [some (.ref 0), some (.int x1), some (.long x2), none, some (.int x4), some (.long x5), none, some (.int x7), none, none, none] [] h Q := by
  intro n
  induction n with
  | zero => intro x1 x2 x4 x5 x7 h e; exact am_nn e
  | succ n ih => intro x1 x2 x4 x5 x7 h e; exact t_Model_practise_64 (fun x1 x2 x4 x5 x7 h e => ih x1 x2 x4 x5 x7 h  e) e q
theorem t_Model_practise_58 {d : Nat} {x1 : Int32} {x2 : Int64} {x4 : Int32} {y1 : Int64} {y0 : Int64} {h : am_H} {Q : am_Q} {res : Int64 × am_H} (e : f_Model_practise_58 h x1 x2 x4 y1 y0 = some res) (q : Q (some (.long res.1)) res.2) : am_W (X_Model_practise (d + 72)) 58 [some (.ref 0), some (.int x1), some (.long x2), none, some (.int x4), none, none, none, none, none, none] [.long y1, .long y0] h Q :=
  b_Model_practise_58 (d := (d + 72)) (k := (t_Model_practise_64_l q am_fu _ _ _ _ _ _ e))
theorem t_Model_practise_55 {d : Nat} {x1 : Int32} {x2 : Int64} {x4 : Int32} {y3 : Int32} {y2 : Int32} {y0 : Int64} {h : am_H} {Q : am_Q} {res : Int64 × am_H} (e : f_Model_practise_55 h x1 x2 x4 y3 y2 y0 = some res) (q : Q (some (.long res.1)) res.2) : am_W (X_Model_practise (d + 72)) 55 [some (.ref 0), some (.int x1), some (.long x2), none, some (.int x4), none, none, none, none, none, none] [.int y3, .int y2, .ref 0, .long y0] h Q :=
  (am_bd e).elim fun p hp => b_Model_practise_55 (d := (d + 71)) (k := c_Model_teeWith (d := d) hp.1 (t_Model_practise_58 hp.2 q))
theorem t_Model_practise_53 {d : Nat} {x1 : Int32} {x2 : Int64} {x4 : Int32} {y2 : Int32} {y0 : Int64} {h : am_H} {Q : am_Q} {res : Int64 × am_H} (e : f_Model_practise_53 h x1 x2 x4 y2 y0 = some res) (q : Q (some (.long res.1)) res.2) : am_W (X_Model_practise (d + 72)) 53 [some (.ref 0), some (.int x1), some (.long x2), none, some (.int x4), none, none, none, none, none, none] [.int y2, .ref 0, .long y0] h Q :=
  b_Model_practise_53 (d := (d + 72)) (k := (t_Model_practise_55 e q))
theorem t_Model_practise_41 {d : Nat} {x1 : Int32} {x2 : Int64} {x4 : Int32} {y2 : Int32} {y0 : Int64} {h : am_H} {Q : am_Q} {res : Int64 × am_H} (e : f_Model_practise_41 h x1 x2 x4 y2 y0 = some res) (q : Q (some (.long res.1)) res.2) : am_W (X_Model_practise (d + 72)) 41 [some (.ref 0), some (.int x1), some (.long x2), none, some (.int x4), none, none, none, none, none, none] [.int y2, .ref 0, .long y0] h Q :=
  b_Model_practise_41 (d := (d + 72)) (k := (t_Model_practise_55 e q))
theorem t_Model_practise_21 {d : Nat} {x1 : Int32} {y0 : Int64} {h : am_H} {Q : am_Q} {res : Int64 × am_H} (e : f_Model_practise_21 h x1 y0 = some res) (q : Q (some (.long res.1)) res.2) : am_W (X_Model_practise (d + 72)) 21 [some (.ref 0), some (.int x1), none, none, none, none, none, none, none, none, none] [.long y0] h Q :=
  b_Model_practise_21 (d := (d + 72)) (kt := fun c => (t_Model_practise_53 (am_ift e c) q)) (kf := fun c => (t_Model_practise_41 (am_ife e c) q))
theorem t_Model_practise_16 {d : Nat} {x1 : Int32} {h : am_H} {Q : am_Q} {res : Int64 × am_H} (e : f_Model_practise_16 h x1 = some res) (q : Q (some (.long res.1)) res.2) : am_W (X_Model_practise (d + 72)) 16 [some (.ref 0), some (.int x1), none, none, none, none, none, none, none, none, none] [] h Q :=
  (am_bd e).elim fun p hp => b_Model_practise_16 (d := (d + 71)) (k := c_Model_fromTee (d := d + 1) hp.1 (t_Model_practise_21 hp.2 q))
theorem t_Model_practise_12 {d : Nat} {x1 : Int32} {h : am_H} {Q : am_Q} {res : Int64 × am_H} (e : f_Model_practise_12 h = some res) (q : Q (some (.long res.1)) res.2) : am_W (X_Model_practise (d + 72)) 12 [some (.ref 0), some (.int x1), none, none, none, none, none, none, none, none, none] [] h Q :=
  b_Model_practise_12 (d := (d + 72)) (q := (am_rJpi (v := (-9223372036854775808)) e q))
theorem t_Model_practise_9 {d : Nat} {x1 : Int32} {y0 : Bool} {h : am_H} {Q : am_Q} {res : Int64 × am_H} (e : f_Model_practise_9 h x1 y0 = some res) (q : Q (some (.long res.1)) res.2) : am_W (X_Model_practise (d + 72)) 9 [some (.ref 0), some (.int x1), none, none, none, none, none, none, none, none, none] [.int (am_b y0)] h Q :=
  b_Model_practise_9 (d := (d + 72)) (kt := fun c => (t_Model_practise_16 (am_ift e (am_bn c)) q)) (kf := fun c => (t_Model_practise_12 (am_iff e (am_bz c)) q))
theorem t_Model_practise_0 {d : Nat} {x1 : Int32} {h : am_H} {Q : am_Q} {res : Int64 × am_H} (e : f_Model_practise h x1 = some res) (q : Q (some (.long res.1)) res.2) : am_W (X_Model_practise (d + 72)) 0 [some (.ref 0), some (.int x1), none, none, none, none, none, none, none, none, none] [] h Q :=
  b_Model_practise_0 (d := (d + 71)) (k := c_Model_within (d := d + 71) rfl (t_Model_practise_9 e q))
theorem c_Model_practise {d : Nat} {x1 : Int32} {h : am_H} {Q : am_Q} {res : Int64 × am_H} (e : f_Model_practise h x1 = some res) (q : Q (some (.long res.1)) res.2) : m_Model_practise (d + 72) [.ref 0, .int x1] h Q :=
  e_Model_practise (t_Model_practise_0 e q)
theorem d_Model_dream_0 : decode prog_12_method_58_code 0 = .ok (.iload_n 1, 1) := by decide +kernel
theorem d_Model_dream_1 : decode prog_12_method_58_code 1 = .ok (.i2l, 1) := by decide +kernel
theorem d_Model_dream_2 : decode prog_12_method_58_code 2 = .ok (.lconst 0, 1) := by decide +kernel
theorem d_Model_dream_3 : decode prog_12_method_58_code 3 = .ok (.lconst 1, 1) := by decide +kernel
theorem d_Model_dream_4 : decode prog_12_method_58_code 4 = .ok (.invokestatic 83, 3) := by decide +kernel
theorem d_Model_dream_7 : decode prog_12_method_58_code 7 = .ok (.ifCond .ne 7, 3) := by decide +kernel
theorem d_Model_dream_10 : decode prog_12_method_58_code 10 = .ok (.ldc2_w 223, 3) := by decide +kernel
theorem d_Model_dream_13 : decode prog_12_method_58_code 13 = .ok (.lreturn, 1) := by decide +kernel
theorem d_Model_dream_14 : decode prog_12_method_58_code 14 = .ok (.aload_n 0, 1) := by decide +kernel
theorem d_Model_dream_15 : decode prog_12_method_58_code 15 = .ok (.iconst 1, 1) := by decide +kernel
theorem d_Model_dream_16 : decode prog_12_method_58_code 16 = .ok (.invokevirtual 263, 3) := by decide +kernel
theorem d_Model_dream_19 : decode prog_12_method_58_code 19 = .ok (.lstore_n 2, 1) := by decide +kernel
theorem d_Model_dream_20 : decode prog_12_method_58_code 20 = .ok (.iconst 0, 1) := by decide +kernel
theorem d_Model_dream_21 : decode prog_12_method_58_code 21 = .ok (.istore 4, 2) := by decide +kernel
theorem d_Model_dream_23 : decode prog_12_method_58_code 23 = .ok (.iload 4, 2) := by decide +kernel
theorem d_Model_dream_25 : decode prog_12_method_58_code 25 = .ok (.aload_n 0, 1) := by decide +kernel
theorem d_Model_dream_26 : decode prog_12_method_58_code 26 = .ok (.getfield 80, 3) := by decide +kernel
theorem d_Model_dream_29 : decode prog_12_method_58_code 29 = .ok (.if_icmp .ge 37, 3) := by decide +kernel
theorem d_Model_dream_32 : decode prog_12_method_58_code 32 = .ok (.aload_n 0, 1) := by decide +kernel
theorem d_Model_dream_33 : decode prog_12_method_58_code 33 = .ok (.getfield 43, 3) := by decide +kernel
theorem d_Model_dream_36 : decode prog_12_method_58_code 36 = .ok (.iload 4, 2) := by decide +kernel
theorem d_Model_dream_38 : decode prog_12_method_58_code 38 = .ok (.aload_n 0, 1) := by decide +kernel
theorem d_Model_dream_39 : decode prog_12_method_58_code 39 = .ok (.getfield 11, 3) := by decide +kernel
theorem d_Model_dream_42 : decode prog_12_method_58_code 42 = .ok (.bipush 43, 2) := by decide +kernel
theorem d_Model_dream_44 : decode prog_12_method_58_code 44 = .ok (.iload 4, 2) := by decide +kernel
theorem d_Model_dream_46 : decode prog_12_method_58_code 46 = .ok (.iadd, 1) := by decide +kernel
theorem d_Model_dream_47 : decode prog_12_method_58_code 47 = .ok (.iaload, 1) := by decide +kernel
theorem d_Model_dream_48 : decode prog_12_method_58_code 48 = .ok (.iastore, 1) := by decide +kernel
theorem d_Model_dream_49 : decode prog_12_method_58_code 49 = .ok (.aload_n 0, 1) := by decide +kernel
theorem d_Model_dream_50 : decode prog_12_method_58_code 50 = .ok (.getfield 11, 3) := by decide +kernel
theorem d_Model_dream_53 : decode prog_12_method_58_code 53 = .ok (.bipush 43, 2) := by decide +kernel
theorem d_Model_dream_55 : decode prog_12_method_58_code 55 = .ok (.iload 4, 2) := by decide +kernel
theorem d_Model_dream_57 : decode prog_12_method_58_code 57 = .ok (.iadd, 1) := by decide +kernel
theorem d_Model_dream_58 : decode prog_12_method_58_code 58 = .ok (.iconst 0, 1) := by decide +kernel
theorem d_Model_dream_59 : decode prog_12_method_58_code 59 = .ok (.iastore, 1) := by decide +kernel
theorem d_Model_dream_60 : decode prog_12_method_58_code 60 = .ok (.iinc 4 1, 3) := by decide +kernel
theorem d_Model_dream_63 : decode prog_12_method_58_code 63 = .ok (.goto (-40), 3) := by decide +kernel
theorem d_Model_dream_66 : decode prog_12_method_58_code 66 = .ok (.aload_n 0, 1) := by decide +kernel
theorem d_Model_dream_67 : decode prog_12_method_58_code 67 = .ok (.iconst 1, 1) := by decide +kernel
theorem d_Model_dream_68 : decode prog_12_method_58_code 68 = .ok (.invokevirtual 263, 3) := by decide +kernel
theorem d_Model_dream_71 : decode prog_12_method_58_code 71 = .ok (.lstore 4, 2) := by decide +kernel
theorem d_Model_dream_73 : decode prog_12_method_58_code 73 = .ok (.iconst 0, 1) := by decide +kernel
theorem d_Model_dream_74 : decode prog_12_method_58_code 74 = .ok (.istore 6, 2) := by decide +kernel
theorem d_Model_dream_76 : decode prog_12_method_58_code 76 = .ok (.iload 6, 2) := by decide +kernel
theorem d_Model_dream_78 : decode prog_12_method_58_code 78 = .ok (.aload_n 0, 1) := by decide +kernel
theorem d_Model_dream_79 : decode prog_12_method_58_code 79 = .ok (.getfield 80, 3) := by decide +kernel
theorem d_Model_dream_82 : decode prog_12_method_58_code 82 = .ok (.if_icmp .ge 26, 3) := by decide +kernel
theorem d_Model_dream_85 : decode prog_12_method_58_code 85 = .ok (.aload_n 0, 1) := by decide +kernel
theorem d_Model_dream_86 : decode prog_12_method_58_code 86 = .ok (.getfield 11, 3) := by decide +kernel
theorem d_Model_dream_89 : decode prog_12_method_58_code 89 = .ok (.bipush 43, 2) := by decide +kernel
theorem d_Model_dream_91 : decode prog_12_method_58_code 91 = .ok (.iload 6, 2) := by decide +kernel
theorem d_Model_dream_93 : decode prog_12_method_58_code 93 = .ok (.iadd, 1) := by decide +kernel
theorem d_Model_dream_94 : decode prog_12_method_58_code 94 = .ok (.aload_n 0, 1) := by decide +kernel
theorem d_Model_dream_95 : decode prog_12_method_58_code 95 = .ok (.getfield 43, 3) := by decide +kernel
theorem d_Model_dream_98 : decode prog_12_method_58_code 98 = .ok (.iload 6, 2) := by decide +kernel
theorem d_Model_dream_100 : decode prog_12_method_58_code 100 = .ok (.iaload, 1) := by decide +kernel
theorem d_Model_dream_101 : decode prog_12_method_58_code 101 = .ok (.iastore, 1) := by decide +kernel
theorem d_Model_dream_102 : decode prog_12_method_58_code 102 = .ok (.iinc 6 1, 3) := by decide +kernel
theorem d_Model_dream_105 : decode prog_12_method_58_code 105 = .ok (.goto (-29), 3) := by decide +kernel
theorem d_Model_dream_108 : decode prog_12_method_58_code 108 = .ok (.lload_n 2, 1) := by decide +kernel
theorem d_Model_dream_109 : decode prog_12_method_58_code 109 = .ok (.lload 4, 2) := by decide +kernel
theorem d_Model_dream_111 : decode prog_12_method_58_code 111 = .ok (.lsub, 1) := by decide +kernel
theorem d_Model_dream_112 : decode prog_12_method_58_code 112 = .ok (.aload_n 0, 1) := by decide +kernel
theorem d_Model_dream_113 : decode prog_12_method_58_code 113 = .ok (.getfield 40, 3) := by decide +kernel
theorem d_Model_dream_116 : decode prog_12_method_58_code 116 = .ok (.iconst 3, 1) := by decide +kernel
theorem d_Model_dream_117 : decode prog_12_method_58_code 117 = .ok (.laload, 1) := by decide +kernel
theorem d_Model_dream_118 : decode prog_12_method_58_code 118 = .ok (.iload_n 1, 1) := by decide +kernel
theorem d_Model_dream_119 : decode prog_12_method_58_code 119 = .ok (.invokestatic 229, 3) := by decide +kernel
theorem d_Model_dream_122 : decode prog_12_method_58_code 122 = .ok (.lreturn, 1) := by decide +kernel
theorem b_Model_dream_0 {d : Nat} {x1 : Int32} {h : am_H} {Q : am_Q} (k : m_Model_within d [.long x1.toInt64, .long 0, .long 1] h (fun r hh => am_W (X_Model_dream (d + 1)) 7 [some (.ref 0), some (.int x1), none, none, none, none, none] (r.toList ++ []) hh Q)) : am_W (X_Model_dream (d + 1)) 0 [some (.ref 0), some (.int x1), none, none, none, none, none] [] h Q :=
  am_iload_n d_Model_dream_0 rfl (i := 1) rfl <|
    am_i2l d_Model_dream_1 <|
    am_lconst (v := 0) d_Model_dream_2 (by decide) <|
    am_lconst (v := 1) d_Model_dream_3 (by decide) <|
    am_callS (vs := [.long x1.toInt64, .long 0, .long 1]) (st := []) rfl d_Model_dream_4 w_1443 w_1444 w_94 w_1445 p_Model_within (Nat.le_of_ble_eq_true rfl) (Nat.le_of_ble_eq_true rfl) rfl k
theorem b_Model_dream_7 {d : Nat} {x1 : Int32} {y0 : Bool} {h : am_H} {Q : am_Q} (kt : ¬ (am_b y0) = 0 → am_W (X_Model_dream d) 14 [some (.ref 0), some (.int x1), none, none, none, none, none] [] h Q) (kf : (am_b y0) = 0 → am_W (X_Model_dream d) 10 [some (.ref 0), some (.int x1), none, none, none, none, none] [] h Q) : am_W (X_Model_dream d) 7 [some (.ref 0), some (.int x1), none, none, none, none, none] [.int (am_b y0)] h Q :=
  am_if_ne (tgt := 14) d_Model_dream_7 (by decide) kt kf
theorem b_Model_dream_10 {d : Nat} {x1 : Int32} {h : am_H} {Q : am_Q} (q : Q (some (.long (-9223372036854775808))) h) : am_W (X_Model_dream d) 10 [some (.ref 0), some (.int x1), none, none, none, none, none] [] h Q :=
  am_ldc2 (v := (-9223372036854775808)) d_Model_dream_10 w_1573 <|
    am_lret rfl d_Model_dream_13 q
theorem b_Model_dream_14 {d : Nat} {x1 : Int32} {h : am_H} {Q : am_Q} (k : m_Model_fromTee d [.ref 0, .int 1] h (fun r hh => am_W (X_Model_dream (d + 1)) 19 [some (.ref 0), some (.int x1), none, none, none, none, none] (r.toList ++ []) hh Q)) : am_W (X_Model_dream (d + 1)) 14 [some (.ref 0), some (.int x1), none, none, none, none, none] [] h Q :=
  am_aload_n d_Model_dream_14 rfl (i := 0) rfl <|
    am_iconst (v := 1) d_Model_dream_15 (by decide) <|
    am_callV (vs := [.int 1]) (st := []) (k := 0) (ci := 10) rfl d_Model_dream_16 rfl rfl w_1655 w_1657 w_64 w_94 w_1658 p_Model_fromTee (Nat.le_of_ble_eq_true rfl) (Nat.le_of_ble_eq_true rfl) rfl k
theorem b_Model_dream_19 {d : Nat} {x1 : Int32} {y0 : Int64} {h : am_H} {Q : am_Q} (k : am_W (X_Model_dream d) 23 [some (.ref 0), some (.int x1), some (.long y0), none, some (.int 0), none, none] [] h Q) : am_W (X_Model_dream d) 19 [some (.ref 0), some (.int x1), none, none, none, none, none] [.long y0] h Q :=
  am_lstore_n (ls' := [some (.ref 0), some (.int x1), some (.long y0), none, none, none, none]) d_Model_dream_19 rfl (Nat.le_of_ble_eq_true rfl) rfl <|
    am_iconst (v := 0) d_Model_dream_20 (by decide) <|
    am_istore (ls' := [some (.ref 0), some (.int x1), some (.long y0), none, some (.int 0), none, none]) d_Model_dream_21 (Nat.le_of_ble_eq_true rfl) rfl <|
    k
theorem b_Model_dream_23 {d : Nat} {x1 : Int32} {x2 : Int64} {x4 : Int32} {h : am_H} {Q : am_Q} (kt : (h.1 0 6) ≤ x4 → am_W (X_Model_dream d) 66 [some (.ref 0), some (.int x1), some (.long x2), none, some (.int x4), none, none] [] h Q) (kf : ¬ (h.1 0 6) ≤ x4 → am_W (X_Model_dream d) 32 [some (.ref 0), some (.int x1), some (.long x2), none, some (.int x4), none, none] [] h Q) : am_W (X_Model_dream d) 23 [some (.ref 0), some (.int x1), some (.long x2), none, some (.int x4), none, none] [] h Q :=
  am_iload d_Model_dream_23 rfl <|
    am_aload_n d_Model_dream_25 rfl (i := 0) rfl <|
    am_getI (ci := 10) (i := 6) rfl rfl rfl (Nat.le_of_ble_eq_true rfl) w_1324 d_Model_dream_26 <|
    am_icmp_ge (tgt := 66) d_Model_dream_29 (by decide) kt kf
theorem b_Model_dream_32 {d : Nat} {x1 : Int32} {x2 : Int64} {x4 : Int32} {h : am_H} {Q : am_Q} (q0 : vp_in (43 + x4) 54) (q1 : vp_in x4 6) (k : am_W (X_Model_dream d) 23 [some (.ref 0), some (.int x1), some (.long x2), none, some (.int (x4 + 1)), none, none] [] (am_pI (am_pI h 11 x4.toNatClampNeg (h.1 1 (43 + x4).toNatClampNeg)) 1 (43 + x4).toNatClampNeg 0) Q) : am_W (X_Model_dream d) 32 [some (.ref 0), some (.int x1), some (.long x2), none, some (.int x4), none, none] [] h Q :=
  am_aload_n d_Model_dream_32 rfl (i := 0) rfl <|
    am_getR (ci := 10) (i := 20) rfl rfl rfl (Nat.le_of_ble_eq_true rfl) w_1338 d_Model_dream_33 <|
    am_iload d_Model_dream_36 rfl <|
    am_aload_n d_Model_dream_38 rfl (i := 0) rfl <|
    am_getR (ci := 10) (i := 0) rfl rfl rfl (Nat.le_of_ble_eq_true rfl) w_1318 d_Model_dream_39 <|
    am_bipush (v := 43) d_Model_dream_42 (by decide) <|
    am_iload d_Model_dream_44 rfl <|
    am_iadd d_Model_dream_46 <|
    am_iald rfl q0 d_Model_dream_47 <|
    am_iast rfl q1 d_Model_dream_48 <|
    am_aload_n d_Model_dream_49 rfl (i := 0) rfl <|
    am_getR (ci := 10) (i := 0) rfl rfl rfl (Nat.le_of_ble_eq_true rfl) w_1318 d_Model_dream_50 <|
    am_bipush (v := 43) d_Model_dream_53 (by decide) <|
    am_iload d_Model_dream_55 rfl <|
    am_iadd d_Model_dream_57 <|
    am_iconst (v := 0) d_Model_dream_58 (by decide) <|
    am_iast rfl q0 d_Model_dream_59 <|
    am_iinc (v := (x4 + 1)) (ls' := [some (.ref 0), some (.int x1), some (.long x2), none, some (.int (x4 + 1)), none, none]) d_Model_dream_60 rfl rfl (Nat.le_of_ble_eq_true rfl) rfl <|
    am_goto (tgt := 23) d_Model_dream_63 (by decide) k
theorem b_Model_dream_66 {d : Nat} {x1 : Int32} {x2 : Int64} {x4 : Int32} {h : am_H} {Q : am_Q} (k : m_Model_fromTee d [.ref 0, .int 1] h (fun r hh => am_W (X_Model_dream (d + 1)) 71 [some (.ref 0), some (.int x1), some (.long x2), none, some (.int x4), none, none] (r.toList ++ []) hh Q)) : am_W (X_Model_dream (d + 1)) 66 [some (.ref 0), some (.int x1), some (.long x2), none, some (.int x4), none, none] [] h Q :=
  am_aload_n d_Model_dream_66 rfl (i := 0) rfl <|
    am_iconst (v := 1) d_Model_dream_67 (by decide) <|
    am_callV (vs := [.int 1]) (st := []) (k := 0) (ci := 10) rfl d_Model_dream_68 rfl rfl w_1655 w_1657 w_64 w_94 w_1658 p_Model_fromTee (Nat.le_of_ble_eq_true rfl) (Nat.le_of_ble_eq_true rfl) rfl k
theorem b_Model_dream_71 {d : Nat} {x1 : Int32} {x2 : Int64} {x4 : Int32} {y0 : Int64} {h : am_H} {Q : am_Q} (k : am_W (X_Model_dream d) 76 [some (.ref 0), some (.int x1), some (.long x2), none, some (.long y0), none, some (.int 0)] [] h Q) : am_W (X_Model_dream d) 71 [some (.ref 0), some (.int x1), some (.long x2), none, some (.int x4), none, none] [.long y0] h Q :=
  am_lstore (ls' := [some (.ref 0), some (.int x1), some (.long x2), none, some (.long y0), none, none]) d_Model_dream_71 (Nat.le_of_ble_eq_true rfl) rfl <|
    am_iconst (v := 0) d_Model_dream_73 (by decide) <|
    am_istore (ls' := [some (.ref 0), some (.int x1), some (.long x2), none, some (.long y0), none, some (.int 0)]) d_Model_dream_74 (Nat.le_of_ble_eq_true rfl) rfl <|
    k
theorem b_Model_dream_76 {d : Nat} {x1 : Int32} {x2 : Int64} {x4 : Int64} {x6 : Int32} {h : am_H} {Q : am_Q} (kt : (h.1 0 6) ≤ x6 → am_W (X_Model_dream d) 108 [some (.ref 0), some (.int x1), some (.long x2), none, some (.long x4), none, some (.int x6)] [] h Q) (kf : ¬ (h.1 0 6) ≤ x6 → am_W (X_Model_dream d) 85 [some (.ref 0), some (.int x1), some (.long x2), none, some (.long x4), none, some (.int x6)] [] h Q) : am_W (X_Model_dream d) 76 [some (.ref 0), some (.int x1), some (.long x2), none, some (.long x4), none, some (.int x6)] [] h Q :=
  am_iload d_Model_dream_76 rfl <|
    am_aload_n d_Model_dream_78 rfl (i := 0) rfl <|
    am_getI (ci := 10) (i := 6) rfl rfl rfl (Nat.le_of_ble_eq_true rfl) w_1324 d_Model_dream_79 <|
    am_icmp_ge (tgt := 108) d_Model_dream_82 (by decide) kt kf
theorem b_Model_dream_85 {d : Nat} {x1 : Int32} {x2 : Int64} {x4 : Int64} {x6 : Int32} {h : am_H} {Q : am_Q} (q0 : vp_in x6 6) (q1 : vp_in (43 + x6) 54) (k : am_W (X_Model_dream d) 76 [some (.ref 0), some (.int x1), some (.long x2), none, some (.long x4), none, some (.int (x6 + 1))] [] (am_pI h 1 (43 + x6).toNatClampNeg (h.1 11 x6.toNatClampNeg)) Q) : am_W (X_Model_dream d) 85 [some (.ref 0), some (.int x1), some (.long x2), none, some (.long x4), none, some (.int x6)] [] h Q :=
  am_aload_n d_Model_dream_85 rfl (i := 0) rfl <|
    am_getR (ci := 10) (i := 0) rfl rfl rfl (Nat.le_of_ble_eq_true rfl) w_1318 d_Model_dream_86 <|
    am_bipush (v := 43) d_Model_dream_89 (by decide) <|
    am_iload d_Model_dream_91 rfl <|
    am_iadd d_Model_dream_93 <|
    am_aload_n d_Model_dream_94 rfl (i := 0) rfl <|
    am_getR (ci := 10) (i := 20) rfl rfl rfl (Nat.le_of_ble_eq_true rfl) w_1338 d_Model_dream_95 <|
    am_iload d_Model_dream_98 rfl <|
    am_iald rfl q0 d_Model_dream_100 <|
    am_iast rfl q1 d_Model_dream_101 <|
    am_iinc (v := (x6 + 1)) (ls' := [some (.ref 0), some (.int x1), some (.long x2), none, some (.long x4), none, some (.int (x6 + 1))]) d_Model_dream_102 rfl rfl (Nat.le_of_ble_eq_true rfl) rfl <|
    am_goto (tgt := 76) d_Model_dream_105 (by decide) k
theorem b_Model_dream_108 {d : Nat} {x1 : Int32} {x2 : Int64} {x4 : Int64} {x6 : Int32} {h : am_H} {Q : am_Q} (k : m_Model_partOf d [.long (x2 - x4), .long (h.2 10 (3 : Int32).toNatClampNeg), .int x1] h (fun r hh => am_W (X_Model_dream (d + 1)) 122 [some (.ref 0), some (.int x1), some (.long x2), none, some (.long x4), none, some (.int x6)] (r.toList ++ []) hh Q)) : am_W (X_Model_dream (d + 1)) 108 [some (.ref 0), some (.int x1), some (.long x2), none, some (.long x4), none, some (.int x6)] [] h Q :=
  am_lload_n d_Model_dream_108 rfl (i := 2) rfl <|
    am_lload d_Model_dream_109 rfl <|
    am_lsub d_Model_dream_111 <|
    am_aload_n d_Model_dream_112 rfl (i := 0) rfl <|
    am_getR (ci := 10) (i := 19) rfl rfl rfl (Nat.le_of_ble_eq_true rfl) w_1337 d_Model_dream_113 <|
    am_iconst (v := 3) d_Model_dream_116 (by decide) <|
    am_lald rfl (am_vin (by decide)) d_Model_dream_117 <|
    am_iload_n d_Model_dream_118 rfl (i := 1) rfl <|
    am_callS (vs := [.long (x2 - x4), .long (h.2 10 (3 : Int32).toNatClampNeg), .int x1]) (st := []) rfl d_Model_dream_119 w_1590 w_1591 w_94 w_1592 p_Model_partOf (Nat.le_of_ble_eq_true rfl) (Nat.le_of_ble_eq_true rfl) rfl k
theorem b_Model_dream_122 {d : Nat} {x1 : Int32} {x2 : Int64} {x4 : Int64} {x6 : Int32} {y0 : Int64} {h : am_H} {Q : am_Q} (q : Q (some (.long y0)) h) : am_W (X_Model_dream d) 122 [some (.ref 0), some (.int x1), some (.long x2), none, some (.long x4), none, some (.int x6)] [.long y0] h Q :=
  am_lret rfl d_Model_dream_122 q
theorem t_Model_dream_122 {d : Nat} {x1 : Int32} {x2 : Int64} {x4 : Int64} {x6 : Int32} {y0 : Int64} {h : am_H} {Q : am_Q} {res : Int64 × am_H} (e : f_Model_dream_122 h y0 = some res) (q : Q (some (.long res.1)) res.2) : am_W (X_Model_dream (d + 71)) 122 [some (.ref 0), some (.int x1), some (.long x2), none, some (.long x4), none, some (.int x6)] [.long y0] h Q :=
  b_Model_dream_122 (d := (d + 71)) (q := (am_rJpi (v := y0) e q))
theorem t_Model_dream_108 {d : Nat} {x1 : Int32} {x2 : Int64} {x4 : Int64} {x6 : Int32} {h : am_H} {Q : am_Q} {res : Int64 × am_H} (e : f_Model_dream_108 h x1 x2 x4 = some res) (q : Q (some (.long res.1)) res.2) : am_W (X_Model_dream (d + 71)) 108 [some (.ref 0), some (.int x1), some (.long x2), none, some (.long x4), none, some (.int x6)] [] h Q :=
  (am_bd e).elim fun p hp => b_Model_dream_108 (d := (d + 70)) (k := c_Model_partOf (d := d + 69) hp.1 (t_Model_dream_122 hp.2 q))
theorem t_Model_dream_85 {d : Nat} {k76 : am_H → Int32 → Int64 → Int64 → Int32 → Option (Int64 × am_H)} {x1 : Int32} {x2 : Int64} {x4 : Int64} {x6 : Int32} {h : am_H} {Q : am_Q} {res : Int64 × am_H} (hk76 : ∀ (x1 : Int32) (x2 : Int64) (x4 : Int64) (x6 : Int32) (h : am_H), k76 h x1 x2 x4 x6 = some res → am_W (X_Model_dream (d + 71)) 76 [some (.ref 0), some (.int x1), some (.long x2), none, some (.long x4), none, some (.int x6)] [] h Q) (e : f_Model_dream_85 k76 h x1 x2 x4 x6 = some res) (q : Q (some (.long res.1)) res.2) : am_W (X_Model_dream (d + 71)) 85 [some (.ref 0), some (.int x1), some (.long x2), none, some (.long x4), none, some (.int x6)] [] h Q :=
  b_Model_dream_85 (d := (d + 71)) (q0 := (am_okv (am_gd e))) (q1 := (am_okv (am_gd (am_ga e)))) (k := (hk76 _ _ _ _ _ (am_ga (am_ga e))))
theorem t_Model_dream_76 {d : Nat} {k76 : am_H → Int32 → Int64 → Int64 → Int32 → Option (Int64 × am_H)} {x1 : Int32} {x2 : Int64} {x4 : Int64} {x6 : Int32} {h : am_H} {Q : am_Q} {res : Int64 × am_H} (hk76 : ∀ (x1 : Int32) (x2 : Int64) (x4 : Int64) (x6 : Int32) (h : am_H), k76 h x1 x2 x4 x6 = some res → am_W (X_Model_dream (d + 71)) 76 [some (.ref 0), some (.int x1), some (.long x2), none, some (.long x4), none, some (.int x6)] [] h Q) (e : f_Model_dream_76 k76 h x1 x2 x4 x6 = some res) (q : Q (some (.long res.1)) res.2) : am_W (X_Model_dream (d + 71)) 76 [some (.ref 0), some (.int x1), some (.long x2), none, some (.long x4), none, some (.int x6)] [] h Q :=
  b_Model_dream_76 (d := (d + 71)) (kt := fun c => (t_Model_dream_108 (am_ift e c) q)) (kf := fun c => (t_Model_dream_85 hk76 (am_ife e c) q))
theorem t_Model_dream_76_l {d : Nat} {Q : am_Q} {res : Int64 × am_H} (q : Q (some (.long res.1)) res.2) : ∀ (n : Nat) (x1 : Int32) (x2 : Int64) (x4 : Int64) (x6 : Int32) (h : am_H), f_Model_dream_76_l n h x1 x2 x4 x6 = some res → am_W (X_Model_dream (d + 71)) 76 [some (.ref 0), some (.int x1), some (.long x2), none, some (.long x4), none, some (.int x6)] [] h Q := by
  intro n
  induction n with
  | zero => intro x1 x2 x4 x6 h e; exact am_nn e
  | succ n ih => intro x1 x2 x4 x6 h e; exact t_Model_dream_76 (fun x1 x2 x4 x6 h e => ih x1 x2 x4 x6 h  e) e q
theorem t_Model_dream_71 {d : Nat} {x1 : Int32} {x2 : Int64} {x4 : Int32} {y0 : Int64} {h : am_H} {Q : am_Q} {res : Int64 × am_H} (e : f_Model_dream_71 h x1 x2 y0 = some res) (q : Q (some (.long res.1)) res.2) : am_W (X_Model_dream (d + 71)) 71 [some (.ref 0), some (.int x1), some (.long x2), none, some (.int x4), none, none] [.long y0] h Q :=
  b_Model_dream_71 (d := (d + 71)) (k := (t_Model_dream_76_l q am_fu _ _ _ _ _ e))
theorem t_Model_dream_66 {d : Nat} {x1 : Int32} {x2 : Int64} {x4 : Int32} {h : am_H} {Q : am_Q} {res : Int64 × am_H} (e : f_Model_dream_66 h x1 x2 = some res) (q : Q (some (.long res.1)) res.2) : am_W (X_Model_dream (d + 71)) 66 [some (.ref 0), some (.int x1), some (.long x2), none, some (.int x4), none, none] [] h Q :=
  (am_bd e).elim fun p hp => b_Model_dream_66 (d := (d + 70)) (k := c_Model_fromTee (d := d) hp.1 (t_Model_dream_71 hp.2 q))
theorem t_Model_dream_32 {d : Nat} {k23 : am_H → Int32 → Int64 → Int32 → Option (Int64 × am_H)} {x1 : Int32} {x2 : Int64} {x4 : Int32} {h : am_H} {Q : am_Q} {res : Int64 × am_H} (hk23 : ∀ (x1 : Int32) (x2 : Int64) (x4 : Int32) (h : am_H), k23 h x1 x2 x4 = some res → am_W (X_Model_dream (d + 71)) 23 [some (.ref 0), some (.int x1), some (.long x2), none, some (.int x4), none, none] [] h Q) (e : f_Model_dream_32 k23 h x1 x2 x4 = some res) (q : Q (some (.long res.1)) res.2) : am_W (X_Model_dream (d + 71)) 32 [some (.ref 0), some (.int x1), some (.long x2), none, some (.int x4), none, none] [] h Q :=
  b_Model_dream_32 (d := (d + 71)) (q0 := (am_okv (am_gd e))) (q1 := (am_okv (am_gd (am_ga e)))) (k := (hk23 _ _ _ _ (am_ga (am_ga e))))
theorem t_Model_dream_23 {d : Nat} {k23 : am_H → Int32 → Int64 → Int32 → Option (Int64 × am_H)} {x1 : Int32} {x2 : Int64} {x4 : Int32} {h : am_H} {Q : am_Q} {res : Int64 × am_H} (hk23 : ∀ (x1 : Int32) (x2 : Int64) (x4 : Int32) (h : am_H), k23 h x1 x2 x4 = some res → am_W (X_Model_dream (d + 71)) 23 [some (.ref 0), some (.int x1), some (.long x2), none, some (.int x4), none, none] [] h Q) (e : f_Model_dream_23 k23 h x1 x2 x4 = some res) (q : Q (some (.long res.1)) res.2) : am_W (X_Model_dream (d + 71)) 23 [some (.ref 0), some (.int x1), some (.long x2), none, some (.int x4), none, none] [] h Q :=
  b_Model_dream_23 (d := (d + 71)) (kt := fun c => (t_Model_dream_66 (am_ift e c) q)) (kf := fun c => (t_Model_dream_32 hk23 (am_ife e c) q))
theorem t_Model_dream_23_l {d : Nat} {Q : am_Q} {res : Int64 × am_H} (q : Q (some (.long res.1)) res.2) : ∀ (n : Nat) (x1 : Int32) (x2 : Int64) (x4 : Int32) (h : am_H), f_Model_dream_23_l n h x1 x2 x4 = some res → am_W (X_Model_dream (d + 71)) 23 [some (.ref 0), some (.int x1), some (.long x2), none, some (.int x4), none, none] [] h Q := by
  intro n
  induction n with
  | zero => intro x1 x2 x4 h e; exact am_nn e
  | succ n ih => intro x1 x2 x4 h e; exact t_Model_dream_23 (fun x1 x2 x4 h e => ih x1 x2 x4 h  e) e q
theorem t_Model_dream_19 {d : Nat} {x1 : Int32} {y0 : Int64} {h : am_H} {Q : am_Q} {res : Int64 × am_H} (e : f_Model_dream_19 h x1 y0 = some res) (q : Q (some (.long res.1)) res.2) : am_W (X_Model_dream (d + 71)) 19 [some (.ref 0), some (.int x1), none, none, none, none, none] [.long y0] h Q :=
  b_Model_dream_19 (d := (d + 71)) (k := (t_Model_dream_23_l q am_fu _ _ _ _ e))
theorem t_Model_dream_14 {d : Nat} {x1 : Int32} {h : am_H} {Q : am_Q} {res : Int64 × am_H} (e : f_Model_dream_14 h x1 = some res) (q : Q (some (.long res.1)) res.2) : am_W (X_Model_dream (d + 71)) 14 [some (.ref 0), some (.int x1), none, none, none, none, none] [] h Q :=
  (am_bd e).elim fun p hp => b_Model_dream_14 (d := (d + 70)) (k := c_Model_fromTee (d := d) hp.1 (t_Model_dream_19 hp.2 q))
theorem t_Model_dream_10 {d : Nat} {x1 : Int32} {h : am_H} {Q : am_Q} {res : Int64 × am_H} (e : f_Model_dream_10 h = some res) (q : Q (some (.long res.1)) res.2) : am_W (X_Model_dream (d + 71)) 10 [some (.ref 0), some (.int x1), none, none, none, none, none] [] h Q :=
  b_Model_dream_10 (d := (d + 71)) (q := (am_rJpi (v := (-9223372036854775808)) e q))
theorem t_Model_dream_7 {d : Nat} {x1 : Int32} {y0 : Bool} {h : am_H} {Q : am_Q} {res : Int64 × am_H} (e : f_Model_dream_7 h x1 y0 = some res) (q : Q (some (.long res.1)) res.2) : am_W (X_Model_dream (d + 71)) 7 [some (.ref 0), some (.int x1), none, none, none, none, none] [.int (am_b y0)] h Q :=
  b_Model_dream_7 (d := (d + 71)) (kt := fun c => (t_Model_dream_14 (am_ift e (am_bn c)) q)) (kf := fun c => (t_Model_dream_10 (am_iff e (am_bz c)) q))
theorem t_Model_dream_0 {d : Nat} {x1 : Int32} {h : am_H} {Q : am_Q} {res : Int64 × am_H} (e : f_Model_dream h x1 = some res) (q : Q (some (.long res.1)) res.2) : am_W (X_Model_dream (d + 71)) 0 [some (.ref 0), some (.int x1), none, none, none, none, none] [] h Q :=
  b_Model_dream_0 (d := (d + 70)) (k := c_Model_within (d := d + 70) rfl (t_Model_dream_7 e q))
theorem c_Model_dream {d : Nat} {x1 : Int32} {h : am_H} {Q : am_Q} {res : Int64 × am_H} (e : f_Model_dream h x1 = some res) (q : Q (some (.long res.1)) res.2) : m_Model_dream (d + 71) [.ref 0, .int x1] h Q :=
  e_Model_dream (t_Model_dream_0 e q)
theorem d_Model_bytesIs_0 : decode prog_12_method_59_code 0 = .ok (.iload_n 1, 1) := by decide +kernel
theorem d_Model_bytesIs_1 : decode prog_12_method_59_code 1 = .ok (.invokestatic 103, 3) := by decide +kernel
theorem d_Model_bytesIs_4 : decode prog_12_method_59_code 4 = .ok (.ifCond .ne 7, 3) := by decide +kernel
theorem d_Model_bytesIs_7 : decode prog_12_method_59_code 7 = .ok (.iconst (-1), 1) := by decide +kernel
theorem d_Model_bytesIs_8 : decode prog_12_method_59_code 8 = .ok (.goto 34, 3) := by decide +kernel
theorem d_Model_bytesIs_11 : decode prog_12_method_59_code 11 = .ok (.aload_n 0, 1) := by decide +kernel
theorem d_Model_bytesIs_12 : decode prog_12_method_59_code 12 = .ok (.getfield 58, 3) := by decide +kernel
theorem d_Model_bytesIs_15 : decode prog_12_method_59_code 15 = .ok (.iload_n 1, 1) := by decide +kernel
theorem d_Model_bytesIs_16 : decode prog_12_method_59_code 16 = .ok (.iaload, 1) := by decide +kernel
theorem d_Model_bytesIs_17 : decode prog_12_method_59_code 17 = .ok (.ifCond .ge 8, 3) := by decide +kernel
theorem d_Model_bytesIs_20 : decode prog_12_method_59_code 20 = .ok (.bipush (-11), 2) := by decide +kernel
theorem d_Model_bytesIs_22 : decode prog_12_method_59_code 22 = .ok (.goto 20, 3) := by decide +kernel
theorem d_Model_bytesIs_25 : decode prog_12_method_59_code 25 = .ok (.aload_n 0, 1) := by decide +kernel
theorem d_Model_bytesIs_26 : decode prog_12_method_59_code 26 = .ok (.getfield 58, 3) := by decide +kernel
theorem d_Model_bytesIs_29 : decode prog_12_method_59_code 29 = .ok (.iload_n 1, 1) := by decide +kernel
theorem d_Model_bytesIs_30 : decode prog_12_method_59_code 30 = .ok (.iaload, 1) := by decide +kernel
theorem d_Model_bytesIs_31 : decode prog_12_method_59_code 31 = .ok (.bipush 50, 2) := by decide +kernel
theorem d_Model_bytesIs_33 : decode prog_12_method_59_code 33 = .ok (.if_icmp .ne 7, 3) := by decide +kernel
theorem d_Model_bytesIs_36 : decode prog_12_method_59_code 36 = .ok (.iconst 1, 1) := by decide +kernel
theorem d_Model_bytesIs_37 : decode prog_12_method_59_code 37 = .ok (.goto 5, 3) := by decide +kernel
theorem d_Model_bytesIs_40 : decode prog_12_method_59_code 40 = .ok (.bipush (-12), 2) := by decide +kernel
theorem d_Model_bytesIs_42 : decode prog_12_method_59_code 42 = .ok (.ireturn, 1) := by decide +kernel
theorem b_Model_bytesIs_0 {d : Nat} {x1 : Int32} {h : am_H} {Q : am_Q} (k : m_Model_isShelf d [.int x1] h (fun r hh => am_W (X_Model_bytesIs (d + 1)) 4 [some (.ref 0), some (.int x1)] (r.toList ++ []) hh Q)) : am_W (X_Model_bytesIs (d + 1)) 0 [some (.ref 0), some (.int x1)] [] h Q :=
  am_iload_n d_Model_bytesIs_0 rfl (i := 1) rfl <|
    am_callS (vs := [.int x1]) (st := []) rfl d_Model_bytesIs_1 w_1455 w_1456 w_94 w_1457 p_Model_isShelf (Nat.le_of_ble_eq_true rfl) (Nat.le_of_ble_eq_true rfl) rfl k
theorem b_Model_bytesIs_4 {d : Nat} {x1 : Int32} {y0 : Bool} {h : am_H} {Q : am_Q} (kt : ¬ (am_b y0) = 0 → am_W (X_Model_bytesIs d) 11 [some (.ref 0), some (.int x1)] [] h Q) (kf : (am_b y0) = 0 → am_W (X_Model_bytesIs d) 7 [some (.ref 0), some (.int x1)] [] h Q) : am_W (X_Model_bytesIs d) 4 [some (.ref 0), some (.int x1)] [.int (am_b y0)] h Q :=
  am_if_ne (tgt := 11) d_Model_bytesIs_4 (by decide) kt kf
theorem b_Model_bytesIs_7 {d : Nat} {x1 : Int32} {h : am_H} {Q : am_Q} (q : Q (some (.int (-1))) h) : am_W (X_Model_bytesIs d) 7 [some (.ref 0), some (.int x1)] [] h Q :=
  am_iconst (v := (-1)) d_Model_bytesIs_7 (by decide) <|
    am_goto (tgt := 42) d_Model_bytesIs_8 (by decide) <|
    am_iret rfl d_Model_bytesIs_42 q
theorem b_Model_bytesIs_11 {d : Nat} {x1 : Int32} {h : am_H} {Q : am_Q} (q0 : vp_in x1 6) (kt : 0 ≤ (h.1 16 x1.toNatClampNeg) → am_W (X_Model_bytesIs d) 25 [some (.ref 0), some (.int x1)] [] h Q) (kf : ¬ 0 ≤ (h.1 16 x1.toNatClampNeg) → am_W (X_Model_bytesIs d) 20 [some (.ref 0), some (.int x1)] [] h Q) : am_W (X_Model_bytesIs d) 11 [some (.ref 0), some (.int x1)] [] h Q :=
  am_aload_n d_Model_bytesIs_11 rfl (i := 0) rfl <|
    am_getR (ci := 10) (i := 32) rfl rfl rfl (Nat.le_of_ble_eq_true rfl) w_1350 d_Model_bytesIs_12 <|
    am_iload_n d_Model_bytesIs_15 rfl (i := 1) rfl <|
    am_iald rfl q0 d_Model_bytesIs_16 <|
    am_if_ge (tgt := 25) d_Model_bytesIs_17 (by decide) kt kf
theorem b_Model_bytesIs_20 {d : Nat} {x1 : Int32} {h : am_H} {Q : am_Q} (q : Q (some (.int (-11))) h) : am_W (X_Model_bytesIs d) 20 [some (.ref 0), some (.int x1)] [] h Q :=
  am_bipush (v := (-11)) d_Model_bytesIs_20 (by decide) <|
    am_goto (tgt := 42) d_Model_bytesIs_22 (by decide) <|
    am_iret rfl d_Model_bytesIs_42 q
theorem b_Model_bytesIs_25 {d : Nat} {x1 : Int32} {h : am_H} {Q : am_Q} (q0 : vp_in x1 6) (kt : ¬ (h.1 16 x1.toNatClampNeg) = 50 → am_W (X_Model_bytesIs d) 40 [some (.ref 0), some (.int x1)] [] h Q) (kf : (h.1 16 x1.toNatClampNeg) = 50 → am_W (X_Model_bytesIs d) 36 [some (.ref 0), some (.int x1)] [] h Q) : am_W (X_Model_bytesIs d) 25 [some (.ref 0), some (.int x1)] [] h Q :=
  am_aload_n d_Model_bytesIs_25 rfl (i := 0) rfl <|
    am_getR (ci := 10) (i := 32) rfl rfl rfl (Nat.le_of_ble_eq_true rfl) w_1350 d_Model_bytesIs_26 <|
    am_iload_n d_Model_bytesIs_29 rfl (i := 1) rfl <|
    am_iald rfl q0 d_Model_bytesIs_30 <|
    am_bipush (v := 50) d_Model_bytesIs_31 (by decide) <|
    am_icmp_ne (tgt := 40) d_Model_bytesIs_33 (by decide) kt kf
theorem b_Model_bytesIs_36 {d : Nat} {x1 : Int32} {h : am_H} {Q : am_Q} (q : Q (some (.int 1)) h) : am_W (X_Model_bytesIs d) 36 [some (.ref 0), some (.int x1)] [] h Q :=
  am_iconst (v := 1) d_Model_bytesIs_36 (by decide) <|
    am_goto (tgt := 42) d_Model_bytesIs_37 (by decide) <|
    am_iret rfl d_Model_bytesIs_42 q
theorem b_Model_bytesIs_40 {d : Nat} {x1 : Int32} {h : am_H} {Q : am_Q} (q : Q (some (.int (-12))) h) : am_W (X_Model_bytesIs d) 40 [some (.ref 0), some (.int x1)] [] h Q :=
  am_bipush (v := (-12)) d_Model_bytesIs_40 (by decide) <|
    am_iret rfl d_Model_bytesIs_42 q
theorem t_Model_bytesIs_40 {d : Nat} {x1 : Int32} {h : am_H} {Q : am_Q} {res : Int32} (e : f_Model_bytesIs_40 h = some res) (q : Q (some (.int res)) h) : am_W (X_Model_bytesIs (d + 2)) 40 [some (.ref 0), some (.int x1)] [] h Q :=
  b_Model_bytesIs_40 (d := (d + 2)) (q := (am_rIp (v := (-12)) e q))
theorem t_Model_bytesIs_36 {d : Nat} {x1 : Int32} {h : am_H} {Q : am_Q} {res : Int32} (e : f_Model_bytesIs_36 h = some res) (q : Q (some (.int res)) h) : am_W (X_Model_bytesIs (d + 2)) 36 [some (.ref 0), some (.int x1)] [] h Q :=
  b_Model_bytesIs_36 (d := (d + 2)) (q := (am_rIp (v := 1) e q))
theorem t_Model_bytesIs_25 {d : Nat} {x1 : Int32} {h : am_H} {Q : am_Q} {res : Int32} (e : f_Model_bytesIs_25 h x1 = some res) (q : Q (some (.int res)) h) : am_W (X_Model_bytesIs (d + 2)) 25 [some (.ref 0), some (.int x1)] [] h Q :=
  b_Model_bytesIs_25 (d := (d + 2)) (q0 := (am_okv (am_gd e))) (kt := fun c => (t_Model_bytesIs_40 (am_ife (am_ga e) c) q)) (kf := fun c => (t_Model_bytesIs_36 (am_ift (am_ga e) c) q))
theorem t_Model_bytesIs_20 {d : Nat} {x1 : Int32} {h : am_H} {Q : am_Q} {res : Int32} (e : f_Model_bytesIs_20 h = some res) (q : Q (some (.int res)) h) : am_W (X_Model_bytesIs (d + 2)) 20 [some (.ref 0), some (.int x1)] [] h Q :=
  b_Model_bytesIs_20 (d := (d + 2)) (q := (am_rIp (v := (-11)) e q))
theorem t_Model_bytesIs_11 {d : Nat} {x1 : Int32} {h : am_H} {Q : am_Q} {res : Int32} (e : f_Model_bytesIs_11 h x1 = some res) (q : Q (some (.int res)) h) : am_W (X_Model_bytesIs (d + 2)) 11 [some (.ref 0), some (.int x1)] [] h Q :=
  b_Model_bytesIs_11 (d := (d + 2)) (q0 := (am_okv (am_gd e))) (kt := fun c => (t_Model_bytesIs_25 (am_ift (am_ga e) c) q)) (kf := fun c => (t_Model_bytesIs_20 (am_ife (am_ga e) c) q))
theorem t_Model_bytesIs_7 {d : Nat} {x1 : Int32} {h : am_H} {Q : am_Q} {res : Int32} (e : f_Model_bytesIs_7 h = some res) (q : Q (some (.int res)) h) : am_W (X_Model_bytesIs (d + 2)) 7 [some (.ref 0), some (.int x1)] [] h Q :=
  b_Model_bytesIs_7 (d := (d + 2)) (q := (am_rIp (v := (-1)) e q))
theorem t_Model_bytesIs_4 {d : Nat} {x1 : Int32} {y0 : Bool} {h : am_H} {Q : am_Q} {res : Int32} (e : f_Model_bytesIs_4 h x1 y0 = some res) (q : Q (some (.int res)) h) : am_W (X_Model_bytesIs (d + 2)) 4 [some (.ref 0), some (.int x1)] [.int (am_b y0)] h Q :=
  b_Model_bytesIs_4 (d := (d + 2)) (kt := fun c => (t_Model_bytesIs_11 (am_ift e (am_bn c)) q)) (kf := fun c => (t_Model_bytesIs_7 (am_iff e (am_bz c)) q))
theorem t_Model_bytesIs_0 {d : Nat} {x1 : Int32} {h : am_H} {Q : am_Q} {res : Int32} (e : f_Model_bytesIs h x1 = some res) (q : Q (some (.int res)) h) : am_W (X_Model_bytesIs (d + 2)) 0 [some (.ref 0), some (.int x1)] [] h Q :=
  b_Model_bytesIs_0 (d := (d + 1)) (k := c_Model_isShelf (d := d) rfl (t_Model_bytesIs_4 e q))
theorem c_Model_bytesIs {d : Nat} {x1 : Int32} {h : am_H} {Q : am_Q} {res : Int32} (e : f_Model_bytesIs h x1 = some res) (q : Q (some (.int res)) h) : m_Model_bytesIs (d + 2) [.ref 0, .int x1] h Q :=
  e_Model_bytesIs (t_Model_bytesIs_0 e q)
theorem d_Model_isThree_0 : decode prog_12_method_60_code 0 = .ok (.bipush 60, 2) := by decide +kernel
theorem d_Model_isThree_2 : decode prog_12_method_60_code 2 = .ok (.iload_n 1, 1) := by decide +kernel
theorem d_Model_isThree_3 : decode prog_12_method_60_code 3 = .ok (.imul, 1) := by decide +kernel
theorem d_Model_isThree_4 : decode prog_12_method_60_code 4 = .ok (.iconst 3, 1) := by decide +kernel
theorem d_Model_isThree_5 : decode prog_12_method_60_code 5 = .ok (.iload_n 2, 1) := by decide +kernel
theorem d_Model_isThree_6 : decode prog_12_method_60_code 6 = .ok (.imul, 1) := by decide +kernel
theorem d_Model_isThree_7 : decode prog_12_method_60_code 7 = .ok (.iadd, 1) := by decide +kernel
theorem d_Model_isThree_8 : decode prog_12_method_60_code 8 = .ok (.istore_n 3, 1) := by decide +kernel
theorem d_Model_isThree_9 : decode prog_12_method_60_code 9 = .ok (.iconst 3, 1) := by decide +kernel
theorem d_Model_isThree_10 : decode prog_12_method_60_code 10 = .ok (.iload_n 2, 1) := by decide +kernel
theorem d_Model_isThree_11 : decode prog_12_method_60_code 11 = .ok (.imul, 1) := by decide +kernel
theorem d_Model_isThree_12 : decode prog_12_method_60_code 12 = .ok (.iconst 2, 1) := by decide +kernel
theorem d_Model_isThree_13 : decode prog_12_method_60_code 13 = .ok (.iadd, 1) := by decide +kernel
theorem d_Model_isThree_14 : decode prog_12_method_60_code 14 = .ok (.aload_n 0, 1) := by decide +kernel
theorem d_Model_isThree_15 : decode prog_12_method_60_code 15 = .ok (.getfield 61, 3) := by decide +kernel
theorem d_Model_isThree_18 : decode prog_12_method_60_code 18 = .ok (.iload_n 1, 1) := by decide +kernel
theorem d_Model_isThree_19 : decode prog_12_method_60_code 19 = .ok (.iaload, 1) := by decide +kernel
theorem d_Model_isThree_20 : decode prog_12_method_60_code 20 = .ok (.if_icmp .ge 62, 3) := by decide +kernel
theorem d_Model_isThree_23 : decode prog_12_method_60_code 23 = .ok (.aload_n 0, 1) := by decide +kernel
theorem d_Model_isThree_24 : decode prog_12_method_60_code 24 = .ok (.getfield 64, 3) := by decide +kernel
theorem d_Model_isThree_27 : decode prog_12_method_60_code 27 = .ok (.iload_n 3, 1) := by decide +kernel
theorem d_Model_isThree_28 : decode prog_12_method_60_code 28 = .ok (.laload, 1) := by decide +kernel
theorem d_Model_isThree_29 : decode prog_12_method_60_code 29 = .ok (.invokestatic 110, 3) := by decide +kernel
theorem d_Model_isThree_32 : decode prog_12_method_60_code 32 = .ok (.ifCond .eq 50, 3) := by decide +kernel
theorem d_Model_isThree_35 : decode prog_12_method_60_code 35 = .ok (.aload_n 0, 1) := by decide +kernel
theorem d_Model_isThree_36 : decode prog_12_method_60_code 36 = .ok (.aload_n 0, 1) := by decide +kernel
theorem d_Model_isThree_37 : decode prog_12_method_60_code 37 = .ok (.getfield 64, 3) := by decide +kernel
theorem d_Model_isThree_40 : decode prog_12_method_60_code 40 = .ok (.iload_n 3, 1) := by decide +kernel
theorem d_Model_isThree_41 : decode prog_12_method_60_code 41 = .ok (.iconst 1, 1) := by decide +kernel
theorem d_Model_isThree_42 : decode prog_12_method_60_code 42 = .ok (.iadd, 1) := by decide +kernel
theorem d_Model_isThree_43 : decode prog_12_method_60_code 43 = .ok (.laload, 1) := by decide +kernel
theorem d_Model_isThree_44 : decode prog_12_method_60_code 44 = .ok (.invokevirtual 114, 3) := by decide +kernel
theorem d_Model_isThree_47 : decode prog_12_method_60_code 47 = .ok (.ifCond .eq 35, 3) := by decide +kernel
theorem d_Model_isThree_50 : decode prog_12_method_60_code 50 = .ok (.aload_n 0, 1) := by decide +kernel
theorem d_Model_isThree_51 : decode prog_12_method_60_code 51 = .ok (.getfield 64, 3) := by decide +kernel
theorem d_Model_isThree_54 : decode prog_12_method_60_code 54 = .ok (.iload_n 3, 1) := by decide +kernel
theorem d_Model_isThree_55 : decode prog_12_method_60_code 55 = .ok (.iconst 2, 1) := by decide +kernel
theorem d_Model_isThree_56 : decode prog_12_method_60_code 56 = .ok (.iadd, 1) := by decide +kernel
theorem d_Model_isThree_57 : decode prog_12_method_60_code 57 = .ok (.laload, 1) := by decide +kernel
theorem d_Model_isThree_58 : decode prog_12_method_60_code 58 = .ok (.invokestatic 110, 3) := by decide +kernel
theorem d_Model_isThree_61 : decode prog_12_method_60_code 61 = .ok (.ifCond .eq 21, 3) := by decide +kernel
theorem d_Model_isThree_64 : decode prog_12_method_60_code 64 = .ok (.aload_n 0, 1) := by decide +kernel
theorem d_Model_isThree_65 : decode prog_12_method_60_code 65 = .ok (.aload_n 0, 1) := by decide +kernel
theorem d_Model_isThree_66 : decode prog_12_method_60_code 66 = .ok (.getfield 64, 3) := by decide +kernel
theorem d_Model_isThree_69 : decode prog_12_method_60_code 69 = .ok (.iload_n 3, 1) := by decide +kernel
theorem d_Model_isThree_70 : decode prog_12_method_60_code 70 = .ok (.laload, 1) := by decide +kernel
theorem d_Model_isThree_71 : decode prog_12_method_60_code 71 = .ok (.l2i, 1) := by decide +kernel
theorem d_Model_isThree_72 : decode prog_12_method_60_code 72 = .ok (.invokevirtual 89, 3) := by decide +kernel
theorem d_Model_isThree_75 : decode prog_12_method_60_code 75 = .ok (.ifCond .ne 7, 3) := by decide +kernel
theorem d_Model_isThree_78 : decode prog_12_method_60_code 78 = .ok (.iconst 1, 1) := by decide +kernel
theorem d_Model_isThree_79 : decode prog_12_method_60_code 79 = .ok (.goto 4, 3) := by decide +kernel
theorem d_Model_isThree_82 : decode prog_12_method_60_code 82 = .ok (.iconst 0, 1) := by decide +kernel
theorem d_Model_isThree_83 : decode prog_12_method_60_code 83 = .ok (.ireturn, 1) := by decide +kernel
theorem b_Model_isThree_0 {d : Nat} {x1 : Int32} {x2 : Int32} {h : am_H} {Q : am_Q} (q0 : vp_in x1 6) (kt : (h.1 17 x1.toNatClampNeg) ≤ ((3 * x2) + 2) → am_W (X_Model_isThree d) 82 [some (.ref 0), some (.int x1), some (.int x2), some (.int ((60 * x1) + (3 * x2)))] [] h Q) (kf : ¬ (h.1 17 x1.toNatClampNeg) ≤ ((3 * x2) + 2) → am_W (X_Model_isThree d) 23 [some (.ref 0), some (.int x1), some (.int x2), some (.int ((60 * x1) + (3 * x2)))] [] h Q) : am_W (X_Model_isThree d) 0 [some (.ref 0), some (.int x1), some (.int x2), none] [] h Q :=
  am_bipush (v := 60) d_Model_isThree_0 (by decide) <|
    am_iload_n d_Model_isThree_2 rfl (i := 1) rfl <|
    am_imul d_Model_isThree_3 <|
    am_iconst (v := 3) d_Model_isThree_4 (by decide) <|
    am_iload_n d_Model_isThree_5 rfl (i := 2) rfl <|
    am_imul d_Model_isThree_6 <|
    am_iadd d_Model_isThree_7 <|
    am_istore_n (ls' := [some (.ref 0), some (.int x1), some (.int x2), some (.int ((60 * x1) + (3 * x2)))]) d_Model_isThree_8 rfl (Nat.le_of_ble_eq_true rfl) rfl <|
    am_iconst (v := 3) d_Model_isThree_9 (by decide) <|
    am_iload_n d_Model_isThree_10 rfl (i := 2) rfl <|
    am_imul d_Model_isThree_11 <|
    am_iconst (v := 2) d_Model_isThree_12 (by decide) <|
    am_iadd d_Model_isThree_13 <|
    am_aload_n d_Model_isThree_14 rfl (i := 0) rfl <|
    am_getR (ci := 10) (i := 33) rfl rfl rfl (Nat.le_of_ble_eq_true rfl) w_1351 d_Model_isThree_15 <|
    am_iload_n d_Model_isThree_18 rfl (i := 1) rfl <|
    am_iald rfl q0 d_Model_isThree_19 <|
    am_icmp_ge (tgt := 82) d_Model_isThree_20 (by decide) kt kf
theorem b_Model_isThree_23 {d : Nat} {x1 : Int32} {x2 : Int32} {x3 : Int32} {h : am_H} {Q : am_Q} (q0 : vp_in x3 360) (k : m_Model_isCell d [.long (h.2 18 x3.toNatClampNeg)] h (fun r hh => am_W (X_Model_isThree (d + 1)) 32 [some (.ref 0), some (.int x1), some (.int x2), some (.int x3)] (r.toList ++ []) hh Q)) : am_W (X_Model_isThree (d + 1)) 23 [some (.ref 0), some (.int x1), some (.int x2), some (.int x3)] [] h Q :=
  am_aload_n d_Model_isThree_23 rfl (i := 0) rfl <|
    am_getR (ci := 10) (i := 34) rfl rfl rfl (Nat.le_of_ble_eq_true rfl) w_1352 d_Model_isThree_24 <|
    am_iload_n d_Model_isThree_27 rfl (i := 3) rfl <|
    am_lald rfl q0 d_Model_isThree_28 <|
    am_callS (vs := [.long (h.2 18 x3.toNatClampNeg)]) (st := []) rfl d_Model_isThree_29 w_1469 w_1470 w_94 w_1471 p_Model_isCell (Nat.le_of_ble_eq_true rfl) (Nat.le_of_ble_eq_true rfl) rfl k
theorem b_Model_isThree_32 {d : Nat} {x1 : Int32} {x2 : Int32} {x3 : Int32} {y0 : Bool} {h : am_H} {Q : am_Q} (kt : (am_b y0) = 0 → am_W (X_Model_isThree d) 82 [some (.ref 0), some (.int x1), some (.int x2), some (.int x3)] [] h Q) (kf : ¬ (am_b y0) = 0 → am_W (X_Model_isThree d) 35 [some (.ref 0), some (.int x1), some (.int x2), some (.int x3)] [] h Q) : am_W (X_Model_isThree d) 32 [some (.ref 0), some (.int x1), some (.int x2), some (.int x3)] [.int (am_b y0)] h Q :=
  am_if_eq (tgt := 82) d_Model_isThree_32 (by decide) kt kf
theorem b_Model_isThree_35 {d : Nat} {x1 : Int32} {x2 : Int32} {x3 : Int32} {h : am_H} {Q : am_Q} (q0 : vp_in (x3 + 1) 360) (k : m_Model_isClub d [.ref 0, .long (h.2 18 (x3 + 1).toNatClampNeg)] h (fun r hh => am_W (X_Model_isThree (d + 1)) 47 [some (.ref 0), some (.int x1), some (.int x2), some (.int x3)] (r.toList ++ []) hh Q)) : am_W (X_Model_isThree (d + 1)) 35 [some (.ref 0), some (.int x1), some (.int x2), some (.int x3)] [] h Q :=
  am_aload_n d_Model_isThree_35 rfl (i := 0) rfl <|
    am_aload_n d_Model_isThree_36 rfl (i := 0) rfl <|
    am_getR (ci := 10) (i := 34) rfl rfl rfl (Nat.le_of_ble_eq_true rfl) w_1352 d_Model_isThree_37 <|
    am_iload_n d_Model_isThree_40 rfl (i := 3) rfl <|
    am_iconst (v := 1) d_Model_isThree_41 (by decide) <|
    am_iadd d_Model_isThree_42 <|
    am_lald rfl q0 d_Model_isThree_43 <|
    am_callV (vs := [.long (h.2 18 (x3 + 1).toNatClampNeg)]) (st := []) (k := 0) (ci := 10) rfl d_Model_isThree_44 rfl rfl w_1472 w_1474 w_36 w_94 w_1475 p_Model_isClub (Nat.le_of_ble_eq_true rfl) (Nat.le_of_ble_eq_true rfl) rfl k
theorem b_Model_isThree_47 {d : Nat} {x1 : Int32} {x2 : Int32} {x3 : Int32} {y0 : Bool} {h : am_H} {Q : am_Q} (kt : (am_b y0) = 0 → am_W (X_Model_isThree d) 82 [some (.ref 0), some (.int x1), some (.int x2), some (.int x3)] [] h Q) (kf : ¬ (am_b y0) = 0 → am_W (X_Model_isThree d) 50 [some (.ref 0), some (.int x1), some (.int x2), some (.int x3)] [] h Q) : am_W (X_Model_isThree d) 47 [some (.ref 0), some (.int x1), some (.int x2), some (.int x3)] [.int (am_b y0)] h Q :=
  am_if_eq (tgt := 82) d_Model_isThree_47 (by decide) kt kf
theorem b_Model_isThree_50 {d : Nat} {x1 : Int32} {x2 : Int32} {x3 : Int32} {h : am_H} {Q : am_Q} (q0 : vp_in (x3 + 2) 360) (k : m_Model_isCell d [.long (h.2 18 (x3 + 2).toNatClampNeg)] h (fun r hh => am_W (X_Model_isThree (d + 1)) 61 [some (.ref 0), some (.int x1), some (.int x2), some (.int x3)] (r.toList ++ []) hh Q)) : am_W (X_Model_isThree (d + 1)) 50 [some (.ref 0), some (.int x1), some (.int x2), some (.int x3)] [] h Q :=
  am_aload_n d_Model_isThree_50 rfl (i := 0) rfl <|
    am_getR (ci := 10) (i := 34) rfl rfl rfl (Nat.le_of_ble_eq_true rfl) w_1352 d_Model_isThree_51 <|
    am_iload_n d_Model_isThree_54 rfl (i := 3) rfl <|
    am_iconst (v := 2) d_Model_isThree_55 (by decide) <|
    am_iadd d_Model_isThree_56 <|
    am_lald rfl q0 d_Model_isThree_57 <|
    am_callS (vs := [.long (h.2 18 (x3 + 2).toNatClampNeg)]) (st := []) rfl d_Model_isThree_58 w_1469 w_1470 w_94 w_1471 p_Model_isCell (Nat.le_of_ble_eq_true rfl) (Nat.le_of_ble_eq_true rfl) rfl k
theorem b_Model_isThree_61 {d : Nat} {x1 : Int32} {x2 : Int32} {x3 : Int32} {y0 : Bool} {h : am_H} {Q : am_Q} (kt : (am_b y0) = 0 → am_W (X_Model_isThree d) 82 [some (.ref 0), some (.int x1), some (.int x2), some (.int x3)] [] h Q) (kf : ¬ (am_b y0) = 0 → am_W (X_Model_isThree d) 64 [some (.ref 0), some (.int x1), some (.int x2), some (.int x3)] [] h Q) : am_W (X_Model_isThree d) 61 [some (.ref 0), some (.int x1), some (.int x2), some (.int x3)] [.int (am_b y0)] h Q :=
  am_if_eq (tgt := 82) d_Model_isThree_61 (by decide) kt kf
theorem b_Model_isThree_64 {d : Nat} {x1 : Int32} {x2 : Int32} {x3 : Int32} {h : am_H} {Q : am_Q} (q0 : vp_in x3 360) (k : m_Model_isGreen d [.ref 0, .int ((h.2 18 x3.toNatClampNeg).toInt32)] h (fun r hh => am_W (X_Model_isThree (d + 1)) 75 [some (.ref 0), some (.int x1), some (.int x2), some (.int x3)] (r.toList ++ []) hh Q)) : am_W (X_Model_isThree (d + 1)) 64 [some (.ref 0), some (.int x1), some (.int x2), some (.int x3)] [] h Q :=
  am_aload_n d_Model_isThree_64 rfl (i := 0) rfl <|
    am_aload_n d_Model_isThree_65 rfl (i := 0) rfl <|
    am_getR (ci := 10) (i := 34) rfl rfl rfl (Nat.le_of_ble_eq_true rfl) w_1352 d_Model_isThree_66 <|
    am_iload_n d_Model_isThree_69 rfl (i := 3) rfl <|
    am_lald rfl q0 d_Model_isThree_70 <|
    am_l2i d_Model_isThree_71 <|
    am_callV (vs := [.int ((h.2 18 x3.toNatClampNeg).toInt32)]) (st := []) (k := 0) (ci := 10) rfl d_Model_isThree_72 rfl rfl w_1550 w_1552 w_49 w_94 w_1553 p_Model_isGreen (Nat.le_of_ble_eq_true rfl) (Nat.le_of_ble_eq_true rfl) rfl k
theorem b_Model_isThree_75 {d : Nat} {x1 : Int32} {x2 : Int32} {x3 : Int32} {y0 : Bool} {h : am_H} {Q : am_Q} (kt : ¬ (am_b y0) = 0 → am_W (X_Model_isThree d) 82 [some (.ref 0), some (.int x1), some (.int x2), some (.int x3)] [] h Q) (kf : (am_b y0) = 0 → am_W (X_Model_isThree d) 78 [some (.ref 0), some (.int x1), some (.int x2), some (.int x3)] [] h Q) : am_W (X_Model_isThree d) 75 [some (.ref 0), some (.int x1), some (.int x2), some (.int x3)] [.int (am_b y0)] h Q :=
  am_if_ne (tgt := 82) d_Model_isThree_75 (by decide) kt kf
theorem b_Model_isThree_78 {d : Nat} {x1 : Int32} {x2 : Int32} {x3 : Int32} {h : am_H} {Q : am_Q} (q : Q (some (.int 1)) h) : am_W (X_Model_isThree d) 78 [some (.ref 0), some (.int x1), some (.int x2), some (.int x3)] [] h Q :=
  am_iconst (v := 1) d_Model_isThree_78 (by decide) <|
    am_goto (tgt := 83) d_Model_isThree_79 (by decide) <|
    am_zret (ty := .boolean) rfl (by decide) d_Model_isThree_83 q
theorem b_Model_isThree_82 {d : Nat} {x1 : Int32} {x2 : Int32} {x3 : Int32} {h : am_H} {Q : am_Q} (q : Q (some (.int 0)) h) : am_W (X_Model_isThree d) 82 [some (.ref 0), some (.int x1), some (.int x2), some (.int x3)] [] h Q :=
  am_iconst (v := 0) d_Model_isThree_82 (by decide) <|
    am_zret (ty := .boolean) rfl (by decide) d_Model_isThree_83 q
theorem t_Model_isThree_82 {d : Nat} {x1 : Int32} {x2 : Int32} {x3 : Int32} {h : am_H} {Q : am_Q} {res : Bool} (e : f_Model_isThree_82 h = some res) (q : Q (some (.int (am_b res))) h) : am_W (X_Model_isThree (d + 2)) 82 [some (.ref 0), some (.int x1), some (.int x2), some (.int x3)] [] h Q :=
  b_Model_isThree_82 (d := (d + 2)) (q := (am_rZp (v := false) e q))
theorem t_Model_isThree_78 {d : Nat} {x1 : Int32} {x2 : Int32} {x3 : Int32} {h : am_H} {Q : am_Q} {res : Bool} (e : f_Model_isThree_78 h = some res) (q : Q (some (.int (am_b res))) h) : am_W (X_Model_isThree (d + 2)) 78 [some (.ref 0), some (.int x1), some (.int x2), some (.int x3)] [] h Q :=
  b_Model_isThree_78 (d := (d + 2)) (q := (am_rZp (v := true) e q))
theorem t_Model_isThree_75 {d : Nat} {x1 : Int32} {x2 : Int32} {x3 : Int32} {y0 : Bool} {h : am_H} {Q : am_Q} {res : Bool} (e : f_Model_isThree_75 h y0 = some res) (q : Q (some (.int (am_b res))) h) : am_W (X_Model_isThree (d + 2)) 75 [some (.ref 0), some (.int x1), some (.int x2), some (.int x3)] [.int (am_b y0)] h Q :=
  b_Model_isThree_75 (d := (d + 2)) (kt := fun c => (t_Model_isThree_82 (am_ift e (am_bn c)) q)) (kf := fun c => (t_Model_isThree_78 (am_iff e (am_bz c)) q))
theorem t_Model_isThree_64 {d : Nat} {x1 : Int32} {x2 : Int32} {x3 : Int32} {h : am_H} {Q : am_Q} {res : Bool} (e : f_Model_isThree_64 h x3 = some res) (q : Q (some (.int (am_b res))) h) : am_W (X_Model_isThree (d + 2)) 64 [some (.ref 0), some (.int x1), some (.int x2), some (.int x3)] [] h Q :=
  (am_bd (am_ga e)).elim fun p hp => b_Model_isThree_64 (d := (d + 1)) (q0 := (am_okv (am_gd e))) (k := c_Model_isGreen (d := d + 1) hp.1 (t_Model_isThree_75 hp.2 q))
theorem t_Model_isThree_61 {d : Nat} {x1 : Int32} {x2 : Int32} {x3 : Int32} {y0 : Bool} {h : am_H} {Q : am_Q} {res : Bool} (e : f_Model_isThree_61 h x3 y0 = some res) (q : Q (some (.int (am_b res))) h) : am_W (X_Model_isThree (d + 2)) 61 [some (.ref 0), some (.int x1), some (.int x2), some (.int x3)] [.int (am_b y0)] h Q :=
  b_Model_isThree_61 (d := (d + 2)) (kt := fun c => (t_Model_isThree_82 (am_iff e (am_bz c)) q)) (kf := fun c => (t_Model_isThree_64 (am_ift e (am_bn c)) q))
theorem t_Model_isThree_50 {d : Nat} {x1 : Int32} {x2 : Int32} {x3 : Int32} {h : am_H} {Q : am_Q} {res : Bool} (e : f_Model_isThree_50 h x3 = some res) (q : Q (some (.int (am_b res))) h) : am_W (X_Model_isThree (d + 2)) 50 [some (.ref 0), some (.int x1), some (.int x2), some (.int x3)] [] h Q :=
  b_Model_isThree_50 (d := (d + 1)) (q0 := (am_okv (am_gd e))) (k := c_Model_isCell (d := d) rfl (t_Model_isThree_61 (am_ga e) q))
theorem t_Model_isThree_47 {d : Nat} {x1 : Int32} {x2 : Int32} {x3 : Int32} {y0 : Bool} {h : am_H} {Q : am_Q} {res : Bool} (e : f_Model_isThree_47 h x3 y0 = some res) (q : Q (some (.int (am_b res))) h) : am_W (X_Model_isThree (d + 2)) 47 [some (.ref 0), some (.int x1), some (.int x2), some (.int x3)] [.int (am_b y0)] h Q :=
  b_Model_isThree_47 (d := (d + 2)) (kt := fun c => (t_Model_isThree_82 (am_iff e (am_bz c)) q)) (kf := fun c => (t_Model_isThree_50 (am_ift e (am_bn c)) q))
theorem t_Model_isThree_35 {d : Nat} {x1 : Int32} {x2 : Int32} {x3 : Int32} {h : am_H} {Q : am_Q} {res : Bool} (e : f_Model_isThree_35 h x3 = some res) (q : Q (some (.int (am_b res))) h) : am_W (X_Model_isThree (d + 2)) 35 [some (.ref 0), some (.int x1), some (.int x2), some (.int x3)] [] h Q :=
  b_Model_isThree_35 (d := (d + 1)) (q0 := (am_okv (am_gd e))) (k := c_Model_isClub (d := d) rfl (t_Model_isThree_47 (am_ga e) q))
theorem t_Model_isThree_32 {d : Nat} {x1 : Int32} {x2 : Int32} {x3 : Int32} {y0 : Bool} {h : am_H} {Q : am_Q} {res : Bool} (e : f_Model_isThree_32 h x3 y0 = some res) (q : Q (some (.int (am_b res))) h) : am_W (X_Model_isThree (d + 2)) 32 [some (.ref 0), some (.int x1), some (.int x2), some (.int x3)] [.int (am_b y0)] h Q :=
  b_Model_isThree_32 (d := (d + 2)) (kt := fun c => (t_Model_isThree_82 (am_iff e (am_bz c)) q)) (kf := fun c => (t_Model_isThree_35 (am_ift e (am_bn c)) q))
theorem t_Model_isThree_23 {d : Nat} {x1 : Int32} {x2 : Int32} {x3 : Int32} {h : am_H} {Q : am_Q} {res : Bool} (e : f_Model_isThree_23 h x3 = some res) (q : Q (some (.int (am_b res))) h) : am_W (X_Model_isThree (d + 2)) 23 [some (.ref 0), some (.int x1), some (.int x2), some (.int x3)] [] h Q :=
  b_Model_isThree_23 (d := (d + 1)) (q0 := (am_okv (am_gd e))) (k := c_Model_isCell (d := d) rfl (t_Model_isThree_32 (am_ga e) q))
theorem t_Model_isThree_0 {d : Nat} {x1 : Int32} {x2 : Int32} {h : am_H} {Q : am_Q} {res : Bool} (e : f_Model_isThree h x1 x2 = some res) (q : Q (some (.int (am_b res))) h) : am_W (X_Model_isThree (d + 2)) 0 [some (.ref 0), some (.int x1), some (.int x2), none] [] h Q :=
  b_Model_isThree_0 (d := (d + 2)) (q0 := (am_okv (am_gd e))) (kt := fun c => (t_Model_isThree_82 (am_ift (am_ga e) c) q)) (kf := fun c => (t_Model_isThree_23 (am_ife (am_ga e) c) q))
theorem c_Model_isThree {d : Nat} {x1 : Int32} {x2 : Int32} {h : am_H} {Q : am_Q} {res : Bool} (e : f_Model_isThree h x1 x2 = some res) (q : Q (some (.int (am_b res))) h) : m_Model_isThree (d + 2) [.ref 0, .int x1, .int x2] h Q :=
  e_Model_isThree (t_Model_isThree_0 e q)
theorem d_Model_itemOf_0 : decode prog_12_method_61_code 0 = .ok (.aload_n 0, 1) := by decide +kernel
theorem d_Model_itemOf_1 : decode prog_12_method_61_code 1 = .ok (.getfield 64, 3) := by decide +kernel
theorem d_Model_itemOf_4 : decode prog_12_method_61_code 4 = .ok (.bipush 60, 2) := by decide +kernel
theorem d_Model_itemOf_6 : decode prog_12_method_61_code 6 = .ok (.iload_n 1, 1) := by decide +kernel
theorem d_Model_itemOf_7 : decode prog_12_method_61_code 7 = .ok (.imul, 1) := by decide +kernel
theorem d_Model_itemOf_8 : decode prog_12_method_61_code 8 = .ok (.iconst 3, 1) := by decide +kernel
theorem d_Model_itemOf_9 : decode prog_12_method_61_code 9 = .ok (.iload_n 2, 1) := by decide +kernel
theorem d_Model_itemOf_10 : decode prog_12_method_61_code 10 = .ok (.imul, 1) := by decide +kernel
theorem d_Model_itemOf_11 : decode prog_12_method_61_code 11 = .ok (.iadd, 1) := by decide +kernel
theorem d_Model_itemOf_12 : decode prog_12_method_61_code 12 = .ok (.iload_n 3, 1) := by decide +kernel
theorem d_Model_itemOf_13 : decode prog_12_method_61_code 13 = .ok (.iadd, 1) := by decide +kernel
theorem d_Model_itemOf_14 : decode prog_12_method_61_code 14 = .ok (.laload, 1) := by decide +kernel
theorem d_Model_itemOf_15 : decode prog_12_method_61_code 15 = .ok (.l2i, 1) := by decide +kernel
theorem d_Model_itemOf_16 : decode prog_12_method_61_code 16 = .ok (.ireturn, 1) := by decide +kernel
theorem b_Model_itemOf_0 {d : Nat} {x1 : Int32} {x2 : Int32} {x3 : Int32} {h : am_H} {Q : am_Q} (q0 : vp_in (((60 * x1) + (3 * x2)) + x3) 360) (q : Q (some (.int ((h.2 18 (((60 * x1) + (3 * x2)) + x3).toNatClampNeg).toInt32))) h) : am_W (X_Model_itemOf d) 0 [some (.ref 0), some (.int x1), some (.int x2), some (.int x3)] [] h Q :=
  am_aload_n d_Model_itemOf_0 rfl (i := 0) rfl <|
    am_getR (ci := 10) (i := 34) rfl rfl rfl (Nat.le_of_ble_eq_true rfl) w_1352 d_Model_itemOf_1 <|
    am_bipush (v := 60) d_Model_itemOf_4 (by decide) <|
    am_iload_n d_Model_itemOf_6 rfl (i := 1) rfl <|
    am_imul d_Model_itemOf_7 <|
    am_iconst (v := 3) d_Model_itemOf_8 (by decide) <|
    am_iload_n d_Model_itemOf_9 rfl (i := 2) rfl <|
    am_imul d_Model_itemOf_10 <|
    am_iadd d_Model_itemOf_11 <|
    am_iload_n d_Model_itemOf_12 rfl (i := 3) rfl <|
    am_iadd d_Model_itemOf_13 <|
    am_lald rfl q0 d_Model_itemOf_14 <|
    am_l2i d_Model_itemOf_15 <|
    am_iret rfl d_Model_itemOf_16 q
theorem t_Model_itemOf_0 {d : Nat} {x1 : Int32} {x2 : Int32} {x3 : Int32} {h : am_H} {Q : am_Q} {res : Int32} (e : f_Model_itemOf h x1 x2 x3 = some res) (q : Q (some (.int res)) h) : am_W (X_Model_itemOf d) 0 [some (.ref 0), some (.int x1), some (.int x2), some (.int x3)] [] h Q :=
  b_Model_itemOf_0 (d := d) (q0 := (am_okv (am_gd e))) (q := (am_rIp (v := (h.2 18 (((60 * x1) + (3 * x2)) + x3).toNatClampNeg).toInt32) (am_ga e) q))
theorem c_Model_itemOf {d : Nat} {x1 : Int32} {x2 : Int32} {x3 : Int32} {h : am_H} {Q : am_Q} {res : Int32} (e : f_Model_itemOf h x1 x2 x3 = some res) (q : Q (some (.int res)) h) : m_Model_itemOf d [.ref 0, .int x1, .int x2, .int x3] h Q :=
  e_Model_itemOf (t_Model_itemOf_0 e q)
theorem d_Model_waysOf_0 : decode prog_12_method_62_code 0 = .ok (.aload_n 0, 1) := by decide +kernel
theorem d_Model_waysOf_1 : decode prog_12_method_62_code 1 = .ok (.aload_n 0, 1) := by decide +kernel
theorem d_Model_waysOf_2 : decode prog_12_method_62_code 2 = .ok (.iload_n 1, 1) := by decide +kernel
theorem d_Model_waysOf_3 : decode prog_12_method_62_code 3 = .ok (.iload_n 2, 1) := by decide +kernel
theorem d_Model_waysOf_4 : decode prog_12_method_62_code 4 = .ok (.iconst 0, 1) := by decide +kernel
theorem d_Model_waysOf_5 : decode prog_12_method_62_code 5 = .ok (.invokevirtual 270, 3) := by decide +kernel
theorem d_Model_waysOf_8 : decode prog_12_method_62_code 8 = .ok (.iload_n 3, 1) := by decide +kernel
theorem d_Model_waysOf_9 : decode prog_12_method_62_code 9 = .ok (.aload_n 0, 1) := by decide +kernel
theorem d_Model_waysOf_10 : decode prog_12_method_62_code 10 = .ok (.getfield 11, 3) := by decide +kernel
theorem d_Model_waysOf_13 : decode prog_12_method_62_code 13 = .ok (.bipush 37, 2) := by decide +kernel
theorem d_Model_waysOf_15 : decode prog_12_method_62_code 15 = .ok (.aload_n 0, 1) := by decide +kernel
theorem d_Model_waysOf_16 : decode prog_12_method_62_code 16 = .ok (.iload_n 1, 1) := by decide +kernel
theorem d_Model_waysOf_17 : decode prog_12_method_62_code 17 = .ok (.iload_n 2, 1) := by decide +kernel
theorem d_Model_waysOf_18 : decode prog_12_method_62_code 18 = .ok (.iconst 1, 1) := by decide +kernel
theorem d_Model_waysOf_19 : decode prog_12_method_62_code 19 = .ok (.invokevirtual 270, 3) := by decide +kernel
theorem d_Model_waysOf_22 : decode prog_12_method_62_code 22 = .ok (.iadd, 1) := by decide +kernel
theorem d_Model_waysOf_23 : decode prog_12_method_62_code 23 = .ok (.iaload, 1) := by decide +kernel
theorem d_Model_waysOf_24 : decode prog_12_method_62_code 24 = .ok (.aload_n 0, 1) := by decide +kernel
theorem d_Model_waysOf_25 : decode prog_12_method_62_code 25 = .ok (.iload_n 1, 1) := by decide +kernel
theorem d_Model_waysOf_26 : decode prog_12_method_62_code 26 = .ok (.iload_n 2, 1) := by decide +kernel
theorem d_Model_waysOf_27 : decode prog_12_method_62_code 27 = .ok (.iconst 2, 1) := by decide +kernel
theorem d_Model_waysOf_28 : decode prog_12_method_62_code 28 = .ok (.invokevirtual 270, 3) := by decide +kernel
theorem d_Model_waysOf_31 : decode prog_12_method_62_code 31 = .ok (.invokevirtual 225, 3) := by decide +kernel
theorem d_Model_waysOf_34 : decode prog_12_method_62_code 34 = .ok (.ireturn, 1) := by decide +kernel
theorem b_Model_waysOf_0 {d : Nat} {x1 : Int32} {x2 : Int32} {x3 : Int32} {h : am_H} {Q : am_Q} (k : m_Model_itemOf d [.ref 0, .int x1, .int x2, .int 0] h (fun r hh => am_W (X_Model_waysOf (d + 1)) 8 [some (.ref 0), some (.int x1), some (.int x2), some (.int x3)] (r.toList ++ [.ref 0]) hh Q)) : am_W (X_Model_waysOf (d + 1)) 0 [some (.ref 0), some (.int x1), some (.int x2), some (.int x3)] [] h Q :=
  am_aload_n d_Model_waysOf_0 rfl (i := 0) rfl <|
    am_aload_n d_Model_waysOf_1 rfl (i := 0) rfl <|
    am_iload_n d_Model_waysOf_2 rfl (i := 1) rfl <|
    am_iload_n d_Model_waysOf_3 rfl (i := 2) rfl <|
    am_iconst (v := 0) d_Model_waysOf_4 (by decide) <|
    am_callV (vs := [.int x1, .int x2, .int 0]) (st := [.ref 0]) (k := 0) (ci := 10) rfl d_Model_waysOf_5 rfl rfl w_1679 w_1681 w_68 w_94 w_1682 p_Model_itemOf (Nat.le_of_ble_eq_true rfl) (Nat.le_of_ble_eq_true rfl) rfl k
theorem b_Model_waysOf_8 {d : Nat} {x1 : Int32} {x2 : Int32} {x3 : Int32} {y1 : Int32} {h : am_H} {Q : am_Q} (k : m_Model_itemOf d [.ref 0, .int x1, .int x2, .int 1] h (fun r hh => am_W (X_Model_waysOf (d + 1)) 22 [some (.ref 0), some (.int x1), some (.int x2), some (.int x3)] (r.toList ++ [.int 37, .ref 1, .int x3, .int y1, .ref 0]) hh Q)) : am_W (X_Model_waysOf (d + 1)) 8 [some (.ref 0), some (.int x1), some (.int x2), some (.int x3)] [.int y1, .ref 0] h Q :=
  am_iload_n d_Model_waysOf_8 rfl (i := 3) rfl <|
    am_aload_n d_Model_waysOf_9 rfl (i := 0) rfl <|
    am_getR (ci := 10) (i := 0) rfl rfl rfl (Nat.le_of_ble_eq_true rfl) w_1318 d_Model_waysOf_10 <|
    am_bipush (v := 37) d_Model_waysOf_13 (by decide) <|
    am_aload_n d_Model_waysOf_15 rfl (i := 0) rfl <|
    am_iload_n d_Model_waysOf_16 rfl (i := 1) rfl <|
    am_iload_n d_Model_waysOf_17 rfl (i := 2) rfl <|
    am_iconst (v := 1) d_Model_waysOf_18 (by decide) <|
    am_callV (vs := [.int x1, .int x2, .int 1]) (st := [.int 37, .ref 1, .int x3, .int y1, .ref 0]) (k := 0) (ci := 10) rfl d_Model_waysOf_19 rfl rfl w_1679 w_1681 w_68 w_94 w_1682 p_Model_itemOf (Nat.le_of_ble_eq_true rfl) (Nat.le_of_ble_eq_true rfl) rfl k
theorem b_Model_waysOf_22 {d : Nat} {x1 : Int32} {x2 : Int32} {x3 : Int32} {y5 : Int32} {y4 : Int32} {y2 : Int32} {y1 : Int32} {h : am_H} {Q : am_Q} (q0 : vp_in (y4 + y5) 54) (k : m_Model_itemOf d [.ref 0, .int x1, .int x2, .int 2] h (fun r hh => am_W (X_Model_waysOf (d + 1)) 31 [some (.ref 0), some (.int x1), some (.int x2), some (.int x3)] (r.toList ++ [.int (h.1 1 (y4 + y5).toNatClampNeg), .int y2, .int y1, .ref 0]) hh Q)) : am_W (X_Model_waysOf (d + 1)) 22 [some (.ref 0), some (.int x1), some (.int x2), some (.int x3)] [.int y5, .int y4, .ref 1, .int y2, .int y1, .ref 0] h Q :=
  am_iadd d_Model_waysOf_22 <|
    am_iald rfl q0 d_Model_waysOf_23 <|
    am_aload_n d_Model_waysOf_24 rfl (i := 0) rfl <|
    am_iload_n d_Model_waysOf_25 rfl (i := 1) rfl <|
    am_iload_n d_Model_waysOf_26 rfl (i := 2) rfl <|
    am_iconst (v := 2) d_Model_waysOf_27 (by decide) <|
    am_callV (vs := [.int x1, .int x2, .int 2]) (st := [.int (h.1 1 (y4 + y5).toNatClampNeg), .int y2, .int y1, .ref 0]) (k := 0) (ci := 10) rfl d_Model_waysOf_28 rfl rfl w_1679 w_1681 w_68 w_94 w_1682 p_Model_itemOf (Nat.le_of_ble_eq_true rfl) (Nat.le_of_ble_eq_true rfl) rfl k
theorem b_Model_waysOf_31 {d : Nat} {x1 : Int32} {x2 : Int32} {x3 : Int32} {y4 : Int32} {y3 : Int32} {y2 : Int32} {y1 : Int32} {h : am_H} {Q : am_Q} (k : m_Model_waysTo d [.ref 0, .int y1, .int y2, .int y3, .int y4] h (fun r hh => am_W (X_Model_waysOf (d + 1)) 34 [some (.ref 0), some (.int x1), some (.int x2), some (.int x3)] (r.toList ++ []) hh Q)) : am_W (X_Model_waysOf (d + 1)) 31 [some (.ref 0), some (.int x1), some (.int x2), some (.int x3)] [.int y4, .int y3, .int y2, .int y1, .ref 0] h Q :=
  am_callV (vs := [.int y1, .int y2, .int y3, .int y4]) (st := []) (k := 0) (ci := 10) rfl d_Model_waysOf_31 rfl rfl w_1574 w_1576 w_53 w_94 w_1577 p_Model_waysTo (Nat.le_of_ble_eq_true rfl) (Nat.le_of_ble_eq_true rfl) rfl k
theorem b_Model_waysOf_34 {d : Nat} {x1 : Int32} {x2 : Int32} {x3 : Int32} {y0 : Int32} {h : am_H} {Q : am_Q} (q : Q (some (.int y0)) h) : am_W (X_Model_waysOf d) 34 [some (.ref 0), some (.int x1), some (.int x2), some (.int x3)] [.int y0] h Q :=
  am_iret rfl d_Model_waysOf_34 q
theorem t_Model_waysOf_34 {d : Nat} {x1 : Int32} {x2 : Int32} {x3 : Int32} {y0 : Int32} {h : am_H} {Q : am_Q} {res : Int32} (e : f_Model_waysOf_34 h y0 = some res) (q : Q (some (.int res)) h) : am_W (X_Model_waysOf (d + 3)) 34 [some (.ref 0), some (.int x1), some (.int x2), some (.int x3)] [.int y0] h Q :=
  b_Model_waysOf_34 (d := (d + 3)) (q := (am_rIp (v := y0) e q))
theorem t_Model_waysOf_31 {d : Nat} {x1 : Int32} {x2 : Int32} {x3 : Int32} {y4 : Int32} {y3 : Int32} {y2 : Int32} {y1 : Int32} {h : am_H} {Q : am_Q} {res : Int32} (e : f_Model_waysOf_31 h y4 y3 y2 y1 = some res) (q : Q (some (.int res)) h) : am_W (X_Model_waysOf (d + 3)) 31 [some (.ref 0), some (.int x1), some (.int x2), some (.int x3)] [.int y4, .int y3, .int y2, .int y1, .ref 0] h Q :=
  (am_bd e).elim fun p hp => b_Model_waysOf_31 (d := (d + 2)) (k := c_Model_waysTo (d := d) hp.1 (t_Model_waysOf_34 hp.2 q))
theorem t_Model_waysOf_22 {d : Nat} {x1 : Int32} {x2 : Int32} {x3 : Int32} {y5 : Int32} {y4 : Int32} {y2 : Int32} {y1 : Int32} {h : am_H} {Q : am_Q} {res : Int32} (e : f_Model_waysOf_22 h x1 x2 y5 y4 y2 y1 = some res) (q : Q (some (.int res)) h) : am_W (X_Model_waysOf (d + 3)) 22 [some (.ref 0), some (.int x1), some (.int x2), some (.int x3)] [.int y5, .int y4, .ref 1, .int y2, .int y1, .ref 0] h Q :=
  (am_bd (am_ga e)).elim fun p hp => b_Model_waysOf_22 (d := (d + 2)) (q0 := (am_okv (am_gd e))) (k := c_Model_itemOf (d := d + 2) hp.1 (t_Model_waysOf_31 hp.2 q))
theorem t_Model_waysOf_8 {d : Nat} {x1 : Int32} {x2 : Int32} {x3 : Int32} {y1 : Int32} {h : am_H} {Q : am_Q} {res : Int32} (e : f_Model_waysOf_8 h x1 x2 x3 y1 = some res) (q : Q (some (.int res)) h) : am_W (X_Model_waysOf (d + 3)) 8 [some (.ref 0), some (.int x1), some (.int x2), some (.int x3)] [.int y1, .ref 0] h Q :=
  (am_bd e).elim fun p hp => b_Model_waysOf_8 (d := (d + 2)) (k := c_Model_itemOf (d := d + 2) hp.1 (t_Model_waysOf_22 hp.2 q))
theorem t_Model_waysOf_0 {d : Nat} {x1 : Int32} {x2 : Int32} {x3 : Int32} {h : am_H} {Q : am_Q} {res : Int32} (e : f_Model_waysOf h x1 x2 x3 = some res) (q : Q (some (.int res)) h) : am_W (X_Model_waysOf (d + 3)) 0 [some (.ref 0), some (.int x1), some (.int x2), some (.int x3)] [] h Q :=
  (am_bd e).elim fun p hp => b_Model_waysOf_0 (d := (d + 2)) (k := c_Model_itemOf (d := d + 2) hp.1 (t_Model_waysOf_8 hp.2 q))
theorem c_Model_waysOf {d : Nat} {x1 : Int32} {x2 : Int32} {x3 : Int32} {h : am_H} {Q : am_Q} {res : Int32} (e : f_Model_waysOf h x1 x2 x3 = some res) (q : Q (some (.int res)) h) : m_Model_waysOf (d + 3) [.ref 0, .int x1, .int x2, .int x3] h Q :=
  e_Model_waysOf (t_Model_waysOf_0 e q)
theorem d_Model_judge_0 : decode prog_12_method_63_code 0 = .ok (.aload_n 0, 1) := by decide +kernel
theorem d_Model_judge_1 : decode prog_12_method_63_code 1 = .ok (.iload_n 1, 1) := by decide +kernel
theorem d_Model_judge_2 : decode prog_12_method_63_code 2 = .ok (.invokevirtual 273, 3) := by decide +kernel
theorem d_Model_judge_5 : decode prog_12_method_63_code 5 = .ok (.ifCond .ge 9, 3) := by decide +kernel
theorem d_Model_judge_8 : decode prog_12_method_63_code 8 = .ok (.aload_n 0, 1) := by decide +kernel
theorem d_Model_judge_9 : decode prog_12_method_63_code 9 = .ok (.iload_n 1, 1) := by decide +kernel
theorem d_Model_judge_10 : decode prog_12_method_63_code 10 = .ok (.invokevirtual 273, 3) := by decide +kernel
theorem d_Model_judge_13 : decode prog_12_method_63_code 13 = .ok (.ireturn, 1) := by decide +kernel
theorem d_Model_judge_14 : decode prog_12_method_63_code 14 = .ok (.iconst 0, 1) := by decide +kernel
theorem d_Model_judge_15 : decode prog_12_method_63_code 15 = .ok (.istore_n 2, 1) := by decide +kernel
theorem d_Model_judge_16 : decode prog_12_method_63_code 16 = .ok (.iconst 3, 1) := by decide +kernel
theorem d_Model_judge_17 : decode prog_12_method_63_code 17 = .ok (.iload_n 2, 1) := by decide +kernel
theorem d_Model_judge_18 : decode prog_12_method_63_code 18 = .ok (.imul, 1) := by decide +kernel
theorem d_Model_judge_19 : decode prog_12_method_63_code 19 = .ok (.aload_n 0, 1) := by decide +kernel
theorem d_Model_judge_20 : decode prog_12_method_63_code 20 = .ok (.getfield 61, 3) := by decide +kernel
theorem d_Model_judge_23 : decode prog_12_method_63_code 23 = .ok (.iload_n 1, 1) := by decide +kernel
theorem d_Model_judge_24 : decode prog_12_method_63_code 24 = .ok (.iaload, 1) := by decide +kernel
theorem d_Model_judge_25 : decode prog_12_method_63_code 25 = .ok (.if_icmp .ge 44, 3) := by decide +kernel
theorem d_Model_judge_28 : decode prog_12_method_63_code 28 = .ok (.aload_n 0, 1) := by decide +kernel
theorem d_Model_judge_29 : decode prog_12_method_63_code 29 = .ok (.iload_n 1, 1) := by decide +kernel
theorem d_Model_judge_30 : decode prog_12_method_63_code 30 = .ok (.iload_n 2, 1) := by decide +kernel
theorem d_Model_judge_31 : decode prog_12_method_63_code 31 = .ok (.invokevirtual 276, 3) := by decide +kernel
theorem d_Model_judge_34 : decode prog_12_method_63_code 34 = .ok (.ifCond .eq 27, 3) := by decide +kernel
theorem d_Model_judge_37 : decode prog_12_method_63_code 37 = .ok (.aload_n 0, 1) := by decide +kernel
theorem d_Model_judge_38 : decode prog_12_method_63_code 38 = .ok (.iload_n 1, 1) := by decide +kernel
theorem d_Model_judge_39 : decode prog_12_method_63_code 39 = .ok (.iload_n 2, 1) := by decide +kernel
theorem d_Model_judge_40 : decode prog_12_method_63_code 40 = .ok (.aload_n 0, 1) := by decide +kernel
theorem d_Model_judge_41 : decode prog_12_method_63_code 41 = .ok (.getfield 11, 3) := by decide +kernel
theorem d_Model_judge_44 : decode prog_12_method_63_code 44 = .ok (.bipush 31, 2) := by decide +kernel
theorem d_Model_judge_46 : decode prog_12_method_63_code 46 = .ok (.aload_n 0, 1) := by decide +kernel
theorem d_Model_judge_47 : decode prog_12_method_63_code 47 = .ok (.iload_n 1, 1) := by decide +kernel
theorem d_Model_judge_48 : decode prog_12_method_63_code 48 = .ok (.iload_n 2, 1) := by decide +kernel
theorem d_Model_judge_49 : decode prog_12_method_63_code 49 = .ok (.iconst 1, 1) := by decide +kernel
theorem d_Model_judge_50 : decode prog_12_method_63_code 50 = .ok (.invokevirtual 270, 3) := by decide +kernel
theorem d_Model_judge_53 : decode prog_12_method_63_code 53 = .ok (.iadd, 1) := by decide +kernel
theorem d_Model_judge_54 : decode prog_12_method_63_code 54 = .ok (.iaload, 1) := by decide +kernel
theorem d_Model_judge_55 : decode prog_12_method_63_code 55 = .ok (.invokevirtual 279, 3) := by decide +kernel
theorem d_Model_judge_58 : decode prog_12_method_63_code 58 = .ok (.ifCond .ne 5, 3) := by decide +kernel
theorem d_Model_judge_61 : decode prog_12_method_63_code 61 = .ok (.iload_n 2, 1) := by decide +kernel
theorem d_Model_judge_62 : decode prog_12_method_63_code 62 = .ok (.ireturn, 1) := by decide +kernel
theorem d_Model_judge_63 : decode prog_12_method_63_code 63 = .ok (.iinc 2 1, 3) := by decide +kernel
theorem d_Model_judge_66 : decode prog_12_method_63_code 66 = .ok (.goto (-50), 3) := by decide +kernel
theorem d_Model_judge_69 : decode prog_12_method_63_code 69 = .ok (.bipush (-2), 2) := by decide +kernel
theorem d_Model_judge_71 : decode prog_12_method_63_code 71 = .ok (.ireturn, 1) := by decide +kernel
theorem b_Model_judge_0 {d : Nat} {x1 : Int32} {h : am_H} {Q : am_Q} (k : m_Model_bytesIs d [.ref 0, .int x1] h (fun r hh => am_W (X_Model_judge (d + 1)) 5 [some (.ref 0), some (.int x1), none] (r.toList ++ []) hh Q)) : am_W (X_Model_judge (d + 1)) 0 [some (.ref 0), some (.int x1), none] [] h Q :=
  am_aload_n d_Model_judge_0 rfl (i := 0) rfl <|
    am_iload_n d_Model_judge_1 rfl (i := 1) rfl <|
    am_callV (vs := [.int x1]) (st := []) (k := 0) (ci := 10) rfl d_Model_judge_2 rfl rfl w_1671 w_1673 w_66 w_94 w_1674 p_Model_bytesIs (Nat.le_of_ble_eq_true rfl) (Nat.le_of_ble_eq_true rfl) rfl k
theorem b_Model_judge_5 {d : Nat} {x1 : Int32} {y0 : Int32} {h : am_H} {Q : am_Q} (kt : 0 ≤ y0 → am_W (X_Model_judge d) 14 [some (.ref 0), some (.int x1), none] [] h Q) (kf : ¬ 0 ≤ y0 → am_W (X_Model_judge d) 8 [some (.ref 0), some (.int x1), none] [] h Q) : am_W (X_Model_judge d) 5 [some (.ref 0), some (.int x1), none] [.int y0] h Q :=
  am_if_ge (tgt := 14) d_Model_judge_5 (by decide) kt kf
theorem b_Model_judge_8 {d : Nat} {x1 : Int32} {h : am_H} {Q : am_Q} (k : m_Model_bytesIs d [.ref 0, .int x1] h (fun r hh => am_W (X_Model_judge (d + 1)) 13 [some (.ref 0), some (.int x1), none] (r.toList ++ []) hh Q)) : am_W (X_Model_judge (d + 1)) 8 [some (.ref 0), some (.int x1), none] [] h Q :=
  am_aload_n d_Model_judge_8 rfl (i := 0) rfl <|
    am_iload_n d_Model_judge_9 rfl (i := 1) rfl <|
    am_callV (vs := [.int x1]) (st := []) (k := 0) (ci := 10) rfl d_Model_judge_10 rfl rfl w_1671 w_1673 w_66 w_94 w_1674 p_Model_bytesIs (Nat.le_of_ble_eq_true rfl) (Nat.le_of_ble_eq_true rfl) rfl k
theorem b_Model_judge_13 {d : Nat} {x1 : Int32} {y0 : Int32} {h : am_H} {Q : am_Q} (q : Q (some (.int y0)) h) : am_W (X_Model_judge d) 13 [some (.ref 0), some (.int x1), none] [.int y0] h Q :=
  am_iret rfl d_Model_judge_13 q
theorem b_Model_judge_14 {d : Nat} {x1 : Int32} {h : am_H} {Q : am_Q} (k : am_W (X_Model_judge d) 16 [some (.ref 0), some (.int x1), some (.int 0)] [] h Q) : am_W (X_Model_judge d) 14 [some (.ref 0), some (.int x1), none] [] h Q :=
  am_iconst (v := 0) d_Model_judge_14 (by decide) <|
    am_istore_n (ls' := [some (.ref 0), some (.int x1), some (.int 0)]) d_Model_judge_15 rfl (Nat.le_of_ble_eq_true rfl) rfl <|
    k
theorem b_Model_judge_16 {d : Nat} {x1 : Int32} {x2 : Int32} {h : am_H} {Q : am_Q} (q0 : vp_in x1 6) (kt : (h.1 17 x1.toNatClampNeg) ≤ (3 * x2) → am_W (X_Model_judge d) 69 [some (.ref 0), some (.int x1), some (.int x2)] [] h Q) (kf : ¬ (h.1 17 x1.toNatClampNeg) ≤ (3 * x2) → am_W (X_Model_judge d) 28 [some (.ref 0), some (.int x1), some (.int x2)] [] h Q) : am_W (X_Model_judge d) 16 [some (.ref 0), some (.int x1), some (.int x2)] [] h Q :=
  am_iconst (v := 3) d_Model_judge_16 (by decide) <|
    am_iload_n d_Model_judge_17 rfl (i := 2) rfl <|
    am_imul d_Model_judge_18 <|
    am_aload_n d_Model_judge_19 rfl (i := 0) rfl <|
    am_getR (ci := 10) (i := 33) rfl rfl rfl (Nat.le_of_ble_eq_true rfl) w_1351 d_Model_judge_20 <|
    am_iload_n d_Model_judge_23 rfl (i := 1) rfl <|
    am_iald rfl q0 d_Model_judge_24 <|
    am_icmp_ge (tgt := 69) d_Model_judge_25 (by decide) kt kf
theorem b_Model_judge_28 {d : Nat} {x1 : Int32} {x2 : Int32} {h : am_H} {Q : am_Q} (k : m_Model_isThree d [.ref 0, .int x1, .int x2] h (fun r hh => am_W (X_Model_judge (d + 1)) 34 [some (.ref 0), some (.int x1), some (.int x2)] (r.toList ++ []) hh Q)) : am_W (X_Model_judge (d + 1)) 28 [some (.ref 0), some (.int x1), some (.int x2)] [] h Q :=
  am_aload_n d_Model_judge_28 rfl (i := 0) rfl <|
    am_iload_n d_Model_judge_29 rfl (i := 1) rfl <|
    am_iload_n d_Model_judge_30 rfl (i := 2) rfl <|
    am_callV (vs := [.int x1, .int x2]) (st := []) (k := 0) (ci := 10) rfl d_Model_judge_31 rfl rfl w_1675 w_1677 w_67 w_94 w_1678 p_Model_isThree (Nat.le_of_ble_eq_true rfl) (Nat.le_of_ble_eq_true rfl) rfl k
theorem b_Model_judge_34 {d : Nat} {x1 : Int32} {x2 : Int32} {y0 : Bool} {h : am_H} {Q : am_Q} (kt : (am_b y0) = 0 → am_W (X_Model_judge d) 61 [some (.ref 0), some (.int x1), some (.int x2)] [] h Q) (kf : ¬ (am_b y0) = 0 → am_W (X_Model_judge d) 37 [some (.ref 0), some (.int x1), some (.int x2)] [] h Q) : am_W (X_Model_judge d) 34 [some (.ref 0), some (.int x1), some (.int x2)] [.int (am_b y0)] h Q :=
  am_if_eq (tgt := 61) d_Model_judge_34 (by decide) kt kf
theorem b_Model_judge_37 {d : Nat} {x1 : Int32} {x2 : Int32} {h : am_H} {Q : am_Q} (k : m_Model_itemOf d [.ref 0, .int x1, .int x2, .int 1] h (fun r hh => am_W (X_Model_judge (d + 1)) 53 [some (.ref 0), some (.int x1), some (.int x2)] (r.toList ++ [.int 31, .ref 1, .int x2, .int x1, .ref 0]) hh Q)) : am_W (X_Model_judge (d + 1)) 37 [some (.ref 0), some (.int x1), some (.int x2)] [] h Q :=
  am_aload_n d_Model_judge_37 rfl (i := 0) rfl <|
    am_iload_n d_Model_judge_38 rfl (i := 1) rfl <|
    am_iload_n d_Model_judge_39 rfl (i := 2) rfl <|
    am_aload_n d_Model_judge_40 rfl (i := 0) rfl <|
    am_getR (ci := 10) (i := 0) rfl rfl rfl (Nat.le_of_ble_eq_true rfl) w_1318 d_Model_judge_41 <|
    am_bipush (v := 31) d_Model_judge_44 (by decide) <|
    am_aload_n d_Model_judge_46 rfl (i := 0) rfl <|
    am_iload_n d_Model_judge_47 rfl (i := 1) rfl <|
    am_iload_n d_Model_judge_48 rfl (i := 2) rfl <|
    am_iconst (v := 1) d_Model_judge_49 (by decide) <|
    am_callV (vs := [.int x1, .int x2, .int 1]) (st := [.int 31, .ref 1, .int x2, .int x1, .ref 0]) (k := 0) (ci := 10) rfl d_Model_judge_50 rfl rfl w_1679 w_1681 w_68 w_94 w_1682 p_Model_itemOf (Nat.le_of_ble_eq_true rfl) (Nat.le_of_ble_eq_true rfl) rfl k
theorem b_Model_judge_53 {d : Nat} {x1 : Int32} {x2 : Int32} {y5 : Int32} {y4 : Int32} {y2 : Int32} {y1 : Int32} {h : am_H} {Q : am_Q} (q0 : vp_in (y4 + y5) 54) (k : m_Model_waysOf d [.ref 0, .int y1, .int y2, .int (h.1 1 (y4 + y5).toNatClampNeg)] h (fun r hh => am_W (X_Model_judge (d + 1)) 58 [some (.ref 0), some (.int x1), some (.int x2)] (r.toList ++ []) hh Q)) : am_W (X_Model_judge (d + 1)) 53 [some (.ref 0), some (.int x1), some (.int x2)] [.int y5, .int y4, .ref 1, .int y2, .int y1, .ref 0] h Q :=
  am_iadd d_Model_judge_53 <|
    am_iald rfl q0 d_Model_judge_54 <|
    am_callV (vs := [.int y1, .int y2, .int (h.1 1 (y4 + y5).toNatClampNeg)]) (st := []) (k := 0) (ci := 10) rfl d_Model_judge_55 rfl rfl w_1683 w_1685 w_69 w_94 w_1686 p_Model_waysOf (Nat.le_of_ble_eq_true rfl) (Nat.le_of_ble_eq_true rfl) rfl k
theorem b_Model_judge_58 {d : Nat} {x1 : Int32} {x2 : Int32} {y0 : Int32} {h : am_H} {Q : am_Q} (kt : ¬ y0 = 0 → am_W (X_Model_judge d) 63 [some (.ref 0), some (.int x1), some (.int x2)] [] h Q) (kf : y0 = 0 → am_W (X_Model_judge d) 61 [some (.ref 0), some (.int x1), some (.int x2)] [] h Q) : am_W (X_Model_judge d) 58 [some (.ref 0), some (.int x1), some (.int x2)] [.int y0] h Q :=
  am_if_ne (tgt := 63) d_Model_judge_58 (by decide) kt kf
theorem b_Model_judge_61 {d : Nat} {x1 : Int32} {x2 : Int32} {h : am_H} {Q : am_Q} (q : Q (some (.int x2)) h) : am_W (X_Model_judge d) 61 [some (.ref 0), some (.int x1), some (.int x2)] [] h Q :=
  am_iload_n d_Model_judge_61 rfl (i := 2) rfl <|
    am_iret rfl d_Model_judge_62 q
theorem b_Model_judge_63 {d : Nat} {x1 : Int32} {x2 : Int32} {h : am_H} {Q : am_Q} (k : am_W (X_Model_judge d) 16 [some (.ref 0), some (.int x1), some (.int (x2 + 1))] [] h Q) : am_W (X_Model_judge d) 63 [some (.ref 0), some (.int x1), some (.int x2)] [] h Q :=
  am_iinc (v := (x2 + 1)) (ls' := [some (.ref 0), some (.int x1), some (.int (x2 + 1))]) d_Model_judge_63 rfl rfl (Nat.le_of_ble_eq_true rfl) rfl <|
    am_goto (tgt := 16) d_Model_judge_66 (by decide) k
theorem b_Model_judge_69 {d : Nat} {x1 : Int32} {x2 : Int32} {h : am_H} {Q : am_Q} (q : Q (some (.int (-2))) h) : am_W (X_Model_judge d) 69 [some (.ref 0), some (.int x1), some (.int x2)] [] h Q :=
  am_bipush (v := (-2)) d_Model_judge_69 (by decide) <|
    am_iret rfl d_Model_judge_71 q
theorem t_Model_judge_69 {d : Nat} {x1 : Int32} {x2 : Int32} {h : am_H} {Q : am_Q} {res : Int32} (e : f_Model_judge_69 h = some res) (q : Q (some (.int res)) h) : am_W (X_Model_judge (d + 4)) 69 [some (.ref 0), some (.int x1), some (.int x2)] [] h Q :=
  b_Model_judge_69 (d := (d + 4)) (q := (am_rIp (v := (-2)) e q))
theorem t_Model_judge_61 {d : Nat} {x1 : Int32} {x2 : Int32} {h : am_H} {Q : am_Q} {res : Int32} (e : f_Model_judge_61 h x2 = some res) (q : Q (some (.int res)) h) : am_W (X_Model_judge (d + 4)) 61 [some (.ref 0), some (.int x1), some (.int x2)] [] h Q :=
  b_Model_judge_61 (d := (d + 4)) (q := (am_rIp (v := x2) e q))
theorem t_Model_judge_63 {d : Nat} {k16 : Int32 → Int32 → Option (Int32)} {x1 : Int32} {x2 : Int32} {h : am_H} {Q : am_Q} {res : Int32} (hk16 : ∀ (x1 : Int32) (x2 : Int32), k16 x1 x2 = some res → am_W (X_Model_judge (d + 4)) 16 [some (.ref 0), some (.int x1), some (.int x2)] [] h Q) (e : f_Model_judge_63 k16 h x1 x2 = some res) (q : Q (some (.int res)) h) : am_W (X_Model_judge (d + 4)) 63 [some (.ref 0), some (.int x1), some (.int x2)] [] h Q :=
  b_Model_judge_63 (d := (d + 4)) (k := (hk16 _ _ e))
theorem t_Model_judge_58 {d : Nat} {k16 : Int32 → Int32 → Option (Int32)} {x1 : Int32} {x2 : Int32} {y0 : Int32} {h : am_H} {Q : am_Q} {res : Int32} (hk16 : ∀ (x1 : Int32) (x2 : Int32), k16 x1 x2 = some res → am_W (X_Model_judge (d + 4)) 16 [some (.ref 0), some (.int x1), some (.int x2)] [] h Q) (e : f_Model_judge_58 k16 h x1 x2 y0 = some res) (q : Q (some (.int res)) h) : am_W (X_Model_judge (d + 4)) 58 [some (.ref 0), some (.int x1), some (.int x2)] [.int y0] h Q :=
  b_Model_judge_58 (d := (d + 4)) (kt := fun c => (t_Model_judge_63 hk16 (am_ife e c) q)) (kf := fun c => (t_Model_judge_61 (am_ift e c) q))
theorem t_Model_judge_53 {d : Nat} {k16 : Int32 → Int32 → Option (Int32)} {x1 : Int32} {x2 : Int32} {y5 : Int32} {y4 : Int32} {y2 : Int32} {y1 : Int32} {h : am_H} {Q : am_Q} {res : Int32} (hk16 : ∀ (x1 : Int32) (x2 : Int32), k16 x1 x2 = some res → am_W (X_Model_judge (d + 4)) 16 [some (.ref 0), some (.int x1), some (.int x2)] [] h Q) (e : f_Model_judge_53 k16 h x1 x2 y5 y4 y2 y1 = some res) (q : Q (some (.int res)) h) : am_W (X_Model_judge (d + 4)) 53 [some (.ref 0), some (.int x1), some (.int x2)] [.int y5, .int y4, .ref 1, .int y2, .int y1, .ref 0] h Q :=
  (am_bd (am_ga e)).elim fun p hp => b_Model_judge_53 (d := (d + 3)) (q0 := (am_okv (am_gd e))) (k := c_Model_waysOf (d := d) hp.1 (t_Model_judge_58 hk16 hp.2 q))
theorem t_Model_judge_37 {d : Nat} {k16 : Int32 → Int32 → Option (Int32)} {x1 : Int32} {x2 : Int32} {h : am_H} {Q : am_Q} {res : Int32} (hk16 : ∀ (x1 : Int32) (x2 : Int32), k16 x1 x2 = some res → am_W (X_Model_judge (d + 4)) 16 [some (.ref 0), some (.int x1), some (.int x2)] [] h Q) (e : f_Model_judge_37 k16 h x1 x2 = some res) (q : Q (some (.int res)) h) : am_W (X_Model_judge (d + 4)) 37 [some (.ref 0), some (.int x1), some (.int x2)] [] h Q :=
  (am_bd e).elim fun p hp => b_Model_judge_37 (d := (d + 3)) (k := c_Model_itemOf (d := d + 3) hp.1 (t_Model_judge_53 hk16 hp.2 q))
theorem t_Model_judge_34 {d : Nat} {k16 : Int32 → Int32 → Option (Int32)} {x1 : Int32} {x2 : Int32} {y0 : Bool} {h : am_H} {Q : am_Q} {res : Int32} (hk16 : ∀ (x1 : Int32) (x2 : Int32), k16 x1 x2 = some res → am_W (X_Model_judge (d + 4)) 16 [some (.ref 0), some (.int x1), some (.int x2)] [] h Q) (e : f_Model_judge_34 k16 h x1 x2 y0 = some res) (q : Q (some (.int res)) h) : am_W (X_Model_judge (d + 4)) 34 [some (.ref 0), some (.int x1), some (.int x2)] [.int (am_b y0)] h Q :=
  b_Model_judge_34 (d := (d + 4)) (kt := fun c => (t_Model_judge_61 (am_iff e (am_bz c)) q)) (kf := fun c => (t_Model_judge_37 hk16 (am_ift e (am_bn c)) q))
theorem t_Model_judge_28 {d : Nat} {k16 : Int32 → Int32 → Option (Int32)} {x1 : Int32} {x2 : Int32} {h : am_H} {Q : am_Q} {res : Int32} (hk16 : ∀ (x1 : Int32) (x2 : Int32), k16 x1 x2 = some res → am_W (X_Model_judge (d + 4)) 16 [some (.ref 0), some (.int x1), some (.int x2)] [] h Q) (e : f_Model_judge_28 k16 h x1 x2 = some res) (q : Q (some (.int res)) h) : am_W (X_Model_judge (d + 4)) 28 [some (.ref 0), some (.int x1), some (.int x2)] [] h Q :=
  (am_bd e).elim fun p hp => b_Model_judge_28 (d := (d + 3)) (k := c_Model_isThree (d := d + 1) hp.1 (t_Model_judge_34 hk16 hp.2 q))
theorem t_Model_judge_16 {d : Nat} {k16 : Int32 → Int32 → Option (Int32)} {x1 : Int32} {x2 : Int32} {h : am_H} {Q : am_Q} {res : Int32} (hk16 : ∀ (x1 : Int32) (x2 : Int32), k16 x1 x2 = some res → am_W (X_Model_judge (d + 4)) 16 [some (.ref 0), some (.int x1), some (.int x2)] [] h Q) (e : f_Model_judge_16 k16 h x1 x2 = some res) (q : Q (some (.int res)) h) : am_W (X_Model_judge (d + 4)) 16 [some (.ref 0), some (.int x1), some (.int x2)] [] h Q :=
  b_Model_judge_16 (d := (d + 4)) (q0 := (am_okv (am_gd e))) (kt := fun c => (t_Model_judge_69 (am_ift (am_ga e) c) q)) (kf := fun c => (t_Model_judge_28 hk16 (am_ife (am_ga e) c) q))
theorem t_Model_judge_16_l {d : Nat} {h : am_H} {Q : am_Q} {res : Int32} (q : Q (some (.int res)) h) : ∀ (n : Nat) (x1 : Int32) (x2 : Int32), f_Model_judge_16_l h n x1 x2 = some res → am_W (X_Model_judge (d + 4)) 16 [some (.ref 0), some (.int x1), some (.int x2)] [] h Q := by
  intro n
  induction n with
  | zero => intro x1 x2 e; exact am_nn e
  | succ n ih => intro x1 x2 e; exact t_Model_judge_16 (fun x1 x2 e => ih x1 x2  e) e q
theorem t_Model_judge_14 {d : Nat} {x1 : Int32} {h : am_H} {Q : am_Q} {res : Int32} (e : f_Model_judge_14 h x1 = some res) (q : Q (some (.int res)) h) : am_W (X_Model_judge (d + 4)) 14 [some (.ref 0), some (.int x1), none] [] h Q :=
  b_Model_judge_14 (d := (d + 4)) (k := (t_Model_judge_16_l q am_fu _ _ e))
theorem t_Model_judge_13 {d : Nat} {x1 : Int32} {y0 : Int32} {h : am_H} {Q : am_Q} {res : Int32} (e : f_Model_judge_13 h y0 = some res) (q : Q (some (.int res)) h) : am_W (X_Model_judge (d + 4)) 13 [some (.ref 0), some (.int x1), none] [.int y0] h Q :=
  b_Model_judge_13 (d := (d + 4)) (q := (am_rIp (v := y0) e q))
theorem t_Model_judge_8 {d : Nat} {x1 : Int32} {h : am_H} {Q : am_Q} {res : Int32} (e : f_Model_judge_8 h x1 = some res) (q : Q (some (.int res)) h) : am_W (X_Model_judge (d + 4)) 8 [some (.ref 0), some (.int x1), none] [] h Q :=
  (am_bd e).elim fun p hp => b_Model_judge_8 (d := (d + 3)) (k := c_Model_bytesIs (d := d + 1) hp.1 (t_Model_judge_13 hp.2 q))
theorem t_Model_judge_5 {d : Nat} {x1 : Int32} {y0 : Int32} {h : am_H} {Q : am_Q} {res : Int32} (e : f_Model_judge_5 h x1 y0 = some res) (q : Q (some (.int res)) h) : am_W (X_Model_judge (d + 4)) 5 [some (.ref 0), some (.int x1), none] [.int y0] h Q :=
  b_Model_judge_5 (d := (d + 4)) (kt := fun c => (t_Model_judge_14 (am_ift e c) q)) (kf := fun c => (t_Model_judge_8 (am_ife e c) q))
theorem t_Model_judge_0 {d : Nat} {x1 : Int32} {h : am_H} {Q : am_Q} {res : Int32} (e : f_Model_judge h x1 = some res) (q : Q (some (.int res)) h) : am_W (X_Model_judge (d + 4)) 0 [some (.ref 0), some (.int x1), none] [] h Q :=
  (am_bd e).elim fun p hp => b_Model_judge_0 (d := (d + 3)) (k := c_Model_bytesIs (d := d + 1) hp.1 (t_Model_judge_5 hp.2 q))
theorem c_Model_judge {d : Nat} {x1 : Int32} {h : am_H} {Q : am_Q} {res : Int32} (e : f_Model_judge h x1 = some res) (q : Q (some (.int res)) h) : m_Model_judge (d + 4) [.ref 0, .int x1] h Q :=
  e_Model_judge (t_Model_judge_0 e q)
theorem d_Model_truly_0 : decode prog_12_method_64_code 0 = .ok (.aload_n 0, 1) := by decide +kernel
theorem d_Model_truly_1 : decode prog_12_method_64_code 1 = .ok (.iload_n 1, 1) := by decide +kernel
theorem d_Model_truly_2 : decode prog_12_method_64_code 2 = .ok (.invokevirtual 273, 3) := by decide +kernel
theorem d_Model_truly_5 : decode prog_12_method_64_code 5 = .ok (.iconst (-1), 1) := by decide +kernel
theorem d_Model_truly_6 : decode prog_12_method_64_code 6 = .ok (.if_icmp .eq 12, 3) := by decide +kernel
theorem d_Model_truly_9 : decode prog_12_method_64_code 9 = .ok (.aload_n 0, 1) := by decide +kernel
theorem d_Model_truly_10 : decode prog_12_method_64_code 10 = .ok (.iload_n 2, 1) := by decide +kernel
theorem d_Model_truly_11 : decode prog_12_method_64_code 11 = .ok (.i2l, 1) := by decide +kernel
theorem d_Model_truly_12 : decode prog_12_method_64_code 12 = .ok (.invokevirtual 114, 3) := by decide +kernel
theorem d_Model_truly_15 : decode prog_12_method_64_code 15 = .ok (.ifCond .ne 5, 3) := by decide +kernel
theorem d_Model_truly_18 : decode prog_12_method_64_code 18 = .ok (.iconst (-1), 1) := by decide +kernel
theorem d_Model_truly_19 : decode prog_12_method_64_code 19 = .ok (.ireturn, 1) := by decide +kernel
theorem d_Model_truly_20 : decode prog_12_method_64_code 20 = .ok (.aload_n 0, 1) := by decide +kernel
theorem d_Model_truly_21 : decode prog_12_method_64_code 21 = .ok (.iload_n 1, 1) := by decide +kernel
theorem d_Model_truly_22 : decode prog_12_method_64_code 22 = .ok (.invokevirtual 273, 3) := by decide +kernel
theorem d_Model_truly_25 : decode prog_12_method_64_code 25 = .ok (.ifCond .ge 9, 3) := by decide +kernel
theorem d_Model_truly_28 : decode prog_12_method_64_code 28 = .ok (.aload_n 0, 1) := by decide +kernel
theorem d_Model_truly_29 : decode prog_12_method_64_code 29 = .ok (.iload_n 1, 1) := by decide +kernel
theorem d_Model_truly_30 : decode prog_12_method_64_code 30 = .ok (.invokevirtual 273, 3) := by decide +kernel
theorem d_Model_truly_33 : decode prog_12_method_64_code 33 = .ok (.ireturn, 1) := by decide +kernel
theorem d_Model_truly_34 : decode prog_12_method_64_code 34 = .ok (.bipush (-2), 2) := by decide +kernel
theorem d_Model_truly_36 : decode prog_12_method_64_code 36 = .ok (.istore_n 3, 1) := by decide +kernel
theorem d_Model_truly_37 : decode prog_12_method_64_code 37 = .ok (.lconst 0, 1) := by decide +kernel
theorem d_Model_truly_38 : decode prog_12_method_64_code 38 = .ok (.lstore 4, 2) := by decide +kernel
theorem d_Model_truly_40 : decode prog_12_method_64_code 40 = .ok (.iconst 0, 1) := by decide +kernel
theorem d_Model_truly_41 : decode prog_12_method_64_code 41 = .ok (.istore 6, 2) := by decide +kernel
theorem d_Model_truly_43 : decode prog_12_method_64_code 43 = .ok (.iload 6, 2) := by decide +kernel
theorem d_Model_truly_45 : decode prog_12_method_64_code 45 = .ok (.bipush 30, 2) := by decide +kernel
theorem d_Model_truly_47 : decode prog_12_method_64_code 47 = .ok (.if_icmp .gt 126, 3) := by decide +kernel
theorem d_Model_truly_50 : decode prog_12_method_64_code 50 = .ok (.lconst 1, 1) := by decide +kernel
theorem d_Model_truly_51 : decode prog_12_method_64_code 51 = .ok (.lstore 7, 2) := by decide +kernel
theorem d_Model_truly_53 : decode prog_12_method_64_code 53 = .ok (.iconst 0, 1) := by decide +kernel
theorem d_Model_truly_54 : decode prog_12_method_64_code 54 = .ok (.istore 9, 2) := by decide +kernel
theorem d_Model_truly_56 : decode prog_12_method_64_code 56 = .ok (.iconst 0, 1) := by decide +kernel
theorem d_Model_truly_57 : decode prog_12_method_64_code 57 = .ok (.istore 10, 2) := by decide +kernel
theorem d_Model_truly_59 : decode prog_12_method_64_code 59 = .ok (.iconst 3, 1) := by decide +kernel
theorem d_Model_truly_60 : decode prog_12_method_64_code 60 = .ok (.iload 10, 2) := by decide +kernel
theorem d_Model_truly_62 : decode prog_12_method_64_code 62 = .ok (.imul, 1) := by decide +kernel
theorem d_Model_truly_63 : decode prog_12_method_64_code 63 = .ok (.aload_n 0, 1) := by decide +kernel
theorem d_Model_truly_64 : decode prog_12_method_64_code 64 = .ok (.getfield 61, 3) := by decide +kernel
theorem d_Model_truly_67 : decode prog_12_method_64_code 67 = .ok (.iload_n 1, 1) := by decide +kernel
theorem d_Model_truly_68 : decode prog_12_method_64_code 68 = .ok (.iaload, 1) := by decide +kernel
theorem d_Model_truly_69 : decode prog_12_method_64_code 69 = .ok (.if_icmp .ge 78, 3) := by decide +kernel
theorem d_Model_truly_72 : decode prog_12_method_64_code 72 = .ok (.iconst 3, 1) := by decide +kernel
theorem d_Model_truly_73 : decode prog_12_method_64_code 73 = .ok (.iload 10, 2) := by decide +kernel
theorem d_Model_truly_75 : decode prog_12_method_64_code 75 = .ok (.imul, 1) := by decide +kernel
theorem d_Model_truly_76 : decode prog_12_method_64_code 76 = .ok (.iconst 2, 1) := by decide +kernel
theorem d_Model_truly_77 : decode prog_12_method_64_code 77 = .ok (.iadd, 1) := by decide +kernel
theorem d_Model_truly_78 : decode prog_12_method_64_code 78 = .ok (.aload_n 0, 1) := by decide +kernel
theorem d_Model_truly_79 : decode prog_12_method_64_code 79 = .ok (.getfield 61, 3) := by decide +kernel
theorem d_Model_truly_82 : decode prog_12_method_64_code 82 = .ok (.iload_n 1, 1) := by decide +kernel
theorem d_Model_truly_83 : decode prog_12_method_64_code 83 = .ok (.iaload, 1) := by decide +kernel
theorem d_Model_truly_84 : decode prog_12_method_64_code 84 = .ok (.if_icmp .ge 57, 3) := by decide +kernel
theorem d_Model_truly_87 : decode prog_12_method_64_code 87 = .ok (.aload_n 0, 1) := by decide +kernel
theorem d_Model_truly_88 : decode prog_12_method_64_code 88 = .ok (.getfield 64, 3) := by decide +kernel
theorem d_Model_truly_91 : decode prog_12_method_64_code 91 = .ok (.bipush 60, 2) := by decide +kernel
theorem d_Model_truly_93 : decode prog_12_method_64_code 93 = .ok (.iload_n 1, 1) := by decide +kernel
theorem d_Model_truly_94 : decode prog_12_method_64_code 94 = .ok (.imul, 1) := by decide +kernel
theorem d_Model_truly_95 : decode prog_12_method_64_code 95 = .ok (.iconst 3, 1) := by decide +kernel
theorem d_Model_truly_96 : decode prog_12_method_64_code 96 = .ok (.iload 10, 2) := by decide +kernel
theorem d_Model_truly_98 : decode prog_12_method_64_code 98 = .ok (.imul, 1) := by decide +kernel
theorem d_Model_truly_99 : decode prog_12_method_64_code 99 = .ok (.iadd, 1) := by decide +kernel
theorem d_Model_truly_100 : decode prog_12_method_64_code 100 = .ok (.iconst 1, 1) := by decide +kernel
theorem d_Model_truly_101 : decode prog_12_method_64_code 101 = .ok (.iadd, 1) := by decide +kernel
theorem d_Model_truly_102 : decode prog_12_method_64_code 102 = .ok (.laload, 1) := by decide +kernel
theorem d_Model_truly_103 : decode prog_12_method_64_code 103 = .ok (.iload_n 2, 1) := by decide +kernel
theorem d_Model_truly_104 : decode prog_12_method_64_code 104 = .ok (.i2l, 1) := by decide +kernel
theorem d_Model_truly_105 : decode prog_12_method_64_code 105 = .ok (.lcmp, 1) := by decide +kernel
theorem d_Model_truly_106 : decode prog_12_method_64_code 106 = .ok (.ifCond .ne 35, 3) := by decide +kernel
theorem d_Model_truly_109 : decode prog_12_method_64_code 109 = .ok (.iconst 1, 1) := by decide +kernel
theorem d_Model_truly_110 : decode prog_12_method_64_code 110 = .ok (.istore 9, 2) := by decide +kernel
theorem d_Model_truly_112 : decode prog_12_method_64_code 112 = .ok (.lload 7, 2) := by decide +kernel
theorem d_Model_truly_114 : decode prog_12_method_64_code 114 = .ok (.aload_n 0, 1) := by decide +kernel
theorem d_Model_truly_115 : decode prog_12_method_64_code 115 = .ok (.iload_n 1, 1) := by decide +kernel
theorem d_Model_truly_116 : decode prog_12_method_64_code 116 = .ok (.iload 10, 2) := by decide +kernel
theorem d_Model_truly_118 : decode prog_12_method_64_code 118 = .ok (.invokevirtual 276, 3) := by decide +kernel
theorem d_Model_truly_121 : decode prog_12_method_64_code 121 = .ok (.ifCond .eq 16, 3) := by decide +kernel
theorem d_Model_truly_124 : decode prog_12_method_64_code 124 = .ok (.aload_n 0, 1) := by decide +kernel
theorem d_Model_truly_125 : decode prog_12_method_64_code 125 = .ok (.iload_n 1, 1) := by decide +kernel
theorem d_Model_truly_126 : decode prog_12_method_64_code 126 = .ok (.iload 10, 2) := by decide +kernel
theorem d_Model_truly_128 : decode prog_12_method_64_code 128 = .ok (.iload 6, 2) := by decide +kernel
theorem d_Model_truly_130 : decode prog_12_method_64_code 130 = .ok (.invokevirtual 279, 3) := by decide +kernel
theorem d_Model_truly_133 : decode prog_12_method_64_code 133 = .ok (.i2l, 1) := by decide +kernel
theorem d_Model_truly_134 : decode prog_12_method_64_code 134 = .ok (.goto 4, 3) := by decide +kernel
theorem d_Model_truly_137 : decode prog_12_method_64_code 137 = .ok (.lconst 0, 1) := by decide +kernel
theorem d_Model_truly_138 : decode prog_12_method_64_code 138 = .ok (.lmul, 1) := by decide +kernel
theorem d_Model_truly_139 : decode prog_12_method_64_code 139 = .ok (.lstore 7, 2) := by decide +kernel
theorem d_Model_truly_141 : decode prog_12_method_64_code 141 = .ok (.iinc 10 1, 3) := by decide +kernel
theorem d_Model_truly_144 : decode prog_12_method_64_code 144 = .ok (.goto (-85), 3) := by decide +kernel
theorem d_Model_truly_147 : decode prog_12_method_64_code 147 = .ok (.iload 9, 2) := by decide +kernel
theorem d_Model_truly_149 : decode prog_12_method_64_code 149 = .ok (.ifCond .eq 18, 3) := by decide +kernel
theorem d_Model_truly_152 : decode prog_12_method_64_code 152 = .ok (.lload 7, 2) := by decide +kernel
theorem d_Model_truly_154 : decode prog_12_method_64_code 154 = .ok (.lload 4, 2) := by decide +kernel
theorem d_Model_truly_156 : decode prog_12_method_64_code 156 = .ok (.lcmp, 1) := by decide +kernel
theorem d_Model_truly_157 : decode prog_12_method_64_code 157 = .ok (.ifCond .le 10, 3) := by decide +kernel
theorem d_Model_truly_160 : decode prog_12_method_64_code 160 = .ok (.iload 6, 2) := by decide +kernel
theorem d_Model_truly_162 : decode prog_12_method_64_code 162 = .ok (.istore_n 3, 1) := by decide +kernel
theorem d_Model_truly_163 : decode prog_12_method_64_code 163 = .ok (.lload 7, 2) := by decide +kernel
theorem d_Model_truly_165 : decode prog_12_method_64_code 165 = .ok (.lstore 4, 2) := by decide +kernel
theorem d_Model_truly_167 : decode prog_12_method_64_code 167 = .ok (.iinc 6 1, 3) := by decide +kernel
theorem d_Model_truly_170 : decode prog_12_method_64_code 170 = .ok (.goto (-127), 3) := by decide +kernel
theorem d_Model_truly_173 : decode prog_12_method_64_code 173 = .ok (.iload_n 3, 1) := by decide +kernel
theorem d_Model_truly_174 : decode prog_12_method_64_code 174 = .ok (.ireturn, 1) := by decide +kernel
theorem b_Model_truly_0 {d : Nat} {x1 : Int32} {x2 : Int32} {h : am_H} {Q : am_Q} (k : m_Model_bytesIs d [.ref 0, .int x1] h (fun r hh => am_W (X_Model_truly (d + 1)) 5 [some (.ref 0), some (.int x1), some (.int x2), none, none, none, none, none, none, none, none] (r.toList ++ []) hh Q)) : am_W (X_Model_truly (d + 1)) 0 [some (.ref 0), some (.int x1), some (.int x2), none, none, none, none, none, none, none, none] [] h Q :=
  am_aload_n d_Model_truly_0 rfl (i := 0) rfl <|
    am_iload_n d_Model_truly_1 rfl (i := 1) rfl <|
    am_callV (vs := [.int x1]) (st := []) (k := 0) (ci := 10) rfl d_Model_truly_2 rfl rfl w_1671 w_1673 w_66 w_94 w_1674 p_Model_bytesIs (Nat.le_of_ble_eq_true rfl) (Nat.le_of_ble_eq_true rfl) rfl k
theorem b_Model_truly_5 {d : Nat} {x1 : Int32} {x2 : Int32} {y0 : Int32} {h : am_H} {Q : am_Q} (kt : y0 = (-1) → am_W (X_Model_truly d) 18 [some (.ref 0), some (.int x1), some (.int x2), none, none, none, none, none, none, none, none] [] h Q) (kf : ¬ y0 = (-1) → am_W (X_Model_truly d) 9 [some (.ref 0), some (.int x1), some (.int x2), none, none, none, none, none, none, none, none] [] h Q) : am_W (X_Model_truly d) 5 [some (.ref 0), some (.int x1), some (.int x2), none, none, none, none, none, none, none, none] [.int y0] h Q :=
  am_iconst (v := (-1)) d_Model_truly_5 (by decide) <|
    am_icmp_eq (tgt := 18) d_Model_truly_6 (by decide) kt kf
theorem b_Model_truly_9 {d : Nat} {x1 : Int32} {x2 : Int32} {h : am_H} {Q : am_Q} (k : m_Model_isClub d [.ref 0, .long x2.toInt64] h (fun r hh => am_W (X_Model_truly (d + 1)) 15 [some (.ref 0), some (.int x1), some (.int x2), none, none, none, none, none, none, none, none] (r.toList ++ []) hh Q)) : am_W (X_Model_truly (d + 1)) 9 [some (.ref 0), some (.int x1), some (.int x2), none, none, none, none, none, none, none, none] [] h Q :=
  am_aload_n d_Model_truly_9 rfl (i := 0) rfl <|
    am_iload_n d_Model_truly_10 rfl (i := 2) rfl <|
    am_i2l d_Model_truly_11 <|
    am_callV (vs := [.long x2.toInt64]) (st := []) (k := 0) (ci := 10) rfl d_Model_truly_12 rfl rfl w_1472 w_1474 w_36 w_94 w_1475 p_Model_isClub (Nat.le_of_ble_eq_true rfl) (Nat.le_of_ble_eq_true rfl) rfl k
theorem b_Model_truly_15 {d : Nat} {x1 : Int32} {x2 : Int32} {y0 : Bool} {h : am_H} {Q : am_Q} (kt : ¬ (am_b y0) = 0 → am_W (X_Model_truly d) 20 [some (.ref 0), some (.int x1), some (.int x2), none, none, none, none, none, none, none, none] [] h Q) (kf : (am_b y0) = 0 → am_W (X_Model_truly d) 18 [some (.ref 0), some (.int x1), some (.int x2), none, none, none, none, none, none, none, none] [] h Q) : am_W (X_Model_truly d) 15 [some (.ref 0), some (.int x1), some (.int x2), none, none, none, none, none, none, none, none] [.int (am_b y0)] h Q :=
  am_if_ne (tgt := 20) d_Model_truly_15 (by decide) kt kf
theorem b_Model_truly_18 {d : Nat} {x1 : Int32} {x2 : Int32} {h : am_H} {Q : am_Q} (q : Q (some (.int (-1))) h) : am_W (X_Model_truly d) 18 [some (.ref 0), some (.int x1), some (.int x2), none, none, none, none, none, none, none, none] [] h Q :=
  am_iconst (v := (-1)) d_Model_truly_18 (by decide) <|
    am_iret rfl d_Model_truly_19 q
theorem b_Model_truly_20 {d : Nat} {x1 : Int32} {x2 : Int32} {h : am_H} {Q : am_Q} (k : m_Model_bytesIs d [.ref 0, .int x1] h (fun r hh => am_W (X_Model_truly (d + 1)) 25 [some (.ref 0), some (.int x1), some (.int x2), none, none, none, none, none, none, none, none] (r.toList ++ []) hh Q)) : am_W (X_Model_truly (d + 1)) 20 [some (.ref 0), some (.int x1), some (.int x2), none, none, none, none, none, none, none, none] [] h Q :=
  am_aload_n d_Model_truly_20 rfl (i := 0) rfl <|
    am_iload_n d_Model_truly_21 rfl (i := 1) rfl <|
    am_callV (vs := [.int x1]) (st := []) (k := 0) (ci := 10) rfl d_Model_truly_22 rfl rfl w_1671 w_1673 w_66 w_94 w_1674 p_Model_bytesIs (Nat.le_of_ble_eq_true rfl) (Nat.le_of_ble_eq_true rfl) rfl k
theorem b_Model_truly_25 {d : Nat} {x1 : Int32} {x2 : Int32} {y0 : Int32} {h : am_H} {Q : am_Q} (kt : 0 ≤ y0 → am_W (X_Model_truly d) 34 [some (.ref 0), some (.int x1), some (.int x2), none, none, none, none, none, none, none, none] [] h Q) (kf : ¬ 0 ≤ y0 → am_W (X_Model_truly d) 28 [some (.ref 0), some (.int x1), some (.int x2), none, none, none, none, none, none, none, none] [] h Q) : am_W (X_Model_truly d) 25 [some (.ref 0), some (.int x1), some (.int x2), none, none, none, none, none, none, none, none] [.int y0] h Q :=
  am_if_ge (tgt := 34) d_Model_truly_25 (by decide) kt kf
theorem b_Model_truly_28 {d : Nat} {x1 : Int32} {x2 : Int32} {h : am_H} {Q : am_Q} (k : m_Model_bytesIs d [.ref 0, .int x1] h (fun r hh => am_W (X_Model_truly (d + 1)) 33 [some (.ref 0), some (.int x1), some (.int x2), none, none, none, none, none, none, none, none] (r.toList ++ []) hh Q)) : am_W (X_Model_truly (d + 1)) 28 [some (.ref 0), some (.int x1), some (.int x2), none, none, none, none, none, none, none, none] [] h Q :=
  am_aload_n d_Model_truly_28 rfl (i := 0) rfl <|
    am_iload_n d_Model_truly_29 rfl (i := 1) rfl <|
    am_callV (vs := [.int x1]) (st := []) (k := 0) (ci := 10) rfl d_Model_truly_30 rfl rfl w_1671 w_1673 w_66 w_94 w_1674 p_Model_bytesIs (Nat.le_of_ble_eq_true rfl) (Nat.le_of_ble_eq_true rfl) rfl k
theorem b_Model_truly_33 {d : Nat} {x1 : Int32} {x2 : Int32} {y0 : Int32} {h : am_H} {Q : am_Q} (q : Q (some (.int y0)) h) : am_W (X_Model_truly d) 33 [some (.ref 0), some (.int x1), some (.int x2), none, none, none, none, none, none, none, none] [.int y0] h Q :=
  am_iret rfl d_Model_truly_33 q
theorem b_Model_truly_34 {d : Nat} {x1 : Int32} {x2 : Int32} {h : am_H} {Q : am_Q} (k : am_W (X_Model_truly d) 43 [some (.ref 0), some (.int x1), some (.int x2), some (.int (-2)), some (.long 0), none, some (.int 0), none, none, none, none] [] h Q) : am_W (X_Model_truly d) 34 [some (.ref 0), some (.int x1), some (.int x2), none, none, none, none, none, none, none, none] [] h Q :=
  am_bipush (v := (-2)) d_Model_truly_34 (by decide) <|
    am_istore_n (ls' := [some (.ref 0), some (.int x1), some (.int x2), some (.int (-2)), none, none, none, none, none, none, none]) d_Model_truly_36 rfl (Nat.le_of_ble_eq_true rfl) rfl <|
    am_lconst (v := 0) d_Model_truly_37 (by decide) <|
    am_lstore (ls' := [some (.ref 0), some (.int x1), some (.int x2), some (.int (-2)), some (.long 0), none, none, none, none, none, none]) d_Model_truly_38 (Nat.le_of_ble_eq_true rfl) rfl <|
    am_iconst (v := 0) d_Model_truly_40 (by decide) <|
    am_istore (ls' := [some (.ref 0), some (.int x1), some (.int x2), some (.int (-2)), some (.long 0), none, some (.int 0), none, none, none, none]) d_Model_truly_41 (Nat.le_of_ble_eq_true rfl) rfl <|
    k
theorem b_Model_truly_43 {d : Nat} {x1 : Int32} {x2 : Int32} {x3 : Int32} {x4 : Int64} {x6 : Int32} {h : am_H} {Q : am_Q} (kt : 30 < x6 → am_W (X_Model_truly d) 173 [some (.ref 0), some (.int x1), some (.int x2), some (.int x3), some (.long x4), none, some (.int x6), none, none, none, none] [] h Q) (kf : ¬ 30 < x6 → am_W (X_Model_truly d) 50 [some (.ref 0), some (.int x1), some (.int x2), some (.int x3), some (.long x4), none, some (.int x6), none, none, none, none] [] h Q) : am_W (X_Model_truly d) 43 [some (.ref 0), some (.int x1), some (.int x2), some (.int x3), some (.long x4), none, some (.int x6), none, none, none, none] [] h Q :=
  am_iload d_Model_truly_43 rfl <|
    am_bipush (v := 30) d_Model_truly_45 (by decide) <|
    am_icmp_gt (tgt := 173) d_Model_truly_47 (by decide) kt kf
theorem b_Model_truly_50 {d : Nat} {x1 : Int32} {x2 : Int32} {x3 : Int32} {x4 : Int64} {x6 : Int32} {h : am_H} {Q : am_Q} (k : am_W (X_Model_truly d) 59 [some (.ref 0), some (.int x1), some (.int x2), some (.int x3), some (.long x4), none, some (.int x6), some (.long 1), none, some (.int 0), some (.int 0)] [] h Q) : am_W (X_Model_truly d) 50 [some (.ref 0), some (.int x1), some (.int x2), some (.int x3), some (.long x4), none, some (.int x6), none, none, none, none] [] h Q :=
  am_lconst (v := 1) d_Model_truly_50 (by decide) <|
    am_lstore (ls' := [some (.ref 0), some (.int x1), some (.int x2), some (.int x3), some (.long x4), none, some (.int x6), some (.long 1), none, none, none]) d_Model_truly_51 (Nat.le_of_ble_eq_true rfl) rfl <|
    am_iconst (v := 0) d_Model_truly_53 (by decide) <|
    am_istore (ls' := [some (.ref 0), some (.int x1), some (.int x2), some (.int x3), some (.long x4), none, some (.int x6), some (.long 1), none, some (.int 0), none]) d_Model_truly_54 (Nat.le_of_ble_eq_true rfl) rfl <|
    am_iconst (v := 0) d_Model_truly_56 (by decide) <|
    am_istore (ls' := [some (.ref 0), some (.int x1), some (.int x2), some (.int x3), some (.long x4), none, some (.int x6), some (.long 1), none, some (.int 0), some (.int 0)]) d_Model_truly_57 (Nat.le_of_ble_eq_true rfl) rfl <|
    k
theorem b_Model_truly_59 {d : Nat} {x1 : Int32} {x2 : Int32} {x3 : Int32} {x4 : Int64} {x6 : Int32} {x7 : Int64} {x9 : Int32} {x10 : Int32} {h : am_H} {Q : am_Q} (q0 : vp_in x1 6) (kt : (h.1 17 x1.toNatClampNeg) ≤ (3 * x10) → am_W (X_Model_truly d) 147 [some (.ref 0), some (.int x1), some (.int x2), some (.int x3), some (.long x4), none, some (.int x6), some (.long x7), none, some (.int x9), some (.int x10)] [] h Q) (kf : ¬ (h.1 17 x1.toNatClampNeg) ≤ (3 * x10) → am_W (X_Model_truly d) 72 [some (.ref 0), some (.int x1), some (.int x2), some (.int x3), some (.long x4), none, some (.int x6), some (.long x7), none, some (.int x9), some (.int x10)] [] h Q) : am_W (X_Model_truly d) 59 [some (.ref 0), some (.int x1), some (.int x2), some (.int x3), some (.long x4), none, some (.int x6), some (.long x7), none, some (.int x9), some (.int x10)] [] h Q :=
  am_iconst (v := 3) d_Model_truly_59 (by decide) <|
    am_iload d_Model_truly_60 rfl <|
    am_imul d_Model_truly_62 <|
    am_aload_n d_Model_truly_63 rfl (i := 0) rfl <|
    am_getR (ci := 10) (i := 33) rfl rfl rfl (Nat.le_of_ble_eq_true rfl) w_1351 d_Model_truly_64 <|
    am_iload_n d_Model_truly_67 rfl (i := 1) rfl <|
    am_iald rfl q0 d_Model_truly_68 <|
    am_icmp_ge (tgt := 147) d_Model_truly_69 (by decide) kt kf
theorem b_Model_truly_72 {d : Nat} {x1 : Int32} {x2 : Int32} {x3 : Int32} {x4 : Int64} {x6 : Int32} {x7 : Int64} {x9 : Int32} {x10 : Int32} {h : am_H} {Q : am_Q} (q0 : vp_in x1 6) (kt : (h.1 17 x1.toNatClampNeg) ≤ ((3 * x10) + 2) → am_W (X_Model_truly d) 141 [some (.ref 0), some (.int x1), some (.int x2), some (.int x3), some (.long x4), none, some (.int x6), some (.long x7), none, some (.int x9), some (.int x10)] [] h Q) (kf : ¬ (h.1 17 x1.toNatClampNeg) ≤ ((3 * x10) + 2) → am_W (X_Model_truly d) 87 [some (.ref 0), some (.int x1), some (.int x2), some (.int x3), some (.long x4), none, some (.int x6), some (.long x7), none, some (.int x9), some (.int x10)] [] h Q) : am_W (X_Model_truly d) 72 [some (.ref 0), some (.int x1), some (.int x2), some (.int x3), some (.long x4), none, some (.int x6), some (.long x7), none, some (.int x9), some (.int x10)] [] h Q :=
  am_iconst (v := 3) d_Model_truly_72 (by decide) <|
    am_iload d_Model_truly_73 rfl <|
    am_imul d_Model_truly_75 <|
    am_iconst (v := 2) d_Model_truly_76 (by decide) <|
    am_iadd d_Model_truly_77 <|
    am_aload_n d_Model_truly_78 rfl (i := 0) rfl <|
    am_getR (ci := 10) (i := 33) rfl rfl rfl (Nat.le_of_ble_eq_true rfl) w_1351 d_Model_truly_79 <|
    am_iload_n d_Model_truly_82 rfl (i := 1) rfl <|
    am_iald rfl q0 d_Model_truly_83 <|
    am_icmp_ge (tgt := 141) d_Model_truly_84 (by decide) kt kf
theorem b_Model_truly_87 {d : Nat} {x1 : Int32} {x2 : Int32} {x3 : Int32} {x4 : Int64} {x6 : Int32} {x7 : Int64} {x9 : Int32} {x10 : Int32} {h : am_H} {Q : am_Q} (q0 : vp_in (((60 * x1) + (3 * x10)) + 1) 360) (kt : ¬ (h.2 18 (((60 * x1) + (3 * x10)) + 1).toNatClampNeg) = x2.toInt64 → am_W (X_Model_truly d) 141 [some (.ref 0), some (.int x1), some (.int x2), some (.int x3), some (.long x4), none, some (.int x6), some (.long x7), none, some (.int x9), some (.int x10)] [] h Q) (kf : (h.2 18 (((60 * x1) + (3 * x10)) + 1).toNatClampNeg) = x2.toInt64 → am_W (X_Model_truly d) 109 [some (.ref 0), some (.int x1), some (.int x2), some (.int x3), some (.long x4), none, some (.int x6), some (.long x7), none, some (.int x9), some (.int x10)] [] h Q) : am_W (X_Model_truly d) 87 [some (.ref 0), some (.int x1), some (.int x2), some (.int x3), some (.long x4), none, some (.int x6), some (.long x7), none, some (.int x9), some (.int x10)] [] h Q :=
  am_aload_n d_Model_truly_87 rfl (i := 0) rfl <|
    am_getR (ci := 10) (i := 34) rfl rfl rfl (Nat.le_of_ble_eq_true rfl) w_1352 d_Model_truly_88 <|
    am_bipush (v := 60) d_Model_truly_91 (by decide) <|
    am_iload_n d_Model_truly_93 rfl (i := 1) rfl <|
    am_imul d_Model_truly_94 <|
    am_iconst (v := 3) d_Model_truly_95 (by decide) <|
    am_iload d_Model_truly_96 rfl <|
    am_imul d_Model_truly_98 <|
    am_iadd d_Model_truly_99 <|
    am_iconst (v := 1) d_Model_truly_100 (by decide) <|
    am_iadd d_Model_truly_101 <|
    am_lald rfl q0 d_Model_truly_102 <|
    am_iload_n d_Model_truly_103 rfl (i := 2) rfl <|
    am_i2l d_Model_truly_104 <|
    am_lc_if_ne (tgt := 141) d_Model_truly_105 d_Model_truly_106 (by decide) kt kf
theorem b_Model_truly_109 {d : Nat} {x1 : Int32} {x2 : Int32} {x3 : Int32} {x4 : Int64} {x6 : Int32} {x7 : Int64} {x9 : Int32} {x10 : Int32} {h : am_H} {Q : am_Q} (k : m_Model_isThree d [.ref 0, .int x1, .int x10] h (fun r hh => am_W (X_Model_truly (d + 1)) 121 [some (.ref 0), some (.int x1), some (.int x2), some (.int x3), some (.long x4), none, some (.int x6), some (.long x7), none, some (.int 1), some (.int x10)] (r.toList ++ [.long x7]) hh Q)) : am_W (X_Model_truly (d + 1)) 109 [some (.ref 0), some (.int x1), some (.int x2), some (.int x3), some (.long x4), none, some (.int x6), some (.long x7), none, some (.int x9), some (.int x10)] [] h Q :=
  am_iconst (v := 1) d_Model_truly_109 (by decide) <|
    am_istore (ls' := [some (.ref 0), some (.int x1), some (.int x2), some (.int x3), some (.long x4), none, some (.int x6), some (.long x7), none, some (.int 1), some (.int x10)]) d_Model_truly_110 (Nat.le_of_ble_eq_true rfl) rfl <|
    am_lload d_Model_truly_112 rfl <|
    am_aload_n d_Model_truly_114 rfl (i := 0) rfl <|
    am_iload_n d_Model_truly_115 rfl (i := 1) rfl <|
    am_iload d_Model_truly_116 rfl <|
    am_callV (vs := [.int x1, .int x10]) (st := [.long x7]) (k := 0) (ci := 10) rfl d_Model_truly_118 rfl rfl w_1675 w_1677 w_67 w_94 w_1678 p_Model_isThree (Nat.le_of_ble_eq_true rfl) (Nat.le_of_ble_eq_true rfl) rfl k
theorem b_Model_truly_121 {d : Nat} {x1 : Int32} {x2 : Int32} {x3 : Int32} {x4 : Int64} {x6 : Int32} {x7 : Int64} {x9 : Int32} {x10 : Int32} {y1 : Bool} {y0 : Int64} {h : am_H} {Q : am_Q} (kt : (am_b y1) = 0 → am_W (X_Model_truly d) 137 [some (.ref 0), some (.int x1), some (.int x2), some (.int x3), some (.long x4), none, some (.int x6), some (.long x7), none, some (.int x9), some (.int x10)] [.long y0] h Q) (kf : ¬ (am_b y1) = 0 → am_W (X_Model_truly d) 124 [some (.ref 0), some (.int x1), some (.int x2), some (.int x3), some (.long x4), none, some (.int x6), some (.long x7), none, some (.int x9), some (.int x10)] [.long y0] h Q) : am_W (X_Model_truly d) 121 [some (.ref 0), some (.int x1), some (.int x2), some (.int x3), some (.long x4), none, some (.int x6), some (.long x7), none, some (.int x9), some (.int x10)] [.int (am_b y1), .long y0] h Q :=
  am_if_eq (tgt := 137) d_Model_truly_121 (by decide) kt kf
theorem b_Model_truly_124 {d : Nat} {x1 : Int32} {x2 : Int32} {x3 : Int32} {x4 : Int64} {x6 : Int32} {x7 : Int64} {x9 : Int32} {x10 : Int32} {y0 : Int64} {h : am_H} {Q : am_Q} (k : m_Model_waysOf d [.ref 0, .int x1, .int x10, .int x6] h (fun r hh => am_W (X_Model_truly (d + 1)) 133 [some (.ref 0), some (.int x1), some (.int x2), some (.int x3), some (.long x4), none, some (.int x6), some (.long x7), none, some (.int x9), some (.int x10)] (r.toList ++ [.long y0]) hh Q)) : am_W (X_Model_truly (d + 1)) 124 [some (.ref 0), some (.int x1), some (.int x2), some (.int x3), some (.long x4), none, some (.int x6), some (.long x7), none, some (.int x9), some (.int x10)] [.long y0] h Q :=
  am_aload_n d_Model_truly_124 rfl (i := 0) rfl <|
    am_iload_n d_Model_truly_125 rfl (i := 1) rfl <|
    am_iload d_Model_truly_126 rfl <|
    am_iload d_Model_truly_128 rfl <|
    am_callV (vs := [.int x1, .int x10, .int x6]) (st := [.long y0]) (k := 0) (ci := 10) rfl d_Model_truly_130 rfl rfl w_1683 w_1685 w_69 w_94 w_1686 p_Model_waysOf (Nat.le_of_ble_eq_true rfl) (Nat.le_of_ble_eq_true rfl) rfl k
theorem b_Model_truly_133 {d : Nat} {x1 : Int32} {x2 : Int32} {x3 : Int32} {x4 : Int64} {x6 : Int32} {x7 : Int64} {x9 : Int32} {x10 : Int32} {y1 : Int32} {y0 : Int64} {h : am_H} {Q : am_Q} (k : am_W (X_Model_truly d) 138 [some (.ref 0), some (.int x1), some (.int x2), some (.int x3), some (.long x4), none, some (.int x6), some (.long x7), none, some (.int x9), some (.int x10)] [.long y1.toInt64, .long y0] h Q) : am_W (X_Model_truly d) 133 [some (.ref 0), some (.int x1), some (.int x2), some (.int x3), some (.long x4), none, some (.int x6), some (.long x7), none, some (.int x9), some (.int x10)] [.int y1, .long y0] h Q :=
  am_i2l d_Model_truly_133 <|
    am_goto (tgt := 138) d_Model_truly_134 (by decide) k
theorem b_Model_truly_137 {d : Nat} {x1 : Int32} {x2 : Int32} {x3 : Int32} {x4 : Int64} {x6 : Int32} {x7 : Int64} {x9 : Int32} {x10 : Int32} {y0 : Int64} {h : am_H} {Q : am_Q} (k : am_W (X_Model_truly d) 138 [some (.ref 0), some (.int x1), some (.int x2), some (.int x3), some (.long x4), none, some (.int x6), some (.long x7), none, some (.int x9), some (.int x10)] [.long 0, .long y0] h Q) : am_W (X_Model_truly d) 137 [some (.ref 0), some (.int x1), some (.int x2), some (.int x3), some (.long x4), none, some (.int x6), some (.long x7), none, some (.int x9), some (.int x10)] [.long y0] h Q :=
  am_lconst (v := 0) d_Model_truly_137 (by decide) <|
    k
theorem b_Model_truly_138 {d : Nat} {x1 : Int32} {x2 : Int32} {x3 : Int32} {x4 : Int64} {x6 : Int32} {x7 : Int64} {x9 : Int32} {x10 : Int32} {y1 : Int64} {y0 : Int64} {h : am_H} {Q : am_Q} (k : am_W (X_Model_truly d) 141 [some (.ref 0), some (.int x1), some (.int x2), some (.int x3), some (.long x4), none, some (.int x6), some (.long (y0 * y1)), none, some (.int x9), some (.int x10)] [] h Q) : am_W (X_Model_truly d) 138 [some (.ref 0), some (.int x1), some (.int x2), some (.int x3), some (.long x4), none, some (.int x6), some (.long x7), none, some (.int x9), some (.int x10)] [.long y1, .long y0] h Q :=
  am_lmul d_Model_truly_138 <|
    am_lstore (ls' := [some (.ref 0), some (.int x1), some (.int x2), some (.int x3), some (.long x4), none, some (.int x6), some (.long (y0 * y1)), none, some (.int x9), some (.int x10)]) d_Model_truly_139 (Nat.le_of_ble_eq_true rfl) rfl <|
    k
theorem b_Model_truly_141 {d : Nat} {x1 : Int32} {x2 : Int32} {x3 : Int32} {x4 : Int64} {x6 : Int32} {x7 : Int64} {x9 : Int32} {x10 : Int32} {h : am_H} {Q : am_Q} (k : am_W (X_Model_truly d) 59 [some (.ref 0), some (.int x1), some (.int x2), some (.int x3), some (.long x4), none, some (.int x6), some (.long x7), none, some (.int x9), some (.int (x10 + 1))] [] h Q) : am_W (X_Model_truly d) 141 [some (.ref 0), some (.int x1), some (.int x2), some (.int x3), some (.long x4), none, some (.int x6), some (.long x7), none, some (.int x9), some (.int x10)] [] h Q :=
  am_iinc (v := (x10 + 1)) (ls' := [some (.ref 0), some (.int x1), some (.int x2), some (.int x3), some (.long x4), none, some (.int x6), some (.long x7), none, some (.int x9), some (.int (x10 + 1))]) d_Model_truly_141 rfl rfl (Nat.le_of_ble_eq_true rfl) rfl <|
    am_goto (tgt := 59) d_Model_truly_144 (by decide) k
theorem b_Model_truly_147 {d : Nat} {x1 : Int32} {x2 : Int32} {x3 : Int32} {x4 : Int64} {x6 : Int32} {x7 : Int64} {x9 : Int32} {x10 : Int32} {h : am_H} {Q : am_Q} (kt : x9 = 0 → am_W (X_Model_truly d) 167 [some (.ref 0), some (.int x1), some (.int x2), some (.int x3), some (.long x4), none, some (.int x6), some (.long x7), none, some (.int x9), some (.int x10)] [] h Q) (kf : ¬ x9 = 0 → am_W (X_Model_truly d) 152 [some (.ref 0), some (.int x1), some (.int x2), some (.int x3), some (.long x4), none, some (.int x6), some (.long x7), none, some (.int x9), some (.int x10)] [] h Q) : am_W (X_Model_truly d) 147 [some (.ref 0), some (.int x1), some (.int x2), some (.int x3), some (.long x4), none, some (.int x6), some (.long x7), none, some (.int x9), some (.int x10)] [] h Q :=
  am_iload d_Model_truly_147 rfl <|
    am_if_eq (tgt := 167) d_Model_truly_149 (by decide) kt kf
theorem b_Model_truly_152 {d : Nat} {x1 : Int32} {x2 : Int32} {x3 : Int32} {x4 : Int64} {x6 : Int32} {x7 : Int64} {x9 : Int32} {x10 : Int32} {h : am_H} {Q : am_Q} (kt : x7 ≤ x4 → am_W (X_Model_truly d) 167 [some (.ref 0), some (.int x1), some (.int x2), some (.int x3), some (.long x4), none, some (.int x6), some (.long x7), none, some (.int x9), some (.int x10)] [] h Q) (kf : ¬ x7 ≤ x4 → am_W (X_Model_truly d) 160 [some (.ref 0), some (.int x1), some (.int x2), some (.int x3), some (.long x4), none, some (.int x6), some (.long x7), none, some (.int x9), some (.int x10)] [] h Q) : am_W (X_Model_truly d) 152 [some (.ref 0), some (.int x1), some (.int x2), some (.int x3), some (.long x4), none, some (.int x6), some (.long x7), none, some (.int x9), some (.int x10)] [] h Q :=
  am_lload d_Model_truly_152 rfl <|
    am_lload d_Model_truly_154 rfl <|
    am_lc_if_le (tgt := 167) d_Model_truly_156 d_Model_truly_157 (by decide) kt kf
theorem b_Model_truly_160 {d : Nat} {x1 : Int32} {x2 : Int32} {x3 : Int32} {x4 : Int64} {x6 : Int32} {x7 : Int64} {x9 : Int32} {x10 : Int32} {h : am_H} {Q : am_Q} (k : am_W (X_Model_truly d) 167 [some (.ref 0), some (.int x1), some (.int x2), some (.int x6), some (.long x7), none, some (.int x6), some (.long x7), none, some (.int x9), some (.int x10)] [] h Q) : am_W (X_Model_truly d) 160 [some (.ref 0), some (.int x1), some (.int x2), some (.int x3), some (.long x4), none, some (.int x6), some (.long x7), none, some (.int x9), some (.int x10)] [] h Q :=
  am_iload d_Model_truly_160 rfl <|
    am_istore_n (ls' := [some (.ref 0), some (.int x1), some (.int x2), some (.int x6), some (.long x4), none, some (.int x6), some (.long x7), none, some (.int x9), some (.int x10)]) d_Model_truly_162 rfl (Nat.le_of_ble_eq_true rfl) rfl <|
    am_lload d_Model_truly_163 rfl <|
    am_lstore (ls' := [some (.ref 0), some (.int x1), some (.int x2), some (.int x6), some (.long x7), none, some (.int x6), some (.long x7), none, some (.int x9), some (.int x10)]) d_Model_truly_165 (Nat.le_of_ble_eq_true rfl) rfl <|
    k
theorem b_Model_truly_167 {d : Nat} {x1 : Int32} {x2 : Int32} {x3 : Int32} {x4 : Int64} {x6 : Int32} {x7 : Int64} {x9 : Int32} {x10 : Int32} {h : am_H} {Q : am_Q} (k : am_W (X_Model_truly d) 43 [some (.ref 0), some (.int x1), some (.int x2), some (.int x3), some (.long x4), none, some (.int (x6 + 1)), some (.long x7), none, some (.int x9), some (.int x10)] [] h Q) : am_W (X_Model_truly d) 167 [some (.ref 0), some (.int x1), some (.int x2), some (.int x3), some (.long x4), none, some (.int x6), some (.long x7), none, some (.int x9), some (.int x10)] [] h Q :=
  am_iinc (v := (x6 + 1)) (ls' := [some (.ref 0), some (.int x1), some (.int x2), some (.int x3), some (.long x4), none, some (.int (x6 + 1)), some (.long x7), none, some (.int x9), some (.int x10)]) d_Model_truly_167 rfl rfl (Nat.le_of_ble_eq_true rfl) rfl <|
    am_goto (tgt := 43) d_Model_truly_170 (by decide) k
theorem b_Model_truly_173 {d : Nat} {x1 : Int32} {x2 : Int32} {x3 : Int32} {x4 : Int64} {x6 : Int32} {h : am_H} {Q : am_Q} (q : Q (some (.int x3)) h) : am_W (X_Model_truly d) 173 [some (.ref 0), some (.int x1), some (.int x2), some (.int x3), some (.long x4), none, some (.int x6), none, none, none, none] [] h Q :=
  am_iload_n d_Model_truly_173 rfl (i := 3) rfl <|
    am_iret rfl d_Model_truly_174 q
theorem t_Model_truly_18 {d : Nat} {x1 : Int32} {x2 : Int32} {h : am_H} {Q : am_Q} {res : Int32} (e : f_Model_truly_18 h = some res) (q : Q (some (.int res)) h) : am_W (X_Model_truly (d + 4)) 18 [some (.ref 0), some (.int x1), some (.int x2), none, none, none, none, none, none, none, none] [] h Q :=
  b_Model_truly_18 (d := (d + 4)) (q := (am_rIp (v := (-1)) e q))
theorem t_Model_truly_173 {d : Nat} {x1 : Int32} {x2 : Int32} {x3 : Int32} {x4 : Int64} {x6 : Int32} {h : am_H} {Q : am_Q} {res : Int32} (e : f_Model_truly_173 h x3 = some res) (q : Q (some (.int res)) h) : am_W (X_Model_truly (d + 4)) 173 [some (.ref 0), some (.int x1), some (.int x2), some (.int x3), some (.long x4), none, some (.int x6), none, none, none, none] [] h Q :=
  b_Model_truly_173 (d := (d + 4)) (q := (am_rIp (v := x3) e q))
theorem t_Model_truly_167 {d : Nat} {k43 : Int32 → Int32 → Int32 → Int64 → Int32 → Option (Int32)} {x1 : Int32} {x2 : Int32} {x3 : Int32} {x4 : Int64} {x6 : Int32} {x7 : Int64} {x9 : Int32} {x10 : Int32} {h : am_H} {Q : am_Q} {res : Int32} (hk43 : ∀ (x1 : Int32) (x2 : Int32) (x3 : Int32) (x4 : Int64) (x6 : Int32), k43 x1 x2 x3 x4 x6 = some res → am_W (X_Model_truly (d + 4)) 43 [some (.ref 0), some (.int x1), some (.int x2), some (.int x3), some (.long x4), none, some (.int x6), none, none, none, none] [] h Q) (e : f_Model_truly_167 k43 h x1 x2 x3 x4 x6 = some res) (q : Q (some (.int res)) h) : am_W (X_Model_truly (d + 4)) 167 [some (.ref 0), some (.int x1), some (.int x2), some (.int x3), some (.long x4), none, some (.int x6), some (.long x7), none, some (.int x9), some (.int x10)] [] h Q :=
  b_Model_truly_167 (d := (d + 4)) (k := (am_wk2 (hk43 _ _ _ _ _ e) ⟨rfl, ⟨rfl, ⟨rfl, ⟨rfl, ⟨rfl, ⟨rfl, trivial⟩⟩⟩⟩⟩⟩))
theorem t_Model_truly_160 {d : Nat} {k43 : Int32 → Int32 → Int32 → Int64 → Int32 → Option (Int32)} {x1 : Int32} {x2 : Int32} {x3 : Int32} {x4 : Int64} {x6 : Int32} {x7 : Int64} {x9 : Int32} {x10 : Int32} {h : am_H} {Q : am_Q} {res : Int32} (hk43 : ∀ (x1 : Int32) (x2 : Int32) (x3 : Int32) (x4 : Int64) (x6 : Int32), k43 x1 x2 x3 x4 x6 = some res → am_W (X_Model_truly (d + 4)) 43 [some (.ref 0), some (.int x1), some (.int x2), some (.int x3), some (.long x4), none, some (.int x6), none, none, none, none] [] h Q) (e : f_Model_truly_160 k43 h x1 x2 x6 x7 = some res) (q : Q (some (.int res)) h) : am_W (X_Model_truly (d + 4)) 160 [some (.ref 0), some (.int x1), some (.int x2), some (.int x3), some (.long x4), none, some (.int x6), some (.long x7), none, some (.int x9), some (.int x10)] [] h Q :=
  b_Model_truly_160 (d := (d + 4)) (k := (t_Model_truly_167 hk43 e q))
theorem t_Model_truly_152 {d : Nat} {k43 : Int32 → Int32 → Int32 → Int64 → Int32 → Option (Int32)} {x1 : Int32} {x2 : Int32} {x3 : Int32} {x4 : Int64} {x6 : Int32} {x7 : Int64} {x9 : Int32} {x10 : Int32} {h : am_H} {Q : am_Q} {res : Int32} (hk43 : ∀ (x1 : Int32) (x2 : Int32) (x3 : Int32) (x4 : Int64) (x6 : Int32), k43 x1 x2 x3 x4 x6 = some res → am_W (X_Model_truly (d + 4)) 43 [some (.ref 0), some (.int x1), some (.int x2), some (.int x3), some (.long x4), none, some (.int x6), none, none, none, none] [] h Q) (e : f_Model_truly_152 k43 h x1 x2 x3 x4 x6 x7 = some res) (q : Q (some (.int res)) h) : am_W (X_Model_truly (d + 4)) 152 [some (.ref 0), some (.int x1), some (.int x2), some (.int x3), some (.long x4), none, some (.int x6), some (.long x7), none, some (.int x9), some (.int x10)] [] h Q :=
  b_Model_truly_152 (d := (d + 4)) (kt := fun c => (t_Model_truly_167 hk43 (am_ift e c) q)) (kf := fun c => (t_Model_truly_160 hk43 (am_ife e c) q))
theorem t_Model_truly_147 {d : Nat} {k43 : Int32 → Int32 → Int32 → Int64 → Int32 → Option (Int32)} {x1 : Int32} {x2 : Int32} {x3 : Int32} {x4 : Int64} {x6 : Int32} {x7 : Int64} {x9 : Int32} {x10 : Int32} {h : am_H} {Q : am_Q} {res : Int32} (hk43 : ∀ (x1 : Int32) (x2 : Int32) (x3 : Int32) (x4 : Int64) (x6 : Int32), k43 x1 x2 x3 x4 x6 = some res → am_W (X_Model_truly (d + 4)) 43 [some (.ref 0), some (.int x1), some (.int x2), some (.int x3), some (.long x4), none, some (.int x6), none, none, none, none] [] h Q) (e : f_Model_truly_147 k43 h x1 x2 x3 x4 x6 x7 x9 = some res) (q : Q (some (.int res)) h) : am_W (X_Model_truly (d + 4)) 147 [some (.ref 0), some (.int x1), some (.int x2), some (.int x3), some (.long x4), none, some (.int x6), some (.long x7), none, some (.int x9), some (.int x10)] [] h Q :=
  b_Model_truly_147 (d := (d + 4)) (kt := fun c => (t_Model_truly_167 hk43 (am_ift e c) q)) (kf := fun c => (t_Model_truly_152 hk43 (am_ife e c) q))
theorem t_Model_truly_141 {d : Nat} {k43 : Int32 → Int32 → Int32 → Int64 → Int32 → Option (Int32)} {k59 : Int32 → Int32 → Int32 → Int64 → Int32 → Int64 → Int32 → Int32 → Option (Int32)} {x1 : Int32} {x2 : Int32} {x3 : Int32} {x4 : Int64} {x6 : Int32} {x7 : Int64} {x9 : Int32} {x10 : Int32} {h : am_H} {Q : am_Q} {res : Int32} (hk43 : ∀ (x1 : Int32) (x2 : Int32) (x3 : Int32) (x4 : Int64) (x6 : Int32), k43 x1 x2 x3 x4 x6 = some res → am_W (X_Model_truly (d + 4)) 43 [some (.ref 0), some (.int x1), some (.int x2), some (.int x3), some (.long x4), none, some (.int x6), none, none, none, none] [] h Q) (hk59 : ∀ (x1 : Int32) (x2 : Int32) (x3 : Int32) (x4 : Int64) (x6 : Int32) (x7 : Int64) (x9 : Int32) (x10 : Int32), k59 x1 x2 x3 x4 x6 x7 x9 x10 = some res → am_W (X_Model_truly (d + 4)) 59 [some (.ref 0), some (.int x1), some (.int x2), some (.int x3), some (.long x4), none, some (.int x6), some (.long x7), none, some (.int x9), some (.int x10)] [] h Q) (e : f_Model_truly_141 k43 k59 h x1 x2 x3 x4 x6 x7 x9 x10 = some res) (q : Q (some (.int res)) h) : am_W (X_Model_truly (d + 4)) 141 [some (.ref 0), some (.int x1), some (.int x2), some (.int x3), some (.long x4), none, some (.int x6), some (.long x7), none, some (.int x9), some (.int x10)] [] h Q :=
  b_Model_truly_141 (d := (d + 4)) (k := (hk59 _ _ _ _ _ _ _ _ e))
theorem t_Model_truly_138 {d : Nat} {k43 : Int32 → Int32 → Int32 → Int64 → Int32 → Option (Int32)} {k59 : Int32 → Int32 → Int32 → Int64 → Int32 → Int64 → Int32 → Int32 → Option (Int32)} {x1 : Int32} {x2 : Int32} {x3 : Int32} {x4 : Int64} {x6 : Int32} {x7 : Int64} {x9 : Int32} {x10 : Int32} {y1 : Int64} {y0 : Int64} {h : am_H} {Q : am_Q} {res : Int32} (hk43 : ∀ (x1 : Int32) (x2 : Int32) (x3 : Int32) (x4 : Int64) (x6 : Int32), k43 x1 x2 x3 x4 x6 = some res → am_W (X_Model_truly (d + 4)) 43 [some (.ref 0), some (.int x1), some (.int x2), some (.int x3), some (.long x4), none, some (.int x6), none, none, none, none] [] h Q) (hk59 : ∀ (x1 : Int32) (x2 : Int32) (x3 : Int32) (x4 : Int64) (x6 : Int32) (x7 : Int64) (x9 : Int32) (x10 : Int32), k59 x1 x2 x3 x4 x6 x7 x9 x10 = some res → am_W (X_Model_truly (d + 4)) 59 [some (.ref 0), some (.int x1), some (.int x2), some (.int x3), some (.long x4), none, some (.int x6), some (.long x7), none, some (.int x9), some (.int x10)] [] h Q) (e : f_Model_truly_138 k43 k59 h x1 x2 x3 x4 x6 x9 x10 y1 y0 = some res) (q : Q (some (.int res)) h) : am_W (X_Model_truly (d + 4)) 138 [some (.ref 0), some (.int x1), some (.int x2), some (.int x3), some (.long x4), none, some (.int x6), some (.long x7), none, some (.int x9), some (.int x10)] [.long y1, .long y0] h Q :=
  b_Model_truly_138 (d := (d + 4)) (k := (t_Model_truly_141 hk43 hk59 e q))
theorem t_Model_truly_137 {d : Nat} {k43 : Int32 → Int32 → Int32 → Int64 → Int32 → Option (Int32)} {k59 : Int32 → Int32 → Int32 → Int64 → Int32 → Int64 → Int32 → Int32 → Option (Int32)} {x1 : Int32} {x2 : Int32} {x3 : Int32} {x4 : Int64} {x6 : Int32} {x7 : Int64} {x9 : Int32} {x10 : Int32} {y0 : Int64} {h : am_H} {Q : am_Q} {res : Int32} (hk43 : ∀ (x1 : Int32) (x2 : Int32) (x3 : Int32) (x4 : Int64) (x6 : Int32), k43 x1 x2 x3 x4 x6 = some res → am_W (X_Model_truly (d + 4)) 43 [some (.ref 0), some (.int x1), some (.int x2), some (.int x3), some (.long x4), none, some (.int x6), none, none, none, none] [] h Q) (hk59 : ∀ (x1 : Int32) (x2 : Int32) (x3 : Int32) (x4 : Int64) (x6 : Int32) (x7 : Int64) (x9 : Int32) (x10 : Int32), k59 x1 x2 x3 x4 x6 x7 x9 x10 = some res → am_W (X_Model_truly (d + 4)) 59 [some (.ref 0), some (.int x1), some (.int x2), some (.int x3), some (.long x4), none, some (.int x6), some (.long x7), none, some (.int x9), some (.int x10)] [] h Q) (e : f_Model_truly_137 k43 k59 h x1 x2 x3 x4 x6 x9 x10 y0 = some res) (q : Q (some (.int res)) h) : am_W (X_Model_truly (d + 4)) 137 [some (.ref 0), some (.int x1), some (.int x2), some (.int x3), some (.long x4), none, some (.int x6), some (.long x7), none, some (.int x9), some (.int x10)] [.long y0] h Q :=
  b_Model_truly_137 (d := (d + 4)) (k := (t_Model_truly_138 hk43 hk59 e q))
theorem t_Model_truly_133 {d : Nat} {k43 : Int32 → Int32 → Int32 → Int64 → Int32 → Option (Int32)} {k59 : Int32 → Int32 → Int32 → Int64 → Int32 → Int64 → Int32 → Int32 → Option (Int32)} {x1 : Int32} {x2 : Int32} {x3 : Int32} {x4 : Int64} {x6 : Int32} {x7 : Int64} {x9 : Int32} {x10 : Int32} {y1 : Int32} {y0 : Int64} {h : am_H} {Q : am_Q} {res : Int32} (hk43 : ∀ (x1 : Int32) (x2 : Int32) (x3 : Int32) (x4 : Int64) (x6 : Int32), k43 x1 x2 x3 x4 x6 = some res → am_W (X_Model_truly (d + 4)) 43 [some (.ref 0), some (.int x1), some (.int x2), some (.int x3), some (.long x4), none, some (.int x6), none, none, none, none] [] h Q) (hk59 : ∀ (x1 : Int32) (x2 : Int32) (x3 : Int32) (x4 : Int64) (x6 : Int32) (x7 : Int64) (x9 : Int32) (x10 : Int32), k59 x1 x2 x3 x4 x6 x7 x9 x10 = some res → am_W (X_Model_truly (d + 4)) 59 [some (.ref 0), some (.int x1), some (.int x2), some (.int x3), some (.long x4), none, some (.int x6), some (.long x7), none, some (.int x9), some (.int x10)] [] h Q) (e : f_Model_truly_133 k43 k59 h x1 x2 x3 x4 x6 x9 x10 y1 y0 = some res) (q : Q (some (.int res)) h) : am_W (X_Model_truly (d + 4)) 133 [some (.ref 0), some (.int x1), some (.int x2), some (.int x3), some (.long x4), none, some (.int x6), some (.long x7), none, some (.int x9), some (.int x10)] [.int y1, .long y0] h Q :=
  b_Model_truly_133 (d := (d + 4)) (k := (t_Model_truly_138 hk43 hk59 e q))
theorem t_Model_truly_124 {d : Nat} {k43 : Int32 → Int32 → Int32 → Int64 → Int32 → Option (Int32)} {k59 : Int32 → Int32 → Int32 → Int64 → Int32 → Int64 → Int32 → Int32 → Option (Int32)} {x1 : Int32} {x2 : Int32} {x3 : Int32} {x4 : Int64} {x6 : Int32} {x7 : Int64} {x9 : Int32} {x10 : Int32} {y0 : Int64} {h : am_H} {Q : am_Q} {res : Int32} (hk43 : ∀ (x1 : Int32) (x2 : Int32) (x3 : Int32) (x4 : Int64) (x6 : Int32), k43 x1 x2 x3 x4 x6 = some res → am_W (X_Model_truly (d + 4)) 43 [some (.ref 0), some (.int x1), some (.int x2), some (.int x3), some (.long x4), none, some (.int x6), none, none, none, none] [] h Q) (hk59 : ∀ (x1 : Int32) (x2 : Int32) (x3 : Int32) (x4 : Int64) (x6 : Int32) (x7 : Int64) (x9 : Int32) (x10 : Int32), k59 x1 x2 x3 x4 x6 x7 x9 x10 = some res → am_W (X_Model_truly (d + 4)) 59 [some (.ref 0), some (.int x1), some (.int x2), some (.int x3), some (.long x4), none, some (.int x6), some (.long x7), none, some (.int x9), some (.int x10)] [] h Q) (e : f_Model_truly_124 k43 k59 h x1 x2 x3 x4 x6 x9 x10 y0 = some res) (q : Q (some (.int res)) h) : am_W (X_Model_truly (d + 4)) 124 [some (.ref 0), some (.int x1), some (.int x2), some (.int x3), some (.long x4), none, some (.int x6), some (.long x7), none, some (.int x9), some (.int x10)] [.long y0] h Q :=
  (am_bd e).elim fun p hp => b_Model_truly_124 (d := (d + 3)) (k := c_Model_waysOf (d := d) hp.1 (t_Model_truly_133 hk43 hk59 hp.2 q))
theorem t_Model_truly_121 {d : Nat} {k43 : Int32 → Int32 → Int32 → Int64 → Int32 → Option (Int32)} {k59 : Int32 → Int32 → Int32 → Int64 → Int32 → Int64 → Int32 → Int32 → Option (Int32)} {x1 : Int32} {x2 : Int32} {x3 : Int32} {x4 : Int64} {x6 : Int32} {x7 : Int64} {x9 : Int32} {x10 : Int32} {y1 : Bool} {y0 : Int64} {h : am_H} {Q : am_Q} {res : Int32} (hk43 : ∀ (x1 : Int32) (x2 : Int32) (x3 : Int32) (x4 : Int64) (x6 : Int32), k43 x1 x2 x3 x4 x6 = some res → am_W (X_Model_truly (d + 4)) 43 [some (.ref 0), some (.int x1), some (.int x2), some (.int x3), some (.long x4), none, some (.int x6), none, none, none, none] [] h Q) (hk59 : ∀ (x1 : Int32) (x2 : Int32) (x3 : Int32) (x4 : Int64) (x6 : Int32) (x7 : Int64) (x9 : Int32) (x10 : Int32), k59 x1 x2 x3 x4 x6 x7 x9 x10 = some res → am_W (X_Model_truly (d + 4)) 59 [some (.ref 0), some (.int x1), some (.int x2), some (.int x3), some (.long x4), none, some (.int x6), some (.long x7), none, some (.int x9), some (.int x10)] [] h Q) (e : f_Model_truly_121 k43 k59 h x1 x2 x3 x4 x6 x9 x10 y1 y0 = some res) (q : Q (some (.int res)) h) : am_W (X_Model_truly (d + 4)) 121 [some (.ref 0), some (.int x1), some (.int x2), some (.int x3), some (.long x4), none, some (.int x6), some (.long x7), none, some (.int x9), some (.int x10)] [.int (am_b y1), .long y0] h Q :=
  b_Model_truly_121 (d := (d + 4)) (kt := fun c => (t_Model_truly_137 hk43 hk59 (am_iff e (am_bz c)) q)) (kf := fun c => (t_Model_truly_124 hk43 hk59 (am_ift e (am_bn c)) q))
theorem t_Model_truly_109 {d : Nat} {k43 : Int32 → Int32 → Int32 → Int64 → Int32 → Option (Int32)} {k59 : Int32 → Int32 → Int32 → Int64 → Int32 → Int64 → Int32 → Int32 → Option (Int32)} {x1 : Int32} {x2 : Int32} {x3 : Int32} {x4 : Int64} {x6 : Int32} {x7 : Int64} {x9 : Int32} {x10 : Int32} {h : am_H} {Q : am_Q} {res : Int32} (hk43 : ∀ (x1 : Int32) (x2 : Int32) (x3 : Int32) (x4 : Int64) (x6 : Int32), k43 x1 x2 x3 x4 x6 = some res → am_W (X_Model_truly (d + 4)) 43 [some (.ref 0), some (.int x1), some (.int x2), some (.int x3), some (.long x4), none, some (.int x6), none, none, none, none] [] h Q) (hk59 : ∀ (x1 : Int32) (x2 : Int32) (x3 : Int32) (x4 : Int64) (x6 : Int32) (x7 : Int64) (x9 : Int32) (x10 : Int32), k59 x1 x2 x3 x4 x6 x7 x9 x10 = some res → am_W (X_Model_truly (d + 4)) 59 [some (.ref 0), some (.int x1), some (.int x2), some (.int x3), some (.long x4), none, some (.int x6), some (.long x7), none, some (.int x9), some (.int x10)] [] h Q) (e : f_Model_truly_109 k43 k59 h x1 x2 x3 x4 x6 x7 x10 = some res) (q : Q (some (.int res)) h) : am_W (X_Model_truly (d + 4)) 109 [some (.ref 0), some (.int x1), some (.int x2), some (.int x3), some (.long x4), none, some (.int x6), some (.long x7), none, some (.int x9), some (.int x10)] [] h Q :=
  (am_bd e).elim fun p hp => b_Model_truly_109 (d := (d + 3)) (k := c_Model_isThree (d := d + 1) hp.1 (t_Model_truly_121 hk43 hk59 hp.2 q))
theorem t_Model_truly_87 {d : Nat} {k43 : Int32 → Int32 → Int32 → Int64 → Int32 → Option (Int32)} {k59 : Int32 → Int32 → Int32 → Int64 → Int32 → Int64 → Int32 → Int32 → Option (Int32)} {x1 : Int32} {x2 : Int32} {x3 : Int32} {x4 : Int64} {x6 : Int32} {x7 : Int64} {x9 : Int32} {x10 : Int32} {h : am_H} {Q : am_Q} {res : Int32} (hk43 : ∀ (x1 : Int32) (x2 : Int32) (x3 : Int32) (x4 : Int64) (x6 : Int32), k43 x1 x2 x3 x4 x6 = some res → am_W (X_Model_truly (d + 4)) 43 [some (.ref 0), some (.int x1), some (.int x2), some (.int x3), some (.long x4), none, some (.int x6), none, none, none, none] [] h Q) (hk59 : ∀ (x1 : Int32) (x2 : Int32) (x3 : Int32) (x4 : Int64) (x6 : Int32) (x7 : Int64) (x9 : Int32) (x10 : Int32), k59 x1 x2 x3 x4 x6 x7 x9 x10 = some res → am_W (X_Model_truly (d + 4)) 59 [some (.ref 0), some (.int x1), some (.int x2), some (.int x3), some (.long x4), none, some (.int x6), some (.long x7), none, some (.int x9), some (.int x10)] [] h Q) (e : f_Model_truly_87 k43 k59 h x1 x2 x3 x4 x6 x7 x9 x10 = some res) (q : Q (some (.int res)) h) : am_W (X_Model_truly (d + 4)) 87 [some (.ref 0), some (.int x1), some (.int x2), some (.int x3), some (.long x4), none, some (.int x6), some (.long x7), none, some (.int x9), some (.int x10)] [] h Q :=
  b_Model_truly_87 (d := (d + 4)) (q0 := (am_okv (am_gd e))) (kt := fun c => (t_Model_truly_141 hk43 hk59 (am_ife (am_ga e) c) q)) (kf := fun c => (t_Model_truly_109 hk43 hk59 (am_ift (am_ga e) c) q))
theorem t_Model_truly_72 {d : Nat} {k43 : Int32 → Int32 → Int32 → Int64 → Int32 → Option (Int32)} {k59 : Int32 → Int32 → Int32 → Int64 → Int32 → Int64 → Int32 → Int32 → Option (Int32)} {x1 : Int32} {x2 : Int32} {x3 : Int32} {x4 : Int64} {x6 : Int32} {x7 : Int64} {x9 : Int32} {x10 : Int32} {h : am_H} {Q : am_Q} {res : Int32} (hk43 : ∀ (x1 : Int32) (x2 : Int32) (x3 : Int32) (x4 : Int64) (x6 : Int32), k43 x1 x2 x3 x4 x6 = some res → am_W (X_Model_truly (d + 4)) 43 [some (.ref 0), some (.int x1), some (.int x2), some (.int x3), some (.long x4), none, some (.int x6), none, none, none, none] [] h Q) (hk59 : ∀ (x1 : Int32) (x2 : Int32) (x3 : Int32) (x4 : Int64) (x6 : Int32) (x7 : Int64) (x9 : Int32) (x10 : Int32), k59 x1 x2 x3 x4 x6 x7 x9 x10 = some res → am_W (X_Model_truly (d + 4)) 59 [some (.ref 0), some (.int x1), some (.int x2), some (.int x3), some (.long x4), none, some (.int x6), some (.long x7), none, some (.int x9), some (.int x10)] [] h Q) (e : f_Model_truly_72 k43 k59 h x1 x2 x3 x4 x6 x7 x9 x10 = some res) (q : Q (some (.int res)) h) : am_W (X_Model_truly (d + 4)) 72 [some (.ref 0), some (.int x1), some (.int x2), some (.int x3), some (.long x4), none, some (.int x6), some (.long x7), none, some (.int x9), some (.int x10)] [] h Q :=
  b_Model_truly_72 (d := (d + 4)) (q0 := (am_okv (am_gd e))) (kt := fun c => (t_Model_truly_141 hk43 hk59 (am_ift (am_ga e) c) q)) (kf := fun c => (t_Model_truly_87 hk43 hk59 (am_ife (am_ga e) c) q))
theorem t_Model_truly_59 {d : Nat} {k43 : Int32 → Int32 → Int32 → Int64 → Int32 → Option (Int32)} {k59 : Int32 → Int32 → Int32 → Int64 → Int32 → Int64 → Int32 → Int32 → Option (Int32)} {x1 : Int32} {x2 : Int32} {x3 : Int32} {x4 : Int64} {x6 : Int32} {x7 : Int64} {x9 : Int32} {x10 : Int32} {h : am_H} {Q : am_Q} {res : Int32} (hk43 : ∀ (x1 : Int32) (x2 : Int32) (x3 : Int32) (x4 : Int64) (x6 : Int32), k43 x1 x2 x3 x4 x6 = some res → am_W (X_Model_truly (d + 4)) 43 [some (.ref 0), some (.int x1), some (.int x2), some (.int x3), some (.long x4), none, some (.int x6), none, none, none, none] [] h Q) (hk59 : ∀ (x1 : Int32) (x2 : Int32) (x3 : Int32) (x4 : Int64) (x6 : Int32) (x7 : Int64) (x9 : Int32) (x10 : Int32), k59 x1 x2 x3 x4 x6 x7 x9 x10 = some res → am_W (X_Model_truly (d + 4)) 59 [some (.ref 0), some (.int x1), some (.int x2), some (.int x3), some (.long x4), none, some (.int x6), some (.long x7), none, some (.int x9), some (.int x10)] [] h Q) (e : f_Model_truly_59 k43 k59 h x1 x2 x3 x4 x6 x7 x9 x10 = some res) (q : Q (some (.int res)) h) : am_W (X_Model_truly (d + 4)) 59 [some (.ref 0), some (.int x1), some (.int x2), some (.int x3), some (.long x4), none, some (.int x6), some (.long x7), none, some (.int x9), some (.int x10)] [] h Q :=
  b_Model_truly_59 (d := (d + 4)) (q0 := (am_okv (am_gd e))) (kt := fun c => (t_Model_truly_147 hk43 (am_ift (am_ga e) c) q)) (kf := fun c => (t_Model_truly_72 hk43 hk59 (am_ife (am_ga e) c) q))
theorem t_Model_truly_59_l {d : Nat} {k43 : Int32 → Int32 → Int32 → Int64 → Int32 → Option (Int32)} {h : am_H} {Q : am_Q} {res : Int32} (hk43 : ∀ (x1 : Int32) (x2 : Int32) (x3 : Int32) (x4 : Int64) (x6 : Int32), k43 x1 x2 x3 x4 x6 = some res → am_W (X_Model_truly (d + 4)) 43 [some (.ref 0), some (.int x1), some (.int x2), some (.int x3), some (.long x4), none, some (.int x6), none, none, none, none] [] h Q) (q : Q (some (.int res)) h) : ∀ (n : Nat) (x1 : Int32) (x2 : Int32) (x3 : Int32) (x4 : Int64) (x6 : Int32) (x7 : Int64) (x9 : Int32) (x10 : Int32), f_Model_truly_59_l k43 h n x1 x2 x3 x4 x6 x7 x9 x10 = some res → am_W (X_Model_truly (d + 4)) 59 [some (.ref 0), some (.int x1), some (.int x2), some (.int x3), some (.long x4), none, some (.int x6), some (.long x7), none, some (.int x9), some (.int x10)] [] h Q := by
  intro n
  induction n with
  | zero => intro x1 x2 x3 x4 x6 x7 x9 x10 e; exact am_nn e
  | succ n ih => intro x1 x2 x3 x4 x6 x7 x9 x10 e; exact t_Model_truly_59 hk43 (fun x1 x2 x3 x4 x6 x7 x9 x10 e => ih x1 x2 x3 x4 x6 x7 x9 x10  e) e q
theorem t_Model_truly_50 {d : Nat} {k43 : Int32 → Int32 → Int32 → Int64 → Int32 → Option (Int32)} {x1 : Int32} {x2 : Int32} {x3 : Int32} {x4 : Int64} {x6 : Int32} {h : am_H} {Q : am_Q} {res : Int32} (hk43 : ∀ (x1 : Int32) (x2 : Int32) (x3 : Int32) (x4 : Int64) (x6 : Int32), k43 x1 x2 x3 x4 x6 = some res → am_W (X_Model_truly (d + 4)) 43 [some (.ref 0), some (.int x1), some (.int x2), some (.int x3), some (.long x4), none, some (.int x6), none, none, none, none] [] h Q) (e : f_Model_truly_50 k43 h x1 x2 x3 x4 x6 = some res) (q : Q (some (.int res)) h) : am_W (X_Model_truly (d + 4)) 50 [some (.ref 0), some (.int x1), some (.int x2), some (.int x3), some (.long x4), none, some (.int x6), none, none, none, none] [] h Q :=
  b_Model_truly_50 (d := (d + 4)) (k := (t_Model_truly_59_l hk43 q am_fu _ _ _ _ _ _ _ _ e))
theorem t_Model_truly_43 {d : Nat} {k43 : Int32 → Int32 → Int32 → Int64 → Int32 → Option (Int32)} {x1 : Int32} {x2 : Int32} {x3 : Int32} {x4 : Int64} {x6 : Int32} {h : am_H} {Q : am_Q} {res : Int32} (hk43 : ∀ (x1 : Int32) (x2 : Int32) (x3 : Int32) (x4 : Int64) (x6 : Int32), k43 x1 x2 x3 x4 x6 = some res → am_W (X_Model_truly (d + 4)) 43 [some (.ref 0), some (.int x1), some (.int x2), some (.int x3), some (.long x4), none, some (.int x6), none, none, none, none] [] h Q) (e : f_Model_truly_43 k43 h x1 x2 x3 x4 x6 = some res) (q : Q (some (.int res)) h) : am_W (X_Model_truly (d + 4)) 43 [some (.ref 0), some (.int x1), some (.int x2), some (.int x3), some (.long x4), none, some (.int x6), none, none, none, none] [] h Q :=
  b_Model_truly_43 (d := (d + 4)) (kt := fun c => (t_Model_truly_173 (am_ift e c) q)) (kf := fun c => (t_Model_truly_50 hk43 (am_ife e c) q))
theorem t_Model_truly_43_l {d : Nat} {h : am_H} {Q : am_Q} {res : Int32} (q : Q (some (.int res)) h) : ∀ (n : Nat) (x1 : Int32) (x2 : Int32) (x3 : Int32) (x4 : Int64) (x6 : Int32), f_Model_truly_43_l h n x1 x2 x3 x4 x6 = some res → am_W (X_Model_truly (d + 4)) 43 [some (.ref 0), some (.int x1), some (.int x2), some (.int x3), some (.long x4), none, some (.int x6), none, none, none, none] [] h Q := by
  intro n
  induction n with
  | zero => intro x1 x2 x3 x4 x6 e; exact am_nn e
  | succ n ih => intro x1 x2 x3 x4 x6 e; exact t_Model_truly_43 (fun x1 x2 x3 x4 x6 e => ih x1 x2 x3 x4 x6  e) e q
theorem t_Model_truly_34 {d : Nat} {x1 : Int32} {x2 : Int32} {h : am_H} {Q : am_Q} {res : Int32} (e : f_Model_truly_34 h x1 x2 = some res) (q : Q (some (.int res)) h) : am_W (X_Model_truly (d + 4)) 34 [some (.ref 0), some (.int x1), some (.int x2), none, none, none, none, none, none, none, none] [] h Q :=
  b_Model_truly_34 (d := (d + 4)) (k := (t_Model_truly_43_l q am_fu _ _ _ _ _ e))
theorem t_Model_truly_33 {d : Nat} {x1 : Int32} {x2 : Int32} {y0 : Int32} {h : am_H} {Q : am_Q} {res : Int32} (e : f_Model_truly_33 h y0 = some res) (q : Q (some (.int res)) h) : am_W (X_Model_truly (d + 4)) 33 [some (.ref 0), some (.int x1), some (.int x2), none, none, none, none, none, none, none, none] [.int y0] h Q :=
  b_Model_truly_33 (d := (d + 4)) (q := (am_rIp (v := y0) e q))
theorem t_Model_truly_28 {d : Nat} {x1 : Int32} {x2 : Int32} {h : am_H} {Q : am_Q} {res : Int32} (e : f_Model_truly_28 h x1 = some res) (q : Q (some (.int res)) h) : am_W (X_Model_truly (d + 4)) 28 [some (.ref 0), some (.int x1), some (.int x2), none, none, none, none, none, none, none, none] [] h Q :=
  (am_bd e).elim fun p hp => b_Model_truly_28 (d := (d + 3)) (k := c_Model_bytesIs (d := d + 1) hp.1 (t_Model_truly_33 hp.2 q))
theorem t_Model_truly_25 {d : Nat} {x1 : Int32} {x2 : Int32} {y0 : Int32} {h : am_H} {Q : am_Q} {res : Int32} (e : f_Model_truly_25 h x1 x2 y0 = some res) (q : Q (some (.int res)) h) : am_W (X_Model_truly (d + 4)) 25 [some (.ref 0), some (.int x1), some (.int x2), none, none, none, none, none, none, none, none] [.int y0] h Q :=
  b_Model_truly_25 (d := (d + 4)) (kt := fun c => (t_Model_truly_34 (am_ift e c) q)) (kf := fun c => (t_Model_truly_28 (am_ife e c) q))
theorem t_Model_truly_20 {d : Nat} {x1 : Int32} {x2 : Int32} {h : am_H} {Q : am_Q} {res : Int32} (e : f_Model_truly_20 h x1 x2 = some res) (q : Q (some (.int res)) h) : am_W (X_Model_truly (d + 4)) 20 [some (.ref 0), some (.int x1), some (.int x2), none, none, none, none, none, none, none, none] [] h Q :=
  (am_bd e).elim fun p hp => b_Model_truly_20 (d := (d + 3)) (k := c_Model_bytesIs (d := d + 1) hp.1 (t_Model_truly_25 hp.2 q))
theorem t_Model_truly_15 {d : Nat} {x1 : Int32} {x2 : Int32} {y0 : Bool} {h : am_H} {Q : am_Q} {res : Int32} (e : f_Model_truly_15 h x1 x2 y0 = some res) (q : Q (some (.int res)) h) : am_W (X_Model_truly (d + 4)) 15 [some (.ref 0), some (.int x1), some (.int x2), none, none, none, none, none, none, none, none] [.int (am_b y0)] h Q :=
  b_Model_truly_15 (d := (d + 4)) (kt := fun c => (t_Model_truly_20 (am_ift e (am_bn c)) q)) (kf := fun c => (t_Model_truly_18 (am_iff e (am_bz c)) q))
theorem t_Model_truly_9 {d : Nat} {x1 : Int32} {x2 : Int32} {h : am_H} {Q : am_Q} {res : Int32} (e : f_Model_truly_9 h x1 x2 = some res) (q : Q (some (.int res)) h) : am_W (X_Model_truly (d + 4)) 9 [some (.ref 0), some (.int x1), some (.int x2), none, none, none, none, none, none, none, none] [] h Q :=
  b_Model_truly_9 (d := (d + 3)) (k := c_Model_isClub (d := d + 2) rfl (t_Model_truly_15 e q))
theorem t_Model_truly_5 {d : Nat} {x1 : Int32} {x2 : Int32} {y0 : Int32} {h : am_H} {Q : am_Q} {res : Int32} (e : f_Model_truly_5 h x1 x2 y0 = some res) (q : Q (some (.int res)) h) : am_W (X_Model_truly (d + 4)) 5 [some (.ref 0), some (.int x1), some (.int x2), none, none, none, none, none, none, none, none] [.int y0] h Q :=
  b_Model_truly_5 (d := (d + 4)) (kt := fun c => (t_Model_truly_18 (am_ift e c) q)) (kf := fun c => (t_Model_truly_9 (am_ife e c) q))
theorem t_Model_truly_0 {d : Nat} {x1 : Int32} {x2 : Int32} {h : am_H} {Q : am_Q} {res : Int32} (e : f_Model_truly h x1 x2 = some res) (q : Q (some (.int res)) h) : am_W (X_Model_truly (d + 4)) 0 [some (.ref 0), some (.int x1), some (.int x2), none, none, none, none, none, none, none, none] [] h Q :=
  (am_bd e).elim fun p hp => b_Model_truly_0 (d := (d + 3)) (k := c_Model_bytesIs (d := d + 1) hp.1 (t_Model_truly_5 hp.2 q))
theorem c_Model_truly {d : Nat} {x1 : Int32} {x2 : Int32} {h : am_H} {Q : am_Q} {res : Int32} (e : f_Model_truly h x1 x2 = some res) (q : Q (some (.int res)) h) : m_Model_truly (d + 4) [.ref 0, .int x1, .int x2] h Q :=
  e_Model_truly (t_Model_truly_0 e q)
theorem d_Model_guessed_0 : decode prog_12_method_65_code 0 = .ok (.aload_n 0, 1) := by decide +kernel
theorem d_Model_guessed_1 : decode prog_12_method_65_code 1 = .ok (.iload_n 1, 1) := by decide +kernel
theorem d_Model_guessed_2 : decode prog_12_method_65_code 2 = .ok (.invokevirtual 273, 3) := by decide +kernel
theorem d_Model_guessed_5 : decode prog_12_method_65_code 5 = .ok (.ifCond .ge 9, 3) := by decide +kernel
theorem d_Model_guessed_8 : decode prog_12_method_65_code 8 = .ok (.aload_n 0, 1) := by decide +kernel
theorem d_Model_guessed_9 : decode prog_12_method_65_code 9 = .ok (.iload_n 1, 1) := by decide +kernel
theorem d_Model_guessed_10 : decode prog_12_method_65_code 10 = .ok (.invokevirtual 273, 3) := by decide +kernel
theorem d_Model_guessed_13 : decode prog_12_method_65_code 13 = .ok (.ireturn, 1) := by decide +kernel
theorem d_Model_guessed_14 : decode prog_12_method_65_code 14 = .ok (.iconst 0, 1) := by decide +kernel
theorem d_Model_guessed_15 : decode prog_12_method_65_code 15 = .ok (.istore_n 2, 1) := by decide +kernel
theorem d_Model_guessed_16 : decode prog_12_method_65_code 16 = .ok (.iconst 0, 1) := by decide +kernel
theorem d_Model_guessed_17 : decode prog_12_method_65_code 17 = .ok (.istore_n 3, 1) := by decide +kernel
theorem d_Model_guessed_18 : decode prog_12_method_65_code 18 = .ok (.iconst 3, 1) := by decide +kernel
theorem d_Model_guessed_19 : decode prog_12_method_65_code 19 = .ok (.iload_n 3, 1) := by decide +kernel
theorem d_Model_guessed_20 : decode prog_12_method_65_code 20 = .ok (.imul, 1) := by decide +kernel
theorem d_Model_guessed_21 : decode prog_12_method_65_code 21 = .ok (.aload_n 0, 1) := by decide +kernel
theorem d_Model_guessed_22 : decode prog_12_method_65_code 22 = .ok (.getfield 61, 3) := by decide +kernel
theorem d_Model_guessed_25 : decode prog_12_method_65_code 25 = .ok (.iload_n 1, 1) := by decide +kernel
theorem d_Model_guessed_26 : decode prog_12_method_65_code 26 = .ok (.iaload, 1) := by decide +kernel
theorem d_Model_guessed_27 : decode prog_12_method_65_code 27 = .ok (.if_icmp .ge 115, 3) := by decide +kernel
theorem d_Model_guessed_30 : decode prog_12_method_65_code 30 = .ok (.iconst 3, 1) := by decide +kernel
theorem d_Model_guessed_31 : decode prog_12_method_65_code 31 = .ok (.iload_n 3, 1) := by decide +kernel
theorem d_Model_guessed_32 : decode prog_12_method_65_code 32 = .ok (.imul, 1) := by decide +kernel
theorem d_Model_guessed_33 : decode prog_12_method_65_code 33 = .ok (.iconst 2, 1) := by decide +kernel
theorem d_Model_guessed_34 : decode prog_12_method_65_code 34 = .ok (.iadd, 1) := by decide +kernel
theorem d_Model_guessed_35 : decode prog_12_method_65_code 35 = .ok (.aload_n 0, 1) := by decide +kernel
theorem d_Model_guessed_36 : decode prog_12_method_65_code 36 = .ok (.getfield 61, 3) := by decide +kernel
theorem d_Model_guessed_39 : decode prog_12_method_65_code 39 = .ok (.iload_n 1, 1) := by decide +kernel
theorem d_Model_guessed_40 : decode prog_12_method_65_code 40 = .ok (.iaload, 1) := by decide +kernel
theorem d_Model_guessed_41 : decode prog_12_method_65_code 41 = .ok (.if_icmp .ge 47, 3) := by decide +kernel
theorem d_Model_guessed_44 : decode prog_12_method_65_code 44 = .ok (.aload_n 0, 1) := by decide +kernel
theorem d_Model_guessed_45 : decode prog_12_method_65_code 45 = .ok (.getfield 64, 3) := by decide +kernel
theorem d_Model_guessed_48 : decode prog_12_method_65_code 48 = .ok (.bipush 60, 2) := by decide +kernel
theorem d_Model_guessed_50 : decode prog_12_method_65_code 50 = .ok (.iload_n 1, 1) := by decide +kernel
theorem d_Model_guessed_51 : decode prog_12_method_65_code 51 = .ok (.imul, 1) := by decide +kernel
theorem d_Model_guessed_52 : decode prog_12_method_65_code 52 = .ok (.iconst 3, 1) := by decide +kernel
theorem d_Model_guessed_53 : decode prog_12_method_65_code 53 = .ok (.iload_n 3, 1) := by decide +kernel
theorem d_Model_guessed_54 : decode prog_12_method_65_code 54 = .ok (.imul, 1) := by decide +kernel
theorem d_Model_guessed_55 : decode prog_12_method_65_code 55 = .ok (.iadd, 1) := by decide +kernel
theorem d_Model_guessed_56 : decode prog_12_method_65_code 56 = .ok (.laload, 1) := by decide +kernel
theorem d_Model_guessed_57 : decode prog_12_method_65_code 57 = .ok (.invokestatic 110, 3) := by decide +kernel
theorem d_Model_guessed_60 : decode prog_12_method_65_code 60 = .ok (.ifCond .eq 28, 3) := by decide +kernel
theorem d_Model_guessed_63 : decode prog_12_method_65_code 63 = .ok (.aload_n 0, 1) := by decide +kernel
theorem d_Model_guessed_64 : decode prog_12_method_65_code 64 = .ok (.aload_n 0, 1) := by decide +kernel
theorem d_Model_guessed_65 : decode prog_12_method_65_code 65 = .ok (.iload_n 1, 1) := by decide +kernel
theorem d_Model_guessed_66 : decode prog_12_method_65_code 66 = .ok (.iload_n 3, 1) := by decide +kernel
theorem d_Model_guessed_67 : decode prog_12_method_65_code 67 = .ok (.iconst 0, 1) := by decide +kernel
theorem d_Model_guessed_68 : decode prog_12_method_65_code 68 = .ok (.invokevirtual 270, 3) := by decide +kernel
theorem d_Model_guessed_71 : decode prog_12_method_65_code 71 = .ok (.invokevirtual 89, 3) := by decide +kernel
theorem d_Model_guessed_74 : decode prog_12_method_65_code 74 = .ok (.ifCond .ne 14, 3) := by decide +kernel
theorem d_Model_guessed_77 : decode prog_12_method_65_code 77 = .ok (.aload_n 0, 1) := by decide +kernel
theorem d_Model_guessed_78 : decode prog_12_method_65_code 78 = .ok (.getfield 80, 3) := by decide +kernel
theorem d_Model_guessed_81 : decode prog_12_method_65_code 81 = .ok (.ifCond .le 7, 3) := by decide +kernel
theorem d_Model_guessed_84 : decode prog_12_method_65_code 84 = .ok (.iconst 1, 1) := by decide +kernel
theorem d_Model_guessed_85 : decode prog_12_method_65_code 85 = .ok (.goto 4, 3) := by decide +kernel
theorem d_Model_guessed_88 : decode prog_12_method_65_code 88 = .ok (.iconst 0, 1) := by decide +kernel
theorem d_Model_guessed_89 : decode prog_12_method_65_code 89 = .ok (.istore 4, 2) := by decide +kernel
theorem d_Model_guessed_91 : decode prog_12_method_65_code 91 = .ok (.iload_n 2, 1) := by decide +kernel
theorem d_Model_guessed_92 : decode prog_12_method_65_code 92 = .ok (.iload 4, 2) := by decide +kernel
theorem d_Model_guessed_94 : decode prog_12_method_65_code 94 = .ok (.ifCond .eq 39, 3) := by decide +kernel
theorem d_Model_guessed_97 : decode prog_12_method_65_code 97 = .ok (.aload_n 0, 1) := by decide +kernel
theorem d_Model_guessed_98 : decode prog_12_method_65_code 98 = .ok (.aload_n 0, 1) := by decide +kernel
theorem d_Model_guessed_99 : decode prog_12_method_65_code 99 = .ok (.iload_n 1, 1) := by decide +kernel
theorem d_Model_guessed_100 : decode prog_12_method_65_code 100 = .ok (.iload_n 3, 1) := by decide +kernel
theorem d_Model_guessed_101 : decode prog_12_method_65_code 101 = .ok (.iconst 0, 1) := by decide +kernel
theorem d_Model_guessed_102 : decode prog_12_method_65_code 102 = .ok (.invokevirtual 270, 3) := by decide +kernel
theorem d_Model_guessed_105 : decode prog_12_method_65_code 105 = .ok (.iconst 0, 1) := by decide +kernel
theorem d_Model_guessed_106 : decode prog_12_method_65_code 106 = .ok (.invokevirtual 204, 3) := by decide +kernel
theorem d_Model_guessed_109 : decode prog_12_method_65_code 109 = .ok (.i2l, 1) := by decide +kernel
theorem d_Model_guessed_110 : decode prog_12_method_65_code 110 = .ok (.aload_n 0, 1) := by decide +kernel
theorem d_Model_guessed_111 : decode prog_12_method_65_code 111 = .ok (.getfield 64, 3) := by decide +kernel
theorem d_Model_guessed_114 : decode prog_12_method_65_code 114 = .ok (.bipush 60, 2) := by decide +kernel
theorem d_Model_guessed_116 : decode prog_12_method_65_code 116 = .ok (.iload_n 1, 1) := by decide +kernel
theorem d_Model_guessed_117 : decode prog_12_method_65_code 117 = .ok (.imul, 1) := by decide +kernel
theorem d_Model_guessed_118 : decode prog_12_method_65_code 118 = .ok (.iconst 3, 1) := by decide +kernel
theorem d_Model_guessed_119 : decode prog_12_method_65_code 119 = .ok (.iload_n 3, 1) := by decide +kernel
theorem d_Model_guessed_120 : decode prog_12_method_65_code 120 = .ok (.imul, 1) := by decide +kernel
theorem d_Model_guessed_121 : decode prog_12_method_65_code 121 = .ok (.iadd, 1) := by decide +kernel
theorem d_Model_guessed_122 : decode prog_12_method_65_code 122 = .ok (.iconst 1, 1) := by decide +kernel
theorem d_Model_guessed_123 : decode prog_12_method_65_code 123 = .ok (.iadd, 1) := by decide +kernel
theorem d_Model_guessed_124 : decode prog_12_method_65_code 124 = .ok (.laload, 1) := by decide +kernel
theorem d_Model_guessed_125 : decode prog_12_method_65_code 125 = .ok (.lcmp, 1) := by decide +kernel
theorem d_Model_guessed_126 : decode prog_12_method_65_code 126 = .ok (.ifCond .ne 7, 3) := by decide +kernel
theorem d_Model_guessed_129 : decode prog_12_method_65_code 129 = .ok (.iconst 1, 1) := by decide +kernel
theorem d_Model_guessed_130 : decode prog_12_method_65_code 130 = .ok (.goto 4, 3) := by decide +kernel
theorem d_Model_guessed_133 : decode prog_12_method_65_code 133 = .ok (.iconst 0, 1) := by decide +kernel
theorem d_Model_guessed_134 : decode prog_12_method_65_code 134 = .ok (.iadd, 1) := by decide +kernel
theorem d_Model_guessed_135 : decode prog_12_method_65_code 135 = .ok (.istore_n 2, 1) := by decide +kernel
theorem d_Model_guessed_136 : decode prog_12_method_65_code 136 = .ok (.iinc 3 1, 3) := by decide +kernel
theorem d_Model_guessed_139 : decode prog_12_method_65_code 139 = .ok (.goto (-121), 3) := by decide +kernel
theorem d_Model_guessed_142 : decode prog_12_method_65_code 142 = .ok (.iload_n 2, 1) := by decide +kernel
theorem d_Model_guessed_143 : decode prog_12_method_65_code 143 = .ok (.ireturn, 1) := by decide +kernel
theorem b_Model_guessed_0 {d : Nat} {x1 : Int32} {h : am_H} {Q : am_Q} (k : m_Model_bytesIs d [.ref 0, .int x1] h (fun r hh => am_W (X_Model_guessed (d + 1)) 5 [some (.ref 0), some (.int x1), none, none, none] (r.toList ++ []) hh Q)) : am_W (X_Model_guessed (d + 1)) 0 [some (.ref 0), some (.int x1), none, none, none] [] h Q :=
  am_aload_n d_Model_guessed_0 rfl (i := 0) rfl <|
    am_iload_n d_Model_guessed_1 rfl (i := 1) rfl <|
    am_callV (vs := [.int x1]) (st := []) (k := 0) (ci := 10) rfl d_Model_guessed_2 rfl rfl w_1671 w_1673 w_66 w_94 w_1674 p_Model_bytesIs (Nat.le_of_ble_eq_true rfl) (Nat.le_of_ble_eq_true rfl) rfl k
theorem b_Model_guessed_5 {d : Nat} {x1 : Int32} {y0 : Int32} {h : am_H} {Q : am_Q} (kt : 0 ≤ y0 → am_W (X_Model_guessed d) 14 [some (.ref 0), some (.int x1), none, none, none] [] h Q) (kf : ¬ 0 ≤ y0 → am_W (X_Model_guessed d) 8 [some (.ref 0), some (.int x1), none, none, none] [] h Q) : am_W (X_Model_guessed d) 5 [some (.ref 0), some (.int x1), none, none, none] [.int y0] h Q :=
  am_if_ge (tgt := 14) d_Model_guessed_5 (by decide) kt kf
theorem b_Model_guessed_8 {d : Nat} {x1 : Int32} {h : am_H} {Q : am_Q} (k : m_Model_bytesIs d [.ref 0, .int x1] h (fun r hh => am_W (X_Model_guessed (d + 1)) 13 [some (.ref 0), some (.int x1), none, none, none] (r.toList ++ []) hh Q)) : am_W (X_Model_guessed (d + 1)) 8 [some (.ref 0), some (.int x1), none, none, none] [] h Q :=
  am_aload_n d_Model_guessed_8 rfl (i := 0) rfl <|
    am_iload_n d_Model_guessed_9 rfl (i := 1) rfl <|
    am_callV (vs := [.int x1]) (st := []) (k := 0) (ci := 10) rfl d_Model_guessed_10 rfl rfl w_1671 w_1673 w_66 w_94 w_1674 p_Model_bytesIs (Nat.le_of_ble_eq_true rfl) (Nat.le_of_ble_eq_true rfl) rfl k
theorem b_Model_guessed_13 {d : Nat} {x1 : Int32} {y0 : Int32} {h : am_H} {Q : am_Q} (q : Q (some (.int y0)) h) : am_W (X_Model_guessed d) 13 [some (.ref 0), some (.int x1), none, none, none] [.int y0] h Q :=
  am_iret rfl d_Model_guessed_13 q
theorem b_Model_guessed_14 {d : Nat} {x1 : Int32} {h : am_H} {Q : am_Q} (k : am_W (X_Model_guessed d) 18 [some (.ref 0), some (.int x1), some (.int 0), some (.int 0), none] [] h Q) : am_W (X_Model_guessed d) 14 [some (.ref 0), some (.int x1), none, none, none] [] h Q :=
  am_iconst (v := 0) d_Model_guessed_14 (by decide) <|
    am_istore_n (ls' := [some (.ref 0), some (.int x1), some (.int 0), none, none]) d_Model_guessed_15 rfl (Nat.le_of_ble_eq_true rfl) rfl <|
    am_iconst (v := 0) d_Model_guessed_16 (by decide) <|
    am_istore_n (ls' := [some (.ref 0), some (.int x1), some (.int 0), some (.int 0), none]) d_Model_guessed_17 rfl (Nat.le_of_ble_eq_true rfl) rfl <|
    k
theorem b_Model_guessed_18 {d : Nat} {x1 : Int32} {x2 : Int32} {x3 : Int32} {h : am_H} {Q : am_Q} (q0 : vp_in x1 6) (kt : (h.1 17 x1.toNatClampNeg) ≤ (3 * x3) → am_W (X_Model_guessed d) 142 [some (.ref 0), some (.int x1), some (.int x2), some (.int x3), none] [] h Q) (kf : ¬ (h.1 17 x1.toNatClampNeg) ≤ (3 * x3) → am_W (X_Model_guessed d) 30 [some (.ref 0), some (.int x1), some (.int x2), some (.int x3), none] [] h Q) : am_W (X_Model_guessed d) 18 [some (.ref 0), some (.int x1), some (.int x2), some (.int x3), none] [] h Q :=
  am_iconst (v := 3) d_Model_guessed_18 (by decide) <|
    am_iload_n d_Model_guessed_19 rfl (i := 3) rfl <|
    am_imul d_Model_guessed_20 <|
    am_aload_n d_Model_guessed_21 rfl (i := 0) rfl <|
    am_getR (ci := 10) (i := 33) rfl rfl rfl (Nat.le_of_ble_eq_true rfl) w_1351 d_Model_guessed_22 <|
    am_iload_n d_Model_guessed_25 rfl (i := 1) rfl <|
    am_iald rfl q0 d_Model_guessed_26 <|
    am_icmp_ge (tgt := 142) d_Model_guessed_27 (by decide) kt kf
theorem b_Model_guessed_30 {d : Nat} {x1 : Int32} {x2 : Int32} {x3 : Int32} {h : am_H} {Q : am_Q} (q0 : vp_in x1 6) (kt : (h.1 17 x1.toNatClampNeg) ≤ ((3 * x3) + 2) → am_W (X_Model_guessed d) 88 [some (.ref 0), some (.int x1), some (.int x2), some (.int x3), none] [] h Q) (kf : ¬ (h.1 17 x1.toNatClampNeg) ≤ ((3 * x3) + 2) → am_W (X_Model_guessed d) 44 [some (.ref 0), some (.int x1), some (.int x2), some (.int x3), none] [] h Q) : am_W (X_Model_guessed d) 30 [some (.ref 0), some (.int x1), some (.int x2), some (.int x3), none] [] h Q :=
  am_iconst (v := 3) d_Model_guessed_30 (by decide) <|
    am_iload_n d_Model_guessed_31 rfl (i := 3) rfl <|
    am_imul d_Model_guessed_32 <|
    am_iconst (v := 2) d_Model_guessed_33 (by decide) <|
    am_iadd d_Model_guessed_34 <|
    am_aload_n d_Model_guessed_35 rfl (i := 0) rfl <|
    am_getR (ci := 10) (i := 33) rfl rfl rfl (Nat.le_of_ble_eq_true rfl) w_1351 d_Model_guessed_36 <|
    am_iload_n d_Model_guessed_39 rfl (i := 1) rfl <|
    am_iald rfl q0 d_Model_guessed_40 <|
    am_icmp_ge (tgt := 88) d_Model_guessed_41 (by decide) kt kf
theorem b_Model_guessed_44 {d : Nat} {x1 : Int32} {x2 : Int32} {x3 : Int32} {h : am_H} {Q : am_Q} (q0 : vp_in ((60 * x1) + (3 * x3)) 360) (k : m_Model_isCell d [.long (h.2 18 ((60 * x1) + (3 * x3)).toNatClampNeg)] h (fun r hh => am_W (X_Model_guessed (d + 1)) 60 [some (.ref 0), some (.int x1), some (.int x2), some (.int x3), none] (r.toList ++ []) hh Q)) : am_W (X_Model_guessed (d + 1)) 44 [some (.ref 0), some (.int x1), some (.int x2), some (.int x3), none] [] h Q :=
  am_aload_n d_Model_guessed_44 rfl (i := 0) rfl <|
    am_getR (ci := 10) (i := 34) rfl rfl rfl (Nat.le_of_ble_eq_true rfl) w_1352 d_Model_guessed_45 <|
    am_bipush (v := 60) d_Model_guessed_48 (by decide) <|
    am_iload_n d_Model_guessed_50 rfl (i := 1) rfl <|
    am_imul d_Model_guessed_51 <|
    am_iconst (v := 3) d_Model_guessed_52 (by decide) <|
    am_iload_n d_Model_guessed_53 rfl (i := 3) rfl <|
    am_imul d_Model_guessed_54 <|
    am_iadd d_Model_guessed_55 <|
    am_lald rfl q0 d_Model_guessed_56 <|
    am_callS (vs := [.long (h.2 18 ((60 * x1) + (3 * x3)).toNatClampNeg)]) (st := []) rfl d_Model_guessed_57 w_1469 w_1470 w_94 w_1471 p_Model_isCell (Nat.le_of_ble_eq_true rfl) (Nat.le_of_ble_eq_true rfl) rfl k
theorem b_Model_guessed_60 {d : Nat} {x1 : Int32} {x2 : Int32} {x3 : Int32} {y0 : Bool} {h : am_H} {Q : am_Q} (kt : (am_b y0) = 0 → am_W (X_Model_guessed d) 88 [some (.ref 0), some (.int x1), some (.int x2), some (.int x3), none] [] h Q) (kf : ¬ (am_b y0) = 0 → am_W (X_Model_guessed d) 63 [some (.ref 0), some (.int x1), some (.int x2), some (.int x3), none] [] h Q) : am_W (X_Model_guessed d) 60 [some (.ref 0), some (.int x1), some (.int x2), some (.int x3), none] [.int (am_b y0)] h Q :=
  am_if_eq (tgt := 88) d_Model_guessed_60 (by decide) kt kf
theorem b_Model_guessed_63 {d : Nat} {x1 : Int32} {x2 : Int32} {x3 : Int32} {h : am_H} {Q : am_Q} (k : m_Model_itemOf d [.ref 0, .int x1, .int x3, .int 0] h (fun r hh => am_W (X_Model_guessed (d + 1)) 71 [some (.ref 0), some (.int x1), some (.int x2), some (.int x3), none] (r.toList ++ [.ref 0]) hh Q)) : am_W (X_Model_guessed (d + 1)) 63 [some (.ref 0), some (.int x1), some (.int x2), some (.int x3), none] [] h Q :=
  am_aload_n d_Model_guessed_63 rfl (i := 0) rfl <|
    am_aload_n d_Model_guessed_64 rfl (i := 0) rfl <|
    am_iload_n d_Model_guessed_65 rfl (i := 1) rfl <|
    am_iload_n d_Model_guessed_66 rfl (i := 3) rfl <|
    am_iconst (v := 0) d_Model_guessed_67 (by decide) <|
    am_callV (vs := [.int x1, .int x3, .int 0]) (st := [.ref 0]) (k := 0) (ci := 10) rfl d_Model_guessed_68 rfl rfl w_1679 w_1681 w_68 w_94 w_1682 p_Model_itemOf (Nat.le_of_ble_eq_true rfl) (Nat.le_of_ble_eq_true rfl) rfl k
theorem b_Model_guessed_71 {d : Nat} {x1 : Int32} {x2 : Int32} {x3 : Int32} {y1 : Int32} {h : am_H} {Q : am_Q} (k : m_Model_isGreen d [.ref 0, .int y1] h (fun r hh => am_W (X_Model_guessed (d + 1)) 74 [some (.ref 0), some (.int x1), some (.int x2), some (.int x3), none] (r.toList ++ []) hh Q)) : am_W (X_Model_guessed (d + 1)) 71 [some (.ref 0), some (.int x1), some (.int x2), some (.int x3), none] [.int y1, .ref 0] h Q :=
  am_callV (vs := [.int y1]) (st := []) (k := 0) (ci := 10) rfl d_Model_guessed_71 rfl rfl w_1550 w_1552 w_49 w_94 w_1553 p_Model_isGreen (Nat.le_of_ble_eq_true rfl) (Nat.le_of_ble_eq_true rfl) rfl k
theorem b_Model_guessed_74 {d : Nat} {x1 : Int32} {x2 : Int32} {x3 : Int32} {y0 : Bool} {h : am_H} {Q : am_Q} (kt : ¬ (am_b y0) = 0 → am_W (X_Model_guessed d) 88 [some (.ref 0), some (.int x1), some (.int x2), some (.int x3), none] [] h Q) (kf : (am_b y0) = 0 → am_W (X_Model_guessed d) 77 [some (.ref 0), some (.int x1), some (.int x2), some (.int x3), none] [] h Q) : am_W (X_Model_guessed d) 74 [some (.ref 0), some (.int x1), some (.int x2), some (.int x3), none] [.int (am_b y0)] h Q :=
  am_if_ne (tgt := 88) d_Model_guessed_74 (by decide) kt kf
theorem b_Model_guessed_77 {d : Nat} {x1 : Int32} {x2 : Int32} {x3 : Int32} {h : am_H} {Q : am_Q} (kt : (h.1 0 6) ≤ 0 → am_W (X_Model_guessed d) 88 [some (.ref 0), some (.int x1), some (.int x2), some (.int x3), none] [] h Q) (kf : ¬ (h.1 0 6) ≤ 0 → am_W (X_Model_guessed d) 84 [some (.ref 0), some (.int x1), some (.int x2), some (.int x3), none] [] h Q) : am_W (X_Model_guessed d) 77 [some (.ref 0), some (.int x1), some (.int x2), some (.int x3), none] [] h Q :=
  am_aload_n d_Model_guessed_77 rfl (i := 0) rfl <|
    am_getI (ci := 10) (i := 6) rfl rfl rfl (Nat.le_of_ble_eq_true rfl) w_1324 d_Model_guessed_78 <|
    am_if_le (tgt := 88) d_Model_guessed_81 (by decide) kt kf
theorem b_Model_guessed_84 {d : Nat} {x1 : Int32} {x2 : Int32} {x3 : Int32} {h : am_H} {Q : am_Q} (k : am_W (X_Model_guessed d) 89 [some (.ref 0), some (.int x1), some (.int x2), some (.int x3), none] [.int 1] h Q) : am_W (X_Model_guessed d) 84 [some (.ref 0), some (.int x1), some (.int x2), some (.int x3), none] [] h Q :=
  am_iconst (v := 1) d_Model_guessed_84 (by decide) <|
    am_goto (tgt := 89) d_Model_guessed_85 (by decide) k
theorem b_Model_guessed_88 {d : Nat} {x1 : Int32} {x2 : Int32} {x3 : Int32} {h : am_H} {Q : am_Q} (k : am_W (X_Model_guessed d) 89 [some (.ref 0), some (.int x1), some (.int x2), some (.int x3), none] [.int 0] h Q) : am_W (X_Model_guessed d) 88 [some (.ref 0), some (.int x1), some (.int x2), some (.int x3), none] [] h Q :=
  am_iconst (v := 0) d_Model_guessed_88 (by decide) <|
    k
theorem b_Model_guessed_89 {d : Nat} {x1 : Int32} {x2 : Int32} {x3 : Int32} {y0 : Int32} {h : am_H} {Q : am_Q} (kt : y0 = 0 → am_W (X_Model_guessed d) 133 [some (.ref 0), some (.int x1), some (.int x2), some (.int x3), some (.int y0)] [.int x2] h Q) (kf : ¬ y0 = 0 → am_W (X_Model_guessed d) 97 [some (.ref 0), some (.int x1), some (.int x2), some (.int x3), some (.int y0)] [.int x2] h Q) : am_W (X_Model_guessed d) 89 [some (.ref 0), some (.int x1), some (.int x2), some (.int x3), none] [.int y0] h Q :=
  am_istore (ls' := [some (.ref 0), some (.int x1), some (.int x2), some (.int x3), some (.int y0)]) d_Model_guessed_89 (Nat.le_of_ble_eq_true rfl) rfl <|
    am_iload_n d_Model_guessed_91 rfl (i := 2) rfl <|
    am_iload d_Model_guessed_92 rfl <|
    am_if_eq (tgt := 133) d_Model_guessed_94 (by decide) kt kf
theorem b_Model_guessed_97 {d : Nat} {x1 : Int32} {x2 : Int32} {x3 : Int32} {x4 : Int32} {y0 : Int32} {h : am_H} {Q : am_Q} (k : m_Model_itemOf d [.ref 0, .int x1, .int x3, .int 0] h (fun r hh => am_W (X_Model_guessed (d + 1)) 105 [some (.ref 0), some (.int x1), some (.int x2), some (.int x3), some (.int x4)] (r.toList ++ [.ref 0, .int y0]) hh Q)) : am_W (X_Model_guessed (d + 1)) 97 [some (.ref 0), some (.int x1), some (.int x2), some (.int x3), some (.int x4)] [.int y0] h Q :=
  am_aload_n d_Model_guessed_97 rfl (i := 0) rfl <|
    am_aload_n d_Model_guessed_98 rfl (i := 0) rfl <|
    am_iload_n d_Model_guessed_99 rfl (i := 1) rfl <|
    am_iload_n d_Model_guessed_100 rfl (i := 3) rfl <|
    am_iconst (v := 0) d_Model_guessed_101 (by decide) <|
    am_callV (vs := [.int x1, .int x3, .int 0]) (st := [.ref 0, .int y0]) (k := 0) (ci := 10) rfl d_Model_guessed_102 rfl rfl w_1679 w_1681 w_68 w_94 w_1682 p_Model_itemOf (Nat.le_of_ble_eq_true rfl) (Nat.le_of_ble_eq_true rfl) rfl k
theorem b_Model_guessed_105 {d : Nat} {x1 : Int32} {x2 : Int32} {x3 : Int32} {x4 : Int32} {y2 : Int32} {y0 : Int32} {h : am_H} {Q : am_Q} (k : m_Model_takenFrom d [.ref 0, .int y2, .int 0] h (fun r hh => am_W (X_Model_guessed (d + 1)) 109 [some (.ref 0), some (.int x1), some (.int x2), some (.int x3), some (.int x4)] (r.toList ++ [.int y0]) hh Q)) : am_W (X_Model_guessed (d + 1)) 105 [some (.ref 0), some (.int x1), some (.int x2), some (.int x3), some (.int x4)] [.int y2, .ref 0, .int y0] h Q :=
  am_iconst (v := 0) d_Model_guessed_105 (by decide) <|
    am_callV (vs := [.int y2, .int 0]) (st := [.int y0]) (k := 0) (ci := 10) rfl d_Model_guessed_106 rfl rfl w_1554 w_1556 w_50 w_94 w_1557 p_Model_takenFrom (Nat.le_of_ble_eq_true rfl) (Nat.le_of_ble_eq_true rfl) rfl k
theorem b_Model_guessed_109 {d : Nat} {x1 : Int32} {x2 : Int32} {x3 : Int32} {x4 : Int32} {y1 : Int32} {y0 : Int32} {h : am_H} {Q : am_Q} (q0 : vp_in (((60 * x1) + (3 * x3)) + 1) 360) (kt : ¬ y1.toInt64 = (h.2 18 (((60 * x1) + (3 * x3)) + 1).toNatClampNeg) → am_W (X_Model_guessed d) 133 [some (.ref 0), some (.int x1), some (.int x2), some (.int x3), some (.int x4)] [.int y0] h Q) (kf : y1.toInt64 = (h.2 18 (((60 * x1) + (3 * x3)) + 1).toNatClampNeg) → am_W (X_Model_guessed d) 129 [some (.ref 0), some (.int x1), some (.int x2), some (.int x3), some (.int x4)] [.int y0] h Q) : am_W (X_Model_guessed d) 109 [some (.ref 0), some (.int x1), some (.int x2), some (.int x3), some (.int x4)] [.int y1, .int y0] h Q :=
  am_i2l d_Model_guessed_109 <|
    am_aload_n d_Model_guessed_110 rfl (i := 0) rfl <|
    am_getR (ci := 10) (i := 34) rfl rfl rfl (Nat.le_of_ble_eq_true rfl) w_1352 d_Model_guessed_111 <|
    am_bipush (v := 60) d_Model_guessed_114 (by decide) <|
    am_iload_n d_Model_guessed_116 rfl (i := 1) rfl <|
    am_imul d_Model_guessed_117 <|
    am_iconst (v := 3) d_Model_guessed_118 (by decide) <|
    am_iload_n d_Model_guessed_119 rfl (i := 3) rfl <|
    am_imul d_Model_guessed_120 <|
    am_iadd d_Model_guessed_121 <|
    am_iconst (v := 1) d_Model_guessed_122 (by decide) <|
    am_iadd d_Model_guessed_123 <|
    am_lald rfl q0 d_Model_guessed_124 <|
    am_lc_if_ne (tgt := 133) d_Model_guessed_125 d_Model_guessed_126 (by decide) kt kf
theorem b_Model_guessed_129 {d : Nat} {x1 : Int32} {x2 : Int32} {x3 : Int32} {x4 : Int32} {y0 : Int32} {h : am_H} {Q : am_Q} (k : am_W (X_Model_guessed d) 134 [some (.ref 0), some (.int x1), some (.int x2), some (.int x3), some (.int x4)] [.int 1, .int y0] h Q) : am_W (X_Model_guessed d) 129 [some (.ref 0), some (.int x1), some (.int x2), some (.int x3), some (.int x4)] [.int y0] h Q :=
  am_iconst (v := 1) d_Model_guessed_129 (by decide) <|
    am_goto (tgt := 134) d_Model_guessed_130 (by decide) k
theorem b_Model_guessed_133 {d : Nat} {x1 : Int32} {x2 : Int32} {x3 : Int32} {x4 : Int32} {y0 : Int32} {h : am_H} {Q : am_Q} (k : am_W (X_Model_guessed d) 134 [some (.ref 0), some (.int x1), some (.int x2), some (.int x3), some (.int x4)] [.int 0, .int y0] h Q) : am_W (X_Model_guessed d) 133 [some (.ref 0), some (.int x1), some (.int x2), some (.int x3), some (.int x4)] [.int y0] h Q :=
  am_iconst (v := 0) d_Model_guessed_133 (by decide) <|
    k
theorem b_Model_guessed_134 {d : Nat} {x1 : Int32} {x2 : Int32} {x3 : Int32} {x4 : Int32} {y1 : Int32} {y0 : Int32} {h : am_H} {Q : am_Q} (k : am_W (X_Model_guessed d) 18 [some (.ref 0), some (.int x1), some (.int (y0 + y1)), some (.int (x3 + 1)), some (.int x4)] [] h Q) : am_W (X_Model_guessed d) 134 [some (.ref 0), some (.int x1), some (.int x2), some (.int x3), some (.int x4)] [.int y1, .int y0] h Q :=
  am_iadd d_Model_guessed_134 <|
    am_istore_n (ls' := [some (.ref 0), some (.int x1), some (.int (y0 + y1)), some (.int x3), some (.int x4)]) d_Model_guessed_135 rfl (Nat.le_of_ble_eq_true rfl) rfl <|
    am_iinc (v := (x3 + 1)) (ls' := [some (.ref 0), some (.int x1), some (.int (y0 + y1)), some (.int (x3 + 1)), some (.int x4)]) d_Model_guessed_136 rfl rfl (Nat.le_of_ble_eq_true rfl) rfl <|
    am_goto (tgt := 18) d_Model_guessed_139 (by decide) k
theorem b_Model_guessed_142 {d : Nat} {x1 : Int32} {x2 : Int32} {x3 : Int32} {h : am_H} {Q : am_Q} (q : Q (some (.int x2)) h) : am_W (X_Model_guessed d) 142 [some (.ref 0), some (.int x1), some (.int x2), some (.int x3), none] [] h Q :=
  am_iload_n d_Model_guessed_142 rfl (i := 2) rfl <|
    am_iret rfl d_Model_guessed_143 q
theorem t_Model_guessed_142 {d : Nat} {x1 : Int32} {x2 : Int32} {x3 : Int32} {h : am_H} {Q : am_Q} {res : Int32 × am_H} (e : f_Model_guessed_142 h x2 = some res) (q : Q (some (.int res.1)) res.2) : am_W (X_Model_guessed (d + 69)) 142 [some (.ref 0), some (.int x1), some (.int x2), some (.int x3), none] [] h Q :=
  b_Model_guessed_142 (d := (d + 69)) (q := (am_rIpi (v := x2) e q))
theorem t_Model_guessed_134 {d : Nat} {k18 : am_H → Int32 → Int32 → Int32 → Option (Int32 × am_H)} {x1 : Int32} {x2 : Int32} {x3 : Int32} {x4 : Int32} {y1 : Int32} {y0 : Int32} {h : am_H} {Q : am_Q} {res : Int32 × am_H} (hk18 : ∀ (x1 : Int32) (x2 : Int32) (x3 : Int32) (h : am_H), k18 h x1 x2 x3 = some res → am_W (X_Model_guessed (d + 69)) 18 [some (.ref 0), some (.int x1), some (.int x2), some (.int x3), none] [] h Q) (e : f_Model_guessed_134 k18 h x1 x3 y1 y0 = some res) (q : Q (some (.int res.1)) res.2) : am_W (X_Model_guessed (d + 69)) 134 [some (.ref 0), some (.int x1), some (.int x2), some (.int x3), some (.int x4)] [.int y1, .int y0] h Q :=
  b_Model_guessed_134 (d := (d + 69)) (k := (am_wk2 (hk18 _ _ _ _ e) ⟨rfl, ⟨rfl, ⟨rfl, ⟨rfl, trivial⟩⟩⟩⟩))
theorem t_Model_guessed_133 {d : Nat} {k18 : am_H → Int32 → Int32 → Int32 → Option (Int32 × am_H)} {x1 : Int32} {x2 : Int32} {x3 : Int32} {x4 : Int32} {y0 : Int32} {h : am_H} {Q : am_Q} {res : Int32 × am_H} (hk18 : ∀ (x1 : Int32) (x2 : Int32) (x3 : Int32) (h : am_H), k18 h x1 x2 x3 = some res → am_W (X_Model_guessed (d + 69)) 18 [some (.ref 0), some (.int x1), some (.int x2), some (.int x3), none] [] h Q) (e : f_Model_guessed_133 k18 h x1 x3 y0 = some res) (q : Q (some (.int res.1)) res.2) : am_W (X_Model_guessed (d + 69)) 133 [some (.ref 0), some (.int x1), some (.int x2), some (.int x3), some (.int x4)] [.int y0] h Q :=
  b_Model_guessed_133 (d := (d + 69)) (k := (t_Model_guessed_134 hk18 e q))
theorem t_Model_guessed_129 {d : Nat} {k18 : am_H → Int32 → Int32 → Int32 → Option (Int32 × am_H)} {x1 : Int32} {x2 : Int32} {x3 : Int32} {x4 : Int32} {y0 : Int32} {h : am_H} {Q : am_Q} {res : Int32 × am_H} (hk18 : ∀ (x1 : Int32) (x2 : Int32) (x3 : Int32) (h : am_H), k18 h x1 x2 x3 = some res → am_W (X_Model_guessed (d + 69)) 18 [some (.ref 0), some (.int x1), some (.int x2), some (.int x3), none] [] h Q) (e : f_Model_guessed_129 k18 h x1 x3 y0 = some res) (q : Q (some (.int res.1)) res.2) : am_W (X_Model_guessed (d + 69)) 129 [some (.ref 0), some (.int x1), some (.int x2), some (.int x3), some (.int x4)] [.int y0] h Q :=
  b_Model_guessed_129 (d := (d + 69)) (k := (t_Model_guessed_134 hk18 e q))
theorem t_Model_guessed_109 {d : Nat} {k18 : am_H → Int32 → Int32 → Int32 → Option (Int32 × am_H)} {x1 : Int32} {x2 : Int32} {x3 : Int32} {x4 : Int32} {y1 : Int32} {y0 : Int32} {h : am_H} {Q : am_Q} {res : Int32 × am_H} (hk18 : ∀ (x1 : Int32) (x2 : Int32) (x3 : Int32) (h : am_H), k18 h x1 x2 x3 = some res → am_W (X_Model_guessed (d + 69)) 18 [some (.ref 0), some (.int x1), some (.int x2), some (.int x3), none] [] h Q) (e : f_Model_guessed_109 k18 h x1 x3 y1 y0 = some res) (q : Q (some (.int res.1)) res.2) : am_W (X_Model_guessed (d + 69)) 109 [some (.ref 0), some (.int x1), some (.int x2), some (.int x3), some (.int x4)] [.int y1, .int y0] h Q :=
  b_Model_guessed_109 (d := (d + 69)) (q0 := (am_okv (am_gd e))) (kt := fun c => (t_Model_guessed_133 hk18 (am_ife (am_ga e) c) q)) (kf := fun c => (t_Model_guessed_129 hk18 (am_ift (am_ga e) c) q))
theorem t_Model_guessed_105 {d : Nat} {k18 : am_H → Int32 → Int32 → Int32 → Option (Int32 × am_H)} {x1 : Int32} {x2 : Int32} {x3 : Int32} {x4 : Int32} {y2 : Int32} {y0 : Int32} {h : am_H} {Q : am_Q} {res : Int32 × am_H} (hk18 : ∀ (x1 : Int32) (x2 : Int32) (x3 : Int32) (h : am_H), k18 h x1 x2 x3 = some res → am_W (X_Model_guessed (d + 69)) 18 [some (.ref 0), some (.int x1), some (.int x2), some (.int x3), none] [] h Q) (e : f_Model_guessed_105 k18 h x1 x3 y2 y0 = some res) (q : Q (some (.int res.1)) res.2) : am_W (X_Model_guessed (d + 69)) 105 [some (.ref 0), some (.int x1), some (.int x2), some (.int x3), some (.int x4)] [.int y2, .ref 0, .int y0] h Q :=
  (am_bd e).elim fun p hp => b_Model_guessed_105 (d := (d + 68)) (k := c_Model_takenFrom (d := d) hp.1 (t_Model_guessed_109 hk18 hp.2 q))
theorem t_Model_guessed_97 {d : Nat} {k18 : am_H → Int32 → Int32 → Int32 → Option (Int32 × am_H)} {x1 : Int32} {x2 : Int32} {x3 : Int32} {x4 : Int32} {y0 : Int32} {h : am_H} {Q : am_Q} {res : Int32 × am_H} (hk18 : ∀ (x1 : Int32) (x2 : Int32) (x3 : Int32) (h : am_H), k18 h x1 x2 x3 = some res → am_W (X_Model_guessed (d + 69)) 18 [some (.ref 0), some (.int x1), some (.int x2), some (.int x3), none] [] h Q) (e : f_Model_guessed_97 k18 h x1 x3 y0 = some res) (q : Q (some (.int res.1)) res.2) : am_W (X_Model_guessed (d + 69)) 97 [some (.ref 0), some (.int x1), some (.int x2), some (.int x3), some (.int x4)] [.int y0] h Q :=
  (am_bd e).elim fun p hp => b_Model_guessed_97 (d := (d + 68)) (k := c_Model_itemOf (d := d + 68) hp.1 (t_Model_guessed_105 hk18 hp.2 q))
theorem t_Model_guessed_89 {d : Nat} {k18 : am_H → Int32 → Int32 → Int32 → Option (Int32 × am_H)} {x1 : Int32} {x2 : Int32} {x3 : Int32} {y0 : Int32} {h : am_H} {Q : am_Q} {res : Int32 × am_H} (hk18 : ∀ (x1 : Int32) (x2 : Int32) (x3 : Int32) (h : am_H), k18 h x1 x2 x3 = some res → am_W (X_Model_guessed (d + 69)) 18 [some (.ref 0), some (.int x1), some (.int x2), some (.int x3), none] [] h Q) (e : f_Model_guessed_89 k18 h x1 x2 x3 y0 = some res) (q : Q (some (.int res.1)) res.2) : am_W (X_Model_guessed (d + 69)) 89 [some (.ref 0), some (.int x1), some (.int x2), some (.int x3), none] [.int y0] h Q :=
  b_Model_guessed_89 (d := (d + 69)) (kt := fun c => (t_Model_guessed_133 hk18 (am_ift e c) q)) (kf := fun c => (t_Model_guessed_97 hk18 (am_ife e c) q))
theorem t_Model_guessed_88 {d : Nat} {k18 : am_H → Int32 → Int32 → Int32 → Option (Int32 × am_H)} {x1 : Int32} {x2 : Int32} {x3 : Int32} {h : am_H} {Q : am_Q} {res : Int32 × am_H} (hk18 : ∀ (x1 : Int32) (x2 : Int32) (x3 : Int32) (h : am_H), k18 h x1 x2 x3 = some res → am_W (X_Model_guessed (d + 69)) 18 [some (.ref 0), some (.int x1), some (.int x2), some (.int x3), none] [] h Q) (e : f_Model_guessed_88 k18 h x1 x2 x3 = some res) (q : Q (some (.int res.1)) res.2) : am_W (X_Model_guessed (d + 69)) 88 [some (.ref 0), some (.int x1), some (.int x2), some (.int x3), none] [] h Q :=
  b_Model_guessed_88 (d := (d + 69)) (k := (t_Model_guessed_89 hk18 e q))
theorem t_Model_guessed_84 {d : Nat} {k18 : am_H → Int32 → Int32 → Int32 → Option (Int32 × am_H)} {x1 : Int32} {x2 : Int32} {x3 : Int32} {h : am_H} {Q : am_Q} {res : Int32 × am_H} (hk18 : ∀ (x1 : Int32) (x2 : Int32) (x3 : Int32) (h : am_H), k18 h x1 x2 x3 = some res → am_W (X_Model_guessed (d + 69)) 18 [some (.ref 0), some (.int x1), some (.int x2), some (.int x3), none] [] h Q) (e : f_Model_guessed_84 k18 h x1 x2 x3 = some res) (q : Q (some (.int res.1)) res.2) : am_W (X_Model_guessed (d + 69)) 84 [some (.ref 0), some (.int x1), some (.int x2), some (.int x3), none] [] h Q :=
  b_Model_guessed_84 (d := (d + 69)) (k := (t_Model_guessed_89 hk18 e q))
theorem t_Model_guessed_77 {d : Nat} {k18 : am_H → Int32 → Int32 → Int32 → Option (Int32 × am_H)} {x1 : Int32} {x2 : Int32} {x3 : Int32} {h : am_H} {Q : am_Q} {res : Int32 × am_H} (hk18 : ∀ (x1 : Int32) (x2 : Int32) (x3 : Int32) (h : am_H), k18 h x1 x2 x3 = some res → am_W (X_Model_guessed (d + 69)) 18 [some (.ref 0), some (.int x1), some (.int x2), some (.int x3), none] [] h Q) (e : f_Model_guessed_77 k18 h x1 x2 x3 = some res) (q : Q (some (.int res.1)) res.2) : am_W (X_Model_guessed (d + 69)) 77 [some (.ref 0), some (.int x1), some (.int x2), some (.int x3), none] [] h Q :=
  b_Model_guessed_77 (d := (d + 69)) (kt := fun c => (t_Model_guessed_88 hk18 (am_ift e c) q)) (kf := fun c => (t_Model_guessed_84 hk18 (am_ife e c) q))
theorem t_Model_guessed_74 {d : Nat} {k18 : am_H → Int32 → Int32 → Int32 → Option (Int32 × am_H)} {x1 : Int32} {x2 : Int32} {x3 : Int32} {y0 : Bool} {h : am_H} {Q : am_Q} {res : Int32 × am_H} (hk18 : ∀ (x1 : Int32) (x2 : Int32) (x3 : Int32) (h : am_H), k18 h x1 x2 x3 = some res → am_W (X_Model_guessed (d + 69)) 18 [some (.ref 0), some (.int x1), some (.int x2), some (.int x3), none] [] h Q) (e : f_Model_guessed_74 k18 h x1 x2 x3 y0 = some res) (q : Q (some (.int res.1)) res.2) : am_W (X_Model_guessed (d + 69)) 74 [some (.ref 0), some (.int x1), some (.int x2), some (.int x3), none] [.int (am_b y0)] h Q :=
  b_Model_guessed_74 (d := (d + 69)) (kt := fun c => (t_Model_guessed_88 hk18 (am_ift e (am_bn c)) q)) (kf := fun c => (t_Model_guessed_77 hk18 (am_iff e (am_bz c)) q))
theorem t_Model_guessed_71 {d : Nat} {k18 : am_H → Int32 → Int32 → Int32 → Option (Int32 × am_H)} {x1 : Int32} {x2 : Int32} {x3 : Int32} {y1 : Int32} {h : am_H} {Q : am_Q} {res : Int32 × am_H} (hk18 : ∀ (x1 : Int32) (x2 : Int32) (x3 : Int32) (h : am_H), k18 h x1 x2 x3 = some res → am_W (X_Model_guessed (d + 69)) 18 [some (.ref 0), some (.int x1), some (.int x2), some (.int x3), none] [] h Q) (e : f_Model_guessed_71 k18 h x1 x2 x3 y1 = some res) (q : Q (some (.int res.1)) res.2) : am_W (X_Model_guessed (d + 69)) 71 [some (.ref 0), some (.int x1), some (.int x2), some (.int x3), none] [.int y1, .ref 0] h Q :=
  (am_bd e).elim fun p hp => b_Model_guessed_71 (d := (d + 68)) (k := c_Model_isGreen (d := d + 68) hp.1 (t_Model_guessed_74 hk18 hp.2 q))
theorem t_Model_guessed_63 {d : Nat} {k18 : am_H → Int32 → Int32 → Int32 → Option (Int32 × am_H)} {x1 : Int32} {x2 : Int32} {x3 : Int32} {h : am_H} {Q : am_Q} {res : Int32 × am_H} (hk18 : ∀ (x1 : Int32) (x2 : Int32) (x3 : Int32) (h : am_H), k18 h x1 x2 x3 = some res → am_W (X_Model_guessed (d + 69)) 18 [some (.ref 0), some (.int x1), some (.int x2), some (.int x3), none] [] h Q) (e : f_Model_guessed_63 k18 h x1 x2 x3 = some res) (q : Q (some (.int res.1)) res.2) : am_W (X_Model_guessed (d + 69)) 63 [some (.ref 0), some (.int x1), some (.int x2), some (.int x3), none] [] h Q :=
  (am_bd e).elim fun p hp => b_Model_guessed_63 (d := (d + 68)) (k := c_Model_itemOf (d := d + 68) hp.1 (t_Model_guessed_71 hk18 hp.2 q))
theorem t_Model_guessed_60 {d : Nat} {k18 : am_H → Int32 → Int32 → Int32 → Option (Int32 × am_H)} {x1 : Int32} {x2 : Int32} {x3 : Int32} {y0 : Bool} {h : am_H} {Q : am_Q} {res : Int32 × am_H} (hk18 : ∀ (x1 : Int32) (x2 : Int32) (x3 : Int32) (h : am_H), k18 h x1 x2 x3 = some res → am_W (X_Model_guessed (d + 69)) 18 [some (.ref 0), some (.int x1), some (.int x2), some (.int x3), none] [] h Q) (e : f_Model_guessed_60 k18 h x1 x2 x3 y0 = some res) (q : Q (some (.int res.1)) res.2) : am_W (X_Model_guessed (d + 69)) 60 [some (.ref 0), some (.int x1), some (.int x2), some (.int x3), none] [.int (am_b y0)] h Q :=
  b_Model_guessed_60 (d := (d + 69)) (kt := fun c => (t_Model_guessed_88 hk18 (am_iff e (am_bz c)) q)) (kf := fun c => (t_Model_guessed_63 hk18 (am_ift e (am_bn c)) q))
theorem t_Model_guessed_44 {d : Nat} {k18 : am_H → Int32 → Int32 → Int32 → Option (Int32 × am_H)} {x1 : Int32} {x2 : Int32} {x3 : Int32} {h : am_H} {Q : am_Q} {res : Int32 × am_H} (hk18 : ∀ (x1 : Int32) (x2 : Int32) (x3 : Int32) (h : am_H), k18 h x1 x2 x3 = some res → am_W (X_Model_guessed (d + 69)) 18 [some (.ref 0), some (.int x1), some (.int x2), some (.int x3), none] [] h Q) (e : f_Model_guessed_44 k18 h x1 x2 x3 = some res) (q : Q (some (.int res.1)) res.2) : am_W (X_Model_guessed (d + 69)) 44 [some (.ref 0), some (.int x1), some (.int x2), some (.int x3), none] [] h Q :=
  b_Model_guessed_44 (d := (d + 68)) (q0 := (am_okv (am_gd e))) (k := c_Model_isCell (d := d + 67) rfl (t_Model_guessed_60 hk18 (am_ga e) q))
theorem t_Model_guessed_30 {d : Nat} {k18 : am_H → Int32 → Int32 → Int32 → Option (Int32 × am_H)} {x1 : Int32} {x2 : Int32} {x3 : Int32} {h : am_H} {Q : am_Q} {res : Int32 × am_H} (hk18 : ∀ (x1 : Int32) (x2 : Int32) (x3 : Int32) (h : am_H), k18 h x1 x2 x3 = some res → am_W (X_Model_guessed (d + 69)) 18 [some (.ref 0), some (.int x1), some (.int x2), some (.int x3), none] [] h Q) (e : f_Model_guessed_30 k18 h x1 x2 x3 = some res) (q : Q (some (.int res.1)) res.2) : am_W (X_Model_guessed (d + 69)) 30 [some (.ref 0), some (.int x1), some (.int x2), some (.int x3), none] [] h Q :=
  b_Model_guessed_30 (d := (d + 69)) (q0 := (am_okv (am_gd e))) (kt := fun c => (t_Model_guessed_88 hk18 (am_ift (am_ga e) c) q)) (kf := fun c => (t_Model_guessed_44 hk18 (am_ife (am_ga e) c) q))
theorem t_Model_guessed_18 {d : Nat} {k18 : am_H → Int32 → Int32 → Int32 → Option (Int32 × am_H)} {x1 : Int32} {x2 : Int32} {x3 : Int32} {h : am_H} {Q : am_Q} {res : Int32 × am_H} (hk18 : ∀ (x1 : Int32) (x2 : Int32) (x3 : Int32) (h : am_H), k18 h x1 x2 x3 = some res → am_W (X_Model_guessed (d + 69)) 18 [some (.ref 0), some (.int x1), some (.int x2), some (.int x3), none] [] h Q) (e : f_Model_guessed_18 k18 h x1 x2 x3 = some res) (q : Q (some (.int res.1)) res.2) : am_W (X_Model_guessed (d + 69)) 18 [some (.ref 0), some (.int x1), some (.int x2), some (.int x3), none] [] h Q :=
  b_Model_guessed_18 (d := (d + 69)) (q0 := (am_okv (am_gd e))) (kt := fun c => (t_Model_guessed_142 (am_ift (am_ga e) c) q)) (kf := fun c => (t_Model_guessed_30 hk18 (am_ife (am_ga e) c) q))
theorem t_Model_guessed_18_l {d : Nat} {Q : am_Q} {res : Int32 × am_H} (q : Q (some (.int res.1)) res.2) : ∀ (n : Nat) (x1 : Int32) (x2 : Int32) (x3 : Int32) (h : am_H), f_Model_guessed_18_l n h x1 x2 x3 = some res → am_W (X_Model_guessed (d + 69)) 18 [some (.ref 0), some (.int x1), some (.int x2), some (.int x3), none] [] h Q := by
  intro n
  induction n with
  | zero => intro x1 x2 x3 h e; exact am_nn e
  | succ n ih => intro x1 x2 x3 h e; exact t_Model_guessed_18 (fun x1 x2 x3 h e => ih x1 x2 x3 h  e) e q
theorem t_Model_guessed_14 {d : Nat} {x1 : Int32} {h : am_H} {Q : am_Q} {res : Int32 × am_H} (e : f_Model_guessed_14 h x1 = some res) (q : Q (some (.int res.1)) res.2) : am_W (X_Model_guessed (d + 69)) 14 [some (.ref 0), some (.int x1), none, none, none] [] h Q :=
  b_Model_guessed_14 (d := (d + 69)) (k := (t_Model_guessed_18_l q am_fu _ _ _ _ e))
theorem t_Model_guessed_13 {d : Nat} {x1 : Int32} {y0 : Int32} {h : am_H} {Q : am_Q} {res : Int32 × am_H} (e : f_Model_guessed_13 h y0 = some res) (q : Q (some (.int res.1)) res.2) : am_W (X_Model_guessed (d + 69)) 13 [some (.ref 0), some (.int x1), none, none, none] [.int y0] h Q :=
  b_Model_guessed_13 (d := (d + 69)) (q := (am_rIpi (v := y0) e q))
theorem t_Model_guessed_8 {d : Nat} {x1 : Int32} {h : am_H} {Q : am_Q} {res : Int32 × am_H} (e : f_Model_guessed_8 h x1 = some res) (q : Q (some (.int res.1)) res.2) : am_W (X_Model_guessed (d + 69)) 8 [some (.ref 0), some (.int x1), none, none, none] [] h Q :=
  (am_bd e).elim fun p hp => b_Model_guessed_8 (d := (d + 68)) (k := c_Model_bytesIs (d := d + 66) hp.1 (t_Model_guessed_13 hp.2 q))
theorem t_Model_guessed_5 {d : Nat} {x1 : Int32} {y0 : Int32} {h : am_H} {Q : am_Q} {res : Int32 × am_H} (e : f_Model_guessed_5 h x1 y0 = some res) (q : Q (some (.int res.1)) res.2) : am_W (X_Model_guessed (d + 69)) 5 [some (.ref 0), some (.int x1), none, none, none] [.int y0] h Q :=
  b_Model_guessed_5 (d := (d + 69)) (kt := fun c => (t_Model_guessed_14 (am_ift e c) q)) (kf := fun c => (t_Model_guessed_8 (am_ife e c) q))
theorem t_Model_guessed_0 {d : Nat} {x1 : Int32} {h : am_H} {Q : am_Q} {res : Int32 × am_H} (e : f_Model_guessed h x1 = some res) (q : Q (some (.int res.1)) res.2) : am_W (X_Model_guessed (d + 69)) 0 [some (.ref 0), some (.int x1), none, none, none] [] h Q :=
  (am_bd e).elim fun p hp => b_Model_guessed_0 (d := (d + 68)) (k := c_Model_bytesIs (d := d + 66) hp.1 (t_Model_guessed_5 hp.2 q))
theorem c_Model_guessed {d : Nat} {x1 : Int32} {h : am_H} {Q : am_Q} {res : Int32 × am_H} (e : f_Model_guessed h x1 = some res) (q : Q (some (.int res.1)) res.2) : m_Model_guessed (d + 69) [.ref 0, .int x1] h Q :=
  e_Model_guessed (t_Model_guessed_0 e q)
