theorem d_Law_hasText_0 : decode prog_6_method_17_code 0 = .ok (.aload_n 0, 1) := by decide +kernel
theorem d_Law_hasText_1 : decode prog_6_method_17_code 1 = .ok (.getfield 37, 3) := by decide +kernel
theorem d_Law_hasText_4 : decode prog_6_method_17_code 4 = .ok (.ifCond .le 7, 3) := by decide +kernel
theorem d_Law_hasText_7 : decode prog_6_method_17_code 7 = .ok (.iconst 1, 1) := by decide +kernel
theorem d_Law_hasText_8 : decode prog_6_method_17_code 8 = .ok (.goto 4, 3) := by decide +kernel
theorem d_Law_hasText_11 : decode prog_6_method_17_code 11 = .ok (.iconst 0, 1) := by decide +kernel
theorem d_Law_hasText_12 : decode prog_6_method_17_code 12 = .ok (.ireturn, 1) := by decide +kernel
theorem b_Law_hasText_0 {d : Nat} {h : am_H} {Q : am_Q} (kt : (h.1 6 8) ≤ 0 → am_W (X_Law_hasText d) 11 [some (.ref 6)] [] h Q) (kf : ¬ (h.1 6 8) ≤ 0 → am_W (X_Law_hasText d) 7 [some (.ref 6)] [] h Q) : am_W (X_Law_hasText d) 0 [some (.ref 6)] [] h Q :=
  am_aload_n d_Law_hasText_0 rfl (i := 0) rfl <|
    am_getI (ci := 2) (i := 8) rfl rfl rfl (Nat.le_of_ble_eq_true rfl) w_168 d_Law_hasText_1 <|
    am_if_le (tgt := 11) d_Law_hasText_4 (by decide) kt kf
theorem b_Law_hasText_7 {d : Nat} {h : am_H} {Q : am_Q} (q : Q (some (.int 1)) h) : am_W (X_Law_hasText d) 7 [some (.ref 6)] [] h Q :=
  am_iconst (v := 1) d_Law_hasText_7 (by decide) <|
    am_goto (tgt := 12) d_Law_hasText_8 (by decide) <|
    am_zret (ty := .boolean) rfl (by decide) d_Law_hasText_12 q
theorem b_Law_hasText_11 {d : Nat} {h : am_H} {Q : am_Q} (q : Q (some (.int 0)) h) : am_W (X_Law_hasText d) 11 [some (.ref 6)] [] h Q :=
  am_iconst (v := 0) d_Law_hasText_11 (by decide) <|
    am_zret (ty := .boolean) rfl (by decide) d_Law_hasText_12 q
theorem t_Law_hasText_11 {d : Nat} {h : am_H} {Q : am_Q} {res : Bool} (e : f_Law_hasText_11 h = res) (q : Q (some (.int (am_b res))) h) : am_W (X_Law_hasText d) 11 [some (.ref 6)] [] h Q :=
  b_Law_hasText_11 (d := d) (q := (am_rZt (v := false) e q))
theorem t_Law_hasText_7 {d : Nat} {h : am_H} {Q : am_Q} {res : Bool} (e : f_Law_hasText_7 h = res) (q : Q (some (.int (am_b res))) h) : am_W (X_Law_hasText d) 7 [some (.ref 6)] [] h Q :=
  b_Law_hasText_7 (d := d) (q := (am_rZt (v := true) e q))
theorem t_Law_hasText_0 {d : Nat} {h : am_H} {Q : am_Q} {res : Bool} (e : f_Law_hasText h = res) (q : Q (some (.int (am_b res))) h) : am_W (X_Law_hasText d) 0 [some (.ref 6)] [] h Q :=
  b_Law_hasText_0 (d := d) (kt := fun c => (t_Law_hasText_11 (am_ift e c) q)) (kf := fun c => (t_Law_hasText_7 (am_ife e c) q))
theorem c_Law_hasText {d : Nat} {h : am_H} {Q : am_Q} {res : Bool} (e : f_Law_hasText h = res) (q : Q (some (.int (am_b res))) h) : m_Law_hasText d [.ref 6] h Q :=
  e_Law_hasText (t_Law_hasText_0 e q)
theorem d_Law_nameNumbers_0 : decode prog_6_method_18_code 0 = .ok (.aload_n 0, 1) := by decide +kernel
theorem d_Law_nameNumbers_1 : decode prog_6_method_18_code 1 = .ok (.getfield 24, 3) := by decide +kernel
theorem d_Law_nameNumbers_4 : decode prog_6_method_18_code 4 = .ok (.iconst 0, 1) := by decide +kernel
theorem d_Law_nameNumbers_5 : decode prog_6_method_18_code 5 = .ok (.iload_n 1, 1) := by decide +kernel
theorem d_Law_nameNumbers_6 : decode prog_6_method_18_code 6 = .ok (.iastore, 1) := by decide +kernel
theorem d_Law_nameNumbers_7 : decode prog_6_method_18_code 7 = .ok (.aload_n 0, 1) := by decide +kernel
theorem d_Law_nameNumbers_8 : decode prog_6_method_18_code 8 = .ok (.getfield 24, 3) := by decide +kernel
theorem d_Law_nameNumbers_11 : decode prog_6_method_18_code 11 = .ok (.iconst 1, 1) := by decide +kernel
theorem d_Law_nameNumbers_12 : decode prog_6_method_18_code 12 = .ok (.iload_n 2, 1) := by decide +kernel
theorem d_Law_nameNumbers_13 : decode prog_6_method_18_code 13 = .ok (.iastore, 1) := by decide +kernel
theorem d_Law_nameNumbers_14 : decode prog_6_method_18_code 14 = .ok (.aload_n 0, 1) := by decide +kernel
theorem d_Law_nameNumbers_15 : decode prog_6_method_18_code 15 = .ok (.getfield 24, 3) := by decide +kernel
theorem d_Law_nameNumbers_18 : decode prog_6_method_18_code 18 = .ok (.iconst 2, 1) := by decide +kernel
theorem d_Law_nameNumbers_19 : decode prog_6_method_18_code 19 = .ok (.iload_n 3, 1) := by decide +kernel
theorem d_Law_nameNumbers_20 : decode prog_6_method_18_code 20 = .ok (.iastore, 1) := by decide +kernel
theorem d_Law_nameNumbers_21 : decode prog_6_method_18_code 21 = .ok (.aload_n 0, 1) := by decide +kernel
theorem d_Law_nameNumbers_22 : decode prog_6_method_18_code 22 = .ok (.getfield 24, 3) := by decide +kernel
theorem d_Law_nameNumbers_25 : decode prog_6_method_18_code 25 = .ok (.iconst 3, 1) := by decide +kernel
theorem d_Law_nameNumbers_26 : decode prog_6_method_18_code 26 = .ok (.iload 4, 2) := by decide +kernel
theorem d_Law_nameNumbers_28 : decode prog_6_method_18_code 28 = .ok (.iastore, 1) := by decide +kernel
theorem d_Law_nameNumbers_29 : decode prog_6_method_18_code 29 = .ok (.aload_n 0, 1) := by decide +kernel
theorem d_Law_nameNumbers_30 : decode prog_6_method_18_code 30 = .ok (.getfield 24, 3) := by decide +kernel
theorem d_Law_nameNumbers_33 : decode prog_6_method_18_code 33 = .ok (.iconst 4, 1) := by decide +kernel
theorem d_Law_nameNumbers_34 : decode prog_6_method_18_code 34 = .ok (.iload 5, 2) := by decide +kernel
theorem d_Law_nameNumbers_36 : decode prog_6_method_18_code 36 = .ok (.iastore, 1) := by decide +kernel
theorem d_Law_nameNumbers_37 : decode prog_6_method_18_code 37 = .ok (.aload_n 0, 1) := by decide +kernel
theorem d_Law_nameNumbers_38 : decode prog_6_method_18_code 38 = .ok (.getfield 24, 3) := by decide +kernel
theorem d_Law_nameNumbers_41 : decode prog_6_method_18_code 41 = .ok (.iconst 5, 1) := by decide +kernel
theorem d_Law_nameNumbers_42 : decode prog_6_method_18_code 42 = .ok (.iload 6, 2) := by decide +kernel
theorem d_Law_nameNumbers_44 : decode prog_6_method_18_code 44 = .ok (.iastore, 1) := by decide +kernel
theorem d_Law_nameNumbers_45 : decode prog_6_method_18_code 45 = .ok (.return_, 1) := by decide +kernel
theorem b_Law_nameNumbers_0 {d : Nat} {x1 : Int32} {x2 : Int32} {x3 : Int32} {x4 : Int32} {x5 : Int32} {x6 : Int32} {h : am_H} {Q : am_Q} (q : Q none (am_pI (am_pI (am_pI (am_pI (am_pI (am_pI h 11 (0 : Int32).toNatClampNeg x1) 11 (1 : Int32).toNatClampNeg x2) 11 (2 : Int32).toNatClampNeg x3) 11 (3 : Int32).toNatClampNeg x4) 11 (4 : Int32).toNatClampNeg x5) 11 (5 : Int32).toNatClampNeg x6)) : am_W (X_Law_nameNumbers d) 0 [some (.ref 6), some (.int x1), some (.int x2), some (.int x3), some (.int x4), some (.int x5), some (.int x6)] [] h Q :=
  am_aload_n d_Law_nameNumbers_0 rfl (i := 0) rfl <|
    am_getR (ci := 2) (i := 4) rfl rfl rfl (Nat.le_of_ble_eq_true rfl) w_164 d_Law_nameNumbers_1 <|
    am_iconst (v := 0) d_Law_nameNumbers_4 (by decide) <|
    am_iload_n d_Law_nameNumbers_5 rfl (i := 1) rfl <|
    am_iast rfl (am_vin (by decide)) d_Law_nameNumbers_6 <|
    am_aload_n d_Law_nameNumbers_7 rfl (i := 0) rfl <|
    am_getR (ci := 2) (i := 4) rfl rfl rfl (Nat.le_of_ble_eq_true rfl) w_164 d_Law_nameNumbers_8 <|
    am_iconst (v := 1) d_Law_nameNumbers_11 (by decide) <|
    am_iload_n d_Law_nameNumbers_12 rfl (i := 2) rfl <|
    am_iast rfl (am_vin (by decide)) d_Law_nameNumbers_13 <|
    am_aload_n d_Law_nameNumbers_14 rfl (i := 0) rfl <|
    am_getR (ci := 2) (i := 4) rfl rfl rfl (Nat.le_of_ble_eq_true rfl) w_164 d_Law_nameNumbers_15 <|
    am_iconst (v := 2) d_Law_nameNumbers_18 (by decide) <|
    am_iload_n d_Law_nameNumbers_19 rfl (i := 3) rfl <|
    am_iast rfl (am_vin (by decide)) d_Law_nameNumbers_20 <|
    am_aload_n d_Law_nameNumbers_21 rfl (i := 0) rfl <|
    am_getR (ci := 2) (i := 4) rfl rfl rfl (Nat.le_of_ble_eq_true rfl) w_164 d_Law_nameNumbers_22 <|
    am_iconst (v := 3) d_Law_nameNumbers_25 (by decide) <|
    am_iload d_Law_nameNumbers_26 rfl <|
    am_iast rfl (am_vin (by decide)) d_Law_nameNumbers_28 <|
    am_aload_n d_Law_nameNumbers_29 rfl (i := 0) rfl <|
    am_getR (ci := 2) (i := 4) rfl rfl rfl (Nat.le_of_ble_eq_true rfl) w_164 d_Law_nameNumbers_30 <|
    am_iconst (v := 4) d_Law_nameNumbers_33 (by decide) <|
    am_iload d_Law_nameNumbers_34 rfl <|
    am_iast rfl (am_vin (by decide)) d_Law_nameNumbers_36 <|
    am_aload_n d_Law_nameNumbers_37 rfl (i := 0) rfl <|
    am_getR (ci := 2) (i := 4) rfl rfl rfl (Nat.le_of_ble_eq_true rfl) w_164 d_Law_nameNumbers_38 <|
    am_iconst (v := 5) d_Law_nameNumbers_41 (by decide) <|
    am_iload d_Law_nameNumbers_42 rfl <|
    am_iast rfl (am_vin (by decide)) d_Law_nameNumbers_44 <|
    am_vret rfl d_Law_nameNumbers_45 q
theorem t_Law_nameNumbers_0 {d : Nat} {x1 : Int32} {x2 : Int32} {x3 : Int32} {x4 : Int32} {x5 : Int32} {x6 : Int32} {h : am_H} {Q : am_Q} {res : am_H} (e : f_Law_nameNumbers h x1 x2 x3 x4 x5 x6 = res) (q : Q none res) : am_W (X_Law_nameNumbers d) 0 [some (.ref 6), some (.int x1), some (.int x2), some (.int x3), some (.int x4), some (.int x5), some (.int x6)] [] h Q :=
  b_Law_nameNumbers_0 (d := d) (q := (am_rVti e q))
theorem c_Law_nameNumbers {d : Nat} {x1 : Int32} {x2 : Int32} {x3 : Int32} {x4 : Int32} {x5 : Int32} {x6 : Int32} {h : am_H} {Q : am_Q} {res : am_H} (e : f_Law_nameNumbers h x1 x2 x3 x4 x5 x6 = res) (q : Q none res) : m_Law_nameNumbers d [.ref 6, .int x1, .int x2, .int x3, .int x4, .int x5, .int x6] h Q :=
  e_Law_nameNumbers (t_Law_nameNumbers_0 e q)
theorem d_Law_join_0 : decode prog_6_method_21_code 0 = .ok (.iload_n 0, 1) := by decide +kernel
theorem d_Law_join_1 : decode prog_6_method_21_code 1 = .ok (.tableswitch 152 (-20) (-11) #[140, 128, 124, 120, 116, 105, 94, 83, 69, 55], 55) := by decide +kernel
theorem d_Law_join_56 : decode prog_6_method_21_code 56 = .ok (.iload_n 1, 1) := by decide +kernel
theorem d_Law_join_57 : decode prog_6_method_21_code 57 = .ok (.ifCond .ne 7, 3) := by decide +kernel
theorem d_Law_join_60 : decode prog_6_method_21_code 60 = .ok (.iload_n 2, 1) := by decide +kernel
theorem d_Law_join_61 : decode prog_6_method_21_code 61 = .ok (.ifCond .eq 7, 3) := by decide +kernel
theorem d_Law_join_64 : decode prog_6_method_21_code 64 = .ok (.iconst 1, 1) := by decide +kernel
theorem d_Law_join_65 : decode prog_6_method_21_code 65 = .ok (.goto 4, 3) := by decide +kernel
theorem d_Law_join_68 : decode prog_6_method_21_code 68 = .ok (.iconst 0, 1) := by decide +kernel
theorem d_Law_join_69 : decode prog_6_method_21_code 69 = .ok (.ireturn, 1) := by decide +kernel
theorem d_Law_join_70 : decode prog_6_method_21_code 70 = .ok (.iload_n 1, 1) := by decide +kernel
theorem d_Law_join_71 : decode prog_6_method_21_code 71 = .ok (.ifCond .eq 11, 3) := by decide +kernel
theorem d_Law_join_74 : decode prog_6_method_21_code 74 = .ok (.iload_n 2, 1) := by decide +kernel
theorem d_Law_join_75 : decode prog_6_method_21_code 75 = .ok (.ifCond .eq 7, 3) := by decide +kernel
theorem d_Law_join_78 : decode prog_6_method_21_code 78 = .ok (.iconst 1, 1) := by decide +kernel
theorem d_Law_join_79 : decode prog_6_method_21_code 79 = .ok (.goto 4, 3) := by decide +kernel
theorem d_Law_join_82 : decode prog_6_method_21_code 82 = .ok (.iconst 0, 1) := by decide +kernel
theorem d_Law_join_83 : decode prog_6_method_21_code 83 = .ok (.ireturn, 1) := by decide +kernel
theorem d_Law_join_84 : decode prog_6_method_21_code 84 = .ok (.iload_n 1, 1) := by decide +kernel
theorem d_Law_join_85 : decode prog_6_method_21_code 85 = .ok (.iload_n 2, 1) := by decide +kernel
theorem d_Law_join_86 : decode prog_6_method_21_code 86 = .ok (.if_icmp .ge 7, 3) := by decide +kernel
theorem d_Law_join_89 : decode prog_6_method_21_code 89 = .ok (.iconst 1, 1) := by decide +kernel
theorem d_Law_join_90 : decode prog_6_method_21_code 90 = .ok (.goto 4, 3) := by decide +kernel
theorem d_Law_join_93 : decode prog_6_method_21_code 93 = .ok (.iconst 0, 1) := by decide +kernel
theorem d_Law_join_94 : decode prog_6_method_21_code 94 = .ok (.ireturn, 1) := by decide +kernel
theorem d_Law_join_95 : decode prog_6_method_21_code 95 = .ok (.iload_n 1, 1) := by decide +kernel
theorem d_Law_join_96 : decode prog_6_method_21_code 96 = .ok (.iload_n 2, 1) := by decide +kernel
theorem d_Law_join_97 : decode prog_6_method_21_code 97 = .ok (.if_icmp .ne 7, 3) := by decide +kernel
theorem d_Law_join_100 : decode prog_6_method_21_code 100 = .ok (.iconst 1, 1) := by decide +kernel
theorem d_Law_join_101 : decode prog_6_method_21_code 101 = .ok (.goto 4, 3) := by decide +kernel
theorem d_Law_join_104 : decode prog_6_method_21_code 104 = .ok (.iconst 0, 1) := by decide +kernel
theorem d_Law_join_105 : decode prog_6_method_21_code 105 = .ok (.ireturn, 1) := by decide +kernel
theorem d_Law_join_106 : decode prog_6_method_21_code 106 = .ok (.iload_n 1, 1) := by decide +kernel
theorem d_Law_join_107 : decode prog_6_method_21_code 107 = .ok (.iload_n 2, 1) := by decide +kernel
theorem d_Law_join_108 : decode prog_6_method_21_code 108 = .ok (.if_icmp .le 7, 3) := by decide +kernel
theorem d_Law_join_111 : decode prog_6_method_21_code 111 = .ok (.iconst 1, 1) := by decide +kernel
theorem d_Law_join_112 : decode prog_6_method_21_code 112 = .ok (.goto 4, 3) := by decide +kernel
theorem d_Law_join_115 : decode prog_6_method_21_code 115 = .ok (.iconst 0, 1) := by decide +kernel
theorem d_Law_join_116 : decode prog_6_method_21_code 116 = .ok (.ireturn, 1) := by decide +kernel
theorem d_Law_join_117 : decode prog_6_method_21_code 117 = .ok (.iload_n 1, 1) := by decide +kernel
theorem d_Law_join_118 : decode prog_6_method_21_code 118 = .ok (.iload_n 2, 1) := by decide +kernel
theorem d_Law_join_119 : decode prog_6_method_21_code 119 = .ok (.iadd, 1) := by decide +kernel
theorem d_Law_join_120 : decode prog_6_method_21_code 120 = .ok (.ireturn, 1) := by decide +kernel
theorem d_Law_join_121 : decode prog_6_method_21_code 121 = .ok (.iload_n 1, 1) := by decide +kernel
theorem d_Law_join_122 : decode prog_6_method_21_code 122 = .ok (.iload_n 2, 1) := by decide +kernel
theorem d_Law_join_123 : decode prog_6_method_21_code 123 = .ok (.isub, 1) := by decide +kernel
theorem d_Law_join_124 : decode prog_6_method_21_code 124 = .ok (.ireturn, 1) := by decide +kernel
theorem d_Law_join_125 : decode prog_6_method_21_code 125 = .ok (.iload_n 1, 1) := by decide +kernel
theorem d_Law_join_126 : decode prog_6_method_21_code 126 = .ok (.iload_n 2, 1) := by decide +kernel
theorem d_Law_join_127 : decode prog_6_method_21_code 127 = .ok (.imul, 1) := by decide +kernel
theorem d_Law_join_128 : decode prog_6_method_21_code 128 = .ok (.ireturn, 1) := by decide +kernel
theorem d_Law_join_129 : decode prog_6_method_21_code 129 = .ok (.iload_n 2, 1) := by decide +kernel
theorem d_Law_join_130 : decode prog_6_method_21_code 130 = .ok (.ifCond .ne 7, 3) := by decide +kernel
theorem d_Law_join_133 : decode prog_6_method_21_code 133 = .ok (.iconst 0, 1) := by decide +kernel
theorem d_Law_join_134 : decode prog_6_method_21_code 134 = .ok (.goto 6, 3) := by decide +kernel
theorem d_Law_join_137 : decode prog_6_method_21_code 137 = .ok (.iload_n 1, 1) := by decide +kernel
theorem d_Law_join_138 : decode prog_6_method_21_code 138 = .ok (.iload_n 2, 1) := by decide +kernel
theorem d_Law_join_139 : decode prog_6_method_21_code 139 = .ok (.idiv, 1) := by decide +kernel
theorem d_Law_join_140 : decode prog_6_method_21_code 140 = .ok (.ireturn, 1) := by decide +kernel
theorem d_Law_join_141 : decode prog_6_method_21_code 141 = .ok (.iload_n 2, 1) := by decide +kernel
theorem d_Law_join_142 : decode prog_6_method_21_code 142 = .ok (.ifCond .ne 7, 3) := by decide +kernel
theorem d_Law_join_145 : decode prog_6_method_21_code 145 = .ok (.iconst 0, 1) := by decide +kernel
theorem d_Law_join_146 : decode prog_6_method_21_code 146 = .ok (.goto 6, 3) := by decide +kernel
theorem d_Law_join_149 : decode prog_6_method_21_code 149 = .ok (.iload_n 1, 1) := by decide +kernel
theorem d_Law_join_150 : decode prog_6_method_21_code 150 = .ok (.iload_n 2, 1) := by decide +kernel
theorem d_Law_join_151 : decode prog_6_method_21_code 151 = .ok (.irem, 1) := by decide +kernel
theorem d_Law_join_152 : decode prog_6_method_21_code 152 = .ok (.ireturn, 1) := by decide +kernel
theorem d_Law_join_153 : decode prog_6_method_21_code 153 = .ok (.iconst 0, 1) := by decide +kernel
theorem d_Law_join_154 : decode prog_6_method_21_code 154 = .ok (.ireturn, 1) := by decide +kernel
theorem b_Law_join_0 {d : Nat} {x0 : Int32} {x1 : Int32} {x2 : Int32} {h : am_H} {Q : am_Q} (km20 : x0 = (-20) → am_W (X_Law_join d) 141 [some (.int x0), some (.int x1), some (.int x2)] [] h Q) (km19 : x0 = (-19) → am_W (X_Law_join d) 129 [some (.int x0), some (.int x1), some (.int x2)] [] h Q) (km18 : x0 = (-18) → am_W (X_Law_join d) 125 [some (.int x0), some (.int x1), some (.int x2)] [] h Q) (km17 : x0 = (-17) → am_W (X_Law_join d) 121 [some (.int x0), some (.int x1), some (.int x2)] [] h Q) (km16 : x0 = (-16) → am_W (X_Law_join d) 117 [some (.int x0), some (.int x1), some (.int x2)] [] h Q) (km15 : x0 = (-15) → am_W (X_Law_join d) 106 [some (.int x0), some (.int x1), some (.int x2)] [] h Q) (km14 : x0 = (-14) → am_W (X_Law_join d) 95 [some (.int x0), some (.int x1), some (.int x2)] [] h Q) (km13 : x0 = (-13) → am_W (X_Law_join d) 84 [some (.int x0), some (.int x1), some (.int x2)] [] h Q) (km12 : x0 = (-12) → am_W (X_Law_join d) 70 [some (.int x0), some (.int x1), some (.int x2)] [] h Q) (km11 : x0 = (-11) → am_W (X_Law_join d) 56 [some (.int x0), some (.int x1), some (.int x2)] [] h Q) (kd : ¬ x0 = (-20) → ¬ x0 = (-19) → ¬ x0 = (-18) → ¬ x0 = (-17) → ¬ x0 = (-16) → ¬ x0 = (-15) → ¬ x0 = (-14) → ¬ x0 = (-13) → ¬ x0 = (-12) → ¬ x0 = (-11) → am_W (X_Law_join d) 153 [some (.int x0), some (.int x1), some (.int x2)] [] h Q) : am_W (X_Law_join d) 0 [some (.int x0), some (.int x1), some (.int x2)] [] h Q := by
  refine am_iload_n d_Law_join_0 rfl (i := 0) rfl ?_
  by_cases e0 : (x0 : Int32).toInt < -20 ∨ -11 < (x0 : Int32).toInt
  · exact am_tableOut (tgt := 153) d_Law_join_1 e0 (by decide) (kd (fun e => by rw [e] at e0; revert e0; decide) (fun e => by rw [e] at e0; revert e0; decide) (fun e => by rw [e] at e0; revert e0; decide) (fun e => by rw [e] at e0; revert e0; decide) (fun e => by rw [e] at e0; revert e0; decide) (fun e => by rw [e] at e0; revert e0; decide) (fun e => by rw [e] at e0; revert e0; decide) (fun e => by rw [e] at e0; revert e0; decide) (fun e => by rw [e] at e0; revert e0; decide) (fun e => by rw [e] at e0; revert e0; decide))
  by_cases e1 : x0 = (-20)
  · exact am_tableIn (tgt := 141) (off := 140) d_Law_join_1 (fun e => e0 (Or.inl e)) (fun e => e0 (Or.inr e)) (by rw [e1]; decide +kernel) (by decide) (km20 e1)
  by_cases e2 : x0 = (-19)
  · exact am_tableIn (tgt := 129) (off := 128) d_Law_join_1 (fun e => e0 (Or.inl e)) (fun e => e0 (Or.inr e)) (by rw [e2]; decide +kernel) (by decide) (km19 e2)
  by_cases e3 : x0 = (-18)
  · exact am_tableIn (tgt := 125) (off := 124) d_Law_join_1 (fun e => e0 (Or.inl e)) (fun e => e0 (Or.inr e)) (by rw [e3]; decide +kernel) (by decide) (km18 e3)
  by_cases e4 : x0 = (-17)
  · exact am_tableIn (tgt := 121) (off := 120) d_Law_join_1 (fun e => e0 (Or.inl e)) (fun e => e0 (Or.inr e)) (by rw [e4]; decide +kernel) (by decide) (km17 e4)
  by_cases e5 : x0 = (-16)
  · exact am_tableIn (tgt := 117) (off := 116) d_Law_join_1 (fun e => e0 (Or.inl e)) (fun e => e0 (Or.inr e)) (by rw [e5]; decide +kernel) (by decide) (km16 e5)
  by_cases e6 : x0 = (-15)
  · exact am_tableIn (tgt := 106) (off := 105) d_Law_join_1 (fun e => e0 (Or.inl e)) (fun e => e0 (Or.inr e)) (by rw [e6]; decide +kernel) (by decide) (km15 e6)
  by_cases e7 : x0 = (-14)
  · exact am_tableIn (tgt := 95) (off := 94) d_Law_join_1 (fun e => e0 (Or.inl e)) (fun e => e0 (Or.inr e)) (by rw [e7]; decide +kernel) (by decide) (km14 e7)
  by_cases e8 : x0 = (-13)
  · exact am_tableIn (tgt := 84) (off := 83) d_Law_join_1 (fun e => e0 (Or.inl e)) (fun e => e0 (Or.inr e)) (by rw [e8]; decide +kernel) (by decide) (km13 e8)
  by_cases e9 : x0 = (-12)
  · exact am_tableIn (tgt := 70) (off := 69) d_Law_join_1 (fun e => e0 (Or.inl e)) (fun e => e0 (Or.inr e)) (by rw [e9]; decide +kernel) (by decide) (km12 e9)
  by_cases e10 : x0 = (-11)
  · exact am_tableIn (tgt := 56) (off := 55) d_Law_join_1 (fun e => e0 (Or.inl e)) (fun e => e0 (Or.inr e)) (by rw [e10]; decide +kernel) (by decide) (km11 e10)
  exfalso
  simp only [← Int32.toInt_inj] at e1 e2 e3 e4 e5 e6 e7 e8 e9 e10
  simp only [Int32.reduceToInt] at e1 e2 e3 e4 e5 e6 e7 e8 e9 e10
  omega
theorem b_Law_join_56 {d : Nat} {x0 : Int32} {x1 : Int32} {x2 : Int32} {h : am_H} {Q : am_Q} (kt : ¬ x1 = 0 → am_W (X_Law_join d) 64 [some (.int x0), some (.int x1), some (.int x2)] [] h Q) (kf : x1 = 0 → am_W (X_Law_join d) 60 [some (.int x0), some (.int x1), some (.int x2)] [] h Q) : am_W (X_Law_join d) 56 [some (.int x0), some (.int x1), some (.int x2)] [] h Q :=
  am_iload_n d_Law_join_56 rfl (i := 1) rfl <|
    am_if_ne (tgt := 64) d_Law_join_57 (by decide) kt kf
theorem b_Law_join_60 {d : Nat} {x0 : Int32} {x1 : Int32} {x2 : Int32} {h : am_H} {Q : am_Q} (kt : x2 = 0 → am_W (X_Law_join d) 68 [some (.int x0), some (.int x1), some (.int x2)] [] h Q) (kf : ¬ x2 = 0 → am_W (X_Law_join d) 64 [some (.int x0), some (.int x1), some (.int x2)] [] h Q) : am_W (X_Law_join d) 60 [some (.int x0), some (.int x1), some (.int x2)] [] h Q :=
  am_iload_n d_Law_join_60 rfl (i := 2) rfl <|
    am_if_eq (tgt := 68) d_Law_join_61 (by decide) kt kf
theorem b_Law_join_64 {d : Nat} {x0 : Int32} {x1 : Int32} {x2 : Int32} {h : am_H} {Q : am_Q} (q : Q (some (.int 1)) h) : am_W (X_Law_join d) 64 [some (.int x0), some (.int x1), some (.int x2)] [] h Q :=
  am_iconst (v := 1) d_Law_join_64 (by decide) <|
    am_goto (tgt := 69) d_Law_join_65 (by decide) <|
    am_iret rfl d_Law_join_69 q
theorem b_Law_join_68 {d : Nat} {x0 : Int32} {x1 : Int32} {x2 : Int32} {h : am_H} {Q : am_Q} (q : Q (some (.int 0)) h) : am_W (X_Law_join d) 68 [some (.int x0), some (.int x1), some (.int x2)] [] h Q :=
  am_iconst (v := 0) d_Law_join_68 (by decide) <|
    am_iret rfl d_Law_join_69 q
theorem b_Law_join_70 {d : Nat} {x0 : Int32} {x1 : Int32} {x2 : Int32} {h : am_H} {Q : am_Q} (kt : x1 = 0 → am_W (X_Law_join d) 82 [some (.int x0), some (.int x1), some (.int x2)] [] h Q) (kf : ¬ x1 = 0 → am_W (X_Law_join d) 74 [some (.int x0), some (.int x1), some (.int x2)] [] h Q) : am_W (X_Law_join d) 70 [some (.int x0), some (.int x1), some (.int x2)] [] h Q :=
  am_iload_n d_Law_join_70 rfl (i := 1) rfl <|
    am_if_eq (tgt := 82) d_Law_join_71 (by decide) kt kf
theorem b_Law_join_74 {d : Nat} {x0 : Int32} {x1 : Int32} {x2 : Int32} {h : am_H} {Q : am_Q} (kt : x2 = 0 → am_W (X_Law_join d) 82 [some (.int x0), some (.int x1), some (.int x2)] [] h Q) (kf : ¬ x2 = 0 → am_W (X_Law_join d) 78 [some (.int x0), some (.int x1), some (.int x2)] [] h Q) : am_W (X_Law_join d) 74 [some (.int x0), some (.int x1), some (.int x2)] [] h Q :=
  am_iload_n d_Law_join_74 rfl (i := 2) rfl <|
    am_if_eq (tgt := 82) d_Law_join_75 (by decide) kt kf
theorem b_Law_join_78 {d : Nat} {x0 : Int32} {x1 : Int32} {x2 : Int32} {h : am_H} {Q : am_Q} (q : Q (some (.int 1)) h) : am_W (X_Law_join d) 78 [some (.int x0), some (.int x1), some (.int x2)] [] h Q :=
  am_iconst (v := 1) d_Law_join_78 (by decide) <|
    am_goto (tgt := 83) d_Law_join_79 (by decide) <|
    am_iret rfl d_Law_join_83 q
theorem b_Law_join_82 {d : Nat} {x0 : Int32} {x1 : Int32} {x2 : Int32} {h : am_H} {Q : am_Q} (q : Q (some (.int 0)) h) : am_W (X_Law_join d) 82 [some (.int x0), some (.int x1), some (.int x2)] [] h Q :=
  am_iconst (v := 0) d_Law_join_82 (by decide) <|
    am_iret rfl d_Law_join_83 q
theorem b_Law_join_84 {d : Nat} {x0 : Int32} {x1 : Int32} {x2 : Int32} {h : am_H} {Q : am_Q} (kt : x2 ≤ x1 → am_W (X_Law_join d) 93 [some (.int x0), some (.int x1), some (.int x2)] [] h Q) (kf : ¬ x2 ≤ x1 → am_W (X_Law_join d) 89 [some (.int x0), some (.int x1), some (.int x2)] [] h Q) : am_W (X_Law_join d) 84 [some (.int x0), some (.int x1), some (.int x2)] [] h Q :=
  am_iload_n d_Law_join_84 rfl (i := 1) rfl <|
    am_iload_n d_Law_join_85 rfl (i := 2) rfl <|
    am_icmp_ge (tgt := 93) d_Law_join_86 (by decide) kt kf
theorem b_Law_join_89 {d : Nat} {x0 : Int32} {x1 : Int32} {x2 : Int32} {h : am_H} {Q : am_Q} (q : Q (some (.int 1)) h) : am_W (X_Law_join d) 89 [some (.int x0), some (.int x1), some (.int x2)] [] h Q :=
  am_iconst (v := 1) d_Law_join_89 (by decide) <|
    am_goto (tgt := 94) d_Law_join_90 (by decide) <|
    am_iret rfl d_Law_join_94 q
theorem b_Law_join_93 {d : Nat} {x0 : Int32} {x1 : Int32} {x2 : Int32} {h : am_H} {Q : am_Q} (q : Q (some (.int 0)) h) : am_W (X_Law_join d) 93 [some (.int x0), some (.int x1), some (.int x2)] [] h Q :=
  am_iconst (v := 0) d_Law_join_93 (by decide) <|
    am_iret rfl d_Law_join_94 q
theorem b_Law_join_95 {d : Nat} {x0 : Int32} {x1 : Int32} {x2 : Int32} {h : am_H} {Q : am_Q} (kt : ¬ x1 = x2 → am_W (X_Law_join d) 104 [some (.int x0), some (.int x1), some (.int x2)] [] h Q) (kf : x1 = x2 → am_W (X_Law_join d) 100 [some (.int x0), some (.int x1), some (.int x2)] [] h Q) : am_W (X_Law_join d) 95 [some (.int x0), some (.int x1), some (.int x2)] [] h Q :=
  am_iload_n d_Law_join_95 rfl (i := 1) rfl <|
    am_iload_n d_Law_join_96 rfl (i := 2) rfl <|
    am_icmp_ne (tgt := 104) d_Law_join_97 (by decide) kt kf
theorem b_Law_join_100 {d : Nat} {x0 : Int32} {x1 : Int32} {x2 : Int32} {h : am_H} {Q : am_Q} (q : Q (some (.int 1)) h) : am_W (X_Law_join d) 100 [some (.int x0), some (.int x1), some (.int x2)] [] h Q :=
  am_iconst (v := 1) d_Law_join_100 (by decide) <|
    am_goto (tgt := 105) d_Law_join_101 (by decide) <|
    am_iret rfl d_Law_join_105 q
theorem b_Law_join_104 {d : Nat} {x0 : Int32} {x1 : Int32} {x2 : Int32} {h : am_H} {Q : am_Q} (q : Q (some (.int 0)) h) : am_W (X_Law_join d) 104 [some (.int x0), some (.int x1), some (.int x2)] [] h Q :=
  am_iconst (v := 0) d_Law_join_104 (by decide) <|
    am_iret rfl d_Law_join_105 q
theorem b_Law_join_106 {d : Nat} {x0 : Int32} {x1 : Int32} {x2 : Int32} {h : am_H} {Q : am_Q} (kt : x1 ≤ x2 → am_W (X_Law_join d) 115 [some (.int x0), some (.int x1), some (.int x2)] [] h Q) (kf : ¬ x1 ≤ x2 → am_W (X_Law_join d) 111 [some (.int x0), some (.int x1), some (.int x2)] [] h Q) : am_W (X_Law_join d) 106 [some (.int x0), some (.int x1), some (.int x2)] [] h Q :=
  am_iload_n d_Law_join_106 rfl (i := 1) rfl <|
    am_iload_n d_Law_join_107 rfl (i := 2) rfl <|
    am_icmp_le (tgt := 115) d_Law_join_108 (by decide) kt kf
theorem b_Law_join_111 {d : Nat} {x0 : Int32} {x1 : Int32} {x2 : Int32} {h : am_H} {Q : am_Q} (q : Q (some (.int 1)) h) : am_W (X_Law_join d) 111 [some (.int x0), some (.int x1), some (.int x2)] [] h Q :=
  am_iconst (v := 1) d_Law_join_111 (by decide) <|
    am_goto (tgt := 116) d_Law_join_112 (by decide) <|
    am_iret rfl d_Law_join_116 q
theorem b_Law_join_115 {d : Nat} {x0 : Int32} {x1 : Int32} {x2 : Int32} {h : am_H} {Q : am_Q} (q : Q (some (.int 0)) h) : am_W (X_Law_join d) 115 [some (.int x0), some (.int x1), some (.int x2)] [] h Q :=
  am_iconst (v := 0) d_Law_join_115 (by decide) <|
    am_iret rfl d_Law_join_116 q
theorem b_Law_join_117 {d : Nat} {x0 : Int32} {x1 : Int32} {x2 : Int32} {h : am_H} {Q : am_Q} (q : Q (some (.int (x1 + x2))) h) : am_W (X_Law_join d) 117 [some (.int x0), some (.int x1), some (.int x2)] [] h Q :=
  am_iload_n d_Law_join_117 rfl (i := 1) rfl <|
    am_iload_n d_Law_join_118 rfl (i := 2) rfl <|
    am_iadd d_Law_join_119 <|
    am_iret rfl d_Law_join_120 q
theorem b_Law_join_121 {d : Nat} {x0 : Int32} {x1 : Int32} {x2 : Int32} {h : am_H} {Q : am_Q} (q : Q (some (.int (x1 - x2))) h) : am_W (X_Law_join d) 121 [some (.int x0), some (.int x1), some (.int x2)] [] h Q :=
  am_iload_n d_Law_join_121 rfl (i := 1) rfl <|
    am_iload_n d_Law_join_122 rfl (i := 2) rfl <|
    am_isub d_Law_join_123 <|
    am_iret rfl d_Law_join_124 q
theorem b_Law_join_125 {d : Nat} {x0 : Int32} {x1 : Int32} {x2 : Int32} {h : am_H} {Q : am_Q} (q : Q (some (.int (x1 * x2))) h) : am_W (X_Law_join d) 125 [some (.int x0), some (.int x1), some (.int x2)] [] h Q :=
  am_iload_n d_Law_join_125 rfl (i := 1) rfl <|
    am_iload_n d_Law_join_126 rfl (i := 2) rfl <|
    am_imul d_Law_join_127 <|
    am_iret rfl d_Law_join_128 q
theorem b_Law_join_129 {d : Nat} {x0 : Int32} {x1 : Int32} {x2 : Int32} {h : am_H} {Q : am_Q} (kt : ¬ x2 = 0 → am_W (X_Law_join d) 137 [some (.int x0), some (.int x1), some (.int x2)] [] h Q) (kf : x2 = 0 → am_W (X_Law_join d) 133 [some (.int x0), some (.int x1), some (.int x2)] [] h Q) : am_W (X_Law_join d) 129 [some (.int x0), some (.int x1), some (.int x2)] [] h Q :=
  am_iload_n d_Law_join_129 rfl (i := 2) rfl <|
    am_if_ne (tgt := 137) d_Law_join_130 (by decide) kt kf
theorem b_Law_join_133 {d : Nat} {x0 : Int32} {x1 : Int32} {x2 : Int32} {h : am_H} {Q : am_Q} (q : Q (some (.int 0)) h) : am_W (X_Law_join d) 133 [some (.int x0), some (.int x1), some (.int x2)] [] h Q :=
  am_iconst (v := 0) d_Law_join_133 (by decide) <|
    am_goto (tgt := 140) d_Law_join_134 (by decide) <|
    am_iret rfl d_Law_join_140 q
theorem b_Law_join_137 {d : Nat} {x0 : Int32} {x1 : Int32} {x2 : Int32} {h : am_H} {Q : am_Q} (q0 : ¬ x2 = 0) (q : Q (some (.int (x1 / x2))) h) : am_W (X_Law_join d) 137 [some (.int x0), some (.int x1), some (.int x2)] [] h Q :=
  am_iload_n d_Law_join_137 rfl (i := 1) rfl <|
    am_iload_n d_Law_join_138 rfl (i := 2) rfl <|
    am_idiv d_Law_join_139 q0 <|
    am_iret rfl d_Law_join_140 q
theorem b_Law_join_141 {d : Nat} {x0 : Int32} {x1 : Int32} {x2 : Int32} {h : am_H} {Q : am_Q} (kt : ¬ x2 = 0 → am_W (X_Law_join d) 149 [some (.int x0), some (.int x1), some (.int x2)] [] h Q) (kf : x2 = 0 → am_W (X_Law_join d) 145 [some (.int x0), some (.int x1), some (.int x2)] [] h Q) : am_W (X_Law_join d) 141 [some (.int x0), some (.int x1), some (.int x2)] [] h Q :=
  am_iload_n d_Law_join_141 rfl (i := 2) rfl <|
    am_if_ne (tgt := 149) d_Law_join_142 (by decide) kt kf
theorem b_Law_join_145 {d : Nat} {x0 : Int32} {x1 : Int32} {x2 : Int32} {h : am_H} {Q : am_Q} (q : Q (some (.int 0)) h) : am_W (X_Law_join d) 145 [some (.int x0), some (.int x1), some (.int x2)] [] h Q :=
  am_iconst (v := 0) d_Law_join_145 (by decide) <|
    am_goto (tgt := 152) d_Law_join_146 (by decide) <|
    am_iret rfl d_Law_join_152 q
theorem b_Law_join_149 {d : Nat} {x0 : Int32} {x1 : Int32} {x2 : Int32} {h : am_H} {Q : am_Q} (q0 : ¬ x2 = 0) (q : Q (some (.int (x1 - x1 / x2 * x2))) h) : am_W (X_Law_join d) 149 [some (.int x0), some (.int x1), some (.int x2)] [] h Q :=
  am_iload_n d_Law_join_149 rfl (i := 1) rfl <|
    am_iload_n d_Law_join_150 rfl (i := 2) rfl <|
    am_irem d_Law_join_151 q0 <|
    am_iret rfl d_Law_join_152 q
theorem b_Law_join_153 {d : Nat} {x0 : Int32} {x1 : Int32} {x2 : Int32} {h : am_H} {Q : am_Q} (q : Q (some (.int 0)) h) : am_W (X_Law_join d) 153 [some (.int x0), some (.int x1), some (.int x2)] [] h Q :=
  am_iconst (v := 0) d_Law_join_153 (by decide) <|
    am_iret rfl d_Law_join_154 q
theorem t_Law_join_149 {d : Nat} {x0 : Int32} {x1 : Int32} {x2 : Int32} {h : am_H} {Q : am_Q} {res : Int32} (e : f_Law_join_149 x1 x2 = some res) (q : Q (some (.int res)) h) : am_W (X_Law_join d) 149 [some (.int x0), some (.int x1), some (.int x2)] [] h Q :=
  b_Law_join_149 (d := d) (q0 := (am_gd e)) (q := (am_rIp (v := (x1 - x1 / x2 * x2)) (am_ga e) q))
theorem t_Law_join_145 {d : Nat} {x0 : Int32} {x1 : Int32} {x2 : Int32} {h : am_H} {Q : am_Q} {res : Int32} (e : f_Law_join_145 = some res) (q : Q (some (.int res)) h) : am_W (X_Law_join d) 145 [some (.int x0), some (.int x1), some (.int x2)] [] h Q :=
  b_Law_join_145 (d := d) (q := (am_rIp (v := 0) e q))
theorem t_Law_join_141 {d : Nat} {x0 : Int32} {x1 : Int32} {x2 : Int32} {h : am_H} {Q : am_Q} {res : Int32} (e : f_Law_join_141 x1 x2 = some res) (q : Q (some (.int res)) h) : am_W (X_Law_join d) 141 [some (.int x0), some (.int x1), some (.int x2)] [] h Q :=
  b_Law_join_141 (d := d) (kt := fun c => (t_Law_join_149 (am_ife e c) q)) (kf := fun c => (t_Law_join_145 (am_ift e c) q))
theorem t_Law_join_137 {d : Nat} {x0 : Int32} {x1 : Int32} {x2 : Int32} {h : am_H} {Q : am_Q} {res : Int32} (e : f_Law_join_137 x1 x2 = some res) (q : Q (some (.int res)) h) : am_W (X_Law_join d) 137 [some (.int x0), some (.int x1), some (.int x2)] [] h Q :=
  b_Law_join_137 (d := d) (q0 := (am_gd e)) (q := (am_rIp (v := (x1 / x2)) (am_ga e) q))
theorem t_Law_join_133 {d : Nat} {x0 : Int32} {x1 : Int32} {x2 : Int32} {h : am_H} {Q : am_Q} {res : Int32} (e : f_Law_join_133 = some res) (q : Q (some (.int res)) h) : am_W (X_Law_join d) 133 [some (.int x0), some (.int x1), some (.int x2)] [] h Q :=
  b_Law_join_133 (d := d) (q := (am_rIp (v := 0) e q))
theorem t_Law_join_129 {d : Nat} {x0 : Int32} {x1 : Int32} {x2 : Int32} {h : am_H} {Q : am_Q} {res : Int32} (e : f_Law_join_129 x1 x2 = some res) (q : Q (some (.int res)) h) : am_W (X_Law_join d) 129 [some (.int x0), some (.int x1), some (.int x2)] [] h Q :=
  b_Law_join_129 (d := d) (kt := fun c => (t_Law_join_137 (am_ife e c) q)) (kf := fun c => (t_Law_join_133 (am_ift e c) q))
theorem t_Law_join_125 {d : Nat} {x0 : Int32} {x1 : Int32} {x2 : Int32} {h : am_H} {Q : am_Q} {res : Int32} (e : f_Law_join_125 x1 x2 = some res) (q : Q (some (.int res)) h) : am_W (X_Law_join d) 125 [some (.int x0), some (.int x1), some (.int x2)] [] h Q :=
  b_Law_join_125 (d := d) (q := (am_rIp (v := (x1 * x2)) e q))
theorem t_Law_join_121 {d : Nat} {x0 : Int32} {x1 : Int32} {x2 : Int32} {h : am_H} {Q : am_Q} {res : Int32} (e : f_Law_join_121 x1 x2 = some res) (q : Q (some (.int res)) h) : am_W (X_Law_join d) 121 [some (.int x0), some (.int x1), some (.int x2)] [] h Q :=
  b_Law_join_121 (d := d) (q := (am_rIp (v := (x1 - x2)) e q))
theorem t_Law_join_117 {d : Nat} {x0 : Int32} {x1 : Int32} {x2 : Int32} {h : am_H} {Q : am_Q} {res : Int32} (e : f_Law_join_117 x1 x2 = some res) (q : Q (some (.int res)) h) : am_W (X_Law_join d) 117 [some (.int x0), some (.int x1), some (.int x2)] [] h Q :=
  b_Law_join_117 (d := d) (q := (am_rIp (v := (x1 + x2)) e q))
theorem t_Law_join_115 {d : Nat} {x0 : Int32} {x1 : Int32} {x2 : Int32} {h : am_H} {Q : am_Q} {res : Int32} (e : f_Law_join_115 = some res) (q : Q (some (.int res)) h) : am_W (X_Law_join d) 115 [some (.int x0), some (.int x1), some (.int x2)] [] h Q :=
  b_Law_join_115 (d := d) (q := (am_rIp (v := 0) e q))
theorem t_Law_join_111 {d : Nat} {x0 : Int32} {x1 : Int32} {x2 : Int32} {h : am_H} {Q : am_Q} {res : Int32} (e : f_Law_join_111 = some res) (q : Q (some (.int res)) h) : am_W (X_Law_join d) 111 [some (.int x0), some (.int x1), some (.int x2)] [] h Q :=
  b_Law_join_111 (d := d) (q := (am_rIp (v := 1) e q))
theorem t_Law_join_106 {d : Nat} {x0 : Int32} {x1 : Int32} {x2 : Int32} {h : am_H} {Q : am_Q} {res : Int32} (e : f_Law_join_106 x1 x2 = some res) (q : Q (some (.int res)) h) : am_W (X_Law_join d) 106 [some (.int x0), some (.int x1), some (.int x2)] [] h Q :=
  b_Law_join_106 (d := d) (kt := fun c => (t_Law_join_115 (am_ift e c) q)) (kf := fun c => (t_Law_join_111 (am_ife e c) q))
theorem t_Law_join_104 {d : Nat} {x0 : Int32} {x1 : Int32} {x2 : Int32} {h : am_H} {Q : am_Q} {res : Int32} (e : f_Law_join_104 = some res) (q : Q (some (.int res)) h) : am_W (X_Law_join d) 104 [some (.int x0), some (.int x1), some (.int x2)] [] h Q :=
  b_Law_join_104 (d := d) (q := (am_rIp (v := 0) e q))
theorem t_Law_join_100 {d : Nat} {x0 : Int32} {x1 : Int32} {x2 : Int32} {h : am_H} {Q : am_Q} {res : Int32} (e : f_Law_join_100 = some res) (q : Q (some (.int res)) h) : am_W (X_Law_join d) 100 [some (.int x0), some (.int x1), some (.int x2)] [] h Q :=
  b_Law_join_100 (d := d) (q := (am_rIp (v := 1) e q))
theorem t_Law_join_95 {d : Nat} {x0 : Int32} {x1 : Int32} {x2 : Int32} {h : am_H} {Q : am_Q} {res : Int32} (e : f_Law_join_95 x1 x2 = some res) (q : Q (some (.int res)) h) : am_W (X_Law_join d) 95 [some (.int x0), some (.int x1), some (.int x2)] [] h Q :=
  b_Law_join_95 (d := d) (kt := fun c => (t_Law_join_104 (am_ife e c) q)) (kf := fun c => (t_Law_join_100 (am_ift e c) q))
theorem t_Law_join_93 {d : Nat} {x0 : Int32} {x1 : Int32} {x2 : Int32} {h : am_H} {Q : am_Q} {res : Int32} (e : f_Law_join_93 = some res) (q : Q (some (.int res)) h) : am_W (X_Law_join d) 93 [some (.int x0), some (.int x1), some (.int x2)] [] h Q :=
  b_Law_join_93 (d := d) (q := (am_rIp (v := 0) e q))
theorem t_Law_join_89 {d : Nat} {x0 : Int32} {x1 : Int32} {x2 : Int32} {h : am_H} {Q : am_Q} {res : Int32} (e : f_Law_join_89 = some res) (q : Q (some (.int res)) h) : am_W (X_Law_join d) 89 [some (.int x0), some (.int x1), some (.int x2)] [] h Q :=
  b_Law_join_89 (d := d) (q := (am_rIp (v := 1) e q))
theorem t_Law_join_84 {d : Nat} {x0 : Int32} {x1 : Int32} {x2 : Int32} {h : am_H} {Q : am_Q} {res : Int32} (e : f_Law_join_84 x1 x2 = some res) (q : Q (some (.int res)) h) : am_W (X_Law_join d) 84 [some (.int x0), some (.int x1), some (.int x2)] [] h Q :=
  b_Law_join_84 (d := d) (kt := fun c => (t_Law_join_93 (am_ift e c) q)) (kf := fun c => (t_Law_join_89 (am_ife e c) q))
theorem t_Law_join_82 {d : Nat} {x0 : Int32} {x1 : Int32} {x2 : Int32} {h : am_H} {Q : am_Q} {res : Int32} (e : f_Law_join_82 = some res) (q : Q (some (.int res)) h) : am_W (X_Law_join d) 82 [some (.int x0), some (.int x1), some (.int x2)] [] h Q :=
  b_Law_join_82 (d := d) (q := (am_rIp (v := 0) e q))
theorem t_Law_join_78 {d : Nat} {x0 : Int32} {x1 : Int32} {x2 : Int32} {h : am_H} {Q : am_Q} {res : Int32} (e : f_Law_join_78 = some res) (q : Q (some (.int res)) h) : am_W (X_Law_join d) 78 [some (.int x0), some (.int x1), some (.int x2)] [] h Q :=
  b_Law_join_78 (d := d) (q := (am_rIp (v := 1) e q))
theorem t_Law_join_74 {d : Nat} {x0 : Int32} {x1 : Int32} {x2 : Int32} {h : am_H} {Q : am_Q} {res : Int32} (e : f_Law_join_74 x2 = some res) (q : Q (some (.int res)) h) : am_W (X_Law_join d) 74 [some (.int x0), some (.int x1), some (.int x2)] [] h Q :=
  b_Law_join_74 (d := d) (kt := fun c => (t_Law_join_82 (am_ift e c) q)) (kf := fun c => (t_Law_join_78 (am_ife e c) q))
theorem t_Law_join_70 {d : Nat} {x0 : Int32} {x1 : Int32} {x2 : Int32} {h : am_H} {Q : am_Q} {res : Int32} (e : f_Law_join_70 x1 x2 = some res) (q : Q (some (.int res)) h) : am_W (X_Law_join d) 70 [some (.int x0), some (.int x1), some (.int x2)] [] h Q :=
  b_Law_join_70 (d := d) (kt := fun c => (t_Law_join_82 (am_ift e c) q)) (kf := fun c => (t_Law_join_74 (am_ife e c) q))
theorem t_Law_join_64 {d : Nat} {x0 : Int32} {x1 : Int32} {x2 : Int32} {h : am_H} {Q : am_Q} {res : Int32} (e : f_Law_join_64 = some res) (q : Q (some (.int res)) h) : am_W (X_Law_join d) 64 [some (.int x0), some (.int x1), some (.int x2)] [] h Q :=
  b_Law_join_64 (d := d) (q := (am_rIp (v := 1) e q))
theorem t_Law_join_68 {d : Nat} {x0 : Int32} {x1 : Int32} {x2 : Int32} {h : am_H} {Q : am_Q} {res : Int32} (e : f_Law_join_68 = some res) (q : Q (some (.int res)) h) : am_W (X_Law_join d) 68 [some (.int x0), some (.int x1), some (.int x2)] [] h Q :=
  b_Law_join_68 (d := d) (q := (am_rIp (v := 0) e q))
theorem t_Law_join_60 {d : Nat} {x0 : Int32} {x1 : Int32} {x2 : Int32} {h : am_H} {Q : am_Q} {res : Int32} (e : f_Law_join_60 x2 = some res) (q : Q (some (.int res)) h) : am_W (X_Law_join d) 60 [some (.int x0), some (.int x1), some (.int x2)] [] h Q :=
  b_Law_join_60 (d := d) (kt := fun c => (t_Law_join_68 (am_ift e c) q)) (kf := fun c => (t_Law_join_64 (am_ife e c) q))
theorem t_Law_join_56 {d : Nat} {x0 : Int32} {x1 : Int32} {x2 : Int32} {h : am_H} {Q : am_Q} {res : Int32} (e : f_Law_join_56 x1 x2 = some res) (q : Q (some (.int res)) h) : am_W (X_Law_join d) 56 [some (.int x0), some (.int x1), some (.int x2)] [] h Q :=
  b_Law_join_56 (d := d) (kt := fun c => (t_Law_join_64 (am_ife e c) q)) (kf := fun c => (t_Law_join_60 (am_ift e c) q))
theorem t_Law_join_153 {d : Nat} {x0 : Int32} {x1 : Int32} {x2 : Int32} {h : am_H} {Q : am_Q} {res : Int32} (e : f_Law_join_153 = some res) (q : Q (some (.int res)) h) : am_W (X_Law_join d) 153 [some (.int x0), some (.int x1), some (.int x2)] [] h Q :=
  b_Law_join_153 (d := d) (q := (am_rIp (v := 0) e q))
theorem t_Law_join_0 {d : Nat} {x0 : Int32} {x1 : Int32} {x2 : Int32} {h : am_H} {Q : am_Q} {res : Int32} (e : f_Law_join x0 x1 x2 = some res) (q : Q (some (.int res)) h) : am_W (X_Law_join d) 0 [some (.int x0), some (.int x1), some (.int x2)] [] h Q :=
  b_Law_join_0 (d := d) (km20 := fun c => (t_Law_join_141 (am_ift e c) q)) (km19 := fun c => (t_Law_join_129 (am_ift (am_ife e (fun z => absurd (c.symm.trans z) (by decide))) c) q)) (km18 := fun c => (t_Law_join_125 (am_ift (am_ife (am_ife e (fun z => absurd (c.symm.trans z) (by decide))) (fun z => absurd (c.symm.trans z) (by decide))) c) q)) (km17 := fun c => (t_Law_join_121 (am_ift (am_ife (am_ife (am_ife e (fun z => absurd (c.symm.trans z) (by decide))) (fun z => absurd (c.symm.trans z) (by decide))) (fun z => absurd (c.symm.trans z) (by decide))) c) q)) (km16 := fun c => (t_Law_join_117 (am_ift (am_ife (am_ife (am_ife (am_ife e (fun z => absurd (c.symm.trans z) (by decide))) (fun z => absurd (c.symm.trans z) (by decide))) (fun z => absurd (c.symm.trans z) (by decide))) (fun z => absurd (c.symm.trans z) (by decide))) c) q)) (km15 := fun c => (t_Law_join_106 (am_ift (am_ife (am_ife (am_ife (am_ife (am_ife e (fun z => absurd (c.symm.trans z) (by decide))) (fun z => absurd (c.symm.trans z) (by decide))) (fun z => absurd (c.symm.trans z) (by decide))) (fun z => absurd (c.symm.trans z) (by decide))) (fun z => absurd (c.symm.trans z) (by decide))) c) q)) (km14 := fun c => (t_Law_join_95 (am_ift (am_ife (am_ife (am_ife (am_ife (am_ife (am_ife e (fun z => absurd (c.symm.trans z) (by decide))) (fun z => absurd (c.symm.trans z) (by decide))) (fun z => absurd (c.symm.trans z) (by decide))) (fun z => absurd (c.symm.trans z) (by decide))) (fun z => absurd (c.symm.trans z) (by decide))) (fun z => absurd (c.symm.trans z) (by decide))) c) q)) (km13 := fun c => (t_Law_join_84 (am_ift (am_ife (am_ife (am_ife (am_ife (am_ife (am_ife (am_ife e (fun z => absurd (c.symm.trans z) (by decide))) (fun z => absurd (c.symm.trans z) (by decide))) (fun z => absurd (c.symm.trans z) (by decide))) (fun z => absurd (c.symm.trans z) (by decide))) (fun z => absurd (c.symm.trans z) (by decide))) (fun z => absurd (c.symm.trans z) (by decide))) (fun z => absurd (c.symm.trans z) (by decide))) c) q)) (km12 := fun c => (t_Law_join_70 (am_ift (am_ife (am_ife (am_ife (am_ife (am_ife (am_ife (am_ife (am_ife e (fun z => absurd (c.symm.trans z) (by decide))) (fun z => absurd (c.symm.trans z) (by decide))) (fun z => absurd (c.symm.trans z) (by decide))) (fun z => absurd (c.symm.trans z) (by decide))) (fun z => absurd (c.symm.trans z) (by decide))) (fun z => absurd (c.symm.trans z) (by decide))) (fun z => absurd (c.symm.trans z) (by decide))) (fun z => absurd (c.symm.trans z) (by decide))) c) q)) (km11 := fun c => (t_Law_join_56 (am_ift (am_ife (am_ife (am_ife (am_ife (am_ife (am_ife (am_ife (am_ife (am_ife e (fun z => absurd (c.symm.trans z) (by decide))) (fun z => absurd (c.symm.trans z) (by decide))) (fun z => absurd (c.symm.trans z) (by decide))) (fun z => absurd (c.symm.trans z) (by decide))) (fun z => absurd (c.symm.trans z) (by decide))) (fun z => absurd (c.symm.trans z) (by decide))) (fun z => absurd (c.symm.trans z) (by decide))) (fun z => absurd (c.symm.trans z) (by decide))) (fun z => absurd (c.symm.trans z) (by decide))) c) q)) (kd := fun c0 c1 c2 c3 c4 c5 c6 c7 c8 c9 => (t_Law_join_153 (am_ife (am_ife (am_ife (am_ife (am_ife (am_ife (am_ife (am_ife (am_ife (am_ife e c0) c1) c2) c3) c4) c5) c6) c7) c8) c9) q))
theorem c_Law_join {d : Nat} {x0 : Int32} {x1 : Int32} {x2 : Int32} {h : am_H} {Q : am_Q} {res : Int32} (e : f_Law_join x0 x1 x2 = some res) (q : Q (some (.int res)) h) : m_Law_join d [.int x0, .int x1, .int x2] h Q :=
  e_Law_join (t_Law_join_0 e q)
theorem d_Law_valueOf_0 : decode prog_6_method_20_code 0 = .ok (.iload_n 1, 1) := by decide +kernel
theorem d_Law_valueOf_1 : decode prog_6_method_20_code 1 = .ok (.ifCond .lt 5, 3) := by decide +kernel
theorem d_Law_valueOf_4 : decode prog_6_method_20_code 4 = .ok (.iload_n 1, 1) := by decide +kernel
theorem d_Law_valueOf_5 : decode prog_6_method_20_code 5 = .ok (.ireturn, 1) := by decide +kernel
theorem d_Law_valueOf_6 : decode prog_6_method_20_code 6 = .ok (.iconst (-1), 1) := by decide +kernel
theorem d_Law_valueOf_7 : decode prog_6_method_20_code 7 = .ok (.iload_n 1, 1) := by decide +kernel
theorem d_Law_valueOf_8 : decode prog_6_method_20_code 8 = .ok (.isub, 1) := by decide +kernel
theorem d_Law_valueOf_9 : decode prog_6_method_20_code 9 = .ok (.istore_n 2, 1) := by decide +kernel
theorem d_Law_valueOf_10 : decode prog_6_method_20_code 10 = .ok (.iload_n 2, 1) := by decide +kernel
theorem d_Law_valueOf_11 : decode prog_6_method_20_code 11 = .ok (.ifCond .lt 21, 3) := by decide +kernel
theorem d_Law_valueOf_14 : decode prog_6_method_20_code 14 = .ok (.iload_n 2, 1) := by decide +kernel
theorem d_Law_valueOf_15 : decode prog_6_method_20_code 15 = .ok (.aload_n 0, 1) := by decide +kernel
theorem d_Law_valueOf_16 : decode prog_6_method_20_code 16 = .ok (.getfield 24, 3) := by decide +kernel
theorem d_Law_valueOf_19 : decode prog_6_method_20_code 19 = .ok (.arraylength, 1) := by decide +kernel
theorem d_Law_valueOf_20 : decode prog_6_method_20_code 20 = .ok (.if_icmp .ge 12, 3) := by decide +kernel
theorem d_Law_valueOf_23 : decode prog_6_method_20_code 23 = .ok (.aload_n 0, 1) := by decide +kernel
theorem d_Law_valueOf_24 : decode prog_6_method_20_code 24 = .ok (.getfield 24, 3) := by decide +kernel
theorem d_Law_valueOf_27 : decode prog_6_method_20_code 27 = .ok (.iload_n 2, 1) := by decide +kernel
theorem d_Law_valueOf_28 : decode prog_6_method_20_code 28 = .ok (.iaload, 1) := by decide +kernel
theorem d_Law_valueOf_29 : decode prog_6_method_20_code 29 = .ok (.goto 4, 3) := by decide +kernel
theorem d_Law_valueOf_32 : decode prog_6_method_20_code 32 = .ok (.iconst 0, 1) := by decide +kernel
theorem d_Law_valueOf_33 : decode prog_6_method_20_code 33 = .ok (.ireturn, 1) := by decide +kernel
theorem b_Law_valueOf_0 {d : Nat} {x1 : Int32} {h : am_H} {Q : am_Q} (kt : x1 < 0 → am_W (X_Law_valueOf d) 6 [some (.ref 6), some (.int x1), none] [] h Q) (kf : ¬ x1 < 0 → am_W (X_Law_valueOf d) 4 [some (.ref 6), some (.int x1), none] [] h Q) : am_W (X_Law_valueOf d) 0 [some (.ref 6), some (.int x1), none] [] h Q :=
  am_iload_n d_Law_valueOf_0 rfl (i := 1) rfl <|
    am_if_lt (tgt := 6) d_Law_valueOf_1 (by decide) kt kf
theorem b_Law_valueOf_4 {d : Nat} {x1 : Int32} {h : am_H} {Q : am_Q} (q : Q (some (.int x1)) h) : am_W (X_Law_valueOf d) 4 [some (.ref 6), some (.int x1), none] [] h Q :=
  am_iload_n d_Law_valueOf_4 rfl (i := 1) rfl <|
    am_iret rfl d_Law_valueOf_5 q
theorem b_Law_valueOf_6 {d : Nat} {x1 : Int32} {h : am_H} {Q : am_Q} (kt : ((-1) - x1) < 0 → am_W (X_Law_valueOf d) 32 [some (.ref 6), some (.int x1), some (.int ((-1) - x1))] [] h Q) (kf : ¬ ((-1) - x1) < 0 → am_W (X_Law_valueOf d) 14 [some (.ref 6), some (.int x1), some (.int ((-1) - x1))] [] h Q) : am_W (X_Law_valueOf d) 6 [some (.ref 6), some (.int x1), none] [] h Q :=
  am_iconst (v := (-1)) d_Law_valueOf_6 (by decide) <|
    am_iload_n d_Law_valueOf_7 rfl (i := 1) rfl <|
    am_isub d_Law_valueOf_8 <|
    am_istore_n (ls' := [some (.ref 6), some (.int x1), some (.int ((-1) - x1))]) d_Law_valueOf_9 rfl (Nat.le_of_ble_eq_true rfl) rfl <|
    am_iload_n d_Law_valueOf_10 rfl (i := 2) rfl <|
    am_if_lt (tgt := 32) d_Law_valueOf_11 (by decide) kt kf
theorem b_Law_valueOf_14 {d : Nat} {x1 : Int32} {x2 : Int32} {h : am_H} {Q : am_Q} (kt : 6 ≤ x2 → am_W (X_Law_valueOf d) 32 [some (.ref 6), some (.int x1), some (.int x2)] [] h Q) (kf : ¬ 6 ≤ x2 → am_W (X_Law_valueOf d) 23 [some (.ref 6), some (.int x1), some (.int x2)] [] h Q) : am_W (X_Law_valueOf d) 14 [some (.ref 6), some (.int x1), some (.int x2)] [] h Q :=
  am_iload_n d_Law_valueOf_14 rfl (i := 2) rfl <|
    am_aload_n d_Law_valueOf_15 rfl (i := 0) rfl <|
    am_getR (ci := 2) (i := 4) rfl rfl rfl (Nat.le_of_ble_eq_true rfl) w_164 d_Law_valueOf_16 <|
    am_alenI (v := 6) rfl (by decide) d_Law_valueOf_19 <|
    am_icmp_ge (tgt := 32) d_Law_valueOf_20 (by decide) kt kf
theorem b_Law_valueOf_23 {d : Nat} {x1 : Int32} {x2 : Int32} {h : am_H} {Q : am_Q} (q0 : vp_in x2 6) (q : Q (some (.int (h.1 11 x2.toNatClampNeg))) h) : am_W (X_Law_valueOf d) 23 [some (.ref 6), some (.int x1), some (.int x2)] [] h Q :=
  am_aload_n d_Law_valueOf_23 rfl (i := 0) rfl <|
    am_getR (ci := 2) (i := 4) rfl rfl rfl (Nat.le_of_ble_eq_true rfl) w_164 d_Law_valueOf_24 <|
    am_iload_n d_Law_valueOf_27 rfl (i := 2) rfl <|
    am_iald rfl q0 d_Law_valueOf_28 <|
    am_goto (tgt := 33) d_Law_valueOf_29 (by decide) <|
    am_iret rfl d_Law_valueOf_33 q
theorem b_Law_valueOf_32 {d : Nat} {x1 : Int32} {x2 : Int32} {h : am_H} {Q : am_Q} (q : Q (some (.int 0)) h) : am_W (X_Law_valueOf d) 32 [some (.ref 6), some (.int x1), some (.int x2)] [] h Q :=
  am_iconst (v := 0) d_Law_valueOf_32 (by decide) <|
    am_iret rfl d_Law_valueOf_33 q
theorem t_Law_valueOf_32 {d : Nat} {x1 : Int32} {x2 : Int32} {h : am_H} {Q : am_Q} {res : Int32} (e : f_Law_valueOf_32 h = some res) (q : Q (some (.int res)) h) : am_W (X_Law_valueOf d) 32 [some (.ref 6), some (.int x1), some (.int x2)] [] h Q :=
  b_Law_valueOf_32 (d := d) (q := (am_rIp (v := 0) e q))
theorem t_Law_valueOf_23 {d : Nat} {x1 : Int32} {x2 : Int32} {h : am_H} {Q : am_Q} {res : Int32} (e : f_Law_valueOf_23 h x2 = some res) (q : Q (some (.int res)) h) : am_W (X_Law_valueOf d) 23 [some (.ref 6), some (.int x1), some (.int x2)] [] h Q :=
  b_Law_valueOf_23 (d := d) (q0 := (am_okv (am_gd e))) (q := (am_rIp (v := (h.1 11 x2.toNatClampNeg)) (am_ga e) q))
theorem t_Law_valueOf_14 {d : Nat} {x1 : Int32} {x2 : Int32} {h : am_H} {Q : am_Q} {res : Int32} (e : f_Law_valueOf_14 h x2 = some res) (q : Q (some (.int res)) h) : am_W (X_Law_valueOf d) 14 [some (.ref 6), some (.int x1), some (.int x2)] [] h Q :=
  b_Law_valueOf_14 (d := d) (kt := fun c => (t_Law_valueOf_32 (am_ift e c) q)) (kf := fun c => (t_Law_valueOf_23 (am_ife e c) q))
theorem t_Law_valueOf_6 {d : Nat} {x1 : Int32} {h : am_H} {Q : am_Q} {res : Int32} (e : f_Law_valueOf_6 h x1 = some res) (q : Q (some (.int res)) h) : am_W (X_Law_valueOf d) 6 [some (.ref 6), some (.int x1), none] [] h Q :=
  b_Law_valueOf_6 (d := d) (kt := fun c => (t_Law_valueOf_32 (am_ift e c) q)) (kf := fun c => (t_Law_valueOf_14 (am_ife e c) q))
theorem t_Law_valueOf_4 {d : Nat} {x1 : Int32} {h : am_H} {Q : am_Q} {res : Int32} (e : f_Law_valueOf_4 h x1 = some res) (q : Q (some (.int res)) h) : am_W (X_Law_valueOf d) 4 [some (.ref 6), some (.int x1), none] [] h Q :=
  b_Law_valueOf_4 (d := d) (q := (am_rIp (v := x1) e q))
theorem t_Law_valueOf_0 {d : Nat} {x1 : Int32} {h : am_H} {Q : am_Q} {res : Int32} (e : f_Law_valueOf h x1 = some res) (q : Q (some (.int res)) h) : am_W (X_Law_valueOf d) 0 [some (.ref 6), some (.int x1), none] [] h Q :=
  b_Law_valueOf_0 (d := d) (kt := fun c => (t_Law_valueOf_6 (am_ift e c) q)) (kf := fun c => (t_Law_valueOf_4 (am_ife e c) q))
theorem c_Law_valueOf {d : Nat} {x1 : Int32} {h : am_H} {Q : am_Q} {res : Int32} (e : f_Law_valueOf h x1 = some res) (q : Q (some (.int res)) h) : m_Law_valueOf d [.ref 6, .int x1] h Q :=
  e_Law_valueOf (t_Law_valueOf_0 e q)
theorem d_Law_workOut_0 : decode prog_6_method_19_code 0 = .ok (.iconst 0, 1) := by decide +kernel
theorem d_Law_workOut_1 : decode prog_6_method_19_code 1 = .ok (.istore_n 1, 1) := by decide +kernel
theorem d_Law_workOut_2 : decode prog_6_method_19_code 2 = .ok (.iconst 0, 1) := by decide +kernel
theorem d_Law_workOut_3 : decode prog_6_method_19_code 3 = .ok (.istore_n 2, 1) := by decide +kernel
theorem d_Law_workOut_4 : decode prog_6_method_19_code 4 = .ok (.iconst 0, 1) := by decide +kernel
theorem d_Law_workOut_5 : decode prog_6_method_19_code 5 = .ok (.istore_n 3, 1) := by decide +kernel
theorem d_Law_workOut_6 : decode prog_6_method_19_code 6 = .ok (.iload_n 3, 1) := by decide +kernel
theorem d_Law_workOut_7 : decode prog_6_method_19_code 7 = .ok (.aload_n 0, 1) := by decide +kernel
theorem d_Law_workOut_8 : decode prog_6_method_19_code 8 = .ok (.getfield 37, 3) := by decide +kernel
theorem d_Law_workOut_11 : decode prog_6_method_19_code 11 = .ok (.if_icmp .ge 240, 3) := by decide +kernel
theorem d_Law_workOut_14 : decode prog_6_method_19_code 14 = .ok (.iload_n 3, 1) := by decide +kernel
theorem d_Law_workOut_15 : decode prog_6_method_19_code 15 = .ok (.sipush 130, 3) := by decide +kernel
theorem d_Law_workOut_18 : decode prog_6_method_19_code 18 = .ok (.if_icmp .ge 233, 3) := by decide +kernel
theorem d_Law_workOut_21 : decode prog_6_method_19_code 21 = .ok (.aload_n 0, 1) := by decide +kernel
theorem d_Law_workOut_22 : decode prog_6_method_19_code 22 = .ok (.getfield 18, 3) := by decide +kernel
theorem d_Law_workOut_25 : decode prog_6_method_19_code 25 = .ok (.iload_n 3, 1) := by decide +kernel
theorem d_Law_workOut_26 : decode prog_6_method_19_code 26 = .ok (.iaload, 1) := by decide +kernel
theorem d_Law_workOut_27 : decode prog_6_method_19_code 27 = .ok (.istore 4, 2) := by decide +kernel
theorem d_Law_workOut_29 : decode prog_6_method_19_code 29 = .ok (.iload 4, 2) := by decide +kernel
theorem d_Law_workOut_31 : decode prog_6_method_19_code 31 = .ok (.bipush (-32), 2) := by decide +kernel
theorem d_Law_workOut_33 : decode prog_6_method_19_code 33 = .ok (.if_icmp .ne 14, 3) := by decide +kernel
theorem d_Law_workOut_36 : decode prog_6_method_19_code 36 = .ok (.iload_n 2, 1) := by decide +kernel
theorem d_Law_workOut_37 : decode prog_6_method_19_code 37 = .ok (.ifCond .ne 10, 3) := by decide +kernel
theorem d_Law_workOut_40 : decode prog_6_method_19_code 40 = .ok (.aload_n 0, 1) := by decide +kernel
theorem d_Law_workOut_41 : decode prog_6_method_19_code 41 = .ok (.getfield 21, 3) := by decide +kernel
theorem d_Law_workOut_44 : decode prog_6_method_19_code 44 = .ok (.iconst 0, 1) := by decide +kernel
theorem d_Law_workOut_45 : decode prog_6_method_19_code 45 = .ok (.iaload, 1) := by decide +kernel
theorem d_Law_workOut_46 : decode prog_6_method_19_code 46 = .ok (.ireturn, 1) := by decide +kernel
theorem d_Law_workOut_47 : decode prog_6_method_19_code 47 = .ok (.iload 4, 2) := by decide +kernel
theorem d_Law_workOut_49 : decode prog_6_method_19_code 49 = .ok (.bipush (-32), 2) := by decide +kernel
theorem d_Law_workOut_51 : decode prog_6_method_19_code 51 = .ok (.if_icmp .ne 10, 3) := by decide +kernel
theorem d_Law_workOut_54 : decode prog_6_method_19_code 54 = .ok (.iconst 0, 1) := by decide +kernel
theorem d_Law_workOut_55 : decode prog_6_method_19_code 55 = .ok (.istore_n 2, 1) := by decide +kernel
theorem d_Law_workOut_56 : decode prog_6_method_19_code 56 = .ok (.iconst 0, 1) := by decide +kernel
theorem d_Law_workOut_57 : decode prog_6_method_19_code 57 = .ok (.istore_n 1, 1) := by decide +kernel
theorem d_Law_workOut_58 : decode prog_6_method_19_code 58 = .ok (.goto 187, 3) := by decide +kernel
theorem d_Law_workOut_61 : decode prog_6_method_19_code 61 = .ok (.iload 4, 2) := by decide +kernel
theorem d_Law_workOut_63 : decode prog_6_method_19_code 63 = .ok (.bipush (-31), 2) := by decide +kernel
theorem d_Law_workOut_65 : decode prog_6_method_19_code 65 = .ok (.if_icmp .ne 27, 3) := by decide +kernel
theorem d_Law_workOut_68 : decode prog_6_method_19_code 68 = .ok (.iload_n 2, 1) := by decide +kernel
theorem d_Law_workOut_69 : decode prog_6_method_19_code 69 = .ok (.ifCond .ne 23, 3) := by decide +kernel
theorem d_Law_workOut_72 : decode prog_6_method_19_code 72 = .ok (.aload_n 0, 1) := by decide +kernel
theorem d_Law_workOut_73 : decode prog_6_method_19_code 73 = .ok (.getfield 21, 3) := by decide +kernel
theorem d_Law_workOut_76 : decode prog_6_method_19_code 76 = .ok (.iconst 0, 1) := by decide +kernel
theorem d_Law_workOut_77 : decode prog_6_method_19_code 77 = .ok (.iaload, 1) := by decide +kernel
theorem d_Law_workOut_78 : decode prog_6_method_19_code 78 = .ok (.ifCond .ne 7, 3) := by decide +kernel
theorem d_Law_workOut_81 : decode prog_6_method_19_code 81 = .ok (.iconst 1, 1) := by decide +kernel
theorem d_Law_workOut_82 : decode prog_6_method_19_code 82 = .ok (.goto 4, 3) := by decide +kernel
theorem d_Law_workOut_85 : decode prog_6_method_19_code 85 = .ok (.iconst 0, 1) := by decide +kernel
theorem d_Law_workOut_86 : decode prog_6_method_19_code 86 = .ok (.istore_n 2, 1) := by decide +kernel
theorem d_Law_workOut_87 : decode prog_6_method_19_code 87 = .ok (.iconst 0, 1) := by decide +kernel
theorem d_Law_workOut_88 : decode prog_6_method_19_code 88 = .ok (.istore_n 1, 1) := by decide +kernel
theorem d_Law_workOut_89 : decode prog_6_method_19_code 89 = .ok (.goto 156, 3) := by decide +kernel
theorem d_Law_workOut_92 : decode prog_6_method_19_code 92 = .ok (.iload_n 2, 1) := by decide +kernel
theorem d_Law_workOut_93 : decode prog_6_method_19_code 93 = .ok (.ifCond .ne 39, 3) := by decide +kernel
theorem d_Law_workOut_96 : decode prog_6_method_19_code 96 = .ok (.iload 4, 2) := by decide +kernel
theorem d_Law_workOut_98 : decode prog_6_method_19_code 98 = .ok (.bipush (-11), 2) := by decide +kernel
theorem d_Law_workOut_100 : decode prog_6_method_19_code 100 = .ok (.if_icmp .le 32, 3) := by decide +kernel
theorem d_Law_workOut_103 : decode prog_6_method_19_code 103 = .ok (.iload_n 1, 1) := by decide +kernel
theorem d_Law_workOut_104 : decode prog_6_method_19_code 104 = .ok (.ifCond .lt 28, 3) := by decide +kernel
theorem d_Law_workOut_107 : decode prog_6_method_19_code 107 = .ok (.iload_n 1, 1) := by decide +kernel
theorem d_Law_workOut_108 : decode prog_6_method_19_code 108 = .ok (.sipush 130, 3) := by decide +kernel
theorem d_Law_workOut_111 : decode prog_6_method_19_code 111 = .ok (.if_icmp .ge 21, 3) := by decide +kernel
theorem d_Law_workOut_114 : decode prog_6_method_19_code 114 = .ok (.aload_n 0, 1) := by decide +kernel
theorem d_Law_workOut_115 : decode prog_6_method_19_code 115 = .ok (.getfield 21, 3) := by decide +kernel
theorem d_Law_workOut_118 : decode prog_6_method_19_code 118 = .ok (.iload_n 1, 1) := by decide +kernel
theorem d_Law_workOut_119 : decode prog_6_method_19_code 119 = .ok (.aload_n 0, 1) := by decide +kernel
theorem d_Law_workOut_120 : decode prog_6_method_19_code 120 = .ok (.iload 4, 2) := by decide +kernel
theorem d_Law_workOut_122 : decode prog_6_method_19_code 122 = .ok (.invokevirtual 93, 3) := by decide +kernel
theorem d_Law_workOut_125 : decode prog_6_method_19_code 125 = .ok (.iastore, 1) := by decide +kernel
theorem d_Law_workOut_126 : decode prog_6_method_19_code 126 = .ok (.iinc 1 1, 3) := by decide +kernel
theorem d_Law_workOut_129 : decode prog_6_method_19_code 129 = .ok (.goto 116, 3) := by decide +kernel
theorem d_Law_workOut_132 : decode prog_6_method_19_code 132 = .ok (.iload_n 2, 1) := by decide +kernel
theorem d_Law_workOut_133 : decode prog_6_method_19_code 133 = .ok (.ifCond .ne 55, 3) := by decide +kernel
theorem d_Law_workOut_136 : decode prog_6_method_19_code 136 = .ok (.iload 4, 2) := by decide +kernel
theorem d_Law_workOut_138 : decode prog_6_method_19_code 138 = .ok (.bipush (-20), 2) := by decide +kernel
theorem d_Law_workOut_140 : decode prog_6_method_19_code 140 = .ok (.if_icmp .lt 48, 3) := by decide +kernel
theorem d_Law_workOut_143 : decode prog_6_method_19_code 143 = .ok (.iload_n 1, 1) := by decide +kernel
theorem d_Law_workOut_144 : decode prog_6_method_19_code 144 = .ok (.iconst 2, 1) := by decide +kernel
theorem d_Law_workOut_145 : decode prog_6_method_19_code 145 = .ok (.if_icmp .lt 43, 3) := by decide +kernel
theorem d_Law_workOut_148 : decode prog_6_method_19_code 148 = .ok (.iload_n 1, 1) := by decide +kernel
theorem d_Law_workOut_149 : decode prog_6_method_19_code 149 = .ok (.sipush 130, 3) := by decide +kernel
theorem d_Law_workOut_152 : decode prog_6_method_19_code 152 = .ok (.if_icmp .gt 36, 3) := by decide +kernel
theorem d_Law_workOut_155 : decode prog_6_method_19_code 155 = .ok (.iinc 1 (-1), 3) := by decide +kernel
theorem d_Law_workOut_158 : decode prog_6_method_19_code 158 = .ok (.aload_n 0, 1) := by decide +kernel
theorem d_Law_workOut_159 : decode prog_6_method_19_code 159 = .ok (.getfield 21, 3) := by decide +kernel
theorem d_Law_workOut_162 : decode prog_6_method_19_code 162 = .ok (.iload_n 1, 1) := by decide +kernel
theorem d_Law_workOut_163 : decode prog_6_method_19_code 163 = .ok (.iconst 1, 1) := by decide +kernel
theorem d_Law_workOut_164 : decode prog_6_method_19_code 164 = .ok (.isub, 1) := by decide +kernel
theorem d_Law_workOut_165 : decode prog_6_method_19_code 165 = .ok (.iload 4, 2) := by decide +kernel
theorem d_Law_workOut_167 : decode prog_6_method_19_code 167 = .ok (.aload_n 0, 1) := by decide +kernel
theorem d_Law_workOut_168 : decode prog_6_method_19_code 168 = .ok (.getfield 21, 3) := by decide +kernel
theorem d_Law_workOut_171 : decode prog_6_method_19_code 171 = .ok (.iload_n 1, 1) := by decide +kernel
theorem d_Law_workOut_172 : decode prog_6_method_19_code 172 = .ok (.iconst 1, 1) := by decide +kernel
theorem d_Law_workOut_173 : decode prog_6_method_19_code 173 = .ok (.isub, 1) := by decide +kernel
theorem d_Law_workOut_174 : decode prog_6_method_19_code 174 = .ok (.iaload, 1) := by decide +kernel
theorem d_Law_workOut_175 : decode prog_6_method_19_code 175 = .ok (.aload_n 0, 1) := by decide +kernel
theorem d_Law_workOut_176 : decode prog_6_method_19_code 176 = .ok (.getfield 21, 3) := by decide +kernel
theorem d_Law_workOut_179 : decode prog_6_method_19_code 179 = .ok (.iload_n 1, 1) := by decide +kernel
theorem d_Law_workOut_180 : decode prog_6_method_19_code 180 = .ok (.iaload, 1) := by decide +kernel
theorem d_Law_workOut_181 : decode prog_6_method_19_code 181 = .ok (.invokestatic 96, 3) := by decide +kernel
theorem d_Law_workOut_184 : decode prog_6_method_19_code 184 = .ok (.iastore, 1) := by decide +kernel
theorem d_Law_workOut_185 : decode prog_6_method_19_code 185 = .ok (.goto 60, 3) := by decide +kernel
theorem d_Law_workOut_188 : decode prog_6_method_19_code 188 = .ok (.iload_n 2, 1) := by decide +kernel
theorem d_Law_workOut_189 : decode prog_6_method_19_code 189 = .ok (.ifCond .ne 56, 3) := by decide +kernel
theorem d_Law_workOut_192 : decode prog_6_method_19_code 192 = .ok (.iload_n 1, 1) := by decide +kernel
theorem d_Law_workOut_193 : decode prog_6_method_19_code 193 = .ok (.iconst 1, 1) := by decide +kernel
theorem d_Law_workOut_194 : decode prog_6_method_19_code 194 = .ok (.if_icmp .lt 51, 3) := by decide +kernel
theorem d_Law_workOut_197 : decode prog_6_method_19_code 197 = .ok (.iload_n 1, 1) := by decide +kernel
theorem d_Law_workOut_198 : decode prog_6_method_19_code 198 = .ok (.sipush 130, 3) := by decide +kernel
theorem d_Law_workOut_201 : decode prog_6_method_19_code 201 = .ok (.if_icmp .gt 44, 3) := by decide +kernel
theorem d_Law_workOut_204 : decode prog_6_method_19_code 204 = .ok (.aload_n 0, 1) := by decide +kernel
theorem d_Law_workOut_205 : decode prog_6_method_19_code 205 = .ok (.getfield 21, 3) := by decide +kernel
theorem d_Law_workOut_208 : decode prog_6_method_19_code 208 = .ok (.iload_n 1, 1) := by decide +kernel
theorem d_Law_workOut_209 : decode prog_6_method_19_code 209 = .ok (.iconst 1, 1) := by decide +kernel
theorem d_Law_workOut_210 : decode prog_6_method_19_code 210 = .ok (.isub, 1) := by decide +kernel
theorem d_Law_workOut_211 : decode prog_6_method_19_code 211 = .ok (.iload 4, 2) := by decide +kernel
theorem d_Law_workOut_213 : decode prog_6_method_19_code 213 = .ok (.bipush (-21), 2) := by decide +kernel
theorem d_Law_workOut_215 : decode prog_6_method_19_code 215 = .ok (.if_icmp .ne 20, 3) := by decide +kernel
theorem d_Law_workOut_218 : decode prog_6_method_19_code 218 = .ok (.bipush (-14), 2) := by decide +kernel
theorem d_Law_workOut_220 : decode prog_6_method_19_code 220 = .ok (.aload_n 0, 1) := by decide +kernel
theorem d_Law_workOut_221 : decode prog_6_method_19_code 221 = .ok (.getfield 21, 3) := by decide +kernel
theorem d_Law_workOut_224 : decode prog_6_method_19_code 224 = .ok (.iload_n 1, 1) := by decide +kernel
theorem d_Law_workOut_225 : decode prog_6_method_19_code 225 = .ok (.iconst 1, 1) := by decide +kernel
theorem d_Law_workOut_226 : decode prog_6_method_19_code 226 = .ok (.isub, 1) := by decide +kernel
theorem d_Law_workOut_227 : decode prog_6_method_19_code 227 = .ok (.iaload, 1) := by decide +kernel
theorem d_Law_workOut_228 : decode prog_6_method_19_code 228 = .ok (.iconst 0, 1) := by decide +kernel
theorem d_Law_workOut_229 : decode prog_6_method_19_code 229 = .ok (.invokestatic 96, 3) := by decide +kernel
theorem d_Law_workOut_232 : decode prog_6_method_19_code 232 = .ok (.goto 12, 3) := by decide +kernel
theorem d_Law_workOut_235 : decode prog_6_method_19_code 235 = .ok (.aload_n 0, 1) := by decide +kernel
theorem d_Law_workOut_236 : decode prog_6_method_19_code 236 = .ok (.getfield 21, 3) := by decide +kernel
theorem d_Law_workOut_239 : decode prog_6_method_19_code 239 = .ok (.iload_n 1, 1) := by decide +kernel
theorem d_Law_workOut_240 : decode prog_6_method_19_code 240 = .ok (.iconst 1, 1) := by decide +kernel
theorem d_Law_workOut_241 : decode prog_6_method_19_code 241 = .ok (.isub, 1) := by decide +kernel
theorem d_Law_workOut_242 : decode prog_6_method_19_code 242 = .ok (.iaload, 1) := by decide +kernel
theorem d_Law_workOut_243 : decode prog_6_method_19_code 243 = .ok (.ineg, 1) := by decide +kernel
theorem d_Law_workOut_244 : decode prog_6_method_19_code 244 = .ok (.iastore, 1) := by decide +kernel
theorem d_Law_workOut_245 : decode prog_6_method_19_code 245 = .ok (.iinc 3 1, 3) := by decide +kernel
theorem d_Law_workOut_248 : decode prog_6_method_19_code 248 = .ok (.goto (-242), 3) := by decide +kernel
theorem d_Law_workOut_251 : decode prog_6_method_19_code 251 = .ok (.iconst 0, 1) := by decide +kernel
theorem d_Law_workOut_252 : decode prog_6_method_19_code 252 = .ok (.ireturn, 1) := by decide +kernel
theorem b_Law_workOut_0 {d : Nat} {h : am_H} {Q : am_Q} (k : am_W (X_Law_workOut d) 6 [some (.ref 6), some (.int 0), some (.int 0), some (.int 0), none] [] h Q) : am_W (X_Law_workOut d) 0 [some (.ref 6), none, none, none, none] [] h Q :=
  am_iconst (v := 0) d_Law_workOut_0 (by decide) <|
    am_istore_n (ls' := [some (.ref 6), some (.int 0), none, none, none]) d_Law_workOut_1 rfl (Nat.le_of_ble_eq_true rfl) rfl <|
    am_iconst (v := 0) d_Law_workOut_2 (by decide) <|
    am_istore_n (ls' := [some (.ref 6), some (.int 0), some (.int 0), none, none]) d_Law_workOut_3 rfl (Nat.le_of_ble_eq_true rfl) rfl <|
    am_iconst (v := 0) d_Law_workOut_4 (by decide) <|
    am_istore_n (ls' := [some (.ref 6), some (.int 0), some (.int 0), some (.int 0), none]) d_Law_workOut_5 rfl (Nat.le_of_ble_eq_true rfl) rfl <|
    k
theorem b_Law_workOut_6 {d : Nat} {x1 : Int32} {x2 : Int32} {x3 : Int32} {h : am_H} {Q : am_Q} (kt : (h.1 6 8) ≤ x3 → am_W (X_Law_workOut d) 251 [some (.ref 6), some (.int x1), some (.int x2), some (.int x3), none] [] h Q) (kf : ¬ (h.1 6 8) ≤ x3 → am_W (X_Law_workOut d) 14 [some (.ref 6), some (.int x1), some (.int x2), some (.int x3), none] [] h Q) : am_W (X_Law_workOut d) 6 [some (.ref 6), some (.int x1), some (.int x2), some (.int x3), none] [] h Q :=
  am_iload_n d_Law_workOut_6 rfl (i := 3) rfl <|
    am_aload_n d_Law_workOut_7 rfl (i := 0) rfl <|
    am_getI (ci := 2) (i := 8) rfl rfl rfl (Nat.le_of_ble_eq_true rfl) w_168 d_Law_workOut_8 <|
    am_icmp_ge (tgt := 251) d_Law_workOut_11 (by decide) kt kf
theorem b_Law_workOut_14 {d : Nat} {x1 : Int32} {x2 : Int32} {x3 : Int32} {h : am_H} {Q : am_Q} (kt : 130 ≤ x3 → am_W (X_Law_workOut d) 251 [some (.ref 6), some (.int x1), some (.int x2), some (.int x3), none] [] h Q) (kf : ¬ 130 ≤ x3 → am_W (X_Law_workOut d) 21 [some (.ref 6), some (.int x1), some (.int x2), some (.int x3), none] [] h Q) : am_W (X_Law_workOut d) 14 [some (.ref 6), some (.int x1), some (.int x2), some (.int x3), none] [] h Q :=
  am_iload_n d_Law_workOut_14 rfl (i := 3) rfl <|
    am_sipush (v := 130) d_Law_workOut_15 (by decide) <|
    am_icmp_ge (tgt := 251) d_Law_workOut_18 (by decide) kt kf
theorem b_Law_workOut_21 {d : Nat} {x1 : Int32} {x2 : Int32} {x3 : Int32} {h : am_H} {Q : am_Q} (q0 : vp_in x3 130) (kt : ¬ (h.1 9 x3.toNatClampNeg) = (-32) → am_W (X_Law_workOut d) 47 [some (.ref 6), some (.int x1), some (.int x2), some (.int x3), some (.int (h.1 9 x3.toNatClampNeg))] [] h Q) (kf : (h.1 9 x3.toNatClampNeg) = (-32) → am_W (X_Law_workOut d) 36 [some (.ref 6), some (.int x1), some (.int x2), some (.int x3), some (.int (h.1 9 x3.toNatClampNeg))] [] h Q) : am_W (X_Law_workOut d) 21 [some (.ref 6), some (.int x1), some (.int x2), some (.int x3), none] [] h Q :=
  am_aload_n d_Law_workOut_21 rfl (i := 0) rfl <|
    am_getR (ci := 2) (i := 2) rfl rfl rfl (Nat.le_of_ble_eq_true rfl) w_162 d_Law_workOut_22 <|
    am_iload_n d_Law_workOut_25 rfl (i := 3) rfl <|
    am_iald rfl q0 d_Law_workOut_26 <|
    am_istore (ls' := [some (.ref 6), some (.int x1), some (.int x2), some (.int x3), some (.int (h.1 9 x3.toNatClampNeg))]) d_Law_workOut_27 (Nat.le_of_ble_eq_true rfl) rfl <|
    am_iload d_Law_workOut_29 rfl <|
    am_bipush (v := (-32)) d_Law_workOut_31 (by decide) <|
    am_icmp_ne (tgt := 47) d_Law_workOut_33 (by decide) kt kf
theorem b_Law_workOut_36 {d : Nat} {x1 : Int32} {x2 : Int32} {x3 : Int32} {x4 : Int32} {h : am_H} {Q : am_Q} (kt : ¬ x2 = 0 → am_W (X_Law_workOut d) 47 [some (.ref 6), some (.int x1), some (.int x2), some (.int x3), some (.int x4)] [] h Q) (kf : x2 = 0 → am_W (X_Law_workOut d) 40 [some (.ref 6), some (.int x1), some (.int x2), some (.int x3), some (.int x4)] [] h Q) : am_W (X_Law_workOut d) 36 [some (.ref 6), some (.int x1), some (.int x2), some (.int x3), some (.int x4)] [] h Q :=
  am_iload_n d_Law_workOut_36 rfl (i := 2) rfl <|
    am_if_ne (tgt := 47) d_Law_workOut_37 (by decide) kt kf
theorem b_Law_workOut_40 {d : Nat} {x1 : Int32} {x2 : Int32} {x3 : Int32} {x4 : Int32} {h : am_H} {Q : am_Q} (q : Q (some (.int (h.1 10 (0 : Int32).toNatClampNeg))) h) : am_W (X_Law_workOut d) 40 [some (.ref 6), some (.int x1), some (.int x2), some (.int x3), some (.int x4)] [] h Q :=
  am_aload_n d_Law_workOut_40 rfl (i := 0) rfl <|
    am_getR (ci := 2) (i := 3) rfl rfl rfl (Nat.le_of_ble_eq_true rfl) w_163 d_Law_workOut_41 <|
    am_iconst (v := 0) d_Law_workOut_44 (by decide) <|
    am_iald rfl (am_vin (by decide)) d_Law_workOut_45 <|
    am_iret rfl d_Law_workOut_46 q
theorem b_Law_workOut_47 {d : Nat} {x1 : Int32} {x2 : Int32} {x3 : Int32} {x4 : Int32} {h : am_H} {Q : am_Q} (kt : ¬ x4 = (-32) → am_W (X_Law_workOut d) 61 [some (.ref 6), some (.int x1), some (.int x2), some (.int x3), some (.int x4)] [] h Q) (kf : x4 = (-32) → am_W (X_Law_workOut d) 54 [some (.ref 6), some (.int x1), some (.int x2), some (.int x3), some (.int x4)] [] h Q) : am_W (X_Law_workOut d) 47 [some (.ref 6), some (.int x1), some (.int x2), some (.int x3), some (.int x4)] [] h Q :=
  am_iload d_Law_workOut_47 rfl <|
    am_bipush (v := (-32)) d_Law_workOut_49 (by decide) <|
    am_icmp_ne (tgt := 61) d_Law_workOut_51 (by decide) kt kf
theorem b_Law_workOut_54 {d : Nat} {x1 : Int32} {x2 : Int32} {x3 : Int32} {x4 : Int32} {h : am_H} {Q : am_Q} (k : am_W (X_Law_workOut d) 245 [some (.ref 6), some (.int 0), some (.int 0), some (.int x3), some (.int x4)] [] h Q) : am_W (X_Law_workOut d) 54 [some (.ref 6), some (.int x1), some (.int x2), some (.int x3), some (.int x4)] [] h Q :=
  am_iconst (v := 0) d_Law_workOut_54 (by decide) <|
    am_istore_n (ls' := [some (.ref 6), some (.int x1), some (.int 0), some (.int x3), some (.int x4)]) d_Law_workOut_55 rfl (Nat.le_of_ble_eq_true rfl) rfl <|
    am_iconst (v := 0) d_Law_workOut_56 (by decide) <|
    am_istore_n (ls' := [some (.ref 6), some (.int 0), some (.int 0), some (.int x3), some (.int x4)]) d_Law_workOut_57 rfl (Nat.le_of_ble_eq_true rfl) rfl <|
    am_goto (tgt := 245) d_Law_workOut_58 (by decide) k
theorem b_Law_workOut_61 {d : Nat} {x1 : Int32} {x2 : Int32} {x3 : Int32} {x4 : Int32} {h : am_H} {Q : am_Q} (kt : ¬ x4 = (-31) → am_W (X_Law_workOut d) 92 [some (.ref 6), some (.int x1), some (.int x2), some (.int x3), some (.int x4)] [] h Q) (kf : x4 = (-31) → am_W (X_Law_workOut d) 68 [some (.ref 6), some (.int x1), some (.int x2), some (.int x3), some (.int x4)] [] h Q) : am_W (X_Law_workOut d) 61 [some (.ref 6), some (.int x1), some (.int x2), some (.int x3), some (.int x4)] [] h Q :=
  am_iload d_Law_workOut_61 rfl <|
    am_bipush (v := (-31)) d_Law_workOut_63 (by decide) <|
    am_icmp_ne (tgt := 92) d_Law_workOut_65 (by decide) kt kf
theorem b_Law_workOut_68 {d : Nat} {x1 : Int32} {x2 : Int32} {x3 : Int32} {x4 : Int32} {h : am_H} {Q : am_Q} (kt : ¬ x2 = 0 → am_W (X_Law_workOut d) 92 [some (.ref 6), some (.int x1), some (.int x2), some (.int x3), some (.int x4)] [] h Q) (kf : x2 = 0 → am_W (X_Law_workOut d) 72 [some (.ref 6), some (.int x1), some (.int x2), some (.int x3), some (.int x4)] [] h Q) : am_W (X_Law_workOut d) 68 [some (.ref 6), some (.int x1), some (.int x2), some (.int x3), some (.int x4)] [] h Q :=
  am_iload_n d_Law_workOut_68 rfl (i := 2) rfl <|
    am_if_ne (tgt := 92) d_Law_workOut_69 (by decide) kt kf
theorem b_Law_workOut_72 {d : Nat} {x1 : Int32} {x2 : Int32} {x3 : Int32} {x4 : Int32} {h : am_H} {Q : am_Q} (kt : ¬ (h.1 10 (0 : Int32).toNatClampNeg) = 0 → am_W (X_Law_workOut d) 85 [some (.ref 6), some (.int x1), some (.int x2), some (.int x3), some (.int x4)] [] h Q) (kf : (h.1 10 (0 : Int32).toNatClampNeg) = 0 → am_W (X_Law_workOut d) 81 [some (.ref 6), some (.int x1), some (.int x2), some (.int x3), some (.int x4)] [] h Q) : am_W (X_Law_workOut d) 72 [some (.ref 6), some (.int x1), some (.int x2), some (.int x3), some (.int x4)] [] h Q :=
  am_aload_n d_Law_workOut_72 rfl (i := 0) rfl <|
    am_getR (ci := 2) (i := 3) rfl rfl rfl (Nat.le_of_ble_eq_true rfl) w_163 d_Law_workOut_73 <|
    am_iconst (v := 0) d_Law_workOut_76 (by decide) <|
    am_iald rfl (am_vin (by decide)) d_Law_workOut_77 <|
    am_if_ne (tgt := 85) d_Law_workOut_78 (by decide) kt kf
theorem b_Law_workOut_81 {d : Nat} {x1 : Int32} {x2 : Int32} {x3 : Int32} {x4 : Int32} {h : am_H} {Q : am_Q} (k : am_W (X_Law_workOut d) 86 [some (.ref 6), some (.int x1), some (.int x2), some (.int x3), some (.int x4)] [.int 1] h Q) : am_W (X_Law_workOut d) 81 [some (.ref 6), some (.int x1), some (.int x2), some (.int x3), some (.int x4)] [] h Q :=
  am_iconst (v := 1) d_Law_workOut_81 (by decide) <|
    am_goto (tgt := 86) d_Law_workOut_82 (by decide) k
theorem b_Law_workOut_85 {d : Nat} {x1 : Int32} {x2 : Int32} {x3 : Int32} {x4 : Int32} {h : am_H} {Q : am_Q} (k : am_W (X_Law_workOut d) 86 [some (.ref 6), some (.int x1), some (.int x2), some (.int x3), some (.int x4)] [.int 0] h Q) : am_W (X_Law_workOut d) 85 [some (.ref 6), some (.int x1), some (.int x2), some (.int x3), some (.int x4)] [] h Q :=
  am_iconst (v := 0) d_Law_workOut_85 (by decide) <|
    k
theorem b_Law_workOut_86 {d : Nat} {x1 : Int32} {x2 : Int32} {x3 : Int32} {x4 : Int32} {y0 : Int32} {h : am_H} {Q : am_Q} (k : am_W (X_Law_workOut d) 245 [some (.ref 6), some (.int 0), some (.int y0), some (.int x3), some (.int x4)] [] h Q) : am_W (X_Law_workOut d) 86 [some (.ref 6), some (.int x1), some (.int x2), some (.int x3), some (.int x4)] [.int y0] h Q :=
  am_istore_n (ls' := [some (.ref 6), some (.int x1), some (.int y0), some (.int x3), some (.int x4)]) d_Law_workOut_86 rfl (Nat.le_of_ble_eq_true rfl) rfl <|
    am_iconst (v := 0) d_Law_workOut_87 (by decide) <|
    am_istore_n (ls' := [some (.ref 6), some (.int 0), some (.int y0), some (.int x3), some (.int x4)]) d_Law_workOut_88 rfl (Nat.le_of_ble_eq_true rfl) rfl <|
    am_goto (tgt := 245) d_Law_workOut_89 (by decide) k
theorem b_Law_workOut_92 {d : Nat} {x1 : Int32} {x2 : Int32} {x3 : Int32} {x4 : Int32} {h : am_H} {Q : am_Q} (kt : ¬ x2 = 0 → am_W (X_Law_workOut d) 132 [some (.ref 6), some (.int x1), some (.int x2), some (.int x3), some (.int x4)] [] h Q) (kf : x2 = 0 → am_W (X_Law_workOut d) 96 [some (.ref 6), some (.int x1), some (.int x2), some (.int x3), some (.int x4)] [] h Q) : am_W (X_Law_workOut d) 92 [some (.ref 6), some (.int x1), some (.int x2), some (.int x3), some (.int x4)] [] h Q :=
  am_iload_n d_Law_workOut_92 rfl (i := 2) rfl <|
    am_if_ne (tgt := 132) d_Law_workOut_93 (by decide) kt kf
theorem b_Law_workOut_96 {d : Nat} {x1 : Int32} {x2 : Int32} {x3 : Int32} {x4 : Int32} {h : am_H} {Q : am_Q} (kt : x4 ≤ (-11) → am_W (X_Law_workOut d) 132 [some (.ref 6), some (.int x1), some (.int x2), some (.int x3), some (.int x4)] [] h Q) (kf : ¬ x4 ≤ (-11) → am_W (X_Law_workOut d) 103 [some (.ref 6), some (.int x1), some (.int x2), some (.int x3), some (.int x4)] [] h Q) : am_W (X_Law_workOut d) 96 [some (.ref 6), some (.int x1), some (.int x2), some (.int x3), some (.int x4)] [] h Q :=
  am_iload d_Law_workOut_96 rfl <|
    am_bipush (v := (-11)) d_Law_workOut_98 (by decide) <|
    am_icmp_le (tgt := 132) d_Law_workOut_100 (by decide) kt kf
theorem b_Law_workOut_103 {d : Nat} {x1 : Int32} {x2 : Int32} {x3 : Int32} {x4 : Int32} {h : am_H} {Q : am_Q} (kt : x1 < 0 → am_W (X_Law_workOut d) 132 [some (.ref 6), some (.int x1), some (.int x2), some (.int x3), some (.int x4)] [] h Q) (kf : ¬ x1 < 0 → am_W (X_Law_workOut d) 107 [some (.ref 6), some (.int x1), some (.int x2), some (.int x3), some (.int x4)] [] h Q) : am_W (X_Law_workOut d) 103 [some (.ref 6), some (.int x1), some (.int x2), some (.int x3), some (.int x4)] [] h Q :=
  am_iload_n d_Law_workOut_103 rfl (i := 1) rfl <|
    am_if_lt (tgt := 132) d_Law_workOut_104 (by decide) kt kf
theorem b_Law_workOut_107 {d : Nat} {x1 : Int32} {x2 : Int32} {x3 : Int32} {x4 : Int32} {h : am_H} {Q : am_Q} (kt : 130 ≤ x1 → am_W (X_Law_workOut d) 132 [some (.ref 6), some (.int x1), some (.int x2), some (.int x3), some (.int x4)] [] h Q) (kf : ¬ 130 ≤ x1 → am_W (X_Law_workOut d) 114 [some (.ref 6), some (.int x1), some (.int x2), some (.int x3), some (.int x4)] [] h Q) : am_W (X_Law_workOut d) 107 [some (.ref 6), some (.int x1), some (.int x2), some (.int x3), some (.int x4)] [] h Q :=
  am_iload_n d_Law_workOut_107 rfl (i := 1) rfl <|
    am_sipush (v := 130) d_Law_workOut_108 (by decide) <|
    am_icmp_ge (tgt := 132) d_Law_workOut_111 (by decide) kt kf
theorem b_Law_workOut_114 {d : Nat} {x1 : Int32} {x2 : Int32} {x3 : Int32} {x4 : Int32} {h : am_H} {Q : am_Q} (k : m_Law_valueOf d [.ref 6, .int x4] h (fun r hh => am_W (X_Law_workOut (d + 1)) 125 [some (.ref 6), some (.int x1), some (.int x2), some (.int x3), some (.int x4)] (r.toList ++ [.int x1, .ref 10]) hh Q)) : am_W (X_Law_workOut (d + 1)) 114 [some (.ref 6), some (.int x1), some (.int x2), some (.int x3), some (.int x4)] [] h Q :=
  am_aload_n d_Law_workOut_114 rfl (i := 0) rfl <|
    am_getR (ci := 2) (i := 3) rfl rfl rfl (Nat.le_of_ble_eq_true rfl) w_163 d_Law_workOut_115 <|
    am_iload_n d_Law_workOut_118 rfl (i := 1) rfl <|
    am_aload_n d_Law_workOut_119 rfl (i := 0) rfl <|
    am_iload d_Law_workOut_120 rfl <|
    am_callV (vs := [.int x4]) (st := [.int x1, .ref 10]) (k := 6) (ci := 2) rfl d_Law_workOut_122 rfl rfl w_781 w_783 w_15 w_86 w_784 p_Law_valueOf (Nat.le_of_ble_eq_true rfl) (Nat.le_of_ble_eq_true rfl) rfl k
theorem b_Law_workOut_125 {d : Nat} {x1 : Int32} {x2 : Int32} {x3 : Int32} {x4 : Int32} {y2 : Int32} {y1 : Int32} {h : am_H} {Q : am_Q} (q0 : vp_in y1 130) (k : am_W (X_Law_workOut d) 245 [some (.ref 6), some (.int (x1 + 1)), some (.int x2), some (.int x3), some (.int x4)] [] (am_pI h 10 y1.toNatClampNeg y2) Q) : am_W (X_Law_workOut d) 125 [some (.ref 6), some (.int x1), some (.int x2), some (.int x3), some (.int x4)] [.int y2, .int y1, .ref 10] h Q :=
  am_iast rfl q0 d_Law_workOut_125 <|
    am_iinc (v := (x1 + 1)) (ls' := [some (.ref 6), some (.int (x1 + 1)), some (.int x2), some (.int x3), some (.int x4)]) d_Law_workOut_126 rfl rfl (Nat.le_of_ble_eq_true rfl) rfl <|
    am_goto (tgt := 245) d_Law_workOut_129 (by decide) k
theorem b_Law_workOut_132 {d : Nat} {x1 : Int32} {x2 : Int32} {x3 : Int32} {x4 : Int32} {h : am_H} {Q : am_Q} (kt : ¬ x2 = 0 → am_W (X_Law_workOut d) 188 [some (.ref 6), some (.int x1), some (.int x2), some (.int x3), some (.int x4)] [] h Q) (kf : x2 = 0 → am_W (X_Law_workOut d) 136 [some (.ref 6), some (.int x1), some (.int x2), some (.int x3), some (.int x4)] [] h Q) : am_W (X_Law_workOut d) 132 [some (.ref 6), some (.int x1), some (.int x2), some (.int x3), some (.int x4)] [] h Q :=
  am_iload_n d_Law_workOut_132 rfl (i := 2) rfl <|
    am_if_ne (tgt := 188) d_Law_workOut_133 (by decide) kt kf
theorem b_Law_workOut_136 {d : Nat} {x1 : Int32} {x2 : Int32} {x3 : Int32} {x4 : Int32} {h : am_H} {Q : am_Q} (kt : x4 < (-20) → am_W (X_Law_workOut d) 188 [some (.ref 6), some (.int x1), some (.int x2), some (.int x3), some (.int x4)] [] h Q) (kf : ¬ x4 < (-20) → am_W (X_Law_workOut d) 143 [some (.ref 6), some (.int x1), some (.int x2), some (.int x3), some (.int x4)] [] h Q) : am_W (X_Law_workOut d) 136 [some (.ref 6), some (.int x1), some (.int x2), some (.int x3), some (.int x4)] [] h Q :=
  am_iload d_Law_workOut_136 rfl <|
    am_bipush (v := (-20)) d_Law_workOut_138 (by decide) <|
    am_icmp_lt (tgt := 188) d_Law_workOut_140 (by decide) kt kf
theorem b_Law_workOut_143 {d : Nat} {x1 : Int32} {x2 : Int32} {x3 : Int32} {x4 : Int32} {h : am_H} {Q : am_Q} (kt : x1 < 2 → am_W (X_Law_workOut d) 188 [some (.ref 6), some (.int x1), some (.int x2), some (.int x3), some (.int x4)] [] h Q) (kf : ¬ x1 < 2 → am_W (X_Law_workOut d) 148 [some (.ref 6), some (.int x1), some (.int x2), some (.int x3), some (.int x4)] [] h Q) : am_W (X_Law_workOut d) 143 [some (.ref 6), some (.int x1), some (.int x2), some (.int x3), some (.int x4)] [] h Q :=
  am_iload_n d_Law_workOut_143 rfl (i := 1) rfl <|
    am_iconst (v := 2) d_Law_workOut_144 (by decide) <|
    am_icmp_lt (tgt := 188) d_Law_workOut_145 (by decide) kt kf
theorem b_Law_workOut_148 {d : Nat} {x1 : Int32} {x2 : Int32} {x3 : Int32} {x4 : Int32} {h : am_H} {Q : am_Q} (kt : 130 < x1 → am_W (X_Law_workOut d) 188 [some (.ref 6), some (.int x1), some (.int x2), some (.int x3), some (.int x4)] [] h Q) (kf : ¬ 130 < x1 → am_W (X_Law_workOut d) 155 [some (.ref 6), some (.int x1), some (.int x2), some (.int x3), some (.int x4)] [] h Q) : am_W (X_Law_workOut d) 148 [some (.ref 6), some (.int x1), some (.int x2), some (.int x3), some (.int x4)] [] h Q :=
  am_iload_n d_Law_workOut_148 rfl (i := 1) rfl <|
    am_sipush (v := 130) d_Law_workOut_149 (by decide) <|
    am_icmp_gt (tgt := 188) d_Law_workOut_152 (by decide) kt kf
theorem b_Law_workOut_155 {d : Nat} {x1 : Int32} {x2 : Int32} {x3 : Int32} {x4 : Int32} {h : am_H} {Q : am_Q} (q0 : vp_in ((x1 + (-1)) - 1) 130) (q1 : vp_in (x1 + (-1)) 130) (k : m_Law_join d [.int x4, .int (h.1 10 ((x1 + (-1)) - 1).toNatClampNeg), .int (h.1 10 (x1 + (-1)).toNatClampNeg)] h (fun r hh => am_W (X_Law_workOut (d + 1)) 184 [some (.ref 6), some (.int (x1 + (-1))), some (.int x2), some (.int x3), some (.int x4)] (r.toList ++ [.int ((x1 + (-1)) - 1), .ref 10]) hh Q)) : am_W (X_Law_workOut (d + 1)) 155 [some (.ref 6), some (.int x1), some (.int x2), some (.int x3), some (.int x4)] [] h Q :=
  am_iinc (v := (x1 + (-1))) (ls' := [some (.ref 6), some (.int (x1 + (-1))), some (.int x2), some (.int x3), some (.int x4)]) d_Law_workOut_155 rfl rfl (Nat.le_of_ble_eq_true rfl) rfl <|
    am_aload_n d_Law_workOut_158 rfl (i := 0) rfl <|
    am_getR (ci := 2) (i := 3) rfl rfl rfl (Nat.le_of_ble_eq_true rfl) w_163 d_Law_workOut_159 <|
    am_iload_n d_Law_workOut_162 rfl (i := 1) rfl <|
    am_iconst (v := 1) d_Law_workOut_163 (by decide) <|
    am_isub d_Law_workOut_164 <|
    am_iload d_Law_workOut_165 rfl <|
    am_aload_n d_Law_workOut_167 rfl (i := 0) rfl <|
    am_getR (ci := 2) (i := 3) rfl rfl rfl (Nat.le_of_ble_eq_true rfl) w_163 d_Law_workOut_168 <|
    am_iload_n d_Law_workOut_171 rfl (i := 1) rfl <|
    am_iconst (v := 1) d_Law_workOut_172 (by decide) <|
    am_isub d_Law_workOut_173 <|
    am_iald rfl q0 d_Law_workOut_174 <|
    am_aload_n d_Law_workOut_175 rfl (i := 0) rfl <|
    am_getR (ci := 2) (i := 3) rfl rfl rfl (Nat.le_of_ble_eq_true rfl) w_163 d_Law_workOut_176 <|
    am_iload_n d_Law_workOut_179 rfl (i := 1) rfl <|
    am_iald rfl q1 d_Law_workOut_180 <|
    am_callS (vs := [.int x4, .int (h.1 10 ((x1 + (-1)) - 1).toNatClampNeg), .int (h.1 10 (x1 + (-1)).toNatClampNeg)]) (st := [.int ((x1 + (-1)) - 1), .ref 10]) rfl d_Law_workOut_181 w_785 w_786 w_86 w_787 p_Law_join (Nat.le_of_ble_eq_true rfl) (Nat.le_of_ble_eq_true rfl) rfl k
theorem b_Law_workOut_184 {d : Nat} {x1 : Int32} {x2 : Int32} {x3 : Int32} {x4 : Int32} {y2 : Int32} {y1 : Int32} {h : am_H} {Q : am_Q} (q0 : vp_in y1 130) (k : am_W (X_Law_workOut d) 245 [some (.ref 6), some (.int x1), some (.int x2), some (.int x3), some (.int x4)] [] (am_pI h 10 y1.toNatClampNeg y2) Q) : am_W (X_Law_workOut d) 184 [some (.ref 6), some (.int x1), some (.int x2), some (.int x3), some (.int x4)] [.int y2, .int y1, .ref 10] h Q :=
  am_iast rfl q0 d_Law_workOut_184 <|
    am_goto (tgt := 245) d_Law_workOut_185 (by decide) k
theorem b_Law_workOut_188 {d : Nat} {x1 : Int32} {x2 : Int32} {x3 : Int32} {x4 : Int32} {h : am_H} {Q : am_Q} (kt : ¬ x2 = 0 → am_W (X_Law_workOut d) 245 [some (.ref 6), some (.int x1), some (.int x2), some (.int x3), some (.int x4)] [] h Q) (kf : x2 = 0 → am_W (X_Law_workOut d) 192 [some (.ref 6), some (.int x1), some (.int x2), some (.int x3), some (.int x4)] [] h Q) : am_W (X_Law_workOut d) 188 [some (.ref 6), some (.int x1), some (.int x2), some (.int x3), some (.int x4)] [] h Q :=
  am_iload_n d_Law_workOut_188 rfl (i := 2) rfl <|
    am_if_ne (tgt := 245) d_Law_workOut_189 (by decide) kt kf
theorem b_Law_workOut_192 {d : Nat} {x1 : Int32} {x2 : Int32} {x3 : Int32} {x4 : Int32} {h : am_H} {Q : am_Q} (kt : x1 < 1 → am_W (X_Law_workOut d) 245 [some (.ref 6), some (.int x1), some (.int x2), some (.int x3), some (.int x4)] [] h Q) (kf : ¬ x1 < 1 → am_W (X_Law_workOut d) 197 [some (.ref 6), some (.int x1), some (.int x2), some (.int x3), some (.int x4)] [] h Q) : am_W (X_Law_workOut d) 192 [some (.ref 6), some (.int x1), some (.int x2), some (.int x3), some (.int x4)] [] h Q :=
  am_iload_n d_Law_workOut_192 rfl (i := 1) rfl <|
    am_iconst (v := 1) d_Law_workOut_193 (by decide) <|
    am_icmp_lt (tgt := 245) d_Law_workOut_194 (by decide) kt kf
theorem b_Law_workOut_197 {d : Nat} {x1 : Int32} {x2 : Int32} {x3 : Int32} {x4 : Int32} {h : am_H} {Q : am_Q} (kt : 130 < x1 → am_W (X_Law_workOut d) 245 [some (.ref 6), some (.int x1), some (.int x2), some (.int x3), some (.int x4)] [] h Q) (kf : ¬ 130 < x1 → am_W (X_Law_workOut d) 204 [some (.ref 6), some (.int x1), some (.int x2), some (.int x3), some (.int x4)] [] h Q) : am_W (X_Law_workOut d) 197 [some (.ref 6), some (.int x1), some (.int x2), some (.int x3), some (.int x4)] [] h Q :=
  am_iload_n d_Law_workOut_197 rfl (i := 1) rfl <|
    am_sipush (v := 130) d_Law_workOut_198 (by decide) <|
    am_icmp_gt (tgt := 245) d_Law_workOut_201 (by decide) kt kf
theorem b_Law_workOut_204 {d : Nat} {x1 : Int32} {x2 : Int32} {x3 : Int32} {x4 : Int32} {h : am_H} {Q : am_Q} (kt : ¬ x4 = (-21) → am_W (X_Law_workOut d) 235 [some (.ref 6), some (.int x1), some (.int x2), some (.int x3), some (.int x4)] [.int (x1 - 1), .ref 10] h Q) (kf : x4 = (-21) → am_W (X_Law_workOut d) 218 [some (.ref 6), some (.int x1), some (.int x2), some (.int x3), some (.int x4)] [.int (x1 - 1), .ref 10] h Q) : am_W (X_Law_workOut d) 204 [some (.ref 6), some (.int x1), some (.int x2), some (.int x3), some (.int x4)] [] h Q :=
  am_aload_n d_Law_workOut_204 rfl (i := 0) rfl <|
    am_getR (ci := 2) (i := 3) rfl rfl rfl (Nat.le_of_ble_eq_true rfl) w_163 d_Law_workOut_205 <|
    am_iload_n d_Law_workOut_208 rfl (i := 1) rfl <|
    am_iconst (v := 1) d_Law_workOut_209 (by decide) <|
    am_isub d_Law_workOut_210 <|
    am_iload d_Law_workOut_211 rfl <|
    am_bipush (v := (-21)) d_Law_workOut_213 (by decide) <|
    am_icmp_ne (tgt := 235) d_Law_workOut_215 (by decide) kt kf
theorem b_Law_workOut_218 {d : Nat} {x1 : Int32} {x2 : Int32} {x3 : Int32} {x4 : Int32} {y1 : Int32} {h : am_H} {Q : am_Q} (q0 : vp_in (x1 - 1) 130) (k : m_Law_join d [.int (-14), .int (h.1 10 (x1 - 1).toNatClampNeg), .int 0] h (fun r hh => am_W (X_Law_workOut (d + 1)) 232 [some (.ref 6), some (.int x1), some (.int x2), some (.int x3), some (.int x4)] (r.toList ++ [.int y1, .ref 10]) hh Q)) : am_W (X_Law_workOut (d + 1)) 218 [some (.ref 6), some (.int x1), some (.int x2), some (.int x3), some (.int x4)] [.int y1, .ref 10] h Q :=
  am_bipush (v := (-14)) d_Law_workOut_218 (by decide) <|
    am_aload_n d_Law_workOut_220 rfl (i := 0) rfl <|
    am_getR (ci := 2) (i := 3) rfl rfl rfl (Nat.le_of_ble_eq_true rfl) w_163 d_Law_workOut_221 <|
    am_iload_n d_Law_workOut_224 rfl (i := 1) rfl <|
    am_iconst (v := 1) d_Law_workOut_225 (by decide) <|
    am_isub d_Law_workOut_226 <|
    am_iald rfl q0 d_Law_workOut_227 <|
    am_iconst (v := 0) d_Law_workOut_228 (by decide) <|
    am_callS (vs := [.int (-14), .int (h.1 10 (x1 - 1).toNatClampNeg), .int 0]) (st := [.int y1, .ref 10]) rfl d_Law_workOut_229 w_785 w_786 w_86 w_787 p_Law_join (Nat.le_of_ble_eq_true rfl) (Nat.le_of_ble_eq_true rfl) rfl k
theorem b_Law_workOut_232 {d : Nat} {x1 : Int32} {x2 : Int32} {x3 : Int32} {x4 : Int32} {y2 : Int32} {y1 : Int32} {h : am_H} {Q : am_Q} (k : am_W (X_Law_workOut d) 244 [some (.ref 6), some (.int x1), some (.int x2), some (.int x3), some (.int x4)] [.int y2, .int y1, .ref 10] h Q) : am_W (X_Law_workOut d) 232 [some (.ref 6), some (.int x1), some (.int x2), some (.int x3), some (.int x4)] [.int y2, .int y1, .ref 10] h Q :=
  am_goto (tgt := 244) d_Law_workOut_232 (by decide) k
theorem b_Law_workOut_235 {d : Nat} {x1 : Int32} {x2 : Int32} {x3 : Int32} {x4 : Int32} {y1 : Int32} {h : am_H} {Q : am_Q} (q0 : vp_in (x1 - 1) 130) (k : am_W (X_Law_workOut d) 244 [some (.ref 6), some (.int x1), some (.int x2), some (.int x3), some (.int x4)] [.int (-(h.1 10 (x1 - 1).toNatClampNeg)), .int y1, .ref 10] h Q) : am_W (X_Law_workOut d) 235 [some (.ref 6), some (.int x1), some (.int x2), some (.int x3), some (.int x4)] [.int y1, .ref 10] h Q :=
  am_aload_n d_Law_workOut_235 rfl (i := 0) rfl <|
    am_getR (ci := 2) (i := 3) rfl rfl rfl (Nat.le_of_ble_eq_true rfl) w_163 d_Law_workOut_236 <|
    am_iload_n d_Law_workOut_239 rfl (i := 1) rfl <|
    am_iconst (v := 1) d_Law_workOut_240 (by decide) <|
    am_isub d_Law_workOut_241 <|
    am_iald rfl q0 d_Law_workOut_242 <|
    am_ineg d_Law_workOut_243 <|
    k
theorem b_Law_workOut_244 {d : Nat} {x1 : Int32} {x2 : Int32} {x3 : Int32} {x4 : Int32} {y2 : Int32} {y1 : Int32} {h : am_H} {Q : am_Q} (q0 : vp_in y1 130) (k : am_W (X_Law_workOut d) 245 [some (.ref 6), some (.int x1), some (.int x2), some (.int x3), some (.int x4)] [] (am_pI h 10 y1.toNatClampNeg y2) Q) : am_W (X_Law_workOut d) 244 [some (.ref 6), some (.int x1), some (.int x2), some (.int x3), some (.int x4)] [.int y2, .int y1, .ref 10] h Q :=
  am_iast rfl q0 d_Law_workOut_244 <|
    k
theorem b_Law_workOut_245 {d : Nat} {x1 : Int32} {x2 : Int32} {x3 : Int32} {x4 : Int32} {h : am_H} {Q : am_Q} (k : am_W (X_Law_workOut d) 6 [some (.ref 6), some (.int x1), some (.int x2), some (.int (x3 + 1)), some (.int x4)] [] h Q) : am_W (X_Law_workOut d) 245 [some (.ref 6), some (.int x1), some (.int x2), some (.int x3), some (.int x4)] [] h Q :=
  am_iinc (v := (x3 + 1)) (ls' := [some (.ref 6), some (.int x1), some (.int x2), some (.int (x3 + 1)), some (.int x4)]) d_Law_workOut_245 rfl rfl (Nat.le_of_ble_eq_true rfl) rfl <|
    am_goto (tgt := 6) d_Law_workOut_248 (by decide) k
theorem b_Law_workOut_251 {d : Nat} {x1 : Int32} {x2 : Int32} {x3 : Int32} {h : am_H} {Q : am_Q} (q : Q (some (.int 0)) h) : am_W (X_Law_workOut d) 251 [some (.ref 6), some (.int x1), some (.int x2), some (.int x3), none] [] h Q :=
  am_iconst (v := 0) d_Law_workOut_251 (by decide) <|
    am_iret rfl d_Law_workOut_252 q
theorem t_Law_workOut_251 {d : Nat} {x1 : Int32} {x2 : Int32} {x3 : Int32} {h : am_H} {Q : am_Q} {res : Int32 × am_H} (e : f_Law_workOut_251 h = some res) (q : Q (some (.int res.1)) res.2) : am_W (X_Law_workOut (d + 1)) 251 [some (.ref 6), some (.int x1), some (.int x2), some (.int x3), none] [] h Q :=
  b_Law_workOut_251 (d := (d + 1)) (q := (am_rIpi (v := 0) e q))
theorem t_Law_workOut_245 {d : Nat} {k6 : am_H → Int32 → Int32 → Int32 → Option (Int32 × am_H)} {x1 : Int32} {x2 : Int32} {x3 : Int32} {x4 : Int32} {h : am_H} {Q : am_Q} {res : Int32 × am_H} (hk6 : ∀ (x1 : Int32) (x2 : Int32) (x3 : Int32) (h : am_H), k6 h x1 x2 x3 = some res → am_W (X_Law_workOut (d + 1)) 6 [some (.ref 6), some (.int x1), some (.int x2), some (.int x3), none] [] h Q) (e : f_Law_workOut_245 k6 h x1 x2 x3 = some res) (q : Q (some (.int res.1)) res.2) : am_W (X_Law_workOut (d + 1)) 245 [some (.ref 6), some (.int x1), some (.int x2), some (.int x3), some (.int x4)] [] h Q :=
  b_Law_workOut_245 (d := (d + 1)) (k := (am_wk2 (hk6 _ _ _ _ e) ⟨rfl, ⟨rfl, ⟨rfl, ⟨rfl, trivial⟩⟩⟩⟩))
theorem t_Law_workOut_244 {d : Nat} {k6 : am_H → Int32 → Int32 → Int32 → Option (Int32 × am_H)} {x1 : Int32} {x2 : Int32} {x3 : Int32} {x4 : Int32} {y2 : Int32} {y1 : Int32} {h : am_H} {Q : am_Q} {res : Int32 × am_H} (hk6 : ∀ (x1 : Int32) (x2 : Int32) (x3 : Int32) (h : am_H), k6 h x1 x2 x3 = some res → am_W (X_Law_workOut (d + 1)) 6 [some (.ref 6), some (.int x1), some (.int x2), some (.int x3), none] [] h Q) (e : f_Law_workOut_244 k6 h x1 x2 x3 y2 y1 = some res) (q : Q (some (.int res.1)) res.2) : am_W (X_Law_workOut (d + 1)) 244 [some (.ref 6), some (.int x1), some (.int x2), some (.int x3), some (.int x4)] [.int y2, .int y1, .ref 10] h Q :=
  b_Law_workOut_244 (d := (d + 1)) (q0 := (am_okv (am_gd e))) (k := (t_Law_workOut_245 hk6 (am_ga e) q))
theorem t_Law_workOut_235 {d : Nat} {k6 : am_H → Int32 → Int32 → Int32 → Option (Int32 × am_H)} {x1 : Int32} {x2 : Int32} {x3 : Int32} {x4 : Int32} {y1 : Int32} {h : am_H} {Q : am_Q} {res : Int32 × am_H} (hk6 : ∀ (x1 : Int32) (x2 : Int32) (x3 : Int32) (h : am_H), k6 h x1 x2 x3 = some res → am_W (X_Law_workOut (d + 1)) 6 [some (.ref 6), some (.int x1), some (.int x2), some (.int x3), none] [] h Q) (e : f_Law_workOut_235 k6 h x1 x2 x3 y1 = some res) (q : Q (some (.int res.1)) res.2) : am_W (X_Law_workOut (d + 1)) 235 [some (.ref 6), some (.int x1), some (.int x2), some (.int x3), some (.int x4)] [.int y1, .ref 10] h Q :=
  b_Law_workOut_235 (d := (d + 1)) (q0 := (am_okv (am_gd e))) (k := (t_Law_workOut_244 hk6 (am_ga e) q))
theorem t_Law_workOut_232 {d : Nat} {k6 : am_H → Int32 → Int32 → Int32 → Option (Int32 × am_H)} {x1 : Int32} {x2 : Int32} {x3 : Int32} {x4 : Int32} {y2 : Int32} {y1 : Int32} {h : am_H} {Q : am_Q} {res : Int32 × am_H} (hk6 : ∀ (x1 : Int32) (x2 : Int32) (x3 : Int32) (h : am_H), k6 h x1 x2 x3 = some res → am_W (X_Law_workOut (d + 1)) 6 [some (.ref 6), some (.int x1), some (.int x2), some (.int x3), none] [] h Q) (e : f_Law_workOut_232 k6 h x1 x2 x3 y2 y1 = some res) (q : Q (some (.int res.1)) res.2) : am_W (X_Law_workOut (d + 1)) 232 [some (.ref 6), some (.int x1), some (.int x2), some (.int x3), some (.int x4)] [.int y2, .int y1, .ref 10] h Q :=
  b_Law_workOut_232 (d := (d + 1)) (k := (t_Law_workOut_244 hk6 e q))
theorem t_Law_workOut_218 {d : Nat} {k6 : am_H → Int32 → Int32 → Int32 → Option (Int32 × am_H)} {x1 : Int32} {x2 : Int32} {x3 : Int32} {x4 : Int32} {y1 : Int32} {h : am_H} {Q : am_Q} {res : Int32 × am_H} (hk6 : ∀ (x1 : Int32) (x2 : Int32) (x3 : Int32) (h : am_H), k6 h x1 x2 x3 = some res → am_W (X_Law_workOut (d + 1)) 6 [some (.ref 6), some (.int x1), some (.int x2), some (.int x3), none] [] h Q) (e : f_Law_workOut_218 k6 h x1 x2 x3 y1 = some res) (q : Q (some (.int res.1)) res.2) : am_W (X_Law_workOut (d + 1)) 218 [some (.ref 6), some (.int x1), some (.int x2), some (.int x3), some (.int x4)] [.int y1, .ref 10] h Q :=
  (am_bd (am_ga e)).elim fun p hp => b_Law_workOut_218 (d := d) (q0 := (am_okv (am_gd e))) (k := c_Law_join (d := d) hp.1 (t_Law_workOut_232 hk6 hp.2 q))
theorem t_Law_workOut_204 {d : Nat} {k6 : am_H → Int32 → Int32 → Int32 → Option (Int32 × am_H)} {x1 : Int32} {x2 : Int32} {x3 : Int32} {x4 : Int32} {h : am_H} {Q : am_Q} {res : Int32 × am_H} (hk6 : ∀ (x1 : Int32) (x2 : Int32) (x3 : Int32) (h : am_H), k6 h x1 x2 x3 = some res → am_W (X_Law_workOut (d + 1)) 6 [some (.ref 6), some (.int x1), some (.int x2), some (.int x3), none] [] h Q) (e : f_Law_workOut_204 k6 h x1 x2 x3 x4 = some res) (q : Q (some (.int res.1)) res.2) : am_W (X_Law_workOut (d + 1)) 204 [some (.ref 6), some (.int x1), some (.int x2), some (.int x3), some (.int x4)] [] h Q :=
  b_Law_workOut_204 (d := (d + 1)) (kt := fun c => (t_Law_workOut_235 hk6 (am_ife e c) q)) (kf := fun c => (t_Law_workOut_218 hk6 (am_ift e c) q))
theorem t_Law_workOut_197 {d : Nat} {k6 : am_H → Int32 → Int32 → Int32 → Option (Int32 × am_H)} {x1 : Int32} {x2 : Int32} {x3 : Int32} {x4 : Int32} {h : am_H} {Q : am_Q} {res : Int32 × am_H} (hk6 : ∀ (x1 : Int32) (x2 : Int32) (x3 : Int32) (h : am_H), k6 h x1 x2 x3 = some res → am_W (X_Law_workOut (d + 1)) 6 [some (.ref 6), some (.int x1), some (.int x2), some (.int x3), none] [] h Q) (e : f_Law_workOut_197 k6 h x1 x2 x3 x4 = some res) (q : Q (some (.int res.1)) res.2) : am_W (X_Law_workOut (d + 1)) 197 [some (.ref 6), some (.int x1), some (.int x2), some (.int x3), some (.int x4)] [] h Q :=
  b_Law_workOut_197 (d := (d + 1)) (kt := fun c => (t_Law_workOut_245 hk6 (am_ift e c) q)) (kf := fun c => (t_Law_workOut_204 hk6 (am_ife e c) q))
theorem t_Law_workOut_192 {d : Nat} {k6 : am_H → Int32 → Int32 → Int32 → Option (Int32 × am_H)} {x1 : Int32} {x2 : Int32} {x3 : Int32} {x4 : Int32} {h : am_H} {Q : am_Q} {res : Int32 × am_H} (hk6 : ∀ (x1 : Int32) (x2 : Int32) (x3 : Int32) (h : am_H), k6 h x1 x2 x3 = some res → am_W (X_Law_workOut (d + 1)) 6 [some (.ref 6), some (.int x1), some (.int x2), some (.int x3), none] [] h Q) (e : f_Law_workOut_192 k6 h x1 x2 x3 x4 = some res) (q : Q (some (.int res.1)) res.2) : am_W (X_Law_workOut (d + 1)) 192 [some (.ref 6), some (.int x1), some (.int x2), some (.int x3), some (.int x4)] [] h Q :=
  b_Law_workOut_192 (d := (d + 1)) (kt := fun c => (t_Law_workOut_245 hk6 (am_ift e c) q)) (kf := fun c => (t_Law_workOut_197 hk6 (am_ife e c) q))
theorem t_Law_workOut_188 {d : Nat} {k6 : am_H → Int32 → Int32 → Int32 → Option (Int32 × am_H)} {x1 : Int32} {x2 : Int32} {x3 : Int32} {x4 : Int32} {h : am_H} {Q : am_Q} {res : Int32 × am_H} (hk6 : ∀ (x1 : Int32) (x2 : Int32) (x3 : Int32) (h : am_H), k6 h x1 x2 x3 = some res → am_W (X_Law_workOut (d + 1)) 6 [some (.ref 6), some (.int x1), some (.int x2), some (.int x3), none] [] h Q) (e : f_Law_workOut_188 k6 h x1 x2 x3 x4 = some res) (q : Q (some (.int res.1)) res.2) : am_W (X_Law_workOut (d + 1)) 188 [some (.ref 6), some (.int x1), some (.int x2), some (.int x3), some (.int x4)] [] h Q :=
  b_Law_workOut_188 (d := (d + 1)) (kt := fun c => (t_Law_workOut_245 hk6 (am_ife e c) q)) (kf := fun c => (t_Law_workOut_192 hk6 (am_ift e c) q))
theorem t_Law_workOut_184 {d : Nat} {k6 : am_H → Int32 → Int32 → Int32 → Option (Int32 × am_H)} {x1 : Int32} {x2 : Int32} {x3 : Int32} {x4 : Int32} {y2 : Int32} {y1 : Int32} {h : am_H} {Q : am_Q} {res : Int32 × am_H} (hk6 : ∀ (x1 : Int32) (x2 : Int32) (x3 : Int32) (h : am_H), k6 h x1 x2 x3 = some res → am_W (X_Law_workOut (d + 1)) 6 [some (.ref 6), some (.int x1), some (.int x2), some (.int x3), none] [] h Q) (e : f_Law_workOut_184 k6 h x1 x2 x3 y2 y1 = some res) (q : Q (some (.int res.1)) res.2) : am_W (X_Law_workOut (d + 1)) 184 [some (.ref 6), some (.int x1), some (.int x2), some (.int x3), some (.int x4)] [.int y2, .int y1, .ref 10] h Q :=
  b_Law_workOut_184 (d := (d + 1)) (q0 := (am_okv (am_gd e))) (k := (t_Law_workOut_245 hk6 (am_ga e) q))
theorem t_Law_workOut_155 {d : Nat} {k6 : am_H → Int32 → Int32 → Int32 → Option (Int32 × am_H)} {x1 : Int32} {x2 : Int32} {x3 : Int32} {x4 : Int32} {h : am_H} {Q : am_Q} {res : Int32 × am_H} (hk6 : ∀ (x1 : Int32) (x2 : Int32) (x3 : Int32) (h : am_H), k6 h x1 x2 x3 = some res → am_W (X_Law_workOut (d + 1)) 6 [some (.ref 6), some (.int x1), some (.int x2), some (.int x3), none] [] h Q) (e : f_Law_workOut_155 k6 h x1 x2 x3 x4 = some res) (q : Q (some (.int res.1)) res.2) : am_W (X_Law_workOut (d + 1)) 155 [some (.ref 6), some (.int x1), some (.int x2), some (.int x3), some (.int x4)] [] h Q :=
  (am_bd (am_ga (am_ga e))).elim fun p hp => b_Law_workOut_155 (d := d) (q0 := (am_okv (am_gd e))) (q1 := (am_okv (am_gd (am_ga e)))) (k := c_Law_join (d := d) hp.1 (t_Law_workOut_184 hk6 hp.2 q))
theorem t_Law_workOut_148 {d : Nat} {k6 : am_H → Int32 → Int32 → Int32 → Option (Int32 × am_H)} {x1 : Int32} {x2 : Int32} {x3 : Int32} {x4 : Int32} {h : am_H} {Q : am_Q} {res : Int32 × am_H} (hk6 : ∀ (x1 : Int32) (x2 : Int32) (x3 : Int32) (h : am_H), k6 h x1 x2 x3 = some res → am_W (X_Law_workOut (d + 1)) 6 [some (.ref 6), some (.int x1), some (.int x2), some (.int x3), none] [] h Q) (e : f_Law_workOut_148 k6 h x1 x2 x3 x4 = some res) (q : Q (some (.int res.1)) res.2) : am_W (X_Law_workOut (d + 1)) 148 [some (.ref 6), some (.int x1), some (.int x2), some (.int x3), some (.int x4)] [] h Q :=
  b_Law_workOut_148 (d := (d + 1)) (kt := fun c => (t_Law_workOut_188 hk6 (am_ift e c) q)) (kf := fun c => (t_Law_workOut_155 hk6 (am_ife e c) q))
theorem t_Law_workOut_143 {d : Nat} {k6 : am_H → Int32 → Int32 → Int32 → Option (Int32 × am_H)} {x1 : Int32} {x2 : Int32} {x3 : Int32} {x4 : Int32} {h : am_H} {Q : am_Q} {res : Int32 × am_H} (hk6 : ∀ (x1 : Int32) (x2 : Int32) (x3 : Int32) (h : am_H), k6 h x1 x2 x3 = some res → am_W (X_Law_workOut (d + 1)) 6 [some (.ref 6), some (.int x1), some (.int x2), some (.int x3), none] [] h Q) (e : f_Law_workOut_143 k6 h x1 x2 x3 x4 = some res) (q : Q (some (.int res.1)) res.2) : am_W (X_Law_workOut (d + 1)) 143 [some (.ref 6), some (.int x1), some (.int x2), some (.int x3), some (.int x4)] [] h Q :=
  b_Law_workOut_143 (d := (d + 1)) (kt := fun c => (t_Law_workOut_188 hk6 (am_ift e c) q)) (kf := fun c => (t_Law_workOut_148 hk6 (am_ife e c) q))
theorem t_Law_workOut_136 {d : Nat} {k6 : am_H → Int32 → Int32 → Int32 → Option (Int32 × am_H)} {x1 : Int32} {x2 : Int32} {x3 : Int32} {x4 : Int32} {h : am_H} {Q : am_Q} {res : Int32 × am_H} (hk6 : ∀ (x1 : Int32) (x2 : Int32) (x3 : Int32) (h : am_H), k6 h x1 x2 x3 = some res → am_W (X_Law_workOut (d + 1)) 6 [some (.ref 6), some (.int x1), some (.int x2), some (.int x3), none] [] h Q) (e : f_Law_workOut_136 k6 h x1 x2 x3 x4 = some res) (q : Q (some (.int res.1)) res.2) : am_W (X_Law_workOut (d + 1)) 136 [some (.ref 6), some (.int x1), some (.int x2), some (.int x3), some (.int x4)] [] h Q :=
  b_Law_workOut_136 (d := (d + 1)) (kt := fun c => (t_Law_workOut_188 hk6 (am_ift e c) q)) (kf := fun c => (t_Law_workOut_143 hk6 (am_ife e c) q))
theorem t_Law_workOut_132 {d : Nat} {k6 : am_H → Int32 → Int32 → Int32 → Option (Int32 × am_H)} {x1 : Int32} {x2 : Int32} {x3 : Int32} {x4 : Int32} {h : am_H} {Q : am_Q} {res : Int32 × am_H} (hk6 : ∀ (x1 : Int32) (x2 : Int32) (x3 : Int32) (h : am_H), k6 h x1 x2 x3 = some res → am_W (X_Law_workOut (d + 1)) 6 [some (.ref 6), some (.int x1), some (.int x2), some (.int x3), none] [] h Q) (e : f_Law_workOut_132 k6 h x1 x2 x3 x4 = some res) (q : Q (some (.int res.1)) res.2) : am_W (X_Law_workOut (d + 1)) 132 [some (.ref 6), some (.int x1), some (.int x2), some (.int x3), some (.int x4)] [] h Q :=
  b_Law_workOut_132 (d := (d + 1)) (kt := fun c => (t_Law_workOut_188 hk6 (am_ife e c) q)) (kf := fun c => (t_Law_workOut_136 hk6 (am_ift e c) q))
theorem t_Law_workOut_125 {d : Nat} {k6 : am_H → Int32 → Int32 → Int32 → Option (Int32 × am_H)} {x1 : Int32} {x2 : Int32} {x3 : Int32} {x4 : Int32} {y2 : Int32} {y1 : Int32} {h : am_H} {Q : am_Q} {res : Int32 × am_H} (hk6 : ∀ (x1 : Int32) (x2 : Int32) (x3 : Int32) (h : am_H), k6 h x1 x2 x3 = some res → am_W (X_Law_workOut (d + 1)) 6 [some (.ref 6), some (.int x1), some (.int x2), some (.int x3), none] [] h Q) (e : f_Law_workOut_125 k6 h x1 x2 x3 y2 y1 = some res) (q : Q (some (.int res.1)) res.2) : am_W (X_Law_workOut (d + 1)) 125 [some (.ref 6), some (.int x1), some (.int x2), some (.int x3), some (.int x4)] [.int y2, .int y1, .ref 10] h Q :=
  b_Law_workOut_125 (d := (d + 1)) (q0 := (am_okv (am_gd e))) (k := (t_Law_workOut_245 hk6 (am_ga e) q))
theorem t_Law_workOut_114 {d : Nat} {k6 : am_H → Int32 → Int32 → Int32 → Option (Int32 × am_H)} {x1 : Int32} {x2 : Int32} {x3 : Int32} {x4 : Int32} {h : am_H} {Q : am_Q} {res : Int32 × am_H} (hk6 : ∀ (x1 : Int32) (x2 : Int32) (x3 : Int32) (h : am_H), k6 h x1 x2 x3 = some res → am_W (X_Law_workOut (d + 1)) 6 [some (.ref 6), some (.int x1), some (.int x2), some (.int x3), none] [] h Q) (e : f_Law_workOut_114 k6 h x1 x2 x3 x4 = some res) (q : Q (some (.int res.1)) res.2) : am_W (X_Law_workOut (d + 1)) 114 [some (.ref 6), some (.int x1), some (.int x2), some (.int x3), some (.int x4)] [] h Q :=
  (am_bd e).elim fun p hp => b_Law_workOut_114 (d := d) (k := c_Law_valueOf (d := d) hp.1 (t_Law_workOut_125 hk6 hp.2 q))
theorem t_Law_workOut_107 {d : Nat} {k6 : am_H → Int32 → Int32 → Int32 → Option (Int32 × am_H)} {x1 : Int32} {x2 : Int32} {x3 : Int32} {x4 : Int32} {h : am_H} {Q : am_Q} {res : Int32 × am_H} (hk6 : ∀ (x1 : Int32) (x2 : Int32) (x3 : Int32) (h : am_H), k6 h x1 x2 x3 = some res → am_W (X_Law_workOut (d + 1)) 6 [some (.ref 6), some (.int x1), some (.int x2), some (.int x3), none] [] h Q) (e : f_Law_workOut_107 k6 h x1 x2 x3 x4 = some res) (q : Q (some (.int res.1)) res.2) : am_W (X_Law_workOut (d + 1)) 107 [some (.ref 6), some (.int x1), some (.int x2), some (.int x3), some (.int x4)] [] h Q :=
  b_Law_workOut_107 (d := (d + 1)) (kt := fun c => (t_Law_workOut_132 hk6 (am_ift e c) q)) (kf := fun c => (t_Law_workOut_114 hk6 (am_ife e c) q))
theorem t_Law_workOut_103 {d : Nat} {k6 : am_H → Int32 → Int32 → Int32 → Option (Int32 × am_H)} {x1 : Int32} {x2 : Int32} {x3 : Int32} {x4 : Int32} {h : am_H} {Q : am_Q} {res : Int32 × am_H} (hk6 : ∀ (x1 : Int32) (x2 : Int32) (x3 : Int32) (h : am_H), k6 h x1 x2 x3 = some res → am_W (X_Law_workOut (d + 1)) 6 [some (.ref 6), some (.int x1), some (.int x2), some (.int x3), none] [] h Q) (e : f_Law_workOut_103 k6 h x1 x2 x3 x4 = some res) (q : Q (some (.int res.1)) res.2) : am_W (X_Law_workOut (d + 1)) 103 [some (.ref 6), some (.int x1), some (.int x2), some (.int x3), some (.int x4)] [] h Q :=
  b_Law_workOut_103 (d := (d + 1)) (kt := fun c => (t_Law_workOut_132 hk6 (am_ift e c) q)) (kf := fun c => (t_Law_workOut_107 hk6 (am_ife e c) q))
theorem t_Law_workOut_96 {d : Nat} {k6 : am_H → Int32 → Int32 → Int32 → Option (Int32 × am_H)} {x1 : Int32} {x2 : Int32} {x3 : Int32} {x4 : Int32} {h : am_H} {Q : am_Q} {res : Int32 × am_H} (hk6 : ∀ (x1 : Int32) (x2 : Int32) (x3 : Int32) (h : am_H), k6 h x1 x2 x3 = some res → am_W (X_Law_workOut (d + 1)) 6 [some (.ref 6), some (.int x1), some (.int x2), some (.int x3), none] [] h Q) (e : f_Law_workOut_96 k6 h x1 x2 x3 x4 = some res) (q : Q (some (.int res.1)) res.2) : am_W (X_Law_workOut (d + 1)) 96 [some (.ref 6), some (.int x1), some (.int x2), some (.int x3), some (.int x4)] [] h Q :=
  b_Law_workOut_96 (d := (d + 1)) (kt := fun c => (t_Law_workOut_132 hk6 (am_ift e c) q)) (kf := fun c => (t_Law_workOut_103 hk6 (am_ife e c) q))
theorem t_Law_workOut_92 {d : Nat} {k6 : am_H → Int32 → Int32 → Int32 → Option (Int32 × am_H)} {x1 : Int32} {x2 : Int32} {x3 : Int32} {x4 : Int32} {h : am_H} {Q : am_Q} {res : Int32 × am_H} (hk6 : ∀ (x1 : Int32) (x2 : Int32) (x3 : Int32) (h : am_H), k6 h x1 x2 x3 = some res → am_W (X_Law_workOut (d + 1)) 6 [some (.ref 6), some (.int x1), some (.int x2), some (.int x3), none] [] h Q) (e : f_Law_workOut_92 k6 h x1 x2 x3 x4 = some res) (q : Q (some (.int res.1)) res.2) : am_W (X_Law_workOut (d + 1)) 92 [some (.ref 6), some (.int x1), some (.int x2), some (.int x3), some (.int x4)] [] h Q :=
  b_Law_workOut_92 (d := (d + 1)) (kt := fun c => (t_Law_workOut_132 hk6 (am_ife e c) q)) (kf := fun c => (t_Law_workOut_96 hk6 (am_ift e c) q))
theorem t_Law_workOut_86 {d : Nat} {k6 : am_H → Int32 → Int32 → Int32 → Option (Int32 × am_H)} {x1 : Int32} {x2 : Int32} {x3 : Int32} {x4 : Int32} {y0 : Int32} {h : am_H} {Q : am_Q} {res : Int32 × am_H} (hk6 : ∀ (x1 : Int32) (x2 : Int32) (x3 : Int32) (h : am_H), k6 h x1 x2 x3 = some res → am_W (X_Law_workOut (d + 1)) 6 [some (.ref 6), some (.int x1), some (.int x2), some (.int x3), none] [] h Q) (e : f_Law_workOut_86 k6 h x3 y0 = some res) (q : Q (some (.int res.1)) res.2) : am_W (X_Law_workOut (d + 1)) 86 [some (.ref 6), some (.int x1), some (.int x2), some (.int x3), some (.int x4)] [.int y0] h Q :=
  b_Law_workOut_86 (d := (d + 1)) (k := (t_Law_workOut_245 hk6 e q))
theorem t_Law_workOut_85 {d : Nat} {k6 : am_H → Int32 → Int32 → Int32 → Option (Int32 × am_H)} {x1 : Int32} {x2 : Int32} {x3 : Int32} {x4 : Int32} {h : am_H} {Q : am_Q} {res : Int32 × am_H} (hk6 : ∀ (x1 : Int32) (x2 : Int32) (x3 : Int32) (h : am_H), k6 h x1 x2 x3 = some res → am_W (X_Law_workOut (d + 1)) 6 [some (.ref 6), some (.int x1), some (.int x2), some (.int x3), none] [] h Q) (e : f_Law_workOut_85 k6 h x3 = some res) (q : Q (some (.int res.1)) res.2) : am_W (X_Law_workOut (d + 1)) 85 [some (.ref 6), some (.int x1), some (.int x2), some (.int x3), some (.int x4)] [] h Q :=
  b_Law_workOut_85 (d := (d + 1)) (k := (t_Law_workOut_86 hk6 e q))
theorem t_Law_workOut_81 {d : Nat} {k6 : am_H → Int32 → Int32 → Int32 → Option (Int32 × am_H)} {x1 : Int32} {x2 : Int32} {x3 : Int32} {x4 : Int32} {h : am_H} {Q : am_Q} {res : Int32 × am_H} (hk6 : ∀ (x1 : Int32) (x2 : Int32) (x3 : Int32) (h : am_H), k6 h x1 x2 x3 = some res → am_W (X_Law_workOut (d + 1)) 6 [some (.ref 6), some (.int x1), some (.int x2), some (.int x3), none] [] h Q) (e : f_Law_workOut_81 k6 h x3 = some res) (q : Q (some (.int res.1)) res.2) : am_W (X_Law_workOut (d + 1)) 81 [some (.ref 6), some (.int x1), some (.int x2), some (.int x3), some (.int x4)] [] h Q :=
  b_Law_workOut_81 (d := (d + 1)) (k := (t_Law_workOut_86 hk6 e q))
theorem t_Law_workOut_72 {d : Nat} {k6 : am_H → Int32 → Int32 → Int32 → Option (Int32 × am_H)} {x1 : Int32} {x2 : Int32} {x3 : Int32} {x4 : Int32} {h : am_H} {Q : am_Q} {res : Int32 × am_H} (hk6 : ∀ (x1 : Int32) (x2 : Int32) (x3 : Int32) (h : am_H), k6 h x1 x2 x3 = some res → am_W (X_Law_workOut (d + 1)) 6 [some (.ref 6), some (.int x1), some (.int x2), some (.int x3), none] [] h Q) (e : f_Law_workOut_72 k6 h x3 = some res) (q : Q (some (.int res.1)) res.2) : am_W (X_Law_workOut (d + 1)) 72 [some (.ref 6), some (.int x1), some (.int x2), some (.int x3), some (.int x4)] [] h Q :=
  b_Law_workOut_72 (d := (d + 1)) (kt := fun c => (t_Law_workOut_85 hk6 (am_ife e c) q)) (kf := fun c => (t_Law_workOut_81 hk6 (am_ift e c) q))
theorem t_Law_workOut_68 {d : Nat} {k6 : am_H → Int32 → Int32 → Int32 → Option (Int32 × am_H)} {x1 : Int32} {x2 : Int32} {x3 : Int32} {x4 : Int32} {h : am_H} {Q : am_Q} {res : Int32 × am_H} (hk6 : ∀ (x1 : Int32) (x2 : Int32) (x3 : Int32) (h : am_H), k6 h x1 x2 x3 = some res → am_W (X_Law_workOut (d + 1)) 6 [some (.ref 6), some (.int x1), some (.int x2), some (.int x3), none] [] h Q) (e : f_Law_workOut_68 k6 h x1 x2 x3 x4 = some res) (q : Q (some (.int res.1)) res.2) : am_W (X_Law_workOut (d + 1)) 68 [some (.ref 6), some (.int x1), some (.int x2), some (.int x3), some (.int x4)] [] h Q :=
  b_Law_workOut_68 (d := (d + 1)) (kt := fun c => (t_Law_workOut_92 hk6 (am_ife e c) q)) (kf := fun c => (t_Law_workOut_72 hk6 (am_ift e c) q))
theorem t_Law_workOut_61 {d : Nat} {k6 : am_H → Int32 → Int32 → Int32 → Option (Int32 × am_H)} {x1 : Int32} {x2 : Int32} {x3 : Int32} {x4 : Int32} {h : am_H} {Q : am_Q} {res : Int32 × am_H} (hk6 : ∀ (x1 : Int32) (x2 : Int32) (x3 : Int32) (h : am_H), k6 h x1 x2 x3 = some res → am_W (X_Law_workOut (d + 1)) 6 [some (.ref 6), some (.int x1), some (.int x2), some (.int x3), none] [] h Q) (e : f_Law_workOut_61 k6 h x1 x2 x3 x4 = some res) (q : Q (some (.int res.1)) res.2) : am_W (X_Law_workOut (d + 1)) 61 [some (.ref 6), some (.int x1), some (.int x2), some (.int x3), some (.int x4)] [] h Q :=
  b_Law_workOut_61 (d := (d + 1)) (kt := fun c => (t_Law_workOut_92 hk6 (am_ife e c) q)) (kf := fun c => (t_Law_workOut_68 hk6 (am_ift e c) q))
theorem t_Law_workOut_54 {d : Nat} {k6 : am_H → Int32 → Int32 → Int32 → Option (Int32 × am_H)} {x1 : Int32} {x2 : Int32} {x3 : Int32} {x4 : Int32} {h : am_H} {Q : am_Q} {res : Int32 × am_H} (hk6 : ∀ (x1 : Int32) (x2 : Int32) (x3 : Int32) (h : am_H), k6 h x1 x2 x3 = some res → am_W (X_Law_workOut (d + 1)) 6 [some (.ref 6), some (.int x1), some (.int x2), some (.int x3), none] [] h Q) (e : f_Law_workOut_54 k6 h x3 = some res) (q : Q (some (.int res.1)) res.2) : am_W (X_Law_workOut (d + 1)) 54 [some (.ref 6), some (.int x1), some (.int x2), some (.int x3), some (.int x4)] [] h Q :=
  b_Law_workOut_54 (d := (d + 1)) (k := (t_Law_workOut_245 hk6 e q))
theorem t_Law_workOut_47 {d : Nat} {k6 : am_H → Int32 → Int32 → Int32 → Option (Int32 × am_H)} {x1 : Int32} {x2 : Int32} {x3 : Int32} {x4 : Int32} {h : am_H} {Q : am_Q} {res : Int32 × am_H} (hk6 : ∀ (x1 : Int32) (x2 : Int32) (x3 : Int32) (h : am_H), k6 h x1 x2 x3 = some res → am_W (X_Law_workOut (d + 1)) 6 [some (.ref 6), some (.int x1), some (.int x2), some (.int x3), none] [] h Q) (e : f_Law_workOut_47 k6 h x1 x2 x3 x4 = some res) (q : Q (some (.int res.1)) res.2) : am_W (X_Law_workOut (d + 1)) 47 [some (.ref 6), some (.int x1), some (.int x2), some (.int x3), some (.int x4)] [] h Q :=
  b_Law_workOut_47 (d := (d + 1)) (kt := fun c => (t_Law_workOut_61 hk6 (am_ife e c) q)) (kf := fun c => (t_Law_workOut_54 hk6 (am_ift e c) q))
theorem t_Law_workOut_40 {d : Nat} {x1 : Int32} {x2 : Int32} {x3 : Int32} {x4 : Int32} {h : am_H} {Q : am_Q} {res : Int32 × am_H} (e : f_Law_workOut_40 h = some res) (q : Q (some (.int res.1)) res.2) : am_W (X_Law_workOut (d + 1)) 40 [some (.ref 6), some (.int x1), some (.int x2), some (.int x3), some (.int x4)] [] h Q :=
  b_Law_workOut_40 (d := (d + 1)) (q := (am_rIpi (v := (h.1 10 (0 : Int32).toNatClampNeg)) e q))
theorem t_Law_workOut_36 {d : Nat} {k6 : am_H → Int32 → Int32 → Int32 → Option (Int32 × am_H)} {x1 : Int32} {x2 : Int32} {x3 : Int32} {x4 : Int32} {h : am_H} {Q : am_Q} {res : Int32 × am_H} (hk6 : ∀ (x1 : Int32) (x2 : Int32) (x3 : Int32) (h : am_H), k6 h x1 x2 x3 = some res → am_W (X_Law_workOut (d + 1)) 6 [some (.ref 6), some (.int x1), some (.int x2), some (.int x3), none] [] h Q) (e : f_Law_workOut_36 k6 h x1 x2 x3 x4 = some res) (q : Q (some (.int res.1)) res.2) : am_W (X_Law_workOut (d + 1)) 36 [some (.ref 6), some (.int x1), some (.int x2), some (.int x3), some (.int x4)] [] h Q :=
  b_Law_workOut_36 (d := (d + 1)) (kt := fun c => (t_Law_workOut_47 hk6 (am_ife e c) q)) (kf := fun c => (t_Law_workOut_40 (am_ift e c) q))
theorem t_Law_workOut_21 {d : Nat} {k6 : am_H → Int32 → Int32 → Int32 → Option (Int32 × am_H)} {x1 : Int32} {x2 : Int32} {x3 : Int32} {h : am_H} {Q : am_Q} {res : Int32 × am_H} (hk6 : ∀ (x1 : Int32) (x2 : Int32) (x3 : Int32) (h : am_H), k6 h x1 x2 x3 = some res → am_W (X_Law_workOut (d + 1)) 6 [some (.ref 6), some (.int x1), some (.int x2), some (.int x3), none] [] h Q) (e : f_Law_workOut_21 k6 h x1 x2 x3 = some res) (q : Q (some (.int res.1)) res.2) : am_W (X_Law_workOut (d + 1)) 21 [some (.ref 6), some (.int x1), some (.int x2), some (.int x3), none] [] h Q :=
  b_Law_workOut_21 (d := (d + 1)) (q0 := (am_okv (am_gd e))) (kt := fun c => (t_Law_workOut_47 hk6 (am_ife (am_ga e) c) q)) (kf := fun c => (t_Law_workOut_36 hk6 (am_ift (am_ga e) c) q))
theorem t_Law_workOut_14 {d : Nat} {k6 : am_H → Int32 → Int32 → Int32 → Option (Int32 × am_H)} {x1 : Int32} {x2 : Int32} {x3 : Int32} {h : am_H} {Q : am_Q} {res : Int32 × am_H} (hk6 : ∀ (x1 : Int32) (x2 : Int32) (x3 : Int32) (h : am_H), k6 h x1 x2 x3 = some res → am_W (X_Law_workOut (d + 1)) 6 [some (.ref 6), some (.int x1), some (.int x2), some (.int x3), none] [] h Q) (e : f_Law_workOut_14 k6 h x1 x2 x3 = some res) (q : Q (some (.int res.1)) res.2) : am_W (X_Law_workOut (d + 1)) 14 [some (.ref 6), some (.int x1), some (.int x2), some (.int x3), none] [] h Q :=
  b_Law_workOut_14 (d := (d + 1)) (kt := fun c => (t_Law_workOut_251 (am_ift e c) q)) (kf := fun c => (t_Law_workOut_21 hk6 (am_ife e c) q))
theorem t_Law_workOut_6 {d : Nat} {k6 : am_H → Int32 → Int32 → Int32 → Option (Int32 × am_H)} {x1 : Int32} {x2 : Int32} {x3 : Int32} {h : am_H} {Q : am_Q} {res : Int32 × am_H} (hk6 : ∀ (x1 : Int32) (x2 : Int32) (x3 : Int32) (h : am_H), k6 h x1 x2 x3 = some res → am_W (X_Law_workOut (d + 1)) 6 [some (.ref 6), some (.int x1), some (.int x2), some (.int x3), none] [] h Q) (e : f_Law_workOut_6 k6 h x1 x2 x3 = some res) (q : Q (some (.int res.1)) res.2) : am_W (X_Law_workOut (d + 1)) 6 [some (.ref 6), some (.int x1), some (.int x2), some (.int x3), none] [] h Q :=
  b_Law_workOut_6 (d := (d + 1)) (kt := fun c => (t_Law_workOut_251 (am_ift e c) q)) (kf := fun c => (t_Law_workOut_14 hk6 (am_ife e c) q))
theorem t_Law_workOut_6_l {d : Nat} {Q : am_Q} {res : Int32 × am_H} (q : Q (some (.int res.1)) res.2) : ∀ (n : Nat) (x1 : Int32) (x2 : Int32) (x3 : Int32) (h : am_H), f_Law_workOut_6_l n h x1 x2 x3 = some res → am_W (X_Law_workOut (d + 1)) 6 [some (.ref 6), some (.int x1), some (.int x2), some (.int x3), none] [] h Q := by
  intro n
  induction n with
  | zero => intro x1 x2 x3 h e; exact am_nn e
  | succ n ih => intro x1 x2 x3 h e; exact t_Law_workOut_6 (fun x1 x2 x3 h e => ih x1 x2 x3 h  e) e q
theorem t_Law_workOut_0 {d : Nat} {h : am_H} {Q : am_Q} {res : Int32 × am_H} (e : f_Law_workOut h = some res) (q : Q (some (.int res.1)) res.2) : am_W (X_Law_workOut (d + 1)) 0 [some (.ref 6), none, none, none, none] [] h Q :=
  b_Law_workOut_0 (d := (d + 1)) (k := (t_Law_workOut_6_l q am_fu _ _ _ _ e))
theorem c_Law_workOut {d : Nat} {h : am_H} {Q : am_Q} {res : Int32 × am_H} (e : f_Law_workOut h = some res) (q : Q (some (.int res.1)) res.2) : m_Law_workOut (d + 1) [.ref 6] h Q :=
  e_Law_workOut (t_Law_workOut_0 e q)
theorem d_Reck_rankOf_0 : decode prog_7_method_7_code 0 = .ok (.aload_n 0, 1) := by decide +kernel
theorem d_Reck_rankOf_1 : decode prog_7_method_7_code 1 = .ok (.getfield 57, 3) := by decide +kernel
theorem d_Reck_rankOf_4 : decode prog_7_method_7_code 4 = .ok (.iload_n 1, 1) := by decide +kernel
theorem d_Reck_rankOf_5 : decode prog_7_method_7_code 5 = .ok (.invokevirtual 88, 3) := by decide +kernel
theorem d_Reck_rankOf_8 : decode prog_7_method_7_code 8 = .ok (.iload_n 3, 1) := by decide +kernel
theorem d_Reck_rankOf_9 : decode prog_7_method_7_code 9 = .ok (.iadd, 1) := by decide +kernel
theorem d_Reck_rankOf_10 : decode prog_7_method_7_code 10 = .ok (.istore 4, 2) := by decide +kernel
theorem d_Reck_rankOf_12 : decode prog_7_method_7_code 12 = .ok (.aload_n 0, 1) := by decide +kernel
theorem d_Reck_rankOf_13 : decode prog_7_method_7_code 13 = .ok (.getfield 57, 3) := by decide +kernel
theorem d_Reck_rankOf_16 : decode prog_7_method_7_code 16 = .ok (.iload_n 2, 1) := by decide +kernel
theorem d_Reck_rankOf_17 : decode prog_7_method_7_code 17 = .ok (.invokevirtual 92, 3) := by decide +kernel
theorem d_Reck_rankOf_20 : decode prog_7_method_7_code 20 = .ok (.aload_n 0, 1) := by decide +kernel
theorem d_Reck_rankOf_21 : decode prog_7_method_7_code 21 = .ok (.getfield 43, 3) := by decide +kernel
theorem d_Reck_rankOf_24 : decode prog_7_method_7_code 24 = .ok (.ifCond .eq 7, 3) := by decide +kernel
theorem d_Reck_rankOf_27 : decode prog_7_method_7_code 27 = .ok (.iconst 0, 1) := by decide +kernel
theorem d_Reck_rankOf_28 : decode prog_7_method_7_code 28 = .ok (.goto 11, 3) := by decide +kernel
theorem d_Reck_rankOf_31 : decode prog_7_method_7_code 31 = .ok (.aload_n 0, 1) := by decide +kernel
theorem d_Reck_rankOf_32 : decode prog_7_method_7_code 32 = .ok (.getfield 57, 3) := by decide +kernel
theorem d_Reck_rankOf_35 : decode prog_7_method_7_code 35 = .ok (.iload_n 2, 1) := by decide +kernel
theorem d_Reck_rankOf_36 : decode prog_7_method_7_code 36 = .ok (.invokevirtual 95, 3) := by decide +kernel
theorem d_Reck_rankOf_39 : decode prog_7_method_7_code 39 = .ok (.iadd, 1) := by decide +kernel
theorem d_Reck_rankOf_40 : decode prog_7_method_7_code 40 = .ok (.istore 5, 2) := by decide +kernel
theorem d_Reck_rankOf_42 : decode prog_7_method_7_code 42 = .ok (.aload_n 0, 1) := by decide +kernel
theorem d_Reck_rankOf_43 : decode prog_7_method_7_code 43 = .ok (.getfield 57, 3) := by decide +kernel
theorem d_Reck_rankOf_46 : decode prog_7_method_7_code 46 = .ok (.invokevirtual 98, 3) := by decide +kernel
theorem d_Reck_rankOf_49 : decode prog_7_method_7_code 49 = .ok (.istore 6, 2) := by decide +kernel
theorem d_Reck_rankOf_51 : decode prog_7_method_7_code 51 = .ok (.aload_n 0, 1) := by decide +kernel
theorem d_Reck_rankOf_52 : decode prog_7_method_7_code 52 = .ok (.getfield 61, 3) := by decide +kernel
theorem d_Reck_rankOf_55 : decode prog_7_method_7_code 55 = .ok (.invokevirtual 101, 3) := by decide +kernel
theorem d_Reck_rankOf_58 : decode prog_7_method_7_code 58 = .ok (.ifCond .ne 16, 3) := by decide +kernel
theorem d_Reck_rankOf_61 : decode prog_7_method_7_code 61 = .ok (.iload 4, 2) := by decide +kernel
theorem d_Reck_rankOf_63 : decode prog_7_method_7_code 63 = .ok (.iload 5, 2) := by decide +kernel
theorem d_Reck_rankOf_65 : decode prog_7_method_7_code 65 = .ok (.iload 6, 2) := by decide +kernel
theorem d_Reck_rankOf_67 : decode prog_7_method_7_code 67 = .ok (.iadd, 1) := by decide +kernel
theorem d_Reck_rankOf_68 : decode prog_7_method_7_code 68 = .ok (.isub, 1) := by decide +kernel
theorem d_Reck_rankOf_69 : decode prog_7_method_7_code 69 = .ok (.invokestatic 107, 3) := by decide +kernel
theorem d_Reck_rankOf_72 : decode prog_7_method_7_code 72 = .ok (.ineg, 1) := by decide +kernel
theorem d_Reck_rankOf_73 : decode prog_7_method_7_code 73 = .ok (.ireturn, 1) := by decide +kernel
theorem d_Reck_rankOf_74 : decode prog_7_method_7_code 74 = .ok (.aload_n 0, 1) := by decide +kernel
theorem d_Reck_rankOf_75 : decode prog_7_method_7_code 75 = .ok (.getfield 61, 3) := by decide +kernel
theorem d_Reck_rankOf_78 : decode prog_7_method_7_code 78 = .ok (.iload 4, 2) := by decide +kernel
theorem d_Reck_rankOf_80 : decode prog_7_method_7_code 80 = .ok (.aload_n 0, 1) := by decide +kernel
theorem d_Reck_rankOf_81 : decode prog_7_method_7_code 81 = .ok (.getfield 57, 3) := by decide +kernel
theorem d_Reck_rankOf_84 : decode prog_7_method_7_code 84 = .ok (.iload_n 1, 1) := by decide +kernel
theorem d_Reck_rankOf_85 : decode prog_7_method_7_code 85 = .ok (.invokevirtual 112, 3) := by decide +kernel
theorem d_Reck_rankOf_88 : decode prog_7_method_7_code 88 = .ok (.iload 5, 2) := by decide +kernel
theorem d_Reck_rankOf_90 : decode prog_7_method_7_code 90 = .ok (.aload_n 0, 1) := by decide +kernel
theorem d_Reck_rankOf_91 : decode prog_7_method_7_code 91 = .ok (.getfield 57, 3) := by decide +kernel
theorem d_Reck_rankOf_94 : decode prog_7_method_7_code 94 = .ok (.iload_n 2, 1) := by decide +kernel
theorem d_Reck_rankOf_95 : decode prog_7_method_7_code 95 = .ok (.invokevirtual 115, 3) := by decide +kernel
theorem d_Reck_rankOf_98 : decode prog_7_method_7_code 98 = .ok (.iload 6, 2) := by decide +kernel
theorem d_Reck_rankOf_100 : decode prog_7_method_7_code 100 = .ok (.iload_n 2, 1) := by decide +kernel
theorem d_Reck_rankOf_101 : decode prog_7_method_7_code 101 = .ok (.invokevirtual 118, 3) := by decide +kernel
theorem d_Reck_rankOf_104 : decode prog_7_method_7_code 104 = .ok (.aload_n 0, 1) := by decide +kernel
theorem d_Reck_rankOf_105 : decode prog_7_method_7_code 105 = .ok (.getfield 61, 3) := by decide +kernel
theorem d_Reck_rankOf_108 : decode prog_7_method_7_code 108 = .ok (.invokevirtual 122, 3) := by decide +kernel
theorem d_Reck_rankOf_111 : decode prog_7_method_7_code 111 = .ok (.ireturn, 1) := by decide +kernel
theorem b_Reck_rankOf_0 {d : Nat} {x1 : Int32} {x2 : Int32} {x3 : Int32} {h : am_H} {Q : am_Q} (k : m_Hole_cellsToPin d [.ref 1, .int x1] h (fun r hh => am_W (X_Reck_rankOf (d + 1)) 8 [some (.ref 12), some (.int x1), some (.int x2), some (.int x3), none, none, none] (r.toList ++ []) hh Q)) : am_W (X_Reck_rankOf (d + 1)) 0 [some (.ref 12), some (.int x1), some (.int x2), some (.int x3), none, none, none] [] h Q :=
  am_aload_n d_Reck_rankOf_0 rfl (i := 0) rfl <|
    am_getR (ci := 3) (i := 0) rfl rfl rfl (Nat.le_of_ble_eq_true rfl) w_194 d_Reck_rankOf_1 <|
    am_iload_n d_Reck_rankOf_4 rfl (i := 1) rfl <|
    am_callV (vs := [.int x1]) (st := []) (k := 1) (ci := 1) rfl d_Reck_rankOf_5 rfl rfl w_747 w_748 w_749 w_84 w_750 p_Hole_cellsToPin (Nat.le_of_ble_eq_true rfl) (Nat.le_of_ble_eq_true rfl) rfl k
theorem b_Reck_rankOf_8 {d : Nat} {x1 : Int32} {x2 : Int32} {x3 : Int32} {y0 : Int32} {h : am_H} {Q : am_Q} (k : m_Hole_carryOf d [.ref 1, .int x2] h (fun r hh => am_W (X_Reck_rankOf (d + 1)) 20 [some (.ref 12), some (.int x1), some (.int x2), some (.int x3), some (.int (y0 + x3)), none, none] (r.toList ++ []) hh Q)) : am_W (X_Reck_rankOf (d + 1)) 8 [some (.ref 12), some (.int x1), some (.int x2), some (.int x3), none, none, none] [.int y0] h Q :=
  am_iload_n d_Reck_rankOf_8 rfl (i := 3) rfl <|
    am_iadd d_Reck_rankOf_9 <|
    am_istore (ls' := [some (.ref 12), some (.int x1), some (.int x2), some (.int x3), some (.int (y0 + x3)), none, none]) d_Reck_rankOf_10 (Nat.le_of_ble_eq_true rfl) rfl <|
    am_aload_n d_Reck_rankOf_12 rfl (i := 0) rfl <|
    am_getR (ci := 3) (i := 0) rfl rfl rfl (Nat.le_of_ble_eq_true rfl) w_194 d_Reck_rankOf_13 <|
    am_iload_n d_Reck_rankOf_16 rfl (i := 2) rfl <|
    am_callV (vs := [.int x2]) (st := []) (k := 1) (ci := 1) rfl d_Reck_rankOf_17 rfl rfl w_754 w_685 w_686 w_84 w_687 p_Hole_carryOf (Nat.le_of_ble_eq_true rfl) (Nat.le_of_ble_eq_true rfl) rfl k
theorem b_Reck_rankOf_20 {d : Nat} {x1 : Int32} {x2 : Int32} {x3 : Int32} {x4 : Int32} {y0 : Int32} {h : am_H} {Q : am_Q} (kt : (h.1 12 11) = 0 → am_W (X_Reck_rankOf d) 31 [some (.ref 12), some (.int x1), some (.int x2), some (.int x3), some (.int x4), none, none] [.int y0] h Q) (kf : ¬ (h.1 12 11) = 0 → am_W (X_Reck_rankOf d) 27 [some (.ref 12), some (.int x1), some (.int x2), some (.int x3), some (.int x4), none, none] [.int y0] h Q) : am_W (X_Reck_rankOf d) 20 [some (.ref 12), some (.int x1), some (.int x2), some (.int x3), some (.int x4), none, none] [.int y0] h Q :=
  am_aload_n d_Reck_rankOf_20 rfl (i := 0) rfl <|
    am_getI (ci := 3) (i := 11) rfl rfl rfl (Nat.le_of_ble_eq_true rfl) w_205 d_Reck_rankOf_21 <|
    am_if_eq (tgt := 31) d_Reck_rankOf_24 (by decide) kt kf
theorem b_Reck_rankOf_27 {d : Nat} {x1 : Int32} {x2 : Int32} {x3 : Int32} {x4 : Int32} {y0 : Int32} {h : am_H} {Q : am_Q} (k : am_W (X_Reck_rankOf d) 39 [some (.ref 12), some (.int x1), some (.int x2), some (.int x3), some (.int x4), none, none] [.int 0, .int y0] h Q) : am_W (X_Reck_rankOf d) 27 [some (.ref 12), some (.int x1), some (.int x2), some (.int x3), some (.int x4), none, none] [.int y0] h Q :=
  am_iconst (v := 0) d_Reck_rankOf_27 (by decide) <|
    am_goto (tgt := 39) d_Reck_rankOf_28 (by decide) k
theorem b_Reck_rankOf_31 {d : Nat} {x1 : Int32} {x2 : Int32} {x3 : Int32} {x4 : Int32} {y0 : Int32} {h : am_H} {Q : am_Q} (k : m_Hole_believedOf d [.ref 1, .int x2] h (fun r hh => am_W (X_Reck_rankOf (d + 1)) 39 [some (.ref 12), some (.int x1), some (.int x2), some (.int x3), some (.int x4), none, none] (r.toList ++ [.int y0]) hh Q)) : am_W (X_Reck_rankOf (d + 1)) 31 [some (.ref 12), some (.int x1), some (.int x2), some (.int x3), some (.int x4), none, none] [.int y0] h Q :=
  am_aload_n d_Reck_rankOf_31 rfl (i := 0) rfl <|
    am_getR (ci := 3) (i := 0) rfl rfl rfl (Nat.le_of_ble_eq_true rfl) w_194 d_Reck_rankOf_32 <|
    am_iload_n d_Reck_rankOf_35 rfl (i := 2) rfl <|
    am_callV (vs := [.int x2]) (st := [.int y0]) (k := 1) (ci := 1) rfl d_Reck_rankOf_36 rfl rfl w_755 w_756 w_757 w_84 w_758 p_Hole_believedOf (Nat.le_of_ble_eq_true rfl) (Nat.le_of_ble_eq_true rfl) rfl k
theorem b_Reck_rankOf_39 {d : Nat} {x1 : Int32} {x2 : Int32} {x3 : Int32} {x4 : Int32} {y1 : Int32} {y0 : Int32} {h : am_H} {Q : am_Q} (k : m_Hole_windNow d [.ref 1] h (fun r hh => am_W (X_Reck_rankOf (d + 1)) 49 [some (.ref 12), some (.int x1), some (.int x2), some (.int x3), some (.int x4), some (.int (y0 + y1)), none] (r.toList ++ []) hh Q)) : am_W (X_Reck_rankOf (d + 1)) 39 [some (.ref 12), some (.int x1), some (.int x2), some (.int x3), some (.int x4), none, none] [.int y1, .int y0] h Q :=
  am_iadd d_Reck_rankOf_39 <|
    am_istore (ls' := [some (.ref 12), some (.int x1), some (.int x2), some (.int x3), some (.int x4), some (.int (y0 + y1)), none]) d_Reck_rankOf_40 (Nat.le_of_ble_eq_true rfl) rfl <|
    am_aload_n d_Reck_rankOf_42 rfl (i := 0) rfl <|
    am_getR (ci := 3) (i := 0) rfl rfl rfl (Nat.le_of_ble_eq_true rfl) w_194 d_Reck_rankOf_43 <|
    am_callV (vs := []) (st := []) (k := 1) (ci := 1) rfl d_Reck_rankOf_46 rfl rfl w_759 w_760 w_761 w_84 w_762 p_Hole_windNow (Nat.le_of_ble_eq_true rfl) (Nat.le_of_ble_eq_true rfl) rfl k
theorem b_Reck_rankOf_49 {d : Nat} {x1 : Int32} {x2 : Int32} {x3 : Int32} {x4 : Int32} {x5 : Int32} {y0 : Int32} {h : am_H} {Q : am_Q} (k : m_Law_hasText d [.ref 6] h (fun r hh => am_W (X_Reck_rankOf (d + 1)) 58 [some (.ref 12), some (.int x1), some (.int x2), some (.int x3), some (.int x4), some (.int x5), some (.int y0)] (r.toList ++ []) hh Q)) : am_W (X_Reck_rankOf (d + 1)) 49 [some (.ref 12), some (.int x1), some (.int x2), some (.int x3), some (.int x4), some (.int x5), none] [.int y0] h Q :=
  am_istore (ls' := [some (.ref 12), some (.int x1), some (.int x2), some (.int x3), some (.int x4), some (.int x5), some (.int y0)]) d_Reck_rankOf_49 (Nat.le_of_ble_eq_true rfl) rfl <|
    am_aload_n d_Reck_rankOf_51 rfl (i := 0) rfl <|
    am_getR (ci := 3) (i := 1) rfl rfl rfl (Nat.le_of_ble_eq_true rfl) w_195 d_Reck_rankOf_52 <|
    am_callV (vs := []) (st := []) (k := 6) (ci := 2) rfl d_Reck_rankOf_55 rfl rfl w_763 w_764 w_765 w_86 w_766 p_Law_hasText (Nat.le_of_ble_eq_true rfl) (Nat.le_of_ble_eq_true rfl) rfl k
theorem b_Reck_rankOf_58 {d : Nat} {x1 : Int32} {x2 : Int32} {x3 : Int32} {x4 : Int32} {x5 : Int32} {x6 : Int32} {y0 : Bool} {h : am_H} {Q : am_Q} (kt : ¬ (am_b y0) = 0 → am_W (X_Reck_rankOf d) 74 [some (.ref 12), some (.int x1), some (.int x2), some (.int x3), some (.int x4), some (.int x5), some (.int x6)] [] h Q) (kf : (am_b y0) = 0 → am_W (X_Reck_rankOf d) 61 [some (.ref 12), some (.int x1), some (.int x2), some (.int x3), some (.int x4), some (.int x5), some (.int x6)] [] h Q) : am_W (X_Reck_rankOf d) 58 [some (.ref 12), some (.int x1), some (.int x2), some (.int x3), some (.int x4), some (.int x5), some (.int x6)] [.int (am_b y0)] h Q :=
  am_if_ne (tgt := 74) d_Reck_rankOf_58 (by decide) kt kf
theorem b_Reck_rankOf_61 {d : Nat} {x1 : Int32} {x2 : Int32} {x3 : Int32} {x4 : Int32} {x5 : Int32} {x6 : Int32} {h : am_H} {Q : am_Q} (q : Q (some (.int (-(if 0 ≤ (x4 - (x5 + x6)) then (x4 - (x5 + x6)) else 0 - (x4 - (x5 + x6)))))) h) : am_W (X_Reck_rankOf d) 61 [some (.ref 12), some (.int x1), some (.int x2), some (.int x3), some (.int x4), some (.int x5), some (.int x6)] [] h Q :=
  am_iload d_Reck_rankOf_61 rfl <|
    am_iload d_Reck_rankOf_63 rfl <|
    am_iload d_Reck_rankOf_65 rfl <|
    am_iadd d_Reck_rankOf_67 <|
    am_isub d_Reck_rankOf_68 <|
    am_mabs w_767 d_Reck_rankOf_69 (Nat.le_of_ble_eq_true rfl) <|
    am_ineg d_Reck_rankOf_72 <|
    am_iret rfl d_Reck_rankOf_73 q
theorem b_Reck_rankOf_74 {d : Nat} {x1 : Int32} {x2 : Int32} {x3 : Int32} {x4 : Int32} {x5 : Int32} {x6 : Int32} {h : am_H} {Q : am_Q} (k : m_Hole_groundOf d [.ref 1, .int x1] h (fun r hh => am_W (X_Reck_rankOf (d + 1)) 88 [some (.ref 12), some (.int x1), some (.int x2), some (.int x3), some (.int x4), some (.int x5), some (.int x6)] (r.toList ++ [.int x4, .ref 6]) hh Q)) : am_W (X_Reck_rankOf (d + 1)) 74 [some (.ref 12), some (.int x1), some (.int x2), some (.int x3), some (.int x4), some (.int x5), some (.int x6)] [] h Q :=
  am_aload_n d_Reck_rankOf_74 rfl (i := 0) rfl <|
    am_getR (ci := 3) (i := 1) rfl rfl rfl (Nat.le_of_ble_eq_true rfl) w_195 d_Reck_rankOf_75 <|
    am_iload d_Reck_rankOf_78 rfl <|
    am_aload_n d_Reck_rankOf_80 rfl (i := 0) rfl <|
    am_getR (ci := 3) (i := 0) rfl rfl rfl (Nat.le_of_ble_eq_true rfl) w_194 d_Reck_rankOf_81 <|
    am_iload_n d_Reck_rankOf_84 rfl (i := 1) rfl <|
    am_callV (vs := [.int x1]) (st := [.int x4, .ref 6]) (k := 1) (ci := 1) rfl d_Reck_rankOf_85 rfl rfl w_768 w_769 w_770 w_84 w_771 p_Hole_groundOf (Nat.le_of_ble_eq_true rfl) (Nat.le_of_ble_eq_true rfl) rfl k
theorem b_Reck_rankOf_88 {d : Nat} {x1 : Int32} {x2 : Int32} {x3 : Int32} {x4 : Int32} {x5 : Int32} {x6 : Int32} {y2 : Int32} {y1 : Int32} {h : am_H} {Q : am_Q} (k : m_Hole_spreadOf d [.ref 1, .int x2] h (fun r hh => am_W (X_Reck_rankOf (d + 1)) 98 [some (.ref 12), some (.int x1), some (.int x2), some (.int x3), some (.int x4), some (.int x5), some (.int x6)] (r.toList ++ [.int x5, .int y2, .int y1, .ref 6]) hh Q)) : am_W (X_Reck_rankOf (d + 1)) 88 [some (.ref 12), some (.int x1), some (.int x2), some (.int x3), some (.int x4), some (.int x5), some (.int x6)] [.int y2, .int y1, .ref 6] h Q :=
  am_iload d_Reck_rankOf_88 rfl <|
    am_aload_n d_Reck_rankOf_90 rfl (i := 0) rfl <|
    am_getR (ci := 3) (i := 0) rfl rfl rfl (Nat.le_of_ble_eq_true rfl) w_194 d_Reck_rankOf_91 <|
    am_iload_n d_Reck_rankOf_94 rfl (i := 2) rfl <|
    am_callV (vs := [.int x2]) (st := [.int x5, .int y2, .int y1, .ref 6]) (k := 1) (ci := 1) rfl d_Reck_rankOf_95 rfl rfl w_772 w_689 w_690 w_84 w_691 p_Hole_spreadOf (Nat.le_of_ble_eq_true rfl) (Nat.le_of_ble_eq_true rfl) rfl k
theorem b_Reck_rankOf_98 {d : Nat} {x1 : Int32} {x2 : Int32} {x3 : Int32} {x4 : Int32} {x5 : Int32} {x6 : Int32} {y4 : Int32} {y3 : Int32} {y2 : Int32} {y1 : Int32} {h : am_H} {Q : am_Q} (k : m_Law_nameNumbers d [.ref 6, .int y1, .int y2, .int y3, .int y4, .int x6, .int x2] h (fun r hh => am_W (X_Reck_rankOf (d + 1)) 104 [some (.ref 12), some (.int x1), some (.int x2), some (.int x3), some (.int x4), some (.int x5), some (.int x6)] (r.toList ++ []) hh Q)) : am_W (X_Reck_rankOf (d + 1)) 98 [some (.ref 12), some (.int x1), some (.int x2), some (.int x3), some (.int x4), some (.int x5), some (.int x6)] [.int y4, .int y3, .int y2, .int y1, .ref 6] h Q :=
  am_iload d_Reck_rankOf_98 rfl <|
    am_iload_n d_Reck_rankOf_100 rfl (i := 2) rfl <|
    am_callV (vs := [.int y1, .int y2, .int y3, .int y4, .int x6, .int x2]) (st := []) (k := 6) (ci := 2) rfl d_Reck_rankOf_101 rfl rfl w_773 w_774 w_775 w_86 w_776 p_Law_nameNumbers (Nat.le_of_ble_eq_true rfl) (Nat.le_of_ble_eq_true rfl) rfl k
theorem b_Reck_rankOf_104 {d : Nat} {x1 : Int32} {x2 : Int32} {x3 : Int32} {x4 : Int32} {x5 : Int32} {x6 : Int32} {h : am_H} {Q : am_Q} (k : m_Law_workOut d [.ref 6] h (fun r hh => am_W (X_Reck_rankOf (d + 1)) 111 [some (.ref 12), some (.int x1), some (.int x2), some (.int x3), some (.int x4), some (.int x5), some (.int x6)] (r.toList ++ []) hh Q)) : am_W (X_Reck_rankOf (d + 1)) 104 [some (.ref 12), some (.int x1), some (.int x2), some (.int x3), some (.int x4), some (.int x5), some (.int x6)] [] h Q :=
  am_aload_n d_Reck_rankOf_104 rfl (i := 0) rfl <|
    am_getR (ci := 3) (i := 1) rfl rfl rfl (Nat.le_of_ble_eq_true rfl) w_195 d_Reck_rankOf_105 <|
    am_callV (vs := []) (st := []) (k := 6) (ci := 2) rfl d_Reck_rankOf_108 rfl rfl w_777 w_778 w_779 w_86 w_780 p_Law_workOut (Nat.le_of_ble_eq_true rfl) (Nat.le_of_ble_eq_true rfl) rfl k
theorem b_Reck_rankOf_111 {d : Nat} {x1 : Int32} {x2 : Int32} {x3 : Int32} {x4 : Int32} {x5 : Int32} {x6 : Int32} {y0 : Int32} {h : am_H} {Q : am_Q} (q : Q (some (.int y0)) h) : am_W (X_Reck_rankOf d) 111 [some (.ref 12), some (.int x1), some (.int x2), some (.int x3), some (.int x4), some (.int x5), some (.int x6)] [.int y0] h Q :=
  am_iret rfl d_Reck_rankOf_111 q
theorem t_Reck_rankOf_111 {d : Nat} {x1 : Int32} {x2 : Int32} {x3 : Int32} {x4 : Int32} {x5 : Int32} {x6 : Int32} {y0 : Int32} {h : am_H} {Q : am_Q} {res : Int32 × am_H} (e : f_Reck_rankOf_111 h y0 = some res) (q : Q (some (.int res.1)) res.2) : am_W (X_Reck_rankOf (d + 2)) 111 [some (.ref 12), some (.int x1), some (.int x2), some (.int x3), some (.int x4), some (.int x5), some (.int x6)] [.int y0] h Q :=
  b_Reck_rankOf_111 (d := (d + 2)) (q := (am_rIpi (v := y0) e q))
theorem t_Reck_rankOf_104 {d : Nat} {x1 : Int32} {x2 : Int32} {x3 : Int32} {x4 : Int32} {x5 : Int32} {x6 : Int32} {h : am_H} {Q : am_Q} {res : Int32 × am_H} (e : f_Reck_rankOf_104 h = some res) (q : Q (some (.int res.1)) res.2) : am_W (X_Reck_rankOf (d + 2)) 104 [some (.ref 12), some (.int x1), some (.int x2), some (.int x3), some (.int x4), some (.int x5), some (.int x6)] [] h Q :=
  (am_bd e).elim fun p hp => b_Reck_rankOf_104 (d := (d + 1)) (k := c_Law_workOut (d := d) hp.1 (t_Reck_rankOf_111 hp.2 q))
theorem t_Reck_rankOf_98 {d : Nat} {x1 : Int32} {x2 : Int32} {x3 : Int32} {x4 : Int32} {x5 : Int32} {x6 : Int32} {y4 : Int32} {y3 : Int32} {y2 : Int32} {y1 : Int32} {h : am_H} {Q : am_Q} {res : Int32 × am_H} (e : f_Reck_rankOf_98 h x2 x6 y4 y3 y2 y1 = some res) (q : Q (some (.int res.1)) res.2) : am_W (X_Reck_rankOf (d + 2)) 98 [some (.ref 12), some (.int x1), some (.int x2), some (.int x3), some (.int x4), some (.int x5), some (.int x6)] [.int y4, .int y3, .int y2, .int y1, .ref 6] h Q :=
  b_Reck_rankOf_98 (d := (d + 1)) (k := c_Law_nameNumbers (d := d + 1) rfl (t_Reck_rankOf_104 e q))
theorem t_Reck_rankOf_88 {d : Nat} {x1 : Int32} {x2 : Int32} {x3 : Int32} {x4 : Int32} {x5 : Int32} {x6 : Int32} {y2 : Int32} {y1 : Int32} {h : am_H} {Q : am_Q} {res : Int32 × am_H} (e : f_Reck_rankOf_88 h x2 x5 x6 y2 y1 = some res) (q : Q (some (.int res.1)) res.2) : am_W (X_Reck_rankOf (d + 2)) 88 [some (.ref 12), some (.int x1), some (.int x2), some (.int x3), some (.int x4), some (.int x5), some (.int x6)] [.int y2, .int y1, .ref 6] h Q :=
  (am_bd e).elim fun p hp => b_Reck_rankOf_88 (d := (d + 1)) (k := c_Hole_spreadOf (d := d) hp.1 (t_Reck_rankOf_98 hp.2 q))
theorem t_Reck_rankOf_74 {d : Nat} {x1 : Int32} {x2 : Int32} {x3 : Int32} {x4 : Int32} {x5 : Int32} {x6 : Int32} {h : am_H} {Q : am_Q} {res : Int32 × am_H} (e : f_Reck_rankOf_74 h x1 x2 x4 x5 x6 = some res) (q : Q (some (.int res.1)) res.2) : am_W (X_Reck_rankOf (d + 2)) 74 [some (.ref 12), some (.int x1), some (.int x2), some (.int x3), some (.int x4), some (.int x5), some (.int x6)] [] h Q :=
  (am_bd e).elim fun p hp => b_Reck_rankOf_74 (d := (d + 1)) (k := c_Hole_groundOf (d := d) hp.1 (t_Reck_rankOf_88 hp.2 q))
theorem t_Reck_rankOf_61 {d : Nat} {x1 : Int32} {x2 : Int32} {x3 : Int32} {x4 : Int32} {x5 : Int32} {x6 : Int32} {h : am_H} {Q : am_Q} {res : Int32 × am_H} (e : f_Reck_rankOf_61 h x4 x5 x6 = some res) (q : Q (some (.int res.1)) res.2) : am_W (X_Reck_rankOf (d + 2)) 61 [some (.ref 12), some (.int x1), some (.int x2), some (.int x3), some (.int x4), some (.int x5), some (.int x6)] [] h Q :=
  b_Reck_rankOf_61 (d := (d + 2)) (q := (am_rIpi (v := (-(if 0 ≤ (x4 - (x5 + x6)) then (x4 - (x5 + x6)) else 0 - (x4 - (x5 + x6))))) e q))
theorem t_Reck_rankOf_58 {d : Nat} {x1 : Int32} {x2 : Int32} {x3 : Int32} {x4 : Int32} {x5 : Int32} {x6 : Int32} {y0 : Bool} {h : am_H} {Q : am_Q} {res : Int32 × am_H} (e : f_Reck_rankOf_58 h x1 x2 x4 x5 x6 y0 = some res) (q : Q (some (.int res.1)) res.2) : am_W (X_Reck_rankOf (d + 2)) 58 [some (.ref 12), some (.int x1), some (.int x2), some (.int x3), some (.int x4), some (.int x5), some (.int x6)] [.int (am_b y0)] h Q :=
  b_Reck_rankOf_58 (d := (d + 2)) (kt := fun c => (t_Reck_rankOf_74 (am_ift e (am_bn c)) q)) (kf := fun c => (t_Reck_rankOf_61 (am_iff e (am_bz c)) q))
theorem t_Reck_rankOf_49 {d : Nat} {x1 : Int32} {x2 : Int32} {x3 : Int32} {x4 : Int32} {x5 : Int32} {y0 : Int32} {h : am_H} {Q : am_Q} {res : Int32 × am_H} (e : f_Reck_rankOf_49 h x1 x2 x4 x5 y0 = some res) (q : Q (some (.int res.1)) res.2) : am_W (X_Reck_rankOf (d + 2)) 49 [some (.ref 12), some (.int x1), some (.int x2), some (.int x3), some (.int x4), some (.int x5), none] [.int y0] h Q :=
  b_Reck_rankOf_49 (d := (d + 1)) (k := c_Law_hasText (d := d + 1) rfl (t_Reck_rankOf_58 e q))
theorem t_Reck_rankOf_39 {d : Nat} {x1 : Int32} {x2 : Int32} {x3 : Int32} {x4 : Int32} {y1 : Int32} {y0 : Int32} {h : am_H} {Q : am_Q} {res : Int32 × am_H} (e : f_Reck_rankOf_39 h x1 x2 x4 y1 y0 = some res) (q : Q (some (.int res.1)) res.2) : am_W (X_Reck_rankOf (d + 2)) 39 [some (.ref 12), some (.int x1), some (.int x2), some (.int x3), some (.int x4), none, none] [.int y1, .int y0] h Q :=
  b_Reck_rankOf_39 (d := (d + 1)) (k := c_Hole_windNow (d := d + 1) rfl (t_Reck_rankOf_49 e q))
theorem t_Reck_rankOf_31 {d : Nat} {x1 : Int32} {x2 : Int32} {x3 : Int32} {x4 : Int32} {y0 : Int32} {h : am_H} {Q : am_Q} {res : Int32 × am_H} (e : f_Reck_rankOf_31 h x1 x2 x4 y0 = some res) (q : Q (some (.int res.1)) res.2) : am_W (X_Reck_rankOf (d + 2)) 31 [some (.ref 12), some (.int x1), some (.int x2), some (.int x3), some (.int x4), none, none] [.int y0] h Q :=
  (am_bd e).elim fun p hp => b_Reck_rankOf_31 (d := (d + 1)) (k := c_Hole_believedOf (d := d) hp.1 (t_Reck_rankOf_39 hp.2 q))
theorem t_Reck_rankOf_27 {d : Nat} {x1 : Int32} {x2 : Int32} {x3 : Int32} {x4 : Int32} {y0 : Int32} {h : am_H} {Q : am_Q} {res : Int32 × am_H} (e : f_Reck_rankOf_27 h x1 x2 x4 y0 = some res) (q : Q (some (.int res.1)) res.2) : am_W (X_Reck_rankOf (d + 2)) 27 [some (.ref 12), some (.int x1), some (.int x2), some (.int x3), some (.int x4), none, none] [.int y0] h Q :=
  b_Reck_rankOf_27 (d := (d + 2)) (k := (t_Reck_rankOf_39 e q))
theorem t_Reck_rankOf_20 {d : Nat} {x1 : Int32} {x2 : Int32} {x3 : Int32} {x4 : Int32} {y0 : Int32} {h : am_H} {Q : am_Q} {res : Int32 × am_H} (e : f_Reck_rankOf_20 h x1 x2 x4 y0 = some res) (q : Q (some (.int res.1)) res.2) : am_W (X_Reck_rankOf (d + 2)) 20 [some (.ref 12), some (.int x1), some (.int x2), some (.int x3), some (.int x4), none, none] [.int y0] h Q :=
  b_Reck_rankOf_20 (d := (d + 2)) (kt := fun c => (t_Reck_rankOf_31 (am_ift e c) q)) (kf := fun c => (t_Reck_rankOf_27 (am_ife e c) q))
theorem t_Reck_rankOf_8 {d : Nat} {x1 : Int32} {x2 : Int32} {x3 : Int32} {y0 : Int32} {h : am_H} {Q : am_Q} {res : Int32 × am_H} (e : f_Reck_rankOf_8 h x1 x2 x3 y0 = some res) (q : Q (some (.int res.1)) res.2) : am_W (X_Reck_rankOf (d + 2)) 8 [some (.ref 12), some (.int x1), some (.int x2), some (.int x3), none, none, none] [.int y0] h Q :=
  (am_bd e).elim fun p hp => b_Reck_rankOf_8 (d := (d + 1)) (k := c_Hole_carryOf (d := d) hp.1 (t_Reck_rankOf_20 hp.2 q))
theorem t_Reck_rankOf_0 {d : Nat} {x1 : Int32} {x2 : Int32} {x3 : Int32} {h : am_H} {Q : am_Q} {res : Int32 × am_H} (e : f_Reck_rankOf h x1 x2 x3 = some res) (q : Q (some (.int res.1)) res.2) : am_W (X_Reck_rankOf (d + 2)) 0 [some (.ref 12), some (.int x1), some (.int x2), some (.int x3), none, none, none] [] h Q :=
  b_Reck_rankOf_0 (d := (d + 1)) (k := c_Hole_cellsToPin (d := d + 1) rfl (t_Reck_rankOf_8 e q))
theorem c_Reck_rankOf {d : Nat} {x1 : Int32} {x2 : Int32} {x3 : Int32} {h : am_H} {Q : am_Q} {res : Int32 × am_H} (e : f_Reck_rankOf h x1 x2 x3 = some res) (q : Q (some (.int res.1)) res.2) : m_Reck_rankOf (d + 2) [.ref 12, .int x1, .int x2, .int x3] h Q :=
  e_Reck_rankOf (t_Reck_rankOf_0 e q)
theorem d_Reck_clubTold_0 : decode prog_7_method_6_code 0 = .ok (.iconst 0, 1) := by decide +kernel
theorem d_Reck_clubTold_1 : decode prog_7_method_6_code 1 = .ok (.istore_n 3, 1) := by decide +kernel
theorem d_Reck_clubTold_2 : decode prog_7_method_6_code 2 = .ok (.aload_n 0, 1) := by decide +kernel
theorem d_Reck_clubTold_3 : decode prog_7_method_6_code 3 = .ok (.iload_n 1, 1) := by decide +kernel
theorem d_Reck_clubTold_4 : decode prog_7_method_6_code 4 = .ok (.iconst 0, 1) := by decide +kernel
theorem d_Reck_clubTold_5 : decode prog_7_method_6_code 5 = .ok (.iload_n 2, 1) := by decide +kernel
theorem d_Reck_clubTold_6 : decode prog_7_method_6_code 6 = .ok (.invokevirtual 80, 3) := by decide +kernel
theorem d_Reck_clubTold_9 : decode prog_7_method_6_code 9 = .ok (.istore 4, 2) := by decide +kernel
theorem d_Reck_clubTold_11 : decode prog_7_method_6_code 11 = .ok (.iconst 1, 1) := by decide +kernel
theorem d_Reck_clubTold_12 : decode prog_7_method_6_code 12 = .ok (.istore 5, 2) := by decide +kernel
theorem d_Reck_clubTold_14 : decode prog_7_method_6_code 14 = .ok (.iload 5, 2) := by decide +kernel
theorem d_Reck_clubTold_16 : decode prog_7_method_6_code 16 = .ok (.aload_n 0, 1) := by decide +kernel
theorem d_Reck_clubTold_17 : decode prog_7_method_6_code 17 = .ok (.getfield 57, 3) := by decide +kernel
theorem d_Reck_clubTold_20 : decode prog_7_method_6_code 20 = .ok (.invokevirtual 84, 3) := by decide +kernel
theorem d_Reck_clubTold_23 : decode prog_7_method_6_code 23 = .ok (.if_icmp .ge 33, 3) := by decide +kernel
theorem d_Reck_clubTold_26 : decode prog_7_method_6_code 26 = .ok (.aload_n 0, 1) := by decide +kernel
theorem d_Reck_clubTold_27 : decode prog_7_method_6_code 27 = .ok (.iload_n 1, 1) := by decide +kernel
theorem d_Reck_clubTold_28 : decode prog_7_method_6_code 28 = .ok (.iload 5, 2) := by decide +kernel
theorem d_Reck_clubTold_30 : decode prog_7_method_6_code 30 = .ok (.iload_n 2, 1) := by decide +kernel
theorem d_Reck_clubTold_31 : decode prog_7_method_6_code 31 = .ok (.invokevirtual 80, 3) := by decide +kernel
theorem d_Reck_clubTold_34 : decode prog_7_method_6_code 34 = .ok (.istore 6, 2) := by decide +kernel
theorem d_Reck_clubTold_36 : decode prog_7_method_6_code 36 = .ok (.iload 6, 2) := by decide +kernel
theorem d_Reck_clubTold_38 : decode prog_7_method_6_code 38 = .ok (.iload 4, 2) := by decide +kernel
theorem d_Reck_clubTold_40 : decode prog_7_method_6_code 40 = .ok (.if_icmp .le 10, 3) := by decide +kernel
theorem d_Reck_clubTold_43 : decode prog_7_method_6_code 43 = .ok (.iload 6, 2) := by decide +kernel
theorem d_Reck_clubTold_45 : decode prog_7_method_6_code 45 = .ok (.istore 4, 2) := by decide +kernel
theorem d_Reck_clubTold_47 : decode prog_7_method_6_code 47 = .ok (.iload 5, 2) := by decide +kernel
theorem d_Reck_clubTold_49 : decode prog_7_method_6_code 49 = .ok (.istore_n 3, 1) := by decide +kernel
theorem d_Reck_clubTold_50 : decode prog_7_method_6_code 50 = .ok (.iinc 5 1, 3) := by decide +kernel
theorem d_Reck_clubTold_53 : decode prog_7_method_6_code 53 = .ok (.goto (-39), 3) := by decide +kernel
theorem d_Reck_clubTold_56 : decode prog_7_method_6_code 56 = .ok (.iload_n 3, 1) := by decide +kernel
theorem d_Reck_clubTold_57 : decode prog_7_method_6_code 57 = .ok (.ireturn, 1) := by decide +kernel
theorem b_Reck_clubTold_0 {d : Nat} {x1 : Int32} {x2 : Int32} {h : am_H} {Q : am_Q} (k : m_Reck_rankOf d [.ref 12, .int x1, .int 0, .int x2] h (fun r hh => am_W (X_Reck_clubTold (d + 1)) 9 [some (.ref 12), some (.int x1), some (.int x2), some (.int 0), none, none, none] (r.toList ++ []) hh Q)) : am_W (X_Reck_clubTold (d + 1)) 0 [some (.ref 12), some (.int x1), some (.int x2), none, none, none, none] [] h Q :=
  am_iconst (v := 0) d_Reck_clubTold_0 (by decide) <|
    am_istore_n (ls' := [some (.ref 12), some (.int x1), some (.int x2), some (.int 0), none, none, none]) d_Reck_clubTold_1 rfl (Nat.le_of_ble_eq_true rfl) rfl <|
    am_aload_n d_Reck_clubTold_2 rfl (i := 0) rfl <|
    am_iload_n d_Reck_clubTold_3 rfl (i := 1) rfl <|
    am_iconst (v := 0) d_Reck_clubTold_4 (by decide) <|
    am_iload_n d_Reck_clubTold_5 rfl (i := 2) rfl <|
    am_callV (vs := [.int x1, .int 0, .int x2]) (st := []) (k := 12) (ci := 3) rfl d_Reck_clubTold_6 rfl rfl w_743 w_745 w_14 w_87 w_746 p_Reck_rankOf (Nat.le_of_ble_eq_true rfl) (Nat.le_of_ble_eq_true rfl) rfl k
theorem b_Reck_clubTold_9 {d : Nat} {x1 : Int32} {x2 : Int32} {x3 : Int32} {y0 : Int32} {h : am_H} {Q : am_Q} (k : am_W (X_Reck_clubTold d) 14 [some (.ref 12), some (.int x1), some (.int x2), some (.int x3), some (.int y0), some (.int 1), none] [] h Q) : am_W (X_Reck_clubTold d) 9 [some (.ref 12), some (.int x1), some (.int x2), some (.int x3), none, none, none] [.int y0] h Q :=
  am_istore (ls' := [some (.ref 12), some (.int x1), some (.int x2), some (.int x3), some (.int y0), none, none]) d_Reck_clubTold_9 (Nat.le_of_ble_eq_true rfl) rfl <|
    am_iconst (v := 1) d_Reck_clubTold_11 (by decide) <|
    am_istore (ls' := [some (.ref 12), some (.int x1), some (.int x2), some (.int x3), some (.int y0), some (.int 1), none]) d_Reck_clubTold_12 (Nat.le_of_ble_eq_true rfl) rfl <|
    k
theorem b_Reck_clubTold_14 {d : Nat} {x1 : Int32} {x2 : Int32} {x3 : Int32} {x4 : Int32} {x5 : Int32} {h : am_H} {Q : am_Q} (k : m_Hole_clubsHeld d [.ref 1] h (fun r hh => am_W (X_Reck_clubTold (d + 1)) 23 [some (.ref 12), some (.int x1), some (.int x2), some (.int x3), some (.int x4), some (.int x5), none] (r.toList ++ [.int x5]) hh Q)) : am_W (X_Reck_clubTold (d + 1)) 14 [some (.ref 12), some (.int x1), some (.int x2), some (.int x3), some (.int x4), some (.int x5), none] [] h Q :=
  am_iload d_Reck_clubTold_14 rfl <|
    am_aload_n d_Reck_clubTold_16 rfl (i := 0) rfl <|
    am_getR (ci := 3) (i := 0) rfl rfl rfl (Nat.le_of_ble_eq_true rfl) w_194 d_Reck_clubTold_17 <|
    am_callV (vs := []) (st := [.int x5]) (k := 1) (ci := 1) rfl d_Reck_clubTold_20 rfl rfl w_788 w_789 w_790 w_84 w_791 p_Hole_clubsHeld (Nat.le_of_ble_eq_true rfl) (Nat.le_of_ble_eq_true rfl) rfl k
theorem b_Reck_clubTold_23 {d : Nat} {x1 : Int32} {x2 : Int32} {x3 : Int32} {x4 : Int32} {x5 : Int32} {y1 : Int32} {y0 : Int32} {h : am_H} {Q : am_Q} (kt : y1 ≤ y0 → am_W (X_Reck_clubTold d) 56 [some (.ref 12), some (.int x1), some (.int x2), some (.int x3), some (.int x4), some (.int x5), none] [] h Q) (kf : ¬ y1 ≤ y0 → am_W (X_Reck_clubTold d) 26 [some (.ref 12), some (.int x1), some (.int x2), some (.int x3), some (.int x4), some (.int x5), none] [] h Q) : am_W (X_Reck_clubTold d) 23 [some (.ref 12), some (.int x1), some (.int x2), some (.int x3), some (.int x4), some (.int x5), none] [.int y1, .int y0] h Q :=
  am_icmp_ge (tgt := 56) d_Reck_clubTold_23 (by decide) kt kf
theorem b_Reck_clubTold_26 {d : Nat} {x1 : Int32} {x2 : Int32} {x3 : Int32} {x4 : Int32} {x5 : Int32} {h : am_H} {Q : am_Q} (k : m_Reck_rankOf d [.ref 12, .int x1, .int x5, .int x2] h (fun r hh => am_W (X_Reck_clubTold (d + 1)) 34 [some (.ref 12), some (.int x1), some (.int x2), some (.int x3), some (.int x4), some (.int x5), none] (r.toList ++ []) hh Q)) : am_W (X_Reck_clubTold (d + 1)) 26 [some (.ref 12), some (.int x1), some (.int x2), some (.int x3), some (.int x4), some (.int x5), none] [] h Q :=
  am_aload_n d_Reck_clubTold_26 rfl (i := 0) rfl <|
    am_iload_n d_Reck_clubTold_27 rfl (i := 1) rfl <|
    am_iload d_Reck_clubTold_28 rfl <|
    am_iload_n d_Reck_clubTold_30 rfl (i := 2) rfl <|
    am_callV (vs := [.int x1, .int x5, .int x2]) (st := []) (k := 12) (ci := 3) rfl d_Reck_clubTold_31 rfl rfl w_743 w_745 w_14 w_87 w_746 p_Reck_rankOf (Nat.le_of_ble_eq_true rfl) (Nat.le_of_ble_eq_true rfl) rfl k
theorem b_Reck_clubTold_34 {d : Nat} {x1 : Int32} {x2 : Int32} {x3 : Int32} {x4 : Int32} {x5 : Int32} {y0 : Int32} {h : am_H} {Q : am_Q} (kt : y0 ≤ x4 → am_W (X_Reck_clubTold d) 50 [some (.ref 12), some (.int x1), some (.int x2), some (.int x3), some (.int x4), some (.int x5), some (.int y0)] [] h Q) (kf : ¬ y0 ≤ x4 → am_W (X_Reck_clubTold d) 43 [some (.ref 12), some (.int x1), some (.int x2), some (.int x3), some (.int x4), some (.int x5), some (.int y0)] [] h Q) : am_W (X_Reck_clubTold d) 34 [some (.ref 12), some (.int x1), some (.int x2), some (.int x3), some (.int x4), some (.int x5), none] [.int y0] h Q :=
  am_istore (ls' := [some (.ref 12), some (.int x1), some (.int x2), some (.int x3), some (.int x4), some (.int x5), some (.int y0)]) d_Reck_clubTold_34 (Nat.le_of_ble_eq_true rfl) rfl <|
    am_iload d_Reck_clubTold_36 rfl <|
    am_iload d_Reck_clubTold_38 rfl <|
    am_icmp_le (tgt := 50) d_Reck_clubTold_40 (by decide) kt kf
theorem b_Reck_clubTold_43 {d : Nat} {x1 : Int32} {x2 : Int32} {x3 : Int32} {x4 : Int32} {x5 : Int32} {x6 : Int32} {h : am_H} {Q : am_Q} (k : am_W (X_Reck_clubTold d) 50 [some (.ref 12), some (.int x1), some (.int x2), some (.int x5), some (.int x6), some (.int x5), some (.int x6)] [] h Q) : am_W (X_Reck_clubTold d) 43 [some (.ref 12), some (.int x1), some (.int x2), some (.int x3), some (.int x4), some (.int x5), some (.int x6)] [] h Q :=
  am_iload d_Reck_clubTold_43 rfl <|
    am_istore (ls' := [some (.ref 12), some (.int x1), some (.int x2), some (.int x3), some (.int x6), some (.int x5), some (.int x6)]) d_Reck_clubTold_45 (Nat.le_of_ble_eq_true rfl) rfl <|
    am_iload d_Reck_clubTold_47 rfl <|
    am_istore_n (ls' := [some (.ref 12), some (.int x1), some (.int x2), some (.int x5), some (.int x6), some (.int x5), some (.int x6)]) d_Reck_clubTold_49 rfl (Nat.le_of_ble_eq_true rfl) rfl <|
    k
theorem b_Reck_clubTold_50 {d : Nat} {x1 : Int32} {x2 : Int32} {x3 : Int32} {x4 : Int32} {x5 : Int32} {x6 : Int32} {h : am_H} {Q : am_Q} (k : am_W (X_Reck_clubTold d) 14 [some (.ref 12), some (.int x1), some (.int x2), some (.int x3), some (.int x4), some (.int (x5 + 1)), some (.int x6)] [] h Q) : am_W (X_Reck_clubTold d) 50 [some (.ref 12), some (.int x1), some (.int x2), some (.int x3), some (.int x4), some (.int x5), some (.int x6)] [] h Q :=
  am_iinc (v := (x5 + 1)) (ls' := [some (.ref 12), some (.int x1), some (.int x2), some (.int x3), some (.int x4), some (.int (x5 + 1)), some (.int x6)]) d_Reck_clubTold_50 rfl rfl (Nat.le_of_ble_eq_true rfl) rfl <|
    am_goto (tgt := 14) d_Reck_clubTold_53 (by decide) k
theorem b_Reck_clubTold_56 {d : Nat} {x1 : Int32} {x2 : Int32} {x3 : Int32} {x4 : Int32} {x5 : Int32} {h : am_H} {Q : am_Q} (q : Q (some (.int x3)) h) : am_W (X_Reck_clubTold d) 56 [some (.ref 12), some (.int x1), some (.int x2), some (.int x3), some (.int x4), some (.int x5), none] [] h Q :=
  am_iload_n d_Reck_clubTold_56 rfl (i := 3) rfl <|
    am_iret rfl d_Reck_clubTold_57 q
theorem t_Reck_clubTold_56 {d : Nat} {x1 : Int32} {x2 : Int32} {x3 : Int32} {x4 : Int32} {x5 : Int32} {h : am_H} {Q : am_Q} {res : Int32 × am_H} (e : f_Reck_clubTold_56 h x3 = some res) (q : Q (some (.int res.1)) res.2) : am_W (X_Reck_clubTold (d + 3)) 56 [some (.ref 12), some (.int x1), some (.int x2), some (.int x3), some (.int x4), some (.int x5), none] [] h Q :=
  b_Reck_clubTold_56 (d := (d + 3)) (q := (am_rIpi (v := x3) e q))
theorem t_Reck_clubTold_50 {d : Nat} {k14 : am_H → Int32 → Int32 → Int32 → Int32 → Int32 → Option (Int32 × am_H)} {x1 : Int32} {x2 : Int32} {x3 : Int32} {x4 : Int32} {x5 : Int32} {x6 : Int32} {h : am_H} {Q : am_Q} {res : Int32 × am_H} (hk14 : ∀ (x1 : Int32) (x2 : Int32) (x3 : Int32) (x4 : Int32) (x5 : Int32) (h : am_H), k14 h x1 x2 x3 x4 x5 = some res → am_W (X_Reck_clubTold (d + 3)) 14 [some (.ref 12), some (.int x1), some (.int x2), some (.int x3), some (.int x4), some (.int x5), none] [] h Q) (e : f_Reck_clubTold_50 k14 h x1 x2 x3 x4 x5 = some res) (q : Q (some (.int res.1)) res.2) : am_W (X_Reck_clubTold (d + 3)) 50 [some (.ref 12), some (.int x1), some (.int x2), some (.int x3), some (.int x4), some (.int x5), some (.int x6)] [] h Q :=
  b_Reck_clubTold_50 (d := (d + 3)) (k := (am_wk2 (hk14 _ _ _ _ _ _ e) ⟨rfl, ⟨rfl, ⟨rfl, ⟨rfl, ⟨rfl, ⟨rfl, trivial⟩⟩⟩⟩⟩⟩))
theorem t_Reck_clubTold_43 {d : Nat} {k14 : am_H → Int32 → Int32 → Int32 → Int32 → Int32 → Option (Int32 × am_H)} {x1 : Int32} {x2 : Int32} {x3 : Int32} {x4 : Int32} {x5 : Int32} {x6 : Int32} {h : am_H} {Q : am_Q} {res : Int32 × am_H} (hk14 : ∀ (x1 : Int32) (x2 : Int32) (x3 : Int32) (x4 : Int32) (x5 : Int32) (h : am_H), k14 h x1 x2 x3 x4 x5 = some res → am_W (X_Reck_clubTold (d + 3)) 14 [some (.ref 12), some (.int x1), some (.int x2), some (.int x3), some (.int x4), some (.int x5), none] [] h Q) (e : f_Reck_clubTold_43 k14 h x1 x2 x5 x6 = some res) (q : Q (some (.int res.1)) res.2) : am_W (X_Reck_clubTold (d + 3)) 43 [some (.ref 12), some (.int x1), some (.int x2), some (.int x3), some (.int x4), some (.int x5), some (.int x6)] [] h Q :=
  b_Reck_clubTold_43 (d := (d + 3)) (k := (t_Reck_clubTold_50 hk14 e q))
theorem t_Reck_clubTold_34 {d : Nat} {k14 : am_H → Int32 → Int32 → Int32 → Int32 → Int32 → Option (Int32 × am_H)} {x1 : Int32} {x2 : Int32} {x3 : Int32} {x4 : Int32} {x5 : Int32} {y0 : Int32} {h : am_H} {Q : am_Q} {res : Int32 × am_H} (hk14 : ∀ (x1 : Int32) (x2 : Int32) (x3 : Int32) (x4 : Int32) (x5 : Int32) (h : am_H), k14 h x1 x2 x3 x4 x5 = some res → am_W (X_Reck_clubTold (d + 3)) 14 [some (.ref 12), some (.int x1), some (.int x2), some (.int x3), some (.int x4), some (.int x5), none] [] h Q) (e : f_Reck_clubTold_34 k14 h x1 x2 x3 x4 x5 y0 = some res) (q : Q (some (.int res.1)) res.2) : am_W (X_Reck_clubTold (d + 3)) 34 [some (.ref 12), some (.int x1), some (.int x2), some (.int x3), some (.int x4), some (.int x5), none] [.int y0] h Q :=
  b_Reck_clubTold_34 (d := (d + 3)) (kt := fun c => (t_Reck_clubTold_50 hk14 (am_ift e c) q)) (kf := fun c => (t_Reck_clubTold_43 hk14 (am_ife e c) q))
theorem t_Reck_clubTold_26 {d : Nat} {k14 : am_H → Int32 → Int32 → Int32 → Int32 → Int32 → Option (Int32 × am_H)} {x1 : Int32} {x2 : Int32} {x3 : Int32} {x4 : Int32} {x5 : Int32} {h : am_H} {Q : am_Q} {res : Int32 × am_H} (hk14 : ∀ (x1 : Int32) (x2 : Int32) (x3 : Int32) (x4 : Int32) (x5 : Int32) (h : am_H), k14 h x1 x2 x3 x4 x5 = some res → am_W (X_Reck_clubTold (d + 3)) 14 [some (.ref 12), some (.int x1), some (.int x2), some (.int x3), some (.int x4), some (.int x5), none] [] h Q) (e : f_Reck_clubTold_26 k14 h x1 x2 x3 x4 x5 = some res) (q : Q (some (.int res.1)) res.2) : am_W (X_Reck_clubTold (d + 3)) 26 [some (.ref 12), some (.int x1), some (.int x2), some (.int x3), some (.int x4), some (.int x5), none] [] h Q :=
  (am_bd e).elim fun p hp => b_Reck_clubTold_26 (d := (d + 2)) (k := c_Reck_rankOf (d := d) hp.1 (t_Reck_clubTold_34 hk14 hp.2 q))
theorem t_Reck_clubTold_23 {d : Nat} {k14 : am_H → Int32 → Int32 → Int32 → Int32 → Int32 → Option (Int32 × am_H)} {x1 : Int32} {x2 : Int32} {x3 : Int32} {x4 : Int32} {x5 : Int32} {y1 : Int32} {y0 : Int32} {h : am_H} {Q : am_Q} {res : Int32 × am_H} (hk14 : ∀ (x1 : Int32) (x2 : Int32) (x3 : Int32) (x4 : Int32) (x5 : Int32) (h : am_H), k14 h x1 x2 x3 x4 x5 = some res → am_W (X_Reck_clubTold (d + 3)) 14 [some (.ref 12), some (.int x1), some (.int x2), some (.int x3), some (.int x4), some (.int x5), none] [] h Q) (e : f_Reck_clubTold_23 k14 h x1 x2 x3 x4 x5 y1 y0 = some res) (q : Q (some (.int res.1)) res.2) : am_W (X_Reck_clubTold (d + 3)) 23 [some (.ref 12), some (.int x1), some (.int x2), some (.int x3), some (.int x4), some (.int x5), none] [.int y1, .int y0] h Q :=
  b_Reck_clubTold_23 (d := (d + 3)) (kt := fun c => (t_Reck_clubTold_56 (am_ift e c) q)) (kf := fun c => (t_Reck_clubTold_26 hk14 (am_ife e c) q))
theorem t_Reck_clubTold_14 {d : Nat} {k14 : am_H → Int32 → Int32 → Int32 → Int32 → Int32 → Option (Int32 × am_H)} {x1 : Int32} {x2 : Int32} {x3 : Int32} {x4 : Int32} {x5 : Int32} {h : am_H} {Q : am_Q} {res : Int32 × am_H} (hk14 : ∀ (x1 : Int32) (x2 : Int32) (x3 : Int32) (x4 : Int32) (x5 : Int32) (h : am_H), k14 h x1 x2 x3 x4 x5 = some res → am_W (X_Reck_clubTold (d + 3)) 14 [some (.ref 12), some (.int x1), some (.int x2), some (.int x3), some (.int x4), some (.int x5), none] [] h Q) (e : f_Reck_clubTold_14 k14 h x1 x2 x3 x4 x5 = some res) (q : Q (some (.int res.1)) res.2) : am_W (X_Reck_clubTold (d + 3)) 14 [some (.ref 12), some (.int x1), some (.int x2), some (.int x3), some (.int x4), some (.int x5), none] [] h Q :=
  b_Reck_clubTold_14 (d := (d + 2)) (k := c_Hole_clubsHeld (d := d + 2) rfl (t_Reck_clubTold_23 hk14 e q))
theorem t_Reck_clubTold_14_l {d : Nat} {Q : am_Q} {res : Int32 × am_H} (q : Q (some (.int res.1)) res.2) : ∀ (n : Nat) (x1 : Int32) (x2 : Int32) (x3 : Int32) (x4 : Int32) (x5 : Int32) (h : am_H), f_Reck_clubTold_14_l n h x1 x2 x3 x4 x5 = some res → am_W (X_Reck_clubTold (d + 3)) 14 [some (.ref 12), some (.int x1), some (.int x2), some (.int x3), some (.int x4), some (.int x5), none] [] h Q := by
  intro n
  induction n with
  | zero => intro x1 x2 x3 x4 x5 h e; exact am_nn e
  | succ n ih => intro x1 x2 x3 x4 x5 h e; exact t_Reck_clubTold_14 (fun x1 x2 x3 x4 x5 h e => ih x1 x2 x3 x4 x5 h  e) e q
theorem t_Reck_clubTold_9 {d : Nat} {x1 : Int32} {x2 : Int32} {x3 : Int32} {y0 : Int32} {h : am_H} {Q : am_Q} {res : Int32 × am_H} (e : f_Reck_clubTold_9 h x1 x2 x3 y0 = some res) (q : Q (some (.int res.1)) res.2) : am_W (X_Reck_clubTold (d + 3)) 9 [some (.ref 12), some (.int x1), some (.int x2), some (.int x3), none, none, none] [.int y0] h Q :=
  b_Reck_clubTold_9 (d := (d + 3)) (k := (t_Reck_clubTold_14_l q am_fu _ _ _ _ _ _ e))
theorem t_Reck_clubTold_0 {d : Nat} {x1 : Int32} {x2 : Int32} {h : am_H} {Q : am_Q} {res : Int32 × am_H} (e : f_Reck_clubTold h x1 x2 = some res) (q : Q (some (.int res.1)) res.2) : am_W (X_Reck_clubTold (d + 3)) 0 [some (.ref 12), some (.int x1), some (.int x2), none, none, none, none] [] h Q :=
  (am_bd e).elim fun p hp => b_Reck_clubTold_0 (d := (d + 2)) (k := c_Reck_rankOf (d := d) hp.1 (t_Reck_clubTold_9 hp.2 q))
theorem c_Reck_clubTold {d : Nat} {x1 : Int32} {x2 : Int32} {h : am_H} {Q : am_Q} {res : Int32 × am_H} (e : f_Reck_clubTold h x1 x2 = some res) (q : Q (some (.int res.1)) res.2) : m_Reck_clubTold (d + 3) [.ref 12, .int x1, .int x2] h Q :=
  e_Reck_clubTold (t_Reck_clubTold_0 e q)
theorem d_Club_believed_0 : decode prog_1_method_11_code 0 = .ok (.iload_n 1, 1) := by decide +kernel
theorem d_Club_believed_1 : decode prog_1_method_11_code 1 = .ok (.invokestatic 149, 3) := by decide +kernel
theorem d_Club_believed_4 : decode prog_1_method_11_code 4 = .ok (.ifCond .ne 5, 3) := by decide +kernel
theorem d_Club_believed_7 : decode prog_1_method_11_code 7 = .ok (.iconst (-1), 1) := by decide +kernel
theorem d_Club_believed_8 : decode prog_1_method_11_code 8 = .ok (.ireturn, 1) := by decide +kernel
theorem d_Club_believed_9 : decode prog_1_method_11_code 9 = .ok (.aload_n 0, 1) := by decide +kernel
theorem d_Club_believed_10 : decode prog_1_method_11_code 10 = .ok (.getfield 12, 3) := by decide +kernel
theorem d_Club_believed_13 : decode prog_1_method_11_code 13 = .ok (.iload_n 1, 1) := by decide +kernel
theorem d_Club_believed_14 : decode prog_1_method_11_code 14 = .ok (.invokevirtual 178, 3) := by decide +kernel
theorem d_Club_believed_17 : decode prog_1_method_11_code 17 = .ok (.ifCond .ne 13, 3) := by decide +kernel
theorem d_Club_believed_20 : decode prog_1_method_11_code 20 = .ok (.aload_n 0, 1) := by decide +kernel
theorem d_Club_believed_21 : decode prog_1_method_11_code 21 = .ok (.getfield 12, 3) := by decide +kernel
theorem d_Club_believed_24 : decode prog_1_method_11_code 24 = .ok (.invokevirtual 181, 3) := by decide +kernel
theorem d_Club_believed_27 : decode prog_1_method_11_code 27 = .ok (.ifCond .eq 8, 3) := by decide +kernel
theorem d_Club_believed_30 : decode prog_1_method_11_code 30 = .ok (.bipush (-2), 2) := by decide +kernel
theorem d_Club_believed_32 : decode prog_1_method_11_code 32 = .ok (.goto 12, 3) := by decide +kernel
theorem d_Club_believed_35 : decode prog_1_method_11_code 35 = .ok (.aload_n 0, 1) := by decide +kernel
theorem d_Club_believed_36 : decode prog_1_method_11_code 36 = .ok (.getfield 30, 3) := by decide +kernel
theorem d_Club_believed_39 : decode prog_1_method_11_code 39 = .ok (.iload_n 1, 1) := by decide +kernel
theorem d_Club_believed_40 : decode prog_1_method_11_code 40 = .ok (.iconst 0, 1) := by decide +kernel
theorem d_Club_believed_41 : decode prog_1_method_11_code 41 = .ok (.invokevirtual 184, 3) := by decide +kernel
theorem d_Club_believed_44 : decode prog_1_method_11_code 44 = .ok (.ireturn, 1) := by decide +kernel
theorem b_Club_believed_0 {d : Nat} {x1 : Int32} {h : am_H} {Q : am_Q} (k : m_Hole_isCell d [.int x1] h (fun r hh => am_W (X_Club_believed (d + 1)) 4 [some (.ref 0), some (.int x1)] (r.toList ++ []) hh Q)) : am_W (X_Club_believed (d + 1)) 0 [some (.ref 0), some (.int x1)] [] h Q :=
  am_iload_n d_Club_believed_0 rfl (i := 1) rfl <|
    am_callS (vs := [.int x1]) (st := []) rfl d_Club_believed_1 w_679 w_469 w_84 w_470 p_Hole_isCell (Nat.le_of_ble_eq_true rfl) (Nat.le_of_ble_eq_true rfl) rfl k
theorem b_Club_believed_4 {d : Nat} {x1 : Int32} {y0 : Bool} {h : am_H} {Q : am_Q} (kt : ¬ (am_b y0) = 0 → am_W (X_Club_believed d) 9 [some (.ref 0), some (.int x1)] [] h Q) (kf : (am_b y0) = 0 → am_W (X_Club_believed d) 7 [some (.ref 0), some (.int x1)] [] h Q) : am_W (X_Club_believed d) 4 [some (.ref 0), some (.int x1)] [.int (am_b y0)] h Q :=
  am_if_ne (tgt := 9) d_Club_believed_4 (by decide) kt kf
theorem b_Club_believed_7 {d : Nat} {x1 : Int32} {h : am_H} {Q : am_Q} (q : Q (some (.int (-1))) h) : am_W (X_Club_believed d) 7 [some (.ref 0), some (.int x1)] [] h Q :=
  am_iconst (v := (-1)) d_Club_believed_7 (by decide) <|
    am_iret rfl d_Club_believed_8 q
theorem b_Club_believed_9 {d : Nat} {x1 : Int32} {h : am_H} {Q : am_Q} (k : m_Hole_isGreen d [.ref 1, .int x1] h (fun r hh => am_W (X_Club_believed (d + 1)) 17 [some (.ref 0), some (.int x1)] (r.toList ++ []) hh Q)) : am_W (X_Club_believed (d + 1)) 9 [some (.ref 0), some (.int x1)] [] h Q :=
  am_aload_n d_Club_believed_9 rfl (i := 0) rfl <|
    am_getR (ci := 0) (i := 0) rfl rfl rfl (Nat.le_of_ble_eq_true rfl) w_362 d_Club_believed_10 <|
    am_iload_n d_Club_believed_13 rfl (i := 1) rfl <|
    am_callV (vs := [.int x1]) (st := []) (k := 1) (ci := 1) rfl d_Club_believed_14 rfl rfl w_734 w_675 w_676 w_84 w_677 p_Hole_isGreen (Nat.le_of_ble_eq_true rfl) (Nat.le_of_ble_eq_true rfl) rfl k
theorem b_Club_believed_17 {d : Nat} {x1 : Int32} {y0 : Bool} {h : am_H} {Q : am_Q} (kt : ¬ (am_b y0) = 0 → am_W (X_Club_believed d) 30 [some (.ref 0), some (.int x1)] [] h Q) (kf : (am_b y0) = 0 → am_W (X_Club_believed d) 20 [some (.ref 0), some (.int x1)] [] h Q) : am_W (X_Club_believed d) 17 [some (.ref 0), some (.int x1)] [.int (am_b y0)] h Q :=
  am_if_ne (tgt := 30) d_Club_believed_17 (by decide) kt kf
theorem b_Club_believed_20 {d : Nat} {x1 : Int32} {h : am_H} {Q : am_Q} (k : m_Hole_hasNoClubs d [.ref 1] h (fun r hh => am_W (X_Club_believed (d + 1)) 27 [some (.ref 0), some (.int x1)] (r.toList ++ []) hh Q)) : am_W (X_Club_believed (d + 1)) 20 [some (.ref 0), some (.int x1)] [] h Q :=
  am_aload_n d_Club_believed_20 rfl (i := 0) rfl <|
    am_getR (ci := 0) (i := 0) rfl rfl rfl (Nat.le_of_ble_eq_true rfl) w_362 d_Club_believed_21 <|
    am_callV (vs := []) (st := []) (k := 1) (ci := 1) rfl d_Club_believed_24 rfl rfl w_735 w_736 w_737 w_84 w_738 p_Hole_hasNoClubs (Nat.le_of_ble_eq_true rfl) (Nat.le_of_ble_eq_true rfl) rfl k
theorem b_Club_believed_27 {d : Nat} {x1 : Int32} {y0 : Bool} {h : am_H} {Q : am_Q} (kt : (am_b y0) = 0 → am_W (X_Club_believed d) 35 [some (.ref 0), some (.int x1)] [] h Q) (kf : ¬ (am_b y0) = 0 → am_W (X_Club_believed d) 30 [some (.ref 0), some (.int x1)] [] h Q) : am_W (X_Club_believed d) 27 [some (.ref 0), some (.int x1)] [.int (am_b y0)] h Q :=
  am_if_eq (tgt := 35) d_Club_believed_27 (by decide) kt kf
theorem b_Club_believed_30 {d : Nat} {x1 : Int32} {h : am_H} {Q : am_Q} (q : Q (some (.int (-2))) h) : am_W (X_Club_believed d) 30 [some (.ref 0), some (.int x1)] [] h Q :=
  am_bipush (v := (-2)) d_Club_believed_30 (by decide) <|
    am_goto (tgt := 44) d_Club_believed_32 (by decide) <|
    am_iret rfl d_Club_believed_44 q
theorem b_Club_believed_35 {d : Nat} {x1 : Int32} {h : am_H} {Q : am_Q} (k : m_Reck_clubTold d [.ref 12, .int x1, .int 0] h (fun r hh => am_W (X_Club_believed (d + 1)) 44 [some (.ref 0), some (.int x1)] (r.toList ++ []) hh Q)) : am_W (X_Club_believed (d + 1)) 35 [some (.ref 0), some (.int x1)] [] h Q :=
  am_aload_n d_Club_believed_35 rfl (i := 0) rfl <|
    am_getR (ci := 0) (i := 2) rfl rfl rfl (Nat.le_of_ble_eq_true rfl) w_364 d_Club_believed_36 <|
    am_iload_n d_Club_believed_39 rfl (i := 1) rfl <|
    am_iconst (v := 0) d_Club_believed_40 (by decide) <|
    am_callV (vs := [.int x1, .int 0]) (st := []) (k := 12) (ci := 3) rfl d_Club_believed_41 rfl rfl w_739 w_740 w_741 w_87 w_742 p_Reck_clubTold (Nat.le_of_ble_eq_true rfl) (Nat.le_of_ble_eq_true rfl) rfl k
theorem b_Club_believed_44 {d : Nat} {x1 : Int32} {y0 : Int32} {h : am_H} {Q : am_Q} (q : Q (some (.int y0)) h) : am_W (X_Club_believed d) 44 [some (.ref 0), some (.int x1)] [.int y0] h Q :=
  am_iret rfl d_Club_believed_44 q
theorem t_Club_believed_30 {d : Nat} {x1 : Int32} {h : am_H} {Q : am_Q} {res : Int32 × am_H} (e : f_Club_believed_30 h = some res) (q : Q (some (.int res.1)) res.2) : am_W (X_Club_believed (d + 4)) 30 [some (.ref 0), some (.int x1)] [] h Q :=
  b_Club_believed_30 (d := (d + 4)) (q := (am_rIpi (v := (-2)) e q))
theorem t_Club_believed_44 {d : Nat} {x1 : Int32} {y0 : Int32} {h : am_H} {Q : am_Q} {res : Int32 × am_H} (e : f_Club_believed_44 h y0 = some res) (q : Q (some (.int res.1)) res.2) : am_W (X_Club_believed (d + 4)) 44 [some (.ref 0), some (.int x1)] [.int y0] h Q :=
  b_Club_believed_44 (d := (d + 4)) (q := (am_rIpi (v := y0) e q))
theorem t_Club_believed_35 {d : Nat} {x1 : Int32} {h : am_H} {Q : am_Q} {res : Int32 × am_H} (e : f_Club_believed_35 h x1 = some res) (q : Q (some (.int res.1)) res.2) : am_W (X_Club_believed (d + 4)) 35 [some (.ref 0), some (.int x1)] [] h Q :=
  (am_bd e).elim fun p hp => b_Club_believed_35 (d := (d + 3)) (k := c_Reck_clubTold (d := d) hp.1 (t_Club_believed_44 hp.2 q))
theorem t_Club_believed_27 {d : Nat} {x1 : Int32} {y0 : Bool} {h : am_H} {Q : am_Q} {res : Int32 × am_H} (e : f_Club_believed_27 h x1 y0 = some res) (q : Q (some (.int res.1)) res.2) : am_W (X_Club_believed (d + 4)) 27 [some (.ref 0), some (.int x1)] [.int (am_b y0)] h Q :=
  b_Club_believed_27 (d := (d + 4)) (kt := fun c => (t_Club_believed_35 (am_iff e (am_bz c)) q)) (kf := fun c => (t_Club_believed_30 (am_ift e (am_bn c)) q))
theorem t_Club_believed_20 {d : Nat} {x1 : Int32} {h : am_H} {Q : am_Q} {res : Int32 × am_H} (e : f_Club_believed_20 h x1 = some res) (q : Q (some (.int res.1)) res.2) : am_W (X_Club_believed (d + 4)) 20 [some (.ref 0), some (.int x1)] [] h Q :=
  b_Club_believed_20 (d := (d + 3)) (k := c_Hole_hasNoClubs (d := d + 3) rfl (t_Club_believed_27 e q))
theorem t_Club_believed_17 {d : Nat} {x1 : Int32} {y0 : Bool} {h : am_H} {Q : am_Q} {res : Int32 × am_H} (e : f_Club_believed_17 h x1 y0 = some res) (q : Q (some (.int res.1)) res.2) : am_W (X_Club_believed (d + 4)) 17 [some (.ref 0), some (.int x1)] [.int (am_b y0)] h Q :=
  b_Club_believed_17 (d := (d + 4)) (kt := fun c => (t_Club_believed_30 (am_ift e (am_bn c)) q)) (kf := fun c => (t_Club_believed_20 (am_iff e (am_bz c)) q))
theorem t_Club_believed_9 {d : Nat} {x1 : Int32} {h : am_H} {Q : am_Q} {res : Int32 × am_H} (e : f_Club_believed_9 h x1 = some res) (q : Q (some (.int res.1)) res.2) : am_W (X_Club_believed (d + 4)) 9 [some (.ref 0), some (.int x1)] [] h Q :=
  (am_bd e).elim fun p hp => b_Club_believed_9 (d := (d + 3)) (k := c_Hole_isGreen (d := d + 2) hp.1 (t_Club_believed_17 hp.2 q))
theorem t_Club_believed_7 {d : Nat} {x1 : Int32} {h : am_H} {Q : am_Q} {res : Int32 × am_H} (e : f_Club_believed_7 h = some res) (q : Q (some (.int res.1)) res.2) : am_W (X_Club_believed (d + 4)) 7 [some (.ref 0), some (.int x1)] [] h Q :=
  b_Club_believed_7 (d := (d + 4)) (q := (am_rIpi (v := (-1)) e q))
theorem t_Club_believed_4 {d : Nat} {x1 : Int32} {y0 : Bool} {h : am_H} {Q : am_Q} {res : Int32 × am_H} (e : f_Club_believed_4 h x1 y0 = some res) (q : Q (some (.int res.1)) res.2) : am_W (X_Club_believed (d + 4)) 4 [some (.ref 0), some (.int x1)] [.int (am_b y0)] h Q :=
  b_Club_believed_4 (d := (d + 4)) (kt := fun c => (t_Club_believed_9 (am_ift e (am_bn c)) q)) (kf := fun c => (t_Club_believed_7 (am_iff e (am_bz c)) q))
theorem t_Club_believed_0 {d : Nat} {x1 : Int32} {h : am_H} {Q : am_Q} {res : Int32 × am_H} (e : f_Club_believed h x1 = some res) (q : Q (some (.int res.1)) res.2) : am_W (X_Club_believed (d + 4)) 0 [some (.ref 0), some (.int x1)] [] h Q :=
  b_Club_believed_0 (d := (d + 3)) (k := c_Hole_isCell (d := d + 3) rfl (t_Club_believed_4 e q))
theorem c_Club_believed {d : Nat} {x1 : Int32} {h : am_H} {Q : am_Q} {res : Int32 × am_H} (e : f_Club_believed h x1 = some res) (q : Q (some (.int res.1)) res.2) : m_Club_believed (d + 4) [.ref 0, .int x1] h Q :=
  e_Club_believed (t_Club_believed_0 e q)
theorem d_Hole_farthestDry_0 : decode prog_5_method_35_code 0 = .ok (.bipush (-2), 2) := by decide +kernel
theorem d_Hole_farthestDry_2 : decode prog_5_method_35_code 2 = .ok (.istore_n 2, 1) := by decide +kernel
theorem d_Hole_farthestDry_3 : decode prog_5_method_35_code 3 = .ok (.iconst (-1), 1) := by decide +kernel
theorem d_Hole_farthestDry_4 : decode prog_5_method_35_code 4 = .ok (.istore_n 3, 1) := by decide +kernel
theorem d_Hole_farthestDry_5 : decode prog_5_method_35_code 5 = .ok (.iconst 0, 1) := by decide +kernel
theorem d_Hole_farthestDry_6 : decode prog_5_method_35_code 6 = .ok (.istore 4, 2) := by decide +kernel
theorem d_Hole_farthestDry_8 : decode prog_5_method_35_code 8 = .ok (.iload 4, 2) := by decide +kernel
theorem d_Hole_farthestDry_10 : decode prog_5_method_35_code 10 = .ok (.aload_n 0, 1) := by decide +kernel
theorem d_Hole_farthestDry_11 : decode prog_5_method_35_code 11 = .ok (.getfield 24, 3) := by decide +kernel
theorem d_Hole_farthestDry_14 : decode prog_5_method_35_code 14 = .ok (.if_icmp .ge 50, 3) := by decide +kernel
theorem d_Hole_farthestDry_17 : decode prog_5_method_35_code 17 = .ok (.aload_n 0, 1) := by decide +kernel
theorem d_Hole_farthestDry_18 : decode prog_5_method_35_code 18 = .ok (.iload_n 1, 1) := by decide +kernel
theorem d_Hole_farthestDry_19 : decode prog_5_method_35_code 19 = .ok (.aload_n 0, 1) := by decide +kernel
theorem d_Hole_farthestDry_20 : decode prog_5_method_35_code 20 = .ok (.iload 4, 2) := by decide +kernel
theorem d_Hole_farthestDry_22 : decode prog_5_method_35_code 22 = .ok (.invokevirtual 119, 3) := by decide +kernel
theorem d_Hole_farthestDry_25 : decode prog_5_method_35_code 25 = .ok (.invokevirtual 113, 3) := by decide +kernel
theorem d_Hole_farthestDry_28 : decode prog_5_method_35_code 28 = .ok (.iload_n 1, 1) := by decide +kernel
theorem d_Hole_farthestDry_29 : decode prog_5_method_35_code 29 = .ok (.isub, 1) := by decide +kernel
theorem d_Hole_farthestDry_30 : decode prog_5_method_35_code 30 = .ok (.invokestatic 107, 3) := by decide +kernel
theorem d_Hole_farthestDry_33 : decode prog_5_method_35_code 33 = .ok (.istore 5, 2) := by decide +kernel
theorem d_Hole_farthestDry_35 : decode prog_5_method_35_code 35 = .ok (.iload 5, 2) := by decide +kernel
theorem d_Hole_farthestDry_37 : decode prog_5_method_35_code 37 = .ok (.iload_n 3, 1) := by decide +kernel
theorem d_Hole_farthestDry_38 : decode prog_5_method_35_code 38 = .ok (.if_icmp .le 20, 3) := by decide +kernel
theorem d_Hole_farthestDry_41 : decode prog_5_method_35_code 41 = .ok (.aload_n 0, 1) := by decide +kernel
theorem d_Hole_farthestDry_42 : decode prog_5_method_35_code 42 = .ok (.iconst 1, 1) := by decide +kernel
theorem d_Hole_farthestDry_43 : decode prog_5_method_35_code 43 = .ok (.iload_n 1, 1) := by decide +kernel
theorem d_Hole_farthestDry_44 : decode prog_5_method_35_code 44 = .ok (.iload 4, 2) := by decide +kernel
theorem d_Hole_farthestDry_46 : decode prog_5_method_35_code 46 = .ok (.invokevirtual 122, 3) := by decide +kernel
theorem d_Hole_farthestDry_49 : decode prog_5_method_35_code 49 = .ok (.ifCond .ne 9, 3) := by decide +kernel
theorem d_Hole_farthestDry_52 : decode prog_5_method_35_code 52 = .ok (.iload 5, 2) := by decide +kernel
theorem d_Hole_farthestDry_54 : decode prog_5_method_35_code 54 = .ok (.istore_n 3, 1) := by decide +kernel
theorem d_Hole_farthestDry_55 : decode prog_5_method_35_code 55 = .ok (.iload 4, 2) := by decide +kernel
theorem d_Hole_farthestDry_57 : decode prog_5_method_35_code 57 = .ok (.istore_n 2, 1) := by decide +kernel
theorem d_Hole_farthestDry_58 : decode prog_5_method_35_code 58 = .ok (.iinc 4 1, 3) := by decide +kernel
theorem d_Hole_farthestDry_61 : decode prog_5_method_35_code 61 = .ok (.goto (-53), 3) := by decide +kernel
theorem d_Hole_farthestDry_64 : decode prog_5_method_35_code 64 = .ok (.iload_n 2, 1) := by decide +kernel
theorem d_Hole_farthestDry_65 : decode prog_5_method_35_code 65 = .ok (.ireturn, 1) := by decide +kernel
theorem b_Hole_farthestDry_0 {d : Nat} {x1 : Int32} {h : am_H} {Q : am_Q} (k : am_W (X_Hole_farthestDry d) 8 [some (.ref 1), some (.int x1), some (.int (-2)), some (.int (-1)), some (.int 0), none] [] h Q) : am_W (X_Hole_farthestDry d) 0 [some (.ref 1), some (.int x1), none, none, none, none] [] h Q :=
  am_bipush (v := (-2)) d_Hole_farthestDry_0 (by decide) <|
    am_istore_n (ls' := [some (.ref 1), some (.int x1), some (.int (-2)), none, none, none]) d_Hole_farthestDry_2 rfl (Nat.le_of_ble_eq_true rfl) rfl <|
    am_iconst (v := (-1)) d_Hole_farthestDry_3 (by decide) <|
    am_istore_n (ls' := [some (.ref 1), some (.int x1), some (.int (-2)), some (.int (-1)), none, none]) d_Hole_farthestDry_4 rfl (Nat.le_of_ble_eq_true rfl) rfl <|
    am_iconst (v := 0) d_Hole_farthestDry_5 (by decide) <|
    am_istore (ls' := [some (.ref 1), some (.int x1), some (.int (-2)), some (.int (-1)), some (.int 0), none]) d_Hole_farthestDry_6 (Nat.le_of_ble_eq_true rfl) rfl <|
    k
theorem b_Hole_farthestDry_8 {d : Nat} {x1 : Int32} {x2 : Int32} {x3 : Int32} {x4 : Int32} {h : am_H} {Q : am_Q} (kt : (h.1 1 4) ≤ x4 → am_W (X_Hole_farthestDry d) 64 [some (.ref 1), some (.int x1), some (.int x2), some (.int x3), some (.int x4), none] [] h Q) (kf : ¬ (h.1 1 4) ≤ x4 → am_W (X_Hole_farthestDry d) 17 [some (.ref 1), some (.int x1), some (.int x2), some (.int x3), some (.int x4), none] [] h Q) : am_W (X_Hole_farthestDry d) 8 [some (.ref 1), some (.int x1), some (.int x2), some (.int x3), some (.int x4), none] [] h Q :=
  am_iload d_Hole_farthestDry_8 rfl <|
    am_aload_n d_Hole_farthestDry_10 rfl (i := 0) rfl <|
    am_getI (ci := 1) (i := 4) rfl rfl rfl (Nat.le_of_ble_eq_true rfl) w_126 d_Hole_farthestDry_11 <|
    am_icmp_ge (tgt := 64) d_Hole_farthestDry_14 (by decide) kt kf
theorem b_Hole_farthestDry_17 {d : Nat} {x1 : Int32} {x2 : Int32} {x3 : Int32} {x4 : Int32} {h : am_H} {Q : am_Q} (k : m_Hole_carryOf d [.ref 1, .int x4] h (fun r hh => am_W (X_Hole_farthestDry (d + 1)) 25 [some (.ref 1), some (.int x1), some (.int x2), some (.int x3), some (.int x4), none] (r.toList ++ [.int x1, .ref 1]) hh Q)) : am_W (X_Hole_farthestDry (d + 1)) 17 [some (.ref 1), some (.int x1), some (.int x2), some (.int x3), some (.int x4), none] [] h Q :=
  am_aload_n d_Hole_farthestDry_17 rfl (i := 0) rfl <|
    am_iload_n d_Hole_farthestDry_18 rfl (i := 1) rfl <|
    am_aload_n d_Hole_farthestDry_19 rfl (i := 0) rfl <|
    am_iload d_Hole_farthestDry_20 rfl <|
    am_callV (vs := [.int x4]) (st := [.int x1, .ref 1]) (k := 1) (ci := 1) rfl d_Hole_farthestDry_22 rfl rfl w_729 w_685 w_686 w_84 w_687 p_Hole_carryOf (Nat.le_of_ble_eq_true rfl) (Nat.le_of_ble_eq_true rfl) rfl k
theorem b_Hole_farthestDry_25 {d : Nat} {x1 : Int32} {x2 : Int32} {x3 : Int32} {x4 : Int32} {y2 : Int32} {y1 : Int32} {h : am_H} {Q : am_Q} (k : m_Hole_aim d [.ref 1, .int y1, .int y2] h (fun r hh => am_W (X_Hole_farthestDry (d + 1)) 28 [some (.ref 1), some (.int x1), some (.int x2), some (.int x3), some (.int x4), none] (r.toList ++ []) hh Q)) : am_W (X_Hole_farthestDry (d + 1)) 25 [some (.ref 1), some (.int x1), some (.int x2), some (.int x3), some (.int x4), none] [.int y2, .int y1, .ref 1] h Q :=
  am_callV (vs := [.int y1, .int y2]) (st := []) (k := 1) (ci := 1) rfl d_Hole_farthestDry_25 rfl rfl w_696 w_697 w_698 w_84 w_699 p_Hole_aim (Nat.le_of_ble_eq_true rfl) (Nat.le_of_ble_eq_true rfl) rfl k
theorem b_Hole_farthestDry_28 {d : Nat} {x1 : Int32} {x2 : Int32} {x3 : Int32} {x4 : Int32} {y0 : Int32} {h : am_H} {Q : am_Q} (kt : (if 0 ≤ (y0 - x1) then (y0 - x1) else 0 - (y0 - x1)) ≤ x3 → am_W (X_Hole_farthestDry d) 58 [some (.ref 1), some (.int x1), some (.int x2), some (.int x3), some (.int x4), some (.int (if 0 ≤ (y0 - x1) then (y0 - x1) else 0 - (y0 - x1)))] [] h Q) (kf : ¬ (if 0 ≤ (y0 - x1) then (y0 - x1) else 0 - (y0 - x1)) ≤ x3 → am_W (X_Hole_farthestDry d) 41 [some (.ref 1), some (.int x1), some (.int x2), some (.int x3), some (.int x4), some (.int (if 0 ≤ (y0 - x1) then (y0 - x1) else 0 - (y0 - x1)))] [] h Q) : am_W (X_Hole_farthestDry d) 28 [some (.ref 1), some (.int x1), some (.int x2), some (.int x3), some (.int x4), none] [.int y0] h Q :=
  am_iload_n d_Hole_farthestDry_28 rfl (i := 1) rfl <|
    am_isub d_Hole_farthestDry_29 <|
    am_mabs w_751 d_Hole_farthestDry_30 (Nat.le_of_ble_eq_true rfl) <|
    am_istore (ls' := [some (.ref 1), some (.int x1), some (.int x2), some (.int x3), some (.int x4), some (.int (if 0 ≤ (y0 - x1) then (y0 - x1) else 0 - (y0 - x1)))]) d_Hole_farthestDry_33 (Nat.le_of_ble_eq_true rfl) rfl <|
    am_iload d_Hole_farthestDry_35 rfl <|
    am_iload_n d_Hole_farthestDry_37 rfl (i := 3) rfl <|
    am_icmp_le (tgt := 58) d_Hole_farthestDry_38 (by decide) kt kf
theorem b_Hole_farthestDry_41 {d : Nat} {x1 : Int32} {x2 : Int32} {x3 : Int32} {x4 : Int32} {x5 : Int32} {h : am_H} {Q : am_Q} (k : m_Hole_waysInto d [.ref 1, .int 1, .int x1, .int x4] h (fun r hh => am_W (X_Hole_farthestDry (d + 1)) 49 [some (.ref 1), some (.int x1), some (.int x2), some (.int x3), some (.int x4), some (.int x5)] (r.toList ++ []) hh Q)) : am_W (X_Hole_farthestDry (d + 1)) 41 [some (.ref 1), some (.int x1), some (.int x2), some (.int x3), some (.int x4), some (.int x5)] [] h Q :=
  am_aload_n d_Hole_farthestDry_41 rfl (i := 0) rfl <|
    am_iconst (v := 1) d_Hole_farthestDry_42 (by decide) <|
    am_iload_n d_Hole_farthestDry_43 rfl (i := 1) rfl <|
    am_iload d_Hole_farthestDry_44 rfl <|
    am_callV (vs := [.int 1, .int x1, .int x4]) (st := []) (k := 1) (ci := 1) rfl d_Hole_farthestDry_46 rfl rfl w_800 w_726 w_727 w_84 w_728 p_Hole_waysInto (Nat.le_of_ble_eq_true rfl) (Nat.le_of_ble_eq_true rfl) rfl k
theorem b_Hole_farthestDry_49 {d : Nat} {x1 : Int32} {x2 : Int32} {x3 : Int32} {x4 : Int32} {x5 : Int32} {y0 : Int32} {h : am_H} {Q : am_Q} (kt : ¬ y0 = 0 → am_W (X_Hole_farthestDry d) 58 [some (.ref 1), some (.int x1), some (.int x2), some (.int x3), some (.int x4), some (.int x5)] [] h Q) (kf : y0 = 0 → am_W (X_Hole_farthestDry d) 52 [some (.ref 1), some (.int x1), some (.int x2), some (.int x3), some (.int x4), some (.int x5)] [] h Q) : am_W (X_Hole_farthestDry d) 49 [some (.ref 1), some (.int x1), some (.int x2), some (.int x3), some (.int x4), some (.int x5)] [.int y0] h Q :=
  am_if_ne (tgt := 58) d_Hole_farthestDry_49 (by decide) kt kf
theorem b_Hole_farthestDry_52 {d : Nat} {x1 : Int32} {x2 : Int32} {x3 : Int32} {x4 : Int32} {x5 : Int32} {h : am_H} {Q : am_Q} (k : am_W (X_Hole_farthestDry d) 58 [some (.ref 1), some (.int x1), some (.int x4), some (.int x5), some (.int x4), some (.int x5)] [] h Q) : am_W (X_Hole_farthestDry d) 52 [some (.ref 1), some (.int x1), some (.int x2), some (.int x3), some (.int x4), some (.int x5)] [] h Q :=
  am_iload d_Hole_farthestDry_52 rfl <|
    am_istore_n (ls' := [some (.ref 1), some (.int x1), some (.int x2), some (.int x5), some (.int x4), some (.int x5)]) d_Hole_farthestDry_54 rfl (Nat.le_of_ble_eq_true rfl) rfl <|
    am_iload d_Hole_farthestDry_55 rfl <|
    am_istore_n (ls' := [some (.ref 1), some (.int x1), some (.int x4), some (.int x5), some (.int x4), some (.int x5)]) d_Hole_farthestDry_57 rfl (Nat.le_of_ble_eq_true rfl) rfl <|
    k
theorem b_Hole_farthestDry_58 {d : Nat} {x1 : Int32} {x2 : Int32} {x3 : Int32} {x4 : Int32} {x5 : Int32} {h : am_H} {Q : am_Q} (k : am_W (X_Hole_farthestDry d) 8 [some (.ref 1), some (.int x1), some (.int x2), some (.int x3), some (.int (x4 + 1)), some (.int x5)] [] h Q) : am_W (X_Hole_farthestDry d) 58 [some (.ref 1), some (.int x1), some (.int x2), some (.int x3), some (.int x4), some (.int x5)] [] h Q :=
  am_iinc (v := (x4 + 1)) (ls' := [some (.ref 1), some (.int x1), some (.int x2), some (.int x3), some (.int (x4 + 1)), some (.int x5)]) d_Hole_farthestDry_58 rfl rfl (Nat.le_of_ble_eq_true rfl) rfl <|
    am_goto (tgt := 8) d_Hole_farthestDry_61 (by decide) k
theorem b_Hole_farthestDry_64 {d : Nat} {x1 : Int32} {x2 : Int32} {x3 : Int32} {x4 : Int32} {h : am_H} {Q : am_Q} (q : Q (some (.int x2)) h) : am_W (X_Hole_farthestDry d) 64 [some (.ref 1), some (.int x1), some (.int x2), some (.int x3), some (.int x4), none] [] h Q :=
  am_iload_n d_Hole_farthestDry_64 rfl (i := 2) rfl <|
    am_iret rfl d_Hole_farthestDry_65 q
theorem t_Hole_farthestDry_64 {d : Nat} {x1 : Int32} {x2 : Int32} {x3 : Int32} {x4 : Int32} {h : am_H} {Q : am_Q} {res : Int32} (e : f_Hole_farthestDry_64 h x2 = some res) (q : Q (some (.int res)) h) : am_W (X_Hole_farthestDry (d + 3)) 64 [some (.ref 1), some (.int x1), some (.int x2), some (.int x3), some (.int x4), none] [] h Q :=
  b_Hole_farthestDry_64 (d := (d + 3)) (q := (am_rIp (v := x2) e q))
theorem t_Hole_farthestDry_58 {d : Nat} {k8 : Int32 → Int32 → Int32 → Int32 → Option (Int32)} {x1 : Int32} {x2 : Int32} {x3 : Int32} {x4 : Int32} {x5 : Int32} {h : am_H} {Q : am_Q} {res : Int32} (hk8 : ∀ (x1 : Int32) (x2 : Int32) (x3 : Int32) (x4 : Int32), k8 x1 x2 x3 x4 = some res → am_W (X_Hole_farthestDry (d + 3)) 8 [some (.ref 1), some (.int x1), some (.int x2), some (.int x3), some (.int x4), none] [] h Q) (e : f_Hole_farthestDry_58 k8 h x1 x2 x3 x4 = some res) (q : Q (some (.int res)) h) : am_W (X_Hole_farthestDry (d + 3)) 58 [some (.ref 1), some (.int x1), some (.int x2), some (.int x3), some (.int x4), some (.int x5)] [] h Q :=
  b_Hole_farthestDry_58 (d := (d + 3)) (k := (am_wk2 (hk8 _ _ _ _ e) ⟨rfl, ⟨rfl, ⟨rfl, ⟨rfl, ⟨rfl, trivial⟩⟩⟩⟩⟩))
theorem t_Hole_farthestDry_52 {d : Nat} {k8 : Int32 → Int32 → Int32 → Int32 → Option (Int32)} {x1 : Int32} {x2 : Int32} {x3 : Int32} {x4 : Int32} {x5 : Int32} {h : am_H} {Q : am_Q} {res : Int32} (hk8 : ∀ (x1 : Int32) (x2 : Int32) (x3 : Int32) (x4 : Int32), k8 x1 x2 x3 x4 = some res → am_W (X_Hole_farthestDry (d + 3)) 8 [some (.ref 1), some (.int x1), some (.int x2), some (.int x3), some (.int x4), none] [] h Q) (e : f_Hole_farthestDry_52 k8 h x1 x4 x5 = some res) (q : Q (some (.int res)) h) : am_W (X_Hole_farthestDry (d + 3)) 52 [some (.ref 1), some (.int x1), some (.int x2), some (.int x3), some (.int x4), some (.int x5)] [] h Q :=
  b_Hole_farthestDry_52 (d := (d + 3)) (k := (t_Hole_farthestDry_58 hk8 e q))
theorem t_Hole_farthestDry_49 {d : Nat} {k8 : Int32 → Int32 → Int32 → Int32 → Option (Int32)} {x1 : Int32} {x2 : Int32} {x3 : Int32} {x4 : Int32} {x5 : Int32} {y0 : Int32} {h : am_H} {Q : am_Q} {res : Int32} (hk8 : ∀ (x1 : Int32) (x2 : Int32) (x3 : Int32) (x4 : Int32), k8 x1 x2 x3 x4 = some res → am_W (X_Hole_farthestDry (d + 3)) 8 [some (.ref 1), some (.int x1), some (.int x2), some (.int x3), some (.int x4), none] [] h Q) (e : f_Hole_farthestDry_49 k8 h x1 x2 x3 x4 x5 y0 = some res) (q : Q (some (.int res)) h) : am_W (X_Hole_farthestDry (d + 3)) 49 [some (.ref 1), some (.int x1), some (.int x2), some (.int x3), some (.int x4), some (.int x5)] [.int y0] h Q :=
  b_Hole_farthestDry_49 (d := (d + 3)) (kt := fun c => (t_Hole_farthestDry_58 hk8 (am_ife e c) q)) (kf := fun c => (t_Hole_farthestDry_52 hk8 (am_ift e c) q))
theorem t_Hole_farthestDry_41 {d : Nat} {k8 : Int32 → Int32 → Int32 → Int32 → Option (Int32)} {x1 : Int32} {x2 : Int32} {x3 : Int32} {x4 : Int32} {x5 : Int32} {h : am_H} {Q : am_Q} {res : Int32} (hk8 : ∀ (x1 : Int32) (x2 : Int32) (x3 : Int32) (x4 : Int32), k8 x1 x2 x3 x4 = some res → am_W (X_Hole_farthestDry (d + 3)) 8 [some (.ref 1), some (.int x1), some (.int x2), some (.int x3), some (.int x4), none] [] h Q) (e : f_Hole_farthestDry_41 k8 h x1 x2 x3 x4 x5 = some res) (q : Q (some (.int res)) h) : am_W (X_Hole_farthestDry (d + 3)) 41 [some (.ref 1), some (.int x1), some (.int x2), some (.int x3), some (.int x4), some (.int x5)] [] h Q :=
  (am_bd e).elim fun p hp => b_Hole_farthestDry_41 (d := (d + 2)) (k := c_Hole_waysInto (d := d) hp.1 (t_Hole_farthestDry_49 hk8 hp.2 q))
theorem t_Hole_farthestDry_28 {d : Nat} {k8 : Int32 → Int32 → Int32 → Int32 → Option (Int32)} {x1 : Int32} {x2 : Int32} {x3 : Int32} {x4 : Int32} {y0 : Int32} {h : am_H} {Q : am_Q} {res : Int32} (hk8 : ∀ (x1 : Int32) (x2 : Int32) (x3 : Int32) (x4 : Int32), k8 x1 x2 x3 x4 = some res → am_W (X_Hole_farthestDry (d + 3)) 8 [some (.ref 1), some (.int x1), some (.int x2), some (.int x3), some (.int x4), none] [] h Q) (e : f_Hole_farthestDry_28 k8 h x1 x2 x3 x4 y0 = some res) (q : Q (some (.int res)) h) : am_W (X_Hole_farthestDry (d + 3)) 28 [some (.ref 1), some (.int x1), some (.int x2), some (.int x3), some (.int x4), none] [.int y0] h Q :=
  b_Hole_farthestDry_28 (d := (d + 3)) (kt := fun c => (t_Hole_farthestDry_58 hk8 (am_ift e c) q)) (kf := fun c => (t_Hole_farthestDry_41 hk8 (am_ife e c) q))
theorem t_Hole_farthestDry_25 {d : Nat} {k8 : Int32 → Int32 → Int32 → Int32 → Option (Int32)} {x1 : Int32} {x2 : Int32} {x3 : Int32} {x4 : Int32} {y2 : Int32} {y1 : Int32} {h : am_H} {Q : am_Q} {res : Int32} (hk8 : ∀ (x1 : Int32) (x2 : Int32) (x3 : Int32) (x4 : Int32), k8 x1 x2 x3 x4 = some res → am_W (X_Hole_farthestDry (d + 3)) 8 [some (.ref 1), some (.int x1), some (.int x2), some (.int x3), some (.int x4), none] [] h Q) (e : f_Hole_farthestDry_25 k8 h x1 x2 x3 x4 y2 y1 = some res) (q : Q (some (.int res)) h) : am_W (X_Hole_farthestDry (d + 3)) 25 [some (.ref 1), some (.int x1), some (.int x2), some (.int x3), some (.int x4), none] [.int y2, .int y1, .ref 1] h Q :=
  (am_bd e).elim fun p hp => b_Hole_farthestDry_25 (d := (d + 2)) (k := c_Hole_aim (d := d + 2) hp.1 (t_Hole_farthestDry_28 hk8 hp.2 q))
theorem t_Hole_farthestDry_17 {d : Nat} {k8 : Int32 → Int32 → Int32 → Int32 → Option (Int32)} {x1 : Int32} {x2 : Int32} {x3 : Int32} {x4 : Int32} {h : am_H} {Q : am_Q} {res : Int32} (hk8 : ∀ (x1 : Int32) (x2 : Int32) (x3 : Int32) (x4 : Int32), k8 x1 x2 x3 x4 = some res → am_W (X_Hole_farthestDry (d + 3)) 8 [some (.ref 1), some (.int x1), some (.int x2), some (.int x3), some (.int x4), none] [] h Q) (e : f_Hole_farthestDry_17 k8 h x1 x2 x3 x4 = some res) (q : Q (some (.int res)) h) : am_W (X_Hole_farthestDry (d + 3)) 17 [some (.ref 1), some (.int x1), some (.int x2), some (.int x3), some (.int x4), none] [] h Q :=
  (am_bd e).elim fun p hp => b_Hole_farthestDry_17 (d := (d + 2)) (k := c_Hole_carryOf (d := d + 1) hp.1 (t_Hole_farthestDry_25 hk8 hp.2 q))
theorem t_Hole_farthestDry_8 {d : Nat} {k8 : Int32 → Int32 → Int32 → Int32 → Option (Int32)} {x1 : Int32} {x2 : Int32} {x3 : Int32} {x4 : Int32} {h : am_H} {Q : am_Q} {res : Int32} (hk8 : ∀ (x1 : Int32) (x2 : Int32) (x3 : Int32) (x4 : Int32), k8 x1 x2 x3 x4 = some res → am_W (X_Hole_farthestDry (d + 3)) 8 [some (.ref 1), some (.int x1), some (.int x2), some (.int x3), some (.int x4), none] [] h Q) (e : f_Hole_farthestDry_8 k8 h x1 x2 x3 x4 = some res) (q : Q (some (.int res)) h) : am_W (X_Hole_farthestDry (d + 3)) 8 [some (.ref 1), some (.int x1), some (.int x2), some (.int x3), some (.int x4), none] [] h Q :=
  b_Hole_farthestDry_8 (d := (d + 3)) (kt := fun c => (t_Hole_farthestDry_64 (am_ift e c) q)) (kf := fun c => (t_Hole_farthestDry_17 hk8 (am_ife e c) q))
theorem t_Hole_farthestDry_8_l {d : Nat} {h : am_H} {Q : am_Q} {res : Int32} (q : Q (some (.int res)) h) : ∀ (n : Nat) (x1 : Int32) (x2 : Int32) (x3 : Int32) (x4 : Int32), f_Hole_farthestDry_8_l h n x1 x2 x3 x4 = some res → am_W (X_Hole_farthestDry (d + 3)) 8 [some (.ref 1), some (.int x1), some (.int x2), some (.int x3), some (.int x4), none] [] h Q := by
  intro n
  induction n with
  | zero => intro x1 x2 x3 x4 e; exact am_nn e
  | succ n ih => intro x1 x2 x3 x4 e; exact t_Hole_farthestDry_8 (fun x1 x2 x3 x4 e => ih x1 x2 x3 x4  e) e q
theorem t_Hole_farthestDry_0 {d : Nat} {x1 : Int32} {h : am_H} {Q : am_Q} {res : Int32} (e : f_Hole_farthestDry h x1 = some res) (q : Q (some (.int res)) h) : am_W (X_Hole_farthestDry (d + 3)) 0 [some (.ref 1), some (.int x1), none, none, none, none] [] h Q :=
  b_Hole_farthestDry_0 (d := (d + 3)) (k := (t_Hole_farthestDry_8_l q am_fu _ _ _ _ e))
theorem c_Hole_farthestDry {d : Nat} {x1 : Int32} {h : am_H} {Q : am_Q} {res : Int32} (e : f_Hole_farthestDry h x1 = some res) (q : Q (some (.int res)) h) : m_Hole_farthestDry (d + 3) [.ref 1, .int x1] h Q :=
  e_Hole_farthestDry (t_Hole_farthestDry_0 e q)
theorem d_Club_layUp_0 : decode prog_1_method_12_code 0 = .ok (.aload_n 0, 1) := by decide +kernel
theorem d_Club_layUp_1 : decode prog_1_method_12_code 1 = .ok (.getfield 12, 3) := by decide +kernel
theorem d_Club_layUp_4 : decode prog_1_method_12_code 4 = .ok (.iload_n 1, 1) := by decide +kernel
theorem d_Club_layUp_5 : decode prog_1_method_12_code 5 = .ok (.invokevirtual 187, 3) := by decide +kernel
theorem d_Club_layUp_8 : decode prog_1_method_12_code 8 = .ok (.ifCond .eq 14, 3) := by decide +kernel
theorem d_Club_layUp_11 : decode prog_1_method_12_code 11 = .ok (.aload_n 0, 1) := by decide +kernel
theorem d_Club_layUp_12 : decode prog_1_method_12_code 12 = .ok (.getfield 12, 3) := by decide +kernel
theorem d_Club_layUp_15 : decode prog_1_method_12_code 15 = .ok (.iload_n 1, 1) := by decide +kernel
theorem d_Club_layUp_16 : decode prog_1_method_12_code 16 = .ok (.invokevirtual 190, 3) := by decide +kernel
theorem d_Club_layUp_19 : decode prog_1_method_12_code 19 = .ok (.goto 4, 3) := by decide +kernel
theorem d_Club_layUp_22 : decode prog_1_method_12_code 22 = .ok (.iconst (-1), 1) := by decide +kernel
theorem d_Club_layUp_23 : decode prog_1_method_12_code 23 = .ok (.ireturn, 1) := by decide +kernel
theorem b_Club_layUp_0 {d : Nat} {x1 : Int32} {h : am_H} {Q : am_Q} (k : m_Hole_isOffGreen d [.ref 1, .int x1] h (fun r hh => am_W (X_Club_layUp (d + 1)) 8 [some (.ref 0), some (.int x1)] (r.toList ++ []) hh Q)) : am_W (X_Club_layUp (d + 1)) 0 [some (.ref 0), some (.int x1)] [] h Q :=
  am_aload_n d_Club_layUp_0 rfl (i := 0) rfl <|
    am_getR (ci := 0) (i := 0) rfl rfl rfl (Nat.le_of_ble_eq_true rfl) w_362 d_Club_layUp_1 <|
    am_iload_n d_Club_layUp_4 rfl (i := 1) rfl <|
    am_callV (vs := [.int x1]) (st := []) (k := 1) (ci := 1) rfl d_Club_layUp_5 rfl rfl w_670 w_671 w_672 w_84 w_673 p_Hole_isOffGreen (Nat.le_of_ble_eq_true rfl) (Nat.le_of_ble_eq_true rfl) rfl k
theorem b_Club_layUp_8 {d : Nat} {x1 : Int32} {y0 : Bool} {h : am_H} {Q : am_Q} (kt : (am_b y0) = 0 → am_W (X_Club_layUp d) 22 [some (.ref 0), some (.int x1)] [] h Q) (kf : ¬ (am_b y0) = 0 → am_W (X_Club_layUp d) 11 [some (.ref 0), some (.int x1)] [] h Q) : am_W (X_Club_layUp d) 8 [some (.ref 0), some (.int x1)] [.int (am_b y0)] h Q :=
  am_if_eq (tgt := 22) d_Club_layUp_8 (by decide) kt kf
theorem b_Club_layUp_11 {d : Nat} {x1 : Int32} {h : am_H} {Q : am_Q} (k : m_Hole_farthestDry d [.ref 1, .int x1] h (fun r hh => am_W (X_Club_layUp (d + 1)) 19 [some (.ref 0), some (.int x1)] (r.toList ++ []) hh Q)) : am_W (X_Club_layUp (d + 1)) 11 [some (.ref 0), some (.int x1)] [] h Q :=
  am_aload_n d_Club_layUp_11 rfl (i := 0) rfl <|
    am_getR (ci := 0) (i := 0) rfl rfl rfl (Nat.le_of_ble_eq_true rfl) w_362 d_Club_layUp_12 <|
    am_iload_n d_Club_layUp_15 rfl (i := 1) rfl <|
    am_callV (vs := [.int x1]) (st := []) (k := 1) (ci := 1) rfl d_Club_layUp_16 rfl rfl w_796 w_797 w_798 w_84 w_799 p_Hole_farthestDry (Nat.le_of_ble_eq_true rfl) (Nat.le_of_ble_eq_true rfl) rfl k
theorem b_Club_layUp_19 {d : Nat} {x1 : Int32} {y0 : Int32} {h : am_H} {Q : am_Q} (q : Q (some (.int y0)) h) : am_W (X_Club_layUp d) 19 [some (.ref 0), some (.int x1)] [.int y0] h Q :=
  am_goto (tgt := 23) d_Club_layUp_19 (by decide) <|
    am_iret rfl d_Club_layUp_23 q
theorem b_Club_layUp_22 {d : Nat} {x1 : Int32} {h : am_H} {Q : am_Q} (q : Q (some (.int (-1))) h) : am_W (X_Club_layUp d) 22 [some (.ref 0), some (.int x1)] [] h Q :=
  am_iconst (v := (-1)) d_Club_layUp_22 (by decide) <|
    am_iret rfl d_Club_layUp_23 q
theorem t_Club_layUp_22 {d : Nat} {x1 : Int32} {h : am_H} {Q : am_Q} {res : Int32} (e : f_Club_layUp_22 h = some res) (q : Q (some (.int res)) h) : am_W (X_Club_layUp (d + 4)) 22 [some (.ref 0), some (.int x1)] [] h Q :=
  b_Club_layUp_22 (d := (d + 4)) (q := (am_rIp (v := (-1)) e q))
theorem t_Club_layUp_19 {d : Nat} {x1 : Int32} {y0 : Int32} {h : am_H} {Q : am_Q} {res : Int32} (e : f_Club_layUp_19 h y0 = some res) (q : Q (some (.int res)) h) : am_W (X_Club_layUp (d + 4)) 19 [some (.ref 0), some (.int x1)] [.int y0] h Q :=
  b_Club_layUp_19 (d := (d + 4)) (q := (am_rIp (v := y0) e q))
theorem t_Club_layUp_11 {d : Nat} {x1 : Int32} {h : am_H} {Q : am_Q} {res : Int32} (e : f_Club_layUp_11 h x1 = some res) (q : Q (some (.int res)) h) : am_W (X_Club_layUp (d + 4)) 11 [some (.ref 0), some (.int x1)] [] h Q :=
  (am_bd e).elim fun p hp => b_Club_layUp_11 (d := (d + 3)) (k := c_Hole_farthestDry (d := d) hp.1 (t_Club_layUp_19 hp.2 q))
theorem t_Club_layUp_8 {d : Nat} {x1 : Int32} {y0 : Bool} {h : am_H} {Q : am_Q} {res : Int32} (e : f_Club_layUp_8 h x1 y0 = some res) (q : Q (some (.int res)) h) : am_W (X_Club_layUp (d + 4)) 8 [some (.ref 0), some (.int x1)] [.int (am_b y0)] h Q :=
  b_Club_layUp_8 (d := (d + 4)) (kt := fun c => (t_Club_layUp_22 (am_iff e (am_bz c)) q)) (kf := fun c => (t_Club_layUp_11 (am_ift e (am_bn c)) q))
theorem t_Club_layUp_0 {d : Nat} {x1 : Int32} {h : am_H} {Q : am_Q} {res : Int32} (e : f_Club_layUp h x1 = some res) (q : Q (some (.int res)) h) : am_W (X_Club_layUp (d + 4)) 0 [some (.ref 0), some (.int x1)] [] h Q :=
  (am_bd e).elim fun p hp => b_Club_layUp_0 (d := (d + 3)) (k := c_Hole_isOffGreen (d := d + 1) hp.1 (t_Club_layUp_8 hp.2 q))
theorem c_Club_layUp {d : Nat} {x1 : Int32} {h : am_H} {Q : am_Q} {res : Int32} (e : f_Club_layUp h x1 = some res) (q : Q (some (.int res)) h) : m_Club_layUp (d + 4) [.ref 0, .int x1] h Q :=
  e_Club_layUp (t_Club_layUp_0 e q)
theorem d_Reck_bestClub_0 : decode prog_7_method_14_code 0 = .ok (.iload_n 2, 1) := by decide +kernel
theorem d_Reck_bestClub_1 : decode prog_7_method_14_code 1 = .ok (.bipush 31, 2) := by decide +kernel
theorem d_Reck_bestClub_3 : decode prog_7_method_14_code 3 = .ok (.imul, 1) := by decide +kernel
theorem d_Reck_bestClub_4 : decode prog_7_method_14_code 4 = .ok (.iload_n 1, 1) := by decide +kernel
theorem d_Reck_bestClub_5 : decode prog_7_method_14_code 5 = .ok (.iadd, 1) := by decide +kernel
theorem d_Reck_bestClub_6 : decode prog_7_method_14_code 6 = .ok (.istore_n 3, 1) := by decide +kernel
theorem d_Reck_bestClub_7 : decode prog_7_method_14_code 7 = .ok (.iload_n 3, 1) := by decide +kernel
theorem d_Reck_bestClub_8 : decode prog_7_method_14_code 8 = .ok (.ifCond .lt 21, 3) := by decide +kernel
theorem d_Reck_bestClub_11 : decode prog_7_method_14_code 11 = .ok (.iload_n 3, 1) := by decide +kernel
theorem d_Reck_bestClub_12 : decode prog_7_method_14_code 12 = .ok (.aload_n 0, 1) := by decide +kernel
theorem d_Reck_bestClub_13 : decode prog_7_method_14_code 13 = .ok (.getfield 20, 3) := by decide +kernel
theorem d_Reck_bestClub_16 : decode prog_7_method_14_code 16 = .ok (.arraylength, 1) := by decide +kernel
theorem d_Reck_bestClub_17 : decode prog_7_method_14_code 17 = .ok (.if_icmp .ge 12, 3) := by decide +kernel
theorem d_Reck_bestClub_20 : decode prog_7_method_14_code 20 = .ok (.aload_n 0, 1) := by decide +kernel
theorem d_Reck_bestClub_21 : decode prog_7_method_14_code 21 = .ok (.getfield 20, 3) := by decide +kernel
theorem d_Reck_bestClub_24 : decode prog_7_method_14_code 24 = .ok (.iload_n 3, 1) := by decide +kernel
theorem d_Reck_bestClub_25 : decode prog_7_method_14_code 25 = .ok (.iaload, 1) := by decide +kernel
theorem d_Reck_bestClub_26 : decode prog_7_method_14_code 26 = .ok (.goto 5, 3) := by decide +kernel
theorem d_Reck_bestClub_29 : decode prog_7_method_14_code 29 = .ok (.bipush (-2), 2) := by decide +kernel
theorem d_Reck_bestClub_31 : decode prog_7_method_14_code 31 = .ok (.ireturn, 1) := by decide +kernel
theorem b_Reck_bestClub_0 {d : Nat} {x1 : Int32} {x2 : Int32} {h : am_H} {Q : am_Q} (kt : ((x2 * 31) + x1) < 0 → am_W (X_Reck_bestClub d) 29 [some (.ref 12), some (.int x1), some (.int x2), some (.int ((x2 * 31) + x1))] [] h Q) (kf : ¬ ((x2 * 31) + x1) < 0 → am_W (X_Reck_bestClub d) 11 [some (.ref 12), some (.int x1), some (.int x2), some (.int ((x2 * 31) + x1))] [] h Q) : am_W (X_Reck_bestClub d) 0 [some (.ref 12), some (.int x1), some (.int x2), none] [] h Q :=
  am_iload_n d_Reck_bestClub_0 rfl (i := 2) rfl <|
    am_bipush (v := 31) d_Reck_bestClub_1 (by decide) <|
    am_imul d_Reck_bestClub_3 <|
    am_iload_n d_Reck_bestClub_4 rfl (i := 1) rfl <|
    am_iadd d_Reck_bestClub_5 <|
    am_istore_n (ls' := [some (.ref 12), some (.int x1), some (.int x2), some (.int ((x2 * 31) + x1))]) d_Reck_bestClub_6 rfl (Nat.le_of_ble_eq_true rfl) rfl <|
    am_iload_n d_Reck_bestClub_7 rfl (i := 3) rfl <|
    am_if_lt (tgt := 29) d_Reck_bestClub_8 (by decide) kt kf
theorem b_Reck_bestClub_11 {d : Nat} {x1 : Int32} {x2 : Int32} {x3 : Int32} {h : am_H} {Q : am_Q} (kt : 155 ≤ x3 → am_W (X_Reck_bestClub d) 29 [some (.ref 12), some (.int x1), some (.int x2), some (.int x3)] [] h Q) (kf : ¬ 155 ≤ x3 → am_W (X_Reck_bestClub d) 20 [some (.ref 12), some (.int x1), some (.int x2), some (.int x3)] [] h Q) : am_W (X_Reck_bestClub d) 11 [some (.ref 12), some (.int x1), some (.int x2), some (.int x3)] [] h Q :=
  am_iload_n d_Reck_bestClub_11 rfl (i := 3) rfl <|
    am_aload_n d_Reck_bestClub_12 rfl (i := 0) rfl <|
    am_getR (ci := 3) (i := 4) rfl rfl rfl (Nat.le_of_ble_eq_true rfl) w_198 d_Reck_bestClub_13 <|
    am_alenI (v := 155) rfl (by decide) d_Reck_bestClub_16 <|
    am_icmp_ge (tgt := 29) d_Reck_bestClub_17 (by decide) kt kf
theorem b_Reck_bestClub_20 {d : Nat} {x1 : Int32} {x2 : Int32} {x3 : Int32} {h : am_H} {Q : am_Q} (q0 : vp_in x3 155) (q : Q (some (.int (h.1 15 x3.toNatClampNeg))) h) : am_W (X_Reck_bestClub d) 20 [some (.ref 12), some (.int x1), some (.int x2), some (.int x3)] [] h Q :=
  am_aload_n d_Reck_bestClub_20 rfl (i := 0) rfl <|
    am_getR (ci := 3) (i := 4) rfl rfl rfl (Nat.le_of_ble_eq_true rfl) w_198 d_Reck_bestClub_21 <|
    am_iload_n d_Reck_bestClub_24 rfl (i := 3) rfl <|
    am_iald rfl q0 d_Reck_bestClub_25 <|
    am_goto (tgt := 31) d_Reck_bestClub_26 (by decide) <|
    am_iret rfl d_Reck_bestClub_31 q
theorem b_Reck_bestClub_29 {d : Nat} {x1 : Int32} {x2 : Int32} {x3 : Int32} {h : am_H} {Q : am_Q} (q : Q (some (.int (-2))) h) : am_W (X_Reck_bestClub d) 29 [some (.ref 12), some (.int x1), some (.int x2), some (.int x3)] [] h Q :=
  am_bipush (v := (-2)) d_Reck_bestClub_29 (by decide) <|
    am_iret rfl d_Reck_bestClub_31 q
theorem t_Reck_bestClub_29 {d : Nat} {x1 : Int32} {x2 : Int32} {x3 : Int32} {h : am_H} {Q : am_Q} {res : Int32} (e : f_Reck_bestClub_29 h = some res) (q : Q (some (.int res)) h) : am_W (X_Reck_bestClub d) 29 [some (.ref 12), some (.int x1), some (.int x2), some (.int x3)] [] h Q :=
  b_Reck_bestClub_29 (d := d) (q := (am_rIp (v := (-2)) e q))
theorem t_Reck_bestClub_20 {d : Nat} {x1 : Int32} {x2 : Int32} {x3 : Int32} {h : am_H} {Q : am_Q} {res : Int32} (e : f_Reck_bestClub_20 h x3 = some res) (q : Q (some (.int res)) h) : am_W (X_Reck_bestClub d) 20 [some (.ref 12), some (.int x1), some (.int x2), some (.int x3)] [] h Q :=
  b_Reck_bestClub_20 (d := d) (q0 := (am_okv (am_gd e))) (q := (am_rIp (v := (h.1 15 x3.toNatClampNeg)) (am_ga e) q))
theorem t_Reck_bestClub_11 {d : Nat} {x1 : Int32} {x2 : Int32} {x3 : Int32} {h : am_H} {Q : am_Q} {res : Int32} (e : f_Reck_bestClub_11 h x3 = some res) (q : Q (some (.int res)) h) : am_W (X_Reck_bestClub d) 11 [some (.ref 12), some (.int x1), some (.int x2), some (.int x3)] [] h Q :=
  b_Reck_bestClub_11 (d := d) (kt := fun c => (t_Reck_bestClub_29 (am_ift e c) q)) (kf := fun c => (t_Reck_bestClub_20 (am_ife e c) q))
theorem t_Reck_bestClub_0 {d : Nat} {x1 : Int32} {x2 : Int32} {h : am_H} {Q : am_Q} {res : Int32} (e : f_Reck_bestClub h x1 x2 = some res) (q : Q (some (.int res)) h) : am_W (X_Reck_bestClub d) 0 [some (.ref 12), some (.int x1), some (.int x2), none] [] h Q :=
  b_Reck_bestClub_0 (d := d) (kt := fun c => (t_Reck_bestClub_29 (am_ift e c) q)) (kf := fun c => (t_Reck_bestClub_11 (am_ife e c) q))
theorem c_Reck_bestClub {d : Nat} {x1 : Int32} {x2 : Int32} {h : am_H} {Q : am_Q} {res : Int32} (e : f_Reck_bestClub h x1 x2 = some res) (q : Q (some (.int res)) h) : m_Reck_bestClub d [.ref 12, .int x1, .int x2] h Q :=
  e_Reck_bestClub (t_Reck_bestClub_0 e q)
theorem d_Hole_puttTwelfths_0 : decode prog_5_method_29_code 0 = .ok (.iload_n 1, 1) := by decide +kernel
theorem d_Hole_puttTwelfths_1 : decode prog_5_method_29_code 1 = .ok (.aload_n 0, 1) := by decide +kernel
theorem d_Hole_puttTwelfths_2 : decode prog_5_method_29_code 2 = .ok (.getfield 28, 3) := by decide +kernel
theorem d_Hole_puttTwelfths_5 : decode prog_5_method_29_code 5 = .ok (.if_icmp .ne 8, 3) := by decide +kernel
theorem d_Hole_puttTwelfths_8 : decode prog_5_method_29_code 8 = .ok (.bipush 12, 2) := by decide +kernel
theorem d_Hole_puttTwelfths_10 : decode prog_5_method_29_code 10 = .ok (.goto 10, 3) := by decide +kernel
theorem d_Hole_puttTwelfths_13 : decode prog_5_method_29_code 13 = .ok (.bipush 24, 2) := by decide +kernel
theorem d_Hole_puttTwelfths_15 : decode prog_5_method_29_code 15 = .ok (.aload_n 0, 1) := by decide +kernel
theorem d_Hole_puttTwelfths_16 : decode prog_5_method_29_code 16 = .ok (.getfield 34, 3) := by decide +kernel
theorem d_Hole_puttTwelfths_19 : decode prog_5_method_29_code 19 = .ok (.isub, 1) := by decide +kernel
theorem d_Hole_puttTwelfths_20 : decode prog_5_method_29_code 20 = .ok (.ireturn, 1) := by decide +kernel
theorem b_Hole_puttTwelfths_0 {d : Nat} {x1 : Int32} {h : am_H} {Q : am_Q} (kt : ¬ x1 = (h.1 1 5) → am_W (X_Hole_puttTwelfths d) 13 [some (.ref 1), some (.int x1)] [] h Q) (kf : x1 = (h.1 1 5) → am_W (X_Hole_puttTwelfths d) 8 [some (.ref 1), some (.int x1)] [] h Q) : am_W (X_Hole_puttTwelfths d) 0 [some (.ref 1), some (.int x1)] [] h Q :=
  am_iload_n d_Hole_puttTwelfths_0 rfl (i := 1) rfl <|
    am_aload_n d_Hole_puttTwelfths_1 rfl (i := 0) rfl <|
    am_getI (ci := 1) (i := 5) rfl rfl rfl (Nat.le_of_ble_eq_true rfl) w_127 d_Hole_puttTwelfths_2 <|
    am_icmp_ne (tgt := 13) d_Hole_puttTwelfths_5 (by decide) kt kf
theorem b_Hole_puttTwelfths_8 {d : Nat} {x1 : Int32} {h : am_H} {Q : am_Q} (q : Q (some (.int 12)) h) : am_W (X_Hole_puttTwelfths d) 8 [some (.ref 1), some (.int x1)] [] h Q :=
  am_bipush (v := 12) d_Hole_puttTwelfths_8 (by decide) <|
    am_goto (tgt := 20) d_Hole_puttTwelfths_10 (by decide) <|
    am_iret rfl d_Hole_puttTwelfths_20 q
theorem b_Hole_puttTwelfths_13 {d : Nat} {x1 : Int32} {h : am_H} {Q : am_Q} (q : Q (some (.int (24 - (h.1 1 7)))) h) : am_W (X_Hole_puttTwelfths d) 13 [some (.ref 1), some (.int x1)] [] h Q :=
  am_bipush (v := 24) d_Hole_puttTwelfths_13 (by decide) <|
    am_aload_n d_Hole_puttTwelfths_15 rfl (i := 0) rfl <|
    am_getI (ci := 1) (i := 7) rfl rfl rfl (Nat.le_of_ble_eq_true rfl) w_129 d_Hole_puttTwelfths_16 <|
    am_isub d_Hole_puttTwelfths_19 <|
    am_iret rfl d_Hole_puttTwelfths_20 q
theorem t_Hole_puttTwelfths_13 {d : Nat} {x1 : Int32} {h : am_H} {Q : am_Q} {res : Int32} (e : f_Hole_puttTwelfths_13 h = res) (q : Q (some (.int res)) h) : am_W (X_Hole_puttTwelfths d) 13 [some (.ref 1), some (.int x1)] [] h Q :=
  b_Hole_puttTwelfths_13 (d := d) (q := (am_rIt (v := (24 - (h.1 1 7))) e q))
theorem t_Hole_puttTwelfths_8 {d : Nat} {x1 : Int32} {h : am_H} {Q : am_Q} {res : Int32} (e : f_Hole_puttTwelfths_8 h = res) (q : Q (some (.int res)) h) : am_W (X_Hole_puttTwelfths d) 8 [some (.ref 1), some (.int x1)] [] h Q :=
  b_Hole_puttTwelfths_8 (d := d) (q := (am_rIt (v := 12) e q))
theorem t_Hole_puttTwelfths_0 {d : Nat} {x1 : Int32} {h : am_H} {Q : am_Q} {res : Int32} (e : f_Hole_puttTwelfths h x1 = res) (q : Q (some (.int res)) h) : am_W (X_Hole_puttTwelfths d) 0 [some (.ref 1), some (.int x1)] [] h Q :=
  b_Hole_puttTwelfths_0 (d := d) (kt := fun c => (t_Hole_puttTwelfths_13 (am_ife e c) q)) (kf := fun c => (t_Hole_puttTwelfths_8 (am_ift e c) q))
theorem c_Hole_puttTwelfths {d : Nat} {x1 : Int32} {h : am_H} {Q : am_Q} {res : Int32} (e : f_Hole_puttTwelfths h x1 = res) (q : Q (some (.int res)) h) : m_Hole_puttTwelfths d [.ref 1, .int x1] h Q :=
  e_Hole_puttTwelfths (t_Hole_puttTwelfths_0 e q)
theorem d_Hole_strokesUnplayed_0 : decode prog_5_method_30_code 0 = .ok (.iconst 2, 1) := by decide +kernel
theorem d_Hole_strokesUnplayed_1 : decode prog_5_method_30_code 1 = .ok (.aload_n 0, 1) := by decide +kernel
theorem d_Hole_strokesUnplayed_2 : decode prog_5_method_30_code 2 = .ok (.iload_n 1, 1) := by decide +kernel
theorem d_Hole_strokesUnplayed_3 : decode prog_5_method_30_code 3 = .ok (.invokevirtual 110, 3) := by decide +kernel
theorem d_Hole_strokesUnplayed_6 : decode prog_5_method_30_code 6 = .ok (.iconst 5, 1) := by decide +kernel
theorem d_Hole_strokesUnplayed_7 : decode prog_5_method_30_code 7 = .ok (.idiv, 1) := by decide +kernel
theorem d_Hole_strokesUnplayed_8 : decode prog_5_method_30_code 8 = .ok (.iadd, 1) := by decide +kernel
theorem d_Hole_strokesUnplayed_9 : decode prog_5_method_30_code 9 = .ok (.ireturn, 1) := by decide +kernel
theorem b_Hole_strokesUnplayed_0 {d : Nat} {x1 : Int32} {h : am_H} {Q : am_Q} (k : m_Hole_cellsToPin d [.ref 1, .int x1] h (fun r hh => am_W (X_Hole_strokesUnplayed (d + 1)) 6 [some (.ref 1), some (.int x1)] (r.toList ++ [.int 2]) hh Q)) : am_W (X_Hole_strokesUnplayed (d + 1)) 0 [some (.ref 1), some (.int x1)] [] h Q :=
  am_iconst (v := 2) d_Hole_strokesUnplayed_0 (by decide) <|
    am_aload_n d_Hole_strokesUnplayed_1 rfl (i := 0) rfl <|
    am_iload_n d_Hole_strokesUnplayed_2 rfl (i := 1) rfl <|
    am_callV (vs := [.int x1]) (st := [.int 2]) (k := 1) (ci := 1) rfl d_Hole_strokesUnplayed_3 rfl rfl w_830 w_748 w_749 w_84 w_750 p_Hole_cellsToPin (Nat.le_of_ble_eq_true rfl) (Nat.le_of_ble_eq_true rfl) rfl k
theorem b_Hole_strokesUnplayed_6 {d : Nat} {x1 : Int32} {y1 : Int32} {y0 : Int32} {h : am_H} {Q : am_Q} (q : Q (some (.int (y0 + (y1 / 5)))) h) : am_W (X_Hole_strokesUnplayed d) 6 [some (.ref 1), some (.int x1)] [.int y1, .int y0] h Q :=
  am_iconst (v := 5) d_Hole_strokesUnplayed_6 (by decide) <|
    am_idiv d_Hole_strokesUnplayed_7 (by decide) <|
    am_iadd d_Hole_strokesUnplayed_8 <|
    am_iret rfl d_Hole_strokesUnplayed_9 q
theorem t_Hole_strokesUnplayed_6 {d : Nat} {x1 : Int32} {y1 : Int32} {y0 : Int32} {h : am_H} {Q : am_Q} {res : Int32} (e : f_Hole_strokesUnplayed_6 h y1 y0 = res) (q : Q (some (.int res)) h) : am_W (X_Hole_strokesUnplayed (d + 1)) 6 [some (.ref 1), some (.int x1)] [.int y1, .int y0] h Q :=
  b_Hole_strokesUnplayed_6 (d := (d + 1)) (q := (am_rIt (v := (y0 + (y1 / 5))) e q))
theorem t_Hole_strokesUnplayed_0 {d : Nat} {x1 : Int32} {h : am_H} {Q : am_Q} {res : Int32} (e : f_Hole_strokesUnplayed h x1 = res) (q : Q (some (.int res)) h) : am_W (X_Hole_strokesUnplayed (d + 1)) 0 [some (.ref 1), some (.int x1)] [] h Q :=
  b_Hole_strokesUnplayed_0 (d := d) (k := c_Hole_cellsToPin (d := d) rfl (t_Hole_strokesUnplayed_6 e q))
theorem c_Hole_strokesUnplayed {d : Nat} {x1 : Int32} {h : am_H} {Q : am_Q} {res : Int32} (e : f_Hole_strokesUnplayed h x1 = res) (q : Q (some (.int res)) h) : m_Hole_strokesUnplayed (d + 1) [.ref 1, .int x1] h Q :=
  e_Hole_strokesUnplayed (t_Hole_strokesUnplayed_0 e q)
theorem d_Reck_keepBest_0 : decode prog_7_method_13_code 0 = .ok (.iload_n 2, 1) := by decide +kernel
theorem d_Reck_keepBest_1 : decode prog_7_method_13_code 1 = .ok (.bipush 31, 2) := by decide +kernel
theorem d_Reck_keepBest_3 : decode prog_7_method_13_code 3 = .ok (.imul, 1) := by decide +kernel
theorem d_Reck_keepBest_4 : decode prog_7_method_13_code 4 = .ok (.iload_n 1, 1) := by decide +kernel
theorem d_Reck_keepBest_5 : decode prog_7_method_13_code 5 = .ok (.iadd, 1) := by decide +kernel
theorem d_Reck_keepBest_6 : decode prog_7_method_13_code 6 = .ok (.istore 4, 2) := by decide +kernel
theorem d_Reck_keepBest_8 : decode prog_7_method_13_code 8 = .ok (.iload 4, 2) := by decide +kernel
theorem d_Reck_keepBest_10 : decode prog_7_method_13_code 10 = .ok (.ifCond .lt 21, 3) := by decide +kernel
theorem d_Reck_keepBest_13 : decode prog_7_method_13_code 13 = .ok (.iload 4, 2) := by decide +kernel
theorem d_Reck_keepBest_15 : decode prog_7_method_13_code 15 = .ok (.aload_n 0, 1) := by decide +kernel
theorem d_Reck_keepBest_16 : decode prog_7_method_13_code 16 = .ok (.getfield 20, 3) := by decide +kernel
theorem d_Reck_keepBest_19 : decode prog_7_method_13_code 19 = .ok (.arraylength, 1) := by decide +kernel
theorem d_Reck_keepBest_20 : decode prog_7_method_13_code 20 = .ok (.if_icmp .ge 11, 3) := by decide +kernel
theorem d_Reck_keepBest_23 : decode prog_7_method_13_code 23 = .ok (.aload_n 0, 1) := by decide +kernel
theorem d_Reck_keepBest_24 : decode prog_7_method_13_code 24 = .ok (.getfield 20, 3) := by decide +kernel
theorem d_Reck_keepBest_27 : decode prog_7_method_13_code 27 = .ok (.iload 4, 2) := by decide +kernel
theorem d_Reck_keepBest_29 : decode prog_7_method_13_code 29 = .ok (.iload_n 3, 1) := by decide +kernel
theorem d_Reck_keepBest_30 : decode prog_7_method_13_code 30 = .ok (.iastore, 1) := by decide +kernel
theorem d_Reck_keepBest_31 : decode prog_7_method_13_code 31 = .ok (.return_, 1) := by decide +kernel
theorem b_Reck_keepBest_0 {d : Nat} {x1 : Int32} {x2 : Int32} {x3 : Int32} {h : am_H} {Q : am_Q} (kt : ((x2 * 31) + x1) < 0 → am_W (X_Reck_keepBest d) 31 [some (.ref 12), some (.int x1), some (.int x2), some (.int x3), some (.int ((x2 * 31) + x1))] [] h Q) (kf : ¬ ((x2 * 31) + x1) < 0 → am_W (X_Reck_keepBest d) 13 [some (.ref 12), some (.int x1), some (.int x2), some (.int x3), some (.int ((x2 * 31) + x1))] [] h Q) : am_W (X_Reck_keepBest d) 0 [some (.ref 12), some (.int x1), some (.int x2), some (.int x3), none] [] h Q :=
  am_iload_n d_Reck_keepBest_0 rfl (i := 2) rfl <|
    am_bipush (v := 31) d_Reck_keepBest_1 (by decide) <|
    am_imul d_Reck_keepBest_3 <|
    am_iload_n d_Reck_keepBest_4 rfl (i := 1) rfl <|
    am_iadd d_Reck_keepBest_5 <|
    am_istore (ls' := [some (.ref 12), some (.int x1), some (.int x2), some (.int x3), some (.int ((x2 * 31) + x1))]) d_Reck_keepBest_6 (Nat.le_of_ble_eq_true rfl) rfl <|
    am_iload d_Reck_keepBest_8 rfl <|
    am_if_lt (tgt := 31) d_Reck_keepBest_10 (by decide) kt kf
theorem b_Reck_keepBest_13 {d : Nat} {x1 : Int32} {x2 : Int32} {x3 : Int32} {x4 : Int32} {h : am_H} {Q : am_Q} (kt : 155 ≤ x4 → am_W (X_Reck_keepBest d) 31 [some (.ref 12), some (.int x1), some (.int x2), some (.int x3), some (.int x4)] [] h Q) (kf : ¬ 155 ≤ x4 → am_W (X_Reck_keepBest d) 23 [some (.ref 12), some (.int x1), some (.int x2), some (.int x3), some (.int x4)] [] h Q) : am_W (X_Reck_keepBest d) 13 [some (.ref 12), some (.int x1), some (.int x2), some (.int x3), some (.int x4)] [] h Q :=
  am_iload d_Reck_keepBest_13 rfl <|
    am_aload_n d_Reck_keepBest_15 rfl (i := 0) rfl <|
    am_getR (ci := 3) (i := 4) rfl rfl rfl (Nat.le_of_ble_eq_true rfl) w_198 d_Reck_keepBest_16 <|
    am_alenI (v := 155) rfl (by decide) d_Reck_keepBest_19 <|
    am_icmp_ge (tgt := 31) d_Reck_keepBest_20 (by decide) kt kf
theorem b_Reck_keepBest_23 {d : Nat} {x1 : Int32} {x2 : Int32} {x3 : Int32} {x4 : Int32} {h : am_H} {Q : am_Q} (q0 : vp_in x4 155) (q : Q none (am_pI h 15 x4.toNatClampNeg x3)) : am_W (X_Reck_keepBest d) 23 [some (.ref 12), some (.int x1), some (.int x2), some (.int x3), some (.int x4)] [] h Q :=
  am_aload_n d_Reck_keepBest_23 rfl (i := 0) rfl <|
    am_getR (ci := 3) (i := 4) rfl rfl rfl (Nat.le_of_ble_eq_true rfl) w_198 d_Reck_keepBest_24 <|
    am_iload d_Reck_keepBest_27 rfl <|
    am_iload_n d_Reck_keepBest_29 rfl (i := 3) rfl <|
    am_iast rfl q0 d_Reck_keepBest_30 <|
    am_vret rfl d_Reck_keepBest_31 q
theorem b_Reck_keepBest_31 {d : Nat} {x1 : Int32} {x2 : Int32} {x3 : Int32} {x4 : Int32} {h : am_H} {Q : am_Q} (q : Q none h) : am_W (X_Reck_keepBest d) 31 [some (.ref 12), some (.int x1), some (.int x2), some (.int x3), some (.int x4)] [] h Q :=
  am_vret rfl d_Reck_keepBest_31 q
theorem t_Reck_keepBest_31 {d : Nat} {x1 : Int32} {x2 : Int32} {x3 : Int32} {x4 : Int32} {h : am_H} {Q : am_Q} {res : am_H} (e : f_Reck_keepBest_31 h = some res) (q : Q none res) : am_W (X_Reck_keepBest d) 31 [some (.ref 12), some (.int x1), some (.int x2), some (.int x3), some (.int x4)] [] h Q :=
  b_Reck_keepBest_31 (d := d) (q := (am_rVpi e q))
theorem t_Reck_keepBest_23 {d : Nat} {x1 : Int32} {x2 : Int32} {x3 : Int32} {x4 : Int32} {h : am_H} {Q : am_Q} {res : am_H} (e : f_Reck_keepBest_23 h x3 x4 = some res) (q : Q none res) : am_W (X_Reck_keepBest d) 23 [some (.ref 12), some (.int x1), some (.int x2), some (.int x3), some (.int x4)] [] h Q :=
  b_Reck_keepBest_23 (d := d) (q0 := (am_okv (am_gd e))) (q := (am_rVpi (am_ga e) q))
theorem t_Reck_keepBest_13 {d : Nat} {x1 : Int32} {x2 : Int32} {x3 : Int32} {x4 : Int32} {h : am_H} {Q : am_Q} {res : am_H} (e : f_Reck_keepBest_13 h x3 x4 = some res) (q : Q none res) : am_W (X_Reck_keepBest d) 13 [some (.ref 12), some (.int x1), some (.int x2), some (.int x3), some (.int x4)] [] h Q :=
  b_Reck_keepBest_13 (d := d) (kt := fun c => (t_Reck_keepBest_31 (am_ift e c) q)) (kf := fun c => (t_Reck_keepBest_23 (am_ife e c) q))
theorem t_Reck_keepBest_0 {d : Nat} {x1 : Int32} {x2 : Int32} {x3 : Int32} {h : am_H} {Q : am_Q} {res : am_H} (e : f_Reck_keepBest h x1 x2 x3 = some res) (q : Q none res) : am_W (X_Reck_keepBest d) 0 [some (.ref 12), some (.int x1), some (.int x2), some (.int x3), none] [] h Q :=
  b_Reck_keepBest_0 (d := d) (kt := fun c => (t_Reck_keepBest_31 (am_ift e c) q)) (kf := fun c => (t_Reck_keepBest_13 (am_ife e c) q))
theorem c_Reck_keepBest {d : Nat} {x1 : Int32} {x2 : Int32} {x3 : Int32} {h : am_H} {Q : am_Q} {res : am_H} (e : f_Reck_keepBest h x1 x2 x3 = some res) (q : Q none res) : m_Reck_keepBest d [.ref 12, .int x1, .int x2, .int x3] h Q :=
  e_Reck_keepBest (t_Reck_keepBest_0 e q)
theorem d_Reck_lawfulClub_0 : decode prog_7_method_15_code 0 = .ok (.iload_n 1, 1) := by decide +kernel
theorem d_Reck_lawfulClub_1 : decode prog_7_method_15_code 1 = .ok (.ifCond .lt 21, 3) := by decide +kernel
theorem d_Reck_lawfulClub_4 : decode prog_7_method_15_code 4 = .ok (.iload_n 1, 1) := by decide +kernel
theorem d_Reck_lawfulClub_5 : decode prog_7_method_15_code 5 = .ok (.aload_n 0, 1) := by decide +kernel
theorem d_Reck_lawfulClub_6 : decode prog_7_method_15_code 6 = .ok (.getfield 24, 3) := by decide +kernel
theorem d_Reck_lawfulClub_9 : decode prog_7_method_15_code 9 = .ok (.arraylength, 1) := by decide +kernel
theorem d_Reck_lawfulClub_10 : decode prog_7_method_15_code 10 = .ok (.if_icmp .ge 12, 3) := by decide +kernel
theorem d_Reck_lawfulClub_13 : decode prog_7_method_15_code 13 = .ok (.aload_n 0, 1) := by decide +kernel
theorem d_Reck_lawfulClub_14 : decode prog_7_method_15_code 14 = .ok (.getfield 24, 3) := by decide +kernel
theorem d_Reck_lawfulClub_17 : decode prog_7_method_15_code 17 = .ok (.iload_n 1, 1) := by decide +kernel
theorem d_Reck_lawfulClub_18 : decode prog_7_method_15_code 18 = .ok (.iaload, 1) := by decide +kernel
theorem d_Reck_lawfulClub_19 : decode prog_7_method_15_code 19 = .ok (.goto 5, 3) := by decide +kernel
theorem d_Reck_lawfulClub_22 : decode prog_7_method_15_code 22 = .ok (.bipush (-2), 2) := by decide +kernel
theorem d_Reck_lawfulClub_24 : decode prog_7_method_15_code 24 = .ok (.ireturn, 1) := by decide +kernel
theorem b_Reck_lawfulClub_0 {d : Nat} {x1 : Int32} {h : am_H} {Q : am_Q} (kt : x1 < 0 → am_W (X_Reck_lawfulClub d) 22 [some (.ref 12), some (.int x1)] [] h Q) (kf : ¬ x1 < 0 → am_W (X_Reck_lawfulClub d) 4 [some (.ref 12), some (.int x1)] [] h Q) : am_W (X_Reck_lawfulClub d) 0 [some (.ref 12), some (.int x1)] [] h Q :=
  am_iload_n d_Reck_lawfulClub_0 rfl (i := 1) rfl <|
    am_if_lt (tgt := 22) d_Reck_lawfulClub_1 (by decide) kt kf
theorem b_Reck_lawfulClub_4 {d : Nat} {x1 : Int32} {h : am_H} {Q : am_Q} (kt : 31 ≤ x1 → am_W (X_Reck_lawfulClub d) 22 [some (.ref 12), some (.int x1)] [] h Q) (kf : ¬ 31 ≤ x1 → am_W (X_Reck_lawfulClub d) 13 [some (.ref 12), some (.int x1)] [] h Q) : am_W (X_Reck_lawfulClub d) 4 [some (.ref 12), some (.int x1)] [] h Q :=
  am_iload_n d_Reck_lawfulClub_4 rfl (i := 1) rfl <|
    am_aload_n d_Reck_lawfulClub_5 rfl (i := 0) rfl <|
    am_getR (ci := 3) (i := 5) rfl rfl rfl (Nat.le_of_ble_eq_true rfl) w_199 d_Reck_lawfulClub_6 <|
    am_alenI (v := 31) rfl (by decide) d_Reck_lawfulClub_9 <|
    am_icmp_ge (tgt := 22) d_Reck_lawfulClub_10 (by decide) kt kf
theorem b_Reck_lawfulClub_13 {d : Nat} {x1 : Int32} {h : am_H} {Q : am_Q} (q0 : vp_in x1 31) (q : Q (some (.int (h.1 16 x1.toNatClampNeg))) h) : am_W (X_Reck_lawfulClub d) 13 [some (.ref 12), some (.int x1)] [] h Q :=
  am_aload_n d_Reck_lawfulClub_13 rfl (i := 0) rfl <|
    am_getR (ci := 3) (i := 5) rfl rfl rfl (Nat.le_of_ble_eq_true rfl) w_199 d_Reck_lawfulClub_14 <|
    am_iload_n d_Reck_lawfulClub_17 rfl (i := 1) rfl <|
    am_iald rfl q0 d_Reck_lawfulClub_18 <|
    am_goto (tgt := 24) d_Reck_lawfulClub_19 (by decide) <|
    am_iret rfl d_Reck_lawfulClub_24 q
theorem b_Reck_lawfulClub_22 {d : Nat} {x1 : Int32} {h : am_H} {Q : am_Q} (q : Q (some (.int (-2))) h) : am_W (X_Reck_lawfulClub d) 22 [some (.ref 12), some (.int x1)] [] h Q :=
  am_bipush (v := (-2)) d_Reck_lawfulClub_22 (by decide) <|
    am_iret rfl d_Reck_lawfulClub_24 q
theorem t_Reck_lawfulClub_22 {d : Nat} {x1 : Int32} {h : am_H} {Q : am_Q} {res : Int32} (e : f_Reck_lawfulClub_22 h = some res) (q : Q (some (.int res)) h) : am_W (X_Reck_lawfulClub d) 22 [some (.ref 12), some (.int x1)] [] h Q :=
  b_Reck_lawfulClub_22 (d := d) (q := (am_rIp (v := (-2)) e q))
theorem t_Reck_lawfulClub_13 {d : Nat} {x1 : Int32} {h : am_H} {Q : am_Q} {res : Int32} (e : f_Reck_lawfulClub_13 h x1 = some res) (q : Q (some (.int res)) h) : am_W (X_Reck_lawfulClub d) 13 [some (.ref 12), some (.int x1)] [] h Q :=
  b_Reck_lawfulClub_13 (d := d) (q0 := (am_okv (am_gd e))) (q := (am_rIp (v := (h.1 16 x1.toNatClampNeg)) (am_ga e) q))
theorem t_Reck_lawfulClub_4 {d : Nat} {x1 : Int32} {h : am_H} {Q : am_Q} {res : Int32} (e : f_Reck_lawfulClub_4 h x1 = some res) (q : Q (some (.int res)) h) : am_W (X_Reck_lawfulClub d) 4 [some (.ref 12), some (.int x1)] [] h Q :=
  b_Reck_lawfulClub_4 (d := d) (kt := fun c => (t_Reck_lawfulClub_22 (am_ift e c) q)) (kf := fun c => (t_Reck_lawfulClub_13 (am_ife e c) q))
theorem t_Reck_lawfulClub_0 {d : Nat} {x1 : Int32} {h : am_H} {Q : am_Q} {res : Int32} (e : f_Reck_lawfulClub h x1 = some res) (q : Q (some (.int res)) h) : am_W (X_Reck_lawfulClub d) 0 [some (.ref 12), some (.int x1)] [] h Q :=
  b_Reck_lawfulClub_0 (d := d) (kt := fun c => (t_Reck_lawfulClub_22 (am_ift e c) q)) (kf := fun c => (t_Reck_lawfulClub_4 (am_ife e c) q))
theorem c_Reck_lawfulClub {d : Nat} {x1 : Int32} {h : am_H} {Q : am_Q} {res : Int32} (e : f_Reck_lawfulClub h x1 = some res) (q : Q (some (.int res)) h) : m_Reck_lawfulClub d [.ref 12, .int x1] h Q :=
  e_Reck_lawfulClub (t_Reck_lawfulClub_0 e q)
theorem d_Reck_unit_0 : decode prog_7_method_5_code 0 = .ok (.iload_n 0, 1) := by decide +kernel
theorem d_Reck_unit_1 : decode prog_7_method_5_code 1 = .ok (.ifCond .lt 19, 3) := by decide +kernel
theorem d_Reck_unit_4 : decode prog_7_method_5_code 4 = .ok (.iload_n 0, 1) := by decide +kernel
theorem d_Reck_unit_5 : decode prog_7_method_5_code 5 = .ok (.getstatic 77, 3) := by decide +kernel
theorem d_Reck_unit_8 : decode prog_7_method_5_code 8 = .ok (.arraylength, 1) := by decide +kernel
theorem d_Reck_unit_9 : decode prog_7_method_5_code 9 = .ok (.if_icmp .ge 11, 3) := by decide +kernel
theorem d_Reck_unit_12 : decode prog_7_method_5_code 12 = .ok (.getstatic 77, 3) := by decide +kernel
theorem d_Reck_unit_15 : decode prog_7_method_5_code 15 = .ok (.iload_n 0, 1) := by decide +kernel
theorem d_Reck_unit_16 : decode prog_7_method_5_code 16 = .ok (.laload, 1) := by decide +kernel
theorem d_Reck_unit_17 : decode prog_7_method_5_code 17 = .ok (.goto 4, 3) := by decide +kernel
theorem d_Reck_unit_20 : decode prog_7_method_5_code 20 = .ok (.lconst 1, 1) := by decide +kernel
theorem d_Reck_unit_21 : decode prog_7_method_5_code 21 = .ok (.lreturn, 1) := by decide +kernel
theorem b_Reck_unit_0 {d : Nat} {x0 : Int32} {h : am_H} {Q : am_Q} (kt : x0 < 0 → am_W (X_Reck_unit d) 20 [some (.int x0)] [] h Q) (kf : ¬ x0 < 0 → am_W (X_Reck_unit d) 4 [some (.int x0)] [] h Q) : am_W (X_Reck_unit d) 0 [some (.int x0)] [] h Q :=
  am_iload_n d_Reck_unit_0 rfl (i := 0) rfl <|
    am_if_lt (tgt := 20) d_Reck_unit_1 (by decide) kt kf
theorem b_Reck_unit_4 {d : Nat} {x0 : Int32} {h : am_H} {Q : am_Q} (kt : 5 ≤ x0 → am_W (X_Reck_unit d) 20 [some (.int x0)] [] h Q) (kf : ¬ 5 ≤ x0 → am_W (X_Reck_unit d) 12 [some (.int x0)] [] h Q) : am_W (X_Reck_unit d) 4 [some (.int x0)] [] h Q :=
  am_iload_n d_Reck_unit_4 rfl (i := 0) rfl <|
    am_gets tb_UNITS w_822 d_Reck_unit_5 <|
    am_tlen (v := 5) tb_UNITS (by decide) d_Reck_unit_8 <|
    am_icmp_ge (tgt := 20) d_Reck_unit_9 (by decide) kt kf
theorem b_Reck_unit_12 {d : Nat} {x0 : Int32} {h : am_H} {Q : am_Q} (q0 : vp_in x0 5) (q : Q (some (.long (tv_UNITS x0))) h) : am_W (X_Reck_unit d) 12 [some (.int x0)] [] h Q :=
  am_gets tb_UNITS w_822 d_Reck_unit_12 <|
    am_iload_n d_Reck_unit_15 rfl (i := 0) rfl <|
    am_tl (v := tv_UNITS x0) tb_UNITS q0 (tv_UNITS_ok q0) d_Reck_unit_16 <|
    am_goto (tgt := 21) d_Reck_unit_17 (by decide) <|
    am_lret rfl d_Reck_unit_21 q
theorem b_Reck_unit_20 {d : Nat} {x0 : Int32} {h : am_H} {Q : am_Q} (q : Q (some (.long 1)) h) : am_W (X_Reck_unit d) 20 [some (.int x0)] [] h Q :=
  am_lconst (v := 1) d_Reck_unit_20 (by decide) <|
    am_lret rfl d_Reck_unit_21 q
theorem t_Reck_unit_20 {d : Nat} {x0 : Int32} {h : am_H} {Q : am_Q} {res : Int64} (e : f_Reck_unit_20 = some res) (q : Q (some (.long res)) h) : am_W (X_Reck_unit d) 20 [some (.int x0)] [] h Q :=
  b_Reck_unit_20 (d := d) (q := (am_rJp (v := 1) e q))
theorem t_Reck_unit_12 {d : Nat} {x0 : Int32} {h : am_H} {Q : am_Q} {res : Int64} (e : f_Reck_unit_12 x0 = some res) (q : Q (some (.long res)) h) : am_W (X_Reck_unit d) 12 [some (.int x0)] [] h Q :=
  b_Reck_unit_12 (d := d) (q0 := (am_okv (am_gd e))) (q := (am_rJp (v := (tv_UNITS x0)) (am_ga e) q))
theorem t_Reck_unit_4 {d : Nat} {x0 : Int32} {h : am_H} {Q : am_Q} {res : Int64} (e : f_Reck_unit_4 x0 = some res) (q : Q (some (.long res)) h) : am_W (X_Reck_unit d) 4 [some (.int x0)] [] h Q :=
  b_Reck_unit_4 (d := d) (kt := fun c => (t_Reck_unit_20 (am_ift e c) q)) (kf := fun c => (t_Reck_unit_12 (am_ife e c) q))
theorem t_Reck_unit_0 {d : Nat} {x0 : Int32} {h : am_H} {Q : am_Q} {res : Int64} (e : f_Reck_unit x0 = some res) (q : Q (some (.long res)) h) : am_W (X_Reck_unit d) 0 [some (.int x0)] [] h Q :=
  b_Reck_unit_0 (d := d) (kt := fun c => (t_Reck_unit_20 (am_ift e c) q)) (kf := fun c => (t_Reck_unit_4 (am_ife e c) q))
theorem c_Reck_unit {d : Nat} {x0 : Int32} {h : am_H} {Q : am_Q} {res : Int64} (e : f_Reck_unit x0 = some res) (q : Q (some (.long res)) h) : m_Reck_unit d [.int x0] h Q :=
  e_Reck_unit (t_Reck_unit_0 e q)
theorem d_Reck_meanByClub_0 : decode prog_7_method_12_code 0 = .ok (.iload 4, 2) := by decide +kernel
theorem d_Reck_meanByClub_2 : decode prog_7_method_12_code 2 = .ok (.iconst 1, 1) := by decide +kernel
theorem d_Reck_meanByClub_3 : decode prog_7_method_12_code 3 = .ok (.if_icmp .ne 10, 3) := by decide +kernel
theorem d_Reck_meanByClub_6 : decode prog_7_method_12_code 6 = .ok (.aload_n 0, 1) := by decide +kernel
theorem d_Reck_meanByClub_7 : decode prog_7_method_12_code 7 = .ok (.getfield 17, 3) := by decide +kernel
theorem d_Reck_meanByClub_10 : decode prog_7_method_12_code 10 = .ok (.goto 7, 3) := by decide +kernel
theorem d_Reck_meanByClub_13 : decode prog_7_method_12_code 13 = .ok (.aload_n 0, 1) := by decide +kernel
theorem d_Reck_meanByClub_14 : decode prog_7_method_12_code 14 = .ok (.getfield 11, 3) := by decide +kernel
theorem d_Reck_meanByClub_17 : decode prog_7_method_12_code 17 = .ok (.astore 5, 2) := by decide +kernel
theorem d_Reck_meanByClub_19 : decode prog_7_method_12_code 19 = .ok (.aload_n 0, 1) := by decide +kernel
theorem d_Reck_meanByClub_20 : decode prog_7_method_12_code 20 = .ok (.getfield 57, 3) := by decide +kernel
theorem d_Reck_meanByClub_23 : decode prog_7_method_12_code 23 = .ok (.iload_n 2, 1) := by decide +kernel
theorem d_Reck_meanByClub_24 : decode prog_7_method_12_code 24 = .ok (.invokevirtual 115, 3) := by decide +kernel
theorem d_Reck_meanByClub_27 : decode prog_7_method_12_code 27 = .ok (.istore 6, 2) := by decide +kernel
theorem d_Reck_meanByClub_29 : decode prog_7_method_12_code 29 = .ok (.aload_n 0, 1) := by decide +kernel
theorem d_Reck_meanByClub_30 : decode prog_7_method_12_code 30 = .ok (.getfield 57, 3) := by decide +kernel
theorem d_Reck_meanByClub_33 : decode prog_7_method_12_code 33 = .ok (.iload_n 1, 1) := by decide +kernel
theorem d_Reck_meanByClub_34 : decode prog_7_method_12_code 34 = .ok (.aload_n 0, 1) := by decide +kernel
theorem d_Reck_meanByClub_35 : decode prog_7_method_12_code 35 = .ok (.getfield 57, 3) := by decide +kernel
theorem d_Reck_meanByClub_38 : decode prog_7_method_12_code 38 = .ok (.iload_n 2, 1) := by decide +kernel
theorem d_Reck_meanByClub_39 : decode prog_7_method_12_code 39 = .ok (.invokevirtual 92, 3) := by decide +kernel
theorem d_Reck_meanByClub_42 : decode prog_7_method_12_code 42 = .ok (.invokevirtual 171, 3) := by decide +kernel
theorem d_Reck_meanByClub_45 : decode prog_7_method_12_code 45 = .ok (.istore 7, 2) := by decide +kernel
theorem d_Reck_meanByClub_47 : decode prog_7_method_12_code 47 = .ok (.lconst 0, 1) := by decide +kernel
theorem d_Reck_meanByClub_48 : decode prog_7_method_12_code 48 = .ok (.lstore 8, 2) := by decide +kernel
theorem d_Reck_meanByClub_50 : decode prog_7_method_12_code 50 = .ok (.iload 6, 2) := by decide +kernel
theorem d_Reck_meanByClub_52 : decode prog_7_method_12_code 52 = .ok (.ineg, 1) := by decide +kernel
theorem d_Reck_meanByClub_53 : decode prog_7_method_12_code 53 = .ok (.istore 10, 2) := by decide +kernel
theorem d_Reck_meanByClub_55 : decode prog_7_method_12_code 55 = .ok (.iload 10, 2) := by decide +kernel
theorem d_Reck_meanByClub_57 : decode prog_7_method_12_code 57 = .ok (.iload 6, 2) := by decide +kernel
theorem d_Reck_meanByClub_59 : decode prog_7_method_12_code 59 = .ok (.if_icmp .gt 89, 3) := by decide +kernel
theorem d_Reck_meanByClub_62 : decode prog_7_method_12_code 62 = .ok (.iload 7, 2) := by decide +kernel
theorem d_Reck_meanByClub_64 : decode prog_7_method_12_code 64 = .ok (.iload 10, 2) := by decide +kernel
theorem d_Reck_meanByClub_66 : decode prog_7_method_12_code 66 = .ok (.iadd, 1) := by decide +kernel
theorem d_Reck_meanByClub_67 : decode prog_7_method_12_code 67 = .ok (.invokestatic 174, 3) := by decide +kernel
theorem d_Reck_meanByClub_70 : decode prog_7_method_12_code 70 = .ok (.istore 11, 2) := by decide +kernel
theorem d_Reck_meanByClub_72 : decode prog_7_method_12_code 72 = .ok (.aload_n 0, 1) := by decide +kernel
theorem d_Reck_meanByClub_73 : decode prog_7_method_12_code 73 = .ok (.getfield 57, 3) := by decide +kernel
theorem d_Reck_meanByClub_76 : decode prog_7_method_12_code 76 = .ok (.iload 11, 2) := by decide +kernel
theorem d_Reck_meanByClub_78 : decode prog_7_method_12_code 78 = .ok (.invokevirtual 177, 3) := by decide +kernel
theorem d_Reck_meanByClub_81 : decode prog_7_method_12_code 81 = .ok (.istore 12, 2) := by decide +kernel
theorem d_Reck_meanByClub_83 : decode prog_7_method_12_code 83 = .ok (.iload_n 3, 1) := by decide +kernel
theorem d_Reck_meanByClub_84 : decode prog_7_method_12_code 84 = .ok (.iconst 1, 1) := by decide +kernel
theorem d_Reck_meanByClub_85 : decode prog_7_method_12_code 85 = .ok (.isub, 1) := by decide +kernel
theorem d_Reck_meanByClub_86 : decode prog_7_method_12_code 86 = .ok (.bipush 31, 2) := by decide +kernel
theorem d_Reck_meanByClub_88 : decode prog_7_method_12_code 88 = .ok (.imul, 1) := by decide +kernel
theorem d_Reck_meanByClub_89 : decode prog_7_method_12_code 89 = .ok (.iload 12, 2) := by decide +kernel
theorem d_Reck_meanByClub_91 : decode prog_7_method_12_code 91 = .ok (.ifCond .eq 7, 3) := by decide +kernel
theorem d_Reck_meanByClub_94 : decode prog_7_method_12_code 94 = .ok (.iload_n 1, 1) := by decide +kernel
theorem d_Reck_meanByClub_95 : decode prog_7_method_12_code 95 = .ok (.goto 5, 3) := by decide +kernel
theorem d_Reck_meanByClub_98 : decode prog_7_method_12_code 98 = .ok (.iload 11, 2) := by decide +kernel
theorem d_Reck_meanByClub_100 : decode prog_7_method_12_code 100 = .ok (.iadd, 1) := by decide +kernel
theorem d_Reck_meanByClub_101 : decode prog_7_method_12_code 101 = .ok (.istore 13, 2) := by decide +kernel
theorem d_Reck_meanByClub_103 : decode prog_7_method_12_code 103 = .ok (.iload 13, 2) := by decide +kernel
theorem d_Reck_meanByClub_105 : decode prog_7_method_12_code 105 = .ok (.ifCond .lt 37, 3) := by decide +kernel
theorem d_Reck_meanByClub_108 : decode prog_7_method_12_code 108 = .ok (.iload 13, 2) := by decide +kernel
theorem d_Reck_meanByClub_110 : decode prog_7_method_12_code 110 = .ok (.aload 5, 2) := by decide +kernel
theorem d_Reck_meanByClub_112 : decode prog_7_method_12_code 112 = .ok (.arraylength, 1) := by decide +kernel
theorem d_Reck_meanByClub_113 : decode prog_7_method_12_code 113 = .ok (.if_icmp .ge 29, 3) := by decide +kernel
theorem d_Reck_meanByClub_116 : decode prog_7_method_12_code 116 = .ok (.lload 8, 2) := by decide +kernel
theorem d_Reck_meanByClub_118 : decode prog_7_method_12_code 118 = .ok (.aload 5, 2) := by decide +kernel
theorem d_Reck_meanByClub_120 : decode prog_7_method_12_code 120 = .ok (.iload 13, 2) := by decide +kernel
theorem d_Reck_meanByClub_122 : decode prog_7_method_12_code 122 = .ok (.laload, 1) := by decide +kernel
theorem d_Reck_meanByClub_123 : decode prog_7_method_12_code 123 = .ok (.iload 12, 2) := by decide +kernel
theorem d_Reck_meanByClub_125 : decode prog_7_method_12_code 125 = .ok (.ifCond .eq 12, 3) := by decide +kernel
theorem d_Reck_meanByClub_128 : decode prog_7_method_12_code 128 = .ok (.iload_n 3, 1) := by decide +kernel
theorem d_Reck_meanByClub_129 : decode prog_7_method_12_code 129 = .ok (.iconst 1, 1) := by decide +kernel
theorem d_Reck_meanByClub_130 : decode prog_7_method_12_code 130 = .ok (.isub, 1) := by decide +kernel
theorem d_Reck_meanByClub_131 : decode prog_7_method_12_code 131 = .ok (.invokestatic 148, 3) := by decide +kernel
theorem d_Reck_meanByClub_134 : decode prog_7_method_12_code 134 = .ok (.goto 4, 3) := by decide +kernel
theorem d_Reck_meanByClub_137 : decode prog_7_method_12_code 137 = .ok (.lconst 0, 1) := by decide +kernel
theorem d_Reck_meanByClub_138 : decode prog_7_method_12_code 138 = .ok (.ladd, 1) := by decide +kernel
theorem d_Reck_meanByClub_139 : decode prog_7_method_12_code 139 = .ok (.ladd, 1) := by decide +kernel
theorem d_Reck_meanByClub_140 : decode prog_7_method_12_code 140 = .ok (.lstore 8, 2) := by decide +kernel
theorem d_Reck_meanByClub_142 : decode prog_7_method_12_code 142 = .ok (.iinc 10 1, 3) := by decide +kernel
theorem d_Reck_meanByClub_145 : decode prog_7_method_12_code 145 = .ok (.goto (-90), 3) := by decide +kernel
theorem d_Reck_meanByClub_148 : decode prog_7_method_12_code 148 = .ok (.iload_n 3, 1) := by decide +kernel
theorem d_Reck_meanByClub_149 : decode prog_7_method_12_code 149 = .ok (.invokestatic 148, 3) := by decide +kernel
theorem d_Reck_meanByClub_152 : decode prog_7_method_12_code 152 = .ok (.lload 8, 2) := by decide +kernel
theorem d_Reck_meanByClub_154 : decode prog_7_method_12_code 154 = .ok (.iload 6, 2) := by decide +kernel
theorem d_Reck_meanByClub_156 : decode prog_7_method_12_code 156 = .ok (.ifCond .lt 21, 3) := by decide +kernel
theorem d_Reck_meanByClub_159 : decode prog_7_method_12_code 159 = .ok (.iload 6, 2) := by decide +kernel
theorem d_Reck_meanByClub_161 : decode prog_7_method_12_code 161 = .ok (.getstatic 180, 3) := by decide +kernel
theorem d_Reck_meanByClub_164 : decode prog_7_method_12_code 164 = .ok (.arraylength, 1) := by decide +kernel
theorem d_Reck_meanByClub_165 : decode prog_7_method_12_code 165 = .ok (.if_icmp .ge 12, 3) := by decide +kernel
theorem d_Reck_meanByClub_168 : decode prog_7_method_12_code 168 = .ok (.getstatic 180, 3) := by decide +kernel
theorem d_Reck_meanByClub_171 : decode prog_7_method_12_code 171 = .ok (.iload 6, 2) := by decide +kernel
theorem d_Reck_meanByClub_173 : decode prog_7_method_12_code 173 = .ok (.iaload, 1) := by decide +kernel
theorem d_Reck_meanByClub_174 : decode prog_7_method_12_code 174 = .ok (.goto 4, 3) := by decide +kernel
theorem d_Reck_meanByClub_177 : decode prog_7_method_12_code 177 = .ok (.iconst 0, 1) := by decide +kernel
theorem d_Reck_meanByClub_178 : decode prog_7_method_12_code 178 = .ok (.i2l, 1) := by decide +kernel
theorem d_Reck_meanByClub_179 : decode prog_7_method_12_code 179 = .ok (.lmul, 1) := by decide +kernel
theorem d_Reck_meanByClub_180 : decode prog_7_method_12_code 180 = .ok (.ladd, 1) := by decide +kernel
theorem d_Reck_meanByClub_181 : decode prog_7_method_12_code 181 = .ok (.lreturn, 1) := by decide +kernel
theorem b_Reck_meanByClub_0 {d : Nat} {x1 : Int32} {x2 : Int32} {x3 : Int32} {x4 : Int32} {h : am_H} {Q : am_Q} (kt : ¬ x4 = 1 → am_W (X_Reck_meanByClub d) 13 [some (.ref 12), some (.int x1), some (.int x2), some (.int x3), some (.int x4), none, none, none, none, none, none, none, none, none] [] h Q) (kf : x4 = 1 → am_W (X_Reck_meanByClub d) 6 [some (.ref 12), some (.int x1), some (.int x2), some (.int x3), some (.int x4), none, none, none, none, none, none, none, none, none] [] h Q) : am_W (X_Reck_meanByClub d) 0 [some (.ref 12), some (.int x1), some (.int x2), some (.int x3), some (.int x4), none, none, none, none, none, none, none, none, none] [] h Q :=
  am_iload d_Reck_meanByClub_0 rfl <|
    am_iconst (v := 1) d_Reck_meanByClub_2 (by decide) <|
    am_icmp_ne (tgt := 13) d_Reck_meanByClub_3 (by decide) kt kf
theorem b_Reck_meanByClub_6 {d : Nat} {x1 : Int32} {x2 : Int32} {x3 : Int32} {x4 : Int32} {h : am_H} {Q : am_Q} (k : am_W (X_Reck_meanByClub d) 17 [some (.ref 12), some (.int x1), some (.int x2), some (.int x3), some (.int x4), none, none, none, none, none, none, none, none, none] [.ref 14] h Q) : am_W (X_Reck_meanByClub d) 6 [some (.ref 12), some (.int x1), some (.int x2), some (.int x3), some (.int x4), none, none, none, none, none, none, none, none, none] [] h Q :=
  am_aload_n d_Reck_meanByClub_6 rfl (i := 0) rfl <|
    am_getR (ci := 3) (i := 3) rfl rfl rfl (Nat.le_of_ble_eq_true rfl) w_197 d_Reck_meanByClub_7 <|
    am_goto (tgt := 17) d_Reck_meanByClub_10 (by decide) k
theorem b_Reck_meanByClub_13 {d : Nat} {x1 : Int32} {x2 : Int32} {x3 : Int32} {x4 : Int32} {h : am_H} {Q : am_Q} (k : am_W (X_Reck_meanByClub d) 17 [some (.ref 12), some (.int x1), some (.int x2), some (.int x3), some (.int x4), none, none, none, none, none, none, none, none, none] [.ref 13] h Q) : am_W (X_Reck_meanByClub d) 13 [some (.ref 12), some (.int x1), some (.int x2), some (.int x3), some (.int x4), none, none, none, none, none, none, none, none, none] [] h Q :=
  am_aload_n d_Reck_meanByClub_13 rfl (i := 0) rfl <|
    am_getR (ci := 3) (i := 2) rfl rfl rfl (Nat.le_of_ble_eq_true rfl) w_196 d_Reck_meanByClub_14 <|
    k
theorem b_Reck_meanByClub_17 {d : Nat} {x1 : Int32} {x2 : Int32} {x3 : Int32} {x4 : Int32} {b0 : Nat} {nb0 : Nat} {h : am_H} {Q : am_Q} (sb0 : shX[b0]? = some (.inr (1, nb0, []))) (k : m_Hole_spreadOf d [.ref 1, .int x2] h (fun r hh => am_W (X_Reck_meanByClub (d + 1)) 27 [some (.ref 12), some (.int x1), some (.int x2), some (.int x3), some (.int x4), some (.ref b0), none, none, none, none, none, none, none, none] (r.toList ++ []) hh Q)) : am_W (X_Reck_meanByClub (d + 1)) 17 [some (.ref 12), some (.int x1), some (.int x2), some (.int x3), some (.int x4), none, none, none, none, none, none, none, none, none] [.ref b0] h Q :=
  am_astore (ls' := [some (.ref 12), some (.int x1), some (.int x2), some (.int x3), some (.int x4), some (.ref b0), none, none, none, none, none, none, none, none]) d_Reck_meanByClub_17 (Nat.le_of_ble_eq_true rfl) rfl <|
    am_aload_n d_Reck_meanByClub_19 rfl (i := 0) rfl <|
    am_getR (ci := 3) (i := 0) rfl rfl rfl (Nat.le_of_ble_eq_true rfl) w_194 d_Reck_meanByClub_20 <|
    am_iload_n d_Reck_meanByClub_23 rfl (i := 2) rfl <|
    am_callV (vs := [.int x2]) (st := []) (k := 1) (ci := 1) rfl d_Reck_meanByClub_24 rfl rfl w_772 w_689 w_690 w_84 w_691 p_Hole_spreadOf (Nat.le_of_ble_eq_true rfl) (Nat.le_of_ble_eq_true rfl) rfl k
theorem b_Reck_meanByClub_27 {d : Nat} {x1 : Int32} {x2 : Int32} {x3 : Int32} {x4 : Int32} {a5 : Nat} {na5 : Nat} {y0 : Int32} {h : am_H} {Q : am_Q} (sa5 : shX[a5]? = some (.inr (1, na5, []))) (k : m_Hole_carryOf d [.ref 1, .int x2] h (fun r hh => am_W (X_Reck_meanByClub (d + 1)) 42 [some (.ref 12), some (.int x1), some (.int x2), some (.int x3), some (.int x4), some (.ref a5), some (.int y0), none, none, none, none, none, none, none] (r.toList ++ [.int x1, .ref 1]) hh Q)) : am_W (X_Reck_meanByClub (d + 1)) 27 [some (.ref 12), some (.int x1), some (.int x2), some (.int x3), some (.int x4), some (.ref a5), none, none, none, none, none, none, none, none] [.int y0] h Q :=
  am_istore (ls' := [some (.ref 12), some (.int x1), some (.int x2), some (.int x3), some (.int x4), some (.ref a5), some (.int y0), none, none, none, none, none, none, none]) d_Reck_meanByClub_27 (Nat.le_of_ble_eq_true rfl) rfl <|
    am_aload_n d_Reck_meanByClub_29 rfl (i := 0) rfl <|
    am_getR (ci := 3) (i := 0) rfl rfl rfl (Nat.le_of_ble_eq_true rfl) w_194 d_Reck_meanByClub_30 <|
    am_iload_n d_Reck_meanByClub_33 rfl (i := 1) rfl <|
    am_aload_n d_Reck_meanByClub_34 rfl (i := 0) rfl <|
    am_getR (ci := 3) (i := 0) rfl rfl rfl (Nat.le_of_ble_eq_true rfl) w_194 d_Reck_meanByClub_35 <|
    am_iload_n d_Reck_meanByClub_38 rfl (i := 2) rfl <|
    am_callV (vs := [.int x2]) (st := [.int x1, .ref 1]) (k := 1) (ci := 1) rfl d_Reck_meanByClub_39 rfl rfl w_754 w_685 w_686 w_84 w_687 p_Hole_carryOf (Nat.le_of_ble_eq_true rfl) (Nat.le_of_ble_eq_true rfl) rfl k
theorem b_Reck_meanByClub_42 {d : Nat} {x1 : Int32} {x2 : Int32} {x3 : Int32} {x4 : Int32} {a5 : Nat} {na5 : Nat} {x6 : Int32} {y2 : Int32} {y1 : Int32} {h : am_H} {Q : am_Q} (sa5 : shX[a5]? = some (.inr (1, na5, []))) (k : m_Hole_aim d [.ref 1, .int y1, .int y2] h (fun r hh => am_W (X_Reck_meanByClub (d + 1)) 45 [some (.ref 12), some (.int x1), some (.int x2), some (.int x3), some (.int x4), some (.ref a5), some (.int x6), none, none, none, none, none, none, none] (r.toList ++ []) hh Q)) : am_W (X_Reck_meanByClub (d + 1)) 42 [some (.ref 12), some (.int x1), some (.int x2), some (.int x3), some (.int x4), some (.ref a5), some (.int x6), none, none, none, none, none, none, none] [.int y2, .int y1, .ref 1] h Q :=
  am_callV (vs := [.int y1, .int y2]) (st := []) (k := 1) (ci := 1) rfl d_Reck_meanByClub_42 rfl rfl w_839 w_697 w_698 w_84 w_699 p_Hole_aim (Nat.le_of_ble_eq_true rfl) (Nat.le_of_ble_eq_true rfl) rfl k
theorem b_Reck_meanByClub_45 {d : Nat} {x1 : Int32} {x2 : Int32} {x3 : Int32} {x4 : Int32} {a5 : Nat} {na5 : Nat} {x6 : Int32} {y0 : Int32} {h : am_H} {Q : am_Q} (sa5 : shX[a5]? = some (.inr (1, na5, []))) (k : am_W (X_Reck_meanByClub d) 55 [some (.ref 12), some (.int x1), some (.int x2), some (.int x3), some (.int x4), some (.ref a5), some (.int x6), some (.int y0), some (.long 0), none, some (.int (-x6)), none, none, none] [] h Q) : am_W (X_Reck_meanByClub d) 45 [some (.ref 12), some (.int x1), some (.int x2), some (.int x3), some (.int x4), some (.ref a5), some (.int x6), none, none, none, none, none, none, none] [.int y0] h Q :=
  am_istore (ls' := [some (.ref 12), some (.int x1), some (.int x2), some (.int x3), some (.int x4), some (.ref a5), some (.int x6), some (.int y0), none, none, none, none, none, none]) d_Reck_meanByClub_45 (Nat.le_of_ble_eq_true rfl) rfl <|
    am_lconst (v := 0) d_Reck_meanByClub_47 (by decide) <|
    am_lstore (ls' := [some (.ref 12), some (.int x1), some (.int x2), some (.int x3), some (.int x4), some (.ref a5), some (.int x6), some (.int y0), some (.long 0), none, none, none, none, none]) d_Reck_meanByClub_48 (Nat.le_of_ble_eq_true rfl) rfl <|
    am_iload d_Reck_meanByClub_50 rfl <|
    am_ineg d_Reck_meanByClub_52 <|
    am_istore (ls' := [some (.ref 12), some (.int x1), some (.int x2), some (.int x3), some (.int x4), some (.ref a5), some (.int x6), some (.int y0), some (.long 0), none, some (.int (-x6)), none, none, none]) d_Reck_meanByClub_53 (Nat.le_of_ble_eq_true rfl) rfl <|
    k
theorem b_Reck_meanByClub_55 {d : Nat} {x1 : Int32} {x2 : Int32} {x3 : Int32} {x4 : Int32} {a5 : Nat} {na5 : Nat} {x6 : Int32} {x7 : Int32} {x8 : Int64} {x10 : Int32} {h : am_H} {Q : am_Q} (sa5 : shX[a5]? = some (.inr (1, na5, []))) (kt : x6 < x10 → am_W (X_Reck_meanByClub d) 148 [some (.ref 12), some (.int x1), some (.int x2), some (.int x3), some (.int x4), some (.ref a5), some (.int x6), some (.int x7), some (.long x8), none, some (.int x10), none, none, none] [] h Q) (kf : ¬ x6 < x10 → am_W (X_Reck_meanByClub d) 62 [some (.ref 12), some (.int x1), some (.int x2), some (.int x3), some (.int x4), some (.ref a5), some (.int x6), some (.int x7), some (.long x8), none, some (.int x10), none, none, none] [] h Q) : am_W (X_Reck_meanByClub d) 55 [some (.ref 12), some (.int x1), some (.int x2), some (.int x3), some (.int x4), some (.ref a5), some (.int x6), some (.int x7), some (.long x8), none, some (.int x10), none, none, none] [] h Q :=
  am_iload d_Reck_meanByClub_55 rfl <|
    am_iload d_Reck_meanByClub_57 rfl <|
    am_icmp_gt (tgt := 148) d_Reck_meanByClub_59 (by decide) kt kf
theorem b_Reck_meanByClub_62 {d : Nat} {x1 : Int32} {x2 : Int32} {x3 : Int32} {x4 : Int32} {a5 : Nat} {na5 : Nat} {x6 : Int32} {x7 : Int32} {x8 : Int64} {x10 : Int32} {h : am_H} {Q : am_Q} (sa5 : shX[a5]? = some (.inr (1, na5, []))) (k : m_Hole_held d [.int (x7 + x10)] h (fun r hh => am_W (X_Reck_meanByClub (d + 1)) 70 [some (.ref 12), some (.int x1), some (.int x2), some (.int x3), some (.int x4), some (.ref a5), some (.int x6), some (.int x7), some (.long x8), none, some (.int x10), none, none, none] (r.toList ++ []) hh Q)) : am_W (X_Reck_meanByClub (d + 1)) 62 [some (.ref 12), some (.int x1), some (.int x2), some (.int x3), some (.int x4), some (.ref a5), some (.int x6), some (.int x7), some (.long x8), none, some (.int x10), none, none, none] [] h Q :=
  am_iload d_Reck_meanByClub_62 rfl <|
    am_iload d_Reck_meanByClub_64 rfl <|
    am_iadd d_Reck_meanByClub_66 <|
    am_callS (vs := [.int (x7 + x10)]) (st := []) rfl d_Reck_meanByClub_67 w_840 w_701 w_84 w_702 p_Hole_held (Nat.le_of_ble_eq_true rfl) (Nat.le_of_ble_eq_true rfl) rfl k
theorem b_Reck_meanByClub_70 {d : Nat} {x1 : Int32} {x2 : Int32} {x3 : Int32} {x4 : Int32} {a5 : Nat} {na5 : Nat} {x6 : Int32} {x7 : Int32} {x8 : Int64} {x10 : Int32} {y0 : Int32} {h : am_H} {Q : am_Q} (sa5 : shX[a5]? = some (.inr (1, na5, []))) (k : m_Hole_isWater d [.ref 1, .int y0] h (fun r hh => am_W (X_Reck_meanByClub (d + 1)) 81 [some (.ref 12), some (.int x1), some (.int x2), some (.int x3), some (.int x4), some (.ref a5), some (.int x6), some (.int x7), some (.long x8), none, some (.int x10), some (.int y0), none, none] (r.toList ++ []) hh Q)) : am_W (X_Reck_meanByClub (d + 1)) 70 [some (.ref 12), some (.int x1), some (.int x2), some (.int x3), some (.int x4), some (.ref a5), some (.int x6), some (.int x7), some (.long x8), none, some (.int x10), none, none, none] [.int y0] h Q :=
  am_istore (ls' := [some (.ref 12), some (.int x1), some (.int x2), some (.int x3), some (.int x4), some (.ref a5), some (.int x6), some (.int x7), some (.long x8), none, some (.int x10), some (.int y0), none, none]) d_Reck_meanByClub_70 (Nat.le_of_ble_eq_true rfl) rfl <|
    am_aload_n d_Reck_meanByClub_72 rfl (i := 0) rfl <|
    am_getR (ci := 3) (i := 0) rfl rfl rfl (Nat.le_of_ble_eq_true rfl) w_194 d_Reck_meanByClub_73 <|
    am_iload d_Reck_meanByClub_76 rfl <|
    am_callV (vs := [.int y0]) (st := []) (k := 1) (ci := 1) rfl d_Reck_meanByClub_78 rfl rfl w_841 w_704 w_705 w_84 w_706 p_Hole_isWater (Nat.le_of_ble_eq_true rfl) (Nat.le_of_ble_eq_true rfl) rfl k
theorem b_Reck_meanByClub_81 {d : Nat} {x1 : Int32} {x2 : Int32} {x3 : Int32} {x4 : Int32} {a5 : Nat} {na5 : Nat} {x6 : Int32} {x7 : Int32} {x8 : Int64} {x10 : Int32} {x11 : Int32} {y0 : Bool} {h : am_H} {Q : am_Q} (sa5 : shX[a5]? = some (.inr (1, na5, []))) (kt : (am_b y0) = 0 → am_W (X_Reck_meanByClub d) 98 [some (.ref 12), some (.int x1), some (.int x2), some (.int x3), some (.int x4), some (.ref a5), some (.int x6), some (.int x7), some (.long x8), none, some (.int x10), some (.int x11), some (.int (am_b y0)), none] [.int ((x3 - 1) * 31)] h Q) (kf : ¬ (am_b y0) = 0 → am_W (X_Reck_meanByClub d) 94 [some (.ref 12), some (.int x1), some (.int x2), some (.int x3), some (.int x4), some (.ref a5), some (.int x6), some (.int x7), some (.long x8), none, some (.int x10), some (.int x11), some (.int (am_b y0)), none] [.int ((x3 - 1) * 31)] h Q) : am_W (X_Reck_meanByClub d) 81 [some (.ref 12), some (.int x1), some (.int x2), some (.int x3), some (.int x4), some (.ref a5), some (.int x6), some (.int x7), some (.long x8), none, some (.int x10), some (.int x11), none, none] [.int (am_b y0)] h Q :=
  am_istore (ls' := [some (.ref 12), some (.int x1), some (.int x2), some (.int x3), some (.int x4), some (.ref a5), some (.int x6), some (.int x7), some (.long x8), none, some (.int x10), some (.int x11), some (.int (am_b y0)), none]) d_Reck_meanByClub_81 (Nat.le_of_ble_eq_true rfl) rfl <|
    am_iload_n d_Reck_meanByClub_83 rfl (i := 3) rfl <|
    am_iconst (v := 1) d_Reck_meanByClub_84 (by decide) <|
    am_isub d_Reck_meanByClub_85 <|
    am_bipush (v := 31) d_Reck_meanByClub_86 (by decide) <|
    am_imul d_Reck_meanByClub_88 <|
    am_iload d_Reck_meanByClub_89 rfl <|
    am_if_eq (tgt := 98) d_Reck_meanByClub_91 (by decide) kt kf
theorem b_Reck_meanByClub_94 {d : Nat} {x1 : Int32} {x2 : Int32} {x3 : Int32} {x4 : Int32} {a5 : Nat} {na5 : Nat} {x6 : Int32} {x7 : Int32} {x8 : Int64} {x10 : Int32} {x11 : Int32} {x12 : Bool} {y0 : Int32} {h : am_H} {Q : am_Q} (sa5 : shX[a5]? = some (.inr (1, na5, []))) (k : am_W (X_Reck_meanByClub d) 100 [some (.ref 12), some (.int x1), some (.int x2), some (.int x3), some (.int x4), some (.ref a5), some (.int x6), some (.int x7), some (.long x8), none, some (.int x10), some (.int x11), some (.int (am_b x12)), none] [.int x1, .int y0] h Q) : am_W (X_Reck_meanByClub d) 94 [some (.ref 12), some (.int x1), some (.int x2), some (.int x3), some (.int x4), some (.ref a5), some (.int x6), some (.int x7), some (.long x8), none, some (.int x10), some (.int x11), some (.int (am_b x12)), none] [.int y0] h Q :=
  am_iload_n d_Reck_meanByClub_94 rfl (i := 1) rfl <|
    am_goto (tgt := 100) d_Reck_meanByClub_95 (by decide) k
theorem b_Reck_meanByClub_98 {d : Nat} {x1 : Int32} {x2 : Int32} {x3 : Int32} {x4 : Int32} {a5 : Nat} {na5 : Nat} {x6 : Int32} {x7 : Int32} {x8 : Int64} {x10 : Int32} {x11 : Int32} {x12 : Bool} {y0 : Int32} {h : am_H} {Q : am_Q} (sa5 : shX[a5]? = some (.inr (1, na5, []))) (k : am_W (X_Reck_meanByClub d) 100 [some (.ref 12), some (.int x1), some (.int x2), some (.int x3), some (.int x4), some (.ref a5), some (.int x6), some (.int x7), some (.long x8), none, some (.int x10), some (.int x11), some (.int (am_b x12)), none] [.int x11, .int y0] h Q) : am_W (X_Reck_meanByClub d) 98 [some (.ref 12), some (.int x1), some (.int x2), some (.int x3), some (.int x4), some (.ref a5), some (.int x6), some (.int x7), some (.long x8), none, some (.int x10), some (.int x11), some (.int (am_b x12)), none] [.int y0] h Q :=
  am_iload d_Reck_meanByClub_98 rfl <|
    k
theorem b_Reck_meanByClub_100 {d : Nat} {x1 : Int32} {x2 : Int32} {x3 : Int32} {x4 : Int32} {a5 : Nat} {na5 : Nat} {x6 : Int32} {x7 : Int32} {x8 : Int64} {x10 : Int32} {x11 : Int32} {x12 : Bool} {y1 : Int32} {y0 : Int32} {h : am_H} {Q : am_Q} (sa5 : shX[a5]? = some (.inr (1, na5, []))) (kt : (y0 + y1) < 0 → am_W (X_Reck_meanByClub d) 142 [some (.ref 12), some (.int x1), some (.int x2), some (.int x3), some (.int x4), some (.ref a5), some (.int x6), some (.int x7), some (.long x8), none, some (.int x10), some (.int x11), some (.int (am_b x12)), some (.int (y0 + y1))] [] h Q) (kf : ¬ (y0 + y1) < 0 → am_W (X_Reck_meanByClub d) 108 [some (.ref 12), some (.int x1), some (.int x2), some (.int x3), some (.int x4), some (.ref a5), some (.int x6), some (.int x7), some (.long x8), none, some (.int x10), some (.int x11), some (.int (am_b x12)), some (.int (y0 + y1))] [] h Q) : am_W (X_Reck_meanByClub d) 100 [some (.ref 12), some (.int x1), some (.int x2), some (.int x3), some (.int x4), some (.ref a5), some (.int x6), some (.int x7), some (.long x8), none, some (.int x10), some (.int x11), some (.int (am_b x12)), none] [.int y1, .int y0] h Q :=
  am_iadd d_Reck_meanByClub_100 <|
    am_istore (ls' := [some (.ref 12), some (.int x1), some (.int x2), some (.int x3), some (.int x4), some (.ref a5), some (.int x6), some (.int x7), some (.long x8), none, some (.int x10), some (.int x11), some (.int (am_b x12)), some (.int (y0 + y1))]) d_Reck_meanByClub_101 (Nat.le_of_ble_eq_true rfl) rfl <|
    am_iload d_Reck_meanByClub_103 rfl <|
    am_if_lt (tgt := 142) d_Reck_meanByClub_105 (by decide) kt kf
theorem b_Reck_meanByClub_108 {d : Nat} {x1 : Int32} {x2 : Int32} {x3 : Int32} {x4 : Int32} {a5 : Nat} {na5 : Nat} {x6 : Int32} {x7 : Int32} {x8 : Int64} {x10 : Int32} {x11 : Int32} {x12 : Bool} {x13 : Int32} {h : am_H} {Q : am_Q} (sa5 : shX[a5]? = some (.inr (1, na5, []))) (kt : (Int32.ofNat na5) ≤ x13 → am_W (X_Reck_meanByClub d) 142 [some (.ref 12), some (.int x1), some (.int x2), some (.int x3), some (.int x4), some (.ref a5), some (.int x6), some (.int x7), some (.long x8), none, some (.int x10), some (.int x11), some (.int (am_b x12)), some (.int x13)] [] h Q) (kf : ¬ (Int32.ofNat na5) ≤ x13 → am_W (X_Reck_meanByClub d) 116 [some (.ref 12), some (.int x1), some (.int x2), some (.int x3), some (.int x4), some (.ref a5), some (.int x6), some (.int x7), some (.long x8), none, some (.int x10), some (.int x11), some (.int (am_b x12)), some (.int x13)] [] h Q) : am_W (X_Reck_meanByClub d) 108 [some (.ref 12), some (.int x1), some (.int x2), some (.int x3), some (.int x4), some (.ref a5), some (.int x6), some (.int x7), some (.long x8), none, some (.int x10), some (.int x11), some (.int (am_b x12)), some (.int x13)] [] h Q :=
  am_iload d_Reck_meanByClub_108 rfl <|
    am_aload d_Reck_meanByClub_110 rfl <|
    am_alenL sa5 rfl d_Reck_meanByClub_112 <|
    am_icmp_ge (tgt := 142) d_Reck_meanByClub_113 (by decide) kt kf
theorem b_Reck_meanByClub_116 {d : Nat} {x1 : Int32} {x2 : Int32} {x3 : Int32} {x4 : Int32} {a5 : Nat} {na5 : Nat} {x6 : Int32} {x7 : Int32} {x8 : Int64} {x10 : Int32} {x11 : Int32} {x12 : Bool} {x13 : Int32} {h : am_H} {Q : am_Q} (sa5 : shX[a5]? = some (.inr (1, na5, []))) (q0 : vp_in x13 na5) (kt : (am_b x12) = 0 → am_W (X_Reck_meanByClub d) 137 [some (.ref 12), some (.int x1), some (.int x2), some (.int x3), some (.int x4), some (.ref a5), some (.int x6), some (.int x7), some (.long x8), none, some (.int x10), some (.int x11), some (.int (am_b x12)), some (.int x13)] [.long (h.2 a5 x13.toNatClampNeg), .long x8] h Q) (kf : ¬ (am_b x12) = 0 → am_W (X_Reck_meanByClub d) 128 [some (.ref 12), some (.int x1), some (.int x2), some (.int x3), some (.int x4), some (.ref a5), some (.int x6), some (.int x7), some (.long x8), none, some (.int x10), some (.int x11), some (.int (am_b x12)), some (.int x13)] [.long (h.2 a5 x13.toNatClampNeg), .long x8] h Q) : am_W (X_Reck_meanByClub d) 116 [some (.ref 12), some (.int x1), some (.int x2), some (.int x3), some (.int x4), some (.ref a5), some (.int x6), some (.int x7), some (.long x8), none, some (.int x10), some (.int x11), some (.int (am_b x12)), some (.int x13)] [] h Q :=
  am_lload d_Reck_meanByClub_116 rfl <|
    am_aload d_Reck_meanByClub_118 rfl <|
    am_iload d_Reck_meanByClub_120 rfl <|
    am_lald sa5 q0 d_Reck_meanByClub_122 <|
    am_iload d_Reck_meanByClub_123 rfl <|
    am_if_eq (tgt := 137) d_Reck_meanByClub_125 (by decide) kt kf
theorem b_Reck_meanByClub_128 {d : Nat} {x1 : Int32} {x2 : Int32} {x3 : Int32} {x4 : Int32} {a5 : Nat} {na5 : Nat} {x6 : Int32} {x7 : Int32} {x8 : Int64} {x10 : Int32} {x11 : Int32} {x12 : Bool} {x13 : Int32} {y1 : Int64} {y0 : Int64} {h : am_H} {Q : am_Q} (sa5 : shX[a5]? = some (.inr (1, na5, []))) (k : m_Reck_unit d [.int (x3 - 1)] h (fun r hh => am_W (X_Reck_meanByClub (d + 1)) 134 [some (.ref 12), some (.int x1), some (.int x2), some (.int x3), some (.int x4), some (.ref a5), some (.int x6), some (.int x7), some (.long x8), none, some (.int x10), some (.int x11), some (.int (am_b x12)), some (.int x13)] (r.toList ++ [.long y1, .long y0]) hh Q)) : am_W (X_Reck_meanByClub (d + 1)) 128 [some (.ref 12), some (.int x1), some (.int x2), some (.int x3), some (.int x4), some (.ref a5), some (.int x6), some (.int x7), some (.long x8), none, some (.int x10), some (.int x11), some (.int (am_b x12)), some (.int x13)] [.long y1, .long y0] h Q :=
  am_iload_n d_Reck_meanByClub_128 rfl (i := 3) rfl <|
    am_iconst (v := 1) d_Reck_meanByClub_129 (by decide) <|
    am_isub d_Reck_meanByClub_130 <|
    am_callS (vs := [.int (x3 - 1)]) (st := [.long y1, .long y0]) rfl d_Reck_meanByClub_131 w_819 w_820 w_87 w_821 p_Reck_unit (Nat.le_of_ble_eq_true rfl) (Nat.le_of_ble_eq_true rfl) rfl k
theorem b_Reck_meanByClub_134 {d : Nat} {x1 : Int32} {x2 : Int32} {x3 : Int32} {x4 : Int32} {a5 : Nat} {na5 : Nat} {x6 : Int32} {x7 : Int32} {x8 : Int64} {x10 : Int32} {x11 : Int32} {x12 : Bool} {x13 : Int32} {y2 : Int64} {y1 : Int64} {y0 : Int64} {h : am_H} {Q : am_Q} (sa5 : shX[a5]? = some (.inr (1, na5, []))) (k : am_W (X_Reck_meanByClub d) 138 [some (.ref 12), some (.int x1), some (.int x2), some (.int x3), some (.int x4), some (.ref a5), some (.int x6), some (.int x7), some (.long x8), none, some (.int x10), some (.int x11), some (.int (am_b x12)), some (.int x13)] [.long y2, .long y1, .long y0] h Q) : am_W (X_Reck_meanByClub d) 134 [some (.ref 12), some (.int x1), some (.int x2), some (.int x3), some (.int x4), some (.ref a5), some (.int x6), some (.int x7), some (.long x8), none, some (.int x10), some (.int x11), some (.int (am_b x12)), some (.int x13)] [.long y2, .long y1, .long y0] h Q :=
  am_goto (tgt := 138) d_Reck_meanByClub_134 (by decide) k
theorem b_Reck_meanByClub_137 {d : Nat} {x1 : Int32} {x2 : Int32} {x3 : Int32} {x4 : Int32} {a5 : Nat} {na5 : Nat} {x6 : Int32} {x7 : Int32} {x8 : Int64} {x10 : Int32} {x11 : Int32} {x12 : Bool} {x13 : Int32} {y1 : Int64} {y0 : Int64} {h : am_H} {Q : am_Q} (sa5 : shX[a5]? = some (.inr (1, na5, []))) (k : am_W (X_Reck_meanByClub d) 138 [some (.ref 12), some (.int x1), some (.int x2), some (.int x3), some (.int x4), some (.ref a5), some (.int x6), some (.int x7), some (.long x8), none, some (.int x10), some (.int x11), some (.int (am_b x12)), some (.int x13)] [.long 0, .long y1, .long y0] h Q) : am_W (X_Reck_meanByClub d) 137 [some (.ref 12), some (.int x1), some (.int x2), some (.int x3), some (.int x4), some (.ref a5), some (.int x6), some (.int x7), some (.long x8), none, some (.int x10), some (.int x11), some (.int (am_b x12)), some (.int x13)] [.long y1, .long y0] h Q :=
  am_lconst (v := 0) d_Reck_meanByClub_137 (by decide) <|
    k
theorem b_Reck_meanByClub_138 {d : Nat} {x1 : Int32} {x2 : Int32} {x3 : Int32} {x4 : Int32} {a5 : Nat} {na5 : Nat} {x6 : Int32} {x7 : Int32} {x8 : Int64} {x10 : Int32} {x11 : Int32} {x12 : Bool} {x13 : Int32} {y2 : Int64} {y1 : Int64} {y0 : Int64} {h : am_H} {Q : am_Q} (sa5 : shX[a5]? = some (.inr (1, na5, []))) (k : am_W (X_Reck_meanByClub d) 142 [some (.ref 12), some (.int x1), some (.int x2), some (.int x3), some (.int x4), some (.ref a5), some (.int x6), some (.int x7), some (.long (y0 + (y1 + y2))), none, some (.int x10), some (.int x11), some (.int (am_b x12)), some (.int x13)] [] h Q) : am_W (X_Reck_meanByClub d) 138 [some (.ref 12), some (.int x1), some (.int x2), some (.int x3), some (.int x4), some (.ref a5), some (.int x6), some (.int x7), some (.long x8), none, some (.int x10), some (.int x11), some (.int (am_b x12)), some (.int x13)] [.long y2, .long y1, .long y0] h Q :=
  am_ladd d_Reck_meanByClub_138 <|
    am_ladd d_Reck_meanByClub_139 <|
    am_lstore (ls' := [some (.ref 12), some (.int x1), some (.int x2), some (.int x3), some (.int x4), some (.ref a5), some (.int x6), some (.int x7), some (.long (y0 + (y1 + y2))), none, some (.int x10), some (.int x11), some (.int (am_b x12)), some (.int x13)]) d_Reck_meanByClub_140 (Nat.le_of_ble_eq_true rfl) rfl <|
    k
theorem b_Reck_meanByClub_142 {d : Nat} {x1 : Int32} {x2 : Int32} {x3 : Int32} {x4 : Int32} {a5 : Nat} {na5 : Nat} {x6 : Int32} {x7 : Int32} {x8 : Int64} {x10 : Int32} {x11 : Int32} {x12 : Bool} {x13 : Int32} {h : am_H} {Q : am_Q} (sa5 : shX[a5]? = some (.inr (1, na5, []))) (k : am_W (X_Reck_meanByClub d) 55 [some (.ref 12), some (.int x1), some (.int x2), some (.int x3), some (.int x4), some (.ref a5), some (.int x6), some (.int x7), some (.long x8), none, some (.int (x10 + 1)), some (.int x11), some (.int (am_b x12)), some (.int x13)] [] h Q) : am_W (X_Reck_meanByClub d) 142 [some (.ref 12), some (.int x1), some (.int x2), some (.int x3), some (.int x4), some (.ref a5), some (.int x6), some (.int x7), some (.long x8), none, some (.int x10), some (.int x11), some (.int (am_b x12)), some (.int x13)] [] h Q :=
  am_iinc (v := (x10 + 1)) (ls' := [some (.ref 12), some (.int x1), some (.int x2), some (.int x3), some (.int x4), some (.ref a5), some (.int x6), some (.int x7), some (.long x8), none, some (.int (x10 + 1)), some (.int x11), some (.int (am_b x12)), some (.int x13)]) d_Reck_meanByClub_142 rfl rfl (Nat.le_of_ble_eq_true rfl) rfl <|
    am_goto (tgt := 55) d_Reck_meanByClub_145 (by decide) k
theorem b_Reck_meanByClub_148 {d : Nat} {x1 : Int32} {x2 : Int32} {x3 : Int32} {x4 : Int32} {a5 : Nat} {na5 : Nat} {x6 : Int32} {x7 : Int32} {x8 : Int64} {x10 : Int32} {h : am_H} {Q : am_Q} (sa5 : shX[a5]? = some (.inr (1, na5, []))) (k : m_Reck_unit d [.int x3] h (fun r hh => am_W (X_Reck_meanByClub (d + 1)) 152 [some (.ref 12), some (.int x1), some (.int x2), some (.int x3), some (.int x4), some (.ref a5), some (.int x6), some (.int x7), some (.long x8), none, some (.int x10), none, none, none] (r.toList ++ []) hh Q)) : am_W (X_Reck_meanByClub (d + 1)) 148 [some (.ref 12), some (.int x1), some (.int x2), some (.int x3), some (.int x4), some (.ref a5), some (.int x6), some (.int x7), some (.long x8), none, some (.int x10), none, none, none] [] h Q :=
  am_iload_n d_Reck_meanByClub_148 rfl (i := 3) rfl <|
    am_callS (vs := [.int x3]) (st := []) rfl d_Reck_meanByClub_149 w_819 w_820 w_87 w_821 p_Reck_unit (Nat.le_of_ble_eq_true rfl) (Nat.le_of_ble_eq_true rfl) rfl k
theorem b_Reck_meanByClub_152 {d : Nat} {x1 : Int32} {x2 : Int32} {x3 : Int32} {x4 : Int32} {a5 : Nat} {na5 : Nat} {x6 : Int32} {x7 : Int32} {x8 : Int64} {x10 : Int32} {y0 : Int64} {h : am_H} {Q : am_Q} (sa5 : shX[a5]? = some (.inr (1, na5, []))) (kt : x6 < 0 → am_W (X_Reck_meanByClub d) 177 [some (.ref 12), some (.int x1), some (.int x2), some (.int x3), some (.int x4), some (.ref a5), some (.int x6), some (.int x7), some (.long x8), none, some (.int x10), none, none, none] [.long x8, .long y0] h Q) (kf : ¬ x6 < 0 → am_W (X_Reck_meanByClub d) 159 [some (.ref 12), some (.int x1), some (.int x2), some (.int x3), some (.int x4), some (.ref a5), some (.int x6), some (.int x7), some (.long x8), none, some (.int x10), none, none, none] [.long x8, .long y0] h Q) : am_W (X_Reck_meanByClub d) 152 [some (.ref 12), some (.int x1), some (.int x2), some (.int x3), some (.int x4), some (.ref a5), some (.int x6), some (.int x7), some (.long x8), none, some (.int x10), none, none, none] [.long y0] h Q :=
  am_lload d_Reck_meanByClub_152 rfl <|
    am_iload d_Reck_meanByClub_154 rfl <|
    am_if_lt (tgt := 177) d_Reck_meanByClub_156 (by decide) kt kf
theorem b_Reck_meanByClub_159 {d : Nat} {x1 : Int32} {x2 : Int32} {x3 : Int32} {x4 : Int32} {a5 : Nat} {na5 : Nat} {x6 : Int32} {x7 : Int32} {x8 : Int64} {x10 : Int32} {y1 : Int64} {y0 : Int64} {h : am_H} {Q : am_Q} (sa5 : shX[a5]? = some (.inr (1, na5, []))) (kt : 4 ≤ x6 → am_W (X_Reck_meanByClub d) 177 [some (.ref 12), some (.int x1), some (.int x2), some (.int x3), some (.int x4), some (.ref a5), some (.int x6), some (.int x7), some (.long x8), none, some (.int x10), none, none, none] [.long y1, .long y0] h Q) (kf : ¬ 4 ≤ x6 → am_W (X_Reck_meanByClub d) 168 [some (.ref 12), some (.int x1), some (.int x2), some (.int x3), some (.int x4), some (.ref a5), some (.int x6), some (.int x7), some (.long x8), none, some (.int x10), none, none, none] [.long y1, .long y0] h Q) : am_W (X_Reck_meanByClub d) 159 [some (.ref 12), some (.int x1), some (.int x2), some (.int x3), some (.int x4), some (.ref a5), some (.int x6), some (.int x7), some (.long x8), none, some (.int x10), none, none, none] [.long y1, .long y0] h Q :=
  am_iload d_Reck_meanByClub_159 rfl <|
    am_gets tb_SHARES w_842 d_Reck_meanByClub_161 <|
    am_tlen (v := 4) tb_SHARES (by decide) d_Reck_meanByClub_164 <|
    am_icmp_ge (tgt := 177) d_Reck_meanByClub_165 (by decide) kt kf
theorem b_Reck_meanByClub_168 {d : Nat} {x1 : Int32} {x2 : Int32} {x3 : Int32} {x4 : Int32} {a5 : Nat} {na5 : Nat} {x6 : Int32} {x7 : Int32} {x8 : Int64} {x10 : Int32} {y1 : Int64} {y0 : Int64} {h : am_H} {Q : am_Q} (sa5 : shX[a5]? = some (.inr (1, na5, []))) (q0 : vp_in x6 4) (k : am_W (X_Reck_meanByClub d) 178 [some (.ref 12), some (.int x1), some (.int x2), some (.int x3), some (.int x4), some (.ref a5), some (.int x6), some (.int x7), some (.long x8), none, some (.int x10), none, none, none] [.int (tv_SHARES x6), .long y1, .long y0] h Q) : am_W (X_Reck_meanByClub d) 168 [some (.ref 12), some (.int x1), some (.int x2), some (.int x3), some (.int x4), some (.ref a5), some (.int x6), some (.int x7), some (.long x8), none, some (.int x10), none, none, none] [.long y1, .long y0] h Q :=
  am_gets tb_SHARES w_842 d_Reck_meanByClub_168 <|
    am_iload d_Reck_meanByClub_171 rfl <|
    am_ti (v := tv_SHARES x6) tb_SHARES q0 (tv_SHARES_ok q0) d_Reck_meanByClub_173 <|
    am_goto (tgt := 178) d_Reck_meanByClub_174 (by decide) k
theorem b_Reck_meanByClub_177 {d : Nat} {x1 : Int32} {x2 : Int32} {x3 : Int32} {x4 : Int32} {a5 : Nat} {na5 : Nat} {x6 : Int32} {x7 : Int32} {x8 : Int64} {x10 : Int32} {y1 : Int64} {y0 : Int64} {h : am_H} {Q : am_Q} (sa5 : shX[a5]? = some (.inr (1, na5, []))) (k : am_W (X_Reck_meanByClub d) 178 [some (.ref 12), some (.int x1), some (.int x2), some (.int x3), some (.int x4), some (.ref a5), some (.int x6), some (.int x7), some (.long x8), none, some (.int x10), none, none, none] [.int 0, .long y1, .long y0] h Q) : am_W (X_Reck_meanByClub d) 177 [some (.ref 12), some (.int x1), some (.int x2), some (.int x3), some (.int x4), some (.ref a5), some (.int x6), some (.int x7), some (.long x8), none, some (.int x10), none, none, none] [.long y1, .long y0] h Q :=
  am_iconst (v := 0) d_Reck_meanByClub_177 (by decide) <|
    k
theorem b_Reck_meanByClub_178 {d : Nat} {x1 : Int32} {x2 : Int32} {x3 : Int32} {x4 : Int32} {a5 : Nat} {na5 : Nat} {x6 : Int32} {x7 : Int32} {x8 : Int64} {x10 : Int32} {y2 : Int32} {y1 : Int64} {y0 : Int64} {h : am_H} {Q : am_Q} (sa5 : shX[a5]? = some (.inr (1, na5, []))) (q : Q (some (.long (y0 + (y1 * y2.toInt64)))) h) : am_W (X_Reck_meanByClub d) 178 [some (.ref 12), some (.int x1), some (.int x2), some (.int x3), some (.int x4), some (.ref a5), some (.int x6), some (.int x7), some (.long x8), none, some (.int x10), none, none, none] [.int y2, .long y1, .long y0] h Q :=
  am_i2l d_Reck_meanByClub_178 <|
    am_lmul d_Reck_meanByClub_179 <|
    am_ladd d_Reck_meanByClub_180 <|
    am_lret rfl d_Reck_meanByClub_181 q
theorem t_Reck_meanByClub_178 {d : Nat} {x1 : Int32} {x2 : Int32} {x3 : Int32} {x4 : Int32} {a5 : Nat} {na5 : Nat} {x6 : Int32} {x7 : Int32} {x8 : Int64} {x10 : Int32} {y2 : Int32} {y1 : Int64} {y0 : Int64} {h : am_H} {Q : am_Q} {res : Int64} (sa5 : shX[a5]? = some (.inr (1, na5, []))) (e : f_Reck_meanByClub_178 h y2 y1 y0 = some res) (q : Q (some (.long res)) h) : am_W (X_Reck_meanByClub (d + 2)) 178 [some (.ref 12), some (.int x1), some (.int x2), some (.int x3), some (.int x4), some (.ref a5), some (.int x6), some (.int x7), some (.long x8), none, some (.int x10), none, none, none] [.int y2, .long y1, .long y0] h Q :=
  b_Reck_meanByClub_178 (d := (d + 2)) (sa5 := sa5) (q := (am_rJp (v := (y0 + (y1 * y2.toInt64))) e q))
theorem t_Reck_meanByClub_177 {d : Nat} {x1 : Int32} {x2 : Int32} {x3 : Int32} {x4 : Int32} {a5 : Nat} {na5 : Nat} {x6 : Int32} {x7 : Int32} {x8 : Int64} {x10 : Int32} {y1 : Int64} {y0 : Int64} {h : am_H} {Q : am_Q} {res : Int64} (sa5 : shX[a5]? = some (.inr (1, na5, []))) (e : f_Reck_meanByClub_177 h y1 y0 = some res) (q : Q (some (.long res)) h) : am_W (X_Reck_meanByClub (d + 2)) 177 [some (.ref 12), some (.int x1), some (.int x2), some (.int x3), some (.int x4), some (.ref a5), some (.int x6), some (.int x7), some (.long x8), none, some (.int x10), none, none, none] [.long y1, .long y0] h Q :=
  b_Reck_meanByClub_177 (d := (d + 2)) (sa5 := sa5) (k := (t_Reck_meanByClub_178 sa5 e q))
theorem t_Reck_meanByClub_168 {d : Nat} {x1 : Int32} {x2 : Int32} {x3 : Int32} {x4 : Int32} {a5 : Nat} {na5 : Nat} {x6 : Int32} {x7 : Int32} {x8 : Int64} {x10 : Int32} {y1 : Int64} {y0 : Int64} {h : am_H} {Q : am_Q} {res : Int64} (sa5 : shX[a5]? = some (.inr (1, na5, []))) (e : f_Reck_meanByClub_168 h x6 y1 y0 = some res) (q : Q (some (.long res)) h) : am_W (X_Reck_meanByClub (d + 2)) 168 [some (.ref 12), some (.int x1), some (.int x2), some (.int x3), some (.int x4), some (.ref a5), some (.int x6), some (.int x7), some (.long x8), none, some (.int x10), none, none, none] [.long y1, .long y0] h Q :=
  b_Reck_meanByClub_168 (d := (d + 2)) (q0 := (am_okv (am_gd e))) (sa5 := sa5) (k := (t_Reck_meanByClub_178 sa5 (am_ga e) q))
theorem t_Reck_meanByClub_159 {d : Nat} {x1 : Int32} {x2 : Int32} {x3 : Int32} {x4 : Int32} {a5 : Nat} {na5 : Nat} {x6 : Int32} {x7 : Int32} {x8 : Int64} {x10 : Int32} {y1 : Int64} {y0 : Int64} {h : am_H} {Q : am_Q} {res : Int64} (sa5 : shX[a5]? = some (.inr (1, na5, []))) (e : f_Reck_meanByClub_159 h x6 y1 y0 = some res) (q : Q (some (.long res)) h) : am_W (X_Reck_meanByClub (d + 2)) 159 [some (.ref 12), some (.int x1), some (.int x2), some (.int x3), some (.int x4), some (.ref a5), some (.int x6), some (.int x7), some (.long x8), none, some (.int x10), none, none, none] [.long y1, .long y0] h Q :=
  b_Reck_meanByClub_159 (d := (d + 2)) (sa5 := sa5) (kt := fun c => (t_Reck_meanByClub_177 sa5 (am_ift e c) q)) (kf := fun c => (t_Reck_meanByClub_168 sa5 (am_ife e c) q))
theorem t_Reck_meanByClub_152 {d : Nat} {x1 : Int32} {x2 : Int32} {x3 : Int32} {x4 : Int32} {a5 : Nat} {na5 : Nat} {x6 : Int32} {x7 : Int32} {x8 : Int64} {x10 : Int32} {y0 : Int64} {h : am_H} {Q : am_Q} {res : Int64} (sa5 : shX[a5]? = some (.inr (1, na5, []))) (e : f_Reck_meanByClub_152 h x6 x8 y0 = some res) (q : Q (some (.long res)) h) : am_W (X_Reck_meanByClub (d + 2)) 152 [some (.ref 12), some (.int x1), some (.int x2), some (.int x3), some (.int x4), some (.ref a5), some (.int x6), some (.int x7), some (.long x8), none, some (.int x10), none, none, none] [.long y0] h Q :=
  b_Reck_meanByClub_152 (d := (d + 2)) (sa5 := sa5) (kt := fun c => (t_Reck_meanByClub_177 sa5 (am_ift e c) q)) (kf := fun c => (t_Reck_meanByClub_159 sa5 (am_ife e c) q))
theorem t_Reck_meanByClub_148 {d : Nat} {x1 : Int32} {x2 : Int32} {x3 : Int32} {x4 : Int32} {a5 : Nat} {na5 : Nat} {x6 : Int32} {x7 : Int32} {x8 : Int64} {x10 : Int32} {h : am_H} {Q : am_Q} {res : Int64} (sa5 : shX[a5]? = some (.inr (1, na5, []))) (e : f_Reck_meanByClub_148 h x3 x6 x8 = some res) (q : Q (some (.long res)) h) : am_W (X_Reck_meanByClub (d + 2)) 148 [some (.ref 12), some (.int x1), some (.int x2), some (.int x3), some (.int x4), some (.ref a5), some (.int x6), some (.int x7), some (.long x8), none, some (.int x10), none, none, none] [] h Q :=
  (am_bd e).elim fun p hp => b_Reck_meanByClub_148 (d := (d + 1)) (sa5 := sa5) (k := c_Reck_unit (d := d + 1) hp.1 (t_Reck_meanByClub_152 sa5 hp.2 q))
theorem t_Reck_meanByClub_142 {d : Nat} {k55 : Int32 → Int32 → Nat → Nat → Int32 → Int32 → Int64 → Int32 → Option (Int64)} {x1 : Int32} {x2 : Int32} {x3 : Int32} {x4 : Int32} {a5 : Nat} {na5 : Nat} {x6 : Int32} {x7 : Int32} {x8 : Int64} {x10 : Int32} {x11 : Int32} {x12 : Bool} {x13 : Int32} {h : am_H} {Q : am_Q} {res : Int64} (hk55 : ∀ (x1 : Int32) (x2 : Int32) (x3 : Int32) (x4 : Int32) (a5 : Nat) (na5 : Nat) (x6 : Int32) (x7 : Int32) (x8 : Int64) (x10 : Int32), shX[a5]? = some (.inr (1, na5, [])) → k55 x1 x3 a5 na5 x6 x7 x8 x10 = some res → am_W (X_Reck_meanByClub (d + 2)) 55 [some (.ref 12), some (.int x1), some (.int x2), some (.int x3), some (.int x4), some (.ref a5), some (.int x6), some (.int x7), some (.long x8), none, some (.int x10), none, none, none] [] h Q) (sa5 : shX[a5]? = some (.inr (1, na5, []))) (e : f_Reck_meanByClub_142 k55 h x1 x3 a5 na5 x6 x7 x8 x10 = some res) (q : Q (some (.long res)) h) : am_W (X_Reck_meanByClub (d + 2)) 142 [some (.ref 12), some (.int x1), some (.int x2), some (.int x3), some (.int x4), some (.ref a5), some (.int x6), some (.int x7), some (.long x8), none, some (.int x10), some (.int x11), some (.int (am_b x12)), some (.int x13)] [] h Q :=
  b_Reck_meanByClub_142 (d := (d + 2)) (sa5 := sa5) (k := (am_wk2 (hk55 _ _ _ _ _ _ _ _ _ _ sa5 e) ⟨rfl, ⟨rfl, ⟨rfl, ⟨rfl, ⟨rfl, ⟨rfl, ⟨rfl, ⟨rfl, ⟨rfl, ⟨rfl, trivial⟩⟩⟩⟩⟩⟩⟩⟩⟩⟩))
theorem t_Reck_meanByClub_138 {d : Nat} {k55 : Int32 → Int32 → Nat → Nat → Int32 → Int32 → Int64 → Int32 → Option (Int64)} {x1 : Int32} {x2 : Int32} {x3 : Int32} {x4 : Int32} {a5 : Nat} {na5 : Nat} {x6 : Int32} {x7 : Int32} {x8 : Int64} {x10 : Int32} {x11 : Int32} {x12 : Bool} {x13 : Int32} {y2 : Int64} {y1 : Int64} {y0 : Int64} {h : am_H} {Q : am_Q} {res : Int64} (hk55 : ∀ (x1 : Int32) (x2 : Int32) (x3 : Int32) (x4 : Int32) (a5 : Nat) (na5 : Nat) (x6 : Int32) (x7 : Int32) (x8 : Int64) (x10 : Int32), shX[a5]? = some (.inr (1, na5, [])) → k55 x1 x3 a5 na5 x6 x7 x8 x10 = some res → am_W (X_Reck_meanByClub (d + 2)) 55 [some (.ref 12), some (.int x1), some (.int x2), some (.int x3), some (.int x4), some (.ref a5), some (.int x6), some (.int x7), some (.long x8), none, some (.int x10), none, none, none] [] h Q) (sa5 : shX[a5]? = some (.inr (1, na5, []))) (e : f_Reck_meanByClub_138 k55 h x1 x3 a5 na5 x6 x7 x10 y2 y1 y0 = some res) (q : Q (some (.long res)) h) : am_W (X_Reck_meanByClub (d + 2)) 138 [some (.ref 12), some (.int x1), some (.int x2), some (.int x3), some (.int x4), some (.ref a5), some (.int x6), some (.int x7), some (.long x8), none, some (.int x10), some (.int x11), some (.int (am_b x12)), some (.int x13)] [.long y2, .long y1, .long y0] h Q :=
  b_Reck_meanByClub_138 (d := (d + 2)) (sa5 := sa5) (k := (t_Reck_meanByClub_142 hk55 sa5 e q))
theorem t_Reck_meanByClub_137 {d : Nat} {k55 : Int32 → Int32 → Nat → Nat → Int32 → Int32 → Int64 → Int32 → Option (Int64)} {x1 : Int32} {x2 : Int32} {x3 : Int32} {x4 : Int32} {a5 : Nat} {na5 : Nat} {x6 : Int32} {x7 : Int32} {x8 : Int64} {x10 : Int32} {x11 : Int32} {x12 : Bool} {x13 : Int32} {y1 : Int64} {y0 : Int64} {h : am_H} {Q : am_Q} {res : Int64} (hk55 : ∀ (x1 : Int32) (x2 : Int32) (x3 : Int32) (x4 : Int32) (a5 : Nat) (na5 : Nat) (x6 : Int32) (x7 : Int32) (x8 : Int64) (x10 : Int32), shX[a5]? = some (.inr (1, na5, [])) → k55 x1 x3 a5 na5 x6 x7 x8 x10 = some res → am_W (X_Reck_meanByClub (d + 2)) 55 [some (.ref 12), some (.int x1), some (.int x2), some (.int x3), some (.int x4), some (.ref a5), some (.int x6), some (.int x7), some (.long x8), none, some (.int x10), none, none, none] [] h Q) (sa5 : shX[a5]? = some (.inr (1, na5, []))) (e : f_Reck_meanByClub_137 k55 h x1 x3 a5 na5 x6 x7 x10 y1 y0 = some res) (q : Q (some (.long res)) h) : am_W (X_Reck_meanByClub (d + 2)) 137 [some (.ref 12), some (.int x1), some (.int x2), some (.int x3), some (.int x4), some (.ref a5), some (.int x6), some (.int x7), some (.long x8), none, some (.int x10), some (.int x11), some (.int (am_b x12)), some (.int x13)] [.long y1, .long y0] h Q :=
  b_Reck_meanByClub_137 (d := (d + 2)) (sa5 := sa5) (k := (t_Reck_meanByClub_138 hk55 sa5 e q))
theorem t_Reck_meanByClub_134 {d : Nat} {k55 : Int32 → Int32 → Nat → Nat → Int32 → Int32 → Int64 → Int32 → Option (Int64)} {x1 : Int32} {x2 : Int32} {x3 : Int32} {x4 : Int32} {a5 : Nat} {na5 : Nat} {x6 : Int32} {x7 : Int32} {x8 : Int64} {x10 : Int32} {x11 : Int32} {x12 : Bool} {x13 : Int32} {y2 : Int64} {y1 : Int64} {y0 : Int64} {h : am_H} {Q : am_Q} {res : Int64} (hk55 : ∀ (x1 : Int32) (x2 : Int32) (x3 : Int32) (x4 : Int32) (a5 : Nat) (na5 : Nat) (x6 : Int32) (x7 : Int32) (x8 : Int64) (x10 : Int32), shX[a5]? = some (.inr (1, na5, [])) → k55 x1 x3 a5 na5 x6 x7 x8 x10 = some res → am_W (X_Reck_meanByClub (d + 2)) 55 [some (.ref 12), some (.int x1), some (.int x2), some (.int x3), some (.int x4), some (.ref a5), some (.int x6), some (.int x7), some (.long x8), none, some (.int x10), none, none, none] [] h Q) (sa5 : shX[a5]? = some (.inr (1, na5, []))) (e : f_Reck_meanByClub_134 k55 h x1 x3 a5 na5 x6 x7 x10 y2 y1 y0 = some res) (q : Q (some (.long res)) h) : am_W (X_Reck_meanByClub (d + 2)) 134 [some (.ref 12), some (.int x1), some (.int x2), some (.int x3), some (.int x4), some (.ref a5), some (.int x6), some (.int x7), some (.long x8), none, some (.int x10), some (.int x11), some (.int (am_b x12)), some (.int x13)] [.long y2, .long y1, .long y0] h Q :=
  b_Reck_meanByClub_134 (d := (d + 2)) (sa5 := sa5) (k := (t_Reck_meanByClub_138 hk55 sa5 e q))
theorem t_Reck_meanByClub_128 {d : Nat} {k55 : Int32 → Int32 → Nat → Nat → Int32 → Int32 → Int64 → Int32 → Option (Int64)} {x1 : Int32} {x2 : Int32} {x3 : Int32} {x4 : Int32} {a5 : Nat} {na5 : Nat} {x6 : Int32} {x7 : Int32} {x8 : Int64} {x10 : Int32} {x11 : Int32} {x12 : Bool} {x13 : Int32} {y1 : Int64} {y0 : Int64} {h : am_H} {Q : am_Q} {res : Int64} (hk55 : ∀ (x1 : Int32) (x2 : Int32) (x3 : Int32) (x4 : Int32) (a5 : Nat) (na5 : Nat) (x6 : Int32) (x7 : Int32) (x8 : Int64) (x10 : Int32), shX[a5]? = some (.inr (1, na5, [])) → k55 x1 x3 a5 na5 x6 x7 x8 x10 = some res → am_W (X_Reck_meanByClub (d + 2)) 55 [some (.ref 12), some (.int x1), some (.int x2), some (.int x3), some (.int x4), some (.ref a5), some (.int x6), some (.int x7), some (.long x8), none, some (.int x10), none, none, none] [] h Q) (sa5 : shX[a5]? = some (.inr (1, na5, []))) (e : f_Reck_meanByClub_128 k55 h x1 x3 a5 na5 x6 x7 x10 y1 y0 = some res) (q : Q (some (.long res)) h) : am_W (X_Reck_meanByClub (d + 2)) 128 [some (.ref 12), some (.int x1), some (.int x2), some (.int x3), some (.int x4), some (.ref a5), some (.int x6), some (.int x7), some (.long x8), none, some (.int x10), some (.int x11), some (.int (am_b x12)), some (.int x13)] [.long y1, .long y0] h Q :=
  (am_bd e).elim fun p hp => b_Reck_meanByClub_128 (d := (d + 1)) (sa5 := sa5) (k := c_Reck_unit (d := d + 1) hp.1 (t_Reck_meanByClub_134 hk55 sa5 hp.2 q))
theorem t_Reck_meanByClub_116 {d : Nat} {k55 : Int32 → Int32 → Nat → Nat → Int32 → Int32 → Int64 → Int32 → Option (Int64)} {x1 : Int32} {x2 : Int32} {x3 : Int32} {x4 : Int32} {a5 : Nat} {na5 : Nat} {x6 : Int32} {x7 : Int32} {x8 : Int64} {x10 : Int32} {x11 : Int32} {x12 : Bool} {x13 : Int32} {h : am_H} {Q : am_Q} {res : Int64} (hk55 : ∀ (x1 : Int32) (x2 : Int32) (x3 : Int32) (x4 : Int32) (a5 : Nat) (na5 : Nat) (x6 : Int32) (x7 : Int32) (x8 : Int64) (x10 : Int32), shX[a5]? = some (.inr (1, na5, [])) → k55 x1 x3 a5 na5 x6 x7 x8 x10 = some res → am_W (X_Reck_meanByClub (d + 2)) 55 [some (.ref 12), some (.int x1), some (.int x2), some (.int x3), some (.int x4), some (.ref a5), some (.int x6), some (.int x7), some (.long x8), none, some (.int x10), none, none, none] [] h Q) (sa5 : shX[a5]? = some (.inr (1, na5, []))) (e : f_Reck_meanByClub_116 k55 h x1 x3 a5 na5 x6 x7 x8 x10 x12 x13 = some res) (q : Q (some (.long res)) h) : am_W (X_Reck_meanByClub (d + 2)) 116 [some (.ref 12), some (.int x1), some (.int x2), some (.int x3), some (.int x4), some (.ref a5), some (.int x6), some (.int x7), some (.long x8), none, some (.int x10), some (.int x11), some (.int (am_b x12)), some (.int x13)] [] h Q :=
  b_Reck_meanByClub_116 (d := (d + 2)) (q0 := (am_okv (am_gd e))) (sa5 := sa5) (kt := fun c => (t_Reck_meanByClub_137 hk55 sa5 (am_iff (am_ga e) (am_bz c)) q)) (kf := fun c => (t_Reck_meanByClub_128 hk55 sa5 (am_ift (am_ga e) (am_bn c)) q))
theorem t_Reck_meanByClub_108 {d : Nat} {k55 : Int32 → Int32 → Nat → Nat → Int32 → Int32 → Int64 → Int32 → Option (Int64)} {x1 : Int32} {x2 : Int32} {x3 : Int32} {x4 : Int32} {a5 : Nat} {na5 : Nat} {x6 : Int32} {x7 : Int32} {x8 : Int64} {x10 : Int32} {x11 : Int32} {x12 : Bool} {x13 : Int32} {h : am_H} {Q : am_Q} {res : Int64} (hk55 : ∀ (x1 : Int32) (x2 : Int32) (x3 : Int32) (x4 : Int32) (a5 : Nat) (na5 : Nat) (x6 : Int32) (x7 : Int32) (x8 : Int64) (x10 : Int32), shX[a5]? = some (.inr (1, na5, [])) → k55 x1 x3 a5 na5 x6 x7 x8 x10 = some res → am_W (X_Reck_meanByClub (d + 2)) 55 [some (.ref 12), some (.int x1), some (.int x2), some (.int x3), some (.int x4), some (.ref a5), some (.int x6), some (.int x7), some (.long x8), none, some (.int x10), none, none, none] [] h Q) (sa5 : shX[a5]? = some (.inr (1, na5, []))) (e : f_Reck_meanByClub_108 k55 h x1 x3 a5 na5 x6 x7 x8 x10 x12 x13 = some res) (q : Q (some (.long res)) h) : am_W (X_Reck_meanByClub (d + 2)) 108 [some (.ref 12), some (.int x1), some (.int x2), some (.int x3), some (.int x4), some (.ref a5), some (.int x6), some (.int x7), some (.long x8), none, some (.int x10), some (.int x11), some (.int (am_b x12)), some (.int x13)] [] h Q :=
  b_Reck_meanByClub_108 (d := (d + 2)) (sa5 := sa5) (kt := fun c => (t_Reck_meanByClub_142 hk55 sa5 (am_ift e c) q)) (kf := fun c => (t_Reck_meanByClub_116 hk55 sa5 (am_ife e c) q))
theorem t_Reck_meanByClub_100 {d : Nat} {k55 : Int32 → Int32 → Nat → Nat → Int32 → Int32 → Int64 → Int32 → Option (Int64)} {x1 : Int32} {x2 : Int32} {x3 : Int32} {x4 : Int32} {a5 : Nat} {na5 : Nat} {x6 : Int32} {x7 : Int32} {x8 : Int64} {x10 : Int32} {x11 : Int32} {x12 : Bool} {y1 : Int32} {y0 : Int32} {h : am_H} {Q : am_Q} {res : Int64} (hk55 : ∀ (x1 : Int32) (x2 : Int32) (x3 : Int32) (x4 : Int32) (a5 : Nat) (na5 : Nat) (x6 : Int32) (x7 : Int32) (x8 : Int64) (x10 : Int32), shX[a5]? = some (.inr (1, na5, [])) → k55 x1 x3 a5 na5 x6 x7 x8 x10 = some res → am_W (X_Reck_meanByClub (d + 2)) 55 [some (.ref 12), some (.int x1), some (.int x2), some (.int x3), some (.int x4), some (.ref a5), some (.int x6), some (.int x7), some (.long x8), none, some (.int x10), none, none, none] [] h Q) (sa5 : shX[a5]? = some (.inr (1, na5, []))) (e : f_Reck_meanByClub_100 k55 h x1 x3 a5 na5 x6 x7 x8 x10 x12 y1 y0 = some res) (q : Q (some (.long res)) h) : am_W (X_Reck_meanByClub (d + 2)) 100 [some (.ref 12), some (.int x1), some (.int x2), some (.int x3), some (.int x4), some (.ref a5), some (.int x6), some (.int x7), some (.long x8), none, some (.int x10), some (.int x11), some (.int (am_b x12)), none] [.int y1, .int y0] h Q :=
  b_Reck_meanByClub_100 (d := (d + 2)) (sa5 := sa5) (kt := fun c => (t_Reck_meanByClub_142 hk55 sa5 (am_ift e c) q)) (kf := fun c => (t_Reck_meanByClub_108 hk55 sa5 (am_ife e c) q))
theorem t_Reck_meanByClub_98 {d : Nat} {k55 : Int32 → Int32 → Nat → Nat → Int32 → Int32 → Int64 → Int32 → Option (Int64)} {x1 : Int32} {x2 : Int32} {x3 : Int32} {x4 : Int32} {a5 : Nat} {na5 : Nat} {x6 : Int32} {x7 : Int32} {x8 : Int64} {x10 : Int32} {x11 : Int32} {x12 : Bool} {y0 : Int32} {h : am_H} {Q : am_Q} {res : Int64} (hk55 : ∀ (x1 : Int32) (x2 : Int32) (x3 : Int32) (x4 : Int32) (a5 : Nat) (na5 : Nat) (x6 : Int32) (x7 : Int32) (x8 : Int64) (x10 : Int32), shX[a5]? = some (.inr (1, na5, [])) → k55 x1 x3 a5 na5 x6 x7 x8 x10 = some res → am_W (X_Reck_meanByClub (d + 2)) 55 [some (.ref 12), some (.int x1), some (.int x2), some (.int x3), some (.int x4), some (.ref a5), some (.int x6), some (.int x7), some (.long x8), none, some (.int x10), none, none, none] [] h Q) (sa5 : shX[a5]? = some (.inr (1, na5, []))) (e : f_Reck_meanByClub_98 k55 h x1 x3 a5 na5 x6 x7 x8 x10 x11 x12 y0 = some res) (q : Q (some (.long res)) h) : am_W (X_Reck_meanByClub (d + 2)) 98 [some (.ref 12), some (.int x1), some (.int x2), some (.int x3), some (.int x4), some (.ref a5), some (.int x6), some (.int x7), some (.long x8), none, some (.int x10), some (.int x11), some (.int (am_b x12)), none] [.int y0] h Q :=
  b_Reck_meanByClub_98 (d := (d + 2)) (sa5 := sa5) (k := (t_Reck_meanByClub_100 hk55 sa5 e q))
theorem t_Reck_meanByClub_94 {d : Nat} {k55 : Int32 → Int32 → Nat → Nat → Int32 → Int32 → Int64 → Int32 → Option (Int64)} {x1 : Int32} {x2 : Int32} {x3 : Int32} {x4 : Int32} {a5 : Nat} {na5 : Nat} {x6 : Int32} {x7 : Int32} {x8 : Int64} {x10 : Int32} {x11 : Int32} {x12 : Bool} {y0 : Int32} {h : am_H} {Q : am_Q} {res : Int64} (hk55 : ∀ (x1 : Int32) (x2 : Int32) (x3 : Int32) (x4 : Int32) (a5 : Nat) (na5 : Nat) (x6 : Int32) (x7 : Int32) (x8 : Int64) (x10 : Int32), shX[a5]? = some (.inr (1, na5, [])) → k55 x1 x3 a5 na5 x6 x7 x8 x10 = some res → am_W (X_Reck_meanByClub (d + 2)) 55 [some (.ref 12), some (.int x1), some (.int x2), some (.int x3), some (.int x4), some (.ref a5), some (.int x6), some (.int x7), some (.long x8), none, some (.int x10), none, none, none] [] h Q) (sa5 : shX[a5]? = some (.inr (1, na5, []))) (e : f_Reck_meanByClub_94 k55 h x1 x3 a5 na5 x6 x7 x8 x10 x12 y0 = some res) (q : Q (some (.long res)) h) : am_W (X_Reck_meanByClub (d + 2)) 94 [some (.ref 12), some (.int x1), some (.int x2), some (.int x3), some (.int x4), some (.ref a5), some (.int x6), some (.int x7), some (.long x8), none, some (.int x10), some (.int x11), some (.int (am_b x12)), none] [.int y0] h Q :=
  b_Reck_meanByClub_94 (d := (d + 2)) (sa5 := sa5) (k := (t_Reck_meanByClub_100 hk55 sa5 e q))
theorem t_Reck_meanByClub_81 {d : Nat} {k55 : Int32 → Int32 → Nat → Nat → Int32 → Int32 → Int64 → Int32 → Option (Int64)} {x1 : Int32} {x2 : Int32} {x3 : Int32} {x4 : Int32} {a5 : Nat} {na5 : Nat} {x6 : Int32} {x7 : Int32} {x8 : Int64} {x10 : Int32} {x11 : Int32} {y0 : Bool} {h : am_H} {Q : am_Q} {res : Int64} (hk55 : ∀ (x1 : Int32) (x2 : Int32) (x3 : Int32) (x4 : Int32) (a5 : Nat) (na5 : Nat) (x6 : Int32) (x7 : Int32) (x8 : Int64) (x10 : Int32), shX[a5]? = some (.inr (1, na5, [])) → k55 x1 x3 a5 na5 x6 x7 x8 x10 = some res → am_W (X_Reck_meanByClub (d + 2)) 55 [some (.ref 12), some (.int x1), some (.int x2), some (.int x3), some (.int x4), some (.ref a5), some (.int x6), some (.int x7), some (.long x8), none, some (.int x10), none, none, none] [] h Q) (sa5 : shX[a5]? = some (.inr (1, na5, []))) (e : f_Reck_meanByClub_81 k55 h x1 x3 a5 na5 x6 x7 x8 x10 x11 y0 = some res) (q : Q (some (.long res)) h) : am_W (X_Reck_meanByClub (d + 2)) 81 [some (.ref 12), some (.int x1), some (.int x2), some (.int x3), some (.int x4), some (.ref a5), some (.int x6), some (.int x7), some (.long x8), none, some (.int x10), some (.int x11), none, none] [.int (am_b y0)] h Q :=
  b_Reck_meanByClub_81 (d := (d + 2)) (sa5 := sa5) (kt := fun c => (t_Reck_meanByClub_98 hk55 sa5 (am_iff e (am_bz c)) q)) (kf := fun c => (t_Reck_meanByClub_94 hk55 sa5 (am_ift e (am_bn c)) q))
theorem t_Reck_meanByClub_70 {d : Nat} {k55 : Int32 → Int32 → Nat → Nat → Int32 → Int32 → Int64 → Int32 → Option (Int64)} {x1 : Int32} {x2 : Int32} {x3 : Int32} {x4 : Int32} {a5 : Nat} {na5 : Nat} {x6 : Int32} {x7 : Int32} {x8 : Int64} {x10 : Int32} {y0 : Int32} {h : am_H} {Q : am_Q} {res : Int64} (hk55 : ∀ (x1 : Int32) (x2 : Int32) (x3 : Int32) (x4 : Int32) (a5 : Nat) (na5 : Nat) (x6 : Int32) (x7 : Int32) (x8 : Int64) (x10 : Int32), shX[a5]? = some (.inr (1, na5, [])) → k55 x1 x3 a5 na5 x6 x7 x8 x10 = some res → am_W (X_Reck_meanByClub (d + 2)) 55 [some (.ref 12), some (.int x1), some (.int x2), some (.int x3), some (.int x4), some (.ref a5), some (.int x6), some (.int x7), some (.long x8), none, some (.int x10), none, none, none] [] h Q) (sa5 : shX[a5]? = some (.inr (1, na5, []))) (e : f_Reck_meanByClub_70 k55 h x1 x3 a5 na5 x6 x7 x8 x10 y0 = some res) (q : Q (some (.long res)) h) : am_W (X_Reck_meanByClub (d + 2)) 70 [some (.ref 12), some (.int x1), some (.int x2), some (.int x3), some (.int x4), some (.ref a5), some (.int x6), some (.int x7), some (.long x8), none, some (.int x10), none, none, none] [.int y0] h Q :=
  (am_bd e).elim fun p hp => b_Reck_meanByClub_70 (d := (d + 1)) (sa5 := sa5) (k := c_Hole_isWater (d := d) hp.1 (t_Reck_meanByClub_81 hk55 sa5 hp.2 q))
theorem t_Reck_meanByClub_62 {d : Nat} {k55 : Int32 → Int32 → Nat → Nat → Int32 → Int32 → Int64 → Int32 → Option (Int64)} {x1 : Int32} {x2 : Int32} {x3 : Int32} {x4 : Int32} {a5 : Nat} {na5 : Nat} {x6 : Int32} {x7 : Int32} {x8 : Int64} {x10 : Int32} {h : am_H} {Q : am_Q} {res : Int64} (hk55 : ∀ (x1 : Int32) (x2 : Int32) (x3 : Int32) (x4 : Int32) (a5 : Nat) (na5 : Nat) (x6 : Int32) (x7 : Int32) (x8 : Int64) (x10 : Int32), shX[a5]? = some (.inr (1, na5, [])) → k55 x1 x3 a5 na5 x6 x7 x8 x10 = some res → am_W (X_Reck_meanByClub (d + 2)) 55 [some (.ref 12), some (.int x1), some (.int x2), some (.int x3), some (.int x4), some (.ref a5), some (.int x6), some (.int x7), some (.long x8), none, some (.int x10), none, none, none] [] h Q) (sa5 : shX[a5]? = some (.inr (1, na5, []))) (e : f_Reck_meanByClub_62 k55 h x1 x3 a5 na5 x6 x7 x8 x10 = some res) (q : Q (some (.long res)) h) : am_W (X_Reck_meanByClub (d + 2)) 62 [some (.ref 12), some (.int x1), some (.int x2), some (.int x3), some (.int x4), some (.ref a5), some (.int x6), some (.int x7), some (.long x8), none, some (.int x10), none, none, none] [] h Q :=
  b_Reck_meanByClub_62 (d := (d + 1)) (sa5 := sa5) (k := c_Hole_held (d := d + 1) rfl (t_Reck_meanByClub_70 hk55 sa5 e q))
theorem t_Reck_meanByClub_55 {d : Nat} {k55 : Int32 → Int32 → Nat → Nat → Int32 → Int32 → Int64 → Int32 → Option (Int64)} {x1 : Int32} {x2 : Int32} {x3 : Int32} {x4 : Int32} {a5 : Nat} {na5 : Nat} {x6 : Int32} {x7 : Int32} {x8 : Int64} {x10 : Int32} {h : am_H} {Q : am_Q} {res : Int64} (hk55 : ∀ (x1 : Int32) (x2 : Int32) (x3 : Int32) (x4 : Int32) (a5 : Nat) (na5 : Nat) (x6 : Int32) (x7 : Int32) (x8 : Int64) (x10 : Int32), shX[a5]? = some (.inr (1, na5, [])) → k55 x1 x3 a5 na5 x6 x7 x8 x10 = some res → am_W (X_Reck_meanByClub (d + 2)) 55 [some (.ref 12), some (.int x1), some (.int x2), some (.int x3), some (.int x4), some (.ref a5), some (.int x6), some (.int x7), some (.long x8), none, some (.int x10), none, none, none] [] h Q) (sa5 : shX[a5]? = some (.inr (1, na5, []))) (e : f_Reck_meanByClub_55 k55 h x1 x3 a5 na5 x6 x7 x8 x10 = some res) (q : Q (some (.long res)) h) : am_W (X_Reck_meanByClub (d + 2)) 55 [some (.ref 12), some (.int x1), some (.int x2), some (.int x3), some (.int x4), some (.ref a5), some (.int x6), some (.int x7), some (.long x8), none, some (.int x10), none, none, none] [] h Q :=
  b_Reck_meanByClub_55 (d := (d + 2)) (sa5 := sa5) (kt := fun c => (t_Reck_meanByClub_148 sa5 (am_ift e c) q)) (kf := fun c => (t_Reck_meanByClub_62 hk55 sa5 (am_ife e c) q))
theorem t_Reck_meanByClub_55_l {d : Nat} {h : am_H} {Q : am_Q} {res : Int64} (q : Q (some (.long res)) h) : ∀ (n : Nat) (x1 : Int32) (x2 : Int32) (x3 : Int32) (x4 : Int32) (a5 : Nat) (na5 : Nat) (x6 : Int32) (x7 : Int32) (x8 : Int64) (x10 : Int32), shX[a5]? = some (.inr (1, na5, [])) → f_Reck_meanByClub_55_l h n x1 x3 a5 na5 x6 x7 x8 x10 = some res → am_W (X_Reck_meanByClub (d + 2)) 55 [some (.ref 12), some (.int x1), some (.int x2), some (.int x3), some (.int x4), some (.ref a5), some (.int x6), some (.int x7), some (.long x8), none, some (.int x10), none, none, none] [] h Q := by
  intro n
  induction n with
  | zero => intro x1 x2 x3 x4 a5 na5 x6 x7 x8 x10 sa5 e; exact am_nn e
  | succ n ih => intro x1 x2 x3 x4 a5 na5 x6 x7 x8 x10 sa5 e; exact t_Reck_meanByClub_55 (fun x1 x2 x3 x4 a5 na5 x6 x7 x8 x10 sa5 e => ih x1 x2 x3 x4 a5 na5 x6 x7 x8 x10 sa5 e) sa5 e q
theorem t_Reck_meanByClub_45 {d : Nat} {x1 : Int32} {x2 : Int32} {x3 : Int32} {x4 : Int32} {a5 : Nat} {na5 : Nat} {x6 : Int32} {y0 : Int32} {h : am_H} {Q : am_Q} {res : Int64} (sa5 : shX[a5]? = some (.inr (1, na5, []))) (e : f_Reck_meanByClub_45 h x1 x3 a5 na5 x6 y0 = some res) (q : Q (some (.long res)) h) : am_W (X_Reck_meanByClub (d + 2)) 45 [some (.ref 12), some (.int x1), some (.int x2), some (.int x3), some (.int x4), some (.ref a5), some (.int x6), none, none, none, none, none, none, none] [.int y0] h Q :=
  b_Reck_meanByClub_45 (d := (d + 2)) (sa5 := sa5) (k := (t_Reck_meanByClub_55_l q am_fu _ _ _ _ _ _ _ _ _ _ sa5 e))
theorem t_Reck_meanByClub_42 {d : Nat} {x1 : Int32} {x2 : Int32} {x3 : Int32} {x4 : Int32} {a5 : Nat} {na5 : Nat} {x6 : Int32} {y2 : Int32} {y1 : Int32} {h : am_H} {Q : am_Q} {res : Int64} (sa5 : shX[a5]? = some (.inr (1, na5, []))) (e : f_Reck_meanByClub_42 h x1 x3 a5 na5 x6 y2 y1 = some res) (q : Q (some (.long res)) h) : am_W (X_Reck_meanByClub (d + 2)) 42 [some (.ref 12), some (.int x1), some (.int x2), some (.int x3), some (.int x4), some (.ref a5), some (.int x6), none, none, none, none, none, none, none] [.int y2, .int y1, .ref 1] h Q :=
  (am_bd e).elim fun p hp => b_Reck_meanByClub_42 (d := (d + 1)) (sa5 := sa5) (k := c_Hole_aim (d := d + 1) hp.1 (t_Reck_meanByClub_45 sa5 hp.2 q))
theorem t_Reck_meanByClub_27 {d : Nat} {x1 : Int32} {x2 : Int32} {x3 : Int32} {x4 : Int32} {a5 : Nat} {na5 : Nat} {y0 : Int32} {h : am_H} {Q : am_Q} {res : Int64} (sa5 : shX[a5]? = some (.inr (1, na5, []))) (e : f_Reck_meanByClub_27 h x1 x2 x3 a5 na5 y0 = some res) (q : Q (some (.long res)) h) : am_W (X_Reck_meanByClub (d + 2)) 27 [some (.ref 12), some (.int x1), some (.int x2), some (.int x3), some (.int x4), some (.ref a5), none, none, none, none, none, none, none, none] [.int y0] h Q :=
  (am_bd e).elim fun p hp => b_Reck_meanByClub_27 (d := (d + 1)) (sa5 := sa5) (k := c_Hole_carryOf (d := d) hp.1 (t_Reck_meanByClub_42 sa5 hp.2 q))
theorem t_Reck_meanByClub_17 {d : Nat} {x1 : Int32} {x2 : Int32} {x3 : Int32} {x4 : Int32} {b0 : Nat} {nb0 : Nat} {h : am_H} {Q : am_Q} {res : Int64} (sb0 : shX[b0]? = some (.inr (1, nb0, []))) (e : f_Reck_meanByClub_17 h x1 x2 x3 b0 nb0 = some res) (q : Q (some (.long res)) h) : am_W (X_Reck_meanByClub (d + 2)) 17 [some (.ref 12), some (.int x1), some (.int x2), some (.int x3), some (.int x4), none, none, none, none, none, none, none, none, none] [.ref b0] h Q :=
  (am_bd e).elim fun p hp => b_Reck_meanByClub_17 (d := (d + 1)) (sb0 := sb0) (k := c_Hole_spreadOf (d := d) hp.1 (t_Reck_meanByClub_27 sb0 hp.2 q))
theorem t_Reck_meanByClub_13 {d : Nat} {x1 : Int32} {x2 : Int32} {x3 : Int32} {x4 : Int32} {h : am_H} {Q : am_Q} {res : Int64} (e : f_Reck_meanByClub_13 h x1 x2 x3 = some res) (q : Q (some (.long res)) h) : am_W (X_Reck_meanByClub (d + 2)) 13 [some (.ref 12), some (.int x1), some (.int x2), some (.int x3), some (.int x4), none, none, none, none, none, none, none, none, none] [] h Q :=
  b_Reck_meanByClub_13 (d := (d + 2)) (k := (t_Reck_meanByClub_17 rfl e q))
theorem t_Reck_meanByClub_6 {d : Nat} {x1 : Int32} {x2 : Int32} {x3 : Int32} {x4 : Int32} {h : am_H} {Q : am_Q} {res : Int64} (e : f_Reck_meanByClub_6 h x1 x2 x3 = some res) (q : Q (some (.long res)) h) : am_W (X_Reck_meanByClub (d + 2)) 6 [some (.ref 12), some (.int x1), some (.int x2), some (.int x3), some (.int x4), none, none, none, none, none, none, none, none, none] [] h Q :=
  b_Reck_meanByClub_6 (d := (d + 2)) (k := (t_Reck_meanByClub_17 rfl e q))
theorem t_Reck_meanByClub_0 {d : Nat} {x1 : Int32} {x2 : Int32} {x3 : Int32} {x4 : Int32} {h : am_H} {Q : am_Q} {res : Int64} (e : f_Reck_meanByClub h x1 x2 x3 x4 = some res) (q : Q (some (.long res)) h) : am_W (X_Reck_meanByClub (d + 2)) 0 [some (.ref 12), some (.int x1), some (.int x2), some (.int x3), some (.int x4), none, none, none, none, none, none, none, none, none] [] h Q :=
  b_Reck_meanByClub_0 (d := (d + 2)) (kt := fun c => (t_Reck_meanByClub_13 (am_ife e c) q)) (kf := fun c => (t_Reck_meanByClub_6 (am_ift e c) q))
theorem c_Reck_meanByClub {d : Nat} {x1 : Int32} {x2 : Int32} {x3 : Int32} {x4 : Int32} {h : am_H} {Q : am_Q} {res : Int64} (e : f_Reck_meanByClub h x1 x2 x3 x4 = some res) (q : Q (some (.long res)) h) : m_Reck_meanByClub (d + 2) [.ref 12, .int x1, .int x2, .int x3, .int x4] h Q :=
  e_Reck_meanByClub (t_Reck_meanByClub_0 e q)
