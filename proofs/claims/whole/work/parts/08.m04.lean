theorem d_Reck_workOut_0 : decode prog_7_method_11_code 0 = .ok (.aload_n 0, 1) := by decide +kernel
theorem d_Reck_workOut_1 : decode prog_7_method_11_code 1 = .ok (.getfield 57, 3) := by decide +kernel
theorem d_Reck_workOut_4 : decode prog_7_method_11_code 4 = .ok (.iload_n 1, 1) := by decide +kernel
theorem d_Reck_workOut_5 : decode prog_7_method_11_code 5 = .ok (.invokevirtual 142, 3) := by decide +kernel
theorem d_Reck_workOut_8 : decode prog_7_method_11_code 8 = .ok (.ifCond .eq 22, 3) := by decide +kernel
theorem d_Reck_workOut_11 : decode prog_7_method_11_code 11 = .ok (.aload_n 0, 1) := by decide +kernel
theorem d_Reck_workOut_12 : decode prog_7_method_11_code 12 = .ok (.getfield 57, 3) := by decide +kernel
theorem d_Reck_workOut_15 : decode prog_7_method_11_code 15 = .ok (.iload_n 1, 1) := by decide +kernel
theorem d_Reck_workOut_16 : decode prog_7_method_11_code 16 = .ok (.invokevirtual 145, 3) := by decide +kernel
theorem d_Reck_workOut_19 : decode prog_7_method_11_code 19 = .ok (.i2l, 1) := by decide +kernel
theorem d_Reck_workOut_20 : decode prog_7_method_11_code 20 = .ok (.iload_n 2, 1) := by decide +kernel
theorem d_Reck_workOut_21 : decode prog_7_method_11_code 21 = .ok (.invokestatic 148, 3) := by decide +kernel
theorem d_Reck_workOut_24 : decode prog_7_method_11_code 24 = .ok (.ldc2_w 152, 3) := by decide +kernel
theorem d_Reck_workOut_27 : decode prog_7_method_11_code 27 = .ok (.ldiv, 1) := by decide +kernel
theorem d_Reck_workOut_28 : decode prog_7_method_11_code 28 = .ok (.lmul, 1) := by decide +kernel
theorem d_Reck_workOut_29 : decode prog_7_method_11_code 29 = .ok (.lreturn, 1) := by decide +kernel
theorem d_Reck_workOut_30 : decode prog_7_method_11_code 30 = .ok (.iload_n 2, 1) := by decide +kernel
theorem d_Reck_workOut_31 : decode prog_7_method_11_code 31 = .ok (.ifCond .eq 13, 3) := by decide +kernel
theorem d_Reck_workOut_34 : decode prog_7_method_11_code 34 = .ok (.aload_n 0, 1) := by decide +kernel
theorem d_Reck_workOut_35 : decode prog_7_method_11_code 35 = .ok (.getfield 57, 3) := by decide +kernel
theorem d_Reck_workOut_38 : decode prog_7_method_11_code 38 = .ok (.invokevirtual 154, 3) := by decide +kernel
theorem d_Reck_workOut_41 : decode prog_7_method_11_code 41 = .ok (.ifCond .eq 18, 3) := by decide +kernel
theorem d_Reck_workOut_44 : decode prog_7_method_11_code 44 = .ok (.aload_n 0, 1) := by decide +kernel
theorem d_Reck_workOut_45 : decode prog_7_method_11_code 45 = .ok (.getfield 57, 3) := by decide +kernel
theorem d_Reck_workOut_48 : decode prog_7_method_11_code 48 = .ok (.iload_n 1, 1) := by decide +kernel
theorem d_Reck_workOut_49 : decode prog_7_method_11_code 49 = .ok (.invokevirtual 157, 3) := by decide +kernel
theorem d_Reck_workOut_52 : decode prog_7_method_11_code 52 = .ok (.i2l, 1) := by decide +kernel
theorem d_Reck_workOut_53 : decode prog_7_method_11_code 53 = .ok (.iload_n 2, 1) := by decide +kernel
theorem d_Reck_workOut_54 : decode prog_7_method_11_code 54 = .ok (.invokestatic 148, 3) := by decide +kernel
theorem d_Reck_workOut_57 : decode prog_7_method_11_code 57 = .ok (.lmul, 1) := by decide +kernel
theorem d_Reck_workOut_58 : decode prog_7_method_11_code 58 = .ok (.lreturn, 1) := by decide +kernel
theorem d_Reck_workOut_59 : decode prog_7_method_11_code 59 = .ok (.iload_n 3, 1) := by decide +kernel
theorem d_Reck_workOut_60 : decode prog_7_method_11_code 60 = .ok (.iconst 1, 1) := by decide +kernel
theorem d_Reck_workOut_61 : decode prog_7_method_11_code 61 = .ok (.if_icmp .ne 16, 3) := by decide +kernel
theorem d_Reck_workOut_64 : decode prog_7_method_11_code 64 = .ok (.aload_n 0, 1) := by decide +kernel
theorem d_Reck_workOut_65 : decode prog_7_method_11_code 65 = .ok (.iload_n 1, 1) := by decide +kernel
theorem d_Reck_workOut_66 : decode prog_7_method_11_code 66 = .ok (.aload_n 0, 1) := by decide +kernel
theorem d_Reck_workOut_67 : decode prog_7_method_11_code 67 = .ok (.iload_n 1, 1) := by decide +kernel
theorem d_Reck_workOut_68 : decode prog_7_method_11_code 68 = .ok (.invokevirtual 160, 3) := by decide +kernel
theorem d_Reck_workOut_71 : decode prog_7_method_11_code 71 = .ok (.iload_n 2, 1) := by decide +kernel
theorem d_Reck_workOut_72 : decode prog_7_method_11_code 72 = .ok (.iconst 1, 1) := by decide +kernel
theorem d_Reck_workOut_73 : decode prog_7_method_11_code 73 = .ok (.invokevirtual 163, 3) := by decide +kernel
theorem d_Reck_workOut_76 : decode prog_7_method_11_code 76 = .ok (.lreturn, 1) := by decide +kernel
theorem d_Reck_workOut_77 : decode prog_7_method_11_code 77 = .ok (.iconst 0, 1) := by decide +kernel
theorem d_Reck_workOut_78 : decode prog_7_method_11_code 78 = .ok (.istore 4, 2) := by decide +kernel
theorem d_Reck_workOut_80 : decode prog_7_method_11_code 80 = .ok (.aload_n 0, 1) := by decide +kernel
theorem d_Reck_workOut_81 : decode prog_7_method_11_code 81 = .ok (.iload_n 1, 1) := by decide +kernel
theorem d_Reck_workOut_82 : decode prog_7_method_11_code 82 = .ok (.iconst 0, 1) := by decide +kernel
theorem d_Reck_workOut_83 : decode prog_7_method_11_code 83 = .ok (.iload_n 2, 1) := by decide +kernel
theorem d_Reck_workOut_84 : decode prog_7_method_11_code 84 = .ok (.iconst 0, 1) := by decide +kernel
theorem d_Reck_workOut_85 : decode prog_7_method_11_code 85 = .ok (.invokevirtual 163, 3) := by decide +kernel
theorem d_Reck_workOut_88 : decode prog_7_method_11_code 88 = .ok (.lstore 5, 2) := by decide +kernel
theorem d_Reck_workOut_90 : decode prog_7_method_11_code 90 = .ok (.iconst 1, 1) := by decide +kernel
theorem d_Reck_workOut_91 : decode prog_7_method_11_code 91 = .ok (.istore 7, 2) := by decide +kernel
theorem d_Reck_workOut_93 : decode prog_7_method_11_code 93 = .ok (.iload 7, 2) := by decide +kernel
theorem d_Reck_workOut_95 : decode prog_7_method_11_code 95 = .ok (.aload_n 0, 1) := by decide +kernel
theorem d_Reck_workOut_96 : decode prog_7_method_11_code 96 = .ok (.getfield 57, 3) := by decide +kernel
theorem d_Reck_workOut_99 : decode prog_7_method_11_code 99 = .ok (.invokevirtual 84, 3) := by decide +kernel
theorem d_Reck_workOut_102 : decode prog_7_method_11_code 102 = .ok (.if_icmp .ge 36, 3) := by decide +kernel
theorem d_Reck_workOut_105 : decode prog_7_method_11_code 105 = .ok (.aload_n 0, 1) := by decide +kernel
theorem d_Reck_workOut_106 : decode prog_7_method_11_code 106 = .ok (.iload_n 1, 1) := by decide +kernel
theorem d_Reck_workOut_107 : decode prog_7_method_11_code 107 = .ok (.iload 7, 2) := by decide +kernel
theorem d_Reck_workOut_109 : decode prog_7_method_11_code 109 = .ok (.iload_n 2, 1) := by decide +kernel
theorem d_Reck_workOut_110 : decode prog_7_method_11_code 110 = .ok (.iconst 0, 1) := by decide +kernel
theorem d_Reck_workOut_111 : decode prog_7_method_11_code 111 = .ok (.invokevirtual 163, 3) := by decide +kernel
theorem d_Reck_workOut_114 : decode prog_7_method_11_code 114 = .ok (.lstore 8, 2) := by decide +kernel
theorem d_Reck_workOut_116 : decode prog_7_method_11_code 116 = .ok (.lload 8, 2) := by decide +kernel
theorem d_Reck_workOut_118 : decode prog_7_method_11_code 118 = .ok (.lload 5, 2) := by decide +kernel
theorem d_Reck_workOut_120 : decode prog_7_method_11_code 120 = .ok (.lcmp, 1) := by decide +kernel
theorem d_Reck_workOut_121 : decode prog_7_method_11_code 121 = .ok (.ifCond .ge 11, 3) := by decide +kernel
theorem d_Reck_workOut_124 : decode prog_7_method_11_code 124 = .ok (.lload 8, 2) := by decide +kernel
theorem d_Reck_workOut_126 : decode prog_7_method_11_code 126 = .ok (.lstore 5, 2) := by decide +kernel
theorem d_Reck_workOut_128 : decode prog_7_method_11_code 128 = .ok (.iload 7, 2) := by decide +kernel
theorem d_Reck_workOut_130 : decode prog_7_method_11_code 130 = .ok (.istore 4, 2) := by decide +kernel
theorem d_Reck_workOut_132 : decode prog_7_method_11_code 132 = .ok (.iinc 7 1, 3) := by decide +kernel
theorem d_Reck_workOut_135 : decode prog_7_method_11_code 135 = .ok (.goto (-42), 3) := by decide +kernel
theorem d_Reck_workOut_138 : decode prog_7_method_11_code 138 = .ok (.aload_n 0, 1) := by decide +kernel
theorem d_Reck_workOut_139 : decode prog_7_method_11_code 139 = .ok (.iload_n 1, 1) := by decide +kernel
theorem d_Reck_workOut_140 : decode prog_7_method_11_code 140 = .ok (.iload_n 2, 1) := by decide +kernel
theorem d_Reck_workOut_141 : decode prog_7_method_11_code 141 = .ok (.iload 4, 2) := by decide +kernel
theorem d_Reck_workOut_143 : decode prog_7_method_11_code 143 = .ok (.invokevirtual 167, 3) := by decide +kernel
theorem d_Reck_workOut_146 : decode prog_7_method_11_code 146 = .ok (.lload 5, 2) := by decide +kernel
theorem d_Reck_workOut_148 : decode prog_7_method_11_code 148 = .ok (.lreturn, 1) := by decide +kernel
theorem b_Reck_workOut_0 {d : Nat} {x1 : Int32} {x2 : Int32} {x3 : Int32} {h : am_H} {Q : am_Q} (k : m_Hole_isGreen d [.ref 1, .int x1] h (fun r hh => am_W (X_Reck_workOut (d + 1)) 8 [some (.ref 12), some (.int x1), some (.int x2), some (.int x3), none, none, none, none, none, none] (r.toList ++ []) hh Q)) : am_W (X_Reck_workOut (d + 1)) 0 [some (.ref 12), some (.int x1), some (.int x2), some (.int x3), none, none, none, none, none, none] [] h Q :=
  am_aload_n d_Reck_workOut_0 rfl (i := 0) rfl <|
    am_getR (ci := 3) (i := 0) rfl rfl rfl (Nat.le_of_ble_eq_true rfl) w_194 d_Reck_workOut_1 <|
    am_iload_n d_Reck_workOut_4 rfl (i := 1) rfl <|
    am_callV (vs := [.int x1]) (st := []) (k := 1) (ci := 1) rfl d_Reck_workOut_5 rfl rfl w_814 w_675 w_676 w_84 w_677 p_Hole_isGreen (Nat.le_of_ble_eq_true rfl) (Nat.le_of_ble_eq_true rfl) rfl k
theorem b_Reck_workOut_8 {d : Nat} {x1 : Int32} {x2 : Int32} {x3 : Int32} {y0 : Bool} {h : am_H} {Q : am_Q} (kt : (am_b y0) = 0 → am_W (X_Reck_workOut d) 30 [some (.ref 12), some (.int x1), some (.int x2), some (.int x3), none, none, none, none, none, none] [] h Q) (kf : ¬ (am_b y0) = 0 → am_W (X_Reck_workOut d) 11 [some (.ref 12), some (.int x1), some (.int x2), some (.int x3), none, none, none, none, none, none] [] h Q) : am_W (X_Reck_workOut d) 8 [some (.ref 12), some (.int x1), some (.int x2), some (.int x3), none, none, none, none, none, none] [.int (am_b y0)] h Q :=
  am_if_eq (tgt := 30) d_Reck_workOut_8 (by decide) kt kf
theorem b_Reck_workOut_11 {d : Nat} {x1 : Int32} {x2 : Int32} {x3 : Int32} {h : am_H} {Q : am_Q} (k : m_Hole_puttTwelfths d [.ref 1, .int x1] h (fun r hh => am_W (X_Reck_workOut (d + 1)) 19 [some (.ref 12), some (.int x1), some (.int x2), some (.int x3), none, none, none, none, none, none] (r.toList ++ []) hh Q)) : am_W (X_Reck_workOut (d + 1)) 11 [some (.ref 12), some (.int x1), some (.int x2), some (.int x3), none, none, none, none, none, none] [] h Q :=
  am_aload_n d_Reck_workOut_11 rfl (i := 0) rfl <|
    am_getR (ci := 3) (i := 0) rfl rfl rfl (Nat.le_of_ble_eq_true rfl) w_194 d_Reck_workOut_12 <|
    am_iload_n d_Reck_workOut_15 rfl (i := 1) rfl <|
    am_callV (vs := [.int x1]) (st := []) (k := 1) (ci := 1) rfl d_Reck_workOut_16 rfl rfl w_815 w_816 w_817 w_84 w_818 p_Hole_puttTwelfths (Nat.le_of_ble_eq_true rfl) (Nat.le_of_ble_eq_true rfl) rfl k
theorem b_Reck_workOut_19 {d : Nat} {x1 : Int32} {x2 : Int32} {x3 : Int32} {y0 : Int32} {h : am_H} {Q : am_Q} (k : m_Reck_unit d [.int x2] h (fun r hh => am_W (X_Reck_workOut (d + 1)) 24 [some (.ref 12), some (.int x1), some (.int x2), some (.int x3), none, none, none, none, none, none] (r.toList ++ [.long y0.toInt64]) hh Q)) : am_W (X_Reck_workOut (d + 1)) 19 [some (.ref 12), some (.int x1), some (.int x2), some (.int x3), none, none, none, none, none, none] [.int y0] h Q :=
  am_i2l d_Reck_workOut_19 <|
    am_iload_n d_Reck_workOut_20 rfl (i := 2) rfl <|
    am_callS (vs := [.int x2]) (st := [.long y0.toInt64]) rfl d_Reck_workOut_21 w_819 w_820 w_87 w_821 p_Reck_unit (Nat.le_of_ble_eq_true rfl) (Nat.le_of_ble_eq_true rfl) rfl k
theorem b_Reck_workOut_24 {d : Nat} {x1 : Int32} {x2 : Int32} {x3 : Int32} {y1 : Int64} {y0 : Int64} {h : am_H} {Q : am_Q} (q : Q (some (.long (y0 * (y1 / 12)))) h) : am_W (X_Reck_workOut d) 24 [some (.ref 12), some (.int x1), some (.int x2), some (.int x3), none, none, none, none, none, none] [.long y1, .long y0] h Q :=
  am_ldc2 (v := 12) d_Reck_workOut_24 w_824 <|
    am_ldiv d_Reck_workOut_27 (by decide) <|
    am_lmul d_Reck_workOut_28 <|
    am_lret rfl d_Reck_workOut_29 q
theorem b_Reck_workOut_30 {d : Nat} {x1 : Int32} {x2 : Int32} {x3 : Int32} {h : am_H} {Q : am_Q} (kt : x2 = 0 → am_W (X_Reck_workOut d) 44 [some (.ref 12), some (.int x1), some (.int x2), some (.int x3), none, none, none, none, none, none] [] h Q) (kf : ¬ x2 = 0 → am_W (X_Reck_workOut d) 34 [some (.ref 12), some (.int x1), some (.int x2), some (.int x3), none, none, none, none, none, none] [] h Q) : am_W (X_Reck_workOut d) 30 [some (.ref 12), some (.int x1), some (.int x2), some (.int x3), none, none, none, none, none, none] [] h Q :=
  am_iload_n d_Reck_workOut_30 rfl (i := 2) rfl <|
    am_if_eq (tgt := 44) d_Reck_workOut_31 (by decide) kt kf
theorem b_Reck_workOut_34 {d : Nat} {x1 : Int32} {x2 : Int32} {x3 : Int32} {h : am_H} {Q : am_Q} (k : m_Hole_hasNoClubs d [.ref 1] h (fun r hh => am_W (X_Reck_workOut (d + 1)) 41 [some (.ref 12), some (.int x1), some (.int x2), some (.int x3), none, none, none, none, none, none] (r.toList ++ []) hh Q)) : am_W (X_Reck_workOut (d + 1)) 34 [some (.ref 12), some (.int x1), some (.int x2), some (.int x3), none, none, none, none, none, none] [] h Q :=
  am_aload_n d_Reck_workOut_34 rfl (i := 0) rfl <|
    am_getR (ci := 3) (i := 0) rfl rfl rfl (Nat.le_of_ble_eq_true rfl) w_194 d_Reck_workOut_35 <|
    am_callV (vs := []) (st := []) (k := 1) (ci := 1) rfl d_Reck_workOut_38 rfl rfl w_825 w_736 w_737 w_84 w_738 p_Hole_hasNoClubs (Nat.le_of_ble_eq_true rfl) (Nat.le_of_ble_eq_true rfl) rfl k
theorem b_Reck_workOut_41 {d : Nat} {x1 : Int32} {x2 : Int32} {x3 : Int32} {y0 : Bool} {h : am_H} {Q : am_Q} (kt : (am_b y0) = 0 → am_W (X_Reck_workOut d) 59 [some (.ref 12), some (.int x1), some (.int x2), some (.int x3), none, none, none, none, none, none] [] h Q) (kf : ¬ (am_b y0) = 0 → am_W (X_Reck_workOut d) 44 [some (.ref 12), some (.int x1), some (.int x2), some (.int x3), none, none, none, none, none, none] [] h Q) : am_W (X_Reck_workOut d) 41 [some (.ref 12), some (.int x1), some (.int x2), some (.int x3), none, none, none, none, none, none] [.int (am_b y0)] h Q :=
  am_if_eq (tgt := 59) d_Reck_workOut_41 (by decide) kt kf
theorem b_Reck_workOut_44 {d : Nat} {x1 : Int32} {x2 : Int32} {x3 : Int32} {h : am_H} {Q : am_Q} (k : m_Hole_strokesUnplayed d [.ref 1, .int x1] h (fun r hh => am_W (X_Reck_workOut (d + 1)) 52 [some (.ref 12), some (.int x1), some (.int x2), some (.int x3), none, none, none, none, none, none] (r.toList ++ []) hh Q)) : am_W (X_Reck_workOut (d + 1)) 44 [some (.ref 12), some (.int x1), some (.int x2), some (.int x3), none, none, none, none, none, none] [] h Q :=
  am_aload_n d_Reck_workOut_44 rfl (i := 0) rfl <|
    am_getR (ci := 3) (i := 0) rfl rfl rfl (Nat.le_of_ble_eq_true rfl) w_194 d_Reck_workOut_45 <|
    am_iload_n d_Reck_workOut_48 rfl (i := 1) rfl <|
    am_callV (vs := [.int x1]) (st := []) (k := 1) (ci := 1) rfl d_Reck_workOut_49 rfl rfl w_826 w_827 w_828 w_84 w_829 p_Hole_strokesUnplayed (Nat.le_of_ble_eq_true rfl) (Nat.le_of_ble_eq_true rfl) rfl k
theorem b_Reck_workOut_52 {d : Nat} {x1 : Int32} {x2 : Int32} {x3 : Int32} {y0 : Int32} {h : am_H} {Q : am_Q} (k : m_Reck_unit d [.int x2] h (fun r hh => am_W (X_Reck_workOut (d + 1)) 57 [some (.ref 12), some (.int x1), some (.int x2), some (.int x3), none, none, none, none, none, none] (r.toList ++ [.long y0.toInt64]) hh Q)) : am_W (X_Reck_workOut (d + 1)) 52 [some (.ref 12), some (.int x1), some (.int x2), some (.int x3), none, none, none, none, none, none] [.int y0] h Q :=
  am_i2l d_Reck_workOut_52 <|
    am_iload_n d_Reck_workOut_53 rfl (i := 2) rfl <|
    am_callS (vs := [.int x2]) (st := [.long y0.toInt64]) rfl d_Reck_workOut_54 w_819 w_820 w_87 w_821 p_Reck_unit (Nat.le_of_ble_eq_true rfl) (Nat.le_of_ble_eq_true rfl) rfl k
theorem b_Reck_workOut_57 {d : Nat} {x1 : Int32} {x2 : Int32} {x3 : Int32} {y1 : Int64} {y0 : Int64} {h : am_H} {Q : am_Q} (q : Q (some (.long (y0 * y1))) h) : am_W (X_Reck_workOut d) 57 [some (.ref 12), some (.int x1), some (.int x2), some (.int x3), none, none, none, none, none, none] [.long y1, .long y0] h Q :=
  am_lmul d_Reck_workOut_57 <|
    am_lret rfl d_Reck_workOut_58 q
theorem b_Reck_workOut_59 {d : Nat} {x1 : Int32} {x2 : Int32} {x3 : Int32} {h : am_H} {Q : am_Q} (kt : ¬ x3 = 1 → am_W (X_Reck_workOut d) 77 [some (.ref 12), some (.int x1), some (.int x2), some (.int x3), none, none, none, none, none, none] [] h Q) (kf : x3 = 1 → am_W (X_Reck_workOut d) 64 [some (.ref 12), some (.int x1), some (.int x2), some (.int x3), none, none, none, none, none, none] [] h Q) : am_W (X_Reck_workOut d) 59 [some (.ref 12), some (.int x1), some (.int x2), some (.int x3), none, none, none, none, none, none] [] h Q :=
  am_iload_n d_Reck_workOut_59 rfl (i := 3) rfl <|
    am_iconst (v := 1) d_Reck_workOut_60 (by decide) <|
    am_icmp_ne (tgt := 77) d_Reck_workOut_61 (by decide) kt kf
theorem b_Reck_workOut_64 {d : Nat} {x1 : Int32} {x2 : Int32} {x3 : Int32} {h : am_H} {Q : am_Q} (k : m_Reck_lawfulClub d [.ref 12, .int x1] h (fun r hh => am_W (X_Reck_workOut (d + 1)) 71 [some (.ref 12), some (.int x1), some (.int x2), some (.int x3), none, none, none, none, none, none] (r.toList ++ [.int x1, .ref 12]) hh Q)) : am_W (X_Reck_workOut (d + 1)) 64 [some (.ref 12), some (.int x1), some (.int x2), some (.int x3), none, none, none, none, none, none] [] h Q :=
  am_aload_n d_Reck_workOut_64 rfl (i := 0) rfl <|
    am_iload_n d_Reck_workOut_65 rfl (i := 1) rfl <|
    am_aload_n d_Reck_workOut_66 rfl (i := 0) rfl <|
    am_iload_n d_Reck_workOut_67 rfl (i := 1) rfl <|
    am_callV (vs := [.int x1]) (st := [.int x1, .ref 12]) (k := 12) (ci := 3) rfl d_Reck_workOut_68 rfl rfl w_831 w_832 w_833 w_87 w_834 p_Reck_lawfulClub (Nat.le_of_ble_eq_true rfl) (Nat.le_of_ble_eq_true rfl) rfl k
theorem b_Reck_workOut_71 {d : Nat} {x1 : Int32} {x2 : Int32} {x3 : Int32} {y2 : Int32} {y1 : Int32} {h : am_H} {Q : am_Q} (k : m_Reck_meanByClub d [.ref 12, .int y1, .int y2, .int x2, .int 1] h (fun r hh => am_W (X_Reck_workOut (d + 1)) 76 [some (.ref 12), some (.int x1), some (.int x2), some (.int x3), none, none, none, none, none, none] (r.toList ++ []) hh Q)) : am_W (X_Reck_workOut (d + 1)) 71 [some (.ref 12), some (.int x1), some (.int x2), some (.int x3), none, none, none, none, none, none] [.int y2, .int y1, .ref 12] h Q :=
  am_iload_n d_Reck_workOut_71 rfl (i := 2) rfl <|
    am_iconst (v := 1) d_Reck_workOut_72 (by decide) <|
    am_callV (vs := [.int y1, .int y2, .int x2, .int 1]) (st := []) (k := 12) (ci := 3) rfl d_Reck_workOut_73 rfl rfl w_835 w_837 w_17 w_87 w_838 p_Reck_meanByClub (Nat.le_of_ble_eq_true rfl) (Nat.le_of_ble_eq_true rfl) rfl k
theorem b_Reck_workOut_76 {d : Nat} {x1 : Int32} {x2 : Int32} {x3 : Int32} {y0 : Int64} {h : am_H} {Q : am_Q} (q : Q (some (.long y0)) h) : am_W (X_Reck_workOut d) 76 [some (.ref 12), some (.int x1), some (.int x2), some (.int x3), none, none, none, none, none, none] [.long y0] h Q :=
  am_lret rfl d_Reck_workOut_76 q
theorem b_Reck_workOut_77 {d : Nat} {x1 : Int32} {x2 : Int32} {x3 : Int32} {h : am_H} {Q : am_Q} (k : m_Reck_meanByClub d [.ref 12, .int x1, .int 0, .int x2, .int 0] h (fun r hh => am_W (X_Reck_workOut (d + 1)) 88 [some (.ref 12), some (.int x1), some (.int x2), some (.int x3), some (.int 0), none, none, none, none, none] (r.toList ++ []) hh Q)) : am_W (X_Reck_workOut (d + 1)) 77 [some (.ref 12), some (.int x1), some (.int x2), some (.int x3), none, none, none, none, none, none] [] h Q :=
  am_iconst (v := 0) d_Reck_workOut_77 (by decide) <|
    am_istore (ls' := [some (.ref 12), some (.int x1), some (.int x2), some (.int x3), some (.int 0), none, none, none, none, none]) d_Reck_workOut_78 (Nat.le_of_ble_eq_true rfl) rfl <|
    am_aload_n d_Reck_workOut_80 rfl (i := 0) rfl <|
    am_iload_n d_Reck_workOut_81 rfl (i := 1) rfl <|
    am_iconst (v := 0) d_Reck_workOut_82 (by decide) <|
    am_iload_n d_Reck_workOut_83 rfl (i := 2) rfl <|
    am_iconst (v := 0) d_Reck_workOut_84 (by decide) <|
    am_callV (vs := [.int x1, .int 0, .int x2, .int 0]) (st := []) (k := 12) (ci := 3) rfl d_Reck_workOut_85 rfl rfl w_835 w_837 w_17 w_87 w_838 p_Reck_meanByClub (Nat.le_of_ble_eq_true rfl) (Nat.le_of_ble_eq_true rfl) rfl k
theorem b_Reck_workOut_88 {d : Nat} {x1 : Int32} {x2 : Int32} {x3 : Int32} {x4 : Int32} {y0 : Int64} {h : am_H} {Q : am_Q} (k : am_W (X_Reck_workOut d) 93 [some (.ref 12), some (.int x1), some (.int x2), some (.int x3), some (.int x4), some (.long y0), none, some (.int 1), none, none] [] h Q) : am_W (X_Reck_workOut d) 88 [some (.ref 12), some (.int x1), some (.int x2), some (.int x3), some (.int x4), none, none, none, none, none] [.long y0] h Q :=
  am_lstore (ls' := [some (.ref 12), some (.int x1), some (.int x2), some (.int x3), some (.int x4), some (.long y0), none, none, none, none]) d_Reck_workOut_88 (Nat.le_of_ble_eq_true rfl) rfl <|
    am_iconst (v := 1) d_Reck_workOut_90 (by decide) <|
    am_istore (ls' := [some (.ref 12), some (.int x1), some (.int x2), some (.int x3), some (.int x4), some (.long y0), none, some (.int 1), none, none]) d_Reck_workOut_91 (Nat.le_of_ble_eq_true rfl) rfl <|
    k
theorem b_Reck_workOut_93 {d : Nat} {x1 : Int32} {x2 : Int32} {x3 : Int32} {x4 : Int32} {x5 : Int64} {x7 : Int32} {h : am_H} {Q : am_Q} (k : m_Hole_clubsHeld d [.ref 1] h (fun r hh => am_W (X_Reck_workOut (d + 1)) 102 [some (.ref 12), some (.int x1), some (.int x2), some (.int x3), some (.int x4), some (.long x5), none, some (.int x7), none, none] (r.toList ++ [.int x7]) hh Q)) : am_W (X_Reck_workOut (d + 1)) 93 [some (.ref 12), some (.int x1), some (.int x2), some (.int x3), some (.int x4), some (.long x5), none, some (.int x7), none, none] [] h Q :=
  am_iload d_Reck_workOut_93 rfl <|
    am_aload_n d_Reck_workOut_95 rfl (i := 0) rfl <|
    am_getR (ci := 3) (i := 0) rfl rfl rfl (Nat.le_of_ble_eq_true rfl) w_194 d_Reck_workOut_96 <|
    am_callV (vs := []) (st := [.int x7]) (k := 1) (ci := 1) rfl d_Reck_workOut_99 rfl rfl w_788 w_789 w_790 w_84 w_791 p_Hole_clubsHeld (Nat.le_of_ble_eq_true rfl) (Nat.le_of_ble_eq_true rfl) rfl k
theorem b_Reck_workOut_102 {d : Nat} {x1 : Int32} {x2 : Int32} {x3 : Int32} {x4 : Int32} {x5 : Int64} {x7 : Int32} {y1 : Int32} {y0 : Int32} {h : am_H} {Q : am_Q} (kt : y1 ≤ y0 → am_W (X_Reck_workOut d) 138 [some (.ref 12), some (.int x1), some (.int x2), some (.int x3), some (.int x4), some (.long x5), none, some (.int x7), none, none] [] h Q) (kf : ¬ y1 ≤ y0 → am_W (X_Reck_workOut d) 105 [some (.ref 12), some (.int x1), some (.int x2), some (.int x3), some (.int x4), some (.long x5), none, some (.int x7), none, none] [] h Q) : am_W (X_Reck_workOut d) 102 [some (.ref 12), some (.int x1), some (.int x2), some (.int x3), some (.int x4), some (.long x5), none, some (.int x7), none, none] [.int y1, .int y0] h Q :=
  am_icmp_ge (tgt := 138) d_Reck_workOut_102 (by decide) kt kf
theorem b_Reck_workOut_105 {d : Nat} {x1 : Int32} {x2 : Int32} {x3 : Int32} {x4 : Int32} {x5 : Int64} {x7 : Int32} {h : am_H} {Q : am_Q} (k : m_Reck_meanByClub d [.ref 12, .int x1, .int x7, .int x2, .int 0] h (fun r hh => am_W (X_Reck_workOut (d + 1)) 114 [some (.ref 12), some (.int x1), some (.int x2), some (.int x3), some (.int x4), some (.long x5), none, some (.int x7), none, none] (r.toList ++ []) hh Q)) : am_W (X_Reck_workOut (d + 1)) 105 [some (.ref 12), some (.int x1), some (.int x2), some (.int x3), some (.int x4), some (.long x5), none, some (.int x7), none, none] [] h Q :=
  am_aload_n d_Reck_workOut_105 rfl (i := 0) rfl <|
    am_iload_n d_Reck_workOut_106 rfl (i := 1) rfl <|
    am_iload d_Reck_workOut_107 rfl <|
    am_iload_n d_Reck_workOut_109 rfl (i := 2) rfl <|
    am_iconst (v := 0) d_Reck_workOut_110 (by decide) <|
    am_callV (vs := [.int x1, .int x7, .int x2, .int 0]) (st := []) (k := 12) (ci := 3) rfl d_Reck_workOut_111 rfl rfl w_835 w_837 w_17 w_87 w_838 p_Reck_meanByClub (Nat.le_of_ble_eq_true rfl) (Nat.le_of_ble_eq_true rfl) rfl k
theorem b_Reck_workOut_114 {d : Nat} {x1 : Int32} {x2 : Int32} {x3 : Int32} {x4 : Int32} {x5 : Int64} {x7 : Int32} {y0 : Int64} {h : am_H} {Q : am_Q} (kt : x5 ≤ y0 → am_W (X_Reck_workOut d) 132 [some (.ref 12), some (.int x1), some (.int x2), some (.int x3), some (.int x4), some (.long x5), none, some (.int x7), some (.long y0), none] [] h Q) (kf : ¬ x5 ≤ y0 → am_W (X_Reck_workOut d) 124 [some (.ref 12), some (.int x1), some (.int x2), some (.int x3), some (.int x4), some (.long x5), none, some (.int x7), some (.long y0), none] [] h Q) : am_W (X_Reck_workOut d) 114 [some (.ref 12), some (.int x1), some (.int x2), some (.int x3), some (.int x4), some (.long x5), none, some (.int x7), none, none] [.long y0] h Q :=
  am_lstore (ls' := [some (.ref 12), some (.int x1), some (.int x2), some (.int x3), some (.int x4), some (.long x5), none, some (.int x7), some (.long y0), none]) d_Reck_workOut_114 (Nat.le_of_ble_eq_true rfl) rfl <|
    am_lload d_Reck_workOut_116 rfl <|
    am_lload d_Reck_workOut_118 rfl <|
    am_lc_if_ge (tgt := 132) d_Reck_workOut_120 d_Reck_workOut_121 (by decide) kt kf
theorem b_Reck_workOut_124 {d : Nat} {x1 : Int32} {x2 : Int32} {x3 : Int32} {x4 : Int32} {x5 : Int64} {x7 : Int32} {x8 : Int64} {h : am_H} {Q : am_Q} (k : am_W (X_Reck_workOut d) 132 [some (.ref 12), some (.int x1), some (.int x2), some (.int x3), some (.int x7), some (.long x8), none, some (.int x7), some (.long x8), none] [] h Q) : am_W (X_Reck_workOut d) 124 [some (.ref 12), some (.int x1), some (.int x2), some (.int x3), some (.int x4), some (.long x5), none, some (.int x7), some (.long x8), none] [] h Q :=
  am_lload d_Reck_workOut_124 rfl <|
    am_lstore (ls' := [some (.ref 12), some (.int x1), some (.int x2), some (.int x3), some (.int x4), some (.long x8), none, some (.int x7), some (.long x8), none]) d_Reck_workOut_126 (Nat.le_of_ble_eq_true rfl) rfl <|
    am_iload d_Reck_workOut_128 rfl <|
    am_istore (ls' := [some (.ref 12), some (.int x1), some (.int x2), some (.int x3), some (.int x7), some (.long x8), none, some (.int x7), some (.long x8), none]) d_Reck_workOut_130 (Nat.le_of_ble_eq_true rfl) rfl <|
    k
theorem b_Reck_workOut_132 {d : Nat} {x1 : Int32} {x2 : Int32} {x3 : Int32} {x4 : Int32} {x5 : Int64} {x7 : Int32} {x8 : Int64} {h : am_H} {Q : am_Q} (k : am_W (X_Reck_workOut d) 93 [some (.ref 12), some (.int x1), some (.int x2), some (.int x3), some (.int x4), some (.long x5), none, some (.int (x7 + 1)), some (.long x8), none] [] h Q) : am_W (X_Reck_workOut d) 132 [some (.ref 12), some (.int x1), some (.int x2), some (.int x3), some (.int x4), some (.long x5), none, some (.int x7), some (.long x8), none] [] h Q :=
  am_iinc (v := (x7 + 1)) (ls' := [some (.ref 12), some (.int x1), some (.int x2), some (.int x3), some (.int x4), some (.long x5), none, some (.int (x7 + 1)), some (.long x8), none]) d_Reck_workOut_132 rfl rfl (Nat.le_of_ble_eq_true rfl) rfl <|
    am_goto (tgt := 93) d_Reck_workOut_135 (by decide) k
theorem b_Reck_workOut_138 {d : Nat} {x1 : Int32} {x2 : Int32} {x3 : Int32} {x4 : Int32} {x5 : Int64} {x7 : Int32} {h : am_H} {Q : am_Q} (k : m_Reck_keepBest d [.ref 12, .int x1, .int x2, .int x4] h (fun r hh => am_W (X_Reck_workOut (d + 1)) 146 [some (.ref 12), some (.int x1), some (.int x2), some (.int x3), some (.int x4), some (.long x5), none, some (.int x7), none, none] (r.toList ++ []) hh Q)) : am_W (X_Reck_workOut (d + 1)) 138 [some (.ref 12), some (.int x1), some (.int x2), some (.int x3), some (.int x4), some (.long x5), none, some (.int x7), none, none] [] h Q :=
  am_aload_n d_Reck_workOut_138 rfl (i := 0) rfl <|
    am_iload_n d_Reck_workOut_139 rfl (i := 1) rfl <|
    am_iload_n d_Reck_workOut_140 rfl (i := 2) rfl <|
    am_iload d_Reck_workOut_141 rfl <|
    am_callV (vs := [.int x1, .int x2, .int x4]) (st := []) (k := 12) (ci := 3) rfl d_Reck_workOut_143 rfl rfl w_844 w_846 w_18 w_87 w_847 p_Reck_keepBest (Nat.le_of_ble_eq_true rfl) (Nat.le_of_ble_eq_true rfl) rfl k
theorem b_Reck_workOut_146 {d : Nat} {x1 : Int32} {x2 : Int32} {x3 : Int32} {x4 : Int32} {x5 : Int64} {x7 : Int32} {h : am_H} {Q : am_Q} (q : Q (some (.long x5)) h) : am_W (X_Reck_workOut d) 146 [some (.ref 12), some (.int x1), some (.int x2), some (.int x3), some (.int x4), some (.long x5), none, some (.int x7), none, none] [] h Q :=
  am_lload d_Reck_workOut_146 rfl <|
    am_lret rfl d_Reck_workOut_148 q
theorem t_Reck_workOut_57 {d : Nat} {x1 : Int32} {x2 : Int32} {x3 : Int32} {y1 : Int64} {y0 : Int64} {h : am_H} {Q : am_Q} {res : Int64 × am_H} (e : f_Reck_workOut_57 h y1 y0 = some res) (q : Q (some (.long res.1)) res.2) : am_W (X_Reck_workOut (d + 3)) 57 [some (.ref 12), some (.int x1), some (.int x2), some (.int x3), none, none, none, none, none, none] [.long y1, .long y0] h Q :=
  b_Reck_workOut_57 (d := (d + 3)) (q := (am_rJpi (v := (y0 * y1)) e q))
theorem t_Reck_workOut_52 {d : Nat} {x1 : Int32} {x2 : Int32} {x3 : Int32} {y0 : Int32} {h : am_H} {Q : am_Q} {res : Int64 × am_H} (e : f_Reck_workOut_52 h x2 y0 = some res) (q : Q (some (.long res.1)) res.2) : am_W (X_Reck_workOut (d + 3)) 52 [some (.ref 12), some (.int x1), some (.int x2), some (.int x3), none, none, none, none, none, none] [.int y0] h Q :=
  (am_bd e).elim fun p hp => b_Reck_workOut_52 (d := (d + 2)) (k := c_Reck_unit (d := d + 2) hp.1 (t_Reck_workOut_57 hp.2 q))
theorem t_Reck_workOut_44 {d : Nat} {x1 : Int32} {x2 : Int32} {x3 : Int32} {h : am_H} {Q : am_Q} {res : Int64 × am_H} (e : f_Reck_workOut_44 h x1 x2 = some res) (q : Q (some (.long res.1)) res.2) : am_W (X_Reck_workOut (d + 3)) 44 [some (.ref 12), some (.int x1), some (.int x2), some (.int x3), none, none, none, none, none, none] [] h Q :=
  b_Reck_workOut_44 (d := (d + 2)) (k := c_Hole_strokesUnplayed (d := d + 1) rfl (t_Reck_workOut_52 e q))
theorem t_Reck_workOut_146 {d : Nat} {x1 : Int32} {x2 : Int32} {x3 : Int32} {x4 : Int32} {x5 : Int64} {x7 : Int32} {h : am_H} {Q : am_Q} {res : Int64 × am_H} (e : f_Reck_workOut_146 h x5 = some res) (q : Q (some (.long res.1)) res.2) : am_W (X_Reck_workOut (d + 3)) 146 [some (.ref 12), some (.int x1), some (.int x2), some (.int x3), some (.int x4), some (.long x5), none, some (.int x7), none, none] [] h Q :=
  b_Reck_workOut_146 (d := (d + 3)) (q := (am_rJpi (v := x5) e q))
theorem t_Reck_workOut_138 {d : Nat} {x1 : Int32} {x2 : Int32} {x3 : Int32} {x4 : Int32} {x5 : Int64} {x7 : Int32} {h : am_H} {Q : am_Q} {res : Int64 × am_H} (e : f_Reck_workOut_138 h x1 x2 x4 x5 = some res) (q : Q (some (.long res.1)) res.2) : am_W (X_Reck_workOut (d + 3)) 138 [some (.ref 12), some (.int x1), some (.int x2), some (.int x3), some (.int x4), some (.long x5), none, some (.int x7), none, none] [] h Q :=
  (am_bd e).elim fun p hp => b_Reck_workOut_138 (d := (d + 2)) (k := c_Reck_keepBest (d := d + 2) hp.1 (t_Reck_workOut_146 hp.2 q))
theorem t_Reck_workOut_132 {d : Nat} {k93 : am_H → Int32 → Int32 → Int32 → Int64 → Int32 → Option (Int64 × am_H)} {x1 : Int32} {x2 : Int32} {x3 : Int32} {x4 : Int32} {x5 : Int64} {x7 : Int32} {x8 : Int64} {h : am_H} {Q : am_Q} {res : Int64 × am_H} (hk93 : ∀ (x1 : Int32) (x2 : Int32) (x3 : Int32) (x4 : Int32) (x5 : Int64) (x7 : Int32) (h : am_H), k93 h x1 x2 x4 x5 x7 = some res → am_W (X_Reck_workOut (d + 3)) 93 [some (.ref 12), some (.int x1), some (.int x2), some (.int x3), some (.int x4), some (.long x5), none, some (.int x7), none, none] [] h Q) (e : f_Reck_workOut_132 k93 h x1 x2 x4 x5 x7 = some res) (q : Q (some (.long res.1)) res.2) : am_W (X_Reck_workOut (d + 3)) 132 [some (.ref 12), some (.int x1), some (.int x2), some (.int x3), some (.int x4), some (.long x5), none, some (.int x7), some (.long x8), none] [] h Q :=
  b_Reck_workOut_132 (d := (d + 3)) (k := (am_wk2 (hk93 _ _ _ _ _ _ _ e) ⟨rfl, ⟨rfl, ⟨rfl, ⟨rfl, ⟨rfl, ⟨rfl, ⟨rfl, trivial⟩⟩⟩⟩⟩⟩⟩))
theorem t_Reck_workOut_124 {d : Nat} {k93 : am_H → Int32 → Int32 → Int32 → Int64 → Int32 → Option (Int64 × am_H)} {x1 : Int32} {x2 : Int32} {x3 : Int32} {x4 : Int32} {x5 : Int64} {x7 : Int32} {x8 : Int64} {h : am_H} {Q : am_Q} {res : Int64 × am_H} (hk93 : ∀ (x1 : Int32) (x2 : Int32) (x3 : Int32) (x4 : Int32) (x5 : Int64) (x7 : Int32) (h : am_H), k93 h x1 x2 x4 x5 x7 = some res → am_W (X_Reck_workOut (d + 3)) 93 [some (.ref 12), some (.int x1), some (.int x2), some (.int x3), some (.int x4), some (.long x5), none, some (.int x7), none, none] [] h Q) (e : f_Reck_workOut_124 k93 h x1 x2 x7 x8 = some res) (q : Q (some (.long res.1)) res.2) : am_W (X_Reck_workOut (d + 3)) 124 [some (.ref 12), some (.int x1), some (.int x2), some (.int x3), some (.int x4), some (.long x5), none, some (.int x7), some (.long x8), none] [] h Q :=
  b_Reck_workOut_124 (d := (d + 3)) (k := (t_Reck_workOut_132 hk93 e q))
theorem t_Reck_workOut_114 {d : Nat} {k93 : am_H → Int32 → Int32 → Int32 → Int64 → Int32 → Option (Int64 × am_H)} {x1 : Int32} {x2 : Int32} {x3 : Int32} {x4 : Int32} {x5 : Int64} {x7 : Int32} {y0 : Int64} {h : am_H} {Q : am_Q} {res : Int64 × am_H} (hk93 : ∀ (x1 : Int32) (x2 : Int32) (x3 : Int32) (x4 : Int32) (x5 : Int64) (x7 : Int32) (h : am_H), k93 h x1 x2 x4 x5 x7 = some res → am_W (X_Reck_workOut (d + 3)) 93 [some (.ref 12), some (.int x1), some (.int x2), some (.int x3), some (.int x4), some (.long x5), none, some (.int x7), none, none] [] h Q) (e : f_Reck_workOut_114 k93 h x1 x2 x4 x5 x7 y0 = some res) (q : Q (some (.long res.1)) res.2) : am_W (X_Reck_workOut (d + 3)) 114 [some (.ref 12), some (.int x1), some (.int x2), some (.int x3), some (.int x4), some (.long x5), none, some (.int x7), none, none] [.long y0] h Q :=
  b_Reck_workOut_114 (d := (d + 3)) (kt := fun c => (t_Reck_workOut_132 hk93 (am_ift e c) q)) (kf := fun c => (t_Reck_workOut_124 hk93 (am_ife e c) q))
theorem t_Reck_workOut_105 {d : Nat} {k93 : am_H → Int32 → Int32 → Int32 → Int64 → Int32 → Option (Int64 × am_H)} {x1 : Int32} {x2 : Int32} {x3 : Int32} {x4 : Int32} {x5 : Int64} {x7 : Int32} {h : am_H} {Q : am_Q} {res : Int64 × am_H} (hk93 : ∀ (x1 : Int32) (x2 : Int32) (x3 : Int32) (x4 : Int32) (x5 : Int64) (x7 : Int32) (h : am_H), k93 h x1 x2 x4 x5 x7 = some res → am_W (X_Reck_workOut (d + 3)) 93 [some (.ref 12), some (.int x1), some (.int x2), some (.int x3), some (.int x4), some (.long x5), none, some (.int x7), none, none] [] h Q) (e : f_Reck_workOut_105 k93 h x1 x2 x4 x5 x7 = some res) (q : Q (some (.long res.1)) res.2) : am_W (X_Reck_workOut (d + 3)) 105 [some (.ref 12), some (.int x1), some (.int x2), some (.int x3), some (.int x4), some (.long x5), none, some (.int x7), none, none] [] h Q :=
  (am_bd e).elim fun p hp => b_Reck_workOut_105 (d := (d + 2)) (k := c_Reck_meanByClub (d := d) hp.1 (t_Reck_workOut_114 hk93 hp.2 q))
theorem t_Reck_workOut_102 {d : Nat} {k93 : am_H → Int32 → Int32 → Int32 → Int64 → Int32 → Option (Int64 × am_H)} {x1 : Int32} {x2 : Int32} {x3 : Int32} {x4 : Int32} {x5 : Int64} {x7 : Int32} {y1 : Int32} {y0 : Int32} {h : am_H} {Q : am_Q} {res : Int64 × am_H} (hk93 : ∀ (x1 : Int32) (x2 : Int32) (x3 : Int32) (x4 : Int32) (x5 : Int64) (x7 : Int32) (h : am_H), k93 h x1 x2 x4 x5 x7 = some res → am_W (X_Reck_workOut (d + 3)) 93 [some (.ref 12), some (.int x1), some (.int x2), some (.int x3), some (.int x4), some (.long x5), none, some (.int x7), none, none] [] h Q) (e : f_Reck_workOut_102 k93 h x1 x2 x4 x5 x7 y1 y0 = some res) (q : Q (some (.long res.1)) res.2) : am_W (X_Reck_workOut (d + 3)) 102 [some (.ref 12), some (.int x1), some (.int x2), some (.int x3), some (.int x4), some (.long x5), none, some (.int x7), none, none] [.int y1, .int y0] h Q :=
  b_Reck_workOut_102 (d := (d + 3)) (kt := fun c => (t_Reck_workOut_138 (am_ift e c) q)) (kf := fun c => (t_Reck_workOut_105 hk93 (am_ife e c) q))
theorem t_Reck_workOut_93 {d : Nat} {k93 : am_H → Int32 → Int32 → Int32 → Int64 → Int32 → Option (Int64 × am_H)} {x1 : Int32} {x2 : Int32} {x3 : Int32} {x4 : Int32} {x5 : Int64} {x7 : Int32} {h : am_H} {Q : am_Q} {res : Int64 × am_H} (hk93 : ∀ (x1 : Int32) (x2 : Int32) (x3 : Int32) (x4 : Int32) (x5 : Int64) (x7 : Int32) (h : am_H), k93 h x1 x2 x4 x5 x7 = some res → am_W (X_Reck_workOut (d + 3)) 93 [some (.ref 12), some (.int x1), some (.int x2), some (.int x3), some (.int x4), some (.long x5), none, some (.int x7), none, none] [] h Q) (e : f_Reck_workOut_93 k93 h x1 x2 x4 x5 x7 = some res) (q : Q (some (.long res.1)) res.2) : am_W (X_Reck_workOut (d + 3)) 93 [some (.ref 12), some (.int x1), some (.int x2), some (.int x3), some (.int x4), some (.long x5), none, some (.int x7), none, none] [] h Q :=
  b_Reck_workOut_93 (d := (d + 2)) (k := c_Hole_clubsHeld (d := d + 2) rfl (t_Reck_workOut_102 hk93 e q))
theorem t_Reck_workOut_93_l {d : Nat} {Q : am_Q} {res : Int64 × am_H} (q : Q (some (.long res.1)) res.2) : ∀ (n : Nat) (x1 : Int32) (x2 : Int32) (x3 : Int32) (x4 : Int32) (x5 : Int64) (x7 : Int32) (h : am_H), f_Reck_workOut_93_l n h x1 x2 x4 x5 x7 = some res → am_W (X_Reck_workOut (d + 3)) 93 [some (.ref 12), some (.int x1), some (.int x2), some (.int x3), some (.int x4), some (.long x5), none, some (.int x7), none, none] [] h Q := by
  intro n
  induction n with
  | zero => intro x1 x2 x3 x4 x5 x7 h e; exact am_nn e
  | succ n ih => intro x1 x2 x3 x4 x5 x7 h e; exact t_Reck_workOut_93 (fun x1 x2 x3 x4 x5 x7 h e => ih x1 x2 x3 x4 x5 x7 h  e) e q
theorem t_Reck_workOut_88 {d : Nat} {x1 : Int32} {x2 : Int32} {x3 : Int32} {x4 : Int32} {y0 : Int64} {h : am_H} {Q : am_Q} {res : Int64 × am_H} (e : f_Reck_workOut_88 h x1 x2 x4 y0 = some res) (q : Q (some (.long res.1)) res.2) : am_W (X_Reck_workOut (d + 3)) 88 [some (.ref 12), some (.int x1), some (.int x2), some (.int x3), some (.int x4), none, none, none, none, none] [.long y0] h Q :=
  b_Reck_workOut_88 (d := (d + 3)) (k := (t_Reck_workOut_93_l q am_fu _ _ _ _ _ _ _ e))
theorem t_Reck_workOut_77 {d : Nat} {x1 : Int32} {x2 : Int32} {x3 : Int32} {h : am_H} {Q : am_Q} {res : Int64 × am_H} (e : f_Reck_workOut_77 h x1 x2 = some res) (q : Q (some (.long res.1)) res.2) : am_W (X_Reck_workOut (d + 3)) 77 [some (.ref 12), some (.int x1), some (.int x2), some (.int x3), none, none, none, none, none, none] [] h Q :=
  (am_bd e).elim fun p hp => b_Reck_workOut_77 (d := (d + 2)) (k := c_Reck_meanByClub (d := d) hp.1 (t_Reck_workOut_88 hp.2 q))
theorem t_Reck_workOut_76 {d : Nat} {x1 : Int32} {x2 : Int32} {x3 : Int32} {y0 : Int64} {h : am_H} {Q : am_Q} {res : Int64 × am_H} (e : f_Reck_workOut_76 h y0 = some res) (q : Q (some (.long res.1)) res.2) : am_W (X_Reck_workOut (d + 3)) 76 [some (.ref 12), some (.int x1), some (.int x2), some (.int x3), none, none, none, none, none, none] [.long y0] h Q :=
  b_Reck_workOut_76 (d := (d + 3)) (q := (am_rJpi (v := y0) e q))
theorem t_Reck_workOut_71 {d : Nat} {x1 : Int32} {x2 : Int32} {x3 : Int32} {y2 : Int32} {y1 : Int32} {h : am_H} {Q : am_Q} {res : Int64 × am_H} (e : f_Reck_workOut_71 h x2 y2 y1 = some res) (q : Q (some (.long res.1)) res.2) : am_W (X_Reck_workOut (d + 3)) 71 [some (.ref 12), some (.int x1), some (.int x2), some (.int x3), none, none, none, none, none, none] [.int y2, .int y1, .ref 12] h Q :=
  (am_bd e).elim fun p hp => b_Reck_workOut_71 (d := (d + 2)) (k := c_Reck_meanByClub (d := d) hp.1 (t_Reck_workOut_76 hp.2 q))
theorem t_Reck_workOut_64 {d : Nat} {x1 : Int32} {x2 : Int32} {x3 : Int32} {h : am_H} {Q : am_Q} {res : Int64 × am_H} (e : f_Reck_workOut_64 h x1 x2 = some res) (q : Q (some (.long res.1)) res.2) : am_W (X_Reck_workOut (d + 3)) 64 [some (.ref 12), some (.int x1), some (.int x2), some (.int x3), none, none, none, none, none, none] [] h Q :=
  (am_bd e).elim fun p hp => b_Reck_workOut_64 (d := (d + 2)) (k := c_Reck_lawfulClub (d := d + 2) hp.1 (t_Reck_workOut_71 hp.2 q))
theorem t_Reck_workOut_59 {d : Nat} {x1 : Int32} {x2 : Int32} {x3 : Int32} {h : am_H} {Q : am_Q} {res : Int64 × am_H} (e : f_Reck_workOut_59 h x1 x2 x3 = some res) (q : Q (some (.long res.1)) res.2) : am_W (X_Reck_workOut (d + 3)) 59 [some (.ref 12), some (.int x1), some (.int x2), some (.int x3), none, none, none, none, none, none] [] h Q :=
  b_Reck_workOut_59 (d := (d + 3)) (kt := fun c => (t_Reck_workOut_77 (am_ife e c) q)) (kf := fun c => (t_Reck_workOut_64 (am_ift e c) q))
theorem t_Reck_workOut_41 {d : Nat} {x1 : Int32} {x2 : Int32} {x3 : Int32} {y0 : Bool} {h : am_H} {Q : am_Q} {res : Int64 × am_H} (e : f_Reck_workOut_41 h x1 x2 x3 y0 = some res) (q : Q (some (.long res.1)) res.2) : am_W (X_Reck_workOut (d + 3)) 41 [some (.ref 12), some (.int x1), some (.int x2), some (.int x3), none, none, none, none, none, none] [.int (am_b y0)] h Q :=
  b_Reck_workOut_41 (d := (d + 3)) (kt := fun c => (t_Reck_workOut_59 (am_iff e (am_bz c)) q)) (kf := fun c => (t_Reck_workOut_44 (am_ift e (am_bn c)) q))
theorem t_Reck_workOut_34 {d : Nat} {x1 : Int32} {x2 : Int32} {x3 : Int32} {h : am_H} {Q : am_Q} {res : Int64 × am_H} (e : f_Reck_workOut_34 h x1 x2 x3 = some res) (q : Q (some (.long res.1)) res.2) : am_W (X_Reck_workOut (d + 3)) 34 [some (.ref 12), some (.int x1), some (.int x2), some (.int x3), none, none, none, none, none, none] [] h Q :=
  b_Reck_workOut_34 (d := (d + 2)) (k := c_Hole_hasNoClubs (d := d + 2) rfl (t_Reck_workOut_41 e q))
theorem t_Reck_workOut_30 {d : Nat} {x1 : Int32} {x2 : Int32} {x3 : Int32} {h : am_H} {Q : am_Q} {res : Int64 × am_H} (e : f_Reck_workOut_30 h x1 x2 x3 = some res) (q : Q (some (.long res.1)) res.2) : am_W (X_Reck_workOut (d + 3)) 30 [some (.ref 12), some (.int x1), some (.int x2), some (.int x3), none, none, none, none, none, none] [] h Q :=
  b_Reck_workOut_30 (d := (d + 3)) (kt := fun c => (t_Reck_workOut_44 (am_ift e c) q)) (kf := fun c => (t_Reck_workOut_34 (am_ife e c) q))
theorem t_Reck_workOut_24 {d : Nat} {x1 : Int32} {x2 : Int32} {x3 : Int32} {y1 : Int64} {y0 : Int64} {h : am_H} {Q : am_Q} {res : Int64 × am_H} (e : f_Reck_workOut_24 h y1 y0 = some res) (q : Q (some (.long res.1)) res.2) : am_W (X_Reck_workOut (d + 3)) 24 [some (.ref 12), some (.int x1), some (.int x2), some (.int x3), none, none, none, none, none, none] [.long y1, .long y0] h Q :=
  b_Reck_workOut_24 (d := (d + 3)) (q := (am_rJpi (v := (y0 * (y1 / 12))) e q))
theorem t_Reck_workOut_19 {d : Nat} {x1 : Int32} {x2 : Int32} {x3 : Int32} {y0 : Int32} {h : am_H} {Q : am_Q} {res : Int64 × am_H} (e : f_Reck_workOut_19 h x2 y0 = some res) (q : Q (some (.long res.1)) res.2) : am_W (X_Reck_workOut (d + 3)) 19 [some (.ref 12), some (.int x1), some (.int x2), some (.int x3), none, none, none, none, none, none] [.int y0] h Q :=
  (am_bd e).elim fun p hp => b_Reck_workOut_19 (d := (d + 2)) (k := c_Reck_unit (d := d + 2) hp.1 (t_Reck_workOut_24 hp.2 q))
theorem t_Reck_workOut_11 {d : Nat} {x1 : Int32} {x2 : Int32} {x3 : Int32} {h : am_H} {Q : am_Q} {res : Int64 × am_H} (e : f_Reck_workOut_11 h x1 x2 = some res) (q : Q (some (.long res.1)) res.2) : am_W (X_Reck_workOut (d + 3)) 11 [some (.ref 12), some (.int x1), some (.int x2), some (.int x3), none, none, none, none, none, none] [] h Q :=
  b_Reck_workOut_11 (d := (d + 2)) (k := c_Hole_puttTwelfths (d := d + 2) rfl (t_Reck_workOut_19 e q))
theorem t_Reck_workOut_8 {d : Nat} {x1 : Int32} {x2 : Int32} {x3 : Int32} {y0 : Bool} {h : am_H} {Q : am_Q} {res : Int64 × am_H} (e : f_Reck_workOut_8 h x1 x2 x3 y0 = some res) (q : Q (some (.long res.1)) res.2) : am_W (X_Reck_workOut (d + 3)) 8 [some (.ref 12), some (.int x1), some (.int x2), some (.int x3), none, none, none, none, none, none] [.int (am_b y0)] h Q :=
  b_Reck_workOut_8 (d := (d + 3)) (kt := fun c => (t_Reck_workOut_30 (am_iff e (am_bz c)) q)) (kf := fun c => (t_Reck_workOut_11 (am_ift e (am_bn c)) q))
theorem t_Reck_workOut_0 {d : Nat} {x1 : Int32} {x2 : Int32} {x3 : Int32} {h : am_H} {Q : am_Q} {res : Int64 × am_H} (e : f_Reck_workOut h x1 x2 x3 = some res) (q : Q (some (.long res.1)) res.2) : am_W (X_Reck_workOut (d + 3)) 0 [some (.ref 12), some (.int x1), some (.int x2), some (.int x3), none, none, none, none, none, none] [] h Q :=
  (am_bd e).elim fun p hp => b_Reck_workOut_0 (d := (d + 2)) (k := c_Hole_isGreen (d := d + 1) hp.1 (t_Reck_workOut_8 hp.2 q))
theorem c_Reck_workOut {d : Nat} {x1 : Int32} {x2 : Int32} {x3 : Int32} {h : am_H} {Q : am_Q} {res : Int64 × am_H} (e : f_Reck_workOut h x1 x2 x3 = some res) (q : Q (some (.long res.1)) res.2) : m_Reck_workOut (d + 3) [.ref 12, .int x1, .int x2, .int x3] h Q :=
  e_Reck_workOut (t_Reck_workOut_0 e q)
theorem d_Reck_mean_0 : decode prog_7_method_10_code 0 = .ok (.iload_n 1, 1) := by decide +kernel
theorem d_Reck_mean_1 : decode prog_7_method_10_code 1 = .ok (.invokestatic 136, 3) := by decide +kernel
theorem d_Reck_mean_4 : decode prog_7_method_10_code 4 = .ok (.ifCond .eq 12, 3) := by decide +kernel
theorem d_Reck_mean_7 : decode prog_7_method_10_code 7 = .ok (.iload_n 2, 1) := by decide +kernel
theorem d_Reck_mean_8 : decode prog_7_method_10_code 8 = .ok (.ifCond .lt 8, 3) := by decide +kernel
theorem d_Reck_mean_11 : decode prog_7_method_10_code 11 = .ok (.iload_n 2, 1) := by decide +kernel
theorem d_Reck_mean_12 : decode prog_7_method_10_code 12 = .ok (.iconst 4, 1) := by decide +kernel
theorem d_Reck_mean_13 : decode prog_7_method_10_code 13 = .ok (.if_icmp .le 5, 3) := by decide +kernel
theorem d_Reck_mean_16 : decode prog_7_method_10_code 16 = .ok (.lconst 0, 1) := by decide +kernel
theorem d_Reck_mean_17 : decode prog_7_method_10_code 17 = .ok (.lreturn, 1) := by decide +kernel
theorem d_Reck_mean_18 : decode prog_7_method_10_code 18 = .ok (.iload_n 3, 1) := by decide +kernel
theorem d_Reck_mean_19 : decode prog_7_method_10_code 19 = .ok (.iconst 1, 1) := by decide +kernel
theorem d_Reck_mean_20 : decode prog_7_method_10_code 20 = .ok (.if_icmp .ne 10, 3) := by decide +kernel
theorem d_Reck_mean_23 : decode prog_7_method_10_code 23 = .ok (.aload_n 0, 1) := by decide +kernel
theorem d_Reck_mean_24 : decode prog_7_method_10_code 24 = .ok (.getfield 17, 3) := by decide +kernel
theorem d_Reck_mean_27 : decode prog_7_method_10_code 27 = .ok (.goto 7, 3) := by decide +kernel
theorem d_Reck_mean_30 : decode prog_7_method_10_code 30 = .ok (.aload_n 0, 1) := by decide +kernel
theorem d_Reck_mean_31 : decode prog_7_method_10_code 31 = .ok (.getfield 11, 3) := by decide +kernel
theorem d_Reck_mean_34 : decode prog_7_method_10_code 34 = .ok (.astore 4, 2) := by decide +kernel
theorem d_Reck_mean_36 : decode prog_7_method_10_code 36 = .ok (.iload_n 3, 1) := by decide +kernel
theorem d_Reck_mean_37 : decode prog_7_method_10_code 37 = .ok (.iconst 1, 1) := by decide +kernel
theorem d_Reck_mean_38 : decode prog_7_method_10_code 38 = .ok (.if_icmp .ne 11, 3) := by decide +kernel
theorem d_Reck_mean_41 : decode prog_7_method_10_code 41 = .ok (.aload_n 0, 1) := by decide +kernel
theorem d_Reck_mean_42 : decode prog_7_method_10_code 42 = .ok (.iconst 1, 1) := by decide +kernel
theorem d_Reck_mean_43 : decode prog_7_method_10_code 43 = .ok (.putfield 31, 3) := by decide +kernel
theorem d_Reck_mean_46 : decode prog_7_method_10_code 46 = .ok (.goto 8, 3) := by decide +kernel
theorem d_Reck_mean_49 : decode prog_7_method_10_code 49 = .ok (.aload_n 0, 1) := by decide +kernel
theorem d_Reck_mean_50 : decode prog_7_method_10_code 50 = .ok (.iconst 1, 1) := by decide +kernel
theorem d_Reck_mean_51 : decode prog_7_method_10_code 51 = .ok (.putfield 27, 3) := by decide +kernel
theorem d_Reck_mean_54 : decode prog_7_method_10_code 54 = .ok (.iload_n 2, 1) := by decide +kernel
theorem d_Reck_mean_55 : decode prog_7_method_10_code 55 = .ok (.bipush 31, 2) := by decide +kernel
theorem d_Reck_mean_57 : decode prog_7_method_10_code 57 = .ok (.imul, 1) := by decide +kernel
theorem d_Reck_mean_58 : decode prog_7_method_10_code 58 = .ok (.iload_n 1, 1) := by decide +kernel
theorem d_Reck_mean_59 : decode prog_7_method_10_code 59 = .ok (.iadd, 1) := by decide +kernel
theorem d_Reck_mean_60 : decode prog_7_method_10_code 60 = .ok (.istore 5, 2) := by decide +kernel
theorem d_Reck_mean_62 : decode prog_7_method_10_code 62 = .ok (.iconst 0, 1) := by decide +kernel
theorem d_Reck_mean_63 : decode prog_7_method_10_code 63 = .ok (.istore 6, 2) := by decide +kernel
theorem d_Reck_mean_65 : decode prog_7_method_10_code 65 = .ok (.iload 6, 2) := by decide +kernel
theorem d_Reck_mean_67 : decode prog_7_method_10_code 67 = .ok (.iload 5, 2) := by decide +kernel
theorem d_Reck_mean_69 : decode prog_7_method_10_code 69 = .ok (.if_icmp .gt 75, 3) := by decide +kernel
theorem d_Reck_mean_72 : decode prog_7_method_10_code 72 = .ok (.iload 6, 2) := by decide +kernel
theorem d_Reck_mean_74 : decode prog_7_method_10_code 74 = .ok (.aload 4, 2) := by decide +kernel
theorem d_Reck_mean_76 : decode prog_7_method_10_code 76 = .ok (.arraylength, 1) := by decide +kernel
theorem d_Reck_mean_77 : decode prog_7_method_10_code 77 = .ok (.if_icmp .ge 67, 3) := by decide +kernel
theorem d_Reck_mean_80 : decode prog_7_method_10_code 80 = .ok (.iload 6, 2) := by decide +kernel
theorem d_Reck_mean_82 : decode prog_7_method_10_code 82 = .ok (.iload 5, 2) := by decide +kernel
theorem d_Reck_mean_84 : decode prog_7_method_10_code 84 = .ok (.if_icmp .eq 12, 3) := by decide +kernel
theorem d_Reck_mean_87 : decode prog_7_method_10_code 87 = .ok (.iload 6, 2) := by decide +kernel
theorem d_Reck_mean_89 : decode prog_7_method_10_code 89 = .ok (.iload_n 2, 1) := by decide +kernel
theorem d_Reck_mean_90 : decode prog_7_method_10_code 90 = .ok (.bipush 31, 2) := by decide +kernel
theorem d_Reck_mean_92 : decode prog_7_method_10_code 92 = .ok (.imul, 1) := by decide +kernel
theorem d_Reck_mean_93 : decode prog_7_method_10_code 93 = .ok (.if_icmp .ge 7, 3) := by decide +kernel
theorem d_Reck_mean_96 : decode prog_7_method_10_code 96 = .ok (.iconst 1, 1) := by decide +kernel
theorem d_Reck_mean_97 : decode prog_7_method_10_code 97 = .ok (.goto 4, 3) := by decide +kernel
theorem d_Reck_mean_100 : decode prog_7_method_10_code 100 = .ok (.iconst 0, 1) := by decide +kernel
theorem d_Reck_mean_101 : decode prog_7_method_10_code 101 = .ok (.istore 7, 2) := by decide +kernel
theorem d_Reck_mean_103 : decode prog_7_method_10_code 103 = .ok (.iload 7, 2) := by decide +kernel
theorem d_Reck_mean_105 : decode prog_7_method_10_code 105 = .ok (.ifCond .eq 33, 3) := by decide +kernel
theorem d_Reck_mean_108 : decode prog_7_method_10_code 108 = .ok (.aload 4, 2) := by decide +kernel
theorem d_Reck_mean_110 : decode prog_7_method_10_code 110 = .ok (.iload 6, 2) := by decide +kernel
theorem d_Reck_mean_112 : decode prog_7_method_10_code 112 = .ok (.laload, 1) := by decide +kernel
theorem d_Reck_mean_113 : decode prog_7_method_10_code 113 = .ok (.lconst 0, 1) := by decide +kernel
theorem d_Reck_mean_114 : decode prog_7_method_10_code 114 = .ok (.lcmp, 1) := by decide +kernel
theorem d_Reck_mean_115 : decode prog_7_method_10_code 115 = .ok (.ifCond .ne 23, 3) := by decide +kernel
theorem d_Reck_mean_118 : decode prog_7_method_10_code 118 = .ok (.aload 4, 2) := by decide +kernel
theorem d_Reck_mean_120 : decode prog_7_method_10_code 120 = .ok (.iload 6, 2) := by decide +kernel
theorem d_Reck_mean_122 : decode prog_7_method_10_code 122 = .ok (.aload_n 0, 1) := by decide +kernel
theorem d_Reck_mean_123 : decode prog_7_method_10_code 123 = .ok (.iload 6, 2) := by decide +kernel
theorem d_Reck_mean_125 : decode prog_7_method_10_code 125 = .ok (.bipush 31, 2) := by decide +kernel
theorem d_Reck_mean_127 : decode prog_7_method_10_code 127 = .ok (.irem, 1) := by decide +kernel
theorem d_Reck_mean_128 : decode prog_7_method_10_code 128 = .ok (.iload 6, 2) := by decide +kernel
theorem d_Reck_mean_130 : decode prog_7_method_10_code 130 = .ok (.bipush 31, 2) := by decide +kernel
theorem d_Reck_mean_132 : decode prog_7_method_10_code 132 = .ok (.idiv, 1) := by decide +kernel
theorem d_Reck_mean_133 : decode prog_7_method_10_code 133 = .ok (.iload_n 3, 1) := by decide +kernel
theorem d_Reck_mean_134 : decode prog_7_method_10_code 134 = .ok (.invokevirtual 140, 3) := by decide +kernel
theorem d_Reck_mean_137 : decode prog_7_method_10_code 137 = .ok (.lastore, 1) := by decide +kernel
theorem d_Reck_mean_138 : decode prog_7_method_10_code 138 = .ok (.iinc 6 1, 3) := by decide +kernel
theorem d_Reck_mean_141 : decode prog_7_method_10_code 141 = .ok (.goto (-76), 3) := by decide +kernel
theorem d_Reck_mean_144 : decode prog_7_method_10_code 144 = .ok (.iload 5, 2) := by decide +kernel
theorem d_Reck_mean_146 : decode prog_7_method_10_code 146 = .ok (.aload 4, 2) := by decide +kernel
theorem d_Reck_mean_148 : decode prog_7_method_10_code 148 = .ok (.arraylength, 1) := by decide +kernel
theorem d_Reck_mean_149 : decode prog_7_method_10_code 149 = .ok (.if_icmp .ge 11, 3) := by decide +kernel
theorem d_Reck_mean_152 : decode prog_7_method_10_code 152 = .ok (.aload 4, 2) := by decide +kernel
theorem d_Reck_mean_154 : decode prog_7_method_10_code 154 = .ok (.iload 5, 2) := by decide +kernel
theorem d_Reck_mean_156 : decode prog_7_method_10_code 156 = .ok (.laload, 1) := by decide +kernel
theorem d_Reck_mean_157 : decode prog_7_method_10_code 157 = .ok (.goto 4, 3) := by decide +kernel
theorem d_Reck_mean_160 : decode prog_7_method_10_code 160 = .ok (.lconst 0, 1) := by decide +kernel
theorem d_Reck_mean_161 : decode prog_7_method_10_code 161 = .ok (.lreturn, 1) := by decide +kernel
theorem b_Reck_mean_0 {d : Nat} {x1 : Int32} {x2 : Int32} {x3 : Int32} {h : am_H} {Q : am_Q} (k : m_Hole_isCell d [.int x1] h (fun r hh => am_W (X_Reck_mean (d + 1)) 4 [some (.ref 12), some (.int x1), some (.int x2), some (.int x3), none, none, none, none] (r.toList ++ []) hh Q)) : am_W (X_Reck_mean (d + 1)) 0 [some (.ref 12), some (.int x1), some (.int x2), some (.int x3), none, none, none, none] [] h Q :=
  am_iload_n d_Reck_mean_0 rfl (i := 1) rfl <|
    am_callS (vs := [.int x1]) (st := []) rfl d_Reck_mean_1 w_809 w_469 w_84 w_470 p_Hole_isCell (Nat.le_of_ble_eq_true rfl) (Nat.le_of_ble_eq_true rfl) rfl k
theorem b_Reck_mean_4 {d : Nat} {x1 : Int32} {x2 : Int32} {x3 : Int32} {y0 : Bool} {h : am_H} {Q : am_Q} (kt : (am_b y0) = 0 → am_W (X_Reck_mean d) 16 [some (.ref 12), some (.int x1), some (.int x2), some (.int x3), none, none, none, none] [] h Q) (kf : ¬ (am_b y0) = 0 → am_W (X_Reck_mean d) 7 [some (.ref 12), some (.int x1), some (.int x2), some (.int x3), none, none, none, none] [] h Q) : am_W (X_Reck_mean d) 4 [some (.ref 12), some (.int x1), some (.int x2), some (.int x3), none, none, none, none] [.int (am_b y0)] h Q :=
  am_if_eq (tgt := 16) d_Reck_mean_4 (by decide) kt kf
theorem b_Reck_mean_7 {d : Nat} {x1 : Int32} {x2 : Int32} {x3 : Int32} {h : am_H} {Q : am_Q} (kt : x2 < 0 → am_W (X_Reck_mean d) 16 [some (.ref 12), some (.int x1), some (.int x2), some (.int x3), none, none, none, none] [] h Q) (kf : ¬ x2 < 0 → am_W (X_Reck_mean d) 11 [some (.ref 12), some (.int x1), some (.int x2), some (.int x3), none, none, none, none] [] h Q) : am_W (X_Reck_mean d) 7 [some (.ref 12), some (.int x1), some (.int x2), some (.int x3), none, none, none, none] [] h Q :=
  am_iload_n d_Reck_mean_7 rfl (i := 2) rfl <|
    am_if_lt (tgt := 16) d_Reck_mean_8 (by decide) kt kf
theorem b_Reck_mean_11 {d : Nat} {x1 : Int32} {x2 : Int32} {x3 : Int32} {h : am_H} {Q : am_Q} (kt : x2 ≤ 4 → am_W (X_Reck_mean d) 18 [some (.ref 12), some (.int x1), some (.int x2), some (.int x3), none, none, none, none] [] h Q) (kf : ¬ x2 ≤ 4 → am_W (X_Reck_mean d) 16 [some (.ref 12), some (.int x1), some (.int x2), some (.int x3), none, none, none, none] [] h Q) : am_W (X_Reck_mean d) 11 [some (.ref 12), some (.int x1), some (.int x2), some (.int x3), none, none, none, none] [] h Q :=
  am_iload_n d_Reck_mean_11 rfl (i := 2) rfl <|
    am_iconst (v := 4) d_Reck_mean_12 (by decide) <|
    am_icmp_le (tgt := 18) d_Reck_mean_13 (by decide) kt kf
theorem b_Reck_mean_16 {d : Nat} {x1 : Int32} {x2 : Int32} {x3 : Int32} {h : am_H} {Q : am_Q} (q : Q (some (.long 0)) h) : am_W (X_Reck_mean d) 16 [some (.ref 12), some (.int x1), some (.int x2), some (.int x3), none, none, none, none] [] h Q :=
  am_lconst (v := 0) d_Reck_mean_16 (by decide) <|
    am_lret rfl d_Reck_mean_17 q
theorem b_Reck_mean_18 {d : Nat} {x1 : Int32} {x2 : Int32} {x3 : Int32} {h : am_H} {Q : am_Q} (kt : ¬ x3 = 1 → am_W (X_Reck_mean d) 30 [some (.ref 12), some (.int x1), some (.int x2), some (.int x3), none, none, none, none] [] h Q) (kf : x3 = 1 → am_W (X_Reck_mean d) 23 [some (.ref 12), some (.int x1), some (.int x2), some (.int x3), none, none, none, none] [] h Q) : am_W (X_Reck_mean d) 18 [some (.ref 12), some (.int x1), some (.int x2), some (.int x3), none, none, none, none] [] h Q :=
  am_iload_n d_Reck_mean_18 rfl (i := 3) rfl <|
    am_iconst (v := 1) d_Reck_mean_19 (by decide) <|
    am_icmp_ne (tgt := 30) d_Reck_mean_20 (by decide) kt kf
theorem b_Reck_mean_23 {d : Nat} {x1 : Int32} {x2 : Int32} {x3 : Int32} {h : am_H} {Q : am_Q} (k : am_W (X_Reck_mean d) 34 [some (.ref 12), some (.int x1), some (.int x2), some (.int x3), none, none, none, none] [.ref 14] h Q) : am_W (X_Reck_mean d) 23 [some (.ref 12), some (.int x1), some (.int x2), some (.int x3), none, none, none, none] [] h Q :=
  am_aload_n d_Reck_mean_23 rfl (i := 0) rfl <|
    am_getR (ci := 3) (i := 3) rfl rfl rfl (Nat.le_of_ble_eq_true rfl) w_197 d_Reck_mean_24 <|
    am_goto (tgt := 34) d_Reck_mean_27 (by decide) k
theorem b_Reck_mean_30 {d : Nat} {x1 : Int32} {x2 : Int32} {x3 : Int32} {h : am_H} {Q : am_Q} (k : am_W (X_Reck_mean d) 34 [some (.ref 12), some (.int x1), some (.int x2), some (.int x3), none, none, none, none] [.ref 13] h Q) : am_W (X_Reck_mean d) 30 [some (.ref 12), some (.int x1), some (.int x2), some (.int x3), none, none, none, none] [] h Q :=
  am_aload_n d_Reck_mean_30 rfl (i := 0) rfl <|
    am_getR (ci := 3) (i := 2) rfl rfl rfl (Nat.le_of_ble_eq_true rfl) w_196 d_Reck_mean_31 <|
    k
theorem b_Reck_mean_34 {d : Nat} {x1 : Int32} {x2 : Int32} {x3 : Int32} {b0 : Nat} {nb0 : Nat} {h : am_H} {Q : am_Q} (sb0 : shX[b0]? = some (.inr (1, nb0, []))) (kt : ¬ x3 = 1 → am_W (X_Reck_mean d) 49 [some (.ref 12), some (.int x1), some (.int x2), some (.int x3), some (.ref b0), none, none, none] [] h Q) (kf : x3 = 1 → am_W (X_Reck_mean d) 41 [some (.ref 12), some (.int x1), some (.int x2), some (.int x3), some (.ref b0), none, none, none] [] h Q) : am_W (X_Reck_mean d) 34 [some (.ref 12), some (.int x1), some (.int x2), some (.int x3), none, none, none, none] [.ref b0] h Q :=
  am_astore (ls' := [some (.ref 12), some (.int x1), some (.int x2), some (.int x3), some (.ref b0), none, none, none]) d_Reck_mean_34 (Nat.le_of_ble_eq_true rfl) rfl <|
    am_iload_n d_Reck_mean_36 rfl (i := 3) rfl <|
    am_iconst (v := 1) d_Reck_mean_37 (by decide) <|
    am_icmp_ne (tgt := 49) d_Reck_mean_38 (by decide) kt kf
theorem b_Reck_mean_41 {d : Nat} {x1 : Int32} {x2 : Int32} {x3 : Int32} {a4 : Nat} {na4 : Nat} {h : am_H} {Q : am_Q} (sa4 : shX[a4]? = some (.inr (1, na4, []))) (k : am_W (X_Reck_mean d) 54 [some (.ref 12), some (.int x1), some (.int x2), some (.int x3), some (.ref a4), none, none, none] [] (am_pI h 12 7 1) Q) : am_W (X_Reck_mean d) 41 [some (.ref 12), some (.int x1), some (.int x2), some (.int x3), some (.ref a4), none, none, none] [] h Q :=
  am_aload_n d_Reck_mean_41 rfl (i := 0) rfl <|
    am_iconst (v := 1) d_Reck_mean_42 (by decide) <|
    am_putI (ci := 3) (i := 7) rfl rfl rfl (Nat.le_of_ble_eq_true rfl) w_201 rfl (by decide) (by decide) d_Reck_mean_43 <|
    am_goto (tgt := 54) d_Reck_mean_46 (by decide) k
theorem b_Reck_mean_49 {d : Nat} {x1 : Int32} {x2 : Int32} {x3 : Int32} {a4 : Nat} {na4 : Nat} {h : am_H} {Q : am_Q} (sa4 : shX[a4]? = some (.inr (1, na4, []))) (k : am_W (X_Reck_mean d) 54 [some (.ref 12), some (.int x1), some (.int x2), some (.int x3), some (.ref a4), none, none, none] [] (am_pI h 12 6 1) Q) : am_W (X_Reck_mean d) 49 [some (.ref 12), some (.int x1), some (.int x2), some (.int x3), some (.ref a4), none, none, none] [] h Q :=
  am_aload_n d_Reck_mean_49 rfl (i := 0) rfl <|
    am_iconst (v := 1) d_Reck_mean_50 (by decide) <|
    am_putI (ci := 3) (i := 6) rfl rfl rfl (Nat.le_of_ble_eq_true rfl) w_200 rfl (by decide) (by decide) d_Reck_mean_51 <|
    k
theorem b_Reck_mean_54 {d : Nat} {x1 : Int32} {x2 : Int32} {x3 : Int32} {a4 : Nat} {na4 : Nat} {h : am_H} {Q : am_Q} (sa4 : shX[a4]? = some (.inr (1, na4, []))) (k : am_W (X_Reck_mean d) 65 [some (.ref 12), some (.int x1), some (.int x2), some (.int x3), some (.ref a4), some (.int ((x2 * 31) + x1)), some (.int 0), none] [] h Q) : am_W (X_Reck_mean d) 54 [some (.ref 12), some (.int x1), some (.int x2), some (.int x3), some (.ref a4), none, none, none] [] h Q :=
  am_iload_n d_Reck_mean_54 rfl (i := 2) rfl <|
    am_bipush (v := 31) d_Reck_mean_55 (by decide) <|
    am_imul d_Reck_mean_57 <|
    am_iload_n d_Reck_mean_58 rfl (i := 1) rfl <|
    am_iadd d_Reck_mean_59 <|
    am_istore (ls' := [some (.ref 12), some (.int x1), some (.int x2), some (.int x3), some (.ref a4), some (.int ((x2 * 31) + x1)), none, none]) d_Reck_mean_60 (Nat.le_of_ble_eq_true rfl) rfl <|
    am_iconst (v := 0) d_Reck_mean_62 (by decide) <|
    am_istore (ls' := [some (.ref 12), some (.int x1), some (.int x2), some (.int x3), some (.ref a4), some (.int ((x2 * 31) + x1)), some (.int 0), none]) d_Reck_mean_63 (Nat.le_of_ble_eq_true rfl) rfl <|
    k
theorem b_Reck_mean_65 {d : Nat} {x1 : Int32} {x2 : Int32} {x3 : Int32} {a4 : Nat} {na4 : Nat} {x5 : Int32} {x6 : Int32} {h : am_H} {Q : am_Q} (sa4 : shX[a4]? = some (.inr (1, na4, []))) (kt : x5 < x6 → am_W (X_Reck_mean d) 144 [some (.ref 12), some (.int x1), some (.int x2), some (.int x3), some (.ref a4), some (.int x5), some (.int x6), none] [] h Q) (kf : ¬ x5 < x6 → am_W (X_Reck_mean d) 72 [some (.ref 12), some (.int x1), some (.int x2), some (.int x3), some (.ref a4), some (.int x5), some (.int x6), none] [] h Q) : am_W (X_Reck_mean d) 65 [some (.ref 12), some (.int x1), some (.int x2), some (.int x3), some (.ref a4), some (.int x5), some (.int x6), none] [] h Q :=
  am_iload d_Reck_mean_65 rfl <|
    am_iload d_Reck_mean_67 rfl <|
    am_icmp_gt (tgt := 144) d_Reck_mean_69 (by decide) kt kf
theorem b_Reck_mean_72 {d : Nat} {x1 : Int32} {x2 : Int32} {x3 : Int32} {a4 : Nat} {na4 : Nat} {x5 : Int32} {x6 : Int32} {h : am_H} {Q : am_Q} (sa4 : shX[a4]? = some (.inr (1, na4, []))) (kt : (Int32.ofNat na4) ≤ x6 → am_W (X_Reck_mean d) 144 [some (.ref 12), some (.int x1), some (.int x2), some (.int x3), some (.ref a4), some (.int x5), some (.int x6), none] [] h Q) (kf : ¬ (Int32.ofNat na4) ≤ x6 → am_W (X_Reck_mean d) 80 [some (.ref 12), some (.int x1), some (.int x2), some (.int x3), some (.ref a4), some (.int x5), some (.int x6), none] [] h Q) : am_W (X_Reck_mean d) 72 [some (.ref 12), some (.int x1), some (.int x2), some (.int x3), some (.ref a4), some (.int x5), some (.int x6), none] [] h Q :=
  am_iload d_Reck_mean_72 rfl <|
    am_aload d_Reck_mean_74 rfl <|
    am_alenL sa4 rfl d_Reck_mean_76 <|
    am_icmp_ge (tgt := 144) d_Reck_mean_77 (by decide) kt kf
theorem b_Reck_mean_80 {d : Nat} {x1 : Int32} {x2 : Int32} {x3 : Int32} {a4 : Nat} {na4 : Nat} {x5 : Int32} {x6 : Int32} {h : am_H} {Q : am_Q} (sa4 : shX[a4]? = some (.inr (1, na4, []))) (kt : x6 = x5 → am_W (X_Reck_mean d) 96 [some (.ref 12), some (.int x1), some (.int x2), some (.int x3), some (.ref a4), some (.int x5), some (.int x6), none] [] h Q) (kf : ¬ x6 = x5 → am_W (X_Reck_mean d) 87 [some (.ref 12), some (.int x1), some (.int x2), some (.int x3), some (.ref a4), some (.int x5), some (.int x6), none] [] h Q) : am_W (X_Reck_mean d) 80 [some (.ref 12), some (.int x1), some (.int x2), some (.int x3), some (.ref a4), some (.int x5), some (.int x6), none] [] h Q :=
  am_iload d_Reck_mean_80 rfl <|
    am_iload d_Reck_mean_82 rfl <|
    am_icmp_eq (tgt := 96) d_Reck_mean_84 (by decide) kt kf
theorem b_Reck_mean_87 {d : Nat} {x1 : Int32} {x2 : Int32} {x3 : Int32} {a4 : Nat} {na4 : Nat} {x5 : Int32} {x6 : Int32} {h : am_H} {Q : am_Q} (sa4 : shX[a4]? = some (.inr (1, na4, []))) (kt : (x2 * 31) ≤ x6 → am_W (X_Reck_mean d) 100 [some (.ref 12), some (.int x1), some (.int x2), some (.int x3), some (.ref a4), some (.int x5), some (.int x6), none] [] h Q) (kf : ¬ (x2 * 31) ≤ x6 → am_W (X_Reck_mean d) 96 [some (.ref 12), some (.int x1), some (.int x2), some (.int x3), some (.ref a4), some (.int x5), some (.int x6), none] [] h Q) : am_W (X_Reck_mean d) 87 [some (.ref 12), some (.int x1), some (.int x2), some (.int x3), some (.ref a4), some (.int x5), some (.int x6), none] [] h Q :=
  am_iload d_Reck_mean_87 rfl <|
    am_iload_n d_Reck_mean_89 rfl (i := 2) rfl <|
    am_bipush (v := 31) d_Reck_mean_90 (by decide) <|
    am_imul d_Reck_mean_92 <|
    am_icmp_ge (tgt := 100) d_Reck_mean_93 (by decide) kt kf
theorem b_Reck_mean_96 {d : Nat} {x1 : Int32} {x2 : Int32} {x3 : Int32} {a4 : Nat} {na4 : Nat} {x5 : Int32} {x6 : Int32} {h : am_H} {Q : am_Q} (sa4 : shX[a4]? = some (.inr (1, na4, []))) (k : am_W (X_Reck_mean d) 101 [some (.ref 12), some (.int x1), some (.int x2), some (.int x3), some (.ref a4), some (.int x5), some (.int x6), none] [.int 1] h Q) : am_W (X_Reck_mean d) 96 [some (.ref 12), some (.int x1), some (.int x2), some (.int x3), some (.ref a4), some (.int x5), some (.int x6), none] [] h Q :=
  am_iconst (v := 1) d_Reck_mean_96 (by decide) <|
    am_goto (tgt := 101) d_Reck_mean_97 (by decide) k
theorem b_Reck_mean_100 {d : Nat} {x1 : Int32} {x2 : Int32} {x3 : Int32} {a4 : Nat} {na4 : Nat} {x5 : Int32} {x6 : Int32} {h : am_H} {Q : am_Q} (sa4 : shX[a4]? = some (.inr (1, na4, []))) (k : am_W (X_Reck_mean d) 101 [some (.ref 12), some (.int x1), some (.int x2), some (.int x3), some (.ref a4), some (.int x5), some (.int x6), none] [.int 0] h Q) : am_W (X_Reck_mean d) 100 [some (.ref 12), some (.int x1), some (.int x2), some (.int x3), some (.ref a4), some (.int x5), some (.int x6), none] [] h Q :=
  am_iconst (v := 0) d_Reck_mean_100 (by decide) <|
    k
theorem b_Reck_mean_101 {d : Nat} {x1 : Int32} {x2 : Int32} {x3 : Int32} {a4 : Nat} {na4 : Nat} {x5 : Int32} {x6 : Int32} {y0 : Int32} {h : am_H} {Q : am_Q} (sa4 : shX[a4]? = some (.inr (1, na4, []))) (kt : y0 = 0 → am_W (X_Reck_mean d) 138 [some (.ref 12), some (.int x1), some (.int x2), some (.int x3), some (.ref a4), some (.int x5), some (.int x6), some (.int y0)] [] h Q) (kf : ¬ y0 = 0 → am_W (X_Reck_mean d) 108 [some (.ref 12), some (.int x1), some (.int x2), some (.int x3), some (.ref a4), some (.int x5), some (.int x6), some (.int y0)] [] h Q) : am_W (X_Reck_mean d) 101 [some (.ref 12), some (.int x1), some (.int x2), some (.int x3), some (.ref a4), some (.int x5), some (.int x6), none] [.int y0] h Q :=
  am_istore (ls' := [some (.ref 12), some (.int x1), some (.int x2), some (.int x3), some (.ref a4), some (.int x5), some (.int x6), some (.int y0)]) d_Reck_mean_101 (Nat.le_of_ble_eq_true rfl) rfl <|
    am_iload d_Reck_mean_103 rfl <|
    am_if_eq (tgt := 138) d_Reck_mean_105 (by decide) kt kf
theorem b_Reck_mean_108 {d : Nat} {x1 : Int32} {x2 : Int32} {x3 : Int32} {a4 : Nat} {na4 : Nat} {x5 : Int32} {x6 : Int32} {x7 : Int32} {h : am_H} {Q : am_Q} (sa4 : shX[a4]? = some (.inr (1, na4, []))) (q0 : vp_in x6 na4) (kt : ¬ (h.2 a4 x6.toNatClampNeg) = 0 → am_W (X_Reck_mean d) 138 [some (.ref 12), some (.int x1), some (.int x2), some (.int x3), some (.ref a4), some (.int x5), some (.int x6), some (.int x7)] [] h Q) (kf : (h.2 a4 x6.toNatClampNeg) = 0 → am_W (X_Reck_mean d) 118 [some (.ref 12), some (.int x1), some (.int x2), some (.int x3), some (.ref a4), some (.int x5), some (.int x6), some (.int x7)] [] h Q) : am_W (X_Reck_mean d) 108 [some (.ref 12), some (.int x1), some (.int x2), some (.int x3), some (.ref a4), some (.int x5), some (.int x6), some (.int x7)] [] h Q :=
  am_aload d_Reck_mean_108 rfl <|
    am_iload d_Reck_mean_110 rfl <|
    am_lald sa4 q0 d_Reck_mean_112 <|
    am_lconst (v := 0) d_Reck_mean_113 (by decide) <|
    am_lc_if_ne (tgt := 138) d_Reck_mean_114 d_Reck_mean_115 (by decide) kt kf
theorem b_Reck_mean_118 {d : Nat} {x1 : Int32} {x2 : Int32} {x3 : Int32} {a4 : Nat} {na4 : Nat} {x5 : Int32} {x6 : Int32} {x7 : Int32} {h : am_H} {Q : am_Q} (sa4 : shX[a4]? = some (.inr (1, na4, []))) (k : m_Reck_workOut d [.ref 12, .int (x6 - x6 / 31 * 31), .int (x6 / 31), .int x3] h (fun r hh => am_W (X_Reck_mean (d + 1)) 137 [some (.ref 12), some (.int x1), some (.int x2), some (.int x3), some (.ref a4), some (.int x5), some (.int x6), some (.int x7)] (r.toList ++ [.int x6, .ref a4]) hh Q)) : am_W (X_Reck_mean (d + 1)) 118 [some (.ref 12), some (.int x1), some (.int x2), some (.int x3), some (.ref a4), some (.int x5), some (.int x6), some (.int x7)] [] h Q :=
  am_aload d_Reck_mean_118 rfl <|
    am_iload d_Reck_mean_120 rfl <|
    am_aload_n d_Reck_mean_122 rfl (i := 0) rfl <|
    am_iload d_Reck_mean_123 rfl <|
    am_bipush (v := 31) d_Reck_mean_125 (by decide) <|
    am_irem d_Reck_mean_127 (by decide) <|
    am_iload d_Reck_mean_128 rfl <|
    am_bipush (v := 31) d_Reck_mean_130 (by decide) <|
    am_idiv d_Reck_mean_132 (by decide) <|
    am_iload_n d_Reck_mean_133 rfl (i := 3) rfl <|
    am_callV (vs := [.int (x6 - x6 / 31 * 31), .int (x6 / 31), .int x3]) (st := [.int x6, .ref a4]) (k := 12) (ci := 3) rfl d_Reck_mean_134 rfl rfl w_810 w_812 w_16 w_87 w_813 p_Reck_workOut (Nat.le_of_ble_eq_true rfl) (Nat.le_of_ble_eq_true rfl) rfl k
theorem b_Reck_mean_137 {d : Nat} {x1 : Int32} {x2 : Int32} {x3 : Int32} {a4 : Nat} {na4 : Nat} {x5 : Int32} {x6 : Int32} {x7 : Int32} {y2 : Int64} {y1 : Int32} {b0 : Nat} {nb0 : Nat} {h : am_H} {Q : am_Q} (sa4 : shX[a4]? = some (.inr (1, na4, []))) (sb0 : shX[b0]? = some (.inr (1, nb0, []))) (q0 : vp_in y1 nb0) (k : am_W (X_Reck_mean d) 138 [some (.ref 12), some (.int x1), some (.int x2), some (.int x3), some (.ref a4), some (.int x5), some (.int x6), some (.int x7)] [] (am_pL h b0 y1.toNatClampNeg y2) Q) : am_W (X_Reck_mean d) 137 [some (.ref 12), some (.int x1), some (.int x2), some (.int x3), some (.ref a4), some (.int x5), some (.int x6), some (.int x7)] [.long y2, .int y1, .ref b0] h Q :=
  am_last sb0 q0 d_Reck_mean_137 <|
    k
theorem b_Reck_mean_138 {d : Nat} {x1 : Int32} {x2 : Int32} {x3 : Int32} {a4 : Nat} {na4 : Nat} {x5 : Int32} {x6 : Int32} {x7 : Int32} {h : am_H} {Q : am_Q} (sa4 : shX[a4]? = some (.inr (1, na4, []))) (k : am_W (X_Reck_mean d) 65 [some (.ref 12), some (.int x1), some (.int x2), some (.int x3), some (.ref a4), some (.int x5), some (.int (x6 + 1)), some (.int x7)] [] h Q) : am_W (X_Reck_mean d) 138 [some (.ref 12), some (.int x1), some (.int x2), some (.int x3), some (.ref a4), some (.int x5), some (.int x6), some (.int x7)] [] h Q :=
  am_iinc (v := (x6 + 1)) (ls' := [some (.ref 12), some (.int x1), some (.int x2), some (.int x3), some (.ref a4), some (.int x5), some (.int (x6 + 1)), some (.int x7)]) d_Reck_mean_138 rfl rfl (Nat.le_of_ble_eq_true rfl) rfl <|
    am_goto (tgt := 65) d_Reck_mean_141 (by decide) k
theorem b_Reck_mean_144 {d : Nat} {x1 : Int32} {x2 : Int32} {x3 : Int32} {a4 : Nat} {na4 : Nat} {x5 : Int32} {x6 : Int32} {h : am_H} {Q : am_Q} (sa4 : shX[a4]? = some (.inr (1, na4, []))) (kt : (Int32.ofNat na4) ≤ x5 → am_W (X_Reck_mean d) 160 [some (.ref 12), some (.int x1), some (.int x2), some (.int x3), some (.ref a4), some (.int x5), some (.int x6), none] [] h Q) (kf : ¬ (Int32.ofNat na4) ≤ x5 → am_W (X_Reck_mean d) 152 [some (.ref 12), some (.int x1), some (.int x2), some (.int x3), some (.ref a4), some (.int x5), some (.int x6), none] [] h Q) : am_W (X_Reck_mean d) 144 [some (.ref 12), some (.int x1), some (.int x2), some (.int x3), some (.ref a4), some (.int x5), some (.int x6), none] [] h Q :=
  am_iload d_Reck_mean_144 rfl <|
    am_aload d_Reck_mean_146 rfl <|
    am_alenL sa4 rfl d_Reck_mean_148 <|
    am_icmp_ge (tgt := 160) d_Reck_mean_149 (by decide) kt kf
theorem b_Reck_mean_152 {d : Nat} {x1 : Int32} {x2 : Int32} {x3 : Int32} {a4 : Nat} {na4 : Nat} {x5 : Int32} {x6 : Int32} {h : am_H} {Q : am_Q} (sa4 : shX[a4]? = some (.inr (1, na4, []))) (q0 : vp_in x5 na4) (q : Q (some (.long (h.2 a4 x5.toNatClampNeg))) h) : am_W (X_Reck_mean d) 152 [some (.ref 12), some (.int x1), some (.int x2), some (.int x3), some (.ref a4), some (.int x5), some (.int x6), none] [] h Q :=
  am_aload d_Reck_mean_152 rfl <|
    am_iload d_Reck_mean_154 rfl <|
    am_lald sa4 q0 d_Reck_mean_156 <|
    am_goto (tgt := 161) d_Reck_mean_157 (by decide) <|
    am_lret rfl d_Reck_mean_161 q
theorem b_Reck_mean_160 {d : Nat} {x1 : Int32} {x2 : Int32} {x3 : Int32} {a4 : Nat} {na4 : Nat} {x5 : Int32} {x6 : Int32} {h : am_H} {Q : am_Q} (sa4 : shX[a4]? = some (.inr (1, na4, []))) (q : Q (some (.long 0)) h) : am_W (X_Reck_mean d) 160 [some (.ref 12), some (.int x1), some (.int x2), some (.int x3), some (.ref a4), some (.int x5), some (.int x6), none] [] h Q :=
  am_lconst (v := 0) d_Reck_mean_160 (by decide) <|
    am_lret rfl d_Reck_mean_161 q
theorem t_Reck_mean_16 {d : Nat} {x1 : Int32} {x2 : Int32} {x3 : Int32} {h : am_H} {Q : am_Q} {res : Int64 × am_H} (e : f_Reck_mean_16 h = some res) (q : Q (some (.long res.1)) res.2) : am_W (X_Reck_mean (d + 4)) 16 [some (.ref 12), some (.int x1), some (.int x2), some (.int x3), none, none, none, none] [] h Q :=
  b_Reck_mean_16 (d := (d + 4)) (q := (am_rJpi (v := 0) e q))
theorem t_Reck_mean_160 {d : Nat} {x1 : Int32} {x2 : Int32} {x3 : Int32} {a4 : Nat} {na4 : Nat} {x5 : Int32} {x6 : Int32} {h : am_H} {Q : am_Q} {res : Int64 × am_H} (sa4 : shX[a4]? = some (.inr (1, na4, []))) (e : f_Reck_mean_160 h = some res) (q : Q (some (.long res.1)) res.2) : am_W (X_Reck_mean (d + 4)) 160 [some (.ref 12), some (.int x1), some (.int x2), some (.int x3), some (.ref a4), some (.int x5), some (.int x6), none] [] h Q :=
  b_Reck_mean_160 (d := (d + 4)) (sa4 := sa4) (q := (am_rJpi (v := 0) e q))
theorem t_Reck_mean_152 {d : Nat} {x1 : Int32} {x2 : Int32} {x3 : Int32} {a4 : Nat} {na4 : Nat} {x5 : Int32} {x6 : Int32} {h : am_H} {Q : am_Q} {res : Int64 × am_H} (sa4 : shX[a4]? = some (.inr (1, na4, []))) (e : f_Reck_mean_152 h a4 na4 x5 = some res) (q : Q (some (.long res.1)) res.2) : am_W (X_Reck_mean (d + 4)) 152 [some (.ref 12), some (.int x1), some (.int x2), some (.int x3), some (.ref a4), some (.int x5), some (.int x6), none] [] h Q :=
  b_Reck_mean_152 (d := (d + 4)) (q0 := (am_okv (am_gd e))) (sa4 := sa4) (q := (am_rJpi (v := (h.2 a4 x5.toNatClampNeg)) (am_ga e) q))
theorem t_Reck_mean_144 {d : Nat} {x1 : Int32} {x2 : Int32} {x3 : Int32} {a4 : Nat} {na4 : Nat} {x5 : Int32} {x6 : Int32} {h : am_H} {Q : am_Q} {res : Int64 × am_H} (sa4 : shX[a4]? = some (.inr (1, na4, []))) (e : f_Reck_mean_144 h a4 na4 x5 = some res) (q : Q (some (.long res.1)) res.2) : am_W (X_Reck_mean (d + 4)) 144 [some (.ref 12), some (.int x1), some (.int x2), some (.int x3), some (.ref a4), some (.int x5), some (.int x6), none] [] h Q :=
  b_Reck_mean_144 (d := (d + 4)) (sa4 := sa4) (kt := fun c => (t_Reck_mean_160 sa4 (am_ift e c) q)) (kf := fun c => (t_Reck_mean_152 sa4 (am_ife e c) q))
theorem t_Reck_mean_138 {d : Nat} {k65 : am_H → Int32 → Int32 → Nat → Nat → Int32 → Int32 → Option (Int64 × am_H)} {x1 : Int32} {x2 : Int32} {x3 : Int32} {a4 : Nat} {na4 : Nat} {x5 : Int32} {x6 : Int32} {x7 : Int32} {h : am_H} {Q : am_Q} {res : Int64 × am_H} (hk65 : ∀ (x1 : Int32) (x2 : Int32) (x3 : Int32) (a4 : Nat) (na4 : Nat) (x5 : Int32) (x6 : Int32) (h : am_H), shX[a4]? = some (.inr (1, na4, [])) → k65 h x2 x3 a4 na4 x5 x6 = some res → am_W (X_Reck_mean (d + 4)) 65 [some (.ref 12), some (.int x1), some (.int x2), some (.int x3), some (.ref a4), some (.int x5), some (.int x6), none] [] h Q) (sa4 : shX[a4]? = some (.inr (1, na4, []))) (e : f_Reck_mean_138 k65 h x2 x3 a4 na4 x5 x6 = some res) (q : Q (some (.long res.1)) res.2) : am_W (X_Reck_mean (d + 4)) 138 [some (.ref 12), some (.int x1), some (.int x2), some (.int x3), some (.ref a4), some (.int x5), some (.int x6), some (.int x7)] [] h Q :=
  b_Reck_mean_138 (d := (d + 4)) (sa4 := sa4) (k := (am_wk2 (hk65 _ _ _ _ _ _ _ _ sa4 e) ⟨rfl, ⟨rfl, ⟨rfl, ⟨rfl, ⟨rfl, ⟨rfl, ⟨rfl, trivial⟩⟩⟩⟩⟩⟩⟩))
theorem t_Reck_mean_137 {d : Nat} {k65 : am_H → Int32 → Int32 → Nat → Nat → Int32 → Int32 → Option (Int64 × am_H)} {x1 : Int32} {x2 : Int32} {x3 : Int32} {a4 : Nat} {na4 : Nat} {x5 : Int32} {x6 : Int32} {x7 : Int32} {y2 : Int64} {y1 : Int32} {b0 : Nat} {nb0 : Nat} {h : am_H} {Q : am_Q} {res : Int64 × am_H} (hk65 : ∀ (x1 : Int32) (x2 : Int32) (x3 : Int32) (a4 : Nat) (na4 : Nat) (x5 : Int32) (x6 : Int32) (h : am_H), shX[a4]? = some (.inr (1, na4, [])) → k65 h x2 x3 a4 na4 x5 x6 = some res → am_W (X_Reck_mean (d + 4)) 65 [some (.ref 12), some (.int x1), some (.int x2), some (.int x3), some (.ref a4), some (.int x5), some (.int x6), none] [] h Q) (sa4 : shX[a4]? = some (.inr (1, na4, []))) (sb0 : shX[b0]? = some (.inr (1, nb0, []))) (e : f_Reck_mean_137 k65 h x2 x3 a4 na4 x5 x6 y2 y1 b0 nb0 = some res) (q : Q (some (.long res.1)) res.2) : am_W (X_Reck_mean (d + 4)) 137 [some (.ref 12), some (.int x1), some (.int x2), some (.int x3), some (.ref a4), some (.int x5), some (.int x6), some (.int x7)] [.long y2, .int y1, .ref b0] h Q :=
  b_Reck_mean_137 (d := (d + 4)) (q0 := (am_okv (am_gd e))) (sa4 := sa4) (sb0 := sb0) (k := (t_Reck_mean_138 hk65 sa4 (am_ga e) q))
theorem t_Reck_mean_118 {d : Nat} {k65 : am_H → Int32 → Int32 → Nat → Nat → Int32 → Int32 → Option (Int64 × am_H)} {x1 : Int32} {x2 : Int32} {x3 : Int32} {a4 : Nat} {na4 : Nat} {x5 : Int32} {x6 : Int32} {x7 : Int32} {h : am_H} {Q : am_Q} {res : Int64 × am_H} (hk65 : ∀ (x1 : Int32) (x2 : Int32) (x3 : Int32) (a4 : Nat) (na4 : Nat) (x5 : Int32) (x6 : Int32) (h : am_H), shX[a4]? = some (.inr (1, na4, [])) → k65 h x2 x3 a4 na4 x5 x6 = some res → am_W (X_Reck_mean (d + 4)) 65 [some (.ref 12), some (.int x1), some (.int x2), some (.int x3), some (.ref a4), some (.int x5), some (.int x6), none] [] h Q) (sa4 : shX[a4]? = some (.inr (1, na4, []))) (e : f_Reck_mean_118 k65 h x2 x3 a4 na4 x5 x6 = some res) (q : Q (some (.long res.1)) res.2) : am_W (X_Reck_mean (d + 4)) 118 [some (.ref 12), some (.int x1), some (.int x2), some (.int x3), some (.ref a4), some (.int x5), some (.int x6), some (.int x7)] [] h Q :=
  (am_bd e).elim fun p hp => b_Reck_mean_118 (d := (d + 3)) (sa4 := sa4) (k := c_Reck_workOut (d := d) hp.1 (t_Reck_mean_137 hk65 sa4 sa4 hp.2 q))
theorem t_Reck_mean_108 {d : Nat} {k65 : am_H → Int32 → Int32 → Nat → Nat → Int32 → Int32 → Option (Int64 × am_H)} {x1 : Int32} {x2 : Int32} {x3 : Int32} {a4 : Nat} {na4 : Nat} {x5 : Int32} {x6 : Int32} {x7 : Int32} {h : am_H} {Q : am_Q} {res : Int64 × am_H} (hk65 : ∀ (x1 : Int32) (x2 : Int32) (x3 : Int32) (a4 : Nat) (na4 : Nat) (x5 : Int32) (x6 : Int32) (h : am_H), shX[a4]? = some (.inr (1, na4, [])) → k65 h x2 x3 a4 na4 x5 x6 = some res → am_W (X_Reck_mean (d + 4)) 65 [some (.ref 12), some (.int x1), some (.int x2), some (.int x3), some (.ref a4), some (.int x5), some (.int x6), none] [] h Q) (sa4 : shX[a4]? = some (.inr (1, na4, []))) (e : f_Reck_mean_108 k65 h x2 x3 a4 na4 x5 x6 = some res) (q : Q (some (.long res.1)) res.2) : am_W (X_Reck_mean (d + 4)) 108 [some (.ref 12), some (.int x1), some (.int x2), some (.int x3), some (.ref a4), some (.int x5), some (.int x6), some (.int x7)] [] h Q :=
  b_Reck_mean_108 (d := (d + 4)) (q0 := (am_okv (am_gd e))) (sa4 := sa4) (kt := fun c => (t_Reck_mean_138 hk65 sa4 (am_ife (am_ga e) c) q)) (kf := fun c => (t_Reck_mean_118 hk65 sa4 (am_ift (am_ga e) c) q))
theorem t_Reck_mean_101 {d : Nat} {k65 : am_H → Int32 → Int32 → Nat → Nat → Int32 → Int32 → Option (Int64 × am_H)} {x1 : Int32} {x2 : Int32} {x3 : Int32} {a4 : Nat} {na4 : Nat} {x5 : Int32} {x6 : Int32} {y0 : Int32} {h : am_H} {Q : am_Q} {res : Int64 × am_H} (hk65 : ∀ (x1 : Int32) (x2 : Int32) (x3 : Int32) (a4 : Nat) (na4 : Nat) (x5 : Int32) (x6 : Int32) (h : am_H), shX[a4]? = some (.inr (1, na4, [])) → k65 h x2 x3 a4 na4 x5 x6 = some res → am_W (X_Reck_mean (d + 4)) 65 [some (.ref 12), some (.int x1), some (.int x2), some (.int x3), some (.ref a4), some (.int x5), some (.int x6), none] [] h Q) (sa4 : shX[a4]? = some (.inr (1, na4, []))) (e : f_Reck_mean_101 k65 h x2 x3 a4 na4 x5 x6 y0 = some res) (q : Q (some (.long res.1)) res.2) : am_W (X_Reck_mean (d + 4)) 101 [some (.ref 12), some (.int x1), some (.int x2), some (.int x3), some (.ref a4), some (.int x5), some (.int x6), none] [.int y0] h Q :=
  b_Reck_mean_101 (d := (d + 4)) (sa4 := sa4) (kt := fun c => (t_Reck_mean_138 hk65 sa4 (am_ift e c) q)) (kf := fun c => (t_Reck_mean_108 hk65 sa4 (am_ife e c) q))
theorem t_Reck_mean_96 {d : Nat} {k65 : am_H → Int32 → Int32 → Nat → Nat → Int32 → Int32 → Option (Int64 × am_H)} {x1 : Int32} {x2 : Int32} {x3 : Int32} {a4 : Nat} {na4 : Nat} {x5 : Int32} {x6 : Int32} {h : am_H} {Q : am_Q} {res : Int64 × am_H} (hk65 : ∀ (x1 : Int32) (x2 : Int32) (x3 : Int32) (a4 : Nat) (na4 : Nat) (x5 : Int32) (x6 : Int32) (h : am_H), shX[a4]? = some (.inr (1, na4, [])) → k65 h x2 x3 a4 na4 x5 x6 = some res → am_W (X_Reck_mean (d + 4)) 65 [some (.ref 12), some (.int x1), some (.int x2), some (.int x3), some (.ref a4), some (.int x5), some (.int x6), none] [] h Q) (sa4 : shX[a4]? = some (.inr (1, na4, []))) (e : f_Reck_mean_96 k65 h x2 x3 a4 na4 x5 x6 = some res) (q : Q (some (.long res.1)) res.2) : am_W (X_Reck_mean (d + 4)) 96 [some (.ref 12), some (.int x1), some (.int x2), some (.int x3), some (.ref a4), some (.int x5), some (.int x6), none] [] h Q :=
  b_Reck_mean_96 (d := (d + 4)) (sa4 := sa4) (k := (t_Reck_mean_101 hk65 sa4 e q))
theorem t_Reck_mean_100 {d : Nat} {k65 : am_H → Int32 → Int32 → Nat → Nat → Int32 → Int32 → Option (Int64 × am_H)} {x1 : Int32} {x2 : Int32} {x3 : Int32} {a4 : Nat} {na4 : Nat} {x5 : Int32} {x6 : Int32} {h : am_H} {Q : am_Q} {res : Int64 × am_H} (hk65 : ∀ (x1 : Int32) (x2 : Int32) (x3 : Int32) (a4 : Nat) (na4 : Nat) (x5 : Int32) (x6 : Int32) (h : am_H), shX[a4]? = some (.inr (1, na4, [])) → k65 h x2 x3 a4 na4 x5 x6 = some res → am_W (X_Reck_mean (d + 4)) 65 [some (.ref 12), some (.int x1), some (.int x2), some (.int x3), some (.ref a4), some (.int x5), some (.int x6), none] [] h Q) (sa4 : shX[a4]? = some (.inr (1, na4, []))) (e : f_Reck_mean_100 k65 h x2 x3 a4 na4 x5 x6 = some res) (q : Q (some (.long res.1)) res.2) : am_W (X_Reck_mean (d + 4)) 100 [some (.ref 12), some (.int x1), some (.int x2), some (.int x3), some (.ref a4), some (.int x5), some (.int x6), none] [] h Q :=
  b_Reck_mean_100 (d := (d + 4)) (sa4 := sa4) (k := (t_Reck_mean_101 hk65 sa4 e q))
theorem t_Reck_mean_87 {d : Nat} {k65 : am_H → Int32 → Int32 → Nat → Nat → Int32 → Int32 → Option (Int64 × am_H)} {x1 : Int32} {x2 : Int32} {x3 : Int32} {a4 : Nat} {na4 : Nat} {x5 : Int32} {x6 : Int32} {h : am_H} {Q : am_Q} {res : Int64 × am_H} (hk65 : ∀ (x1 : Int32) (x2 : Int32) (x3 : Int32) (a4 : Nat) (na4 : Nat) (x5 : Int32) (x6 : Int32) (h : am_H), shX[a4]? = some (.inr (1, na4, [])) → k65 h x2 x3 a4 na4 x5 x6 = some res → am_W (X_Reck_mean (d + 4)) 65 [some (.ref 12), some (.int x1), some (.int x2), some (.int x3), some (.ref a4), some (.int x5), some (.int x6), none] [] h Q) (sa4 : shX[a4]? = some (.inr (1, na4, []))) (e : f_Reck_mean_87 k65 h x2 x3 a4 na4 x5 x6 = some res) (q : Q (some (.long res.1)) res.2) : am_W (X_Reck_mean (d + 4)) 87 [some (.ref 12), some (.int x1), some (.int x2), some (.int x3), some (.ref a4), some (.int x5), some (.int x6), none] [] h Q :=
  b_Reck_mean_87 (d := (d + 4)) (sa4 := sa4) (kt := fun c => (t_Reck_mean_100 hk65 sa4 (am_ift e c) q)) (kf := fun c => (t_Reck_mean_96 hk65 sa4 (am_ife e c) q))
theorem t_Reck_mean_80 {d : Nat} {k65 : am_H → Int32 → Int32 → Nat → Nat → Int32 → Int32 → Option (Int64 × am_H)} {x1 : Int32} {x2 : Int32} {x3 : Int32} {a4 : Nat} {na4 : Nat} {x5 : Int32} {x6 : Int32} {h : am_H} {Q : am_Q} {res : Int64 × am_H} (hk65 : ∀ (x1 : Int32) (x2 : Int32) (x3 : Int32) (a4 : Nat) (na4 : Nat) (x5 : Int32) (x6 : Int32) (h : am_H), shX[a4]? = some (.inr (1, na4, [])) → k65 h x2 x3 a4 na4 x5 x6 = some res → am_W (X_Reck_mean (d + 4)) 65 [some (.ref 12), some (.int x1), some (.int x2), some (.int x3), some (.ref a4), some (.int x5), some (.int x6), none] [] h Q) (sa4 : shX[a4]? = some (.inr (1, na4, []))) (e : f_Reck_mean_80 k65 h x2 x3 a4 na4 x5 x6 = some res) (q : Q (some (.long res.1)) res.2) : am_W (X_Reck_mean (d + 4)) 80 [some (.ref 12), some (.int x1), some (.int x2), some (.int x3), some (.ref a4), some (.int x5), some (.int x6), none] [] h Q :=
  b_Reck_mean_80 (d := (d + 4)) (sa4 := sa4) (kt := fun c => (t_Reck_mean_96 hk65 sa4 (am_ift e c) q)) (kf := fun c => (t_Reck_mean_87 hk65 sa4 (am_ife e c) q))
theorem t_Reck_mean_72 {d : Nat} {k65 : am_H → Int32 → Int32 → Nat → Nat → Int32 → Int32 → Option (Int64 × am_H)} {x1 : Int32} {x2 : Int32} {x3 : Int32} {a4 : Nat} {na4 : Nat} {x5 : Int32} {x6 : Int32} {h : am_H} {Q : am_Q} {res : Int64 × am_H} (hk65 : ∀ (x1 : Int32) (x2 : Int32) (x3 : Int32) (a4 : Nat) (na4 : Nat) (x5 : Int32) (x6 : Int32) (h : am_H), shX[a4]? = some (.inr (1, na4, [])) → k65 h x2 x3 a4 na4 x5 x6 = some res → am_W (X_Reck_mean (d + 4)) 65 [some (.ref 12), some (.int x1), some (.int x2), some (.int x3), some (.ref a4), some (.int x5), some (.int x6), none] [] h Q) (sa4 : shX[a4]? = some (.inr (1, na4, []))) (e : f_Reck_mean_72 k65 h x2 x3 a4 na4 x5 x6 = some res) (q : Q (some (.long res.1)) res.2) : am_W (X_Reck_mean (d + 4)) 72 [some (.ref 12), some (.int x1), some (.int x2), some (.int x3), some (.ref a4), some (.int x5), some (.int x6), none] [] h Q :=
  b_Reck_mean_72 (d := (d + 4)) (sa4 := sa4) (kt := fun c => (t_Reck_mean_144 sa4 (am_ift e c) q)) (kf := fun c => (t_Reck_mean_80 hk65 sa4 (am_ife e c) q))
theorem t_Reck_mean_65 {d : Nat} {k65 : am_H → Int32 → Int32 → Nat → Nat → Int32 → Int32 → Option (Int64 × am_H)} {x1 : Int32} {x2 : Int32} {x3 : Int32} {a4 : Nat} {na4 : Nat} {x5 : Int32} {x6 : Int32} {h : am_H} {Q : am_Q} {res : Int64 × am_H} (hk65 : ∀ (x1 : Int32) (x2 : Int32) (x3 : Int32) (a4 : Nat) (na4 : Nat) (x5 : Int32) (x6 : Int32) (h : am_H), shX[a4]? = some (.inr (1, na4, [])) → k65 h x2 x3 a4 na4 x5 x6 = some res → am_W (X_Reck_mean (d + 4)) 65 [some (.ref 12), some (.int x1), some (.int x2), some (.int x3), some (.ref a4), some (.int x5), some (.int x6), none] [] h Q) (sa4 : shX[a4]? = some (.inr (1, na4, []))) (e : f_Reck_mean_65 k65 h x2 x3 a4 na4 x5 x6 = some res) (q : Q (some (.long res.1)) res.2) : am_W (X_Reck_mean (d + 4)) 65 [some (.ref 12), some (.int x1), some (.int x2), some (.int x3), some (.ref a4), some (.int x5), some (.int x6), none] [] h Q :=
  b_Reck_mean_65 (d := (d + 4)) (sa4 := sa4) (kt := fun c => (t_Reck_mean_144 sa4 (am_ift e c) q)) (kf := fun c => (t_Reck_mean_72 hk65 sa4 (am_ife e c) q))
theorem t_Reck_mean_65_l {d : Nat} {Q : am_Q} {res : Int64 × am_H} (q : Q (some (.long res.1)) res.2) : ∀ (n : Nat) (x1 : Int32) (x2 : Int32) (x3 : Int32) (a4 : Nat) (na4 : Nat) (x5 : Int32) (x6 : Int32) (h : am_H), shX[a4]? = some (.inr (1, na4, [])) → f_Reck_mean_65_l n h x2 x3 a4 na4 x5 x6 = some res → am_W (X_Reck_mean (d + 4)) 65 [some (.ref 12), some (.int x1), some (.int x2), some (.int x3), some (.ref a4), some (.int x5), some (.int x6), none] [] h Q := by
  intro n
  induction n with
  | zero => intro x1 x2 x3 a4 na4 x5 x6 h sa4 e; exact am_nn e
  | succ n ih => intro x1 x2 x3 a4 na4 x5 x6 h sa4 e; exact t_Reck_mean_65 (fun x1 x2 x3 a4 na4 x5 x6 h sa4 e => ih x1 x2 x3 a4 na4 x5 x6 h sa4 e) sa4 e q
theorem t_Reck_mean_54 {d : Nat} {x1 : Int32} {x2 : Int32} {x3 : Int32} {a4 : Nat} {na4 : Nat} {h : am_H} {Q : am_Q} {res : Int64 × am_H} (sa4 : shX[a4]? = some (.inr (1, na4, []))) (e : f_Reck_mean_54 h x1 x2 x3 a4 na4 = some res) (q : Q (some (.long res.1)) res.2) : am_W (X_Reck_mean (d + 4)) 54 [some (.ref 12), some (.int x1), some (.int x2), some (.int x3), some (.ref a4), none, none, none] [] h Q :=
  b_Reck_mean_54 (d := (d + 4)) (sa4 := sa4) (k := (t_Reck_mean_65_l q am_fu _ _ _ _ _ _ _ _ sa4 e))
theorem t_Reck_mean_49 {d : Nat} {x1 : Int32} {x2 : Int32} {x3 : Int32} {a4 : Nat} {na4 : Nat} {h : am_H} {Q : am_Q} {res : Int64 × am_H} (sa4 : shX[a4]? = some (.inr (1, na4, []))) (e : f_Reck_mean_49 h x1 x2 x3 a4 na4 = some res) (q : Q (some (.long res.1)) res.2) : am_W (X_Reck_mean (d + 4)) 49 [some (.ref 12), some (.int x1), some (.int x2), some (.int x3), some (.ref a4), none, none, none] [] h Q :=
  b_Reck_mean_49 (d := (d + 4)) (sa4 := sa4) (k := (t_Reck_mean_54 sa4 e q))
theorem t_Reck_mean_41 {d : Nat} {x1 : Int32} {x2 : Int32} {x3 : Int32} {a4 : Nat} {na4 : Nat} {h : am_H} {Q : am_Q} {res : Int64 × am_H} (sa4 : shX[a4]? = some (.inr (1, na4, []))) (e : f_Reck_mean_41 h x1 x2 x3 a4 na4 = some res) (q : Q (some (.long res.1)) res.2) : am_W (X_Reck_mean (d + 4)) 41 [some (.ref 12), some (.int x1), some (.int x2), some (.int x3), some (.ref a4), none, none, none] [] h Q :=
  b_Reck_mean_41 (d := (d + 4)) (sa4 := sa4) (k := (t_Reck_mean_54 sa4 e q))
theorem t_Reck_mean_34 {d : Nat} {x1 : Int32} {x2 : Int32} {x3 : Int32} {b0 : Nat} {nb0 : Nat} {h : am_H} {Q : am_Q} {res : Int64 × am_H} (sb0 : shX[b0]? = some (.inr (1, nb0, []))) (e : f_Reck_mean_34 h x1 x2 x3 b0 nb0 = some res) (q : Q (some (.long res.1)) res.2) : am_W (X_Reck_mean (d + 4)) 34 [some (.ref 12), some (.int x1), some (.int x2), some (.int x3), none, none, none, none] [.ref b0] h Q :=
  b_Reck_mean_34 (d := (d + 4)) (sb0 := sb0) (kt := fun c => (t_Reck_mean_49 sb0 (am_ife e c) q)) (kf := fun c => (t_Reck_mean_41 sb0 (am_ift e c) q))
theorem t_Reck_mean_30 {d : Nat} {x1 : Int32} {x2 : Int32} {x3 : Int32} {h : am_H} {Q : am_Q} {res : Int64 × am_H} (e : f_Reck_mean_30 h x1 x2 x3 = some res) (q : Q (some (.long res.1)) res.2) : am_W (X_Reck_mean (d + 4)) 30 [some (.ref 12), some (.int x1), some (.int x2), some (.int x3), none, none, none, none] [] h Q :=
  b_Reck_mean_30 (d := (d + 4)) (k := (t_Reck_mean_34 rfl e q))
theorem t_Reck_mean_23 {d : Nat} {x1 : Int32} {x2 : Int32} {x3 : Int32} {h : am_H} {Q : am_Q} {res : Int64 × am_H} (e : f_Reck_mean_23 h x1 x2 x3 = some res) (q : Q (some (.long res.1)) res.2) : am_W (X_Reck_mean (d + 4)) 23 [some (.ref 12), some (.int x1), some (.int x2), some (.int x3), none, none, none, none] [] h Q :=
  b_Reck_mean_23 (d := (d + 4)) (k := (t_Reck_mean_34 rfl e q))
theorem t_Reck_mean_18 {d : Nat} {x1 : Int32} {x2 : Int32} {x3 : Int32} {h : am_H} {Q : am_Q} {res : Int64 × am_H} (e : f_Reck_mean_18 h x1 x2 x3 = some res) (q : Q (some (.long res.1)) res.2) : am_W (X_Reck_mean (d + 4)) 18 [some (.ref 12), some (.int x1), some (.int x2), some (.int x3), none, none, none, none] [] h Q :=
  b_Reck_mean_18 (d := (d + 4)) (kt := fun c => (t_Reck_mean_30 (am_ife e c) q)) (kf := fun c => (t_Reck_mean_23 (am_ift e c) q))
theorem t_Reck_mean_11 {d : Nat} {x1 : Int32} {x2 : Int32} {x3 : Int32} {h : am_H} {Q : am_Q} {res : Int64 × am_H} (e : f_Reck_mean_11 h x1 x2 x3 = some res) (q : Q (some (.long res.1)) res.2) : am_W (X_Reck_mean (d + 4)) 11 [some (.ref 12), some (.int x1), some (.int x2), some (.int x3), none, none, none, none] [] h Q :=
  b_Reck_mean_11 (d := (d + 4)) (kt := fun c => (t_Reck_mean_18 (am_ift e c) q)) (kf := fun c => (t_Reck_mean_16 (am_ife e c) q))
theorem t_Reck_mean_7 {d : Nat} {x1 : Int32} {x2 : Int32} {x3 : Int32} {h : am_H} {Q : am_Q} {res : Int64 × am_H} (e : f_Reck_mean_7 h x1 x2 x3 = some res) (q : Q (some (.long res.1)) res.2) : am_W (X_Reck_mean (d + 4)) 7 [some (.ref 12), some (.int x1), some (.int x2), some (.int x3), none, none, none, none] [] h Q :=
  b_Reck_mean_7 (d := (d + 4)) (kt := fun c => (t_Reck_mean_16 (am_ift e c) q)) (kf := fun c => (t_Reck_mean_11 (am_ife e c) q))
theorem t_Reck_mean_4 {d : Nat} {x1 : Int32} {x2 : Int32} {x3 : Int32} {y0 : Bool} {h : am_H} {Q : am_Q} {res : Int64 × am_H} (e : f_Reck_mean_4 h x1 x2 x3 y0 = some res) (q : Q (some (.long res.1)) res.2) : am_W (X_Reck_mean (d + 4)) 4 [some (.ref 12), some (.int x1), some (.int x2), some (.int x3), none, none, none, none] [.int (am_b y0)] h Q :=
  b_Reck_mean_4 (d := (d + 4)) (kt := fun c => (t_Reck_mean_16 (am_iff e (am_bz c)) q)) (kf := fun c => (t_Reck_mean_7 (am_ift e (am_bn c)) q))
theorem t_Reck_mean_0 {d : Nat} {x1 : Int32} {x2 : Int32} {x3 : Int32} {h : am_H} {Q : am_Q} {res : Int64 × am_H} (e : f_Reck_mean h x1 x2 x3 = some res) (q : Q (some (.long res.1)) res.2) : am_W (X_Reck_mean (d + 4)) 0 [some (.ref 12), some (.int x1), some (.int x2), some (.int x3), none, none, none, none] [] h Q :=
  b_Reck_mean_0 (d := (d + 3)) (k := c_Hole_isCell (d := d + 3) rfl (t_Reck_mean_4 e q))
theorem c_Reck_mean {d : Nat} {x1 : Int32} {x2 : Int32} {x3 : Int32} {h : am_H} {Q : am_Q} {res : Int64 × am_H} (e : f_Reck_mean h x1 x2 x3 = some res) (q : Q (some (.long res.1)) res.2) : m_Reck_mean (d + 4) [.ref 12, .int x1, .int x2, .int x3] h Q :=
  e_Reck_mean (t_Reck_mean_0 e q)
theorem d_Club_strokes_0 : decode prog_1_method_14_code 0 = .ok (.iload_n 1, 1) := by decide +kernel
theorem d_Club_strokes_1 : decode prog_1_method_14_code 1 = .ok (.invokestatic 149, 3) := by decide +kernel
theorem d_Club_strokes_4 : decode prog_1_method_14_code 4 = .ok (.ifCond .eq 21, 3) := by decide +kernel
theorem d_Club_strokes_7 : decode prog_1_method_14_code 7 = .ok (.iload_n 2, 1) := by decide +kernel
theorem d_Club_strokes_8 : decode prog_1_method_14_code 8 = .ok (.ifCond .lt 17, 3) := by decide +kernel
theorem d_Club_strokes_11 : decode prog_1_method_14_code 11 = .ok (.iload_n 2, 1) := by decide +kernel
theorem d_Club_strokes_12 : decode prog_1_method_14_code 12 = .ok (.iconst 4, 1) := by decide +kernel
theorem d_Club_strokes_13 : decode prog_1_method_14_code 13 = .ok (.if_icmp .gt 12, 3) := by decide +kernel
theorem d_Club_strokes_16 : decode prog_1_method_14_code 16 = .ok (.iload_n 3, 1) := by decide +kernel
theorem d_Club_strokes_17 : decode prog_1_method_14_code 17 = .ok (.ifCond .lt 8, 3) := by decide +kernel
theorem d_Club_strokes_20 : decode prog_1_method_14_code 20 = .ok (.iload_n 3, 1) := by decide +kernel
theorem d_Club_strokes_21 : decode prog_1_method_14_code 21 = .ok (.iconst 2, 1) := by decide +kernel
theorem d_Club_strokes_22 : decode prog_1_method_14_code 22 = .ok (.if_icmp .le 7, 3) := by decide +kernel
theorem d_Club_strokes_25 : decode prog_1_method_14_code 25 = .ok (.ldc2_w 155, 3) := by decide +kernel
theorem d_Club_strokes_28 : decode prog_1_method_14_code 28 = .ok (.lreturn, 1) := by decide +kernel
theorem d_Club_strokes_29 : decode prog_1_method_14_code 29 = .ok (.aload_n 0, 1) := by decide +kernel
theorem d_Club_strokes_30 : decode prog_1_method_14_code 30 = .ok (.getfield 30, 3) := by decide +kernel
theorem d_Club_strokes_33 : decode prog_1_method_14_code 33 = .ok (.iload_n 1, 1) := by decide +kernel
theorem d_Club_strokes_34 : decode prog_1_method_14_code 34 = .ok (.iload_n 2, 1) := by decide +kernel
theorem d_Club_strokes_35 : decode prog_1_method_14_code 35 = .ok (.iconst 0, 1) := by decide +kernel
theorem d_Club_strokes_36 : decode prog_1_method_14_code 36 = .ok (.invokevirtual 196, 3) := by decide +kernel
theorem d_Club_strokes_39 : decode prog_1_method_14_code 39 = .ok (.lstore 4, 2) := by decide +kernel
theorem d_Club_strokes_41 : decode prog_1_method_14_code 41 = .ok (.iload_n 3, 1) := by decide +kernel
theorem d_Club_strokes_42 : decode prog_1_method_14_code 42 = .ok (.iconst 2, 1) := by decide +kernel
theorem d_Club_strokes_43 : decode prog_1_method_14_code 43 = .ok (.if_icmp .ge 14, 3) := by decide +kernel
theorem d_Club_strokes_46 : decode prog_1_method_14_code 46 = .ok (.lload 4, 2) := by decide +kernel
theorem d_Club_strokes_48 : decode prog_1_method_14_code 48 = .ok (.iload_n 2, 1) := by decide +kernel
theorem d_Club_strokes_49 : decode prog_1_method_14_code 49 = .ok (.invokestatic 200, 3) := by decide +kernel
theorem d_Club_strokes_52 : decode prog_1_method_14_code 52 = .ok (.iload_n 3, 1) := by decide +kernel
theorem d_Club_strokes_53 : decode prog_1_method_14_code 53 = .ok (.invokestatic 170, 3) := by decide +kernel
theorem d_Club_strokes_56 : decode prog_1_method_14_code 56 = .ok (.lreturn, 1) := by decide +kernel
theorem d_Club_strokes_57 : decode prog_1_method_14_code 57 = .ok (.iload_n 2, 1) := by decide +kernel
theorem d_Club_strokes_58 : decode prog_1_method_14_code 58 = .ok (.ifCond .eq 24, 3) := by decide +kernel
theorem d_Club_strokes_61 : decode prog_1_method_14_code 61 = .ok (.aload_n 0, 1) := by decide +kernel
theorem d_Club_strokes_62 : decode prog_1_method_14_code 62 = .ok (.getfield 12, 3) := by decide +kernel
theorem d_Club_strokes_65 : decode prog_1_method_14_code 65 = .ok (.iload_n 1, 1) := by decide +kernel
theorem d_Club_strokes_66 : decode prog_1_method_14_code 66 = .ok (.invokevirtual 178, 3) := by decide +kernel
theorem d_Club_strokes_69 : decode prog_1_method_14_code 69 = .ok (.ifCond .ne 13, 3) := by decide +kernel
theorem d_Club_strokes_72 : decode prog_1_method_14_code 72 = .ok (.aload_n 0, 1) := by decide +kernel
theorem d_Club_strokes_73 : decode prog_1_method_14_code 73 = .ok (.getfield 12, 3) := by decide +kernel
theorem d_Club_strokes_76 : decode prog_1_method_14_code 76 = .ok (.invokevirtual 181, 3) := by decide +kernel
theorem d_Club_strokes_79 : decode prog_1_method_14_code 79 = .ok (.ifCond .eq 9, 3) := by decide +kernel
theorem d_Club_strokes_82 : decode prog_1_method_14_code 82 = .ok (.ldc2_w 204, 3) := by decide +kernel
theorem d_Club_strokes_85 : decode prog_1_method_14_code 85 = .ok (.goto 13, 3) := by decide +kernel
theorem d_Club_strokes_88 : decode prog_1_method_14_code 88 = .ok (.aload_n 0, 1) := by decide +kernel
theorem d_Club_strokes_89 : decode prog_1_method_14_code 89 = .ok (.getfield 30, 3) := by decide +kernel
theorem d_Club_strokes_92 : decode prog_1_method_14_code 92 = .ok (.iload_n 1, 1) := by decide +kernel
theorem d_Club_strokes_93 : decode prog_1_method_14_code 93 = .ok (.iload_n 2, 1) := by decide +kernel
theorem d_Club_strokes_94 : decode prog_1_method_14_code 94 = .ok (.invokevirtual 206, 3) := by decide +kernel
theorem d_Club_strokes_97 : decode prog_1_method_14_code 97 = .ok (.i2l, 1) := by decide +kernel
theorem d_Club_strokes_98 : decode prog_1_method_14_code 98 = .ok (.lreturn, 1) := by decide +kernel
theorem b_Club_strokes_0 {d : Nat} {x1 : Int32} {x2 : Int32} {x3 : Int32} {h : am_H} {Q : am_Q} (k : m_Hole_isCell d [.int x1] h (fun r hh => am_W (X_Club_strokes (d + 1)) 4 [some (.ref 0), some (.int x1), some (.int x2), some (.int x3), none, none] (r.toList ++ []) hh Q)) : am_W (X_Club_strokes (d + 1)) 0 [some (.ref 0), some (.int x1), some (.int x2), some (.int x3), none, none] [] h Q :=
  am_iload_n d_Club_strokes_0 rfl (i := 1) rfl <|
    am_callS (vs := [.int x1]) (st := []) rfl d_Club_strokes_1 w_679 w_469 w_84 w_470 p_Hole_isCell (Nat.le_of_ble_eq_true rfl) (Nat.le_of_ble_eq_true rfl) rfl k
theorem b_Club_strokes_4 {d : Nat} {x1 : Int32} {x2 : Int32} {x3 : Int32} {y0 : Bool} {h : am_H} {Q : am_Q} (kt : (am_b y0) = 0 → am_W (X_Club_strokes d) 25 [some (.ref 0), some (.int x1), some (.int x2), some (.int x3), none, none] [] h Q) (kf : ¬ (am_b y0) = 0 → am_W (X_Club_strokes d) 7 [some (.ref 0), some (.int x1), some (.int x2), some (.int x3), none, none] [] h Q) : am_W (X_Club_strokes d) 4 [some (.ref 0), some (.int x1), some (.int x2), some (.int x3), none, none] [.int (am_b y0)] h Q :=
  am_if_eq (tgt := 25) d_Club_strokes_4 (by decide) kt kf
theorem b_Club_strokes_7 {d : Nat} {x1 : Int32} {x2 : Int32} {x3 : Int32} {h : am_H} {Q : am_Q} (kt : x2 < 0 → am_W (X_Club_strokes d) 25 [some (.ref 0), some (.int x1), some (.int x2), some (.int x3), none, none] [] h Q) (kf : ¬ x2 < 0 → am_W (X_Club_strokes d) 11 [some (.ref 0), some (.int x1), some (.int x2), some (.int x3), none, none] [] h Q) : am_W (X_Club_strokes d) 7 [some (.ref 0), some (.int x1), some (.int x2), some (.int x3), none, none] [] h Q :=
  am_iload_n d_Club_strokes_7 rfl (i := 2) rfl <|
    am_if_lt (tgt := 25) d_Club_strokes_8 (by decide) kt kf
theorem b_Club_strokes_11 {d : Nat} {x1 : Int32} {x2 : Int32} {x3 : Int32} {h : am_H} {Q : am_Q} (kt : 4 < x2 → am_W (X_Club_strokes d) 25 [some (.ref 0), some (.int x1), some (.int x2), some (.int x3), none, none] [] h Q) (kf : ¬ 4 < x2 → am_W (X_Club_strokes d) 16 [some (.ref 0), some (.int x1), some (.int x2), some (.int x3), none, none] [] h Q) : am_W (X_Club_strokes d) 11 [some (.ref 0), some (.int x1), some (.int x2), some (.int x3), none, none] [] h Q :=
  am_iload_n d_Club_strokes_11 rfl (i := 2) rfl <|
    am_iconst (v := 4) d_Club_strokes_12 (by decide) <|
    am_icmp_gt (tgt := 25) d_Club_strokes_13 (by decide) kt kf
theorem b_Club_strokes_16 {d : Nat} {x1 : Int32} {x2 : Int32} {x3 : Int32} {h : am_H} {Q : am_Q} (kt : x3 < 0 → am_W (X_Club_strokes d) 25 [some (.ref 0), some (.int x1), some (.int x2), some (.int x3), none, none] [] h Q) (kf : ¬ x3 < 0 → am_W (X_Club_strokes d) 20 [some (.ref 0), some (.int x1), some (.int x2), some (.int x3), none, none] [] h Q) : am_W (X_Club_strokes d) 16 [some (.ref 0), some (.int x1), some (.int x2), some (.int x3), none, none] [] h Q :=
  am_iload_n d_Club_strokes_16 rfl (i := 3) rfl <|
    am_if_lt (tgt := 25) d_Club_strokes_17 (by decide) kt kf
theorem b_Club_strokes_20 {d : Nat} {x1 : Int32} {x2 : Int32} {x3 : Int32} {h : am_H} {Q : am_Q} (kt : x3 ≤ 2 → am_W (X_Club_strokes d) 29 [some (.ref 0), some (.int x1), some (.int x2), some (.int x3), none, none] [] h Q) (kf : ¬ x3 ≤ 2 → am_W (X_Club_strokes d) 25 [some (.ref 0), some (.int x1), some (.int x2), some (.int x3), none, none] [] h Q) : am_W (X_Club_strokes d) 20 [some (.ref 0), some (.int x1), some (.int x2), some (.int x3), none, none] [] h Q :=
  am_iload_n d_Club_strokes_20 rfl (i := 3) rfl <|
    am_iconst (v := 2) d_Club_strokes_21 (by decide) <|
    am_icmp_le (tgt := 29) d_Club_strokes_22 (by decide) kt kf
theorem b_Club_strokes_25 {d : Nat} {x1 : Int32} {x2 : Int32} {x3 : Int32} {h : am_H} {Q : am_Q} (q : Q (some (.long (-9223372036854775808))) h) : am_W (X_Club_strokes d) 25 [some (.ref 0), some (.int x1), some (.int x2), some (.int x3), none, none] [] h Q :=
  am_ldc2 (v := (-9223372036854775808)) d_Club_strokes_25 w_683 <|
    am_lret rfl d_Club_strokes_28 q
theorem b_Club_strokes_29 {d : Nat} {x1 : Int32} {x2 : Int32} {x3 : Int32} {h : am_H} {Q : am_Q} (k : m_Reck_mean d [.ref 12, .int x1, .int x2, .int 0] h (fun r hh => am_W (X_Club_strokes (d + 1)) 39 [some (.ref 0), some (.int x1), some (.int x2), some (.int x3), none, none] (r.toList ++ []) hh Q)) : am_W (X_Club_strokes (d + 1)) 29 [some (.ref 0), some (.int x1), some (.int x2), some (.int x3), none, none] [] h Q :=
  am_aload_n d_Club_strokes_29 rfl (i := 0) rfl <|
    am_getR (ci := 0) (i := 2) rfl rfl rfl (Nat.le_of_ble_eq_true rfl) w_364 d_Club_strokes_30 <|
    am_iload_n d_Club_strokes_33 rfl (i := 1) rfl <|
    am_iload_n d_Club_strokes_34 rfl (i := 2) rfl <|
    am_iconst (v := 0) d_Club_strokes_35 (by decide) <|
    am_callV (vs := [.int x1, .int x2, .int 0]) (st := []) (k := 12) (ci := 3) rfl d_Club_strokes_36 rfl rfl w_805 w_806 w_807 w_87 w_808 p_Reck_mean (Nat.le_of_ble_eq_true rfl) (Nat.le_of_ble_eq_true rfl) rfl k
theorem b_Club_strokes_39 {d : Nat} {x1 : Int32} {x2 : Int32} {x3 : Int32} {y0 : Int64} {h : am_H} {Q : am_Q} (kt : 2 ≤ x3 → am_W (X_Club_strokes d) 57 [some (.ref 0), some (.int x1), some (.int x2), some (.int x3), some (.long y0), none] [] h Q) (kf : ¬ 2 ≤ x3 → am_W (X_Club_strokes d) 46 [some (.ref 0), some (.int x1), some (.int x2), some (.int x3), some (.long y0), none] [] h Q) : am_W (X_Club_strokes d) 39 [some (.ref 0), some (.int x1), some (.int x2), some (.int x3), none, none] [.long y0] h Q :=
  am_lstore (ls' := [some (.ref 0), some (.int x1), some (.int x2), some (.int x3), some (.long y0), none]) d_Club_strokes_39 (Nat.le_of_ble_eq_true rfl) rfl <|
    am_iload_n d_Club_strokes_41 rfl (i := 3) rfl <|
    am_iconst (v := 2) d_Club_strokes_42 (by decide) <|
    am_icmp_ge (tgt := 57) d_Club_strokes_43 (by decide) kt kf
theorem b_Club_strokes_46 {d : Nat} {x1 : Int32} {x2 : Int32} {x3 : Int32} {x4 : Int64} {h : am_H} {Q : am_Q} (k : m_Reck_unit d [.int x2] h (fun r hh => am_W (X_Club_strokes (d + 1)) 52 [some (.ref 0), some (.int x1), some (.int x2), some (.int x3), some (.long x4), none] (r.toList ++ [.long x4]) hh Q)) : am_W (X_Club_strokes (d + 1)) 46 [some (.ref 0), some (.int x1), some (.int x2), some (.int x3), some (.long x4), none] [] h Q :=
  am_lload d_Club_strokes_46 rfl <|
    am_iload_n d_Club_strokes_48 rfl (i := 2) rfl <|
    am_callS (vs := [.int x2]) (st := [.long x4]) rfl d_Club_strokes_49 w_848 w_820 w_87 w_821 p_Reck_unit (Nat.le_of_ble_eq_true rfl) (Nat.le_of_ble_eq_true rfl) rfl k
theorem b_Club_strokes_52 {d : Nat} {x1 : Int32} {x2 : Int32} {x3 : Int32} {x4 : Int64} {y1 : Int64} {y0 : Int64} {h : am_H} {Q : am_Q} (k : m_Club_partOf d [.long y0, .long y1, .int x3] h (fun r hh => am_W (X_Club_strokes (d + 1)) 56 [some (.ref 0), some (.int x1), some (.int x2), some (.int x3), some (.long x4), none] (r.toList ++ []) hh Q)) : am_W (X_Club_strokes (d + 1)) 52 [some (.ref 0), some (.int x1), some (.int x2), some (.int x3), some (.long x4), none] [.long y1, .long y0] h Q :=
  am_iload_n d_Club_strokes_52 rfl (i := 3) rfl <|
    am_callS (vs := [.long y0, .long y1, .int x3]) (st := []) rfl d_Club_strokes_53 w_712 w_713 w_83 w_714 p_Club_partOf (Nat.le_of_ble_eq_true rfl) (Nat.le_of_ble_eq_true rfl) rfl k
theorem b_Club_strokes_56 {d : Nat} {x1 : Int32} {x2 : Int32} {x3 : Int32} {x4 : Int64} {y0 : Int64} {h : am_H} {Q : am_Q} (q : Q (some (.long y0)) h) : am_W (X_Club_strokes d) 56 [some (.ref 0), some (.int x1), some (.int x2), some (.int x3), some (.long x4), none] [.long y0] h Q :=
  am_lret rfl d_Club_strokes_56 q
theorem b_Club_strokes_57 {d : Nat} {x1 : Int32} {x2 : Int32} {x3 : Int32} {x4 : Int64} {h : am_H} {Q : am_Q} (kt : x2 = 0 → am_W (X_Club_strokes d) 82 [some (.ref 0), some (.int x1), some (.int x2), some (.int x3), some (.long x4), none] [] h Q) (kf : ¬ x2 = 0 → am_W (X_Club_strokes d) 61 [some (.ref 0), some (.int x1), some (.int x2), some (.int x3), some (.long x4), none] [] h Q) : am_W (X_Club_strokes d) 57 [some (.ref 0), some (.int x1), some (.int x2), some (.int x3), some (.long x4), none] [] h Q :=
  am_iload_n d_Club_strokes_57 rfl (i := 2) rfl <|
    am_if_eq (tgt := 82) d_Club_strokes_58 (by decide) kt kf
theorem b_Club_strokes_61 {d : Nat} {x1 : Int32} {x2 : Int32} {x3 : Int32} {x4 : Int64} {h : am_H} {Q : am_Q} (k : m_Hole_isGreen d [.ref 1, .int x1] h (fun r hh => am_W (X_Club_strokes (d + 1)) 69 [some (.ref 0), some (.int x1), some (.int x2), some (.int x3), some (.long x4), none] (r.toList ++ []) hh Q)) : am_W (X_Club_strokes (d + 1)) 61 [some (.ref 0), some (.int x1), some (.int x2), some (.int x3), some (.long x4), none] [] h Q :=
  am_aload_n d_Club_strokes_61 rfl (i := 0) rfl <|
    am_getR (ci := 0) (i := 0) rfl rfl rfl (Nat.le_of_ble_eq_true rfl) w_362 d_Club_strokes_62 <|
    am_iload_n d_Club_strokes_65 rfl (i := 1) rfl <|
    am_callV (vs := [.int x1]) (st := []) (k := 1) (ci := 1) rfl d_Club_strokes_66 rfl rfl w_734 w_675 w_676 w_84 w_677 p_Hole_isGreen (Nat.le_of_ble_eq_true rfl) (Nat.le_of_ble_eq_true rfl) rfl k
theorem b_Club_strokes_69 {d : Nat} {x1 : Int32} {x2 : Int32} {x3 : Int32} {x4 : Int64} {y0 : Bool} {h : am_H} {Q : am_Q} (kt : ¬ (am_b y0) = 0 → am_W (X_Club_strokes d) 82 [some (.ref 0), some (.int x1), some (.int x2), some (.int x3), some (.long x4), none] [] h Q) (kf : (am_b y0) = 0 → am_W (X_Club_strokes d) 72 [some (.ref 0), some (.int x1), some (.int x2), some (.int x3), some (.long x4), none] [] h Q) : am_W (X_Club_strokes d) 69 [some (.ref 0), some (.int x1), some (.int x2), some (.int x3), some (.long x4), none] [.int (am_b y0)] h Q :=
  am_if_ne (tgt := 82) d_Club_strokes_69 (by decide) kt kf
theorem b_Club_strokes_72 {d : Nat} {x1 : Int32} {x2 : Int32} {x3 : Int32} {x4 : Int64} {h : am_H} {Q : am_Q} (k : m_Hole_hasNoClubs d [.ref 1] h (fun r hh => am_W (X_Club_strokes (d + 1)) 79 [some (.ref 0), some (.int x1), some (.int x2), some (.int x3), some (.long x4), none] (r.toList ++ []) hh Q)) : am_W (X_Club_strokes (d + 1)) 72 [some (.ref 0), some (.int x1), some (.int x2), some (.int x3), some (.long x4), none] [] h Q :=
  am_aload_n d_Club_strokes_72 rfl (i := 0) rfl <|
    am_getR (ci := 0) (i := 0) rfl rfl rfl (Nat.le_of_ble_eq_true rfl) w_362 d_Club_strokes_73 <|
    am_callV (vs := []) (st := []) (k := 1) (ci := 1) rfl d_Club_strokes_76 rfl rfl w_735 w_736 w_737 w_84 w_738 p_Hole_hasNoClubs (Nat.le_of_ble_eq_true rfl) (Nat.le_of_ble_eq_true rfl) rfl k
theorem b_Club_strokes_79 {d : Nat} {x1 : Int32} {x2 : Int32} {x3 : Int32} {x4 : Int64} {y0 : Bool} {h : am_H} {Q : am_Q} (kt : (am_b y0) = 0 → am_W (X_Club_strokes d) 88 [some (.ref 0), some (.int x1), some (.int x2), some (.int x3), some (.long x4), none] [] h Q) (kf : ¬ (am_b y0) = 0 → am_W (X_Club_strokes d) 82 [some (.ref 0), some (.int x1), some (.int x2), some (.int x3), some (.long x4), none] [] h Q) : am_W (X_Club_strokes d) 79 [some (.ref 0), some (.int x1), some (.int x2), some (.int x3), some (.long x4), none] [.int (am_b y0)] h Q :=
  am_if_eq (tgt := 88) d_Club_strokes_79 (by decide) kt kf
theorem b_Club_strokes_82 {d : Nat} {x1 : Int32} {x2 : Int32} {x3 : Int32} {x4 : Int64} {h : am_H} {Q : am_Q} (q : Q (some (.long (-2))) h) : am_W (X_Club_strokes d) 82 [some (.ref 0), some (.int x1), some (.int x2), some (.int x3), some (.long x4), none] [] h Q :=
  am_ldc2 (v := (-2)) d_Club_strokes_82 w_849 <|
    am_goto (tgt := 98) d_Club_strokes_85 (by decide) <|
    am_lret rfl d_Club_strokes_98 q
theorem b_Club_strokes_88 {d : Nat} {x1 : Int32} {x2 : Int32} {x3 : Int32} {x4 : Int64} {h : am_H} {Q : am_Q} (k : m_Reck_bestClub d [.ref 12, .int x1, .int x2] h (fun r hh => am_W (X_Club_strokes (d + 1)) 97 [some (.ref 0), some (.int x1), some (.int x2), some (.int x3), some (.long x4), none] (r.toList ++ []) hh Q)) : am_W (X_Club_strokes (d + 1)) 88 [some (.ref 0), some (.int x1), some (.int x2), some (.int x3), some (.long x4), none] [] h Q :=
  am_aload_n d_Club_strokes_88 rfl (i := 0) rfl <|
    am_getR (ci := 0) (i := 2) rfl rfl rfl (Nat.le_of_ble_eq_true rfl) w_364 d_Club_strokes_89 <|
    am_iload_n d_Club_strokes_92 rfl (i := 1) rfl <|
    am_iload_n d_Club_strokes_93 rfl (i := 2) rfl <|
    am_callV (vs := [.int x1, .int x2]) (st := []) (k := 12) (ci := 3) rfl d_Club_strokes_94 rfl rfl w_850 w_851 w_852 w_87 w_853 p_Reck_bestClub (Nat.le_of_ble_eq_true rfl) (Nat.le_of_ble_eq_true rfl) rfl k
theorem b_Club_strokes_97 {d : Nat} {x1 : Int32} {x2 : Int32} {x3 : Int32} {x4 : Int64} {y0 : Int32} {h : am_H} {Q : am_Q} (q : Q (some (.long y0.toInt64)) h) : am_W (X_Club_strokes d) 97 [some (.ref 0), some (.int x1), some (.int x2), some (.int x3), some (.long x4), none] [.int y0] h Q :=
  am_i2l d_Club_strokes_97 <|
    am_lret rfl d_Club_strokes_98 q
theorem t_Club_strokes_25 {d : Nat} {x1 : Int32} {x2 : Int32} {x3 : Int32} {h : am_H} {Q : am_Q} {res : Int64 × am_H} (e : f_Club_strokes_25 h = some res) (q : Q (some (.long res.1)) res.2) : am_W (X_Club_strokes (d + 5)) 25 [some (.ref 0), some (.int x1), some (.int x2), some (.int x3), none, none] [] h Q :=
  b_Club_strokes_25 (d := (d + 5)) (q := (am_rJpi (v := (-9223372036854775808)) e q))
theorem t_Club_strokes_82 {d : Nat} {x1 : Int32} {x2 : Int32} {x3 : Int32} {x4 : Int64} {h : am_H} {Q : am_Q} {res : Int64 × am_H} (e : f_Club_strokes_82 h = some res) (q : Q (some (.long res.1)) res.2) : am_W (X_Club_strokes (d + 5)) 82 [some (.ref 0), some (.int x1), some (.int x2), some (.int x3), some (.long x4), none] [] h Q :=
  b_Club_strokes_82 (d := (d + 5)) (q := (am_rJpi (v := (-2)) e q))
theorem t_Club_strokes_97 {d : Nat} {x1 : Int32} {x2 : Int32} {x3 : Int32} {x4 : Int64} {y0 : Int32} {h : am_H} {Q : am_Q} {res : Int64 × am_H} (e : f_Club_strokes_97 h y0 = some res) (q : Q (some (.long res.1)) res.2) : am_W (X_Club_strokes (d + 5)) 97 [some (.ref 0), some (.int x1), some (.int x2), some (.int x3), some (.long x4), none] [.int y0] h Q :=
  b_Club_strokes_97 (d := (d + 5)) (q := (am_rJpi (v := y0.toInt64) e q))
theorem t_Club_strokes_88 {d : Nat} {x1 : Int32} {x2 : Int32} {x3 : Int32} {x4 : Int64} {h : am_H} {Q : am_Q} {res : Int64 × am_H} (e : f_Club_strokes_88 h x1 x2 = some res) (q : Q (some (.long res.1)) res.2) : am_W (X_Club_strokes (d + 5)) 88 [some (.ref 0), some (.int x1), some (.int x2), some (.int x3), some (.long x4), none] [] h Q :=
  (am_bd e).elim fun p hp => b_Club_strokes_88 (d := (d + 4)) (k := c_Reck_bestClub (d := d + 4) hp.1 (t_Club_strokes_97 hp.2 q))
theorem t_Club_strokes_79 {d : Nat} {x1 : Int32} {x2 : Int32} {x3 : Int32} {x4 : Int64} {y0 : Bool} {h : am_H} {Q : am_Q} {res : Int64 × am_H} (e : f_Club_strokes_79 h x1 x2 y0 = some res) (q : Q (some (.long res.1)) res.2) : am_W (X_Club_strokes (d + 5)) 79 [some (.ref 0), some (.int x1), some (.int x2), some (.int x3), some (.long x4), none] [.int (am_b y0)] h Q :=
  b_Club_strokes_79 (d := (d + 5)) (kt := fun c => (t_Club_strokes_88 (am_iff e (am_bz c)) q)) (kf := fun c => (t_Club_strokes_82 (am_ift e (am_bn c)) q))
theorem t_Club_strokes_72 {d : Nat} {x1 : Int32} {x2 : Int32} {x3 : Int32} {x4 : Int64} {h : am_H} {Q : am_Q} {res : Int64 × am_H} (e : f_Club_strokes_72 h x1 x2 = some res) (q : Q (some (.long res.1)) res.2) : am_W (X_Club_strokes (d + 5)) 72 [some (.ref 0), some (.int x1), some (.int x2), some (.int x3), some (.long x4), none] [] h Q :=
  b_Club_strokes_72 (d := (d + 4)) (k := c_Hole_hasNoClubs (d := d + 4) rfl (t_Club_strokes_79 e q))
theorem t_Club_strokes_69 {d : Nat} {x1 : Int32} {x2 : Int32} {x3 : Int32} {x4 : Int64} {y0 : Bool} {h : am_H} {Q : am_Q} {res : Int64 × am_H} (e : f_Club_strokes_69 h x1 x2 y0 = some res) (q : Q (some (.long res.1)) res.2) : am_W (X_Club_strokes (d + 5)) 69 [some (.ref 0), some (.int x1), some (.int x2), some (.int x3), some (.long x4), none] [.int (am_b y0)] h Q :=
  b_Club_strokes_69 (d := (d + 5)) (kt := fun c => (t_Club_strokes_82 (am_ift e (am_bn c)) q)) (kf := fun c => (t_Club_strokes_72 (am_iff e (am_bz c)) q))
theorem t_Club_strokes_61 {d : Nat} {x1 : Int32} {x2 : Int32} {x3 : Int32} {x4 : Int64} {h : am_H} {Q : am_Q} {res : Int64 × am_H} (e : f_Club_strokes_61 h x1 x2 = some res) (q : Q (some (.long res.1)) res.2) : am_W (X_Club_strokes (d + 5)) 61 [some (.ref 0), some (.int x1), some (.int x2), some (.int x3), some (.long x4), none] [] h Q :=
  (am_bd e).elim fun p hp => b_Club_strokes_61 (d := (d + 4)) (k := c_Hole_isGreen (d := d + 3) hp.1 (t_Club_strokes_69 hp.2 q))
theorem t_Club_strokes_57 {d : Nat} {x1 : Int32} {x2 : Int32} {x3 : Int32} {x4 : Int64} {h : am_H} {Q : am_Q} {res : Int64 × am_H} (e : f_Club_strokes_57 h x1 x2 = some res) (q : Q (some (.long res.1)) res.2) : am_W (X_Club_strokes (d + 5)) 57 [some (.ref 0), some (.int x1), some (.int x2), some (.int x3), some (.long x4), none] [] h Q :=
  b_Club_strokes_57 (d := (d + 5)) (kt := fun c => (t_Club_strokes_82 (am_ift e c) q)) (kf := fun c => (t_Club_strokes_61 (am_ife e c) q))
theorem t_Club_strokes_56 {d : Nat} {x1 : Int32} {x2 : Int32} {x3 : Int32} {x4 : Int64} {y0 : Int64} {h : am_H} {Q : am_Q} {res : Int64 × am_H} (e : f_Club_strokes_56 h y0 = some res) (q : Q (some (.long res.1)) res.2) : am_W (X_Club_strokes (d + 5)) 56 [some (.ref 0), some (.int x1), some (.int x2), some (.int x3), some (.long x4), none] [.long y0] h Q :=
  b_Club_strokes_56 (d := (d + 5)) (q := (am_rJpi (v := y0) e q))
theorem t_Club_strokes_52 {d : Nat} {x1 : Int32} {x2 : Int32} {x3 : Int32} {x4 : Int64} {y1 : Int64} {y0 : Int64} {h : am_H} {Q : am_Q} {res : Int64 × am_H} (e : f_Club_strokes_52 h x3 y1 y0 = some res) (q : Q (some (.long res.1)) res.2) : am_W (X_Club_strokes (d + 5)) 52 [some (.ref 0), some (.int x1), some (.int x2), some (.int x3), some (.long x4), none] [.long y1, .long y0] h Q :=
  (am_bd e).elim fun p hp => b_Club_strokes_52 (d := (d + 4)) (k := c_Club_partOf (d := d + 3) hp.1 (t_Club_strokes_56 hp.2 q))
theorem t_Club_strokes_46 {d : Nat} {x1 : Int32} {x2 : Int32} {x3 : Int32} {x4 : Int64} {h : am_H} {Q : am_Q} {res : Int64 × am_H} (e : f_Club_strokes_46 h x2 x3 x4 = some res) (q : Q (some (.long res.1)) res.2) : am_W (X_Club_strokes (d + 5)) 46 [some (.ref 0), some (.int x1), some (.int x2), some (.int x3), some (.long x4), none] [] h Q :=
  (am_bd e).elim fun p hp => b_Club_strokes_46 (d := (d + 4)) (k := c_Reck_unit (d := d + 4) hp.1 (t_Club_strokes_52 hp.2 q))
theorem t_Club_strokes_39 {d : Nat} {x1 : Int32} {x2 : Int32} {x3 : Int32} {y0 : Int64} {h : am_H} {Q : am_Q} {res : Int64 × am_H} (e : f_Club_strokes_39 h x1 x2 x3 y0 = some res) (q : Q (some (.long res.1)) res.2) : am_W (X_Club_strokes (d + 5)) 39 [some (.ref 0), some (.int x1), some (.int x2), some (.int x3), none, none] [.long y0] h Q :=
  b_Club_strokes_39 (d := (d + 5)) (kt := fun c => (t_Club_strokes_57 (am_ift e c) q)) (kf := fun c => (t_Club_strokes_46 (am_ife e c) q))
theorem t_Club_strokes_29 {d : Nat} {x1 : Int32} {x2 : Int32} {x3 : Int32} {h : am_H} {Q : am_Q} {res : Int64 × am_H} (e : f_Club_strokes_29 h x1 x2 x3 = some res) (q : Q (some (.long res.1)) res.2) : am_W (X_Club_strokes (d + 5)) 29 [some (.ref 0), some (.int x1), some (.int x2), some (.int x3), none, none] [] h Q :=
  (am_bd e).elim fun p hp => b_Club_strokes_29 (d := (d + 4)) (k := c_Reck_mean (d := d) hp.1 (t_Club_strokes_39 hp.2 q))
theorem t_Club_strokes_20 {d : Nat} {x1 : Int32} {x2 : Int32} {x3 : Int32} {h : am_H} {Q : am_Q} {res : Int64 × am_H} (e : f_Club_strokes_20 h x1 x2 x3 = some res) (q : Q (some (.long res.1)) res.2) : am_W (X_Club_strokes (d + 5)) 20 [some (.ref 0), some (.int x1), some (.int x2), some (.int x3), none, none] [] h Q :=
  b_Club_strokes_20 (d := (d + 5)) (kt := fun c => (t_Club_strokes_29 (am_ift e c) q)) (kf := fun c => (t_Club_strokes_25 (am_ife e c) q))
theorem t_Club_strokes_16 {d : Nat} {x1 : Int32} {x2 : Int32} {x3 : Int32} {h : am_H} {Q : am_Q} {res : Int64 × am_H} (e : f_Club_strokes_16 h x1 x2 x3 = some res) (q : Q (some (.long res.1)) res.2) : am_W (X_Club_strokes (d + 5)) 16 [some (.ref 0), some (.int x1), some (.int x2), some (.int x3), none, none] [] h Q :=
  b_Club_strokes_16 (d := (d + 5)) (kt := fun c => (t_Club_strokes_25 (am_ift e c) q)) (kf := fun c => (t_Club_strokes_20 (am_ife e c) q))
theorem t_Club_strokes_11 {d : Nat} {x1 : Int32} {x2 : Int32} {x3 : Int32} {h : am_H} {Q : am_Q} {res : Int64 × am_H} (e : f_Club_strokes_11 h x1 x2 x3 = some res) (q : Q (some (.long res.1)) res.2) : am_W (X_Club_strokes (d + 5)) 11 [some (.ref 0), some (.int x1), some (.int x2), some (.int x3), none, none] [] h Q :=
  b_Club_strokes_11 (d := (d + 5)) (kt := fun c => (t_Club_strokes_25 (am_ift e c) q)) (kf := fun c => (t_Club_strokes_16 (am_ife e c) q))
theorem t_Club_strokes_7 {d : Nat} {x1 : Int32} {x2 : Int32} {x3 : Int32} {h : am_H} {Q : am_Q} {res : Int64 × am_H} (e : f_Club_strokes_7 h x1 x2 x3 = some res) (q : Q (some (.long res.1)) res.2) : am_W (X_Club_strokes (d + 5)) 7 [some (.ref 0), some (.int x1), some (.int x2), some (.int x3), none, none] [] h Q :=
  b_Club_strokes_7 (d := (d + 5)) (kt := fun c => (t_Club_strokes_25 (am_ift e c) q)) (kf := fun c => (t_Club_strokes_11 (am_ife e c) q))
theorem t_Club_strokes_4 {d : Nat} {x1 : Int32} {x2 : Int32} {x3 : Int32} {y0 : Bool} {h : am_H} {Q : am_Q} {res : Int64 × am_H} (e : f_Club_strokes_4 h x1 x2 x3 y0 = some res) (q : Q (some (.long res.1)) res.2) : am_W (X_Club_strokes (d + 5)) 4 [some (.ref 0), some (.int x1), some (.int x2), some (.int x3), none, none] [.int (am_b y0)] h Q :=
  b_Club_strokes_4 (d := (d + 5)) (kt := fun c => (t_Club_strokes_25 (am_iff e (am_bz c)) q)) (kf := fun c => (t_Club_strokes_7 (am_ift e (am_bn c)) q))
theorem t_Club_strokes_0 {d : Nat} {x1 : Int32} {x2 : Int32} {x3 : Int32} {h : am_H} {Q : am_Q} {res : Int64 × am_H} (e : f_Club_strokes h x1 x2 x3 = some res) (q : Q (some (.long res.1)) res.2) : am_W (X_Club_strokes (d + 5)) 0 [some (.ref 0), some (.int x1), some (.int x2), some (.int x3), none, none] [] h Q :=
  b_Club_strokes_0 (d := (d + 4)) (k := c_Hole_isCell (d := d + 4) rfl (t_Club_strokes_4 e q))
theorem c_Club_strokes {d : Nat} {x1 : Int32} {x2 : Int32} {x3 : Int32} {h : am_H} {Q : am_Q} {res : Int64 × am_H} (e : f_Club_strokes h x1 x2 x3 = some res) (q : Q (some (.long res.1)) res.2) : m_Club_strokes (d + 5) [.ref 0, .int x1, .int x2, .int x3] h Q :=
  e_Club_strokes (t_Club_strokes_0 e q)
theorem d_Reck_findLawfulClubs_0 : decode prog_7_method_8_code 0 = .ok (.aload_n 0, 1) := by decide +kernel
theorem d_Reck_findLawfulClubs_1 : decode prog_7_method_8_code 1 = .ok (.getfield 34, 3) := by decide +kernel
theorem d_Reck_findLawfulClubs_4 : decode prog_7_method_8_code 4 = .ok (.ifCond .eq 4, 3) := by decide +kernel
theorem d_Reck_findLawfulClubs_7 : decode prog_7_method_8_code 7 = .ok (.return_, 1) := by decide +kernel
theorem d_Reck_findLawfulClubs_8 : decode prog_7_method_8_code 8 = .ok (.iconst 0, 1) := by decide +kernel
theorem d_Reck_findLawfulClubs_9 : decode prog_7_method_8_code 9 = .ok (.istore_n 1, 1) := by decide +kernel
theorem d_Reck_findLawfulClubs_10 : decode prog_7_method_8_code 10 = .ok (.iload_n 1, 1) := by decide +kernel
theorem d_Reck_findLawfulClubs_11 : decode prog_7_method_8_code 11 = .ok (.aload_n 0, 1) := by decide +kernel
theorem d_Reck_findLawfulClubs_12 : decode prog_7_method_8_code 12 = .ok (.getfield 24, 3) := by decide +kernel
theorem d_Reck_findLawfulClubs_15 : decode prog_7_method_8_code 15 = .ok (.arraylength, 1) := by decide +kernel
theorem d_Reck_findLawfulClubs_16 : decode prog_7_method_8_code 16 = .ok (.if_icmp .ge 21, 3) := by decide +kernel
theorem d_Reck_findLawfulClubs_19 : decode prog_7_method_8_code 19 = .ok (.aload_n 0, 1) := by decide +kernel
theorem d_Reck_findLawfulClubs_20 : decode prog_7_method_8_code 20 = .ok (.getfield 24, 3) := by decide +kernel
theorem d_Reck_findLawfulClubs_23 : decode prog_7_method_8_code 23 = .ok (.iload_n 1, 1) := by decide +kernel
theorem d_Reck_findLawfulClubs_24 : decode prog_7_method_8_code 24 = .ok (.aload_n 0, 1) := by decide +kernel
theorem d_Reck_findLawfulClubs_25 : decode prog_7_method_8_code 25 = .ok (.iload_n 1, 1) := by decide +kernel
theorem d_Reck_findLawfulClubs_26 : decode prog_7_method_8_code 26 = .ok (.iconst 0, 1) := by decide +kernel
theorem d_Reck_findLawfulClubs_27 : decode prog_7_method_8_code 27 = .ok (.invokevirtual 125, 3) := by decide +kernel
theorem d_Reck_findLawfulClubs_30 : decode prog_7_method_8_code 30 = .ok (.iastore, 1) := by decide +kernel
theorem d_Reck_findLawfulClubs_31 : decode prog_7_method_8_code 31 = .ok (.iinc 1 1, 3) := by decide +kernel
theorem d_Reck_findLawfulClubs_34 : decode prog_7_method_8_code 34 = .ok (.goto (-24), 3) := by decide +kernel
theorem d_Reck_findLawfulClubs_37 : decode prog_7_method_8_code 37 = .ok (.aload_n 0, 1) := by decide +kernel
theorem d_Reck_findLawfulClubs_38 : decode prog_7_method_8_code 38 = .ok (.iconst 1, 1) := by decide +kernel
theorem d_Reck_findLawfulClubs_39 : decode prog_7_method_8_code 39 = .ok (.putfield 34, 3) := by decide +kernel
theorem d_Reck_findLawfulClubs_42 : decode prog_7_method_8_code 42 = .ok (.return_, 1) := by decide +kernel
theorem b_Reck_findLawfulClubs_0 {d : Nat} {h : am_H} {Q : am_Q} (kt : (h.1 12 8) = 0 → am_W (X_Reck_findLawfulClubs d) 8 [some (.ref 12), none] [] h Q) (kf : ¬ (h.1 12 8) = 0 → am_W (X_Reck_findLawfulClubs d) 7 [some (.ref 12), none] [] h Q) : am_W (X_Reck_findLawfulClubs d) 0 [some (.ref 12), none] [] h Q :=
  am_aload_n d_Reck_findLawfulClubs_0 rfl (i := 0) rfl <|
    am_getI (ci := 3) (i := 8) rfl rfl rfl (Nat.le_of_ble_eq_true rfl) w_202 d_Reck_findLawfulClubs_1 <|
    am_if_eq (tgt := 8) d_Reck_findLawfulClubs_4 (by decide) kt kf
theorem b_Reck_findLawfulClubs_7 {d : Nat} {h : am_H} {Q : am_Q} (q : Q none h) : am_W (X_Reck_findLawfulClubs d) 7 [some (.ref 12), none] [] h Q :=
  am_vret rfl d_Reck_findLawfulClubs_7 q
theorem b_Reck_findLawfulClubs_8 {d : Nat} {h : am_H} {Q : am_Q} (k : am_W (X_Reck_findLawfulClubs d) 10 [some (.ref 12), some (.int 0)] [] h Q) : am_W (X_Reck_findLawfulClubs d) 8 [some (.ref 12), none] [] h Q :=
  am_iconst (v := 0) d_Reck_findLawfulClubs_8 (by decide) <|
    am_istore_n (ls' := [some (.ref 12), some (.int 0)]) d_Reck_findLawfulClubs_9 rfl (Nat.le_of_ble_eq_true rfl) rfl <|
    k
theorem b_Reck_findLawfulClubs_10 {d : Nat} {x1 : Int32} {h : am_H} {Q : am_Q} (kt : 31 ≤ x1 → am_W (X_Reck_findLawfulClubs d) 37 [some (.ref 12), some (.int x1)] [] h Q) (kf : ¬ 31 ≤ x1 → am_W (X_Reck_findLawfulClubs d) 19 [some (.ref 12), some (.int x1)] [] h Q) : am_W (X_Reck_findLawfulClubs d) 10 [some (.ref 12), some (.int x1)] [] h Q :=
  am_iload_n d_Reck_findLawfulClubs_10 rfl (i := 1) rfl <|
    am_aload_n d_Reck_findLawfulClubs_11 rfl (i := 0) rfl <|
    am_getR (ci := 3) (i := 5) rfl rfl rfl (Nat.le_of_ble_eq_true rfl) w_199 d_Reck_findLawfulClubs_12 <|
    am_alenI (v := 31) rfl (by decide) d_Reck_findLawfulClubs_15 <|
    am_icmp_ge (tgt := 37) d_Reck_findLawfulClubs_16 (by decide) kt kf
theorem b_Reck_findLawfulClubs_19 {d : Nat} {x1 : Int32} {h : am_H} {Q : am_Q} (k : m_Reck_clubTold d [.ref 12, .int x1, .int 0] h (fun r hh => am_W (X_Reck_findLawfulClubs (d + 1)) 30 [some (.ref 12), some (.int x1)] (r.toList ++ [.int x1, .ref 16]) hh Q)) : am_W (X_Reck_findLawfulClubs (d + 1)) 19 [some (.ref 12), some (.int x1)] [] h Q :=
  am_aload_n d_Reck_findLawfulClubs_19 rfl (i := 0) rfl <|
    am_getR (ci := 3) (i := 5) rfl rfl rfl (Nat.le_of_ble_eq_true rfl) w_199 d_Reck_findLawfulClubs_20 <|
    am_iload_n d_Reck_findLawfulClubs_23 rfl (i := 1) rfl <|
    am_aload_n d_Reck_findLawfulClubs_24 rfl (i := 0) rfl <|
    am_iload_n d_Reck_findLawfulClubs_25 rfl (i := 1) rfl <|
    am_iconst (v := 0) d_Reck_findLawfulClubs_26 (by decide) <|
    am_callV (vs := [.int x1, .int 0]) (st := [.int x1, .ref 16]) (k := 12) (ci := 3) rfl d_Reck_findLawfulClubs_27 rfl rfl w_866 w_740 w_741 w_87 w_742 p_Reck_clubTold (Nat.le_of_ble_eq_true rfl) (Nat.le_of_ble_eq_true rfl) rfl k
theorem b_Reck_findLawfulClubs_30 {d : Nat} {x1 : Int32} {y2 : Int32} {y1 : Int32} {h : am_H} {Q : am_Q} (q0 : vp_in y1 31) (k : am_W (X_Reck_findLawfulClubs d) 10 [some (.ref 12), some (.int (x1 + 1))] [] (am_pI h 16 y1.toNatClampNeg y2) Q) : am_W (X_Reck_findLawfulClubs d) 30 [some (.ref 12), some (.int x1)] [.int y2, .int y1, .ref 16] h Q :=
  am_iast rfl q0 d_Reck_findLawfulClubs_30 <|
    am_iinc (v := (x1 + 1)) (ls' := [some (.ref 12), some (.int (x1 + 1))]) d_Reck_findLawfulClubs_31 rfl rfl (Nat.le_of_ble_eq_true rfl) rfl <|
    am_goto (tgt := 10) d_Reck_findLawfulClubs_34 (by decide) k
theorem b_Reck_findLawfulClubs_37 {d : Nat} {x1 : Int32} {h : am_H} {Q : am_Q} (q : Q none (am_pI h 12 8 1)) : am_W (X_Reck_findLawfulClubs d) 37 [some (.ref 12), some (.int x1)] [] h Q :=
  am_aload_n d_Reck_findLawfulClubs_37 rfl (i := 0) rfl <|
    am_iconst (v := 1) d_Reck_findLawfulClubs_38 (by decide) <|
    am_putI (ci := 3) (i := 8) rfl rfl rfl (Nat.le_of_ble_eq_true rfl) w_202 rfl (by decide) (by decide) d_Reck_findLawfulClubs_39 <|
    am_vret rfl d_Reck_findLawfulClubs_42 q
theorem t_Reck_findLawfulClubs_37 {d : Nat} {x1 : Int32} {h : am_H} {Q : am_Q} {res : am_H} (e : f_Reck_findLawfulClubs_37 h = some res) (q : Q none res) : am_W (X_Reck_findLawfulClubs (d + 4)) 37 [some (.ref 12), some (.int x1)] [] h Q :=
  b_Reck_findLawfulClubs_37 (d := (d + 4)) (q := (am_rVpi e q))
theorem t_Reck_findLawfulClubs_30 {d : Nat} {k10 : am_H → Int32 → Option (am_H)} {x1 : Int32} {y2 : Int32} {y1 : Int32} {h : am_H} {Q : am_Q} {res : am_H} (hk10 : ∀ (x1 : Int32) (h : am_H), k10 h x1 = some res → am_W (X_Reck_findLawfulClubs (d + 4)) 10 [some (.ref 12), some (.int x1)] [] h Q) (e : f_Reck_findLawfulClubs_30 k10 h x1 y2 y1 = some res) (q : Q none res) : am_W (X_Reck_findLawfulClubs (d + 4)) 30 [some (.ref 12), some (.int x1)] [.int y2, .int y1, .ref 16] h Q :=
  b_Reck_findLawfulClubs_30 (d := (d + 4)) (q0 := (am_okv (am_gd e))) (k := (hk10 _ _ (am_ga e)))
theorem t_Reck_findLawfulClubs_19 {d : Nat} {k10 : am_H → Int32 → Option (am_H)} {x1 : Int32} {h : am_H} {Q : am_Q} {res : am_H} (hk10 : ∀ (x1 : Int32) (h : am_H), k10 h x1 = some res → am_W (X_Reck_findLawfulClubs (d + 4)) 10 [some (.ref 12), some (.int x1)] [] h Q) (e : f_Reck_findLawfulClubs_19 k10 h x1 = some res) (q : Q none res) : am_W (X_Reck_findLawfulClubs (d + 4)) 19 [some (.ref 12), some (.int x1)] [] h Q :=
  (am_bd e).elim fun p hp => b_Reck_findLawfulClubs_19 (d := (d + 3)) (k := c_Reck_clubTold (d := d) hp.1 (t_Reck_findLawfulClubs_30 hk10 hp.2 q))
theorem t_Reck_findLawfulClubs_10 {d : Nat} {k10 : am_H → Int32 → Option (am_H)} {x1 : Int32} {h : am_H} {Q : am_Q} {res : am_H} (hk10 : ∀ (x1 : Int32) (h : am_H), k10 h x1 = some res → am_W (X_Reck_findLawfulClubs (d + 4)) 10 [some (.ref 12), some (.int x1)] [] h Q) (e : f_Reck_findLawfulClubs_10 k10 h x1 = some res) (q : Q none res) : am_W (X_Reck_findLawfulClubs (d + 4)) 10 [some (.ref 12), some (.int x1)] [] h Q :=
  b_Reck_findLawfulClubs_10 (d := (d + 4)) (kt := fun c => (t_Reck_findLawfulClubs_37 (am_ift e c) q)) (kf := fun c => (t_Reck_findLawfulClubs_19 hk10 (am_ife e c) q))
theorem t_Reck_findLawfulClubs_10_l {d : Nat} {Q : am_Q} {res : am_H} (q : Q none res) : ∀ (n : Nat) (x1 : Int32) (h : am_H), f_Reck_findLawfulClubs_10_l n h x1 = some res → am_W (X_Reck_findLawfulClubs (d + 4)) 10 [some (.ref 12), some (.int x1)] [] h Q := by
  intro n
  induction n with
  | zero => intro x1 h e; exact am_nn e
  | succ n ih => intro x1 h e; exact t_Reck_findLawfulClubs_10 (fun x1 h e => ih x1 h  e) e q
theorem t_Reck_findLawfulClubs_8 {d : Nat} {h : am_H} {Q : am_Q} {res : am_H} (e : f_Reck_findLawfulClubs_8 h = some res) (q : Q none res) : am_W (X_Reck_findLawfulClubs (d + 4)) 8 [some (.ref 12), none] [] h Q :=
  b_Reck_findLawfulClubs_8 (d := (d + 4)) (k := (t_Reck_findLawfulClubs_10_l q am_fu _ _ e))
theorem t_Reck_findLawfulClubs_7 {d : Nat} {h : am_H} {Q : am_Q} {res : am_H} (e : f_Reck_findLawfulClubs_7 h = some res) (q : Q none res) : am_W (X_Reck_findLawfulClubs (d + 4)) 7 [some (.ref 12), none] [] h Q :=
  b_Reck_findLawfulClubs_7 (d := (d + 4)) (q := (am_rVpi e q))
theorem t_Reck_findLawfulClubs_0 {d : Nat} {h : am_H} {Q : am_Q} {res : am_H} (e : f_Reck_findLawfulClubs h = some res) (q : Q none res) : am_W (X_Reck_findLawfulClubs (d + 4)) 0 [some (.ref 12), none] [] h Q :=
  b_Reck_findLawfulClubs_0 (d := (d + 4)) (kt := fun c => (t_Reck_findLawfulClubs_8 (am_ift e c) q)) (kf := fun c => (t_Reck_findLawfulClubs_7 (am_ife e c) q))
theorem c_Reck_findLawfulClubs {d : Nat} {h : am_H} {Q : am_Q} {res : am_H} (e : f_Reck_findLawfulClubs h = some res) (q : Q none res) : m_Reck_findLawfulClubs (d + 4) [.ref 12] h Q :=
  e_Reck_findLawfulClubs (t_Reck_findLawfulClubs_0 e q)
theorem d_Reck_meanByLaw_0 : decode prog_7_method_9_code 0 = .ok (.aload_n 0, 1) := by decide +kernel
theorem d_Reck_meanByLaw_1 : decode prog_7_method_9_code 1 = .ok (.invokevirtual 129, 3) := by decide +kernel
theorem d_Reck_meanByLaw_4 : decode prog_7_method_9_code 4 = .ok (.aload_n 0, 1) := by decide +kernel
theorem d_Reck_meanByLaw_5 : decode prog_7_method_9_code 5 = .ok (.iload_n 1, 1) := by decide +kernel
theorem d_Reck_meanByLaw_6 : decode prog_7_method_9_code 6 = .ok (.iload_n 2, 1) := by decide +kernel
theorem d_Reck_meanByLaw_7 : decode prog_7_method_9_code 7 = .ok (.iconst 1, 1) := by decide +kernel
theorem d_Reck_meanByLaw_8 : decode prog_7_method_9_code 8 = .ok (.invokevirtual 132, 3) := by decide +kernel
theorem d_Reck_meanByLaw_11 : decode prog_7_method_9_code 11 = .ok (.lreturn, 1) := by decide +kernel
theorem b_Reck_meanByLaw_0 {d : Nat} {x1 : Int32} {x2 : Int32} {h : am_H} {Q : am_Q} (k : m_Reck_findLawfulClubs d [.ref 12] h (fun r hh => am_W (X_Reck_meanByLaw (d + 1)) 4 [some (.ref 12), some (.int x1), some (.int x2)] (r.toList ++ []) hh Q)) : am_W (X_Reck_meanByLaw (d + 1)) 0 [some (.ref 12), some (.int x1), some (.int x2)] [] h Q :=
  am_aload_n d_Reck_meanByLaw_0 rfl (i := 0) rfl <|
    am_callV (vs := []) (st := []) (k := 12) (ci := 3) rfl d_Reck_meanByLaw_1 rfl rfl w_862 w_863 w_864 w_87 w_865 p_Reck_findLawfulClubs (Nat.le_of_ble_eq_true rfl) (Nat.le_of_ble_eq_true rfl) rfl k
theorem b_Reck_meanByLaw_4 {d : Nat} {x1 : Int32} {x2 : Int32} {h : am_H} {Q : am_Q} (k : m_Reck_mean d [.ref 12, .int x1, .int x2, .int 1] h (fun r hh => am_W (X_Reck_meanByLaw (d + 1)) 11 [some (.ref 12), some (.int x1), some (.int x2)] (r.toList ++ []) hh Q)) : am_W (X_Reck_meanByLaw (d + 1)) 4 [some (.ref 12), some (.int x1), some (.int x2)] [] h Q :=
  am_aload_n d_Reck_meanByLaw_4 rfl (i := 0) rfl <|
    am_iload_n d_Reck_meanByLaw_5 rfl (i := 1) rfl <|
    am_iload_n d_Reck_meanByLaw_6 rfl (i := 2) rfl <|
    am_iconst (v := 1) d_Reck_meanByLaw_7 (by decide) <|
    am_callV (vs := [.int x1, .int x2, .int 1]) (st := []) (k := 12) (ci := 3) rfl d_Reck_meanByLaw_8 rfl rfl w_867 w_806 w_807 w_87 w_808 p_Reck_mean (Nat.le_of_ble_eq_true rfl) (Nat.le_of_ble_eq_true rfl) rfl k
theorem b_Reck_meanByLaw_11 {d : Nat} {x1 : Int32} {x2 : Int32} {y0 : Int64} {h : am_H} {Q : am_Q} (q : Q (some (.long y0)) h) : am_W (X_Reck_meanByLaw d) 11 [some (.ref 12), some (.int x1), some (.int x2)] [.long y0] h Q :=
  am_lret rfl d_Reck_meanByLaw_11 q
theorem t_Reck_meanByLaw_11 {d : Nat} {x1 : Int32} {x2 : Int32} {y0 : Int64} {h : am_H} {Q : am_Q} {res : Int64 × am_H} (e : f_Reck_meanByLaw_11 h y0 = some res) (q : Q (some (.long res.1)) res.2) : am_W (X_Reck_meanByLaw (d + 5)) 11 [some (.ref 12), some (.int x1), some (.int x2)] [.long y0] h Q :=
  b_Reck_meanByLaw_11 (d := (d + 5)) (q := (am_rJpi (v := y0) e q))
theorem t_Reck_meanByLaw_4 {d : Nat} {x1 : Int32} {x2 : Int32} {h : am_H} {Q : am_Q} {res : Int64 × am_H} (e : f_Reck_meanByLaw_4 h x1 x2 = some res) (q : Q (some (.long res.1)) res.2) : am_W (X_Reck_meanByLaw (d + 5)) 4 [some (.ref 12), some (.int x1), some (.int x2)] [] h Q :=
  (am_bd e).elim fun p hp => b_Reck_meanByLaw_4 (d := (d + 4)) (k := c_Reck_mean (d := d) hp.1 (t_Reck_meanByLaw_11 hp.2 q))
theorem t_Reck_meanByLaw_0 {d : Nat} {x1 : Int32} {x2 : Int32} {h : am_H} {Q : am_Q} {res : Int64 × am_H} (e : f_Reck_meanByLaw h x1 x2 = some res) (q : Q (some (.long res.1)) res.2) : am_W (X_Reck_meanByLaw (d + 5)) 0 [some (.ref 12), some (.int x1), some (.int x2)] [] h Q :=
  (am_bd e).elim fun p hp => b_Reck_meanByLaw_0 (d := (d + 4)) (k := c_Reck_findLawfulClubs (d := d) hp.1 (t_Reck_meanByLaw_4 hp.2 q))
theorem c_Reck_meanByLaw {d : Nat} {x1 : Int32} {x2 : Int32} {h : am_H} {Q : am_Q} {res : Int64 × am_H} (e : f_Reck_meanByLaw h x1 x2 = some res) (q : Q (some (.long res.1)) res.2) : m_Reck_meanByLaw (d + 5) [.ref 12, .int x1, .int x2] h Q :=
  e_Reck_meanByLaw (t_Reck_meanByLaw_0 e q)
theorem d_Club_byLaw_0 : decode prog_1_method_15_code 0 = .ok (.iload_n 1, 1) := by decide +kernel
theorem d_Club_byLaw_1 : decode prog_1_method_15_code 1 = .ok (.invokestatic 149, 3) := by decide +kernel
theorem d_Club_byLaw_4 : decode prog_1_method_15_code 4 = .ok (.ifCond .eq 19, 3) := by decide +kernel
theorem d_Club_byLaw_7 : decode prog_1_method_15_code 7 = .ok (.iload_n 2, 1) := by decide +kernel
theorem d_Club_byLaw_8 : decode prog_1_method_15_code 8 = .ok (.ifCond .lt 15, 3) := by decide +kernel
theorem d_Club_byLaw_11 : decode prog_1_method_15_code 11 = .ok (.iload_n 2, 1) := by decide +kernel
theorem d_Club_byLaw_12 : decode prog_1_method_15_code 12 = .ok (.iconst 4, 1) := by decide +kernel
theorem d_Club_byLaw_13 : decode prog_1_method_15_code 13 = .ok (.if_icmp .gt 10, 3) := by decide +kernel
theorem d_Club_byLaw_16 : decode prog_1_method_15_code 16 = .ok (.iload_n 3, 1) := by decide +kernel
theorem d_Club_byLaw_17 : decode prog_1_method_15_code 17 = .ok (.invokestatic 152, 3) := by decide +kernel
theorem d_Club_byLaw_20 : decode prog_1_method_15_code 20 = .ok (.ifCond .ne 7, 3) := by decide +kernel
theorem d_Club_byLaw_23 : decode prog_1_method_15_code 23 = .ok (.ldc2_w 155, 3) := by decide +kernel
theorem d_Club_byLaw_26 : decode prog_1_method_15_code 26 = .ok (.lreturn, 1) := by decide +kernel
theorem d_Club_byLaw_27 : decode prog_1_method_15_code 27 = .ok (.aload_n 0, 1) := by decide +kernel
theorem d_Club_byLaw_28 : decode prog_1_method_15_code 28 = .ok (.getfield 30, 3) := by decide +kernel
theorem d_Club_byLaw_31 : decode prog_1_method_15_code 31 = .ok (.iload_n 1, 1) := by decide +kernel
theorem d_Club_byLaw_32 : decode prog_1_method_15_code 32 = .ok (.iload_n 2, 1) := by decide +kernel
theorem d_Club_byLaw_33 : decode prog_1_method_15_code 33 = .ok (.invokevirtual 209, 3) := by decide +kernel
theorem d_Club_byLaw_36 : decode prog_1_method_15_code 36 = .ok (.iload_n 2, 1) := by decide +kernel
theorem d_Club_byLaw_37 : decode prog_1_method_15_code 37 = .ok (.invokestatic 200, 3) := by decide +kernel
theorem d_Club_byLaw_40 : decode prog_1_method_15_code 40 = .ok (.iload_n 3, 1) := by decide +kernel
theorem d_Club_byLaw_41 : decode prog_1_method_15_code 41 = .ok (.invokestatic 170, 3) := by decide +kernel
theorem d_Club_byLaw_44 : decode prog_1_method_15_code 44 = .ok (.lreturn, 1) := by decide +kernel
theorem b_Club_byLaw_0 {d : Nat} {x1 : Int32} {x2 : Int32} {x3 : Int32} {h : am_H} {Q : am_Q} (k : m_Hole_isCell d [.int x1] h (fun r hh => am_W (X_Club_byLaw (d + 1)) 4 [some (.ref 0), some (.int x1), some (.int x2), some (.int x3)] (r.toList ++ []) hh Q)) : am_W (X_Club_byLaw (d + 1)) 0 [some (.ref 0), some (.int x1), some (.int x2), some (.int x3)] [] h Q :=
  am_iload_n d_Club_byLaw_0 rfl (i := 1) rfl <|
    am_callS (vs := [.int x1]) (st := []) rfl d_Club_byLaw_1 w_679 w_469 w_84 w_470 p_Hole_isCell (Nat.le_of_ble_eq_true rfl) (Nat.le_of_ble_eq_true rfl) rfl k
theorem b_Club_byLaw_4 {d : Nat} {x1 : Int32} {x2 : Int32} {x3 : Int32} {y0 : Bool} {h : am_H} {Q : am_Q} (kt : (am_b y0) = 0 → am_W (X_Club_byLaw d) 23 [some (.ref 0), some (.int x1), some (.int x2), some (.int x3)] [] h Q) (kf : ¬ (am_b y0) = 0 → am_W (X_Club_byLaw d) 7 [some (.ref 0), some (.int x1), some (.int x2), some (.int x3)] [] h Q) : am_W (X_Club_byLaw d) 4 [some (.ref 0), some (.int x1), some (.int x2), some (.int x3)] [.int (am_b y0)] h Q :=
  am_if_eq (tgt := 23) d_Club_byLaw_4 (by decide) kt kf
theorem b_Club_byLaw_7 {d : Nat} {x1 : Int32} {x2 : Int32} {x3 : Int32} {h : am_H} {Q : am_Q} (kt : x2 < 0 → am_W (X_Club_byLaw d) 23 [some (.ref 0), some (.int x1), some (.int x2), some (.int x3)] [] h Q) (kf : ¬ x2 < 0 → am_W (X_Club_byLaw d) 11 [some (.ref 0), some (.int x1), some (.int x2), some (.int x3)] [] h Q) : am_W (X_Club_byLaw d) 7 [some (.ref 0), some (.int x1), some (.int x2), some (.int x3)] [] h Q :=
  am_iload_n d_Club_byLaw_7 rfl (i := 2) rfl <|
    am_if_lt (tgt := 23) d_Club_byLaw_8 (by decide) kt kf
theorem b_Club_byLaw_11 {d : Nat} {x1 : Int32} {x2 : Int32} {x3 : Int32} {h : am_H} {Q : am_Q} (kt : 4 < x2 → am_W (X_Club_byLaw d) 23 [some (.ref 0), some (.int x1), some (.int x2), some (.int x3)] [] h Q) (kf : ¬ 4 < x2 → am_W (X_Club_byLaw d) 16 [some (.ref 0), some (.int x1), some (.int x2), some (.int x3)] [] h Q) : am_W (X_Club_byLaw d) 11 [some (.ref 0), some (.int x1), some (.int x2), some (.int x3)] [] h Q :=
  am_iload_n d_Club_byLaw_11 rfl (i := 2) rfl <|
    am_iconst (v := 4) d_Club_byLaw_12 (by decide) <|
    am_icmp_gt (tgt := 23) d_Club_byLaw_13 (by decide) kt kf
theorem b_Club_byLaw_16 {d : Nat} {x1 : Int32} {x2 : Int32} {x3 : Int32} {h : am_H} {Q : am_Q} (k : m_Club_isFractionPart d [.int x3] h (fun r hh => am_W (X_Club_byLaw (d + 1)) 20 [some (.ref 0), some (.int x1), some (.int x2), some (.int x3)] (r.toList ++ []) hh Q)) : am_W (X_Club_byLaw (d + 1)) 16 [some (.ref 0), some (.int x1), some (.int x2), some (.int x3)] [] h Q :=
  am_iload_n d_Club_byLaw_16 rfl (i := 3) rfl <|
    am_callS (vs := [.int x3]) (st := []) rfl d_Club_byLaw_17 w_680 w_681 w_83 w_682 p_Club_isFractionPart (Nat.le_of_ble_eq_true rfl) (Nat.le_of_ble_eq_true rfl) rfl k
theorem b_Club_byLaw_20 {d : Nat} {x1 : Int32} {x2 : Int32} {x3 : Int32} {y0 : Bool} {h : am_H} {Q : am_Q} (kt : ¬ (am_b y0) = 0 → am_W (X_Club_byLaw d) 27 [some (.ref 0), some (.int x1), some (.int x2), some (.int x3)] [] h Q) (kf : (am_b y0) = 0 → am_W (X_Club_byLaw d) 23 [some (.ref 0), some (.int x1), some (.int x2), some (.int x3)] [] h Q) : am_W (X_Club_byLaw d) 20 [some (.ref 0), some (.int x1), some (.int x2), some (.int x3)] [.int (am_b y0)] h Q :=
  am_if_ne (tgt := 27) d_Club_byLaw_20 (by decide) kt kf
theorem b_Club_byLaw_23 {d : Nat} {x1 : Int32} {x2 : Int32} {x3 : Int32} {h : am_H} {Q : am_Q} (q : Q (some (.long (-9223372036854775808))) h) : am_W (X_Club_byLaw d) 23 [some (.ref 0), some (.int x1), some (.int x2), some (.int x3)] [] h Q :=
  am_ldc2 (v := (-9223372036854775808)) d_Club_byLaw_23 w_683 <|
    am_lret rfl d_Club_byLaw_26 q
theorem b_Club_byLaw_27 {d : Nat} {x1 : Int32} {x2 : Int32} {x3 : Int32} {h : am_H} {Q : am_Q} (k : m_Reck_meanByLaw d [.ref 12, .int x1, .int x2] h (fun r hh => am_W (X_Club_byLaw (d + 1)) 36 [some (.ref 0), some (.int x1), some (.int x2), some (.int x3)] (r.toList ++ []) hh Q)) : am_W (X_Club_byLaw (d + 1)) 27 [some (.ref 0), some (.int x1), some (.int x2), some (.int x3)] [] h Q :=
  am_aload_n d_Club_byLaw_27 rfl (i := 0) rfl <|
    am_getR (ci := 0) (i := 2) rfl rfl rfl (Nat.le_of_ble_eq_true rfl) w_364 d_Club_byLaw_28 <|
    am_iload_n d_Club_byLaw_31 rfl (i := 1) rfl <|
    am_iload_n d_Club_byLaw_32 rfl (i := 2) rfl <|
    am_callV (vs := [.int x1, .int x2]) (st := []) (k := 12) (ci := 3) rfl d_Club_byLaw_33 rfl rfl w_858 w_859 w_860 w_87 w_861 p_Reck_meanByLaw (Nat.le_of_ble_eq_true rfl) (Nat.le_of_ble_eq_true rfl) rfl k
theorem b_Club_byLaw_36 {d : Nat} {x1 : Int32} {x2 : Int32} {x3 : Int32} {y0 : Int64} {h : am_H} {Q : am_Q} (k : m_Reck_unit d [.int x2] h (fun r hh => am_W (X_Club_byLaw (d + 1)) 40 [some (.ref 0), some (.int x1), some (.int x2), some (.int x3)] (r.toList ++ [.long y0]) hh Q)) : am_W (X_Club_byLaw (d + 1)) 36 [some (.ref 0), some (.int x1), some (.int x2), some (.int x3)] [.long y0] h Q :=
  am_iload_n d_Club_byLaw_36 rfl (i := 2) rfl <|
    am_callS (vs := [.int x2]) (st := [.long y0]) rfl d_Club_byLaw_37 w_848 w_820 w_87 w_821 p_Reck_unit (Nat.le_of_ble_eq_true rfl) (Nat.le_of_ble_eq_true rfl) rfl k
theorem b_Club_byLaw_40 {d : Nat} {x1 : Int32} {x2 : Int32} {x3 : Int32} {y1 : Int64} {y0 : Int64} {h : am_H} {Q : am_Q} (k : m_Club_partOf d [.long y0, .long y1, .int x3] h (fun r hh => am_W (X_Club_byLaw (d + 1)) 44 [some (.ref 0), some (.int x1), some (.int x2), some (.int x3)] (r.toList ++ []) hh Q)) : am_W (X_Club_byLaw (d + 1)) 40 [some (.ref 0), some (.int x1), some (.int x2), some (.int x3)] [.long y1, .long y0] h Q :=
  am_iload_n d_Club_byLaw_40 rfl (i := 3) rfl <|
    am_callS (vs := [.long y0, .long y1, .int x3]) (st := []) rfl d_Club_byLaw_41 w_712 w_713 w_83 w_714 p_Club_partOf (Nat.le_of_ble_eq_true rfl) (Nat.le_of_ble_eq_true rfl) rfl k
theorem b_Club_byLaw_44 {d : Nat} {x1 : Int32} {x2 : Int32} {x3 : Int32} {y0 : Int64} {h : am_H} {Q : am_Q} (q : Q (some (.long y0)) h) : am_W (X_Club_byLaw d) 44 [some (.ref 0), some (.int x1), some (.int x2), some (.int x3)] [.long y0] h Q :=
  am_lret rfl d_Club_byLaw_44 q
theorem t_Club_byLaw_23 {d : Nat} {x1 : Int32} {x2 : Int32} {x3 : Int32} {h : am_H} {Q : am_Q} {res : Int64 × am_H} (e : f_Club_byLaw_23 h = some res) (q : Q (some (.long res.1)) res.2) : am_W (X_Club_byLaw (d + 6)) 23 [some (.ref 0), some (.int x1), some (.int x2), some (.int x3)] [] h Q :=
  b_Club_byLaw_23 (d := (d + 6)) (q := (am_rJpi (v := (-9223372036854775808)) e q))
theorem t_Club_byLaw_44 {d : Nat} {x1 : Int32} {x2 : Int32} {x3 : Int32} {y0 : Int64} {h : am_H} {Q : am_Q} {res : Int64 × am_H} (e : f_Club_byLaw_44 h y0 = some res) (q : Q (some (.long res.1)) res.2) : am_W (X_Club_byLaw (d + 6)) 44 [some (.ref 0), some (.int x1), some (.int x2), some (.int x3)] [.long y0] h Q :=
  b_Club_byLaw_44 (d := (d + 6)) (q := (am_rJpi (v := y0) e q))
theorem t_Club_byLaw_40 {d : Nat} {x1 : Int32} {x2 : Int32} {x3 : Int32} {y1 : Int64} {y0 : Int64} {h : am_H} {Q : am_Q} {res : Int64 × am_H} (e : f_Club_byLaw_40 h x3 y1 y0 = some res) (q : Q (some (.long res.1)) res.2) : am_W (X_Club_byLaw (d + 6)) 40 [some (.ref 0), some (.int x1), some (.int x2), some (.int x3)] [.long y1, .long y0] h Q :=
  (am_bd e).elim fun p hp => b_Club_byLaw_40 (d := (d + 5)) (k := c_Club_partOf (d := d + 4) hp.1 (t_Club_byLaw_44 hp.2 q))
theorem t_Club_byLaw_36 {d : Nat} {x1 : Int32} {x2 : Int32} {x3 : Int32} {y0 : Int64} {h : am_H} {Q : am_Q} {res : Int64 × am_H} (e : f_Club_byLaw_36 h x2 x3 y0 = some res) (q : Q (some (.long res.1)) res.2) : am_W (X_Club_byLaw (d + 6)) 36 [some (.ref 0), some (.int x1), some (.int x2), some (.int x3)] [.long y0] h Q :=
  (am_bd e).elim fun p hp => b_Club_byLaw_36 (d := (d + 5)) (k := c_Reck_unit (d := d + 5) hp.1 (t_Club_byLaw_40 hp.2 q))
theorem t_Club_byLaw_27 {d : Nat} {x1 : Int32} {x2 : Int32} {x3 : Int32} {h : am_H} {Q : am_Q} {res : Int64 × am_H} (e : f_Club_byLaw_27 h x1 x2 x3 = some res) (q : Q (some (.long res.1)) res.2) : am_W (X_Club_byLaw (d + 6)) 27 [some (.ref 0), some (.int x1), some (.int x2), some (.int x3)] [] h Q :=
  (am_bd e).elim fun p hp => b_Club_byLaw_27 (d := (d + 5)) (k := c_Reck_meanByLaw (d := d) hp.1 (t_Club_byLaw_36 hp.2 q))
theorem t_Club_byLaw_20 {d : Nat} {x1 : Int32} {x2 : Int32} {x3 : Int32} {y0 : Bool} {h : am_H} {Q : am_Q} {res : Int64 × am_H} (e : f_Club_byLaw_20 h x1 x2 x3 y0 = some res) (q : Q (some (.long res.1)) res.2) : am_W (X_Club_byLaw (d + 6)) 20 [some (.ref 0), some (.int x1), some (.int x2), some (.int x3)] [.int (am_b y0)] h Q :=
  b_Club_byLaw_20 (d := (d + 6)) (kt := fun c => (t_Club_byLaw_27 (am_ift e (am_bn c)) q)) (kf := fun c => (t_Club_byLaw_23 (am_iff e (am_bz c)) q))
theorem t_Club_byLaw_16 {d : Nat} {x1 : Int32} {x2 : Int32} {x3 : Int32} {h : am_H} {Q : am_Q} {res : Int64 × am_H} (e : f_Club_byLaw_16 h x1 x2 x3 = some res) (q : Q (some (.long res.1)) res.2) : am_W (X_Club_byLaw (d + 6)) 16 [some (.ref 0), some (.int x1), some (.int x2), some (.int x3)] [] h Q :=
  b_Club_byLaw_16 (d := (d + 5)) (k := c_Club_isFractionPart (d := d + 5) rfl (t_Club_byLaw_20 e q))
theorem t_Club_byLaw_11 {d : Nat} {x1 : Int32} {x2 : Int32} {x3 : Int32} {h : am_H} {Q : am_Q} {res : Int64 × am_H} (e : f_Club_byLaw_11 h x1 x2 x3 = some res) (q : Q (some (.long res.1)) res.2) : am_W (X_Club_byLaw (d + 6)) 11 [some (.ref 0), some (.int x1), some (.int x2), some (.int x3)] [] h Q :=
  b_Club_byLaw_11 (d := (d + 6)) (kt := fun c => (t_Club_byLaw_23 (am_ift e c) q)) (kf := fun c => (t_Club_byLaw_16 (am_ife e c) q))
theorem t_Club_byLaw_7 {d : Nat} {x1 : Int32} {x2 : Int32} {x3 : Int32} {h : am_H} {Q : am_Q} {res : Int64 × am_H} (e : f_Club_byLaw_7 h x1 x2 x3 = some res) (q : Q (some (.long res.1)) res.2) : am_W (X_Club_byLaw (d + 6)) 7 [some (.ref 0), some (.int x1), some (.int x2), some (.int x3)] [] h Q :=
  b_Club_byLaw_7 (d := (d + 6)) (kt := fun c => (t_Club_byLaw_23 (am_ift e c) q)) (kf := fun c => (t_Club_byLaw_11 (am_ife e c) q))
theorem t_Club_byLaw_4 {d : Nat} {x1 : Int32} {x2 : Int32} {x3 : Int32} {y0 : Bool} {h : am_H} {Q : am_Q} {res : Int64 × am_H} (e : f_Club_byLaw_4 h x1 x2 x3 y0 = some res) (q : Q (some (.long res.1)) res.2) : am_W (X_Club_byLaw (d + 6)) 4 [some (.ref 0), some (.int x1), some (.int x2), some (.int x3)] [.int (am_b y0)] h Q :=
  b_Club_byLaw_4 (d := (d + 6)) (kt := fun c => (t_Club_byLaw_23 (am_iff e (am_bz c)) q)) (kf := fun c => (t_Club_byLaw_7 (am_ift e (am_bn c)) q))
theorem t_Club_byLaw_0 {d : Nat} {x1 : Int32} {x2 : Int32} {x3 : Int32} {h : am_H} {Q : am_Q} {res : Int64 × am_H} (e : f_Club_byLaw h x1 x2 x3 = some res) (q : Q (some (.long res.1)) res.2) : am_W (X_Club_byLaw (d + 6)) 0 [some (.ref 0), some (.int x1), some (.int x2), some (.int x3)] [] h Q :=
  b_Club_byLaw_0 (d := (d + 5)) (k := c_Hole_isCell (d := d + 5) rfl (t_Club_byLaw_4 e q))
theorem c_Club_byLaw {d : Nat} {x1 : Int32} {x2 : Int32} {x3 : Int32} {h : am_H} {Q : am_Q} {res : Int64 × am_H} (e : f_Club_byLaw h x1 x2 x3 = some res) (q : Q (some (.long res.1)) res.2) : m_Club_byLaw (d + 6) [.ref 0, .int x1, .int x2, .int x3] h Q :=
  e_Club_byLaw (t_Club_byLaw_0 e q)
theorem d_Reck_meanTold_0 : decode prog_7_method_17_code 0 = .ok (.aload_n 0, 1) := by decide +kernel
theorem d_Reck_meanTold_1 : decode prog_7_method_17_code 1 = .ok (.iload_n 1, 1) := by decide +kernel
theorem d_Reck_meanTold_2 : decode prog_7_method_17_code 2 = .ok (.aload_n 0, 1) := by decide +kernel
theorem d_Reck_meanTold_3 : decode prog_7_method_17_code 3 = .ok (.iload_n 1, 1) := by decide +kernel
theorem d_Reck_meanTold_4 : decode prog_7_method_17_code 4 = .ok (.iload_n 3, 1) := by decide +kernel
theorem d_Reck_meanTold_5 : decode prog_7_method_17_code 5 = .ok (.invokevirtual 125, 3) := by decide +kernel
theorem d_Reck_meanTold_8 : decode prog_7_method_17_code 8 = .ok (.iload_n 2, 1) := by decide +kernel
theorem d_Reck_meanTold_9 : decode prog_7_method_17_code 9 = .ok (.iconst 1, 1) := by decide +kernel
theorem d_Reck_meanTold_10 : decode prog_7_method_17_code 10 = .ok (.invokevirtual 163, 3) := by decide +kernel
theorem d_Reck_meanTold_13 : decode prog_7_method_17_code 13 = .ok (.lreturn, 1) := by decide +kernel
theorem b_Reck_meanTold_0 {d : Nat} {x1 : Int32} {x2 : Int32} {x3 : Int32} {h : am_H} {Q : am_Q} (k : m_Reck_clubTold d [.ref 12, .int x1, .int x3] h (fun r hh => am_W (X_Reck_meanTold (d + 1)) 8 [some (.ref 12), some (.int x1), some (.int x2), some (.int x3)] (r.toList ++ [.int x1, .ref 12]) hh Q)) : am_W (X_Reck_meanTold (d + 1)) 0 [some (.ref 12), some (.int x1), some (.int x2), some (.int x3)] [] h Q :=
  am_aload_n d_Reck_meanTold_0 rfl (i := 0) rfl <|
    am_iload_n d_Reck_meanTold_1 rfl (i := 1) rfl <|
    am_aload_n d_Reck_meanTold_2 rfl (i := 0) rfl <|
    am_iload_n d_Reck_meanTold_3 rfl (i := 1) rfl <|
    am_iload_n d_Reck_meanTold_4 rfl (i := 3) rfl <|
    am_callV (vs := [.int x1, .int x3]) (st := [.int x1, .ref 12]) (k := 12) (ci := 3) rfl d_Reck_meanTold_5 rfl rfl w_866 w_740 w_741 w_87 w_742 p_Reck_clubTold (Nat.le_of_ble_eq_true rfl) (Nat.le_of_ble_eq_true rfl) rfl k
theorem b_Reck_meanTold_8 {d : Nat} {x1 : Int32} {x2 : Int32} {x3 : Int32} {y2 : Int32} {y1 : Int32} {h : am_H} {Q : am_Q} (k : m_Reck_meanByClub d [.ref 12, .int y1, .int y2, .int x2, .int 1] h (fun r hh => am_W (X_Reck_meanTold (d + 1)) 13 [some (.ref 12), some (.int x1), some (.int x2), some (.int x3)] (r.toList ++ []) hh Q)) : am_W (X_Reck_meanTold (d + 1)) 8 [some (.ref 12), some (.int x1), some (.int x2), some (.int x3)] [.int y2, .int y1, .ref 12] h Q :=
  am_iload_n d_Reck_meanTold_8 rfl (i := 2) rfl <|
    am_iconst (v := 1) d_Reck_meanTold_9 (by decide) <|
    am_callV (vs := [.int y1, .int y2, .int x2, .int 1]) (st := []) (k := 12) (ci := 3) rfl d_Reck_meanTold_10 rfl rfl w_835 w_837 w_17 w_87 w_838 p_Reck_meanByClub (Nat.le_of_ble_eq_true rfl) (Nat.le_of_ble_eq_true rfl) rfl k
theorem b_Reck_meanTold_13 {d : Nat} {x1 : Int32} {x2 : Int32} {x3 : Int32} {y0 : Int64} {h : am_H} {Q : am_Q} (q : Q (some (.long y0)) h) : am_W (X_Reck_meanTold d) 13 [some (.ref 12), some (.int x1), some (.int x2), some (.int x3)] [.long y0] h Q :=
  am_lret rfl d_Reck_meanTold_13 q
theorem t_Reck_meanTold_13 {d : Nat} {x1 : Int32} {x2 : Int32} {x3 : Int32} {y0 : Int64} {h : am_H} {Q : am_Q} {res : Int64 × am_H} (e : f_Reck_meanTold_13 h y0 = some res) (q : Q (some (.long res.1)) res.2) : am_W (X_Reck_meanTold (d + 4)) 13 [some (.ref 12), some (.int x1), some (.int x2), some (.int x3)] [.long y0] h Q :=
  b_Reck_meanTold_13 (d := (d + 4)) (q := (am_rJpi (v := y0) e q))
theorem t_Reck_meanTold_8 {d : Nat} {x1 : Int32} {x2 : Int32} {x3 : Int32} {y2 : Int32} {y1 : Int32} {h : am_H} {Q : am_Q} {res : Int64 × am_H} (e : f_Reck_meanTold_8 h x2 y2 y1 = some res) (q : Q (some (.long res.1)) res.2) : am_W (X_Reck_meanTold (d + 4)) 8 [some (.ref 12), some (.int x1), some (.int x2), some (.int x3)] [.int y2, .int y1, .ref 12] h Q :=
  (am_bd e).elim fun p hp => b_Reck_meanTold_8 (d := (d + 3)) (k := c_Reck_meanByClub (d := d + 1) hp.1 (t_Reck_meanTold_13 hp.2 q))
theorem t_Reck_meanTold_0 {d : Nat} {x1 : Int32} {x2 : Int32} {x3 : Int32} {h : am_H} {Q : am_Q} {res : Int64 × am_H} (e : f_Reck_meanTold h x1 x2 x3 = some res) (q : Q (some (.long res.1)) res.2) : am_W (X_Reck_meanTold (d + 4)) 0 [some (.ref 12), some (.int x1), some (.int x2), some (.int x3)] [] h Q :=
  (am_bd e).elim fun p hp => b_Reck_meanTold_0 (d := (d + 3)) (k := c_Reck_clubTold (d := d) hp.1 (t_Reck_meanTold_8 hp.2 q))
theorem c_Reck_meanTold {d : Nat} {x1 : Int32} {x2 : Int32} {x3 : Int32} {h : am_H} {Q : am_Q} {res : Int64 × am_H} (e : f_Reck_meanTold h x1 x2 x3 = some res) (q : Q (some (.long res.1)) res.2) : m_Reck_meanTold (d + 4) [.ref 12, .int x1, .int x2, .int x3] h Q :=
  e_Reck_meanTold (t_Reck_meanTold_0 e q)
theorem d_Reck_bestLie_0 : decode prog_7_method_18_code 0 = .ok (.iconst 0, 1) := by decide +kernel
theorem d_Reck_bestLie_1 : decode prog_7_method_18_code 1 = .ok (.istore 4, 2) := by decide +kernel
theorem d_Reck_bestLie_3 : decode prog_7_method_18_code 3 = .ok (.aload_n 0, 1) := by decide +kernel
theorem d_Reck_bestLie_4 : decode prog_7_method_18_code 4 = .ok (.iload_n 1, 1) := by decide +kernel
theorem d_Reck_bestLie_5 : decode prog_7_method_18_code 5 = .ok (.iload_n 2, 1) := by decide +kernel
theorem d_Reck_bestLie_6 : decode prog_7_method_18_code 6 = .ok (.iconst 0, 1) := by decide +kernel
theorem d_Reck_bestLie_7 : decode prog_7_method_18_code 7 = .ok (.invokevirtual 183, 3) := by decide +kernel
theorem d_Reck_bestLie_10 : decode prog_7_method_18_code 10 = .ok (.lstore 5, 2) := by decide +kernel
theorem d_Reck_bestLie_12 : decode prog_7_method_18_code 12 = .ok (.iconst 1, 1) := by decide +kernel
theorem d_Reck_bestLie_13 : decode prog_7_method_18_code 13 = .ok (.istore 7, 2) := by decide +kernel
theorem d_Reck_bestLie_15 : decode prog_7_method_18_code 15 = .ok (.iload 7, 2) := by decide +kernel
theorem d_Reck_bestLie_17 : decode prog_7_method_18_code 17 = .ok (.iconst 5, 1) := by decide +kernel
theorem d_Reck_bestLie_18 : decode prog_7_method_18_code 18 = .ok (.if_icmp .gt 79, 3) := by decide +kernel
theorem d_Reck_bestLie_21 : decode prog_7_method_18_code 21 = .ok (.iload_n 3, 1) := by decide +kernel
theorem d_Reck_bestLie_22 : decode prog_7_method_18_code 22 = .ok (.iconst 2, 1) := by decide +kernel
theorem d_Reck_bestLie_23 : decode prog_7_method_18_code 23 = .ok (.if_icmp .ne 10, 3) := by decide +kernel
theorem d_Reck_bestLie_26 : decode prog_7_method_18_code 26 = .ok (.iload 7, 2) := by decide +kernel
theorem d_Reck_bestLie_28 : decode prog_7_method_18_code 28 = .ok (.iconst 2, 1) := by decide +kernel
theorem d_Reck_bestLie_29 : decode prog_7_method_18_code 29 = .ok (.idiv, 1) := by decide +kernel
theorem d_Reck_bestLie_30 : decode prog_7_method_18_code 30 = .ok (.goto 5, 3) := by decide +kernel
theorem d_Reck_bestLie_33 : decode prog_7_method_18_code 33 = .ok (.iload 7, 2) := by decide +kernel
theorem d_Reck_bestLie_35 : decode prog_7_method_18_code 35 = .ok (.istore 8, 2) := by decide +kernel
theorem d_Reck_bestLie_37 : decode prog_7_method_18_code 37 = .ok (.aload_n 0, 1) := by decide +kernel
theorem d_Reck_bestLie_38 : decode prog_7_method_18_code 38 = .ok (.iload_n 1, 1) := by decide +kernel
theorem d_Reck_bestLie_39 : decode prog_7_method_18_code 39 = .ok (.iload_n 2, 1) := by decide +kernel
theorem d_Reck_bestLie_40 : decode prog_7_method_18_code 40 = .ok (.iload 8, 2) := by decide +kernel
theorem d_Reck_bestLie_42 : decode prog_7_method_18_code 42 = .ok (.ineg, 1) := by decide +kernel
theorem d_Reck_bestLie_43 : decode prog_7_method_18_code 43 = .ok (.invokevirtual 183, 3) := by decide +kernel
theorem d_Reck_bestLie_46 : decode prog_7_method_18_code 46 = .ok (.lstore 9, 2) := by decide +kernel
theorem d_Reck_bestLie_48 : decode prog_7_method_18_code 48 = .ok (.lload 9, 2) := by decide +kernel
theorem d_Reck_bestLie_50 : decode prog_7_method_18_code 50 = .ok (.lload 5, 2) := by decide +kernel
theorem d_Reck_bestLie_52 : decode prog_7_method_18_code 52 = .ok (.lcmp, 1) := by decide +kernel
theorem d_Reck_bestLie_53 : decode prog_7_method_18_code 53 = .ok (.ifCond .ge 12, 3) := by decide +kernel
theorem d_Reck_bestLie_56 : decode prog_7_method_18_code 56 = .ok (.lload 9, 2) := by decide +kernel
theorem d_Reck_bestLie_58 : decode prog_7_method_18_code 58 = .ok (.lstore 5, 2) := by decide +kernel
theorem d_Reck_bestLie_60 : decode prog_7_method_18_code 60 = .ok (.iload 7, 2) := by decide +kernel
theorem d_Reck_bestLie_62 : decode prog_7_method_18_code 62 = .ok (.ineg, 1) := by decide +kernel
theorem d_Reck_bestLie_63 : decode prog_7_method_18_code 63 = .ok (.istore 4, 2) := by decide +kernel
theorem d_Reck_bestLie_65 : decode prog_7_method_18_code 65 = .ok (.aload_n 0, 1) := by decide +kernel
theorem d_Reck_bestLie_66 : decode prog_7_method_18_code 66 = .ok (.iload_n 1, 1) := by decide +kernel
theorem d_Reck_bestLie_67 : decode prog_7_method_18_code 67 = .ok (.iload_n 2, 1) := by decide +kernel
theorem d_Reck_bestLie_68 : decode prog_7_method_18_code 68 = .ok (.iload 8, 2) := by decide +kernel
theorem d_Reck_bestLie_70 : decode prog_7_method_18_code 70 = .ok (.invokevirtual 183, 3) := by decide +kernel
theorem d_Reck_bestLie_73 : decode prog_7_method_18_code 73 = .ok (.lstore 11, 2) := by decide +kernel
theorem d_Reck_bestLie_75 : decode prog_7_method_18_code 75 = .ok (.lload 11, 2) := by decide +kernel
theorem d_Reck_bestLie_77 : decode prog_7_method_18_code 77 = .ok (.lload 5, 2) := by decide +kernel
theorem d_Reck_bestLie_79 : decode prog_7_method_18_code 79 = .ok (.lcmp, 1) := by decide +kernel
theorem d_Reck_bestLie_80 : decode prog_7_method_18_code 80 = .ok (.ifCond .ge 11, 3) := by decide +kernel
theorem d_Reck_bestLie_83 : decode prog_7_method_18_code 83 = .ok (.lload 11, 2) := by decide +kernel
theorem d_Reck_bestLie_85 : decode prog_7_method_18_code 85 = .ok (.lstore 5, 2) := by decide +kernel
theorem d_Reck_bestLie_87 : decode prog_7_method_18_code 87 = .ok (.iload 7, 2) := by decide +kernel
theorem d_Reck_bestLie_89 : decode prog_7_method_18_code 89 = .ok (.istore 4, 2) := by decide +kernel
theorem d_Reck_bestLie_91 : decode prog_7_method_18_code 91 = .ok (.iinc 7 1, 3) := by decide +kernel
theorem d_Reck_bestLie_94 : decode prog_7_method_18_code 94 = .ok (.goto (-79), 3) := by decide +kernel
theorem d_Reck_bestLie_97 : decode prog_7_method_18_code 97 = .ok (.iload 4, 2) := by decide +kernel
theorem d_Reck_bestLie_99 : decode prog_7_method_18_code 99 = .ok (.ireturn, 1) := by decide +kernel
theorem b_Reck_bestLie_0 {d : Nat} {x1 : Int32} {x2 : Int32} {x3 : Int32} {h : am_H} {Q : am_Q} (k : m_Reck_meanTold d [.ref 12, .int x1, .int x2, .int 0] h (fun r hh => am_W (X_Reck_bestLie (d + 1)) 10 [some (.ref 12), some (.int x1), some (.int x2), some (.int x3), some (.int 0), none, none, none, none, none, none, none, none] (r.toList ++ []) hh Q)) : am_W (X_Reck_bestLie (d + 1)) 0 [some (.ref 12), some (.int x1), some (.int x2), some (.int x3), none, none, none, none, none, none, none, none, none] [] h Q :=
  am_iconst (v := 0) d_Reck_bestLie_0 (by decide) <|
    am_istore (ls' := [some (.ref 12), some (.int x1), some (.int x2), some (.int x3), some (.int 0), none, none, none, none, none, none, none, none]) d_Reck_bestLie_1 (Nat.le_of_ble_eq_true rfl) rfl <|
    am_aload_n d_Reck_bestLie_3 rfl (i := 0) rfl <|
    am_iload_n d_Reck_bestLie_4 rfl (i := 1) rfl <|
    am_iload_n d_Reck_bestLie_5 rfl (i := 2) rfl <|
    am_iconst (v := 0) d_Reck_bestLie_6 (by decide) <|
    am_callV (vs := [.int x1, .int x2, .int 0]) (st := []) (k := 12) (ci := 3) rfl d_Reck_bestLie_7 rfl rfl w_876 w_877 w_878 w_87 w_879 p_Reck_meanTold (Nat.le_of_ble_eq_true rfl) (Nat.le_of_ble_eq_true rfl) rfl k
theorem b_Reck_bestLie_10 {d : Nat} {x1 : Int32} {x2 : Int32} {x3 : Int32} {x4 : Int32} {y0 : Int64} {h : am_H} {Q : am_Q} (k : am_W (X_Reck_bestLie d) 15 [some (.ref 12), some (.int x1), some (.int x2), some (.int x3), some (.int x4), some (.long y0), none, some (.int 1), none, none, none, none, none] [] h Q) : am_W (X_Reck_bestLie d) 10 [some (.ref 12), some (.int x1), some (.int x2), some (.int x3), some (.int x4), none, none, none, none, none, none, none, none] [.long y0] h Q :=
  am_lstore (ls' := [some (.ref 12), some (.int x1), some (.int x2), some (.int x3), some (.int x4), some (.long y0), none, none, none, none, none, none, none]) d_Reck_bestLie_10 (Nat.le_of_ble_eq_true rfl) rfl <|
    am_iconst (v := 1) d_Reck_bestLie_12 (by decide) <|
    am_istore (ls' := [some (.ref 12), some (.int x1), some (.int x2), some (.int x3), some (.int x4), some (.long y0), none, some (.int 1), none, none, none, none, none]) d_Reck_bestLie_13 (Nat.le_of_ble_eq_true rfl) rfl <|
    k
theorem b_Reck_bestLie_15 {d : Nat} {x1 : Int32} {x2 : Int32} {x3 : Int32} {x4 : Int32} {x5 : Int64} {x7 : Int32} {h : am_H} {Q : am_Q} (kt : 5 < x7 → am_W (X_Reck_bestLie d) 97 [some (.ref 12), some (.int x1), some (.int x2), some (.int x3), some (.int x4), some (.long x5), none, some (.int x7), none, none, none, none, none] [] h Q) (kf : ¬ 5 < x7 → am_W (X_Reck_bestLie d) 21 [some (.ref 12), some (.int x1), some (.int x2), some (.int x3), some (.int x4), some (.long x5), none, some (.int x7), none, none, none, none, none] [] h Q) : am_W (X_Reck_bestLie d) 15 [some (.ref 12), some (.int x1), some (.int x2), some (.int x3), some (.int x4), some (.long x5), none, some (.int x7), none, none, none, none, none] [] h Q :=
  am_iload d_Reck_bestLie_15 rfl <|
    am_iconst (v := 5) d_Reck_bestLie_17 (by decide) <|
    am_icmp_gt (tgt := 97) d_Reck_bestLie_18 (by decide) kt kf
theorem b_Reck_bestLie_21 {d : Nat} {x1 : Int32} {x2 : Int32} {x3 : Int32} {x4 : Int32} {x5 : Int64} {x7 : Int32} {h : am_H} {Q : am_Q} (kt : ¬ x3 = 2 → am_W (X_Reck_bestLie d) 33 [some (.ref 12), some (.int x1), some (.int x2), some (.int x3), some (.int x4), some (.long x5), none, some (.int x7), none, none, none, none, none] [] h Q) (kf : x3 = 2 → am_W (X_Reck_bestLie d) 26 [some (.ref 12), some (.int x1), some (.int x2), some (.int x3), some (.int x4), some (.long x5), none, some (.int x7), none, none, none, none, none] [] h Q) : am_W (X_Reck_bestLie d) 21 [some (.ref 12), some (.int x1), some (.int x2), some (.int x3), some (.int x4), some (.long x5), none, some (.int x7), none, none, none, none, none] [] h Q :=
  am_iload_n d_Reck_bestLie_21 rfl (i := 3) rfl <|
    am_iconst (v := 2) d_Reck_bestLie_22 (by decide) <|
    am_icmp_ne (tgt := 33) d_Reck_bestLie_23 (by decide) kt kf
theorem b_Reck_bestLie_26 {d : Nat} {x1 : Int32} {x2 : Int32} {x3 : Int32} {x4 : Int32} {x5 : Int64} {x7 : Int32} {h : am_H} {Q : am_Q} (k : am_W (X_Reck_bestLie d) 35 [some (.ref 12), some (.int x1), some (.int x2), some (.int x3), some (.int x4), some (.long x5), none, some (.int x7), none, none, none, none, none] [.int (x7 / 2)] h Q) : am_W (X_Reck_bestLie d) 26 [some (.ref 12), some (.int x1), some (.int x2), some (.int x3), some (.int x4), some (.long x5), none, some (.int x7), none, none, none, none, none] [] h Q :=
  am_iload d_Reck_bestLie_26 rfl <|
    am_iconst (v := 2) d_Reck_bestLie_28 (by decide) <|
    am_idiv d_Reck_bestLie_29 (by decide) <|
    am_goto (tgt := 35) d_Reck_bestLie_30 (by decide) k
theorem b_Reck_bestLie_33 {d : Nat} {x1 : Int32} {x2 : Int32} {x3 : Int32} {x4 : Int32} {x5 : Int64} {x7 : Int32} {h : am_H} {Q : am_Q} (k : am_W (X_Reck_bestLie d) 35 [some (.ref 12), some (.int x1), some (.int x2), some (.int x3), some (.int x4), some (.long x5), none, some (.int x7), none, none, none, none, none] [.int x7] h Q) : am_W (X_Reck_bestLie d) 33 [some (.ref 12), some (.int x1), some (.int x2), some (.int x3), some (.int x4), some (.long x5), none, some (.int x7), none, none, none, none, none] [] h Q :=
  am_iload d_Reck_bestLie_33 rfl <|
    k
theorem b_Reck_bestLie_35 {d : Nat} {x1 : Int32} {x2 : Int32} {x3 : Int32} {x4 : Int32} {x5 : Int64} {x7 : Int32} {y0 : Int32} {h : am_H} {Q : am_Q} (k : m_Reck_meanTold d [.ref 12, .int x1, .int x2, .int (-y0)] h (fun r hh => am_W (X_Reck_bestLie (d + 1)) 46 [some (.ref 12), some (.int x1), some (.int x2), some (.int x3), some (.int x4), some (.long x5), none, some (.int x7), some (.int y0), none, none, none, none] (r.toList ++ []) hh Q)) : am_W (X_Reck_bestLie (d + 1)) 35 [some (.ref 12), some (.int x1), some (.int x2), some (.int x3), some (.int x4), some (.long x5), none, some (.int x7), none, none, none, none, none] [.int y0] h Q :=
  am_istore (ls' := [some (.ref 12), some (.int x1), some (.int x2), some (.int x3), some (.int x4), some (.long x5), none, some (.int x7), some (.int y0), none, none, none, none]) d_Reck_bestLie_35 (Nat.le_of_ble_eq_true rfl) rfl <|
    am_aload_n d_Reck_bestLie_37 rfl (i := 0) rfl <|
    am_iload_n d_Reck_bestLie_38 rfl (i := 1) rfl <|
    am_iload_n d_Reck_bestLie_39 rfl (i := 2) rfl <|
    am_iload d_Reck_bestLie_40 rfl <|
    am_ineg d_Reck_bestLie_42 <|
    am_callV (vs := [.int x1, .int x2, .int (-y0)]) (st := []) (k := 12) (ci := 3) rfl d_Reck_bestLie_43 rfl rfl w_876 w_877 w_878 w_87 w_879 p_Reck_meanTold (Nat.le_of_ble_eq_true rfl) (Nat.le_of_ble_eq_true rfl) rfl k
theorem b_Reck_bestLie_46 {d : Nat} {x1 : Int32} {x2 : Int32} {x3 : Int32} {x4 : Int32} {x5 : Int64} {x7 : Int32} {x8 : Int32} {y0 : Int64} {h : am_H} {Q : am_Q} (kt : x5 ≤ y0 → am_W (X_Reck_bestLie d) 65 [some (.ref 12), some (.int x1), some (.int x2), some (.int x3), some (.int x4), some (.long x5), none, some (.int x7), some (.int x8), some (.long y0), none, none, none] [] h Q) (kf : ¬ x5 ≤ y0 → am_W (X_Reck_bestLie d) 56 [some (.ref 12), some (.int x1), some (.int x2), some (.int x3), some (.int x4), some (.long x5), none, some (.int x7), some (.int x8), some (.long y0), none, none, none] [] h Q) : am_W (X_Reck_bestLie d) 46 [some (.ref 12), some (.int x1), some (.int x2), some (.int x3), some (.int x4), some (.long x5), none, some (.int x7), some (.int x8), none, none, none, none] [.long y0] h Q :=
  am_lstore (ls' := [some (.ref 12), some (.int x1), some (.int x2), some (.int x3), some (.int x4), some (.long x5), none, some (.int x7), some (.int x8), some (.long y0), none, none, none]) d_Reck_bestLie_46 (Nat.le_of_ble_eq_true rfl) rfl <|
    am_lload d_Reck_bestLie_48 rfl <|
    am_lload d_Reck_bestLie_50 rfl <|
    am_lc_if_ge (tgt := 65) d_Reck_bestLie_52 d_Reck_bestLie_53 (by decide) kt kf
theorem b_Reck_bestLie_56 {d : Nat} {x1 : Int32} {x2 : Int32} {x3 : Int32} {x4 : Int32} {x5 : Int64} {x7 : Int32} {x8 : Int32} {x9 : Int64} {h : am_H} {Q : am_Q} (k : am_W (X_Reck_bestLie d) 65 [some (.ref 12), some (.int x1), some (.int x2), some (.int x3), some (.int (-x7)), some (.long x9), none, some (.int x7), some (.int x8), some (.long x9), none, none, none] [] h Q) : am_W (X_Reck_bestLie d) 56 [some (.ref 12), some (.int x1), some (.int x2), some (.int x3), some (.int x4), some (.long x5), none, some (.int x7), some (.int x8), some (.long x9), none, none, none] [] h Q :=
  am_lload d_Reck_bestLie_56 rfl <|
    am_lstore (ls' := [some (.ref 12), some (.int x1), some (.int x2), some (.int x3), some (.int x4), some (.long x9), none, some (.int x7), some (.int x8), some (.long x9), none, none, none]) d_Reck_bestLie_58 (Nat.le_of_ble_eq_true rfl) rfl <|
    am_iload d_Reck_bestLie_60 rfl <|
    am_ineg d_Reck_bestLie_62 <|
    am_istore (ls' := [some (.ref 12), some (.int x1), some (.int x2), some (.int x3), some (.int (-x7)), some (.long x9), none, some (.int x7), some (.int x8), some (.long x9), none, none, none]) d_Reck_bestLie_63 (Nat.le_of_ble_eq_true rfl) rfl <|
    k
theorem b_Reck_bestLie_65 {d : Nat} {x1 : Int32} {x2 : Int32} {x3 : Int32} {x4 : Int32} {x5 : Int64} {x7 : Int32} {x8 : Int32} {x9 : Int64} {h : am_H} {Q : am_Q} (k : m_Reck_meanTold d [.ref 12, .int x1, .int x2, .int x8] h (fun r hh => am_W (X_Reck_bestLie (d + 1)) 73 [some (.ref 12), some (.int x1), some (.int x2), some (.int x3), some (.int x4), some (.long x5), none, some (.int x7), some (.int x8), some (.long x9), none, none, none] (r.toList ++ []) hh Q)) : am_W (X_Reck_bestLie (d + 1)) 65 [some (.ref 12), some (.int x1), some (.int x2), some (.int x3), some (.int x4), some (.long x5), none, some (.int x7), some (.int x8), some (.long x9), none, none, none] [] h Q :=
  am_aload_n d_Reck_bestLie_65 rfl (i := 0) rfl <|
    am_iload_n d_Reck_bestLie_66 rfl (i := 1) rfl <|
    am_iload_n d_Reck_bestLie_67 rfl (i := 2) rfl <|
    am_iload d_Reck_bestLie_68 rfl <|
    am_callV (vs := [.int x1, .int x2, .int x8]) (st := []) (k := 12) (ci := 3) rfl d_Reck_bestLie_70 rfl rfl w_876 w_877 w_878 w_87 w_879 p_Reck_meanTold (Nat.le_of_ble_eq_true rfl) (Nat.le_of_ble_eq_true rfl) rfl k
theorem b_Reck_bestLie_73 {d : Nat} {x1 : Int32} {x2 : Int32} {x3 : Int32} {x4 : Int32} {x5 : Int64} {x7 : Int32} {x8 : Int32} {x9 : Int64} {y0 : Int64} {h : am_H} {Q : am_Q} (kt : x5 ≤ y0 → am_W (X_Reck_bestLie d) 91 [some (.ref 12), some (.int x1), some (.int x2), some (.int x3), some (.int x4), some (.long x5), none, some (.int x7), some (.int x8), some (.long x9), none, some (.long y0), none] [] h Q) (kf : ¬ x5 ≤ y0 → am_W (X_Reck_bestLie d) 83 [some (.ref 12), some (.int x1), some (.int x2), some (.int x3), some (.int x4), some (.long x5), none, some (.int x7), some (.int x8), some (.long x9), none, some (.long y0), none] [] h Q) : am_W (X_Reck_bestLie d) 73 [some (.ref 12), some (.int x1), some (.int x2), some (.int x3), some (.int x4), some (.long x5), none, some (.int x7), some (.int x8), some (.long x9), none, none, none] [.long y0] h Q :=
  am_lstore (ls' := [some (.ref 12), some (.int x1), some (.int x2), some (.int x3), some (.int x4), some (.long x5), none, some (.int x7), some (.int x8), some (.long x9), none, some (.long y0), none]) d_Reck_bestLie_73 (Nat.le_of_ble_eq_true rfl) rfl <|
    am_lload d_Reck_bestLie_75 rfl <|
    am_lload d_Reck_bestLie_77 rfl <|
    am_lc_if_ge (tgt := 91) d_Reck_bestLie_79 d_Reck_bestLie_80 (by decide) kt kf
theorem b_Reck_bestLie_83 {d : Nat} {x1 : Int32} {x2 : Int32} {x3 : Int32} {x4 : Int32} {x5 : Int64} {x7 : Int32} {x8 : Int32} {x9 : Int64} {x11 : Int64} {h : am_H} {Q : am_Q} (k : am_W (X_Reck_bestLie d) 91 [some (.ref 12), some (.int x1), some (.int x2), some (.int x3), some (.int x7), some (.long x11), none, some (.int x7), some (.int x8), some (.long x9), none, some (.long x11), none] [] h Q) : am_W (X_Reck_bestLie d) 83 [some (.ref 12), some (.int x1), some (.int x2), some (.int x3), some (.int x4), some (.long x5), none, some (.int x7), some (.int x8), some (.long x9), none, some (.long x11), none] [] h Q :=
  am_lload d_Reck_bestLie_83 rfl <|
    am_lstore (ls' := [some (.ref 12), some (.int x1), some (.int x2), some (.int x3), some (.int x4), some (.long x11), none, some (.int x7), some (.int x8), some (.long x9), none, some (.long x11), none]) d_Reck_bestLie_85 (Nat.le_of_ble_eq_true rfl) rfl <|
    am_iload d_Reck_bestLie_87 rfl <|
    am_istore (ls' := [some (.ref 12), some (.int x1), some (.int x2), some (.int x3), some (.int x7), some (.long x11), none, some (.int x7), some (.int x8), some (.long x9), none, some (.long x11), none]) d_Reck_bestLie_89 (Nat.le_of_ble_eq_true rfl) rfl <|
    k
theorem b_Reck_bestLie_91 {d : Nat} {x1 : Int32} {x2 : Int32} {x3 : Int32} {x4 : Int32} {x5 : Int64} {x7 : Int32} {x8 : Int32} {x9 : Int64} {x11 : Int64} {h : am_H} {Q : am_Q} (k : am_W (X_Reck_bestLie d) 15 [some (.ref 12), some (.int x1), some (.int x2), some (.int x3), some (.int x4), some (.long x5), none, some (.int (x7 + 1)), some (.int x8), some (.long x9), none, some (.long x11), none] [] h Q) : am_W (X_Reck_bestLie d) 91 [some (.ref 12), some (.int x1), some (.int x2), some (.int x3), some (.int x4), some (.long x5), none, some (.int x7), some (.int x8), some (.long x9), none, some (.long x11), none] [] h Q :=
  am_iinc (v := (x7 + 1)) (ls' := [some (.ref 12), some (.int x1), some (.int x2), some (.int x3), some (.int x4), some (.long x5), none, some (.int (x7 + 1)), some (.int x8), some (.long x9), none, some (.long x11), none]) d_Reck_bestLie_91 rfl rfl (Nat.le_of_ble_eq_true rfl) rfl <|
    am_goto (tgt := 15) d_Reck_bestLie_94 (by decide) k
theorem b_Reck_bestLie_97 {d : Nat} {x1 : Int32} {x2 : Int32} {x3 : Int32} {x4 : Int32} {x5 : Int64} {x7 : Int32} {h : am_H} {Q : am_Q} (q : Q (some (.int x4)) h) : am_W (X_Reck_bestLie d) 97 [some (.ref 12), some (.int x1), some (.int x2), some (.int x3), some (.int x4), some (.long x5), none, some (.int x7), none, none, none, none, none] [] h Q :=
  am_iload d_Reck_bestLie_97 rfl <|
    am_iret rfl d_Reck_bestLie_99 q
theorem t_Reck_bestLie_97 {d : Nat} {x1 : Int32} {x2 : Int32} {x3 : Int32} {x4 : Int32} {x5 : Int64} {x7 : Int32} {h : am_H} {Q : am_Q} {res : Int32 × am_H} (e : f_Reck_bestLie_97 h x4 = some res) (q : Q (some (.int res.1)) res.2) : am_W (X_Reck_bestLie (d + 5)) 97 [some (.ref 12), some (.int x1), some (.int x2), some (.int x3), some (.int x4), some (.long x5), none, some (.int x7), none, none, none, none, none] [] h Q :=
  b_Reck_bestLie_97 (d := (d + 5)) (q := (am_rIpi (v := x4) e q))
theorem t_Reck_bestLie_91 {d : Nat} {k15 : am_H → Int32 → Int32 → Int32 → Int32 → Int64 → Int32 → Option (Int32 × am_H)} {x1 : Int32} {x2 : Int32} {x3 : Int32} {x4 : Int32} {x5 : Int64} {x7 : Int32} {x8 : Int32} {x9 : Int64} {x11 : Int64} {h : am_H} {Q : am_Q} {res : Int32 × am_H} (hk15 : ∀ (x1 : Int32) (x2 : Int32) (x3 : Int32) (x4 : Int32) (x5 : Int64) (x7 : Int32) (h : am_H), k15 h x1 x2 x3 x4 x5 x7 = some res → am_W (X_Reck_bestLie (d + 5)) 15 [some (.ref 12), some (.int x1), some (.int x2), some (.int x3), some (.int x4), some (.long x5), none, some (.int x7), none, none, none, none, none] [] h Q) (e : f_Reck_bestLie_91 k15 h x1 x2 x3 x4 x5 x7 = some res) (q : Q (some (.int res.1)) res.2) : am_W (X_Reck_bestLie (d + 5)) 91 [some (.ref 12), some (.int x1), some (.int x2), some (.int x3), some (.int x4), some (.long x5), none, some (.int x7), some (.int x8), some (.long x9), none, some (.long x11), none] [] h Q :=
  b_Reck_bestLie_91 (d := (d + 5)) (k := (am_wk2 (hk15 _ _ _ _ _ _ _ e) ⟨rfl, ⟨rfl, ⟨rfl, ⟨rfl, ⟨rfl, ⟨rfl, ⟨rfl, trivial⟩⟩⟩⟩⟩⟩⟩))
theorem t_Reck_bestLie_83 {d : Nat} {k15 : am_H → Int32 → Int32 → Int32 → Int32 → Int64 → Int32 → Option (Int32 × am_H)} {x1 : Int32} {x2 : Int32} {x3 : Int32} {x4 : Int32} {x5 : Int64} {x7 : Int32} {x8 : Int32} {x9 : Int64} {x11 : Int64} {h : am_H} {Q : am_Q} {res : Int32 × am_H} (hk15 : ∀ (x1 : Int32) (x2 : Int32) (x3 : Int32) (x4 : Int32) (x5 : Int64) (x7 : Int32) (h : am_H), k15 h x1 x2 x3 x4 x5 x7 = some res → am_W (X_Reck_bestLie (d + 5)) 15 [some (.ref 12), some (.int x1), some (.int x2), some (.int x3), some (.int x4), some (.long x5), none, some (.int x7), none, none, none, none, none] [] h Q) (e : f_Reck_bestLie_83 k15 h x1 x2 x3 x7 x11 = some res) (q : Q (some (.int res.1)) res.2) : am_W (X_Reck_bestLie (d + 5)) 83 [some (.ref 12), some (.int x1), some (.int x2), some (.int x3), some (.int x4), some (.long x5), none, some (.int x7), some (.int x8), some (.long x9), none, some (.long x11), none] [] h Q :=
  b_Reck_bestLie_83 (d := (d + 5)) (k := (t_Reck_bestLie_91 hk15 e q))
theorem t_Reck_bestLie_73 {d : Nat} {k15 : am_H → Int32 → Int32 → Int32 → Int32 → Int64 → Int32 → Option (Int32 × am_H)} {x1 : Int32} {x2 : Int32} {x3 : Int32} {x4 : Int32} {x5 : Int64} {x7 : Int32} {x8 : Int32} {x9 : Int64} {y0 : Int64} {h : am_H} {Q : am_Q} {res : Int32 × am_H} (hk15 : ∀ (x1 : Int32) (x2 : Int32) (x3 : Int32) (x4 : Int32) (x5 : Int64) (x7 : Int32) (h : am_H), k15 h x1 x2 x3 x4 x5 x7 = some res → am_W (X_Reck_bestLie (d + 5)) 15 [some (.ref 12), some (.int x1), some (.int x2), some (.int x3), some (.int x4), some (.long x5), none, some (.int x7), none, none, none, none, none] [] h Q) (e : f_Reck_bestLie_73 k15 h x1 x2 x3 x4 x5 x7 y0 = some res) (q : Q (some (.int res.1)) res.2) : am_W (X_Reck_bestLie (d + 5)) 73 [some (.ref 12), some (.int x1), some (.int x2), some (.int x3), some (.int x4), some (.long x5), none, some (.int x7), some (.int x8), some (.long x9), none, none, none] [.long y0] h Q :=
  b_Reck_bestLie_73 (d := (d + 5)) (kt := fun c => (t_Reck_bestLie_91 hk15 (am_ift e c) q)) (kf := fun c => (t_Reck_bestLie_83 hk15 (am_ife e c) q))
theorem t_Reck_bestLie_65 {d : Nat} {k15 : am_H → Int32 → Int32 → Int32 → Int32 → Int64 → Int32 → Option (Int32 × am_H)} {x1 : Int32} {x2 : Int32} {x3 : Int32} {x4 : Int32} {x5 : Int64} {x7 : Int32} {x8 : Int32} {x9 : Int64} {h : am_H} {Q : am_Q} {res : Int32 × am_H} (hk15 : ∀ (x1 : Int32) (x2 : Int32) (x3 : Int32) (x4 : Int32) (x5 : Int64) (x7 : Int32) (h : am_H), k15 h x1 x2 x3 x4 x5 x7 = some res → am_W (X_Reck_bestLie (d + 5)) 15 [some (.ref 12), some (.int x1), some (.int x2), some (.int x3), some (.int x4), some (.long x5), none, some (.int x7), none, none, none, none, none] [] h Q) (e : f_Reck_bestLie_65 k15 h x1 x2 x3 x4 x5 x7 x8 = some res) (q : Q (some (.int res.1)) res.2) : am_W (X_Reck_bestLie (d + 5)) 65 [some (.ref 12), some (.int x1), some (.int x2), some (.int x3), some (.int x4), some (.long x5), none, some (.int x7), some (.int x8), some (.long x9), none, none, none] [] h Q :=
  (am_bd e).elim fun p hp => b_Reck_bestLie_65 (d := (d + 4)) (k := c_Reck_meanTold (d := d) hp.1 (t_Reck_bestLie_73 hk15 hp.2 q))
theorem t_Reck_bestLie_56 {d : Nat} {k15 : am_H → Int32 → Int32 → Int32 → Int32 → Int64 → Int32 → Option (Int32 × am_H)} {x1 : Int32} {x2 : Int32} {x3 : Int32} {x4 : Int32} {x5 : Int64} {x7 : Int32} {x8 : Int32} {x9 : Int64} {h : am_H} {Q : am_Q} {res : Int32 × am_H} (hk15 : ∀ (x1 : Int32) (x2 : Int32) (x3 : Int32) (x4 : Int32) (x5 : Int64) (x7 : Int32) (h : am_H), k15 h x1 x2 x3 x4 x5 x7 = some res → am_W (X_Reck_bestLie (d + 5)) 15 [some (.ref 12), some (.int x1), some (.int x2), some (.int x3), some (.int x4), some (.long x5), none, some (.int x7), none, none, none, none, none] [] h Q) (e : f_Reck_bestLie_56 k15 h x1 x2 x3 x7 x8 x9 = some res) (q : Q (some (.int res.1)) res.2) : am_W (X_Reck_bestLie (d + 5)) 56 [some (.ref 12), some (.int x1), some (.int x2), some (.int x3), some (.int x4), some (.long x5), none, some (.int x7), some (.int x8), some (.long x9), none, none, none] [] h Q :=
  b_Reck_bestLie_56 (d := (d + 5)) (k := (t_Reck_bestLie_65 hk15 e q))
theorem t_Reck_bestLie_46 {d : Nat} {k15 : am_H → Int32 → Int32 → Int32 → Int32 → Int64 → Int32 → Option (Int32 × am_H)} {x1 : Int32} {x2 : Int32} {x3 : Int32} {x4 : Int32} {x5 : Int64} {x7 : Int32} {x8 : Int32} {y0 : Int64} {h : am_H} {Q : am_Q} {res : Int32 × am_H} (hk15 : ∀ (x1 : Int32) (x2 : Int32) (x3 : Int32) (x4 : Int32) (x5 : Int64) (x7 : Int32) (h : am_H), k15 h x1 x2 x3 x4 x5 x7 = some res → am_W (X_Reck_bestLie (d + 5)) 15 [some (.ref 12), some (.int x1), some (.int x2), some (.int x3), some (.int x4), some (.long x5), none, some (.int x7), none, none, none, none, none] [] h Q) (e : f_Reck_bestLie_46 k15 h x1 x2 x3 x4 x5 x7 x8 y0 = some res) (q : Q (some (.int res.1)) res.2) : am_W (X_Reck_bestLie (d + 5)) 46 [some (.ref 12), some (.int x1), some (.int x2), some (.int x3), some (.int x4), some (.long x5), none, some (.int x7), some (.int x8), none, none, none, none] [.long y0] h Q :=
  b_Reck_bestLie_46 (d := (d + 5)) (kt := fun c => (t_Reck_bestLie_65 hk15 (am_ift e c) q)) (kf := fun c => (t_Reck_bestLie_56 hk15 (am_ife e c) q))
theorem t_Reck_bestLie_35 {d : Nat} {k15 : am_H → Int32 → Int32 → Int32 → Int32 → Int64 → Int32 → Option (Int32 × am_H)} {x1 : Int32} {x2 : Int32} {x3 : Int32} {x4 : Int32} {x5 : Int64} {x7 : Int32} {y0 : Int32} {h : am_H} {Q : am_Q} {res : Int32 × am_H} (hk15 : ∀ (x1 : Int32) (x2 : Int32) (x3 : Int32) (x4 : Int32) (x5 : Int64) (x7 : Int32) (h : am_H), k15 h x1 x2 x3 x4 x5 x7 = some res → am_W (X_Reck_bestLie (d + 5)) 15 [some (.ref 12), some (.int x1), some (.int x2), some (.int x3), some (.int x4), some (.long x5), none, some (.int x7), none, none, none, none, none] [] h Q) (e : f_Reck_bestLie_35 k15 h x1 x2 x3 x4 x5 x7 y0 = some res) (q : Q (some (.int res.1)) res.2) : am_W (X_Reck_bestLie (d + 5)) 35 [some (.ref 12), some (.int x1), some (.int x2), some (.int x3), some (.int x4), some (.long x5), none, some (.int x7), none, none, none, none, none] [.int y0] h Q :=
  (am_bd e).elim fun p hp => b_Reck_bestLie_35 (d := (d + 4)) (k := c_Reck_meanTold (d := d) hp.1 (t_Reck_bestLie_46 hk15 hp.2 q))
theorem t_Reck_bestLie_33 {d : Nat} {k15 : am_H → Int32 → Int32 → Int32 → Int32 → Int64 → Int32 → Option (Int32 × am_H)} {x1 : Int32} {x2 : Int32} {x3 : Int32} {x4 : Int32} {x5 : Int64} {x7 : Int32} {h : am_H} {Q : am_Q} {res : Int32 × am_H} (hk15 : ∀ (x1 : Int32) (x2 : Int32) (x3 : Int32) (x4 : Int32) (x5 : Int64) (x7 : Int32) (h : am_H), k15 h x1 x2 x3 x4 x5 x7 = some res → am_W (X_Reck_bestLie (d + 5)) 15 [some (.ref 12), some (.int x1), some (.int x2), some (.int x3), some (.int x4), some (.long x5), none, some (.int x7), none, none, none, none, none] [] h Q) (e : f_Reck_bestLie_33 k15 h x1 x2 x3 x4 x5 x7 = some res) (q : Q (some (.int res.1)) res.2) : am_W (X_Reck_bestLie (d + 5)) 33 [some (.ref 12), some (.int x1), some (.int x2), some (.int x3), some (.int x4), some (.long x5), none, some (.int x7), none, none, none, none, none] [] h Q :=
  b_Reck_bestLie_33 (d := (d + 5)) (k := (t_Reck_bestLie_35 hk15 e q))
theorem t_Reck_bestLie_26 {d : Nat} {k15 : am_H → Int32 → Int32 → Int32 → Int32 → Int64 → Int32 → Option (Int32 × am_H)} {x1 : Int32} {x2 : Int32} {x3 : Int32} {x4 : Int32} {x5 : Int64} {x7 : Int32} {h : am_H} {Q : am_Q} {res : Int32 × am_H} (hk15 : ∀ (x1 : Int32) (x2 : Int32) (x3 : Int32) (x4 : Int32) (x5 : Int64) (x7 : Int32) (h : am_H), k15 h x1 x2 x3 x4 x5 x7 = some res → am_W (X_Reck_bestLie (d + 5)) 15 [some (.ref 12), some (.int x1), some (.int x2), some (.int x3), some (.int x4), some (.long x5), none, some (.int x7), none, none, none, none, none] [] h Q) (e : f_Reck_bestLie_26 k15 h x1 x2 x3 x4 x5 x7 = some res) (q : Q (some (.int res.1)) res.2) : am_W (X_Reck_bestLie (d + 5)) 26 [some (.ref 12), some (.int x1), some (.int x2), some (.int x3), some (.int x4), some (.long x5), none, some (.int x7), none, none, none, none, none] [] h Q :=
  b_Reck_bestLie_26 (d := (d + 5)) (k := (t_Reck_bestLie_35 hk15 e q))
theorem t_Reck_bestLie_21 {d : Nat} {k15 : am_H → Int32 → Int32 → Int32 → Int32 → Int64 → Int32 → Option (Int32 × am_H)} {x1 : Int32} {x2 : Int32} {x3 : Int32} {x4 : Int32} {x5 : Int64} {x7 : Int32} {h : am_H} {Q : am_Q} {res : Int32 × am_H} (hk15 : ∀ (x1 : Int32) (x2 : Int32) (x3 : Int32) (x4 : Int32) (x5 : Int64) (x7 : Int32) (h : am_H), k15 h x1 x2 x3 x4 x5 x7 = some res → am_W (X_Reck_bestLie (d + 5)) 15 [some (.ref 12), some (.int x1), some (.int x2), some (.int x3), some (.int x4), some (.long x5), none, some (.int x7), none, none, none, none, none] [] h Q) (e : f_Reck_bestLie_21 k15 h x1 x2 x3 x4 x5 x7 = some res) (q : Q (some (.int res.1)) res.2) : am_W (X_Reck_bestLie (d + 5)) 21 [some (.ref 12), some (.int x1), some (.int x2), some (.int x3), some (.int x4), some (.long x5), none, some (.int x7), none, none, none, none, none] [] h Q :=
  b_Reck_bestLie_21 (d := (d + 5)) (kt := fun c => (t_Reck_bestLie_33 hk15 (am_ife e c) q)) (kf := fun c => (t_Reck_bestLie_26 hk15 (am_ift e c) q))
theorem t_Reck_bestLie_15 {d : Nat} {k15 : am_H → Int32 → Int32 → Int32 → Int32 → Int64 → Int32 → Option (Int32 × am_H)} {x1 : Int32} {x2 : Int32} {x3 : Int32} {x4 : Int32} {x5 : Int64} {x7 : Int32} {h : am_H} {Q : am_Q} {res : Int32 × am_H} (hk15 : ∀ (x1 : Int32) (x2 : Int32) (x3 : Int32) (x4 : Int32) (x5 : Int64) (x7 : Int32) (h : am_H), k15 h x1 x2 x3 x4 x5 x7 = some res → am_W (X_Reck_bestLie (d + 5)) 15 [some (.ref 12), some (.int x1), some (.int x2), some (.int x3), some (.int x4), some (.long x5), none, some (.int x7), none, none, none, none, none] [] h Q) (e : f_Reck_bestLie_15 k15 h x1 x2 x3 x4 x5 x7 = some res) (q : Q (some (.int res.1)) res.2) : am_W (X_Reck_bestLie (d + 5)) 15 [some (.ref 12), some (.int x1), some (.int x2), some (.int x3), some (.int x4), some (.long x5), none, some (.int x7), none, none, none, none, none] [] h Q :=
  b_Reck_bestLie_15 (d := (d + 5)) (kt := fun c => (t_Reck_bestLie_97 (am_ift e c) q)) (kf := fun c => (t_Reck_bestLie_21 hk15 (am_ife e c) q))
theorem t_Reck_bestLie_15_l {d : Nat} {Q : am_Q} {res : Int32 × am_H} (q : Q (some (.int res.1)) res.2) : ∀ (n : Nat) (x1 : Int32) (x2 : Int32) (x3 : Int32) (x4 : Int32) (x5 : Int64) (x7 : Int32) (h : am_H), f_Reck_bestLie_15_l n h x1 x2 x3 x4 x5 x7 = some res → am_W (X_Reck_bestLie (d + 5)) 15 [some (.ref 12), some (.int x1), some (.int x2), some (.int x3), some (.int x4), some (.long x5), none, some (.int x7), none, none, none, none, none] [] h Q := by
  intro n
  induction n with
  | zero => intro x1 x2 x3 x4 x5 x7 h e; exact am_nn e
  | succ n ih => intro x1 x2 x3 x4 x5 x7 h e; exact t_Reck_bestLie_15 (fun x1 x2 x3 x4 x5 x7 h e => ih x1 x2 x3 x4 x5 x7 h  e) e q
theorem t_Reck_bestLie_10 {d : Nat} {x1 : Int32} {x2 : Int32} {x3 : Int32} {x4 : Int32} {y0 : Int64} {h : am_H} {Q : am_Q} {res : Int32 × am_H} (e : f_Reck_bestLie_10 h x1 x2 x3 x4 y0 = some res) (q : Q (some (.int res.1)) res.2) : am_W (X_Reck_bestLie (d + 5)) 10 [some (.ref 12), some (.int x1), some (.int x2), some (.int x3), some (.int x4), none, none, none, none, none, none, none, none] [.long y0] h Q :=
  b_Reck_bestLie_10 (d := (d + 5)) (k := (t_Reck_bestLie_15_l q am_fu _ _ _ _ _ _ _ e))
theorem t_Reck_bestLie_0 {d : Nat} {x1 : Int32} {x2 : Int32} {x3 : Int32} {h : am_H} {Q : am_Q} {res : Int32 × am_H} (e : f_Reck_bestLie h x1 x2 x3 = some res) (q : Q (some (.int res.1)) res.2) : am_W (X_Reck_bestLie (d + 5)) 0 [some (.ref 12), some (.int x1), some (.int x2), some (.int x3), none, none, none, none, none, none, none, none, none] [] h Q :=
  (am_bd e).elim fun p hp => b_Reck_bestLie_0 (d := (d + 4)) (k := c_Reck_meanTold (d := d) hp.1 (t_Reck_bestLie_10 hp.2 q))
theorem c_Reck_bestLie {d : Nat} {x1 : Int32} {x2 : Int32} {x3 : Int32} {h : am_H} {Q : am_Q} {res : Int32 × am_H} (e : f_Reck_bestLie h x1 x2 x3 = some res) (q : Q (some (.int res.1)) res.2) : m_Reck_bestLie (d + 5) [.ref 12, .int x1, .int x2, .int x3] h Q :=
  e_Reck_bestLie (t_Reck_bestLie_0 e q)
theorem d_Club_lie_0 : decode prog_1_method_16_code 0 = .ok (.iload_n 2, 1) := by decide +kernel
theorem d_Club_lie_1 : decode prog_1_method_16_code 1 = .ok (.iconst 1, 1) := by decide +kernel
theorem d_Club_lie_2 : decode prog_1_method_16_code 2 = .ok (.if_icmp .lt 22, 3) := by decide +kernel
theorem d_Club_lie_5 : decode prog_1_method_16_code 5 = .ok (.iload_n 2, 1) := by decide +kernel
theorem d_Club_lie_6 : decode prog_1_method_16_code 6 = .ok (.iconst 4, 1) := by decide +kernel
theorem d_Club_lie_7 : decode prog_1_method_16_code 7 = .ok (.if_icmp .gt 17, 3) := by decide +kernel
theorem d_Club_lie_10 : decode prog_1_method_16_code 10 = .ok (.iload_n 3, 1) := by decide +kernel
theorem d_Club_lie_11 : decode prog_1_method_16_code 11 = .ok (.ifCond .lt 13, 3) := by decide +kernel
theorem d_Club_lie_14 : decode prog_1_method_16_code 14 = .ok (.iload_n 3, 1) := by decide +kernel
theorem d_Club_lie_15 : decode prog_1_method_16_code 15 = .ok (.bipush 6, 2) := by decide +kernel
theorem d_Club_lie_17 : decode prog_1_method_16_code 17 = .ok (.if_icmp .gt 7, 3) := by decide +kernel
theorem d_Club_lie_20 : decode prog_1_method_16_code 20 = .ok (.iconst 1, 1) := by decide +kernel
theorem d_Club_lie_21 : decode prog_1_method_16_code 21 = .ok (.goto 4, 3) := by decide +kernel
theorem d_Club_lie_24 : decode prog_1_method_16_code 24 = .ok (.iconst 0, 1) := by decide +kernel
theorem d_Club_lie_25 : decode prog_1_method_16_code 25 = .ok (.istore 4, 2) := by decide +kernel
theorem d_Club_lie_27 : decode prog_1_method_16_code 27 = .ok (.iload 4, 2) := by decide +kernel
theorem d_Club_lie_29 : decode prog_1_method_16_code 29 = .ok (.ifCond .eq 24, 3) := by decide +kernel
theorem d_Club_lie_32 : decode prog_1_method_16_code 32 = .ok (.aload_n 0, 1) := by decide +kernel
theorem d_Club_lie_33 : decode prog_1_method_16_code 33 = .ok (.getfield 12, 3) := by decide +kernel
theorem d_Club_lie_36 : decode prog_1_method_16_code 36 = .ok (.iload_n 1, 1) := by decide +kernel
theorem d_Club_lie_37 : decode prog_1_method_16_code 37 = .ok (.invokevirtual 187, 3) := by decide +kernel
theorem d_Club_lie_40 : decode prog_1_method_16_code 40 = .ok (.ifCond .eq 13, 3) := by decide +kernel
theorem d_Club_lie_43 : decode prog_1_method_16_code 43 = .ok (.aload_n 0, 1) := by decide +kernel
theorem d_Club_lie_44 : decode prog_1_method_16_code 44 = .ok (.getfield 12, 3) := by decide +kernel
theorem d_Club_lie_47 : decode prog_1_method_16_code 47 = .ok (.invokevirtual 181, 3) := by decide +kernel
theorem d_Club_lie_50 : decode prog_1_method_16_code 50 = .ok (.ifCond .eq 7, 3) := by decide +kernel
theorem d_Club_lie_53 : decode prog_1_method_16_code 53 = .ok (.ldc2_w 155, 3) := by decide +kernel
theorem d_Club_lie_56 : decode prog_1_method_16_code 56 = .ok (.lreturn, 1) := by decide +kernel
theorem d_Club_lie_57 : decode prog_1_method_16_code 57 = .ok (.iload_n 2, 1) := by decide +kernel
theorem d_Club_lie_58 : decode prog_1_method_16_code 58 = .ok (.invokestatic 200, 3) := by decide +kernel
theorem d_Club_lie_61 : decode prog_1_method_16_code 61 = .ok (.lstore 5, 2) := by decide +kernel
theorem d_Club_lie_63 : decode prog_1_method_16_code 63 = .ok (.aload_n 0, 1) := by decide +kernel
theorem d_Club_lie_64 : decode prog_1_method_16_code 64 = .ok (.getfield 30, 3) := by decide +kernel
theorem d_Club_lie_67 : decode prog_1_method_16_code 67 = .ok (.iload_n 1, 1) := by decide +kernel
theorem d_Club_lie_68 : decode prog_1_method_16_code 68 = .ok (.iload_n 2, 1) := by decide +kernel
theorem d_Club_lie_69 : decode prog_1_method_16_code 69 = .ok (.invokevirtual 209, 3) := by decide +kernel
theorem d_Club_lie_72 : decode prog_1_method_16_code 72 = .ok (.lstore 7, 2) := by decide +kernel
theorem d_Club_lie_74 : decode prog_1_method_16_code 74 = .ok (.aload_n 0, 1) := by decide +kernel
theorem d_Club_lie_75 : decode prog_1_method_16_code 75 = .ok (.getfield 30, 3) := by decide +kernel
theorem d_Club_lie_78 : decode prog_1_method_16_code 78 = .ok (.iload_n 1, 1) := by decide +kernel
theorem d_Club_lie_79 : decode prog_1_method_16_code 79 = .ok (.iload_n 2, 1) := by decide +kernel
theorem d_Club_lie_80 : decode prog_1_method_16_code 80 = .ok (.iconst 1, 1) := by decide +kernel
theorem d_Club_lie_81 : decode prog_1_method_16_code 81 = .ok (.invokevirtual 213, 3) := by decide +kernel
theorem d_Club_lie_84 : decode prog_1_method_16_code 84 = .ok (.istore 9, 2) := by decide +kernel
theorem d_Club_lie_86 : decode prog_1_method_16_code 86 = .ok (.aload_n 0, 1) := by decide +kernel
theorem d_Club_lie_87 : decode prog_1_method_16_code 87 = .ok (.getfield 30, 3) := by decide +kernel
theorem d_Club_lie_90 : decode prog_1_method_16_code 90 = .ok (.iload_n 1, 1) := by decide +kernel
theorem d_Club_lie_91 : decode prog_1_method_16_code 91 = .ok (.iload_n 2, 1) := by decide +kernel
theorem d_Club_lie_92 : decode prog_1_method_16_code 92 = .ok (.iload 9, 2) := by decide +kernel
theorem d_Club_lie_94 : decode prog_1_method_16_code 94 = .ok (.invokevirtual 216, 3) := by decide +kernel
theorem d_Club_lie_97 : decode prog_1_method_16_code 97 = .ok (.lstore 10, 2) := by decide +kernel
theorem d_Club_lie_99 : decode prog_1_method_16_code 99 = .ok (.iload_n 3, 1) := by decide +kernel
theorem d_Club_lie_100 : decode prog_1_method_16_code 100 = .ok (.iconst 2, 1) := by decide +kernel
theorem d_Club_lie_101 : decode prog_1_method_16_code 101 = .ok (.if_icmp .ge 12, 3) := by decide +kernel
theorem d_Club_lie_104 : decode prog_1_method_16_code 104 = .ok (.lload 10, 2) := by decide +kernel
theorem d_Club_lie_106 : decode prog_1_method_16_code 106 = .ok (.lload 5, 2) := by decide +kernel
theorem d_Club_lie_108 : decode prog_1_method_16_code 108 = .ok (.iload_n 3, 1) := by decide +kernel
theorem d_Club_lie_109 : decode prog_1_method_16_code 109 = .ok (.invokestatic 170, 3) := by decide +kernel
theorem d_Club_lie_112 : decode prog_1_method_16_code 112 = .ok (.lreturn, 1) := by decide +kernel
theorem d_Club_lie_113 : decode prog_1_method_16_code 113 = .ok (.iload_n 3, 1) := by decide +kernel
theorem d_Club_lie_114 : decode prog_1_method_16_code 114 = .ok (.iconst 2, 1) := by decide +kernel
theorem d_Club_lie_115 : decode prog_1_method_16_code 115 = .ok (.if_icmp .ne 7, 3) := by decide +kernel
theorem d_Club_lie_118 : decode prog_1_method_16_code 118 = .ok (.iload 9, 2) := by decide +kernel
theorem d_Club_lie_120 : decode prog_1_method_16_code 120 = .ok (.i2l, 1) := by decide +kernel
theorem d_Club_lie_121 : decode prog_1_method_16_code 121 = .ok (.lreturn, 1) := by decide +kernel
theorem d_Club_lie_122 : decode prog_1_method_16_code 122 = .ok (.iload_n 3, 1) := by decide +kernel
theorem d_Club_lie_123 : decode prog_1_method_16_code 123 = .ok (.iconst 5, 1) := by decide +kernel
theorem d_Club_lie_124 : decode prog_1_method_16_code 124 = .ok (.if_icmp .ge 17, 3) := by decide +kernel
theorem d_Club_lie_127 : decode prog_1_method_16_code 127 = .ok (.lload 7, 2) := by decide +kernel
theorem d_Club_lie_129 : decode prog_1_method_16_code 129 = .ok (.lload 10, 2) := by decide +kernel
theorem d_Club_lie_131 : decode prog_1_method_16_code 131 = .ok (.lsub, 1) := by decide +kernel
theorem d_Club_lie_132 : decode prog_1_method_16_code 132 = .ok (.lload 5, 2) := by decide +kernel
theorem d_Club_lie_134 : decode prog_1_method_16_code 134 = .ok (.iload_n 3, 1) := by decide +kernel
theorem d_Club_lie_135 : decode prog_1_method_16_code 135 = .ok (.iconst 3, 1) := by decide +kernel
theorem d_Club_lie_136 : decode prog_1_method_16_code 136 = .ok (.isub, 1) := by decide +kernel
theorem d_Club_lie_137 : decode prog_1_method_16_code 137 = .ok (.invokestatic 170, 3) := by decide +kernel
theorem d_Club_lie_140 : decode prog_1_method_16_code 140 = .ok (.lreturn, 1) := by decide +kernel
theorem d_Club_lie_141 : decode prog_1_method_16_code 141 = .ok (.aload_n 0, 1) := by decide +kernel
theorem d_Club_lie_142 : decode prog_1_method_16_code 142 = .ok (.getfield 30, 3) := by decide +kernel
theorem d_Club_lie_145 : decode prog_1_method_16_code 145 = .ok (.iload_n 1, 1) := by decide +kernel
theorem d_Club_lie_146 : decode prog_1_method_16_code 146 = .ok (.iload_n 2, 1) := by decide +kernel
theorem d_Club_lie_147 : decode prog_1_method_16_code 147 = .ok (.iconst 2, 1) := by decide +kernel
theorem d_Club_lie_148 : decode prog_1_method_16_code 148 = .ok (.invokevirtual 213, 3) := by decide +kernel
theorem d_Club_lie_151 : decode prog_1_method_16_code 151 = .ok (.iconst 2, 1) := by decide +kernel
theorem d_Club_lie_152 : decode prog_1_method_16_code 152 = .ok (.idiv, 1) := by decide +kernel
theorem d_Club_lie_153 : decode prog_1_method_16_code 153 = .ok (.istore 12, 2) := by decide +kernel
theorem d_Club_lie_155 : decode prog_1_method_16_code 155 = .ok (.lload 7, 2) := by decide +kernel
theorem d_Club_lie_157 : decode prog_1_method_16_code 157 = .ok (.aload_n 0, 1) := by decide +kernel
theorem d_Club_lie_158 : decode prog_1_method_16_code 158 = .ok (.getfield 30, 3) := by decide +kernel
theorem d_Club_lie_161 : decode prog_1_method_16_code 161 = .ok (.iload_n 1, 1) := by decide +kernel
theorem d_Club_lie_162 : decode prog_1_method_16_code 162 = .ok (.iload_n 2, 1) := by decide +kernel
theorem d_Club_lie_163 : decode prog_1_method_16_code 163 = .ok (.iload 12, 2) := by decide +kernel
theorem d_Club_lie_165 : decode prog_1_method_16_code 165 = .ok (.invokevirtual 216, 3) := by decide +kernel
theorem d_Club_lie_168 : decode prog_1_method_16_code 168 = .ok (.lsub, 1) := by decide +kernel
theorem d_Club_lie_169 : decode prog_1_method_16_code 169 = .ok (.lload 5, 2) := by decide +kernel
theorem d_Club_lie_171 : decode prog_1_method_16_code 171 = .ok (.iload_n 3, 1) := by decide +kernel
theorem d_Club_lie_172 : decode prog_1_method_16_code 172 = .ok (.iconst 5, 1) := by decide +kernel
theorem d_Club_lie_173 : decode prog_1_method_16_code 173 = .ok (.isub, 1) := by decide +kernel
theorem d_Club_lie_174 : decode prog_1_method_16_code 174 = .ok (.invokestatic 170, 3) := by decide +kernel
theorem d_Club_lie_177 : decode prog_1_method_16_code 177 = .ok (.lreturn, 1) := by decide +kernel
theorem b_Club_lie_0 {d : Nat} {x1 : Int32} {x2 : Int32} {x3 : Int32} {h : am_H} {Q : am_Q} (kt : x2 < 1 → am_W (X_Club_lie d) 24 [some (.ref 0), some (.int x1), some (.int x2), some (.int x3), none, none, none, none, none, none, none, none, none] [] h Q) (kf : ¬ x2 < 1 → am_W (X_Club_lie d) 5 [some (.ref 0), some (.int x1), some (.int x2), some (.int x3), none, none, none, none, none, none, none, none, none] [] h Q) : am_W (X_Club_lie d) 0 [some (.ref 0), some (.int x1), some (.int x2), some (.int x3), none, none, none, none, none, none, none, none, none] [] h Q :=
  am_iload_n d_Club_lie_0 rfl (i := 2) rfl <|
    am_iconst (v := 1) d_Club_lie_1 (by decide) <|
    am_icmp_lt (tgt := 24) d_Club_lie_2 (by decide) kt kf
theorem b_Club_lie_5 {d : Nat} {x1 : Int32} {x2 : Int32} {x3 : Int32} {h : am_H} {Q : am_Q} (kt : 4 < x2 → am_W (X_Club_lie d) 24 [some (.ref 0), some (.int x1), some (.int x2), some (.int x3), none, none, none, none, none, none, none, none, none] [] h Q) (kf : ¬ 4 < x2 → am_W (X_Club_lie d) 10 [some (.ref 0), some (.int x1), some (.int x2), some (.int x3), none, none, none, none, none, none, none, none, none] [] h Q) : am_W (X_Club_lie d) 5 [some (.ref 0), some (.int x1), some (.int x2), some (.int x3), none, none, none, none, none, none, none, none, none] [] h Q :=
  am_iload_n d_Club_lie_5 rfl (i := 2) rfl <|
    am_iconst (v := 4) d_Club_lie_6 (by decide) <|
    am_icmp_gt (tgt := 24) d_Club_lie_7 (by decide) kt kf
theorem b_Club_lie_10 {d : Nat} {x1 : Int32} {x2 : Int32} {x3 : Int32} {h : am_H} {Q : am_Q} (kt : x3 < 0 → am_W (X_Club_lie d) 24 [some (.ref 0), some (.int x1), some (.int x2), some (.int x3), none, none, none, none, none, none, none, none, none] [] h Q) (kf : ¬ x3 < 0 → am_W (X_Club_lie d) 14 [some (.ref 0), some (.int x1), some (.int x2), some (.int x3), none, none, none, none, none, none, none, none, none] [] h Q) : am_W (X_Club_lie d) 10 [some (.ref 0), some (.int x1), some (.int x2), some (.int x3), none, none, none, none, none, none, none, none, none] [] h Q :=
  am_iload_n d_Club_lie_10 rfl (i := 3) rfl <|
    am_if_lt (tgt := 24) d_Club_lie_11 (by decide) kt kf
theorem b_Club_lie_14 {d : Nat} {x1 : Int32} {x2 : Int32} {x3 : Int32} {h : am_H} {Q : am_Q} (kt : 6 < x3 → am_W (X_Club_lie d) 24 [some (.ref 0), some (.int x1), some (.int x2), some (.int x3), none, none, none, none, none, none, none, none, none] [] h Q) (kf : ¬ 6 < x3 → am_W (X_Club_lie d) 20 [some (.ref 0), some (.int x1), some (.int x2), some (.int x3), none, none, none, none, none, none, none, none, none] [] h Q) : am_W (X_Club_lie d) 14 [some (.ref 0), some (.int x1), some (.int x2), some (.int x3), none, none, none, none, none, none, none, none, none] [] h Q :=
  am_iload_n d_Club_lie_14 rfl (i := 3) rfl <|
    am_bipush (v := 6) d_Club_lie_15 (by decide) <|
    am_icmp_gt (tgt := 24) d_Club_lie_17 (by decide) kt kf
theorem b_Club_lie_20 {d : Nat} {x1 : Int32} {x2 : Int32} {x3 : Int32} {h : am_H} {Q : am_Q} (k : am_W (X_Club_lie d) 25 [some (.ref 0), some (.int x1), some (.int x2), some (.int x3), none, none, none, none, none, none, none, none, none] [.int 1] h Q) : am_W (X_Club_lie d) 20 [some (.ref 0), some (.int x1), some (.int x2), some (.int x3), none, none, none, none, none, none, none, none, none] [] h Q :=
  am_iconst (v := 1) d_Club_lie_20 (by decide) <|
    am_goto (tgt := 25) d_Club_lie_21 (by decide) k
theorem b_Club_lie_24 {d : Nat} {x1 : Int32} {x2 : Int32} {x3 : Int32} {h : am_H} {Q : am_Q} (k : am_W (X_Club_lie d) 25 [some (.ref 0), some (.int x1), some (.int x2), some (.int x3), none, none, none, none, none, none, none, none, none] [.int 0] h Q) : am_W (X_Club_lie d) 24 [some (.ref 0), some (.int x1), some (.int x2), some (.int x3), none, none, none, none, none, none, none, none, none] [] h Q :=
  am_iconst (v := 0) d_Club_lie_24 (by decide) <|
    k
theorem b_Club_lie_25 {d : Nat} {x1 : Int32} {x2 : Int32} {x3 : Int32} {y0 : Int32} {h : am_H} {Q : am_Q} (kt : y0 = 0 → am_W (X_Club_lie d) 53 [some (.ref 0), some (.int x1), some (.int x2), some (.int x3), some (.int y0), none, none, none, none, none, none, none, none] [] h Q) (kf : ¬ y0 = 0 → am_W (X_Club_lie d) 32 [some (.ref 0), some (.int x1), some (.int x2), some (.int x3), some (.int y0), none, none, none, none, none, none, none, none] [] h Q) : am_W (X_Club_lie d) 25 [some (.ref 0), some (.int x1), some (.int x2), some (.int x3), none, none, none, none, none, none, none, none, none] [.int y0] h Q :=
  am_istore (ls' := [some (.ref 0), some (.int x1), some (.int x2), some (.int x3), some (.int y0), none, none, none, none, none, none, none, none]) d_Club_lie_25 (Nat.le_of_ble_eq_true rfl) rfl <|
    am_iload d_Club_lie_27 rfl <|
    am_if_eq (tgt := 53) d_Club_lie_29 (by decide) kt kf
theorem b_Club_lie_32 {d : Nat} {x1 : Int32} {x2 : Int32} {x3 : Int32} {x4 : Int32} {h : am_H} {Q : am_Q} (k : m_Hole_isOffGreen d [.ref 1, .int x1] h (fun r hh => am_W (X_Club_lie (d + 1)) 40 [some (.ref 0), some (.int x1), some (.int x2), some (.int x3), some (.int x4), none, none, none, none, none, none, none, none] (r.toList ++ []) hh Q)) : am_W (X_Club_lie (d + 1)) 32 [some (.ref 0), some (.int x1), some (.int x2), some (.int x3), some (.int x4), none, none, none, none, none, none, none, none] [] h Q :=
  am_aload_n d_Club_lie_32 rfl (i := 0) rfl <|
    am_getR (ci := 0) (i := 0) rfl rfl rfl (Nat.le_of_ble_eq_true rfl) w_362 d_Club_lie_33 <|
    am_iload_n d_Club_lie_36 rfl (i := 1) rfl <|
    am_callV (vs := [.int x1]) (st := []) (k := 1) (ci := 1) rfl d_Club_lie_37 rfl rfl w_670 w_671 w_672 w_84 w_673 p_Hole_isOffGreen (Nat.le_of_ble_eq_true rfl) (Nat.le_of_ble_eq_true rfl) rfl k
theorem b_Club_lie_40 {d : Nat} {x1 : Int32} {x2 : Int32} {x3 : Int32} {x4 : Int32} {y0 : Bool} {h : am_H} {Q : am_Q} (kt : (am_b y0) = 0 → am_W (X_Club_lie d) 53 [some (.ref 0), some (.int x1), some (.int x2), some (.int x3), some (.int x4), none, none, none, none, none, none, none, none] [] h Q) (kf : ¬ (am_b y0) = 0 → am_W (X_Club_lie d) 43 [some (.ref 0), some (.int x1), some (.int x2), some (.int x3), some (.int x4), none, none, none, none, none, none, none, none] [] h Q) : am_W (X_Club_lie d) 40 [some (.ref 0), some (.int x1), some (.int x2), some (.int x3), some (.int x4), none, none, none, none, none, none, none, none] [.int (am_b y0)] h Q :=
  am_if_eq (tgt := 53) d_Club_lie_40 (by decide) kt kf
theorem b_Club_lie_43 {d : Nat} {x1 : Int32} {x2 : Int32} {x3 : Int32} {x4 : Int32} {h : am_H} {Q : am_Q} (k : m_Hole_hasNoClubs d [.ref 1] h (fun r hh => am_W (X_Club_lie (d + 1)) 50 [some (.ref 0), some (.int x1), some (.int x2), some (.int x3), some (.int x4), none, none, none, none, none, none, none, none] (r.toList ++ []) hh Q)) : am_W (X_Club_lie (d + 1)) 43 [some (.ref 0), some (.int x1), some (.int x2), some (.int x3), some (.int x4), none, none, none, none, none, none, none, none] [] h Q :=
  am_aload_n d_Club_lie_43 rfl (i := 0) rfl <|
    am_getR (ci := 0) (i := 0) rfl rfl rfl (Nat.le_of_ble_eq_true rfl) w_362 d_Club_lie_44 <|
    am_callV (vs := []) (st := []) (k := 1) (ci := 1) rfl d_Club_lie_47 rfl rfl w_735 w_736 w_737 w_84 w_738 p_Hole_hasNoClubs (Nat.le_of_ble_eq_true rfl) (Nat.le_of_ble_eq_true rfl) rfl k
theorem b_Club_lie_50 {d : Nat} {x1 : Int32} {x2 : Int32} {x3 : Int32} {x4 : Int32} {y0 : Bool} {h : am_H} {Q : am_Q} (kt : (am_b y0) = 0 → am_W (X_Club_lie d) 57 [some (.ref 0), some (.int x1), some (.int x2), some (.int x3), some (.int x4), none, none, none, none, none, none, none, none] [] h Q) (kf : ¬ (am_b y0) = 0 → am_W (X_Club_lie d) 53 [some (.ref 0), some (.int x1), some (.int x2), some (.int x3), some (.int x4), none, none, none, none, none, none, none, none] [] h Q) : am_W (X_Club_lie d) 50 [some (.ref 0), some (.int x1), some (.int x2), some (.int x3), some (.int x4), none, none, none, none, none, none, none, none] [.int (am_b y0)] h Q :=
  am_if_eq (tgt := 57) d_Club_lie_50 (by decide) kt kf
theorem b_Club_lie_53 {d : Nat} {x1 : Int32} {x2 : Int32} {x3 : Int32} {x4 : Int32} {h : am_H} {Q : am_Q} (q : Q (some (.long (-9223372036854775808))) h) : am_W (X_Club_lie d) 53 [some (.ref 0), some (.int x1), some (.int x2), some (.int x3), some (.int x4), none, none, none, none, none, none, none, none] [] h Q :=
  am_ldc2 (v := (-9223372036854775808)) d_Club_lie_53 w_683 <|
    am_lret rfl d_Club_lie_56 q
theorem b_Club_lie_57 {d : Nat} {x1 : Int32} {x2 : Int32} {x3 : Int32} {x4 : Int32} {h : am_H} {Q : am_Q} (k : m_Reck_unit d [.int x2] h (fun r hh => am_W (X_Club_lie (d + 1)) 61 [some (.ref 0), some (.int x1), some (.int x2), some (.int x3), some (.int x4), none, none, none, none, none, none, none, none] (r.toList ++ []) hh Q)) : am_W (X_Club_lie (d + 1)) 57 [some (.ref 0), some (.int x1), some (.int x2), some (.int x3), some (.int x4), none, none, none, none, none, none, none, none] [] h Q :=
  am_iload_n d_Club_lie_57 rfl (i := 2) rfl <|
    am_callS (vs := [.int x2]) (st := []) rfl d_Club_lie_58 w_848 w_820 w_87 w_821 p_Reck_unit (Nat.le_of_ble_eq_true rfl) (Nat.le_of_ble_eq_true rfl) rfl k
theorem b_Club_lie_61 {d : Nat} {x1 : Int32} {x2 : Int32} {x3 : Int32} {x4 : Int32} {y0 : Int64} {h : am_H} {Q : am_Q} (k : m_Reck_meanByLaw d [.ref 12, .int x1, .int x2] h (fun r hh => am_W (X_Club_lie (d + 1)) 72 [some (.ref 0), some (.int x1), some (.int x2), some (.int x3), some (.int x4), some (.long y0), none, none, none, none, none, none, none] (r.toList ++ []) hh Q)) : am_W (X_Club_lie (d + 1)) 61 [some (.ref 0), some (.int x1), some (.int x2), some (.int x3), some (.int x4), none, none, none, none, none, none, none, none] [.long y0] h Q :=
  am_lstore (ls' := [some (.ref 0), some (.int x1), some (.int x2), some (.int x3), some (.int x4), some (.long y0), none, none, none, none, none, none, none]) d_Club_lie_61 (Nat.le_of_ble_eq_true rfl) rfl <|
    am_aload_n d_Club_lie_63 rfl (i := 0) rfl <|
    am_getR (ci := 0) (i := 2) rfl rfl rfl (Nat.le_of_ble_eq_true rfl) w_364 d_Club_lie_64 <|
    am_iload_n d_Club_lie_67 rfl (i := 1) rfl <|
    am_iload_n d_Club_lie_68 rfl (i := 2) rfl <|
    am_callV (vs := [.int x1, .int x2]) (st := []) (k := 12) (ci := 3) rfl d_Club_lie_69 rfl rfl w_858 w_859 w_860 w_87 w_861 p_Reck_meanByLaw (Nat.le_of_ble_eq_true rfl) (Nat.le_of_ble_eq_true rfl) rfl k
theorem b_Club_lie_72 {d : Nat} {x1 : Int32} {x2 : Int32} {x3 : Int32} {x4 : Int32} {x5 : Int64} {y0 : Int64} {h : am_H} {Q : am_Q} (k : m_Reck_bestLie d [.ref 12, .int x1, .int x2, .int 1] h (fun r hh => am_W (X_Club_lie (d + 1)) 84 [some (.ref 0), some (.int x1), some (.int x2), some (.int x3), some (.int x4), some (.long x5), none, some (.long y0), none, none, none, none, none] (r.toList ++ []) hh Q)) : am_W (X_Club_lie (d + 1)) 72 [some (.ref 0), some (.int x1), some (.int x2), some (.int x3), some (.int x4), some (.long x5), none, none, none, none, none, none, none] [.long y0] h Q :=
  am_lstore (ls' := [some (.ref 0), some (.int x1), some (.int x2), some (.int x3), some (.int x4), some (.long x5), none, some (.long y0), none, none, none, none, none]) d_Club_lie_72 (Nat.le_of_ble_eq_true rfl) rfl <|
    am_aload_n d_Club_lie_74 rfl (i := 0) rfl <|
    am_getR (ci := 0) (i := 2) rfl rfl rfl (Nat.le_of_ble_eq_true rfl) w_364 d_Club_lie_75 <|
    am_iload_n d_Club_lie_78 rfl (i := 1) rfl <|
    am_iload_n d_Club_lie_79 rfl (i := 2) rfl <|
    am_iconst (v := 1) d_Club_lie_80 (by decide) <|
    am_callV (vs := [.int x1, .int x2, .int 1]) (st := []) (k := 12) (ci := 3) rfl d_Club_lie_81 rfl rfl w_872 w_873 w_874 w_87 w_875 p_Reck_bestLie (Nat.le_of_ble_eq_true rfl) (Nat.le_of_ble_eq_true rfl) rfl k
theorem b_Club_lie_84 {d : Nat} {x1 : Int32} {x2 : Int32} {x3 : Int32} {x4 : Int32} {x5 : Int64} {x7 : Int64} {y0 : Int32} {h : am_H} {Q : am_Q} (k : m_Reck_meanTold d [.ref 12, .int x1, .int x2, .int y0] h (fun r hh => am_W (X_Club_lie (d + 1)) 97 [some (.ref 0), some (.int x1), some (.int x2), some (.int x3), some (.int x4), some (.long x5), none, some (.long x7), none, some (.int y0), none, none, none] (r.toList ++ []) hh Q)) : am_W (X_Club_lie (d + 1)) 84 [some (.ref 0), some (.int x1), some (.int x2), some (.int x3), some (.int x4), some (.long x5), none, some (.long x7), none, none, none, none, none] [.int y0] h Q :=
  am_istore (ls' := [some (.ref 0), some (.int x1), some (.int x2), some (.int x3), some (.int x4), some (.long x5), none, some (.long x7), none, some (.int y0), none, none, none]) d_Club_lie_84 (Nat.le_of_ble_eq_true rfl) rfl <|
    am_aload_n d_Club_lie_86 rfl (i := 0) rfl <|
    am_getR (ci := 0) (i := 2) rfl rfl rfl (Nat.le_of_ble_eq_true rfl) w_364 d_Club_lie_87 <|
    am_iload_n d_Club_lie_90 rfl (i := 1) rfl <|
    am_iload_n d_Club_lie_91 rfl (i := 2) rfl <|
    am_iload d_Club_lie_92 rfl <|
    am_callV (vs := [.int x1, .int x2, .int y0]) (st := []) (k := 12) (ci := 3) rfl d_Club_lie_94 rfl rfl w_880 w_877 w_878 w_87 w_879 p_Reck_meanTold (Nat.le_of_ble_eq_true rfl) (Nat.le_of_ble_eq_true rfl) rfl k
theorem b_Club_lie_97 {d : Nat} {x1 : Int32} {x2 : Int32} {x3 : Int32} {x4 : Int32} {x5 : Int64} {x7 : Int64} {x9 : Int32} {y0 : Int64} {h : am_H} {Q : am_Q} (kt : 2 ≤ x3 → am_W (X_Club_lie d) 113 [some (.ref 0), some (.int x1), some (.int x2), some (.int x3), some (.int x4), some (.long x5), none, some (.long x7), none, some (.int x9), some (.long y0), none, none] [] h Q) (kf : ¬ 2 ≤ x3 → am_W (X_Club_lie d) 104 [some (.ref 0), some (.int x1), some (.int x2), some (.int x3), some (.int x4), some (.long x5), none, some (.long x7), none, some (.int x9), some (.long y0), none, none] [] h Q) : am_W (X_Club_lie d) 97 [some (.ref 0), some (.int x1), some (.int x2), some (.int x3), some (.int x4), some (.long x5), none, some (.long x7), none, some (.int x9), none, none, none] [.long y0] h Q :=
  am_lstore (ls' := [some (.ref 0), some (.int x1), some (.int x2), some (.int x3), some (.int x4), some (.long x5), none, some (.long x7), none, some (.int x9), some (.long y0), none, none]) d_Club_lie_97 (Nat.le_of_ble_eq_true rfl) rfl <|
    am_iload_n d_Club_lie_99 rfl (i := 3) rfl <|
    am_iconst (v := 2) d_Club_lie_100 (by decide) <|
    am_icmp_ge (tgt := 113) d_Club_lie_101 (by decide) kt kf
theorem b_Club_lie_104 {d : Nat} {x1 : Int32} {x2 : Int32} {x3 : Int32} {x4 : Int32} {x5 : Int64} {x7 : Int64} {x9 : Int32} {x10 : Int64} {h : am_H} {Q : am_Q} (k : m_Club_partOf d [.long x10, .long x5, .int x3] h (fun r hh => am_W (X_Club_lie (d + 1)) 112 [some (.ref 0), some (.int x1), some (.int x2), some (.int x3), some (.int x4), some (.long x5), none, some (.long x7), none, some (.int x9), some (.long x10), none, none] (r.toList ++ []) hh Q)) : am_W (X_Club_lie (d + 1)) 104 [some (.ref 0), some (.int x1), some (.int x2), some (.int x3), some (.int x4), some (.long x5), none, some (.long x7), none, some (.int x9), some (.long x10), none, none] [] h Q :=
  am_lload d_Club_lie_104 rfl <|
    am_lload d_Club_lie_106 rfl <|
    am_iload_n d_Club_lie_108 rfl (i := 3) rfl <|
    am_callS (vs := [.long x10, .long x5, .int x3]) (st := []) rfl d_Club_lie_109 w_712 w_713 w_83 w_714 p_Club_partOf (Nat.le_of_ble_eq_true rfl) (Nat.le_of_ble_eq_true rfl) rfl k
theorem b_Club_lie_112 {d : Nat} {x1 : Int32} {x2 : Int32} {x3 : Int32} {x4 : Int32} {x5 : Int64} {x7 : Int64} {x9 : Int32} {x10 : Int64} {y0 : Int64} {h : am_H} {Q : am_Q} (q : Q (some (.long y0)) h) : am_W (X_Club_lie d) 112 [some (.ref 0), some (.int x1), some (.int x2), some (.int x3), some (.int x4), some (.long x5), none, some (.long x7), none, some (.int x9), some (.long x10), none, none] [.long y0] h Q :=
  am_lret rfl d_Club_lie_112 q
theorem b_Club_lie_113 {d : Nat} {x1 : Int32} {x2 : Int32} {x3 : Int32} {x4 : Int32} {x5 : Int64} {x7 : Int64} {x9 : Int32} {x10 : Int64} {h : am_H} {Q : am_Q} (kt : ¬ x3 = 2 → am_W (X_Club_lie d) 122 [some (.ref 0), some (.int x1), some (.int x2), some (.int x3), some (.int x4), some (.long x5), none, some (.long x7), none, some (.int x9), some (.long x10), none, none] [] h Q) (kf : x3 = 2 → am_W (X_Club_lie d) 118 [some (.ref 0), some (.int x1), some (.int x2), some (.int x3), some (.int x4), some (.long x5), none, some (.long x7), none, some (.int x9), some (.long x10), none, none] [] h Q) : am_W (X_Club_lie d) 113 [some (.ref 0), some (.int x1), some (.int x2), some (.int x3), some (.int x4), some (.long x5), none, some (.long x7), none, some (.int x9), some (.long x10), none, none] [] h Q :=
  am_iload_n d_Club_lie_113 rfl (i := 3) rfl <|
    am_iconst (v := 2) d_Club_lie_114 (by decide) <|
    am_icmp_ne (tgt := 122) d_Club_lie_115 (by decide) kt kf
theorem b_Club_lie_118 {d : Nat} {x1 : Int32} {x2 : Int32} {x3 : Int32} {x4 : Int32} {x5 : Int64} {x7 : Int64} {x9 : Int32} {x10 : Int64} {h : am_H} {Q : am_Q} (q : Q (some (.long x9.toInt64)) h) : am_W (X_Club_lie d) 118 [some (.ref 0), some (.int x1), some (.int x2), some (.int x3), some (.int x4), some (.long x5), none, some (.long x7), none, some (.int x9), some (.long x10), none, none] [] h Q :=
  am_iload d_Club_lie_118 rfl <|
    am_i2l d_Club_lie_120 <|
    am_lret rfl d_Club_lie_121 q
theorem b_Club_lie_122 {d : Nat} {x1 : Int32} {x2 : Int32} {x3 : Int32} {x4 : Int32} {x5 : Int64} {x7 : Int64} {x9 : Int32} {x10 : Int64} {h : am_H} {Q : am_Q} (kt : 5 ≤ x3 → am_W (X_Club_lie d) 141 [some (.ref 0), some (.int x1), some (.int x2), some (.int x3), some (.int x4), some (.long x5), none, some (.long x7), none, some (.int x9), some (.long x10), none, none] [] h Q) (kf : ¬ 5 ≤ x3 → am_W (X_Club_lie d) 127 [some (.ref 0), some (.int x1), some (.int x2), some (.int x3), some (.int x4), some (.long x5), none, some (.long x7), none, some (.int x9), some (.long x10), none, none] [] h Q) : am_W (X_Club_lie d) 122 [some (.ref 0), some (.int x1), some (.int x2), some (.int x3), some (.int x4), some (.long x5), none, some (.long x7), none, some (.int x9), some (.long x10), none, none] [] h Q :=
  am_iload_n d_Club_lie_122 rfl (i := 3) rfl <|
    am_iconst (v := 5) d_Club_lie_123 (by decide) <|
    am_icmp_ge (tgt := 141) d_Club_lie_124 (by decide) kt kf
theorem b_Club_lie_127 {d : Nat} {x1 : Int32} {x2 : Int32} {x3 : Int32} {x4 : Int32} {x5 : Int64} {x7 : Int64} {x9 : Int32} {x10 : Int64} {h : am_H} {Q : am_Q} (k : m_Club_partOf d [.long (x7 - x10), .long x5, .int (x3 - 3)] h (fun r hh => am_W (X_Club_lie (d + 1)) 140 [some (.ref 0), some (.int x1), some (.int x2), some (.int x3), some (.int x4), some (.long x5), none, some (.long x7), none, some (.int x9), some (.long x10), none, none] (r.toList ++ []) hh Q)) : am_W (X_Club_lie (d + 1)) 127 [some (.ref 0), some (.int x1), some (.int x2), some (.int x3), some (.int x4), some (.long x5), none, some (.long x7), none, some (.int x9), some (.long x10), none, none] [] h Q :=
  am_lload d_Club_lie_127 rfl <|
    am_lload d_Club_lie_129 rfl <|
    am_lsub d_Club_lie_131 <|
    am_lload d_Club_lie_132 rfl <|
    am_iload_n d_Club_lie_134 rfl (i := 3) rfl <|
    am_iconst (v := 3) d_Club_lie_135 (by decide) <|
    am_isub d_Club_lie_136 <|
    am_callS (vs := [.long (x7 - x10), .long x5, .int (x3 - 3)]) (st := []) rfl d_Club_lie_137 w_712 w_713 w_83 w_714 p_Club_partOf (Nat.le_of_ble_eq_true rfl) (Nat.le_of_ble_eq_true rfl) rfl k
theorem b_Club_lie_140 {d : Nat} {x1 : Int32} {x2 : Int32} {x3 : Int32} {x4 : Int32} {x5 : Int64} {x7 : Int64} {x9 : Int32} {x10 : Int64} {y0 : Int64} {h : am_H} {Q : am_Q} (q : Q (some (.long y0)) h) : am_W (X_Club_lie d) 140 [some (.ref 0), some (.int x1), some (.int x2), some (.int x3), some (.int x4), some (.long x5), none, some (.long x7), none, some (.int x9), some (.long x10), none, none] [.long y0] h Q :=
  am_lret rfl d_Club_lie_140 q
theorem b_Club_lie_141 {d : Nat} {x1 : Int32} {x2 : Int32} {x3 : Int32} {x4 : Int32} {x5 : Int64} {x7 : Int64} {x9 : Int32} {x10 : Int64} {h : am_H} {Q : am_Q} (k : m_Reck_bestLie d [.ref 12, .int x1, .int x2, .int 2] h (fun r hh => am_W (X_Club_lie (d + 1)) 151 [some (.ref 0), some (.int x1), some (.int x2), some (.int x3), some (.int x4), some (.long x5), none, some (.long x7), none, some (.int x9), some (.long x10), none, none] (r.toList ++ []) hh Q)) : am_W (X_Club_lie (d + 1)) 141 [some (.ref 0), some (.int x1), some (.int x2), some (.int x3), some (.int x4), some (.long x5), none, some (.long x7), none, some (.int x9), some (.long x10), none, none] [] h Q :=
  am_aload_n d_Club_lie_141 rfl (i := 0) rfl <|
    am_getR (ci := 0) (i := 2) rfl rfl rfl (Nat.le_of_ble_eq_true rfl) w_364 d_Club_lie_142 <|
    am_iload_n d_Club_lie_145 rfl (i := 1) rfl <|
    am_iload_n d_Club_lie_146 rfl (i := 2) rfl <|
    am_iconst (v := 2) d_Club_lie_147 (by decide) <|
    am_callV (vs := [.int x1, .int x2, .int 2]) (st := []) (k := 12) (ci := 3) rfl d_Club_lie_148 rfl rfl w_872 w_873 w_874 w_87 w_875 p_Reck_bestLie (Nat.le_of_ble_eq_true rfl) (Nat.le_of_ble_eq_true rfl) rfl k
theorem b_Club_lie_151 {d : Nat} {x1 : Int32} {x2 : Int32} {x3 : Int32} {x4 : Int32} {x5 : Int64} {x7 : Int64} {x9 : Int32} {x10 : Int64} {y0 : Int32} {h : am_H} {Q : am_Q} (k : m_Reck_meanTold d [.ref 12, .int x1, .int x2, .int (y0 / 2)] h (fun r hh => am_W (X_Club_lie (d + 1)) 168 [some (.ref 0), some (.int x1), some (.int x2), some (.int x3), some (.int x4), some (.long x5), none, some (.long x7), none, some (.int x9), some (.long x10), none, some (.int (y0 / 2))] (r.toList ++ [.long x7]) hh Q)) : am_W (X_Club_lie (d + 1)) 151 [some (.ref 0), some (.int x1), some (.int x2), some (.int x3), some (.int x4), some (.long x5), none, some (.long x7), none, some (.int x9), some (.long x10), none, none] [.int y0] h Q :=
  am_iconst (v := 2) d_Club_lie_151 (by decide) <|
    am_idiv d_Club_lie_152 (by decide) <|
    am_istore (ls' := [some (.ref 0), some (.int x1), some (.int x2), some (.int x3), some (.int x4), some (.long x5), none, some (.long x7), none, some (.int x9), some (.long x10), none, some (.int (y0 / 2))]) d_Club_lie_153 (Nat.le_of_ble_eq_true rfl) rfl <|
    am_lload d_Club_lie_155 rfl <|
    am_aload_n d_Club_lie_157 rfl (i := 0) rfl <|
    am_getR (ci := 0) (i := 2) rfl rfl rfl (Nat.le_of_ble_eq_true rfl) w_364 d_Club_lie_158 <|
    am_iload_n d_Club_lie_161 rfl (i := 1) rfl <|
    am_iload_n d_Club_lie_162 rfl (i := 2) rfl <|
    am_iload d_Club_lie_163 rfl <|
    am_callV (vs := [.int x1, .int x2, .int (y0 / 2)]) (st := [.long x7]) (k := 12) (ci := 3) rfl d_Club_lie_165 rfl rfl w_880 w_877 w_878 w_87 w_879 p_Reck_meanTold (Nat.le_of_ble_eq_true rfl) (Nat.le_of_ble_eq_true rfl) rfl k
theorem b_Club_lie_168 {d : Nat} {x1 : Int32} {x2 : Int32} {x3 : Int32} {x4 : Int32} {x5 : Int64} {x7 : Int64} {x9 : Int32} {x10 : Int64} {x12 : Int32} {y1 : Int64} {y0 : Int64} {h : am_H} {Q : am_Q} (k : m_Club_partOf d [.long (y0 - y1), .long x5, .int (x3 - 5)] h (fun r hh => am_W (X_Club_lie (d + 1)) 177 [some (.ref 0), some (.int x1), some (.int x2), some (.int x3), some (.int x4), some (.long x5), none, some (.long x7), none, some (.int x9), some (.long x10), none, some (.int x12)] (r.toList ++ []) hh Q)) : am_W (X_Club_lie (d + 1)) 168 [some (.ref 0), some (.int x1), some (.int x2), some (.int x3), some (.int x4), some (.long x5), none, some (.long x7), none, some (.int x9), some (.long x10), none, some (.int x12)] [.long y1, .long y0] h Q :=
  am_lsub d_Club_lie_168 <|
    am_lload d_Club_lie_169 rfl <|
    am_iload_n d_Club_lie_171 rfl (i := 3) rfl <|
    am_iconst (v := 5) d_Club_lie_172 (by decide) <|
    am_isub d_Club_lie_173 <|
    am_callS (vs := [.long (y0 - y1), .long x5, .int (x3 - 5)]) (st := []) rfl d_Club_lie_174 w_712 w_713 w_83 w_714 p_Club_partOf (Nat.le_of_ble_eq_true rfl) (Nat.le_of_ble_eq_true rfl) rfl k
theorem b_Club_lie_177 {d : Nat} {x1 : Int32} {x2 : Int32} {x3 : Int32} {x4 : Int32} {x5 : Int64} {x7 : Int64} {x9 : Int32} {x10 : Int64} {x12 : Int32} {y0 : Int64} {h : am_H} {Q : am_Q} (q : Q (some (.long y0)) h) : am_W (X_Club_lie d) 177 [some (.ref 0), some (.int x1), some (.int x2), some (.int x3), some (.int x4), some (.long x5), none, some (.long x7), none, some (.int x9), some (.long x10), none, some (.int x12)] [.long y0] h Q :=
  am_lret rfl d_Club_lie_177 q
theorem t_Club_lie_53 {d : Nat} {x1 : Int32} {x2 : Int32} {x3 : Int32} {x4 : Int32} {h : am_H} {Q : am_Q} {res : Int64 × am_H} (e : f_Club_lie_53 h = some res) (q : Q (some (.long res.1)) res.2) : am_W (X_Club_lie (d + 6)) 53 [some (.ref 0), some (.int x1), some (.int x2), some (.int x3), some (.int x4), none, none, none, none, none, none, none, none] [] h Q :=
  b_Club_lie_53 (d := (d + 6)) (q := (am_rJpi (v := (-9223372036854775808)) e q))
theorem t_Club_lie_177 {d : Nat} {x1 : Int32} {x2 : Int32} {x3 : Int32} {x4 : Int32} {x5 : Int64} {x7 : Int64} {x9 : Int32} {x10 : Int64} {x12 : Int32} {y0 : Int64} {h : am_H} {Q : am_Q} {res : Int64 × am_H} (e : f_Club_lie_177 h y0 = some res) (q : Q (some (.long res.1)) res.2) : am_W (X_Club_lie (d + 6)) 177 [some (.ref 0), some (.int x1), some (.int x2), some (.int x3), some (.int x4), some (.long x5), none, some (.long x7), none, some (.int x9), some (.long x10), none, some (.int x12)] [.long y0] h Q :=
  b_Club_lie_177 (d := (d + 6)) (q := (am_rJpi (v := y0) e q))
theorem t_Club_lie_168 {d : Nat} {x1 : Int32} {x2 : Int32} {x3 : Int32} {x4 : Int32} {x5 : Int64} {x7 : Int64} {x9 : Int32} {x10 : Int64} {x12 : Int32} {y1 : Int64} {y0 : Int64} {h : am_H} {Q : am_Q} {res : Int64 × am_H} (e : f_Club_lie_168 h x3 x5 y1 y0 = some res) (q : Q (some (.long res.1)) res.2) : am_W (X_Club_lie (d + 6)) 168 [some (.ref 0), some (.int x1), some (.int x2), some (.int x3), some (.int x4), some (.long x5), none, some (.long x7), none, some (.int x9), some (.long x10), none, some (.int x12)] [.long y1, .long y0] h Q :=
  (am_bd e).elim fun p hp => b_Club_lie_168 (d := (d + 5)) (k := c_Club_partOf (d := d + 4) hp.1 (t_Club_lie_177 hp.2 q))
theorem t_Club_lie_151 {d : Nat} {x1 : Int32} {x2 : Int32} {x3 : Int32} {x4 : Int32} {x5 : Int64} {x7 : Int64} {x9 : Int32} {x10 : Int64} {y0 : Int32} {h : am_H} {Q : am_Q} {res : Int64 × am_H} (e : f_Club_lie_151 h x1 x2 x3 x5 x7 y0 = some res) (q : Q (some (.long res.1)) res.2) : am_W (X_Club_lie (d + 6)) 151 [some (.ref 0), some (.int x1), some (.int x2), some (.int x3), some (.int x4), some (.long x5), none, some (.long x7), none, some (.int x9), some (.long x10), none, none] [.int y0] h Q :=
  (am_bd e).elim fun p hp => b_Club_lie_151 (d := (d + 5)) (k := c_Reck_meanTold (d := d + 1) hp.1 (t_Club_lie_168 hp.2 q))
theorem t_Club_lie_141 {d : Nat} {x1 : Int32} {x2 : Int32} {x3 : Int32} {x4 : Int32} {x5 : Int64} {x7 : Int64} {x9 : Int32} {x10 : Int64} {h : am_H} {Q : am_Q} {res : Int64 × am_H} (e : f_Club_lie_141 h x1 x2 x3 x5 x7 = some res) (q : Q (some (.long res.1)) res.2) : am_W (X_Club_lie (d + 6)) 141 [some (.ref 0), some (.int x1), some (.int x2), some (.int x3), some (.int x4), some (.long x5), none, some (.long x7), none, some (.int x9), some (.long x10), none, none] [] h Q :=
  (am_bd e).elim fun p hp => b_Club_lie_141 (d := (d + 5)) (k := c_Reck_bestLie (d := d) hp.1 (t_Club_lie_151 hp.2 q))
theorem t_Club_lie_140 {d : Nat} {x1 : Int32} {x2 : Int32} {x3 : Int32} {x4 : Int32} {x5 : Int64} {x7 : Int64} {x9 : Int32} {x10 : Int64} {y0 : Int64} {h : am_H} {Q : am_Q} {res : Int64 × am_H} (e : f_Club_lie_140 h y0 = some res) (q : Q (some (.long res.1)) res.2) : am_W (X_Club_lie (d + 6)) 140 [some (.ref 0), some (.int x1), some (.int x2), some (.int x3), some (.int x4), some (.long x5), none, some (.long x7), none, some (.int x9), some (.long x10), none, none] [.long y0] h Q :=
  b_Club_lie_140 (d := (d + 6)) (q := (am_rJpi (v := y0) e q))
theorem t_Club_lie_127 {d : Nat} {x1 : Int32} {x2 : Int32} {x3 : Int32} {x4 : Int32} {x5 : Int64} {x7 : Int64} {x9 : Int32} {x10 : Int64} {h : am_H} {Q : am_Q} {res : Int64 × am_H} (e : f_Club_lie_127 h x3 x5 x7 x10 = some res) (q : Q (some (.long res.1)) res.2) : am_W (X_Club_lie (d + 6)) 127 [some (.ref 0), some (.int x1), some (.int x2), some (.int x3), some (.int x4), some (.long x5), none, some (.long x7), none, some (.int x9), some (.long x10), none, none] [] h Q :=
  (am_bd e).elim fun p hp => b_Club_lie_127 (d := (d + 5)) (k := c_Club_partOf (d := d + 4) hp.1 (t_Club_lie_140 hp.2 q))
theorem t_Club_lie_122 {d : Nat} {x1 : Int32} {x2 : Int32} {x3 : Int32} {x4 : Int32} {x5 : Int64} {x7 : Int64} {x9 : Int32} {x10 : Int64} {h : am_H} {Q : am_Q} {res : Int64 × am_H} (e : f_Club_lie_122 h x1 x2 x3 x5 x7 x10 = some res) (q : Q (some (.long res.1)) res.2) : am_W (X_Club_lie (d + 6)) 122 [some (.ref 0), some (.int x1), some (.int x2), some (.int x3), some (.int x4), some (.long x5), none, some (.long x7), none, some (.int x9), some (.long x10), none, none] [] h Q :=
  b_Club_lie_122 (d := (d + 6)) (kt := fun c => (t_Club_lie_141 (am_ift e c) q)) (kf := fun c => (t_Club_lie_127 (am_ife e c) q))
theorem t_Club_lie_118 {d : Nat} {x1 : Int32} {x2 : Int32} {x3 : Int32} {x4 : Int32} {x5 : Int64} {x7 : Int64} {x9 : Int32} {x10 : Int64} {h : am_H} {Q : am_Q} {res : Int64 × am_H} (e : f_Club_lie_118 h x9 = some res) (q : Q (some (.long res.1)) res.2) : am_W (X_Club_lie (d + 6)) 118 [some (.ref 0), some (.int x1), some (.int x2), some (.int x3), some (.int x4), some (.long x5), none, some (.long x7), none, some (.int x9), some (.long x10), none, none] [] h Q :=
  b_Club_lie_118 (d := (d + 6)) (q := (am_rJpi (v := x9.toInt64) e q))
theorem t_Club_lie_113 {d : Nat} {x1 : Int32} {x2 : Int32} {x3 : Int32} {x4 : Int32} {x5 : Int64} {x7 : Int64} {x9 : Int32} {x10 : Int64} {h : am_H} {Q : am_Q} {res : Int64 × am_H} (e : f_Club_lie_113 h x1 x2 x3 x5 x7 x9 x10 = some res) (q : Q (some (.long res.1)) res.2) : am_W (X_Club_lie (d + 6)) 113 [some (.ref 0), some (.int x1), some (.int x2), some (.int x3), some (.int x4), some (.long x5), none, some (.long x7), none, some (.int x9), some (.long x10), none, none] [] h Q :=
  b_Club_lie_113 (d := (d + 6)) (kt := fun c => (t_Club_lie_122 (am_ife e c) q)) (kf := fun c => (t_Club_lie_118 (am_ift e c) q))
theorem t_Club_lie_112 {d : Nat} {x1 : Int32} {x2 : Int32} {x3 : Int32} {x4 : Int32} {x5 : Int64} {x7 : Int64} {x9 : Int32} {x10 : Int64} {y0 : Int64} {h : am_H} {Q : am_Q} {res : Int64 × am_H} (e : f_Club_lie_112 h y0 = some res) (q : Q (some (.long res.1)) res.2) : am_W (X_Club_lie (d + 6)) 112 [some (.ref 0), some (.int x1), some (.int x2), some (.int x3), some (.int x4), some (.long x5), none, some (.long x7), none, some (.int x9), some (.long x10), none, none] [.long y0] h Q :=
  b_Club_lie_112 (d := (d + 6)) (q := (am_rJpi (v := y0) e q))
theorem t_Club_lie_104 {d : Nat} {x1 : Int32} {x2 : Int32} {x3 : Int32} {x4 : Int32} {x5 : Int64} {x7 : Int64} {x9 : Int32} {x10 : Int64} {h : am_H} {Q : am_Q} {res : Int64 × am_H} (e : f_Club_lie_104 h x3 x5 x10 = some res) (q : Q (some (.long res.1)) res.2) : am_W (X_Club_lie (d + 6)) 104 [some (.ref 0), some (.int x1), some (.int x2), some (.int x3), some (.int x4), some (.long x5), none, some (.long x7), none, some (.int x9), some (.long x10), none, none] [] h Q :=
  (am_bd e).elim fun p hp => b_Club_lie_104 (d := (d + 5)) (k := c_Club_partOf (d := d + 4) hp.1 (t_Club_lie_112 hp.2 q))
theorem t_Club_lie_97 {d : Nat} {x1 : Int32} {x2 : Int32} {x3 : Int32} {x4 : Int32} {x5 : Int64} {x7 : Int64} {x9 : Int32} {y0 : Int64} {h : am_H} {Q : am_Q} {res : Int64 × am_H} (e : f_Club_lie_97 h x1 x2 x3 x5 x7 x9 y0 = some res) (q : Q (some (.long res.1)) res.2) : am_W (X_Club_lie (d + 6)) 97 [some (.ref 0), some (.int x1), some (.int x2), some (.int x3), some (.int x4), some (.long x5), none, some (.long x7), none, some (.int x9), none, none, none] [.long y0] h Q :=
  b_Club_lie_97 (d := (d + 6)) (kt := fun c => (t_Club_lie_113 (am_ift e c) q)) (kf := fun c => (t_Club_lie_104 (am_ife e c) q))
theorem t_Club_lie_84 {d : Nat} {x1 : Int32} {x2 : Int32} {x3 : Int32} {x4 : Int32} {x5 : Int64} {x7 : Int64} {y0 : Int32} {h : am_H} {Q : am_Q} {res : Int64 × am_H} (e : f_Club_lie_84 h x1 x2 x3 x5 x7 y0 = some res) (q : Q (some (.long res.1)) res.2) : am_W (X_Club_lie (d + 6)) 84 [some (.ref 0), some (.int x1), some (.int x2), some (.int x3), some (.int x4), some (.long x5), none, some (.long x7), none, none, none, none, none] [.int y0] h Q :=
  (am_bd e).elim fun p hp => b_Club_lie_84 (d := (d + 5)) (k := c_Reck_meanTold (d := d + 1) hp.1 (t_Club_lie_97 hp.2 q))
theorem t_Club_lie_72 {d : Nat} {x1 : Int32} {x2 : Int32} {x3 : Int32} {x4 : Int32} {x5 : Int64} {y0 : Int64} {h : am_H} {Q : am_Q} {res : Int64 × am_H} (e : f_Club_lie_72 h x1 x2 x3 x5 y0 = some res) (q : Q (some (.long res.1)) res.2) : am_W (X_Club_lie (d + 6)) 72 [some (.ref 0), some (.int x1), some (.int x2), some (.int x3), some (.int x4), some (.long x5), none, none, none, none, none, none, none] [.long y0] h Q :=
  (am_bd e).elim fun p hp => b_Club_lie_72 (d := (d + 5)) (k := c_Reck_bestLie (d := d) hp.1 (t_Club_lie_84 hp.2 q))
theorem t_Club_lie_61 {d : Nat} {x1 : Int32} {x2 : Int32} {x3 : Int32} {x4 : Int32} {y0 : Int64} {h : am_H} {Q : am_Q} {res : Int64 × am_H} (e : f_Club_lie_61 h x1 x2 x3 y0 = some res) (q : Q (some (.long res.1)) res.2) : am_W (X_Club_lie (d + 6)) 61 [some (.ref 0), some (.int x1), some (.int x2), some (.int x3), some (.int x4), none, none, none, none, none, none, none, none] [.long y0] h Q :=
  (am_bd e).elim fun p hp => b_Club_lie_61 (d := (d + 5)) (k := c_Reck_meanByLaw (d := d) hp.1 (t_Club_lie_72 hp.2 q))
theorem t_Club_lie_57 {d : Nat} {x1 : Int32} {x2 : Int32} {x3 : Int32} {x4 : Int32} {h : am_H} {Q : am_Q} {res : Int64 × am_H} (e : f_Club_lie_57 h x1 x2 x3 = some res) (q : Q (some (.long res.1)) res.2) : am_W (X_Club_lie (d + 6)) 57 [some (.ref 0), some (.int x1), some (.int x2), some (.int x3), some (.int x4), none, none, none, none, none, none, none, none] [] h Q :=
  (am_bd e).elim fun p hp => b_Club_lie_57 (d := (d + 5)) (k := c_Reck_unit (d := d + 5) hp.1 (t_Club_lie_61 hp.2 q))
theorem t_Club_lie_50 {d : Nat} {x1 : Int32} {x2 : Int32} {x3 : Int32} {x4 : Int32} {y0 : Bool} {h : am_H} {Q : am_Q} {res : Int64 × am_H} (e : f_Club_lie_50 h x1 x2 x3 y0 = some res) (q : Q (some (.long res.1)) res.2) : am_W (X_Club_lie (d + 6)) 50 [some (.ref 0), some (.int x1), some (.int x2), some (.int x3), some (.int x4), none, none, none, none, none, none, none, none] [.int (am_b y0)] h Q :=
  b_Club_lie_50 (d := (d + 6)) (kt := fun c => (t_Club_lie_57 (am_iff e (am_bz c)) q)) (kf := fun c => (t_Club_lie_53 (am_ift e (am_bn c)) q))
theorem t_Club_lie_43 {d : Nat} {x1 : Int32} {x2 : Int32} {x3 : Int32} {x4 : Int32} {h : am_H} {Q : am_Q} {res : Int64 × am_H} (e : f_Club_lie_43 h x1 x2 x3 = some res) (q : Q (some (.long res.1)) res.2) : am_W (X_Club_lie (d + 6)) 43 [some (.ref 0), some (.int x1), some (.int x2), some (.int x3), some (.int x4), none, none, none, none, none, none, none, none] [] h Q :=
  b_Club_lie_43 (d := (d + 5)) (k := c_Hole_hasNoClubs (d := d + 5) rfl (t_Club_lie_50 e q))
theorem t_Club_lie_40 {d : Nat} {x1 : Int32} {x2 : Int32} {x3 : Int32} {x4 : Int32} {y0 : Bool} {h : am_H} {Q : am_Q} {res : Int64 × am_H} (e : f_Club_lie_40 h x1 x2 x3 y0 = some res) (q : Q (some (.long res.1)) res.2) : am_W (X_Club_lie (d + 6)) 40 [some (.ref 0), some (.int x1), some (.int x2), some (.int x3), some (.int x4), none, none, none, none, none, none, none, none] [.int (am_b y0)] h Q :=
  b_Club_lie_40 (d := (d + 6)) (kt := fun c => (t_Club_lie_53 (am_iff e (am_bz c)) q)) (kf := fun c => (t_Club_lie_43 (am_ift e (am_bn c)) q))
theorem t_Club_lie_32 {d : Nat} {x1 : Int32} {x2 : Int32} {x3 : Int32} {x4 : Int32} {h : am_H} {Q : am_Q} {res : Int64 × am_H} (e : f_Club_lie_32 h x1 x2 x3 = some res) (q : Q (some (.long res.1)) res.2) : am_W (X_Club_lie (d + 6)) 32 [some (.ref 0), some (.int x1), some (.int x2), some (.int x3), some (.int x4), none, none, none, none, none, none, none, none] [] h Q :=
  (am_bd e).elim fun p hp => b_Club_lie_32 (d := (d + 5)) (k := c_Hole_isOffGreen (d := d + 3) hp.1 (t_Club_lie_40 hp.2 q))
theorem t_Club_lie_25 {d : Nat} {x1 : Int32} {x2 : Int32} {x3 : Int32} {y0 : Int32} {h : am_H} {Q : am_Q} {res : Int64 × am_H} (e : f_Club_lie_25 h x1 x2 x3 y0 = some res) (q : Q (some (.long res.1)) res.2) : am_W (X_Club_lie (d + 6)) 25 [some (.ref 0), some (.int x1), some (.int x2), some (.int x3), none, none, none, none, none, none, none, none, none] [.int y0] h Q :=
  b_Club_lie_25 (d := (d + 6)) (kt := fun c => (t_Club_lie_53 (am_ift e c) q)) (kf := fun c => (t_Club_lie_32 (am_ife e c) q))
theorem t_Club_lie_24 {d : Nat} {x1 : Int32} {x2 : Int32} {x3 : Int32} {h : am_H} {Q : am_Q} {res : Int64 × am_H} (e : f_Club_lie_24 h x1 x2 x3 = some res) (q : Q (some (.long res.1)) res.2) : am_W (X_Club_lie (d + 6)) 24 [some (.ref 0), some (.int x1), some (.int x2), some (.int x3), none, none, none, none, none, none, none, none, none] [] h Q :=
  b_Club_lie_24 (d := (d + 6)) (k := (t_Club_lie_25 e q))
theorem t_Club_lie_20 {d : Nat} {x1 : Int32} {x2 : Int32} {x3 : Int32} {h : am_H} {Q : am_Q} {res : Int64 × am_H} (e : f_Club_lie_20 h x1 x2 x3 = some res) (q : Q (some (.long res.1)) res.2) : am_W (X_Club_lie (d + 6)) 20 [some (.ref 0), some (.int x1), some (.int x2), some (.int x3), none, none, none, none, none, none, none, none, none] [] h Q :=
  b_Club_lie_20 (d := (d + 6)) (k := (t_Club_lie_25 e q))
theorem t_Club_lie_14 {d : Nat} {x1 : Int32} {x2 : Int32} {x3 : Int32} {h : am_H} {Q : am_Q} {res : Int64 × am_H} (e : f_Club_lie_14 h x1 x2 x3 = some res) (q : Q (some (.long res.1)) res.2) : am_W (X_Club_lie (d + 6)) 14 [some (.ref 0), some (.int x1), some (.int x2), some (.int x3), none, none, none, none, none, none, none, none, none] [] h Q :=
  b_Club_lie_14 (d := (d + 6)) (kt := fun c => (t_Club_lie_24 (am_ift e c) q)) (kf := fun c => (t_Club_lie_20 (am_ife e c) q))
theorem t_Club_lie_10 {d : Nat} {x1 : Int32} {x2 : Int32} {x3 : Int32} {h : am_H} {Q : am_Q} {res : Int64 × am_H} (e : f_Club_lie_10 h x1 x2 x3 = some res) (q : Q (some (.long res.1)) res.2) : am_W (X_Club_lie (d + 6)) 10 [some (.ref 0), some (.int x1), some (.int x2), some (.int x3), none, none, none, none, none, none, none, none, none] [] h Q :=
  b_Club_lie_10 (d := (d + 6)) (kt := fun c => (t_Club_lie_24 (am_ift e c) q)) (kf := fun c => (t_Club_lie_14 (am_ife e c) q))
theorem t_Club_lie_5 {d : Nat} {x1 : Int32} {x2 : Int32} {x3 : Int32} {h : am_H} {Q : am_Q} {res : Int64 × am_H} (e : f_Club_lie_5 h x1 x2 x3 = some res) (q : Q (some (.long res.1)) res.2) : am_W (X_Club_lie (d + 6)) 5 [some (.ref 0), some (.int x1), some (.int x2), some (.int x3), none, none, none, none, none, none, none, none, none] [] h Q :=
  b_Club_lie_5 (d := (d + 6)) (kt := fun c => (t_Club_lie_24 (am_ift e c) q)) (kf := fun c => (t_Club_lie_10 (am_ife e c) q))
theorem t_Club_lie_0 {d : Nat} {x1 : Int32} {x2 : Int32} {x3 : Int32} {h : am_H} {Q : am_Q} {res : Int64 × am_H} (e : f_Club_lie h x1 x2 x3 = some res) (q : Q (some (.long res.1)) res.2) : am_W (X_Club_lie (d + 6)) 0 [some (.ref 0), some (.int x1), some (.int x2), some (.int x3), none, none, none, none, none, none, none, none, none] [] h Q :=
  b_Club_lie_0 (d := (d + 6)) (kt := fun c => (t_Club_lie_24 (am_ift e c) q)) (kf := fun c => (t_Club_lie_5 (am_ife e c) q))
theorem c_Club_lie {d : Nat} {x1 : Int32} {x2 : Int32} {x3 : Int32} {h : am_H} {Q : am_Q} {res : Int64 × am_H} (e : f_Club_lie h x1 x2 x3 = some res) (q : Q (some (.long res.1)) res.2) : m_Club_lie (d + 6) [.ref 0, .int x1, .int x2, .int x3] h Q :=
  e_Club_lie (t_Club_lie_0 e q)
theorem d_Hole_waysAtBest_0 : decode prog_5_method_38_code 0 = .ok (.iload_n 2, 1) := by decide +kernel
theorem d_Hole_waysAtBest_1 : decode prog_5_method_38_code 1 = .ok (.ifCond .le 8, 3) := by decide +kernel
theorem d_Hole_waysAtBest_4 : decode prog_5_method_38_code 4 = .ok (.iload_n 2, 1) := by decide +kernel
theorem d_Hole_waysAtBest_5 : decode prog_5_method_38_code 5 = .ok (.iconst 2, 1) := by decide +kernel
theorem d_Hole_waysAtBest_6 : decode prog_5_method_38_code 6 = .ok (.if_icmp .le 13, 3) := by decide +kernel
theorem d_Hole_waysAtBest_9 : decode prog_5_method_38_code 9 = .ok (.iload_n 1, 1) := by decide +kernel
theorem d_Hole_waysAtBest_10 : decode prog_5_method_38_code 10 = .ok (.ifCond .gt 7, 3) := by decide +kernel
theorem d_Hole_waysAtBest_13 : decode prog_5_method_38_code 13 = .ok (.iconst 1, 1) := by decide +kernel
theorem d_Hole_waysAtBest_14 : decode prog_5_method_38_code 14 = .ok (.goto 4, 3) := by decide +kernel
theorem d_Hole_waysAtBest_17 : decode prog_5_method_38_code 17 = .ok (.iconst 0, 1) := by decide +kernel
theorem d_Hole_waysAtBest_18 : decode prog_5_method_38_code 18 = .ok (.ireturn, 1) := by decide +kernel
theorem d_Hole_waysAtBest_19 : decode prog_5_method_38_code 19 = .ok (.aload_n 0, 1) := by decide +kernel
theorem d_Hole_waysAtBest_20 : decode prog_5_method_38_code 20 = .ok (.iload_n 1, 1) := by decide +kernel
theorem d_Hole_waysAtBest_21 : decode prog_5_method_38_code 21 = .ok (.iload_n 2, 1) := by decide +kernel
theorem d_Hole_waysAtBest_22 : decode prog_5_method_38_code 22 = .ok (.invokevirtual 132, 3) := by decide +kernel
theorem d_Hole_waysAtBest_25 : decode prog_5_method_38_code 25 = .ok (.aload_n 0, 1) := by decide +kernel
theorem d_Hole_waysAtBest_26 : decode prog_5_method_38_code 26 = .ok (.iload_n 1, 1) := by decide +kernel
theorem d_Hole_waysAtBest_27 : decode prog_5_method_38_code 27 = .ok (.iload_n 2, 1) := by decide +kernel
theorem d_Hole_waysAtBest_28 : decode prog_5_method_38_code 28 = .ok (.invokevirtual 129, 3) := by decide +kernel
theorem d_Hole_waysAtBest_31 : decode prog_5_method_38_code 31 = .ok (.invokestatic 135, 3) := by decide +kernel
theorem d_Hole_waysAtBest_34 : decode prog_5_method_38_code 34 = .ok (.ireturn, 1) := by decide +kernel
theorem b_Hole_waysAtBest_0 {d : Nat} {x1 : Int32} {x2 : Int32} {h : am_H} {Q : am_Q} (kt : x2 ≤ 0 → am_W (X_Hole_waysAtBest d) 9 [some (.ref 1), some (.int x1), some (.int x2)] [] h Q) (kf : ¬ x2 ≤ 0 → am_W (X_Hole_waysAtBest d) 4 [some (.ref 1), some (.int x1), some (.int x2)] [] h Q) : am_W (X_Hole_waysAtBest d) 0 [some (.ref 1), some (.int x1), some (.int x2)] [] h Q :=
  am_iload_n d_Hole_waysAtBest_0 rfl (i := 2) rfl <|
    am_if_le (tgt := 9) d_Hole_waysAtBest_1 (by decide) kt kf
theorem b_Hole_waysAtBest_4 {d : Nat} {x1 : Int32} {x2 : Int32} {h : am_H} {Q : am_Q} (kt : x2 ≤ 2 → am_W (X_Hole_waysAtBest d) 19 [some (.ref 1), some (.int x1), some (.int x2)] [] h Q) (kf : ¬ x2 ≤ 2 → am_W (X_Hole_waysAtBest d) 9 [some (.ref 1), some (.int x1), some (.int x2)] [] h Q) : am_W (X_Hole_waysAtBest d) 4 [some (.ref 1), some (.int x1), some (.int x2)] [] h Q :=
  am_iload_n d_Hole_waysAtBest_4 rfl (i := 2) rfl <|
    am_iconst (v := 2) d_Hole_waysAtBest_5 (by decide) <|
    am_icmp_le (tgt := 19) d_Hole_waysAtBest_6 (by decide) kt kf
theorem b_Hole_waysAtBest_9 {d : Nat} {x1 : Int32} {x2 : Int32} {h : am_H} {Q : am_Q} (kt : 0 < x1 → am_W (X_Hole_waysAtBest d) 17 [some (.ref 1), some (.int x1), some (.int x2)] [] h Q) (kf : ¬ 0 < x1 → am_W (X_Hole_waysAtBest d) 13 [some (.ref 1), some (.int x1), some (.int x2)] [] h Q) : am_W (X_Hole_waysAtBest d) 9 [some (.ref 1), some (.int x1), some (.int x2)] [] h Q :=
  am_iload_n d_Hole_waysAtBest_9 rfl (i := 1) rfl <|
    am_if_gt (tgt := 17) d_Hole_waysAtBest_10 (by decide) kt kf
theorem b_Hole_waysAtBest_13 {d : Nat} {x1 : Int32} {x2 : Int32} {h : am_H} {Q : am_Q} (q : Q (some (.int 1)) h) : am_W (X_Hole_waysAtBest d) 13 [some (.ref 1), some (.int x1), some (.int x2)] [] h Q :=
  am_iconst (v := 1) d_Hole_waysAtBest_13 (by decide) <|
    am_goto (tgt := 18) d_Hole_waysAtBest_14 (by decide) <|
    am_iret rfl d_Hole_waysAtBest_18 q
theorem b_Hole_waysAtBest_17 {d : Nat} {x1 : Int32} {x2 : Int32} {h : am_H} {Q : am_Q} (q : Q (some (.int 0)) h) : am_W (X_Hole_waysAtBest d) 17 [some (.ref 1), some (.int x1), some (.int x2)] [] h Q :=
  am_iconst (v := 0) d_Hole_waysAtBest_17 (by decide) <|
    am_iret rfl d_Hole_waysAtBest_18 q
theorem b_Hole_waysAtBest_19 {d : Nat} {x1 : Int32} {x2 : Int32} {h : am_H} {Q : am_Q} (k : m_Hole_waysSafe d [.ref 1, .int x1, .int x2] h (fun r hh => am_W (X_Hole_waysAtBest (d + 1)) 25 [some (.ref 1), some (.int x1), some (.int x2)] (r.toList ++ []) hh Q)) : am_W (X_Hole_waysAtBest (d + 1)) 19 [some (.ref 1), some (.int x1), some (.int x2)] [] h Q :=
  am_aload_n d_Hole_waysAtBest_19 rfl (i := 0) rfl <|
    am_iload_n d_Hole_waysAtBest_20 rfl (i := 1) rfl <|
    am_iload_n d_Hole_waysAtBest_21 rfl (i := 2) rfl <|
    am_callV (vs := [.int x1, .int x2]) (st := []) (k := 1) (ci := 1) rfl d_Hole_waysAtBest_22 rfl rfl w_897 w_899 w_21 w_84 w_900 p_Hole_waysSafe (Nat.le_of_ble_eq_true rfl) (Nat.le_of_ble_eq_true rfl) rfl k
theorem b_Hole_waysAtBest_25 {d : Nat} {x1 : Int32} {x2 : Int32} {y0 : Int32} {h : am_H} {Q : am_Q} (k : m_Hole_waysBold d [.ref 1, .int x1, .int x2] h (fun r hh => am_W (X_Hole_waysAtBest (d + 1)) 31 [some (.ref 1), some (.int x1), some (.int x2)] (r.toList ++ [.int y0]) hh Q)) : am_W (X_Hole_waysAtBest (d + 1)) 25 [some (.ref 1), some (.int x1), some (.int x2)] [.int y0] h Q :=
  am_aload_n d_Hole_waysAtBest_25 rfl (i := 0) rfl <|
    am_iload_n d_Hole_waysAtBest_26 rfl (i := 1) rfl <|
    am_iload_n d_Hole_waysAtBest_27 rfl (i := 2) rfl <|
    am_callV (vs := [.int x1, .int x2]) (st := [.int y0]) (k := 1) (ci := 1) rfl d_Hole_waysAtBest_28 rfl rfl w_889 w_891 w_19 w_84 w_892 p_Hole_waysBold (Nat.le_of_ble_eq_true rfl) (Nat.le_of_ble_eq_true rfl) rfl k
theorem b_Hole_waysAtBest_31 {d : Nat} {x1 : Int32} {x2 : Int32} {y1 : Int32} {y0 : Int32} {h : am_H} {Q : am_Q} (q : Q (some (.int (if y0 < y1 then y1 else y0))) h) : am_W (X_Hole_waysAtBest d) 31 [some (.ref 1), some (.int x1), some (.int x2)] [.int y1, .int y0] h Q :=
  am_mmax w_901 d_Hole_waysAtBest_31 (Nat.le_of_ble_eq_true rfl) <|
    am_iret rfl d_Hole_waysAtBest_34 q
theorem d_Hole_waysBold_0 : decode prog_5_method_40_code 0 = .ok (.aload_n 0, 1) := by decide +kernel
theorem d_Hole_waysBold_1 : decode prog_5_method_40_code 1 = .ok (.getfield 37, 3) := by decide +kernel
theorem d_Hole_waysBold_4 : decode prog_5_method_40_code 4 = .ok (.aload_n 0, 1) := by decide +kernel
theorem d_Hole_waysBold_5 : decode prog_5_method_40_code 5 = .ok (.iload_n 1, 1) := by decide +kernel
theorem d_Hole_waysBold_6 : decode prog_5_method_40_code 6 = .ok (.iconst 1, 1) := by decide +kernel
theorem d_Hole_waysBold_7 : decode prog_5_method_40_code 7 = .ok (.isub, 1) := by decide +kernel
theorem d_Hole_waysBold_8 : decode prog_5_method_40_code 8 = .ok (.iload_n 2, 1) := by decide +kernel
theorem d_Hole_waysBold_9 : decode prog_5_method_40_code 9 = .ok (.iconst 1, 1) := by decide +kernel
theorem d_Hole_waysBold_10 : decode prog_5_method_40_code 10 = .ok (.isub, 1) := by decide +kernel
theorem d_Hole_waysBold_11 : decode prog_5_method_40_code 11 = .ok (.invokevirtual 126, 3) := by decide +kernel
theorem d_Hole_waysBold_14 : decode prog_5_method_40_code 14 = .ok (.imul, 1) := by decide +kernel
theorem d_Hole_waysBold_15 : decode prog_5_method_40_code 15 = .ok (.aload_n 0, 1) := by decide +kernel
theorem d_Hole_waysBold_16 : decode prog_5_method_40_code 16 = .ok (.getfield 40, 3) := by decide +kernel
theorem d_Hole_waysBold_19 : decode prog_5_method_40_code 19 = .ok (.aload_n 0, 1) := by decide +kernel
theorem d_Hole_waysBold_20 : decode prog_5_method_40_code 20 = .ok (.iload_n 1, 1) := by decide +kernel
theorem d_Hole_waysBold_21 : decode prog_5_method_40_code 21 = .ok (.iconst 2, 1) := by decide +kernel
theorem d_Hole_waysBold_22 : decode prog_5_method_40_code 22 = .ok (.iadd, 1) := by decide +kernel
theorem d_Hole_waysBold_23 : decode prog_5_method_40_code 23 = .ok (.iload_n 2, 1) := by decide +kernel
theorem d_Hole_waysBold_24 : decode prog_5_method_40_code 24 = .ok (.iconst 1, 1) := by decide +kernel
theorem d_Hole_waysBold_25 : decode prog_5_method_40_code 25 = .ok (.isub, 1) := by decide +kernel
theorem d_Hole_waysBold_26 : decode prog_5_method_40_code 26 = .ok (.invokevirtual 126, 3) := by decide +kernel
theorem d_Hole_waysBold_29 : decode prog_5_method_40_code 29 = .ok (.imul, 1) := by decide +kernel
theorem d_Hole_waysBold_30 : decode prog_5_method_40_code 30 = .ok (.iadd, 1) := by decide +kernel
theorem d_Hole_waysBold_31 : decode prog_5_method_40_code 31 = .ok (.bipush 12, 2) := by decide +kernel
theorem d_Hole_waysBold_33 : decode prog_5_method_40_code 33 = .ok (.aload_n 0, 1) := by decide +kernel
theorem d_Hole_waysBold_34 : decode prog_5_method_40_code 34 = .ok (.getfield 37, 3) := by decide +kernel
theorem d_Hole_waysBold_37 : decode prog_5_method_40_code 37 = .ok (.isub, 1) := by decide +kernel
theorem d_Hole_waysBold_38 : decode prog_5_method_40_code 38 = .ok (.aload_n 0, 1) := by decide +kernel
theorem d_Hole_waysBold_39 : decode prog_5_method_40_code 39 = .ok (.getfield 40, 3) := by decide +kernel
theorem d_Hole_waysBold_42 : decode prog_5_method_40_code 42 = .ok (.isub, 1) := by decide +kernel
theorem d_Hole_waysBold_43 : decode prog_5_method_40_code 43 = .ok (.aload_n 0, 1) := by decide +kernel
theorem d_Hole_waysBold_44 : decode prog_5_method_40_code 44 = .ok (.iload_n 1, 1) := by decide +kernel
theorem d_Hole_waysBold_45 : decode prog_5_method_40_code 45 = .ok (.iload_n 2, 1) := by decide +kernel
theorem d_Hole_waysBold_46 : decode prog_5_method_40_code 46 = .ok (.iconst 1, 1) := by decide +kernel
theorem d_Hole_waysBold_47 : decode prog_5_method_40_code 47 = .ok (.isub, 1) := by decide +kernel
theorem d_Hole_waysBold_48 : decode prog_5_method_40_code 48 = .ok (.invokevirtual 126, 3) := by decide +kernel
theorem d_Hole_waysBold_51 : decode prog_5_method_40_code 51 = .ok (.imul, 1) := by decide +kernel
theorem d_Hole_waysBold_52 : decode prog_5_method_40_code 52 = .ok (.iadd, 1) := by decide +kernel
theorem d_Hole_waysBold_53 : decode prog_5_method_40_code 53 = .ok (.ireturn, 1) := by decide +kernel
theorem b_Hole_waysBold_0 {d : Nat} {x1 : Int32} {x2 : Int32} {h : am_H} {Q : am_Q} (k : m_Hole_waysAtBest d [.ref 1, .int (x1 - 1), .int (x2 - 1)] h (fun r hh => am_W (X_Hole_waysBold (d + 1)) 14 [some (.ref 1), some (.int x1), some (.int x2)] (r.toList ++ [.int (h.1 1 8)]) hh Q)) : am_W (X_Hole_waysBold (d + 1)) 0 [some (.ref 1), some (.int x1), some (.int x2)] [] h Q :=
  am_aload_n d_Hole_waysBold_0 rfl (i := 0) rfl <|
    am_getI (ci := 1) (i := 8) rfl rfl rfl (Nat.le_of_ble_eq_true rfl) w_130 d_Hole_waysBold_1 <|
    am_aload_n d_Hole_waysBold_4 rfl (i := 0) rfl <|
    am_iload_n d_Hole_waysBold_5 rfl (i := 1) rfl <|
    am_iconst (v := 1) d_Hole_waysBold_6 (by decide) <|
    am_isub d_Hole_waysBold_7 <|
    am_iload_n d_Hole_waysBold_8 rfl (i := 2) rfl <|
    am_iconst (v := 1) d_Hole_waysBold_9 (by decide) <|
    am_isub d_Hole_waysBold_10 <|
    am_callV (vs := [.int (x1 - 1), .int (x2 - 1)]) (st := [.int (h.1 1 8)]) (k := 1) (ci := 1) rfl d_Hole_waysBold_11 rfl rfl w_893 w_895 w_20 w_84 w_896 p_Hole_waysAtBest (Nat.le_of_ble_eq_true rfl) (Nat.le_of_ble_eq_true rfl) rfl k
theorem b_Hole_waysBold_14 {d : Nat} {x1 : Int32} {x2 : Int32} {y1 : Int32} {y0 : Int32} {h : am_H} {Q : am_Q} (k : m_Hole_waysAtBest d [.ref 1, .int (x1 + 2), .int (x2 - 1)] h (fun r hh => am_W (X_Hole_waysBold (d + 1)) 29 [some (.ref 1), some (.int x1), some (.int x2)] (r.toList ++ [.int (h.1 1 9), .int (y0 * y1)]) hh Q)) : am_W (X_Hole_waysBold (d + 1)) 14 [some (.ref 1), some (.int x1), some (.int x2)] [.int y1, .int y0] h Q :=
  am_imul d_Hole_waysBold_14 <|
    am_aload_n d_Hole_waysBold_15 rfl (i := 0) rfl <|
    am_getI (ci := 1) (i := 9) rfl rfl rfl (Nat.le_of_ble_eq_true rfl) w_131 d_Hole_waysBold_16 <|
    am_aload_n d_Hole_waysBold_19 rfl (i := 0) rfl <|
    am_iload_n d_Hole_waysBold_20 rfl (i := 1) rfl <|
    am_iconst (v := 2) d_Hole_waysBold_21 (by decide) <|
    am_iadd d_Hole_waysBold_22 <|
    am_iload_n d_Hole_waysBold_23 rfl (i := 2) rfl <|
    am_iconst (v := 1) d_Hole_waysBold_24 (by decide) <|
    am_isub d_Hole_waysBold_25 <|
    am_callV (vs := [.int (x1 + 2), .int (x2 - 1)]) (st := [.int (h.1 1 9), .int (y0 * y1)]) (k := 1) (ci := 1) rfl d_Hole_waysBold_26 rfl rfl w_893 w_895 w_20 w_84 w_896 p_Hole_waysAtBest (Nat.le_of_ble_eq_true rfl) (Nat.le_of_ble_eq_true rfl) rfl k
theorem b_Hole_waysBold_29 {d : Nat} {x1 : Int32} {x2 : Int32} {y2 : Int32} {y1 : Int32} {y0 : Int32} {h : am_H} {Q : am_Q} (k : m_Hole_waysAtBest d [.ref 1, .int x1, .int (x2 - 1)] h (fun r hh => am_W (X_Hole_waysBold (d + 1)) 51 [some (.ref 1), some (.int x1), some (.int x2)] (r.toList ++ [.int ((12 - (h.1 1 8)) - (h.1 1 9)), .int (y0 + (y1 * y2))]) hh Q)) : am_W (X_Hole_waysBold (d + 1)) 29 [some (.ref 1), some (.int x1), some (.int x2)] [.int y2, .int y1, .int y0] h Q :=
  am_imul d_Hole_waysBold_29 <|
    am_iadd d_Hole_waysBold_30 <|
    am_bipush (v := 12) d_Hole_waysBold_31 (by decide) <|
    am_aload_n d_Hole_waysBold_33 rfl (i := 0) rfl <|
    am_getI (ci := 1) (i := 8) rfl rfl rfl (Nat.le_of_ble_eq_true rfl) w_130 d_Hole_waysBold_34 <|
    am_isub d_Hole_waysBold_37 <|
    am_aload_n d_Hole_waysBold_38 rfl (i := 0) rfl <|
    am_getI (ci := 1) (i := 9) rfl rfl rfl (Nat.le_of_ble_eq_true rfl) w_131 d_Hole_waysBold_39 <|
    am_isub d_Hole_waysBold_42 <|
    am_aload_n d_Hole_waysBold_43 rfl (i := 0) rfl <|
    am_iload_n d_Hole_waysBold_44 rfl (i := 1) rfl <|
    am_iload_n d_Hole_waysBold_45 rfl (i := 2) rfl <|
    am_iconst (v := 1) d_Hole_waysBold_46 (by decide) <|
    am_isub d_Hole_waysBold_47 <|
    am_callV (vs := [.int x1, .int (x2 - 1)]) (st := [.int ((12 - (h.1 1 8)) - (h.1 1 9)), .int (y0 + (y1 * y2))]) (k := 1) (ci := 1) rfl d_Hole_waysBold_48 rfl rfl w_893 w_895 w_20 w_84 w_896 p_Hole_waysAtBest (Nat.le_of_ble_eq_true rfl) (Nat.le_of_ble_eq_true rfl) rfl k
theorem b_Hole_waysBold_51 {d : Nat} {x1 : Int32} {x2 : Int32} {y2 : Int32} {y1 : Int32} {y0 : Int32} {h : am_H} {Q : am_Q} (q : Q (some (.int (y0 + (y1 * y2)))) h) : am_W (X_Hole_waysBold d) 51 [some (.ref 1), some (.int x1), some (.int x2)] [.int y2, .int y1, .int y0] h Q :=
  am_imul d_Hole_waysBold_51 <|
    am_iadd d_Hole_waysBold_52 <|
    am_iret rfl d_Hole_waysBold_53 q
theorem d_Hole_waysSafe_0 : decode prog_5_method_39_code 0 = .ok (.bipush 12, 2) := by decide +kernel
theorem d_Hole_waysSafe_2 : decode prog_5_method_39_code 2 = .ok (.aload_n 0, 1) := by decide +kernel
theorem d_Hole_waysSafe_3 : decode prog_5_method_39_code 3 = .ok (.iload_n 1, 1) := by decide +kernel
theorem d_Hole_waysSafe_4 : decode prog_5_method_39_code 4 = .ok (.iload_n 2, 1) := by decide +kernel
theorem d_Hole_waysSafe_5 : decode prog_5_method_39_code 5 = .ok (.iconst 1, 1) := by decide +kernel
theorem d_Hole_waysSafe_6 : decode prog_5_method_39_code 6 = .ok (.isub, 1) := by decide +kernel
theorem d_Hole_waysSafe_7 : decode prog_5_method_39_code 7 = .ok (.invokevirtual 126, 3) := by decide +kernel
theorem d_Hole_waysSafe_10 : decode prog_5_method_39_code 10 = .ok (.imul, 1) := by decide +kernel
theorem d_Hole_waysSafe_11 : decode prog_5_method_39_code 11 = .ok (.ireturn, 1) := by decide +kernel
theorem b_Hole_waysSafe_0 {d : Nat} {x1 : Int32} {x2 : Int32} {h : am_H} {Q : am_Q} (k : m_Hole_waysAtBest d [.ref 1, .int x1, .int (x2 - 1)] h (fun r hh => am_W (X_Hole_waysSafe (d + 1)) 10 [some (.ref 1), some (.int x1), some (.int x2)] (r.toList ++ [.int 12]) hh Q)) : am_W (X_Hole_waysSafe (d + 1)) 0 [some (.ref 1), some (.int x1), some (.int x2)] [] h Q :=
  am_bipush (v := 12) d_Hole_waysSafe_0 (by decide) <|
    am_aload_n d_Hole_waysSafe_2 rfl (i := 0) rfl <|
    am_iload_n d_Hole_waysSafe_3 rfl (i := 1) rfl <|
    am_iload_n d_Hole_waysSafe_4 rfl (i := 2) rfl <|
    am_iconst (v := 1) d_Hole_waysSafe_5 (by decide) <|
    am_isub d_Hole_waysSafe_6 <|
    am_callV (vs := [.int x1, .int (x2 - 1)]) (st := [.int 12]) (k := 1) (ci := 1) rfl d_Hole_waysSafe_7 rfl rfl w_893 w_895 w_20 w_84 w_896 p_Hole_waysAtBest (Nat.le_of_ble_eq_true rfl) (Nat.le_of_ble_eq_true rfl) rfl k
theorem b_Hole_waysSafe_10 {d : Nat} {x1 : Int32} {x2 : Int32} {y1 : Int32} {y0 : Int32} {h : am_H} {Q : am_Q} (q : Q (some (.int (y0 * y1))) h) : am_W (X_Hole_waysSafe d) 10 [some (.ref 1), some (.int x1), some (.int x2)] [.int y1, .int y0] h Q :=
  am_imul d_Hole_waysSafe_10 <|
    am_iret rfl d_Hole_waysSafe_11 q
theorem t_Hole_waysAtBest_17 {d : Nat} {rc : rc_Hole_waysAtBest} {x1 : Int32} {x2 : Int32} {h : am_H} {Q : am_Q} {res : Int32} (hr0 : ∀ {x1 : Int32} {x2 : Int32} {h : am_H} {Q : am_Q} {res : Int32}, rc.1 h x1 x2 = some res → Q (some (.int res)) h → m_Hole_waysAtBest (d + 0) [.ref 1, .int x1, .int x2] h Q) (hr1 : ∀ {x1 : Int32} {x2 : Int32} {h : am_H} {Q : am_Q} {res : Int32}, rc.2.1 h x1 x2 = some res → Q (some (.int res)) h → m_Hole_waysBold (d + 0) [.ref 1, .int x1, .int x2] h Q) (hr2 : ∀ {x1 : Int32} {x2 : Int32} {h : am_H} {Q : am_Q} {res : Int32}, rc.2.2 h x1 x2 = some res → Q (some (.int res)) h → m_Hole_waysSafe (d + 0) [.ref 1, .int x1, .int x2] h Q) (e : f_Hole_waysAtBest_17 rc h = some res) (q : Q (some (.int res)) h) : am_W (X_Hole_waysAtBest (d + 0 + 1)) 17 [some (.ref 1), some (.int x1), some (.int x2)] [] h Q :=
  b_Hole_waysAtBest_17 (d := (d + 0 + 1)) (q := (am_rIp (v := 0) e q))
theorem t_Hole_waysAtBest_13 {d : Nat} {rc : rc_Hole_waysAtBest} {x1 : Int32} {x2 : Int32} {h : am_H} {Q : am_Q} {res : Int32} (hr0 : ∀ {x1 : Int32} {x2 : Int32} {h : am_H} {Q : am_Q} {res : Int32}, rc.1 h x1 x2 = some res → Q (some (.int res)) h → m_Hole_waysAtBest (d + 0) [.ref 1, .int x1, .int x2] h Q) (hr1 : ∀ {x1 : Int32} {x2 : Int32} {h : am_H} {Q : am_Q} {res : Int32}, rc.2.1 h x1 x2 = some res → Q (some (.int res)) h → m_Hole_waysBold (d + 0) [.ref 1, .int x1, .int x2] h Q) (hr2 : ∀ {x1 : Int32} {x2 : Int32} {h : am_H} {Q : am_Q} {res : Int32}, rc.2.2 h x1 x2 = some res → Q (some (.int res)) h → m_Hole_waysSafe (d + 0) [.ref 1, .int x1, .int x2] h Q) (e : f_Hole_waysAtBest_13 rc h = some res) (q : Q (some (.int res)) h) : am_W (X_Hole_waysAtBest (d + 0 + 1)) 13 [some (.ref 1), some (.int x1), some (.int x2)] [] h Q :=
  b_Hole_waysAtBest_13 (d := (d + 0 + 1)) (q := (am_rIp (v := 1) e q))
theorem t_Hole_waysAtBest_9 {d : Nat} {rc : rc_Hole_waysAtBest} {x1 : Int32} {x2 : Int32} {h : am_H} {Q : am_Q} {res : Int32} (hr0 : ∀ {x1 : Int32} {x2 : Int32} {h : am_H} {Q : am_Q} {res : Int32}, rc.1 h x1 x2 = some res → Q (some (.int res)) h → m_Hole_waysAtBest (d + 0) [.ref 1, .int x1, .int x2] h Q) (hr1 : ∀ {x1 : Int32} {x2 : Int32} {h : am_H} {Q : am_Q} {res : Int32}, rc.2.1 h x1 x2 = some res → Q (some (.int res)) h → m_Hole_waysBold (d + 0) [.ref 1, .int x1, .int x2] h Q) (hr2 : ∀ {x1 : Int32} {x2 : Int32} {h : am_H} {Q : am_Q} {res : Int32}, rc.2.2 h x1 x2 = some res → Q (some (.int res)) h → m_Hole_waysSafe (d + 0) [.ref 1, .int x1, .int x2] h Q) (e : f_Hole_waysAtBest_9 rc h x1 = some res) (q : Q (some (.int res)) h) : am_W (X_Hole_waysAtBest (d + 0 + 1)) 9 [some (.ref 1), some (.int x1), some (.int x2)] [] h Q :=
  b_Hole_waysAtBest_9 (d := (d + 0 + 1)) (kt := fun c => (t_Hole_waysAtBest_17 hr0 hr1 hr2 (am_ift e c) q)) (kf := fun c => (t_Hole_waysAtBest_13 hr0 hr1 hr2 (am_ife e c) q))
theorem t_Hole_waysAtBest_31 {d : Nat} {rc : rc_Hole_waysAtBest} {x1 : Int32} {x2 : Int32} {y1 : Int32} {y0 : Int32} {h : am_H} {Q : am_Q} {res : Int32} (hr0 : ∀ {x1 : Int32} {x2 : Int32} {h : am_H} {Q : am_Q} {res : Int32}, rc.1 h x1 x2 = some res → Q (some (.int res)) h → m_Hole_waysAtBest (d + 0) [.ref 1, .int x1, .int x2] h Q) (hr1 : ∀ {x1 : Int32} {x2 : Int32} {h : am_H} {Q : am_Q} {res : Int32}, rc.2.1 h x1 x2 = some res → Q (some (.int res)) h → m_Hole_waysBold (d + 0) [.ref 1, .int x1, .int x2] h Q) (hr2 : ∀ {x1 : Int32} {x2 : Int32} {h : am_H} {Q : am_Q} {res : Int32}, rc.2.2 h x1 x2 = some res → Q (some (.int res)) h → m_Hole_waysSafe (d + 0) [.ref 1, .int x1, .int x2] h Q) (e : f_Hole_waysAtBest_31 rc h y1 y0 = some res) (q : Q (some (.int res)) h) : am_W (X_Hole_waysAtBest (d + 0 + 1)) 31 [some (.ref 1), some (.int x1), some (.int x2)] [.int y1, .int y0] h Q :=
  b_Hole_waysAtBest_31 (d := (d + 0 + 1)) (q := (am_rIp (v := (if y0 < y1 then y1 else y0)) e q))
theorem t_Hole_waysAtBest_25 {d : Nat} {rc : rc_Hole_waysAtBest} {x1 : Int32} {x2 : Int32} {y0 : Int32} {h : am_H} {Q : am_Q} {res : Int32} (hr0 : ∀ {x1 : Int32} {x2 : Int32} {h : am_H} {Q : am_Q} {res : Int32}, rc.1 h x1 x2 = some res → Q (some (.int res)) h → m_Hole_waysAtBest (d + 0) [.ref 1, .int x1, .int x2] h Q) (hr1 : ∀ {x1 : Int32} {x2 : Int32} {h : am_H} {Q : am_Q} {res : Int32}, rc.2.1 h x1 x2 = some res → Q (some (.int res)) h → m_Hole_waysBold (d + 0) [.ref 1, .int x1, .int x2] h Q) (hr2 : ∀ {x1 : Int32} {x2 : Int32} {h : am_H} {Q : am_Q} {res : Int32}, rc.2.2 h x1 x2 = some res → Q (some (.int res)) h → m_Hole_waysSafe (d + 0) [.ref 1, .int x1, .int x2] h Q) (e : f_Hole_waysAtBest_25 rc h x1 x2 y0 = some res) (q : Q (some (.int res)) h) : am_W (X_Hole_waysAtBest (d + 0 + 1)) 25 [some (.ref 1), some (.int x1), some (.int x2)] [.int y0] h Q :=
  (am_bd e).elim fun p hp => b_Hole_waysAtBest_25 (d := (d + 0)) (k := hr1 hp.1 (t_Hole_waysAtBest_31 hr0 hr1 hr2 hp.2 q))
theorem t_Hole_waysAtBest_19 {d : Nat} {rc : rc_Hole_waysAtBest} {x1 : Int32} {x2 : Int32} {h : am_H} {Q : am_Q} {res : Int32} (hr0 : ∀ {x1 : Int32} {x2 : Int32} {h : am_H} {Q : am_Q} {res : Int32}, rc.1 h x1 x2 = some res → Q (some (.int res)) h → m_Hole_waysAtBest (d + 0) [.ref 1, .int x1, .int x2] h Q) (hr1 : ∀ {x1 : Int32} {x2 : Int32} {h : am_H} {Q : am_Q} {res : Int32}, rc.2.1 h x1 x2 = some res → Q (some (.int res)) h → m_Hole_waysBold (d + 0) [.ref 1, .int x1, .int x2] h Q) (hr2 : ∀ {x1 : Int32} {x2 : Int32} {h : am_H} {Q : am_Q} {res : Int32}, rc.2.2 h x1 x2 = some res → Q (some (.int res)) h → m_Hole_waysSafe (d + 0) [.ref 1, .int x1, .int x2] h Q) (e : f_Hole_waysAtBest_19 rc h x1 x2 = some res) (q : Q (some (.int res)) h) : am_W (X_Hole_waysAtBest (d + 0 + 1)) 19 [some (.ref 1), some (.int x1), some (.int x2)] [] h Q :=
  (am_bd e).elim fun p hp => b_Hole_waysAtBest_19 (d := (d + 0)) (k := hr2 hp.1 (t_Hole_waysAtBest_25 hr0 hr1 hr2 hp.2 q))
theorem t_Hole_waysAtBest_4 {d : Nat} {rc : rc_Hole_waysAtBest} {x1 : Int32} {x2 : Int32} {h : am_H} {Q : am_Q} {res : Int32} (hr0 : ∀ {x1 : Int32} {x2 : Int32} {h : am_H} {Q : am_Q} {res : Int32}, rc.1 h x1 x2 = some res → Q (some (.int res)) h → m_Hole_waysAtBest (d + 0) [.ref 1, .int x1, .int x2] h Q) (hr1 : ∀ {x1 : Int32} {x2 : Int32} {h : am_H} {Q : am_Q} {res : Int32}, rc.2.1 h x1 x2 = some res → Q (some (.int res)) h → m_Hole_waysBold (d + 0) [.ref 1, .int x1, .int x2] h Q) (hr2 : ∀ {x1 : Int32} {x2 : Int32} {h : am_H} {Q : am_Q} {res : Int32}, rc.2.2 h x1 x2 = some res → Q (some (.int res)) h → m_Hole_waysSafe (d + 0) [.ref 1, .int x1, .int x2] h Q) (e : f_Hole_waysAtBest_4 rc h x1 x2 = some res) (q : Q (some (.int res)) h) : am_W (X_Hole_waysAtBest (d + 0 + 1)) 4 [some (.ref 1), some (.int x1), some (.int x2)] [] h Q :=
  b_Hole_waysAtBest_4 (d := (d + 0 + 1)) (kt := fun c => (t_Hole_waysAtBest_19 hr0 hr1 hr2 (am_ift e c) q)) (kf := fun c => (t_Hole_waysAtBest_9 hr0 hr1 hr2 (am_ife e c) q))
theorem t_Hole_waysAtBest_0 {d : Nat} {rc : rc_Hole_waysAtBest} {x1 : Int32} {x2 : Int32} {h : am_H} {Q : am_Q} {res : Int32} (hr0 : ∀ {x1 : Int32} {x2 : Int32} {h : am_H} {Q : am_Q} {res : Int32}, rc.1 h x1 x2 = some res → Q (some (.int res)) h → m_Hole_waysAtBest (d + 0) [.ref 1, .int x1, .int x2] h Q) (hr1 : ∀ {x1 : Int32} {x2 : Int32} {h : am_H} {Q : am_Q} {res : Int32}, rc.2.1 h x1 x2 = some res → Q (some (.int res)) h → m_Hole_waysBold (d + 0) [.ref 1, .int x1, .int x2] h Q) (hr2 : ∀ {x1 : Int32} {x2 : Int32} {h : am_H} {Q : am_Q} {res : Int32}, rc.2.2 h x1 x2 = some res → Q (some (.int res)) h → m_Hole_waysSafe (d + 0) [.ref 1, .int x1, .int x2] h Q) (e : f_Hole_waysAtBest_0 rc h x1 x2 = some res) (q : Q (some (.int res)) h) : am_W (X_Hole_waysAtBest (d + 0 + 1)) 0 [some (.ref 1), some (.int x1), some (.int x2)] [] h Q :=
  b_Hole_waysAtBest_0 (d := (d + 0 + 1)) (kt := fun c => (t_Hole_waysAtBest_9 hr0 hr1 hr2 (am_ift e c) q)) (kf := fun c => (t_Hole_waysAtBest_4 hr0 hr1 hr2 (am_ife e c) q))
theorem t_Hole_waysBold_51 {d : Nat} {rc : rc_Hole_waysAtBest} {x1 : Int32} {x2 : Int32} {y2 : Int32} {y1 : Int32} {y0 : Int32} {h : am_H} {Q : am_Q} {res : Int32} (hr0 : ∀ {x1 : Int32} {x2 : Int32} {h : am_H} {Q : am_Q} {res : Int32}, rc.1 h x1 x2 = some res → Q (some (.int res)) h → m_Hole_waysAtBest (d + 0) [.ref 1, .int x1, .int x2] h Q) (hr1 : ∀ {x1 : Int32} {x2 : Int32} {h : am_H} {Q : am_Q} {res : Int32}, rc.2.1 h x1 x2 = some res → Q (some (.int res)) h → m_Hole_waysBold (d + 0) [.ref 1, .int x1, .int x2] h Q) (hr2 : ∀ {x1 : Int32} {x2 : Int32} {h : am_H} {Q : am_Q} {res : Int32}, rc.2.2 h x1 x2 = some res → Q (some (.int res)) h → m_Hole_waysSafe (d + 0) [.ref 1, .int x1, .int x2] h Q) (e : f_Hole_waysBold_51 rc h y2 y1 y0 = some res) (q : Q (some (.int res)) h) : am_W (X_Hole_waysBold (d + 0 + 1)) 51 [some (.ref 1), some (.int x1), some (.int x2)] [.int y2, .int y1, .int y0] h Q :=
  b_Hole_waysBold_51 (d := (d + 0 + 1)) (q := (am_rIp (v := (y0 + (y1 * y2))) e q))
theorem t_Hole_waysBold_29 {d : Nat} {rc : rc_Hole_waysAtBest} {x1 : Int32} {x2 : Int32} {y2 : Int32} {y1 : Int32} {y0 : Int32} {h : am_H} {Q : am_Q} {res : Int32} (hr0 : ∀ {x1 : Int32} {x2 : Int32} {h : am_H} {Q : am_Q} {res : Int32}, rc.1 h x1 x2 = some res → Q (some (.int res)) h → m_Hole_waysAtBest (d + 0) [.ref 1, .int x1, .int x2] h Q) (hr1 : ∀ {x1 : Int32} {x2 : Int32} {h : am_H} {Q : am_Q} {res : Int32}, rc.2.1 h x1 x2 = some res → Q (some (.int res)) h → m_Hole_waysBold (d + 0) [.ref 1, .int x1, .int x2] h Q) (hr2 : ∀ {x1 : Int32} {x2 : Int32} {h : am_H} {Q : am_Q} {res : Int32}, rc.2.2 h x1 x2 = some res → Q (some (.int res)) h → m_Hole_waysSafe (d + 0) [.ref 1, .int x1, .int x2] h Q) (e : f_Hole_waysBold_29 rc h x1 x2 y2 y1 y0 = some res) (q : Q (some (.int res)) h) : am_W (X_Hole_waysBold (d + 0 + 1)) 29 [some (.ref 1), some (.int x1), some (.int x2)] [.int y2, .int y1, .int y0] h Q :=
  (am_bd e).elim fun p hp => b_Hole_waysBold_29 (d := (d + 0)) (k := hr0 hp.1 (t_Hole_waysBold_51 hr0 hr1 hr2 hp.2 q))
theorem t_Hole_waysBold_14 {d : Nat} {rc : rc_Hole_waysAtBest} {x1 : Int32} {x2 : Int32} {y1 : Int32} {y0 : Int32} {h : am_H} {Q : am_Q} {res : Int32} (hr0 : ∀ {x1 : Int32} {x2 : Int32} {h : am_H} {Q : am_Q} {res : Int32}, rc.1 h x1 x2 = some res → Q (some (.int res)) h → m_Hole_waysAtBest (d + 0) [.ref 1, .int x1, .int x2] h Q) (hr1 : ∀ {x1 : Int32} {x2 : Int32} {h : am_H} {Q : am_Q} {res : Int32}, rc.2.1 h x1 x2 = some res → Q (some (.int res)) h → m_Hole_waysBold (d + 0) [.ref 1, .int x1, .int x2] h Q) (hr2 : ∀ {x1 : Int32} {x2 : Int32} {h : am_H} {Q : am_Q} {res : Int32}, rc.2.2 h x1 x2 = some res → Q (some (.int res)) h → m_Hole_waysSafe (d + 0) [.ref 1, .int x1, .int x2] h Q) (e : f_Hole_waysBold_14 rc h x1 x2 y1 y0 = some res) (q : Q (some (.int res)) h) : am_W (X_Hole_waysBold (d + 0 + 1)) 14 [some (.ref 1), some (.int x1), some (.int x2)] [.int y1, .int y0] h Q :=
  (am_bd e).elim fun p hp => b_Hole_waysBold_14 (d := (d + 0)) (k := hr0 hp.1 (t_Hole_waysBold_29 hr0 hr1 hr2 hp.2 q))
theorem t_Hole_waysBold_0 {d : Nat} {rc : rc_Hole_waysAtBest} {x1 : Int32} {x2 : Int32} {h : am_H} {Q : am_Q} {res : Int32} (hr0 : ∀ {x1 : Int32} {x2 : Int32} {h : am_H} {Q : am_Q} {res : Int32}, rc.1 h x1 x2 = some res → Q (some (.int res)) h → m_Hole_waysAtBest (d + 0) [.ref 1, .int x1, .int x2] h Q) (hr1 : ∀ {x1 : Int32} {x2 : Int32} {h : am_H} {Q : am_Q} {res : Int32}, rc.2.1 h x1 x2 = some res → Q (some (.int res)) h → m_Hole_waysBold (d + 0) [.ref 1, .int x1, .int x2] h Q) (hr2 : ∀ {x1 : Int32} {x2 : Int32} {h : am_H} {Q : am_Q} {res : Int32}, rc.2.2 h x1 x2 = some res → Q (some (.int res)) h → m_Hole_waysSafe (d + 0) [.ref 1, .int x1, .int x2] h Q) (e : f_Hole_waysBold_0 rc h x1 x2 = some res) (q : Q (some (.int res)) h) : am_W (X_Hole_waysBold (d + 0 + 1)) 0 [some (.ref 1), some (.int x1), some (.int x2)] [] h Q :=
  (am_bd e).elim fun p hp => b_Hole_waysBold_0 (d := (d + 0)) (k := hr0 hp.1 (t_Hole_waysBold_14 hr0 hr1 hr2 hp.2 q))
theorem t_Hole_waysSafe_10 {d : Nat} {rc : rc_Hole_waysAtBest} {x1 : Int32} {x2 : Int32} {y1 : Int32} {y0 : Int32} {h : am_H} {Q : am_Q} {res : Int32} (hr0 : ∀ {x1 : Int32} {x2 : Int32} {h : am_H} {Q : am_Q} {res : Int32}, rc.1 h x1 x2 = some res → Q (some (.int res)) h → m_Hole_waysAtBest (d + 0) [.ref 1, .int x1, .int x2] h Q) (hr1 : ∀ {x1 : Int32} {x2 : Int32} {h : am_H} {Q : am_Q} {res : Int32}, rc.2.1 h x1 x2 = some res → Q (some (.int res)) h → m_Hole_waysBold (d + 0) [.ref 1, .int x1, .int x2] h Q) (hr2 : ∀ {x1 : Int32} {x2 : Int32} {h : am_H} {Q : am_Q} {res : Int32}, rc.2.2 h x1 x2 = some res → Q (some (.int res)) h → m_Hole_waysSafe (d + 0) [.ref 1, .int x1, .int x2] h Q) (e : f_Hole_waysSafe_10 rc h y1 y0 = some res) (q : Q (some (.int res)) h) : am_W (X_Hole_waysSafe (d + 0 + 1)) 10 [some (.ref 1), some (.int x1), some (.int x2)] [.int y1, .int y0] h Q :=
  b_Hole_waysSafe_10 (d := (d + 0 + 1)) (q := (am_rIp (v := (y0 * y1)) e q))
theorem t_Hole_waysSafe_0 {d : Nat} {rc : rc_Hole_waysAtBest} {x1 : Int32} {x2 : Int32} {h : am_H} {Q : am_Q} {res : Int32} (hr0 : ∀ {x1 : Int32} {x2 : Int32} {h : am_H} {Q : am_Q} {res : Int32}, rc.1 h x1 x2 = some res → Q (some (.int res)) h → m_Hole_waysAtBest (d + 0) [.ref 1, .int x1, .int x2] h Q) (hr1 : ∀ {x1 : Int32} {x2 : Int32} {h : am_H} {Q : am_Q} {res : Int32}, rc.2.1 h x1 x2 = some res → Q (some (.int res)) h → m_Hole_waysBold (d + 0) [.ref 1, .int x1, .int x2] h Q) (hr2 : ∀ {x1 : Int32} {x2 : Int32} {h : am_H} {Q : am_Q} {res : Int32}, rc.2.2 h x1 x2 = some res → Q (some (.int res)) h → m_Hole_waysSafe (d + 0) [.ref 1, .int x1, .int x2] h Q) (e : f_Hole_waysSafe_0 rc h x1 x2 = some res) (q : Q (some (.int res)) h) : am_W (X_Hole_waysSafe (d + 0 + 1)) 0 [some (.ref 1), some (.int x1), some (.int x2)] [] h Q :=
  (am_bd e).elim fun p hp => b_Hole_waysSafe_0 (d := (d + 0)) (k := hr0 hp.1 (t_Hole_waysSafe_10 hr0 hr1 hr2 hp.2 q))
theorem s_Hole_waysAtBest : ∀ (n : Nat) {d D : Nat}, D = d + n + 0 → (∀ {x1 : Int32} {x2 : Int32} {h : am_H} {Q : am_Q} {res : Int32}, (g_Hole_waysAtBest n).1 h x1 x2 = some res → Q (some (.int res)) h → m_Hole_waysAtBest D [.ref 1, .int x1, .int x2] h Q) ∧ (∀ {x1 : Int32} {x2 : Int32} {h : am_H} {Q : am_Q} {res : Int32}, (g_Hole_waysAtBest n).2.1 h x1 x2 = some res → Q (some (.int res)) h → m_Hole_waysBold D [.ref 1, .int x1, .int x2] h Q) ∧ (∀ {x1 : Int32} {x2 : Int32} {h : am_H} {Q : am_Q} {res : Int32}, (g_Hole_waysAtBest n).2.2 h x1 x2 = some res → Q (some (.int res)) h → m_Hole_waysSafe D [.ref 1, .int x1, .int x2] h Q) := by
  intro n
  induction n with
  | zero =>
    intro d D hD
    refine ⟨?_, ?_, ?_⟩
    · intro x1 x2 h Q res  e q; exact am_nn e
    · intro x1 x2 h Q res  e q; exact am_nn e
    · intro x1 x2 h Q res  e q; exact am_nn e
  | succ n ih =>
    intro d D hD
    obtain rfl : D = d + n + 0 + 1 := by omega
    obtain ⟨i0, i1, i2⟩ := ih (d := d) rfl
    refine ⟨?_, ?_, ?_⟩
    · intro x1 x2 h Q res  e q; exact e_Hole_waysAtBest (t_Hole_waysAtBest_0 (d := d + n) i0 i1 i2 e q)
    · intro x1 x2 h Q res  e q; exact e_Hole_waysBold (t_Hole_waysBold_0 (d := d + n) i0 i1 i2 e q)
    · intro x1 x2 h Q res  e q; exact e_Hole_waysSafe (t_Hole_waysSafe_0 (d := d + n) i0 i1 i2 e q)

theorem c_Hole_waysAtBest {d : Nat} {x1 : Int32} {x2 : Int32} {h : am_H} {Q : am_Q} {res : Int32} (e : f_Hole_waysAtBest h x1 x2 = some res) (q : Q (some (.int res)) h) : m_Hole_waysAtBest (d + 64) [.ref 1, .int x1, .int x2] h Q :=
  (s_Hole_waysAtBest 64 (d := d) (D := d + 64) rfl).1 e q
theorem c_Hole_waysBold {d : Nat} {x1 : Int32} {x2 : Int32} {h : am_H} {Q : am_Q} {res : Int32} (e : f_Hole_waysBold h x1 x2 = some res) (q : Q (some (.int res)) h) : m_Hole_waysBold (d + 64) [.ref 1, .int x1, .int x2] h Q :=
  (s_Hole_waysAtBest 64 (d := d) (D := d + 64) rfl).2.1 e q
theorem c_Hole_waysSafe {d : Nat} {x1 : Int32} {x2 : Int32} {h : am_H} {Q : am_Q} {res : Int32} (e : f_Hole_waysSafe h x1 x2 = some res) (q : Q (some (.int res)) h) : m_Hole_waysSafe (d + 64) [.ref 1, .int x1, .int x2] h Q :=
  (s_Hole_waysAtBest 64 (d := d) (D := d + 64) rfl).2.2 e q
theorem d_Hole_isBoldBetter_0 : decode prog_5_method_37_code 0 = .ok (.aload_n 0, 1) := by decide +kernel
theorem d_Hole_isBoldBetter_1 : decode prog_5_method_37_code 1 = .ok (.iload_n 1, 1) := by decide +kernel
theorem d_Hole_isBoldBetter_2 : decode prog_5_method_37_code 2 = .ok (.iload_n 2, 1) := by decide +kernel
theorem d_Hole_isBoldBetter_3 : decode prog_5_method_37_code 3 = .ok (.invokevirtual 129, 3) := by decide +kernel
theorem d_Hole_isBoldBetter_6 : decode prog_5_method_37_code 6 = .ok (.aload_n 0, 1) := by decide +kernel
theorem d_Hole_isBoldBetter_7 : decode prog_5_method_37_code 7 = .ok (.iload_n 1, 1) := by decide +kernel
theorem d_Hole_isBoldBetter_8 : decode prog_5_method_37_code 8 = .ok (.iload_n 2, 1) := by decide +kernel
theorem d_Hole_isBoldBetter_9 : decode prog_5_method_37_code 9 = .ok (.invokevirtual 132, 3) := by decide +kernel
theorem d_Hole_isBoldBetter_12 : decode prog_5_method_37_code 12 = .ok (.if_icmp .le 7, 3) := by decide +kernel
theorem d_Hole_isBoldBetter_15 : decode prog_5_method_37_code 15 = .ok (.iconst 1, 1) := by decide +kernel
theorem d_Hole_isBoldBetter_16 : decode prog_5_method_37_code 16 = .ok (.goto 4, 3) := by decide +kernel
theorem d_Hole_isBoldBetter_19 : decode prog_5_method_37_code 19 = .ok (.iconst 0, 1) := by decide +kernel
theorem d_Hole_isBoldBetter_20 : decode prog_5_method_37_code 20 = .ok (.ireturn, 1) := by decide +kernel
theorem b_Hole_isBoldBetter_0 {d : Nat} {x1 : Int32} {x2 : Int32} {h : am_H} {Q : am_Q} (k : m_Hole_waysBold d [.ref 1, .int x1, .int x2] h (fun r hh => am_W (X_Hole_isBoldBetter (d + 1)) 6 [some (.ref 1), some (.int x1), some (.int x2)] (r.toList ++ []) hh Q)) : am_W (X_Hole_isBoldBetter (d + 1)) 0 [some (.ref 1), some (.int x1), some (.int x2)] [] h Q :=
  am_aload_n d_Hole_isBoldBetter_0 rfl (i := 0) rfl <|
    am_iload_n d_Hole_isBoldBetter_1 rfl (i := 1) rfl <|
    am_iload_n d_Hole_isBoldBetter_2 rfl (i := 2) rfl <|
    am_callV (vs := [.int x1, .int x2]) (st := []) (k := 1) (ci := 1) rfl d_Hole_isBoldBetter_3 rfl rfl w_889 w_891 w_19 w_84 w_892 p_Hole_waysBold (Nat.le_of_ble_eq_true rfl) (Nat.le_of_ble_eq_true rfl) rfl k
theorem b_Hole_isBoldBetter_6 {d : Nat} {x1 : Int32} {x2 : Int32} {y0 : Int32} {h : am_H} {Q : am_Q} (k : m_Hole_waysSafe d [.ref 1, .int x1, .int x2] h (fun r hh => am_W (X_Hole_isBoldBetter (d + 1)) 12 [some (.ref 1), some (.int x1), some (.int x2)] (r.toList ++ [.int y0]) hh Q)) : am_W (X_Hole_isBoldBetter (d + 1)) 6 [some (.ref 1), some (.int x1), some (.int x2)] [.int y0] h Q :=
  am_aload_n d_Hole_isBoldBetter_6 rfl (i := 0) rfl <|
    am_iload_n d_Hole_isBoldBetter_7 rfl (i := 1) rfl <|
    am_iload_n d_Hole_isBoldBetter_8 rfl (i := 2) rfl <|
    am_callV (vs := [.int x1, .int x2]) (st := [.int y0]) (k := 1) (ci := 1) rfl d_Hole_isBoldBetter_9 rfl rfl w_897 w_899 w_21 w_84 w_900 p_Hole_waysSafe (Nat.le_of_ble_eq_true rfl) (Nat.le_of_ble_eq_true rfl) rfl k
theorem b_Hole_isBoldBetter_12 {d : Nat} {x1 : Int32} {x2 : Int32} {y1 : Int32} {y0 : Int32} {h : am_H} {Q : am_Q} (kt : y0 ≤ y1 → am_W (X_Hole_isBoldBetter d) 19 [some (.ref 1), some (.int x1), some (.int x2)] [] h Q) (kf : ¬ y0 ≤ y1 → am_W (X_Hole_isBoldBetter d) 15 [some (.ref 1), some (.int x1), some (.int x2)] [] h Q) : am_W (X_Hole_isBoldBetter d) 12 [some (.ref 1), some (.int x1), some (.int x2)] [.int y1, .int y0] h Q :=
  am_icmp_le (tgt := 19) d_Hole_isBoldBetter_12 (by decide) kt kf
theorem b_Hole_isBoldBetter_15 {d : Nat} {x1 : Int32} {x2 : Int32} {h : am_H} {Q : am_Q} (q : Q (some (.int 1)) h) : am_W (X_Hole_isBoldBetter d) 15 [some (.ref 1), some (.int x1), some (.int x2)] [] h Q :=
  am_iconst (v := 1) d_Hole_isBoldBetter_15 (by decide) <|
    am_goto (tgt := 20) d_Hole_isBoldBetter_16 (by decide) <|
    am_zret (ty := .boolean) rfl (by decide) d_Hole_isBoldBetter_20 q
theorem b_Hole_isBoldBetter_19 {d : Nat} {x1 : Int32} {x2 : Int32} {h : am_H} {Q : am_Q} (q : Q (some (.int 0)) h) : am_W (X_Hole_isBoldBetter d) 19 [some (.ref 1), some (.int x1), some (.int x2)] [] h Q :=
  am_iconst (v := 0) d_Hole_isBoldBetter_19 (by decide) <|
    am_zret (ty := .boolean) rfl (by decide) d_Hole_isBoldBetter_20 q
theorem t_Hole_isBoldBetter_19 {d : Nat} {x1 : Int32} {x2 : Int32} {h : am_H} {Q : am_Q} {res : Bool} (e : f_Hole_isBoldBetter_19 h = some res) (q : Q (some (.int (am_b res))) h) : am_W (X_Hole_isBoldBetter (d + 65)) 19 [some (.ref 1), some (.int x1), some (.int x2)] [] h Q :=
  b_Hole_isBoldBetter_19 (d := (d + 65)) (q := (am_rZp (v := false) e q))
theorem t_Hole_isBoldBetter_15 {d : Nat} {x1 : Int32} {x2 : Int32} {h : am_H} {Q : am_Q} {res : Bool} (e : f_Hole_isBoldBetter_15 h = some res) (q : Q (some (.int (am_b res))) h) : am_W (X_Hole_isBoldBetter (d + 65)) 15 [some (.ref 1), some (.int x1), some (.int x2)] [] h Q :=
  b_Hole_isBoldBetter_15 (d := (d + 65)) (q := (am_rZp (v := true) e q))
theorem t_Hole_isBoldBetter_12 {d : Nat} {x1 : Int32} {x2 : Int32} {y1 : Int32} {y0 : Int32} {h : am_H} {Q : am_Q} {res : Bool} (e : f_Hole_isBoldBetter_12 h y1 y0 = some res) (q : Q (some (.int (am_b res))) h) : am_W (X_Hole_isBoldBetter (d + 65)) 12 [some (.ref 1), some (.int x1), some (.int x2)] [.int y1, .int y0] h Q :=
  b_Hole_isBoldBetter_12 (d := (d + 65)) (kt := fun c => (t_Hole_isBoldBetter_19 (am_ift e c) q)) (kf := fun c => (t_Hole_isBoldBetter_15 (am_ife e c) q))
theorem t_Hole_isBoldBetter_6 {d : Nat} {x1 : Int32} {x2 : Int32} {y0 : Int32} {h : am_H} {Q : am_Q} {res : Bool} (e : f_Hole_isBoldBetter_6 h x1 x2 y0 = some res) (q : Q (some (.int (am_b res))) h) : am_W (X_Hole_isBoldBetter (d + 65)) 6 [some (.ref 1), some (.int x1), some (.int x2)] [.int y0] h Q :=
  (am_bd e).elim fun p hp => b_Hole_isBoldBetter_6 (d := (d + 64)) (k := c_Hole_waysSafe (d := d) hp.1 (t_Hole_isBoldBetter_12 hp.2 q))
theorem t_Hole_isBoldBetter_0 {d : Nat} {x1 : Int32} {x2 : Int32} {h : am_H} {Q : am_Q} {res : Bool} (e : f_Hole_isBoldBetter h x1 x2 = some res) (q : Q (some (.int (am_b res))) h) : am_W (X_Hole_isBoldBetter (d + 65)) 0 [some (.ref 1), some (.int x1), some (.int x2)] [] h Q :=
  (am_bd e).elim fun p hp => b_Hole_isBoldBetter_0 (d := (d + 64)) (k := c_Hole_waysBold (d := d) hp.1 (t_Hole_isBoldBetter_6 hp.2 q))
theorem c_Hole_isBoldBetter {d : Nat} {x1 : Int32} {x2 : Int32} {h : am_H} {Q : am_Q} {res : Bool} (e : f_Hole_isBoldBetter h x1 x2 = some res) (q : Q (some (.int (am_b res))) h) : m_Hole_isBoldBetter (d + 65) [.ref 1, .int x1, .int x2] h Q :=
  e_Hole_isBoldBetter (t_Hole_isBoldBetter_0 e q)
theorem d_Hole_waysToBeEven_0 : decode prog_5_method_36_code 0 = .ok (.aload_n 0, 1) := by decide +kernel
theorem d_Hole_waysToBeEven_1 : decode prog_5_method_36_code 1 = .ok (.iload_n 1, 1) := by decide +kernel
theorem d_Hole_waysToBeEven_2 : decode prog_5_method_36_code 2 = .ok (.iload_n 2, 1) := by decide +kernel
theorem d_Hole_waysToBeEven_3 : decode prog_5_method_36_code 3 = .ok (.invokevirtual 126, 3) := by decide +kernel
theorem d_Hole_waysToBeEven_6 : decode prog_5_method_36_code 6 = .ok (.ireturn, 1) := by decide +kernel
theorem b_Hole_waysToBeEven_0 {d : Nat} {x1 : Int32} {x2 : Int32} {h : am_H} {Q : am_Q} (k : m_Hole_waysAtBest d [.ref 1, .int x1, .int x2] h (fun r hh => am_W (X_Hole_waysToBeEven (d + 1)) 6 [some (.ref 1), some (.int x1), some (.int x2)] (r.toList ++ []) hh Q)) : am_W (X_Hole_waysToBeEven (d + 1)) 0 [some (.ref 1), some (.int x1), some (.int x2)] [] h Q :=
  am_aload_n d_Hole_waysToBeEven_0 rfl (i := 0) rfl <|
    am_iload_n d_Hole_waysToBeEven_1 rfl (i := 1) rfl <|
    am_iload_n d_Hole_waysToBeEven_2 rfl (i := 2) rfl <|
    am_callV (vs := [.int x1, .int x2]) (st := []) (k := 1) (ci := 1) rfl d_Hole_waysToBeEven_3 rfl rfl w_893 w_895 w_20 w_84 w_896 p_Hole_waysAtBest (Nat.le_of_ble_eq_true rfl) (Nat.le_of_ble_eq_true rfl) rfl k
theorem b_Hole_waysToBeEven_6 {d : Nat} {x1 : Int32} {x2 : Int32} {y0 : Int32} {h : am_H} {Q : am_Q} (q : Q (some (.int y0)) h) : am_W (X_Hole_waysToBeEven d) 6 [some (.ref 1), some (.int x1), some (.int x2)] [.int y0] h Q :=
  am_iret rfl d_Hole_waysToBeEven_6 q
theorem t_Hole_waysToBeEven_6 {d : Nat} {x1 : Int32} {x2 : Int32} {y0 : Int32} {h : am_H} {Q : am_Q} {res : Int32} (e : f_Hole_waysToBeEven_6 h y0 = some res) (q : Q (some (.int res)) h) : am_W (X_Hole_waysToBeEven (d + 65)) 6 [some (.ref 1), some (.int x1), some (.int x2)] [.int y0] h Q :=
  b_Hole_waysToBeEven_6 (d := (d + 65)) (q := (am_rIp (v := y0) e q))
theorem t_Hole_waysToBeEven_0 {d : Nat} {x1 : Int32} {x2 : Int32} {h : am_H} {Q : am_Q} {res : Int32} (e : f_Hole_waysToBeEven h x1 x2 = some res) (q : Q (some (.int res)) h) : am_W (X_Hole_waysToBeEven (d + 65)) 0 [some (.ref 1), some (.int x1), some (.int x2)] [] h Q :=
  (am_bd e).elim fun p hp => b_Hole_waysToBeEven_0 (d := (d + 64)) (k := c_Hole_waysAtBest (d := d) hp.1 (t_Hole_waysToBeEven_6 hp.2 q))
theorem c_Hole_waysToBeEven {d : Nat} {x1 : Int32} {x2 : Int32} {h : am_H} {Q : am_Q} {res : Int32} (e : f_Hole_waysToBeEven h x1 x2 = some res) (q : Q (some (.int res)) h) : m_Hole_waysToBeEven (d + 65) [.ref 1, .int x1, .int x2] h Q :=
  e_Hole_waysToBeEven (t_Hole_waysToBeEven_0 e q)
theorem d_Club_atPin_0 : decode prog_1_method_17_code 0 = .ok (.iload_n 1, 1) := by decide +kernel
theorem d_Club_atPin_1 : decode prog_1_method_17_code 1 = .ok (.bipush 10, 2) := by decide +kernel
theorem d_Club_atPin_3 : decode prog_1_method_17_code 3 = .ok (.idiv, 1) := by decide +kernel
theorem d_Club_atPin_4 : decode prog_1_method_17_code 4 = .ok (.bipush 9, 2) := by decide +kernel
theorem d_Club_atPin_6 : decode prog_1_method_17_code 6 = .ok (.isub, 1) := by decide +kernel
theorem d_Club_atPin_7 : decode prog_1_method_17_code 7 = .ok (.istore_n 3, 1) := by decide +kernel
theorem d_Club_atPin_8 : decode prog_1_method_17_code 8 = .ok (.iload_n 1, 1) := by decide +kernel
theorem d_Club_atPin_9 : decode prog_1_method_17_code 9 = .ok (.bipush 10, 2) := by decide +kernel
theorem d_Club_atPin_11 : decode prog_1_method_17_code 11 = .ok (.irem, 1) := by decide +kernel
theorem d_Club_atPin_12 : decode prog_1_method_17_code 12 = .ok (.istore 4, 2) := by decide +kernel
theorem d_Club_atPin_14 : decode prog_1_method_17_code 14 = .ok (.iload_n 1, 1) := by decide +kernel
theorem d_Club_atPin_15 : decode prog_1_method_17_code 15 = .ok (.ifCond .lt 25, 3) := by decide +kernel
theorem d_Club_atPin_18 : decode prog_1_method_17_code 18 = .ok (.iload_n 3, 1) := by decide +kernel
theorem d_Club_atPin_19 : decode prog_1_method_17_code 19 = .ok (.bipush 9, 2) := by decide +kernel
theorem d_Club_atPin_21 : decode prog_1_method_17_code 21 = .ok (.if_icmp .gt 19, 3) := by decide +kernel
theorem d_Club_atPin_24 : decode prog_1_method_17_code 24 = .ok (.iload 4, 2) := by decide +kernel
theorem d_Club_atPin_26 : decode prog_1_method_17_code 26 = .ok (.iconst 1, 1) := by decide +kernel
theorem d_Club_atPin_27 : decode prog_1_method_17_code 27 = .ok (.if_icmp .lt 13, 3) := by decide +kernel
theorem d_Club_atPin_30 : decode prog_1_method_17_code 30 = .ok (.iload 4, 2) := by decide +kernel
theorem d_Club_atPin_32 : decode prog_1_method_17_code 32 = .ok (.iconst 2, 1) := by decide +kernel
theorem d_Club_atPin_33 : decode prog_1_method_17_code 33 = .ok (.if_icmp .gt 7, 3) := by decide +kernel
theorem d_Club_atPin_36 : decode prog_1_method_17_code 36 = .ok (.iconst 1, 1) := by decide +kernel
theorem d_Club_atPin_37 : decode prog_1_method_17_code 37 = .ok (.goto 4, 3) := by decide +kernel
theorem d_Club_atPin_40 : decode prog_1_method_17_code 40 = .ok (.iconst 0, 1) := by decide +kernel
theorem d_Club_atPin_41 : decode prog_1_method_17_code 41 = .ok (.istore 5, 2) := by decide +kernel
theorem d_Club_atPin_43 : decode prog_1_method_17_code 43 = .ok (.iload 5, 2) := by decide +kernel
theorem d_Club_atPin_45 : decode prog_1_method_17_code 45 = .ok (.ifCond .eq 12, 3) := by decide +kernel
theorem d_Club_atPin_48 : decode prog_1_method_17_code 48 = .ok (.iload_n 2, 1) := by decide +kernel
theorem d_Club_atPin_49 : decode prog_1_method_17_code 49 = .ok (.ifCond .lt 8, 3) := by decide +kernel
theorem d_Club_atPin_52 : decode prog_1_method_17_code 52 = .ok (.iload_n 2, 1) := by decide +kernel
theorem d_Club_atPin_53 : decode prog_1_method_17_code 53 = .ok (.iconst 2, 1) := by decide +kernel
theorem d_Club_atPin_54 : decode prog_1_method_17_code 54 = .ok (.if_icmp .le 7, 3) := by decide +kernel
theorem d_Club_atPin_57 : decode prog_1_method_17_code 57 = .ok (.ldc2_w 155, 3) := by decide +kernel
theorem d_Club_atPin_60 : decode prog_1_method_17_code 60 = .ok (.lreturn, 1) := by decide +kernel
theorem d_Club_atPin_61 : decode prog_1_method_17_code 61 = .ok (.iload_n 2, 1) := by decide +kernel
theorem d_Club_atPin_62 : decode prog_1_method_17_code 62 = .ok (.iconst 2, 1) := by decide +kernel
theorem d_Club_atPin_63 : decode prog_1_method_17_code 63 = .ok (.if_icmp .ne 22, 3) := by decide +kernel
theorem d_Club_atPin_66 : decode prog_1_method_17_code 66 = .ok (.aload_n 0, 1) := by decide +kernel
theorem d_Club_atPin_67 : decode prog_1_method_17_code 67 = .ok (.getfield 12, 3) := by decide +kernel
theorem d_Club_atPin_70 : decode prog_1_method_17_code 70 = .ok (.iload_n 3, 1) := by decide +kernel
theorem d_Club_atPin_71 : decode prog_1_method_17_code 71 = .ok (.iload 4, 2) := by decide +kernel
theorem d_Club_atPin_73 : decode prog_1_method_17_code 73 = .ok (.invokevirtual 219, 3) := by decide +kernel
theorem d_Club_atPin_76 : decode prog_1_method_17_code 76 = .ok (.ifCond .eq 7, 3) := by decide +kernel
theorem d_Club_atPin_79 : decode prog_1_method_17_code 79 = .ok (.lconst 1, 1) := by decide +kernel
theorem d_Club_atPin_80 : decode prog_1_method_17_code 80 = .ok (.goto 4, 3) := by decide +kernel
theorem d_Club_atPin_83 : decode prog_1_method_17_code 83 = .ok (.lconst 0, 1) := by decide +kernel
theorem d_Club_atPin_84 : decode prog_1_method_17_code 84 = .ok (.lreturn, 1) := by decide +kernel
theorem d_Club_atPin_85 : decode prog_1_method_17_code 85 = .ok (.aload_n 0, 1) := by decide +kernel
theorem d_Club_atPin_86 : decode prog_1_method_17_code 86 = .ok (.getfield 12, 3) := by decide +kernel
theorem d_Club_atPin_89 : decode prog_1_method_17_code 89 = .ok (.iload_n 3, 1) := by decide +kernel
theorem d_Club_atPin_90 : decode prog_1_method_17_code 90 = .ok (.iload 4, 2) := by decide +kernel
theorem d_Club_atPin_92 : decode prog_1_method_17_code 92 = .ok (.invokevirtual 222, 3) := by decide +kernel
theorem d_Club_atPin_95 : decode prog_1_method_17_code 95 = .ok (.i2l, 1) := by decide +kernel
theorem d_Club_atPin_96 : decode prog_1_method_17_code 96 = .ok (.iload 4, 2) := by decide +kernel
theorem d_Club_atPin_98 : decode prog_1_method_17_code 98 = .ok (.iconst 1, 1) := by decide +kernel
theorem d_Club_atPin_99 : decode prog_1_method_17_code 99 = .ok (.if_icmp .ne 9, 3) := by decide +kernel
theorem d_Club_atPin_102 : decode prog_1_method_17_code 102 = .ok (.ldc2_w 225, 3) := by decide +kernel
theorem d_Club_atPin_105 : decode prog_1_method_17_code 105 = .ok (.goto 6, 3) := by decide +kernel
theorem d_Club_atPin_108 : decode prog_1_method_17_code 108 = .ok (.ldc2_w 227, 3) := by decide +kernel
theorem d_Club_atPin_111 : decode prog_1_method_17_code 111 = .ok (.iload_n 2, 1) := by decide +kernel
theorem d_Club_atPin_112 : decode prog_1_method_17_code 112 = .ok (.invokestatic 170, 3) := by decide +kernel
theorem d_Club_atPin_115 : decode prog_1_method_17_code 115 = .ok (.lreturn, 1) := by decide +kernel
theorem b_Club_atPin_0 {d : Nat} {x1 : Int32} {x2 : Int32} {h : am_H} {Q : am_Q} (kt : x1 < 0 → am_W (X_Club_atPin d) 40 [some (.ref 0), some (.int x1), some (.int x2), some (.int ((x1 / 10) - 9)), some (.int (x1 - x1 / 10 * 10)), none] [] h Q) (kf : ¬ x1 < 0 → am_W (X_Club_atPin d) 18 [some (.ref 0), some (.int x1), some (.int x2), some (.int ((x1 / 10) - 9)), some (.int (x1 - x1 / 10 * 10)), none] [] h Q) : am_W (X_Club_atPin d) 0 [some (.ref 0), some (.int x1), some (.int x2), none, none, none] [] h Q :=
  am_iload_n d_Club_atPin_0 rfl (i := 1) rfl <|
    am_bipush (v := 10) d_Club_atPin_1 (by decide) <|
    am_idiv d_Club_atPin_3 (by decide) <|
    am_bipush (v := 9) d_Club_atPin_4 (by decide) <|
    am_isub d_Club_atPin_6 <|
    am_istore_n (ls' := [some (.ref 0), some (.int x1), some (.int x2), some (.int ((x1 / 10) - 9)), none, none]) d_Club_atPin_7 rfl (Nat.le_of_ble_eq_true rfl) rfl <|
    am_iload_n d_Club_atPin_8 rfl (i := 1) rfl <|
    am_bipush (v := 10) d_Club_atPin_9 (by decide) <|
    am_irem d_Club_atPin_11 (by decide) <|
    am_istore (ls' := [some (.ref 0), some (.int x1), some (.int x2), some (.int ((x1 / 10) - 9)), some (.int (x1 - x1 / 10 * 10)), none]) d_Club_atPin_12 (Nat.le_of_ble_eq_true rfl) rfl <|
    am_iload_n d_Club_atPin_14 rfl (i := 1) rfl <|
    am_if_lt (tgt := 40) d_Club_atPin_15 (by decide) kt kf
theorem b_Club_atPin_18 {d : Nat} {x1 : Int32} {x2 : Int32} {x3 : Int32} {x4 : Int32} {h : am_H} {Q : am_Q} (kt : 9 < x3 → am_W (X_Club_atPin d) 40 [some (.ref 0), some (.int x1), some (.int x2), some (.int x3), some (.int x4), none] [] h Q) (kf : ¬ 9 < x3 → am_W (X_Club_atPin d) 24 [some (.ref 0), some (.int x1), some (.int x2), some (.int x3), some (.int x4), none] [] h Q) : am_W (X_Club_atPin d) 18 [some (.ref 0), some (.int x1), some (.int x2), some (.int x3), some (.int x4), none] [] h Q :=
  am_iload_n d_Club_atPin_18 rfl (i := 3) rfl <|
    am_bipush (v := 9) d_Club_atPin_19 (by decide) <|
    am_icmp_gt (tgt := 40) d_Club_atPin_21 (by decide) kt kf
theorem b_Club_atPin_24 {d : Nat} {x1 : Int32} {x2 : Int32} {x3 : Int32} {x4 : Int32} {h : am_H} {Q : am_Q} (kt : x4 < 1 → am_W (X_Club_atPin d) 40 [some (.ref 0), some (.int x1), some (.int x2), some (.int x3), some (.int x4), none] [] h Q) (kf : ¬ x4 < 1 → am_W (X_Club_atPin d) 30 [some (.ref 0), some (.int x1), some (.int x2), some (.int x3), some (.int x4), none] [] h Q) : am_W (X_Club_atPin d) 24 [some (.ref 0), some (.int x1), some (.int x2), some (.int x3), some (.int x4), none] [] h Q :=
  am_iload d_Club_atPin_24 rfl <|
    am_iconst (v := 1) d_Club_atPin_26 (by decide) <|
    am_icmp_lt (tgt := 40) d_Club_atPin_27 (by decide) kt kf
theorem b_Club_atPin_30 {d : Nat} {x1 : Int32} {x2 : Int32} {x3 : Int32} {x4 : Int32} {h : am_H} {Q : am_Q} (kt : 2 < x4 → am_W (X_Club_atPin d) 40 [some (.ref 0), some (.int x1), some (.int x2), some (.int x3), some (.int x4), none] [] h Q) (kf : ¬ 2 < x4 → am_W (X_Club_atPin d) 36 [some (.ref 0), some (.int x1), some (.int x2), some (.int x3), some (.int x4), none] [] h Q) : am_W (X_Club_atPin d) 30 [some (.ref 0), some (.int x1), some (.int x2), some (.int x3), some (.int x4), none] [] h Q :=
  am_iload d_Club_atPin_30 rfl <|
    am_iconst (v := 2) d_Club_atPin_32 (by decide) <|
    am_icmp_gt (tgt := 40) d_Club_atPin_33 (by decide) kt kf
theorem b_Club_atPin_36 {d : Nat} {x1 : Int32} {x2 : Int32} {x3 : Int32} {x4 : Int32} {h : am_H} {Q : am_Q} (k : am_W (X_Club_atPin d) 41 [some (.ref 0), some (.int x1), some (.int x2), some (.int x3), some (.int x4), none] [.int 1] h Q) : am_W (X_Club_atPin d) 36 [some (.ref 0), some (.int x1), some (.int x2), some (.int x3), some (.int x4), none] [] h Q :=
  am_iconst (v := 1) d_Club_atPin_36 (by decide) <|
    am_goto (tgt := 41) d_Club_atPin_37 (by decide) k
theorem b_Club_atPin_40 {d : Nat} {x1 : Int32} {x2 : Int32} {x3 : Int32} {x4 : Int32} {h : am_H} {Q : am_Q} (k : am_W (X_Club_atPin d) 41 [some (.ref 0), some (.int x1), some (.int x2), some (.int x3), some (.int x4), none] [.int 0] h Q) : am_W (X_Club_atPin d) 40 [some (.ref 0), some (.int x1), some (.int x2), some (.int x3), some (.int x4), none] [] h Q :=
  am_iconst (v := 0) d_Club_atPin_40 (by decide) <|
    k
theorem b_Club_atPin_41 {d : Nat} {x1 : Int32} {x2 : Int32} {x3 : Int32} {x4 : Int32} {y0 : Int32} {h : am_H} {Q : am_Q} (kt : y0 = 0 → am_W (X_Club_atPin d) 57 [some (.ref 0), some (.int x1), some (.int x2), some (.int x3), some (.int x4), some (.int y0)] [] h Q) (kf : ¬ y0 = 0 → am_W (X_Club_atPin d) 48 [some (.ref 0), some (.int x1), some (.int x2), some (.int x3), some (.int x4), some (.int y0)] [] h Q) : am_W (X_Club_atPin d) 41 [some (.ref 0), some (.int x1), some (.int x2), some (.int x3), some (.int x4), none] [.int y0] h Q :=
  am_istore (ls' := [some (.ref 0), some (.int x1), some (.int x2), some (.int x3), some (.int x4), some (.int y0)]) d_Club_atPin_41 (Nat.le_of_ble_eq_true rfl) rfl <|
    am_iload d_Club_atPin_43 rfl <|
    am_if_eq (tgt := 57) d_Club_atPin_45 (by decide) kt kf
theorem b_Club_atPin_48 {d : Nat} {x1 : Int32} {x2 : Int32} {x3 : Int32} {x4 : Int32} {x5 : Int32} {h : am_H} {Q : am_Q} (kt : x2 < 0 → am_W (X_Club_atPin d) 57 [some (.ref 0), some (.int x1), some (.int x2), some (.int x3), some (.int x4), some (.int x5)] [] h Q) (kf : ¬ x2 < 0 → am_W (X_Club_atPin d) 52 [some (.ref 0), some (.int x1), some (.int x2), some (.int x3), some (.int x4), some (.int x5)] [] h Q) : am_W (X_Club_atPin d) 48 [some (.ref 0), some (.int x1), some (.int x2), some (.int x3), some (.int x4), some (.int x5)] [] h Q :=
  am_iload_n d_Club_atPin_48 rfl (i := 2) rfl <|
    am_if_lt (tgt := 57) d_Club_atPin_49 (by decide) kt kf
theorem b_Club_atPin_52 {d : Nat} {x1 : Int32} {x2 : Int32} {x3 : Int32} {x4 : Int32} {x5 : Int32} {h : am_H} {Q : am_Q} (kt : x2 ≤ 2 → am_W (X_Club_atPin d) 61 [some (.ref 0), some (.int x1), some (.int x2), some (.int x3), some (.int x4), some (.int x5)] [] h Q) (kf : ¬ x2 ≤ 2 → am_W (X_Club_atPin d) 57 [some (.ref 0), some (.int x1), some (.int x2), some (.int x3), some (.int x4), some (.int x5)] [] h Q) : am_W (X_Club_atPin d) 52 [some (.ref 0), some (.int x1), some (.int x2), some (.int x3), some (.int x4), some (.int x5)] [] h Q :=
  am_iload_n d_Club_atPin_52 rfl (i := 2) rfl <|
    am_iconst (v := 2) d_Club_atPin_53 (by decide) <|
    am_icmp_le (tgt := 61) d_Club_atPin_54 (by decide) kt kf
theorem b_Club_atPin_57 {d : Nat} {x1 : Int32} {x2 : Int32} {x3 : Int32} {x4 : Int32} {x5 : Int32} {h : am_H} {Q : am_Q} (q : Q (some (.long (-9223372036854775808))) h) : am_W (X_Club_atPin d) 57 [some (.ref 0), some (.int x1), some (.int x2), some (.int x3), some (.int x4), some (.int x5)] [] h Q :=
  am_ldc2 (v := (-9223372036854775808)) d_Club_atPin_57 w_683 <|
    am_lret rfl d_Club_atPin_60 q
theorem b_Club_atPin_61 {d : Nat} {x1 : Int32} {x2 : Int32} {x3 : Int32} {x4 : Int32} {x5 : Int32} {h : am_H} {Q : am_Q} (kt : ¬ x2 = 2 → am_W (X_Club_atPin d) 85 [some (.ref 0), some (.int x1), some (.int x2), some (.int x3), some (.int x4), some (.int x5)] [] h Q) (kf : x2 = 2 → am_W (X_Club_atPin d) 66 [some (.ref 0), some (.int x1), some (.int x2), some (.int x3), some (.int x4), some (.int x5)] [] h Q) : am_W (X_Club_atPin d) 61 [some (.ref 0), some (.int x1), some (.int x2), some (.int x3), some (.int x4), some (.int x5)] [] h Q :=
  am_iload_n d_Club_atPin_61 rfl (i := 2) rfl <|
    am_iconst (v := 2) d_Club_atPin_62 (by decide) <|
    am_icmp_ne (tgt := 85) d_Club_atPin_63 (by decide) kt kf
theorem b_Club_atPin_66 {d : Nat} {x1 : Int32} {x2 : Int32} {x3 : Int32} {x4 : Int32} {x5 : Int32} {h : am_H} {Q : am_Q} (k : m_Hole_isBoldBetter d [.ref 1, .int x3, .int x4] h (fun r hh => am_W (X_Club_atPin (d + 1)) 76 [some (.ref 0), some (.int x1), some (.int x2), some (.int x3), some (.int x4), some (.int x5)] (r.toList ++ []) hh Q)) : am_W (X_Club_atPin (d + 1)) 66 [some (.ref 0), some (.int x1), some (.int x2), some (.int x3), some (.int x4), some (.int x5)] [] h Q :=
  am_aload_n d_Club_atPin_66 rfl (i := 0) rfl <|
    am_getR (ci := 0) (i := 0) rfl rfl rfl (Nat.le_of_ble_eq_true rfl) w_362 d_Club_atPin_67 <|
    am_iload_n d_Club_atPin_70 rfl (i := 3) rfl <|
    am_iload d_Club_atPin_71 rfl <|
    am_callV (vs := [.int x3, .int x4]) (st := []) (k := 1) (ci := 1) rfl d_Club_atPin_73 rfl rfl w_885 w_886 w_887 w_84 w_888 p_Hole_isBoldBetter (Nat.le_of_ble_eq_true rfl) (Nat.le_of_ble_eq_true rfl) rfl k
theorem b_Club_atPin_76 {d : Nat} {x1 : Int32} {x2 : Int32} {x3 : Int32} {x4 : Int32} {x5 : Int32} {y0 : Bool} {h : am_H} {Q : am_Q} (kt : (am_b y0) = 0 → am_W (X_Club_atPin d) 83 [some (.ref 0), some (.int x1), some (.int x2), some (.int x3), some (.int x4), some (.int x5)] [] h Q) (kf : ¬ (am_b y0) = 0 → am_W (X_Club_atPin d) 79 [some (.ref 0), some (.int x1), some (.int x2), some (.int x3), some (.int x4), some (.int x5)] [] h Q) : am_W (X_Club_atPin d) 76 [some (.ref 0), some (.int x1), some (.int x2), some (.int x3), some (.int x4), some (.int x5)] [.int (am_b y0)] h Q :=
  am_if_eq (tgt := 83) d_Club_atPin_76 (by decide) kt kf
theorem b_Club_atPin_79 {d : Nat} {x1 : Int32} {x2 : Int32} {x3 : Int32} {x4 : Int32} {x5 : Int32} {h : am_H} {Q : am_Q} (q : Q (some (.long 1)) h) : am_W (X_Club_atPin d) 79 [some (.ref 0), some (.int x1), some (.int x2), some (.int x3), some (.int x4), some (.int x5)] [] h Q :=
  am_lconst (v := 1) d_Club_atPin_79 (by decide) <|
    am_goto (tgt := 84) d_Club_atPin_80 (by decide) <|
    am_lret rfl d_Club_atPin_84 q
theorem b_Club_atPin_83 {d : Nat} {x1 : Int32} {x2 : Int32} {x3 : Int32} {x4 : Int32} {x5 : Int32} {h : am_H} {Q : am_Q} (q : Q (some (.long 0)) h) : am_W (X_Club_atPin d) 83 [some (.ref 0), some (.int x1), some (.int x2), some (.int x3), some (.int x4), some (.int x5)] [] h Q :=
  am_lconst (v := 0) d_Club_atPin_83 (by decide) <|
    am_lret rfl d_Club_atPin_84 q
theorem b_Club_atPin_85 {d : Nat} {x1 : Int32} {x2 : Int32} {x3 : Int32} {x4 : Int32} {x5 : Int32} {h : am_H} {Q : am_Q} (k : m_Hole_waysToBeEven d [.ref 1, .int x3, .int x4] h (fun r hh => am_W (X_Club_atPin (d + 1)) 95 [some (.ref 0), some (.int x1), some (.int x2), some (.int x3), some (.int x4), some (.int x5)] (r.toList ++ []) hh Q)) : am_W (X_Club_atPin (d + 1)) 85 [some (.ref 0), some (.int x1), some (.int x2), some (.int x3), some (.int x4), some (.int x5)] [] h Q :=
  am_aload_n d_Club_atPin_85 rfl (i := 0) rfl <|
    am_getR (ci := 0) (i := 0) rfl rfl rfl (Nat.le_of_ble_eq_true rfl) w_362 d_Club_atPin_86 <|
    am_iload_n d_Club_atPin_89 rfl (i := 3) rfl <|
    am_iload d_Club_atPin_90 rfl <|
    am_callV (vs := [.int x3, .int x4]) (st := []) (k := 1) (ci := 1) rfl d_Club_atPin_92 rfl rfl w_902 w_903 w_904 w_84 w_905 p_Hole_waysToBeEven (Nat.le_of_ble_eq_true rfl) (Nat.le_of_ble_eq_true rfl) rfl k
theorem b_Club_atPin_95 {d : Nat} {x1 : Int32} {x2 : Int32} {x3 : Int32} {x4 : Int32} {x5 : Int32} {y0 : Int32} {h : am_H} {Q : am_Q} (kt : ¬ x4 = 1 → am_W (X_Club_atPin d) 108 [some (.ref 0), some (.int x1), some (.int x2), some (.int x3), some (.int x4), some (.int x5)] [.long y0.toInt64] h Q) (kf : x4 = 1 → am_W (X_Club_atPin d) 102 [some (.ref 0), some (.int x1), some (.int x2), some (.int x3), some (.int x4), some (.int x5)] [.long y0.toInt64] h Q) : am_W (X_Club_atPin d) 95 [some (.ref 0), some (.int x1), some (.int x2), some (.int x3), some (.int x4), some (.int x5)] [.int y0] h Q :=
  am_i2l d_Club_atPin_95 <|
    am_iload d_Club_atPin_96 rfl <|
    am_iconst (v := 1) d_Club_atPin_98 (by decide) <|
    am_icmp_ne (tgt := 108) d_Club_atPin_99 (by decide) kt kf
theorem b_Club_atPin_102 {d : Nat} {x1 : Int32} {x2 : Int32} {x3 : Int32} {x4 : Int32} {x5 : Int32} {y0 : Int64} {h : am_H} {Q : am_Q} (k : am_W (X_Club_atPin d) 111 [some (.ref 0), some (.int x1), some (.int x2), some (.int x3), some (.int x4), some (.int x5)] [.long 12, .long y0] h Q) : am_W (X_Club_atPin d) 102 [some (.ref 0), some (.int x1), some (.int x2), some (.int x3), some (.int x4), some (.int x5)] [.long y0] h Q :=
  am_ldc2 (v := 12) d_Club_atPin_102 w_906 <|
    am_goto (tgt := 111) d_Club_atPin_105 (by decide) k
theorem b_Club_atPin_108 {d : Nat} {x1 : Int32} {x2 : Int32} {x3 : Int32} {x4 : Int32} {x5 : Int32} {y0 : Int64} {h : am_H} {Q : am_Q} (k : am_W (X_Club_atPin d) 111 [some (.ref 0), some (.int x1), some (.int x2), some (.int x3), some (.int x4), some (.int x5)] [.long 144, .long y0] h Q) : am_W (X_Club_atPin d) 108 [some (.ref 0), some (.int x1), some (.int x2), some (.int x3), some (.int x4), some (.int x5)] [.long y0] h Q :=
  am_ldc2 (v := 144) d_Club_atPin_108 w_907 <|
    k
theorem b_Club_atPin_111 {d : Nat} {x1 : Int32} {x2 : Int32} {x3 : Int32} {x4 : Int32} {x5 : Int32} {y1 : Int64} {y0 : Int64} {h : am_H} {Q : am_Q} (k : m_Club_partOf d [.long y0, .long y1, .int x2] h (fun r hh => am_W (X_Club_atPin (d + 1)) 115 [some (.ref 0), some (.int x1), some (.int x2), some (.int x3), some (.int x4), some (.int x5)] (r.toList ++ []) hh Q)) : am_W (X_Club_atPin (d + 1)) 111 [some (.ref 0), some (.int x1), some (.int x2), some (.int x3), some (.int x4), some (.int x5)] [.long y1, .long y0] h Q :=
  am_iload_n d_Club_atPin_111 rfl (i := 2) rfl <|
    am_callS (vs := [.long y0, .long y1, .int x2]) (st := []) rfl d_Club_atPin_112 w_712 w_713 w_83 w_714 p_Club_partOf (Nat.le_of_ble_eq_true rfl) (Nat.le_of_ble_eq_true rfl) rfl k
theorem b_Club_atPin_115 {d : Nat} {x1 : Int32} {x2 : Int32} {x3 : Int32} {x4 : Int32} {x5 : Int32} {y0 : Int64} {h : am_H} {Q : am_Q} (q : Q (some (.long y0)) h) : am_W (X_Club_atPin d) 115 [some (.ref 0), some (.int x1), some (.int x2), some (.int x3), some (.int x4), some (.int x5)] [.long y0] h Q :=
  am_lret rfl d_Club_atPin_115 q
theorem t_Club_atPin_57 {d : Nat} {x1 : Int32} {x2 : Int32} {x3 : Int32} {x4 : Int32} {x5 : Int32} {h : am_H} {Q : am_Q} {res : Int64} (e : f_Club_atPin_57 h = some res) (q : Q (some (.long res)) h) : am_W (X_Club_atPin (d + 66)) 57 [some (.ref 0), some (.int x1), some (.int x2), some (.int x3), some (.int x4), some (.int x5)] [] h Q :=
  b_Club_atPin_57 (d := (d + 66)) (q := (am_rJp (v := (-9223372036854775808)) e q))
theorem t_Club_atPin_115 {d : Nat} {x1 : Int32} {x2 : Int32} {x3 : Int32} {x4 : Int32} {x5 : Int32} {y0 : Int64} {h : am_H} {Q : am_Q} {res : Int64} (e : f_Club_atPin_115 h y0 = some res) (q : Q (some (.long res)) h) : am_W (X_Club_atPin (d + 66)) 115 [some (.ref 0), some (.int x1), some (.int x2), some (.int x3), some (.int x4), some (.int x5)] [.long y0] h Q :=
  b_Club_atPin_115 (d := (d + 66)) (q := (am_rJp (v := y0) e q))
theorem t_Club_atPin_111 {d : Nat} {x1 : Int32} {x2 : Int32} {x3 : Int32} {x4 : Int32} {x5 : Int32} {y1 : Int64} {y0 : Int64} {h : am_H} {Q : am_Q} {res : Int64} (e : f_Club_atPin_111 h x2 y1 y0 = some res) (q : Q (some (.long res)) h) : am_W (X_Club_atPin (d + 66)) 111 [some (.ref 0), some (.int x1), some (.int x2), some (.int x3), some (.int x4), some (.int x5)] [.long y1, .long y0] h Q :=
  (am_bd e).elim fun p hp => b_Club_atPin_111 (d := (d + 65)) (k := c_Club_partOf (d := d + 64) hp.1 (t_Club_atPin_115 hp.2 q))
theorem t_Club_atPin_108 {d : Nat} {x1 : Int32} {x2 : Int32} {x3 : Int32} {x4 : Int32} {x5 : Int32} {y0 : Int64} {h : am_H} {Q : am_Q} {res : Int64} (e : f_Club_atPin_108 h x2 y0 = some res) (q : Q (some (.long res)) h) : am_W (X_Club_atPin (d + 66)) 108 [some (.ref 0), some (.int x1), some (.int x2), some (.int x3), some (.int x4), some (.int x5)] [.long y0] h Q :=
  b_Club_atPin_108 (d := (d + 66)) (k := (t_Club_atPin_111 e q))
theorem t_Club_atPin_102 {d : Nat} {x1 : Int32} {x2 : Int32} {x3 : Int32} {x4 : Int32} {x5 : Int32} {y0 : Int64} {h : am_H} {Q : am_Q} {res : Int64} (e : f_Club_atPin_102 h x2 y0 = some res) (q : Q (some (.long res)) h) : am_W (X_Club_atPin (d + 66)) 102 [some (.ref 0), some (.int x1), some (.int x2), some (.int x3), some (.int x4), some (.int x5)] [.long y0] h Q :=
  b_Club_atPin_102 (d := (d + 66)) (k := (t_Club_atPin_111 e q))
theorem t_Club_atPin_95 {d : Nat} {x1 : Int32} {x2 : Int32} {x3 : Int32} {x4 : Int32} {x5 : Int32} {y0 : Int32} {h : am_H} {Q : am_Q} {res : Int64} (e : f_Club_atPin_95 h x2 x4 y0 = some res) (q : Q (some (.long res)) h) : am_W (X_Club_atPin (d + 66)) 95 [some (.ref 0), some (.int x1), some (.int x2), some (.int x3), some (.int x4), some (.int x5)] [.int y0] h Q :=
  b_Club_atPin_95 (d := (d + 66)) (kt := fun c => (t_Club_atPin_108 (am_ife e c) q)) (kf := fun c => (t_Club_atPin_102 (am_ift e c) q))
theorem t_Club_atPin_85 {d : Nat} {x1 : Int32} {x2 : Int32} {x3 : Int32} {x4 : Int32} {x5 : Int32} {h : am_H} {Q : am_Q} {res : Int64} (e : f_Club_atPin_85 h x2 x3 x4 = some res) (q : Q (some (.long res)) h) : am_W (X_Club_atPin (d + 66)) 85 [some (.ref 0), some (.int x1), some (.int x2), some (.int x3), some (.int x4), some (.int x5)] [] h Q :=
  (am_bd e).elim fun p hp => b_Club_atPin_85 (d := (d + 65)) (k := c_Hole_waysToBeEven (d := d) hp.1 (t_Club_atPin_95 hp.2 q))
theorem t_Club_atPin_83 {d : Nat} {x1 : Int32} {x2 : Int32} {x3 : Int32} {x4 : Int32} {x5 : Int32} {h : am_H} {Q : am_Q} {res : Int64} (e : f_Club_atPin_83 h = some res) (q : Q (some (.long res)) h) : am_W (X_Club_atPin (d + 66)) 83 [some (.ref 0), some (.int x1), some (.int x2), some (.int x3), some (.int x4), some (.int x5)] [] h Q :=
  b_Club_atPin_83 (d := (d + 66)) (q := (am_rJp (v := 0) e q))
theorem t_Club_atPin_79 {d : Nat} {x1 : Int32} {x2 : Int32} {x3 : Int32} {x4 : Int32} {x5 : Int32} {h : am_H} {Q : am_Q} {res : Int64} (e : f_Club_atPin_79 h = some res) (q : Q (some (.long res)) h) : am_W (X_Club_atPin (d + 66)) 79 [some (.ref 0), some (.int x1), some (.int x2), some (.int x3), some (.int x4), some (.int x5)] [] h Q :=
  b_Club_atPin_79 (d := (d + 66)) (q := (am_rJp (v := 1) e q))
theorem t_Club_atPin_76 {d : Nat} {x1 : Int32} {x2 : Int32} {x3 : Int32} {x4 : Int32} {x5 : Int32} {y0 : Bool} {h : am_H} {Q : am_Q} {res : Int64} (e : f_Club_atPin_76 h y0 = some res) (q : Q (some (.long res)) h) : am_W (X_Club_atPin (d + 66)) 76 [some (.ref 0), some (.int x1), some (.int x2), some (.int x3), some (.int x4), some (.int x5)] [.int (am_b y0)] h Q :=
  b_Club_atPin_76 (d := (d + 66)) (kt := fun c => (t_Club_atPin_83 (am_iff e (am_bz c)) q)) (kf := fun c => (t_Club_atPin_79 (am_ift e (am_bn c)) q))
theorem t_Club_atPin_66 {d : Nat} {x1 : Int32} {x2 : Int32} {x3 : Int32} {x4 : Int32} {x5 : Int32} {h : am_H} {Q : am_Q} {res : Int64} (e : f_Club_atPin_66 h x3 x4 = some res) (q : Q (some (.long res)) h) : am_W (X_Club_atPin (d + 66)) 66 [some (.ref 0), some (.int x1), some (.int x2), some (.int x3), some (.int x4), some (.int x5)] [] h Q :=
  (am_bd e).elim fun p hp => b_Club_atPin_66 (d := (d + 65)) (k := c_Hole_isBoldBetter (d := d) hp.1 (t_Club_atPin_76 hp.2 q))
theorem t_Club_atPin_61 {d : Nat} {x1 : Int32} {x2 : Int32} {x3 : Int32} {x4 : Int32} {x5 : Int32} {h : am_H} {Q : am_Q} {res : Int64} (e : f_Club_atPin_61 h x2 x3 x4 = some res) (q : Q (some (.long res)) h) : am_W (X_Club_atPin (d + 66)) 61 [some (.ref 0), some (.int x1), some (.int x2), some (.int x3), some (.int x4), some (.int x5)] [] h Q :=
  b_Club_atPin_61 (d := (d + 66)) (kt := fun c => (t_Club_atPin_85 (am_ife e c) q)) (kf := fun c => (t_Club_atPin_66 (am_ift e c) q))
theorem t_Club_atPin_52 {d : Nat} {x1 : Int32} {x2 : Int32} {x3 : Int32} {x4 : Int32} {x5 : Int32} {h : am_H} {Q : am_Q} {res : Int64} (e : f_Club_atPin_52 h x2 x3 x4 = some res) (q : Q (some (.long res)) h) : am_W (X_Club_atPin (d + 66)) 52 [some (.ref 0), some (.int x1), some (.int x2), some (.int x3), some (.int x4), some (.int x5)] [] h Q :=
  b_Club_atPin_52 (d := (d + 66)) (kt := fun c => (t_Club_atPin_61 (am_ift e c) q)) (kf := fun c => (t_Club_atPin_57 (am_ife e c) q))
theorem t_Club_atPin_48 {d : Nat} {x1 : Int32} {x2 : Int32} {x3 : Int32} {x4 : Int32} {x5 : Int32} {h : am_H} {Q : am_Q} {res : Int64} (e : f_Club_atPin_48 h x2 x3 x4 = some res) (q : Q (some (.long res)) h) : am_W (X_Club_atPin (d + 66)) 48 [some (.ref 0), some (.int x1), some (.int x2), some (.int x3), some (.int x4), some (.int x5)] [] h Q :=
  b_Club_atPin_48 (d := (d + 66)) (kt := fun c => (t_Club_atPin_57 (am_ift e c) q)) (kf := fun c => (t_Club_atPin_52 (am_ife e c) q))
theorem t_Club_atPin_41 {d : Nat} {x1 : Int32} {x2 : Int32} {x3 : Int32} {x4 : Int32} {y0 : Int32} {h : am_H} {Q : am_Q} {res : Int64} (e : f_Club_atPin_41 h x2 x3 x4 y0 = some res) (q : Q (some (.long res)) h) : am_W (X_Club_atPin (d + 66)) 41 [some (.ref 0), some (.int x1), some (.int x2), some (.int x3), some (.int x4), none] [.int y0] h Q :=
  b_Club_atPin_41 (d := (d + 66)) (kt := fun c => (t_Club_atPin_57 (am_ift e c) q)) (kf := fun c => (t_Club_atPin_48 (am_ife e c) q))
theorem t_Club_atPin_40 {d : Nat} {x1 : Int32} {x2 : Int32} {x3 : Int32} {x4 : Int32} {h : am_H} {Q : am_Q} {res : Int64} (e : f_Club_atPin_40 h x2 x3 x4 = some res) (q : Q (some (.long res)) h) : am_W (X_Club_atPin (d + 66)) 40 [some (.ref 0), some (.int x1), some (.int x2), some (.int x3), some (.int x4), none] [] h Q :=
  b_Club_atPin_40 (d := (d + 66)) (k := (t_Club_atPin_41 e q))
theorem t_Club_atPin_36 {d : Nat} {x1 : Int32} {x2 : Int32} {x3 : Int32} {x4 : Int32} {h : am_H} {Q : am_Q} {res : Int64} (e : f_Club_atPin_36 h x2 x3 x4 = some res) (q : Q (some (.long res)) h) : am_W (X_Club_atPin (d + 66)) 36 [some (.ref 0), some (.int x1), some (.int x2), some (.int x3), some (.int x4), none] [] h Q :=
  b_Club_atPin_36 (d := (d + 66)) (k := (t_Club_atPin_41 e q))
theorem t_Club_atPin_30 {d : Nat} {x1 : Int32} {x2 : Int32} {x3 : Int32} {x4 : Int32} {h : am_H} {Q : am_Q} {res : Int64} (e : f_Club_atPin_30 h x2 x3 x4 = some res) (q : Q (some (.long res)) h) : am_W (X_Club_atPin (d + 66)) 30 [some (.ref 0), some (.int x1), some (.int x2), some (.int x3), some (.int x4), none] [] h Q :=
  b_Club_atPin_30 (d := (d + 66)) (kt := fun c => (t_Club_atPin_40 (am_ift e c) q)) (kf := fun c => (t_Club_atPin_36 (am_ife e c) q))
theorem t_Club_atPin_24 {d : Nat} {x1 : Int32} {x2 : Int32} {x3 : Int32} {x4 : Int32} {h : am_H} {Q : am_Q} {res : Int64} (e : f_Club_atPin_24 h x2 x3 x4 = some res) (q : Q (some (.long res)) h) : am_W (X_Club_atPin (d + 66)) 24 [some (.ref 0), some (.int x1), some (.int x2), some (.int x3), some (.int x4), none] [] h Q :=
  b_Club_atPin_24 (d := (d + 66)) (kt := fun c => (t_Club_atPin_40 (am_ift e c) q)) (kf := fun c => (t_Club_atPin_30 (am_ife e c) q))
theorem t_Club_atPin_18 {d : Nat} {x1 : Int32} {x2 : Int32} {x3 : Int32} {x4 : Int32} {h : am_H} {Q : am_Q} {res : Int64} (e : f_Club_atPin_18 h x2 x3 x4 = some res) (q : Q (some (.long res)) h) : am_W (X_Club_atPin (d + 66)) 18 [some (.ref 0), some (.int x1), some (.int x2), some (.int x3), some (.int x4), none] [] h Q :=
  b_Club_atPin_18 (d := (d + 66)) (kt := fun c => (t_Club_atPin_40 (am_ift e c) q)) (kf := fun c => (t_Club_atPin_24 (am_ife e c) q))
theorem t_Club_atPin_0 {d : Nat} {x1 : Int32} {x2 : Int32} {h : am_H} {Q : am_Q} {res : Int64} (e : f_Club_atPin h x1 x2 = some res) (q : Q (some (.long res)) h) : am_W (X_Club_atPin (d + 66)) 0 [some (.ref 0), some (.int x1), some (.int x2), none, none, none] [] h Q :=
  b_Club_atPin_0 (d := (d + 66)) (kt := fun c => (t_Club_atPin_40 (am_ift e c) q)) (kf := fun c => (t_Club_atPin_18 (am_ife e c) q))
theorem c_Club_atPin {d : Nat} {x1 : Int32} {x2 : Int32} {h : am_H} {Q : am_Q} {res : Int64} (e : f_Club_atPin h x1 x2 = some res) (q : Q (some (.long res)) h) : m_Club_atPin (d + 66) [.ref 0, .int x1, .int x2] h Q :=
  e_Club_atPin (t_Club_atPin_0 e q)
