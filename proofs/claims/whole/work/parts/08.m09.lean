theorem d_Model_isShelf_0 : decode prog_12_method_87_code 0 = .ok (.iload_n 0, 1) := by decide +kernel
theorem d_Model_isShelf_1 : decode prog_12_method_87_code 1 = .ok (.i2l, 1) := by decide +kernel
theorem d_Model_isShelf_2 : decode prog_12_method_87_code 2 = .ok (.lconst 0, 1) := by decide +kernel
theorem d_Model_isShelf_3 : decode prog_12_method_87_code 3 = .ok (.ldc2_w 333, 3) := by decide +kernel
theorem d_Model_isShelf_6 : decode prog_12_method_87_code 6 = .ok (.invokestatic 83, 3) := by decide +kernel
theorem d_Model_isShelf_9 : decode prog_12_method_87_code 9 = .ok (.ireturn, 1) := by decide +kernel
theorem b_Model_isShelf_0 {d : Nat} {x0 : Int32} {h : am_H} {Q : am_Q} (k : m_Model_within d [.long x0.toInt64, .long 0, .long 5] h (fun r hh => am_W (X_Model_isShelf (d + 1)) 9 [some (.int x0)] (r.toList ++ []) hh Q)) : am_W (X_Model_isShelf (d + 1)) 0 [some (.int x0)] [] h Q :=
  am_iload_n d_Model_isShelf_0 rfl (i := 0) rfl <|
    am_i2l d_Model_isShelf_1 <|
    am_lconst (v := 0) d_Model_isShelf_2 (by decide) <|
    am_ldc2 (v := 5) d_Model_isShelf_3 w_1458 <|
    am_callS (vs := [.long x0.toInt64, .long 0, .long 5]) (st := []) rfl d_Model_isShelf_6 w_1443 w_1444 w_94 w_1445 p_Model_within (Nat.le_of_ble_eq_true rfl) (Nat.le_of_ble_eq_true rfl) rfl k
theorem b_Model_isShelf_9 {d : Nat} {x0 : Int32} {y0 : Bool} {h : am_H} {Q : am_Q} (q : Q (some (.int (am_b y0))) h) : am_W (X_Model_isShelf d) 9 [some (.int x0)] [.int (am_b y0)] h Q :=
  am_zret (ty := .boolean) rfl am_nb d_Model_isShelf_9 q
theorem t_Model_isShelf_9 {d : Nat} {x0 : Int32} {y0 : Bool} {h : am_H} {Q : am_Q} {res : Bool} (e : f_Model_isShelf_9 y0 = res) (q : Q (some (.int (am_b res))) h) : am_W (X_Model_isShelf (d + 1)) 9 [some (.int x0)] [.int (am_b y0)] h Q :=
  b_Model_isShelf_9 (d := (d + 1)) (q := (am_rZt (v := y0) e q))
theorem t_Model_isShelf_0 {d : Nat} {x0 : Int32} {h : am_H} {Q : am_Q} {res : Bool} (e : f_Model_isShelf x0 = res) (q : Q (some (.int (am_b res))) h) : am_W (X_Model_isShelf (d + 1)) 0 [some (.int x0)] [] h Q :=
  b_Model_isShelf_0 (d := d) (k := c_Model_within (d := d) rfl (t_Model_isShelf_9 e q))
theorem c_Model_isShelf {d : Nat} {x0 : Int32} {h : am_H} {Q : am_Q} {res : Bool} (e : f_Model_isShelf x0 = res) (q : Q (some (.int (am_b res))) h) : m_Model_isShelf (d + 1) [.int x0] h Q :=
  e_Model_isShelf (t_Model_isShelf_0 e q)
theorem d_Model_clubs_0 : decode prog_12_method_14_code 0 = .ok (.iload_n 1, 1) := by decide +kernel
theorem d_Model_clubs_1 : decode prog_12_method_14_code 1 = .ok (.invokestatic 103, 3) := by decide +kernel
theorem d_Model_clubs_4 : decode prog_12_method_14_code 4 = .ok (.ifCond .eq 15, 3) := by decide +kernel
theorem d_Model_clubs_7 : decode prog_12_method_14_code 7 = .ok (.iload_n 3, 1) := by decide +kernel
theorem d_Model_clubs_8 : decode prog_12_method_14_code 8 = .ok (.i2l, 1) := by decide +kernel
theorem d_Model_clubs_9 : decode prog_12_method_14_code 9 = .ok (.lconst 1, 1) := by decide +kernel
theorem d_Model_clubs_10 : decode prog_12_method_14_code 10 = .ok (.ldc2_w 106, 3) := by decide +kernel
theorem d_Model_clubs_13 : decode prog_12_method_14_code 13 = .ok (.invokestatic 83, 3) := by decide +kernel
theorem d_Model_clubs_16 : decode prog_12_method_14_code 16 = .ok (.ifCond .ne 5, 3) := by decide +kernel
theorem d_Model_clubs_19 : decode prog_12_method_14_code 19 = .ok (.iconst (-1), 1) := by decide +kernel
theorem d_Model_clubs_20 : decode prog_12_method_14_code 20 = .ok (.ireturn, 1) := by decide +kernel
theorem d_Model_clubs_21 : decode prog_12_method_14_code 21 = .ok (.aload_n 0, 1) := by decide +kernel
theorem d_Model_clubs_22 : decode prog_12_method_14_code 22 = .ok (.getfield 58, 3) := by decide +kernel
theorem d_Model_clubs_25 : decode prog_12_method_14_code 25 = .ok (.iload_n 1, 1) := by decide +kernel
theorem d_Model_clubs_26 : decode prog_12_method_14_code 26 = .ok (.iaload, 1) := by decide +kernel
theorem d_Model_clubs_27 : decode prog_12_method_14_code 27 = .ok (.ifCond .lt 17, 3) := by decide +kernel
theorem d_Model_clubs_30 : decode prog_12_method_14_code 30 = .ok (.aload_n 0, 1) := by decide +kernel
theorem d_Model_clubs_31 : decode prog_12_method_14_code 31 = .ok (.getfield 58, 3) := by decide +kernel
theorem d_Model_clubs_34 : decode prog_12_method_14_code 34 = .ok (.iload_n 1, 1) := by decide +kernel
theorem d_Model_clubs_35 : decode prog_12_method_14_code 35 = .ok (.iaload, 1) := by decide +kernel
theorem d_Model_clubs_36 : decode prog_12_method_14_code 36 = .ok (.bipush 50, 2) := by decide +kernel
theorem d_Model_clubs_38 : decode prog_12_method_14_code 38 = .ok (.if_icmp .eq 6, 3) := by decide +kernel
theorem d_Model_clubs_41 : decode prog_12_method_14_code 41 = .ok (.bipush (-12), 2) := by decide +kernel
theorem d_Model_clubs_43 : decode prog_12_method_14_code 43 = .ok (.ireturn, 1) := by decide +kernel
theorem d_Model_clubs_44 : decode prog_12_method_14_code 44 = .ok (.iconst 0, 1) := by decide +kernel
theorem d_Model_clubs_45 : decode prog_12_method_14_code 45 = .ok (.istore 4, 2) := by decide +kernel
theorem d_Model_clubs_47 : decode prog_12_method_14_code 47 = .ok (.aload_n 0, 1) := by decide +kernel
theorem d_Model_clubs_48 : decode prog_12_method_14_code 48 = .ok (.getfield 58, 3) := by decide +kernel
theorem d_Model_clubs_51 : decode prog_12_method_14_code 51 = .ok (.iload_n 1, 1) := by decide +kernel
theorem d_Model_clubs_52 : decode prog_12_method_14_code 52 = .ok (.iaload, 1) := by decide +kernel
theorem d_Model_clubs_53 : decode prog_12_method_14_code 53 = .ok (.bipush 50, 2) := by decide +kernel
theorem d_Model_clubs_55 : decode prog_12_method_14_code 55 = .ok (.if_icmp .ne 11, 3) := by decide +kernel
theorem d_Model_clubs_58 : decode prog_12_method_14_code 58 = .ok (.iload_n 2, 1) := by decide +kernel
theorem d_Model_clubs_59 : decode prog_12_method_14_code 59 = .ok (.ifCond .lt 7, 3) := by decide +kernel
theorem d_Model_clubs_62 : decode prog_12_method_14_code 62 = .ok (.iconst 1, 1) := by decide +kernel
theorem d_Model_clubs_63 : decode prog_12_method_14_code 63 = .ok (.goto 4, 3) := by decide +kernel
theorem d_Model_clubs_66 : decode prog_12_method_14_code 66 = .ok (.iconst 0, 1) := by decide +kernel
theorem d_Model_clubs_67 : decode prog_12_method_14_code 67 = .ok (.istore 5, 2) := by decide +kernel
theorem d_Model_clubs_69 : decode prog_12_method_14_code 69 = .ok (.iload 5, 2) := by decide +kernel
theorem d_Model_clubs_71 : decode prog_12_method_14_code 71 = .ok (.ifCond .eq 151, 3) := by decide +kernel
theorem d_Model_clubs_74 : decode prog_12_method_14_code 74 = .ok (.iload 4, 2) := by decide +kernel
theorem d_Model_clubs_76 : decode prog_12_method_14_code 76 = .ok (.iload_n 3, 1) := by decide +kernel
theorem d_Model_clubs_77 : decode prog_12_method_14_code 77 = .ok (.if_icmp .ge 145, 3) := by decide +kernel
theorem d_Model_clubs_80 : decode prog_12_method_14_code 80 = .ok (.iload_n 2, 1) := by decide +kernel
theorem d_Model_clubs_81 : decode prog_12_method_14_code 81 = .ok (.aload_n 0, 1) := by decide +kernel
theorem d_Model_clubs_82 : decode prog_12_method_14_code 82 = .ok (.getfield 61, 3) := by decide +kernel
theorem d_Model_clubs_85 : decode prog_12_method_14_code 85 = .ok (.iload_n 1, 1) := by decide +kernel
theorem d_Model_clubs_86 : decode prog_12_method_14_code 86 = .ok (.iaload, 1) := by decide +kernel
theorem d_Model_clubs_87 : decode prog_12_method_14_code 87 = .ok (.iconst 3, 1) := by decide +kernel
theorem d_Model_clubs_88 : decode prog_12_method_14_code 88 = .ok (.isub, 1) := by decide +kernel
theorem d_Model_clubs_89 : decode prog_12_method_14_code 89 = .ok (.iconst 3, 1) := by decide +kernel
theorem d_Model_clubs_90 : decode prog_12_method_14_code 90 = .ok (.iload 4, 2) := by decide +kernel
theorem d_Model_clubs_92 : decode prog_12_method_14_code 92 = .ok (.imul, 1) := by decide +kernel
theorem d_Model_clubs_93 : decode prog_12_method_14_code 93 = .ok (.isub, 1) := by decide +kernel
theorem d_Model_clubs_94 : decode prog_12_method_14_code 94 = .ok (.if_icmp .gt 16, 3) := by decide +kernel
theorem d_Model_clubs_97 : decode prog_12_method_14_code 97 = .ok (.aload_n 0, 1) := by decide +kernel
theorem d_Model_clubs_98 : decode prog_12_method_14_code 98 = .ok (.getfield 80, 3) := by decide +kernel
theorem d_Model_clubs_101 : decode prog_12_method_14_code 101 = .ok (.bipush 6, 2) := by decide +kernel
theorem d_Model_clubs_103 : decode prog_12_method_14_code 103 = .ok (.if_icmp .ge 7, 3) := by decide +kernel
theorem d_Model_clubs_106 : decode prog_12_method_14_code 106 = .ok (.iconst 1, 1) := by decide +kernel
theorem d_Model_clubs_107 : decode prog_12_method_14_code 107 = .ok (.goto 4, 3) := by decide +kernel
theorem d_Model_clubs_110 : decode prog_12_method_14_code 110 = .ok (.iconst 0, 1) := by decide +kernel
theorem d_Model_clubs_111 : decode prog_12_method_14_code 111 = .ok (.istore 5, 2) := by decide +kernel
theorem d_Model_clubs_113 : decode prog_12_method_14_code 113 = .ok (.bipush 60, 2) := by decide +kernel
theorem d_Model_clubs_115 : decode prog_12_method_14_code 115 = .ok (.iload_n 1, 1) := by decide +kernel
theorem d_Model_clubs_116 : decode prog_12_method_14_code 116 = .ok (.imul, 1) := by decide +kernel
theorem d_Model_clubs_117 : decode prog_12_method_14_code 117 = .ok (.iload_n 2, 1) := by decide +kernel
theorem d_Model_clubs_118 : decode prog_12_method_14_code 118 = .ok (.iadd, 1) := by decide +kernel
theorem d_Model_clubs_119 : decode prog_12_method_14_code 119 = .ok (.iconst 3, 1) := by decide +kernel
theorem d_Model_clubs_120 : decode prog_12_method_14_code 120 = .ok (.iload 4, 2) := by decide +kernel
theorem d_Model_clubs_122 : decode prog_12_method_14_code 122 = .ok (.imul, 1) := by decide +kernel
theorem d_Model_clubs_123 : decode prog_12_method_14_code 123 = .ok (.iadd, 1) := by decide +kernel
theorem d_Model_clubs_124 : decode prog_12_method_14_code 124 = .ok (.istore 6, 2) := by decide +kernel
theorem d_Model_clubs_126 : decode prog_12_method_14_code 126 = .ok (.iload 5, 2) := by decide +kernel
theorem d_Model_clubs_128 : decode prog_12_method_14_code 128 = .ok (.ifCond .eq 48, 3) := by decide +kernel
theorem d_Model_clubs_131 : decode prog_12_method_14_code 131 = .ok (.aload_n 0, 1) := by decide +kernel
theorem d_Model_clubs_132 : decode prog_12_method_14_code 132 = .ok (.getfield 64, 3) := by decide +kernel
theorem d_Model_clubs_135 : decode prog_12_method_14_code 135 = .ok (.iload 6, 2) := by decide +kernel
theorem d_Model_clubs_137 : decode prog_12_method_14_code 137 = .ok (.laload, 1) := by decide +kernel
theorem d_Model_clubs_138 : decode prog_12_method_14_code 138 = .ok (.aload_n 0, 1) := by decide +kernel
theorem d_Model_clubs_139 : decode prog_12_method_14_code 139 = .ok (.getfield 64, 3) := by decide +kernel
theorem d_Model_clubs_142 : decode prog_12_method_14_code 142 = .ok (.iload 6, 2) := by decide +kernel
theorem d_Model_clubs_144 : decode prog_12_method_14_code 144 = .ok (.iconst 1, 1) := by decide +kernel
theorem d_Model_clubs_145 : decode prog_12_method_14_code 145 = .ok (.iadd, 1) := by decide +kernel
theorem d_Model_clubs_146 : decode prog_12_method_14_code 146 = .ok (.laload, 1) := by decide +kernel
theorem d_Model_clubs_147 : decode prog_12_method_14_code 147 = .ok (.invokestatic 95, 3) := by decide +kernel
theorem d_Model_clubs_150 : decode prog_12_method_14_code 150 = .ok (.ifCond .eq 26, 3) := by decide +kernel
theorem d_Model_clubs_153 : decode prog_12_method_14_code 153 = .ok (.aload_n 0, 1) := by decide +kernel
theorem d_Model_clubs_154 : decode prog_12_method_14_code 154 = .ok (.getfield 64, 3) := by decide +kernel
theorem d_Model_clubs_157 : decode prog_12_method_14_code 157 = .ok (.iload 6, 2) := by decide +kernel
theorem d_Model_clubs_159 : decode prog_12_method_14_code 159 = .ok (.iconst 2, 1) := by decide +kernel
theorem d_Model_clubs_160 : decode prog_12_method_14_code 160 = .ok (.iadd, 1) := by decide +kernel
theorem d_Model_clubs_161 : decode prog_12_method_14_code 161 = .ok (.laload, 1) := by decide +kernel
theorem d_Model_clubs_162 : decode prog_12_method_14_code 162 = .ok (.lconst 0, 1) := by decide +kernel
theorem d_Model_clubs_163 : decode prog_12_method_14_code 163 = .ok (.ldc2_w 108, 3) := by decide +kernel
theorem d_Model_clubs_166 : decode prog_12_method_14_code 166 = .ok (.invokestatic 83, 3) := by decide +kernel
theorem d_Model_clubs_169 : decode prog_12_method_14_code 169 = .ok (.ifCond .eq 7, 3) := by decide +kernel
theorem d_Model_clubs_172 : decode prog_12_method_14_code 172 = .ok (.iconst 1, 1) := by decide +kernel
theorem d_Model_clubs_173 : decode prog_12_method_14_code 173 = .ok (.goto 4, 3) := by decide +kernel
theorem d_Model_clubs_176 : decode prog_12_method_14_code 176 = .ok (.iconst 0, 1) := by decide +kernel
theorem d_Model_clubs_177 : decode prog_12_method_14_code 177 = .ok (.istore 5, 2) := by decide +kernel
theorem d_Model_clubs_179 : decode prog_12_method_14_code 179 = .ok (.iload 5, 2) := by decide +kernel
theorem d_Model_clubs_181 : decode prog_12_method_14_code 181 = .ok (.ifCond .eq 38, 3) := by decide +kernel
theorem d_Model_clubs_184 : decode prog_12_method_14_code 184 = .ok (.aload_n 0, 1) := by decide +kernel
theorem d_Model_clubs_185 : decode prog_12_method_14_code 185 = .ok (.aload_n 0, 1) := by decide +kernel
theorem d_Model_clubs_186 : decode prog_12_method_14_code 186 = .ok (.getfield 64, 3) := by decide +kernel
theorem d_Model_clubs_189 : decode prog_12_method_14_code 189 = .ok (.iload 6, 2) := by decide +kernel
theorem d_Model_clubs_191 : decode prog_12_method_14_code 191 = .ok (.laload, 1) := by decide +kernel
theorem d_Model_clubs_192 : decode prog_12_method_14_code 192 = .ok (.l2i, 1) := by decide +kernel
theorem d_Model_clubs_193 : decode prog_12_method_14_code 193 = .ok (.aload_n 0, 1) := by decide +kernel
theorem d_Model_clubs_194 : decode prog_12_method_14_code 194 = .ok (.getfield 64, 3) := by decide +kernel
theorem d_Model_clubs_197 : decode prog_12_method_14_code 197 = .ok (.iload 6, 2) := by decide +kernel
theorem d_Model_clubs_199 : decode prog_12_method_14_code 199 = .ok (.iconst 1, 1) := by decide +kernel
theorem d_Model_clubs_200 : decode prog_12_method_14_code 200 = .ok (.iadd, 1) := by decide +kernel
theorem d_Model_clubs_201 : decode prog_12_method_14_code 201 = .ok (.laload, 1) := by decide +kernel
theorem d_Model_clubs_202 : decode prog_12_method_14_code 202 = .ok (.l2i, 1) := by decide +kernel
theorem d_Model_clubs_203 : decode prog_12_method_14_code 203 = .ok (.aload_n 0, 1) := by decide +kernel
theorem d_Model_clubs_204 : decode prog_12_method_14_code 204 = .ok (.getfield 64, 3) := by decide +kernel
theorem d_Model_clubs_207 : decode prog_12_method_14_code 207 = .ok (.iload 6, 2) := by decide +kernel
theorem d_Model_clubs_209 : decode prog_12_method_14_code 209 = .ok (.iconst 2, 1) := by decide +kernel
theorem d_Model_clubs_210 : decode prog_12_method_14_code 210 = .ok (.iadd, 1) := by decide +kernel
theorem d_Model_clubs_211 : decode prog_12_method_14_code 211 = .ok (.laload, 1) := by decide +kernel
theorem d_Model_clubs_212 : decode prog_12_method_14_code 212 = .ok (.l2i, 1) := by decide +kernel
theorem d_Model_clubs_213 : decode prog_12_method_14_code 213 = .ok (.invokevirtual 99, 3) := by decide +kernel
theorem d_Model_clubs_216 : decode prog_12_method_14_code 216 = .ok (.iinc 4 1, 3) := by decide +kernel
theorem d_Model_clubs_219 : decode prog_12_method_14_code 219 = .ok (.goto (-150), 3) := by decide +kernel
theorem d_Model_clubs_222 : decode prog_12_method_14_code 222 = .ok (.iload 4, 2) := by decide +kernel
theorem d_Model_clubs_224 : decode prog_12_method_14_code 224 = .ok (.ireturn, 1) := by decide +kernel
theorem b_Model_clubs_0 {d : Nat} {x1 : Int32} {x2 : Int32} {x3 : Int32} {h : am_H} {Q : am_Q} (k : m_Model_isShelf d [.int x1] h (fun r hh => am_W (X_Model_clubs (d + 1)) 4 [some (.ref 0), some (.int x1), some (.int x2), some (.int x3), none, none, none] (r.toList ++ []) hh Q)) : am_W (X_Model_clubs (d + 1)) 0 [some (.ref 0), some (.int x1), some (.int x2), some (.int x3), none, none, none] [] h Q :=
  am_iload_n d_Model_clubs_0 rfl (i := 1) rfl <|
    am_callS (vs := [.int x1]) (st := []) rfl d_Model_clubs_1 w_1455 w_1456 w_94 w_1457 p_Model_isShelf (Nat.le_of_ble_eq_true rfl) (Nat.le_of_ble_eq_true rfl) rfl k
theorem b_Model_clubs_4 {d : Nat} {x1 : Int32} {x2 : Int32} {x3 : Int32} {y0 : Bool} {h : am_H} {Q : am_Q} (kt : (am_b y0) = 0 → am_W (X_Model_clubs d) 19 [some (.ref 0), some (.int x1), some (.int x2), some (.int x3), none, none, none] [] h Q) (kf : ¬ (am_b y0) = 0 → am_W (X_Model_clubs d) 7 [some (.ref 0), some (.int x1), some (.int x2), some (.int x3), none, none, none] [] h Q) : am_W (X_Model_clubs d) 4 [some (.ref 0), some (.int x1), some (.int x2), some (.int x3), none, none, none] [.int (am_b y0)] h Q :=
  am_if_eq (tgt := 19) d_Model_clubs_4 (by decide) kt kf
theorem b_Model_clubs_7 {d : Nat} {x1 : Int32} {x2 : Int32} {x3 : Int32} {h : am_H} {Q : am_Q} (k : m_Model_within d [.long x3.toInt64, .long 1, .long 6] h (fun r hh => am_W (X_Model_clubs (d + 1)) 16 [some (.ref 0), some (.int x1), some (.int x2), some (.int x3), none, none, none] (r.toList ++ []) hh Q)) : am_W (X_Model_clubs (d + 1)) 7 [some (.ref 0), some (.int x1), some (.int x2), some (.int x3), none, none, none] [] h Q :=
  am_iload_n d_Model_clubs_7 rfl (i := 3) rfl <|
    am_i2l d_Model_clubs_8 <|
    am_lconst (v := 1) d_Model_clubs_9 (by decide) <|
    am_ldc2 (v := 6) d_Model_clubs_10 w_1459 <|
    am_callS (vs := [.long x3.toInt64, .long 1, .long 6]) (st := []) rfl d_Model_clubs_13 w_1443 w_1444 w_94 w_1445 p_Model_within (Nat.le_of_ble_eq_true rfl) (Nat.le_of_ble_eq_true rfl) rfl k
theorem b_Model_clubs_16 {d : Nat} {x1 : Int32} {x2 : Int32} {x3 : Int32} {y0 : Bool} {h : am_H} {Q : am_Q} (kt : ¬ (am_b y0) = 0 → am_W (X_Model_clubs d) 21 [some (.ref 0), some (.int x1), some (.int x2), some (.int x3), none, none, none] [] h Q) (kf : (am_b y0) = 0 → am_W (X_Model_clubs d) 19 [some (.ref 0), some (.int x1), some (.int x2), some (.int x3), none, none, none] [] h Q) : am_W (X_Model_clubs d) 16 [some (.ref 0), some (.int x1), some (.int x2), some (.int x3), none, none, none] [.int (am_b y0)] h Q :=
  am_if_ne (tgt := 21) d_Model_clubs_16 (by decide) kt kf
theorem b_Model_clubs_19 {d : Nat} {x1 : Int32} {x2 : Int32} {x3 : Int32} {h : am_H} {Q : am_Q} (q : Q (some (.int (-1))) h) : am_W (X_Model_clubs d) 19 [some (.ref 0), some (.int x1), some (.int x2), some (.int x3), none, none, none] [] h Q :=
  am_iconst (v := (-1)) d_Model_clubs_19 (by decide) <|
    am_iret rfl d_Model_clubs_20 q
theorem b_Model_clubs_21 {d : Nat} {x1 : Int32} {x2 : Int32} {x3 : Int32} {h : am_H} {Q : am_Q} (q0 : vp_in x1 6) (kt : (h.1 16 x1.toNatClampNeg) < 0 → am_W (X_Model_clubs d) 44 [some (.ref 0), some (.int x1), some (.int x2), some (.int x3), none, none, none] [] h Q) (kf : ¬ (h.1 16 x1.toNatClampNeg) < 0 → am_W (X_Model_clubs d) 30 [some (.ref 0), some (.int x1), some (.int x2), some (.int x3), none, none, none] [] h Q) : am_W (X_Model_clubs d) 21 [some (.ref 0), some (.int x1), some (.int x2), some (.int x3), none, none, none] [] h Q :=
  am_aload_n d_Model_clubs_21 rfl (i := 0) rfl <|
    am_getR (ci := 10) (i := 32) rfl rfl rfl (Nat.le_of_ble_eq_true rfl) w_1350 d_Model_clubs_22 <|
    am_iload_n d_Model_clubs_25 rfl (i := 1) rfl <|
    am_iald rfl q0 d_Model_clubs_26 <|
    am_if_lt (tgt := 44) d_Model_clubs_27 (by decide) kt kf
theorem b_Model_clubs_30 {d : Nat} {x1 : Int32} {x2 : Int32} {x3 : Int32} {h : am_H} {Q : am_Q} (q0 : vp_in x1 6) (kt : (h.1 16 x1.toNatClampNeg) = 50 → am_W (X_Model_clubs d) 44 [some (.ref 0), some (.int x1), some (.int x2), some (.int x3), none, none, none] [] h Q) (kf : ¬ (h.1 16 x1.toNatClampNeg) = 50 → am_W (X_Model_clubs d) 41 [some (.ref 0), some (.int x1), some (.int x2), some (.int x3), none, none, none] [] h Q) : am_W (X_Model_clubs d) 30 [some (.ref 0), some (.int x1), some (.int x2), some (.int x3), none, none, none] [] h Q :=
  am_aload_n d_Model_clubs_30 rfl (i := 0) rfl <|
    am_getR (ci := 10) (i := 32) rfl rfl rfl (Nat.le_of_ble_eq_true rfl) w_1350 d_Model_clubs_31 <|
    am_iload_n d_Model_clubs_34 rfl (i := 1) rfl <|
    am_iald rfl q0 d_Model_clubs_35 <|
    am_bipush (v := 50) d_Model_clubs_36 (by decide) <|
    am_icmp_eq (tgt := 44) d_Model_clubs_38 (by decide) kt kf
theorem b_Model_clubs_41 {d : Nat} {x1 : Int32} {x2 : Int32} {x3 : Int32} {h : am_H} {Q : am_Q} (q : Q (some (.int (-12))) h) : am_W (X_Model_clubs d) 41 [some (.ref 0), some (.int x1), some (.int x2), some (.int x3), none, none, none] [] h Q :=
  am_bipush (v := (-12)) d_Model_clubs_41 (by decide) <|
    am_iret rfl d_Model_clubs_43 q
theorem b_Model_clubs_44 {d : Nat} {x1 : Int32} {x2 : Int32} {x3 : Int32} {h : am_H} {Q : am_Q} (q0 : vp_in x1 6) (kt : ¬ (h.1 16 x1.toNatClampNeg) = 50 → am_W (X_Model_clubs d) 66 [some (.ref 0), some (.int x1), some (.int x2), some (.int x3), some (.int 0), none, none] [] h Q) (kf : (h.1 16 x1.toNatClampNeg) = 50 → am_W (X_Model_clubs d) 58 [some (.ref 0), some (.int x1), some (.int x2), some (.int x3), some (.int 0), none, none] [] h Q) : am_W (X_Model_clubs d) 44 [some (.ref 0), some (.int x1), some (.int x2), some (.int x3), none, none, none] [] h Q :=
  am_iconst (v := 0) d_Model_clubs_44 (by decide) <|
    am_istore (ls' := [some (.ref 0), some (.int x1), some (.int x2), some (.int x3), some (.int 0), none, none]) d_Model_clubs_45 (Nat.le_of_ble_eq_true rfl) rfl <|
    am_aload_n d_Model_clubs_47 rfl (i := 0) rfl <|
    am_getR (ci := 10) (i := 32) rfl rfl rfl (Nat.le_of_ble_eq_true rfl) w_1350 d_Model_clubs_48 <|
    am_iload_n d_Model_clubs_51 rfl (i := 1) rfl <|
    am_iald rfl q0 d_Model_clubs_52 <|
    am_bipush (v := 50) d_Model_clubs_53 (by decide) <|
    am_icmp_ne (tgt := 66) d_Model_clubs_55 (by decide) kt kf
theorem b_Model_clubs_58 {d : Nat} {x1 : Int32} {x2 : Int32} {x3 : Int32} {x4 : Int32} {h : am_H} {Q : am_Q} (kt : x2 < 0 → am_W (X_Model_clubs d) 66 [some (.ref 0), some (.int x1), some (.int x2), some (.int x3), some (.int x4), none, none] [] h Q) (kf : ¬ x2 < 0 → am_W (X_Model_clubs d) 62 [some (.ref 0), some (.int x1), some (.int x2), some (.int x3), some (.int x4), none, none] [] h Q) : am_W (X_Model_clubs d) 58 [some (.ref 0), some (.int x1), some (.int x2), some (.int x3), some (.int x4), none, none] [] h Q :=
  am_iload_n d_Model_clubs_58 rfl (i := 2) rfl <|
    am_if_lt (tgt := 66) d_Model_clubs_59 (by decide) kt kf
theorem b_Model_clubs_62 {d : Nat} {x1 : Int32} {x2 : Int32} {x3 : Int32} {x4 : Int32} {h : am_H} {Q : am_Q} (k : am_W (X_Model_clubs d) 67 [some (.ref 0), some (.int x1), some (.int x2), some (.int x3), some (.int x4), none, none] [.int 1] h Q) : am_W (X_Model_clubs d) 62 [some (.ref 0), some (.int x1), some (.int x2), some (.int x3), some (.int x4), none, none] [] h Q :=
  am_iconst (v := 1) d_Model_clubs_62 (by decide) <|
    am_goto (tgt := 67) d_Model_clubs_63 (by decide) k
theorem b_Model_clubs_66 {d : Nat} {x1 : Int32} {x2 : Int32} {x3 : Int32} {x4 : Int32} {h : am_H} {Q : am_Q} (k : am_W (X_Model_clubs d) 67 [some (.ref 0), some (.int x1), some (.int x2), some (.int x3), some (.int x4), none, none] [.int 0] h Q) : am_W (X_Model_clubs d) 66 [some (.ref 0), some (.int x1), some (.int x2), some (.int x3), some (.int x4), none, none] [] h Q :=
  am_iconst (v := 0) d_Model_clubs_66 (by decide) <|
    k
theorem b_Model_clubs_67 {d : Nat} {x1 : Int32} {x2 : Int32} {x3 : Int32} {x4 : Int32} {y0 : Int32} {h : am_H} {Q : am_Q} (k : am_W (X_Model_clubs d) 69 [some (.ref 0), some (.int x1), some (.int x2), some (.int x3), some (.int x4), some (.int y0), none] [] h Q) : am_W (X_Model_clubs d) 67 [some (.ref 0), some (.int x1), some (.int x2), some (.int x3), some (.int x4), none, none] [.int y0] h Q :=
  am_istore (ls' := [some (.ref 0), some (.int x1), some (.int x2), some (.int x3), some (.int x4), some (.int y0), none]) d_Model_clubs_67 (Nat.le_of_ble_eq_true rfl) rfl <|
    k
theorem b_Model_clubs_69 {d : Nat} {x1 : Int32} {x2 : Int32} {x3 : Int32} {x4 : Int32} {x5 : Int32} {h : am_H} {Q : am_Q} (kt : x5 = 0 → am_W (X_Model_clubs d) 222 [some (.ref 0), some (.int x1), some (.int x2), some (.int x3), some (.int x4), some (.int x5), none] [] h Q) (kf : ¬ x5 = 0 → am_W (X_Model_clubs d) 74 [some (.ref 0), some (.int x1), some (.int x2), some (.int x3), some (.int x4), some (.int x5), none] [] h Q) : am_W (X_Model_clubs d) 69 [some (.ref 0), some (.int x1), some (.int x2), some (.int x3), some (.int x4), some (.int x5), none] [] h Q :=
  am_iload d_Model_clubs_69 rfl <|
    am_if_eq (tgt := 222) d_Model_clubs_71 (by decide) kt kf
theorem b_Model_clubs_74 {d : Nat} {x1 : Int32} {x2 : Int32} {x3 : Int32} {x4 : Int32} {x5 : Int32} {h : am_H} {Q : am_Q} (kt : x3 ≤ x4 → am_W (X_Model_clubs d) 222 [some (.ref 0), some (.int x1), some (.int x2), some (.int x3), some (.int x4), some (.int x5), none] [] h Q) (kf : ¬ x3 ≤ x4 → am_W (X_Model_clubs d) 80 [some (.ref 0), some (.int x1), some (.int x2), some (.int x3), some (.int x4), some (.int x5), none] [] h Q) : am_W (X_Model_clubs d) 74 [some (.ref 0), some (.int x1), some (.int x2), some (.int x3), some (.int x4), some (.int x5), none] [] h Q :=
  am_iload d_Model_clubs_74 rfl <|
    am_iload_n d_Model_clubs_76 rfl (i := 3) rfl <|
    am_icmp_ge (tgt := 222) d_Model_clubs_77 (by decide) kt kf
theorem b_Model_clubs_80 {d : Nat} {x1 : Int32} {x2 : Int32} {x3 : Int32} {x4 : Int32} {x5 : Int32} {h : am_H} {Q : am_Q} (q0 : vp_in x1 6) (kt : (((h.1 17 x1.toNatClampNeg) - 3) - (3 * x4)) < x2 → am_W (X_Model_clubs d) 110 [some (.ref 0), some (.int x1), some (.int x2), some (.int x3), some (.int x4), some (.int x5), none] [] h Q) (kf : ¬ (((h.1 17 x1.toNatClampNeg) - 3) - (3 * x4)) < x2 → am_W (X_Model_clubs d) 97 [some (.ref 0), some (.int x1), some (.int x2), some (.int x3), some (.int x4), some (.int x5), none] [] h Q) : am_W (X_Model_clubs d) 80 [some (.ref 0), some (.int x1), some (.int x2), some (.int x3), some (.int x4), some (.int x5), none] [] h Q :=
  am_iload_n d_Model_clubs_80 rfl (i := 2) rfl <|
    am_aload_n d_Model_clubs_81 rfl (i := 0) rfl <|
    am_getR (ci := 10) (i := 33) rfl rfl rfl (Nat.le_of_ble_eq_true rfl) w_1351 d_Model_clubs_82 <|
    am_iload_n d_Model_clubs_85 rfl (i := 1) rfl <|
    am_iald rfl q0 d_Model_clubs_86 <|
    am_iconst (v := 3) d_Model_clubs_87 (by decide) <|
    am_isub d_Model_clubs_88 <|
    am_iconst (v := 3) d_Model_clubs_89 (by decide) <|
    am_iload d_Model_clubs_90 rfl <|
    am_imul d_Model_clubs_92 <|
    am_isub d_Model_clubs_93 <|
    am_icmp_gt (tgt := 110) d_Model_clubs_94 (by decide) kt kf
theorem b_Model_clubs_97 {d : Nat} {x1 : Int32} {x2 : Int32} {x3 : Int32} {x4 : Int32} {x5 : Int32} {h : am_H} {Q : am_Q} (kt : 6 ≤ (h.1 0 6) → am_W (X_Model_clubs d) 110 [some (.ref 0), some (.int x1), some (.int x2), some (.int x3), some (.int x4), some (.int x5), none] [] h Q) (kf : ¬ 6 ≤ (h.1 0 6) → am_W (X_Model_clubs d) 106 [some (.ref 0), some (.int x1), some (.int x2), some (.int x3), some (.int x4), some (.int x5), none] [] h Q) : am_W (X_Model_clubs d) 97 [some (.ref 0), some (.int x1), some (.int x2), some (.int x3), some (.int x4), some (.int x5), none] [] h Q :=
  am_aload_n d_Model_clubs_97 rfl (i := 0) rfl <|
    am_getI (ci := 10) (i := 6) rfl rfl rfl (Nat.le_of_ble_eq_true rfl) w_1324 d_Model_clubs_98 <|
    am_bipush (v := 6) d_Model_clubs_101 (by decide) <|
    am_icmp_ge (tgt := 110) d_Model_clubs_103 (by decide) kt kf
theorem b_Model_clubs_106 {d : Nat} {x1 : Int32} {x2 : Int32} {x3 : Int32} {x4 : Int32} {x5 : Int32} {h : am_H} {Q : am_Q} (k : am_W (X_Model_clubs d) 111 [some (.ref 0), some (.int x1), some (.int x2), some (.int x3), some (.int x4), some (.int x5), none] [.int 1] h Q) : am_W (X_Model_clubs d) 106 [some (.ref 0), some (.int x1), some (.int x2), some (.int x3), some (.int x4), some (.int x5), none] [] h Q :=
  am_iconst (v := 1) d_Model_clubs_106 (by decide) <|
    am_goto (tgt := 111) d_Model_clubs_107 (by decide) k
theorem b_Model_clubs_110 {d : Nat} {x1 : Int32} {x2 : Int32} {x3 : Int32} {x4 : Int32} {x5 : Int32} {h : am_H} {Q : am_Q} (k : am_W (X_Model_clubs d) 111 [some (.ref 0), some (.int x1), some (.int x2), some (.int x3), some (.int x4), some (.int x5), none] [.int 0] h Q) : am_W (X_Model_clubs d) 110 [some (.ref 0), some (.int x1), some (.int x2), some (.int x3), some (.int x4), some (.int x5), none] [] h Q :=
  am_iconst (v := 0) d_Model_clubs_110 (by decide) <|
    k
theorem b_Model_clubs_111 {d : Nat} {x1 : Int32} {x2 : Int32} {x3 : Int32} {x4 : Int32} {x5 : Int32} {y0 : Int32} {h : am_H} {Q : am_Q} (kt : y0 = 0 → am_W (X_Model_clubs d) 176 [some (.ref 0), some (.int x1), some (.int x2), some (.int x3), some (.int x4), some (.int y0), some (.int (((60 * x1) + x2) + (3 * x4)))] [] h Q) (kf : ¬ y0 = 0 → am_W (X_Model_clubs d) 131 [some (.ref 0), some (.int x1), some (.int x2), some (.int x3), some (.int x4), some (.int y0), some (.int (((60 * x1) + x2) + (3 * x4)))] [] h Q) : am_W (X_Model_clubs d) 111 [some (.ref 0), some (.int x1), some (.int x2), some (.int x3), some (.int x4), some (.int x5), none] [.int y0] h Q :=
  am_istore (ls' := [some (.ref 0), some (.int x1), some (.int x2), some (.int x3), some (.int x4), some (.int y0), none]) d_Model_clubs_111 (Nat.le_of_ble_eq_true rfl) rfl <|
    am_bipush (v := 60) d_Model_clubs_113 (by decide) <|
    am_iload_n d_Model_clubs_115 rfl (i := 1) rfl <|
    am_imul d_Model_clubs_116 <|
    am_iload_n d_Model_clubs_117 rfl (i := 2) rfl <|
    am_iadd d_Model_clubs_118 <|
    am_iconst (v := 3) d_Model_clubs_119 (by decide) <|
    am_iload d_Model_clubs_120 rfl <|
    am_imul d_Model_clubs_122 <|
    am_iadd d_Model_clubs_123 <|
    am_istore (ls' := [some (.ref 0), some (.int x1), some (.int x2), some (.int x3), some (.int x4), some (.int y0), some (.int (((60 * x1) + x2) + (3 * x4)))]) d_Model_clubs_124 (Nat.le_of_ble_eq_true rfl) rfl <|
    am_iload d_Model_clubs_126 rfl <|
    am_if_eq (tgt := 176) d_Model_clubs_128 (by decide) kt kf
theorem b_Model_clubs_131 {d : Nat} {x1 : Int32} {x2 : Int32} {x3 : Int32} {x4 : Int32} {x5 : Int32} {x6 : Int32} {h : am_H} {Q : am_Q} (q0 : vp_in x6 360) (q1 : vp_in (x6 + 1) 360) (k : m_Model_isOne d [.long (h.2 18 x6.toNatClampNeg), .long (h.2 18 (x6 + 1).toNatClampNeg)] h (fun r hh => am_W (X_Model_clubs (d + 1)) 150 [some (.ref 0), some (.int x1), some (.int x2), some (.int x3), some (.int x4), some (.int x5), some (.int x6)] (r.toList ++ []) hh Q)) : am_W (X_Model_clubs (d + 1)) 131 [some (.ref 0), some (.int x1), some (.int x2), some (.int x3), some (.int x4), some (.int x5), some (.int x6)] [] h Q :=
  am_aload_n d_Model_clubs_131 rfl (i := 0) rfl <|
    am_getR (ci := 10) (i := 34) rfl rfl rfl (Nat.le_of_ble_eq_true rfl) w_1352 d_Model_clubs_132 <|
    am_iload d_Model_clubs_135 rfl <|
    am_lald rfl q0 d_Model_clubs_137 <|
    am_aload_n d_Model_clubs_138 rfl (i := 0) rfl <|
    am_getR (ci := 10) (i := 34) rfl rfl rfl (Nat.le_of_ble_eq_true rfl) w_1352 d_Model_clubs_139 <|
    am_iload d_Model_clubs_142 rfl <|
    am_iconst (v := 1) d_Model_clubs_144 (by decide) <|
    am_iadd d_Model_clubs_145 <|
    am_lald rfl q1 d_Model_clubs_146 <|
    am_callS (vs := [.long (h.2 18 x6.toNatClampNeg), .long (h.2 18 (x6 + 1).toNatClampNeg)]) (st := []) rfl d_Model_clubs_147 w_1439 w_1440 w_94 w_1441 p_Model_isOne (Nat.le_of_ble_eq_true rfl) (Nat.le_of_ble_eq_true rfl) rfl k
theorem b_Model_clubs_150 {d : Nat} {x1 : Int32} {x2 : Int32} {x3 : Int32} {x4 : Int32} {x5 : Int32} {x6 : Int32} {y0 : Bool} {h : am_H} {Q : am_Q} (kt : (am_b y0) = 0 → am_W (X_Model_clubs d) 176 [some (.ref 0), some (.int x1), some (.int x2), some (.int x3), some (.int x4), some (.int x5), some (.int x6)] [] h Q) (kf : ¬ (am_b y0) = 0 → am_W (X_Model_clubs d) 153 [some (.ref 0), some (.int x1), some (.int x2), some (.int x3), some (.int x4), some (.int x5), some (.int x6)] [] h Q) : am_W (X_Model_clubs d) 150 [some (.ref 0), some (.int x1), some (.int x2), some (.int x3), some (.int x4), some (.int x5), some (.int x6)] [.int (am_b y0)] h Q :=
  am_if_eq (tgt := 176) d_Model_clubs_150 (by decide) kt kf
theorem b_Model_clubs_153 {d : Nat} {x1 : Int32} {x2 : Int32} {x3 : Int32} {x4 : Int32} {x5 : Int32} {x6 : Int32} {h : am_H} {Q : am_Q} (q0 : vp_in (x6 + 2) 360) (k : m_Model_within d [.long (h.2 18 (x6 + 2).toNatClampNeg), .long 0, .long 9] h (fun r hh => am_W (X_Model_clubs (d + 1)) 169 [some (.ref 0), some (.int x1), some (.int x2), some (.int x3), some (.int x4), some (.int x5), some (.int x6)] (r.toList ++ []) hh Q)) : am_W (X_Model_clubs (d + 1)) 153 [some (.ref 0), some (.int x1), some (.int x2), some (.int x3), some (.int x4), some (.int x5), some (.int x6)] [] h Q :=
  am_aload_n d_Model_clubs_153 rfl (i := 0) rfl <|
    am_getR (ci := 10) (i := 34) rfl rfl rfl (Nat.le_of_ble_eq_true rfl) w_1352 d_Model_clubs_154 <|
    am_iload d_Model_clubs_157 rfl <|
    am_iconst (v := 2) d_Model_clubs_159 (by decide) <|
    am_iadd d_Model_clubs_160 <|
    am_lald rfl q0 d_Model_clubs_161 <|
    am_lconst (v := 0) d_Model_clubs_162 (by decide) <|
    am_ldc2 (v := 9) d_Model_clubs_163 w_1460 <|
    am_callS (vs := [.long (h.2 18 (x6 + 2).toNatClampNeg), .long 0, .long 9]) (st := []) rfl d_Model_clubs_166 w_1443 w_1444 w_94 w_1445 p_Model_within (Nat.le_of_ble_eq_true rfl) (Nat.le_of_ble_eq_true rfl) rfl k
theorem b_Model_clubs_169 {d : Nat} {x1 : Int32} {x2 : Int32} {x3 : Int32} {x4 : Int32} {x5 : Int32} {x6 : Int32} {y0 : Bool} {h : am_H} {Q : am_Q} (kt : (am_b y0) = 0 → am_W (X_Model_clubs d) 176 [some (.ref 0), some (.int x1), some (.int x2), some (.int x3), some (.int x4), some (.int x5), some (.int x6)] [] h Q) (kf : ¬ (am_b y0) = 0 → am_W (X_Model_clubs d) 172 [some (.ref 0), some (.int x1), some (.int x2), some (.int x3), some (.int x4), some (.int x5), some (.int x6)] [] h Q) : am_W (X_Model_clubs d) 169 [some (.ref 0), some (.int x1), some (.int x2), some (.int x3), some (.int x4), some (.int x5), some (.int x6)] [.int (am_b y0)] h Q :=
  am_if_eq (tgt := 176) d_Model_clubs_169 (by decide) kt kf
theorem b_Model_clubs_172 {d : Nat} {x1 : Int32} {x2 : Int32} {x3 : Int32} {x4 : Int32} {x5 : Int32} {x6 : Int32} {h : am_H} {Q : am_Q} (k : am_W (X_Model_clubs d) 177 [some (.ref 0), some (.int x1), some (.int x2), some (.int x3), some (.int x4), some (.int x5), some (.int x6)] [.int 1] h Q) : am_W (X_Model_clubs d) 172 [some (.ref 0), some (.int x1), some (.int x2), some (.int x3), some (.int x4), some (.int x5), some (.int x6)] [] h Q :=
  am_iconst (v := 1) d_Model_clubs_172 (by decide) <|
    am_goto (tgt := 177) d_Model_clubs_173 (by decide) k
theorem b_Model_clubs_176 {d : Nat} {x1 : Int32} {x2 : Int32} {x3 : Int32} {x4 : Int32} {x5 : Int32} {x6 : Int32} {h : am_H} {Q : am_Q} (k : am_W (X_Model_clubs d) 177 [some (.ref 0), some (.int x1), some (.int x2), some (.int x3), some (.int x4), some (.int x5), some (.int x6)] [.int 0] h Q) : am_W (X_Model_clubs d) 176 [some (.ref 0), some (.int x1), some (.int x2), some (.int x3), some (.int x4), some (.int x5), some (.int x6)] [] h Q :=
  am_iconst (v := 0) d_Model_clubs_176 (by decide) <|
    k
theorem b_Model_clubs_177 {d : Nat} {x1 : Int32} {x2 : Int32} {x3 : Int32} {x4 : Int32} {x5 : Int32} {x6 : Int32} {y0 : Int32} {h : am_H} {Q : am_Q} (kt : y0 = 0 → am_W (X_Model_clubs d) 219 [some (.ref 0), some (.int x1), some (.int x2), some (.int x3), some (.int x4), some (.int y0), some (.int x6)] [] h Q) (kf : ¬ y0 = 0 → am_W (X_Model_clubs d) 184 [some (.ref 0), some (.int x1), some (.int x2), some (.int x3), some (.int x4), some (.int y0), some (.int x6)] [] h Q) : am_W (X_Model_clubs d) 177 [some (.ref 0), some (.int x1), some (.int x2), some (.int x3), some (.int x4), some (.int x5), some (.int x6)] [.int y0] h Q :=
  am_istore (ls' := [some (.ref 0), some (.int x1), some (.int x2), some (.int x3), some (.int x4), some (.int y0), some (.int x6)]) d_Model_clubs_177 (Nat.le_of_ble_eq_true rfl) rfl <|
    am_iload d_Model_clubs_179 rfl <|
    am_if_eq (tgt := 219) d_Model_clubs_181 (by decide) kt kf
theorem b_Model_clubs_184 {d : Nat} {x1 : Int32} {x2 : Int32} {x3 : Int32} {x4 : Int32} {x5 : Int32} {x6 : Int32} {h : am_H} {Q : am_Q} (q0 : vp_in x6 360) (q1 : vp_in (x6 + 1) 360) (q2 : vp_in (x6 + 2) 360) (k : m_Model_adds d [.ref 0, .int ((h.2 18 x6.toNatClampNeg).toInt32), .int ((h.2 18 (x6 + 1).toNatClampNeg).toInt32), .int ((h.2 18 (x6 + 2).toNatClampNeg).toInt32)] h (fun r hh => am_W (X_Model_clubs (d + 1)) 216 [some (.ref 0), some (.int x1), some (.int x2), some (.int x3), some (.int x4), some (.int x5), some (.int x6)] (r.toList ++ []) hh Q)) : am_W (X_Model_clubs (d + 1)) 184 [some (.ref 0), some (.int x1), some (.int x2), some (.int x3), some (.int x4), some (.int x5), some (.int x6)] [] h Q :=
  am_aload_n d_Model_clubs_184 rfl (i := 0) rfl <|
    am_aload_n d_Model_clubs_185 rfl (i := 0) rfl <|
    am_getR (ci := 10) (i := 34) rfl rfl rfl (Nat.le_of_ble_eq_true rfl) w_1352 d_Model_clubs_186 <|
    am_iload d_Model_clubs_189 rfl <|
    am_lald rfl q0 d_Model_clubs_191 <|
    am_l2i d_Model_clubs_192 <|
    am_aload_n d_Model_clubs_193 rfl (i := 0) rfl <|
    am_getR (ci := 10) (i := 34) rfl rfl rfl (Nat.le_of_ble_eq_true rfl) w_1352 d_Model_clubs_194 <|
    am_iload d_Model_clubs_197 rfl <|
    am_iconst (v := 1) d_Model_clubs_199 (by decide) <|
    am_iadd d_Model_clubs_200 <|
    am_lald rfl q1 d_Model_clubs_201 <|
    am_l2i d_Model_clubs_202 <|
    am_aload_n d_Model_clubs_203 rfl (i := 0) rfl <|
    am_getR (ci := 10) (i := 34) rfl rfl rfl (Nat.le_of_ble_eq_true rfl) w_1352 d_Model_clubs_204 <|
    am_iload d_Model_clubs_207 rfl <|
    am_iconst (v := 2) d_Model_clubs_209 (by decide) <|
    am_iadd d_Model_clubs_210 <|
    am_lald rfl q2 d_Model_clubs_211 <|
    am_l2i d_Model_clubs_212 <|
    am_callV (vs := [.int ((h.2 18 x6.toNatClampNeg).toInt32), .int ((h.2 18 (x6 + 1).toNatClampNeg).toInt32), .int ((h.2 18 (x6 + 2).toNatClampNeg).toInt32)]) (st := []) (k := 0) (ci := 10) rfl d_Model_clubs_213 rfl rfl w_1447 w_1449 w_34 w_94 w_1450 p_Model_adds (Nat.le_of_ble_eq_true rfl) (Nat.le_of_ble_eq_true rfl) rfl k
theorem b_Model_clubs_216 {d : Nat} {x1 : Int32} {x2 : Int32} {x3 : Int32} {x4 : Int32} {x5 : Int32} {x6 : Int32} {h : am_H} {Q : am_Q} (k : am_W (X_Model_clubs d) 219 [some (.ref 0), some (.int x1), some (.int x2), some (.int x3), some (.int (x4 + 1)), some (.int x5), some (.int x6)] [] h Q) : am_W (X_Model_clubs d) 216 [some (.ref 0), some (.int x1), some (.int x2), some (.int x3), some (.int x4), some (.int x5), some (.int x6)] [] h Q :=
  am_iinc (v := (x4 + 1)) (ls' := [some (.ref 0), some (.int x1), some (.int x2), some (.int x3), some (.int (x4 + 1)), some (.int x5), some (.int x6)]) d_Model_clubs_216 rfl rfl (Nat.le_of_ble_eq_true rfl) rfl <|
    k
theorem b_Model_clubs_219 {d : Nat} {x1 : Int32} {x2 : Int32} {x3 : Int32} {x4 : Int32} {x5 : Int32} {x6 : Int32} {h : am_H} {Q : am_Q} (k : am_W (X_Model_clubs d) 69 [some (.ref 0), some (.int x1), some (.int x2), some (.int x3), some (.int x4), some (.int x5), some (.int x6)] [] h Q) : am_W (X_Model_clubs d) 219 [some (.ref 0), some (.int x1), some (.int x2), some (.int x3), some (.int x4), some (.int x5), some (.int x6)] [] h Q :=
  am_goto (tgt := 69) d_Model_clubs_219 (by decide) k
theorem b_Model_clubs_222 {d : Nat} {x1 : Int32} {x2 : Int32} {x3 : Int32} {x4 : Int32} {x5 : Int32} {h : am_H} {Q : am_Q} (q : Q (some (.int x4)) h) : am_W (X_Model_clubs d) 222 [some (.ref 0), some (.int x1), some (.int x2), some (.int x3), some (.int x4), some (.int x5), none] [] h Q :=
  am_iload d_Model_clubs_222 rfl <|
    am_iret rfl d_Model_clubs_224 q
theorem t_Model_clubs_19 {d : Nat} {x1 : Int32} {x2 : Int32} {x3 : Int32} {h : am_H} {Q : am_Q} {res : Int32 × am_H} (e : f_Model_clubs_19 h = some res) (q : Q (some (.int res.1)) res.2) : am_W (X_Model_clubs (d + 2)) 19 [some (.ref 0), some (.int x1), some (.int x2), some (.int x3), none, none, none] [] h Q :=
  b_Model_clubs_19 (d := (d + 2)) (q := (am_rIpi (v := (-1)) e q))
theorem t_Model_clubs_222 {d : Nat} {x1 : Int32} {x2 : Int32} {x3 : Int32} {x4 : Int32} {x5 : Int32} {h : am_H} {Q : am_Q} {res : Int32 × am_H} (e : f_Model_clubs_222 h x4 = some res) (q : Q (some (.int res.1)) res.2) : am_W (X_Model_clubs (d + 2)) 222 [some (.ref 0), some (.int x1), some (.int x2), some (.int x3), some (.int x4), some (.int x5), none] [] h Q :=
  b_Model_clubs_222 (d := (d + 2)) (q := (am_rIpi (v := x4) e q))
theorem t_Model_clubs_219 {d : Nat} {k69 : am_H → Int32 → Int32 → Int32 → Int32 → Int32 → Option (Int32 × am_H)} {x1 : Int32} {x2 : Int32} {x3 : Int32} {x4 : Int32} {x5 : Int32} {x6 : Int32} {h : am_H} {Q : am_Q} {res : Int32 × am_H} (hk69 : ∀ (x1 : Int32) (x2 : Int32) (x3 : Int32) (x4 : Int32) (x5 : Int32) (h : am_H), k69 h x1 x2 x3 x4 x5 = some res → am_W (X_Model_clubs (d + 2)) 69 [some (.ref 0), some (.int x1), some (.int x2), some (.int x3), some (.int x4), some (.int x5), none] [] h Q) (e : f_Model_clubs_219 k69 h x1 x2 x3 x4 x5 = some res) (q : Q (some (.int res.1)) res.2) : am_W (X_Model_clubs (d + 2)) 219 [some (.ref 0), some (.int x1), some (.int x2), some (.int x3), some (.int x4), some (.int x5), some (.int x6)] [] h Q :=
  b_Model_clubs_219 (d := (d + 2)) (k := (am_wk2 (hk69 _ _ _ _ _ _ e) ⟨rfl, ⟨rfl, ⟨rfl, ⟨rfl, ⟨rfl, ⟨rfl, trivial⟩⟩⟩⟩⟩⟩))
theorem t_Model_clubs_216 {d : Nat} {k69 : am_H → Int32 → Int32 → Int32 → Int32 → Int32 → Option (Int32 × am_H)} {x1 : Int32} {x2 : Int32} {x3 : Int32} {x4 : Int32} {x5 : Int32} {x6 : Int32} {h : am_H} {Q : am_Q} {res : Int32 × am_H} (hk69 : ∀ (x1 : Int32) (x2 : Int32) (x3 : Int32) (x4 : Int32) (x5 : Int32) (h : am_H), k69 h x1 x2 x3 x4 x5 = some res → am_W (X_Model_clubs (d + 2)) 69 [some (.ref 0), some (.int x1), some (.int x2), some (.int x3), some (.int x4), some (.int x5), none] [] h Q) (e : f_Model_clubs_216 k69 h x1 x2 x3 x4 x5 = some res) (q : Q (some (.int res.1)) res.2) : am_W (X_Model_clubs (d + 2)) 216 [some (.ref 0), some (.int x1), some (.int x2), some (.int x3), some (.int x4), some (.int x5), some (.int x6)] [] h Q :=
  b_Model_clubs_216 (d := (d + 2)) (k := (t_Model_clubs_219 hk69 e q))
theorem t_Model_clubs_184 {d : Nat} {k69 : am_H → Int32 → Int32 → Int32 → Int32 → Int32 → Option (Int32 × am_H)} {x1 : Int32} {x2 : Int32} {x3 : Int32} {x4 : Int32} {x5 : Int32} {x6 : Int32} {h : am_H} {Q : am_Q} {res : Int32 × am_H} (hk69 : ∀ (x1 : Int32) (x2 : Int32) (x3 : Int32) (x4 : Int32) (x5 : Int32) (h : am_H), k69 h x1 x2 x3 x4 x5 = some res → am_W (X_Model_clubs (d + 2)) 69 [some (.ref 0), some (.int x1), some (.int x2), some (.int x3), some (.int x4), some (.int x5), none] [] h Q) (e : f_Model_clubs_184 k69 h x1 x2 x3 x4 x5 x6 = some res) (q : Q (some (.int res.1)) res.2) : am_W (X_Model_clubs (d + 2)) 184 [some (.ref 0), some (.int x1), some (.int x2), some (.int x3), some (.int x4), some (.int x5), some (.int x6)] [] h Q :=
  (am_bd (am_ga (am_ga (am_ga e)))).elim fun p hp => b_Model_clubs_184 (d := (d + 1)) (q0 := (am_okv (am_gd e))) (q1 := (am_okv (am_gd (am_ga e)))) (q2 := (am_okv (am_gd (am_ga (am_ga e))))) (k := c_Model_adds (d := d + 1) hp.1 (t_Model_clubs_216 hk69 hp.2 q))
theorem t_Model_clubs_177 {d : Nat} {k69 : am_H → Int32 → Int32 → Int32 → Int32 → Int32 → Option (Int32 × am_H)} {x1 : Int32} {x2 : Int32} {x3 : Int32} {x4 : Int32} {x5 : Int32} {x6 : Int32} {y0 : Int32} {h : am_H} {Q : am_Q} {res : Int32 × am_H} (hk69 : ∀ (x1 : Int32) (x2 : Int32) (x3 : Int32) (x4 : Int32) (x5 : Int32) (h : am_H), k69 h x1 x2 x3 x4 x5 = some res → am_W (X_Model_clubs (d + 2)) 69 [some (.ref 0), some (.int x1), some (.int x2), some (.int x3), some (.int x4), some (.int x5), none] [] h Q) (e : f_Model_clubs_177 k69 h x1 x2 x3 x4 x6 y0 = some res) (q : Q (some (.int res.1)) res.2) : am_W (X_Model_clubs (d + 2)) 177 [some (.ref 0), some (.int x1), some (.int x2), some (.int x3), some (.int x4), some (.int x5), some (.int x6)] [.int y0] h Q :=
  b_Model_clubs_177 (d := (d + 2)) (kt := fun c => (t_Model_clubs_219 hk69 (am_ift e c) q)) (kf := fun c => (t_Model_clubs_184 hk69 (am_ife e c) q))
theorem t_Model_clubs_176 {d : Nat} {k69 : am_H → Int32 → Int32 → Int32 → Int32 → Int32 → Option (Int32 × am_H)} {x1 : Int32} {x2 : Int32} {x3 : Int32} {x4 : Int32} {x5 : Int32} {x6 : Int32} {h : am_H} {Q : am_Q} {res : Int32 × am_H} (hk69 : ∀ (x1 : Int32) (x2 : Int32) (x3 : Int32) (x4 : Int32) (x5 : Int32) (h : am_H), k69 h x1 x2 x3 x4 x5 = some res → am_W (X_Model_clubs (d + 2)) 69 [some (.ref 0), some (.int x1), some (.int x2), some (.int x3), some (.int x4), some (.int x5), none] [] h Q) (e : f_Model_clubs_176 k69 h x1 x2 x3 x4 x6 = some res) (q : Q (some (.int res.1)) res.2) : am_W (X_Model_clubs (d + 2)) 176 [some (.ref 0), some (.int x1), some (.int x2), some (.int x3), some (.int x4), some (.int x5), some (.int x6)] [] h Q :=
  b_Model_clubs_176 (d := (d + 2)) (k := (t_Model_clubs_177 hk69 e q))
theorem t_Model_clubs_172 {d : Nat} {k69 : am_H → Int32 → Int32 → Int32 → Int32 → Int32 → Option (Int32 × am_H)} {x1 : Int32} {x2 : Int32} {x3 : Int32} {x4 : Int32} {x5 : Int32} {x6 : Int32} {h : am_H} {Q : am_Q} {res : Int32 × am_H} (hk69 : ∀ (x1 : Int32) (x2 : Int32) (x3 : Int32) (x4 : Int32) (x5 : Int32) (h : am_H), k69 h x1 x2 x3 x4 x5 = some res → am_W (X_Model_clubs (d + 2)) 69 [some (.ref 0), some (.int x1), some (.int x2), some (.int x3), some (.int x4), some (.int x5), none] [] h Q) (e : f_Model_clubs_172 k69 h x1 x2 x3 x4 x6 = some res) (q : Q (some (.int res.1)) res.2) : am_W (X_Model_clubs (d + 2)) 172 [some (.ref 0), some (.int x1), some (.int x2), some (.int x3), some (.int x4), some (.int x5), some (.int x6)] [] h Q :=
  b_Model_clubs_172 (d := (d + 2)) (k := (t_Model_clubs_177 hk69 e q))
theorem t_Model_clubs_169 {d : Nat} {k69 : am_H → Int32 → Int32 → Int32 → Int32 → Int32 → Option (Int32 × am_H)} {x1 : Int32} {x2 : Int32} {x3 : Int32} {x4 : Int32} {x5 : Int32} {x6 : Int32} {y0 : Bool} {h : am_H} {Q : am_Q} {res : Int32 × am_H} (hk69 : ∀ (x1 : Int32) (x2 : Int32) (x3 : Int32) (x4 : Int32) (x5 : Int32) (h : am_H), k69 h x1 x2 x3 x4 x5 = some res → am_W (X_Model_clubs (d + 2)) 69 [some (.ref 0), some (.int x1), some (.int x2), some (.int x3), some (.int x4), some (.int x5), none] [] h Q) (e : f_Model_clubs_169 k69 h x1 x2 x3 x4 x6 y0 = some res) (q : Q (some (.int res.1)) res.2) : am_W (X_Model_clubs (d + 2)) 169 [some (.ref 0), some (.int x1), some (.int x2), some (.int x3), some (.int x4), some (.int x5), some (.int x6)] [.int (am_b y0)] h Q :=
  b_Model_clubs_169 (d := (d + 2)) (kt := fun c => (t_Model_clubs_176 hk69 (am_iff e (am_bz c)) q)) (kf := fun c => (t_Model_clubs_172 hk69 (am_ift e (am_bn c)) q))
theorem t_Model_clubs_153 {d : Nat} {k69 : am_H → Int32 → Int32 → Int32 → Int32 → Int32 → Option (Int32 × am_H)} {x1 : Int32} {x2 : Int32} {x3 : Int32} {x4 : Int32} {x5 : Int32} {x6 : Int32} {h : am_H} {Q : am_Q} {res : Int32 × am_H} (hk69 : ∀ (x1 : Int32) (x2 : Int32) (x3 : Int32) (x4 : Int32) (x5 : Int32) (h : am_H), k69 h x1 x2 x3 x4 x5 = some res → am_W (X_Model_clubs (d + 2)) 69 [some (.ref 0), some (.int x1), some (.int x2), some (.int x3), some (.int x4), some (.int x5), none] [] h Q) (e : f_Model_clubs_153 k69 h x1 x2 x3 x4 x6 = some res) (q : Q (some (.int res.1)) res.2) : am_W (X_Model_clubs (d + 2)) 153 [some (.ref 0), some (.int x1), some (.int x2), some (.int x3), some (.int x4), some (.int x5), some (.int x6)] [] h Q :=
  b_Model_clubs_153 (d := (d + 1)) (q0 := (am_okv (am_gd e))) (k := c_Model_within (d := d + 1) rfl (t_Model_clubs_169 hk69 (am_ga e) q))
theorem t_Model_clubs_150 {d : Nat} {k69 : am_H → Int32 → Int32 → Int32 → Int32 → Int32 → Option (Int32 × am_H)} {x1 : Int32} {x2 : Int32} {x3 : Int32} {x4 : Int32} {x5 : Int32} {x6 : Int32} {y0 : Bool} {h : am_H} {Q : am_Q} {res : Int32 × am_H} (hk69 : ∀ (x1 : Int32) (x2 : Int32) (x3 : Int32) (x4 : Int32) (x5 : Int32) (h : am_H), k69 h x1 x2 x3 x4 x5 = some res → am_W (X_Model_clubs (d + 2)) 69 [some (.ref 0), some (.int x1), some (.int x2), some (.int x3), some (.int x4), some (.int x5), none] [] h Q) (e : f_Model_clubs_150 k69 h x1 x2 x3 x4 x6 y0 = some res) (q : Q (some (.int res.1)) res.2) : am_W (X_Model_clubs (d + 2)) 150 [some (.ref 0), some (.int x1), some (.int x2), some (.int x3), some (.int x4), some (.int x5), some (.int x6)] [.int (am_b y0)] h Q :=
  b_Model_clubs_150 (d := (d + 2)) (kt := fun c => (t_Model_clubs_176 hk69 (am_iff e (am_bz c)) q)) (kf := fun c => (t_Model_clubs_153 hk69 (am_ift e (am_bn c)) q))
theorem t_Model_clubs_131 {d : Nat} {k69 : am_H → Int32 → Int32 → Int32 → Int32 → Int32 → Option (Int32 × am_H)} {x1 : Int32} {x2 : Int32} {x3 : Int32} {x4 : Int32} {x5 : Int32} {x6 : Int32} {h : am_H} {Q : am_Q} {res : Int32 × am_H} (hk69 : ∀ (x1 : Int32) (x2 : Int32) (x3 : Int32) (x4 : Int32) (x5 : Int32) (h : am_H), k69 h x1 x2 x3 x4 x5 = some res → am_W (X_Model_clubs (d + 2)) 69 [some (.ref 0), some (.int x1), some (.int x2), some (.int x3), some (.int x4), some (.int x5), none] [] h Q) (e : f_Model_clubs_131 k69 h x1 x2 x3 x4 x6 = some res) (q : Q (some (.int res.1)) res.2) : am_W (X_Model_clubs (d + 2)) 131 [some (.ref 0), some (.int x1), some (.int x2), some (.int x3), some (.int x4), some (.int x5), some (.int x6)] [] h Q :=
  b_Model_clubs_131 (d := (d + 1)) (q0 := (am_okv (am_gd e))) (q1 := (am_okv (am_gd (am_ga e)))) (k := c_Model_isOne (d := d) rfl (t_Model_clubs_150 hk69 (am_ga (am_ga e)) q))
theorem t_Model_clubs_111 {d : Nat} {k69 : am_H → Int32 → Int32 → Int32 → Int32 → Int32 → Option (Int32 × am_H)} {x1 : Int32} {x2 : Int32} {x3 : Int32} {x4 : Int32} {x5 : Int32} {y0 : Int32} {h : am_H} {Q : am_Q} {res : Int32 × am_H} (hk69 : ∀ (x1 : Int32) (x2 : Int32) (x3 : Int32) (x4 : Int32) (x5 : Int32) (h : am_H), k69 h x1 x2 x3 x4 x5 = some res → am_W (X_Model_clubs (d + 2)) 69 [some (.ref 0), some (.int x1), some (.int x2), some (.int x3), some (.int x4), some (.int x5), none] [] h Q) (e : f_Model_clubs_111 k69 h x1 x2 x3 x4 y0 = some res) (q : Q (some (.int res.1)) res.2) : am_W (X_Model_clubs (d + 2)) 111 [some (.ref 0), some (.int x1), some (.int x2), some (.int x3), some (.int x4), some (.int x5), none] [.int y0] h Q :=
  b_Model_clubs_111 (d := (d + 2)) (kt := fun c => (t_Model_clubs_176 hk69 (am_ift e c) q)) (kf := fun c => (t_Model_clubs_131 hk69 (am_ife e c) q))
theorem t_Model_clubs_110 {d : Nat} {k69 : am_H → Int32 → Int32 → Int32 → Int32 → Int32 → Option (Int32 × am_H)} {x1 : Int32} {x2 : Int32} {x3 : Int32} {x4 : Int32} {x5 : Int32} {h : am_H} {Q : am_Q} {res : Int32 × am_H} (hk69 : ∀ (x1 : Int32) (x2 : Int32) (x3 : Int32) (x4 : Int32) (x5 : Int32) (h : am_H), k69 h x1 x2 x3 x4 x5 = some res → am_W (X_Model_clubs (d + 2)) 69 [some (.ref 0), some (.int x1), some (.int x2), some (.int x3), some (.int x4), some (.int x5), none] [] h Q) (e : f_Model_clubs_110 k69 h x1 x2 x3 x4 = some res) (q : Q (some (.int res.1)) res.2) : am_W (X_Model_clubs (d + 2)) 110 [some (.ref 0), some (.int x1), some (.int x2), some (.int x3), some (.int x4), some (.int x5), none] [] h Q :=
  b_Model_clubs_110 (d := (d + 2)) (k := (t_Model_clubs_111 hk69 e q))
theorem t_Model_clubs_106 {d : Nat} {k69 : am_H → Int32 → Int32 → Int32 → Int32 → Int32 → Option (Int32 × am_H)} {x1 : Int32} {x2 : Int32} {x3 : Int32} {x4 : Int32} {x5 : Int32} {h : am_H} {Q : am_Q} {res : Int32 × am_H} (hk69 : ∀ (x1 : Int32) (x2 : Int32) (x3 : Int32) (x4 : Int32) (x5 : Int32) (h : am_H), k69 h x1 x2 x3 x4 x5 = some res → am_W (X_Model_clubs (d + 2)) 69 [some (.ref 0), some (.int x1), some (.int x2), some (.int x3), some (.int x4), some (.int x5), none] [] h Q) (e : f_Model_clubs_106 k69 h x1 x2 x3 x4 = some res) (q : Q (some (.int res.1)) res.2) : am_W (X_Model_clubs (d + 2)) 106 [some (.ref 0), some (.int x1), some (.int x2), some (.int x3), some (.int x4), some (.int x5), none] [] h Q :=
  b_Model_clubs_106 (d := (d + 2)) (k := (t_Model_clubs_111 hk69 e q))
theorem t_Model_clubs_97 {d : Nat} {k69 : am_H → Int32 → Int32 → Int32 → Int32 → Int32 → Option (Int32 × am_H)} {x1 : Int32} {x2 : Int32} {x3 : Int32} {x4 : Int32} {x5 : Int32} {h : am_H} {Q : am_Q} {res : Int32 × am_H} (hk69 : ∀ (x1 : Int32) (x2 : Int32) (x3 : Int32) (x4 : Int32) (x5 : Int32) (h : am_H), k69 h x1 x2 x3 x4 x5 = some res → am_W (X_Model_clubs (d + 2)) 69 [some (.ref 0), some (.int x1), some (.int x2), some (.int x3), some (.int x4), some (.int x5), none] [] h Q) (e : f_Model_clubs_97 k69 h x1 x2 x3 x4 = some res) (q : Q (some (.int res.1)) res.2) : am_W (X_Model_clubs (d + 2)) 97 [some (.ref 0), some (.int x1), some (.int x2), some (.int x3), some (.int x4), some (.int x5), none] [] h Q :=
  b_Model_clubs_97 (d := (d + 2)) (kt := fun c => (t_Model_clubs_110 hk69 (am_ift e c) q)) (kf := fun c => (t_Model_clubs_106 hk69 (am_ife e c) q))
theorem t_Model_clubs_80 {d : Nat} {k69 : am_H → Int32 → Int32 → Int32 → Int32 → Int32 → Option (Int32 × am_H)} {x1 : Int32} {x2 : Int32} {x3 : Int32} {x4 : Int32} {x5 : Int32} {h : am_H} {Q : am_Q} {res : Int32 × am_H} (hk69 : ∀ (x1 : Int32) (x2 : Int32) (x3 : Int32) (x4 : Int32) (x5 : Int32) (h : am_H), k69 h x1 x2 x3 x4 x5 = some res → am_W (X_Model_clubs (d + 2)) 69 [some (.ref 0), some (.int x1), some (.int x2), some (.int x3), some (.int x4), some (.int x5), none] [] h Q) (e : f_Model_clubs_80 k69 h x1 x2 x3 x4 = some res) (q : Q (some (.int res.1)) res.2) : am_W (X_Model_clubs (d + 2)) 80 [some (.ref 0), some (.int x1), some (.int x2), some (.int x3), some (.int x4), some (.int x5), none] [] h Q :=
  b_Model_clubs_80 (d := (d + 2)) (q0 := (am_okv (am_gd e))) (kt := fun c => (t_Model_clubs_110 hk69 (am_ift (am_ga e) c) q)) (kf := fun c => (t_Model_clubs_97 hk69 (am_ife (am_ga e) c) q))
theorem t_Model_clubs_74 {d : Nat} {k69 : am_H → Int32 → Int32 → Int32 → Int32 → Int32 → Option (Int32 × am_H)} {x1 : Int32} {x2 : Int32} {x3 : Int32} {x4 : Int32} {x5 : Int32} {h : am_H} {Q : am_Q} {res : Int32 × am_H} (hk69 : ∀ (x1 : Int32) (x2 : Int32) (x3 : Int32) (x4 : Int32) (x5 : Int32) (h : am_H), k69 h x1 x2 x3 x4 x5 = some res → am_W (X_Model_clubs (d + 2)) 69 [some (.ref 0), some (.int x1), some (.int x2), some (.int x3), some (.int x4), some (.int x5), none] [] h Q) (e : f_Model_clubs_74 k69 h x1 x2 x3 x4 = some res) (q : Q (some (.int res.1)) res.2) : am_W (X_Model_clubs (d + 2)) 74 [some (.ref 0), some (.int x1), some (.int x2), some (.int x3), some (.int x4), some (.int x5), none] [] h Q :=
  b_Model_clubs_74 (d := (d + 2)) (kt := fun c => (t_Model_clubs_222 (am_ift e c) q)) (kf := fun c => (t_Model_clubs_80 hk69 (am_ife e c) q))
theorem t_Model_clubs_69 {d : Nat} {k69 : am_H → Int32 → Int32 → Int32 → Int32 → Int32 → Option (Int32 × am_H)} {x1 : Int32} {x2 : Int32} {x3 : Int32} {x4 : Int32} {x5 : Int32} {h : am_H} {Q : am_Q} {res : Int32 × am_H} (hk69 : ∀ (x1 : Int32) (x2 : Int32) (x3 : Int32) (x4 : Int32) (x5 : Int32) (h : am_H), k69 h x1 x2 x3 x4 x5 = some res → am_W (X_Model_clubs (d + 2)) 69 [some (.ref 0), some (.int x1), some (.int x2), some (.int x3), some (.int x4), some (.int x5), none] [] h Q) (e : f_Model_clubs_69 k69 h x1 x2 x3 x4 x5 = some res) (q : Q (some (.int res.1)) res.2) : am_W (X_Model_clubs (d + 2)) 69 [some (.ref 0), some (.int x1), some (.int x2), some (.int x3), some (.int x4), some (.int x5), none] [] h Q :=
  b_Model_clubs_69 (d := (d + 2)) (kt := fun c => (t_Model_clubs_222 (am_ift e c) q)) (kf := fun c => (t_Model_clubs_74 hk69 (am_ife e c) q))
theorem t_Model_clubs_69_l {d : Nat} {Q : am_Q} {res : Int32 × am_H} (q : Q (some (.int res.1)) res.2) : ∀ (n : Nat) (x1 : Int32) (x2 : Int32) (x3 : Int32) (x4 : Int32) (x5 : Int32) (h : am_H), f_Model_clubs_69_l n h x1 x2 x3 x4 x5 = some res → am_W (X_Model_clubs (d + 2)) 69 [some (.ref 0), some (.int x1), some (.int x2), some (.int x3), some (.int x4), some (.int x5), none] [] h Q := by
  intro n
  induction n with
  | zero => intro x1 x2 x3 x4 x5 h e; exact am_nn e
  | succ n ih => intro x1 x2 x3 x4 x5 h e; exact t_Model_clubs_69 (fun x1 x2 x3 x4 x5 h e => ih x1 x2 x3 x4 x5 h  e) e q
theorem t_Model_clubs_67 {d : Nat} {x1 : Int32} {x2 : Int32} {x3 : Int32} {x4 : Int32} {y0 : Int32} {h : am_H} {Q : am_Q} {res : Int32 × am_H} (e : f_Model_clubs_67 h x1 x2 x3 x4 y0 = some res) (q : Q (some (.int res.1)) res.2) : am_W (X_Model_clubs (d + 2)) 67 [some (.ref 0), some (.int x1), some (.int x2), some (.int x3), some (.int x4), none, none] [.int y0] h Q :=
  b_Model_clubs_67 (d := (d + 2)) (k := (t_Model_clubs_69_l q am_fu _ _ _ _ _ _ e))
theorem t_Model_clubs_66 {d : Nat} {x1 : Int32} {x2 : Int32} {x3 : Int32} {x4 : Int32} {h : am_H} {Q : am_Q} {res : Int32 × am_H} (e : f_Model_clubs_66 h x1 x2 x3 x4 = some res) (q : Q (some (.int res.1)) res.2) : am_W (X_Model_clubs (d + 2)) 66 [some (.ref 0), some (.int x1), some (.int x2), some (.int x3), some (.int x4), none, none] [] h Q :=
  b_Model_clubs_66 (d := (d + 2)) (k := (t_Model_clubs_67 e q))
theorem t_Model_clubs_62 {d : Nat} {x1 : Int32} {x2 : Int32} {x3 : Int32} {x4 : Int32} {h : am_H} {Q : am_Q} {res : Int32 × am_H} (e : f_Model_clubs_62 h x1 x2 x3 x4 = some res) (q : Q (some (.int res.1)) res.2) : am_W (X_Model_clubs (d + 2)) 62 [some (.ref 0), some (.int x1), some (.int x2), some (.int x3), some (.int x4), none, none] [] h Q :=
  b_Model_clubs_62 (d := (d + 2)) (k := (t_Model_clubs_67 e q))
theorem t_Model_clubs_58 {d : Nat} {x1 : Int32} {x2 : Int32} {x3 : Int32} {x4 : Int32} {h : am_H} {Q : am_Q} {res : Int32 × am_H} (e : f_Model_clubs_58 h x1 x2 x3 x4 = some res) (q : Q (some (.int res.1)) res.2) : am_W (X_Model_clubs (d + 2)) 58 [some (.ref 0), some (.int x1), some (.int x2), some (.int x3), some (.int x4), none, none] [] h Q :=
  b_Model_clubs_58 (d := (d + 2)) (kt := fun c => (t_Model_clubs_66 (am_ift e c) q)) (kf := fun c => (t_Model_clubs_62 (am_ife e c) q))
theorem t_Model_clubs_44 {d : Nat} {x1 : Int32} {x2 : Int32} {x3 : Int32} {h : am_H} {Q : am_Q} {res : Int32 × am_H} (e : f_Model_clubs_44 h x1 x2 x3 = some res) (q : Q (some (.int res.1)) res.2) : am_W (X_Model_clubs (d + 2)) 44 [some (.ref 0), some (.int x1), some (.int x2), some (.int x3), none, none, none] [] h Q :=
  b_Model_clubs_44 (d := (d + 2)) (q0 := (am_okv (am_gd e))) (kt := fun c => (t_Model_clubs_66 (am_ife (am_ga e) c) q)) (kf := fun c => (t_Model_clubs_58 (am_ift (am_ga e) c) q))
theorem t_Model_clubs_41 {d : Nat} {x1 : Int32} {x2 : Int32} {x3 : Int32} {h : am_H} {Q : am_Q} {res : Int32 × am_H} (e : f_Model_clubs_41 h = some res) (q : Q (some (.int res.1)) res.2) : am_W (X_Model_clubs (d + 2)) 41 [some (.ref 0), some (.int x1), some (.int x2), some (.int x3), none, none, none] [] h Q :=
  b_Model_clubs_41 (d := (d + 2)) (q := (am_rIpi (v := (-12)) e q))
theorem t_Model_clubs_30 {d : Nat} {x1 : Int32} {x2 : Int32} {x3 : Int32} {h : am_H} {Q : am_Q} {res : Int32 × am_H} (e : f_Model_clubs_30 h x1 x2 x3 = some res) (q : Q (some (.int res.1)) res.2) : am_W (X_Model_clubs (d + 2)) 30 [some (.ref 0), some (.int x1), some (.int x2), some (.int x3), none, none, none] [] h Q :=
  b_Model_clubs_30 (d := (d + 2)) (q0 := (am_okv (am_gd e))) (kt := fun c => (t_Model_clubs_44 (am_ift (am_ga e) c) q)) (kf := fun c => (t_Model_clubs_41 (am_ife (am_ga e) c) q))
theorem t_Model_clubs_21 {d : Nat} {x1 : Int32} {x2 : Int32} {x3 : Int32} {h : am_H} {Q : am_Q} {res : Int32 × am_H} (e : f_Model_clubs_21 h x1 x2 x3 = some res) (q : Q (some (.int res.1)) res.2) : am_W (X_Model_clubs (d + 2)) 21 [some (.ref 0), some (.int x1), some (.int x2), some (.int x3), none, none, none] [] h Q :=
  b_Model_clubs_21 (d := (d + 2)) (q0 := (am_okv (am_gd e))) (kt := fun c => (t_Model_clubs_44 (am_ift (am_ga e) c) q)) (kf := fun c => (t_Model_clubs_30 (am_ife (am_ga e) c) q))
theorem t_Model_clubs_16 {d : Nat} {x1 : Int32} {x2 : Int32} {x3 : Int32} {y0 : Bool} {h : am_H} {Q : am_Q} {res : Int32 × am_H} (e : f_Model_clubs_16 h x1 x2 x3 y0 = some res) (q : Q (some (.int res.1)) res.2) : am_W (X_Model_clubs (d + 2)) 16 [some (.ref 0), some (.int x1), some (.int x2), some (.int x3), none, none, none] [.int (am_b y0)] h Q :=
  b_Model_clubs_16 (d := (d + 2)) (kt := fun c => (t_Model_clubs_21 (am_ift e (am_bn c)) q)) (kf := fun c => (t_Model_clubs_19 (am_iff e (am_bz c)) q))
theorem t_Model_clubs_7 {d : Nat} {x1 : Int32} {x2 : Int32} {x3 : Int32} {h : am_H} {Q : am_Q} {res : Int32 × am_H} (e : f_Model_clubs_7 h x1 x2 x3 = some res) (q : Q (some (.int res.1)) res.2) : am_W (X_Model_clubs (d + 2)) 7 [some (.ref 0), some (.int x1), some (.int x2), some (.int x3), none, none, none] [] h Q :=
  b_Model_clubs_7 (d := (d + 1)) (k := c_Model_within (d := d + 1) rfl (t_Model_clubs_16 e q))
theorem t_Model_clubs_4 {d : Nat} {x1 : Int32} {x2 : Int32} {x3 : Int32} {y0 : Bool} {h : am_H} {Q : am_Q} {res : Int32 × am_H} (e : f_Model_clubs_4 h x1 x2 x3 y0 = some res) (q : Q (some (.int res.1)) res.2) : am_W (X_Model_clubs (d + 2)) 4 [some (.ref 0), some (.int x1), some (.int x2), some (.int x3), none, none, none] [.int (am_b y0)] h Q :=
  b_Model_clubs_4 (d := (d + 2)) (kt := fun c => (t_Model_clubs_19 (am_iff e (am_bz c)) q)) (kf := fun c => (t_Model_clubs_7 (am_ift e (am_bn c)) q))
theorem t_Model_clubs_0 {d : Nat} {x1 : Int32} {x2 : Int32} {x3 : Int32} {h : am_H} {Q : am_Q} {res : Int32 × am_H} (e : f_Model_clubs h x1 x2 x3 = some res) (q : Q (some (.int res.1)) res.2) : am_W (X_Model_clubs (d + 2)) 0 [some (.ref 0), some (.int x1), some (.int x2), some (.int x3), none, none, none] [] h Q :=
  b_Model_clubs_0 (d := (d + 1)) (k := c_Model_isShelf (d := d) rfl (t_Model_clubs_4 e q))
theorem c_Model_clubs {d : Nat} {x1 : Int32} {x2 : Int32} {x3 : Int32} {h : am_H} {Q : am_Q} {res : Int32 × am_H} (e : f_Model_clubs h x1 x2 x3 = some res) (q : Q (some (.int res.1)) res.2) : m_Model_clubs (d + 2) [.ref 0, .int x1, .int x2, .int x3] h Q :=
  e_Model_clubs (t_Model_clubs_0 e q)
theorem d_Model_placeOf_0 : decode prog_12_method_15_code 0 = .ok (.iload_n 2, 1) := by decide +kernel
theorem d_Model_placeOf_1 : decode prog_12_method_15_code 1 = .ok (.ifCond .ne 17, 3) := by decide +kernel
theorem d_Model_placeOf_4 : decode prog_12_method_15_code 4 = .ok (.iload_n 1, 1) := by decide +kernel
theorem d_Model_placeOf_5 : decode prog_12_method_15_code 5 = .ok (.i2l, 1) := by decide +kernel
theorem d_Model_placeOf_6 : decode prog_12_method_15_code 6 = .ok (.invokestatic 110, 3) := by decide +kernel
theorem d_Model_placeOf_9 : decode prog_12_method_15_code 9 = .ok (.ifCond .eq 7, 3) := by decide +kernel
theorem d_Model_placeOf_12 : decode prog_12_method_15_code 12 = .ok (.iload_n 1, 1) := by decide +kernel
theorem d_Model_placeOf_13 : decode prog_12_method_15_code 13 = .ok (.goto 4, 3) := by decide +kernel
theorem d_Model_placeOf_16 : decode prog_12_method_15_code 16 = .ok (.iconst (-1), 1) := by decide +kernel
theorem d_Model_placeOf_17 : decode prog_12_method_15_code 17 = .ok (.ireturn, 1) := by decide +kernel
theorem d_Model_placeOf_18 : decode prog_12_method_15_code 18 = .ok (.iload_n 2, 1) := by decide +kernel
theorem d_Model_placeOf_19 : decode prog_12_method_15_code 19 = .ok (.i2l, 1) := by decide +kernel
theorem d_Model_placeOf_20 : decode prog_12_method_15_code 20 = .ok (.lconst 1, 1) := by decide +kernel
theorem d_Model_placeOf_21 : decode prog_12_method_15_code 21 = .ok (.ldc2_w 93, 3) := by decide +kernel
theorem d_Model_placeOf_24 : decode prog_12_method_15_code 24 = .ok (.invokestatic 83, 3) := by decide +kernel
theorem d_Model_placeOf_27 : decode prog_12_method_15_code 27 = .ok (.ifCond .eq 28, 3) := by decide +kernel
theorem d_Model_placeOf_30 : decode prog_12_method_15_code 30 = .ok (.aload_n 0, 1) := by decide +kernel
theorem d_Model_placeOf_31 : decode prog_12_method_15_code 31 = .ok (.iload_n 1, 1) := by decide +kernel
theorem d_Model_placeOf_32 : decode prog_12_method_15_code 32 = .ok (.i2l, 1) := by decide +kernel
theorem d_Model_placeOf_33 : decode prog_12_method_15_code 33 = .ok (.invokevirtual 114, 3) := by decide +kernel
theorem d_Model_placeOf_36 : decode prog_12_method_15_code 36 = .ok (.ifCond .eq 17, 3) := by decide +kernel
theorem d_Model_placeOf_39 : decode prog_12_method_15_code 39 = .ok (.bipush 31, 2) := by decide +kernel
theorem d_Model_placeOf_41 : decode prog_12_method_15_code 41 = .ok (.bipush 6, 2) := by decide +kernel
theorem d_Model_placeOf_43 : decode prog_12_method_15_code 43 = .ok (.iload_n 2, 1) := by decide +kernel
theorem d_Model_placeOf_44 : decode prog_12_method_15_code 44 = .ok (.iconst 1, 1) := by decide +kernel
theorem d_Model_placeOf_45 : decode prog_12_method_15_code 45 = .ok (.isub, 1) := by decide +kernel
theorem d_Model_placeOf_46 : decode prog_12_method_15_code 46 = .ok (.imul, 1) := by decide +kernel
theorem d_Model_placeOf_47 : decode prog_12_method_15_code 47 = .ok (.iadd, 1) := by decide +kernel
theorem d_Model_placeOf_48 : decode prog_12_method_15_code 48 = .ok (.iload_n 1, 1) := by decide +kernel
theorem d_Model_placeOf_49 : decode prog_12_method_15_code 49 = .ok (.iadd, 1) := by decide +kernel
theorem d_Model_placeOf_50 : decode prog_12_method_15_code 50 = .ok (.goto 4, 3) := by decide +kernel
theorem d_Model_placeOf_53 : decode prog_12_method_15_code 53 = .ok (.iconst (-1), 1) := by decide +kernel
theorem d_Model_placeOf_54 : decode prog_12_method_15_code 54 = .ok (.ireturn, 1) := by decide +kernel
theorem d_Model_placeOf_55 : decode prog_12_method_15_code 55 = .ok (.iload_n 1, 1) := by decide +kernel
theorem d_Model_placeOf_56 : decode prog_12_method_15_code 56 = .ok (.ifCond .ne 26, 3) := by decide +kernel
theorem d_Model_placeOf_59 : decode prog_12_method_15_code 59 = .ok (.iload_n 2, 1) := by decide +kernel
theorem d_Model_placeOf_60 : decode prog_12_method_15_code 60 = .ok (.i2l, 1) := by decide +kernel
theorem d_Model_placeOf_61 : decode prog_12_method_15_code 61 = .ok (.ldc2_w 117, 3) := by decide +kernel
theorem d_Model_placeOf_64 : decode prog_12_method_15_code 64 = .ok (.ldc2_w 119, 3) := by decide +kernel
theorem d_Model_placeOf_67 : decode prog_12_method_15_code 67 = .ok (.invokestatic 83, 3) := by decide +kernel
theorem d_Model_placeOf_70 : decode prog_12_method_15_code 70 = .ok (.ifCond .eq 12, 3) := by decide +kernel
theorem d_Model_placeOf_73 : decode prog_12_method_15_code 73 = .ok (.bipush 49, 2) := by decide +kernel
theorem d_Model_placeOf_75 : decode prog_12_method_15_code 75 = .ok (.iload_n 2, 1) := by decide +kernel
theorem d_Model_placeOf_76 : decode prog_12_method_15_code 76 = .ok (.iadd, 1) := by decide +kernel
theorem d_Model_placeOf_77 : decode prog_12_method_15_code 77 = .ok (.iconst 4, 1) := by decide +kernel
theorem d_Model_placeOf_78 : decode prog_12_method_15_code 78 = .ok (.isub, 1) := by decide +kernel
theorem d_Model_placeOf_79 : decode prog_12_method_15_code 79 = .ok (.goto 4, 3) := by decide +kernel
theorem d_Model_placeOf_82 : decode prog_12_method_15_code 82 = .ok (.iconst (-1), 1) := by decide +kernel
theorem d_Model_placeOf_83 : decode prog_12_method_15_code 83 = .ok (.ireturn, 1) := by decide +kernel
theorem b_Model_placeOf_0 {d : Nat} {x1 : Int32} {x2 : Int32} {h : am_H} {Q : am_Q} (kt : ¬ x2 = 0 → am_W (X_Model_placeOf d) 18 [some (.ref 0), some (.int x1), some (.int x2)] [] h Q) (kf : x2 = 0 → am_W (X_Model_placeOf d) 4 [some (.ref 0), some (.int x1), some (.int x2)] [] h Q) : am_W (X_Model_placeOf d) 0 [some (.ref 0), some (.int x1), some (.int x2)] [] h Q :=
  am_iload_n d_Model_placeOf_0 rfl (i := 2) rfl <|
    am_if_ne (tgt := 18) d_Model_placeOf_1 (by decide) kt kf
theorem b_Model_placeOf_4 {d : Nat} {x1 : Int32} {x2 : Int32} {h : am_H} {Q : am_Q} (k : m_Model_isCell d [.long x1.toInt64] h (fun r hh => am_W (X_Model_placeOf (d + 1)) 9 [some (.ref 0), some (.int x1), some (.int x2)] (r.toList ++ []) hh Q)) : am_W (X_Model_placeOf (d + 1)) 4 [some (.ref 0), some (.int x1), some (.int x2)] [] h Q :=
  am_iload_n d_Model_placeOf_4 rfl (i := 1) rfl <|
    am_i2l d_Model_placeOf_5 <|
    am_callS (vs := [.long x1.toInt64]) (st := []) rfl d_Model_placeOf_6 w_1469 w_1470 w_94 w_1471 p_Model_isCell (Nat.le_of_ble_eq_true rfl) (Nat.le_of_ble_eq_true rfl) rfl k
theorem b_Model_placeOf_9 {d : Nat} {x1 : Int32} {x2 : Int32} {y0 : Bool} {h : am_H} {Q : am_Q} (kt : (am_b y0) = 0 → am_W (X_Model_placeOf d) 16 [some (.ref 0), some (.int x1), some (.int x2)] [] h Q) (kf : ¬ (am_b y0) = 0 → am_W (X_Model_placeOf d) 12 [some (.ref 0), some (.int x1), some (.int x2)] [] h Q) : am_W (X_Model_placeOf d) 9 [some (.ref 0), some (.int x1), some (.int x2)] [.int (am_b y0)] h Q :=
  am_if_eq (tgt := 16) d_Model_placeOf_9 (by decide) kt kf
theorem b_Model_placeOf_12 {d : Nat} {x1 : Int32} {x2 : Int32} {h : am_H} {Q : am_Q} (q : Q (some (.int x1)) h) : am_W (X_Model_placeOf d) 12 [some (.ref 0), some (.int x1), some (.int x2)] [] h Q :=
  am_iload_n d_Model_placeOf_12 rfl (i := 1) rfl <|
    am_goto (tgt := 17) d_Model_placeOf_13 (by decide) <|
    am_iret rfl d_Model_placeOf_17 q
theorem b_Model_placeOf_16 {d : Nat} {x1 : Int32} {x2 : Int32} {h : am_H} {Q : am_Q} (q : Q (some (.int (-1))) h) : am_W (X_Model_placeOf d) 16 [some (.ref 0), some (.int x1), some (.int x2)] [] h Q :=
  am_iconst (v := (-1)) d_Model_placeOf_16 (by decide) <|
    am_iret rfl d_Model_placeOf_17 q
theorem b_Model_placeOf_18 {d : Nat} {x1 : Int32} {x2 : Int32} {h : am_H} {Q : am_Q} (k : m_Model_within d [.long x2.toInt64, .long 1, .long 3] h (fun r hh => am_W (X_Model_placeOf (d + 1)) 27 [some (.ref 0), some (.int x1), some (.int x2)] (r.toList ++ []) hh Q)) : am_W (X_Model_placeOf (d + 1)) 18 [some (.ref 0), some (.int x1), some (.int x2)] [] h Q :=
  am_iload_n d_Model_placeOf_18 rfl (i := 2) rfl <|
    am_i2l d_Model_placeOf_19 <|
    am_lconst (v := 1) d_Model_placeOf_20 (by decide) <|
    am_ldc2 (v := 3) d_Model_placeOf_21 w_1446 <|
    am_callS (vs := [.long x2.toInt64, .long 1, .long 3]) (st := []) rfl d_Model_placeOf_24 w_1443 w_1444 w_94 w_1445 p_Model_within (Nat.le_of_ble_eq_true rfl) (Nat.le_of_ble_eq_true rfl) rfl k
theorem b_Model_placeOf_27 {d : Nat} {x1 : Int32} {x2 : Int32} {y0 : Bool} {h : am_H} {Q : am_Q} (kt : (am_b y0) = 0 → am_W (X_Model_placeOf d) 55 [some (.ref 0), some (.int x1), some (.int x2)] [] h Q) (kf : ¬ (am_b y0) = 0 → am_W (X_Model_placeOf d) 30 [some (.ref 0), some (.int x1), some (.int x2)] [] h Q) : am_W (X_Model_placeOf d) 27 [some (.ref 0), some (.int x1), some (.int x2)] [.int (am_b y0)] h Q :=
  am_if_eq (tgt := 55) d_Model_placeOf_27 (by decide) kt kf
theorem b_Model_placeOf_30 {d : Nat} {x1 : Int32} {x2 : Int32} {h : am_H} {Q : am_Q} (k : m_Model_isClub d [.ref 0, .long x1.toInt64] h (fun r hh => am_W (X_Model_placeOf (d + 1)) 36 [some (.ref 0), some (.int x1), some (.int x2)] (r.toList ++ []) hh Q)) : am_W (X_Model_placeOf (d + 1)) 30 [some (.ref 0), some (.int x1), some (.int x2)] [] h Q :=
  am_aload_n d_Model_placeOf_30 rfl (i := 0) rfl <|
    am_iload_n d_Model_placeOf_31 rfl (i := 1) rfl <|
    am_i2l d_Model_placeOf_32 <|
    am_callV (vs := [.long x1.toInt64]) (st := []) (k := 0) (ci := 10) rfl d_Model_placeOf_33 rfl rfl w_1472 w_1474 w_36 w_94 w_1475 p_Model_isClub (Nat.le_of_ble_eq_true rfl) (Nat.le_of_ble_eq_true rfl) rfl k
theorem b_Model_placeOf_36 {d : Nat} {x1 : Int32} {x2 : Int32} {y0 : Bool} {h : am_H} {Q : am_Q} (kt : (am_b y0) = 0 → am_W (X_Model_placeOf d) 53 [some (.ref 0), some (.int x1), some (.int x2)] [] h Q) (kf : ¬ (am_b y0) = 0 → am_W (X_Model_placeOf d) 39 [some (.ref 0), some (.int x1), some (.int x2)] [] h Q) : am_W (X_Model_placeOf d) 36 [some (.ref 0), some (.int x1), some (.int x2)] [.int (am_b y0)] h Q :=
  am_if_eq (tgt := 53) d_Model_placeOf_36 (by decide) kt kf
theorem b_Model_placeOf_39 {d : Nat} {x1 : Int32} {x2 : Int32} {h : am_H} {Q : am_Q} (q : Q (some (.int ((31 + (6 * (x2 - 1))) + x1))) h) : am_W (X_Model_placeOf d) 39 [some (.ref 0), some (.int x1), some (.int x2)] [] h Q :=
  am_bipush (v := 31) d_Model_placeOf_39 (by decide) <|
    am_bipush (v := 6) d_Model_placeOf_41 (by decide) <|
    am_iload_n d_Model_placeOf_43 rfl (i := 2) rfl <|
    am_iconst (v := 1) d_Model_placeOf_44 (by decide) <|
    am_isub d_Model_placeOf_45 <|
    am_imul d_Model_placeOf_46 <|
    am_iadd d_Model_placeOf_47 <|
    am_iload_n d_Model_placeOf_48 rfl (i := 1) rfl <|
    am_iadd d_Model_placeOf_49 <|
    am_goto (tgt := 54) d_Model_placeOf_50 (by decide) <|
    am_iret rfl d_Model_placeOf_54 q
theorem b_Model_placeOf_53 {d : Nat} {x1 : Int32} {x2 : Int32} {h : am_H} {Q : am_Q} (q : Q (some (.int (-1))) h) : am_W (X_Model_placeOf d) 53 [some (.ref 0), some (.int x1), some (.int x2)] [] h Q :=
  am_iconst (v := (-1)) d_Model_placeOf_53 (by decide) <|
    am_iret rfl d_Model_placeOf_54 q
theorem b_Model_placeOf_55 {d : Nat} {x1 : Int32} {x2 : Int32} {h : am_H} {Q : am_Q} (kt : ¬ x1 = 0 → am_W (X_Model_placeOf d) 82 [some (.ref 0), some (.int x1), some (.int x2)] [] h Q) (kf : x1 = 0 → am_W (X_Model_placeOf d) 59 [some (.ref 0), some (.int x1), some (.int x2)] [] h Q) : am_W (X_Model_placeOf d) 55 [some (.ref 0), some (.int x1), some (.int x2)] [] h Q :=
  am_iload_n d_Model_placeOf_55 rfl (i := 1) rfl <|
    am_if_ne (tgt := 82) d_Model_placeOf_56 (by decide) kt kf
theorem b_Model_placeOf_59 {d : Nat} {x1 : Int32} {x2 : Int32} {h : am_H} {Q : am_Q} (k : m_Model_within d [.long x2.toInt64, .long 4, .long 8] h (fun r hh => am_W (X_Model_placeOf (d + 1)) 70 [some (.ref 0), some (.int x1), some (.int x2)] (r.toList ++ []) hh Q)) : am_W (X_Model_placeOf (d + 1)) 59 [some (.ref 0), some (.int x1), some (.int x2)] [] h Q :=
  am_iload_n d_Model_placeOf_59 rfl (i := 2) rfl <|
    am_i2l d_Model_placeOf_60 <|
    am_ldc2 (v := 4) d_Model_placeOf_61 w_1476 <|
    am_ldc2 (v := 8) d_Model_placeOf_64 w_1477 <|
    am_callS (vs := [.long x2.toInt64, .long 4, .long 8]) (st := []) rfl d_Model_placeOf_67 w_1443 w_1444 w_94 w_1445 p_Model_within (Nat.le_of_ble_eq_true rfl) (Nat.le_of_ble_eq_true rfl) rfl k
theorem b_Model_placeOf_70 {d : Nat} {x1 : Int32} {x2 : Int32} {y0 : Bool} {h : am_H} {Q : am_Q} (kt : (am_b y0) = 0 → am_W (X_Model_placeOf d) 82 [some (.ref 0), some (.int x1), some (.int x2)] [] h Q) (kf : ¬ (am_b y0) = 0 → am_W (X_Model_placeOf d) 73 [some (.ref 0), some (.int x1), some (.int x2)] [] h Q) : am_W (X_Model_placeOf d) 70 [some (.ref 0), some (.int x1), some (.int x2)] [.int (am_b y0)] h Q :=
  am_if_eq (tgt := 82) d_Model_placeOf_70 (by decide) kt kf
theorem b_Model_placeOf_73 {d : Nat} {x1 : Int32} {x2 : Int32} {h : am_H} {Q : am_Q} (q : Q (some (.int ((49 + x2) - 4))) h) : am_W (X_Model_placeOf d) 73 [some (.ref 0), some (.int x1), some (.int x2)] [] h Q :=
  am_bipush (v := 49) d_Model_placeOf_73 (by decide) <|
    am_iload_n d_Model_placeOf_75 rfl (i := 2) rfl <|
    am_iadd d_Model_placeOf_76 <|
    am_iconst (v := 4) d_Model_placeOf_77 (by decide) <|
    am_isub d_Model_placeOf_78 <|
    am_goto (tgt := 83) d_Model_placeOf_79 (by decide) <|
    am_iret rfl d_Model_placeOf_83 q
theorem b_Model_placeOf_82 {d : Nat} {x1 : Int32} {x2 : Int32} {h : am_H} {Q : am_Q} (q : Q (some (.int (-1))) h) : am_W (X_Model_placeOf d) 82 [some (.ref 0), some (.int x1), some (.int x2)] [] h Q :=
  am_iconst (v := (-1)) d_Model_placeOf_82 (by decide) <|
    am_iret rfl d_Model_placeOf_83 q
theorem t_Model_placeOf_82 {d : Nat} {x1 : Int32} {x2 : Int32} {h : am_H} {Q : am_Q} {res : Int32} (e : f_Model_placeOf_82 h = res) (q : Q (some (.int res)) h) : am_W (X_Model_placeOf (d + 2)) 82 [some (.ref 0), some (.int x1), some (.int x2)] [] h Q :=
  b_Model_placeOf_82 (d := (d + 2)) (q := (am_rIt (v := (-1)) e q))
theorem t_Model_placeOf_73 {d : Nat} {x1 : Int32} {x2 : Int32} {h : am_H} {Q : am_Q} {res : Int32} (e : f_Model_placeOf_73 h x2 = res) (q : Q (some (.int res)) h) : am_W (X_Model_placeOf (d + 2)) 73 [some (.ref 0), some (.int x1), some (.int x2)] [] h Q :=
  b_Model_placeOf_73 (d := (d + 2)) (q := (am_rIt (v := ((49 + x2) - 4)) e q))
theorem t_Model_placeOf_70 {d : Nat} {x1 : Int32} {x2 : Int32} {y0 : Bool} {h : am_H} {Q : am_Q} {res : Int32} (e : f_Model_placeOf_70 h x2 y0 = res) (q : Q (some (.int res)) h) : am_W (X_Model_placeOf (d + 2)) 70 [some (.ref 0), some (.int x1), some (.int x2)] [.int (am_b y0)] h Q :=
  b_Model_placeOf_70 (d := (d + 2)) (kt := fun c => (t_Model_placeOf_82 (am_iff e (am_bz c)) q)) (kf := fun c => (t_Model_placeOf_73 (am_ift e (am_bn c)) q))
theorem t_Model_placeOf_59 {d : Nat} {x1 : Int32} {x2 : Int32} {h : am_H} {Q : am_Q} {res : Int32} (e : f_Model_placeOf_59 h x2 = res) (q : Q (some (.int res)) h) : am_W (X_Model_placeOf (d + 2)) 59 [some (.ref 0), some (.int x1), some (.int x2)] [] h Q :=
  b_Model_placeOf_59 (d := (d + 1)) (k := c_Model_within (d := d + 1) rfl (t_Model_placeOf_70 e q))
theorem t_Model_placeOf_55 {d : Nat} {x1 : Int32} {x2 : Int32} {h : am_H} {Q : am_Q} {res : Int32} (e : f_Model_placeOf_55 h x1 x2 = res) (q : Q (some (.int res)) h) : am_W (X_Model_placeOf (d + 2)) 55 [some (.ref 0), some (.int x1), some (.int x2)] [] h Q :=
  b_Model_placeOf_55 (d := (d + 2)) (kt := fun c => (t_Model_placeOf_82 (am_ife e c) q)) (kf := fun c => (t_Model_placeOf_59 (am_ift e c) q))
theorem t_Model_placeOf_53 {d : Nat} {x1 : Int32} {x2 : Int32} {h : am_H} {Q : am_Q} {res : Int32} (e : f_Model_placeOf_53 h = res) (q : Q (some (.int res)) h) : am_W (X_Model_placeOf (d + 2)) 53 [some (.ref 0), some (.int x1), some (.int x2)] [] h Q :=
  b_Model_placeOf_53 (d := (d + 2)) (q := (am_rIt (v := (-1)) e q))
theorem t_Model_placeOf_39 {d : Nat} {x1 : Int32} {x2 : Int32} {h : am_H} {Q : am_Q} {res : Int32} (e : f_Model_placeOf_39 h x1 x2 = res) (q : Q (some (.int res)) h) : am_W (X_Model_placeOf (d + 2)) 39 [some (.ref 0), some (.int x1), some (.int x2)] [] h Q :=
  b_Model_placeOf_39 (d := (d + 2)) (q := (am_rIt (v := ((31 + (6 * (x2 - 1))) + x1)) e q))
theorem t_Model_placeOf_36 {d : Nat} {x1 : Int32} {x2 : Int32} {y0 : Bool} {h : am_H} {Q : am_Q} {res : Int32} (e : f_Model_placeOf_36 h x1 x2 y0 = res) (q : Q (some (.int res)) h) : am_W (X_Model_placeOf (d + 2)) 36 [some (.ref 0), some (.int x1), some (.int x2)] [.int (am_b y0)] h Q :=
  b_Model_placeOf_36 (d := (d + 2)) (kt := fun c => (t_Model_placeOf_53 (am_iff e (am_bz c)) q)) (kf := fun c => (t_Model_placeOf_39 (am_ift e (am_bn c)) q))
theorem t_Model_placeOf_30 {d : Nat} {x1 : Int32} {x2 : Int32} {h : am_H} {Q : am_Q} {res : Int32} (e : f_Model_placeOf_30 h x1 x2 = res) (q : Q (some (.int res)) h) : am_W (X_Model_placeOf (d + 2)) 30 [some (.ref 0), some (.int x1), some (.int x2)] [] h Q :=
  b_Model_placeOf_30 (d := (d + 1)) (k := c_Model_isClub (d := d) rfl (t_Model_placeOf_36 e q))
theorem t_Model_placeOf_27 {d : Nat} {x1 : Int32} {x2 : Int32} {y0 : Bool} {h : am_H} {Q : am_Q} {res : Int32} (e : f_Model_placeOf_27 h x1 x2 y0 = res) (q : Q (some (.int res)) h) : am_W (X_Model_placeOf (d + 2)) 27 [some (.ref 0), some (.int x1), some (.int x2)] [.int (am_b y0)] h Q :=
  b_Model_placeOf_27 (d := (d + 2)) (kt := fun c => (t_Model_placeOf_55 (am_iff e (am_bz c)) q)) (kf := fun c => (t_Model_placeOf_30 (am_ift e (am_bn c)) q))
theorem t_Model_placeOf_18 {d : Nat} {x1 : Int32} {x2 : Int32} {h : am_H} {Q : am_Q} {res : Int32} (e : f_Model_placeOf_18 h x1 x2 = res) (q : Q (some (.int res)) h) : am_W (X_Model_placeOf (d + 2)) 18 [some (.ref 0), some (.int x1), some (.int x2)] [] h Q :=
  b_Model_placeOf_18 (d := (d + 1)) (k := c_Model_within (d := d + 1) rfl (t_Model_placeOf_27 e q))
theorem t_Model_placeOf_16 {d : Nat} {x1 : Int32} {x2 : Int32} {h : am_H} {Q : am_Q} {res : Int32} (e : f_Model_placeOf_16 h = res) (q : Q (some (.int res)) h) : am_W (X_Model_placeOf (d + 2)) 16 [some (.ref 0), some (.int x1), some (.int x2)] [] h Q :=
  b_Model_placeOf_16 (d := (d + 2)) (q := (am_rIt (v := (-1)) e q))
theorem t_Model_placeOf_12 {d : Nat} {x1 : Int32} {x2 : Int32} {h : am_H} {Q : am_Q} {res : Int32} (e : f_Model_placeOf_12 h x1 = res) (q : Q (some (.int res)) h) : am_W (X_Model_placeOf (d + 2)) 12 [some (.ref 0), some (.int x1), some (.int x2)] [] h Q :=
  b_Model_placeOf_12 (d := (d + 2)) (q := (am_rIt (v := x1) e q))
theorem t_Model_placeOf_9 {d : Nat} {x1 : Int32} {x2 : Int32} {y0 : Bool} {h : am_H} {Q : am_Q} {res : Int32} (e : f_Model_placeOf_9 h x1 y0 = res) (q : Q (some (.int res)) h) : am_W (X_Model_placeOf (d + 2)) 9 [some (.ref 0), some (.int x1), some (.int x2)] [.int (am_b y0)] h Q :=
  b_Model_placeOf_9 (d := (d + 2)) (kt := fun c => (t_Model_placeOf_16 (am_iff e (am_bz c)) q)) (kf := fun c => (t_Model_placeOf_12 (am_ift e (am_bn c)) q))
theorem t_Model_placeOf_4 {d : Nat} {x1 : Int32} {x2 : Int32} {h : am_H} {Q : am_Q} {res : Int32} (e : f_Model_placeOf_4 h x1 = res) (q : Q (some (.int res)) h) : am_W (X_Model_placeOf (d + 2)) 4 [some (.ref 0), some (.int x1), some (.int x2)] [] h Q :=
  b_Model_placeOf_4 (d := (d + 1)) (k := c_Model_isCell (d := d) rfl (t_Model_placeOf_9 e q))
theorem t_Model_placeOf_0 {d : Nat} {x1 : Int32} {x2 : Int32} {h : am_H} {Q : am_Q} {res : Int32} (e : f_Model_placeOf h x1 x2 = res) (q : Q (some (.int res)) h) : am_W (X_Model_placeOf (d + 2)) 0 [some (.ref 0), some (.int x1), some (.int x2)] [] h Q :=
  b_Model_placeOf_0 (d := (d + 2)) (kt := fun c => (t_Model_placeOf_18 (am_ife e c) q)) (kf := fun c => (t_Model_placeOf_4 (am_ift e c) q))
theorem c_Model_placeOf {d : Nat} {x1 : Int32} {x2 : Int32} {h : am_H} {Q : am_Q} {res : Int32} (e : f_Model_placeOf h x1 x2 = res) (q : Q (some (.int res)) h) : m_Model_placeOf (d + 2) [.ref 0, .int x1, .int x2] h Q :=
  e_Model_placeOf (t_Model_placeOf_0 e q)
theorem d_Model_mayBecome_0 : decode prog_12_method_16_code 0 = .ok (.iload_n 1, 1) := by decide +kernel
theorem d_Model_mayBecome_1 : decode prog_12_method_16_code 1 = .ok (.tableswitch 137 0 7 #[47, 57, 67, 77, 87, 97, 109, 119], 47) := by decide +kernel
theorem d_Model_mayBecome_48 : decode prog_12_method_16_code 48 = .ok (.iload_n 2, 1) := by decide +kernel
theorem d_Model_mayBecome_49 : decode prog_12_method_16_code 49 = .ok (.i2l, 1) := by decide +kernel
theorem d_Model_mayBecome_50 : decode prog_12_method_16_code 50 = .ok (.lconst 0, 1) := by decide +kernel
theorem d_Model_mayBecome_51 : decode prog_12_method_16_code 51 = .ok (.ldc2_w 117, 3) := by decide +kernel
theorem d_Model_mayBecome_54 : decode prog_12_method_16_code 54 = .ok (.invokestatic 83, 3) := by decide +kernel
theorem d_Model_mayBecome_57 : decode prog_12_method_16_code 57 = .ok (.ireturn, 1) := by decide +kernel
theorem d_Model_mayBecome_58 : decode prog_12_method_16_code 58 = .ok (.iload_n 2, 1) := by decide +kernel
theorem d_Model_mayBecome_59 : decode prog_12_method_16_code 59 = .ok (.i2l, 1) := by decide +kernel
theorem d_Model_mayBecome_60 : decode prog_12_method_16_code 60 = .ok (.lconst 0, 1) := by decide +kernel
theorem d_Model_mayBecome_61 : decode prog_12_method_16_code 61 = .ok (.ldc2_w 87, 3) := by decide +kernel
theorem d_Model_mayBecome_64 : decode prog_12_method_16_code 64 = .ok (.invokestatic 83, 3) := by decide +kernel
theorem d_Model_mayBecome_67 : decode prog_12_method_16_code 67 = .ok (.ireturn, 1) := by decide +kernel
theorem d_Model_mayBecome_68 : decode prog_12_method_16_code 68 = .ok (.iload_n 2, 1) := by decide +kernel
theorem d_Model_mayBecome_69 : decode prog_12_method_16_code 69 = .ok (.i2l, 1) := by decide +kernel
theorem d_Model_mayBecome_70 : decode prog_12_method_16_code 70 = .ok (.lconst 0, 1) := by decide +kernel
theorem d_Model_mayBecome_71 : decode prog_12_method_16_code 71 = .ok (.ldc2_w 93, 3) := by decide +kernel
theorem d_Model_mayBecome_74 : decode prog_12_method_16_code 74 = .ok (.invokestatic 83, 3) := by decide +kernel
theorem d_Model_mayBecome_77 : decode prog_12_method_16_code 77 = .ok (.ireturn, 1) := by decide +kernel
theorem d_Model_mayBecome_78 : decode prog_12_method_16_code 78 = .ok (.iload_n 2, 1) := by decide +kernel
theorem d_Model_mayBecome_79 : decode prog_12_method_16_code 79 = .ok (.i2l, 1) := by decide +kernel
theorem d_Model_mayBecome_80 : decode prog_12_method_16_code 80 = .ok (.lconst 0, 1) := by decide +kernel
theorem d_Model_mayBecome_81 : decode prog_12_method_16_code 81 = .ok (.ldc2_w 108, 3) := by decide +kernel
theorem d_Model_mayBecome_84 : decode prog_12_method_16_code 84 = .ok (.invokestatic 83, 3) := by decide +kernel
theorem d_Model_mayBecome_87 : decode prog_12_method_16_code 87 = .ok (.ireturn, 1) := by decide +kernel
theorem d_Model_mayBecome_88 : decode prog_12_method_16_code 88 = .ok (.iload_n 2, 1) := by decide +kernel
theorem d_Model_mayBecome_89 : decode prog_12_method_16_code 89 = .ok (.i2l, 1) := by decide +kernel
theorem d_Model_mayBecome_90 : decode prog_12_method_16_code 90 = .ok (.lconst 1, 1) := by decide +kernel
theorem d_Model_mayBecome_91 : decode prog_12_method_16_code 91 = .ok (.ldc2_w 121, 3) := by decide +kernel
theorem d_Model_mayBecome_94 : decode prog_12_method_16_code 94 = .ok (.invokestatic 83, 3) := by decide +kernel
theorem d_Model_mayBecome_97 : decode prog_12_method_16_code 97 = .ok (.ireturn, 1) := by decide +kernel
theorem d_Model_mayBecome_98 : decode prog_12_method_16_code 98 = .ok (.iload_n 2, 1) := by decide +kernel
theorem d_Model_mayBecome_99 : decode prog_12_method_16_code 99 = .ok (.i2l, 1) := by decide +kernel
theorem d_Model_mayBecome_100 : decode prog_12_method_16_code 100 = .ok (.ldc2_w 123, 3) := by decide +kernel
theorem d_Model_mayBecome_103 : decode prog_12_method_16_code 103 = .ok (.ldc2_w 93, 3) := by decide +kernel
theorem d_Model_mayBecome_106 : decode prog_12_method_16_code 106 = .ok (.invokestatic 83, 3) := by decide +kernel
theorem d_Model_mayBecome_109 : decode prog_12_method_16_code 109 = .ok (.ireturn, 1) := by decide +kernel
theorem d_Model_mayBecome_110 : decode prog_12_method_16_code 110 = .ok (.iload_n 2, 1) := by decide +kernel
theorem d_Model_mayBecome_111 : decode prog_12_method_16_code 111 = .ok (.i2l, 1) := by decide +kernel
theorem d_Model_mayBecome_112 : decode prog_12_method_16_code 112 = .ok (.lconst 0, 1) := by decide +kernel
theorem d_Model_mayBecome_113 : decode prog_12_method_16_code 113 = .ok (.ldc2_w 125, 3) := by decide +kernel
theorem d_Model_mayBecome_116 : decode prog_12_method_16_code 116 = .ok (.invokestatic 83, 3) := by decide +kernel
theorem d_Model_mayBecome_119 : decode prog_12_method_16_code 119 = .ok (.ireturn, 1) := by decide +kernel
theorem d_Model_mayBecome_120 : decode prog_12_method_16_code 120 = .ok (.iload_n 2, 1) := by decide +kernel
theorem d_Model_mayBecome_121 : decode prog_12_method_16_code 121 = .ok (.i2l, 1) := by decide +kernel
theorem d_Model_mayBecome_122 : decode prog_12_method_16_code 122 = .ok (.lconst 0, 1) := by decide +kernel
theorem d_Model_mayBecome_123 : decode prog_12_method_16_code 123 = .ok (.bipush 12, 2) := by decide +kernel
theorem d_Model_mayBecome_125 : decode prog_12_method_16_code 125 = .ok (.aload_n 0, 1) := by decide +kernel
theorem d_Model_mayBecome_126 : decode prog_12_method_16_code 126 = .ok (.getfield 11, 3) := by decide +kernel
theorem d_Model_mayBecome_129 : decode prog_12_method_16_code 129 = .ok (.bipush 53, 2) := by decide +kernel
theorem d_Model_mayBecome_131 : decode prog_12_method_16_code 131 = .ok (.iaload, 1) := by decide +kernel
theorem d_Model_mayBecome_132 : decode prog_12_method_16_code 132 = .ok (.isub, 1) := by decide +kernel
theorem d_Model_mayBecome_133 : decode prog_12_method_16_code 133 = .ok (.i2l, 1) := by decide +kernel
theorem d_Model_mayBecome_134 : decode prog_12_method_16_code 134 = .ok (.invokestatic 83, 3) := by decide +kernel
theorem d_Model_mayBecome_137 : decode prog_12_method_16_code 137 = .ok (.ireturn, 1) := by decide +kernel
theorem d_Model_mayBecome_138 : decode prog_12_method_16_code 138 = .ok (.iload_n 2, 1) := by decide +kernel
theorem d_Model_mayBecome_139 : decode prog_12_method_16_code 139 = .ok (.i2l, 1) := by decide +kernel
theorem d_Model_mayBecome_140 : decode prog_12_method_16_code 140 = .ok (.lconst 0, 1) := by decide +kernel
theorem d_Model_mayBecome_141 : decode prog_12_method_16_code 141 = .ok (.bipush 12, 2) := by decide +kernel
theorem d_Model_mayBecome_143 : decode prog_12_method_16_code 143 = .ok (.aload_n 0, 1) := by decide +kernel
theorem d_Model_mayBecome_144 : decode prog_12_method_16_code 144 = .ok (.getfield 11, 3) := by decide +kernel
theorem d_Model_mayBecome_147 : decode prog_12_method_16_code 147 = .ok (.bipush 52, 2) := by decide +kernel
theorem d_Model_mayBecome_149 : decode prog_12_method_16_code 149 = .ok (.iaload, 1) := by decide +kernel
theorem d_Model_mayBecome_150 : decode prog_12_method_16_code 150 = .ok (.isub, 1) := by decide +kernel
theorem d_Model_mayBecome_151 : decode prog_12_method_16_code 151 = .ok (.i2l, 1) := by decide +kernel
theorem d_Model_mayBecome_152 : decode prog_12_method_16_code 152 = .ok (.invokestatic 83, 3) := by decide +kernel
theorem d_Model_mayBecome_155 : decode prog_12_method_16_code 155 = .ok (.ireturn, 1) := by decide +kernel
theorem b_Model_mayBecome_0 {d : Nat} {x1 : Int32} {x2 : Int32} {h : am_H} {Q : am_Q} (k0 : x1 = 0 → am_W (X_Model_mayBecome d) 48 [some (.ref 0), some (.int x1), some (.int x2)] [] h Q) (k1 : x1 = 1 → am_W (X_Model_mayBecome d) 58 [some (.ref 0), some (.int x1), some (.int x2)] [] h Q) (k2 : x1 = 2 → am_W (X_Model_mayBecome d) 68 [some (.ref 0), some (.int x1), some (.int x2)] [] h Q) (k3 : x1 = 3 → am_W (X_Model_mayBecome d) 78 [some (.ref 0), some (.int x1), some (.int x2)] [] h Q) (k4 : x1 = 4 → am_W (X_Model_mayBecome d) 88 [some (.ref 0), some (.int x1), some (.int x2)] [] h Q) (k5 : x1 = 5 → am_W (X_Model_mayBecome d) 98 [some (.ref 0), some (.int x1), some (.int x2)] [] h Q) (k6 : x1 = 6 → am_W (X_Model_mayBecome d) 110 [some (.ref 0), some (.int x1), some (.int x2)] [] h Q) (k7 : x1 = 7 → am_W (X_Model_mayBecome d) 120 [some (.ref 0), some (.int x1), some (.int x2)] [] h Q) (kd : ¬ x1 = 0 → ¬ x1 = 1 → ¬ x1 = 2 → ¬ x1 = 3 → ¬ x1 = 4 → ¬ x1 = 5 → ¬ x1 = 6 → ¬ x1 = 7 → am_W (X_Model_mayBecome d) 138 [some (.ref 0), some (.int x1), some (.int x2)] [] h Q) : am_W (X_Model_mayBecome d) 0 [some (.ref 0), some (.int x1), some (.int x2)] [] h Q := by
  refine am_iload_n d_Model_mayBecome_0 rfl (i := 1) rfl ?_
  by_cases e0 : (x1 : Int32).toInt < 0 ∨ 7 < (x1 : Int32).toInt
  · exact am_tableOut (tgt := 138) d_Model_mayBecome_1 e0 (by decide) (kd (fun e => by rw [e] at e0; revert e0; decide) (fun e => by rw [e] at e0; revert e0; decide) (fun e => by rw [e] at e0; revert e0; decide) (fun e => by rw [e] at e0; revert e0; decide) (fun e => by rw [e] at e0; revert e0; decide) (fun e => by rw [e] at e0; revert e0; decide) (fun e => by rw [e] at e0; revert e0; decide) (fun e => by rw [e] at e0; revert e0; decide))
  by_cases e1 : x1 = 0
  · exact am_tableIn (tgt := 48) (off := 47) d_Model_mayBecome_1 (fun e => e0 (Or.inl e)) (fun e => e0 (Or.inr e)) (by rw [e1]; decide +kernel) (by decide) (k0 e1)
  by_cases e2 : x1 = 1
  · exact am_tableIn (tgt := 58) (off := 57) d_Model_mayBecome_1 (fun e => e0 (Or.inl e)) (fun e => e0 (Or.inr e)) (by rw [e2]; decide +kernel) (by decide) (k1 e2)
  by_cases e3 : x1 = 2
  · exact am_tableIn (tgt := 68) (off := 67) d_Model_mayBecome_1 (fun e => e0 (Or.inl e)) (fun e => e0 (Or.inr e)) (by rw [e3]; decide +kernel) (by decide) (k2 e3)
  by_cases e4 : x1 = 3
  · exact am_tableIn (tgt := 78) (off := 77) d_Model_mayBecome_1 (fun e => e0 (Or.inl e)) (fun e => e0 (Or.inr e)) (by rw [e4]; decide +kernel) (by decide) (k3 e4)
  by_cases e5 : x1 = 4
  · exact am_tableIn (tgt := 88) (off := 87) d_Model_mayBecome_1 (fun e => e0 (Or.inl e)) (fun e => e0 (Or.inr e)) (by rw [e5]; decide +kernel) (by decide) (k4 e5)
  by_cases e6 : x1 = 5
  · exact am_tableIn (tgt := 98) (off := 97) d_Model_mayBecome_1 (fun e => e0 (Or.inl e)) (fun e => e0 (Or.inr e)) (by rw [e6]; decide +kernel) (by decide) (k5 e6)
  by_cases e7 : x1 = 6
  · exact am_tableIn (tgt := 110) (off := 109) d_Model_mayBecome_1 (fun e => e0 (Or.inl e)) (fun e => e0 (Or.inr e)) (by rw [e7]; decide +kernel) (by decide) (k6 e7)
  by_cases e8 : x1 = 7
  · exact am_tableIn (tgt := 120) (off := 119) d_Model_mayBecome_1 (fun e => e0 (Or.inl e)) (fun e => e0 (Or.inr e)) (by rw [e8]; decide +kernel) (by decide) (k7 e8)
  exfalso
  simp only [← Int32.toInt_inj] at e1 e2 e3 e4 e5 e6 e7 e8
  simp only [Int32.reduceToInt] at e1 e2 e3 e4 e5 e6 e7 e8
  omega
theorem b_Model_mayBecome_48 {d : Nat} {x1 : Int32} {x2 : Int32} {h : am_H} {Q : am_Q} (k : m_Model_within d [.long x2.toInt64, .long 0, .long 4] h (fun r hh => am_W (X_Model_mayBecome (d + 1)) 57 [some (.ref 0), some (.int x1), some (.int x2)] (r.toList ++ []) hh Q)) : am_W (X_Model_mayBecome (d + 1)) 48 [some (.ref 0), some (.int x1), some (.int x2)] [] h Q :=
  am_iload_n d_Model_mayBecome_48 rfl (i := 2) rfl <|
    am_i2l d_Model_mayBecome_49 <|
    am_lconst (v := 0) d_Model_mayBecome_50 (by decide) <|
    am_ldc2 (v := 4) d_Model_mayBecome_51 w_1476 <|
    am_callS (vs := [.long x2.toInt64, .long 0, .long 4]) (st := []) rfl d_Model_mayBecome_54 w_1443 w_1444 w_94 w_1445 p_Model_within (Nat.le_of_ble_eq_true rfl) (Nat.le_of_ble_eq_true rfl) rfl k
theorem b_Model_mayBecome_57 {d : Nat} {x1 : Int32} {x2 : Int32} {y0 : Bool} {h : am_H} {Q : am_Q} (q : Q (some (.int (am_b y0))) h) : am_W (X_Model_mayBecome d) 57 [some (.ref 0), some (.int x1), some (.int x2)] [.int (am_b y0)] h Q :=
  am_zret (ty := .boolean) rfl am_nb d_Model_mayBecome_57 q
theorem b_Model_mayBecome_58 {d : Nat} {x1 : Int32} {x2 : Int32} {h : am_H} {Q : am_Q} (k : m_Model_within d [.long x2.toInt64, .long 0, .long 30] h (fun r hh => am_W (X_Model_mayBecome (d + 1)) 67 [some (.ref 0), some (.int x1), some (.int x2)] (r.toList ++ []) hh Q)) : am_W (X_Model_mayBecome (d + 1)) 58 [some (.ref 0), some (.int x1), some (.int x2)] [] h Q :=
  am_iload_n d_Model_mayBecome_58 rfl (i := 2) rfl <|
    am_i2l d_Model_mayBecome_59 <|
    am_lconst (v := 0) d_Model_mayBecome_60 (by decide) <|
    am_ldc2 (v := 30) d_Model_mayBecome_61 w_1442 <|
    am_callS (vs := [.long x2.toInt64, .long 0, .long 30]) (st := []) rfl d_Model_mayBecome_64 w_1443 w_1444 w_94 w_1445 p_Model_within (Nat.le_of_ble_eq_true rfl) (Nat.le_of_ble_eq_true rfl) rfl k
theorem b_Model_mayBecome_67 {d : Nat} {x1 : Int32} {x2 : Int32} {y0 : Bool} {h : am_H} {Q : am_Q} (q : Q (some (.int (am_b y0))) h) : am_W (X_Model_mayBecome d) 67 [some (.ref 0), some (.int x1), some (.int x2)] [.int (am_b y0)] h Q :=
  am_zret (ty := .boolean) rfl am_nb d_Model_mayBecome_67 q
theorem b_Model_mayBecome_68 {d : Nat} {x1 : Int32} {x2 : Int32} {h : am_H} {Q : am_Q} (k : m_Model_within d [.long x2.toInt64, .long 0, .long 3] h (fun r hh => am_W (X_Model_mayBecome (d + 1)) 77 [some (.ref 0), some (.int x1), some (.int x2)] (r.toList ++ []) hh Q)) : am_W (X_Model_mayBecome (d + 1)) 68 [some (.ref 0), some (.int x1), some (.int x2)] [] h Q :=
  am_iload_n d_Model_mayBecome_68 rfl (i := 2) rfl <|
    am_i2l d_Model_mayBecome_69 <|
    am_lconst (v := 0) d_Model_mayBecome_70 (by decide) <|
    am_ldc2 (v := 3) d_Model_mayBecome_71 w_1446 <|
    am_callS (vs := [.long x2.toInt64, .long 0, .long 3]) (st := []) rfl d_Model_mayBecome_74 w_1443 w_1444 w_94 w_1445 p_Model_within (Nat.le_of_ble_eq_true rfl) (Nat.le_of_ble_eq_true rfl) rfl k
theorem b_Model_mayBecome_77 {d : Nat} {x1 : Int32} {x2 : Int32} {y0 : Bool} {h : am_H} {Q : am_Q} (q : Q (some (.int (am_b y0))) h) : am_W (X_Model_mayBecome d) 77 [some (.ref 0), some (.int x1), some (.int x2)] [.int (am_b y0)] h Q :=
  am_zret (ty := .boolean) rfl am_nb d_Model_mayBecome_77 q
theorem b_Model_mayBecome_78 {d : Nat} {x1 : Int32} {x2 : Int32} {h : am_H} {Q : am_Q} (k : m_Model_within d [.long x2.toInt64, .long 0, .long 9] h (fun r hh => am_W (X_Model_mayBecome (d + 1)) 87 [some (.ref 0), some (.int x1), some (.int x2)] (r.toList ++ []) hh Q)) : am_W (X_Model_mayBecome (d + 1)) 78 [some (.ref 0), some (.int x1), some (.int x2)] [] h Q :=
  am_iload_n d_Model_mayBecome_78 rfl (i := 2) rfl <|
    am_i2l d_Model_mayBecome_79 <|
    am_lconst (v := 0) d_Model_mayBecome_80 (by decide) <|
    am_ldc2 (v := 9) d_Model_mayBecome_81 w_1460 <|
    am_callS (vs := [.long x2.toInt64, .long 0, .long 9]) (st := []) rfl d_Model_mayBecome_84 w_1443 w_1444 w_94 w_1445 p_Model_within (Nat.le_of_ble_eq_true rfl) (Nat.le_of_ble_eq_true rfl) rfl k
theorem b_Model_mayBecome_87 {d : Nat} {x1 : Int32} {x2 : Int32} {y0 : Bool} {h : am_H} {Q : am_Q} (q : Q (some (.int (am_b y0))) h) : am_W (X_Model_mayBecome d) 87 [some (.ref 0), some (.int x1), some (.int x2)] [.int (am_b y0)] h Q :=
  am_zret (ty := .boolean) rfl am_nb d_Model_mayBecome_87 q
theorem b_Model_mayBecome_88 {d : Nat} {x1 : Int32} {x2 : Int32} {h : am_H} {Q : am_Q} (k : m_Model_within d [.long x2.toInt64, .long 1, .long 29] h (fun r hh => am_W (X_Model_mayBecome (d + 1)) 97 [some (.ref 0), some (.int x1), some (.int x2)] (r.toList ++ []) hh Q)) : am_W (X_Model_mayBecome (d + 1)) 88 [some (.ref 0), some (.int x1), some (.int x2)] [] h Q :=
  am_iload_n d_Model_mayBecome_88 rfl (i := 2) rfl <|
    am_i2l d_Model_mayBecome_89 <|
    am_lconst (v := 1) d_Model_mayBecome_90 (by decide) <|
    am_ldc2 (v := 29) d_Model_mayBecome_91 w_1482 <|
    am_callS (vs := [.long x2.toInt64, .long 1, .long 29]) (st := []) rfl d_Model_mayBecome_94 w_1443 w_1444 w_94 w_1445 p_Model_within (Nat.le_of_ble_eq_true rfl) (Nat.le_of_ble_eq_true rfl) rfl k
theorem b_Model_mayBecome_97 {d : Nat} {x1 : Int32} {x2 : Int32} {y0 : Bool} {h : am_H} {Q : am_Q} (q : Q (some (.int (am_b y0))) h) : am_W (X_Model_mayBecome d) 97 [some (.ref 0), some (.int x1), some (.int x2)] [.int (am_b y0)] h Q :=
  am_zret (ty := .boolean) rfl am_nb d_Model_mayBecome_97 q
theorem b_Model_mayBecome_98 {d : Nat} {x1 : Int32} {x2 : Int32} {h : am_H} {Q : am_Q} (k : m_Model_within d [.long x2.toInt64, .long (-3), .long 3] h (fun r hh => am_W (X_Model_mayBecome (d + 1)) 109 [some (.ref 0), some (.int x1), some (.int x2)] (r.toList ++ []) hh Q)) : am_W (X_Model_mayBecome (d + 1)) 98 [some (.ref 0), some (.int x1), some (.int x2)] [] h Q :=
  am_iload_n d_Model_mayBecome_98 rfl (i := 2) rfl <|
    am_i2l d_Model_mayBecome_99 <|
    am_ldc2 (v := (-3)) d_Model_mayBecome_100 w_1483 <|
    am_ldc2 (v := 3) d_Model_mayBecome_103 w_1446 <|
    am_callS (vs := [.long x2.toInt64, .long (-3), .long 3]) (st := []) rfl d_Model_mayBecome_106 w_1443 w_1444 w_94 w_1445 p_Model_within (Nat.le_of_ble_eq_true rfl) (Nat.le_of_ble_eq_true rfl) rfl k
theorem b_Model_mayBecome_109 {d : Nat} {x1 : Int32} {x2 : Int32} {y0 : Bool} {h : am_H} {Q : am_Q} (q : Q (some (.int (am_b y0))) h) : am_W (X_Model_mayBecome d) 109 [some (.ref 0), some (.int x1), some (.int x2)] [.int (am_b y0)] h Q :=
  am_zret (ty := .boolean) rfl am_nb d_Model_mayBecome_109 q
theorem b_Model_mayBecome_110 {d : Nat} {x1 : Int32} {x2 : Int32} {h : am_H} {Q : am_Q} (k : m_Model_within d [.long x2.toInt64, .long 0, .long 12] h (fun r hh => am_W (X_Model_mayBecome (d + 1)) 119 [some (.ref 0), some (.int x1), some (.int x2)] (r.toList ++ []) hh Q)) : am_W (X_Model_mayBecome (d + 1)) 110 [some (.ref 0), some (.int x1), some (.int x2)] [] h Q :=
  am_iload_n d_Model_mayBecome_110 rfl (i := 2) rfl <|
    am_i2l d_Model_mayBecome_111 <|
    am_lconst (v := 0) d_Model_mayBecome_112 (by decide) <|
    am_ldc2 (v := 12) d_Model_mayBecome_113 w_1484 <|
    am_callS (vs := [.long x2.toInt64, .long 0, .long 12]) (st := []) rfl d_Model_mayBecome_116 w_1443 w_1444 w_94 w_1445 p_Model_within (Nat.le_of_ble_eq_true rfl) (Nat.le_of_ble_eq_true rfl) rfl k
theorem b_Model_mayBecome_119 {d : Nat} {x1 : Int32} {x2 : Int32} {y0 : Bool} {h : am_H} {Q : am_Q} (q : Q (some (.int (am_b y0))) h) : am_W (X_Model_mayBecome d) 119 [some (.ref 0), some (.int x1), some (.int x2)] [.int (am_b y0)] h Q :=
  am_zret (ty := .boolean) rfl am_nb d_Model_mayBecome_119 q
theorem b_Model_mayBecome_120 {d : Nat} {x1 : Int32} {x2 : Int32} {h : am_H} {Q : am_Q} (k : m_Model_within d [.long x2.toInt64, .long 0, .long ((12 - (h.1 1 (53 : Int32).toNatClampNeg)).toInt64)] h (fun r hh => am_W (X_Model_mayBecome (d + 1)) 137 [some (.ref 0), some (.int x1), some (.int x2)] (r.toList ++ []) hh Q)) : am_W (X_Model_mayBecome (d + 1)) 120 [some (.ref 0), some (.int x1), some (.int x2)] [] h Q :=
  am_iload_n d_Model_mayBecome_120 rfl (i := 2) rfl <|
    am_i2l d_Model_mayBecome_121 <|
    am_lconst (v := 0) d_Model_mayBecome_122 (by decide) <|
    am_bipush (v := 12) d_Model_mayBecome_123 (by decide) <|
    am_aload_n d_Model_mayBecome_125 rfl (i := 0) rfl <|
    am_getR (ci := 10) (i := 0) rfl rfl rfl (Nat.le_of_ble_eq_true rfl) w_1318 d_Model_mayBecome_126 <|
    am_bipush (v := 53) d_Model_mayBecome_129 (by decide) <|
    am_iald rfl (am_vin (by decide)) d_Model_mayBecome_131 <|
    am_isub d_Model_mayBecome_132 <|
    am_i2l d_Model_mayBecome_133 <|
    am_callS (vs := [.long x2.toInt64, .long 0, .long ((12 - (h.1 1 (53 : Int32).toNatClampNeg)).toInt64)]) (st := []) rfl d_Model_mayBecome_134 w_1443 w_1444 w_94 w_1445 p_Model_within (Nat.le_of_ble_eq_true rfl) (Nat.le_of_ble_eq_true rfl) rfl k
theorem b_Model_mayBecome_137 {d : Nat} {x1 : Int32} {x2 : Int32} {y0 : Bool} {h : am_H} {Q : am_Q} (q : Q (some (.int (am_b y0))) h) : am_W (X_Model_mayBecome d) 137 [some (.ref 0), some (.int x1), some (.int x2)] [.int (am_b y0)] h Q :=
  am_zret (ty := .boolean) rfl am_nb d_Model_mayBecome_137 q
theorem b_Model_mayBecome_138 {d : Nat} {x1 : Int32} {x2 : Int32} {h : am_H} {Q : am_Q} (k : m_Model_within d [.long x2.toInt64, .long 0, .long ((12 - (h.1 1 (52 : Int32).toNatClampNeg)).toInt64)] h (fun r hh => am_W (X_Model_mayBecome (d + 1)) 155 [some (.ref 0), some (.int x1), some (.int x2)] (r.toList ++ []) hh Q)) : am_W (X_Model_mayBecome (d + 1)) 138 [some (.ref 0), some (.int x1), some (.int x2)] [] h Q :=
  am_iload_n d_Model_mayBecome_138 rfl (i := 2) rfl <|
    am_i2l d_Model_mayBecome_139 <|
    am_lconst (v := 0) d_Model_mayBecome_140 (by decide) <|
    am_bipush (v := 12) d_Model_mayBecome_141 (by decide) <|
    am_aload_n d_Model_mayBecome_143 rfl (i := 0) rfl <|
    am_getR (ci := 10) (i := 0) rfl rfl rfl (Nat.le_of_ble_eq_true rfl) w_1318 d_Model_mayBecome_144 <|
    am_bipush (v := 52) d_Model_mayBecome_147 (by decide) <|
    am_iald rfl (am_vin (by decide)) d_Model_mayBecome_149 <|
    am_isub d_Model_mayBecome_150 <|
    am_i2l d_Model_mayBecome_151 <|
    am_callS (vs := [.long x2.toInt64, .long 0, .long ((12 - (h.1 1 (52 : Int32).toNatClampNeg)).toInt64)]) (st := []) rfl d_Model_mayBecome_152 w_1443 w_1444 w_94 w_1445 p_Model_within (Nat.le_of_ble_eq_true rfl) (Nat.le_of_ble_eq_true rfl) rfl k
theorem b_Model_mayBecome_155 {d : Nat} {x1 : Int32} {x2 : Int32} {y0 : Bool} {h : am_H} {Q : am_Q} (q : Q (some (.int (am_b y0))) h) : am_W (X_Model_mayBecome d) 155 [some (.ref 0), some (.int x1), some (.int x2)] [.int (am_b y0)] h Q :=
  am_zret (ty := .boolean) rfl am_nb d_Model_mayBecome_155 q
theorem t_Model_mayBecome_57 {d : Nat} {x1 : Int32} {x2 : Int32} {y0 : Bool} {h : am_H} {Q : am_Q} {res : Bool} (e : f_Model_mayBecome_57 h y0 = res) (q : Q (some (.int (am_b res))) h) : am_W (X_Model_mayBecome (d + 1)) 57 [some (.ref 0), some (.int x1), some (.int x2)] [.int (am_b y0)] h Q :=
  b_Model_mayBecome_57 (d := (d + 1)) (q := (am_rZt (v := y0) e q))
theorem t_Model_mayBecome_48 {d : Nat} {x1 : Int32} {x2 : Int32} {h : am_H} {Q : am_Q} {res : Bool} (e : f_Model_mayBecome_48 h x2 = res) (q : Q (some (.int (am_b res))) h) : am_W (X_Model_mayBecome (d + 1)) 48 [some (.ref 0), some (.int x1), some (.int x2)] [] h Q :=
  b_Model_mayBecome_48 (d := d) (k := c_Model_within (d := d) rfl (t_Model_mayBecome_57 e q))
theorem t_Model_mayBecome_67 {d : Nat} {x1 : Int32} {x2 : Int32} {y0 : Bool} {h : am_H} {Q : am_Q} {res : Bool} (e : f_Model_mayBecome_67 h y0 = res) (q : Q (some (.int (am_b res))) h) : am_W (X_Model_mayBecome (d + 1)) 67 [some (.ref 0), some (.int x1), some (.int x2)] [.int (am_b y0)] h Q :=
  b_Model_mayBecome_67 (d := (d + 1)) (q := (am_rZt (v := y0) e q))
theorem t_Model_mayBecome_58 {d : Nat} {x1 : Int32} {x2 : Int32} {h : am_H} {Q : am_Q} {res : Bool} (e : f_Model_mayBecome_58 h x2 = res) (q : Q (some (.int (am_b res))) h) : am_W (X_Model_mayBecome (d + 1)) 58 [some (.ref 0), some (.int x1), some (.int x2)] [] h Q :=
  b_Model_mayBecome_58 (d := d) (k := c_Model_within (d := d) rfl (t_Model_mayBecome_67 e q))
theorem t_Model_mayBecome_77 {d : Nat} {x1 : Int32} {x2 : Int32} {y0 : Bool} {h : am_H} {Q : am_Q} {res : Bool} (e : f_Model_mayBecome_77 h y0 = res) (q : Q (some (.int (am_b res))) h) : am_W (X_Model_mayBecome (d + 1)) 77 [some (.ref 0), some (.int x1), some (.int x2)] [.int (am_b y0)] h Q :=
  b_Model_mayBecome_77 (d := (d + 1)) (q := (am_rZt (v := y0) e q))
theorem t_Model_mayBecome_68 {d : Nat} {x1 : Int32} {x2 : Int32} {h : am_H} {Q : am_Q} {res : Bool} (e : f_Model_mayBecome_68 h x2 = res) (q : Q (some (.int (am_b res))) h) : am_W (X_Model_mayBecome (d + 1)) 68 [some (.ref 0), some (.int x1), some (.int x2)] [] h Q :=
  b_Model_mayBecome_68 (d := d) (k := c_Model_within (d := d) rfl (t_Model_mayBecome_77 e q))
theorem t_Model_mayBecome_87 {d : Nat} {x1 : Int32} {x2 : Int32} {y0 : Bool} {h : am_H} {Q : am_Q} {res : Bool} (e : f_Model_mayBecome_87 h y0 = res) (q : Q (some (.int (am_b res))) h) : am_W (X_Model_mayBecome (d + 1)) 87 [some (.ref 0), some (.int x1), some (.int x2)] [.int (am_b y0)] h Q :=
  b_Model_mayBecome_87 (d := (d + 1)) (q := (am_rZt (v := y0) e q))
theorem t_Model_mayBecome_78 {d : Nat} {x1 : Int32} {x2 : Int32} {h : am_H} {Q : am_Q} {res : Bool} (e : f_Model_mayBecome_78 h x2 = res) (q : Q (some (.int (am_b res))) h) : am_W (X_Model_mayBecome (d + 1)) 78 [some (.ref 0), some (.int x1), some (.int x2)] [] h Q :=
  b_Model_mayBecome_78 (d := d) (k := c_Model_within (d := d) rfl (t_Model_mayBecome_87 e q))
theorem t_Model_mayBecome_97 {d : Nat} {x1 : Int32} {x2 : Int32} {y0 : Bool} {h : am_H} {Q : am_Q} {res : Bool} (e : f_Model_mayBecome_97 h y0 = res) (q : Q (some (.int (am_b res))) h) : am_W (X_Model_mayBecome (d + 1)) 97 [some (.ref 0), some (.int x1), some (.int x2)] [.int (am_b y0)] h Q :=
  b_Model_mayBecome_97 (d := (d + 1)) (q := (am_rZt (v := y0) e q))
theorem t_Model_mayBecome_88 {d : Nat} {x1 : Int32} {x2 : Int32} {h : am_H} {Q : am_Q} {res : Bool} (e : f_Model_mayBecome_88 h x2 = res) (q : Q (some (.int (am_b res))) h) : am_W (X_Model_mayBecome (d + 1)) 88 [some (.ref 0), some (.int x1), some (.int x2)] [] h Q :=
  b_Model_mayBecome_88 (d := d) (k := c_Model_within (d := d) rfl (t_Model_mayBecome_97 e q))
theorem t_Model_mayBecome_109 {d : Nat} {x1 : Int32} {x2 : Int32} {y0 : Bool} {h : am_H} {Q : am_Q} {res : Bool} (e : f_Model_mayBecome_109 h y0 = res) (q : Q (some (.int (am_b res))) h) : am_W (X_Model_mayBecome (d + 1)) 109 [some (.ref 0), some (.int x1), some (.int x2)] [.int (am_b y0)] h Q :=
  b_Model_mayBecome_109 (d := (d + 1)) (q := (am_rZt (v := y0) e q))
theorem t_Model_mayBecome_98 {d : Nat} {x1 : Int32} {x2 : Int32} {h : am_H} {Q : am_Q} {res : Bool} (e : f_Model_mayBecome_98 h x2 = res) (q : Q (some (.int (am_b res))) h) : am_W (X_Model_mayBecome (d + 1)) 98 [some (.ref 0), some (.int x1), some (.int x2)] [] h Q :=
  b_Model_mayBecome_98 (d := d) (k := c_Model_within (d := d) rfl (t_Model_mayBecome_109 e q))
theorem t_Model_mayBecome_119 {d : Nat} {x1 : Int32} {x2 : Int32} {y0 : Bool} {h : am_H} {Q : am_Q} {res : Bool} (e : f_Model_mayBecome_119 h y0 = res) (q : Q (some (.int (am_b res))) h) : am_W (X_Model_mayBecome (d + 1)) 119 [some (.ref 0), some (.int x1), some (.int x2)] [.int (am_b y0)] h Q :=
  b_Model_mayBecome_119 (d := (d + 1)) (q := (am_rZt (v := y0) e q))
theorem t_Model_mayBecome_110 {d : Nat} {x1 : Int32} {x2 : Int32} {h : am_H} {Q : am_Q} {res : Bool} (e : f_Model_mayBecome_110 h x2 = res) (q : Q (some (.int (am_b res))) h) : am_W (X_Model_mayBecome (d + 1)) 110 [some (.ref 0), some (.int x1), some (.int x2)] [] h Q :=
  b_Model_mayBecome_110 (d := d) (k := c_Model_within (d := d) rfl (t_Model_mayBecome_119 e q))
theorem t_Model_mayBecome_137 {d : Nat} {x1 : Int32} {x2 : Int32} {y0 : Bool} {h : am_H} {Q : am_Q} {res : Bool} (e : f_Model_mayBecome_137 h y0 = res) (q : Q (some (.int (am_b res))) h) : am_W (X_Model_mayBecome (d + 1)) 137 [some (.ref 0), some (.int x1), some (.int x2)] [.int (am_b y0)] h Q :=
  b_Model_mayBecome_137 (d := (d + 1)) (q := (am_rZt (v := y0) e q))
theorem t_Model_mayBecome_120 {d : Nat} {x1 : Int32} {x2 : Int32} {h : am_H} {Q : am_Q} {res : Bool} (e : f_Model_mayBecome_120 h x2 = res) (q : Q (some (.int (am_b res))) h) : am_W (X_Model_mayBecome (d + 1)) 120 [some (.ref 0), some (.int x1), some (.int x2)] [] h Q :=
  b_Model_mayBecome_120 (d := d) (k := c_Model_within (d := d) rfl (t_Model_mayBecome_137 e q))
theorem t_Model_mayBecome_155 {d : Nat} {x1 : Int32} {x2 : Int32} {y0 : Bool} {h : am_H} {Q : am_Q} {res : Bool} (e : f_Model_mayBecome_155 h y0 = res) (q : Q (some (.int (am_b res))) h) : am_W (X_Model_mayBecome (d + 1)) 155 [some (.ref 0), some (.int x1), some (.int x2)] [.int (am_b y0)] h Q :=
  b_Model_mayBecome_155 (d := (d + 1)) (q := (am_rZt (v := y0) e q))
theorem t_Model_mayBecome_138 {d : Nat} {x1 : Int32} {x2 : Int32} {h : am_H} {Q : am_Q} {res : Bool} (e : f_Model_mayBecome_138 h x2 = res) (q : Q (some (.int (am_b res))) h) : am_W (X_Model_mayBecome (d + 1)) 138 [some (.ref 0), some (.int x1), some (.int x2)] [] h Q :=
  b_Model_mayBecome_138 (d := d) (k := c_Model_within (d := d) rfl (t_Model_mayBecome_155 e q))
theorem t_Model_mayBecome_0 {d : Nat} {x1 : Int32} {x2 : Int32} {h : am_H} {Q : am_Q} {res : Bool} (e : f_Model_mayBecome h x1 x2 = res) (q : Q (some (.int (am_b res))) h) : am_W (X_Model_mayBecome (d + 1)) 0 [some (.ref 0), some (.int x1), some (.int x2)] [] h Q :=
  b_Model_mayBecome_0 (d := (d + 1)) (k0 := fun c => (t_Model_mayBecome_48 (am_ift e c) q)) (k1 := fun c => (t_Model_mayBecome_58 (am_ift (am_ife e (fun z => absurd (c.symm.trans z) (by decide))) c) q)) (k2 := fun c => (t_Model_mayBecome_68 (am_ift (am_ife (am_ife e (fun z => absurd (c.symm.trans z) (by decide))) (fun z => absurd (c.symm.trans z) (by decide))) c) q)) (k3 := fun c => (t_Model_mayBecome_78 (am_ift (am_ife (am_ife (am_ife e (fun z => absurd (c.symm.trans z) (by decide))) (fun z => absurd (c.symm.trans z) (by decide))) (fun z => absurd (c.symm.trans z) (by decide))) c) q)) (k4 := fun c => (t_Model_mayBecome_88 (am_ift (am_ife (am_ife (am_ife (am_ife e (fun z => absurd (c.symm.trans z) (by decide))) (fun z => absurd (c.symm.trans z) (by decide))) (fun z => absurd (c.symm.trans z) (by decide))) (fun z => absurd (c.symm.trans z) (by decide))) c) q)) (k5 := fun c => (t_Model_mayBecome_98 (am_ift (am_ife (am_ife (am_ife (am_ife (am_ife e (fun z => absurd (c.symm.trans z) (by decide))) (fun z => absurd (c.symm.trans z) (by decide))) (fun z => absurd (c.symm.trans z) (by decide))) (fun z => absurd (c.symm.trans z) (by decide))) (fun z => absurd (c.symm.trans z) (by decide))) c) q)) (k6 := fun c => (t_Model_mayBecome_110 (am_ift (am_ife (am_ife (am_ife (am_ife (am_ife (am_ife e (fun z => absurd (c.symm.trans z) (by decide))) (fun z => absurd (c.symm.trans z) (by decide))) (fun z => absurd (c.symm.trans z) (by decide))) (fun z => absurd (c.symm.trans z) (by decide))) (fun z => absurd (c.symm.trans z) (by decide))) (fun z => absurd (c.symm.trans z) (by decide))) c) q)) (k7 := fun c => (t_Model_mayBecome_120 (am_ift (am_ife (am_ife (am_ife (am_ife (am_ife (am_ife (am_ife e (fun z => absurd (c.symm.trans z) (by decide))) (fun z => absurd (c.symm.trans z) (by decide))) (fun z => absurd (c.symm.trans z) (by decide))) (fun z => absurd (c.symm.trans z) (by decide))) (fun z => absurd (c.symm.trans z) (by decide))) (fun z => absurd (c.symm.trans z) (by decide))) (fun z => absurd (c.symm.trans z) (by decide))) c) q)) (kd := fun c0 c1 c2 c3 c4 c5 c6 c7 => (t_Model_mayBecome_138 (am_ife (am_ife (am_ife (am_ife (am_ife (am_ife (am_ife (am_ife e c0) c1) c2) c3) c4) c5) c6) c7) q))
theorem c_Model_mayBecome {d : Nat} {x1 : Int32} {x2 : Int32} {h : am_H} {Q : am_Q} {res : Bool} (e : f_Model_mayBecome h x1 x2 = res) (q : Q (some (.int (am_b res))) h) : m_Model_mayBecome (d + 1) [.ref 0, .int x1, .int x2] h Q :=
  e_Model_mayBecome (t_Model_mayBecome_0 e q)
theorem d_Model_mend_0 : decode prog_12_method_17_code 0 = .ok (.aload_n 0, 1) := by decide +kernel
theorem d_Model_mend_1 : decode prog_12_method_17_code 1 = .ok (.iload_n 1, 1) := by decide +kernel
theorem d_Model_mend_2 : decode prog_12_method_17_code 2 = .ok (.iload_n 2, 1) := by decide +kernel
theorem d_Model_mend_3 : decode prog_12_method_17_code 3 = .ok (.invokevirtual 127, 3) := by decide +kernel
theorem d_Model_mend_6 : decode prog_12_method_17_code 6 = .ok (.istore 4, 2) := by decide +kernel
theorem d_Model_mend_8 : decode prog_12_method_17_code 8 = .ok (.iload 4, 2) := by decide +kernel
theorem d_Model_mend_10 : decode prog_12_method_17_code 10 = .ok (.ifCond .lt 22, 3) := by decide +kernel
theorem d_Model_mend_13 : decode prog_12_method_17_code 13 = .ok (.aload_n 0, 1) := by decide +kernel
theorem d_Model_mend_14 : decode prog_12_method_17_code 14 = .ok (.iload_n 2, 1) := by decide +kernel
theorem d_Model_mend_15 : decode prog_12_method_17_code 15 = .ok (.iload_n 3, 1) := by decide +kernel
theorem d_Model_mend_16 : decode prog_12_method_17_code 16 = .ok (.invokevirtual 131, 3) := by decide +kernel
theorem d_Model_mend_19 : decode prog_12_method_17_code 19 = .ok (.ifCond .eq 13, 3) := by decide +kernel
theorem d_Model_mend_22 : decode prog_12_method_17_code 22 = .ok (.aload_n 0, 1) := by decide +kernel
theorem d_Model_mend_23 : decode prog_12_method_17_code 23 = .ok (.iload 4, 2) := by decide +kernel
theorem d_Model_mend_25 : decode prog_12_method_17_code 25 = .ok (.iload_n 3, 1) := by decide +kernel
theorem d_Model_mend_26 : decode prog_12_method_17_code 26 = .ok (.invokevirtual 135, 3) := by decide +kernel
theorem d_Model_mend_29 : decode prog_12_method_17_code 29 = .ok (.goto 5, 3) := by decide +kernel
theorem d_Model_mend_32 : decode prog_12_method_17_code 32 = .ok (.ldc 138, 2) := by decide +kernel
theorem d_Model_mend_34 : decode prog_12_method_17_code 34 = .ok (.ireturn, 1) := by decide +kernel
theorem b_Model_mend_0 {d : Nat} {x1 : Int32} {x2 : Int32} {x3 : Int32} {h : am_H} {Q : am_Q} (k : m_Model_placeOf d [.ref 0, .int x1, .int x2] h (fun r hh => am_W (X_Model_mend (d + 1)) 6 [some (.ref 0), some (.int x1), some (.int x2), some (.int x3), none] (r.toList ++ []) hh Q)) : am_W (X_Model_mend (d + 1)) 0 [some (.ref 0), some (.int x1), some (.int x2), some (.int x3), none] [] h Q :=
  am_aload_n d_Model_mend_0 rfl (i := 0) rfl <|
    am_iload_n d_Model_mend_1 rfl (i := 1) rfl <|
    am_iload_n d_Model_mend_2 rfl (i := 2) rfl <|
    am_callV (vs := [.int x1, .int x2]) (st := []) (k := 0) (ci := 10) rfl d_Model_mend_3 rfl rfl w_1465 w_1467 w_35 w_94 w_1468 p_Model_placeOf (Nat.le_of_ble_eq_true rfl) (Nat.le_of_ble_eq_true rfl) rfl k
theorem b_Model_mend_6 {d : Nat} {x1 : Int32} {x2 : Int32} {x3 : Int32} {y0 : Int32} {h : am_H} {Q : am_Q} (kt : y0 < 0 → am_W (X_Model_mend d) 32 [some (.ref 0), some (.int x1), some (.int x2), some (.int x3), some (.int y0)] [] h Q) (kf : ¬ y0 < 0 → am_W (X_Model_mend d) 13 [some (.ref 0), some (.int x1), some (.int x2), some (.int x3), some (.int y0)] [] h Q) : am_W (X_Model_mend d) 6 [some (.ref 0), some (.int x1), some (.int x2), some (.int x3), none] [.int y0] h Q :=
  am_istore (ls' := [some (.ref 0), some (.int x1), some (.int x2), some (.int x3), some (.int y0)]) d_Model_mend_6 (Nat.le_of_ble_eq_true rfl) rfl <|
    am_iload d_Model_mend_8 rfl <|
    am_if_lt (tgt := 32) d_Model_mend_10 (by decide) kt kf
theorem b_Model_mend_13 {d : Nat} {x1 : Int32} {x2 : Int32} {x3 : Int32} {x4 : Int32} {h : am_H} {Q : am_Q} (k : m_Model_mayBecome d [.ref 0, .int x2, .int x3] h (fun r hh => am_W (X_Model_mend (d + 1)) 19 [some (.ref 0), some (.int x1), some (.int x2), some (.int x3), some (.int x4)] (r.toList ++ []) hh Q)) : am_W (X_Model_mend (d + 1)) 13 [some (.ref 0), some (.int x1), some (.int x2), some (.int x3), some (.int x4)] [] h Q :=
  am_aload_n d_Model_mend_13 rfl (i := 0) rfl <|
    am_iload_n d_Model_mend_14 rfl (i := 2) rfl <|
    am_iload_n d_Model_mend_15 rfl (i := 3) rfl <|
    am_callV (vs := [.int x2, .int x3]) (st := []) (k := 0) (ci := 10) rfl d_Model_mend_16 rfl rfl w_1478 w_1480 w_37 w_94 w_1481 p_Model_mayBecome (Nat.le_of_ble_eq_true rfl) (Nat.le_of_ble_eq_true rfl) rfl k
theorem b_Model_mend_19 {d : Nat} {x1 : Int32} {x2 : Int32} {x3 : Int32} {x4 : Int32} {y0 : Bool} {h : am_H} {Q : am_Q} (kt : (am_b y0) = 0 → am_W (X_Model_mend d) 32 [some (.ref 0), some (.int x1), some (.int x2), some (.int x3), some (.int x4)] [] h Q) (kf : ¬ (am_b y0) = 0 → am_W (X_Model_mend d) 22 [some (.ref 0), some (.int x1), some (.int x2), some (.int x3), some (.int x4)] [] h Q) : am_W (X_Model_mend d) 19 [some (.ref 0), some (.int x1), some (.int x2), some (.int x3), some (.int x4)] [.int (am_b y0)] h Q :=
  am_if_eq (tgt := 32) d_Model_mend_19 (by decide) kt kf
theorem b_Model_mend_22 {d : Nat} {x1 : Int32} {x2 : Int32} {x3 : Int32} {x4 : Int32} {h : am_H} {Q : am_Q} (k : m_Model_becomes d [.ref 0, .int x4, .int x3] h (fun r hh => am_W (X_Model_mend (d + 1)) 29 [some (.ref 0), some (.int x1), some (.int x2), some (.int x3), some (.int x4)] (r.toList ++ []) hh Q)) : am_W (X_Model_mend (d + 1)) 22 [some (.ref 0), some (.int x1), some (.int x2), some (.int x3), some (.int x4)] [] h Q :=
  am_aload_n d_Model_mend_22 rfl (i := 0) rfl <|
    am_iload d_Model_mend_23 rfl <|
    am_iload_n d_Model_mend_25 rfl (i := 3) rfl <|
    am_callV (vs := [.int x4, .int x3]) (st := []) (k := 0) (ci := 10) rfl d_Model_mend_26 rfl rfl w_1485 w_1487 w_38 w_94 w_1488 p_Model_becomes (Nat.le_of_ble_eq_true rfl) (Nat.le_of_ble_eq_true rfl) rfl k
theorem b_Model_mend_29 {d : Nat} {x1 : Int32} {x2 : Int32} {x3 : Int32} {x4 : Int32} {y0 : Int32} {h : am_H} {Q : am_Q} (q : Q (some (.int y0)) h) : am_W (X_Model_mend d) 29 [some (.ref 0), some (.int x1), some (.int x2), some (.int x3), some (.int x4)] [.int y0] h Q :=
  am_goto (tgt := 34) d_Model_mend_29 (by decide) <|
    am_iret rfl d_Model_mend_34 q
theorem b_Model_mend_32 {d : Nat} {x1 : Int32} {x2 : Int32} {x3 : Int32} {x4 : Int32} {h : am_H} {Q : am_Q} (q : Q (some (.int (-2000000000))) h) : am_W (X_Model_mend d) 32 [some (.ref 0), some (.int x1), some (.int x2), some (.int x3), some (.int x4)] [] h Q :=
  am_ldc (v := (-2000000000)) d_Model_mend_32 w_1489 <|
    am_iret rfl d_Model_mend_34 q
theorem t_Model_mend_32 {d : Nat} {x1 : Int32} {x2 : Int32} {x3 : Int32} {x4 : Int32} {h : am_H} {Q : am_Q} {res : Int32 × am_H} (e : f_Model_mend_32 h = some res) (q : Q (some (.int res.1)) res.2) : am_W (X_Model_mend (d + 3)) 32 [some (.ref 0), some (.int x1), some (.int x2), some (.int x3), some (.int x4)] [] h Q :=
  b_Model_mend_32 (d := (d + 3)) (q := (am_rIpi (v := (-2000000000)) e q))
theorem t_Model_mend_29 {d : Nat} {x1 : Int32} {x2 : Int32} {x3 : Int32} {x4 : Int32} {y0 : Int32} {h : am_H} {Q : am_Q} {res : Int32 × am_H} (e : f_Model_mend_29 h y0 = some res) (q : Q (some (.int res.1)) res.2) : am_W (X_Model_mend (d + 3)) 29 [some (.ref 0), some (.int x1), some (.int x2), some (.int x3), some (.int x4)] [.int y0] h Q :=
  b_Model_mend_29 (d := (d + 3)) (q := (am_rIpi (v := y0) e q))
theorem t_Model_mend_22 {d : Nat} {x1 : Int32} {x2 : Int32} {x3 : Int32} {x4 : Int32} {h : am_H} {Q : am_Q} {res : Int32 × am_H} (e : f_Model_mend_22 h x3 x4 = some res) (q : Q (some (.int res.1)) res.2) : am_W (X_Model_mend (d + 3)) 22 [some (.ref 0), some (.int x1), some (.int x2), some (.int x3), some (.int x4)] [] h Q :=
  (am_bd e).elim fun p hp => b_Model_mend_22 (d := (d + 2)) (k := c_Model_becomes (d := d + 2) hp.1 (t_Model_mend_29 hp.2 q))
theorem t_Model_mend_19 {d : Nat} {x1 : Int32} {x2 : Int32} {x3 : Int32} {x4 : Int32} {y0 : Bool} {h : am_H} {Q : am_Q} {res : Int32 × am_H} (e : f_Model_mend_19 h x3 x4 y0 = some res) (q : Q (some (.int res.1)) res.2) : am_W (X_Model_mend (d + 3)) 19 [some (.ref 0), some (.int x1), some (.int x2), some (.int x3), some (.int x4)] [.int (am_b y0)] h Q :=
  b_Model_mend_19 (d := (d + 3)) (kt := fun c => (t_Model_mend_32 (am_iff e (am_bz c)) q)) (kf := fun c => (t_Model_mend_22 (am_ift e (am_bn c)) q))
theorem t_Model_mend_13 {d : Nat} {x1 : Int32} {x2 : Int32} {x3 : Int32} {x4 : Int32} {h : am_H} {Q : am_Q} {res : Int32 × am_H} (e : f_Model_mend_13 h x2 x3 x4 = some res) (q : Q (some (.int res.1)) res.2) : am_W (X_Model_mend (d + 3)) 13 [some (.ref 0), some (.int x1), some (.int x2), some (.int x3), some (.int x4)] [] h Q :=
  b_Model_mend_13 (d := (d + 2)) (k := c_Model_mayBecome (d := d + 1) rfl (t_Model_mend_19 e q))
theorem t_Model_mend_6 {d : Nat} {x1 : Int32} {x2 : Int32} {x3 : Int32} {y0 : Int32} {h : am_H} {Q : am_Q} {res : Int32 × am_H} (e : f_Model_mend_6 h x2 x3 y0 = some res) (q : Q (some (.int res.1)) res.2) : am_W (X_Model_mend (d + 3)) 6 [some (.ref 0), some (.int x1), some (.int x2), some (.int x3), none] [.int y0] h Q :=
  b_Model_mend_6 (d := (d + 3)) (kt := fun c => (t_Model_mend_32 (am_ift e c) q)) (kf := fun c => (t_Model_mend_13 (am_ife e c) q))
theorem t_Model_mend_0 {d : Nat} {x1 : Int32} {x2 : Int32} {x3 : Int32} {h : am_H} {Q : am_Q} {res : Int32 × am_H} (e : f_Model_mend h x1 x2 x3 = some res) (q : Q (some (.int res.1)) res.2) : am_W (X_Model_mend (d + 3)) 0 [some (.ref 0), some (.int x1), some (.int x2), some (.int x3), none] [] h Q :=
  b_Model_mend_0 (d := (d + 2)) (k := c_Model_placeOf (d := d) rfl (t_Model_mend_6 e q))
theorem c_Model_mend {d : Nat} {x1 : Int32} {x2 : Int32} {x3 : Int32} {h : am_H} {Q : am_Q} {res : Int32 × am_H} (e : f_Model_mend h x1 x2 x3 = some res) (q : Q (some (.int res.1)) res.2) : m_Model_mend (d + 3) [.ref 0, .int x1, .int x2, .int x3] h Q :=
  e_Model_mend (t_Model_mend_0 e q)
theorem d_Model_of_0 : decode prog_12_method_18_code 0 = .ok (.aload_n 0, 1) := by decide +kernel
theorem d_Model_of_1 : decode prog_12_method_18_code 1 = .ok (.iload_n 1, 1) := by decide +kernel
theorem d_Model_of_2 : decode prog_12_method_18_code 2 = .ok (.iload_n 2, 1) := by decide +kernel
theorem d_Model_of_3 : decode prog_12_method_18_code 3 = .ok (.invokevirtual 127, 3) := by decide +kernel
theorem d_Model_of_6 : decode prog_12_method_18_code 6 = .ok (.istore_n 3, 1) := by decide +kernel
theorem d_Model_of_7 : decode prog_12_method_18_code 7 = .ok (.iload_n 3, 1) := by decide +kernel
theorem d_Model_of_8 : decode prog_12_method_18_code 8 = .ok (.ifCond .lt 10, 3) := by decide +kernel
theorem d_Model_of_11 : decode prog_12_method_18_code 11 = .ok (.aload_n 0, 1) := by decide +kernel
theorem d_Model_of_12 : decode prog_12_method_18_code 12 = .ok (.getfield 11, 3) := by decide +kernel
theorem d_Model_of_15 : decode prog_12_method_18_code 15 = .ok (.iload_n 3, 1) := by decide +kernel
theorem d_Model_of_16 : decode prog_12_method_18_code 16 = .ok (.iaload, 1) := by decide +kernel
theorem d_Model_of_17 : decode prog_12_method_18_code 17 = .ok (.ireturn, 1) := by decide +kernel
theorem d_Model_of_18 : decode prog_12_method_18_code 18 = .ok (.iload_n 1, 1) := by decide +kernel
theorem d_Model_of_19 : decode prog_12_method_18_code 19 = .ok (.ifCond .ne 16, 3) := by decide +kernel
theorem d_Model_of_22 : decode prog_12_method_18_code 22 = .ok (.iload_n 2, 1) := by decide +kernel
theorem d_Model_of_23 : decode prog_12_method_18_code 23 = .ok (.bipush 9, 2) := by decide +kernel
theorem d_Model_of_25 : decode prog_12_method_18_code 25 = .ok (.if_icmp .ne 10, 3) := by decide +kernel
theorem d_Model_of_28 : decode prog_12_method_18_code 28 = .ok (.aload_n 0, 1) := by decide +kernel
theorem d_Model_of_29 : decode prog_12_method_18_code 29 = .ok (.getfield 139, 3) := by decide +kernel
theorem d_Model_of_32 : decode prog_12_method_18_code 32 = .ok (.goto 5, 3) := by decide +kernel
theorem d_Model_of_35 : decode prog_12_method_18_code 35 = .ok (.ldc 138, 2) := by decide +kernel
theorem d_Model_of_37 : decode prog_12_method_18_code 37 = .ok (.ireturn, 1) := by decide +kernel
theorem b_Model_of_0 {d : Nat} {x1 : Int32} {x2 : Int32} {h : am_H} {Q : am_Q} (k : m_Model_placeOf d [.ref 0, .int x1, .int x2] h (fun r hh => am_W (X_Model_of (d + 1)) 6 [some (.ref 0), some (.int x1), some (.int x2), none] (r.toList ++ []) hh Q)) : am_W (X_Model_of (d + 1)) 0 [some (.ref 0), some (.int x1), some (.int x2), none] [] h Q :=
  am_aload_n d_Model_of_0 rfl (i := 0) rfl <|
    am_iload_n d_Model_of_1 rfl (i := 1) rfl <|
    am_iload_n d_Model_of_2 rfl (i := 2) rfl <|
    am_callV (vs := [.int x1, .int x2]) (st := []) (k := 0) (ci := 10) rfl d_Model_of_3 rfl rfl w_1465 w_1467 w_35 w_94 w_1468 p_Model_placeOf (Nat.le_of_ble_eq_true rfl) (Nat.le_of_ble_eq_true rfl) rfl k
theorem b_Model_of_6 {d : Nat} {x1 : Int32} {x2 : Int32} {y0 : Int32} {h : am_H} {Q : am_Q} (kt : y0 < 0 → am_W (X_Model_of d) 18 [some (.ref 0), some (.int x1), some (.int x2), some (.int y0)] [] h Q) (kf : ¬ y0 < 0 → am_W (X_Model_of d) 11 [some (.ref 0), some (.int x1), some (.int x2), some (.int y0)] [] h Q) : am_W (X_Model_of d) 6 [some (.ref 0), some (.int x1), some (.int x2), none] [.int y0] h Q :=
  am_istore_n (ls' := [some (.ref 0), some (.int x1), some (.int x2), some (.int y0)]) d_Model_of_6 rfl (Nat.le_of_ble_eq_true rfl) rfl <|
    am_iload_n d_Model_of_7 rfl (i := 3) rfl <|
    am_if_lt (tgt := 18) d_Model_of_8 (by decide) kt kf
theorem b_Model_of_11 {d : Nat} {x1 : Int32} {x2 : Int32} {x3 : Int32} {h : am_H} {Q : am_Q} (q0 : vp_in x3 54) (q : Q (some (.int (h.1 1 x3.toNatClampNeg))) h) : am_W (X_Model_of d) 11 [some (.ref 0), some (.int x1), some (.int x2), some (.int x3)] [] h Q :=
  am_aload_n d_Model_of_11 rfl (i := 0) rfl <|
    am_getR (ci := 10) (i := 0) rfl rfl rfl (Nat.le_of_ble_eq_true rfl) w_1318 d_Model_of_12 <|
    am_iload_n d_Model_of_15 rfl (i := 3) rfl <|
    am_iald rfl q0 d_Model_of_16 <|
    am_iret rfl d_Model_of_17 q
theorem b_Model_of_18 {d : Nat} {x1 : Int32} {x2 : Int32} {x3 : Int32} {h : am_H} {Q : am_Q} (kt : ¬ x1 = 0 → am_W (X_Model_of d) 35 [some (.ref 0), some (.int x1), some (.int x2), some (.int x3)] [] h Q) (kf : x1 = 0 → am_W (X_Model_of d) 22 [some (.ref 0), some (.int x1), some (.int x2), some (.int x3)] [] h Q) : am_W (X_Model_of d) 18 [some (.ref 0), some (.int x1), some (.int x2), some (.int x3)] [] h Q :=
  am_iload_n d_Model_of_18 rfl (i := 1) rfl <|
    am_if_ne (tgt := 35) d_Model_of_19 (by decide) kt kf
theorem b_Model_of_22 {d : Nat} {x1 : Int32} {x2 : Int32} {x3 : Int32} {h : am_H} {Q : am_Q} (kt : ¬ x2 = 9 → am_W (X_Model_of d) 35 [some (.ref 0), some (.int x1), some (.int x2), some (.int x3)] [] h Q) (kf : x2 = 9 → am_W (X_Model_of d) 28 [some (.ref 0), some (.int x1), some (.int x2), some (.int x3)] [] h Q) : am_W (X_Model_of d) 22 [some (.ref 0), some (.int x1), some (.int x2), some (.int x3)] [] h Q :=
  am_iload_n d_Model_of_22 rfl (i := 2) rfl <|
    am_bipush (v := 9) d_Model_of_23 (by decide) <|
    am_icmp_ne (tgt := 35) d_Model_of_25 (by decide) kt kf
theorem b_Model_of_28 {d : Nat} {x1 : Int32} {x2 : Int32} {x3 : Int32} {h : am_H} {Q : am_Q} (q : Q (some (.int (h.1 0 22))) h) : am_W (X_Model_of d) 28 [some (.ref 0), some (.int x1), some (.int x2), some (.int x3)] [] h Q :=
  am_aload_n d_Model_of_28 rfl (i := 0) rfl <|
    am_getI (ci := 10) (i := 22) rfl rfl rfl (Nat.le_of_ble_eq_true rfl) w_1340 d_Model_of_29 <|
    am_goto (tgt := 37) d_Model_of_32 (by decide) <|
    am_iret rfl d_Model_of_37 q
theorem b_Model_of_35 {d : Nat} {x1 : Int32} {x2 : Int32} {x3 : Int32} {h : am_H} {Q : am_Q} (q : Q (some (.int (-2000000000))) h) : am_W (X_Model_of d) 35 [some (.ref 0), some (.int x1), some (.int x2), some (.int x3)] [] h Q :=
  am_ldc (v := (-2000000000)) d_Model_of_35 w_1489 <|
    am_iret rfl d_Model_of_37 q
theorem t_Model_of_35 {d : Nat} {x1 : Int32} {x2 : Int32} {x3 : Int32} {h : am_H} {Q : am_Q} {res : Int32} (e : f_Model_of_35 h = some res) (q : Q (some (.int res)) h) : am_W (X_Model_of (d + 3)) 35 [some (.ref 0), some (.int x1), some (.int x2), some (.int x3)] [] h Q :=
  b_Model_of_35 (d := (d + 3)) (q := (am_rIp (v := (-2000000000)) e q))
theorem t_Model_of_28 {d : Nat} {x1 : Int32} {x2 : Int32} {x3 : Int32} {h : am_H} {Q : am_Q} {res : Int32} (e : f_Model_of_28 h = some res) (q : Q (some (.int res)) h) : am_W (X_Model_of (d + 3)) 28 [some (.ref 0), some (.int x1), some (.int x2), some (.int x3)] [] h Q :=
  b_Model_of_28 (d := (d + 3)) (q := (am_rIp (v := (h.1 0 22)) e q))
theorem t_Model_of_22 {d : Nat} {x1 : Int32} {x2 : Int32} {x3 : Int32} {h : am_H} {Q : am_Q} {res : Int32} (e : f_Model_of_22 h x2 = some res) (q : Q (some (.int res)) h) : am_W (X_Model_of (d + 3)) 22 [some (.ref 0), some (.int x1), some (.int x2), some (.int x3)] [] h Q :=
  b_Model_of_22 (d := (d + 3)) (kt := fun c => (t_Model_of_35 (am_ife e c) q)) (kf := fun c => (t_Model_of_28 (am_ift e c) q))
theorem t_Model_of_18 {d : Nat} {x1 : Int32} {x2 : Int32} {x3 : Int32} {h : am_H} {Q : am_Q} {res : Int32} (e : f_Model_of_18 h x1 x2 = some res) (q : Q (some (.int res)) h) : am_W (X_Model_of (d + 3)) 18 [some (.ref 0), some (.int x1), some (.int x2), some (.int x3)] [] h Q :=
  b_Model_of_18 (d := (d + 3)) (kt := fun c => (t_Model_of_35 (am_ife e c) q)) (kf := fun c => (t_Model_of_22 (am_ift e c) q))
theorem t_Model_of_11 {d : Nat} {x1 : Int32} {x2 : Int32} {x3 : Int32} {h : am_H} {Q : am_Q} {res : Int32} (e : f_Model_of_11 h x3 = some res) (q : Q (some (.int res)) h) : am_W (X_Model_of (d + 3)) 11 [some (.ref 0), some (.int x1), some (.int x2), some (.int x3)] [] h Q :=
  b_Model_of_11 (d := (d + 3)) (q0 := (am_okv (am_gd e))) (q := (am_rIp (v := (h.1 1 x3.toNatClampNeg)) (am_ga e) q))
theorem t_Model_of_6 {d : Nat} {x1 : Int32} {x2 : Int32} {y0 : Int32} {h : am_H} {Q : am_Q} {res : Int32} (e : f_Model_of_6 h x1 x2 y0 = some res) (q : Q (some (.int res)) h) : am_W (X_Model_of (d + 3)) 6 [some (.ref 0), some (.int x1), some (.int x2), none] [.int y0] h Q :=
  b_Model_of_6 (d := (d + 3)) (kt := fun c => (t_Model_of_18 (am_ift e c) q)) (kf := fun c => (t_Model_of_11 (am_ife e c) q))
theorem t_Model_of_0 {d : Nat} {x1 : Int32} {x2 : Int32} {h : am_H} {Q : am_Q} {res : Int32} (e : f_Model_of h x1 x2 = some res) (q : Q (some (.int res)) h) : am_W (X_Model_of (d + 3)) 0 [some (.ref 0), some (.int x1), some (.int x2), none] [] h Q :=
  b_Model_of_0 (d := (d + 2)) (k := c_Model_placeOf (d := d) rfl (t_Model_of_6 e q))
theorem c_Model_of {d : Nat} {x1 : Int32} {x2 : Int32} {h : am_H} {Q : am_Q} {res : Int32} (e : f_Model_of h x1 x2 = some res) (q : Q (some (.int res)) h) : m_Model_of (d + 3) [.ref 0, .int x1, .int x2] h Q :=
  e_Model_of (t_Model_of_0 e q)
theorem d_Model_feed_0 : decode prog_12_method_19_code 0 = .ok (.iload_n 1, 1) := by decide +kernel
theorem d_Model_feed_1 : decode prog_12_method_19_code 1 = .ok (.i2l, 1) := by decide +kernel
theorem d_Model_feed_2 : decode prog_12_method_19_code 2 = .ok (.lconst 0, 1) := by decide +kernel
theorem d_Model_feed_3 : decode prog_12_method_19_code 3 = .ok (.ldc2_w 142, 3) := by decide +kernel
theorem d_Model_feed_6 : decode prog_12_method_19_code 6 = .ok (.invokestatic 83, 3) := by decide +kernel
theorem d_Model_feed_9 : decode prog_12_method_19_code 9 = .ok (.ifCond .ne 5, 3) := by decide +kernel
theorem d_Model_feed_12 : decode prog_12_method_19_code 12 = .ok (.iconst (-1), 1) := by decide +kernel
theorem d_Model_feed_13 : decode prog_12_method_19_code 13 = .ok (.ireturn, 1) := by decide +kernel
theorem d_Model_feed_14 : decode prog_12_method_19_code 14 = .ok (.aload_n 0, 1) := by decide +kernel
theorem d_Model_feed_15 : decode prog_12_method_19_code 15 = .ok (.getfield 144, 3) := by decide +kernel
theorem d_Model_feed_18 : decode prog_12_method_19_code 18 = .ok (.bipush 120, 2) := by decide +kernel
theorem d_Model_feed_20 : decode prog_12_method_19_code 20 = .ok (.if_icmp .ne 6, 3) := by decide +kernel
theorem d_Model_feed_23 : decode prog_12_method_19_code 23 = .ok (.bipush (-3), 2) := by decide +kernel
theorem d_Model_feed_25 : decode prog_12_method_19_code 25 = .ok (.ireturn, 1) := by decide +kernel
theorem d_Model_feed_26 : decode prog_12_method_19_code 26 = .ok (.aload_n 0, 1) := by decide +kernel
theorem d_Model_feed_27 : decode prog_12_method_19_code 27 = .ok (.getfield 24, 3) := by decide +kernel
theorem d_Model_feed_30 : decode prog_12_method_19_code 30 = .ok (.aload_n 0, 1) := by decide +kernel
theorem d_Model_feed_31 : decode prog_12_method_19_code 31 = .ok (.getfield 144, 3) := by decide +kernel
theorem d_Model_feed_34 : decode prog_12_method_19_code 34 = .ok (.iload_n 1, 1) := by decide +kernel
theorem d_Model_feed_35 : decode prog_12_method_19_code 35 = .ok (.iastore, 1) := by decide +kernel
theorem d_Model_feed_36 : decode prog_12_method_19_code 36 = .ok (.aload_n 0, 1) := by decide +kernel
theorem d_Model_feed_37 : decode prog_12_method_19_code 37 = .ok (.dup, 1) := by decide +kernel
theorem d_Model_feed_38 : decode prog_12_method_19_code 38 = .ok (.getfield 144, 3) := by decide +kernel
theorem d_Model_feed_41 : decode prog_12_method_19_code 41 = .ok (.iconst 1, 1) := by decide +kernel
theorem d_Model_feed_42 : decode prog_12_method_19_code 42 = .ok (.iadd, 1) := by decide +kernel
theorem d_Model_feed_43 : decode prog_12_method_19_code 43 = .ok (.putfield 144, 3) := by decide +kernel
theorem d_Model_feed_46 : decode prog_12_method_19_code 46 = .ok (.aload_n 0, 1) := by decide +kernel
theorem d_Model_feed_47 : decode prog_12_method_19_code 47 = .ok (.getfield 144, 3) := by decide +kernel
theorem d_Model_feed_50 : decode prog_12_method_19_code 50 = .ok (.ireturn, 1) := by decide +kernel
theorem b_Model_feed_0 {d : Nat} {x1 : Int32} {h : am_H} {Q : am_Q} (k : m_Model_within d [.long x1.toInt64, .long 0, .long 255] h (fun r hh => am_W (X_Model_feed (d + 1)) 9 [some (.ref 0), some (.int x1)] (r.toList ++ []) hh Q)) : am_W (X_Model_feed (d + 1)) 0 [some (.ref 0), some (.int x1)] [] h Q :=
  am_iload_n d_Model_feed_0 rfl (i := 1) rfl <|
    am_i2l d_Model_feed_1 <|
    am_lconst (v := 0) d_Model_feed_2 (by decide) <|
    am_ldc2 (v := 255) d_Model_feed_3 w_1498 <|
    am_callS (vs := [.long x1.toInt64, .long 0, .long 255]) (st := []) rfl d_Model_feed_6 w_1443 w_1444 w_94 w_1445 p_Model_within (Nat.le_of_ble_eq_true rfl) (Nat.le_of_ble_eq_true rfl) rfl k
theorem b_Model_feed_9 {d : Nat} {x1 : Int32} {y0 : Bool} {h : am_H} {Q : am_Q} (kt : ¬ (am_b y0) = 0 → am_W (X_Model_feed d) 14 [some (.ref 0), some (.int x1)] [] h Q) (kf : (am_b y0) = 0 → am_W (X_Model_feed d) 12 [some (.ref 0), some (.int x1)] [] h Q) : am_W (X_Model_feed d) 9 [some (.ref 0), some (.int x1)] [.int (am_b y0)] h Q :=
  am_if_ne (tgt := 14) d_Model_feed_9 (by decide) kt kf
theorem b_Model_feed_12 {d : Nat} {x1 : Int32} {h : am_H} {Q : am_Q} (q : Q (some (.int (-1))) h) : am_W (X_Model_feed d) 12 [some (.ref 0), some (.int x1)] [] h Q :=
  am_iconst (v := (-1)) d_Model_feed_12 (by decide) <|
    am_iret rfl d_Model_feed_13 q
theorem b_Model_feed_14 {d : Nat} {x1 : Int32} {h : am_H} {Q : am_Q} (kt : ¬ (h.1 0 8) = 120 → am_W (X_Model_feed d) 26 [some (.ref 0), some (.int x1)] [] h Q) (kf : (h.1 0 8) = 120 → am_W (X_Model_feed d) 23 [some (.ref 0), some (.int x1)] [] h Q) : am_W (X_Model_feed d) 14 [some (.ref 0), some (.int x1)] [] h Q :=
  am_aload_n d_Model_feed_14 rfl (i := 0) rfl <|
    am_getI (ci := 10) (i := 8) rfl rfl rfl (Nat.le_of_ble_eq_true rfl) w_1326 d_Model_feed_15 <|
    am_bipush (v := 120) d_Model_feed_18 (by decide) <|
    am_icmp_ne (tgt := 26) d_Model_feed_20 (by decide) kt kf
theorem b_Model_feed_23 {d : Nat} {x1 : Int32} {h : am_H} {Q : am_Q} (q : Q (some (.int (-3))) h) : am_W (X_Model_feed d) 23 [some (.ref 0), some (.int x1)] [] h Q :=
  am_bipush (v := (-3)) d_Model_feed_23 (by decide) <|
    am_iret rfl d_Model_feed_25 q
theorem b_Model_feed_26 {d : Nat} {x1 : Int32} {h : am_H} {Q : am_Q} (q0 : vp_in (h.1 0 8) 120) (q : Q (some (.int ((am_pI (am_pI h 5 (h.1 0 8).toNatClampNeg x1) 0 8 (((am_pI h 5 (h.1 0 8).toNatClampNeg x1).1 0 8) + 1)).1 0 8))) (am_pI (am_pI h 5 (h.1 0 8).toNatClampNeg x1) 0 8 (((am_pI h 5 (h.1 0 8).toNatClampNeg x1).1 0 8) + 1))) : am_W (X_Model_feed d) 26 [some (.ref 0), some (.int x1)] [] h Q :=
  am_aload_n d_Model_feed_26 rfl (i := 0) rfl <|
    am_getR (ci := 10) (i := 7) rfl rfl rfl (Nat.le_of_ble_eq_true rfl) w_1325 d_Model_feed_27 <|
    am_aload_n d_Model_feed_30 rfl (i := 0) rfl <|
    am_getI (ci := 10) (i := 8) rfl rfl rfl (Nat.le_of_ble_eq_true rfl) w_1326 d_Model_feed_31 <|
    am_iload_n d_Model_feed_34 rfl (i := 1) rfl <|
    am_iast rfl q0 d_Model_feed_35 <|
    am_aload_n d_Model_feed_36 rfl (i := 0) rfl <|
    am_dupR d_Model_feed_37 <|
    am_getI (ci := 10) (i := 8) rfl rfl rfl (Nat.le_of_ble_eq_true rfl) w_1326 d_Model_feed_38 <|
    am_iconst (v := 1) d_Model_feed_41 (by decide) <|
    am_iadd d_Model_feed_42 <|
    am_putI (ci := 10) (i := 8) rfl rfl rfl (Nat.le_of_ble_eq_true rfl) w_1326 rfl rfl rfl d_Model_feed_43 <|
    am_aload_n d_Model_feed_46 rfl (i := 0) rfl <|
    am_getI (ci := 10) (i := 8) rfl rfl rfl (Nat.le_of_ble_eq_true rfl) w_1326 d_Model_feed_47 <|
    am_iret rfl d_Model_feed_50 q
theorem t_Model_feed_26 {d : Nat} {x1 : Int32} {h : am_H} {Q : am_Q} {res : Int32 × am_H} (e : f_Model_feed_26 h x1 = some res) (q : Q (some (.int res.1)) res.2) : am_W (X_Model_feed (d + 1)) 26 [some (.ref 0), some (.int x1)] [] h Q :=
  b_Model_feed_26 (d := (d + 1)) (q0 := (am_okv (am_gd e))) (q := (am_rIpi (v := ((am_pI (am_pI h 5 (h.1 0 8).toNatClampNeg x1) 0 8 (((am_pI h 5 (h.1 0 8).toNatClampNeg x1).1 0 8) + 1)).1 0 8)) (am_ga e) q))
theorem t_Model_feed_23 {d : Nat} {x1 : Int32} {h : am_H} {Q : am_Q} {res : Int32 × am_H} (e : f_Model_feed_23 h = some res) (q : Q (some (.int res.1)) res.2) : am_W (X_Model_feed (d + 1)) 23 [some (.ref 0), some (.int x1)] [] h Q :=
  b_Model_feed_23 (d := (d + 1)) (q := (am_rIpi (v := (-3)) e q))
theorem t_Model_feed_14 {d : Nat} {x1 : Int32} {h : am_H} {Q : am_Q} {res : Int32 × am_H} (e : f_Model_feed_14 h x1 = some res) (q : Q (some (.int res.1)) res.2) : am_W (X_Model_feed (d + 1)) 14 [some (.ref 0), some (.int x1)] [] h Q :=
  b_Model_feed_14 (d := (d + 1)) (kt := fun c => (t_Model_feed_26 (am_ife e c) q)) (kf := fun c => (t_Model_feed_23 (am_ift e c) q))
theorem t_Model_feed_12 {d : Nat} {x1 : Int32} {h : am_H} {Q : am_Q} {res : Int32 × am_H} (e : f_Model_feed_12 h = some res) (q : Q (some (.int res.1)) res.2) : am_W (X_Model_feed (d + 1)) 12 [some (.ref 0), some (.int x1)] [] h Q :=
  b_Model_feed_12 (d := (d + 1)) (q := (am_rIpi (v := (-1)) e q))
theorem t_Model_feed_9 {d : Nat} {x1 : Int32} {y0 : Bool} {h : am_H} {Q : am_Q} {res : Int32 × am_H} (e : f_Model_feed_9 h x1 y0 = some res) (q : Q (some (.int res.1)) res.2) : am_W (X_Model_feed (d + 1)) 9 [some (.ref 0), some (.int x1)] [.int (am_b y0)] h Q :=
  b_Model_feed_9 (d := (d + 1)) (kt := fun c => (t_Model_feed_14 (am_ift e (am_bn c)) q)) (kf := fun c => (t_Model_feed_12 (am_iff e (am_bz c)) q))
theorem t_Model_feed_0 {d : Nat} {x1 : Int32} {h : am_H} {Q : am_Q} {res : Int32 × am_H} (e : f_Model_feed h x1 = some res) (q : Q (some (.int res.1)) res.2) : am_W (X_Model_feed (d + 1)) 0 [some (.ref 0), some (.int x1)] [] h Q :=
  b_Model_feed_0 (d := d) (k := c_Model_within (d := d) rfl (t_Model_feed_9 e q))
theorem c_Model_feed {d : Nat} {x1 : Int32} {h : am_H} {Q : am_Q} {res : Int32 × am_H} (e : f_Model_feed h x1 = some res) (q : Q (some (.int res.1)) res.2) : m_Model_feed (d + 1) [.ref 0, .int x1] h Q :=
  e_Model_feed (t_Model_feed_0 e q)
theorem d_Model_byteAt_0 : decode prog_12_method_20_code 0 = .ok (.aload_n 0, 1) := by decide +kernel
theorem d_Model_byteAt_1 : decode prog_12_method_20_code 1 = .ok (.getfield 147, 3) := by decide +kernel
theorem d_Model_byteAt_4 : decode prog_12_method_20_code 4 = .ok (.aload_n 0, 1) := by decide +kernel
theorem d_Model_byteAt_5 : decode prog_12_method_20_code 5 = .ok (.getfield 150, 3) := by decide +kernel
theorem d_Model_byteAt_8 : decode prog_12_method_20_code 8 = .ok (.if_icmp .ge 39, 3) := by decide +kernel
theorem d_Model_byteAt_11 : decode prog_12_method_20_code 11 = .ok (.aload_n 0, 1) := by decide +kernel
theorem d_Model_byteAt_12 : decode prog_12_method_20_code 12 = .ok (.getfield 153, 3) := by decide +kernel
theorem d_Model_byteAt_15 : decode prog_12_method_20_code 15 = .ok (.ifCond .ge 15, 3) := by decide +kernel
theorem d_Model_byteAt_18 : decode prog_12_method_20_code 18 = .ok (.aload_n 0, 1) := by decide +kernel
theorem d_Model_byteAt_19 : decode prog_12_method_20_code 19 = .ok (.getfield 24, 3) := by decide +kernel
theorem d_Model_byteAt_22 : decode prog_12_method_20_code 22 = .ok (.aload_n 0, 1) := by decide +kernel
theorem d_Model_byteAt_23 : decode prog_12_method_20_code 23 = .ok (.getfield 147, 3) := by decide +kernel
theorem d_Model_byteAt_26 : decode prog_12_method_20_code 26 = .ok (.iaload, 1) := by decide +kernel
theorem d_Model_byteAt_27 : decode prog_12_method_20_code 27 = .ok (.goto 21, 3) := by decide +kernel
theorem d_Model_byteAt_30 : decode prog_12_method_20_code 30 = .ok (.aload_n 0, 1) := by decide +kernel
theorem d_Model_byteAt_31 : decode prog_12_method_20_code 31 = .ok (.getfield 27, 3) := by decide +kernel
theorem d_Model_byteAt_34 : decode prog_12_method_20_code 34 = .ok (.aload_n 0, 1) := by decide +kernel
theorem d_Model_byteAt_35 : decode prog_12_method_20_code 35 = .ok (.getfield 153, 3) := by decide +kernel
theorem d_Model_byteAt_38 : decode prog_12_method_20_code 38 = .ok (.aload_n 0, 1) := by decide +kernel
theorem d_Model_byteAt_39 : decode prog_12_method_20_code 39 = .ok (.getfield 147, 3) := by decide +kernel
theorem d_Model_byteAt_42 : decode prog_12_method_20_code 42 = .ok (.iadd, 1) := by decide +kernel
theorem d_Model_byteAt_43 : decode prog_12_method_20_code 43 = .ok (.iaload, 1) := by decide +kernel
theorem d_Model_byteAt_44 : decode prog_12_method_20_code 44 = .ok (.goto 4, 3) := by decide +kernel
theorem d_Model_byteAt_47 : decode prog_12_method_20_code 47 = .ok (.iconst 0, 1) := by decide +kernel
theorem d_Model_byteAt_48 : decode prog_12_method_20_code 48 = .ok (.ireturn, 1) := by decide +kernel
theorem b_Model_byteAt_0 {d : Nat} {h : am_H} {Q : am_Q} (kt : (h.1 0 13) ≤ (h.1 0 12) → am_W (X_Model_byteAt d) 47 [some (.ref 0)] [] h Q) (kf : ¬ (h.1 0 13) ≤ (h.1 0 12) → am_W (X_Model_byteAt d) 11 [some (.ref 0)] [] h Q) : am_W (X_Model_byteAt d) 0 [some (.ref 0)] [] h Q :=
  am_aload_n d_Model_byteAt_0 rfl (i := 0) rfl <|
    am_getI (ci := 10) (i := 12) rfl rfl rfl (Nat.le_of_ble_eq_true rfl) w_1330 d_Model_byteAt_1 <|
    am_aload_n d_Model_byteAt_4 rfl (i := 0) rfl <|
    am_getI (ci := 10) (i := 13) rfl rfl rfl (Nat.le_of_ble_eq_true rfl) w_1331 d_Model_byteAt_5 <|
    am_icmp_ge (tgt := 47) d_Model_byteAt_8 (by decide) kt kf
theorem b_Model_byteAt_11 {d : Nat} {h : am_H} {Q : am_Q} (kt : 0 ≤ (h.1 0 11) → am_W (X_Model_byteAt d) 30 [some (.ref 0)] [] h Q) (kf : ¬ 0 ≤ (h.1 0 11) → am_W (X_Model_byteAt d) 18 [some (.ref 0)] [] h Q) : am_W (X_Model_byteAt d) 11 [some (.ref 0)] [] h Q :=
  am_aload_n d_Model_byteAt_11 rfl (i := 0) rfl <|
    am_getI (ci := 10) (i := 11) rfl rfl rfl (Nat.le_of_ble_eq_true rfl) w_1329 d_Model_byteAt_12 <|
    am_if_ge (tgt := 30) d_Model_byteAt_15 (by decide) kt kf
theorem b_Model_byteAt_18 {d : Nat} {h : am_H} {Q : am_Q} (q0 : vp_in (h.1 0 12) 120) (q : Q (some (.int (h.1 5 (h.1 0 12).toNatClampNeg))) h) : am_W (X_Model_byteAt d) 18 [some (.ref 0)] [] h Q :=
  am_aload_n d_Model_byteAt_18 rfl (i := 0) rfl <|
    am_getR (ci := 10) (i := 7) rfl rfl rfl (Nat.le_of_ble_eq_true rfl) w_1325 d_Model_byteAt_19 <|
    am_aload_n d_Model_byteAt_22 rfl (i := 0) rfl <|
    am_getI (ci := 10) (i := 12) rfl rfl rfl (Nat.le_of_ble_eq_true rfl) w_1330 d_Model_byteAt_23 <|
    am_iald rfl q0 d_Model_byteAt_26 <|
    am_goto (tgt := 48) d_Model_byteAt_27 (by decide) <|
    am_iret rfl d_Model_byteAt_48 q
theorem b_Model_byteAt_30 {d : Nat} {h : am_H} {Q : am_Q} (q0 : vp_in ((h.1 0 11) + (h.1 0 12)) 120) (q : Q (some (.int (h.1 6 ((h.1 0 11) + (h.1 0 12)).toNatClampNeg))) h) : am_W (X_Model_byteAt d) 30 [some (.ref 0)] [] h Q :=
  am_aload_n d_Model_byteAt_30 rfl (i := 0) rfl <|
    am_getR (ci := 10) (i := 9) rfl rfl rfl (Nat.le_of_ble_eq_true rfl) w_1327 d_Model_byteAt_31 <|
    am_aload_n d_Model_byteAt_34 rfl (i := 0) rfl <|
    am_getI (ci := 10) (i := 11) rfl rfl rfl (Nat.le_of_ble_eq_true rfl) w_1329 d_Model_byteAt_35 <|
    am_aload_n d_Model_byteAt_38 rfl (i := 0) rfl <|
    am_getI (ci := 10) (i := 12) rfl rfl rfl (Nat.le_of_ble_eq_true rfl) w_1330 d_Model_byteAt_39 <|
    am_iadd d_Model_byteAt_42 <|
    am_iald rfl q0 d_Model_byteAt_43 <|
    am_goto (tgt := 48) d_Model_byteAt_44 (by decide) <|
    am_iret rfl d_Model_byteAt_48 q
theorem b_Model_byteAt_47 {d : Nat} {h : am_H} {Q : am_Q} (q : Q (some (.int 0)) h) : am_W (X_Model_byteAt d) 47 [some (.ref 0)] [] h Q :=
  am_iconst (v := 0) d_Model_byteAt_47 (by decide) <|
    am_iret rfl d_Model_byteAt_48 q
theorem t_Model_byteAt_47 {d : Nat} {h : am_H} {Q : am_Q} {res : Int32} (e : f_Model_byteAt_47 h = some res) (q : Q (some (.int res)) h) : am_W (X_Model_byteAt d) 47 [some (.ref 0)] [] h Q :=
  b_Model_byteAt_47 (d := d) (q := (am_rIp (v := 0) e q))
theorem t_Model_byteAt_30 {d : Nat} {h : am_H} {Q : am_Q} {res : Int32} (e : f_Model_byteAt_30 h = some res) (q : Q (some (.int res)) h) : am_W (X_Model_byteAt d) 30 [some (.ref 0)] [] h Q :=
  b_Model_byteAt_30 (d := d) (q0 := (am_okv (am_gd e))) (q := (am_rIp (v := (h.1 6 ((h.1 0 11) + (h.1 0 12)).toNatClampNeg)) (am_ga e) q))
theorem t_Model_byteAt_18 {d : Nat} {h : am_H} {Q : am_Q} {res : Int32} (e : f_Model_byteAt_18 h = some res) (q : Q (some (.int res)) h) : am_W (X_Model_byteAt d) 18 [some (.ref 0)] [] h Q :=
  b_Model_byteAt_18 (d := d) (q0 := (am_okv (am_gd e))) (q := (am_rIp (v := (h.1 5 (h.1 0 12).toNatClampNeg)) (am_ga e) q))
theorem t_Model_byteAt_11 {d : Nat} {h : am_H} {Q : am_Q} {res : Int32} (e : f_Model_byteAt_11 h = some res) (q : Q (some (.int res)) h) : am_W (X_Model_byteAt d) 11 [some (.ref 0)] [] h Q :=
  b_Model_byteAt_11 (d := d) (kt := fun c => (t_Model_byteAt_30 (am_ift e c) q)) (kf := fun c => (t_Model_byteAt_18 (am_ife e c) q))
theorem t_Model_byteAt_0 {d : Nat} {h : am_H} {Q : am_Q} {res : Int32} (e : f_Model_byteAt h = some res) (q : Q (some (.int res)) h) : am_W (X_Model_byteAt d) 0 [some (.ref 0)] [] h Q :=
  b_Model_byteAt_0 (d := d) (kt := fun c => (t_Model_byteAt_47 (am_ift e c) q)) (kf := fun c => (t_Model_byteAt_11 (am_ife e c) q))
theorem c_Model_byteAt {d : Nat} {h : am_H} {Q : am_Q} {res : Int32} (e : f_Model_byteAt h = some res) (q : Q (some (.int res)) h) : m_Model_byteAt d [.ref 0] h Q :=
  e_Model_byteAt (t_Model_byteAt_0 e q)
theorem d_Model_wrong_0 : decode prog_12_method_21_code 0 = .ok (.aload_n 0, 1) := by decide +kernel
theorem d_Model_wrong_1 : decode prog_12_method_21_code 1 = .ok (.aload_n 0, 1) := by decide +kernel
theorem d_Model_wrong_2 : decode prog_12_method_21_code 2 = .ok (.getfield 156, 3) := by decide +kernel
theorem d_Model_wrong_5 : decode prog_12_method_21_code 5 = .ok (.ifCond .ge 10, 3) := by decide +kernel
theorem d_Model_wrong_8 : decode prog_12_method_21_code 8 = .ok (.aload_n 0, 1) := by decide +kernel
theorem d_Model_wrong_9 : decode prog_12_method_21_code 9 = .ok (.getfield 147, 3) := by decide +kernel
theorem d_Model_wrong_12 : decode prog_12_method_21_code 12 = .ok (.goto 7, 3) := by decide +kernel
theorem d_Model_wrong_15 : decode prog_12_method_21_code 15 = .ok (.aload_n 0, 1) := by decide +kernel
theorem d_Model_wrong_16 : decode prog_12_method_21_code 16 = .ok (.getfield 156, 3) := by decide +kernel
theorem d_Model_wrong_19 : decode prog_12_method_21_code 19 = .ok (.putfield 156, 3) := by decide +kernel
theorem d_Model_wrong_22 : decode prog_12_method_21_code 22 = .ok (.iconst 0, 1) := by decide +kernel
theorem d_Model_wrong_23 : decode prog_12_method_21_code 23 = .ok (.ireturn, 1) := by decide +kernel
theorem b_Model_wrong_0 {d : Nat} {h : am_H} {Q : am_Q} (kt : 0 ≤ (h.1 0 14) → am_W (X_Model_wrong d) 15 [some (.ref 0)] [.ref 0] h Q) (kf : ¬ 0 ≤ (h.1 0 14) → am_W (X_Model_wrong d) 8 [some (.ref 0)] [.ref 0] h Q) : am_W (X_Model_wrong d) 0 [some (.ref 0)] [] h Q :=
  am_aload_n d_Model_wrong_0 rfl (i := 0) rfl <|
    am_aload_n d_Model_wrong_1 rfl (i := 0) rfl <|
    am_getI (ci := 10) (i := 14) rfl rfl rfl (Nat.le_of_ble_eq_true rfl) w_1332 d_Model_wrong_2 <|
    am_if_ge (tgt := 15) d_Model_wrong_5 (by decide) kt kf
theorem b_Model_wrong_8 {d : Nat} {h : am_H} {Q : am_Q} (k : am_W (X_Model_wrong d) 19 [some (.ref 0)] [.int (h.1 0 12), .ref 0] h Q) : am_W (X_Model_wrong d) 8 [some (.ref 0)] [.ref 0] h Q :=
  am_aload_n d_Model_wrong_8 rfl (i := 0) rfl <|
    am_getI (ci := 10) (i := 12) rfl rfl rfl (Nat.le_of_ble_eq_true rfl) w_1330 d_Model_wrong_9 <|
    am_goto (tgt := 19) d_Model_wrong_12 (by decide) k
theorem b_Model_wrong_15 {d : Nat} {h : am_H} {Q : am_Q} (k : am_W (X_Model_wrong d) 19 [some (.ref 0)] [.int (h.1 0 14), .ref 0] h Q) : am_W (X_Model_wrong d) 15 [some (.ref 0)] [.ref 0] h Q :=
  am_aload_n d_Model_wrong_15 rfl (i := 0) rfl <|
    am_getI (ci := 10) (i := 14) rfl rfl rfl (Nat.le_of_ble_eq_true rfl) w_1332 d_Model_wrong_16 <|
    k
theorem b_Model_wrong_19 {d : Nat} {y1 : Int32} {h : am_H} {Q : am_Q} (q : Q (some (.int 0)) (am_pI h 0 14 y1)) : am_W (X_Model_wrong d) 19 [some (.ref 0)] [.int y1, .ref 0] h Q :=
  am_putI (ci := 10) (i := 14) rfl rfl rfl (Nat.le_of_ble_eq_true rfl) w_1332 rfl rfl rfl d_Model_wrong_19 <|
    am_iconst (v := 0) d_Model_wrong_22 (by decide) <|
    am_iret rfl d_Model_wrong_23 q
theorem t_Model_wrong_19 {d : Nat} {y1 : Int32} {h : am_H} {Q : am_Q} {res : Int32 × am_H} (e : f_Model_wrong_19 h y1 = res) (q : Q (some (.int res.1)) res.2) : am_W (X_Model_wrong d) 19 [some (.ref 0)] [.int y1, .ref 0] h Q :=
  b_Model_wrong_19 (d := d) (q := (am_rIti (v := 0) e q))
theorem t_Model_wrong_15 {d : Nat} {h : am_H} {Q : am_Q} {res : Int32 × am_H} (e : f_Model_wrong_15 h = res) (q : Q (some (.int res.1)) res.2) : am_W (X_Model_wrong d) 15 [some (.ref 0)] [.ref 0] h Q :=
  b_Model_wrong_15 (d := d) (k := (t_Model_wrong_19 e q))
theorem t_Model_wrong_8 {d : Nat} {h : am_H} {Q : am_Q} {res : Int32 × am_H} (e : f_Model_wrong_8 h = res) (q : Q (some (.int res.1)) res.2) : am_W (X_Model_wrong d) 8 [some (.ref 0)] [.ref 0] h Q :=
  b_Model_wrong_8 (d := d) (k := (t_Model_wrong_19 e q))
theorem t_Model_wrong_0 {d : Nat} {h : am_H} {Q : am_Q} {res : Int32 × am_H} (e : f_Model_wrong h = res) (q : Q (some (.int res.1)) res.2) : am_W (X_Model_wrong d) 0 [some (.ref 0)] [] h Q :=
  b_Model_wrong_0 (d := d) (kt := fun c => (t_Model_wrong_15 (am_ift e c) q)) (kf := fun c => (t_Model_wrong_8 (am_ife e c) q))
theorem c_Model_wrong {d : Nat} {h : am_H} {Q : am_Q} {res : Int32 × am_H} (e : f_Model_wrong h = res) (q : Q (some (.int res.1)) res.2) : m_Model_wrong d [.ref 0] h Q :=
  e_Model_wrong (t_Model_wrong_0 e q)
theorem d_Model_takes_0 : decode prog_12_method_22_code 0 = .ok (.aload_n 0, 1) := by decide +kernel
theorem d_Model_takes_1 : decode prog_12_method_22_code 1 = .ok (.getfield 156, 3) := by decide +kernel
theorem d_Model_takes_4 : decode prog_12_method_22_code 4 = .ok (.ifCond .ge 11, 3) := by decide +kernel
theorem d_Model_takes_7 : decode prog_12_method_22_code 7 = .ok (.aload_n 0, 1) := by decide +kernel
theorem d_Model_takes_8 : decode prog_12_method_22_code 8 = .ok (.invokevirtual 159, 3) := by decide +kernel
theorem d_Model_takes_11 : decode prog_12_method_22_code 11 = .ok (.iload_n 1, 1) := by decide +kernel
theorem d_Model_takes_12 : decode prog_12_method_22_code 12 = .ok (.if_icmp .eq 5, 3) := by decide +kernel
theorem d_Model_takes_15 : decode prog_12_method_22_code 15 = .ok (.iconst 0, 1) := by decide +kernel
theorem d_Model_takes_16 : decode prog_12_method_22_code 16 = .ok (.ireturn, 1) := by decide +kernel
theorem d_Model_takes_17 : decode prog_12_method_22_code 17 = .ok (.aload_n 0, 1) := by decide +kernel
theorem d_Model_takes_18 : decode prog_12_method_22_code 18 = .ok (.dup, 1) := by decide +kernel
theorem d_Model_takes_19 : decode prog_12_method_22_code 19 = .ok (.getfield 147, 3) := by decide +kernel
theorem d_Model_takes_22 : decode prog_12_method_22_code 22 = .ok (.iconst 1, 1) := by decide +kernel
theorem d_Model_takes_23 : decode prog_12_method_22_code 23 = .ok (.iadd, 1) := by decide +kernel
theorem d_Model_takes_24 : decode prog_12_method_22_code 24 = .ok (.putfield 147, 3) := by decide +kernel
theorem d_Model_takes_27 : decode prog_12_method_22_code 27 = .ok (.iconst 1, 1) := by decide +kernel
theorem d_Model_takes_28 : decode prog_12_method_22_code 28 = .ok (.ireturn, 1) := by decide +kernel
theorem b_Model_takes_0 {d : Nat} {x1 : Int32} {h : am_H} {Q : am_Q} (kt : 0 ≤ (h.1 0 14) → am_W (X_Model_takes d) 15 [some (.ref 0), some (.int x1)] [] h Q) (kf : ¬ 0 ≤ (h.1 0 14) → am_W (X_Model_takes d) 7 [some (.ref 0), some (.int x1)] [] h Q) : am_W (X_Model_takes d) 0 [some (.ref 0), some (.int x1)] [] h Q :=
  am_aload_n d_Model_takes_0 rfl (i := 0) rfl <|
    am_getI (ci := 10) (i := 14) rfl rfl rfl (Nat.le_of_ble_eq_true rfl) w_1332 d_Model_takes_1 <|
    am_if_ge (tgt := 15) d_Model_takes_4 (by decide) kt kf
theorem b_Model_takes_7 {d : Nat} {x1 : Int32} {h : am_H} {Q : am_Q} (k : m_Model_byteAt d [.ref 0] h (fun r hh => am_W (X_Model_takes (d + 1)) 11 [some (.ref 0), some (.int x1)] (r.toList ++ []) hh Q)) : am_W (X_Model_takes (d + 1)) 7 [some (.ref 0), some (.int x1)] [] h Q :=
  am_aload_n d_Model_takes_7 rfl (i := 0) rfl <|
    am_callV (vs := []) (st := []) (k := 0) (ci := 10) rfl d_Model_takes_8 rfl rfl w_1531 w_1533 w_46 w_94 w_1534 p_Model_byteAt (Nat.le_of_ble_eq_true rfl) (Nat.le_of_ble_eq_true rfl) rfl k
theorem b_Model_takes_11 {d : Nat} {x1 : Int32} {y0 : Int32} {h : am_H} {Q : am_Q} (kt : y0 = x1 → am_W (X_Model_takes d) 17 [some (.ref 0), some (.int x1)] [] h Q) (kf : ¬ y0 = x1 → am_W (X_Model_takes d) 15 [some (.ref 0), some (.int x1)] [] h Q) : am_W (X_Model_takes d) 11 [some (.ref 0), some (.int x1)] [.int y0] h Q :=
  am_iload_n d_Model_takes_11 rfl (i := 1) rfl <|
    am_icmp_eq (tgt := 17) d_Model_takes_12 (by decide) kt kf
theorem b_Model_takes_15 {d : Nat} {x1 : Int32} {h : am_H} {Q : am_Q} (q : Q (some (.int 0)) h) : am_W (X_Model_takes d) 15 [some (.ref 0), some (.int x1)] [] h Q :=
  am_iconst (v := 0) d_Model_takes_15 (by decide) <|
    am_zret (ty := .boolean) rfl (by decide) d_Model_takes_16 q
theorem b_Model_takes_17 {d : Nat} {x1 : Int32} {h : am_H} {Q : am_Q} (q : Q (some (.int 1)) (am_pI h 0 12 ((h.1 0 12) + 1))) : am_W (X_Model_takes d) 17 [some (.ref 0), some (.int x1)] [] h Q :=
  am_aload_n d_Model_takes_17 rfl (i := 0) rfl <|
    am_dupR d_Model_takes_18 <|
    am_getI (ci := 10) (i := 12) rfl rfl rfl (Nat.le_of_ble_eq_true rfl) w_1330 d_Model_takes_19 <|
    am_iconst (v := 1) d_Model_takes_22 (by decide) <|
    am_iadd d_Model_takes_23 <|
    am_putI (ci := 10) (i := 12) rfl rfl rfl (Nat.le_of_ble_eq_true rfl) w_1330 rfl rfl rfl d_Model_takes_24 <|
    am_iconst (v := 1) d_Model_takes_27 (by decide) <|
    am_zret (ty := .boolean) rfl (by decide) d_Model_takes_28 q
theorem t_Model_takes_15 {d : Nat} {x1 : Int32} {h : am_H} {Q : am_Q} {res : Bool × am_H} (e : f_Model_takes_15 h = some res) (q : Q (some (.int (am_b res.1))) res.2) : am_W (X_Model_takes (d + 1)) 15 [some (.ref 0), some (.int x1)] [] h Q :=
  b_Model_takes_15 (d := (d + 1)) (q := (am_rZpi (v := false) e q))
theorem t_Model_takes_17 {d : Nat} {x1 : Int32} {h : am_H} {Q : am_Q} {res : Bool × am_H} (e : f_Model_takes_17 h = some res) (q : Q (some (.int (am_b res.1))) res.2) : am_W (X_Model_takes (d + 1)) 17 [some (.ref 0), some (.int x1)] [] h Q :=
  b_Model_takes_17 (d := (d + 1)) (q := (am_rZpi (v := true) e q))
theorem t_Model_takes_11 {d : Nat} {x1 : Int32} {y0 : Int32} {h : am_H} {Q : am_Q} {res : Bool × am_H} (e : f_Model_takes_11 h x1 y0 = some res) (q : Q (some (.int (am_b res.1))) res.2) : am_W (X_Model_takes (d + 1)) 11 [some (.ref 0), some (.int x1)] [.int y0] h Q :=
  b_Model_takes_11 (d := (d + 1)) (kt := fun c => (t_Model_takes_17 (am_ift e c) q)) (kf := fun c => (t_Model_takes_15 (am_ife e c) q))
theorem t_Model_takes_7 {d : Nat} {x1 : Int32} {h : am_H} {Q : am_Q} {res : Bool × am_H} (e : f_Model_takes_7 h x1 = some res) (q : Q (some (.int (am_b res.1))) res.2) : am_W (X_Model_takes (d + 1)) 7 [some (.ref 0), some (.int x1)] [] h Q :=
  (am_bd e).elim fun p hp => b_Model_takes_7 (d := d) (k := c_Model_byteAt (d := d) hp.1 (t_Model_takes_11 hp.2 q))
theorem t_Model_takes_0 {d : Nat} {x1 : Int32} {h : am_H} {Q : am_Q} {res : Bool × am_H} (e : f_Model_takes h x1 = some res) (q : Q (some (.int (am_b res.1))) res.2) : am_W (X_Model_takes (d + 1)) 0 [some (.ref 0), some (.int x1)] [] h Q :=
  b_Model_takes_0 (d := (d + 1)) (kt := fun c => (t_Model_takes_15 (am_ift e c) q)) (kf := fun c => (t_Model_takes_7 (am_ife e c) q))
theorem c_Model_takes {d : Nat} {x1 : Int32} {h : am_H} {Q : am_Q} {res : Bool × am_H} (e : f_Model_takes h x1 = some res) (q : Q (some (.int (am_b res.1))) res.2) : m_Model_takes (d + 1) [.ref 0, .int x1] h Q :=
  e_Model_takes (t_Model_takes_0 e q)
theorem d_Model_nameOf_0 : decode prog_12_method_28_code 0 = .ok (.iload_n 0, 1) := by decide +kernel
theorem d_Model_nameOf_1 : decode prog_12_method_28_code 1 = .ok (.lookupswitch 71 #[(99, 63), (100, 59), (103, 61), (107, 69), (115, 65), (119, 67)], 59) := by decide +kernel
theorem d_Model_nameOf_60 : decode prog_12_method_28_code 60 = .ok (.iconst 0, 1) := by decide +kernel
theorem d_Model_nameOf_61 : decode prog_12_method_28_code 61 = .ok (.ireturn, 1) := by decide +kernel
theorem d_Model_nameOf_62 : decode prog_12_method_28_code 62 = .ok (.iconst 1, 1) := by decide +kernel
theorem d_Model_nameOf_63 : decode prog_12_method_28_code 63 = .ok (.ireturn, 1) := by decide +kernel
theorem d_Model_nameOf_64 : decode prog_12_method_28_code 64 = .ok (.iconst 2, 1) := by decide +kernel
theorem d_Model_nameOf_65 : decode prog_12_method_28_code 65 = .ok (.ireturn, 1) := by decide +kernel
theorem d_Model_nameOf_66 : decode prog_12_method_28_code 66 = .ok (.iconst 3, 1) := by decide +kernel
theorem d_Model_nameOf_67 : decode prog_12_method_28_code 67 = .ok (.ireturn, 1) := by decide +kernel
theorem d_Model_nameOf_68 : decode prog_12_method_28_code 68 = .ok (.iconst 4, 1) := by decide +kernel
theorem d_Model_nameOf_69 : decode prog_12_method_28_code 69 = .ok (.ireturn, 1) := by decide +kernel
theorem d_Model_nameOf_70 : decode prog_12_method_28_code 70 = .ok (.iconst 5, 1) := by decide +kernel
theorem d_Model_nameOf_71 : decode prog_12_method_28_code 71 = .ok (.ireturn, 1) := by decide +kernel
theorem d_Model_nameOf_72 : decode prog_12_method_28_code 72 = .ok (.iconst (-1), 1) := by decide +kernel
theorem d_Model_nameOf_73 : decode prog_12_method_28_code 73 = .ok (.ireturn, 1) := by decide +kernel
theorem b_Model_nameOf_0 {d : Nat} {x0 : Int32} {h : am_H} {Q : am_Q} (k99 : x0 = 99 → am_W (X_Model_nameOf d) 64 [some (.int x0)] [] h Q) (k100 : x0 = 100 → am_W (X_Model_nameOf d) 60 [some (.int x0)] [] h Q) (k103 : x0 = 103 → am_W (X_Model_nameOf d) 62 [some (.int x0)] [] h Q) (k107 : x0 = 107 → am_W (X_Model_nameOf d) 70 [some (.int x0)] [] h Q) (k115 : x0 = 115 → am_W (X_Model_nameOf d) 66 [some (.int x0)] [] h Q) (k119 : x0 = 119 → am_W (X_Model_nameOf d) 68 [some (.int x0)] [] h Q) (kd : ¬ x0 = 99 → ¬ x0 = 100 → ¬ x0 = 103 → ¬ x0 = 107 → ¬ x0 = 115 → ¬ x0 = 119 → am_W (X_Model_nameOf d) 72 [some (.int x0)] [] h Q) : am_W (X_Model_nameOf d) 0 [some (.int x0)] [] h Q := by
  refine am_iload_n d_Model_nameOf_0 rfl (i := 0) rfl ?_
  by_cases e1 : x0 = 99
  · exact am_lookup (tgt := 64) (off := 63) d_Model_nameOf_1 (by decide +kernel) (by rw [e1]; decide +kernel) (by decide) (k99 e1)
  by_cases e2 : x0 = 100
  · exact am_lookup (tgt := 60) (off := 59) d_Model_nameOf_1 (by decide +kernel) (by rw [e2]; decide +kernel) (by decide) (k100 e2)
  by_cases e3 : x0 = 103
  · exact am_lookup (tgt := 62) (off := 61) d_Model_nameOf_1 (by decide +kernel) (by rw [e3]; decide +kernel) (by decide) (k103 e3)
  by_cases e4 : x0 = 107
  · exact am_lookup (tgt := 70) (off := 69) d_Model_nameOf_1 (by decide +kernel) (by rw [e4]; decide +kernel) (by decide) (k107 e4)
  by_cases e5 : x0 = 115
  · exact am_lookup (tgt := 66) (off := 65) d_Model_nameOf_1 (by decide +kernel) (by rw [e5]; decide +kernel) (by decide) (k115 e5)
  by_cases e6 : x0 = 119
  · exact am_lookup (tgt := 68) (off := 67) d_Model_nameOf_1 (by decide +kernel) (by rw [e6]; decide +kernel) (by decide) (k119 e6)
  refine am_lookup (tgt := 72) (off := 71) d_Model_nameOf_1 (by decide +kernel) ?_ (by decide) (kd e1 e2 e3 e4 e5 e6)
  simp only [← Int32.toInt_inj] at e1 e2 e3 e4 e5 e6
  simp only [Int32.reduceToInt] at e1 e2 e3 e4 e5 e6
  simp only [Op.lookupswitch.offset]
  (repeat' split) <;> first | rfl | omega
theorem b_Model_nameOf_60 {d : Nat} {x0 : Int32} {h : am_H} {Q : am_Q} (q : Q (some (.int 0)) h) : am_W (X_Model_nameOf d) 60 [some (.int x0)] [] h Q :=
  am_iconst (v := 0) d_Model_nameOf_60 (by decide) <|
    am_iret rfl d_Model_nameOf_61 q
theorem b_Model_nameOf_62 {d : Nat} {x0 : Int32} {h : am_H} {Q : am_Q} (q : Q (some (.int 1)) h) : am_W (X_Model_nameOf d) 62 [some (.int x0)] [] h Q :=
  am_iconst (v := 1) d_Model_nameOf_62 (by decide) <|
    am_iret rfl d_Model_nameOf_63 q
theorem b_Model_nameOf_64 {d : Nat} {x0 : Int32} {h : am_H} {Q : am_Q} (q : Q (some (.int 2)) h) : am_W (X_Model_nameOf d) 64 [some (.int x0)] [] h Q :=
  am_iconst (v := 2) d_Model_nameOf_64 (by decide) <|
    am_iret rfl d_Model_nameOf_65 q
theorem b_Model_nameOf_66 {d : Nat} {x0 : Int32} {h : am_H} {Q : am_Q} (q : Q (some (.int 3)) h) : am_W (X_Model_nameOf d) 66 [some (.int x0)] [] h Q :=
  am_iconst (v := 3) d_Model_nameOf_66 (by decide) <|
    am_iret rfl d_Model_nameOf_67 q
theorem b_Model_nameOf_68 {d : Nat} {x0 : Int32} {h : am_H} {Q : am_Q} (q : Q (some (.int 4)) h) : am_W (X_Model_nameOf d) 68 [some (.int x0)] [] h Q :=
  am_iconst (v := 4) d_Model_nameOf_68 (by decide) <|
    am_iret rfl d_Model_nameOf_69 q
theorem b_Model_nameOf_70 {d : Nat} {x0 : Int32} {h : am_H} {Q : am_Q} (q : Q (some (.int 5)) h) : am_W (X_Model_nameOf d) 70 [some (.int x0)] [] h Q :=
  am_iconst (v := 5) d_Model_nameOf_70 (by decide) <|
    am_iret rfl d_Model_nameOf_71 q
theorem b_Model_nameOf_72 {d : Nat} {x0 : Int32} {h : am_H} {Q : am_Q} (q : Q (some (.int (-1))) h) : am_W (X_Model_nameOf d) 72 [some (.int x0)] [] h Q :=
  am_iconst (v := (-1)) d_Model_nameOf_72 (by decide) <|
    am_iret rfl d_Model_nameOf_73 q
theorem t_Model_nameOf_64 {d : Nat} {x0 : Int32} {h : am_H} {Q : am_Q} {res : Int32} (e : f_Model_nameOf_64 = res) (q : Q (some (.int res)) h) : am_W (X_Model_nameOf d) 64 [some (.int x0)] [] h Q :=
  b_Model_nameOf_64 (d := d) (q := (am_rIt (v := 2) e q))
theorem t_Model_nameOf_60 {d : Nat} {x0 : Int32} {h : am_H} {Q : am_Q} {res : Int32} (e : f_Model_nameOf_60 = res) (q : Q (some (.int res)) h) : am_W (X_Model_nameOf d) 60 [some (.int x0)] [] h Q :=
  b_Model_nameOf_60 (d := d) (q := (am_rIt (v := 0) e q))
theorem t_Model_nameOf_62 {d : Nat} {x0 : Int32} {h : am_H} {Q : am_Q} {res : Int32} (e : f_Model_nameOf_62 = res) (q : Q (some (.int res)) h) : am_W (X_Model_nameOf d) 62 [some (.int x0)] [] h Q :=
  b_Model_nameOf_62 (d := d) (q := (am_rIt (v := 1) e q))
theorem t_Model_nameOf_70 {d : Nat} {x0 : Int32} {h : am_H} {Q : am_Q} {res : Int32} (e : f_Model_nameOf_70 = res) (q : Q (some (.int res)) h) : am_W (X_Model_nameOf d) 70 [some (.int x0)] [] h Q :=
  b_Model_nameOf_70 (d := d) (q := (am_rIt (v := 5) e q))
theorem t_Model_nameOf_66 {d : Nat} {x0 : Int32} {h : am_H} {Q : am_Q} {res : Int32} (e : f_Model_nameOf_66 = res) (q : Q (some (.int res)) h) : am_W (X_Model_nameOf d) 66 [some (.int x0)] [] h Q :=
  b_Model_nameOf_66 (d := d) (q := (am_rIt (v := 3) e q))
theorem t_Model_nameOf_68 {d : Nat} {x0 : Int32} {h : am_H} {Q : am_Q} {res : Int32} (e : f_Model_nameOf_68 = res) (q : Q (some (.int res)) h) : am_W (X_Model_nameOf d) 68 [some (.int x0)] [] h Q :=
  b_Model_nameOf_68 (d := d) (q := (am_rIt (v := 4) e q))
theorem t_Model_nameOf_72 {d : Nat} {x0 : Int32} {h : am_H} {Q : am_Q} {res : Int32} (e : f_Model_nameOf_72 = res) (q : Q (some (.int res)) h) : am_W (X_Model_nameOf d) 72 [some (.int x0)] [] h Q :=
  b_Model_nameOf_72 (d := d) (q := (am_rIt (v := (-1)) e q))
theorem t_Model_nameOf_0 {d : Nat} {x0 : Int32} {h : am_H} {Q : am_Q} {res : Int32} (e : f_Model_nameOf x0 = res) (q : Q (some (.int res)) h) : am_W (X_Model_nameOf d) 0 [some (.int x0)] [] h Q :=
  b_Model_nameOf_0 (d := d) (k99 := fun c => (t_Model_nameOf_64 (am_ift e c) q)) (k100 := fun c => (t_Model_nameOf_60 (am_ift (am_ife e (fun z => absurd (c.symm.trans z) (by decide))) c) q)) (k103 := fun c => (t_Model_nameOf_62 (am_ift (am_ife (am_ife e (fun z => absurd (c.symm.trans z) (by decide))) (fun z => absurd (c.symm.trans z) (by decide))) c) q)) (k107 := fun c => (t_Model_nameOf_70 (am_ift (am_ife (am_ife (am_ife e (fun z => absurd (c.symm.trans z) (by decide))) (fun z => absurd (c.symm.trans z) (by decide))) (fun z => absurd (c.symm.trans z) (by decide))) c) q)) (k115 := fun c => (t_Model_nameOf_66 (am_ift (am_ife (am_ife (am_ife (am_ife e (fun z => absurd (c.symm.trans z) (by decide))) (fun z => absurd (c.symm.trans z) (by decide))) (fun z => absurd (c.symm.trans z) (by decide))) (fun z => absurd (c.symm.trans z) (by decide))) c) q)) (k119 := fun c => (t_Model_nameOf_68 (am_ift (am_ife (am_ife (am_ife (am_ife (am_ife e (fun z => absurd (c.symm.trans z) (by decide))) (fun z => absurd (c.symm.trans z) (by decide))) (fun z => absurd (c.symm.trans z) (by decide))) (fun z => absurd (c.symm.trans z) (by decide))) (fun z => absurd (c.symm.trans z) (by decide))) c) q)) (kd := fun c0 c1 c2 c3 c4 c5 => (t_Model_nameOf_72 (am_ife (am_ife (am_ife (am_ife (am_ife (am_ife e c0) c1) c2) c3) c4) c5) q))
theorem c_Model_nameOf {d : Nat} {x0 : Int32} {h : am_H} {Q : am_Q} {res : Int32} (e : f_Model_nameOf x0 = res) (q : Q (some (.int res)) h) : m_Model_nameOf d [.int x0] h Q :=
  e_Model_nameOf (t_Model_nameOf_0 e q)
theorem d_Model_both_0 : decode prog_12_method_24_code 0 = .ok (.aload_n 0, 1) := by decide +kernel
theorem d_Model_both_1 : decode prog_12_method_24_code 1 = .ok (.invokevirtual 169, 3) := by decide +kernel
theorem d_Model_both_4 : decode prog_12_method_24_code 4 = .ok (.istore_n 1, 1) := by decide +kernel
theorem d_Model_both_5 : decode prog_12_method_24_code 5 = .ok (.aload_n 0, 1) := by decide +kernel
theorem d_Model_both_6 : decode prog_12_method_24_code 6 = .ok (.bipush 38, 2) := by decide +kernel
theorem d_Model_both_8 : decode prog_12_method_24_code 8 = .ok (.invokevirtual 166, 3) := by decide +kernel
theorem d_Model_both_11 : decode prog_12_method_24_code 11 = .ok (.ifCond .eq 25, 3) := by decide +kernel
theorem d_Model_both_14 : decode prog_12_method_24_code 14 = .ok (.aload_n 0, 1) := by decide +kernel
theorem d_Model_both_15 : decode prog_12_method_24_code 15 = .ok (.invokevirtual 169, 3) := by decide +kernel
theorem d_Model_both_18 : decode prog_12_method_24_code 18 = .ok (.istore_n 2, 1) := by decide +kernel
theorem d_Model_both_19 : decode prog_12_method_24_code 19 = .ok (.iload_n 1, 1) := by decide +kernel
theorem d_Model_both_20 : decode prog_12_method_24_code 20 = .ok (.ifCond .eq 11, 3) := by decide +kernel
theorem d_Model_both_23 : decode prog_12_method_24_code 23 = .ok (.iload_n 2, 1) := by decide +kernel
theorem d_Model_both_24 : decode prog_12_method_24_code 24 = .ok (.ifCond .eq 7, 3) := by decide +kernel
theorem d_Model_both_27 : decode prog_12_method_24_code 27 = .ok (.iconst 1, 1) := by decide +kernel
theorem d_Model_both_28 : decode prog_12_method_24_code 28 = .ok (.goto 4, 3) := by decide +kernel
theorem d_Model_both_31 : decode prog_12_method_24_code 31 = .ok (.iconst 0, 1) := by decide +kernel
theorem d_Model_both_32 : decode prog_12_method_24_code 32 = .ok (.istore_n 1, 1) := by decide +kernel
theorem d_Model_both_33 : decode prog_12_method_24_code 33 = .ok (.goto (-28), 3) := by decide +kernel
theorem d_Model_both_36 : decode prog_12_method_24_code 36 = .ok (.iload_n 1, 1) := by decide +kernel
theorem d_Model_both_37 : decode prog_12_method_24_code 37 = .ok (.ireturn, 1) := by decide +kernel
theorem b_Model_both_0 {d : Nat} {h : am_H} {Q : am_Q} (k : m_Model_compared d [.ref 0] h (fun r hh => am_W (X_Model_both (d + 1)) 4 [some (.ref 0), none, none] (r.toList ++ []) hh Q)) : am_W (X_Model_both (d + 1)) 0 [some (.ref 0), none, none] [] h Q :=
  am_aload_n d_Model_both_0 rfl (i := 0) rfl <|
    am_callV (vs := []) (st := []) (k := 0) (ci := 10) rfl d_Model_both_1 rfl rfl w_1515 w_1517 w_42 w_94 w_1518 p_Model_compared (Nat.le_of_ble_eq_true rfl) (Nat.le_of_ble_eq_true rfl) rfl k
theorem b_Model_both_4 {d : Nat} {y0 : Int32} {h : am_H} {Q : am_Q} (k : am_W (X_Model_both d) 5 [some (.ref 0), some (.int y0), none] [] h Q) : am_W (X_Model_both d) 4 [some (.ref 0), none, none] [.int y0] h Q :=
  am_istore_n (ls' := [some (.ref 0), some (.int y0), none]) d_Model_both_4 rfl (Nat.le_of_ble_eq_true rfl) rfl <|
    k
theorem b_Model_both_5 {d : Nat} {x1 : Int32} {h : am_H} {Q : am_Q} (k : m_Model_takes d [.ref 0, .int 38] h (fun r hh => am_W (X_Model_both (d + 1)) 11 [some (.ref 0), some (.int x1), none] (r.toList ++ []) hh Q)) : am_W (X_Model_both (d + 1)) 5 [some (.ref 0), some (.int x1), none] [] h Q :=
  am_aload_n d_Model_both_5 rfl (i := 0) rfl <|
    am_bipush (v := 38) d_Model_both_6 (by decide) <|
    am_callV (vs := [.int 38]) (st := []) (k := 0) (ci := 10) rfl d_Model_both_8 rfl rfl w_1539 w_1541 w_48 w_94 w_1542 p_Model_takes (Nat.le_of_ble_eq_true rfl) (Nat.le_of_ble_eq_true rfl) rfl k
theorem b_Model_both_11 {d : Nat} {x1 : Int32} {y0 : Bool} {h : am_H} {Q : am_Q} (kt : (am_b y0) = 0 → am_W (X_Model_both d) 36 [some (.ref 0), some (.int x1), none] [] h Q) (kf : ¬ (am_b y0) = 0 → am_W (X_Model_both d) 14 [some (.ref 0), some (.int x1), none] [] h Q) : am_W (X_Model_both d) 11 [some (.ref 0), some (.int x1), none] [.int (am_b y0)] h Q :=
  am_if_eq (tgt := 36) d_Model_both_11 (by decide) kt kf
theorem b_Model_both_14 {d : Nat} {x1 : Int32} {h : am_H} {Q : am_Q} (k : m_Model_compared d [.ref 0] h (fun r hh => am_W (X_Model_both (d + 1)) 18 [some (.ref 0), some (.int x1), none] (r.toList ++ []) hh Q)) : am_W (X_Model_both (d + 1)) 14 [some (.ref 0), some (.int x1), none] [] h Q :=
  am_aload_n d_Model_both_14 rfl (i := 0) rfl <|
    am_callV (vs := []) (st := []) (k := 0) (ci := 10) rfl d_Model_both_15 rfl rfl w_1515 w_1517 w_42 w_94 w_1518 p_Model_compared (Nat.le_of_ble_eq_true rfl) (Nat.le_of_ble_eq_true rfl) rfl k
theorem b_Model_both_18 {d : Nat} {x1 : Int32} {y0 : Int32} {h : am_H} {Q : am_Q} (kt : x1 = 0 → am_W (X_Model_both d) 31 [some (.ref 0), some (.int x1), some (.int y0)] [] h Q) (kf : ¬ x1 = 0 → am_W (X_Model_both d) 23 [some (.ref 0), some (.int x1), some (.int y0)] [] h Q) : am_W (X_Model_both d) 18 [some (.ref 0), some (.int x1), none] [.int y0] h Q :=
  am_istore_n (ls' := [some (.ref 0), some (.int x1), some (.int y0)]) d_Model_both_18 rfl (Nat.le_of_ble_eq_true rfl) rfl <|
    am_iload_n d_Model_both_19 rfl (i := 1) rfl <|
    am_if_eq (tgt := 31) d_Model_both_20 (by decide) kt kf
theorem b_Model_both_23 {d : Nat} {x1 : Int32} {x2 : Int32} {h : am_H} {Q : am_Q} (kt : x2 = 0 → am_W (X_Model_both d) 31 [some (.ref 0), some (.int x1), some (.int x2)] [] h Q) (kf : ¬ x2 = 0 → am_W (X_Model_both d) 27 [some (.ref 0), some (.int x1), some (.int x2)] [] h Q) : am_W (X_Model_both d) 23 [some (.ref 0), some (.int x1), some (.int x2)] [] h Q :=
  am_iload_n d_Model_both_23 rfl (i := 2) rfl <|
    am_if_eq (tgt := 31) d_Model_both_24 (by decide) kt kf
theorem b_Model_both_27 {d : Nat} {x1 : Int32} {x2 : Int32} {h : am_H} {Q : am_Q} (k : am_W (X_Model_both d) 32 [some (.ref 0), some (.int x1), some (.int x2)] [.int 1] h Q) : am_W (X_Model_both d) 27 [some (.ref 0), some (.int x1), some (.int x2)] [] h Q :=
  am_iconst (v := 1) d_Model_both_27 (by decide) <|
    am_goto (tgt := 32) d_Model_both_28 (by decide) k
theorem b_Model_both_31 {d : Nat} {x1 : Int32} {x2 : Int32} {h : am_H} {Q : am_Q} (k : am_W (X_Model_both d) 32 [some (.ref 0), some (.int x1), some (.int x2)] [.int 0] h Q) : am_W (X_Model_both d) 31 [some (.ref 0), some (.int x1), some (.int x2)] [] h Q :=
  am_iconst (v := 0) d_Model_both_31 (by decide) <|
    k
theorem b_Model_both_32 {d : Nat} {x1 : Int32} {x2 : Int32} {y0 : Int32} {h : am_H} {Q : am_Q} (k : am_W (X_Model_both d) 5 [some (.ref 0), some (.int y0), some (.int x2)] [] h Q) : am_W (X_Model_both d) 32 [some (.ref 0), some (.int x1), some (.int x2)] [.int y0] h Q :=
  am_istore_n (ls' := [some (.ref 0), some (.int y0), some (.int x2)]) d_Model_both_32 rfl (Nat.le_of_ble_eq_true rfl) rfl <|
    am_goto (tgt := 5) d_Model_both_33 (by decide) k
theorem b_Model_both_36 {d : Nat} {x1 : Int32} {h : am_H} {Q : am_Q} (q : Q (some (.int x1)) h) : am_W (X_Model_both d) 36 [some (.ref 0), some (.int x1), none] [] h Q :=
  am_iload_n d_Model_both_36 rfl (i := 1) rfl <|
    am_iret rfl d_Model_both_37 q
theorem d_Model_compared_0 : decode prog_12_method_25_code 0 = .ok (.aload_n 0, 1) := by decide +kernel
theorem d_Model_compared_1 : decode prog_12_method_25_code 1 = .ok (.invokevirtual 172, 3) := by decide +kernel
theorem d_Model_compared_4 : decode prog_12_method_25_code 4 = .ok (.istore_n 1, 1) := by decide +kernel
theorem d_Model_compared_5 : decode prog_12_method_25_code 5 = .ok (.aload_n 0, 1) := by decide +kernel
theorem d_Model_compared_6 : decode prog_12_method_25_code 6 = .ok (.invokevirtual 159, 3) := by decide +kernel
theorem d_Model_compared_9 : decode prog_12_method_25_code 9 = .ok (.istore_n 2, 1) := by decide +kernel
theorem d_Model_compared_10 : decode prog_12_method_25_code 10 = .ok (.aload_n 0, 1) := by decide +kernel
theorem d_Model_compared_11 : decode prog_12_method_25_code 11 = .ok (.getfield 156, 3) := by decide +kernel
theorem d_Model_compared_14 : decode prog_12_method_25_code 14 = .ok (.ifCond .ge 21, 3) := by decide +kernel
theorem d_Model_compared_17 : decode prog_12_method_25_code 17 = .ok (.iload_n 2, 1) := by decide +kernel
theorem d_Model_compared_18 : decode prog_12_method_25_code 18 = .ok (.bipush 60, 2) := by decide +kernel
theorem d_Model_compared_20 : decode prog_12_method_25_code 20 = .ok (.if_icmp .eq 17, 3) := by decide +kernel
theorem d_Model_compared_23 : decode prog_12_method_25_code 23 = .ok (.iload_n 2, 1) := by decide +kernel
theorem d_Model_compared_24 : decode prog_12_method_25_code 24 = .ok (.bipush 61, 2) := by decide +kernel
theorem d_Model_compared_26 : decode prog_12_method_25_code 26 = .ok (.if_icmp .eq 11, 3) := by decide +kernel
theorem d_Model_compared_29 : decode prog_12_method_25_code 29 = .ok (.iload_n 2, 1) := by decide +kernel
theorem d_Model_compared_30 : decode prog_12_method_25_code 30 = .ok (.bipush 62, 2) := by decide +kernel
theorem d_Model_compared_32 : decode prog_12_method_25_code 32 = .ok (.if_icmp .eq 5, 3) := by decide +kernel
theorem d_Model_compared_35 : decode prog_12_method_25_code 35 = .ok (.iload_n 1, 1) := by decide +kernel
theorem d_Model_compared_36 : decode prog_12_method_25_code 36 = .ok (.ireturn, 1) := by decide +kernel
theorem d_Model_compared_37 : decode prog_12_method_25_code 37 = .ok (.aload_n 0, 1) := by decide +kernel
theorem d_Model_compared_38 : decode prog_12_method_25_code 38 = .ok (.dup, 1) := by decide +kernel
theorem d_Model_compared_39 : decode prog_12_method_25_code 39 = .ok (.getfield 147, 3) := by decide +kernel
theorem d_Model_compared_42 : decode prog_12_method_25_code 42 = .ok (.iconst 1, 1) := by decide +kernel
theorem d_Model_compared_43 : decode prog_12_method_25_code 43 = .ok (.iadd, 1) := by decide +kernel
theorem d_Model_compared_44 : decode prog_12_method_25_code 44 = .ok (.putfield 147, 3) := by decide +kernel
theorem d_Model_compared_47 : decode prog_12_method_25_code 47 = .ok (.aload_n 0, 1) := by decide +kernel
theorem d_Model_compared_48 : decode prog_12_method_25_code 48 = .ok (.invokevirtual 172, 3) := by decide +kernel
theorem d_Model_compared_51 : decode prog_12_method_25_code 51 = .ok (.istore_n 3, 1) := by decide +kernel
theorem d_Model_compared_52 : decode prog_12_method_25_code 52 = .ok (.iload_n 2, 1) := by decide +kernel
theorem d_Model_compared_53 : decode prog_12_method_25_code 53 = .ok (.bipush 60, 2) := by decide +kernel
theorem d_Model_compared_55 : decode prog_12_method_25_code 55 = .ok (.if_icmp .ne 11, 3) := by decide +kernel
theorem d_Model_compared_58 : decode prog_12_method_25_code 58 = .ok (.iload_n 1, 1) := by decide +kernel
theorem d_Model_compared_59 : decode prog_12_method_25_code 59 = .ok (.iload_n 3, 1) := by decide +kernel
theorem d_Model_compared_60 : decode prog_12_method_25_code 60 = .ok (.if_icmp .ge 29, 3) := by decide +kernel
theorem d_Model_compared_63 : decode prog_12_method_25_code 63 = .ok (.goto 22, 3) := by decide +kernel
theorem d_Model_compared_66 : decode prog_12_method_25_code 66 = .ok (.iload_n 2, 1) := by decide +kernel
theorem d_Model_compared_67 : decode prog_12_method_25_code 67 = .ok (.bipush 61, 2) := by decide +kernel
theorem d_Model_compared_69 : decode prog_12_method_25_code 69 = .ok (.if_icmp .ne 11, 3) := by decide +kernel
theorem d_Model_compared_72 : decode prog_12_method_25_code 72 = .ok (.iload_n 1, 1) := by decide +kernel
theorem d_Model_compared_73 : decode prog_12_method_25_code 73 = .ok (.iload_n 3, 1) := by decide +kernel
theorem d_Model_compared_74 : decode prog_12_method_25_code 74 = .ok (.if_icmp .ne 15, 3) := by decide +kernel
theorem d_Model_compared_77 : decode prog_12_method_25_code 77 = .ok (.goto 8, 3) := by decide +kernel
theorem d_Model_compared_80 : decode prog_12_method_25_code 80 = .ok (.iload_n 1, 1) := by decide +kernel
theorem d_Model_compared_81 : decode prog_12_method_25_code 81 = .ok (.iload_n 3, 1) := by decide +kernel
theorem d_Model_compared_82 : decode prog_12_method_25_code 82 = .ok (.if_icmp .le 7, 3) := by decide +kernel
theorem d_Model_compared_85 : decode prog_12_method_25_code 85 = .ok (.iconst 1, 1) := by decide +kernel
theorem d_Model_compared_86 : decode prog_12_method_25_code 86 = .ok (.goto 4, 3) := by decide +kernel
theorem d_Model_compared_89 : decode prog_12_method_25_code 89 = .ok (.iconst 0, 1) := by decide +kernel
theorem d_Model_compared_90 : decode prog_12_method_25_code 90 = .ok (.ireturn, 1) := by decide +kernel
theorem b_Model_compared_0 {d : Nat} {h : am_H} {Q : am_Q} (k : m_Model_sums d [.ref 0] h (fun r hh => am_W (X_Model_compared (d + 1)) 4 [some (.ref 0), none, none, none] (r.toList ++ []) hh Q)) : am_W (X_Model_compared (d + 1)) 0 [some (.ref 0), none, none, none] [] h Q :=
  am_aload_n d_Model_compared_0 rfl (i := 0) rfl <|
    am_callV (vs := []) (st := []) (k := 0) (ci := 10) rfl d_Model_compared_1 rfl rfl w_1519 w_1521 w_43 w_94 w_1522 p_Model_sums (Nat.le_of_ble_eq_true rfl) (Nat.le_of_ble_eq_true rfl) rfl k
theorem b_Model_compared_4 {d : Nat} {y0 : Int32} {h : am_H} {Q : am_Q} (k : m_Model_byteAt d [.ref 0] h (fun r hh => am_W (X_Model_compared (d + 1)) 9 [some (.ref 0), some (.int y0), none, none] (r.toList ++ []) hh Q)) : am_W (X_Model_compared (d + 1)) 4 [some (.ref 0), none, none, none] [.int y0] h Q :=
  am_istore_n (ls' := [some (.ref 0), some (.int y0), none, none]) d_Model_compared_4 rfl (Nat.le_of_ble_eq_true rfl) rfl <|
    am_aload_n d_Model_compared_5 rfl (i := 0) rfl <|
    am_callV (vs := []) (st := []) (k := 0) (ci := 10) rfl d_Model_compared_6 rfl rfl w_1531 w_1533 w_46 w_94 w_1534 p_Model_byteAt (Nat.le_of_ble_eq_true rfl) (Nat.le_of_ble_eq_true rfl) rfl k
theorem b_Model_compared_9 {d : Nat} {x1 : Int32} {y0 : Int32} {h : am_H} {Q : am_Q} (kt : 0 ≤ (h.1 0 14) → am_W (X_Model_compared d) 35 [some (.ref 0), some (.int x1), some (.int y0), none] [] h Q) (kf : ¬ 0 ≤ (h.1 0 14) → am_W (X_Model_compared d) 17 [some (.ref 0), some (.int x1), some (.int y0), none] [] h Q) : am_W (X_Model_compared d) 9 [some (.ref 0), some (.int x1), none, none] [.int y0] h Q :=
  am_istore_n (ls' := [some (.ref 0), some (.int x1), some (.int y0), none]) d_Model_compared_9 rfl (Nat.le_of_ble_eq_true rfl) rfl <|
    am_aload_n d_Model_compared_10 rfl (i := 0) rfl <|
    am_getI (ci := 10) (i := 14) rfl rfl rfl (Nat.le_of_ble_eq_true rfl) w_1332 d_Model_compared_11 <|
    am_if_ge (tgt := 35) d_Model_compared_14 (by decide) kt kf
theorem b_Model_compared_17 {d : Nat} {x1 : Int32} {x2 : Int32} {h : am_H} {Q : am_Q} (kt : x2 = 60 → am_W (X_Model_compared d) 37 [some (.ref 0), some (.int x1), some (.int x2), none] [] h Q) (kf : ¬ x2 = 60 → am_W (X_Model_compared d) 23 [some (.ref 0), some (.int x1), some (.int x2), none] [] h Q) : am_W (X_Model_compared d) 17 [some (.ref 0), some (.int x1), some (.int x2), none] [] h Q :=
  am_iload_n d_Model_compared_17 rfl (i := 2) rfl <|
    am_bipush (v := 60) d_Model_compared_18 (by decide) <|
    am_icmp_eq (tgt := 37) d_Model_compared_20 (by decide) kt kf
theorem b_Model_compared_23 {d : Nat} {x1 : Int32} {x2 : Int32} {h : am_H} {Q : am_Q} (kt : x2 = 61 → am_W (X_Model_compared d) 37 [some (.ref 0), some (.int x1), some (.int x2), none] [] h Q) (kf : ¬ x2 = 61 → am_W (X_Model_compared d) 29 [some (.ref 0), some (.int x1), some (.int x2), none] [] h Q) : am_W (X_Model_compared d) 23 [some (.ref 0), some (.int x1), some (.int x2), none] [] h Q :=
  am_iload_n d_Model_compared_23 rfl (i := 2) rfl <|
    am_bipush (v := 61) d_Model_compared_24 (by decide) <|
    am_icmp_eq (tgt := 37) d_Model_compared_26 (by decide) kt kf
theorem b_Model_compared_29 {d : Nat} {x1 : Int32} {x2 : Int32} {h : am_H} {Q : am_Q} (kt : x2 = 62 → am_W (X_Model_compared d) 37 [some (.ref 0), some (.int x1), some (.int x2), none] [] h Q) (kf : ¬ x2 = 62 → am_W (X_Model_compared d) 35 [some (.ref 0), some (.int x1), some (.int x2), none] [] h Q) : am_W (X_Model_compared d) 29 [some (.ref 0), some (.int x1), some (.int x2), none] [] h Q :=
  am_iload_n d_Model_compared_29 rfl (i := 2) rfl <|
    am_bipush (v := 62) d_Model_compared_30 (by decide) <|
    am_icmp_eq (tgt := 37) d_Model_compared_32 (by decide) kt kf
theorem b_Model_compared_35 {d : Nat} {x1 : Int32} {x2 : Int32} {h : am_H} {Q : am_Q} (q : Q (some (.int x1)) h) : am_W (X_Model_compared d) 35 [some (.ref 0), some (.int x1), some (.int x2), none] [] h Q :=
  am_iload_n d_Model_compared_35 rfl (i := 1) rfl <|
    am_iret rfl d_Model_compared_36 q
theorem b_Model_compared_37 {d : Nat} {x1 : Int32} {x2 : Int32} {h : am_H} {Q : am_Q} (k : m_Model_sums d [.ref 0] (am_pI h 0 12 ((h.1 0 12) + 1)) (fun r hh => am_W (X_Model_compared (d + 1)) 51 [some (.ref 0), some (.int x1), some (.int x2), none] (r.toList ++ []) hh Q)) : am_W (X_Model_compared (d + 1)) 37 [some (.ref 0), some (.int x1), some (.int x2), none] [] h Q :=
  am_aload_n d_Model_compared_37 rfl (i := 0) rfl <|
    am_dupR d_Model_compared_38 <|
    am_getI (ci := 10) (i := 12) rfl rfl rfl (Nat.le_of_ble_eq_true rfl) w_1330 d_Model_compared_39 <|
    am_iconst (v := 1) d_Model_compared_42 (by decide) <|
    am_iadd d_Model_compared_43 <|
    am_putI (ci := 10) (i := 12) rfl rfl rfl (Nat.le_of_ble_eq_true rfl) w_1330 rfl rfl rfl d_Model_compared_44 <|
    am_aload_n d_Model_compared_47 rfl (i := 0) rfl <|
    am_callV (vs := []) (st := []) (k := 0) (ci := 10) rfl d_Model_compared_48 rfl rfl w_1519 w_1521 w_43 w_94 w_1522 p_Model_sums (Nat.le_of_ble_eq_true rfl) (Nat.le_of_ble_eq_true rfl) rfl k
theorem b_Model_compared_51 {d : Nat} {x1 : Int32} {x2 : Int32} {y0 : Int32} {h : am_H} {Q : am_Q} (kt : ¬ x2 = 60 → am_W (X_Model_compared d) 66 [some (.ref 0), some (.int x1), some (.int x2), some (.int y0)] [] h Q) (kf : x2 = 60 → am_W (X_Model_compared d) 58 [some (.ref 0), some (.int x1), some (.int x2), some (.int y0)] [] h Q) : am_W (X_Model_compared d) 51 [some (.ref 0), some (.int x1), some (.int x2), none] [.int y0] h Q :=
  am_istore_n (ls' := [some (.ref 0), some (.int x1), some (.int x2), some (.int y0)]) d_Model_compared_51 rfl (Nat.le_of_ble_eq_true rfl) rfl <|
    am_iload_n d_Model_compared_52 rfl (i := 2) rfl <|
    am_bipush (v := 60) d_Model_compared_53 (by decide) <|
    am_icmp_ne (tgt := 66) d_Model_compared_55 (by decide) kt kf
theorem b_Model_compared_58 {d : Nat} {x1 : Int32} {x2 : Int32} {x3 : Int32} {h : am_H} {Q : am_Q} (kt : x3 ≤ x1 → am_W (X_Model_compared d) 89 [some (.ref 0), some (.int x1), some (.int x2), some (.int x3)] [] h Q) (kf : ¬ x3 ≤ x1 → am_W (X_Model_compared d) 63 [some (.ref 0), some (.int x1), some (.int x2), some (.int x3)] [] h Q) : am_W (X_Model_compared d) 58 [some (.ref 0), some (.int x1), some (.int x2), some (.int x3)] [] h Q :=
  am_iload_n d_Model_compared_58 rfl (i := 1) rfl <|
    am_iload_n d_Model_compared_59 rfl (i := 3) rfl <|
    am_icmp_ge (tgt := 89) d_Model_compared_60 (by decide) kt kf
theorem b_Model_compared_63 {d : Nat} {x1 : Int32} {x2 : Int32} {x3 : Int32} {h : am_H} {Q : am_Q} (k : am_W (X_Model_compared d) 85 [some (.ref 0), some (.int x1), some (.int x2), some (.int x3)] [] h Q) : am_W (X_Model_compared d) 63 [some (.ref 0), some (.int x1), some (.int x2), some (.int x3)] [] h Q :=
  am_goto (tgt := 85) d_Model_compared_63 (by decide) k
theorem b_Model_compared_66 {d : Nat} {x1 : Int32} {x2 : Int32} {x3 : Int32} {h : am_H} {Q : am_Q} (kt : ¬ x2 = 61 → am_W (X_Model_compared d) 80 [some (.ref 0), some (.int x1), some (.int x2), some (.int x3)] [] h Q) (kf : x2 = 61 → am_W (X_Model_compared d) 72 [some (.ref 0), some (.int x1), some (.int x2), some (.int x3)] [] h Q) : am_W (X_Model_compared d) 66 [some (.ref 0), some (.int x1), some (.int x2), some (.int x3)] [] h Q :=
  am_iload_n d_Model_compared_66 rfl (i := 2) rfl <|
    am_bipush (v := 61) d_Model_compared_67 (by decide) <|
    am_icmp_ne (tgt := 80) d_Model_compared_69 (by decide) kt kf
theorem b_Model_compared_72 {d : Nat} {x1 : Int32} {x2 : Int32} {x3 : Int32} {h : am_H} {Q : am_Q} (kt : ¬ x1 = x3 → am_W (X_Model_compared d) 89 [some (.ref 0), some (.int x1), some (.int x2), some (.int x3)] [] h Q) (kf : x1 = x3 → am_W (X_Model_compared d) 77 [some (.ref 0), some (.int x1), some (.int x2), some (.int x3)] [] h Q) : am_W (X_Model_compared d) 72 [some (.ref 0), some (.int x1), some (.int x2), some (.int x3)] [] h Q :=
  am_iload_n d_Model_compared_72 rfl (i := 1) rfl <|
    am_iload_n d_Model_compared_73 rfl (i := 3) rfl <|
    am_icmp_ne (tgt := 89) d_Model_compared_74 (by decide) kt kf
theorem b_Model_compared_77 {d : Nat} {x1 : Int32} {x2 : Int32} {x3 : Int32} {h : am_H} {Q : am_Q} (k : am_W (X_Model_compared d) 85 [some (.ref 0), some (.int x1), some (.int x2), some (.int x3)] [] h Q) : am_W (X_Model_compared d) 77 [some (.ref 0), some (.int x1), some (.int x2), some (.int x3)] [] h Q :=
  am_goto (tgt := 85) d_Model_compared_77 (by decide) k
theorem b_Model_compared_80 {d : Nat} {x1 : Int32} {x2 : Int32} {x3 : Int32} {h : am_H} {Q : am_Q} (kt : x1 ≤ x3 → am_W (X_Model_compared d) 89 [some (.ref 0), some (.int x1), some (.int x2), some (.int x3)] [] h Q) (kf : ¬ x1 ≤ x3 → am_W (X_Model_compared d) 85 [some (.ref 0), some (.int x1), some (.int x2), some (.int x3)] [] h Q) : am_W (X_Model_compared d) 80 [some (.ref 0), some (.int x1), some (.int x2), some (.int x3)] [] h Q :=
  am_iload_n d_Model_compared_80 rfl (i := 1) rfl <|
    am_iload_n d_Model_compared_81 rfl (i := 3) rfl <|
    am_icmp_le (tgt := 89) d_Model_compared_82 (by decide) kt kf
theorem b_Model_compared_85 {d : Nat} {x1 : Int32} {x2 : Int32} {x3 : Int32} {h : am_H} {Q : am_Q} (q : Q (some (.int 1)) h) : am_W (X_Model_compared d) 85 [some (.ref 0), some (.int x1), some (.int x2), some (.int x3)] [] h Q :=
  am_iconst (v := 1) d_Model_compared_85 (by decide) <|
    am_goto (tgt := 90) d_Model_compared_86 (by decide) <|
    am_iret rfl d_Model_compared_90 q
theorem b_Model_compared_89 {d : Nat} {x1 : Int32} {x2 : Int32} {x3 : Int32} {h : am_H} {Q : am_Q} (q : Q (some (.int 0)) h) : am_W (X_Model_compared d) 89 [some (.ref 0), some (.int x1), some (.int x2), some (.int x3)] [] h Q :=
  am_iconst (v := 0) d_Model_compared_89 (by decide) <|
    am_iret rfl d_Model_compared_90 q
theorem d_Model_either_0 : decode prog_12_method_23_code 0 = .ok (.aload_n 0, 1) := by decide +kernel
theorem d_Model_either_1 : decode prog_12_method_23_code 1 = .ok (.invokevirtual 163, 3) := by decide +kernel
theorem d_Model_either_4 : decode prog_12_method_23_code 4 = .ok (.istore_n 1, 1) := by decide +kernel
theorem d_Model_either_5 : decode prog_12_method_23_code 5 = .ok (.aload_n 0, 1) := by decide +kernel
theorem d_Model_either_6 : decode prog_12_method_23_code 6 = .ok (.bipush 124, 2) := by decide +kernel
theorem d_Model_either_8 : decode prog_12_method_23_code 8 = .ok (.invokevirtual 166, 3) := by decide +kernel
theorem d_Model_either_11 : decode prog_12_method_23_code 11 = .ok (.ifCond .eq 25, 3) := by decide +kernel
theorem d_Model_either_14 : decode prog_12_method_23_code 14 = .ok (.aload_n 0, 1) := by decide +kernel
theorem d_Model_either_15 : decode prog_12_method_23_code 15 = .ok (.invokevirtual 163, 3) := by decide +kernel
theorem d_Model_either_18 : decode prog_12_method_23_code 18 = .ok (.istore_n 2, 1) := by decide +kernel
theorem d_Model_either_19 : decode prog_12_method_23_code 19 = .ok (.iload_n 1, 1) := by decide +kernel
theorem d_Model_either_20 : decode prog_12_method_23_code 20 = .ok (.ifCond .ne 7, 3) := by decide +kernel
theorem d_Model_either_23 : decode prog_12_method_23_code 23 = .ok (.iload_n 2, 1) := by decide +kernel
theorem d_Model_either_24 : decode prog_12_method_23_code 24 = .ok (.ifCond .eq 7, 3) := by decide +kernel
theorem d_Model_either_27 : decode prog_12_method_23_code 27 = .ok (.iconst 1, 1) := by decide +kernel
theorem d_Model_either_28 : decode prog_12_method_23_code 28 = .ok (.goto 4, 3) := by decide +kernel
theorem d_Model_either_31 : decode prog_12_method_23_code 31 = .ok (.iconst 0, 1) := by decide +kernel
theorem d_Model_either_32 : decode prog_12_method_23_code 32 = .ok (.istore_n 1, 1) := by decide +kernel
theorem d_Model_either_33 : decode prog_12_method_23_code 33 = .ok (.goto (-28), 3) := by decide +kernel
theorem d_Model_either_36 : decode prog_12_method_23_code 36 = .ok (.iload_n 1, 1) := by decide +kernel
theorem d_Model_either_37 : decode prog_12_method_23_code 37 = .ok (.ireturn, 1) := by decide +kernel
theorem b_Model_either_0 {d : Nat} {h : am_H} {Q : am_Q} (k : m_Model_both d [.ref 0] h (fun r hh => am_W (X_Model_either (d + 1)) 4 [some (.ref 0), none, none] (r.toList ++ []) hh Q)) : am_W (X_Model_either (d + 1)) 0 [some (.ref 0), none, none] [] h Q :=
  am_aload_n d_Model_either_0 rfl (i := 0) rfl <|
    am_callV (vs := []) (st := []) (k := 0) (ci := 10) rfl d_Model_either_1 rfl rfl w_1511 w_1513 w_41 w_94 w_1514 p_Model_both (Nat.le_of_ble_eq_true rfl) (Nat.le_of_ble_eq_true rfl) rfl k
theorem b_Model_either_4 {d : Nat} {y0 : Int32} {h : am_H} {Q : am_Q} (k : am_W (X_Model_either d) 5 [some (.ref 0), some (.int y0), none] [] h Q) : am_W (X_Model_either d) 4 [some (.ref 0), none, none] [.int y0] h Q :=
  am_istore_n (ls' := [some (.ref 0), some (.int y0), none]) d_Model_either_4 rfl (Nat.le_of_ble_eq_true rfl) rfl <|
    k
theorem b_Model_either_5 {d : Nat} {x1 : Int32} {h : am_H} {Q : am_Q} (k : m_Model_takes d [.ref 0, .int 124] h (fun r hh => am_W (X_Model_either (d + 1)) 11 [some (.ref 0), some (.int x1), none] (r.toList ++ []) hh Q)) : am_W (X_Model_either (d + 1)) 5 [some (.ref 0), some (.int x1), none] [] h Q :=
  am_aload_n d_Model_either_5 rfl (i := 0) rfl <|
    am_bipush (v := 124) d_Model_either_6 (by decide) <|
    am_callV (vs := [.int 124]) (st := []) (k := 0) (ci := 10) rfl d_Model_either_8 rfl rfl w_1539 w_1541 w_48 w_94 w_1542 p_Model_takes (Nat.le_of_ble_eq_true rfl) (Nat.le_of_ble_eq_true rfl) rfl k
theorem b_Model_either_11 {d : Nat} {x1 : Int32} {y0 : Bool} {h : am_H} {Q : am_Q} (kt : (am_b y0) = 0 → am_W (X_Model_either d) 36 [some (.ref 0), some (.int x1), none] [] h Q) (kf : ¬ (am_b y0) = 0 → am_W (X_Model_either d) 14 [some (.ref 0), some (.int x1), none] [] h Q) : am_W (X_Model_either d) 11 [some (.ref 0), some (.int x1), none] [.int (am_b y0)] h Q :=
  am_if_eq (tgt := 36) d_Model_either_11 (by decide) kt kf
theorem b_Model_either_14 {d : Nat} {x1 : Int32} {h : am_H} {Q : am_Q} (k : m_Model_both d [.ref 0] h (fun r hh => am_W (X_Model_either (d + 1)) 18 [some (.ref 0), some (.int x1), none] (r.toList ++ []) hh Q)) : am_W (X_Model_either (d + 1)) 14 [some (.ref 0), some (.int x1), none] [] h Q :=
  am_aload_n d_Model_either_14 rfl (i := 0) rfl <|
    am_callV (vs := []) (st := []) (k := 0) (ci := 10) rfl d_Model_either_15 rfl rfl w_1511 w_1513 w_41 w_94 w_1514 p_Model_both (Nat.le_of_ble_eq_true rfl) (Nat.le_of_ble_eq_true rfl) rfl k
theorem b_Model_either_18 {d : Nat} {x1 : Int32} {y0 : Int32} {h : am_H} {Q : am_Q} (kt : ¬ x1 = 0 → am_W (X_Model_either d) 27 [some (.ref 0), some (.int x1), some (.int y0)] [] h Q) (kf : x1 = 0 → am_W (X_Model_either d) 23 [some (.ref 0), some (.int x1), some (.int y0)] [] h Q) : am_W (X_Model_either d) 18 [some (.ref 0), some (.int x1), none] [.int y0] h Q :=
  am_istore_n (ls' := [some (.ref 0), some (.int x1), some (.int y0)]) d_Model_either_18 rfl (Nat.le_of_ble_eq_true rfl) rfl <|
    am_iload_n d_Model_either_19 rfl (i := 1) rfl <|
    am_if_ne (tgt := 27) d_Model_either_20 (by decide) kt kf
theorem b_Model_either_23 {d : Nat} {x1 : Int32} {x2 : Int32} {h : am_H} {Q : am_Q} (kt : x2 = 0 → am_W (X_Model_either d) 31 [some (.ref 0), some (.int x1), some (.int x2)] [] h Q) (kf : ¬ x2 = 0 → am_W (X_Model_either d) 27 [some (.ref 0), some (.int x1), some (.int x2)] [] h Q) : am_W (X_Model_either d) 23 [some (.ref 0), some (.int x1), some (.int x2)] [] h Q :=
  am_iload_n d_Model_either_23 rfl (i := 2) rfl <|
    am_if_eq (tgt := 31) d_Model_either_24 (by decide) kt kf
theorem b_Model_either_27 {d : Nat} {x1 : Int32} {x2 : Int32} {h : am_H} {Q : am_Q} (k : am_W (X_Model_either d) 32 [some (.ref 0), some (.int x1), some (.int x2)] [.int 1] h Q) : am_W (X_Model_either d) 27 [some (.ref 0), some (.int x1), some (.int x2)] [] h Q :=
  am_iconst (v := 1) d_Model_either_27 (by decide) <|
    am_goto (tgt := 32) d_Model_either_28 (by decide) k
theorem b_Model_either_31 {d : Nat} {x1 : Int32} {x2 : Int32} {h : am_H} {Q : am_Q} (k : am_W (X_Model_either d) 32 [some (.ref 0), some (.int x1), some (.int x2)] [.int 0] h Q) : am_W (X_Model_either d) 31 [some (.ref 0), some (.int x1), some (.int x2)] [] h Q :=
  am_iconst (v := 0) d_Model_either_31 (by decide) <|
    k
theorem b_Model_either_32 {d : Nat} {x1 : Int32} {x2 : Int32} {y0 : Int32} {h : am_H} {Q : am_Q} (k : am_W (X_Model_either d) 5 [some (.ref 0), some (.int y0), some (.int x2)] [] h Q) : am_W (X_Model_either d) 32 [some (.ref 0), some (.int x1), some (.int x2)] [.int y0] h Q :=
  am_istore_n (ls' := [some (.ref 0), some (.int y0), some (.int x2)]) d_Model_either_32 rfl (Nat.le_of_ble_eq_true rfl) rfl <|
    am_goto (tgt := 5) d_Model_either_33 (by decide) k
theorem b_Model_either_36 {d : Nat} {x1 : Int32} {h : am_H} {Q : am_Q} (q : Q (some (.int x1)) h) : am_W (X_Model_either d) 36 [some (.ref 0), some (.int x1), none] [] h Q :=
  am_iload_n d_Model_either_36 rfl (i := 1) rfl <|
    am_iret rfl d_Model_either_37 q
theorem d_Model_one_0 : decode prog_12_method_29_code 0 = .ok (.aload_n 0, 1) := by decide +kernel
theorem d_Model_one_1 : decode prog_12_method_29_code 1 = .ok (.getfield 156, 3) := by decide +kernel
theorem d_Model_one_4 : decode prog_12_method_29_code 4 = .ok (.ifCond .lt 5, 3) := by decide +kernel
theorem d_Model_one_7 : decode prog_12_method_29_code 7 = .ok (.iconst 0, 1) := by decide +kernel
theorem d_Model_one_8 : decode prog_12_method_29_code 8 = .ok (.ireturn, 1) := by decide +kernel
theorem d_Model_one_9 : decode prog_12_method_29_code 9 = .ok (.aload_n 0, 1) := by decide +kernel
theorem d_Model_one_10 : decode prog_12_method_29_code 10 = .ok (.invokevirtual 159, 3) := by decide +kernel
theorem d_Model_one_13 : decode prog_12_method_29_code 13 = .ok (.istore_n 1, 1) := by decide +kernel
theorem d_Model_one_14 : decode prog_12_method_29_code 14 = .ok (.iload_n 1, 1) := by decide +kernel
theorem d_Model_one_15 : decode prog_12_method_29_code 15 = .ok (.bipush 33, 2) := by decide +kernel
theorem d_Model_one_17 : decode prog_12_method_29_code 17 = .ok (.if_icmp .eq 15, 3) := by decide +kernel
theorem d_Model_one_20 : decode prog_12_method_29_code 20 = .ok (.iload_n 1, 1) := by decide +kernel
theorem d_Model_one_21 : decode prog_12_method_29_code 21 = .ok (.bipush 45, 2) := by decide +kernel
theorem d_Model_one_23 : decode prog_12_method_29_code 23 = .ok (.if_icmp .eq 9, 3) := by decide +kernel
theorem d_Model_one_26 : decode prog_12_method_29_code 26 = .ok (.iload_n 1, 1) := by decide +kernel
theorem d_Model_one_27 : decode prog_12_method_29_code 27 = .ok (.bipush 40, 2) := by decide +kernel
theorem d_Model_one_29 : decode prog_12_method_29_code 29 = .ok (.if_icmp .ne 116, 3) := by decide +kernel
theorem d_Model_one_32 : decode prog_12_method_29_code 32 = .ok (.aload_n 0, 1) := by decide +kernel
theorem d_Model_one_33 : decode prog_12_method_29_code 33 = .ok (.getfield 181, 3) := by decide +kernel
theorem d_Model_one_36 : decode prog_12_method_29_code 36 = .ok (.bipush 6, 2) := by decide +kernel
theorem d_Model_one_38 : decode prog_12_method_29_code 38 = .ok (.if_icmp .ne 8, 3) := by decide +kernel
theorem d_Model_one_41 : decode prog_12_method_29_code 41 = .ok (.aload_n 0, 1) := by decide +kernel
theorem d_Model_one_42 : decode prog_12_method_29_code 42 = .ok (.invokevirtual 184, 3) := by decide +kernel
theorem d_Model_one_45 : decode prog_12_method_29_code 45 = .ok (.ireturn, 1) := by decide +kernel
theorem d_Model_one_46 : decode prog_12_method_29_code 46 = .ok (.aload_n 0, 1) := by decide +kernel
theorem d_Model_one_47 : decode prog_12_method_29_code 47 = .ok (.dup, 1) := by decide +kernel
theorem d_Model_one_48 : decode prog_12_method_29_code 48 = .ok (.getfield 181, 3) := by decide +kernel
theorem d_Model_one_51 : decode prog_12_method_29_code 51 = .ok (.iconst 1, 1) := by decide +kernel
theorem d_Model_one_52 : decode prog_12_method_29_code 52 = .ok (.iadd, 1) := by decide +kernel
theorem d_Model_one_53 : decode prog_12_method_29_code 53 = .ok (.putfield 181, 3) := by decide +kernel
theorem d_Model_one_56 : decode prog_12_method_29_code 56 = .ok (.aload_n 0, 1) := by decide +kernel
theorem d_Model_one_57 : decode prog_12_method_29_code 57 = .ok (.dup, 1) := by decide +kernel
theorem d_Model_one_58 : decode prog_12_method_29_code 58 = .ok (.getfield 147, 3) := by decide +kernel
theorem d_Model_one_61 : decode prog_12_method_29_code 61 = .ok (.iconst 1, 1) := by decide +kernel
theorem d_Model_one_62 : decode prog_12_method_29_code 62 = .ok (.iadd, 1) := by decide +kernel
theorem d_Model_one_63 : decode prog_12_method_29_code 63 = .ok (.putfield 147, 3) := by decide +kernel
theorem d_Model_one_66 : decode prog_12_method_29_code 66 = .ok (.iload_n 1, 1) := by decide +kernel
theorem d_Model_one_67 : decode prog_12_method_29_code 67 = .ok (.bipush 40, 2) := by decide +kernel
theorem d_Model_one_69 : decode prog_12_method_29_code 69 = .ok (.if_icmp .ne 10, 3) := by decide +kernel
theorem d_Model_one_72 : decode prog_12_method_29_code 72 = .ok (.aload_n 0, 1) := by decide +kernel
theorem d_Model_one_73 : decode prog_12_method_29_code 73 = .ok (.invokevirtual 187, 3) := by decide +kernel
theorem d_Model_one_76 : decode prog_12_method_29_code 76 = .ok (.goto 7, 3) := by decide +kernel
theorem d_Model_one_79 : decode prog_12_method_29_code 79 = .ok (.aload_n 0, 1) := by decide +kernel
theorem d_Model_one_80 : decode prog_12_method_29_code 80 = .ok (.invokevirtual 178, 3) := by decide +kernel
theorem d_Model_one_83 : decode prog_12_method_29_code 83 = .ok (.istore_n 2, 1) := by decide +kernel
theorem d_Model_one_84 : decode prog_12_method_29_code 84 = .ok (.iload_n 1, 1) := by decide +kernel
theorem d_Model_one_85 : decode prog_12_method_29_code 85 = .ok (.bipush 40, 2) := by decide +kernel
theorem d_Model_one_87 : decode prog_12_method_29_code 87 = .ok (.if_icmp .ne 17, 3) := by decide +kernel
theorem d_Model_one_90 : decode prog_12_method_29_code 90 = .ok (.aload_n 0, 1) := by decide +kernel
theorem d_Model_one_91 : decode prog_12_method_29_code 91 = .ok (.bipush 41, 2) := by decide +kernel
theorem d_Model_one_93 : decode prog_12_method_29_code 93 = .ok (.invokevirtual 166, 3) := by decide +kernel
theorem d_Model_one_96 : decode prog_12_method_29_code 96 = .ok (.ifCond .ne 8, 3) := by decide +kernel
theorem d_Model_one_99 : decode prog_12_method_29_code 99 = .ok (.aload_n 0, 1) := by decide +kernel
theorem d_Model_one_100 : decode prog_12_method_29_code 100 = .ok (.invokevirtual 184, 3) := by decide +kernel
theorem d_Model_one_103 : decode prog_12_method_29_code 103 = .ok (.ireturn, 1) := by decide +kernel
theorem d_Model_one_104 : decode prog_12_method_29_code 104 = .ok (.aload_n 0, 1) := by decide +kernel
theorem d_Model_one_105 : decode prog_12_method_29_code 105 = .ok (.dup, 1) := by decide +kernel
theorem d_Model_one_106 : decode prog_12_method_29_code 106 = .ok (.getfield 181, 3) := by decide +kernel
theorem d_Model_one_109 : decode prog_12_method_29_code 109 = .ok (.iconst 1, 1) := by decide +kernel
theorem d_Model_one_110 : decode prog_12_method_29_code 110 = .ok (.isub, 1) := by decide +kernel
theorem d_Model_one_111 : decode prog_12_method_29_code 111 = .ok (.putfield 181, 3) := by decide +kernel
theorem d_Model_one_114 : decode prog_12_method_29_code 114 = .ok (.iload_n 1, 1) := by decide +kernel
theorem d_Model_one_115 : decode prog_12_method_29_code 115 = .ok (.bipush 40, 2) := by decide +kernel
theorem d_Model_one_117 : decode prog_12_method_29_code 117 = .ok (.if_icmp .ne 7, 3) := by decide +kernel
theorem d_Model_one_120 : decode prog_12_method_29_code 120 = .ok (.iload_n 2, 1) := by decide +kernel
theorem d_Model_one_121 : decode prog_12_method_29_code 121 = .ok (.goto 23, 3) := by decide +kernel
theorem d_Model_one_124 : decode prog_12_method_29_code 124 = .ok (.iload_n 1, 1) := by decide +kernel
theorem d_Model_one_125 : decode prog_12_method_29_code 125 = .ok (.bipush 45, 2) := by decide +kernel
theorem d_Model_one_127 : decode prog_12_method_29_code 127 = .ok (.if_icmp .ne 8, 3) := by decide +kernel
theorem d_Model_one_130 : decode prog_12_method_29_code 130 = .ok (.iload_n 2, 1) := by decide +kernel
theorem d_Model_one_131 : decode prog_12_method_29_code 131 = .ok (.ineg, 1) := by decide +kernel
theorem d_Model_one_132 : decode prog_12_method_29_code 132 = .ok (.goto 12, 3) := by decide +kernel
theorem d_Model_one_135 : decode prog_12_method_29_code 135 = .ok (.iload_n 2, 1) := by decide +kernel
theorem d_Model_one_136 : decode prog_12_method_29_code 136 = .ok (.ifCond .ne 7, 3) := by decide +kernel
theorem d_Model_one_139 : decode prog_12_method_29_code 139 = .ok (.iconst 1, 1) := by decide +kernel
theorem d_Model_one_140 : decode prog_12_method_29_code 140 = .ok (.goto 4, 3) := by decide +kernel
theorem d_Model_one_143 : decode prog_12_method_29_code 143 = .ok (.iconst 0, 1) := by decide +kernel
theorem d_Model_one_144 : decode prog_12_method_29_code 144 = .ok (.ireturn, 1) := by decide +kernel
theorem d_Model_one_145 : decode prog_12_method_29_code 145 = .ok (.iload_n 1, 1) := by decide +kernel
theorem d_Model_one_146 : decode prog_12_method_29_code 146 = .ok (.invokestatic 190, 3) := by decide +kernel
theorem d_Model_one_149 : decode prog_12_method_29_code 149 = .ok (.istore_n 2, 1) := by decide +kernel
theorem d_Model_one_150 : decode prog_12_method_29_code 150 = .ok (.iload_n 2, 1) := by decide +kernel
theorem d_Model_one_151 : decode prog_12_method_29_code 151 = .ok (.ifCond .lt 20, 3) := by decide +kernel
theorem d_Model_one_154 : decode prog_12_method_29_code 154 = .ok (.aload_n 0, 1) := by decide +kernel
theorem d_Model_one_155 : decode prog_12_method_29_code 155 = .ok (.dup, 1) := by decide +kernel
theorem d_Model_one_156 : decode prog_12_method_29_code 156 = .ok (.getfield 147, 3) := by decide +kernel
theorem d_Model_one_159 : decode prog_12_method_29_code 159 = .ok (.iconst 1, 1) := by decide +kernel
theorem d_Model_one_160 : decode prog_12_method_29_code 160 = .ok (.iadd, 1) := by decide +kernel
theorem d_Model_one_161 : decode prog_12_method_29_code 161 = .ok (.putfield 147, 3) := by decide +kernel
theorem d_Model_one_164 : decode prog_12_method_29_code 164 = .ok (.aload_n 0, 1) := by decide +kernel
theorem d_Model_one_165 : decode prog_12_method_29_code 165 = .ok (.getfield 30, 3) := by decide +kernel
theorem d_Model_one_168 : decode prog_12_method_29_code 168 = .ok (.iload_n 2, 1) := by decide +kernel
theorem d_Model_one_169 : decode prog_12_method_29_code 169 = .ok (.iaload, 1) := by decide +kernel
theorem d_Model_one_170 : decode prog_12_method_29_code 170 = .ok (.ireturn, 1) := by decide +kernel
theorem d_Model_one_171 : decode prog_12_method_29_code 171 = .ok (.iconst 0, 1) := by decide +kernel
theorem d_Model_one_172 : decode prog_12_method_29_code 172 = .ok (.istore_n 3, 1) := by decide +kernel
theorem d_Model_one_173 : decode prog_12_method_29_code 173 = .ok (.iconst 0, 1) := by decide +kernel
theorem d_Model_one_174 : decode prog_12_method_29_code 174 = .ok (.istore 4, 2) := by decide +kernel
theorem d_Model_one_176 : decode prog_12_method_29_code 176 = .ok (.iload 4, 2) := by decide +kernel
theorem d_Model_one_178 : decode prog_12_method_29_code 178 = .ok (.iconst 4, 1) := by decide +kernel
theorem d_Model_one_179 : decode prog_12_method_29_code 179 = .ok (.if_icmp .ge 50, 3) := by decide +kernel
theorem d_Model_one_182 : decode prog_12_method_29_code 182 = .ok (.aload_n 0, 1) := by decide +kernel
theorem d_Model_one_183 : decode prog_12_method_29_code 183 = .ok (.invokevirtual 159, 3) := by decide +kernel
theorem d_Model_one_186 : decode prog_12_method_29_code 186 = .ok (.bipush 48, 2) := by decide +kernel
theorem d_Model_one_188 : decode prog_12_method_29_code 188 = .ok (.if_icmp .lt 41, 3) := by decide +kernel
theorem d_Model_one_191 : decode prog_12_method_29_code 191 = .ok (.aload_n 0, 1) := by decide +kernel
theorem d_Model_one_192 : decode prog_12_method_29_code 192 = .ok (.invokevirtual 159, 3) := by decide +kernel
theorem d_Model_one_195 : decode prog_12_method_29_code 195 = .ok (.bipush 57, 2) := by decide +kernel
theorem d_Model_one_197 : decode prog_12_method_29_code 197 = .ok (.if_icmp .gt 32, 3) := by decide +kernel
theorem d_Model_one_200 : decode prog_12_method_29_code 200 = .ok (.bipush 10, 2) := by decide +kernel
theorem d_Model_one_202 : decode prog_12_method_29_code 202 = .ok (.iload_n 3, 1) := by decide +kernel
theorem d_Model_one_203 : decode prog_12_method_29_code 203 = .ok (.imul, 1) := by decide +kernel
theorem d_Model_one_204 : decode prog_12_method_29_code 204 = .ok (.aload_n 0, 1) := by decide +kernel
theorem d_Model_one_205 : decode prog_12_method_29_code 205 = .ok (.invokevirtual 159, 3) := by decide +kernel
theorem d_Model_one_208 : decode prog_12_method_29_code 208 = .ok (.iadd, 1) := by decide +kernel
theorem d_Model_one_209 : decode prog_12_method_29_code 209 = .ok (.bipush 48, 2) := by decide +kernel
theorem d_Model_one_211 : decode prog_12_method_29_code 211 = .ok (.isub, 1) := by decide +kernel
theorem d_Model_one_212 : decode prog_12_method_29_code 212 = .ok (.istore_n 3, 1) := by decide +kernel
theorem d_Model_one_213 : decode prog_12_method_29_code 213 = .ok (.iinc 4 1, 3) := by decide +kernel
theorem d_Model_one_216 : decode prog_12_method_29_code 216 = .ok (.aload_n 0, 1) := by decide +kernel
theorem d_Model_one_217 : decode prog_12_method_29_code 217 = .ok (.dup, 1) := by decide +kernel
theorem d_Model_one_218 : decode prog_12_method_29_code 218 = .ok (.getfield 147, 3) := by decide +kernel
theorem d_Model_one_221 : decode prog_12_method_29_code 221 = .ok (.iconst 1, 1) := by decide +kernel
theorem d_Model_one_222 : decode prog_12_method_29_code 222 = .ok (.iadd, 1) := by decide +kernel
theorem d_Model_one_223 : decode prog_12_method_29_code 223 = .ok (.putfield 147, 3) := by decide +kernel
theorem d_Model_one_226 : decode prog_12_method_29_code 226 = .ok (.goto (-50), 3) := by decide +kernel
theorem d_Model_one_229 : decode prog_12_method_29_code 229 = .ok (.iload 4, 2) := by decide +kernel
theorem d_Model_one_231 : decode prog_12_method_29_code 231 = .ok (.ifCond .ne 10, 3) := by decide +kernel
theorem d_Model_one_234 : decode prog_12_method_29_code 234 = .ok (.aload_n 0, 1) := by decide +kernel
theorem d_Model_one_235 : decode prog_12_method_29_code 235 = .ok (.invokevirtual 184, 3) := by decide +kernel
theorem d_Model_one_238 : decode prog_12_method_29_code 238 = .ok (.goto 4, 3) := by decide +kernel
theorem d_Model_one_241 : decode prog_12_method_29_code 241 = .ok (.iload_n 3, 1) := by decide +kernel
theorem d_Model_one_242 : decode prog_12_method_29_code 242 = .ok (.ireturn, 1) := by decide +kernel
theorem b_Model_one_0 {d : Nat} {h : am_H} {Q : am_Q} (kt : (h.1 0 14) < 0 → am_W (X_Model_one d) 9 [some (.ref 0), none, none, none, none] [] h Q) (kf : ¬ (h.1 0 14) < 0 → am_W (X_Model_one d) 7 [some (.ref 0), none, none, none, none] [] h Q) : am_W (X_Model_one d) 0 [some (.ref 0), none, none, none, none] [] h Q :=
  am_aload_n d_Model_one_0 rfl (i := 0) rfl <|
    am_getI (ci := 10) (i := 14) rfl rfl rfl (Nat.le_of_ble_eq_true rfl) w_1332 d_Model_one_1 <|
    am_if_lt (tgt := 9) d_Model_one_4 (by decide) kt kf
theorem b_Model_one_7 {d : Nat} {h : am_H} {Q : am_Q} (q : Q (some (.int 0)) h) : am_W (X_Model_one d) 7 [some (.ref 0), none, none, none, none] [] h Q :=
  am_iconst (v := 0) d_Model_one_7 (by decide) <|
    am_iret rfl d_Model_one_8 q
theorem b_Model_one_9 {d : Nat} {h : am_H} {Q : am_Q} (k : m_Model_byteAt d [.ref 0] h (fun r hh => am_W (X_Model_one (d + 1)) 13 [some (.ref 0), none, none, none, none] (r.toList ++ []) hh Q)) : am_W (X_Model_one (d + 1)) 9 [some (.ref 0), none, none, none, none] [] h Q :=
  am_aload_n d_Model_one_9 rfl (i := 0) rfl <|
    am_callV (vs := []) (st := []) (k := 0) (ci := 10) rfl d_Model_one_10 rfl rfl w_1531 w_1533 w_46 w_94 w_1534 p_Model_byteAt (Nat.le_of_ble_eq_true rfl) (Nat.le_of_ble_eq_true rfl) rfl k
theorem b_Model_one_13 {d : Nat} {y0 : Int32} {h : am_H} {Q : am_Q} (kt : y0 = 33 → am_W (X_Model_one d) 32 [some (.ref 0), some (.int y0), none, none, none] [] h Q) (kf : ¬ y0 = 33 → am_W (X_Model_one d) 20 [some (.ref 0), some (.int y0), none, none, none] [] h Q) : am_W (X_Model_one d) 13 [some (.ref 0), none, none, none, none] [.int y0] h Q :=
  am_istore_n (ls' := [some (.ref 0), some (.int y0), none, none, none]) d_Model_one_13 rfl (Nat.le_of_ble_eq_true rfl) rfl <|
    am_iload_n d_Model_one_14 rfl (i := 1) rfl <|
    am_bipush (v := 33) d_Model_one_15 (by decide) <|
    am_icmp_eq (tgt := 32) d_Model_one_17 (by decide) kt kf
theorem b_Model_one_20 {d : Nat} {x1 : Int32} {h : am_H} {Q : am_Q} (kt : x1 = 45 → am_W (X_Model_one d) 32 [some (.ref 0), some (.int x1), none, none, none] [] h Q) (kf : ¬ x1 = 45 → am_W (X_Model_one d) 26 [some (.ref 0), some (.int x1), none, none, none] [] h Q) : am_W (X_Model_one d) 20 [some (.ref 0), some (.int x1), none, none, none] [] h Q :=
  am_iload_n d_Model_one_20 rfl (i := 1) rfl <|
    am_bipush (v := 45) d_Model_one_21 (by decide) <|
    am_icmp_eq (tgt := 32) d_Model_one_23 (by decide) kt kf
theorem b_Model_one_26 {d : Nat} {x1 : Int32} {h : am_H} {Q : am_Q} (kt : ¬ x1 = 40 → am_W (X_Model_one d) 145 [some (.ref 0), some (.int x1), none, none, none] [] h Q) (kf : x1 = 40 → am_W (X_Model_one d) 32 [some (.ref 0), some (.int x1), none, none, none] [] h Q) : am_W (X_Model_one d) 26 [some (.ref 0), some (.int x1), none, none, none] [] h Q :=
  am_iload_n d_Model_one_26 rfl (i := 1) rfl <|
    am_bipush (v := 40) d_Model_one_27 (by decide) <|
    am_icmp_ne (tgt := 145) d_Model_one_29 (by decide) kt kf
theorem b_Model_one_32 {d : Nat} {x1 : Int32} {h : am_H} {Q : am_Q} (kt : ¬ (h.1 0 15) = 6 → am_W (X_Model_one d) 46 [some (.ref 0), some (.int x1), none, none, none] [] h Q) (kf : (h.1 0 15) = 6 → am_W (X_Model_one d) 41 [some (.ref 0), some (.int x1), none, none, none] [] h Q) : am_W (X_Model_one d) 32 [some (.ref 0), some (.int x1), none, none, none] [] h Q :=
  am_aload_n d_Model_one_32 rfl (i := 0) rfl <|
    am_getI (ci := 10) (i := 15) rfl rfl rfl (Nat.le_of_ble_eq_true rfl) w_1333 d_Model_one_33 <|
    am_bipush (v := 6) d_Model_one_36 (by decide) <|
    am_icmp_ne (tgt := 46) d_Model_one_38 (by decide) kt kf
theorem b_Model_one_41 {d : Nat} {x1 : Int32} {h : am_H} {Q : am_Q} (k : m_Model_wrong d [.ref 0] h (fun r hh => am_W (X_Model_one (d + 1)) 45 [some (.ref 0), some (.int x1), none, none, none] (r.toList ++ []) hh Q)) : am_W (X_Model_one (d + 1)) 41 [some (.ref 0), some (.int x1), none, none, none] [] h Q :=
  am_aload_n d_Model_one_41 rfl (i := 0) rfl <|
    am_callV (vs := []) (st := []) (k := 0) (ci := 10) rfl d_Model_one_42 rfl rfl w_1535 w_1537 w_47 w_94 w_1538 p_Model_wrong (Nat.le_of_ble_eq_true rfl) (Nat.le_of_ble_eq_true rfl) rfl k
theorem b_Model_one_45 {d : Nat} {x1 : Int32} {y0 : Int32} {h : am_H} {Q : am_Q} (q : Q (some (.int y0)) h) : am_W (X_Model_one d) 45 [some (.ref 0), some (.int x1), none, none, none] [.int y0] h Q :=
  am_iret rfl d_Model_one_45 q
theorem b_Model_one_46 {d : Nat} {x1 : Int32} {h : am_H} {Q : am_Q} (kt : ¬ x1 = 40 → am_W (X_Model_one d) 79 [some (.ref 0), some (.int x1), none, none, none] [] (am_pI (am_pI h 0 15 ((h.1 0 15) + 1)) 0 12 (((am_pI h 0 15 ((h.1 0 15) + 1)).1 0 12) + 1)) Q) (kf : x1 = 40 → am_W (X_Model_one d) 72 [some (.ref 0), some (.int x1), none, none, none] [] (am_pI (am_pI h 0 15 ((h.1 0 15) + 1)) 0 12 (((am_pI h 0 15 ((h.1 0 15) + 1)).1 0 12) + 1)) Q) : am_W (X_Model_one d) 46 [some (.ref 0), some (.int x1), none, none, none] [] h Q :=
  am_aload_n d_Model_one_46 rfl (i := 0) rfl <|
    am_dupR d_Model_one_47 <|
    am_getI (ci := 10) (i := 15) rfl rfl rfl (Nat.le_of_ble_eq_true rfl) w_1333 d_Model_one_48 <|
    am_iconst (v := 1) d_Model_one_51 (by decide) <|
    am_iadd d_Model_one_52 <|
    am_putI (ci := 10) (i := 15) rfl rfl rfl (Nat.le_of_ble_eq_true rfl) w_1333 rfl rfl rfl d_Model_one_53 <|
    am_aload_n d_Model_one_56 rfl (i := 0) rfl <|
    am_dupR d_Model_one_57 <|
    am_getI (ci := 10) (i := 12) rfl rfl rfl (Nat.le_of_ble_eq_true rfl) w_1330 d_Model_one_58 <|
    am_iconst (v := 1) d_Model_one_61 (by decide) <|
    am_iadd d_Model_one_62 <|
    am_putI (ci := 10) (i := 12) rfl rfl rfl (Nat.le_of_ble_eq_true rfl) w_1330 rfl rfl rfl d_Model_one_63 <|
    am_iload_n d_Model_one_66 rfl (i := 1) rfl <|
    am_bipush (v := 40) d_Model_one_67 (by decide) <|
    am_icmp_ne (tgt := 79) d_Model_one_69 (by decide) kt kf
theorem b_Model_one_72 {d : Nat} {x1 : Int32} {h : am_H} {Q : am_Q} (k : m_Model_either d [.ref 0] h (fun r hh => am_W (X_Model_one (d + 1)) 76 [some (.ref 0), some (.int x1), none, none, none] (r.toList ++ []) hh Q)) : am_W (X_Model_one (d + 1)) 72 [some (.ref 0), some (.int x1), none, none, none] [] h Q :=
  am_aload_n d_Model_one_72 rfl (i := 0) rfl <|
    am_callV (vs := []) (st := []) (k := 0) (ci := 10) rfl d_Model_one_73 rfl rfl w_1507 w_1509 w_40 w_94 w_1510 p_Model_either (Nat.le_of_ble_eq_true rfl) (Nat.le_of_ble_eq_true rfl) rfl k
theorem b_Model_one_76 {d : Nat} {x1 : Int32} {y0 : Int32} {h : am_H} {Q : am_Q} (k : am_W (X_Model_one d) 83 [some (.ref 0), some (.int x1), none, none, none] [.int y0] h Q) : am_W (X_Model_one d) 76 [some (.ref 0), some (.int x1), none, none, none] [.int y0] h Q :=
  am_goto (tgt := 83) d_Model_one_76 (by decide) k
theorem b_Model_one_79 {d : Nat} {x1 : Int32} {h : am_H} {Q : am_Q} (k : m_Model_one d [.ref 0] h (fun r hh => am_W (X_Model_one (d + 1)) 83 [some (.ref 0), some (.int x1), none, none, none] (r.toList ++ []) hh Q)) : am_W (X_Model_one (d + 1)) 79 [some (.ref 0), some (.int x1), none, none, none] [] h Q :=
  am_aload_n d_Model_one_79 rfl (i := 0) rfl <|
    am_callV (vs := []) (st := []) (k := 0) (ci := 10) rfl d_Model_one_80 rfl rfl w_1527 w_1529 w_45 w_94 w_1530 p_Model_one (Nat.le_of_ble_eq_true rfl) (Nat.le_of_ble_eq_true rfl) rfl k
theorem b_Model_one_83 {d : Nat} {x1 : Int32} {y0 : Int32} {h : am_H} {Q : am_Q} (kt : ¬ x1 = 40 → am_W (X_Model_one d) 104 [some (.ref 0), some (.int x1), some (.int y0), none, none] [] h Q) (kf : x1 = 40 → am_W (X_Model_one d) 90 [some (.ref 0), some (.int x1), some (.int y0), none, none] [] h Q) : am_W (X_Model_one d) 83 [some (.ref 0), some (.int x1), none, none, none] [.int y0] h Q :=
  am_istore_n (ls' := [some (.ref 0), some (.int x1), some (.int y0), none, none]) d_Model_one_83 rfl (Nat.le_of_ble_eq_true rfl) rfl <|
    am_iload_n d_Model_one_84 rfl (i := 1) rfl <|
    am_bipush (v := 40) d_Model_one_85 (by decide) <|
    am_icmp_ne (tgt := 104) d_Model_one_87 (by decide) kt kf
theorem b_Model_one_90 {d : Nat} {x1 : Int32} {x2 : Int32} {h : am_H} {Q : am_Q} (k : m_Model_takes d [.ref 0, .int 41] h (fun r hh => am_W (X_Model_one (d + 1)) 96 [some (.ref 0), some (.int x1), some (.int x2), none, none] (r.toList ++ []) hh Q)) : am_W (X_Model_one (d + 1)) 90 [some (.ref 0), some (.int x1), some (.int x2), none, none] [] h Q :=
  am_aload_n d_Model_one_90 rfl (i := 0) rfl <|
    am_bipush (v := 41) d_Model_one_91 (by decide) <|
    am_callV (vs := [.int 41]) (st := []) (k := 0) (ci := 10) rfl d_Model_one_93 rfl rfl w_1539 w_1541 w_48 w_94 w_1542 p_Model_takes (Nat.le_of_ble_eq_true rfl) (Nat.le_of_ble_eq_true rfl) rfl k
theorem b_Model_one_96 {d : Nat} {x1 : Int32} {x2 : Int32} {y0 : Bool} {h : am_H} {Q : am_Q} (kt : ¬ (am_b y0) = 0 → am_W (X_Model_one d) 104 [some (.ref 0), some (.int x1), some (.int x2), none, none] [] h Q) (kf : (am_b y0) = 0 → am_W (X_Model_one d) 99 [some (.ref 0), some (.int x1), some (.int x2), none, none] [] h Q) : am_W (X_Model_one d) 96 [some (.ref 0), some (.int x1), some (.int x2), none, none] [.int (am_b y0)] h Q :=
  am_if_ne (tgt := 104) d_Model_one_96 (by decide) kt kf
theorem b_Model_one_99 {d : Nat} {x1 : Int32} {x2 : Int32} {h : am_H} {Q : am_Q} (k : m_Model_wrong d [.ref 0] h (fun r hh => am_W (X_Model_one (d + 1)) 103 [some (.ref 0), some (.int x1), some (.int x2), none, none] (r.toList ++ []) hh Q)) : am_W (X_Model_one (d + 1)) 99 [some (.ref 0), some (.int x1), some (.int x2), none, none] [] h Q :=
  am_aload_n d_Model_one_99 rfl (i := 0) rfl <|
    am_callV (vs := []) (st := []) (k := 0) (ci := 10) rfl d_Model_one_100 rfl rfl w_1535 w_1537 w_47 w_94 w_1538 p_Model_wrong (Nat.le_of_ble_eq_true rfl) (Nat.le_of_ble_eq_true rfl) rfl k
theorem b_Model_one_103 {d : Nat} {x1 : Int32} {x2 : Int32} {y0 : Int32} {h : am_H} {Q : am_Q} (q : Q (some (.int y0)) h) : am_W (X_Model_one d) 103 [some (.ref 0), some (.int x1), some (.int x2), none, none] [.int y0] h Q :=
  am_iret rfl d_Model_one_103 q
theorem b_Model_one_104 {d : Nat} {x1 : Int32} {x2 : Int32} {h : am_H} {Q : am_Q} (kt : ¬ x1 = 40 → am_W (X_Model_one d) 124 [some (.ref 0), some (.int x1), some (.int x2), none, none] [] (am_pI h 0 15 ((h.1 0 15) - 1)) Q) (kf : x1 = 40 → am_W (X_Model_one d) 120 [some (.ref 0), some (.int x1), some (.int x2), none, none] [] (am_pI h 0 15 ((h.1 0 15) - 1)) Q) : am_W (X_Model_one d) 104 [some (.ref 0), some (.int x1), some (.int x2), none, none] [] h Q :=
  am_aload_n d_Model_one_104 rfl (i := 0) rfl <|
    am_dupR d_Model_one_105 <|
    am_getI (ci := 10) (i := 15) rfl rfl rfl (Nat.le_of_ble_eq_true rfl) w_1333 d_Model_one_106 <|
    am_iconst (v := 1) d_Model_one_109 (by decide) <|
    am_isub d_Model_one_110 <|
    am_putI (ci := 10) (i := 15) rfl rfl rfl (Nat.le_of_ble_eq_true rfl) w_1333 rfl rfl rfl d_Model_one_111 <|
    am_iload_n d_Model_one_114 rfl (i := 1) rfl <|
    am_bipush (v := 40) d_Model_one_115 (by decide) <|
    am_icmp_ne (tgt := 124) d_Model_one_117 (by decide) kt kf
theorem b_Model_one_120 {d : Nat} {x1 : Int32} {x2 : Int32} {h : am_H} {Q : am_Q} (q : Q (some (.int x2)) h) : am_W (X_Model_one d) 120 [some (.ref 0), some (.int x1), some (.int x2), none, none] [] h Q :=
  am_iload_n d_Model_one_120 rfl (i := 2) rfl <|
    am_goto (tgt := 144) d_Model_one_121 (by decide) <|
    am_iret rfl d_Model_one_144 q
theorem b_Model_one_124 {d : Nat} {x1 : Int32} {x2 : Int32} {h : am_H} {Q : am_Q} (kt : ¬ x1 = 45 → am_W (X_Model_one d) 135 [some (.ref 0), some (.int x1), some (.int x2), none, none] [] h Q) (kf : x1 = 45 → am_W (X_Model_one d) 130 [some (.ref 0), some (.int x1), some (.int x2), none, none] [] h Q) : am_W (X_Model_one d) 124 [some (.ref 0), some (.int x1), some (.int x2), none, none] [] h Q :=
  am_iload_n d_Model_one_124 rfl (i := 1) rfl <|
    am_bipush (v := 45) d_Model_one_125 (by decide) <|
    am_icmp_ne (tgt := 135) d_Model_one_127 (by decide) kt kf
theorem b_Model_one_130 {d : Nat} {x1 : Int32} {x2 : Int32} {h : am_H} {Q : am_Q} (q : Q (some (.int (-x2))) h) : am_W (X_Model_one d) 130 [some (.ref 0), some (.int x1), some (.int x2), none, none] [] h Q :=
  am_iload_n d_Model_one_130 rfl (i := 2) rfl <|
    am_ineg d_Model_one_131 <|
    am_goto (tgt := 144) d_Model_one_132 (by decide) <|
    am_iret rfl d_Model_one_144 q
theorem b_Model_one_135 {d : Nat} {x1 : Int32} {x2 : Int32} {h : am_H} {Q : am_Q} (kt : ¬ x2 = 0 → am_W (X_Model_one d) 143 [some (.ref 0), some (.int x1), some (.int x2), none, none] [] h Q) (kf : x2 = 0 → am_W (X_Model_one d) 139 [some (.ref 0), some (.int x1), some (.int x2), none, none] [] h Q) : am_W (X_Model_one d) 135 [some (.ref 0), some (.int x1), some (.int x2), none, none] [] h Q :=
  am_iload_n d_Model_one_135 rfl (i := 2) rfl <|
    am_if_ne (tgt := 143) d_Model_one_136 (by decide) kt kf
theorem b_Model_one_139 {d : Nat} {x1 : Int32} {x2 : Int32} {h : am_H} {Q : am_Q} (q : Q (some (.int 1)) h) : am_W (X_Model_one d) 139 [some (.ref 0), some (.int x1), some (.int x2), none, none] [] h Q :=
  am_iconst (v := 1) d_Model_one_139 (by decide) <|
    am_goto (tgt := 144) d_Model_one_140 (by decide) <|
    am_iret rfl d_Model_one_144 q
theorem b_Model_one_143 {d : Nat} {x1 : Int32} {x2 : Int32} {h : am_H} {Q : am_Q} (q : Q (some (.int 0)) h) : am_W (X_Model_one d) 143 [some (.ref 0), some (.int x1), some (.int x2), none, none] [] h Q :=
  am_iconst (v := 0) d_Model_one_143 (by decide) <|
    am_iret rfl d_Model_one_144 q
theorem b_Model_one_145 {d : Nat} {x1 : Int32} {h : am_H} {Q : am_Q} (k : m_Model_nameOf d [.int x1] h (fun r hh => am_W (X_Model_one (d + 1)) 149 [some (.ref 0), some (.int x1), none, none, none] (r.toList ++ []) hh Q)) : am_W (X_Model_one (d + 1)) 145 [some (.ref 0), some (.int x1), none, none, none] [] h Q :=
  am_iload_n d_Model_one_145 rfl (i := 1) rfl <|
    am_callS (vs := [.int x1]) (st := []) rfl d_Model_one_146 w_1543 w_1544 w_94 w_1545 p_Model_nameOf (Nat.le_of_ble_eq_true rfl) (Nat.le_of_ble_eq_true rfl) rfl k
theorem b_Model_one_149 {d : Nat} {x1 : Int32} {y0 : Int32} {h : am_H} {Q : am_Q} (kt : y0 < 0 → am_W (X_Model_one d) 171 [some (.ref 0), some (.int x1), some (.int y0), none, none] [] h Q) (kf : ¬ y0 < 0 → am_W (X_Model_one d) 154 [some (.ref 0), some (.int x1), some (.int y0), none, none] [] h Q) : am_W (X_Model_one d) 149 [some (.ref 0), some (.int x1), none, none, none] [.int y0] h Q :=
  am_istore_n (ls' := [some (.ref 0), some (.int x1), some (.int y0), none, none]) d_Model_one_149 rfl (Nat.le_of_ble_eq_true rfl) rfl <|
    am_iload_n d_Model_one_150 rfl (i := 2) rfl <|
    am_if_lt (tgt := 171) d_Model_one_151 (by decide) kt kf
theorem b_Model_one_154 {d : Nat} {x1 : Int32} {x2 : Int32} {h : am_H} {Q : am_Q} (q0 : vp_in x2 6) (q : Q (some (.int ((am_pI h 0 12 ((h.1 0 12) + 1)).1 7 x2.toNatClampNeg))) (am_pI h 0 12 ((h.1 0 12) + 1))) : am_W (X_Model_one d) 154 [some (.ref 0), some (.int x1), some (.int x2), none, none] [] h Q :=
  am_aload_n d_Model_one_154 rfl (i := 0) rfl <|
    am_dupR d_Model_one_155 <|
    am_getI (ci := 10) (i := 12) rfl rfl rfl (Nat.le_of_ble_eq_true rfl) w_1330 d_Model_one_156 <|
    am_iconst (v := 1) d_Model_one_159 (by decide) <|
    am_iadd d_Model_one_160 <|
    am_putI (ci := 10) (i := 12) rfl rfl rfl (Nat.le_of_ble_eq_true rfl) w_1330 rfl rfl rfl d_Model_one_161 <|
    am_aload_n d_Model_one_164 rfl (i := 0) rfl <|
    am_getR (ci := 10) (i := 16) rfl rfl rfl (Nat.le_of_ble_eq_true rfl) w_1334 d_Model_one_165 <|
    am_iload_n d_Model_one_168 rfl (i := 2) rfl <|
    am_iald rfl q0 d_Model_one_169 <|
    am_iret rfl d_Model_one_170 q
theorem b_Model_one_171 {d : Nat} {x1 : Int32} {x2 : Int32} {h : am_H} {Q : am_Q} (k : am_W (X_Model_one d) 176 [some (.ref 0), some (.int x1), some (.int x2), some (.int 0), some (.int 0)] [] h Q) : am_W (X_Model_one d) 171 [some (.ref 0), some (.int x1), some (.int x2), none, none] [] h Q :=
  am_iconst (v := 0) d_Model_one_171 (by decide) <|
    am_istore_n (ls' := [some (.ref 0), some (.int x1), some (.int x2), some (.int 0), none]) d_Model_one_172 rfl (Nat.le_of_ble_eq_true rfl) rfl <|
    am_iconst (v := 0) d_Model_one_173 (by decide) <|
    am_istore (ls' := [some (.ref 0), some (.int x1), some (.int x2), some (.int 0), some (.int 0)]) d_Model_one_174 (Nat.le_of_ble_eq_true rfl) rfl <|
    k
theorem b_Model_one_176 {d : Nat} {x1 : Int32} {x2 : Int32} {x3 : Int32} {x4 : Int32} {h : am_H} {Q : am_Q} (kt : 4 ≤ x4 → am_W (X_Model_one d) 229 [some (.ref 0), some (.int x1), some (.int x2), some (.int x3), some (.int x4)] [] h Q) (kf : ¬ 4 ≤ x4 → am_W (X_Model_one d) 182 [some (.ref 0), some (.int x1), some (.int x2), some (.int x3), some (.int x4)] [] h Q) : am_W (X_Model_one d) 176 [some (.ref 0), some (.int x1), some (.int x2), some (.int x3), some (.int x4)] [] h Q :=
  am_iload d_Model_one_176 rfl <|
    am_iconst (v := 4) d_Model_one_178 (by decide) <|
    am_icmp_ge (tgt := 229) d_Model_one_179 (by decide) kt kf
theorem b_Model_one_182 {d : Nat} {x1 : Int32} {x2 : Int32} {x3 : Int32} {x4 : Int32} {h : am_H} {Q : am_Q} (k : m_Model_byteAt d [.ref 0] h (fun r hh => am_W (X_Model_one (d + 1)) 186 [some (.ref 0), some (.int x1), some (.int x2), some (.int x3), some (.int x4)] (r.toList ++ []) hh Q)) : am_W (X_Model_one (d + 1)) 182 [some (.ref 0), some (.int x1), some (.int x2), some (.int x3), some (.int x4)] [] h Q :=
  am_aload_n d_Model_one_182 rfl (i := 0) rfl <|
    am_callV (vs := []) (st := []) (k := 0) (ci := 10) rfl d_Model_one_183 rfl rfl w_1531 w_1533 w_46 w_94 w_1534 p_Model_byteAt (Nat.le_of_ble_eq_true rfl) (Nat.le_of_ble_eq_true rfl) rfl k
theorem b_Model_one_186 {d : Nat} {x1 : Int32} {x2 : Int32} {x3 : Int32} {x4 : Int32} {y0 : Int32} {h : am_H} {Q : am_Q} (kt : y0 < 48 → am_W (X_Model_one d) 229 [some (.ref 0), some (.int x1), some (.int x2), some (.int x3), some (.int x4)] [] h Q) (kf : ¬ y0 < 48 → am_W (X_Model_one d) 191 [some (.ref 0), some (.int x1), some (.int x2), some (.int x3), some (.int x4)] [] h Q) : am_W (X_Model_one d) 186 [some (.ref 0), some (.int x1), some (.int x2), some (.int x3), some (.int x4)] [.int y0] h Q :=
  am_bipush (v := 48) d_Model_one_186 (by decide) <|
    am_icmp_lt (tgt := 229) d_Model_one_188 (by decide) kt kf
theorem b_Model_one_191 {d : Nat} {x1 : Int32} {x2 : Int32} {x3 : Int32} {x4 : Int32} {h : am_H} {Q : am_Q} (k : m_Model_byteAt d [.ref 0] h (fun r hh => am_W (X_Model_one (d + 1)) 195 [some (.ref 0), some (.int x1), some (.int x2), some (.int x3), some (.int x4)] (r.toList ++ []) hh Q)) : am_W (X_Model_one (d + 1)) 191 [some (.ref 0), some (.int x1), some (.int x2), some (.int x3), some (.int x4)] [] h Q :=
  am_aload_n d_Model_one_191 rfl (i := 0) rfl <|
    am_callV (vs := []) (st := []) (k := 0) (ci := 10) rfl d_Model_one_192 rfl rfl w_1531 w_1533 w_46 w_94 w_1534 p_Model_byteAt (Nat.le_of_ble_eq_true rfl) (Nat.le_of_ble_eq_true rfl) rfl k
theorem b_Model_one_195 {d : Nat} {x1 : Int32} {x2 : Int32} {x3 : Int32} {x4 : Int32} {y0 : Int32} {h : am_H} {Q : am_Q} (kt : 57 < y0 → am_W (X_Model_one d) 229 [some (.ref 0), some (.int x1), some (.int x2), some (.int x3), some (.int x4)] [] h Q) (kf : ¬ 57 < y0 → am_W (X_Model_one d) 200 [some (.ref 0), some (.int x1), some (.int x2), some (.int x3), some (.int x4)] [] h Q) : am_W (X_Model_one d) 195 [some (.ref 0), some (.int x1), some (.int x2), some (.int x3), some (.int x4)] [.int y0] h Q :=
  am_bipush (v := 57) d_Model_one_195 (by decide) <|
    am_icmp_gt (tgt := 229) d_Model_one_197 (by decide) kt kf
theorem b_Model_one_200 {d : Nat} {x1 : Int32} {x2 : Int32} {x3 : Int32} {x4 : Int32} {h : am_H} {Q : am_Q} (k : m_Model_byteAt d [.ref 0] h (fun r hh => am_W (X_Model_one (d + 1)) 208 [some (.ref 0), some (.int x1), some (.int x2), some (.int x3), some (.int x4)] (r.toList ++ [.int (10 * x3)]) hh Q)) : am_W (X_Model_one (d + 1)) 200 [some (.ref 0), some (.int x1), some (.int x2), some (.int x3), some (.int x4)] [] h Q :=
  am_bipush (v := 10) d_Model_one_200 (by decide) <|
    am_iload_n d_Model_one_202 rfl (i := 3) rfl <|
    am_imul d_Model_one_203 <|
    am_aload_n d_Model_one_204 rfl (i := 0) rfl <|
    am_callV (vs := []) (st := [.int (10 * x3)]) (k := 0) (ci := 10) rfl d_Model_one_205 rfl rfl w_1531 w_1533 w_46 w_94 w_1534 p_Model_byteAt (Nat.le_of_ble_eq_true rfl) (Nat.le_of_ble_eq_true rfl) rfl k
theorem b_Model_one_208 {d : Nat} {x1 : Int32} {x2 : Int32} {x3 : Int32} {x4 : Int32} {y1 : Int32} {y0 : Int32} {h : am_H} {Q : am_Q} (k : am_W (X_Model_one d) 176 [some (.ref 0), some (.int x1), some (.int x2), some (.int ((y0 + y1) - 48)), some (.int (x4 + 1))] [] (am_pI h 0 12 ((h.1 0 12) + 1)) Q) : am_W (X_Model_one d) 208 [some (.ref 0), some (.int x1), some (.int x2), some (.int x3), some (.int x4)] [.int y1, .int y0] h Q :=
  am_iadd d_Model_one_208 <|
    am_bipush (v := 48) d_Model_one_209 (by decide) <|
    am_isub d_Model_one_211 <|
    am_istore_n (ls' := [some (.ref 0), some (.int x1), some (.int x2), some (.int ((y0 + y1) - 48)), some (.int x4)]) d_Model_one_212 rfl (Nat.le_of_ble_eq_true rfl) rfl <|
    am_iinc (v := (x4 + 1)) (ls' := [some (.ref 0), some (.int x1), some (.int x2), some (.int ((y0 + y1) - 48)), some (.int (x4 + 1))]) d_Model_one_213 rfl rfl (Nat.le_of_ble_eq_true rfl) rfl <|
    am_aload_n d_Model_one_216 rfl (i := 0) rfl <|
    am_dupR d_Model_one_217 <|
    am_getI (ci := 10) (i := 12) rfl rfl rfl (Nat.le_of_ble_eq_true rfl) w_1330 d_Model_one_218 <|
    am_iconst (v := 1) d_Model_one_221 (by decide) <|
    am_iadd d_Model_one_222 <|
    am_putI (ci := 10) (i := 12) rfl rfl rfl (Nat.le_of_ble_eq_true rfl) w_1330 rfl rfl rfl d_Model_one_223 <|
    am_goto (tgt := 176) d_Model_one_226 (by decide) k
theorem b_Model_one_229 {d : Nat} {x1 : Int32} {x2 : Int32} {x3 : Int32} {x4 : Int32} {h : am_H} {Q : am_Q} (kt : ¬ x4 = 0 → am_W (X_Model_one d) 241 [some (.ref 0), some (.int x1), some (.int x2), some (.int x3), some (.int x4)] [] h Q) (kf : x4 = 0 → am_W (X_Model_one d) 234 [some (.ref 0), some (.int x1), some (.int x2), some (.int x3), some (.int x4)] [] h Q) : am_W (X_Model_one d) 229 [some (.ref 0), some (.int x1), some (.int x2), some (.int x3), some (.int x4)] [] h Q :=
  am_iload d_Model_one_229 rfl <|
    am_if_ne (tgt := 241) d_Model_one_231 (by decide) kt kf
theorem b_Model_one_234 {d : Nat} {x1 : Int32} {x2 : Int32} {x3 : Int32} {x4 : Int32} {h : am_H} {Q : am_Q} (k : m_Model_wrong d [.ref 0] h (fun r hh => am_W (X_Model_one (d + 1)) 238 [some (.ref 0), some (.int x1), some (.int x2), some (.int x3), some (.int x4)] (r.toList ++ []) hh Q)) : am_W (X_Model_one (d + 1)) 234 [some (.ref 0), some (.int x1), some (.int x2), some (.int x3), some (.int x4)] [] h Q :=
  am_aload_n d_Model_one_234 rfl (i := 0) rfl <|
    am_callV (vs := []) (st := []) (k := 0) (ci := 10) rfl d_Model_one_235 rfl rfl w_1535 w_1537 w_47 w_94 w_1538 p_Model_wrong (Nat.le_of_ble_eq_true rfl) (Nat.le_of_ble_eq_true rfl) rfl k
theorem b_Model_one_238 {d : Nat} {x1 : Int32} {x2 : Int32} {x3 : Int32} {x4 : Int32} {y0 : Int32} {h : am_H} {Q : am_Q} (q : Q (some (.int y0)) h) : am_W (X_Model_one d) 238 [some (.ref 0), some (.int x1), some (.int x2), some (.int x3), some (.int x4)] [.int y0] h Q :=
  am_goto (tgt := 242) d_Model_one_238 (by decide) <|
    am_iret rfl d_Model_one_242 q
theorem b_Model_one_241 {d : Nat} {x1 : Int32} {x2 : Int32} {x3 : Int32} {x4 : Int32} {h : am_H} {Q : am_Q} (q : Q (some (.int x3)) h) : am_W (X_Model_one d) 241 [some (.ref 0), some (.int x1), some (.int x2), some (.int x3), some (.int x4)] [] h Q :=
  am_iload_n d_Model_one_241 rfl (i := 3) rfl <|
    am_iret rfl d_Model_one_242 q
theorem d_Model_product_0 : decode prog_12_method_27_code 0 = .ok (.aload_n 0, 1) := by decide +kernel
theorem d_Model_product_1 : decode prog_12_method_27_code 1 = .ok (.invokevirtual 178, 3) := by decide +kernel
theorem d_Model_product_4 : decode prog_12_method_27_code 4 = .ok (.istore_n 1, 1) := by decide +kernel
theorem d_Model_product_5 : decode prog_12_method_27_code 5 = .ok (.aload_n 0, 1) := by decide +kernel
theorem d_Model_product_6 : decode prog_12_method_27_code 6 = .ok (.invokevirtual 159, 3) := by decide +kernel
theorem d_Model_product_9 : decode prog_12_method_27_code 9 = .ok (.istore_n 2, 1) := by decide +kernel
theorem d_Model_product_10 : decode prog_12_method_27_code 10 = .ok (.aload_n 0, 1) := by decide +kernel
theorem d_Model_product_11 : decode prog_12_method_27_code 11 = .ok (.getfield 156, 3) := by decide +kernel
theorem d_Model_product_14 : decode prog_12_method_27_code 14 = .ok (.ifCond .ge 80, 3) := by decide +kernel
theorem d_Model_product_17 : decode prog_12_method_27_code 17 = .ok (.iload_n 2, 1) := by decide +kernel
theorem d_Model_product_18 : decode prog_12_method_27_code 18 = .ok (.bipush 42, 2) := by decide +kernel
theorem d_Model_product_20 : decode prog_12_method_27_code 20 = .ok (.if_icmp .eq 15, 3) := by decide +kernel
theorem d_Model_product_23 : decode prog_12_method_27_code 23 = .ok (.iload_n 2, 1) := by decide +kernel
theorem d_Model_product_24 : decode prog_12_method_27_code 24 = .ok (.bipush 47, 2) := by decide +kernel
theorem d_Model_product_26 : decode prog_12_method_27_code 26 = .ok (.if_icmp .eq 9, 3) := by decide +kernel
theorem d_Model_product_29 : decode prog_12_method_27_code 29 = .ok (.iload_n 2, 1) := by decide +kernel
theorem d_Model_product_30 : decode prog_12_method_27_code 30 = .ok (.bipush 37, 2) := by decide +kernel
theorem d_Model_product_32 : decode prog_12_method_27_code 32 = .ok (.if_icmp .ne 62, 3) := by decide +kernel
theorem d_Model_product_35 : decode prog_12_method_27_code 35 = .ok (.aload_n 0, 1) := by decide +kernel
theorem d_Model_product_36 : decode prog_12_method_27_code 36 = .ok (.dup, 1) := by decide +kernel
theorem d_Model_product_37 : decode prog_12_method_27_code 37 = .ok (.getfield 147, 3) := by decide +kernel
theorem d_Model_product_40 : decode prog_12_method_27_code 40 = .ok (.iconst 1, 1) := by decide +kernel
theorem d_Model_product_41 : decode prog_12_method_27_code 41 = .ok (.iadd, 1) := by decide +kernel
theorem d_Model_product_42 : decode prog_12_method_27_code 42 = .ok (.putfield 147, 3) := by decide +kernel
theorem d_Model_product_45 : decode prog_12_method_27_code 45 = .ok (.aload_n 0, 1) := by decide +kernel
theorem d_Model_product_46 : decode prog_12_method_27_code 46 = .ok (.invokevirtual 178, 3) := by decide +kernel
theorem d_Model_product_49 : decode prog_12_method_27_code 49 = .ok (.istore_n 3, 1) := by decide +kernel
theorem d_Model_product_50 : decode prog_12_method_27_code 50 = .ok (.iload_n 2, 1) := by decide +kernel
theorem d_Model_product_51 : decode prog_12_method_27_code 51 = .ok (.bipush 42, 2) := by decide +kernel
theorem d_Model_product_53 : decode prog_12_method_27_code 53 = .ok (.if_icmp .ne 9, 3) := by decide +kernel
theorem d_Model_product_56 : decode prog_12_method_27_code 56 = .ok (.iload_n 1, 1) := by decide +kernel
theorem d_Model_product_57 : decode prog_12_method_27_code 57 = .ok (.iload_n 3, 1) := by decide +kernel
theorem d_Model_product_58 : decode prog_12_method_27_code 58 = .ok (.imul, 1) := by decide +kernel
theorem d_Model_product_59 : decode prog_12_method_27_code 59 = .ok (.goto 26, 3) := by decide +kernel
theorem d_Model_product_62 : decode prog_12_method_27_code 62 = .ok (.iload_n 3, 1) := by decide +kernel
theorem d_Model_product_63 : decode prog_12_method_27_code 63 = .ok (.ifCond .ne 7, 3) := by decide +kernel
theorem d_Model_product_66 : decode prog_12_method_27_code 66 = .ok (.iconst 0, 1) := by decide +kernel
theorem d_Model_product_67 : decode prog_12_method_27_code 67 = .ok (.goto 18, 3) := by decide +kernel
theorem d_Model_product_70 : decode prog_12_method_27_code 70 = .ok (.iload_n 2, 1) := by decide +kernel
theorem d_Model_product_71 : decode prog_12_method_27_code 71 = .ok (.bipush 47, 2) := by decide +kernel
theorem d_Model_product_73 : decode prog_12_method_27_code 73 = .ok (.if_icmp .ne 9, 3) := by decide +kernel
theorem d_Model_product_76 : decode prog_12_method_27_code 76 = .ok (.iload_n 1, 1) := by decide +kernel
theorem d_Model_product_77 : decode prog_12_method_27_code 77 = .ok (.iload_n 3, 1) := by decide +kernel
theorem d_Model_product_78 : decode prog_12_method_27_code 78 = .ok (.idiv, 1) := by decide +kernel
theorem d_Model_product_79 : decode prog_12_method_27_code 79 = .ok (.goto 6, 3) := by decide +kernel
theorem d_Model_product_82 : decode prog_12_method_27_code 82 = .ok (.iload_n 1, 1) := by decide +kernel
theorem d_Model_product_83 : decode prog_12_method_27_code 83 = .ok (.iload_n 3, 1) := by decide +kernel
theorem d_Model_product_84 : decode prog_12_method_27_code 84 = .ok (.irem, 1) := by decide +kernel
theorem d_Model_product_85 : decode prog_12_method_27_code 85 = .ok (.istore_n 1, 1) := by decide +kernel
theorem d_Model_product_86 : decode prog_12_method_27_code 86 = .ok (.aload_n 0, 1) := by decide +kernel
theorem d_Model_product_87 : decode prog_12_method_27_code 87 = .ok (.invokevirtual 159, 3) := by decide +kernel
theorem d_Model_product_90 : decode prog_12_method_27_code 90 = .ok (.istore_n 2, 1) := by decide +kernel
theorem d_Model_product_91 : decode prog_12_method_27_code 91 = .ok (.goto (-81), 3) := by decide +kernel
theorem d_Model_product_94 : decode prog_12_method_27_code 94 = .ok (.iload_n 1, 1) := by decide +kernel
theorem d_Model_product_95 : decode prog_12_method_27_code 95 = .ok (.ireturn, 1) := by decide +kernel
theorem b_Model_product_0 {d : Nat} {h : am_H} {Q : am_Q} (k : m_Model_one d [.ref 0] h (fun r hh => am_W (X_Model_product (d + 1)) 4 [some (.ref 0), none, none, none] (r.toList ++ []) hh Q)) : am_W (X_Model_product (d + 1)) 0 [some (.ref 0), none, none, none] [] h Q :=
  am_aload_n d_Model_product_0 rfl (i := 0) rfl <|
    am_callV (vs := []) (st := []) (k := 0) (ci := 10) rfl d_Model_product_1 rfl rfl w_1527 w_1529 w_45 w_94 w_1530 p_Model_one (Nat.le_of_ble_eq_true rfl) (Nat.le_of_ble_eq_true rfl) rfl k
theorem b_Model_product_4 {d : Nat} {y0 : Int32} {h : am_H} {Q : am_Q} (k : m_Model_byteAt d [.ref 0] h (fun r hh => am_W (X_Model_product (d + 1)) 9 [some (.ref 0), some (.int y0), none, none] (r.toList ++ []) hh Q)) : am_W (X_Model_product (d + 1)) 4 [some (.ref 0), none, none, none] [.int y0] h Q :=
  am_istore_n (ls' := [some (.ref 0), some (.int y0), none, none]) d_Model_product_4 rfl (Nat.le_of_ble_eq_true rfl) rfl <|
    am_aload_n d_Model_product_5 rfl (i := 0) rfl <|
    am_callV (vs := []) (st := []) (k := 0) (ci := 10) rfl d_Model_product_6 rfl rfl w_1531 w_1533 w_46 w_94 w_1534 p_Model_byteAt (Nat.le_of_ble_eq_true rfl) (Nat.le_of_ble_eq_true rfl) rfl k
theorem b_Model_product_9 {d : Nat} {x1 : Int32} {y0 : Int32} {h : am_H} {Q : am_Q} (k : am_W (X_Model_product d) 10 [some (.ref 0), some (.int x1), some (.int y0), none] [] h Q) : am_W (X_Model_product d) 9 [some (.ref 0), some (.int x1), none, none] [.int y0] h Q :=
  am_istore_n (ls' := [some (.ref 0), some (.int x1), some (.int y0), none]) d_Model_product_9 rfl (Nat.le_of_ble_eq_true rfl) rfl <|
    k
theorem b_Model_product_10 {d : Nat} {x1 : Int32} {x2 : Int32} {h : am_H} {Q : am_Q} (kt : 0 ≤ (h.1 0 14) → am_W (X_Model_product d) 94 [some (.ref 0), some (.int x1), some (.int x2), none] [] h Q) (kf : ¬ 0 ≤ (h.1 0 14) → am_W (X_Model_product d) 17 [some (.ref 0), some (.int x1), some (.int x2), none] [] h Q) : am_W (X_Model_product d) 10 [some (.ref 0), some (.int x1), some (.int x2), none] [] h Q :=
  am_aload_n d_Model_product_10 rfl (i := 0) rfl <|
    am_getI (ci := 10) (i := 14) rfl rfl rfl (Nat.le_of_ble_eq_true rfl) w_1332 d_Model_product_11 <|
    am_if_ge (tgt := 94) d_Model_product_14 (by decide) kt kf
theorem b_Model_product_17 {d : Nat} {x1 : Int32} {x2 : Int32} {h : am_H} {Q : am_Q} (kt : x2 = 42 → am_W (X_Model_product d) 35 [some (.ref 0), some (.int x1), some (.int x2), none] [] h Q) (kf : ¬ x2 = 42 → am_W (X_Model_product d) 23 [some (.ref 0), some (.int x1), some (.int x2), none] [] h Q) : am_W (X_Model_product d) 17 [some (.ref 0), some (.int x1), some (.int x2), none] [] h Q :=
  am_iload_n d_Model_product_17 rfl (i := 2) rfl <|
    am_bipush (v := 42) d_Model_product_18 (by decide) <|
    am_icmp_eq (tgt := 35) d_Model_product_20 (by decide) kt kf
theorem b_Model_product_23 {d : Nat} {x1 : Int32} {x2 : Int32} {h : am_H} {Q : am_Q} (kt : x2 = 47 → am_W (X_Model_product d) 35 [some (.ref 0), some (.int x1), some (.int x2), none] [] h Q) (kf : ¬ x2 = 47 → am_W (X_Model_product d) 29 [some (.ref 0), some (.int x1), some (.int x2), none] [] h Q) : am_W (X_Model_product d) 23 [some (.ref 0), some (.int x1), some (.int x2), none] [] h Q :=
  am_iload_n d_Model_product_23 rfl (i := 2) rfl <|
    am_bipush (v := 47) d_Model_product_24 (by decide) <|
    am_icmp_eq (tgt := 35) d_Model_product_26 (by decide) kt kf
theorem b_Model_product_29 {d : Nat} {x1 : Int32} {x2 : Int32} {h : am_H} {Q : am_Q} (kt : ¬ x2 = 37 → am_W (X_Model_product d) 94 [some (.ref 0), some (.int x1), some (.int x2), none] [] h Q) (kf : x2 = 37 → am_W (X_Model_product d) 35 [some (.ref 0), some (.int x1), some (.int x2), none] [] h Q) : am_W (X_Model_product d) 29 [some (.ref 0), some (.int x1), some (.int x2), none] [] h Q :=
  am_iload_n d_Model_product_29 rfl (i := 2) rfl <|
    am_bipush (v := 37) d_Model_product_30 (by decide) <|
    am_icmp_ne (tgt := 94) d_Model_product_32 (by decide) kt kf
theorem b_Model_product_35 {d : Nat} {x1 : Int32} {x2 : Int32} {h : am_H} {Q : am_Q} (k : m_Model_one d [.ref 0] (am_pI h 0 12 ((h.1 0 12) + 1)) (fun r hh => am_W (X_Model_product (d + 1)) 49 [some (.ref 0), some (.int x1), some (.int x2), none] (r.toList ++ []) hh Q)) : am_W (X_Model_product (d + 1)) 35 [some (.ref 0), some (.int x1), some (.int x2), none] [] h Q :=
  am_aload_n d_Model_product_35 rfl (i := 0) rfl <|
    am_dupR d_Model_product_36 <|
    am_getI (ci := 10) (i := 12) rfl rfl rfl (Nat.le_of_ble_eq_true rfl) w_1330 d_Model_product_37 <|
    am_iconst (v := 1) d_Model_product_40 (by decide) <|
    am_iadd d_Model_product_41 <|
    am_putI (ci := 10) (i := 12) rfl rfl rfl (Nat.le_of_ble_eq_true rfl) w_1330 rfl rfl rfl d_Model_product_42 <|
    am_aload_n d_Model_product_45 rfl (i := 0) rfl <|
    am_callV (vs := []) (st := []) (k := 0) (ci := 10) rfl d_Model_product_46 rfl rfl w_1527 w_1529 w_45 w_94 w_1530 p_Model_one (Nat.le_of_ble_eq_true rfl) (Nat.le_of_ble_eq_true rfl) rfl k
theorem b_Model_product_49 {d : Nat} {x1 : Int32} {x2 : Int32} {y0 : Int32} {h : am_H} {Q : am_Q} (kt : ¬ x2 = 42 → am_W (X_Model_product d) 62 [some (.ref 0), some (.int x1), some (.int x2), some (.int y0)] [] h Q) (kf : x2 = 42 → am_W (X_Model_product d) 56 [some (.ref 0), some (.int x1), some (.int x2), some (.int y0)] [] h Q) : am_W (X_Model_product d) 49 [some (.ref 0), some (.int x1), some (.int x2), none] [.int y0] h Q :=
  am_istore_n (ls' := [some (.ref 0), some (.int x1), some (.int x2), some (.int y0)]) d_Model_product_49 rfl (Nat.le_of_ble_eq_true rfl) rfl <|
    am_iload_n d_Model_product_50 rfl (i := 2) rfl <|
    am_bipush (v := 42) d_Model_product_51 (by decide) <|
    am_icmp_ne (tgt := 62) d_Model_product_53 (by decide) kt kf
theorem b_Model_product_56 {d : Nat} {x1 : Int32} {x2 : Int32} {x3 : Int32} {h : am_H} {Q : am_Q} (k : am_W (X_Model_product d) 85 [some (.ref 0), some (.int x1), some (.int x2), some (.int x3)] [.int (x1 * x3)] h Q) : am_W (X_Model_product d) 56 [some (.ref 0), some (.int x1), some (.int x2), some (.int x3)] [] h Q :=
  am_iload_n d_Model_product_56 rfl (i := 1) rfl <|
    am_iload_n d_Model_product_57 rfl (i := 3) rfl <|
    am_imul d_Model_product_58 <|
    am_goto (tgt := 85) d_Model_product_59 (by decide) k
theorem b_Model_product_62 {d : Nat} {x1 : Int32} {x2 : Int32} {x3 : Int32} {h : am_H} {Q : am_Q} (kt : ¬ x3 = 0 → am_W (X_Model_product d) 70 [some (.ref 0), some (.int x1), some (.int x2), some (.int x3)] [] h Q) (kf : x3 = 0 → am_W (X_Model_product d) 66 [some (.ref 0), some (.int x1), some (.int x2), some (.int x3)] [] h Q) : am_W (X_Model_product d) 62 [some (.ref 0), some (.int x1), some (.int x2), some (.int x3)] [] h Q :=
  am_iload_n d_Model_product_62 rfl (i := 3) rfl <|
    am_if_ne (tgt := 70) d_Model_product_63 (by decide) kt kf
theorem b_Model_product_66 {d : Nat} {x1 : Int32} {x2 : Int32} {x3 : Int32} {h : am_H} {Q : am_Q} (k : am_W (X_Model_product d) 85 [some (.ref 0), some (.int x1), some (.int x2), some (.int x3)] [.int 0] h Q) : am_W (X_Model_product d) 66 [some (.ref 0), some (.int x1), some (.int x2), some (.int x3)] [] h Q :=
  am_iconst (v := 0) d_Model_product_66 (by decide) <|
    am_goto (tgt := 85) d_Model_product_67 (by decide) k
theorem b_Model_product_70 {d : Nat} {x1 : Int32} {x2 : Int32} {x3 : Int32} {h : am_H} {Q : am_Q} (kt : ¬ x2 = 47 → am_W (X_Model_product d) 82 [some (.ref 0), some (.int x1), some (.int x2), some (.int x3)] [] h Q) (kf : x2 = 47 → am_W (X_Model_product d) 76 [some (.ref 0), some (.int x1), some (.int x2), some (.int x3)] [] h Q) : am_W (X_Model_product d) 70 [some (.ref 0), some (.int x1), some (.int x2), some (.int x3)] [] h Q :=
  am_iload_n d_Model_product_70 rfl (i := 2) rfl <|
    am_bipush (v := 47) d_Model_product_71 (by decide) <|
    am_icmp_ne (tgt := 82) d_Model_product_73 (by decide) kt kf
theorem b_Model_product_76 {d : Nat} {x1 : Int32} {x2 : Int32} {x3 : Int32} {h : am_H} {Q : am_Q} (q0 : ¬ x3 = 0) (k : am_W (X_Model_product d) 85 [some (.ref 0), some (.int x1), some (.int x2), some (.int x3)] [.int (x1 / x3)] h Q) : am_W (X_Model_product d) 76 [some (.ref 0), some (.int x1), some (.int x2), some (.int x3)] [] h Q :=
  am_iload_n d_Model_product_76 rfl (i := 1) rfl <|
    am_iload_n d_Model_product_77 rfl (i := 3) rfl <|
    am_idiv d_Model_product_78 q0 <|
    am_goto (tgt := 85) d_Model_product_79 (by decide) k
theorem b_Model_product_82 {d : Nat} {x1 : Int32} {x2 : Int32} {x3 : Int32} {h : am_H} {Q : am_Q} (q0 : ¬ x3 = 0) (k : am_W (X_Model_product d) 85 [some (.ref 0), some (.int x1), some (.int x2), some (.int x3)] [.int (x1 - x1 / x3 * x3)] h Q) : am_W (X_Model_product d) 82 [some (.ref 0), some (.int x1), some (.int x2), some (.int x3)] [] h Q :=
  am_iload_n d_Model_product_82 rfl (i := 1) rfl <|
    am_iload_n d_Model_product_83 rfl (i := 3) rfl <|
    am_irem d_Model_product_84 q0 <|
    k
theorem b_Model_product_85 {d : Nat} {x1 : Int32} {x2 : Int32} {x3 : Int32} {y0 : Int32} {h : am_H} {Q : am_Q} (k : m_Model_byteAt d [.ref 0] h (fun r hh => am_W (X_Model_product (d + 1)) 90 [some (.ref 0), some (.int y0), some (.int x2), some (.int x3)] (r.toList ++ []) hh Q)) : am_W (X_Model_product (d + 1)) 85 [some (.ref 0), some (.int x1), some (.int x2), some (.int x3)] [.int y0] h Q :=
  am_istore_n (ls' := [some (.ref 0), some (.int y0), some (.int x2), some (.int x3)]) d_Model_product_85 rfl (Nat.le_of_ble_eq_true rfl) rfl <|
    am_aload_n d_Model_product_86 rfl (i := 0) rfl <|
    am_callV (vs := []) (st := []) (k := 0) (ci := 10) rfl d_Model_product_87 rfl rfl w_1531 w_1533 w_46 w_94 w_1534 p_Model_byteAt (Nat.le_of_ble_eq_true rfl) (Nat.le_of_ble_eq_true rfl) rfl k
theorem b_Model_product_90 {d : Nat} {x1 : Int32} {x2 : Int32} {x3 : Int32} {y0 : Int32} {h : am_H} {Q : am_Q} (k : am_W (X_Model_product d) 10 [some (.ref 0), some (.int x1), some (.int y0), some (.int x3)] [] h Q) : am_W (X_Model_product d) 90 [some (.ref 0), some (.int x1), some (.int x2), some (.int x3)] [.int y0] h Q :=
  am_istore_n (ls' := [some (.ref 0), some (.int x1), some (.int y0), some (.int x3)]) d_Model_product_90 rfl (Nat.le_of_ble_eq_true rfl) rfl <|
    am_goto (tgt := 10) d_Model_product_91 (by decide) k
theorem b_Model_product_94 {d : Nat} {x1 : Int32} {x2 : Int32} {h : am_H} {Q : am_Q} (q : Q (some (.int x1)) h) : am_W (X_Model_product d) 94 [some (.ref 0), some (.int x1), some (.int x2), none] [] h Q :=
  am_iload_n d_Model_product_94 rfl (i := 1) rfl <|
    am_iret rfl d_Model_product_95 q
theorem d_Model_sums_0 : decode prog_12_method_26_code 0 = .ok (.aload_n 0, 1) := by decide +kernel
theorem d_Model_sums_1 : decode prog_12_method_26_code 1 = .ok (.invokevirtual 175, 3) := by decide +kernel
theorem d_Model_sums_4 : decode prog_12_method_26_code 4 = .ok (.istore_n 1, 1) := by decide +kernel
theorem d_Model_sums_5 : decode prog_12_method_26_code 5 = .ok (.aload_n 0, 1) := by decide +kernel
theorem d_Model_sums_6 : decode prog_12_method_26_code 6 = .ok (.getfield 156, 3) := by decide +kernel
theorem d_Model_sums_9 : decode prog_12_method_26_code 9 = .ok (.ifCond .ge 68, 3) := by decide +kernel
theorem d_Model_sums_12 : decode prog_12_method_26_code 12 = .ok (.aload_n 0, 1) := by decide +kernel
theorem d_Model_sums_13 : decode prog_12_method_26_code 13 = .ok (.invokevirtual 159, 3) := by decide +kernel
theorem d_Model_sums_16 : decode prog_12_method_26_code 16 = .ok (.bipush 43, 2) := by decide +kernel
theorem d_Model_sums_18 : decode prog_12_method_26_code 18 = .ok (.if_icmp .eq 12, 3) := by decide +kernel
theorem d_Model_sums_21 : decode prog_12_method_26_code 21 = .ok (.aload_n 0, 1) := by decide +kernel
theorem d_Model_sums_22 : decode prog_12_method_26_code 22 = .ok (.invokevirtual 159, 3) := by decide +kernel
theorem d_Model_sums_25 : decode prog_12_method_26_code 25 = .ok (.bipush 45, 2) := by decide +kernel
theorem d_Model_sums_27 : decode prog_12_method_26_code 27 = .ok (.if_icmp .ne 50, 3) := by decide +kernel
theorem d_Model_sums_30 : decode prog_12_method_26_code 30 = .ok (.aload_n 0, 1) := by decide +kernel
theorem d_Model_sums_31 : decode prog_12_method_26_code 31 = .ok (.invokevirtual 159, 3) := by decide +kernel
theorem d_Model_sums_34 : decode prog_12_method_26_code 34 = .ok (.bipush 43, 2) := by decide +kernel
theorem d_Model_sums_36 : decode prog_12_method_26_code 36 = .ok (.if_icmp .ne 7, 3) := by decide +kernel
theorem d_Model_sums_39 : decode prog_12_method_26_code 39 = .ok (.iconst 1, 1) := by decide +kernel
theorem d_Model_sums_40 : decode prog_12_method_26_code 40 = .ok (.goto 4, 3) := by decide +kernel
theorem d_Model_sums_43 : decode prog_12_method_26_code 43 = .ok (.iconst 0, 1) := by decide +kernel
theorem d_Model_sums_44 : decode prog_12_method_26_code 44 = .ok (.istore_n 2, 1) := by decide +kernel
theorem d_Model_sums_45 : decode prog_12_method_26_code 45 = .ok (.aload_n 0, 1) := by decide +kernel
theorem d_Model_sums_46 : decode prog_12_method_26_code 46 = .ok (.dup, 1) := by decide +kernel
theorem d_Model_sums_47 : decode prog_12_method_26_code 47 = .ok (.getfield 147, 3) := by decide +kernel
theorem d_Model_sums_50 : decode prog_12_method_26_code 50 = .ok (.iconst 1, 1) := by decide +kernel
theorem d_Model_sums_51 : decode prog_12_method_26_code 51 = .ok (.iadd, 1) := by decide +kernel
theorem d_Model_sums_52 : decode prog_12_method_26_code 52 = .ok (.putfield 147, 3) := by decide +kernel
theorem d_Model_sums_55 : decode prog_12_method_26_code 55 = .ok (.aload_n 0, 1) := by decide +kernel
theorem d_Model_sums_56 : decode prog_12_method_26_code 56 = .ok (.invokevirtual 175, 3) := by decide +kernel
theorem d_Model_sums_59 : decode prog_12_method_26_code 59 = .ok (.istore_n 3, 1) := by decide +kernel
theorem d_Model_sums_60 : decode prog_12_method_26_code 60 = .ok (.iload_n 2, 1) := by decide +kernel
theorem d_Model_sums_61 : decode prog_12_method_26_code 61 = .ok (.ifCond .eq 9, 3) := by decide +kernel
theorem d_Model_sums_64 : decode prog_12_method_26_code 64 = .ok (.iload_n 1, 1) := by decide +kernel
theorem d_Model_sums_65 : decode prog_12_method_26_code 65 = .ok (.iload_n 3, 1) := by decide +kernel
theorem d_Model_sums_66 : decode prog_12_method_26_code 66 = .ok (.iadd, 1) := by decide +kernel
theorem d_Model_sums_67 : decode prog_12_method_26_code 67 = .ok (.goto 6, 3) := by decide +kernel
theorem d_Model_sums_70 : decode prog_12_method_26_code 70 = .ok (.iload_n 1, 1) := by decide +kernel
theorem d_Model_sums_71 : decode prog_12_method_26_code 71 = .ok (.iload_n 3, 1) := by decide +kernel
theorem d_Model_sums_72 : decode prog_12_method_26_code 72 = .ok (.isub, 1) := by decide +kernel
theorem d_Model_sums_73 : decode prog_12_method_26_code 73 = .ok (.istore_n 1, 1) := by decide +kernel
theorem d_Model_sums_74 : decode prog_12_method_26_code 74 = .ok (.goto (-69), 3) := by decide +kernel
theorem d_Model_sums_77 : decode prog_12_method_26_code 77 = .ok (.iload_n 1, 1) := by decide +kernel
theorem d_Model_sums_78 : decode prog_12_method_26_code 78 = .ok (.ireturn, 1) := by decide +kernel
theorem b_Model_sums_0 {d : Nat} {h : am_H} {Q : am_Q} (k : m_Model_product d [.ref 0] h (fun r hh => am_W (X_Model_sums (d + 1)) 4 [some (.ref 0), none, none, none] (r.toList ++ []) hh Q)) : am_W (X_Model_sums (d + 1)) 0 [some (.ref 0), none, none, none] [] h Q :=
  am_aload_n d_Model_sums_0 rfl (i := 0) rfl <|
    am_callV (vs := []) (st := []) (k := 0) (ci := 10) rfl d_Model_sums_1 rfl rfl w_1523 w_1525 w_44 w_94 w_1526 p_Model_product (Nat.le_of_ble_eq_true rfl) (Nat.le_of_ble_eq_true rfl) rfl k
theorem b_Model_sums_4 {d : Nat} {y0 : Int32} {h : am_H} {Q : am_Q} (k : am_W (X_Model_sums d) 5 [some (.ref 0), some (.int y0), none, none] [] h Q) : am_W (X_Model_sums d) 4 [some (.ref 0), none, none, none] [.int y0] h Q :=
  am_istore_n (ls' := [some (.ref 0), some (.int y0), none, none]) d_Model_sums_4 rfl (Nat.le_of_ble_eq_true rfl) rfl <|
    k
theorem b_Model_sums_5 {d : Nat} {x1 : Int32} {h : am_H} {Q : am_Q} (kt : 0 ≤ (h.1 0 14) → am_W (X_Model_sums d) 77 [some (.ref 0), some (.int x1), none, none] [] h Q) (kf : ¬ 0 ≤ (h.1 0 14) → am_W (X_Model_sums d) 12 [some (.ref 0), some (.int x1), none, none] [] h Q) : am_W (X_Model_sums d) 5 [some (.ref 0), some (.int x1), none, none] [] h Q :=
  am_aload_n d_Model_sums_5 rfl (i := 0) rfl <|
    am_getI (ci := 10) (i := 14) rfl rfl rfl (Nat.le_of_ble_eq_true rfl) w_1332 d_Model_sums_6 <|
    am_if_ge (tgt := 77) d_Model_sums_9 (by decide) kt kf
theorem b_Model_sums_12 {d : Nat} {x1 : Int32} {h : am_H} {Q : am_Q} (k : m_Model_byteAt d [.ref 0] h (fun r hh => am_W (X_Model_sums (d + 1)) 16 [some (.ref 0), some (.int x1), none, none] (r.toList ++ []) hh Q)) : am_W (X_Model_sums (d + 1)) 12 [some (.ref 0), some (.int x1), none, none] [] h Q :=
  am_aload_n d_Model_sums_12 rfl (i := 0) rfl <|
    am_callV (vs := []) (st := []) (k := 0) (ci := 10) rfl d_Model_sums_13 rfl rfl w_1531 w_1533 w_46 w_94 w_1534 p_Model_byteAt (Nat.le_of_ble_eq_true rfl) (Nat.le_of_ble_eq_true rfl) rfl k
theorem b_Model_sums_16 {d : Nat} {x1 : Int32} {y0 : Int32} {h : am_H} {Q : am_Q} (kt : y0 = 43 → am_W (X_Model_sums d) 30 [some (.ref 0), some (.int x1), none, none] [] h Q) (kf : ¬ y0 = 43 → am_W (X_Model_sums d) 21 [some (.ref 0), some (.int x1), none, none] [] h Q) : am_W (X_Model_sums d) 16 [some (.ref 0), some (.int x1), none, none] [.int y0] h Q :=
  am_bipush (v := 43) d_Model_sums_16 (by decide) <|
    am_icmp_eq (tgt := 30) d_Model_sums_18 (by decide) kt kf
theorem b_Model_sums_21 {d : Nat} {x1 : Int32} {h : am_H} {Q : am_Q} (k : m_Model_byteAt d [.ref 0] h (fun r hh => am_W (X_Model_sums (d + 1)) 25 [some (.ref 0), some (.int x1), none, none] (r.toList ++ []) hh Q)) : am_W (X_Model_sums (d + 1)) 21 [some (.ref 0), some (.int x1), none, none] [] h Q :=
  am_aload_n d_Model_sums_21 rfl (i := 0) rfl <|
    am_callV (vs := []) (st := []) (k := 0) (ci := 10) rfl d_Model_sums_22 rfl rfl w_1531 w_1533 w_46 w_94 w_1534 p_Model_byteAt (Nat.le_of_ble_eq_true rfl) (Nat.le_of_ble_eq_true rfl) rfl k
theorem b_Model_sums_25 {d : Nat} {x1 : Int32} {y0 : Int32} {h : am_H} {Q : am_Q} (kt : ¬ y0 = 45 → am_W (X_Model_sums d) 77 [some (.ref 0), some (.int x1), none, none] [] h Q) (kf : y0 = 45 → am_W (X_Model_sums d) 30 [some (.ref 0), some (.int x1), none, none] [] h Q) : am_W (X_Model_sums d) 25 [some (.ref 0), some (.int x1), none, none] [.int y0] h Q :=
  am_bipush (v := 45) d_Model_sums_25 (by decide) <|
    am_icmp_ne (tgt := 77) d_Model_sums_27 (by decide) kt kf
theorem b_Model_sums_30 {d : Nat} {x1 : Int32} {h : am_H} {Q : am_Q} (k : m_Model_byteAt d [.ref 0] h (fun r hh => am_W (X_Model_sums (d + 1)) 34 [some (.ref 0), some (.int x1), none, none] (r.toList ++ []) hh Q)) : am_W (X_Model_sums (d + 1)) 30 [some (.ref 0), some (.int x1), none, none] [] h Q :=
  am_aload_n d_Model_sums_30 rfl (i := 0) rfl <|
    am_callV (vs := []) (st := []) (k := 0) (ci := 10) rfl d_Model_sums_31 rfl rfl w_1531 w_1533 w_46 w_94 w_1534 p_Model_byteAt (Nat.le_of_ble_eq_true rfl) (Nat.le_of_ble_eq_true rfl) rfl k
theorem b_Model_sums_34 {d : Nat} {x1 : Int32} {y0 : Int32} {h : am_H} {Q : am_Q} (kt : ¬ y0 = 43 → am_W (X_Model_sums d) 43 [some (.ref 0), some (.int x1), none, none] [] h Q) (kf : y0 = 43 → am_W (X_Model_sums d) 39 [some (.ref 0), some (.int x1), none, none] [] h Q) : am_W (X_Model_sums d) 34 [some (.ref 0), some (.int x1), none, none] [.int y0] h Q :=
  am_bipush (v := 43) d_Model_sums_34 (by decide) <|
    am_icmp_ne (tgt := 43) d_Model_sums_36 (by decide) kt kf
theorem b_Model_sums_39 {d : Nat} {x1 : Int32} {h : am_H} {Q : am_Q} (k : am_W (X_Model_sums d) 44 [some (.ref 0), some (.int x1), none, none] [.int 1] h Q) : am_W (X_Model_sums d) 39 [some (.ref 0), some (.int x1), none, none] [] h Q :=
  am_iconst (v := 1) d_Model_sums_39 (by decide) <|
    am_goto (tgt := 44) d_Model_sums_40 (by decide) k
theorem b_Model_sums_43 {d : Nat} {x1 : Int32} {h : am_H} {Q : am_Q} (k : am_W (X_Model_sums d) 44 [some (.ref 0), some (.int x1), none, none] [.int 0] h Q) : am_W (X_Model_sums d) 43 [some (.ref 0), some (.int x1), none, none] [] h Q :=
  am_iconst (v := 0) d_Model_sums_43 (by decide) <|
    k
theorem b_Model_sums_44 {d : Nat} {x1 : Int32} {y0 : Int32} {h : am_H} {Q : am_Q} (k : m_Model_product d [.ref 0] (am_pI h 0 12 ((h.1 0 12) + 1)) (fun r hh => am_W (X_Model_sums (d + 1)) 59 [some (.ref 0), some (.int x1), some (.int y0), none] (r.toList ++ []) hh Q)) : am_W (X_Model_sums (d + 1)) 44 [some (.ref 0), some (.int x1), none, none] [.int y0] h Q :=
  am_istore_n (ls' := [some (.ref 0), some (.int x1), some (.int y0), none]) d_Model_sums_44 rfl (Nat.le_of_ble_eq_true rfl) rfl <|
    am_aload_n d_Model_sums_45 rfl (i := 0) rfl <|
    am_dupR d_Model_sums_46 <|
    am_getI (ci := 10) (i := 12) rfl rfl rfl (Nat.le_of_ble_eq_true rfl) w_1330 d_Model_sums_47 <|
    am_iconst (v := 1) d_Model_sums_50 (by decide) <|
    am_iadd d_Model_sums_51 <|
    am_putI (ci := 10) (i := 12) rfl rfl rfl (Nat.le_of_ble_eq_true rfl) w_1330 rfl rfl rfl d_Model_sums_52 <|
    am_aload_n d_Model_sums_55 rfl (i := 0) rfl <|
    am_callV (vs := []) (st := []) (k := 0) (ci := 10) rfl d_Model_sums_56 rfl rfl w_1523 w_1525 w_44 w_94 w_1526 p_Model_product (Nat.le_of_ble_eq_true rfl) (Nat.le_of_ble_eq_true rfl) rfl k
theorem b_Model_sums_59 {d : Nat} {x1 : Int32} {x2 : Int32} {y0 : Int32} {h : am_H} {Q : am_Q} (kt : x2 = 0 → am_W (X_Model_sums d) 70 [some (.ref 0), some (.int x1), some (.int x2), some (.int y0)] [] h Q) (kf : ¬ x2 = 0 → am_W (X_Model_sums d) 64 [some (.ref 0), some (.int x1), some (.int x2), some (.int y0)] [] h Q) : am_W (X_Model_sums d) 59 [some (.ref 0), some (.int x1), some (.int x2), none] [.int y0] h Q :=
  am_istore_n (ls' := [some (.ref 0), some (.int x1), some (.int x2), some (.int y0)]) d_Model_sums_59 rfl (Nat.le_of_ble_eq_true rfl) rfl <|
    am_iload_n d_Model_sums_60 rfl (i := 2) rfl <|
    am_if_eq (tgt := 70) d_Model_sums_61 (by decide) kt kf
theorem b_Model_sums_64 {d : Nat} {x1 : Int32} {x2 : Int32} {x3 : Int32} {h : am_H} {Q : am_Q} (k : am_W (X_Model_sums d) 73 [some (.ref 0), some (.int x1), some (.int x2), some (.int x3)] [.int (x1 + x3)] h Q) : am_W (X_Model_sums d) 64 [some (.ref 0), some (.int x1), some (.int x2), some (.int x3)] [] h Q :=
  am_iload_n d_Model_sums_64 rfl (i := 1) rfl <|
    am_iload_n d_Model_sums_65 rfl (i := 3) rfl <|
    am_iadd d_Model_sums_66 <|
    am_goto (tgt := 73) d_Model_sums_67 (by decide) k
theorem b_Model_sums_70 {d : Nat} {x1 : Int32} {x2 : Int32} {x3 : Int32} {h : am_H} {Q : am_Q} (k : am_W (X_Model_sums d) 73 [some (.ref 0), some (.int x1), some (.int x2), some (.int x3)] [.int (x1 - x3)] h Q) : am_W (X_Model_sums d) 70 [some (.ref 0), some (.int x1), some (.int x2), some (.int x3)] [] h Q :=
  am_iload_n d_Model_sums_70 rfl (i := 1) rfl <|
    am_iload_n d_Model_sums_71 rfl (i := 3) rfl <|
    am_isub d_Model_sums_72 <|
    k
theorem b_Model_sums_73 {d : Nat} {x1 : Int32} {x2 : Int32} {x3 : Int32} {y0 : Int32} {h : am_H} {Q : am_Q} (k : am_W (X_Model_sums d) 5 [some (.ref 0), some (.int y0), some (.int x2), some (.int x3)] [] h Q) : am_W (X_Model_sums d) 73 [some (.ref 0), some (.int x1), some (.int x2), some (.int x3)] [.int y0] h Q :=
  am_istore_n (ls' := [some (.ref 0), some (.int y0), some (.int x2), some (.int x3)]) d_Model_sums_73 rfl (Nat.le_of_ble_eq_true rfl) rfl <|
    am_goto (tgt := 5) d_Model_sums_74 (by decide) k
theorem b_Model_sums_77 {d : Nat} {x1 : Int32} {h : am_H} {Q : am_Q} (q : Q (some (.int x1)) h) : am_W (X_Model_sums d) 77 [some (.ref 0), some (.int x1), none, none] [] h Q :=
  am_iload_n d_Model_sums_77 rfl (i := 1) rfl <|
    am_iret rfl d_Model_sums_78 q
theorem t_Model_both_36 {d : Nat} {rc : rc_Model_both} {x1 : Int32} {h : am_H} {Q : am_Q} {res : Int32 × am_H} (hr0 : ∀  {h : am_H} {Q : am_Q} {res : Int32 × am_H}, rc.1 h = some res → Q (some (.int res.1)) res.2 → m_Model_both (d + 1) [.ref 0] h Q) (hr1 : ∀  {h : am_H} {Q : am_Q} {res : Int32 × am_H}, rc.2.1 h = some res → Q (some (.int res.1)) res.2 → m_Model_compared (d + 1) [.ref 0] h Q) (hr2 : ∀  {h : am_H} {Q : am_Q} {res : Int32 × am_H}, rc.2.2.1 h = some res → Q (some (.int res.1)) res.2 → m_Model_either (d + 1) [.ref 0] h Q) (hr3 : ∀  {h : am_H} {Q : am_Q} {res : Int32 × am_H}, rc.2.2.2.1 h = some res → Q (some (.int res.1)) res.2 → m_Model_one (d + 1) [.ref 0] h Q) (hr4 : ∀  {h : am_H} {Q : am_Q} {res : Int32 × am_H}, rc.2.2.2.2.1 h = some res → Q (some (.int res.1)) res.2 → m_Model_product (d + 1) [.ref 0] h Q) (hr5 : ∀  {h : am_H} {Q : am_Q} {res : Int32 × am_H}, rc.2.2.2.2.2 h = some res → Q (some (.int res.1)) res.2 → m_Model_sums (d + 1) [.ref 0] h Q) (e : f_Model_both_36 rc h x1 = some res) (q : Q (some (.int res.1)) res.2) : am_W (X_Model_both (d + 1 + 1)) 36 [some (.ref 0), some (.int x1), none] [] h Q :=
  b_Model_both_36 (d := (d + 1 + 1)) (q := (am_rIpi (v := x1) e q))
theorem t_Model_both_32 {d : Nat} {rc : rc_Model_both} {k5 : am_H → Int32 → Option (Int32 × am_H)} {x1 : Int32} {x2 : Int32} {y0 : Int32} {h : am_H} {Q : am_Q} {res : Int32 × am_H} (hr0 : ∀  {h : am_H} {Q : am_Q} {res : Int32 × am_H}, rc.1 h = some res → Q (some (.int res.1)) res.2 → m_Model_both (d + 1) [.ref 0] h Q) (hr1 : ∀  {h : am_H} {Q : am_Q} {res : Int32 × am_H}, rc.2.1 h = some res → Q (some (.int res.1)) res.2 → m_Model_compared (d + 1) [.ref 0] h Q) (hr2 : ∀  {h : am_H} {Q : am_Q} {res : Int32 × am_H}, rc.2.2.1 h = some res → Q (some (.int res.1)) res.2 → m_Model_either (d + 1) [.ref 0] h Q) (hr3 : ∀  {h : am_H} {Q : am_Q} {res : Int32 × am_H}, rc.2.2.2.1 h = some res → Q (some (.int res.1)) res.2 → m_Model_one (d + 1) [.ref 0] h Q) (hr4 : ∀  {h : am_H} {Q : am_Q} {res : Int32 × am_H}, rc.2.2.2.2.1 h = some res → Q (some (.int res.1)) res.2 → m_Model_product (d + 1) [.ref 0] h Q) (hr5 : ∀  {h : am_H} {Q : am_Q} {res : Int32 × am_H}, rc.2.2.2.2.2 h = some res → Q (some (.int res.1)) res.2 → m_Model_sums (d + 1) [.ref 0] h Q) (hk5 : ∀ (x1 : Int32) (h : am_H), k5 h x1 = some res → am_W (X_Model_both (d + 1 + 1)) 5 [some (.ref 0), some (.int x1), none] [] h Q) (e : f_Model_both_32 rc k5 h y0 = some res) (q : Q (some (.int res.1)) res.2) : am_W (X_Model_both (d + 1 + 1)) 32 [some (.ref 0), some (.int x1), some (.int x2)] [.int y0] h Q :=
  b_Model_both_32 (d := (d + 1 + 1)) (k := (am_wk2 (hk5 _ _ e) ⟨rfl, ⟨rfl, trivial⟩⟩))
theorem t_Model_both_31 {d : Nat} {rc : rc_Model_both} {k5 : am_H → Int32 → Option (Int32 × am_H)} {x1 : Int32} {x2 : Int32} {h : am_H} {Q : am_Q} {res : Int32 × am_H} (hr0 : ∀  {h : am_H} {Q : am_Q} {res : Int32 × am_H}, rc.1 h = some res → Q (some (.int res.1)) res.2 → m_Model_both (d + 1) [.ref 0] h Q) (hr1 : ∀  {h : am_H} {Q : am_Q} {res : Int32 × am_H}, rc.2.1 h = some res → Q (some (.int res.1)) res.2 → m_Model_compared (d + 1) [.ref 0] h Q) (hr2 : ∀  {h : am_H} {Q : am_Q} {res : Int32 × am_H}, rc.2.2.1 h = some res → Q (some (.int res.1)) res.2 → m_Model_either (d + 1) [.ref 0] h Q) (hr3 : ∀  {h : am_H} {Q : am_Q} {res : Int32 × am_H}, rc.2.2.2.1 h = some res → Q (some (.int res.1)) res.2 → m_Model_one (d + 1) [.ref 0] h Q) (hr4 : ∀  {h : am_H} {Q : am_Q} {res : Int32 × am_H}, rc.2.2.2.2.1 h = some res → Q (some (.int res.1)) res.2 → m_Model_product (d + 1) [.ref 0] h Q) (hr5 : ∀  {h : am_H} {Q : am_Q} {res : Int32 × am_H}, rc.2.2.2.2.2 h = some res → Q (some (.int res.1)) res.2 → m_Model_sums (d + 1) [.ref 0] h Q) (hk5 : ∀ (x1 : Int32) (h : am_H), k5 h x1 = some res → am_W (X_Model_both (d + 1 + 1)) 5 [some (.ref 0), some (.int x1), none] [] h Q) (e : f_Model_both_31 rc k5 h = some res) (q : Q (some (.int res.1)) res.2) : am_W (X_Model_both (d + 1 + 1)) 31 [some (.ref 0), some (.int x1), some (.int x2)] [] h Q :=
  b_Model_both_31 (d := (d + 1 + 1)) (k := (t_Model_both_32 hr0 hr1 hr2 hr3 hr4 hr5 hk5 e q))
theorem t_Model_both_27 {d : Nat} {rc : rc_Model_both} {k5 : am_H → Int32 → Option (Int32 × am_H)} {x1 : Int32} {x2 : Int32} {h : am_H} {Q : am_Q} {res : Int32 × am_H} (hr0 : ∀  {h : am_H} {Q : am_Q} {res : Int32 × am_H}, rc.1 h = some res → Q (some (.int res.1)) res.2 → m_Model_both (d + 1) [.ref 0] h Q) (hr1 : ∀  {h : am_H} {Q : am_Q} {res : Int32 × am_H}, rc.2.1 h = some res → Q (some (.int res.1)) res.2 → m_Model_compared (d + 1) [.ref 0] h Q) (hr2 : ∀  {h : am_H} {Q : am_Q} {res : Int32 × am_H}, rc.2.2.1 h = some res → Q (some (.int res.1)) res.2 → m_Model_either (d + 1) [.ref 0] h Q) (hr3 : ∀  {h : am_H} {Q : am_Q} {res : Int32 × am_H}, rc.2.2.2.1 h = some res → Q (some (.int res.1)) res.2 → m_Model_one (d + 1) [.ref 0] h Q) (hr4 : ∀  {h : am_H} {Q : am_Q} {res : Int32 × am_H}, rc.2.2.2.2.1 h = some res → Q (some (.int res.1)) res.2 → m_Model_product (d + 1) [.ref 0] h Q) (hr5 : ∀  {h : am_H} {Q : am_Q} {res : Int32 × am_H}, rc.2.2.2.2.2 h = some res → Q (some (.int res.1)) res.2 → m_Model_sums (d + 1) [.ref 0] h Q) (hk5 : ∀ (x1 : Int32) (h : am_H), k5 h x1 = some res → am_W (X_Model_both (d + 1 + 1)) 5 [some (.ref 0), some (.int x1), none] [] h Q) (e : f_Model_both_27 rc k5 h = some res) (q : Q (some (.int res.1)) res.2) : am_W (X_Model_both (d + 1 + 1)) 27 [some (.ref 0), some (.int x1), some (.int x2)] [] h Q :=
  b_Model_both_27 (d := (d + 1 + 1)) (k := (t_Model_both_32 hr0 hr1 hr2 hr3 hr4 hr5 hk5 e q))
theorem t_Model_both_23 {d : Nat} {rc : rc_Model_both} {k5 : am_H → Int32 → Option (Int32 × am_H)} {x1 : Int32} {x2 : Int32} {h : am_H} {Q : am_Q} {res : Int32 × am_H} (hr0 : ∀  {h : am_H} {Q : am_Q} {res : Int32 × am_H}, rc.1 h = some res → Q (some (.int res.1)) res.2 → m_Model_both (d + 1) [.ref 0] h Q) (hr1 : ∀  {h : am_H} {Q : am_Q} {res : Int32 × am_H}, rc.2.1 h = some res → Q (some (.int res.1)) res.2 → m_Model_compared (d + 1) [.ref 0] h Q) (hr2 : ∀  {h : am_H} {Q : am_Q} {res : Int32 × am_H}, rc.2.2.1 h = some res → Q (some (.int res.1)) res.2 → m_Model_either (d + 1) [.ref 0] h Q) (hr3 : ∀  {h : am_H} {Q : am_Q} {res : Int32 × am_H}, rc.2.2.2.1 h = some res → Q (some (.int res.1)) res.2 → m_Model_one (d + 1) [.ref 0] h Q) (hr4 : ∀  {h : am_H} {Q : am_Q} {res : Int32 × am_H}, rc.2.2.2.2.1 h = some res → Q (some (.int res.1)) res.2 → m_Model_product (d + 1) [.ref 0] h Q) (hr5 : ∀  {h : am_H} {Q : am_Q} {res : Int32 × am_H}, rc.2.2.2.2.2 h = some res → Q (some (.int res.1)) res.2 → m_Model_sums (d + 1) [.ref 0] h Q) (hk5 : ∀ (x1 : Int32) (h : am_H), k5 h x1 = some res → am_W (X_Model_both (d + 1 + 1)) 5 [some (.ref 0), some (.int x1), none] [] h Q) (e : f_Model_both_23 rc k5 h x2 = some res) (q : Q (some (.int res.1)) res.2) : am_W (X_Model_both (d + 1 + 1)) 23 [some (.ref 0), some (.int x1), some (.int x2)] [] h Q :=
  b_Model_both_23 (d := (d + 1 + 1)) (kt := fun c => (t_Model_both_31 hr0 hr1 hr2 hr3 hr4 hr5 hk5 (am_ift e c) q)) (kf := fun c => (t_Model_both_27 hr0 hr1 hr2 hr3 hr4 hr5 hk5 (am_ife e c) q))
theorem t_Model_both_18 {d : Nat} {rc : rc_Model_both} {k5 : am_H → Int32 → Option (Int32 × am_H)} {x1 : Int32} {y0 : Int32} {h : am_H} {Q : am_Q} {res : Int32 × am_H} (hr0 : ∀  {h : am_H} {Q : am_Q} {res : Int32 × am_H}, rc.1 h = some res → Q (some (.int res.1)) res.2 → m_Model_both (d + 1) [.ref 0] h Q) (hr1 : ∀  {h : am_H} {Q : am_Q} {res : Int32 × am_H}, rc.2.1 h = some res → Q (some (.int res.1)) res.2 → m_Model_compared (d + 1) [.ref 0] h Q) (hr2 : ∀  {h : am_H} {Q : am_Q} {res : Int32 × am_H}, rc.2.2.1 h = some res → Q (some (.int res.1)) res.2 → m_Model_either (d + 1) [.ref 0] h Q) (hr3 : ∀  {h : am_H} {Q : am_Q} {res : Int32 × am_H}, rc.2.2.2.1 h = some res → Q (some (.int res.1)) res.2 → m_Model_one (d + 1) [.ref 0] h Q) (hr4 : ∀  {h : am_H} {Q : am_Q} {res : Int32 × am_H}, rc.2.2.2.2.1 h = some res → Q (some (.int res.1)) res.2 → m_Model_product (d + 1) [.ref 0] h Q) (hr5 : ∀  {h : am_H} {Q : am_Q} {res : Int32 × am_H}, rc.2.2.2.2.2 h = some res → Q (some (.int res.1)) res.2 → m_Model_sums (d + 1) [.ref 0] h Q) (hk5 : ∀ (x1 : Int32) (h : am_H), k5 h x1 = some res → am_W (X_Model_both (d + 1 + 1)) 5 [some (.ref 0), some (.int x1), none] [] h Q) (e : f_Model_both_18 rc k5 h x1 y0 = some res) (q : Q (some (.int res.1)) res.2) : am_W (X_Model_both (d + 1 + 1)) 18 [some (.ref 0), some (.int x1), none] [.int y0] h Q :=
  b_Model_both_18 (d := (d + 1 + 1)) (kt := fun c => (t_Model_both_31 hr0 hr1 hr2 hr3 hr4 hr5 hk5 (am_ift e c) q)) (kf := fun c => (t_Model_both_23 hr0 hr1 hr2 hr3 hr4 hr5 hk5 (am_ife e c) q))
theorem t_Model_both_14 {d : Nat} {rc : rc_Model_both} {k5 : am_H → Int32 → Option (Int32 × am_H)} {x1 : Int32} {h : am_H} {Q : am_Q} {res : Int32 × am_H} (hr0 : ∀  {h : am_H} {Q : am_Q} {res : Int32 × am_H}, rc.1 h = some res → Q (some (.int res.1)) res.2 → m_Model_both (d + 1) [.ref 0] h Q) (hr1 : ∀  {h : am_H} {Q : am_Q} {res : Int32 × am_H}, rc.2.1 h = some res → Q (some (.int res.1)) res.2 → m_Model_compared (d + 1) [.ref 0] h Q) (hr2 : ∀  {h : am_H} {Q : am_Q} {res : Int32 × am_H}, rc.2.2.1 h = some res → Q (some (.int res.1)) res.2 → m_Model_either (d + 1) [.ref 0] h Q) (hr3 : ∀  {h : am_H} {Q : am_Q} {res : Int32 × am_H}, rc.2.2.2.1 h = some res → Q (some (.int res.1)) res.2 → m_Model_one (d + 1) [.ref 0] h Q) (hr4 : ∀  {h : am_H} {Q : am_Q} {res : Int32 × am_H}, rc.2.2.2.2.1 h = some res → Q (some (.int res.1)) res.2 → m_Model_product (d + 1) [.ref 0] h Q) (hr5 : ∀  {h : am_H} {Q : am_Q} {res : Int32 × am_H}, rc.2.2.2.2.2 h = some res → Q (some (.int res.1)) res.2 → m_Model_sums (d + 1) [.ref 0] h Q) (hk5 : ∀ (x1 : Int32) (h : am_H), k5 h x1 = some res → am_W (X_Model_both (d + 1 + 1)) 5 [some (.ref 0), some (.int x1), none] [] h Q) (e : f_Model_both_14 rc k5 h x1 = some res) (q : Q (some (.int res.1)) res.2) : am_W (X_Model_both (d + 1 + 1)) 14 [some (.ref 0), some (.int x1), none] [] h Q :=
  (am_bd e).elim fun p hp => b_Model_both_14 (d := (d + 1)) (k := hr1 hp.1 (t_Model_both_18 hr0 hr1 hr2 hr3 hr4 hr5 hk5 hp.2 q))
theorem t_Model_both_11 {d : Nat} {rc : rc_Model_both} {k5 : am_H → Int32 → Option (Int32 × am_H)} {x1 : Int32} {y0 : Bool} {h : am_H} {Q : am_Q} {res : Int32 × am_H} (hr0 : ∀  {h : am_H} {Q : am_Q} {res : Int32 × am_H}, rc.1 h = some res → Q (some (.int res.1)) res.2 → m_Model_both (d + 1) [.ref 0] h Q) (hr1 : ∀  {h : am_H} {Q : am_Q} {res : Int32 × am_H}, rc.2.1 h = some res → Q (some (.int res.1)) res.2 → m_Model_compared (d + 1) [.ref 0] h Q) (hr2 : ∀  {h : am_H} {Q : am_Q} {res : Int32 × am_H}, rc.2.2.1 h = some res → Q (some (.int res.1)) res.2 → m_Model_either (d + 1) [.ref 0] h Q) (hr3 : ∀  {h : am_H} {Q : am_Q} {res : Int32 × am_H}, rc.2.2.2.1 h = some res → Q (some (.int res.1)) res.2 → m_Model_one (d + 1) [.ref 0] h Q) (hr4 : ∀  {h : am_H} {Q : am_Q} {res : Int32 × am_H}, rc.2.2.2.2.1 h = some res → Q (some (.int res.1)) res.2 → m_Model_product (d + 1) [.ref 0] h Q) (hr5 : ∀  {h : am_H} {Q : am_Q} {res : Int32 × am_H}, rc.2.2.2.2.2 h = some res → Q (some (.int res.1)) res.2 → m_Model_sums (d + 1) [.ref 0] h Q) (hk5 : ∀ (x1 : Int32) (h : am_H), k5 h x1 = some res → am_W (X_Model_both (d + 1 + 1)) 5 [some (.ref 0), some (.int x1), none] [] h Q) (e : f_Model_both_11 rc k5 h x1 y0 = some res) (q : Q (some (.int res.1)) res.2) : am_W (X_Model_both (d + 1 + 1)) 11 [some (.ref 0), some (.int x1), none] [.int (am_b y0)] h Q :=
  b_Model_both_11 (d := (d + 1 + 1)) (kt := fun c => (t_Model_both_36 hr0 hr1 hr2 hr3 hr4 hr5 (am_iff e (am_bz c)) q)) (kf := fun c => (t_Model_both_14 hr0 hr1 hr2 hr3 hr4 hr5 hk5 (am_ift e (am_bn c)) q))
theorem t_Model_both_5 {d : Nat} {rc : rc_Model_both} {k5 : am_H → Int32 → Option (Int32 × am_H)} {x1 : Int32} {h : am_H} {Q : am_Q} {res : Int32 × am_H} (hr0 : ∀  {h : am_H} {Q : am_Q} {res : Int32 × am_H}, rc.1 h = some res → Q (some (.int res.1)) res.2 → m_Model_both (d + 1) [.ref 0] h Q) (hr1 : ∀  {h : am_H} {Q : am_Q} {res : Int32 × am_H}, rc.2.1 h = some res → Q (some (.int res.1)) res.2 → m_Model_compared (d + 1) [.ref 0] h Q) (hr2 : ∀  {h : am_H} {Q : am_Q} {res : Int32 × am_H}, rc.2.2.1 h = some res → Q (some (.int res.1)) res.2 → m_Model_either (d + 1) [.ref 0] h Q) (hr3 : ∀  {h : am_H} {Q : am_Q} {res : Int32 × am_H}, rc.2.2.2.1 h = some res → Q (some (.int res.1)) res.2 → m_Model_one (d + 1) [.ref 0] h Q) (hr4 : ∀  {h : am_H} {Q : am_Q} {res : Int32 × am_H}, rc.2.2.2.2.1 h = some res → Q (some (.int res.1)) res.2 → m_Model_product (d + 1) [.ref 0] h Q) (hr5 : ∀  {h : am_H} {Q : am_Q} {res : Int32 × am_H}, rc.2.2.2.2.2 h = some res → Q (some (.int res.1)) res.2 → m_Model_sums (d + 1) [.ref 0] h Q) (hk5 : ∀ (x1 : Int32) (h : am_H), k5 h x1 = some res → am_W (X_Model_both (d + 1 + 1)) 5 [some (.ref 0), some (.int x1), none] [] h Q) (e : f_Model_both_5 rc k5 h x1 = some res) (q : Q (some (.int res.1)) res.2) : am_W (X_Model_both (d + 1 + 1)) 5 [some (.ref 0), some (.int x1), none] [] h Q :=
  (am_bd e).elim fun p hp => b_Model_both_5 (d := (d + 1)) (k := c_Model_takes (d := d) hp.1 (t_Model_both_11 hr0 hr1 hr2 hr3 hr4 hr5 hk5 hp.2 q))
theorem t_Model_both_5_l {d : Nat} {rc : rc_Model_both} {Q : am_Q} {res : Int32 × am_H} (hr0 : ∀  {h : am_H} {Q : am_Q} {res : Int32 × am_H}, rc.1 h = some res → Q (some (.int res.1)) res.2 → m_Model_both (d + 1) [.ref 0] h Q) (hr1 : ∀  {h : am_H} {Q : am_Q} {res : Int32 × am_H}, rc.2.1 h = some res → Q (some (.int res.1)) res.2 → m_Model_compared (d + 1) [.ref 0] h Q) (hr2 : ∀  {h : am_H} {Q : am_Q} {res : Int32 × am_H}, rc.2.2.1 h = some res → Q (some (.int res.1)) res.2 → m_Model_either (d + 1) [.ref 0] h Q) (hr3 : ∀  {h : am_H} {Q : am_Q} {res : Int32 × am_H}, rc.2.2.2.1 h = some res → Q (some (.int res.1)) res.2 → m_Model_one (d + 1) [.ref 0] h Q) (hr4 : ∀  {h : am_H} {Q : am_Q} {res : Int32 × am_H}, rc.2.2.2.2.1 h = some res → Q (some (.int res.1)) res.2 → m_Model_product (d + 1) [.ref 0] h Q) (hr5 : ∀  {h : am_H} {Q : am_Q} {res : Int32 × am_H}, rc.2.2.2.2.2 h = some res → Q (some (.int res.1)) res.2 → m_Model_sums (d + 1) [.ref 0] h Q) (q : Q (some (.int res.1)) res.2) : ∀ (n : Nat) (x1 : Int32) (h : am_H), f_Model_both_5_l rc n h x1 = some res → am_W (X_Model_both (d + 1 + 1)) 5 [some (.ref 0), some (.int x1), none] [] h Q := by
  intro n
  induction n with
  | zero => intro x1 h e; exact am_nn e
  | succ n ih => intro x1 h e; exact t_Model_both_5 hr0 hr1 hr2 hr3 hr4 hr5 (fun x1 h e => ih x1 h  e) e q
theorem t_Model_both_4 {d : Nat} {rc : rc_Model_both} {y0 : Int32} {h : am_H} {Q : am_Q} {res : Int32 × am_H} (hr0 : ∀  {h : am_H} {Q : am_Q} {res : Int32 × am_H}, rc.1 h = some res → Q (some (.int res.1)) res.2 → m_Model_both (d + 1) [.ref 0] h Q) (hr1 : ∀  {h : am_H} {Q : am_Q} {res : Int32 × am_H}, rc.2.1 h = some res → Q (some (.int res.1)) res.2 → m_Model_compared (d + 1) [.ref 0] h Q) (hr2 : ∀  {h : am_H} {Q : am_Q} {res : Int32 × am_H}, rc.2.2.1 h = some res → Q (some (.int res.1)) res.2 → m_Model_either (d + 1) [.ref 0] h Q) (hr3 : ∀  {h : am_H} {Q : am_Q} {res : Int32 × am_H}, rc.2.2.2.1 h = some res → Q (some (.int res.1)) res.2 → m_Model_one (d + 1) [.ref 0] h Q) (hr4 : ∀  {h : am_H} {Q : am_Q} {res : Int32 × am_H}, rc.2.2.2.2.1 h = some res → Q (some (.int res.1)) res.2 → m_Model_product (d + 1) [.ref 0] h Q) (hr5 : ∀  {h : am_H} {Q : am_Q} {res : Int32 × am_H}, rc.2.2.2.2.2 h = some res → Q (some (.int res.1)) res.2 → m_Model_sums (d + 1) [.ref 0] h Q) (e : f_Model_both_4 rc h y0 = some res) (q : Q (some (.int res.1)) res.2) : am_W (X_Model_both (d + 1 + 1)) 4 [some (.ref 0), none, none] [.int y0] h Q :=
  b_Model_both_4 (d := (d + 1 + 1)) (k := (t_Model_both_5_l hr0 hr1 hr2 hr3 hr4 hr5 q am_fu _ _ e))
theorem t_Model_both_0 {d : Nat} {rc : rc_Model_both} {h : am_H} {Q : am_Q} {res : Int32 × am_H} (hr0 : ∀  {h : am_H} {Q : am_Q} {res : Int32 × am_H}, rc.1 h = some res → Q (some (.int res.1)) res.2 → m_Model_both (d + 1) [.ref 0] h Q) (hr1 : ∀  {h : am_H} {Q : am_Q} {res : Int32 × am_H}, rc.2.1 h = some res → Q (some (.int res.1)) res.2 → m_Model_compared (d + 1) [.ref 0] h Q) (hr2 : ∀  {h : am_H} {Q : am_Q} {res : Int32 × am_H}, rc.2.2.1 h = some res → Q (some (.int res.1)) res.2 → m_Model_either (d + 1) [.ref 0] h Q) (hr3 : ∀  {h : am_H} {Q : am_Q} {res : Int32 × am_H}, rc.2.2.2.1 h = some res → Q (some (.int res.1)) res.2 → m_Model_one (d + 1) [.ref 0] h Q) (hr4 : ∀  {h : am_H} {Q : am_Q} {res : Int32 × am_H}, rc.2.2.2.2.1 h = some res → Q (some (.int res.1)) res.2 → m_Model_product (d + 1) [.ref 0] h Q) (hr5 : ∀  {h : am_H} {Q : am_Q} {res : Int32 × am_H}, rc.2.2.2.2.2 h = some res → Q (some (.int res.1)) res.2 → m_Model_sums (d + 1) [.ref 0] h Q) (e : f_Model_both_0 rc h = some res) (q : Q (some (.int res.1)) res.2) : am_W (X_Model_both (d + 1 + 1)) 0 [some (.ref 0), none, none] [] h Q :=
  (am_bd e).elim fun p hp => b_Model_both_0 (d := (d + 1)) (k := hr1 hp.1 (t_Model_both_4 hr0 hr1 hr2 hr3 hr4 hr5 hp.2 q))
theorem t_Model_compared_35 {d : Nat} {rc : rc_Model_both} {x1 : Int32} {x2 : Int32} {h : am_H} {Q : am_Q} {res : Int32 × am_H} (hr0 : ∀  {h : am_H} {Q : am_Q} {res : Int32 × am_H}, rc.1 h = some res → Q (some (.int res.1)) res.2 → m_Model_both (d + 1) [.ref 0] h Q) (hr1 : ∀  {h : am_H} {Q : am_Q} {res : Int32 × am_H}, rc.2.1 h = some res → Q (some (.int res.1)) res.2 → m_Model_compared (d + 1) [.ref 0] h Q) (hr2 : ∀  {h : am_H} {Q : am_Q} {res : Int32 × am_H}, rc.2.2.1 h = some res → Q (some (.int res.1)) res.2 → m_Model_either (d + 1) [.ref 0] h Q) (hr3 : ∀  {h : am_H} {Q : am_Q} {res : Int32 × am_H}, rc.2.2.2.1 h = some res → Q (some (.int res.1)) res.2 → m_Model_one (d + 1) [.ref 0] h Q) (hr4 : ∀  {h : am_H} {Q : am_Q} {res : Int32 × am_H}, rc.2.2.2.2.1 h = some res → Q (some (.int res.1)) res.2 → m_Model_product (d + 1) [.ref 0] h Q) (hr5 : ∀  {h : am_H} {Q : am_Q} {res : Int32 × am_H}, rc.2.2.2.2.2 h = some res → Q (some (.int res.1)) res.2 → m_Model_sums (d + 1) [.ref 0] h Q) (e : f_Model_compared_35 rc h x1 = some res) (q : Q (some (.int res.1)) res.2) : am_W (X_Model_compared (d + 1 + 1)) 35 [some (.ref 0), some (.int x1), some (.int x2), none] [] h Q :=
  b_Model_compared_35 (d := (d + 1 + 1)) (q := (am_rIpi (v := x1) e q))
theorem t_Model_compared_89 {d : Nat} {rc : rc_Model_both} {x1 : Int32} {x2 : Int32} {x3 : Int32} {h : am_H} {Q : am_Q} {res : Int32 × am_H} (hr0 : ∀  {h : am_H} {Q : am_Q} {res : Int32 × am_H}, rc.1 h = some res → Q (some (.int res.1)) res.2 → m_Model_both (d + 1) [.ref 0] h Q) (hr1 : ∀  {h : am_H} {Q : am_Q} {res : Int32 × am_H}, rc.2.1 h = some res → Q (some (.int res.1)) res.2 → m_Model_compared (d + 1) [.ref 0] h Q) (hr2 : ∀  {h : am_H} {Q : am_Q} {res : Int32 × am_H}, rc.2.2.1 h = some res → Q (some (.int res.1)) res.2 → m_Model_either (d + 1) [.ref 0] h Q) (hr3 : ∀  {h : am_H} {Q : am_Q} {res : Int32 × am_H}, rc.2.2.2.1 h = some res → Q (some (.int res.1)) res.2 → m_Model_one (d + 1) [.ref 0] h Q) (hr4 : ∀  {h : am_H} {Q : am_Q} {res : Int32 × am_H}, rc.2.2.2.2.1 h = some res → Q (some (.int res.1)) res.2 → m_Model_product (d + 1) [.ref 0] h Q) (hr5 : ∀  {h : am_H} {Q : am_Q} {res : Int32 × am_H}, rc.2.2.2.2.2 h = some res → Q (some (.int res.1)) res.2 → m_Model_sums (d + 1) [.ref 0] h Q) (e : f_Model_compared_89 rc h = some res) (q : Q (some (.int res.1)) res.2) : am_W (X_Model_compared (d + 1 + 1)) 89 [some (.ref 0), some (.int x1), some (.int x2), some (.int x3)] [] h Q :=
  b_Model_compared_89 (d := (d + 1 + 1)) (q := (am_rIpi (v := 0) e q))
theorem t_Model_compared_85 {d : Nat} {rc : rc_Model_both} {x1 : Int32} {x2 : Int32} {x3 : Int32} {h : am_H} {Q : am_Q} {res : Int32 × am_H} (hr0 : ∀  {h : am_H} {Q : am_Q} {res : Int32 × am_H}, rc.1 h = some res → Q (some (.int res.1)) res.2 → m_Model_both (d + 1) [.ref 0] h Q) (hr1 : ∀  {h : am_H} {Q : am_Q} {res : Int32 × am_H}, rc.2.1 h = some res → Q (some (.int res.1)) res.2 → m_Model_compared (d + 1) [.ref 0] h Q) (hr2 : ∀  {h : am_H} {Q : am_Q} {res : Int32 × am_H}, rc.2.2.1 h = some res → Q (some (.int res.1)) res.2 → m_Model_either (d + 1) [.ref 0] h Q) (hr3 : ∀  {h : am_H} {Q : am_Q} {res : Int32 × am_H}, rc.2.2.2.1 h = some res → Q (some (.int res.1)) res.2 → m_Model_one (d + 1) [.ref 0] h Q) (hr4 : ∀  {h : am_H} {Q : am_Q} {res : Int32 × am_H}, rc.2.2.2.2.1 h = some res → Q (some (.int res.1)) res.2 → m_Model_product (d + 1) [.ref 0] h Q) (hr5 : ∀  {h : am_H} {Q : am_Q} {res : Int32 × am_H}, rc.2.2.2.2.2 h = some res → Q (some (.int res.1)) res.2 → m_Model_sums (d + 1) [.ref 0] h Q) (e : f_Model_compared_85 rc h = some res) (q : Q (some (.int res.1)) res.2) : am_W (X_Model_compared (d + 1 + 1)) 85 [some (.ref 0), some (.int x1), some (.int x2), some (.int x3)] [] h Q :=
  b_Model_compared_85 (d := (d + 1 + 1)) (q := (am_rIpi (v := 1) e q))
theorem t_Model_compared_80 {d : Nat} {rc : rc_Model_both} {x1 : Int32} {x2 : Int32} {x3 : Int32} {h : am_H} {Q : am_Q} {res : Int32 × am_H} (hr0 : ∀  {h : am_H} {Q : am_Q} {res : Int32 × am_H}, rc.1 h = some res → Q (some (.int res.1)) res.2 → m_Model_both (d + 1) [.ref 0] h Q) (hr1 : ∀  {h : am_H} {Q : am_Q} {res : Int32 × am_H}, rc.2.1 h = some res → Q (some (.int res.1)) res.2 → m_Model_compared (d + 1) [.ref 0] h Q) (hr2 : ∀  {h : am_H} {Q : am_Q} {res : Int32 × am_H}, rc.2.2.1 h = some res → Q (some (.int res.1)) res.2 → m_Model_either (d + 1) [.ref 0] h Q) (hr3 : ∀  {h : am_H} {Q : am_Q} {res : Int32 × am_H}, rc.2.2.2.1 h = some res → Q (some (.int res.1)) res.2 → m_Model_one (d + 1) [.ref 0] h Q) (hr4 : ∀  {h : am_H} {Q : am_Q} {res : Int32 × am_H}, rc.2.2.2.2.1 h = some res → Q (some (.int res.1)) res.2 → m_Model_product (d + 1) [.ref 0] h Q) (hr5 : ∀  {h : am_H} {Q : am_Q} {res : Int32 × am_H}, rc.2.2.2.2.2 h = some res → Q (some (.int res.1)) res.2 → m_Model_sums (d + 1) [.ref 0] h Q) (e : f_Model_compared_80 rc h x1 x3 = some res) (q : Q (some (.int res.1)) res.2) : am_W (X_Model_compared (d + 1 + 1)) 80 [some (.ref 0), some (.int x1), some (.int x2), some (.int x3)] [] h Q :=
  b_Model_compared_80 (d := (d + 1 + 1)) (kt := fun c => (t_Model_compared_89 hr0 hr1 hr2 hr3 hr4 hr5 (am_ift e c) q)) (kf := fun c => (t_Model_compared_85 hr0 hr1 hr2 hr3 hr4 hr5 (am_ife e c) q))
theorem t_Model_compared_77 {d : Nat} {rc : rc_Model_both} {x1 : Int32} {x2 : Int32} {x3 : Int32} {h : am_H} {Q : am_Q} {res : Int32 × am_H} (hr0 : ∀  {h : am_H} {Q : am_Q} {res : Int32 × am_H}, rc.1 h = some res → Q (some (.int res.1)) res.2 → m_Model_both (d + 1) [.ref 0] h Q) (hr1 : ∀  {h : am_H} {Q : am_Q} {res : Int32 × am_H}, rc.2.1 h = some res → Q (some (.int res.1)) res.2 → m_Model_compared (d + 1) [.ref 0] h Q) (hr2 : ∀  {h : am_H} {Q : am_Q} {res : Int32 × am_H}, rc.2.2.1 h = some res → Q (some (.int res.1)) res.2 → m_Model_either (d + 1) [.ref 0] h Q) (hr3 : ∀  {h : am_H} {Q : am_Q} {res : Int32 × am_H}, rc.2.2.2.1 h = some res → Q (some (.int res.1)) res.2 → m_Model_one (d + 1) [.ref 0] h Q) (hr4 : ∀  {h : am_H} {Q : am_Q} {res : Int32 × am_H}, rc.2.2.2.2.1 h = some res → Q (some (.int res.1)) res.2 → m_Model_product (d + 1) [.ref 0] h Q) (hr5 : ∀  {h : am_H} {Q : am_Q} {res : Int32 × am_H}, rc.2.2.2.2.2 h = some res → Q (some (.int res.1)) res.2 → m_Model_sums (d + 1) [.ref 0] h Q) (e : f_Model_compared_77 rc h = some res) (q : Q (some (.int res.1)) res.2) : am_W (X_Model_compared (d + 1 + 1)) 77 [some (.ref 0), some (.int x1), some (.int x2), some (.int x3)] [] h Q :=
  b_Model_compared_77 (d := (d + 1 + 1)) (k := (t_Model_compared_85 hr0 hr1 hr2 hr3 hr4 hr5 e q))
theorem t_Model_compared_72 {d : Nat} {rc : rc_Model_both} {x1 : Int32} {x2 : Int32} {x3 : Int32} {h : am_H} {Q : am_Q} {res : Int32 × am_H} (hr0 : ∀  {h : am_H} {Q : am_Q} {res : Int32 × am_H}, rc.1 h = some res → Q (some (.int res.1)) res.2 → m_Model_both (d + 1) [.ref 0] h Q) (hr1 : ∀  {h : am_H} {Q : am_Q} {res : Int32 × am_H}, rc.2.1 h = some res → Q (some (.int res.1)) res.2 → m_Model_compared (d + 1) [.ref 0] h Q) (hr2 : ∀  {h : am_H} {Q : am_Q} {res : Int32 × am_H}, rc.2.2.1 h = some res → Q (some (.int res.1)) res.2 → m_Model_either (d + 1) [.ref 0] h Q) (hr3 : ∀  {h : am_H} {Q : am_Q} {res : Int32 × am_H}, rc.2.2.2.1 h = some res → Q (some (.int res.1)) res.2 → m_Model_one (d + 1) [.ref 0] h Q) (hr4 : ∀  {h : am_H} {Q : am_Q} {res : Int32 × am_H}, rc.2.2.2.2.1 h = some res → Q (some (.int res.1)) res.2 → m_Model_product (d + 1) [.ref 0] h Q) (hr5 : ∀  {h : am_H} {Q : am_Q} {res : Int32 × am_H}, rc.2.2.2.2.2 h = some res → Q (some (.int res.1)) res.2 → m_Model_sums (d + 1) [.ref 0] h Q) (e : f_Model_compared_72 rc h x1 x3 = some res) (q : Q (some (.int res.1)) res.2) : am_W (X_Model_compared (d + 1 + 1)) 72 [some (.ref 0), some (.int x1), some (.int x2), some (.int x3)] [] h Q :=
  b_Model_compared_72 (d := (d + 1 + 1)) (kt := fun c => (t_Model_compared_89 hr0 hr1 hr2 hr3 hr4 hr5 (am_ife e c) q)) (kf := fun c => (t_Model_compared_77 hr0 hr1 hr2 hr3 hr4 hr5 (am_ift e c) q))
theorem t_Model_compared_66 {d : Nat} {rc : rc_Model_both} {x1 : Int32} {x2 : Int32} {x3 : Int32} {h : am_H} {Q : am_Q} {res : Int32 × am_H} (hr0 : ∀  {h : am_H} {Q : am_Q} {res : Int32 × am_H}, rc.1 h = some res → Q (some (.int res.1)) res.2 → m_Model_both (d + 1) [.ref 0] h Q) (hr1 : ∀  {h : am_H} {Q : am_Q} {res : Int32 × am_H}, rc.2.1 h = some res → Q (some (.int res.1)) res.2 → m_Model_compared (d + 1) [.ref 0] h Q) (hr2 : ∀  {h : am_H} {Q : am_Q} {res : Int32 × am_H}, rc.2.2.1 h = some res → Q (some (.int res.1)) res.2 → m_Model_either (d + 1) [.ref 0] h Q) (hr3 : ∀  {h : am_H} {Q : am_Q} {res : Int32 × am_H}, rc.2.2.2.1 h = some res → Q (some (.int res.1)) res.2 → m_Model_one (d + 1) [.ref 0] h Q) (hr4 : ∀  {h : am_H} {Q : am_Q} {res : Int32 × am_H}, rc.2.2.2.2.1 h = some res → Q (some (.int res.1)) res.2 → m_Model_product (d + 1) [.ref 0] h Q) (hr5 : ∀  {h : am_H} {Q : am_Q} {res : Int32 × am_H}, rc.2.2.2.2.2 h = some res → Q (some (.int res.1)) res.2 → m_Model_sums (d + 1) [.ref 0] h Q) (e : f_Model_compared_66 rc h x1 x2 x3 = some res) (q : Q (some (.int res.1)) res.2) : am_W (X_Model_compared (d + 1 + 1)) 66 [some (.ref 0), some (.int x1), some (.int x2), some (.int x3)] [] h Q :=
  b_Model_compared_66 (d := (d + 1 + 1)) (kt := fun c => (t_Model_compared_80 hr0 hr1 hr2 hr3 hr4 hr5 (am_ife e c) q)) (kf := fun c => (t_Model_compared_72 hr0 hr1 hr2 hr3 hr4 hr5 (am_ift e c) q))
theorem t_Model_compared_63 {d : Nat} {rc : rc_Model_both} {x1 : Int32} {x2 : Int32} {x3 : Int32} {h : am_H} {Q : am_Q} {res : Int32 × am_H} (hr0 : ∀  {h : am_H} {Q : am_Q} {res : Int32 × am_H}, rc.1 h = some res → Q (some (.int res.1)) res.2 → m_Model_both (d + 1) [.ref 0] h Q) (hr1 : ∀  {h : am_H} {Q : am_Q} {res : Int32 × am_H}, rc.2.1 h = some res → Q (some (.int res.1)) res.2 → m_Model_compared (d + 1) [.ref 0] h Q) (hr2 : ∀  {h : am_H} {Q : am_Q} {res : Int32 × am_H}, rc.2.2.1 h = some res → Q (some (.int res.1)) res.2 → m_Model_either (d + 1) [.ref 0] h Q) (hr3 : ∀  {h : am_H} {Q : am_Q} {res : Int32 × am_H}, rc.2.2.2.1 h = some res → Q (some (.int res.1)) res.2 → m_Model_one (d + 1) [.ref 0] h Q) (hr4 : ∀  {h : am_H} {Q : am_Q} {res : Int32 × am_H}, rc.2.2.2.2.1 h = some res → Q (some (.int res.1)) res.2 → m_Model_product (d + 1) [.ref 0] h Q) (hr5 : ∀  {h : am_H} {Q : am_Q} {res : Int32 × am_H}, rc.2.2.2.2.2 h = some res → Q (some (.int res.1)) res.2 → m_Model_sums (d + 1) [.ref 0] h Q) (e : f_Model_compared_63 rc h = some res) (q : Q (some (.int res.1)) res.2) : am_W (X_Model_compared (d + 1 + 1)) 63 [some (.ref 0), some (.int x1), some (.int x2), some (.int x3)] [] h Q :=
  b_Model_compared_63 (d := (d + 1 + 1)) (k := (t_Model_compared_85 hr0 hr1 hr2 hr3 hr4 hr5 e q))
theorem t_Model_compared_58 {d : Nat} {rc : rc_Model_both} {x1 : Int32} {x2 : Int32} {x3 : Int32} {h : am_H} {Q : am_Q} {res : Int32 × am_H} (hr0 : ∀  {h : am_H} {Q : am_Q} {res : Int32 × am_H}, rc.1 h = some res → Q (some (.int res.1)) res.2 → m_Model_both (d + 1) [.ref 0] h Q) (hr1 : ∀  {h : am_H} {Q : am_Q} {res : Int32 × am_H}, rc.2.1 h = some res → Q (some (.int res.1)) res.2 → m_Model_compared (d + 1) [.ref 0] h Q) (hr2 : ∀  {h : am_H} {Q : am_Q} {res : Int32 × am_H}, rc.2.2.1 h = some res → Q (some (.int res.1)) res.2 → m_Model_either (d + 1) [.ref 0] h Q) (hr3 : ∀  {h : am_H} {Q : am_Q} {res : Int32 × am_H}, rc.2.2.2.1 h = some res → Q (some (.int res.1)) res.2 → m_Model_one (d + 1) [.ref 0] h Q) (hr4 : ∀  {h : am_H} {Q : am_Q} {res : Int32 × am_H}, rc.2.2.2.2.1 h = some res → Q (some (.int res.1)) res.2 → m_Model_product (d + 1) [.ref 0] h Q) (hr5 : ∀  {h : am_H} {Q : am_Q} {res : Int32 × am_H}, rc.2.2.2.2.2 h = some res → Q (some (.int res.1)) res.2 → m_Model_sums (d + 1) [.ref 0] h Q) (e : f_Model_compared_58 rc h x1 x3 = some res) (q : Q (some (.int res.1)) res.2) : am_W (X_Model_compared (d + 1 + 1)) 58 [some (.ref 0), some (.int x1), some (.int x2), some (.int x3)] [] h Q :=
  b_Model_compared_58 (d := (d + 1 + 1)) (kt := fun c => (t_Model_compared_89 hr0 hr1 hr2 hr3 hr4 hr5 (am_ift e c) q)) (kf := fun c => (t_Model_compared_63 hr0 hr1 hr2 hr3 hr4 hr5 (am_ife e c) q))
theorem t_Model_compared_51 {d : Nat} {rc : rc_Model_both} {x1 : Int32} {x2 : Int32} {y0 : Int32} {h : am_H} {Q : am_Q} {res : Int32 × am_H} (hr0 : ∀  {h : am_H} {Q : am_Q} {res : Int32 × am_H}, rc.1 h = some res → Q (some (.int res.1)) res.2 → m_Model_both (d + 1) [.ref 0] h Q) (hr1 : ∀  {h : am_H} {Q : am_Q} {res : Int32 × am_H}, rc.2.1 h = some res → Q (some (.int res.1)) res.2 → m_Model_compared (d + 1) [.ref 0] h Q) (hr2 : ∀  {h : am_H} {Q : am_Q} {res : Int32 × am_H}, rc.2.2.1 h = some res → Q (some (.int res.1)) res.2 → m_Model_either (d + 1) [.ref 0] h Q) (hr3 : ∀  {h : am_H} {Q : am_Q} {res : Int32 × am_H}, rc.2.2.2.1 h = some res → Q (some (.int res.1)) res.2 → m_Model_one (d + 1) [.ref 0] h Q) (hr4 : ∀  {h : am_H} {Q : am_Q} {res : Int32 × am_H}, rc.2.2.2.2.1 h = some res → Q (some (.int res.1)) res.2 → m_Model_product (d + 1) [.ref 0] h Q) (hr5 : ∀  {h : am_H} {Q : am_Q} {res : Int32 × am_H}, rc.2.2.2.2.2 h = some res → Q (some (.int res.1)) res.2 → m_Model_sums (d + 1) [.ref 0] h Q) (e : f_Model_compared_51 rc h x1 x2 y0 = some res) (q : Q (some (.int res.1)) res.2) : am_W (X_Model_compared (d + 1 + 1)) 51 [some (.ref 0), some (.int x1), some (.int x2), none] [.int y0] h Q :=
  b_Model_compared_51 (d := (d + 1 + 1)) (kt := fun c => (t_Model_compared_66 hr0 hr1 hr2 hr3 hr4 hr5 (am_ife e c) q)) (kf := fun c => (t_Model_compared_58 hr0 hr1 hr2 hr3 hr4 hr5 (am_ift e c) q))
theorem t_Model_compared_37 {d : Nat} {rc : rc_Model_both} {x1 : Int32} {x2 : Int32} {h : am_H} {Q : am_Q} {res : Int32 × am_H} (hr0 : ∀  {h : am_H} {Q : am_Q} {res : Int32 × am_H}, rc.1 h = some res → Q (some (.int res.1)) res.2 → m_Model_both (d + 1) [.ref 0] h Q) (hr1 : ∀  {h : am_H} {Q : am_Q} {res : Int32 × am_H}, rc.2.1 h = some res → Q (some (.int res.1)) res.2 → m_Model_compared (d + 1) [.ref 0] h Q) (hr2 : ∀  {h : am_H} {Q : am_Q} {res : Int32 × am_H}, rc.2.2.1 h = some res → Q (some (.int res.1)) res.2 → m_Model_either (d + 1) [.ref 0] h Q) (hr3 : ∀  {h : am_H} {Q : am_Q} {res : Int32 × am_H}, rc.2.2.2.1 h = some res → Q (some (.int res.1)) res.2 → m_Model_one (d + 1) [.ref 0] h Q) (hr4 : ∀  {h : am_H} {Q : am_Q} {res : Int32 × am_H}, rc.2.2.2.2.1 h = some res → Q (some (.int res.1)) res.2 → m_Model_product (d + 1) [.ref 0] h Q) (hr5 : ∀  {h : am_H} {Q : am_Q} {res : Int32 × am_H}, rc.2.2.2.2.2 h = some res → Q (some (.int res.1)) res.2 → m_Model_sums (d + 1) [.ref 0] h Q) (e : f_Model_compared_37 rc h x1 x2 = some res) (q : Q (some (.int res.1)) res.2) : am_W (X_Model_compared (d + 1 + 1)) 37 [some (.ref 0), some (.int x1), some (.int x2), none] [] h Q :=
  (am_bd e).elim fun p hp => b_Model_compared_37 (d := (d + 1)) (k := hr5 hp.1 (t_Model_compared_51 hr0 hr1 hr2 hr3 hr4 hr5 hp.2 q))
theorem t_Model_compared_29 {d : Nat} {rc : rc_Model_both} {x1 : Int32} {x2 : Int32} {h : am_H} {Q : am_Q} {res : Int32 × am_H} (hr0 : ∀  {h : am_H} {Q : am_Q} {res : Int32 × am_H}, rc.1 h = some res → Q (some (.int res.1)) res.2 → m_Model_both (d + 1) [.ref 0] h Q) (hr1 : ∀  {h : am_H} {Q : am_Q} {res : Int32 × am_H}, rc.2.1 h = some res → Q (some (.int res.1)) res.2 → m_Model_compared (d + 1) [.ref 0] h Q) (hr2 : ∀  {h : am_H} {Q : am_Q} {res : Int32 × am_H}, rc.2.2.1 h = some res → Q (some (.int res.1)) res.2 → m_Model_either (d + 1) [.ref 0] h Q) (hr3 : ∀  {h : am_H} {Q : am_Q} {res : Int32 × am_H}, rc.2.2.2.1 h = some res → Q (some (.int res.1)) res.2 → m_Model_one (d + 1) [.ref 0] h Q) (hr4 : ∀  {h : am_H} {Q : am_Q} {res : Int32 × am_H}, rc.2.2.2.2.1 h = some res → Q (some (.int res.1)) res.2 → m_Model_product (d + 1) [.ref 0] h Q) (hr5 : ∀  {h : am_H} {Q : am_Q} {res : Int32 × am_H}, rc.2.2.2.2.2 h = some res → Q (some (.int res.1)) res.2 → m_Model_sums (d + 1) [.ref 0] h Q) (e : f_Model_compared_29 rc h x1 x2 = some res) (q : Q (some (.int res.1)) res.2) : am_W (X_Model_compared (d + 1 + 1)) 29 [some (.ref 0), some (.int x1), some (.int x2), none] [] h Q :=
  b_Model_compared_29 (d := (d + 1 + 1)) (kt := fun c => (t_Model_compared_37 hr0 hr1 hr2 hr3 hr4 hr5 (am_ift e c) q)) (kf := fun c => (t_Model_compared_35 hr0 hr1 hr2 hr3 hr4 hr5 (am_ife e c) q))
theorem t_Model_compared_23 {d : Nat} {rc : rc_Model_both} {x1 : Int32} {x2 : Int32} {h : am_H} {Q : am_Q} {res : Int32 × am_H} (hr0 : ∀  {h : am_H} {Q : am_Q} {res : Int32 × am_H}, rc.1 h = some res → Q (some (.int res.1)) res.2 → m_Model_both (d + 1) [.ref 0] h Q) (hr1 : ∀  {h : am_H} {Q : am_Q} {res : Int32 × am_H}, rc.2.1 h = some res → Q (some (.int res.1)) res.2 → m_Model_compared (d + 1) [.ref 0] h Q) (hr2 : ∀  {h : am_H} {Q : am_Q} {res : Int32 × am_H}, rc.2.2.1 h = some res → Q (some (.int res.1)) res.2 → m_Model_either (d + 1) [.ref 0] h Q) (hr3 : ∀  {h : am_H} {Q : am_Q} {res : Int32 × am_H}, rc.2.2.2.1 h = some res → Q (some (.int res.1)) res.2 → m_Model_one (d + 1) [.ref 0] h Q) (hr4 : ∀  {h : am_H} {Q : am_Q} {res : Int32 × am_H}, rc.2.2.2.2.1 h = some res → Q (some (.int res.1)) res.2 → m_Model_product (d + 1) [.ref 0] h Q) (hr5 : ∀  {h : am_H} {Q : am_Q} {res : Int32 × am_H}, rc.2.2.2.2.2 h = some res → Q (some (.int res.1)) res.2 → m_Model_sums (d + 1) [.ref 0] h Q) (e : f_Model_compared_23 rc h x1 x2 = some res) (q : Q (some (.int res.1)) res.2) : am_W (X_Model_compared (d + 1 + 1)) 23 [some (.ref 0), some (.int x1), some (.int x2), none] [] h Q :=
  b_Model_compared_23 (d := (d + 1 + 1)) (kt := fun c => (t_Model_compared_37 hr0 hr1 hr2 hr3 hr4 hr5 (am_ift e c) q)) (kf := fun c => (t_Model_compared_29 hr0 hr1 hr2 hr3 hr4 hr5 (am_ife e c) q))
theorem t_Model_compared_17 {d : Nat} {rc : rc_Model_both} {x1 : Int32} {x2 : Int32} {h : am_H} {Q : am_Q} {res : Int32 × am_H} (hr0 : ∀  {h : am_H} {Q : am_Q} {res : Int32 × am_H}, rc.1 h = some res → Q (some (.int res.1)) res.2 → m_Model_both (d + 1) [.ref 0] h Q) (hr1 : ∀  {h : am_H} {Q : am_Q} {res : Int32 × am_H}, rc.2.1 h = some res → Q (some (.int res.1)) res.2 → m_Model_compared (d + 1) [.ref 0] h Q) (hr2 : ∀  {h : am_H} {Q : am_Q} {res : Int32 × am_H}, rc.2.2.1 h = some res → Q (some (.int res.1)) res.2 → m_Model_either (d + 1) [.ref 0] h Q) (hr3 : ∀  {h : am_H} {Q : am_Q} {res : Int32 × am_H}, rc.2.2.2.1 h = some res → Q (some (.int res.1)) res.2 → m_Model_one (d + 1) [.ref 0] h Q) (hr4 : ∀  {h : am_H} {Q : am_Q} {res : Int32 × am_H}, rc.2.2.2.2.1 h = some res → Q (some (.int res.1)) res.2 → m_Model_product (d + 1) [.ref 0] h Q) (hr5 : ∀  {h : am_H} {Q : am_Q} {res : Int32 × am_H}, rc.2.2.2.2.2 h = some res → Q (some (.int res.1)) res.2 → m_Model_sums (d + 1) [.ref 0] h Q) (e : f_Model_compared_17 rc h x1 x2 = some res) (q : Q (some (.int res.1)) res.2) : am_W (X_Model_compared (d + 1 + 1)) 17 [some (.ref 0), some (.int x1), some (.int x2), none] [] h Q :=
  b_Model_compared_17 (d := (d + 1 + 1)) (kt := fun c => (t_Model_compared_37 hr0 hr1 hr2 hr3 hr4 hr5 (am_ift e c) q)) (kf := fun c => (t_Model_compared_23 hr0 hr1 hr2 hr3 hr4 hr5 (am_ife e c) q))
theorem t_Model_compared_9 {d : Nat} {rc : rc_Model_both} {x1 : Int32} {y0 : Int32} {h : am_H} {Q : am_Q} {res : Int32 × am_H} (hr0 : ∀  {h : am_H} {Q : am_Q} {res : Int32 × am_H}, rc.1 h = some res → Q (some (.int res.1)) res.2 → m_Model_both (d + 1) [.ref 0] h Q) (hr1 : ∀  {h : am_H} {Q : am_Q} {res : Int32 × am_H}, rc.2.1 h = some res → Q (some (.int res.1)) res.2 → m_Model_compared (d + 1) [.ref 0] h Q) (hr2 : ∀  {h : am_H} {Q : am_Q} {res : Int32 × am_H}, rc.2.2.1 h = some res → Q (some (.int res.1)) res.2 → m_Model_either (d + 1) [.ref 0] h Q) (hr3 : ∀  {h : am_H} {Q : am_Q} {res : Int32 × am_H}, rc.2.2.2.1 h = some res → Q (some (.int res.1)) res.2 → m_Model_one (d + 1) [.ref 0] h Q) (hr4 : ∀  {h : am_H} {Q : am_Q} {res : Int32 × am_H}, rc.2.2.2.2.1 h = some res → Q (some (.int res.1)) res.2 → m_Model_product (d + 1) [.ref 0] h Q) (hr5 : ∀  {h : am_H} {Q : am_Q} {res : Int32 × am_H}, rc.2.2.2.2.2 h = some res → Q (some (.int res.1)) res.2 → m_Model_sums (d + 1) [.ref 0] h Q) (e : f_Model_compared_9 rc h x1 y0 = some res) (q : Q (some (.int res.1)) res.2) : am_W (X_Model_compared (d + 1 + 1)) 9 [some (.ref 0), some (.int x1), none, none] [.int y0] h Q :=
  b_Model_compared_9 (d := (d + 1 + 1)) (kt := fun c => (t_Model_compared_35 hr0 hr1 hr2 hr3 hr4 hr5 (am_ift e c) q)) (kf := fun c => (t_Model_compared_17 hr0 hr1 hr2 hr3 hr4 hr5 (am_ife e c) q))
theorem t_Model_compared_4 {d : Nat} {rc : rc_Model_both} {y0 : Int32} {h : am_H} {Q : am_Q} {res : Int32 × am_H} (hr0 : ∀  {h : am_H} {Q : am_Q} {res : Int32 × am_H}, rc.1 h = some res → Q (some (.int res.1)) res.2 → m_Model_both (d + 1) [.ref 0] h Q) (hr1 : ∀  {h : am_H} {Q : am_Q} {res : Int32 × am_H}, rc.2.1 h = some res → Q (some (.int res.1)) res.2 → m_Model_compared (d + 1) [.ref 0] h Q) (hr2 : ∀  {h : am_H} {Q : am_Q} {res : Int32 × am_H}, rc.2.2.1 h = some res → Q (some (.int res.1)) res.2 → m_Model_either (d + 1) [.ref 0] h Q) (hr3 : ∀  {h : am_H} {Q : am_Q} {res : Int32 × am_H}, rc.2.2.2.1 h = some res → Q (some (.int res.1)) res.2 → m_Model_one (d + 1) [.ref 0] h Q) (hr4 : ∀  {h : am_H} {Q : am_Q} {res : Int32 × am_H}, rc.2.2.2.2.1 h = some res → Q (some (.int res.1)) res.2 → m_Model_product (d + 1) [.ref 0] h Q) (hr5 : ∀  {h : am_H} {Q : am_Q} {res : Int32 × am_H}, rc.2.2.2.2.2 h = some res → Q (some (.int res.1)) res.2 → m_Model_sums (d + 1) [.ref 0] h Q) (e : f_Model_compared_4 rc h y0 = some res) (q : Q (some (.int res.1)) res.2) : am_W (X_Model_compared (d + 1 + 1)) 4 [some (.ref 0), none, none, none] [.int y0] h Q :=
  (am_bd e).elim fun p hp => b_Model_compared_4 (d := (d + 1)) (k := c_Model_byteAt (d := d + 1) hp.1 (t_Model_compared_9 hr0 hr1 hr2 hr3 hr4 hr5 hp.2 q))
theorem t_Model_compared_0 {d : Nat} {rc : rc_Model_both} {h : am_H} {Q : am_Q} {res : Int32 × am_H} (hr0 : ∀  {h : am_H} {Q : am_Q} {res : Int32 × am_H}, rc.1 h = some res → Q (some (.int res.1)) res.2 → m_Model_both (d + 1) [.ref 0] h Q) (hr1 : ∀  {h : am_H} {Q : am_Q} {res : Int32 × am_H}, rc.2.1 h = some res → Q (some (.int res.1)) res.2 → m_Model_compared (d + 1) [.ref 0] h Q) (hr2 : ∀  {h : am_H} {Q : am_Q} {res : Int32 × am_H}, rc.2.2.1 h = some res → Q (some (.int res.1)) res.2 → m_Model_either (d + 1) [.ref 0] h Q) (hr3 : ∀  {h : am_H} {Q : am_Q} {res : Int32 × am_H}, rc.2.2.2.1 h = some res → Q (some (.int res.1)) res.2 → m_Model_one (d + 1) [.ref 0] h Q) (hr4 : ∀  {h : am_H} {Q : am_Q} {res : Int32 × am_H}, rc.2.2.2.2.1 h = some res → Q (some (.int res.1)) res.2 → m_Model_product (d + 1) [.ref 0] h Q) (hr5 : ∀  {h : am_H} {Q : am_Q} {res : Int32 × am_H}, rc.2.2.2.2.2 h = some res → Q (some (.int res.1)) res.2 → m_Model_sums (d + 1) [.ref 0] h Q) (e : f_Model_compared_0 rc h = some res) (q : Q (some (.int res.1)) res.2) : am_W (X_Model_compared (d + 1 + 1)) 0 [some (.ref 0), none, none, none] [] h Q :=
  (am_bd e).elim fun p hp => b_Model_compared_0 (d := (d + 1)) (k := hr5 hp.1 (t_Model_compared_4 hr0 hr1 hr2 hr3 hr4 hr5 hp.2 q))
theorem t_Model_either_36 {d : Nat} {rc : rc_Model_both} {x1 : Int32} {h : am_H} {Q : am_Q} {res : Int32 × am_H} (hr0 : ∀  {h : am_H} {Q : am_Q} {res : Int32 × am_H}, rc.1 h = some res → Q (some (.int res.1)) res.2 → m_Model_both (d + 1) [.ref 0] h Q) (hr1 : ∀  {h : am_H} {Q : am_Q} {res : Int32 × am_H}, rc.2.1 h = some res → Q (some (.int res.1)) res.2 → m_Model_compared (d + 1) [.ref 0] h Q) (hr2 : ∀  {h : am_H} {Q : am_Q} {res : Int32 × am_H}, rc.2.2.1 h = some res → Q (some (.int res.1)) res.2 → m_Model_either (d + 1) [.ref 0] h Q) (hr3 : ∀  {h : am_H} {Q : am_Q} {res : Int32 × am_H}, rc.2.2.2.1 h = some res → Q (some (.int res.1)) res.2 → m_Model_one (d + 1) [.ref 0] h Q) (hr4 : ∀  {h : am_H} {Q : am_Q} {res : Int32 × am_H}, rc.2.2.2.2.1 h = some res → Q (some (.int res.1)) res.2 → m_Model_product (d + 1) [.ref 0] h Q) (hr5 : ∀  {h : am_H} {Q : am_Q} {res : Int32 × am_H}, rc.2.2.2.2.2 h = some res → Q (some (.int res.1)) res.2 → m_Model_sums (d + 1) [.ref 0] h Q) (e : f_Model_either_36 rc h x1 = some res) (q : Q (some (.int res.1)) res.2) : am_W (X_Model_either (d + 1 + 1)) 36 [some (.ref 0), some (.int x1), none] [] h Q :=
  b_Model_either_36 (d := (d + 1 + 1)) (q := (am_rIpi (v := x1) e q))
theorem t_Model_either_32 {d : Nat} {rc : rc_Model_both} {k5 : am_H → Int32 → Option (Int32 × am_H)} {x1 : Int32} {x2 : Int32} {y0 : Int32} {h : am_H} {Q : am_Q} {res : Int32 × am_H} (hr0 : ∀  {h : am_H} {Q : am_Q} {res : Int32 × am_H}, rc.1 h = some res → Q (some (.int res.1)) res.2 → m_Model_both (d + 1) [.ref 0] h Q) (hr1 : ∀  {h : am_H} {Q : am_Q} {res : Int32 × am_H}, rc.2.1 h = some res → Q (some (.int res.1)) res.2 → m_Model_compared (d + 1) [.ref 0] h Q) (hr2 : ∀  {h : am_H} {Q : am_Q} {res : Int32 × am_H}, rc.2.2.1 h = some res → Q (some (.int res.1)) res.2 → m_Model_either (d + 1) [.ref 0] h Q) (hr3 : ∀  {h : am_H} {Q : am_Q} {res : Int32 × am_H}, rc.2.2.2.1 h = some res → Q (some (.int res.1)) res.2 → m_Model_one (d + 1) [.ref 0] h Q) (hr4 : ∀  {h : am_H} {Q : am_Q} {res : Int32 × am_H}, rc.2.2.2.2.1 h = some res → Q (some (.int res.1)) res.2 → m_Model_product (d + 1) [.ref 0] h Q) (hr5 : ∀  {h : am_H} {Q : am_Q} {res : Int32 × am_H}, rc.2.2.2.2.2 h = some res → Q (some (.int res.1)) res.2 → m_Model_sums (d + 1) [.ref 0] h Q) (hk5 : ∀ (x1 : Int32) (h : am_H), k5 h x1 = some res → am_W (X_Model_either (d + 1 + 1)) 5 [some (.ref 0), some (.int x1), none] [] h Q) (e : f_Model_either_32 rc k5 h y0 = some res) (q : Q (some (.int res.1)) res.2) : am_W (X_Model_either (d + 1 + 1)) 32 [some (.ref 0), some (.int x1), some (.int x2)] [.int y0] h Q :=
  b_Model_either_32 (d := (d + 1 + 1)) (k := (am_wk2 (hk5 _ _ e) ⟨rfl, ⟨rfl, trivial⟩⟩))
theorem t_Model_either_27 {d : Nat} {rc : rc_Model_both} {k5 : am_H → Int32 → Option (Int32 × am_H)} {x1 : Int32} {x2 : Int32} {h : am_H} {Q : am_Q} {res : Int32 × am_H} (hr0 : ∀  {h : am_H} {Q : am_Q} {res : Int32 × am_H}, rc.1 h = some res → Q (some (.int res.1)) res.2 → m_Model_both (d + 1) [.ref 0] h Q) (hr1 : ∀  {h : am_H} {Q : am_Q} {res : Int32 × am_H}, rc.2.1 h = some res → Q (some (.int res.1)) res.2 → m_Model_compared (d + 1) [.ref 0] h Q) (hr2 : ∀  {h : am_H} {Q : am_Q} {res : Int32 × am_H}, rc.2.2.1 h = some res → Q (some (.int res.1)) res.2 → m_Model_either (d + 1) [.ref 0] h Q) (hr3 : ∀  {h : am_H} {Q : am_Q} {res : Int32 × am_H}, rc.2.2.2.1 h = some res → Q (some (.int res.1)) res.2 → m_Model_one (d + 1) [.ref 0] h Q) (hr4 : ∀  {h : am_H} {Q : am_Q} {res : Int32 × am_H}, rc.2.2.2.2.1 h = some res → Q (some (.int res.1)) res.2 → m_Model_product (d + 1) [.ref 0] h Q) (hr5 : ∀  {h : am_H} {Q : am_Q} {res : Int32 × am_H}, rc.2.2.2.2.2 h = some res → Q (some (.int res.1)) res.2 → m_Model_sums (d + 1) [.ref 0] h Q) (hk5 : ∀ (x1 : Int32) (h : am_H), k5 h x1 = some res → am_W (X_Model_either (d + 1 + 1)) 5 [some (.ref 0), some (.int x1), none] [] h Q) (e : f_Model_either_27 rc k5 h = some res) (q : Q (some (.int res.1)) res.2) : am_W (X_Model_either (d + 1 + 1)) 27 [some (.ref 0), some (.int x1), some (.int x2)] [] h Q :=
  b_Model_either_27 (d := (d + 1 + 1)) (k := (t_Model_either_32 hr0 hr1 hr2 hr3 hr4 hr5 hk5 e q))
theorem t_Model_either_31 {d : Nat} {rc : rc_Model_both} {k5 : am_H → Int32 → Option (Int32 × am_H)} {x1 : Int32} {x2 : Int32} {h : am_H} {Q : am_Q} {res : Int32 × am_H} (hr0 : ∀  {h : am_H} {Q : am_Q} {res : Int32 × am_H}, rc.1 h = some res → Q (some (.int res.1)) res.2 → m_Model_both (d + 1) [.ref 0] h Q) (hr1 : ∀  {h : am_H} {Q : am_Q} {res : Int32 × am_H}, rc.2.1 h = some res → Q (some (.int res.1)) res.2 → m_Model_compared (d + 1) [.ref 0] h Q) (hr2 : ∀  {h : am_H} {Q : am_Q} {res : Int32 × am_H}, rc.2.2.1 h = some res → Q (some (.int res.1)) res.2 → m_Model_either (d + 1) [.ref 0] h Q) (hr3 : ∀  {h : am_H} {Q : am_Q} {res : Int32 × am_H}, rc.2.2.2.1 h = some res → Q (some (.int res.1)) res.2 → m_Model_one (d + 1) [.ref 0] h Q) (hr4 : ∀  {h : am_H} {Q : am_Q} {res : Int32 × am_H}, rc.2.2.2.2.1 h = some res → Q (some (.int res.1)) res.2 → m_Model_product (d + 1) [.ref 0] h Q) (hr5 : ∀  {h : am_H} {Q : am_Q} {res : Int32 × am_H}, rc.2.2.2.2.2 h = some res → Q (some (.int res.1)) res.2 → m_Model_sums (d + 1) [.ref 0] h Q) (hk5 : ∀ (x1 : Int32) (h : am_H), k5 h x1 = some res → am_W (X_Model_either (d + 1 + 1)) 5 [some (.ref 0), some (.int x1), none] [] h Q) (e : f_Model_either_31 rc k5 h = some res) (q : Q (some (.int res.1)) res.2) : am_W (X_Model_either (d + 1 + 1)) 31 [some (.ref 0), some (.int x1), some (.int x2)] [] h Q :=
  b_Model_either_31 (d := (d + 1 + 1)) (k := (t_Model_either_32 hr0 hr1 hr2 hr3 hr4 hr5 hk5 e q))
theorem t_Model_either_23 {d : Nat} {rc : rc_Model_both} {k5 : am_H → Int32 → Option (Int32 × am_H)} {x1 : Int32} {x2 : Int32} {h : am_H} {Q : am_Q} {res : Int32 × am_H} (hr0 : ∀  {h : am_H} {Q : am_Q} {res : Int32 × am_H}, rc.1 h = some res → Q (some (.int res.1)) res.2 → m_Model_both (d + 1) [.ref 0] h Q) (hr1 : ∀  {h : am_H} {Q : am_Q} {res : Int32 × am_H}, rc.2.1 h = some res → Q (some (.int res.1)) res.2 → m_Model_compared (d + 1) [.ref 0] h Q) (hr2 : ∀  {h : am_H} {Q : am_Q} {res : Int32 × am_H}, rc.2.2.1 h = some res → Q (some (.int res.1)) res.2 → m_Model_either (d + 1) [.ref 0] h Q) (hr3 : ∀  {h : am_H} {Q : am_Q} {res : Int32 × am_H}, rc.2.2.2.1 h = some res → Q (some (.int res.1)) res.2 → m_Model_one (d + 1) [.ref 0] h Q) (hr4 : ∀  {h : am_H} {Q : am_Q} {res : Int32 × am_H}, rc.2.2.2.2.1 h = some res → Q (some (.int res.1)) res.2 → m_Model_product (d + 1) [.ref 0] h Q) (hr5 : ∀  {h : am_H} {Q : am_Q} {res : Int32 × am_H}, rc.2.2.2.2.2 h = some res → Q (some (.int res.1)) res.2 → m_Model_sums (d + 1) [.ref 0] h Q) (hk5 : ∀ (x1 : Int32) (h : am_H), k5 h x1 = some res → am_W (X_Model_either (d + 1 + 1)) 5 [some (.ref 0), some (.int x1), none] [] h Q) (e : f_Model_either_23 rc k5 h x2 = some res) (q : Q (some (.int res.1)) res.2) : am_W (X_Model_either (d + 1 + 1)) 23 [some (.ref 0), some (.int x1), some (.int x2)] [] h Q :=
  b_Model_either_23 (d := (d + 1 + 1)) (kt := fun c => (t_Model_either_31 hr0 hr1 hr2 hr3 hr4 hr5 hk5 (am_ift e c) q)) (kf := fun c => (t_Model_either_27 hr0 hr1 hr2 hr3 hr4 hr5 hk5 (am_ife e c) q))
theorem t_Model_either_18 {d : Nat} {rc : rc_Model_both} {k5 : am_H → Int32 → Option (Int32 × am_H)} {x1 : Int32} {y0 : Int32} {h : am_H} {Q : am_Q} {res : Int32 × am_H} (hr0 : ∀  {h : am_H} {Q : am_Q} {res : Int32 × am_H}, rc.1 h = some res → Q (some (.int res.1)) res.2 → m_Model_both (d + 1) [.ref 0] h Q) (hr1 : ∀  {h : am_H} {Q : am_Q} {res : Int32 × am_H}, rc.2.1 h = some res → Q (some (.int res.1)) res.2 → m_Model_compared (d + 1) [.ref 0] h Q) (hr2 : ∀  {h : am_H} {Q : am_Q} {res : Int32 × am_H}, rc.2.2.1 h = some res → Q (some (.int res.1)) res.2 → m_Model_either (d + 1) [.ref 0] h Q) (hr3 : ∀  {h : am_H} {Q : am_Q} {res : Int32 × am_H}, rc.2.2.2.1 h = some res → Q (some (.int res.1)) res.2 → m_Model_one (d + 1) [.ref 0] h Q) (hr4 : ∀  {h : am_H} {Q : am_Q} {res : Int32 × am_H}, rc.2.2.2.2.1 h = some res → Q (some (.int res.1)) res.2 → m_Model_product (d + 1) [.ref 0] h Q) (hr5 : ∀  {h : am_H} {Q : am_Q} {res : Int32 × am_H}, rc.2.2.2.2.2 h = some res → Q (some (.int res.1)) res.2 → m_Model_sums (d + 1) [.ref 0] h Q) (hk5 : ∀ (x1 : Int32) (h : am_H), k5 h x1 = some res → am_W (X_Model_either (d + 1 + 1)) 5 [some (.ref 0), some (.int x1), none] [] h Q) (e : f_Model_either_18 rc k5 h x1 y0 = some res) (q : Q (some (.int res.1)) res.2) : am_W (X_Model_either (d + 1 + 1)) 18 [some (.ref 0), some (.int x1), none] [.int y0] h Q :=
  b_Model_either_18 (d := (d + 1 + 1)) (kt := fun c => (t_Model_either_27 hr0 hr1 hr2 hr3 hr4 hr5 hk5 (am_ife e c) q)) (kf := fun c => (t_Model_either_23 hr0 hr1 hr2 hr3 hr4 hr5 hk5 (am_ift e c) q))
theorem t_Model_either_14 {d : Nat} {rc : rc_Model_both} {k5 : am_H → Int32 → Option (Int32 × am_H)} {x1 : Int32} {h : am_H} {Q : am_Q} {res : Int32 × am_H} (hr0 : ∀  {h : am_H} {Q : am_Q} {res : Int32 × am_H}, rc.1 h = some res → Q (some (.int res.1)) res.2 → m_Model_both (d + 1) [.ref 0] h Q) (hr1 : ∀  {h : am_H} {Q : am_Q} {res : Int32 × am_H}, rc.2.1 h = some res → Q (some (.int res.1)) res.2 → m_Model_compared (d + 1) [.ref 0] h Q) (hr2 : ∀  {h : am_H} {Q : am_Q} {res : Int32 × am_H}, rc.2.2.1 h = some res → Q (some (.int res.1)) res.2 → m_Model_either (d + 1) [.ref 0] h Q) (hr3 : ∀  {h : am_H} {Q : am_Q} {res : Int32 × am_H}, rc.2.2.2.1 h = some res → Q (some (.int res.1)) res.2 → m_Model_one (d + 1) [.ref 0] h Q) (hr4 : ∀  {h : am_H} {Q : am_Q} {res : Int32 × am_H}, rc.2.2.2.2.1 h = some res → Q (some (.int res.1)) res.2 → m_Model_product (d + 1) [.ref 0] h Q) (hr5 : ∀  {h : am_H} {Q : am_Q} {res : Int32 × am_H}, rc.2.2.2.2.2 h = some res → Q (some (.int res.1)) res.2 → m_Model_sums (d + 1) [.ref 0] h Q) (hk5 : ∀ (x1 : Int32) (h : am_H), k5 h x1 = some res → am_W (X_Model_either (d + 1 + 1)) 5 [some (.ref 0), some (.int x1), none] [] h Q) (e : f_Model_either_14 rc k5 h x1 = some res) (q : Q (some (.int res.1)) res.2) : am_W (X_Model_either (d + 1 + 1)) 14 [some (.ref 0), some (.int x1), none] [] h Q :=
  (am_bd e).elim fun p hp => b_Model_either_14 (d := (d + 1)) (k := hr0 hp.1 (t_Model_either_18 hr0 hr1 hr2 hr3 hr4 hr5 hk5 hp.2 q))
theorem t_Model_either_11 {d : Nat} {rc : rc_Model_both} {k5 : am_H → Int32 → Option (Int32 × am_H)} {x1 : Int32} {y0 : Bool} {h : am_H} {Q : am_Q} {res : Int32 × am_H} (hr0 : ∀  {h : am_H} {Q : am_Q} {res : Int32 × am_H}, rc.1 h = some res → Q (some (.int res.1)) res.2 → m_Model_both (d + 1) [.ref 0] h Q) (hr1 : ∀  {h : am_H} {Q : am_Q} {res : Int32 × am_H}, rc.2.1 h = some res → Q (some (.int res.1)) res.2 → m_Model_compared (d + 1) [.ref 0] h Q) (hr2 : ∀  {h : am_H} {Q : am_Q} {res : Int32 × am_H}, rc.2.2.1 h = some res → Q (some (.int res.1)) res.2 → m_Model_either (d + 1) [.ref 0] h Q) (hr3 : ∀  {h : am_H} {Q : am_Q} {res : Int32 × am_H}, rc.2.2.2.1 h = some res → Q (some (.int res.1)) res.2 → m_Model_one (d + 1) [.ref 0] h Q) (hr4 : ∀  {h : am_H} {Q : am_Q} {res : Int32 × am_H}, rc.2.2.2.2.1 h = some res → Q (some (.int res.1)) res.2 → m_Model_product (d + 1) [.ref 0] h Q) (hr5 : ∀  {h : am_H} {Q : am_Q} {res : Int32 × am_H}, rc.2.2.2.2.2 h = some res → Q (some (.int res.1)) res.2 → m_Model_sums (d + 1) [.ref 0] h Q) (hk5 : ∀ (x1 : Int32) (h : am_H), k5 h x1 = some res → am_W (X_Model_either (d + 1 + 1)) 5 [some (.ref 0), some (.int x1), none] [] h Q) (e : f_Model_either_11 rc k5 h x1 y0 = some res) (q : Q (some (.int res.1)) res.2) : am_W (X_Model_either (d + 1 + 1)) 11 [some (.ref 0), some (.int x1), none] [.int (am_b y0)] h Q :=
  b_Model_either_11 (d := (d + 1 + 1)) (kt := fun c => (t_Model_either_36 hr0 hr1 hr2 hr3 hr4 hr5 (am_iff e (am_bz c)) q)) (kf := fun c => (t_Model_either_14 hr0 hr1 hr2 hr3 hr4 hr5 hk5 (am_ift e (am_bn c)) q))
theorem t_Model_either_5 {d : Nat} {rc : rc_Model_both} {k5 : am_H → Int32 → Option (Int32 × am_H)} {x1 : Int32} {h : am_H} {Q : am_Q} {res : Int32 × am_H} (hr0 : ∀  {h : am_H} {Q : am_Q} {res : Int32 × am_H}, rc.1 h = some res → Q (some (.int res.1)) res.2 → m_Model_both (d + 1) [.ref 0] h Q) (hr1 : ∀  {h : am_H} {Q : am_Q} {res : Int32 × am_H}, rc.2.1 h = some res → Q (some (.int res.1)) res.2 → m_Model_compared (d + 1) [.ref 0] h Q) (hr2 : ∀  {h : am_H} {Q : am_Q} {res : Int32 × am_H}, rc.2.2.1 h = some res → Q (some (.int res.1)) res.2 → m_Model_either (d + 1) [.ref 0] h Q) (hr3 : ∀  {h : am_H} {Q : am_Q} {res : Int32 × am_H}, rc.2.2.2.1 h = some res → Q (some (.int res.1)) res.2 → m_Model_one (d + 1) [.ref 0] h Q) (hr4 : ∀  {h : am_H} {Q : am_Q} {res : Int32 × am_H}, rc.2.2.2.2.1 h = some res → Q (some (.int res.1)) res.2 → m_Model_product (d + 1) [.ref 0] h Q) (hr5 : ∀  {h : am_H} {Q : am_Q} {res : Int32 × am_H}, rc.2.2.2.2.2 h = some res → Q (some (.int res.1)) res.2 → m_Model_sums (d + 1) [.ref 0] h Q) (hk5 : ∀ (x1 : Int32) (h : am_H), k5 h x1 = some res → am_W (X_Model_either (d + 1 + 1)) 5 [some (.ref 0), some (.int x1), none] [] h Q) (e : f_Model_either_5 rc k5 h x1 = some res) (q : Q (some (.int res.1)) res.2) : am_W (X_Model_either (d + 1 + 1)) 5 [some (.ref 0), some (.int x1), none] [] h Q :=
  (am_bd e).elim fun p hp => b_Model_either_5 (d := (d + 1)) (k := c_Model_takes (d := d) hp.1 (t_Model_either_11 hr0 hr1 hr2 hr3 hr4 hr5 hk5 hp.2 q))
theorem t_Model_either_5_l {d : Nat} {rc : rc_Model_both} {Q : am_Q} {res : Int32 × am_H} (hr0 : ∀  {h : am_H} {Q : am_Q} {res : Int32 × am_H}, rc.1 h = some res → Q (some (.int res.1)) res.2 → m_Model_both (d + 1) [.ref 0] h Q) (hr1 : ∀  {h : am_H} {Q : am_Q} {res : Int32 × am_H}, rc.2.1 h = some res → Q (some (.int res.1)) res.2 → m_Model_compared (d + 1) [.ref 0] h Q) (hr2 : ∀  {h : am_H} {Q : am_Q} {res : Int32 × am_H}, rc.2.2.1 h = some res → Q (some (.int res.1)) res.2 → m_Model_either (d + 1) [.ref 0] h Q) (hr3 : ∀  {h : am_H} {Q : am_Q} {res : Int32 × am_H}, rc.2.2.2.1 h = some res → Q (some (.int res.1)) res.2 → m_Model_one (d + 1) [.ref 0] h Q) (hr4 : ∀  {h : am_H} {Q : am_Q} {res : Int32 × am_H}, rc.2.2.2.2.1 h = some res → Q (some (.int res.1)) res.2 → m_Model_product (d + 1) [.ref 0] h Q) (hr5 : ∀  {h : am_H} {Q : am_Q} {res : Int32 × am_H}, rc.2.2.2.2.2 h = some res → Q (some (.int res.1)) res.2 → m_Model_sums (d + 1) [.ref 0] h Q) (q : Q (some (.int res.1)) res.2) : ∀ (n : Nat) (x1 : Int32) (h : am_H), f_Model_either_5_l rc n h x1 = some res → am_W (X_Model_either (d + 1 + 1)) 5 [some (.ref 0), some (.int x1), none] [] h Q := by
  intro n
  induction n with
  | zero => intro x1 h e; exact am_nn e
  | succ n ih => intro x1 h e; exact t_Model_either_5 hr0 hr1 hr2 hr3 hr4 hr5 (fun x1 h e => ih x1 h  e) e q
theorem t_Model_either_4 {d : Nat} {rc : rc_Model_both} {y0 : Int32} {h : am_H} {Q : am_Q} {res : Int32 × am_H} (hr0 : ∀  {h : am_H} {Q : am_Q} {res : Int32 × am_H}, rc.1 h = some res → Q (some (.int res.1)) res.2 → m_Model_both (d + 1) [.ref 0] h Q) (hr1 : ∀  {h : am_H} {Q : am_Q} {res : Int32 × am_H}, rc.2.1 h = some res → Q (some (.int res.1)) res.2 → m_Model_compared (d + 1) [.ref 0] h Q) (hr2 : ∀  {h : am_H} {Q : am_Q} {res : Int32 × am_H}, rc.2.2.1 h = some res → Q (some (.int res.1)) res.2 → m_Model_either (d + 1) [.ref 0] h Q) (hr3 : ∀  {h : am_H} {Q : am_Q} {res : Int32 × am_H}, rc.2.2.2.1 h = some res → Q (some (.int res.1)) res.2 → m_Model_one (d + 1) [.ref 0] h Q) (hr4 : ∀  {h : am_H} {Q : am_Q} {res : Int32 × am_H}, rc.2.2.2.2.1 h = some res → Q (some (.int res.1)) res.2 → m_Model_product (d + 1) [.ref 0] h Q) (hr5 : ∀  {h : am_H} {Q : am_Q} {res : Int32 × am_H}, rc.2.2.2.2.2 h = some res → Q (some (.int res.1)) res.2 → m_Model_sums (d + 1) [.ref 0] h Q) (e : f_Model_either_4 rc h y0 = some res) (q : Q (some (.int res.1)) res.2) : am_W (X_Model_either (d + 1 + 1)) 4 [some (.ref 0), none, none] [.int y0] h Q :=
  b_Model_either_4 (d := (d + 1 + 1)) (k := (t_Model_either_5_l hr0 hr1 hr2 hr3 hr4 hr5 q am_fu _ _ e))
theorem t_Model_either_0 {d : Nat} {rc : rc_Model_both} {h : am_H} {Q : am_Q} {res : Int32 × am_H} (hr0 : ∀  {h : am_H} {Q : am_Q} {res : Int32 × am_H}, rc.1 h = some res → Q (some (.int res.1)) res.2 → m_Model_both (d + 1) [.ref 0] h Q) (hr1 : ∀  {h : am_H} {Q : am_Q} {res : Int32 × am_H}, rc.2.1 h = some res → Q (some (.int res.1)) res.2 → m_Model_compared (d + 1) [.ref 0] h Q) (hr2 : ∀  {h : am_H} {Q : am_Q} {res : Int32 × am_H}, rc.2.2.1 h = some res → Q (some (.int res.1)) res.2 → m_Model_either (d + 1) [.ref 0] h Q) (hr3 : ∀  {h : am_H} {Q : am_Q} {res : Int32 × am_H}, rc.2.2.2.1 h = some res → Q (some (.int res.1)) res.2 → m_Model_one (d + 1) [.ref 0] h Q) (hr4 : ∀  {h : am_H} {Q : am_Q} {res : Int32 × am_H}, rc.2.2.2.2.1 h = some res → Q (some (.int res.1)) res.2 → m_Model_product (d + 1) [.ref 0] h Q) (hr5 : ∀  {h : am_H} {Q : am_Q} {res : Int32 × am_H}, rc.2.2.2.2.2 h = some res → Q (some (.int res.1)) res.2 → m_Model_sums (d + 1) [.ref 0] h Q) (e : f_Model_either_0 rc h = some res) (q : Q (some (.int res.1)) res.2) : am_W (X_Model_either (d + 1 + 1)) 0 [some (.ref 0), none, none] [] h Q :=
  (am_bd e).elim fun p hp => b_Model_either_0 (d := (d + 1)) (k := hr0 hp.1 (t_Model_either_4 hr0 hr1 hr2 hr3 hr4 hr5 hp.2 q))
theorem t_Model_one_143 {d : Nat} {rc : rc_Model_both} {x1 : Int32} {x2 : Int32} {h : am_H} {Q : am_Q} {res : Int32 × am_H} (hr0 : ∀  {h : am_H} {Q : am_Q} {res : Int32 × am_H}, rc.1 h = some res → Q (some (.int res.1)) res.2 → m_Model_both (d + 1) [.ref 0] h Q) (hr1 : ∀  {h : am_H} {Q : am_Q} {res : Int32 × am_H}, rc.2.1 h = some res → Q (some (.int res.1)) res.2 → m_Model_compared (d + 1) [.ref 0] h Q) (hr2 : ∀  {h : am_H} {Q : am_Q} {res : Int32 × am_H}, rc.2.2.1 h = some res → Q (some (.int res.1)) res.2 → m_Model_either (d + 1) [.ref 0] h Q) (hr3 : ∀  {h : am_H} {Q : am_Q} {res : Int32 × am_H}, rc.2.2.2.1 h = some res → Q (some (.int res.1)) res.2 → m_Model_one (d + 1) [.ref 0] h Q) (hr4 : ∀  {h : am_H} {Q : am_Q} {res : Int32 × am_H}, rc.2.2.2.2.1 h = some res → Q (some (.int res.1)) res.2 → m_Model_product (d + 1) [.ref 0] h Q) (hr5 : ∀  {h : am_H} {Q : am_Q} {res : Int32 × am_H}, rc.2.2.2.2.2 h = some res → Q (some (.int res.1)) res.2 → m_Model_sums (d + 1) [.ref 0] h Q) (e : f_Model_one_143 rc h = some res) (q : Q (some (.int res.1)) res.2) : am_W (X_Model_one (d + 1 + 1)) 143 [some (.ref 0), some (.int x1), some (.int x2), none, none] [] h Q :=
  b_Model_one_143 (d := (d + 1 + 1)) (q := (am_rIpi (v := 0) e q))
theorem t_Model_one_139 {d : Nat} {rc : rc_Model_both} {x1 : Int32} {x2 : Int32} {h : am_H} {Q : am_Q} {res : Int32 × am_H} (hr0 : ∀  {h : am_H} {Q : am_Q} {res : Int32 × am_H}, rc.1 h = some res → Q (some (.int res.1)) res.2 → m_Model_both (d + 1) [.ref 0] h Q) (hr1 : ∀  {h : am_H} {Q : am_Q} {res : Int32 × am_H}, rc.2.1 h = some res → Q (some (.int res.1)) res.2 → m_Model_compared (d + 1) [.ref 0] h Q) (hr2 : ∀  {h : am_H} {Q : am_Q} {res : Int32 × am_H}, rc.2.2.1 h = some res → Q (some (.int res.1)) res.2 → m_Model_either (d + 1) [.ref 0] h Q) (hr3 : ∀  {h : am_H} {Q : am_Q} {res : Int32 × am_H}, rc.2.2.2.1 h = some res → Q (some (.int res.1)) res.2 → m_Model_one (d + 1) [.ref 0] h Q) (hr4 : ∀  {h : am_H} {Q : am_Q} {res : Int32 × am_H}, rc.2.2.2.2.1 h = some res → Q (some (.int res.1)) res.2 → m_Model_product (d + 1) [.ref 0] h Q) (hr5 : ∀  {h : am_H} {Q : am_Q} {res : Int32 × am_H}, rc.2.2.2.2.2 h = some res → Q (some (.int res.1)) res.2 → m_Model_sums (d + 1) [.ref 0] h Q) (e : f_Model_one_139 rc h = some res) (q : Q (some (.int res.1)) res.2) : am_W (X_Model_one (d + 1 + 1)) 139 [some (.ref 0), some (.int x1), some (.int x2), none, none] [] h Q :=
  b_Model_one_139 (d := (d + 1 + 1)) (q := (am_rIpi (v := 1) e q))
theorem t_Model_one_135 {d : Nat} {rc : rc_Model_both} {x1 : Int32} {x2 : Int32} {h : am_H} {Q : am_Q} {res : Int32 × am_H} (hr0 : ∀  {h : am_H} {Q : am_Q} {res : Int32 × am_H}, rc.1 h = some res → Q (some (.int res.1)) res.2 → m_Model_both (d + 1) [.ref 0] h Q) (hr1 : ∀  {h : am_H} {Q : am_Q} {res : Int32 × am_H}, rc.2.1 h = some res → Q (some (.int res.1)) res.2 → m_Model_compared (d + 1) [.ref 0] h Q) (hr2 : ∀  {h : am_H} {Q : am_Q} {res : Int32 × am_H}, rc.2.2.1 h = some res → Q (some (.int res.1)) res.2 → m_Model_either (d + 1) [.ref 0] h Q) (hr3 : ∀  {h : am_H} {Q : am_Q} {res : Int32 × am_H}, rc.2.2.2.1 h = some res → Q (some (.int res.1)) res.2 → m_Model_one (d + 1) [.ref 0] h Q) (hr4 : ∀  {h : am_H} {Q : am_Q} {res : Int32 × am_H}, rc.2.2.2.2.1 h = some res → Q (some (.int res.1)) res.2 → m_Model_product (d + 1) [.ref 0] h Q) (hr5 : ∀  {h : am_H} {Q : am_Q} {res : Int32 × am_H}, rc.2.2.2.2.2 h = some res → Q (some (.int res.1)) res.2 → m_Model_sums (d + 1) [.ref 0] h Q) (e : f_Model_one_135 rc h x2 = some res) (q : Q (some (.int res.1)) res.2) : am_W (X_Model_one (d + 1 + 1)) 135 [some (.ref 0), some (.int x1), some (.int x2), none, none] [] h Q :=
  b_Model_one_135 (d := (d + 1 + 1)) (kt := fun c => (t_Model_one_143 hr0 hr1 hr2 hr3 hr4 hr5 (am_ife e c) q)) (kf := fun c => (t_Model_one_139 hr0 hr1 hr2 hr3 hr4 hr5 (am_ift e c) q))
theorem t_Model_one_130 {d : Nat} {rc : rc_Model_both} {x1 : Int32} {x2 : Int32} {h : am_H} {Q : am_Q} {res : Int32 × am_H} (hr0 : ∀  {h : am_H} {Q : am_Q} {res : Int32 × am_H}, rc.1 h = some res → Q (some (.int res.1)) res.2 → m_Model_both (d + 1) [.ref 0] h Q) (hr1 : ∀  {h : am_H} {Q : am_Q} {res : Int32 × am_H}, rc.2.1 h = some res → Q (some (.int res.1)) res.2 → m_Model_compared (d + 1) [.ref 0] h Q) (hr2 : ∀  {h : am_H} {Q : am_Q} {res : Int32 × am_H}, rc.2.2.1 h = some res → Q (some (.int res.1)) res.2 → m_Model_either (d + 1) [.ref 0] h Q) (hr3 : ∀  {h : am_H} {Q : am_Q} {res : Int32 × am_H}, rc.2.2.2.1 h = some res → Q (some (.int res.1)) res.2 → m_Model_one (d + 1) [.ref 0] h Q) (hr4 : ∀  {h : am_H} {Q : am_Q} {res : Int32 × am_H}, rc.2.2.2.2.1 h = some res → Q (some (.int res.1)) res.2 → m_Model_product (d + 1) [.ref 0] h Q) (hr5 : ∀  {h : am_H} {Q : am_Q} {res : Int32 × am_H}, rc.2.2.2.2.2 h = some res → Q (some (.int res.1)) res.2 → m_Model_sums (d + 1) [.ref 0] h Q) (e : f_Model_one_130 rc h x2 = some res) (q : Q (some (.int res.1)) res.2) : am_W (X_Model_one (d + 1 + 1)) 130 [some (.ref 0), some (.int x1), some (.int x2), none, none] [] h Q :=
  b_Model_one_130 (d := (d + 1 + 1)) (q := (am_rIpi (v := (-x2)) e q))
theorem t_Model_one_124 {d : Nat} {rc : rc_Model_both} {x1 : Int32} {x2 : Int32} {h : am_H} {Q : am_Q} {res : Int32 × am_H} (hr0 : ∀  {h : am_H} {Q : am_Q} {res : Int32 × am_H}, rc.1 h = some res → Q (some (.int res.1)) res.2 → m_Model_both (d + 1) [.ref 0] h Q) (hr1 : ∀  {h : am_H} {Q : am_Q} {res : Int32 × am_H}, rc.2.1 h = some res → Q (some (.int res.1)) res.2 → m_Model_compared (d + 1) [.ref 0] h Q) (hr2 : ∀  {h : am_H} {Q : am_Q} {res : Int32 × am_H}, rc.2.2.1 h = some res → Q (some (.int res.1)) res.2 → m_Model_either (d + 1) [.ref 0] h Q) (hr3 : ∀  {h : am_H} {Q : am_Q} {res : Int32 × am_H}, rc.2.2.2.1 h = some res → Q (some (.int res.1)) res.2 → m_Model_one (d + 1) [.ref 0] h Q) (hr4 : ∀  {h : am_H} {Q : am_Q} {res : Int32 × am_H}, rc.2.2.2.2.1 h = some res → Q (some (.int res.1)) res.2 → m_Model_product (d + 1) [.ref 0] h Q) (hr5 : ∀  {h : am_H} {Q : am_Q} {res : Int32 × am_H}, rc.2.2.2.2.2 h = some res → Q (some (.int res.1)) res.2 → m_Model_sums (d + 1) [.ref 0] h Q) (e : f_Model_one_124 rc h x1 x2 = some res) (q : Q (some (.int res.1)) res.2) : am_W (X_Model_one (d + 1 + 1)) 124 [some (.ref 0), some (.int x1), some (.int x2), none, none] [] h Q :=
  b_Model_one_124 (d := (d + 1 + 1)) (kt := fun c => (t_Model_one_135 hr0 hr1 hr2 hr3 hr4 hr5 (am_ife e c) q)) (kf := fun c => (t_Model_one_130 hr0 hr1 hr2 hr3 hr4 hr5 (am_ift e c) q))
theorem t_Model_one_120 {d : Nat} {rc : rc_Model_both} {x1 : Int32} {x2 : Int32} {h : am_H} {Q : am_Q} {res : Int32 × am_H} (hr0 : ∀  {h : am_H} {Q : am_Q} {res : Int32 × am_H}, rc.1 h = some res → Q (some (.int res.1)) res.2 → m_Model_both (d + 1) [.ref 0] h Q) (hr1 : ∀  {h : am_H} {Q : am_Q} {res : Int32 × am_H}, rc.2.1 h = some res → Q (some (.int res.1)) res.2 → m_Model_compared (d + 1) [.ref 0] h Q) (hr2 : ∀  {h : am_H} {Q : am_Q} {res : Int32 × am_H}, rc.2.2.1 h = some res → Q (some (.int res.1)) res.2 → m_Model_either (d + 1) [.ref 0] h Q) (hr3 : ∀  {h : am_H} {Q : am_Q} {res : Int32 × am_H}, rc.2.2.2.1 h = some res → Q (some (.int res.1)) res.2 → m_Model_one (d + 1) [.ref 0] h Q) (hr4 : ∀  {h : am_H} {Q : am_Q} {res : Int32 × am_H}, rc.2.2.2.2.1 h = some res → Q (some (.int res.1)) res.2 → m_Model_product (d + 1) [.ref 0] h Q) (hr5 : ∀  {h : am_H} {Q : am_Q} {res : Int32 × am_H}, rc.2.2.2.2.2 h = some res → Q (some (.int res.1)) res.2 → m_Model_sums (d + 1) [.ref 0] h Q) (e : f_Model_one_120 rc h x2 = some res) (q : Q (some (.int res.1)) res.2) : am_W (X_Model_one (d + 1 + 1)) 120 [some (.ref 0), some (.int x1), some (.int x2), none, none] [] h Q :=
  b_Model_one_120 (d := (d + 1 + 1)) (q := (am_rIpi (v := x2) e q))
theorem t_Model_one_104 {d : Nat} {rc : rc_Model_both} {x1 : Int32} {x2 : Int32} {h : am_H} {Q : am_Q} {res : Int32 × am_H} (hr0 : ∀  {h : am_H} {Q : am_Q} {res : Int32 × am_H}, rc.1 h = some res → Q (some (.int res.1)) res.2 → m_Model_both (d + 1) [.ref 0] h Q) (hr1 : ∀  {h : am_H} {Q : am_Q} {res : Int32 × am_H}, rc.2.1 h = some res → Q (some (.int res.1)) res.2 → m_Model_compared (d + 1) [.ref 0] h Q) (hr2 : ∀  {h : am_H} {Q : am_Q} {res : Int32 × am_H}, rc.2.2.1 h = some res → Q (some (.int res.1)) res.2 → m_Model_either (d + 1) [.ref 0] h Q) (hr3 : ∀  {h : am_H} {Q : am_Q} {res : Int32 × am_H}, rc.2.2.2.1 h = some res → Q (some (.int res.1)) res.2 → m_Model_one (d + 1) [.ref 0] h Q) (hr4 : ∀  {h : am_H} {Q : am_Q} {res : Int32 × am_H}, rc.2.2.2.2.1 h = some res → Q (some (.int res.1)) res.2 → m_Model_product (d + 1) [.ref 0] h Q) (hr5 : ∀  {h : am_H} {Q : am_Q} {res : Int32 × am_H}, rc.2.2.2.2.2 h = some res → Q (some (.int res.1)) res.2 → m_Model_sums (d + 1) [.ref 0] h Q) (e : f_Model_one_104 rc h x1 x2 = some res) (q : Q (some (.int res.1)) res.2) : am_W (X_Model_one (d + 1 + 1)) 104 [some (.ref 0), some (.int x1), some (.int x2), none, none] [] h Q :=
  b_Model_one_104 (d := (d + 1 + 1)) (kt := fun c => (t_Model_one_124 hr0 hr1 hr2 hr3 hr4 hr5 (am_ife e c) q)) (kf := fun c => (t_Model_one_120 hr0 hr1 hr2 hr3 hr4 hr5 (am_ift e c) q))
theorem t_Model_one_103 {d : Nat} {rc : rc_Model_both} {x1 : Int32} {x2 : Int32} {y0 : Int32} {h : am_H} {Q : am_Q} {res : Int32 × am_H} (hr0 : ∀  {h : am_H} {Q : am_Q} {res : Int32 × am_H}, rc.1 h = some res → Q (some (.int res.1)) res.2 → m_Model_both (d + 1) [.ref 0] h Q) (hr1 : ∀  {h : am_H} {Q : am_Q} {res : Int32 × am_H}, rc.2.1 h = some res → Q (some (.int res.1)) res.2 → m_Model_compared (d + 1) [.ref 0] h Q) (hr2 : ∀  {h : am_H} {Q : am_Q} {res : Int32 × am_H}, rc.2.2.1 h = some res → Q (some (.int res.1)) res.2 → m_Model_either (d + 1) [.ref 0] h Q) (hr3 : ∀  {h : am_H} {Q : am_Q} {res : Int32 × am_H}, rc.2.2.2.1 h = some res → Q (some (.int res.1)) res.2 → m_Model_one (d + 1) [.ref 0] h Q) (hr4 : ∀  {h : am_H} {Q : am_Q} {res : Int32 × am_H}, rc.2.2.2.2.1 h = some res → Q (some (.int res.1)) res.2 → m_Model_product (d + 1) [.ref 0] h Q) (hr5 : ∀  {h : am_H} {Q : am_Q} {res : Int32 × am_H}, rc.2.2.2.2.2 h = some res → Q (some (.int res.1)) res.2 → m_Model_sums (d + 1) [.ref 0] h Q) (e : f_Model_one_103 rc h y0 = some res) (q : Q (some (.int res.1)) res.2) : am_W (X_Model_one (d + 1 + 1)) 103 [some (.ref 0), some (.int x1), some (.int x2), none, none] [.int y0] h Q :=
  b_Model_one_103 (d := (d + 1 + 1)) (q := (am_rIpi (v := y0) e q))
theorem t_Model_one_99 {d : Nat} {rc : rc_Model_both} {x1 : Int32} {x2 : Int32} {h : am_H} {Q : am_Q} {res : Int32 × am_H} (hr0 : ∀  {h : am_H} {Q : am_Q} {res : Int32 × am_H}, rc.1 h = some res → Q (some (.int res.1)) res.2 → m_Model_both (d + 1) [.ref 0] h Q) (hr1 : ∀  {h : am_H} {Q : am_Q} {res : Int32 × am_H}, rc.2.1 h = some res → Q (some (.int res.1)) res.2 → m_Model_compared (d + 1) [.ref 0] h Q) (hr2 : ∀  {h : am_H} {Q : am_Q} {res : Int32 × am_H}, rc.2.2.1 h = some res → Q (some (.int res.1)) res.2 → m_Model_either (d + 1) [.ref 0] h Q) (hr3 : ∀  {h : am_H} {Q : am_Q} {res : Int32 × am_H}, rc.2.2.2.1 h = some res → Q (some (.int res.1)) res.2 → m_Model_one (d + 1) [.ref 0] h Q) (hr4 : ∀  {h : am_H} {Q : am_Q} {res : Int32 × am_H}, rc.2.2.2.2.1 h = some res → Q (some (.int res.1)) res.2 → m_Model_product (d + 1) [.ref 0] h Q) (hr5 : ∀  {h : am_H} {Q : am_Q} {res : Int32 × am_H}, rc.2.2.2.2.2 h = some res → Q (some (.int res.1)) res.2 → m_Model_sums (d + 1) [.ref 0] h Q) (e : f_Model_one_99 rc h = some res) (q : Q (some (.int res.1)) res.2) : am_W (X_Model_one (d + 1 + 1)) 99 [some (.ref 0), some (.int x1), some (.int x2), none, none] [] h Q :=
  b_Model_one_99 (d := (d + 1)) (k := c_Model_wrong (d := d + 1) rfl (t_Model_one_103 hr0 hr1 hr2 hr3 hr4 hr5 e q))
theorem t_Model_one_96 {d : Nat} {rc : rc_Model_both} {x1 : Int32} {x2 : Int32} {y0 : Bool} {h : am_H} {Q : am_Q} {res : Int32 × am_H} (hr0 : ∀  {h : am_H} {Q : am_Q} {res : Int32 × am_H}, rc.1 h = some res → Q (some (.int res.1)) res.2 → m_Model_both (d + 1) [.ref 0] h Q) (hr1 : ∀  {h : am_H} {Q : am_Q} {res : Int32 × am_H}, rc.2.1 h = some res → Q (some (.int res.1)) res.2 → m_Model_compared (d + 1) [.ref 0] h Q) (hr2 : ∀  {h : am_H} {Q : am_Q} {res : Int32 × am_H}, rc.2.2.1 h = some res → Q (some (.int res.1)) res.2 → m_Model_either (d + 1) [.ref 0] h Q) (hr3 : ∀  {h : am_H} {Q : am_Q} {res : Int32 × am_H}, rc.2.2.2.1 h = some res → Q (some (.int res.1)) res.2 → m_Model_one (d + 1) [.ref 0] h Q) (hr4 : ∀  {h : am_H} {Q : am_Q} {res : Int32 × am_H}, rc.2.2.2.2.1 h = some res → Q (some (.int res.1)) res.2 → m_Model_product (d + 1) [.ref 0] h Q) (hr5 : ∀  {h : am_H} {Q : am_Q} {res : Int32 × am_H}, rc.2.2.2.2.2 h = some res → Q (some (.int res.1)) res.2 → m_Model_sums (d + 1) [.ref 0] h Q) (e : f_Model_one_96 rc h x1 x2 y0 = some res) (q : Q (some (.int res.1)) res.2) : am_W (X_Model_one (d + 1 + 1)) 96 [some (.ref 0), some (.int x1), some (.int x2), none, none] [.int (am_b y0)] h Q :=
  b_Model_one_96 (d := (d + 1 + 1)) (kt := fun c => (t_Model_one_104 hr0 hr1 hr2 hr3 hr4 hr5 (am_ift e (am_bn c)) q)) (kf := fun c => (t_Model_one_99 hr0 hr1 hr2 hr3 hr4 hr5 (am_iff e (am_bz c)) q))
theorem t_Model_one_90 {d : Nat} {rc : rc_Model_both} {x1 : Int32} {x2 : Int32} {h : am_H} {Q : am_Q} {res : Int32 × am_H} (hr0 : ∀  {h : am_H} {Q : am_Q} {res : Int32 × am_H}, rc.1 h = some res → Q (some (.int res.1)) res.2 → m_Model_both (d + 1) [.ref 0] h Q) (hr1 : ∀  {h : am_H} {Q : am_Q} {res : Int32 × am_H}, rc.2.1 h = some res → Q (some (.int res.1)) res.2 → m_Model_compared (d + 1) [.ref 0] h Q) (hr2 : ∀  {h : am_H} {Q : am_Q} {res : Int32 × am_H}, rc.2.2.1 h = some res → Q (some (.int res.1)) res.2 → m_Model_either (d + 1) [.ref 0] h Q) (hr3 : ∀  {h : am_H} {Q : am_Q} {res : Int32 × am_H}, rc.2.2.2.1 h = some res → Q (some (.int res.1)) res.2 → m_Model_one (d + 1) [.ref 0] h Q) (hr4 : ∀  {h : am_H} {Q : am_Q} {res : Int32 × am_H}, rc.2.2.2.2.1 h = some res → Q (some (.int res.1)) res.2 → m_Model_product (d + 1) [.ref 0] h Q) (hr5 : ∀  {h : am_H} {Q : am_Q} {res : Int32 × am_H}, rc.2.2.2.2.2 h = some res → Q (some (.int res.1)) res.2 → m_Model_sums (d + 1) [.ref 0] h Q) (e : f_Model_one_90 rc h x1 x2 = some res) (q : Q (some (.int res.1)) res.2) : am_W (X_Model_one (d + 1 + 1)) 90 [some (.ref 0), some (.int x1), some (.int x2), none, none] [] h Q :=
  (am_bd e).elim fun p hp => b_Model_one_90 (d := (d + 1)) (k := c_Model_takes (d := d) hp.1 (t_Model_one_96 hr0 hr1 hr2 hr3 hr4 hr5 hp.2 q))
theorem t_Model_one_83 {d : Nat} {rc : rc_Model_both} {x1 : Int32} {y0 : Int32} {h : am_H} {Q : am_Q} {res : Int32 × am_H} (hr0 : ∀  {h : am_H} {Q : am_Q} {res : Int32 × am_H}, rc.1 h = some res → Q (some (.int res.1)) res.2 → m_Model_both (d + 1) [.ref 0] h Q) (hr1 : ∀  {h : am_H} {Q : am_Q} {res : Int32 × am_H}, rc.2.1 h = some res → Q (some (.int res.1)) res.2 → m_Model_compared (d + 1) [.ref 0] h Q) (hr2 : ∀  {h : am_H} {Q : am_Q} {res : Int32 × am_H}, rc.2.2.1 h = some res → Q (some (.int res.1)) res.2 → m_Model_either (d + 1) [.ref 0] h Q) (hr3 : ∀  {h : am_H} {Q : am_Q} {res : Int32 × am_H}, rc.2.2.2.1 h = some res → Q (some (.int res.1)) res.2 → m_Model_one (d + 1) [.ref 0] h Q) (hr4 : ∀  {h : am_H} {Q : am_Q} {res : Int32 × am_H}, rc.2.2.2.2.1 h = some res → Q (some (.int res.1)) res.2 → m_Model_product (d + 1) [.ref 0] h Q) (hr5 : ∀  {h : am_H} {Q : am_Q} {res : Int32 × am_H}, rc.2.2.2.2.2 h = some res → Q (some (.int res.1)) res.2 → m_Model_sums (d + 1) [.ref 0] h Q) (e : f_Model_one_83 rc h x1 y0 = some res) (q : Q (some (.int res.1)) res.2) : am_W (X_Model_one (d + 1 + 1)) 83 [some (.ref 0), some (.int x1), none, none, none] [.int y0] h Q :=
  b_Model_one_83 (d := (d + 1 + 1)) (kt := fun c => (t_Model_one_104 hr0 hr1 hr2 hr3 hr4 hr5 (am_ife e c) q)) (kf := fun c => (t_Model_one_90 hr0 hr1 hr2 hr3 hr4 hr5 (am_ift e c) q))
theorem t_Model_one_79 {d : Nat} {rc : rc_Model_both} {x1 : Int32} {h : am_H} {Q : am_Q} {res : Int32 × am_H} (hr0 : ∀  {h : am_H} {Q : am_Q} {res : Int32 × am_H}, rc.1 h = some res → Q (some (.int res.1)) res.2 → m_Model_both (d + 1) [.ref 0] h Q) (hr1 : ∀  {h : am_H} {Q : am_Q} {res : Int32 × am_H}, rc.2.1 h = some res → Q (some (.int res.1)) res.2 → m_Model_compared (d + 1) [.ref 0] h Q) (hr2 : ∀  {h : am_H} {Q : am_Q} {res : Int32 × am_H}, rc.2.2.1 h = some res → Q (some (.int res.1)) res.2 → m_Model_either (d + 1) [.ref 0] h Q) (hr3 : ∀  {h : am_H} {Q : am_Q} {res : Int32 × am_H}, rc.2.2.2.1 h = some res → Q (some (.int res.1)) res.2 → m_Model_one (d + 1) [.ref 0] h Q) (hr4 : ∀  {h : am_H} {Q : am_Q} {res : Int32 × am_H}, rc.2.2.2.2.1 h = some res → Q (some (.int res.1)) res.2 → m_Model_product (d + 1) [.ref 0] h Q) (hr5 : ∀  {h : am_H} {Q : am_Q} {res : Int32 × am_H}, rc.2.2.2.2.2 h = some res → Q (some (.int res.1)) res.2 → m_Model_sums (d + 1) [.ref 0] h Q) (e : f_Model_one_79 rc h x1 = some res) (q : Q (some (.int res.1)) res.2) : am_W (X_Model_one (d + 1 + 1)) 79 [some (.ref 0), some (.int x1), none, none, none] [] h Q :=
  (am_bd e).elim fun p hp => b_Model_one_79 (d := (d + 1)) (k := hr3 hp.1 (t_Model_one_83 hr0 hr1 hr2 hr3 hr4 hr5 hp.2 q))
theorem t_Model_one_76 {d : Nat} {rc : rc_Model_both} {x1 : Int32} {y0 : Int32} {h : am_H} {Q : am_Q} {res : Int32 × am_H} (hr0 : ∀  {h : am_H} {Q : am_Q} {res : Int32 × am_H}, rc.1 h = some res → Q (some (.int res.1)) res.2 → m_Model_both (d + 1) [.ref 0] h Q) (hr1 : ∀  {h : am_H} {Q : am_Q} {res : Int32 × am_H}, rc.2.1 h = some res → Q (some (.int res.1)) res.2 → m_Model_compared (d + 1) [.ref 0] h Q) (hr2 : ∀  {h : am_H} {Q : am_Q} {res : Int32 × am_H}, rc.2.2.1 h = some res → Q (some (.int res.1)) res.2 → m_Model_either (d + 1) [.ref 0] h Q) (hr3 : ∀  {h : am_H} {Q : am_Q} {res : Int32 × am_H}, rc.2.2.2.1 h = some res → Q (some (.int res.1)) res.2 → m_Model_one (d + 1) [.ref 0] h Q) (hr4 : ∀  {h : am_H} {Q : am_Q} {res : Int32 × am_H}, rc.2.2.2.2.1 h = some res → Q (some (.int res.1)) res.2 → m_Model_product (d + 1) [.ref 0] h Q) (hr5 : ∀  {h : am_H} {Q : am_Q} {res : Int32 × am_H}, rc.2.2.2.2.2 h = some res → Q (some (.int res.1)) res.2 → m_Model_sums (d + 1) [.ref 0] h Q) (e : f_Model_one_76 rc h x1 y0 = some res) (q : Q (some (.int res.1)) res.2) : am_W (X_Model_one (d + 1 + 1)) 76 [some (.ref 0), some (.int x1), none, none, none] [.int y0] h Q :=
  b_Model_one_76 (d := (d + 1 + 1)) (k := (t_Model_one_83 hr0 hr1 hr2 hr3 hr4 hr5 e q))
theorem t_Model_one_72 {d : Nat} {rc : rc_Model_both} {x1 : Int32} {h : am_H} {Q : am_Q} {res : Int32 × am_H} (hr0 : ∀  {h : am_H} {Q : am_Q} {res : Int32 × am_H}, rc.1 h = some res → Q (some (.int res.1)) res.2 → m_Model_both (d + 1) [.ref 0] h Q) (hr1 : ∀  {h : am_H} {Q : am_Q} {res : Int32 × am_H}, rc.2.1 h = some res → Q (some (.int res.1)) res.2 → m_Model_compared (d + 1) [.ref 0] h Q) (hr2 : ∀  {h : am_H} {Q : am_Q} {res : Int32 × am_H}, rc.2.2.1 h = some res → Q (some (.int res.1)) res.2 → m_Model_either (d + 1) [.ref 0] h Q) (hr3 : ∀  {h : am_H} {Q : am_Q} {res : Int32 × am_H}, rc.2.2.2.1 h = some res → Q (some (.int res.1)) res.2 → m_Model_one (d + 1) [.ref 0] h Q) (hr4 : ∀  {h : am_H} {Q : am_Q} {res : Int32 × am_H}, rc.2.2.2.2.1 h = some res → Q (some (.int res.1)) res.2 → m_Model_product (d + 1) [.ref 0] h Q) (hr5 : ∀  {h : am_H} {Q : am_Q} {res : Int32 × am_H}, rc.2.2.2.2.2 h = some res → Q (some (.int res.1)) res.2 → m_Model_sums (d + 1) [.ref 0] h Q) (e : f_Model_one_72 rc h x1 = some res) (q : Q (some (.int res.1)) res.2) : am_W (X_Model_one (d + 1 + 1)) 72 [some (.ref 0), some (.int x1), none, none, none] [] h Q :=
  (am_bd e).elim fun p hp => b_Model_one_72 (d := (d + 1)) (k := hr2 hp.1 (t_Model_one_76 hr0 hr1 hr2 hr3 hr4 hr5 hp.2 q))
theorem t_Model_one_46 {d : Nat} {rc : rc_Model_both} {x1 : Int32} {h : am_H} {Q : am_Q} {res : Int32 × am_H} (hr0 : ∀  {h : am_H} {Q : am_Q} {res : Int32 × am_H}, rc.1 h = some res → Q (some (.int res.1)) res.2 → m_Model_both (d + 1) [.ref 0] h Q) (hr1 : ∀  {h : am_H} {Q : am_Q} {res : Int32 × am_H}, rc.2.1 h = some res → Q (some (.int res.1)) res.2 → m_Model_compared (d + 1) [.ref 0] h Q) (hr2 : ∀  {h : am_H} {Q : am_Q} {res : Int32 × am_H}, rc.2.2.1 h = some res → Q (some (.int res.1)) res.2 → m_Model_either (d + 1) [.ref 0] h Q) (hr3 : ∀  {h : am_H} {Q : am_Q} {res : Int32 × am_H}, rc.2.2.2.1 h = some res → Q (some (.int res.1)) res.2 → m_Model_one (d + 1) [.ref 0] h Q) (hr4 : ∀  {h : am_H} {Q : am_Q} {res : Int32 × am_H}, rc.2.2.2.2.1 h = some res → Q (some (.int res.1)) res.2 → m_Model_product (d + 1) [.ref 0] h Q) (hr5 : ∀  {h : am_H} {Q : am_Q} {res : Int32 × am_H}, rc.2.2.2.2.2 h = some res → Q (some (.int res.1)) res.2 → m_Model_sums (d + 1) [.ref 0] h Q) (e : f_Model_one_46 rc h x1 = some res) (q : Q (some (.int res.1)) res.2) : am_W (X_Model_one (d + 1 + 1)) 46 [some (.ref 0), some (.int x1), none, none, none] [] h Q :=
  b_Model_one_46 (d := (d + 1 + 1)) (kt := fun c => (t_Model_one_79 hr0 hr1 hr2 hr3 hr4 hr5 (am_ife e c) q)) (kf := fun c => (t_Model_one_72 hr0 hr1 hr2 hr3 hr4 hr5 (am_ift e c) q))
theorem t_Model_one_45 {d : Nat} {rc : rc_Model_both} {x1 : Int32} {y0 : Int32} {h : am_H} {Q : am_Q} {res : Int32 × am_H} (hr0 : ∀  {h : am_H} {Q : am_Q} {res : Int32 × am_H}, rc.1 h = some res → Q (some (.int res.1)) res.2 → m_Model_both (d + 1) [.ref 0] h Q) (hr1 : ∀  {h : am_H} {Q : am_Q} {res : Int32 × am_H}, rc.2.1 h = some res → Q (some (.int res.1)) res.2 → m_Model_compared (d + 1) [.ref 0] h Q) (hr2 : ∀  {h : am_H} {Q : am_Q} {res : Int32 × am_H}, rc.2.2.1 h = some res → Q (some (.int res.1)) res.2 → m_Model_either (d + 1) [.ref 0] h Q) (hr3 : ∀  {h : am_H} {Q : am_Q} {res : Int32 × am_H}, rc.2.2.2.1 h = some res → Q (some (.int res.1)) res.2 → m_Model_one (d + 1) [.ref 0] h Q) (hr4 : ∀  {h : am_H} {Q : am_Q} {res : Int32 × am_H}, rc.2.2.2.2.1 h = some res → Q (some (.int res.1)) res.2 → m_Model_product (d + 1) [.ref 0] h Q) (hr5 : ∀  {h : am_H} {Q : am_Q} {res : Int32 × am_H}, rc.2.2.2.2.2 h = some res → Q (some (.int res.1)) res.2 → m_Model_sums (d + 1) [.ref 0] h Q) (e : f_Model_one_45 rc h y0 = some res) (q : Q (some (.int res.1)) res.2) : am_W (X_Model_one (d + 1 + 1)) 45 [some (.ref 0), some (.int x1), none, none, none] [.int y0] h Q :=
  b_Model_one_45 (d := (d + 1 + 1)) (q := (am_rIpi (v := y0) e q))
theorem t_Model_one_41 {d : Nat} {rc : rc_Model_both} {x1 : Int32} {h : am_H} {Q : am_Q} {res : Int32 × am_H} (hr0 : ∀  {h : am_H} {Q : am_Q} {res : Int32 × am_H}, rc.1 h = some res → Q (some (.int res.1)) res.2 → m_Model_both (d + 1) [.ref 0] h Q) (hr1 : ∀  {h : am_H} {Q : am_Q} {res : Int32 × am_H}, rc.2.1 h = some res → Q (some (.int res.1)) res.2 → m_Model_compared (d + 1) [.ref 0] h Q) (hr2 : ∀  {h : am_H} {Q : am_Q} {res : Int32 × am_H}, rc.2.2.1 h = some res → Q (some (.int res.1)) res.2 → m_Model_either (d + 1) [.ref 0] h Q) (hr3 : ∀  {h : am_H} {Q : am_Q} {res : Int32 × am_H}, rc.2.2.2.1 h = some res → Q (some (.int res.1)) res.2 → m_Model_one (d + 1) [.ref 0] h Q) (hr4 : ∀  {h : am_H} {Q : am_Q} {res : Int32 × am_H}, rc.2.2.2.2.1 h = some res → Q (some (.int res.1)) res.2 → m_Model_product (d + 1) [.ref 0] h Q) (hr5 : ∀  {h : am_H} {Q : am_Q} {res : Int32 × am_H}, rc.2.2.2.2.2 h = some res → Q (some (.int res.1)) res.2 → m_Model_sums (d + 1) [.ref 0] h Q) (e : f_Model_one_41 rc h = some res) (q : Q (some (.int res.1)) res.2) : am_W (X_Model_one (d + 1 + 1)) 41 [some (.ref 0), some (.int x1), none, none, none] [] h Q :=
  b_Model_one_41 (d := (d + 1)) (k := c_Model_wrong (d := d + 1) rfl (t_Model_one_45 hr0 hr1 hr2 hr3 hr4 hr5 e q))
theorem t_Model_one_32 {d : Nat} {rc : rc_Model_both} {x1 : Int32} {h : am_H} {Q : am_Q} {res : Int32 × am_H} (hr0 : ∀  {h : am_H} {Q : am_Q} {res : Int32 × am_H}, rc.1 h = some res → Q (some (.int res.1)) res.2 → m_Model_both (d + 1) [.ref 0] h Q) (hr1 : ∀  {h : am_H} {Q : am_Q} {res : Int32 × am_H}, rc.2.1 h = some res → Q (some (.int res.1)) res.2 → m_Model_compared (d + 1) [.ref 0] h Q) (hr2 : ∀  {h : am_H} {Q : am_Q} {res : Int32 × am_H}, rc.2.2.1 h = some res → Q (some (.int res.1)) res.2 → m_Model_either (d + 1) [.ref 0] h Q) (hr3 : ∀  {h : am_H} {Q : am_Q} {res : Int32 × am_H}, rc.2.2.2.1 h = some res → Q (some (.int res.1)) res.2 → m_Model_one (d + 1) [.ref 0] h Q) (hr4 : ∀  {h : am_H} {Q : am_Q} {res : Int32 × am_H}, rc.2.2.2.2.1 h = some res → Q (some (.int res.1)) res.2 → m_Model_product (d + 1) [.ref 0] h Q) (hr5 : ∀  {h : am_H} {Q : am_Q} {res : Int32 × am_H}, rc.2.2.2.2.2 h = some res → Q (some (.int res.1)) res.2 → m_Model_sums (d + 1) [.ref 0] h Q) (e : f_Model_one_32 rc h x1 = some res) (q : Q (some (.int res.1)) res.2) : am_W (X_Model_one (d + 1 + 1)) 32 [some (.ref 0), some (.int x1), none, none, none] [] h Q :=
  b_Model_one_32 (d := (d + 1 + 1)) (kt := fun c => (t_Model_one_46 hr0 hr1 hr2 hr3 hr4 hr5 (am_ife e c) q)) (kf := fun c => (t_Model_one_41 hr0 hr1 hr2 hr3 hr4 hr5 (am_ift e c) q))
theorem t_Model_one_241 {d : Nat} {rc : rc_Model_both} {x1 : Int32} {x2 : Int32} {x3 : Int32} {x4 : Int32} {h : am_H} {Q : am_Q} {res : Int32 × am_H} (hr0 : ∀  {h : am_H} {Q : am_Q} {res : Int32 × am_H}, rc.1 h = some res → Q (some (.int res.1)) res.2 → m_Model_both (d + 1) [.ref 0] h Q) (hr1 : ∀  {h : am_H} {Q : am_Q} {res : Int32 × am_H}, rc.2.1 h = some res → Q (some (.int res.1)) res.2 → m_Model_compared (d + 1) [.ref 0] h Q) (hr2 : ∀  {h : am_H} {Q : am_Q} {res : Int32 × am_H}, rc.2.2.1 h = some res → Q (some (.int res.1)) res.2 → m_Model_either (d + 1) [.ref 0] h Q) (hr3 : ∀  {h : am_H} {Q : am_Q} {res : Int32 × am_H}, rc.2.2.2.1 h = some res → Q (some (.int res.1)) res.2 → m_Model_one (d + 1) [.ref 0] h Q) (hr4 : ∀  {h : am_H} {Q : am_Q} {res : Int32 × am_H}, rc.2.2.2.2.1 h = some res → Q (some (.int res.1)) res.2 → m_Model_product (d + 1) [.ref 0] h Q) (hr5 : ∀  {h : am_H} {Q : am_Q} {res : Int32 × am_H}, rc.2.2.2.2.2 h = some res → Q (some (.int res.1)) res.2 → m_Model_sums (d + 1) [.ref 0] h Q) (e : f_Model_one_241 rc h x3 = some res) (q : Q (some (.int res.1)) res.2) : am_W (X_Model_one (d + 1 + 1)) 241 [some (.ref 0), some (.int x1), some (.int x2), some (.int x3), some (.int x4)] [] h Q :=
  b_Model_one_241 (d := (d + 1 + 1)) (q := (am_rIpi (v := x3) e q))
theorem t_Model_one_238 {d : Nat} {rc : rc_Model_both} {x1 : Int32} {x2 : Int32} {x3 : Int32} {x4 : Int32} {y0 : Int32} {h : am_H} {Q : am_Q} {res : Int32 × am_H} (hr0 : ∀  {h : am_H} {Q : am_Q} {res : Int32 × am_H}, rc.1 h = some res → Q (some (.int res.1)) res.2 → m_Model_both (d + 1) [.ref 0] h Q) (hr1 : ∀  {h : am_H} {Q : am_Q} {res : Int32 × am_H}, rc.2.1 h = some res → Q (some (.int res.1)) res.2 → m_Model_compared (d + 1) [.ref 0] h Q) (hr2 : ∀  {h : am_H} {Q : am_Q} {res : Int32 × am_H}, rc.2.2.1 h = some res → Q (some (.int res.1)) res.2 → m_Model_either (d + 1) [.ref 0] h Q) (hr3 : ∀  {h : am_H} {Q : am_Q} {res : Int32 × am_H}, rc.2.2.2.1 h = some res → Q (some (.int res.1)) res.2 → m_Model_one (d + 1) [.ref 0] h Q) (hr4 : ∀  {h : am_H} {Q : am_Q} {res : Int32 × am_H}, rc.2.2.2.2.1 h = some res → Q (some (.int res.1)) res.2 → m_Model_product (d + 1) [.ref 0] h Q) (hr5 : ∀  {h : am_H} {Q : am_Q} {res : Int32 × am_H}, rc.2.2.2.2.2 h = some res → Q (some (.int res.1)) res.2 → m_Model_sums (d + 1) [.ref 0] h Q) (e : f_Model_one_238 rc h y0 = some res) (q : Q (some (.int res.1)) res.2) : am_W (X_Model_one (d + 1 + 1)) 238 [some (.ref 0), some (.int x1), some (.int x2), some (.int x3), some (.int x4)] [.int y0] h Q :=
  b_Model_one_238 (d := (d + 1 + 1)) (q := (am_rIpi (v := y0) e q))
theorem t_Model_one_234 {d : Nat} {rc : rc_Model_both} {x1 : Int32} {x2 : Int32} {x3 : Int32} {x4 : Int32} {h : am_H} {Q : am_Q} {res : Int32 × am_H} (hr0 : ∀  {h : am_H} {Q : am_Q} {res : Int32 × am_H}, rc.1 h = some res → Q (some (.int res.1)) res.2 → m_Model_both (d + 1) [.ref 0] h Q) (hr1 : ∀  {h : am_H} {Q : am_Q} {res : Int32 × am_H}, rc.2.1 h = some res → Q (some (.int res.1)) res.2 → m_Model_compared (d + 1) [.ref 0] h Q) (hr2 : ∀  {h : am_H} {Q : am_Q} {res : Int32 × am_H}, rc.2.2.1 h = some res → Q (some (.int res.1)) res.2 → m_Model_either (d + 1) [.ref 0] h Q) (hr3 : ∀  {h : am_H} {Q : am_Q} {res : Int32 × am_H}, rc.2.2.2.1 h = some res → Q (some (.int res.1)) res.2 → m_Model_one (d + 1) [.ref 0] h Q) (hr4 : ∀  {h : am_H} {Q : am_Q} {res : Int32 × am_H}, rc.2.2.2.2.1 h = some res → Q (some (.int res.1)) res.2 → m_Model_product (d + 1) [.ref 0] h Q) (hr5 : ∀  {h : am_H} {Q : am_Q} {res : Int32 × am_H}, rc.2.2.2.2.2 h = some res → Q (some (.int res.1)) res.2 → m_Model_sums (d + 1) [.ref 0] h Q) (e : f_Model_one_234 rc h = some res) (q : Q (some (.int res.1)) res.2) : am_W (X_Model_one (d + 1 + 1)) 234 [some (.ref 0), some (.int x1), some (.int x2), some (.int x3), some (.int x4)] [] h Q :=
  b_Model_one_234 (d := (d + 1)) (k := c_Model_wrong (d := d + 1) rfl (t_Model_one_238 hr0 hr1 hr2 hr3 hr4 hr5 e q))
theorem t_Model_one_229 {d : Nat} {rc : rc_Model_both} {x1 : Int32} {x2 : Int32} {x3 : Int32} {x4 : Int32} {h : am_H} {Q : am_Q} {res : Int32 × am_H} (hr0 : ∀  {h : am_H} {Q : am_Q} {res : Int32 × am_H}, rc.1 h = some res → Q (some (.int res.1)) res.2 → m_Model_both (d + 1) [.ref 0] h Q) (hr1 : ∀  {h : am_H} {Q : am_Q} {res : Int32 × am_H}, rc.2.1 h = some res → Q (some (.int res.1)) res.2 → m_Model_compared (d + 1) [.ref 0] h Q) (hr2 : ∀  {h : am_H} {Q : am_Q} {res : Int32 × am_H}, rc.2.2.1 h = some res → Q (some (.int res.1)) res.2 → m_Model_either (d + 1) [.ref 0] h Q) (hr3 : ∀  {h : am_H} {Q : am_Q} {res : Int32 × am_H}, rc.2.2.2.1 h = some res → Q (some (.int res.1)) res.2 → m_Model_one (d + 1) [.ref 0] h Q) (hr4 : ∀  {h : am_H} {Q : am_Q} {res : Int32 × am_H}, rc.2.2.2.2.1 h = some res → Q (some (.int res.1)) res.2 → m_Model_product (d + 1) [.ref 0] h Q) (hr5 : ∀  {h : am_H} {Q : am_Q} {res : Int32 × am_H}, rc.2.2.2.2.2 h = some res → Q (some (.int res.1)) res.2 → m_Model_sums (d + 1) [.ref 0] h Q) (e : f_Model_one_229 rc h x3 x4 = some res) (q : Q (some (.int res.1)) res.2) : am_W (X_Model_one (d + 1 + 1)) 229 [some (.ref 0), some (.int x1), some (.int x2), some (.int x3), some (.int x4)] [] h Q :=
  b_Model_one_229 (d := (d + 1 + 1)) (kt := fun c => (t_Model_one_241 hr0 hr1 hr2 hr3 hr4 hr5 (am_ife e c) q)) (kf := fun c => (t_Model_one_234 hr0 hr1 hr2 hr3 hr4 hr5 (am_ift e c) q))
theorem t_Model_one_208 {d : Nat} {rc : rc_Model_both} {k176 : am_H → Int32 → Int32 → Option (Int32 × am_H)} {x1 : Int32} {x2 : Int32} {x3 : Int32} {x4 : Int32} {y1 : Int32} {y0 : Int32} {h : am_H} {Q : am_Q} {res : Int32 × am_H} (hr0 : ∀  {h : am_H} {Q : am_Q} {res : Int32 × am_H}, rc.1 h = some res → Q (some (.int res.1)) res.2 → m_Model_both (d + 1) [.ref 0] h Q) (hr1 : ∀  {h : am_H} {Q : am_Q} {res : Int32 × am_H}, rc.2.1 h = some res → Q (some (.int res.1)) res.2 → m_Model_compared (d + 1) [.ref 0] h Q) (hr2 : ∀  {h : am_H} {Q : am_Q} {res : Int32 × am_H}, rc.2.2.1 h = some res → Q (some (.int res.1)) res.2 → m_Model_either (d + 1) [.ref 0] h Q) (hr3 : ∀  {h : am_H} {Q : am_Q} {res : Int32 × am_H}, rc.2.2.2.1 h = some res → Q (some (.int res.1)) res.2 → m_Model_one (d + 1) [.ref 0] h Q) (hr4 : ∀  {h : am_H} {Q : am_Q} {res : Int32 × am_H}, rc.2.2.2.2.1 h = some res → Q (some (.int res.1)) res.2 → m_Model_product (d + 1) [.ref 0] h Q) (hr5 : ∀  {h : am_H} {Q : am_Q} {res : Int32 × am_H}, rc.2.2.2.2.2 h = some res → Q (some (.int res.1)) res.2 → m_Model_sums (d + 1) [.ref 0] h Q) (hk176 : ∀ (x1 : Int32) (x2 : Int32) (x3 : Int32) (x4 : Int32) (h : am_H), k176 h x3 x4 = some res → am_W (X_Model_one (d + 1 + 1)) 176 [some (.ref 0), some (.int x1), some (.int x2), some (.int x3), some (.int x4)] [] h Q) (e : f_Model_one_208 rc k176 h x4 y1 y0 = some res) (q : Q (some (.int res.1)) res.2) : am_W (X_Model_one (d + 1 + 1)) 208 [some (.ref 0), some (.int x1), some (.int x2), some (.int x3), some (.int x4)] [.int y1, .int y0] h Q :=
  b_Model_one_208 (d := (d + 1 + 1)) (k := (hk176 _ _ _ _ _ e))
theorem t_Model_one_200 {d : Nat} {rc : rc_Model_both} {k176 : am_H → Int32 → Int32 → Option (Int32 × am_H)} {x1 : Int32} {x2 : Int32} {x3 : Int32} {x4 : Int32} {h : am_H} {Q : am_Q} {res : Int32 × am_H} (hr0 : ∀  {h : am_H} {Q : am_Q} {res : Int32 × am_H}, rc.1 h = some res → Q (some (.int res.1)) res.2 → m_Model_both (d + 1) [.ref 0] h Q) (hr1 : ∀  {h : am_H} {Q : am_Q} {res : Int32 × am_H}, rc.2.1 h = some res → Q (some (.int res.1)) res.2 → m_Model_compared (d + 1) [.ref 0] h Q) (hr2 : ∀  {h : am_H} {Q : am_Q} {res : Int32 × am_H}, rc.2.2.1 h = some res → Q (some (.int res.1)) res.2 → m_Model_either (d + 1) [.ref 0] h Q) (hr3 : ∀  {h : am_H} {Q : am_Q} {res : Int32 × am_H}, rc.2.2.2.1 h = some res → Q (some (.int res.1)) res.2 → m_Model_one (d + 1) [.ref 0] h Q) (hr4 : ∀  {h : am_H} {Q : am_Q} {res : Int32 × am_H}, rc.2.2.2.2.1 h = some res → Q (some (.int res.1)) res.2 → m_Model_product (d + 1) [.ref 0] h Q) (hr5 : ∀  {h : am_H} {Q : am_Q} {res : Int32 × am_H}, rc.2.2.2.2.2 h = some res → Q (some (.int res.1)) res.2 → m_Model_sums (d + 1) [.ref 0] h Q) (hk176 : ∀ (x1 : Int32) (x2 : Int32) (x3 : Int32) (x4 : Int32) (h : am_H), k176 h x3 x4 = some res → am_W (X_Model_one (d + 1 + 1)) 176 [some (.ref 0), some (.int x1), some (.int x2), some (.int x3), some (.int x4)] [] h Q) (e : f_Model_one_200 rc k176 h x3 x4 = some res) (q : Q (some (.int res.1)) res.2) : am_W (X_Model_one (d + 1 + 1)) 200 [some (.ref 0), some (.int x1), some (.int x2), some (.int x3), some (.int x4)] [] h Q :=
  (am_bd e).elim fun p hp => b_Model_one_200 (d := (d + 1)) (k := c_Model_byteAt (d := d + 1) hp.1 (t_Model_one_208 hr0 hr1 hr2 hr3 hr4 hr5 hk176 hp.2 q))
theorem t_Model_one_195 {d : Nat} {rc : rc_Model_both} {k176 : am_H → Int32 → Int32 → Option (Int32 × am_H)} {x1 : Int32} {x2 : Int32} {x3 : Int32} {x4 : Int32} {y0 : Int32} {h : am_H} {Q : am_Q} {res : Int32 × am_H} (hr0 : ∀  {h : am_H} {Q : am_Q} {res : Int32 × am_H}, rc.1 h = some res → Q (some (.int res.1)) res.2 → m_Model_both (d + 1) [.ref 0] h Q) (hr1 : ∀  {h : am_H} {Q : am_Q} {res : Int32 × am_H}, rc.2.1 h = some res → Q (some (.int res.1)) res.2 → m_Model_compared (d + 1) [.ref 0] h Q) (hr2 : ∀  {h : am_H} {Q : am_Q} {res : Int32 × am_H}, rc.2.2.1 h = some res → Q (some (.int res.1)) res.2 → m_Model_either (d + 1) [.ref 0] h Q) (hr3 : ∀  {h : am_H} {Q : am_Q} {res : Int32 × am_H}, rc.2.2.2.1 h = some res → Q (some (.int res.1)) res.2 → m_Model_one (d + 1) [.ref 0] h Q) (hr4 : ∀  {h : am_H} {Q : am_Q} {res : Int32 × am_H}, rc.2.2.2.2.1 h = some res → Q (some (.int res.1)) res.2 → m_Model_product (d + 1) [.ref 0] h Q) (hr5 : ∀  {h : am_H} {Q : am_Q} {res : Int32 × am_H}, rc.2.2.2.2.2 h = some res → Q (some (.int res.1)) res.2 → m_Model_sums (d + 1) [.ref 0] h Q) (hk176 : ∀ (x1 : Int32) (x2 : Int32) (x3 : Int32) (x4 : Int32) (h : am_H), k176 h x3 x4 = some res → am_W (X_Model_one (d + 1 + 1)) 176 [some (.ref 0), some (.int x1), some (.int x2), some (.int x3), some (.int x4)] [] h Q) (e : f_Model_one_195 rc k176 h x3 x4 y0 = some res) (q : Q (some (.int res.1)) res.2) : am_W (X_Model_one (d + 1 + 1)) 195 [some (.ref 0), some (.int x1), some (.int x2), some (.int x3), some (.int x4)] [.int y0] h Q :=
  b_Model_one_195 (d := (d + 1 + 1)) (kt := fun c => (t_Model_one_229 hr0 hr1 hr2 hr3 hr4 hr5 (am_ift e c) q)) (kf := fun c => (t_Model_one_200 hr0 hr1 hr2 hr3 hr4 hr5 hk176 (am_ife e c) q))
theorem t_Model_one_191 {d : Nat} {rc : rc_Model_both} {k176 : am_H → Int32 → Int32 → Option (Int32 × am_H)} {x1 : Int32} {x2 : Int32} {x3 : Int32} {x4 : Int32} {h : am_H} {Q : am_Q} {res : Int32 × am_H} (hr0 : ∀  {h : am_H} {Q : am_Q} {res : Int32 × am_H}, rc.1 h = some res → Q (some (.int res.1)) res.2 → m_Model_both (d + 1) [.ref 0] h Q) (hr1 : ∀  {h : am_H} {Q : am_Q} {res : Int32 × am_H}, rc.2.1 h = some res → Q (some (.int res.1)) res.2 → m_Model_compared (d + 1) [.ref 0] h Q) (hr2 : ∀  {h : am_H} {Q : am_Q} {res : Int32 × am_H}, rc.2.2.1 h = some res → Q (some (.int res.1)) res.2 → m_Model_either (d + 1) [.ref 0] h Q) (hr3 : ∀  {h : am_H} {Q : am_Q} {res : Int32 × am_H}, rc.2.2.2.1 h = some res → Q (some (.int res.1)) res.2 → m_Model_one (d + 1) [.ref 0] h Q) (hr4 : ∀  {h : am_H} {Q : am_Q} {res : Int32 × am_H}, rc.2.2.2.2.1 h = some res → Q (some (.int res.1)) res.2 → m_Model_product (d + 1) [.ref 0] h Q) (hr5 : ∀  {h : am_H} {Q : am_Q} {res : Int32 × am_H}, rc.2.2.2.2.2 h = some res → Q (some (.int res.1)) res.2 → m_Model_sums (d + 1) [.ref 0] h Q) (hk176 : ∀ (x1 : Int32) (x2 : Int32) (x3 : Int32) (x4 : Int32) (h : am_H), k176 h x3 x4 = some res → am_W (X_Model_one (d + 1 + 1)) 176 [some (.ref 0), some (.int x1), some (.int x2), some (.int x3), some (.int x4)] [] h Q) (e : f_Model_one_191 rc k176 h x3 x4 = some res) (q : Q (some (.int res.1)) res.2) : am_W (X_Model_one (d + 1 + 1)) 191 [some (.ref 0), some (.int x1), some (.int x2), some (.int x3), some (.int x4)] [] h Q :=
  (am_bd e).elim fun p hp => b_Model_one_191 (d := (d + 1)) (k := c_Model_byteAt (d := d + 1) hp.1 (t_Model_one_195 hr0 hr1 hr2 hr3 hr4 hr5 hk176 hp.2 q))
theorem t_Model_one_186 {d : Nat} {rc : rc_Model_both} {k176 : am_H → Int32 → Int32 → Option (Int32 × am_H)} {x1 : Int32} {x2 : Int32} {x3 : Int32} {x4 : Int32} {y0 : Int32} {h : am_H} {Q : am_Q} {res : Int32 × am_H} (hr0 : ∀  {h : am_H} {Q : am_Q} {res : Int32 × am_H}, rc.1 h = some res → Q (some (.int res.1)) res.2 → m_Model_both (d + 1) [.ref 0] h Q) (hr1 : ∀  {h : am_H} {Q : am_Q} {res : Int32 × am_H}, rc.2.1 h = some res → Q (some (.int res.1)) res.2 → m_Model_compared (d + 1) [.ref 0] h Q) (hr2 : ∀  {h : am_H} {Q : am_Q} {res : Int32 × am_H}, rc.2.2.1 h = some res → Q (some (.int res.1)) res.2 → m_Model_either (d + 1) [.ref 0] h Q) (hr3 : ∀  {h : am_H} {Q : am_Q} {res : Int32 × am_H}, rc.2.2.2.1 h = some res → Q (some (.int res.1)) res.2 → m_Model_one (d + 1) [.ref 0] h Q) (hr4 : ∀  {h : am_H} {Q : am_Q} {res : Int32 × am_H}, rc.2.2.2.2.1 h = some res → Q (some (.int res.1)) res.2 → m_Model_product (d + 1) [.ref 0] h Q) (hr5 : ∀  {h : am_H} {Q : am_Q} {res : Int32 × am_H}, rc.2.2.2.2.2 h = some res → Q (some (.int res.1)) res.2 → m_Model_sums (d + 1) [.ref 0] h Q) (hk176 : ∀ (x1 : Int32) (x2 : Int32) (x3 : Int32) (x4 : Int32) (h : am_H), k176 h x3 x4 = some res → am_W (X_Model_one (d + 1 + 1)) 176 [some (.ref 0), some (.int x1), some (.int x2), some (.int x3), some (.int x4)] [] h Q) (e : f_Model_one_186 rc k176 h x3 x4 y0 = some res) (q : Q (some (.int res.1)) res.2) : am_W (X_Model_one (d + 1 + 1)) 186 [some (.ref 0), some (.int x1), some (.int x2), some (.int x3), some (.int x4)] [.int y0] h Q :=
  b_Model_one_186 (d := (d + 1 + 1)) (kt := fun c => (t_Model_one_229 hr0 hr1 hr2 hr3 hr4 hr5 (am_ift e c) q)) (kf := fun c => (t_Model_one_191 hr0 hr1 hr2 hr3 hr4 hr5 hk176 (am_ife e c) q))
theorem t_Model_one_182 {d : Nat} {rc : rc_Model_both} {k176 : am_H → Int32 → Int32 → Option (Int32 × am_H)} {x1 : Int32} {x2 : Int32} {x3 : Int32} {x4 : Int32} {h : am_H} {Q : am_Q} {res : Int32 × am_H} (hr0 : ∀  {h : am_H} {Q : am_Q} {res : Int32 × am_H}, rc.1 h = some res → Q (some (.int res.1)) res.2 → m_Model_both (d + 1) [.ref 0] h Q) (hr1 : ∀  {h : am_H} {Q : am_Q} {res : Int32 × am_H}, rc.2.1 h = some res → Q (some (.int res.1)) res.2 → m_Model_compared (d + 1) [.ref 0] h Q) (hr2 : ∀  {h : am_H} {Q : am_Q} {res : Int32 × am_H}, rc.2.2.1 h = some res → Q (some (.int res.1)) res.2 → m_Model_either (d + 1) [.ref 0] h Q) (hr3 : ∀  {h : am_H} {Q : am_Q} {res : Int32 × am_H}, rc.2.2.2.1 h = some res → Q (some (.int res.1)) res.2 → m_Model_one (d + 1) [.ref 0] h Q) (hr4 : ∀  {h : am_H} {Q : am_Q} {res : Int32 × am_H}, rc.2.2.2.2.1 h = some res → Q (some (.int res.1)) res.2 → m_Model_product (d + 1) [.ref 0] h Q) (hr5 : ∀  {h : am_H} {Q : am_Q} {res : Int32 × am_H}, rc.2.2.2.2.2 h = some res → Q (some (.int res.1)) res.2 → m_Model_sums (d + 1) [.ref 0] h Q) (hk176 : ∀ (x1 : Int32) (x2 : Int32) (x3 : Int32) (x4 : Int32) (h : am_H), k176 h x3 x4 = some res → am_W (X_Model_one (d + 1 + 1)) 176 [some (.ref 0), some (.int x1), some (.int x2), some (.int x3), some (.int x4)] [] h Q) (e : f_Model_one_182 rc k176 h x3 x4 = some res) (q : Q (some (.int res.1)) res.2) : am_W (X_Model_one (d + 1 + 1)) 182 [some (.ref 0), some (.int x1), some (.int x2), some (.int x3), some (.int x4)] [] h Q :=
  (am_bd e).elim fun p hp => b_Model_one_182 (d := (d + 1)) (k := c_Model_byteAt (d := d + 1) hp.1 (t_Model_one_186 hr0 hr1 hr2 hr3 hr4 hr5 hk176 hp.2 q))
theorem t_Model_one_176 {d : Nat} {rc : rc_Model_both} {k176 : am_H → Int32 → Int32 → Option (Int32 × am_H)} {x1 : Int32} {x2 : Int32} {x3 : Int32} {x4 : Int32} {h : am_H} {Q : am_Q} {res : Int32 × am_H} (hr0 : ∀  {h : am_H} {Q : am_Q} {res : Int32 × am_H}, rc.1 h = some res → Q (some (.int res.1)) res.2 → m_Model_both (d + 1) [.ref 0] h Q) (hr1 : ∀  {h : am_H} {Q : am_Q} {res : Int32 × am_H}, rc.2.1 h = some res → Q (some (.int res.1)) res.2 → m_Model_compared (d + 1) [.ref 0] h Q) (hr2 : ∀  {h : am_H} {Q : am_Q} {res : Int32 × am_H}, rc.2.2.1 h = some res → Q (some (.int res.1)) res.2 → m_Model_either (d + 1) [.ref 0] h Q) (hr3 : ∀  {h : am_H} {Q : am_Q} {res : Int32 × am_H}, rc.2.2.2.1 h = some res → Q (some (.int res.1)) res.2 → m_Model_one (d + 1) [.ref 0] h Q) (hr4 : ∀  {h : am_H} {Q : am_Q} {res : Int32 × am_H}, rc.2.2.2.2.1 h = some res → Q (some (.int res.1)) res.2 → m_Model_product (d + 1) [.ref 0] h Q) (hr5 : ∀  {h : am_H} {Q : am_Q} {res : Int32 × am_H}, rc.2.2.2.2.2 h = some res → Q (some (.int res.1)) res.2 → m_Model_sums (d + 1) [.ref 0] h Q) (hk176 : ∀ (x1 : Int32) (x2 : Int32) (x3 : Int32) (x4 : Int32) (h : am_H), k176 h x3 x4 = some res → am_W (X_Model_one (d + 1 + 1)) 176 [some (.ref 0), some (.int x1), some (.int x2), some (.int x3), some (.int x4)] [] h Q) (e : f_Model_one_176 rc k176 h x3 x4 = some res) (q : Q (some (.int res.1)) res.2) : am_W (X_Model_one (d + 1 + 1)) 176 [some (.ref 0), some (.int x1), some (.int x2), some (.int x3), some (.int x4)] [] h Q :=
  b_Model_one_176 (d := (d + 1 + 1)) (kt := fun c => (t_Model_one_229 hr0 hr1 hr2 hr3 hr4 hr5 (am_ift e c) q)) (kf := fun c => (t_Model_one_182 hr0 hr1 hr2 hr3 hr4 hr5 hk176 (am_ife e c) q))
theorem t_Model_one_176_l {d : Nat} {rc : rc_Model_both} {Q : am_Q} {res : Int32 × am_H} (hr0 : ∀  {h : am_H} {Q : am_Q} {res : Int32 × am_H}, rc.1 h = some res → Q (some (.int res.1)) res.2 → m_Model_both (d + 1) [.ref 0] h Q) (hr1 : ∀  {h : am_H} {Q : am_Q} {res : Int32 × am_H}, rc.2.1 h = some res → Q (some (.int res.1)) res.2 → m_Model_compared (d + 1) [.ref 0] h Q) (hr2 : ∀  {h : am_H} {Q : am_Q} {res : Int32 × am_H}, rc.2.2.1 h = some res → Q (some (.int res.1)) res.2 → m_Model_either (d + 1) [.ref 0] h Q) (hr3 : ∀  {h : am_H} {Q : am_Q} {res : Int32 × am_H}, rc.2.2.2.1 h = some res → Q (some (.int res.1)) res.2 → m_Model_one (d + 1) [.ref 0] h Q) (hr4 : ∀  {h : am_H} {Q : am_Q} {res : Int32 × am_H}, rc.2.2.2.2.1 h = some res → Q (some (.int res.1)) res.2 → m_Model_product (d + 1) [.ref 0] h Q) (hr5 : ∀  {h : am_H} {Q : am_Q} {res : Int32 × am_H}, rc.2.2.2.2.2 h = some res → Q (some (.int res.1)) res.2 → m_Model_sums (d + 1) [.ref 0] h Q) (q : Q (some (.int res.1)) res.2) : ∀ (n : Nat) (x1 : Int32) (x2 : Int32) (x3 : Int32) (x4 : Int32) (h : am_H), f_Model_one_176_l rc n h x3 x4 = some res → am_W (X_Model_one (d + 1 + 1)) 176 [some (.ref 0), some (.int x1), some (.int x2), some (.int x3), some (.int x4)] [] h Q := by
  intro n
  induction n with
  | zero => intro x1 x2 x3 x4 h e; exact am_nn e
  | succ n ih => intro x1 x2 x3 x4 h e; exact t_Model_one_176 hr0 hr1 hr2 hr3 hr4 hr5 (fun x1 x2 x3 x4 h e => ih x1 x2 x3 x4 h  e) e q
theorem t_Model_one_171 {d : Nat} {rc : rc_Model_both} {x1 : Int32} {x2 : Int32} {h : am_H} {Q : am_Q} {res : Int32 × am_H} (hr0 : ∀  {h : am_H} {Q : am_Q} {res : Int32 × am_H}, rc.1 h = some res → Q (some (.int res.1)) res.2 → m_Model_both (d + 1) [.ref 0] h Q) (hr1 : ∀  {h : am_H} {Q : am_Q} {res : Int32 × am_H}, rc.2.1 h = some res → Q (some (.int res.1)) res.2 → m_Model_compared (d + 1) [.ref 0] h Q) (hr2 : ∀  {h : am_H} {Q : am_Q} {res : Int32 × am_H}, rc.2.2.1 h = some res → Q (some (.int res.1)) res.2 → m_Model_either (d + 1) [.ref 0] h Q) (hr3 : ∀  {h : am_H} {Q : am_Q} {res : Int32 × am_H}, rc.2.2.2.1 h = some res → Q (some (.int res.1)) res.2 → m_Model_one (d + 1) [.ref 0] h Q) (hr4 : ∀  {h : am_H} {Q : am_Q} {res : Int32 × am_H}, rc.2.2.2.2.1 h = some res → Q (some (.int res.1)) res.2 → m_Model_product (d + 1) [.ref 0] h Q) (hr5 : ∀  {h : am_H} {Q : am_Q} {res : Int32 × am_H}, rc.2.2.2.2.2 h = some res → Q (some (.int res.1)) res.2 → m_Model_sums (d + 1) [.ref 0] h Q) (e : f_Model_one_171 rc h = some res) (q : Q (some (.int res.1)) res.2) : am_W (X_Model_one (d + 1 + 1)) 171 [some (.ref 0), some (.int x1), some (.int x2), none, none] [] h Q :=
  b_Model_one_171 (d := (d + 1 + 1)) (k := (t_Model_one_176_l hr0 hr1 hr2 hr3 hr4 hr5 q am_fu _ _ _ _ _ e))
theorem t_Model_one_154 {d : Nat} {rc : rc_Model_both} {x1 : Int32} {x2 : Int32} {h : am_H} {Q : am_Q} {res : Int32 × am_H} (hr0 : ∀  {h : am_H} {Q : am_Q} {res : Int32 × am_H}, rc.1 h = some res → Q (some (.int res.1)) res.2 → m_Model_both (d + 1) [.ref 0] h Q) (hr1 : ∀  {h : am_H} {Q : am_Q} {res : Int32 × am_H}, rc.2.1 h = some res → Q (some (.int res.1)) res.2 → m_Model_compared (d + 1) [.ref 0] h Q) (hr2 : ∀  {h : am_H} {Q : am_Q} {res : Int32 × am_H}, rc.2.2.1 h = some res → Q (some (.int res.1)) res.2 → m_Model_either (d + 1) [.ref 0] h Q) (hr3 : ∀  {h : am_H} {Q : am_Q} {res : Int32 × am_H}, rc.2.2.2.1 h = some res → Q (some (.int res.1)) res.2 → m_Model_one (d + 1) [.ref 0] h Q) (hr4 : ∀  {h : am_H} {Q : am_Q} {res : Int32 × am_H}, rc.2.2.2.2.1 h = some res → Q (some (.int res.1)) res.2 → m_Model_product (d + 1) [.ref 0] h Q) (hr5 : ∀  {h : am_H} {Q : am_Q} {res : Int32 × am_H}, rc.2.2.2.2.2 h = some res → Q (some (.int res.1)) res.2 → m_Model_sums (d + 1) [.ref 0] h Q) (e : f_Model_one_154 rc h x2 = some res) (q : Q (some (.int res.1)) res.2) : am_W (X_Model_one (d + 1 + 1)) 154 [some (.ref 0), some (.int x1), some (.int x2), none, none] [] h Q :=
  b_Model_one_154 (d := (d + 1 + 1)) (q0 := (am_okv (am_gd e))) (q := (am_rIpi (v := ((am_pI h 0 12 ((h.1 0 12) + 1)).1 7 x2.toNatClampNeg)) (am_ga e) q))
theorem t_Model_one_149 {d : Nat} {rc : rc_Model_both} {x1 : Int32} {y0 : Int32} {h : am_H} {Q : am_Q} {res : Int32 × am_H} (hr0 : ∀  {h : am_H} {Q : am_Q} {res : Int32 × am_H}, rc.1 h = some res → Q (some (.int res.1)) res.2 → m_Model_both (d + 1) [.ref 0] h Q) (hr1 : ∀  {h : am_H} {Q : am_Q} {res : Int32 × am_H}, rc.2.1 h = some res → Q (some (.int res.1)) res.2 → m_Model_compared (d + 1) [.ref 0] h Q) (hr2 : ∀  {h : am_H} {Q : am_Q} {res : Int32 × am_H}, rc.2.2.1 h = some res → Q (some (.int res.1)) res.2 → m_Model_either (d + 1) [.ref 0] h Q) (hr3 : ∀  {h : am_H} {Q : am_Q} {res : Int32 × am_H}, rc.2.2.2.1 h = some res → Q (some (.int res.1)) res.2 → m_Model_one (d + 1) [.ref 0] h Q) (hr4 : ∀  {h : am_H} {Q : am_Q} {res : Int32 × am_H}, rc.2.2.2.2.1 h = some res → Q (some (.int res.1)) res.2 → m_Model_product (d + 1) [.ref 0] h Q) (hr5 : ∀  {h : am_H} {Q : am_Q} {res : Int32 × am_H}, rc.2.2.2.2.2 h = some res → Q (some (.int res.1)) res.2 → m_Model_sums (d + 1) [.ref 0] h Q) (e : f_Model_one_149 rc h y0 = some res) (q : Q (some (.int res.1)) res.2) : am_W (X_Model_one (d + 1 + 1)) 149 [some (.ref 0), some (.int x1), none, none, none] [.int y0] h Q :=
  b_Model_one_149 (d := (d + 1 + 1)) (kt := fun c => (t_Model_one_171 hr0 hr1 hr2 hr3 hr4 hr5 (am_ift e c) q)) (kf := fun c => (t_Model_one_154 hr0 hr1 hr2 hr3 hr4 hr5 (am_ife e c) q))
theorem t_Model_one_145 {d : Nat} {rc : rc_Model_both} {x1 : Int32} {h : am_H} {Q : am_Q} {res : Int32 × am_H} (hr0 : ∀  {h : am_H} {Q : am_Q} {res : Int32 × am_H}, rc.1 h = some res → Q (some (.int res.1)) res.2 → m_Model_both (d + 1) [.ref 0] h Q) (hr1 : ∀  {h : am_H} {Q : am_Q} {res : Int32 × am_H}, rc.2.1 h = some res → Q (some (.int res.1)) res.2 → m_Model_compared (d + 1) [.ref 0] h Q) (hr2 : ∀  {h : am_H} {Q : am_Q} {res : Int32 × am_H}, rc.2.2.1 h = some res → Q (some (.int res.1)) res.2 → m_Model_either (d + 1) [.ref 0] h Q) (hr3 : ∀  {h : am_H} {Q : am_Q} {res : Int32 × am_H}, rc.2.2.2.1 h = some res → Q (some (.int res.1)) res.2 → m_Model_one (d + 1) [.ref 0] h Q) (hr4 : ∀  {h : am_H} {Q : am_Q} {res : Int32 × am_H}, rc.2.2.2.2.1 h = some res → Q (some (.int res.1)) res.2 → m_Model_product (d + 1) [.ref 0] h Q) (hr5 : ∀  {h : am_H} {Q : am_Q} {res : Int32 × am_H}, rc.2.2.2.2.2 h = some res → Q (some (.int res.1)) res.2 → m_Model_sums (d + 1) [.ref 0] h Q) (e : f_Model_one_145 rc h x1 = some res) (q : Q (some (.int res.1)) res.2) : am_W (X_Model_one (d + 1 + 1)) 145 [some (.ref 0), some (.int x1), none, none, none] [] h Q :=
  b_Model_one_145 (d := (d + 1)) (k := c_Model_nameOf (d := d + 1) rfl (t_Model_one_149 hr0 hr1 hr2 hr3 hr4 hr5 e q))
theorem t_Model_one_26 {d : Nat} {rc : rc_Model_both} {x1 : Int32} {h : am_H} {Q : am_Q} {res : Int32 × am_H} (hr0 : ∀  {h : am_H} {Q : am_Q} {res : Int32 × am_H}, rc.1 h = some res → Q (some (.int res.1)) res.2 → m_Model_both (d + 1) [.ref 0] h Q) (hr1 : ∀  {h : am_H} {Q : am_Q} {res : Int32 × am_H}, rc.2.1 h = some res → Q (some (.int res.1)) res.2 → m_Model_compared (d + 1) [.ref 0] h Q) (hr2 : ∀  {h : am_H} {Q : am_Q} {res : Int32 × am_H}, rc.2.2.1 h = some res → Q (some (.int res.1)) res.2 → m_Model_either (d + 1) [.ref 0] h Q) (hr3 : ∀  {h : am_H} {Q : am_Q} {res : Int32 × am_H}, rc.2.2.2.1 h = some res → Q (some (.int res.1)) res.2 → m_Model_one (d + 1) [.ref 0] h Q) (hr4 : ∀  {h : am_H} {Q : am_Q} {res : Int32 × am_H}, rc.2.2.2.2.1 h = some res → Q (some (.int res.1)) res.2 → m_Model_product (d + 1) [.ref 0] h Q) (hr5 : ∀  {h : am_H} {Q : am_Q} {res : Int32 × am_H}, rc.2.2.2.2.2 h = some res → Q (some (.int res.1)) res.2 → m_Model_sums (d + 1) [.ref 0] h Q) (e : f_Model_one_26 rc h x1 = some res) (q : Q (some (.int res.1)) res.2) : am_W (X_Model_one (d + 1 + 1)) 26 [some (.ref 0), some (.int x1), none, none, none] [] h Q :=
  b_Model_one_26 (d := (d + 1 + 1)) (kt := fun c => (t_Model_one_145 hr0 hr1 hr2 hr3 hr4 hr5 (am_ife e c) q)) (kf := fun c => (t_Model_one_32 hr0 hr1 hr2 hr3 hr4 hr5 (am_ift e c) q))
theorem t_Model_one_20 {d : Nat} {rc : rc_Model_both} {x1 : Int32} {h : am_H} {Q : am_Q} {res : Int32 × am_H} (hr0 : ∀  {h : am_H} {Q : am_Q} {res : Int32 × am_H}, rc.1 h = some res → Q (some (.int res.1)) res.2 → m_Model_both (d + 1) [.ref 0] h Q) (hr1 : ∀  {h : am_H} {Q : am_Q} {res : Int32 × am_H}, rc.2.1 h = some res → Q (some (.int res.1)) res.2 → m_Model_compared (d + 1) [.ref 0] h Q) (hr2 : ∀  {h : am_H} {Q : am_Q} {res : Int32 × am_H}, rc.2.2.1 h = some res → Q (some (.int res.1)) res.2 → m_Model_either (d + 1) [.ref 0] h Q) (hr3 : ∀  {h : am_H} {Q : am_Q} {res : Int32 × am_H}, rc.2.2.2.1 h = some res → Q (some (.int res.1)) res.2 → m_Model_one (d + 1) [.ref 0] h Q) (hr4 : ∀  {h : am_H} {Q : am_Q} {res : Int32 × am_H}, rc.2.2.2.2.1 h = some res → Q (some (.int res.1)) res.2 → m_Model_product (d + 1) [.ref 0] h Q) (hr5 : ∀  {h : am_H} {Q : am_Q} {res : Int32 × am_H}, rc.2.2.2.2.2 h = some res → Q (some (.int res.1)) res.2 → m_Model_sums (d + 1) [.ref 0] h Q) (e : f_Model_one_20 rc h x1 = some res) (q : Q (some (.int res.1)) res.2) : am_W (X_Model_one (d + 1 + 1)) 20 [some (.ref 0), some (.int x1), none, none, none] [] h Q :=
  b_Model_one_20 (d := (d + 1 + 1)) (kt := fun c => (t_Model_one_32 hr0 hr1 hr2 hr3 hr4 hr5 (am_ift e c) q)) (kf := fun c => (t_Model_one_26 hr0 hr1 hr2 hr3 hr4 hr5 (am_ife e c) q))
theorem t_Model_one_13 {d : Nat} {rc : rc_Model_both} {y0 : Int32} {h : am_H} {Q : am_Q} {res : Int32 × am_H} (hr0 : ∀  {h : am_H} {Q : am_Q} {res : Int32 × am_H}, rc.1 h = some res → Q (some (.int res.1)) res.2 → m_Model_both (d + 1) [.ref 0] h Q) (hr1 : ∀  {h : am_H} {Q : am_Q} {res : Int32 × am_H}, rc.2.1 h = some res → Q (some (.int res.1)) res.2 → m_Model_compared (d + 1) [.ref 0] h Q) (hr2 : ∀  {h : am_H} {Q : am_Q} {res : Int32 × am_H}, rc.2.2.1 h = some res → Q (some (.int res.1)) res.2 → m_Model_either (d + 1) [.ref 0] h Q) (hr3 : ∀  {h : am_H} {Q : am_Q} {res : Int32 × am_H}, rc.2.2.2.1 h = some res → Q (some (.int res.1)) res.2 → m_Model_one (d + 1) [.ref 0] h Q) (hr4 : ∀  {h : am_H} {Q : am_Q} {res : Int32 × am_H}, rc.2.2.2.2.1 h = some res → Q (some (.int res.1)) res.2 → m_Model_product (d + 1) [.ref 0] h Q) (hr5 : ∀  {h : am_H} {Q : am_Q} {res : Int32 × am_H}, rc.2.2.2.2.2 h = some res → Q (some (.int res.1)) res.2 → m_Model_sums (d + 1) [.ref 0] h Q) (e : f_Model_one_13 rc h y0 = some res) (q : Q (some (.int res.1)) res.2) : am_W (X_Model_one (d + 1 + 1)) 13 [some (.ref 0), none, none, none, none] [.int y0] h Q :=
  b_Model_one_13 (d := (d + 1 + 1)) (kt := fun c => (t_Model_one_32 hr0 hr1 hr2 hr3 hr4 hr5 (am_ift e c) q)) (kf := fun c => (t_Model_one_20 hr0 hr1 hr2 hr3 hr4 hr5 (am_ife e c) q))
theorem t_Model_one_9 {d : Nat} {rc : rc_Model_both} {h : am_H} {Q : am_Q} {res : Int32 × am_H} (hr0 : ∀  {h : am_H} {Q : am_Q} {res : Int32 × am_H}, rc.1 h = some res → Q (some (.int res.1)) res.2 → m_Model_both (d + 1) [.ref 0] h Q) (hr1 : ∀  {h : am_H} {Q : am_Q} {res : Int32 × am_H}, rc.2.1 h = some res → Q (some (.int res.1)) res.2 → m_Model_compared (d + 1) [.ref 0] h Q) (hr2 : ∀  {h : am_H} {Q : am_Q} {res : Int32 × am_H}, rc.2.2.1 h = some res → Q (some (.int res.1)) res.2 → m_Model_either (d + 1) [.ref 0] h Q) (hr3 : ∀  {h : am_H} {Q : am_Q} {res : Int32 × am_H}, rc.2.2.2.1 h = some res → Q (some (.int res.1)) res.2 → m_Model_one (d + 1) [.ref 0] h Q) (hr4 : ∀  {h : am_H} {Q : am_Q} {res : Int32 × am_H}, rc.2.2.2.2.1 h = some res → Q (some (.int res.1)) res.2 → m_Model_product (d + 1) [.ref 0] h Q) (hr5 : ∀  {h : am_H} {Q : am_Q} {res : Int32 × am_H}, rc.2.2.2.2.2 h = some res → Q (some (.int res.1)) res.2 → m_Model_sums (d + 1) [.ref 0] h Q) (e : f_Model_one_9 rc h = some res) (q : Q (some (.int res.1)) res.2) : am_W (X_Model_one (d + 1 + 1)) 9 [some (.ref 0), none, none, none, none] [] h Q :=
  (am_bd e).elim fun p hp => b_Model_one_9 (d := (d + 1)) (k := c_Model_byteAt (d := d + 1) hp.1 (t_Model_one_13 hr0 hr1 hr2 hr3 hr4 hr5 hp.2 q))
theorem t_Model_one_7 {d : Nat} {rc : rc_Model_both} {h : am_H} {Q : am_Q} {res : Int32 × am_H} (hr0 : ∀  {h : am_H} {Q : am_Q} {res : Int32 × am_H}, rc.1 h = some res → Q (some (.int res.1)) res.2 → m_Model_both (d + 1) [.ref 0] h Q) (hr1 : ∀  {h : am_H} {Q : am_Q} {res : Int32 × am_H}, rc.2.1 h = some res → Q (some (.int res.1)) res.2 → m_Model_compared (d + 1) [.ref 0] h Q) (hr2 : ∀  {h : am_H} {Q : am_Q} {res : Int32 × am_H}, rc.2.2.1 h = some res → Q (some (.int res.1)) res.2 → m_Model_either (d + 1) [.ref 0] h Q) (hr3 : ∀  {h : am_H} {Q : am_Q} {res : Int32 × am_H}, rc.2.2.2.1 h = some res → Q (some (.int res.1)) res.2 → m_Model_one (d + 1) [.ref 0] h Q) (hr4 : ∀  {h : am_H} {Q : am_Q} {res : Int32 × am_H}, rc.2.2.2.2.1 h = some res → Q (some (.int res.1)) res.2 → m_Model_product (d + 1) [.ref 0] h Q) (hr5 : ∀  {h : am_H} {Q : am_Q} {res : Int32 × am_H}, rc.2.2.2.2.2 h = some res → Q (some (.int res.1)) res.2 → m_Model_sums (d + 1) [.ref 0] h Q) (e : f_Model_one_7 rc h = some res) (q : Q (some (.int res.1)) res.2) : am_W (X_Model_one (d + 1 + 1)) 7 [some (.ref 0), none, none, none, none] [] h Q :=
  b_Model_one_7 (d := (d + 1 + 1)) (q := (am_rIpi (v := 0) e q))
theorem t_Model_one_0 {d : Nat} {rc : rc_Model_both} {h : am_H} {Q : am_Q} {res : Int32 × am_H} (hr0 : ∀  {h : am_H} {Q : am_Q} {res : Int32 × am_H}, rc.1 h = some res → Q (some (.int res.1)) res.2 → m_Model_both (d + 1) [.ref 0] h Q) (hr1 : ∀  {h : am_H} {Q : am_Q} {res : Int32 × am_H}, rc.2.1 h = some res → Q (some (.int res.1)) res.2 → m_Model_compared (d + 1) [.ref 0] h Q) (hr2 : ∀  {h : am_H} {Q : am_Q} {res : Int32 × am_H}, rc.2.2.1 h = some res → Q (some (.int res.1)) res.2 → m_Model_either (d + 1) [.ref 0] h Q) (hr3 : ∀  {h : am_H} {Q : am_Q} {res : Int32 × am_H}, rc.2.2.2.1 h = some res → Q (some (.int res.1)) res.2 → m_Model_one (d + 1) [.ref 0] h Q) (hr4 : ∀  {h : am_H} {Q : am_Q} {res : Int32 × am_H}, rc.2.2.2.2.1 h = some res → Q (some (.int res.1)) res.2 → m_Model_product (d + 1) [.ref 0] h Q) (hr5 : ∀  {h : am_H} {Q : am_Q} {res : Int32 × am_H}, rc.2.2.2.2.2 h = some res → Q (some (.int res.1)) res.2 → m_Model_sums (d + 1) [.ref 0] h Q) (e : f_Model_one_0 rc h = some res) (q : Q (some (.int res.1)) res.2) : am_W (X_Model_one (d + 1 + 1)) 0 [some (.ref 0), none, none, none, none] [] h Q :=
  b_Model_one_0 (d := (d + 1 + 1)) (kt := fun c => (t_Model_one_9 hr0 hr1 hr2 hr3 hr4 hr5 (am_ift e c) q)) (kf := fun c => (t_Model_one_7 hr0 hr1 hr2 hr3 hr4 hr5 (am_ife e c) q))
theorem t_Model_product_94 {d : Nat} {rc : rc_Model_both} {x1 : Int32} {x2 : Int32} {h : am_H} {Q : am_Q} {res : Int32 × am_H} (hr0 : ∀  {h : am_H} {Q : am_Q} {res : Int32 × am_H}, rc.1 h = some res → Q (some (.int res.1)) res.2 → m_Model_both (d + 1) [.ref 0] h Q) (hr1 : ∀  {h : am_H} {Q : am_Q} {res : Int32 × am_H}, rc.2.1 h = some res → Q (some (.int res.1)) res.2 → m_Model_compared (d + 1) [.ref 0] h Q) (hr2 : ∀  {h : am_H} {Q : am_Q} {res : Int32 × am_H}, rc.2.2.1 h = some res → Q (some (.int res.1)) res.2 → m_Model_either (d + 1) [.ref 0] h Q) (hr3 : ∀  {h : am_H} {Q : am_Q} {res : Int32 × am_H}, rc.2.2.2.1 h = some res → Q (some (.int res.1)) res.2 → m_Model_one (d + 1) [.ref 0] h Q) (hr4 : ∀  {h : am_H} {Q : am_Q} {res : Int32 × am_H}, rc.2.2.2.2.1 h = some res → Q (some (.int res.1)) res.2 → m_Model_product (d + 1) [.ref 0] h Q) (hr5 : ∀  {h : am_H} {Q : am_Q} {res : Int32 × am_H}, rc.2.2.2.2.2 h = some res → Q (some (.int res.1)) res.2 → m_Model_sums (d + 1) [.ref 0] h Q) (e : f_Model_product_94 rc h x1 = some res) (q : Q (some (.int res.1)) res.2) : am_W (X_Model_product (d + 1 + 1)) 94 [some (.ref 0), some (.int x1), some (.int x2), none] [] h Q :=
  b_Model_product_94 (d := (d + 1 + 1)) (q := (am_rIpi (v := x1) e q))
theorem t_Model_product_90 {d : Nat} {rc : rc_Model_both} {k10 : am_H → Int32 → Int32 → Option (Int32 × am_H)} {x1 : Int32} {x2 : Int32} {x3 : Int32} {y0 : Int32} {h : am_H} {Q : am_Q} {res : Int32 × am_H} (hr0 : ∀  {h : am_H} {Q : am_Q} {res : Int32 × am_H}, rc.1 h = some res → Q (some (.int res.1)) res.2 → m_Model_both (d + 1) [.ref 0] h Q) (hr1 : ∀  {h : am_H} {Q : am_Q} {res : Int32 × am_H}, rc.2.1 h = some res → Q (some (.int res.1)) res.2 → m_Model_compared (d + 1) [.ref 0] h Q) (hr2 : ∀  {h : am_H} {Q : am_Q} {res : Int32 × am_H}, rc.2.2.1 h = some res → Q (some (.int res.1)) res.2 → m_Model_either (d + 1) [.ref 0] h Q) (hr3 : ∀  {h : am_H} {Q : am_Q} {res : Int32 × am_H}, rc.2.2.2.1 h = some res → Q (some (.int res.1)) res.2 → m_Model_one (d + 1) [.ref 0] h Q) (hr4 : ∀  {h : am_H} {Q : am_Q} {res : Int32 × am_H}, rc.2.2.2.2.1 h = some res → Q (some (.int res.1)) res.2 → m_Model_product (d + 1) [.ref 0] h Q) (hr5 : ∀  {h : am_H} {Q : am_Q} {res : Int32 × am_H}, rc.2.2.2.2.2 h = some res → Q (some (.int res.1)) res.2 → m_Model_sums (d + 1) [.ref 0] h Q) (hk10 : ∀ (x1 : Int32) (x2 : Int32) (h : am_H), k10 h x1 x2 = some res → am_W (X_Model_product (d + 1 + 1)) 10 [some (.ref 0), some (.int x1), some (.int x2), none] [] h Q) (e : f_Model_product_90 rc k10 h x1 y0 = some res) (q : Q (some (.int res.1)) res.2) : am_W (X_Model_product (d + 1 + 1)) 90 [some (.ref 0), some (.int x1), some (.int x2), some (.int x3)] [.int y0] h Q :=
  b_Model_product_90 (d := (d + 1 + 1)) (k := (am_wk2 (hk10 _ _ _ e) ⟨rfl, ⟨rfl, ⟨rfl, trivial⟩⟩⟩))
theorem t_Model_product_85 {d : Nat} {rc : rc_Model_both} {k10 : am_H → Int32 → Int32 → Option (Int32 × am_H)} {x1 : Int32} {x2 : Int32} {x3 : Int32} {y0 : Int32} {h : am_H} {Q : am_Q} {res : Int32 × am_H} (hr0 : ∀  {h : am_H} {Q : am_Q} {res : Int32 × am_H}, rc.1 h = some res → Q (some (.int res.1)) res.2 → m_Model_both (d + 1) [.ref 0] h Q) (hr1 : ∀  {h : am_H} {Q : am_Q} {res : Int32 × am_H}, rc.2.1 h = some res → Q (some (.int res.1)) res.2 → m_Model_compared (d + 1) [.ref 0] h Q) (hr2 : ∀  {h : am_H} {Q : am_Q} {res : Int32 × am_H}, rc.2.2.1 h = some res → Q (some (.int res.1)) res.2 → m_Model_either (d + 1) [.ref 0] h Q) (hr3 : ∀  {h : am_H} {Q : am_Q} {res : Int32 × am_H}, rc.2.2.2.1 h = some res → Q (some (.int res.1)) res.2 → m_Model_one (d + 1) [.ref 0] h Q) (hr4 : ∀  {h : am_H} {Q : am_Q} {res : Int32 × am_H}, rc.2.2.2.2.1 h = some res → Q (some (.int res.1)) res.2 → m_Model_product (d + 1) [.ref 0] h Q) (hr5 : ∀  {h : am_H} {Q : am_Q} {res : Int32 × am_H}, rc.2.2.2.2.2 h = some res → Q (some (.int res.1)) res.2 → m_Model_sums (d + 1) [.ref 0] h Q) (hk10 : ∀ (x1 : Int32) (x2 : Int32) (h : am_H), k10 h x1 x2 = some res → am_W (X_Model_product (d + 1 + 1)) 10 [some (.ref 0), some (.int x1), some (.int x2), none] [] h Q) (e : f_Model_product_85 rc k10 h y0 = some res) (q : Q (some (.int res.1)) res.2) : am_W (X_Model_product (d + 1 + 1)) 85 [some (.ref 0), some (.int x1), some (.int x2), some (.int x3)] [.int y0] h Q :=
  (am_bd e).elim fun p hp => b_Model_product_85 (d := (d + 1)) (k := c_Model_byteAt (d := d + 1) hp.1 (t_Model_product_90 hr0 hr1 hr2 hr3 hr4 hr5 hk10 hp.2 q))
theorem t_Model_product_82 {d : Nat} {rc : rc_Model_both} {k10 : am_H → Int32 → Int32 → Option (Int32 × am_H)} {x1 : Int32} {x2 : Int32} {x3 : Int32} {h : am_H} {Q : am_Q} {res : Int32 × am_H} (hr0 : ∀  {h : am_H} {Q : am_Q} {res : Int32 × am_H}, rc.1 h = some res → Q (some (.int res.1)) res.2 → m_Model_both (d + 1) [.ref 0] h Q) (hr1 : ∀  {h : am_H} {Q : am_Q} {res : Int32 × am_H}, rc.2.1 h = some res → Q (some (.int res.1)) res.2 → m_Model_compared (d + 1) [.ref 0] h Q) (hr2 : ∀  {h : am_H} {Q : am_Q} {res : Int32 × am_H}, rc.2.2.1 h = some res → Q (some (.int res.1)) res.2 → m_Model_either (d + 1) [.ref 0] h Q) (hr3 : ∀  {h : am_H} {Q : am_Q} {res : Int32 × am_H}, rc.2.2.2.1 h = some res → Q (some (.int res.1)) res.2 → m_Model_one (d + 1) [.ref 0] h Q) (hr4 : ∀  {h : am_H} {Q : am_Q} {res : Int32 × am_H}, rc.2.2.2.2.1 h = some res → Q (some (.int res.1)) res.2 → m_Model_product (d + 1) [.ref 0] h Q) (hr5 : ∀  {h : am_H} {Q : am_Q} {res : Int32 × am_H}, rc.2.2.2.2.2 h = some res → Q (some (.int res.1)) res.2 → m_Model_sums (d + 1) [.ref 0] h Q) (hk10 : ∀ (x1 : Int32) (x2 : Int32) (h : am_H), k10 h x1 x2 = some res → am_W (X_Model_product (d + 1 + 1)) 10 [some (.ref 0), some (.int x1), some (.int x2), none] [] h Q) (e : f_Model_product_82 rc k10 h x1 x3 = some res) (q : Q (some (.int res.1)) res.2) : am_W (X_Model_product (d + 1 + 1)) 82 [some (.ref 0), some (.int x1), some (.int x2), some (.int x3)] [] h Q :=
  b_Model_product_82 (d := (d + 1 + 1)) (q0 := (am_gd e)) (k := (t_Model_product_85 hr0 hr1 hr2 hr3 hr4 hr5 hk10 (am_ga e) q))
theorem t_Model_product_76 {d : Nat} {rc : rc_Model_both} {k10 : am_H → Int32 → Int32 → Option (Int32 × am_H)} {x1 : Int32} {x2 : Int32} {x3 : Int32} {h : am_H} {Q : am_Q} {res : Int32 × am_H} (hr0 : ∀  {h : am_H} {Q : am_Q} {res : Int32 × am_H}, rc.1 h = some res → Q (some (.int res.1)) res.2 → m_Model_both (d + 1) [.ref 0] h Q) (hr1 : ∀  {h : am_H} {Q : am_Q} {res : Int32 × am_H}, rc.2.1 h = some res → Q (some (.int res.1)) res.2 → m_Model_compared (d + 1) [.ref 0] h Q) (hr2 : ∀  {h : am_H} {Q : am_Q} {res : Int32 × am_H}, rc.2.2.1 h = some res → Q (some (.int res.1)) res.2 → m_Model_either (d + 1) [.ref 0] h Q) (hr3 : ∀  {h : am_H} {Q : am_Q} {res : Int32 × am_H}, rc.2.2.2.1 h = some res → Q (some (.int res.1)) res.2 → m_Model_one (d + 1) [.ref 0] h Q) (hr4 : ∀  {h : am_H} {Q : am_Q} {res : Int32 × am_H}, rc.2.2.2.2.1 h = some res → Q (some (.int res.1)) res.2 → m_Model_product (d + 1) [.ref 0] h Q) (hr5 : ∀  {h : am_H} {Q : am_Q} {res : Int32 × am_H}, rc.2.2.2.2.2 h = some res → Q (some (.int res.1)) res.2 → m_Model_sums (d + 1) [.ref 0] h Q) (hk10 : ∀ (x1 : Int32) (x2 : Int32) (h : am_H), k10 h x1 x2 = some res → am_W (X_Model_product (d + 1 + 1)) 10 [some (.ref 0), some (.int x1), some (.int x2), none] [] h Q) (e : f_Model_product_76 rc k10 h x1 x3 = some res) (q : Q (some (.int res.1)) res.2) : am_W (X_Model_product (d + 1 + 1)) 76 [some (.ref 0), some (.int x1), some (.int x2), some (.int x3)] [] h Q :=
  b_Model_product_76 (d := (d + 1 + 1)) (q0 := (am_gd e)) (k := (t_Model_product_85 hr0 hr1 hr2 hr3 hr4 hr5 hk10 (am_ga e) q))
theorem t_Model_product_70 {d : Nat} {rc : rc_Model_both} {k10 : am_H → Int32 → Int32 → Option (Int32 × am_H)} {x1 : Int32} {x2 : Int32} {x3 : Int32} {h : am_H} {Q : am_Q} {res : Int32 × am_H} (hr0 : ∀  {h : am_H} {Q : am_Q} {res : Int32 × am_H}, rc.1 h = some res → Q (some (.int res.1)) res.2 → m_Model_both (d + 1) [.ref 0] h Q) (hr1 : ∀  {h : am_H} {Q : am_Q} {res : Int32 × am_H}, rc.2.1 h = some res → Q (some (.int res.1)) res.2 → m_Model_compared (d + 1) [.ref 0] h Q) (hr2 : ∀  {h : am_H} {Q : am_Q} {res : Int32 × am_H}, rc.2.2.1 h = some res → Q (some (.int res.1)) res.2 → m_Model_either (d + 1) [.ref 0] h Q) (hr3 : ∀  {h : am_H} {Q : am_Q} {res : Int32 × am_H}, rc.2.2.2.1 h = some res → Q (some (.int res.1)) res.2 → m_Model_one (d + 1) [.ref 0] h Q) (hr4 : ∀  {h : am_H} {Q : am_Q} {res : Int32 × am_H}, rc.2.2.2.2.1 h = some res → Q (some (.int res.1)) res.2 → m_Model_product (d + 1) [.ref 0] h Q) (hr5 : ∀  {h : am_H} {Q : am_Q} {res : Int32 × am_H}, rc.2.2.2.2.2 h = some res → Q (some (.int res.1)) res.2 → m_Model_sums (d + 1) [.ref 0] h Q) (hk10 : ∀ (x1 : Int32) (x2 : Int32) (h : am_H), k10 h x1 x2 = some res → am_W (X_Model_product (d + 1 + 1)) 10 [some (.ref 0), some (.int x1), some (.int x2), none] [] h Q) (e : f_Model_product_70 rc k10 h x1 x2 x3 = some res) (q : Q (some (.int res.1)) res.2) : am_W (X_Model_product (d + 1 + 1)) 70 [some (.ref 0), some (.int x1), some (.int x2), some (.int x3)] [] h Q :=
  b_Model_product_70 (d := (d + 1 + 1)) (kt := fun c => (t_Model_product_82 hr0 hr1 hr2 hr3 hr4 hr5 hk10 (am_ife e c) q)) (kf := fun c => (t_Model_product_76 hr0 hr1 hr2 hr3 hr4 hr5 hk10 (am_ift e c) q))
theorem t_Model_product_66 {d : Nat} {rc : rc_Model_both} {k10 : am_H → Int32 → Int32 → Option (Int32 × am_H)} {x1 : Int32} {x2 : Int32} {x3 : Int32} {h : am_H} {Q : am_Q} {res : Int32 × am_H} (hr0 : ∀  {h : am_H} {Q : am_Q} {res : Int32 × am_H}, rc.1 h = some res → Q (some (.int res.1)) res.2 → m_Model_both (d + 1) [.ref 0] h Q) (hr1 : ∀  {h : am_H} {Q : am_Q} {res : Int32 × am_H}, rc.2.1 h = some res → Q (some (.int res.1)) res.2 → m_Model_compared (d + 1) [.ref 0] h Q) (hr2 : ∀  {h : am_H} {Q : am_Q} {res : Int32 × am_H}, rc.2.2.1 h = some res → Q (some (.int res.1)) res.2 → m_Model_either (d + 1) [.ref 0] h Q) (hr3 : ∀  {h : am_H} {Q : am_Q} {res : Int32 × am_H}, rc.2.2.2.1 h = some res → Q (some (.int res.1)) res.2 → m_Model_one (d + 1) [.ref 0] h Q) (hr4 : ∀  {h : am_H} {Q : am_Q} {res : Int32 × am_H}, rc.2.2.2.2.1 h = some res → Q (some (.int res.1)) res.2 → m_Model_product (d + 1) [.ref 0] h Q) (hr5 : ∀  {h : am_H} {Q : am_Q} {res : Int32 × am_H}, rc.2.2.2.2.2 h = some res → Q (some (.int res.1)) res.2 → m_Model_sums (d + 1) [.ref 0] h Q) (hk10 : ∀ (x1 : Int32) (x2 : Int32) (h : am_H), k10 h x1 x2 = some res → am_W (X_Model_product (d + 1 + 1)) 10 [some (.ref 0), some (.int x1), some (.int x2), none] [] h Q) (e : f_Model_product_66 rc k10 h = some res) (q : Q (some (.int res.1)) res.2) : am_W (X_Model_product (d + 1 + 1)) 66 [some (.ref 0), some (.int x1), some (.int x2), some (.int x3)] [] h Q :=
  b_Model_product_66 (d := (d + 1 + 1)) (k := (t_Model_product_85 hr0 hr1 hr2 hr3 hr4 hr5 hk10 e q))
theorem t_Model_product_62 {d : Nat} {rc : rc_Model_both} {k10 : am_H → Int32 → Int32 → Option (Int32 × am_H)} {x1 : Int32} {x2 : Int32} {x3 : Int32} {h : am_H} {Q : am_Q} {res : Int32 × am_H} (hr0 : ∀  {h : am_H} {Q : am_Q} {res : Int32 × am_H}, rc.1 h = some res → Q (some (.int res.1)) res.2 → m_Model_both (d + 1) [.ref 0] h Q) (hr1 : ∀  {h : am_H} {Q : am_Q} {res : Int32 × am_H}, rc.2.1 h = some res → Q (some (.int res.1)) res.2 → m_Model_compared (d + 1) [.ref 0] h Q) (hr2 : ∀  {h : am_H} {Q : am_Q} {res : Int32 × am_H}, rc.2.2.1 h = some res → Q (some (.int res.1)) res.2 → m_Model_either (d + 1) [.ref 0] h Q) (hr3 : ∀  {h : am_H} {Q : am_Q} {res : Int32 × am_H}, rc.2.2.2.1 h = some res → Q (some (.int res.1)) res.2 → m_Model_one (d + 1) [.ref 0] h Q) (hr4 : ∀  {h : am_H} {Q : am_Q} {res : Int32 × am_H}, rc.2.2.2.2.1 h = some res → Q (some (.int res.1)) res.2 → m_Model_product (d + 1) [.ref 0] h Q) (hr5 : ∀  {h : am_H} {Q : am_Q} {res : Int32 × am_H}, rc.2.2.2.2.2 h = some res → Q (some (.int res.1)) res.2 → m_Model_sums (d + 1) [.ref 0] h Q) (hk10 : ∀ (x1 : Int32) (x2 : Int32) (h : am_H), k10 h x1 x2 = some res → am_W (X_Model_product (d + 1 + 1)) 10 [some (.ref 0), some (.int x1), some (.int x2), none] [] h Q) (e : f_Model_product_62 rc k10 h x1 x2 x3 = some res) (q : Q (some (.int res.1)) res.2) : am_W (X_Model_product (d + 1 + 1)) 62 [some (.ref 0), some (.int x1), some (.int x2), some (.int x3)] [] h Q :=
  b_Model_product_62 (d := (d + 1 + 1)) (kt := fun c => (t_Model_product_70 hr0 hr1 hr2 hr3 hr4 hr5 hk10 (am_ife e c) q)) (kf := fun c => (t_Model_product_66 hr0 hr1 hr2 hr3 hr4 hr5 hk10 (am_ift e c) q))
theorem t_Model_product_56 {d : Nat} {rc : rc_Model_both} {k10 : am_H → Int32 → Int32 → Option (Int32 × am_H)} {x1 : Int32} {x2 : Int32} {x3 : Int32} {h : am_H} {Q : am_Q} {res : Int32 × am_H} (hr0 : ∀  {h : am_H} {Q : am_Q} {res : Int32 × am_H}, rc.1 h = some res → Q (some (.int res.1)) res.2 → m_Model_both (d + 1) [.ref 0] h Q) (hr1 : ∀  {h : am_H} {Q : am_Q} {res : Int32 × am_H}, rc.2.1 h = some res → Q (some (.int res.1)) res.2 → m_Model_compared (d + 1) [.ref 0] h Q) (hr2 : ∀  {h : am_H} {Q : am_Q} {res : Int32 × am_H}, rc.2.2.1 h = some res → Q (some (.int res.1)) res.2 → m_Model_either (d + 1) [.ref 0] h Q) (hr3 : ∀  {h : am_H} {Q : am_Q} {res : Int32 × am_H}, rc.2.2.2.1 h = some res → Q (some (.int res.1)) res.2 → m_Model_one (d + 1) [.ref 0] h Q) (hr4 : ∀  {h : am_H} {Q : am_Q} {res : Int32 × am_H}, rc.2.2.2.2.1 h = some res → Q (some (.int res.1)) res.2 → m_Model_product (d + 1) [.ref 0] h Q) (hr5 : ∀  {h : am_H} {Q : am_Q} {res : Int32 × am_H}, rc.2.2.2.2.2 h = some res → Q (some (.int res.1)) res.2 → m_Model_sums (d + 1) [.ref 0] h Q) (hk10 : ∀ (x1 : Int32) (x2 : Int32) (h : am_H), k10 h x1 x2 = some res → am_W (X_Model_product (d + 1 + 1)) 10 [some (.ref 0), some (.int x1), some (.int x2), none] [] h Q) (e : f_Model_product_56 rc k10 h x1 x3 = some res) (q : Q (some (.int res.1)) res.2) : am_W (X_Model_product (d + 1 + 1)) 56 [some (.ref 0), some (.int x1), some (.int x2), some (.int x3)] [] h Q :=
  b_Model_product_56 (d := (d + 1 + 1)) (k := (t_Model_product_85 hr0 hr1 hr2 hr3 hr4 hr5 hk10 e q))
theorem t_Model_product_49 {d : Nat} {rc : rc_Model_both} {k10 : am_H → Int32 → Int32 → Option (Int32 × am_H)} {x1 : Int32} {x2 : Int32} {y0 : Int32} {h : am_H} {Q : am_Q} {res : Int32 × am_H} (hr0 : ∀  {h : am_H} {Q : am_Q} {res : Int32 × am_H}, rc.1 h = some res → Q (some (.int res.1)) res.2 → m_Model_both (d + 1) [.ref 0] h Q) (hr1 : ∀  {h : am_H} {Q : am_Q} {res : Int32 × am_H}, rc.2.1 h = some res → Q (some (.int res.1)) res.2 → m_Model_compared (d + 1) [.ref 0] h Q) (hr2 : ∀  {h : am_H} {Q : am_Q} {res : Int32 × am_H}, rc.2.2.1 h = some res → Q (some (.int res.1)) res.2 → m_Model_either (d + 1) [.ref 0] h Q) (hr3 : ∀  {h : am_H} {Q : am_Q} {res : Int32 × am_H}, rc.2.2.2.1 h = some res → Q (some (.int res.1)) res.2 → m_Model_one (d + 1) [.ref 0] h Q) (hr4 : ∀  {h : am_H} {Q : am_Q} {res : Int32 × am_H}, rc.2.2.2.2.1 h = some res → Q (some (.int res.1)) res.2 → m_Model_product (d + 1) [.ref 0] h Q) (hr5 : ∀  {h : am_H} {Q : am_Q} {res : Int32 × am_H}, rc.2.2.2.2.2 h = some res → Q (some (.int res.1)) res.2 → m_Model_sums (d + 1) [.ref 0] h Q) (hk10 : ∀ (x1 : Int32) (x2 : Int32) (h : am_H), k10 h x1 x2 = some res → am_W (X_Model_product (d + 1 + 1)) 10 [some (.ref 0), some (.int x1), some (.int x2), none] [] h Q) (e : f_Model_product_49 rc k10 h x1 x2 y0 = some res) (q : Q (some (.int res.1)) res.2) : am_W (X_Model_product (d + 1 + 1)) 49 [some (.ref 0), some (.int x1), some (.int x2), none] [.int y0] h Q :=
  b_Model_product_49 (d := (d + 1 + 1)) (kt := fun c => (t_Model_product_62 hr0 hr1 hr2 hr3 hr4 hr5 hk10 (am_ife e c) q)) (kf := fun c => (t_Model_product_56 hr0 hr1 hr2 hr3 hr4 hr5 hk10 (am_ift e c) q))
theorem t_Model_product_35 {d : Nat} {rc : rc_Model_both} {k10 : am_H → Int32 → Int32 → Option (Int32 × am_H)} {x1 : Int32} {x2 : Int32} {h : am_H} {Q : am_Q} {res : Int32 × am_H} (hr0 : ∀  {h : am_H} {Q : am_Q} {res : Int32 × am_H}, rc.1 h = some res → Q (some (.int res.1)) res.2 → m_Model_both (d + 1) [.ref 0] h Q) (hr1 : ∀  {h : am_H} {Q : am_Q} {res : Int32 × am_H}, rc.2.1 h = some res → Q (some (.int res.1)) res.2 → m_Model_compared (d + 1) [.ref 0] h Q) (hr2 : ∀  {h : am_H} {Q : am_Q} {res : Int32 × am_H}, rc.2.2.1 h = some res → Q (some (.int res.1)) res.2 → m_Model_either (d + 1) [.ref 0] h Q) (hr3 : ∀  {h : am_H} {Q : am_Q} {res : Int32 × am_H}, rc.2.2.2.1 h = some res → Q (some (.int res.1)) res.2 → m_Model_one (d + 1) [.ref 0] h Q) (hr4 : ∀  {h : am_H} {Q : am_Q} {res : Int32 × am_H}, rc.2.2.2.2.1 h = some res → Q (some (.int res.1)) res.2 → m_Model_product (d + 1) [.ref 0] h Q) (hr5 : ∀  {h : am_H} {Q : am_Q} {res : Int32 × am_H}, rc.2.2.2.2.2 h = some res → Q (some (.int res.1)) res.2 → m_Model_sums (d + 1) [.ref 0] h Q) (hk10 : ∀ (x1 : Int32) (x2 : Int32) (h : am_H), k10 h x1 x2 = some res → am_W (X_Model_product (d + 1 + 1)) 10 [some (.ref 0), some (.int x1), some (.int x2), none] [] h Q) (e : f_Model_product_35 rc k10 h x1 x2 = some res) (q : Q (some (.int res.1)) res.2) : am_W (X_Model_product (d + 1 + 1)) 35 [some (.ref 0), some (.int x1), some (.int x2), none] [] h Q :=
  (am_bd e).elim fun p hp => b_Model_product_35 (d := (d + 1)) (k := hr3 hp.1 (t_Model_product_49 hr0 hr1 hr2 hr3 hr4 hr5 hk10 hp.2 q))
theorem t_Model_product_29 {d : Nat} {rc : rc_Model_both} {k10 : am_H → Int32 → Int32 → Option (Int32 × am_H)} {x1 : Int32} {x2 : Int32} {h : am_H} {Q : am_Q} {res : Int32 × am_H} (hr0 : ∀  {h : am_H} {Q : am_Q} {res : Int32 × am_H}, rc.1 h = some res → Q (some (.int res.1)) res.2 → m_Model_both (d + 1) [.ref 0] h Q) (hr1 : ∀  {h : am_H} {Q : am_Q} {res : Int32 × am_H}, rc.2.1 h = some res → Q (some (.int res.1)) res.2 → m_Model_compared (d + 1) [.ref 0] h Q) (hr2 : ∀  {h : am_H} {Q : am_Q} {res : Int32 × am_H}, rc.2.2.1 h = some res → Q (some (.int res.1)) res.2 → m_Model_either (d + 1) [.ref 0] h Q) (hr3 : ∀  {h : am_H} {Q : am_Q} {res : Int32 × am_H}, rc.2.2.2.1 h = some res → Q (some (.int res.1)) res.2 → m_Model_one (d + 1) [.ref 0] h Q) (hr4 : ∀  {h : am_H} {Q : am_Q} {res : Int32 × am_H}, rc.2.2.2.2.1 h = some res → Q (some (.int res.1)) res.2 → m_Model_product (d + 1) [.ref 0] h Q) (hr5 : ∀  {h : am_H} {Q : am_Q} {res : Int32 × am_H}, rc.2.2.2.2.2 h = some res → Q (some (.int res.1)) res.2 → m_Model_sums (d + 1) [.ref 0] h Q) (hk10 : ∀ (x1 : Int32) (x2 : Int32) (h : am_H), k10 h x1 x2 = some res → am_W (X_Model_product (d + 1 + 1)) 10 [some (.ref 0), some (.int x1), some (.int x2), none] [] h Q) (e : f_Model_product_29 rc k10 h x1 x2 = some res) (q : Q (some (.int res.1)) res.2) : am_W (X_Model_product (d + 1 + 1)) 29 [some (.ref 0), some (.int x1), some (.int x2), none] [] h Q :=
  b_Model_product_29 (d := (d + 1 + 1)) (kt := fun c => (t_Model_product_94 hr0 hr1 hr2 hr3 hr4 hr5 (am_ife e c) q)) (kf := fun c => (t_Model_product_35 hr0 hr1 hr2 hr3 hr4 hr5 hk10 (am_ift e c) q))
theorem t_Model_product_23 {d : Nat} {rc : rc_Model_both} {k10 : am_H → Int32 → Int32 → Option (Int32 × am_H)} {x1 : Int32} {x2 : Int32} {h : am_H} {Q : am_Q} {res : Int32 × am_H} (hr0 : ∀  {h : am_H} {Q : am_Q} {res : Int32 × am_H}, rc.1 h = some res → Q (some (.int res.1)) res.2 → m_Model_both (d + 1) [.ref 0] h Q) (hr1 : ∀  {h : am_H} {Q : am_Q} {res : Int32 × am_H}, rc.2.1 h = some res → Q (some (.int res.1)) res.2 → m_Model_compared (d + 1) [.ref 0] h Q) (hr2 : ∀  {h : am_H} {Q : am_Q} {res : Int32 × am_H}, rc.2.2.1 h = some res → Q (some (.int res.1)) res.2 → m_Model_either (d + 1) [.ref 0] h Q) (hr3 : ∀  {h : am_H} {Q : am_Q} {res : Int32 × am_H}, rc.2.2.2.1 h = some res → Q (some (.int res.1)) res.2 → m_Model_one (d + 1) [.ref 0] h Q) (hr4 : ∀  {h : am_H} {Q : am_Q} {res : Int32 × am_H}, rc.2.2.2.2.1 h = some res → Q (some (.int res.1)) res.2 → m_Model_product (d + 1) [.ref 0] h Q) (hr5 : ∀  {h : am_H} {Q : am_Q} {res : Int32 × am_H}, rc.2.2.2.2.2 h = some res → Q (some (.int res.1)) res.2 → m_Model_sums (d + 1) [.ref 0] h Q) (hk10 : ∀ (x1 : Int32) (x2 : Int32) (h : am_H), k10 h x1 x2 = some res → am_W (X_Model_product (d + 1 + 1)) 10 [some (.ref 0), some (.int x1), some (.int x2), none] [] h Q) (e : f_Model_product_23 rc k10 h x1 x2 = some res) (q : Q (some (.int res.1)) res.2) : am_W (X_Model_product (d + 1 + 1)) 23 [some (.ref 0), some (.int x1), some (.int x2), none] [] h Q :=
  b_Model_product_23 (d := (d + 1 + 1)) (kt := fun c => (t_Model_product_35 hr0 hr1 hr2 hr3 hr4 hr5 hk10 (am_ift e c) q)) (kf := fun c => (t_Model_product_29 hr0 hr1 hr2 hr3 hr4 hr5 hk10 (am_ife e c) q))
theorem t_Model_product_17 {d : Nat} {rc : rc_Model_both} {k10 : am_H → Int32 → Int32 → Option (Int32 × am_H)} {x1 : Int32} {x2 : Int32} {h : am_H} {Q : am_Q} {res : Int32 × am_H} (hr0 : ∀  {h : am_H} {Q : am_Q} {res : Int32 × am_H}, rc.1 h = some res → Q (some (.int res.1)) res.2 → m_Model_both (d + 1) [.ref 0] h Q) (hr1 : ∀  {h : am_H} {Q : am_Q} {res : Int32 × am_H}, rc.2.1 h = some res → Q (some (.int res.1)) res.2 → m_Model_compared (d + 1) [.ref 0] h Q) (hr2 : ∀  {h : am_H} {Q : am_Q} {res : Int32 × am_H}, rc.2.2.1 h = some res → Q (some (.int res.1)) res.2 → m_Model_either (d + 1) [.ref 0] h Q) (hr3 : ∀  {h : am_H} {Q : am_Q} {res : Int32 × am_H}, rc.2.2.2.1 h = some res → Q (some (.int res.1)) res.2 → m_Model_one (d + 1) [.ref 0] h Q) (hr4 : ∀  {h : am_H} {Q : am_Q} {res : Int32 × am_H}, rc.2.2.2.2.1 h = some res → Q (some (.int res.1)) res.2 → m_Model_product (d + 1) [.ref 0] h Q) (hr5 : ∀  {h : am_H} {Q : am_Q} {res : Int32 × am_H}, rc.2.2.2.2.2 h = some res → Q (some (.int res.1)) res.2 → m_Model_sums (d + 1) [.ref 0] h Q) (hk10 : ∀ (x1 : Int32) (x2 : Int32) (h : am_H), k10 h x1 x2 = some res → am_W (X_Model_product (d + 1 + 1)) 10 [some (.ref 0), some (.int x1), some (.int x2), none] [] h Q) (e : f_Model_product_17 rc k10 h x1 x2 = some res) (q : Q (some (.int res.1)) res.2) : am_W (X_Model_product (d + 1 + 1)) 17 [some (.ref 0), some (.int x1), some (.int x2), none] [] h Q :=
  b_Model_product_17 (d := (d + 1 + 1)) (kt := fun c => (t_Model_product_35 hr0 hr1 hr2 hr3 hr4 hr5 hk10 (am_ift e c) q)) (kf := fun c => (t_Model_product_23 hr0 hr1 hr2 hr3 hr4 hr5 hk10 (am_ife e c) q))
theorem t_Model_product_10 {d : Nat} {rc : rc_Model_both} {k10 : am_H → Int32 → Int32 → Option (Int32 × am_H)} {x1 : Int32} {x2 : Int32} {h : am_H} {Q : am_Q} {res : Int32 × am_H} (hr0 : ∀  {h : am_H} {Q : am_Q} {res : Int32 × am_H}, rc.1 h = some res → Q (some (.int res.1)) res.2 → m_Model_both (d + 1) [.ref 0] h Q) (hr1 : ∀  {h : am_H} {Q : am_Q} {res : Int32 × am_H}, rc.2.1 h = some res → Q (some (.int res.1)) res.2 → m_Model_compared (d + 1) [.ref 0] h Q) (hr2 : ∀  {h : am_H} {Q : am_Q} {res : Int32 × am_H}, rc.2.2.1 h = some res → Q (some (.int res.1)) res.2 → m_Model_either (d + 1) [.ref 0] h Q) (hr3 : ∀  {h : am_H} {Q : am_Q} {res : Int32 × am_H}, rc.2.2.2.1 h = some res → Q (some (.int res.1)) res.2 → m_Model_one (d + 1) [.ref 0] h Q) (hr4 : ∀  {h : am_H} {Q : am_Q} {res : Int32 × am_H}, rc.2.2.2.2.1 h = some res → Q (some (.int res.1)) res.2 → m_Model_product (d + 1) [.ref 0] h Q) (hr5 : ∀  {h : am_H} {Q : am_Q} {res : Int32 × am_H}, rc.2.2.2.2.2 h = some res → Q (some (.int res.1)) res.2 → m_Model_sums (d + 1) [.ref 0] h Q) (hk10 : ∀ (x1 : Int32) (x2 : Int32) (h : am_H), k10 h x1 x2 = some res → am_W (X_Model_product (d + 1 + 1)) 10 [some (.ref 0), some (.int x1), some (.int x2), none] [] h Q) (e : f_Model_product_10 rc k10 h x1 x2 = some res) (q : Q (some (.int res.1)) res.2) : am_W (X_Model_product (d + 1 + 1)) 10 [some (.ref 0), some (.int x1), some (.int x2), none] [] h Q :=
  b_Model_product_10 (d := (d + 1 + 1)) (kt := fun c => (t_Model_product_94 hr0 hr1 hr2 hr3 hr4 hr5 (am_ift e c) q)) (kf := fun c => (t_Model_product_17 hr0 hr1 hr2 hr3 hr4 hr5 hk10 (am_ife e c) q))
theorem t_Model_product_10_l {d : Nat} {rc : rc_Model_both} {Q : am_Q} {res : Int32 × am_H} (hr0 : ∀  {h : am_H} {Q : am_Q} {res : Int32 × am_H}, rc.1 h = some res → Q (some (.int res.1)) res.2 → m_Model_both (d + 1) [.ref 0] h Q) (hr1 : ∀  {h : am_H} {Q : am_Q} {res : Int32 × am_H}, rc.2.1 h = some res → Q (some (.int res.1)) res.2 → m_Model_compared (d + 1) [.ref 0] h Q) (hr2 : ∀  {h : am_H} {Q : am_Q} {res : Int32 × am_H}, rc.2.2.1 h = some res → Q (some (.int res.1)) res.2 → m_Model_either (d + 1) [.ref 0] h Q) (hr3 : ∀  {h : am_H} {Q : am_Q} {res : Int32 × am_H}, rc.2.2.2.1 h = some res → Q (some (.int res.1)) res.2 → m_Model_one (d + 1) [.ref 0] h Q) (hr4 : ∀  {h : am_H} {Q : am_Q} {res : Int32 × am_H}, rc.2.2.2.2.1 h = some res → Q (some (.int res.1)) res.2 → m_Model_product (d + 1) [.ref 0] h Q) (hr5 : ∀  {h : am_H} {Q : am_Q} {res : Int32 × am_H}, rc.2.2.2.2.2 h = some res → Q (some (.int res.1)) res.2 → m_Model_sums (d + 1) [.ref 0] h Q) (q : Q (some (.int res.1)) res.2) : ∀ (n : Nat) (x1 : Int32) (x2 : Int32) (h : am_H), f_Model_product_10_l rc n h x1 x2 = some res → am_W (X_Model_product (d + 1 + 1)) 10 [some (.ref 0), some (.int x1), some (.int x2), none] [] h Q := by
  intro n
  induction n with
  | zero => intro x1 x2 h e; exact am_nn e
  | succ n ih => intro x1 x2 h e; exact t_Model_product_10 hr0 hr1 hr2 hr3 hr4 hr5 (fun x1 x2 h e => ih x1 x2 h  e) e q
theorem t_Model_product_9 {d : Nat} {rc : rc_Model_both} {x1 : Int32} {y0 : Int32} {h : am_H} {Q : am_Q} {res : Int32 × am_H} (hr0 : ∀  {h : am_H} {Q : am_Q} {res : Int32 × am_H}, rc.1 h = some res → Q (some (.int res.1)) res.2 → m_Model_both (d + 1) [.ref 0] h Q) (hr1 : ∀  {h : am_H} {Q : am_Q} {res : Int32 × am_H}, rc.2.1 h = some res → Q (some (.int res.1)) res.2 → m_Model_compared (d + 1) [.ref 0] h Q) (hr2 : ∀  {h : am_H} {Q : am_Q} {res : Int32 × am_H}, rc.2.2.1 h = some res → Q (some (.int res.1)) res.2 → m_Model_either (d + 1) [.ref 0] h Q) (hr3 : ∀  {h : am_H} {Q : am_Q} {res : Int32 × am_H}, rc.2.2.2.1 h = some res → Q (some (.int res.1)) res.2 → m_Model_one (d + 1) [.ref 0] h Q) (hr4 : ∀  {h : am_H} {Q : am_Q} {res : Int32 × am_H}, rc.2.2.2.2.1 h = some res → Q (some (.int res.1)) res.2 → m_Model_product (d + 1) [.ref 0] h Q) (hr5 : ∀  {h : am_H} {Q : am_Q} {res : Int32 × am_H}, rc.2.2.2.2.2 h = some res → Q (some (.int res.1)) res.2 → m_Model_sums (d + 1) [.ref 0] h Q) (e : f_Model_product_9 rc h x1 y0 = some res) (q : Q (some (.int res.1)) res.2) : am_W (X_Model_product (d + 1 + 1)) 9 [some (.ref 0), some (.int x1), none, none] [.int y0] h Q :=
  b_Model_product_9 (d := (d + 1 + 1)) (k := (t_Model_product_10_l hr0 hr1 hr2 hr3 hr4 hr5 q am_fu _ _ _ e))
theorem t_Model_product_4 {d : Nat} {rc : rc_Model_both} {y0 : Int32} {h : am_H} {Q : am_Q} {res : Int32 × am_H} (hr0 : ∀  {h : am_H} {Q : am_Q} {res : Int32 × am_H}, rc.1 h = some res → Q (some (.int res.1)) res.2 → m_Model_both (d + 1) [.ref 0] h Q) (hr1 : ∀  {h : am_H} {Q : am_Q} {res : Int32 × am_H}, rc.2.1 h = some res → Q (some (.int res.1)) res.2 → m_Model_compared (d + 1) [.ref 0] h Q) (hr2 : ∀  {h : am_H} {Q : am_Q} {res : Int32 × am_H}, rc.2.2.1 h = some res → Q (some (.int res.1)) res.2 → m_Model_either (d + 1) [.ref 0] h Q) (hr3 : ∀  {h : am_H} {Q : am_Q} {res : Int32 × am_H}, rc.2.2.2.1 h = some res → Q (some (.int res.1)) res.2 → m_Model_one (d + 1) [.ref 0] h Q) (hr4 : ∀  {h : am_H} {Q : am_Q} {res : Int32 × am_H}, rc.2.2.2.2.1 h = some res → Q (some (.int res.1)) res.2 → m_Model_product (d + 1) [.ref 0] h Q) (hr5 : ∀  {h : am_H} {Q : am_Q} {res : Int32 × am_H}, rc.2.2.2.2.2 h = some res → Q (some (.int res.1)) res.2 → m_Model_sums (d + 1) [.ref 0] h Q) (e : f_Model_product_4 rc h y0 = some res) (q : Q (some (.int res.1)) res.2) : am_W (X_Model_product (d + 1 + 1)) 4 [some (.ref 0), none, none, none] [.int y0] h Q :=
  (am_bd e).elim fun p hp => b_Model_product_4 (d := (d + 1)) (k := c_Model_byteAt (d := d + 1) hp.1 (t_Model_product_9 hr0 hr1 hr2 hr3 hr4 hr5 hp.2 q))
theorem t_Model_product_0 {d : Nat} {rc : rc_Model_both} {h : am_H} {Q : am_Q} {res : Int32 × am_H} (hr0 : ∀  {h : am_H} {Q : am_Q} {res : Int32 × am_H}, rc.1 h = some res → Q (some (.int res.1)) res.2 → m_Model_both (d + 1) [.ref 0] h Q) (hr1 : ∀  {h : am_H} {Q : am_Q} {res : Int32 × am_H}, rc.2.1 h = some res → Q (some (.int res.1)) res.2 → m_Model_compared (d + 1) [.ref 0] h Q) (hr2 : ∀  {h : am_H} {Q : am_Q} {res : Int32 × am_H}, rc.2.2.1 h = some res → Q (some (.int res.1)) res.2 → m_Model_either (d + 1) [.ref 0] h Q) (hr3 : ∀  {h : am_H} {Q : am_Q} {res : Int32 × am_H}, rc.2.2.2.1 h = some res → Q (some (.int res.1)) res.2 → m_Model_one (d + 1) [.ref 0] h Q) (hr4 : ∀  {h : am_H} {Q : am_Q} {res : Int32 × am_H}, rc.2.2.2.2.1 h = some res → Q (some (.int res.1)) res.2 → m_Model_product (d + 1) [.ref 0] h Q) (hr5 : ∀  {h : am_H} {Q : am_Q} {res : Int32 × am_H}, rc.2.2.2.2.2 h = some res → Q (some (.int res.1)) res.2 → m_Model_sums (d + 1) [.ref 0] h Q) (e : f_Model_product_0 rc h = some res) (q : Q (some (.int res.1)) res.2) : am_W (X_Model_product (d + 1 + 1)) 0 [some (.ref 0), none, none, none] [] h Q :=
  (am_bd e).elim fun p hp => b_Model_product_0 (d := (d + 1)) (k := hr3 hp.1 (t_Model_product_4 hr0 hr1 hr2 hr3 hr4 hr5 hp.2 q))
theorem t_Model_sums_77 {d : Nat} {rc : rc_Model_both} {x1 : Int32} {h : am_H} {Q : am_Q} {res : Int32 × am_H} (hr0 : ∀  {h : am_H} {Q : am_Q} {res : Int32 × am_H}, rc.1 h = some res → Q (some (.int res.1)) res.2 → m_Model_both (d + 1) [.ref 0] h Q) (hr1 : ∀  {h : am_H} {Q : am_Q} {res : Int32 × am_H}, rc.2.1 h = some res → Q (some (.int res.1)) res.2 → m_Model_compared (d + 1) [.ref 0] h Q) (hr2 : ∀  {h : am_H} {Q : am_Q} {res : Int32 × am_H}, rc.2.2.1 h = some res → Q (some (.int res.1)) res.2 → m_Model_either (d + 1) [.ref 0] h Q) (hr3 : ∀  {h : am_H} {Q : am_Q} {res : Int32 × am_H}, rc.2.2.2.1 h = some res → Q (some (.int res.1)) res.2 → m_Model_one (d + 1) [.ref 0] h Q) (hr4 : ∀  {h : am_H} {Q : am_Q} {res : Int32 × am_H}, rc.2.2.2.2.1 h = some res → Q (some (.int res.1)) res.2 → m_Model_product (d + 1) [.ref 0] h Q) (hr5 : ∀  {h : am_H} {Q : am_Q} {res : Int32 × am_H}, rc.2.2.2.2.2 h = some res → Q (some (.int res.1)) res.2 → m_Model_sums (d + 1) [.ref 0] h Q) (e : f_Model_sums_77 rc h x1 = some res) (q : Q (some (.int res.1)) res.2) : am_W (X_Model_sums (d + 1 + 1)) 77 [some (.ref 0), some (.int x1), none, none] [] h Q :=
  b_Model_sums_77 (d := (d + 1 + 1)) (q := (am_rIpi (v := x1) e q))
theorem t_Model_sums_73 {d : Nat} {rc : rc_Model_both} {k5 : am_H → Int32 → Option (Int32 × am_H)} {x1 : Int32} {x2 : Int32} {x3 : Int32} {y0 : Int32} {h : am_H} {Q : am_Q} {res : Int32 × am_H} (hr0 : ∀  {h : am_H} {Q : am_Q} {res : Int32 × am_H}, rc.1 h = some res → Q (some (.int res.1)) res.2 → m_Model_both (d + 1) [.ref 0] h Q) (hr1 : ∀  {h : am_H} {Q : am_Q} {res : Int32 × am_H}, rc.2.1 h = some res → Q (some (.int res.1)) res.2 → m_Model_compared (d + 1) [.ref 0] h Q) (hr2 : ∀  {h : am_H} {Q : am_Q} {res : Int32 × am_H}, rc.2.2.1 h = some res → Q (some (.int res.1)) res.2 → m_Model_either (d + 1) [.ref 0] h Q) (hr3 : ∀  {h : am_H} {Q : am_Q} {res : Int32 × am_H}, rc.2.2.2.1 h = some res → Q (some (.int res.1)) res.2 → m_Model_one (d + 1) [.ref 0] h Q) (hr4 : ∀  {h : am_H} {Q : am_Q} {res : Int32 × am_H}, rc.2.2.2.2.1 h = some res → Q (some (.int res.1)) res.2 → m_Model_product (d + 1) [.ref 0] h Q) (hr5 : ∀  {h : am_H} {Q : am_Q} {res : Int32 × am_H}, rc.2.2.2.2.2 h = some res → Q (some (.int res.1)) res.2 → m_Model_sums (d + 1) [.ref 0] h Q) (hk5 : ∀ (x1 : Int32) (h : am_H), k5 h x1 = some res → am_W (X_Model_sums (d + 1 + 1)) 5 [some (.ref 0), some (.int x1), none, none] [] h Q) (e : f_Model_sums_73 rc k5 h y0 = some res) (q : Q (some (.int res.1)) res.2) : am_W (X_Model_sums (d + 1 + 1)) 73 [some (.ref 0), some (.int x1), some (.int x2), some (.int x3)] [.int y0] h Q :=
  b_Model_sums_73 (d := (d + 1 + 1)) (k := (am_wk2 (hk5 _ _ e) ⟨rfl, ⟨rfl, trivial⟩⟩))
theorem t_Model_sums_70 {d : Nat} {rc : rc_Model_both} {k5 : am_H → Int32 → Option (Int32 × am_H)} {x1 : Int32} {x2 : Int32} {x3 : Int32} {h : am_H} {Q : am_Q} {res : Int32 × am_H} (hr0 : ∀  {h : am_H} {Q : am_Q} {res : Int32 × am_H}, rc.1 h = some res → Q (some (.int res.1)) res.2 → m_Model_both (d + 1) [.ref 0] h Q) (hr1 : ∀  {h : am_H} {Q : am_Q} {res : Int32 × am_H}, rc.2.1 h = some res → Q (some (.int res.1)) res.2 → m_Model_compared (d + 1) [.ref 0] h Q) (hr2 : ∀  {h : am_H} {Q : am_Q} {res : Int32 × am_H}, rc.2.2.1 h = some res → Q (some (.int res.1)) res.2 → m_Model_either (d + 1) [.ref 0] h Q) (hr3 : ∀  {h : am_H} {Q : am_Q} {res : Int32 × am_H}, rc.2.2.2.1 h = some res → Q (some (.int res.1)) res.2 → m_Model_one (d + 1) [.ref 0] h Q) (hr4 : ∀  {h : am_H} {Q : am_Q} {res : Int32 × am_H}, rc.2.2.2.2.1 h = some res → Q (some (.int res.1)) res.2 → m_Model_product (d + 1) [.ref 0] h Q) (hr5 : ∀  {h : am_H} {Q : am_Q} {res : Int32 × am_H}, rc.2.2.2.2.2 h = some res → Q (some (.int res.1)) res.2 → m_Model_sums (d + 1) [.ref 0] h Q) (hk5 : ∀ (x1 : Int32) (h : am_H), k5 h x1 = some res → am_W (X_Model_sums (d + 1 + 1)) 5 [some (.ref 0), some (.int x1), none, none] [] h Q) (e : f_Model_sums_70 rc k5 h x1 x3 = some res) (q : Q (some (.int res.1)) res.2) : am_W (X_Model_sums (d + 1 + 1)) 70 [some (.ref 0), some (.int x1), some (.int x2), some (.int x3)] [] h Q :=
  b_Model_sums_70 (d := (d + 1 + 1)) (k := (t_Model_sums_73 hr0 hr1 hr2 hr3 hr4 hr5 hk5 e q))
theorem t_Model_sums_64 {d : Nat} {rc : rc_Model_both} {k5 : am_H → Int32 → Option (Int32 × am_H)} {x1 : Int32} {x2 : Int32} {x3 : Int32} {h : am_H} {Q : am_Q} {res : Int32 × am_H} (hr0 : ∀  {h : am_H} {Q : am_Q} {res : Int32 × am_H}, rc.1 h = some res → Q (some (.int res.1)) res.2 → m_Model_both (d + 1) [.ref 0] h Q) (hr1 : ∀  {h : am_H} {Q : am_Q} {res : Int32 × am_H}, rc.2.1 h = some res → Q (some (.int res.1)) res.2 → m_Model_compared (d + 1) [.ref 0] h Q) (hr2 : ∀  {h : am_H} {Q : am_Q} {res : Int32 × am_H}, rc.2.2.1 h = some res → Q (some (.int res.1)) res.2 → m_Model_either (d + 1) [.ref 0] h Q) (hr3 : ∀  {h : am_H} {Q : am_Q} {res : Int32 × am_H}, rc.2.2.2.1 h = some res → Q (some (.int res.1)) res.2 → m_Model_one (d + 1) [.ref 0] h Q) (hr4 : ∀  {h : am_H} {Q : am_Q} {res : Int32 × am_H}, rc.2.2.2.2.1 h = some res → Q (some (.int res.1)) res.2 → m_Model_product (d + 1) [.ref 0] h Q) (hr5 : ∀  {h : am_H} {Q : am_Q} {res : Int32 × am_H}, rc.2.2.2.2.2 h = some res → Q (some (.int res.1)) res.2 → m_Model_sums (d + 1) [.ref 0] h Q) (hk5 : ∀ (x1 : Int32) (h : am_H), k5 h x1 = some res → am_W (X_Model_sums (d + 1 + 1)) 5 [some (.ref 0), some (.int x1), none, none] [] h Q) (e : f_Model_sums_64 rc k5 h x1 x3 = some res) (q : Q (some (.int res.1)) res.2) : am_W (X_Model_sums (d + 1 + 1)) 64 [some (.ref 0), some (.int x1), some (.int x2), some (.int x3)] [] h Q :=
  b_Model_sums_64 (d := (d + 1 + 1)) (k := (t_Model_sums_73 hr0 hr1 hr2 hr3 hr4 hr5 hk5 e q))
theorem t_Model_sums_59 {d : Nat} {rc : rc_Model_both} {k5 : am_H → Int32 → Option (Int32 × am_H)} {x1 : Int32} {x2 : Int32} {y0 : Int32} {h : am_H} {Q : am_Q} {res : Int32 × am_H} (hr0 : ∀  {h : am_H} {Q : am_Q} {res : Int32 × am_H}, rc.1 h = some res → Q (some (.int res.1)) res.2 → m_Model_both (d + 1) [.ref 0] h Q) (hr1 : ∀  {h : am_H} {Q : am_Q} {res : Int32 × am_H}, rc.2.1 h = some res → Q (some (.int res.1)) res.2 → m_Model_compared (d + 1) [.ref 0] h Q) (hr2 : ∀  {h : am_H} {Q : am_Q} {res : Int32 × am_H}, rc.2.2.1 h = some res → Q (some (.int res.1)) res.2 → m_Model_either (d + 1) [.ref 0] h Q) (hr3 : ∀  {h : am_H} {Q : am_Q} {res : Int32 × am_H}, rc.2.2.2.1 h = some res → Q (some (.int res.1)) res.2 → m_Model_one (d + 1) [.ref 0] h Q) (hr4 : ∀  {h : am_H} {Q : am_Q} {res : Int32 × am_H}, rc.2.2.2.2.1 h = some res → Q (some (.int res.1)) res.2 → m_Model_product (d + 1) [.ref 0] h Q) (hr5 : ∀  {h : am_H} {Q : am_Q} {res : Int32 × am_H}, rc.2.2.2.2.2 h = some res → Q (some (.int res.1)) res.2 → m_Model_sums (d + 1) [.ref 0] h Q) (hk5 : ∀ (x1 : Int32) (h : am_H), k5 h x1 = some res → am_W (X_Model_sums (d + 1 + 1)) 5 [some (.ref 0), some (.int x1), none, none] [] h Q) (e : f_Model_sums_59 rc k5 h x1 x2 y0 = some res) (q : Q (some (.int res.1)) res.2) : am_W (X_Model_sums (d + 1 + 1)) 59 [some (.ref 0), some (.int x1), some (.int x2), none] [.int y0] h Q :=
  b_Model_sums_59 (d := (d + 1 + 1)) (kt := fun c => (t_Model_sums_70 hr0 hr1 hr2 hr3 hr4 hr5 hk5 (am_ift e c) q)) (kf := fun c => (t_Model_sums_64 hr0 hr1 hr2 hr3 hr4 hr5 hk5 (am_ife e c) q))
theorem t_Model_sums_44 {d : Nat} {rc : rc_Model_both} {k5 : am_H → Int32 → Option (Int32 × am_H)} {x1 : Int32} {y0 : Int32} {h : am_H} {Q : am_Q} {res : Int32 × am_H} (hr0 : ∀  {h : am_H} {Q : am_Q} {res : Int32 × am_H}, rc.1 h = some res → Q (some (.int res.1)) res.2 → m_Model_both (d + 1) [.ref 0] h Q) (hr1 : ∀  {h : am_H} {Q : am_Q} {res : Int32 × am_H}, rc.2.1 h = some res → Q (some (.int res.1)) res.2 → m_Model_compared (d + 1) [.ref 0] h Q) (hr2 : ∀  {h : am_H} {Q : am_Q} {res : Int32 × am_H}, rc.2.2.1 h = some res → Q (some (.int res.1)) res.2 → m_Model_either (d + 1) [.ref 0] h Q) (hr3 : ∀  {h : am_H} {Q : am_Q} {res : Int32 × am_H}, rc.2.2.2.1 h = some res → Q (some (.int res.1)) res.2 → m_Model_one (d + 1) [.ref 0] h Q) (hr4 : ∀  {h : am_H} {Q : am_Q} {res : Int32 × am_H}, rc.2.2.2.2.1 h = some res → Q (some (.int res.1)) res.2 → m_Model_product (d + 1) [.ref 0] h Q) (hr5 : ∀  {h : am_H} {Q : am_Q} {res : Int32 × am_H}, rc.2.2.2.2.2 h = some res → Q (some (.int res.1)) res.2 → m_Model_sums (d + 1) [.ref 0] h Q) (hk5 : ∀ (x1 : Int32) (h : am_H), k5 h x1 = some res → am_W (X_Model_sums (d + 1 + 1)) 5 [some (.ref 0), some (.int x1), none, none] [] h Q) (e : f_Model_sums_44 rc k5 h x1 y0 = some res) (q : Q (some (.int res.1)) res.2) : am_W (X_Model_sums (d + 1 + 1)) 44 [some (.ref 0), some (.int x1), none, none] [.int y0] h Q :=
  (am_bd e).elim fun p hp => b_Model_sums_44 (d := (d + 1)) (k := hr4 hp.1 (t_Model_sums_59 hr0 hr1 hr2 hr3 hr4 hr5 hk5 hp.2 q))
theorem t_Model_sums_43 {d : Nat} {rc : rc_Model_both} {k5 : am_H → Int32 → Option (Int32 × am_H)} {x1 : Int32} {h : am_H} {Q : am_Q} {res : Int32 × am_H} (hr0 : ∀  {h : am_H} {Q : am_Q} {res : Int32 × am_H}, rc.1 h = some res → Q (some (.int res.1)) res.2 → m_Model_both (d + 1) [.ref 0] h Q) (hr1 : ∀  {h : am_H} {Q : am_Q} {res : Int32 × am_H}, rc.2.1 h = some res → Q (some (.int res.1)) res.2 → m_Model_compared (d + 1) [.ref 0] h Q) (hr2 : ∀  {h : am_H} {Q : am_Q} {res : Int32 × am_H}, rc.2.2.1 h = some res → Q (some (.int res.1)) res.2 → m_Model_either (d + 1) [.ref 0] h Q) (hr3 : ∀  {h : am_H} {Q : am_Q} {res : Int32 × am_H}, rc.2.2.2.1 h = some res → Q (some (.int res.1)) res.2 → m_Model_one (d + 1) [.ref 0] h Q) (hr4 : ∀  {h : am_H} {Q : am_Q} {res : Int32 × am_H}, rc.2.2.2.2.1 h = some res → Q (some (.int res.1)) res.2 → m_Model_product (d + 1) [.ref 0] h Q) (hr5 : ∀  {h : am_H} {Q : am_Q} {res : Int32 × am_H}, rc.2.2.2.2.2 h = some res → Q (some (.int res.1)) res.2 → m_Model_sums (d + 1) [.ref 0] h Q) (hk5 : ∀ (x1 : Int32) (h : am_H), k5 h x1 = some res → am_W (X_Model_sums (d + 1 + 1)) 5 [some (.ref 0), some (.int x1), none, none] [] h Q) (e : f_Model_sums_43 rc k5 h x1 = some res) (q : Q (some (.int res.1)) res.2) : am_W (X_Model_sums (d + 1 + 1)) 43 [some (.ref 0), some (.int x1), none, none] [] h Q :=
  b_Model_sums_43 (d := (d + 1 + 1)) (k := (t_Model_sums_44 hr0 hr1 hr2 hr3 hr4 hr5 hk5 e q))
theorem t_Model_sums_39 {d : Nat} {rc : rc_Model_both} {k5 : am_H → Int32 → Option (Int32 × am_H)} {x1 : Int32} {h : am_H} {Q : am_Q} {res : Int32 × am_H} (hr0 : ∀  {h : am_H} {Q : am_Q} {res : Int32 × am_H}, rc.1 h = some res → Q (some (.int res.1)) res.2 → m_Model_both (d + 1) [.ref 0] h Q) (hr1 : ∀  {h : am_H} {Q : am_Q} {res : Int32 × am_H}, rc.2.1 h = some res → Q (some (.int res.1)) res.2 → m_Model_compared (d + 1) [.ref 0] h Q) (hr2 : ∀  {h : am_H} {Q : am_Q} {res : Int32 × am_H}, rc.2.2.1 h = some res → Q (some (.int res.1)) res.2 → m_Model_either (d + 1) [.ref 0] h Q) (hr3 : ∀  {h : am_H} {Q : am_Q} {res : Int32 × am_H}, rc.2.2.2.1 h = some res → Q (some (.int res.1)) res.2 → m_Model_one (d + 1) [.ref 0] h Q) (hr4 : ∀  {h : am_H} {Q : am_Q} {res : Int32 × am_H}, rc.2.2.2.2.1 h = some res → Q (some (.int res.1)) res.2 → m_Model_product (d + 1) [.ref 0] h Q) (hr5 : ∀  {h : am_H} {Q : am_Q} {res : Int32 × am_H}, rc.2.2.2.2.2 h = some res → Q (some (.int res.1)) res.2 → m_Model_sums (d + 1) [.ref 0] h Q) (hk5 : ∀ (x1 : Int32) (h : am_H), k5 h x1 = some res → am_W (X_Model_sums (d + 1 + 1)) 5 [some (.ref 0), some (.int x1), none, none] [] h Q) (e : f_Model_sums_39 rc k5 h x1 = some res) (q : Q (some (.int res.1)) res.2) : am_W (X_Model_sums (d + 1 + 1)) 39 [some (.ref 0), some (.int x1), none, none] [] h Q :=
  b_Model_sums_39 (d := (d + 1 + 1)) (k := (t_Model_sums_44 hr0 hr1 hr2 hr3 hr4 hr5 hk5 e q))
theorem t_Model_sums_34 {d : Nat} {rc : rc_Model_both} {k5 : am_H → Int32 → Option (Int32 × am_H)} {x1 : Int32} {y0 : Int32} {h : am_H} {Q : am_Q} {res : Int32 × am_H} (hr0 : ∀  {h : am_H} {Q : am_Q} {res : Int32 × am_H}, rc.1 h = some res → Q (some (.int res.1)) res.2 → m_Model_both (d + 1) [.ref 0] h Q) (hr1 : ∀  {h : am_H} {Q : am_Q} {res : Int32 × am_H}, rc.2.1 h = some res → Q (some (.int res.1)) res.2 → m_Model_compared (d + 1) [.ref 0] h Q) (hr2 : ∀  {h : am_H} {Q : am_Q} {res : Int32 × am_H}, rc.2.2.1 h = some res → Q (some (.int res.1)) res.2 → m_Model_either (d + 1) [.ref 0] h Q) (hr3 : ∀  {h : am_H} {Q : am_Q} {res : Int32 × am_H}, rc.2.2.2.1 h = some res → Q (some (.int res.1)) res.2 → m_Model_one (d + 1) [.ref 0] h Q) (hr4 : ∀  {h : am_H} {Q : am_Q} {res : Int32 × am_H}, rc.2.2.2.2.1 h = some res → Q (some (.int res.1)) res.2 → m_Model_product (d + 1) [.ref 0] h Q) (hr5 : ∀  {h : am_H} {Q : am_Q} {res : Int32 × am_H}, rc.2.2.2.2.2 h = some res → Q (some (.int res.1)) res.2 → m_Model_sums (d + 1) [.ref 0] h Q) (hk5 : ∀ (x1 : Int32) (h : am_H), k5 h x1 = some res → am_W (X_Model_sums (d + 1 + 1)) 5 [some (.ref 0), some (.int x1), none, none] [] h Q) (e : f_Model_sums_34 rc k5 h x1 y0 = some res) (q : Q (some (.int res.1)) res.2) : am_W (X_Model_sums (d + 1 + 1)) 34 [some (.ref 0), some (.int x1), none, none] [.int y0] h Q :=
  b_Model_sums_34 (d := (d + 1 + 1)) (kt := fun c => (t_Model_sums_43 hr0 hr1 hr2 hr3 hr4 hr5 hk5 (am_ife e c) q)) (kf := fun c => (t_Model_sums_39 hr0 hr1 hr2 hr3 hr4 hr5 hk5 (am_ift e c) q))
theorem t_Model_sums_30 {d : Nat} {rc : rc_Model_both} {k5 : am_H → Int32 → Option (Int32 × am_H)} {x1 : Int32} {h : am_H} {Q : am_Q} {res : Int32 × am_H} (hr0 : ∀  {h : am_H} {Q : am_Q} {res : Int32 × am_H}, rc.1 h = some res → Q (some (.int res.1)) res.2 → m_Model_both (d + 1) [.ref 0] h Q) (hr1 : ∀  {h : am_H} {Q : am_Q} {res : Int32 × am_H}, rc.2.1 h = some res → Q (some (.int res.1)) res.2 → m_Model_compared (d + 1) [.ref 0] h Q) (hr2 : ∀  {h : am_H} {Q : am_Q} {res : Int32 × am_H}, rc.2.2.1 h = some res → Q (some (.int res.1)) res.2 → m_Model_either (d + 1) [.ref 0] h Q) (hr3 : ∀  {h : am_H} {Q : am_Q} {res : Int32 × am_H}, rc.2.2.2.1 h = some res → Q (some (.int res.1)) res.2 → m_Model_one (d + 1) [.ref 0] h Q) (hr4 : ∀  {h : am_H} {Q : am_Q} {res : Int32 × am_H}, rc.2.2.2.2.1 h = some res → Q (some (.int res.1)) res.2 → m_Model_product (d + 1) [.ref 0] h Q) (hr5 : ∀  {h : am_H} {Q : am_Q} {res : Int32 × am_H}, rc.2.2.2.2.2 h = some res → Q (some (.int res.1)) res.2 → m_Model_sums (d + 1) [.ref 0] h Q) (hk5 : ∀ (x1 : Int32) (h : am_H), k5 h x1 = some res → am_W (X_Model_sums (d + 1 + 1)) 5 [some (.ref 0), some (.int x1), none, none] [] h Q) (e : f_Model_sums_30 rc k5 h x1 = some res) (q : Q (some (.int res.1)) res.2) : am_W (X_Model_sums (d + 1 + 1)) 30 [some (.ref 0), some (.int x1), none, none] [] h Q :=
  (am_bd e).elim fun p hp => b_Model_sums_30 (d := (d + 1)) (k := c_Model_byteAt (d := d + 1) hp.1 (t_Model_sums_34 hr0 hr1 hr2 hr3 hr4 hr5 hk5 hp.2 q))
theorem t_Model_sums_25 {d : Nat} {rc : rc_Model_both} {k5 : am_H → Int32 → Option (Int32 × am_H)} {x1 : Int32} {y0 : Int32} {h : am_H} {Q : am_Q} {res : Int32 × am_H} (hr0 : ∀  {h : am_H} {Q : am_Q} {res : Int32 × am_H}, rc.1 h = some res → Q (some (.int res.1)) res.2 → m_Model_both (d + 1) [.ref 0] h Q) (hr1 : ∀  {h : am_H} {Q : am_Q} {res : Int32 × am_H}, rc.2.1 h = some res → Q (some (.int res.1)) res.2 → m_Model_compared (d + 1) [.ref 0] h Q) (hr2 : ∀  {h : am_H} {Q : am_Q} {res : Int32 × am_H}, rc.2.2.1 h = some res → Q (some (.int res.1)) res.2 → m_Model_either (d + 1) [.ref 0] h Q) (hr3 : ∀  {h : am_H} {Q : am_Q} {res : Int32 × am_H}, rc.2.2.2.1 h = some res → Q (some (.int res.1)) res.2 → m_Model_one (d + 1) [.ref 0] h Q) (hr4 : ∀  {h : am_H} {Q : am_Q} {res : Int32 × am_H}, rc.2.2.2.2.1 h = some res → Q (some (.int res.1)) res.2 → m_Model_product (d + 1) [.ref 0] h Q) (hr5 : ∀  {h : am_H} {Q : am_Q} {res : Int32 × am_H}, rc.2.2.2.2.2 h = some res → Q (some (.int res.1)) res.2 → m_Model_sums (d + 1) [.ref 0] h Q) (hk5 : ∀ (x1 : Int32) (h : am_H), k5 h x1 = some res → am_W (X_Model_sums (d + 1 + 1)) 5 [some (.ref 0), some (.int x1), none, none] [] h Q) (e : f_Model_sums_25 rc k5 h x1 y0 = some res) (q : Q (some (.int res.1)) res.2) : am_W (X_Model_sums (d + 1 + 1)) 25 [some (.ref 0), some (.int x1), none, none] [.int y0] h Q :=
  b_Model_sums_25 (d := (d + 1 + 1)) (kt := fun c => (t_Model_sums_77 hr0 hr1 hr2 hr3 hr4 hr5 (am_ife e c) q)) (kf := fun c => (t_Model_sums_30 hr0 hr1 hr2 hr3 hr4 hr5 hk5 (am_ift e c) q))
theorem t_Model_sums_21 {d : Nat} {rc : rc_Model_both} {k5 : am_H → Int32 → Option (Int32 × am_H)} {x1 : Int32} {h : am_H} {Q : am_Q} {res : Int32 × am_H} (hr0 : ∀  {h : am_H} {Q : am_Q} {res : Int32 × am_H}, rc.1 h = some res → Q (some (.int res.1)) res.2 → m_Model_both (d + 1) [.ref 0] h Q) (hr1 : ∀  {h : am_H} {Q : am_Q} {res : Int32 × am_H}, rc.2.1 h = some res → Q (some (.int res.1)) res.2 → m_Model_compared (d + 1) [.ref 0] h Q) (hr2 : ∀  {h : am_H} {Q : am_Q} {res : Int32 × am_H}, rc.2.2.1 h = some res → Q (some (.int res.1)) res.2 → m_Model_either (d + 1) [.ref 0] h Q) (hr3 : ∀  {h : am_H} {Q : am_Q} {res : Int32 × am_H}, rc.2.2.2.1 h = some res → Q (some (.int res.1)) res.2 → m_Model_one (d + 1) [.ref 0] h Q) (hr4 : ∀  {h : am_H} {Q : am_Q} {res : Int32 × am_H}, rc.2.2.2.2.1 h = some res → Q (some (.int res.1)) res.2 → m_Model_product (d + 1) [.ref 0] h Q) (hr5 : ∀  {h : am_H} {Q : am_Q} {res : Int32 × am_H}, rc.2.2.2.2.2 h = some res → Q (some (.int res.1)) res.2 → m_Model_sums (d + 1) [.ref 0] h Q) (hk5 : ∀ (x1 : Int32) (h : am_H), k5 h x1 = some res → am_W (X_Model_sums (d + 1 + 1)) 5 [some (.ref 0), some (.int x1), none, none] [] h Q) (e : f_Model_sums_21 rc k5 h x1 = some res) (q : Q (some (.int res.1)) res.2) : am_W (X_Model_sums (d + 1 + 1)) 21 [some (.ref 0), some (.int x1), none, none] [] h Q :=
  (am_bd e).elim fun p hp => b_Model_sums_21 (d := (d + 1)) (k := c_Model_byteAt (d := d + 1) hp.1 (t_Model_sums_25 hr0 hr1 hr2 hr3 hr4 hr5 hk5 hp.2 q))
theorem t_Model_sums_16 {d : Nat} {rc : rc_Model_both} {k5 : am_H → Int32 → Option (Int32 × am_H)} {x1 : Int32} {y0 : Int32} {h : am_H} {Q : am_Q} {res : Int32 × am_H} (hr0 : ∀  {h : am_H} {Q : am_Q} {res : Int32 × am_H}, rc.1 h = some res → Q (some (.int res.1)) res.2 → m_Model_both (d + 1) [.ref 0] h Q) (hr1 : ∀  {h : am_H} {Q : am_Q} {res : Int32 × am_H}, rc.2.1 h = some res → Q (some (.int res.1)) res.2 → m_Model_compared (d + 1) [.ref 0] h Q) (hr2 : ∀  {h : am_H} {Q : am_Q} {res : Int32 × am_H}, rc.2.2.1 h = some res → Q (some (.int res.1)) res.2 → m_Model_either (d + 1) [.ref 0] h Q) (hr3 : ∀  {h : am_H} {Q : am_Q} {res : Int32 × am_H}, rc.2.2.2.1 h = some res → Q (some (.int res.1)) res.2 → m_Model_one (d + 1) [.ref 0] h Q) (hr4 : ∀  {h : am_H} {Q : am_Q} {res : Int32 × am_H}, rc.2.2.2.2.1 h = some res → Q (some (.int res.1)) res.2 → m_Model_product (d + 1) [.ref 0] h Q) (hr5 : ∀  {h : am_H} {Q : am_Q} {res : Int32 × am_H}, rc.2.2.2.2.2 h = some res → Q (some (.int res.1)) res.2 → m_Model_sums (d + 1) [.ref 0] h Q) (hk5 : ∀ (x1 : Int32) (h : am_H), k5 h x1 = some res → am_W (X_Model_sums (d + 1 + 1)) 5 [some (.ref 0), some (.int x1), none, none] [] h Q) (e : f_Model_sums_16 rc k5 h x1 y0 = some res) (q : Q (some (.int res.1)) res.2) : am_W (X_Model_sums (d + 1 + 1)) 16 [some (.ref 0), some (.int x1), none, none] [.int y0] h Q :=
  b_Model_sums_16 (d := (d + 1 + 1)) (kt := fun c => (t_Model_sums_30 hr0 hr1 hr2 hr3 hr4 hr5 hk5 (am_ift e c) q)) (kf := fun c => (t_Model_sums_21 hr0 hr1 hr2 hr3 hr4 hr5 hk5 (am_ife e c) q))
theorem t_Model_sums_12 {d : Nat} {rc : rc_Model_both} {k5 : am_H → Int32 → Option (Int32 × am_H)} {x1 : Int32} {h : am_H} {Q : am_Q} {res : Int32 × am_H} (hr0 : ∀  {h : am_H} {Q : am_Q} {res : Int32 × am_H}, rc.1 h = some res → Q (some (.int res.1)) res.2 → m_Model_both (d + 1) [.ref 0] h Q) (hr1 : ∀  {h : am_H} {Q : am_Q} {res : Int32 × am_H}, rc.2.1 h = some res → Q (some (.int res.1)) res.2 → m_Model_compared (d + 1) [.ref 0] h Q) (hr2 : ∀  {h : am_H} {Q : am_Q} {res : Int32 × am_H}, rc.2.2.1 h = some res → Q (some (.int res.1)) res.2 → m_Model_either (d + 1) [.ref 0] h Q) (hr3 : ∀  {h : am_H} {Q : am_Q} {res : Int32 × am_H}, rc.2.2.2.1 h = some res → Q (some (.int res.1)) res.2 → m_Model_one (d + 1) [.ref 0] h Q) (hr4 : ∀  {h : am_H} {Q : am_Q} {res : Int32 × am_H}, rc.2.2.2.2.1 h = some res → Q (some (.int res.1)) res.2 → m_Model_product (d + 1) [.ref 0] h Q) (hr5 : ∀  {h : am_H} {Q : am_Q} {res : Int32 × am_H}, rc.2.2.2.2.2 h = some res → Q (some (.int res.1)) res.2 → m_Model_sums (d + 1) [.ref 0] h Q) (hk5 : ∀ (x1 : Int32) (h : am_H), k5 h x1 = some res → am_W (X_Model_sums (d + 1 + 1)) 5 [some (.ref 0), some (.int x1), none, none] [] h Q) (e : f_Model_sums_12 rc k5 h x1 = some res) (q : Q (some (.int res.1)) res.2) : am_W (X_Model_sums (d + 1 + 1)) 12 [some (.ref 0), some (.int x1), none, none] [] h Q :=
  (am_bd e).elim fun p hp => b_Model_sums_12 (d := (d + 1)) (k := c_Model_byteAt (d := d + 1) hp.1 (t_Model_sums_16 hr0 hr1 hr2 hr3 hr4 hr5 hk5 hp.2 q))
theorem t_Model_sums_5 {d : Nat} {rc : rc_Model_both} {k5 : am_H → Int32 → Option (Int32 × am_H)} {x1 : Int32} {h : am_H} {Q : am_Q} {res : Int32 × am_H} (hr0 : ∀  {h : am_H} {Q : am_Q} {res : Int32 × am_H}, rc.1 h = some res → Q (some (.int res.1)) res.2 → m_Model_both (d + 1) [.ref 0] h Q) (hr1 : ∀  {h : am_H} {Q : am_Q} {res : Int32 × am_H}, rc.2.1 h = some res → Q (some (.int res.1)) res.2 → m_Model_compared (d + 1) [.ref 0] h Q) (hr2 : ∀  {h : am_H} {Q : am_Q} {res : Int32 × am_H}, rc.2.2.1 h = some res → Q (some (.int res.1)) res.2 → m_Model_either (d + 1) [.ref 0] h Q) (hr3 : ∀  {h : am_H} {Q : am_Q} {res : Int32 × am_H}, rc.2.2.2.1 h = some res → Q (some (.int res.1)) res.2 → m_Model_one (d + 1) [.ref 0] h Q) (hr4 : ∀  {h : am_H} {Q : am_Q} {res : Int32 × am_H}, rc.2.2.2.2.1 h = some res → Q (some (.int res.1)) res.2 → m_Model_product (d + 1) [.ref 0] h Q) (hr5 : ∀  {h : am_H} {Q : am_Q} {res : Int32 × am_H}, rc.2.2.2.2.2 h = some res → Q (some (.int res.1)) res.2 → m_Model_sums (d + 1) [.ref 0] h Q) (hk5 : ∀ (x1 : Int32) (h : am_H), k5 h x1 = some res → am_W (X_Model_sums (d + 1 + 1)) 5 [some (.ref 0), some (.int x1), none, none] [] h Q) (e : f_Model_sums_5 rc k5 h x1 = some res) (q : Q (some (.int res.1)) res.2) : am_W (X_Model_sums (d + 1 + 1)) 5 [some (.ref 0), some (.int x1), none, none] [] h Q :=
  b_Model_sums_5 (d := (d + 1 + 1)) (kt := fun c => (t_Model_sums_77 hr0 hr1 hr2 hr3 hr4 hr5 (am_ift e c) q)) (kf := fun c => (t_Model_sums_12 hr0 hr1 hr2 hr3 hr4 hr5 hk5 (am_ife e c) q))
theorem t_Model_sums_5_l {d : Nat} {rc : rc_Model_both} {Q : am_Q} {res : Int32 × am_H} (hr0 : ∀  {h : am_H} {Q : am_Q} {res : Int32 × am_H}, rc.1 h = some res → Q (some (.int res.1)) res.2 → m_Model_both (d + 1) [.ref 0] h Q) (hr1 : ∀  {h : am_H} {Q : am_Q} {res : Int32 × am_H}, rc.2.1 h = some res → Q (some (.int res.1)) res.2 → m_Model_compared (d + 1) [.ref 0] h Q) (hr2 : ∀  {h : am_H} {Q : am_Q} {res : Int32 × am_H}, rc.2.2.1 h = some res → Q (some (.int res.1)) res.2 → m_Model_either (d + 1) [.ref 0] h Q) (hr3 : ∀  {h : am_H} {Q : am_Q} {res : Int32 × am_H}, rc.2.2.2.1 h = some res → Q (some (.int res.1)) res.2 → m_Model_one (d + 1) [.ref 0] h Q) (hr4 : ∀  {h : am_H} {Q : am_Q} {res : Int32 × am_H}, rc.2.2.2.2.1 h = some res → Q (some (.int res.1)) res.2 → m_Model_product (d + 1) [.ref 0] h Q) (hr5 : ∀  {h : am_H} {Q : am_Q} {res : Int32 × am_H}, rc.2.2.2.2.2 h = some res → Q (some (.int res.1)) res.2 → m_Model_sums (d + 1) [.ref 0] h Q) (q : Q (some (.int res.1)) res.2) : ∀ (n : Nat) (x1 : Int32) (h : am_H), f_Model_sums_5_l rc n h x1 = some res → am_W (X_Model_sums (d + 1 + 1)) 5 [some (.ref 0), some (.int x1), none, none] [] h Q := by
  intro n
  induction n with
  | zero => intro x1 h e; exact am_nn e
  | succ n ih => intro x1 h e; exact t_Model_sums_5 hr0 hr1 hr2 hr3 hr4 hr5 (fun x1 h e => ih x1 h  e) e q
theorem t_Model_sums_4 {d : Nat} {rc : rc_Model_both} {y0 : Int32} {h : am_H} {Q : am_Q} {res : Int32 × am_H} (hr0 : ∀  {h : am_H} {Q : am_Q} {res : Int32 × am_H}, rc.1 h = some res → Q (some (.int res.1)) res.2 → m_Model_both (d + 1) [.ref 0] h Q) (hr1 : ∀  {h : am_H} {Q : am_Q} {res : Int32 × am_H}, rc.2.1 h = some res → Q (some (.int res.1)) res.2 → m_Model_compared (d + 1) [.ref 0] h Q) (hr2 : ∀  {h : am_H} {Q : am_Q} {res : Int32 × am_H}, rc.2.2.1 h = some res → Q (some (.int res.1)) res.2 → m_Model_either (d + 1) [.ref 0] h Q) (hr3 : ∀  {h : am_H} {Q : am_Q} {res : Int32 × am_H}, rc.2.2.2.1 h = some res → Q (some (.int res.1)) res.2 → m_Model_one (d + 1) [.ref 0] h Q) (hr4 : ∀  {h : am_H} {Q : am_Q} {res : Int32 × am_H}, rc.2.2.2.2.1 h = some res → Q (some (.int res.1)) res.2 → m_Model_product (d + 1) [.ref 0] h Q) (hr5 : ∀  {h : am_H} {Q : am_Q} {res : Int32 × am_H}, rc.2.2.2.2.2 h = some res → Q (some (.int res.1)) res.2 → m_Model_sums (d + 1) [.ref 0] h Q) (e : f_Model_sums_4 rc h y0 = some res) (q : Q (some (.int res.1)) res.2) : am_W (X_Model_sums (d + 1 + 1)) 4 [some (.ref 0), none, none, none] [.int y0] h Q :=
  b_Model_sums_4 (d := (d + 1 + 1)) (k := (t_Model_sums_5_l hr0 hr1 hr2 hr3 hr4 hr5 q am_fu _ _ e))
theorem t_Model_sums_0 {d : Nat} {rc : rc_Model_both} {h : am_H} {Q : am_Q} {res : Int32 × am_H} (hr0 : ∀  {h : am_H} {Q : am_Q} {res : Int32 × am_H}, rc.1 h = some res → Q (some (.int res.1)) res.2 → m_Model_both (d + 1) [.ref 0] h Q) (hr1 : ∀  {h : am_H} {Q : am_Q} {res : Int32 × am_H}, rc.2.1 h = some res → Q (some (.int res.1)) res.2 → m_Model_compared (d + 1) [.ref 0] h Q) (hr2 : ∀  {h : am_H} {Q : am_Q} {res : Int32 × am_H}, rc.2.2.1 h = some res → Q (some (.int res.1)) res.2 → m_Model_either (d + 1) [.ref 0] h Q) (hr3 : ∀  {h : am_H} {Q : am_Q} {res : Int32 × am_H}, rc.2.2.2.1 h = some res → Q (some (.int res.1)) res.2 → m_Model_one (d + 1) [.ref 0] h Q) (hr4 : ∀  {h : am_H} {Q : am_Q} {res : Int32 × am_H}, rc.2.2.2.2.1 h = some res → Q (some (.int res.1)) res.2 → m_Model_product (d + 1) [.ref 0] h Q) (hr5 : ∀  {h : am_H} {Q : am_Q} {res : Int32 × am_H}, rc.2.2.2.2.2 h = some res → Q (some (.int res.1)) res.2 → m_Model_sums (d + 1) [.ref 0] h Q) (e : f_Model_sums_0 rc h = some res) (q : Q (some (.int res.1)) res.2) : am_W (X_Model_sums (d + 1 + 1)) 0 [some (.ref 0), none, none, none] [] h Q :=
  (am_bd e).elim fun p hp => b_Model_sums_0 (d := (d + 1)) (k := hr4 hp.1 (t_Model_sums_4 hr0 hr1 hr2 hr3 hr4 hr5 hp.2 q))
theorem s_Model_both : ∀ (n : Nat) {d D : Nat}, D = d + n + 1 → (∀  {h : am_H} {Q : am_Q} {res : Int32 × am_H}, (g_Model_both n).1 h = some res → Q (some (.int res.1)) res.2 → m_Model_both D [.ref 0] h Q) ∧ (∀  {h : am_H} {Q : am_Q} {res : Int32 × am_H}, (g_Model_both n).2.1 h = some res → Q (some (.int res.1)) res.2 → m_Model_compared D [.ref 0] h Q) ∧ (∀  {h : am_H} {Q : am_Q} {res : Int32 × am_H}, (g_Model_both n).2.2.1 h = some res → Q (some (.int res.1)) res.2 → m_Model_either D [.ref 0] h Q) ∧ (∀  {h : am_H} {Q : am_Q} {res : Int32 × am_H}, (g_Model_both n).2.2.2.1 h = some res → Q (some (.int res.1)) res.2 → m_Model_one D [.ref 0] h Q) ∧ (∀  {h : am_H} {Q : am_Q} {res : Int32 × am_H}, (g_Model_both n).2.2.2.2.1 h = some res → Q (some (.int res.1)) res.2 → m_Model_product D [.ref 0] h Q) ∧ (∀  {h : am_H} {Q : am_Q} {res : Int32 × am_H}, (g_Model_both n).2.2.2.2.2 h = some res → Q (some (.int res.1)) res.2 → m_Model_sums D [.ref 0] h Q) := by
  intro n
  induction n with
  | zero =>
    intro d D hD
    refine ⟨?_, ?_, ?_, ?_, ?_, ?_⟩
    · intro  h Q res  e q; exact am_nn e
    · intro  h Q res  e q; exact am_nn e
    · intro  h Q res  e q; exact am_nn e
    · intro  h Q res  e q; exact am_nn e
    · intro  h Q res  e q; exact am_nn e
    · intro  h Q res  e q; exact am_nn e
  | succ n ih =>
    intro d D hD
    obtain rfl : D = d + n + 1 + 1 := by omega
    obtain ⟨i0, i1, i2, i3, i4, i5⟩ := ih (d := d) rfl
    refine ⟨?_, ?_, ?_, ?_, ?_, ?_⟩
    · intro  h Q res  e q; exact e_Model_both (t_Model_both_0 (d := d + n) i0 i1 i2 i3 i4 i5 e q)
    · intro  h Q res  e q; exact e_Model_compared (t_Model_compared_0 (d := d + n) i0 i1 i2 i3 i4 i5 e q)
    · intro  h Q res  e q; exact e_Model_either (t_Model_either_0 (d := d + n) i0 i1 i2 i3 i4 i5 e q)
    · intro  h Q res  e q; exact e_Model_one (t_Model_one_0 (d := d + n) i0 i1 i2 i3 i4 i5 e q)
    · intro  h Q res  e q; exact e_Model_product (t_Model_product_0 (d := d + n) i0 i1 i2 i3 i4 i5 e q)
    · intro  h Q res  e q; exact e_Model_sums (t_Model_sums_0 (d := d + n) i0 i1 i2 i3 i4 i5 e q)

theorem c_Model_both {d : Nat} {h : am_H} {Q : am_Q} {res : Int32 × am_H} (e : f_Model_both h = some res) (q : Q (some (.int res.1)) res.2) : m_Model_both (d + 65) [.ref 0] h Q :=
  (s_Model_both 64 (d := d) (D := d + 65) rfl).1 e q
theorem c_Model_compared {d : Nat} {h : am_H} {Q : am_Q} {res : Int32 × am_H} (e : f_Model_compared h = some res) (q : Q (some (.int res.1)) res.2) : m_Model_compared (d + 65) [.ref 0] h Q :=
  (s_Model_both 64 (d := d) (D := d + 65) rfl).2.1 e q
theorem c_Model_either {d : Nat} {h : am_H} {Q : am_Q} {res : Int32 × am_H} (e : f_Model_either h = some res) (q : Q (some (.int res.1)) res.2) : m_Model_either (d + 65) [.ref 0] h Q :=
  (s_Model_both 64 (d := d) (D := d + 65) rfl).2.2.1 e q
theorem c_Model_one {d : Nat} {h : am_H} {Q : am_Q} {res : Int32 × am_H} (e : f_Model_one h = some res) (q : Q (some (.int res.1)) res.2) : m_Model_one (d + 65) [.ref 0] h Q :=
  (s_Model_both 64 (d := d) (D := d + 65) rfl).2.2.2.1 e q
theorem c_Model_product {d : Nat} {h : am_H} {Q : am_Q} {res : Int32 × am_H} (e : f_Model_product h = some res) (q : Q (some (.int res.1)) res.2) : m_Model_product (d + 65) [.ref 0] h Q :=
  (s_Model_both 64 (d := d) (D := d + 65) rfl).2.2.2.2.1 e q
theorem c_Model_sums {d : Nat} {h : am_H} {Q : am_Q} {res : Int32 × am_H} (e : f_Model_sums h = some res) (q : Q (some (.int res.1)) res.2) : m_Model_sums (d + 65) [.ref 0] h Q :=
  (s_Model_both 64 (d := d) (D := d + 65) rfl).2.2.2.2.2 e q
