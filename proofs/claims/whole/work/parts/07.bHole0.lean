theorem d_Hole_isCell_0 : decode prog_5_method_2_code 0 = .ok (.iload_n 0, 1) := by decide +kernel
theorem d_Hole_isCell_1 : decode prog_5_method_2_code 1 = .ok (.ifCond .lt 13, 3) := by decide +kernel
theorem d_Hole_isCell_4 : decode prog_5_method_2_code 4 = .ok (.iload_n 0, 1) := by decide +kernel
theorem d_Hole_isCell_5 : decode prog_5_method_2_code 5 = .ok (.bipush 31, 2) := by decide +kernel
theorem d_Hole_isCell_7 : decode prog_5_method_2_code 7 = .ok (.if_icmp .ge 7, 3) := by decide +kernel
theorem d_Hole_isCell_10 : decode prog_5_method_2_code 10 = .ok (.iconst 1, 1) := by decide +kernel
theorem d_Hole_isCell_11 : decode prog_5_method_2_code 11 = .ok (.goto 4, 3) := by decide +kernel
theorem d_Hole_isCell_14 : decode prog_5_method_2_code 14 = .ok (.iconst 0, 1) := by decide +kernel
theorem d_Hole_isCell_15 : decode prog_5_method_2_code 15 = .ok (.ireturn, 1) := by decide +kernel
theorem d_Hole_isClub_0 : decode prog_5_method_3_code 0 = .ok (.iconst 1, 1) := by decide +kernel
theorem d_Hole_isClub_1 : decode prog_5_method_3_code 1 = .ok (.iload_n 0, 1) := by decide +kernel
theorem d_Hole_isClub_2 : decode prog_5_method_3_code 2 = .ok (.invokestatic 49, 3) := by decide +kernel
theorem d_Hole_isClub_5 : decode prog_5_method_3_code 5 = .ok (.ifCond .eq 23, 3) := by decide +kernel
theorem d_Hole_isClub_8 : decode prog_5_method_3_code 8 = .ok (.iconst 2, 1) := by decide +kernel
theorem d_Hole_isClub_9 : decode prog_5_method_3_code 9 = .ok (.iload_n 1, 1) := by decide +kernel
theorem d_Hole_isClub_10 : decode prog_5_method_3_code 10 = .ok (.invokestatic 49, 3) := by decide +kernel
theorem d_Hole_isClub_13 : decode prog_5_method_3_code 13 = .ok (.ifCond .eq 15, 3) := by decide +kernel
theorem d_Hole_isClub_16 : decode prog_5_method_3_code 16 = .ok (.iconst 3, 1) := by decide +kernel
theorem d_Hole_isClub_17 : decode prog_5_method_3_code 17 = .ok (.iload_n 2, 1) := by decide +kernel
theorem d_Hole_isClub_18 : decode prog_5_method_3_code 18 = .ok (.invokestatic 49, 3) := by decide +kernel
theorem d_Hole_isClub_21 : decode prog_5_method_3_code 21 = .ok (.ifCond .eq 7, 3) := by decide +kernel
theorem d_Hole_isClub_24 : decode prog_5_method_3_code 24 = .ok (.iconst 1, 1) := by decide +kernel
theorem d_Hole_isClub_25 : decode prog_5_method_3_code 25 = .ok (.goto 4, 3) := by decide +kernel
theorem d_Hole_isClub_28 : decode prog_5_method_3_code 28 = .ok (.iconst 0, 1) := by decide +kernel
theorem d_Hole_isClub_29 : decode prog_5_method_3_code 29 = .ok (.ireturn, 1) := by decide +kernel
theorem d_Hole_isWithin_0 : decode prog_5_method_4_code 0 = .ok (.iload_n 0, 1) := by decide +kernel
theorem d_Hole_isWithin_1 : decode prog_5_method_4_code 1 = .ok (.ifCond .lt 41, 3) := by decide +kernel
theorem d_Hole_isWithin_4 : decode prog_5_method_4_code 4 = .ok (.iload_n 0, 1) := by decide +kernel
theorem d_Hole_isWithin_5 : decode prog_5_method_4_code 5 = .ok (.getstatic 53, 3) := by decide +kernel
theorem d_Hole_isWithin_8 : decode prog_5_method_4_code 8 = .ok (.arraylength, 1) := by decide +kernel
theorem d_Hole_isWithin_9 : decode prog_5_method_4_code 9 = .ok (.if_icmp .ge 33, 3) := by decide +kernel
theorem d_Hole_isWithin_12 : decode prog_5_method_4_code 12 = .ok (.iload_n 0, 1) := by decide +kernel
theorem d_Hole_isWithin_13 : decode prog_5_method_4_code 13 = .ok (.getstatic 56, 3) := by decide +kernel
theorem d_Hole_isWithin_16 : decode prog_5_method_4_code 16 = .ok (.arraylength, 1) := by decide +kernel
theorem d_Hole_isWithin_17 : decode prog_5_method_4_code 17 = .ok (.if_icmp .ge 25, 3) := by decide +kernel
theorem d_Hole_isWithin_20 : decode prog_5_method_4_code 20 = .ok (.iload_n 1, 1) := by decide +kernel
theorem d_Hole_isWithin_21 : decode prog_5_method_4_code 21 = .ok (.getstatic 56, 3) := by decide +kernel
theorem d_Hole_isWithin_24 : decode prog_5_method_4_code 24 = .ok (.iload_n 0, 1) := by decide +kernel
theorem d_Hole_isWithin_25 : decode prog_5_method_4_code 25 = .ok (.iaload, 1) := by decide +kernel
theorem d_Hole_isWithin_26 : decode prog_5_method_4_code 26 = .ok (.if_icmp .lt 16, 3) := by decide +kernel
theorem d_Hole_isWithin_29 : decode prog_5_method_4_code 29 = .ok (.iload_n 1, 1) := by decide +kernel
theorem d_Hole_isWithin_30 : decode prog_5_method_4_code 30 = .ok (.getstatic 53, 3) := by decide +kernel
theorem d_Hole_isWithin_33 : decode prog_5_method_4_code 33 = .ok (.iload_n 0, 1) := by decide +kernel
theorem d_Hole_isWithin_34 : decode prog_5_method_4_code 34 = .ok (.iaload, 1) := by decide +kernel
theorem d_Hole_isWithin_35 : decode prog_5_method_4_code 35 = .ok (.if_icmp .gt 7, 3) := by decide +kernel
theorem d_Hole_isWithin_38 : decode prog_5_method_4_code 38 = .ok (.iconst 1, 1) := by decide +kernel
theorem d_Hole_isWithin_39 : decode prog_5_method_4_code 39 = .ok (.goto 4, 3) := by decide +kernel
theorem d_Hole_isWithin_42 : decode prog_5_method_4_code 42 = .ok (.iconst 0, 1) := by decide +kernel
theorem d_Hole_isWithin_43 : decode prog_5_method_4_code 43 = .ok (.ireturn, 1) := by decide +kernel
theorem d_Hole_hasNumber_0 : decode prog_5_method_5_code 0 = .ok (.iload_n 2, 1) := by decide +kernel
theorem d_Hole_hasNumber_1 : decode prog_5_method_5_code 1 = .ok (.ifCond .ne 8, 3) := by decide +kernel
theorem d_Hole_hasNumber_4 : decode prog_5_method_5_code 4 = .ok (.iload_n 1, 1) := by decide +kernel
theorem d_Hole_hasNumber_5 : decode prog_5_method_5_code 5 = .ok (.invokestatic 59, 3) := by decide +kernel
theorem d_Hole_hasNumber_8 : decode prog_5_method_5_code 8 = .ok (.ireturn, 1) := by decide +kernel
theorem d_Hole_hasNumber_9 : decode prog_5_method_5_code 9 = .ok (.iload_n 2, 1) := by decide +kernel
theorem d_Hole_hasNumber_10 : decode prog_5_method_5_code 10 = .ok (.iconst 1, 1) := by decide +kernel
theorem d_Hole_hasNumber_11 : decode prog_5_method_5_code 11 = .ok (.if_icmp .lt 14, 3) := by decide +kernel
theorem d_Hole_hasNumber_14 : decode prog_5_method_5_code 14 = .ok (.iload_n 2, 1) := by decide +kernel
theorem d_Hole_hasNumber_15 : decode prog_5_method_5_code 15 = .ok (.iconst 3, 1) := by decide +kernel
theorem d_Hole_hasNumber_16 : decode prog_5_method_5_code 16 = .ok (.if_icmp .gt 9, 3) := by decide +kernel
theorem d_Hole_hasNumber_19 : decode prog_5_method_5_code 19 = .ok (.aload_n 0, 1) := by decide +kernel
theorem d_Hole_hasNumber_20 : decode prog_5_method_5_code 20 = .ok (.iload_n 1, 1) := by decide +kernel
theorem d_Hole_hasNumber_21 : decode prog_5_method_5_code 21 = .ok (.invokevirtual 63, 3) := by decide +kernel
theorem d_Hole_hasNumber_24 : decode prog_5_method_5_code 24 = .ok (.ireturn, 1) := by decide +kernel
theorem d_Hole_hasNumber_25 : decode prog_5_method_5_code 25 = .ok (.iload_n 2, 1) := by decide +kernel
theorem d_Hole_hasNumber_26 : decode prog_5_method_5_code 26 = .ok (.iconst 4, 1) := by decide +kernel
theorem d_Hole_hasNumber_27 : decode prog_5_method_5_code 27 = .ok (.if_icmp .lt 17, 3) := by decide +kernel
theorem d_Hole_hasNumber_30 : decode prog_5_method_5_code 30 = .ok (.iload_n 2, 1) := by decide +kernel
theorem d_Hole_hasNumber_31 : decode prog_5_method_5_code 31 = .ok (.bipush 8, 2) := by decide +kernel
theorem d_Hole_hasNumber_33 : decode prog_5_method_5_code 33 = .ok (.if_icmp .gt 11, 3) := by decide +kernel
theorem d_Hole_hasNumber_36 : decode prog_5_method_5_code 36 = .ok (.iload_n 1, 1) := by decide +kernel
theorem d_Hole_hasNumber_37 : decode prog_5_method_5_code 37 = .ok (.ifCond .ne 7, 3) := by decide +kernel
theorem d_Hole_hasNumber_40 : decode prog_5_method_5_code 40 = .ok (.iconst 1, 1) := by decide +kernel
theorem d_Hole_hasNumber_41 : decode prog_5_method_5_code 41 = .ok (.goto 4, 3) := by decide +kernel
theorem d_Hole_hasNumber_44 : decode prog_5_method_5_code 44 = .ok (.iconst 0, 1) := by decide +kernel
theorem d_Hole_hasNumber_45 : decode prog_5_method_5_code 45 = .ok (.ireturn, 1) := by decide +kernel
theorem d_Hole_allows_0 : decode prog_5_method_6_code 0 = .ok (.iload_n 1, 1) := by decide +kernel
theorem d_Hole_allows_1 : decode prog_5_method_6_code 1 = .ok (.bipush 7, 2) := by decide +kernel
theorem d_Hole_allows_3 : decode prog_5_method_6_code 3 = .ok (.if_icmp .ne 14, 3) := by decide +kernel
theorem d_Hole_allows_6 : decode prog_5_method_6_code 6 = .ok (.iload_n 2, 1) := by decide +kernel
theorem d_Hole_allows_7 : decode prog_5_method_6_code 7 = .ok (.bipush 12, 2) := by decide +kernel
theorem d_Hole_allows_9 : decode prog_5_method_6_code 9 = .ok (.aload_n 0, 1) := by decide +kernel
theorem d_Hole_allows_10 : decode prog_5_method_6_code 10 = .ok (.getfield 40, 3) := by decide +kernel
theorem d_Hole_allows_13 : decode prog_5_method_6_code 13 = .ok (.isub, 1) := by decide +kernel
theorem d_Hole_allows_14 : decode prog_5_method_6_code 14 = .ok (.if_icmp .gt 20, 3) := by decide +kernel
theorem d_Hole_allows_17 : decode prog_5_method_6_code 17 = .ok (.iload_n 1, 1) := by decide +kernel
theorem d_Hole_allows_18 : decode prog_5_method_6_code 18 = .ok (.bipush 8, 2) := by decide +kernel
theorem d_Hole_allows_20 : decode prog_5_method_6_code 20 = .ok (.if_icmp .ne 16, 3) := by decide +kernel
theorem d_Hole_allows_23 : decode prog_5_method_6_code 23 = .ok (.iload_n 2, 1) := by decide +kernel
theorem d_Hole_allows_24 : decode prog_5_method_6_code 24 = .ok (.bipush 12, 2) := by decide +kernel
theorem d_Hole_allows_26 : decode prog_5_method_6_code 26 = .ok (.aload_n 0, 1) := by decide +kernel
theorem d_Hole_allows_27 : decode prog_5_method_6_code 27 = .ok (.getfield 37, 3) := by decide +kernel
theorem d_Hole_allows_30 : decode prog_5_method_6_code 30 = .ok (.isub, 1) := by decide +kernel
theorem d_Hole_allows_31 : decode prog_5_method_6_code 31 = .ok (.if_icmp .le 5, 3) := by decide +kernel
theorem d_Hole_allows_34 : decode prog_5_method_6_code 34 = .ok (.iconst 0, 1) := by decide +kernel
theorem d_Hole_allows_35 : decode prog_5_method_6_code 35 = .ok (.ireturn, 1) := by decide +kernel
theorem d_Hole_allows_36 : decode prog_5_method_6_code 36 = .ok (.iload_n 1, 1) := by decide +kernel
theorem d_Hole_allows_37 : decode prog_5_method_6_code 37 = .ok (.iload_n 2, 1) := by decide +kernel
theorem d_Hole_allows_38 : decode prog_5_method_6_code 38 = .ok (.invokestatic 49, 3) := by decide +kernel
theorem d_Hole_allows_41 : decode prog_5_method_6_code 41 = .ok (.ireturn, 1) := by decide +kernel
theorem d_Hole_numberAt_0 : decode prog_5_method_7_code 0 = .ok (.iload_n 2, 1) := by decide +kernel
theorem d_Hole_numberAt_1 : decode prog_5_method_7_code 1 = .ok (.tableswitch 155 0 8 #[51, 70, 90, 110, 130, 135, 140, 145, 150], 51) := by decide +kernel
theorem d_Hole_numberAt_52 : decode prog_5_method_7_code 52 = .ok (.iload_n 1, 1) := by decide +kernel
theorem d_Hole_numberAt_53 : decode prog_5_method_7_code 53 = .ok (.invokestatic 59, 3) := by decide +kernel
theorem d_Hole_numberAt_56 : decode prog_5_method_7_code 56 = .ok (.ifCond .eq 12, 3) := by decide +kernel
theorem d_Hole_numberAt_59 : decode prog_5_method_7_code 59 = .ok (.aload_n 0, 1) := by decide +kernel
theorem d_Hole_numberAt_60 : decode prog_5_method_7_code 60 = .ok (.getfield 11, 3) := by decide +kernel
theorem d_Hole_numberAt_63 : decode prog_5_method_7_code 63 = .ok (.iload_n 1, 1) := by decide +kernel
theorem d_Hole_numberAt_64 : decode prog_5_method_7_code 64 = .ok (.iaload, 1) := by decide +kernel
theorem d_Hole_numberAt_65 : decode prog_5_method_7_code 65 = .ok (.goto 5, 3) := by decide +kernel
theorem d_Hole_numberAt_68 : decode prog_5_method_7_code 68 = .ok (.ldc 66, 2) := by decide +kernel
theorem d_Hole_numberAt_70 : decode prog_5_method_7_code 70 = .ok (.ireturn, 1) := by decide +kernel
theorem d_Hole_numberAt_71 : decode prog_5_method_7_code 71 = .ok (.aload_n 0, 1) := by decide +kernel
theorem d_Hole_numberAt_72 : decode prog_5_method_7_code 72 = .ok (.iload_n 1, 1) := by decide +kernel
theorem d_Hole_numberAt_73 : decode prog_5_method_7_code 73 = .ok (.invokevirtual 63, 3) := by decide +kernel
theorem d_Hole_numberAt_76 : decode prog_5_method_7_code 76 = .ok (.ifCond .eq 12, 3) := by decide +kernel
theorem d_Hole_numberAt_79 : decode prog_5_method_7_code 79 = .ok (.aload_n 0, 1) := by decide +kernel
theorem d_Hole_numberAt_80 : decode prog_5_method_7_code 80 = .ok (.getfield 15, 3) := by decide +kernel
theorem d_Hole_numberAt_83 : decode prog_5_method_7_code 83 = .ok (.iload_n 1, 1) := by decide +kernel
theorem d_Hole_numberAt_84 : decode prog_5_method_7_code 84 = .ok (.iaload, 1) := by decide +kernel
theorem d_Hole_numberAt_85 : decode prog_5_method_7_code 85 = .ok (.goto 5, 3) := by decide +kernel
theorem d_Hole_numberAt_88 : decode prog_5_method_7_code 88 = .ok (.ldc 66, 2) := by decide +kernel
theorem d_Hole_numberAt_90 : decode prog_5_method_7_code 90 = .ok (.ireturn, 1) := by decide +kernel
theorem d_Hole_numberAt_91 : decode prog_5_method_7_code 91 = .ok (.aload_n 0, 1) := by decide +kernel
theorem d_Hole_numberAt_92 : decode prog_5_method_7_code 92 = .ok (.iload_n 1, 1) := by decide +kernel
theorem d_Hole_numberAt_93 : decode prog_5_method_7_code 93 = .ok (.invokevirtual 63, 3) := by decide +kernel
theorem d_Hole_numberAt_96 : decode prog_5_method_7_code 96 = .ok (.ifCond .eq 12, 3) := by decide +kernel
theorem d_Hole_numberAt_99 : decode prog_5_method_7_code 99 = .ok (.aload_n 0, 1) := by decide +kernel
theorem d_Hole_numberAt_100 : decode prog_5_method_7_code 100 = .ok (.getfield 18, 3) := by decide +kernel
theorem d_Hole_numberAt_103 : decode prog_5_method_7_code 103 = .ok (.iload_n 1, 1) := by decide +kernel
theorem d_Hole_numberAt_104 : decode prog_5_method_7_code 104 = .ok (.iaload, 1) := by decide +kernel
theorem d_Hole_numberAt_105 : decode prog_5_method_7_code 105 = .ok (.goto 5, 3) := by decide +kernel
theorem d_Hole_numberAt_108 : decode prog_5_method_7_code 108 = .ok (.ldc 66, 2) := by decide +kernel
theorem d_Hole_numberAt_110 : decode prog_5_method_7_code 110 = .ok (.ireturn, 1) := by decide +kernel
theorem d_Hole_numberAt_111 : decode prog_5_method_7_code 111 = .ok (.aload_n 0, 1) := by decide +kernel
theorem d_Hole_numberAt_112 : decode prog_5_method_7_code 112 = .ok (.iload_n 1, 1) := by decide +kernel
theorem d_Hole_numberAt_113 : decode prog_5_method_7_code 113 = .ok (.invokevirtual 63, 3) := by decide +kernel
theorem d_Hole_numberAt_116 : decode prog_5_method_7_code 116 = .ok (.ifCond .eq 12, 3) := by decide +kernel
theorem d_Hole_numberAt_119 : decode prog_5_method_7_code 119 = .ok (.aload_n 0, 1) := by decide +kernel
theorem d_Hole_numberAt_120 : decode prog_5_method_7_code 120 = .ok (.getfield 21, 3) := by decide +kernel
theorem d_Hole_numberAt_123 : decode prog_5_method_7_code 123 = .ok (.iload_n 1, 1) := by decide +kernel
theorem d_Hole_numberAt_124 : decode prog_5_method_7_code 124 = .ok (.iaload, 1) := by decide +kernel
theorem d_Hole_numberAt_125 : decode prog_5_method_7_code 125 = .ok (.goto 5, 3) := by decide +kernel
theorem d_Hole_numberAt_128 : decode prog_5_method_7_code 128 = .ok (.ldc 66, 2) := by decide +kernel
theorem d_Hole_numberAt_130 : decode prog_5_method_7_code 130 = .ok (.ireturn, 1) := by decide +kernel
theorem d_Hole_numberAt_131 : decode prog_5_method_7_code 131 = .ok (.aload_n 0, 1) := by decide +kernel
theorem d_Hole_numberAt_132 : decode prog_5_method_7_code 132 = .ok (.getfield 28, 3) := by decide +kernel
theorem d_Hole_numberAt_135 : decode prog_5_method_7_code 135 = .ok (.ireturn, 1) := by decide +kernel
theorem d_Hole_numberAt_136 : decode prog_5_method_7_code 136 = .ok (.aload_n 0, 1) := by decide +kernel
theorem d_Hole_numberAt_137 : decode prog_5_method_7_code 137 = .ok (.getfield 31, 3) := by decide +kernel
theorem d_Hole_numberAt_140 : decode prog_5_method_7_code 140 = .ok (.ireturn, 1) := by decide +kernel
theorem d_Hole_numberAt_141 : decode prog_5_method_7_code 141 = .ok (.aload_n 0, 1) := by decide +kernel
theorem d_Hole_numberAt_142 : decode prog_5_method_7_code 142 = .ok (.getfield 34, 3) := by decide +kernel
theorem d_Hole_numberAt_145 : decode prog_5_method_7_code 145 = .ok (.ireturn, 1) := by decide +kernel
theorem d_Hole_numberAt_146 : decode prog_5_method_7_code 146 = .ok (.aload_n 0, 1) := by decide +kernel
theorem d_Hole_numberAt_147 : decode prog_5_method_7_code 147 = .ok (.getfield 37, 3) := by decide +kernel
theorem d_Hole_numberAt_150 : decode prog_5_method_7_code 150 = .ok (.ireturn, 1) := by decide +kernel
theorem d_Hole_numberAt_151 : decode prog_5_method_7_code 151 = .ok (.aload_n 0, 1) := by decide +kernel
theorem d_Hole_numberAt_152 : decode prog_5_method_7_code 152 = .ok (.getfield 40, 3) := by decide +kernel
theorem d_Hole_numberAt_155 : decode prog_5_method_7_code 155 = .ok (.ireturn, 1) := by decide +kernel
theorem d_Hole_numberAt_156 : decode prog_5_method_7_code 156 = .ok (.ldc 66, 2) := by decide +kernel
theorem d_Hole_numberAt_158 : decode prog_5_method_7_code 158 = .ok (.ireturn, 1) := by decide +kernel
theorem d_Hole_become_0 : decode prog_5_method_8_code 0 = .ok (.aload_n 0, 1) := by decide +kernel
theorem d_Hole_become_1 : decode prog_5_method_8_code 1 = .ok (.iload_n 1, 1) := by decide +kernel
theorem d_Hole_become_2 : decode prog_5_method_8_code 2 = .ok (.iload_n 2, 1) := by decide +kernel
theorem d_Hole_become_3 : decode prog_5_method_8_code 3 = .ok (.invokevirtual 67, 3) := by decide +kernel
theorem d_Hole_become_6 : decode prog_5_method_8_code 6 = .ok (.ifCond .ne 4, 3) := by decide +kernel
theorem d_Hole_become_9 : decode prog_5_method_8_code 9 = .ok (.return_, 1) := by decide +kernel
theorem d_Hole_become_10 : decode prog_5_method_8_code 10 = .ok (.iload_n 2, 1) := by decide +kernel
theorem d_Hole_become_11 : decode prog_5_method_8_code 11 = .ok (.tableswitch 117 0 7 #[45, 55, 65, 75, 85, 93, 101, 109], 45) := by decide +kernel
theorem d_Hole_become_56 : decode prog_5_method_8_code 56 = .ok (.aload_n 0, 1) := by decide +kernel
theorem d_Hole_become_57 : decode prog_5_method_8_code 57 = .ok (.getfield 11, 3) := by decide +kernel
theorem d_Hole_become_60 : decode prog_5_method_8_code 60 = .ok (.iload_n 1, 1) := by decide +kernel
theorem d_Hole_become_61 : decode prog_5_method_8_code 61 = .ok (.iload_n 3, 1) := by decide +kernel
theorem d_Hole_become_62 : decode prog_5_method_8_code 62 = .ok (.iastore, 1) := by decide +kernel
theorem d_Hole_become_63 : decode prog_5_method_8_code 63 = .ok (.goto 70, 3) := by decide +kernel
theorem d_Hole_become_66 : decode prog_5_method_8_code 66 = .ok (.aload_n 0, 1) := by decide +kernel
theorem d_Hole_become_67 : decode prog_5_method_8_code 67 = .ok (.getfield 15, 3) := by decide +kernel
theorem d_Hole_become_70 : decode prog_5_method_8_code 70 = .ok (.iload_n 1, 1) := by decide +kernel
theorem d_Hole_become_71 : decode prog_5_method_8_code 71 = .ok (.iload_n 3, 1) := by decide +kernel
theorem d_Hole_become_72 : decode prog_5_method_8_code 72 = .ok (.iastore, 1) := by decide +kernel
theorem d_Hole_become_73 : decode prog_5_method_8_code 73 = .ok (.goto 60, 3) := by decide +kernel
theorem d_Hole_become_76 : decode prog_5_method_8_code 76 = .ok (.aload_n 0, 1) := by decide +kernel
theorem d_Hole_become_77 : decode prog_5_method_8_code 77 = .ok (.getfield 18, 3) := by decide +kernel
theorem d_Hole_become_80 : decode prog_5_method_8_code 80 = .ok (.iload_n 1, 1) := by decide +kernel
theorem d_Hole_become_81 : decode prog_5_method_8_code 81 = .ok (.iload_n 3, 1) := by decide +kernel
theorem d_Hole_become_82 : decode prog_5_method_8_code 82 = .ok (.iastore, 1) := by decide +kernel
theorem d_Hole_become_83 : decode prog_5_method_8_code 83 = .ok (.goto 50, 3) := by decide +kernel
theorem d_Hole_become_86 : decode prog_5_method_8_code 86 = .ok (.aload_n 0, 1) := by decide +kernel
theorem d_Hole_become_87 : decode prog_5_method_8_code 87 = .ok (.getfield 21, 3) := by decide +kernel
theorem d_Hole_become_90 : decode prog_5_method_8_code 90 = .ok (.iload_n 1, 1) := by decide +kernel
theorem d_Hole_become_91 : decode prog_5_method_8_code 91 = .ok (.iload_n 3, 1) := by decide +kernel
theorem d_Hole_become_92 : decode prog_5_method_8_code 92 = .ok (.iastore, 1) := by decide +kernel
theorem d_Hole_become_93 : decode prog_5_method_8_code 93 = .ok (.goto 40, 3) := by decide +kernel
theorem d_Hole_become_96 : decode prog_5_method_8_code 96 = .ok (.aload_n 0, 1) := by decide +kernel
theorem d_Hole_become_97 : decode prog_5_method_8_code 97 = .ok (.iload_n 3, 1) := by decide +kernel
theorem d_Hole_become_98 : decode prog_5_method_8_code 98 = .ok (.putfield 28, 3) := by decide +kernel
theorem d_Hole_become_101 : decode prog_5_method_8_code 101 = .ok (.goto 32, 3) := by decide +kernel
theorem d_Hole_become_104 : decode prog_5_method_8_code 104 = .ok (.aload_n 0, 1) := by decide +kernel
theorem d_Hole_become_105 : decode prog_5_method_8_code 105 = .ok (.iload_n 3, 1) := by decide +kernel
theorem d_Hole_become_106 : decode prog_5_method_8_code 106 = .ok (.putfield 31, 3) := by decide +kernel
theorem d_Hole_become_109 : decode prog_5_method_8_code 109 = .ok (.goto 24, 3) := by decide +kernel
theorem d_Hole_become_112 : decode prog_5_method_8_code 112 = .ok (.aload_n 0, 1) := by decide +kernel
theorem d_Hole_become_113 : decode prog_5_method_8_code 113 = .ok (.iload_n 3, 1) := by decide +kernel
theorem d_Hole_become_114 : decode prog_5_method_8_code 114 = .ok (.putfield 34, 3) := by decide +kernel
theorem d_Hole_become_117 : decode prog_5_method_8_code 117 = .ok (.goto 16, 3) := by decide +kernel
theorem d_Hole_become_120 : decode prog_5_method_8_code 120 = .ok (.aload_n 0, 1) := by decide +kernel
theorem d_Hole_become_121 : decode prog_5_method_8_code 121 = .ok (.iload_n 3, 1) := by decide +kernel
theorem d_Hole_become_122 : decode prog_5_method_8_code 122 = .ok (.putfield 37, 3) := by decide +kernel
theorem d_Hole_become_125 : decode prog_5_method_8_code 125 = .ok (.goto 8, 3) := by decide +kernel
theorem d_Hole_become_128 : decode prog_5_method_8_code 128 = .ok (.aload_n 0, 1) := by decide +kernel
theorem d_Hole_become_129 : decode prog_5_method_8_code 129 = .ok (.iload_n 3, 1) := by decide +kernel
theorem d_Hole_become_130 : decode prog_5_method_8_code 130 = .ok (.putfield 40, 3) := by decide +kernel
theorem d_Hole_become_133 : decode prog_5_method_8_code 133 = .ok (.return_, 1) := by decide +kernel
theorem d_Hole_clubsHeld_0 : decode prog_5_method_9_code 0 = .ok (.aload_n 0, 1) := by decide +kernel
theorem d_Hole_clubsHeld_1 : decode prog_5_method_9_code 1 = .ok (.getfield 24, 3) := by decide +kernel
theorem d_Hole_clubsHeld_4 : decode prog_5_method_9_code 4 = .ok (.ireturn, 1) := by decide +kernel
theorem d_Hole_hasNoClubs_0 : decode prog_5_method_10_code 0 = .ok (.aload_n 0, 1) := by decide +kernel
theorem d_Hole_hasNoClubs_1 : decode prog_5_method_10_code 1 = .ok (.getfield 24, 3) := by decide +kernel
theorem d_Hole_hasNoClubs_4 : decode prog_5_method_10_code 4 = .ok (.ifCond .ne 7, 3) := by decide +kernel
theorem d_Hole_hasNoClubs_7 : decode prog_5_method_10_code 7 = .ok (.iconst 1, 1) := by decide +kernel
theorem d_Hole_hasNoClubs_8 : decode prog_5_method_10_code 8 = .ok (.goto 4, 3) := by decide +kernel
theorem d_Hole_hasNoClubs_11 : decode prog_5_method_10_code 11 = .ok (.iconst 0, 1) := by decide +kernel
theorem d_Hole_hasNoClubs_12 : decode prog_5_method_10_code 12 = .ok (.ireturn, 1) := by decide +kernel
theorem d_Hole_isFull_0 : decode prog_5_method_11_code 0 = .ok (.aload_n 0, 1) := by decide +kernel
theorem d_Hole_isFull_1 : decode prog_5_method_11_code 1 = .ok (.getfield 24, 3) := by decide +kernel
theorem d_Hole_isFull_4 : decode prog_5_method_11_code 4 = .ok (.bipush 6, 2) := by decide +kernel
theorem d_Hole_isFull_6 : decode prog_5_method_11_code 6 = .ok (.if_icmp .lt 7, 3) := by decide +kernel
theorem d_Hole_isFull_9 : decode prog_5_method_11_code 9 = .ok (.iconst 1, 1) := by decide +kernel
theorem d_Hole_isFull_10 : decode prog_5_method_11_code 10 = .ok (.goto 4, 3) := by decide +kernel
theorem d_Hole_isFull_13 : decode prog_5_method_11_code 13 = .ok (.iconst 0, 1) := by decide +kernel
theorem d_Hole_isFull_14 : decode prog_5_method_11_code 14 = .ok (.ireturn, 1) := by decide +kernel
theorem d_Hole_hasClub_0 : decode prog_5_method_12_code 0 = .ok (.iload_n 1, 1) := by decide +kernel
theorem d_Hole_hasClub_1 : decode prog_5_method_12_code 1 = .ok (.ifCond .lt 21, 3) := by decide +kernel
theorem d_Hole_hasClub_4 : decode prog_5_method_12_code 4 = .ok (.iload_n 1, 1) := by decide +kernel
theorem d_Hole_hasClub_5 : decode prog_5_method_12_code 5 = .ok (.aload_n 0, 1) := by decide +kernel
theorem d_Hole_hasClub_6 : decode prog_5_method_12_code 6 = .ok (.getfield 24, 3) := by decide +kernel
theorem d_Hole_hasClub_9 : decode prog_5_method_12_code 9 = .ok (.if_icmp .ge 13, 3) := by decide +kernel
theorem d_Hole_hasClub_12 : decode prog_5_method_12_code 12 = .ok (.iload_n 1, 1) := by decide +kernel
theorem d_Hole_hasClub_13 : decode prog_5_method_12_code 13 = .ok (.bipush 6, 2) := by decide +kernel
theorem d_Hole_hasClub_15 : decode prog_5_method_12_code 15 = .ok (.if_icmp .ge 7, 3) := by decide +kernel
theorem d_Hole_hasClub_18 : decode prog_5_method_12_code 18 = .ok (.iconst 1, 1) := by decide +kernel
theorem d_Hole_hasClub_19 : decode prog_5_method_12_code 19 = .ok (.goto 4, 3) := by decide +kernel
theorem d_Hole_hasClub_22 : decode prog_5_method_12_code 22 = .ok (.iconst 0, 1) := by decide +kernel
theorem d_Hole_hasClub_23 : decode prog_5_method_12_code 23 = .ok (.ireturn, 1) := by decide +kernel
theorem d_Hole_addClub_0 : decode prog_5_method_13_code 0 = .ok (.aload_n 0, 1) := by decide +kernel
theorem d_Hole_addClub_1 : decode prog_5_method_13_code 1 = .ok (.getfield 24, 3) := by decide +kernel
theorem d_Hole_addClub_4 : decode prog_5_method_13_code 4 = .ok (.istore 4, 2) := by decide +kernel
theorem d_Hole_addClub_6 : decode prog_5_method_13_code 6 = .ok (.iload 4, 2) := by decide +kernel
theorem d_Hole_addClub_8 : decode prog_5_method_13_code 8 = .ok (.ifCond .lt 10, 3) := by decide +kernel
theorem d_Hole_addClub_11 : decode prog_5_method_13_code 11 = .ok (.iload 4, 2) := by decide +kernel
theorem d_Hole_addClub_13 : decode prog_5_method_13_code 13 = .ok (.bipush 6, 2) := by decide +kernel
theorem d_Hole_addClub_15 : decode prog_5_method_13_code 15 = .ok (.if_icmp .lt 6, 3) := by decide +kernel
theorem d_Hole_addClub_18 : decode prog_5_method_13_code 18 = .ok (.bipush (-3), 2) := by decide +kernel
theorem d_Hole_addClub_20 : decode prog_5_method_13_code 20 = .ok (.ireturn, 1) := by decide +kernel
theorem d_Hole_addClub_21 : decode prog_5_method_13_code 21 = .ok (.aload_n 0, 1) := by decide +kernel
theorem d_Hole_addClub_22 : decode prog_5_method_13_code 22 = .ok (.getfield 15, 3) := by decide +kernel
theorem d_Hole_addClub_25 : decode prog_5_method_13_code 25 = .ok (.iload 4, 2) := by decide +kernel
theorem d_Hole_addClub_27 : decode prog_5_method_13_code 27 = .ok (.iload_n 1, 1) := by decide +kernel
theorem d_Hole_addClub_28 : decode prog_5_method_13_code 28 = .ok (.iastore, 1) := by decide +kernel
theorem d_Hole_addClub_29 : decode prog_5_method_13_code 29 = .ok (.aload_n 0, 1) := by decide +kernel
theorem d_Hole_addClub_30 : decode prog_5_method_13_code 30 = .ok (.getfield 18, 3) := by decide +kernel
theorem d_Hole_addClub_33 : decode prog_5_method_13_code 33 = .ok (.iload 4, 2) := by decide +kernel
theorem d_Hole_addClub_35 : decode prog_5_method_13_code 35 = .ok (.iload_n 2, 1) := by decide +kernel
theorem d_Hole_addClub_36 : decode prog_5_method_13_code 36 = .ok (.iastore, 1) := by decide +kernel
theorem d_Hole_addClub_37 : decode prog_5_method_13_code 37 = .ok (.aload_n 0, 1) := by decide +kernel
theorem d_Hole_addClub_38 : decode prog_5_method_13_code 38 = .ok (.getfield 21, 3) := by decide +kernel
theorem d_Hole_addClub_41 : decode prog_5_method_13_code 41 = .ok (.iload 4, 2) := by decide +kernel
theorem d_Hole_addClub_43 : decode prog_5_method_13_code 43 = .ok (.iload_n 3, 1) := by decide +kernel
theorem d_Hole_addClub_44 : decode prog_5_method_13_code 44 = .ok (.iastore, 1) := by decide +kernel
theorem d_Hole_addClub_45 : decode prog_5_method_13_code 45 = .ok (.aload_n 0, 1) := by decide +kernel
theorem d_Hole_addClub_46 : decode prog_5_method_13_code 46 = .ok (.iload 4, 2) := by decide +kernel
theorem d_Hole_addClub_48 : decode prog_5_method_13_code 48 = .ok (.iconst 1, 1) := by decide +kernel
theorem d_Hole_addClub_49 : decode prog_5_method_13_code 49 = .ok (.iadd, 1) := by decide +kernel
theorem d_Hole_addClub_50 : decode prog_5_method_13_code 50 = .ok (.putfield 24, 3) := by decide +kernel
theorem d_Hole_addClub_53 : decode prog_5_method_13_code 53 = .ok (.iload 4, 2) := by decide +kernel
theorem d_Hole_addClub_55 : decode prog_5_method_13_code 55 = .ok (.ireturn, 1) := by decide +kernel
theorem d_Hole_addClubs_0 : decode prog_5_method_14_code 0 = .ok (.iconst 0, 1) := by decide +kernel
theorem d_Hole_addClubs_1 : decode prog_5_method_14_code 1 = .ok (.istore 4, 2) := by decide +kernel
theorem d_Hole_addClubs_3 : decode prog_5_method_14_code 3 = .ok (.iload 4, 2) := by decide +kernel
theorem d_Hole_addClubs_5 : decode prog_5_method_14_code 5 = .ok (.iload_n 3, 1) := by decide +kernel
theorem d_Hole_addClubs_6 : decode prog_5_method_14_code 6 = .ok (.if_icmp .ge 105, 3) := by decide +kernel
theorem d_Hole_addClubs_9 : decode prog_5_method_14_code 9 = .ok (.iload 4, 2) := by decide +kernel
theorem d_Hole_addClubs_11 : decode prog_5_method_14_code 11 = .ok (.bipush 6, 2) := by decide +kernel
theorem d_Hole_addClubs_13 : decode prog_5_method_14_code 13 = .ok (.if_icmp .ge 98, 3) := by decide +kernel
theorem d_Hole_addClubs_16 : decode prog_5_method_14_code 16 = .ok (.aload_n 0, 1) := by decide +kernel
theorem d_Hole_addClubs_17 : decode prog_5_method_14_code 17 = .ok (.invokevirtual 70, 3) := by decide +kernel
theorem d_Hole_addClubs_20 : decode prog_5_method_14_code 20 = .ok (.ifCond .ne 17, 3) := by decide +kernel
theorem d_Hole_addClubs_23 : decode prog_5_method_14_code 23 = .ok (.aload_n 1, 1) := by decide +kernel
theorem d_Hole_addClubs_24 : decode prog_5_method_14_code 24 = .ok (.iload_n 2, 1) := by decide +kernel
theorem d_Hole_addClubs_25 : decode prog_5_method_14_code 25 = .ok (.iconst 3, 1) := by decide +kernel
theorem d_Hole_addClubs_26 : decode prog_5_method_14_code 26 = .ok (.iload 4, 2) := by decide +kernel
theorem d_Hole_addClubs_28 : decode prog_5_method_14_code 28 = .ok (.imul, 1) := by decide +kernel
theorem d_Hole_addClubs_29 : decode prog_5_method_14_code 29 = .ok (.iconst 3, 1) := by decide +kernel
theorem d_Hole_addClubs_30 : decode prog_5_method_14_code 30 = .ok (.iadd, 1) := by decide +kernel
theorem d_Hole_addClubs_31 : decode prog_5_method_14_code 31 = .ok (.invokevirtual 74, 3) := by decide +kernel
theorem d_Hole_addClubs_34 : decode prog_5_method_14_code 34 = .ok (.ifCond .ne 6, 3) := by decide +kernel
theorem d_Hole_addClubs_37 : decode prog_5_method_14_code 37 = .ok (.iload 4, 2) := by decide +kernel
theorem d_Hole_addClubs_39 : decode prog_5_method_14_code 39 = .ok (.ireturn, 1) := by decide +kernel
theorem d_Hole_addClubs_40 : decode prog_5_method_14_code 40 = .ok (.iload_n 2, 1) := by decide +kernel
theorem d_Hole_addClubs_41 : decode prog_5_method_14_code 41 = .ok (.iconst 3, 1) := by decide +kernel
theorem d_Hole_addClubs_42 : decode prog_5_method_14_code 42 = .ok (.iload 4, 2) := by decide +kernel
theorem d_Hole_addClubs_44 : decode prog_5_method_14_code 44 = .ok (.imul, 1) := by decide +kernel
theorem d_Hole_addClubs_45 : decode prog_5_method_14_code 45 = .ok (.iadd, 1) := by decide +kernel
theorem d_Hole_addClubs_46 : decode prog_5_method_14_code 46 = .ok (.istore 5, 2) := by decide +kernel
theorem d_Hole_addClubs_48 : decode prog_5_method_14_code 48 = .ok (.aload_n 1, 1) := by decide +kernel
theorem d_Hole_addClubs_49 : decode prog_5_method_14_code 49 = .ok (.iload 5, 2) := by decide +kernel
theorem d_Hole_addClubs_51 : decode prog_5_method_14_code 51 = .ok (.invokevirtual 79, 3) := by decide +kernel
theorem d_Hole_addClubs_54 : decode prog_5_method_14_code 54 = .ok (.l2i, 1) := by decide +kernel
theorem d_Hole_addClubs_55 : decode prog_5_method_14_code 55 = .ok (.istore 6, 2) := by decide +kernel
theorem d_Hole_addClubs_57 : decode prog_5_method_14_code 57 = .ok (.aload_n 1, 1) := by decide +kernel
theorem d_Hole_addClubs_58 : decode prog_5_method_14_code 58 = .ok (.iload 5, 2) := by decide +kernel
theorem d_Hole_addClubs_60 : decode prog_5_method_14_code 60 = .ok (.iconst 1, 1) := by decide +kernel
theorem d_Hole_addClubs_61 : decode prog_5_method_14_code 61 = .ok (.iadd, 1) := by decide +kernel
theorem d_Hole_addClubs_62 : decode prog_5_method_14_code 62 = .ok (.invokevirtual 79, 3) := by decide +kernel
theorem d_Hole_addClubs_65 : decode prog_5_method_14_code 65 = .ok (.l2i, 1) := by decide +kernel
theorem d_Hole_addClubs_66 : decode prog_5_method_14_code 66 = .ok (.istore 7, 2) := by decide +kernel
theorem d_Hole_addClubs_68 : decode prog_5_method_14_code 68 = .ok (.aload_n 1, 1) := by decide +kernel
theorem d_Hole_addClubs_69 : decode prog_5_method_14_code 69 = .ok (.iload 5, 2) := by decide +kernel
theorem d_Hole_addClubs_71 : decode prog_5_method_14_code 71 = .ok (.iconst 2, 1) := by decide +kernel
theorem d_Hole_addClubs_72 : decode prog_5_method_14_code 72 = .ok (.iadd, 1) := by decide +kernel
theorem d_Hole_addClubs_73 : decode prog_5_method_14_code 73 = .ok (.invokevirtual 79, 3) := by decide +kernel
theorem d_Hole_addClubs_76 : decode prog_5_method_14_code 76 = .ok (.l2i, 1) := by decide +kernel
theorem d_Hole_addClubs_77 : decode prog_5_method_14_code 77 = .ok (.istore 8, 2) := by decide +kernel
theorem d_Hole_addClubs_79 : decode prog_5_method_14_code 79 = .ok (.iload 6, 2) := by decide +kernel
theorem d_Hole_addClubs_81 : decode prog_5_method_14_code 81 = .ok (.iload 7, 2) := by decide +kernel
theorem d_Hole_addClubs_83 : decode prog_5_method_14_code 83 = .ok (.iload 8, 2) := by decide +kernel
theorem d_Hole_addClubs_85 : decode prog_5_method_14_code 85 = .ok (.invokestatic 83, 3) := by decide +kernel
theorem d_Hole_addClubs_88 : decode prog_5_method_14_code 88 = .ok (.ifCond .ne 6, 3) := by decide +kernel
theorem d_Hole_addClubs_91 : decode prog_5_method_14_code 91 = .ok (.iload 4, 2) := by decide +kernel
theorem d_Hole_addClubs_93 : decode prog_5_method_14_code 93 = .ok (.ireturn, 1) := by decide +kernel
theorem d_Hole_addClubs_94 : decode prog_5_method_14_code 94 = .ok (.aload_n 0, 1) := by decide +kernel
theorem d_Hole_addClubs_95 : decode prog_5_method_14_code 95 = .ok (.iload 6, 2) := by decide +kernel
theorem d_Hole_addClubs_97 : decode prog_5_method_14_code 97 = .ok (.iload 7, 2) := by decide +kernel
theorem d_Hole_addClubs_99 : decode prog_5_method_14_code 99 = .ok (.iload 8, 2) := by decide +kernel
theorem d_Hole_addClubs_101 : decode prog_5_method_14_code 101 = .ok (.invokevirtual 87, 3) := by decide +kernel
theorem d_Hole_addClubs_104 : decode prog_5_method_14_code 104 = .ok (.pop, 1) := by decide +kernel
theorem d_Hole_addClubs_105 : decode prog_5_method_14_code 105 = .ok (.iinc 4 1, 3) := by decide +kernel
theorem d_Hole_addClubs_108 : decode prog_5_method_14_code 108 = .ok (.goto (-105), 3) := by decide +kernel
theorem d_Hole_addClubs_111 : decode prog_5_method_14_code 111 = .ok (.iload_n 3, 1) := by decide +kernel
theorem d_Hole_addClubs_112 : decode prog_5_method_14_code 112 = .ok (.bipush 6, 2) := by decide +kernel
theorem d_Hole_addClubs_114 : decode prog_5_method_14_code 114 = .ok (.invokestatic 91, 3) := by decide +kernel
theorem d_Hole_addClubs_117 : decode prog_5_method_14_code 117 = .ok (.ireturn, 1) := by decide +kernel
theorem d_Hole_carryOf_0 : decode prog_5_method_15_code 0 = .ok (.aload_n 0, 1) := by decide +kernel
theorem d_Hole_carryOf_1 : decode prog_5_method_15_code 1 = .ok (.iload_n 1, 1) := by decide +kernel
theorem d_Hole_carryOf_2 : decode prog_5_method_15_code 2 = .ok (.invokevirtual 63, 3) := by decide +kernel
theorem d_Hole_carryOf_5 : decode prog_5_method_15_code 5 = .ok (.ifCond .eq 12, 3) := by decide +kernel
theorem d_Hole_carryOf_8 : decode prog_5_method_15_code 8 = .ok (.aload_n 0, 1) := by decide +kernel
theorem d_Hole_carryOf_9 : decode prog_5_method_15_code 9 = .ok (.getfield 15, 3) := by decide +kernel
theorem d_Hole_carryOf_12 : decode prog_5_method_15_code 12 = .ok (.iload_n 1, 1) := by decide +kernel
theorem d_Hole_carryOf_13 : decode prog_5_method_15_code 13 = .ok (.iaload, 1) := by decide +kernel
theorem d_Hole_carryOf_14 : decode prog_5_method_15_code 14 = .ok (.goto 4, 3) := by decide +kernel
theorem d_Hole_carryOf_17 : decode prog_5_method_15_code 17 = .ok (.iconst 0, 1) := by decide +kernel
theorem d_Hole_carryOf_18 : decode prog_5_method_15_code 18 = .ok (.ireturn, 1) := by decide +kernel
theorem d_Hole_spreadOf_0 : decode prog_5_method_16_code 0 = .ok (.aload_n 0, 1) := by decide +kernel
theorem d_Hole_spreadOf_1 : decode prog_5_method_16_code 1 = .ok (.iload_n 1, 1) := by decide +kernel
theorem d_Hole_spreadOf_2 : decode prog_5_method_16_code 2 = .ok (.invokevirtual 63, 3) := by decide +kernel
theorem d_Hole_spreadOf_5 : decode prog_5_method_16_code 5 = .ok (.ifCond .eq 12, 3) := by decide +kernel
theorem d_Hole_spreadOf_8 : decode prog_5_method_16_code 8 = .ok (.aload_n 0, 1) := by decide +kernel
theorem d_Hole_spreadOf_9 : decode prog_5_method_16_code 9 = .ok (.getfield 18, 3) := by decide +kernel
theorem d_Hole_spreadOf_12 : decode prog_5_method_16_code 12 = .ok (.iload_n 1, 1) := by decide +kernel
theorem d_Hole_spreadOf_13 : decode prog_5_method_16_code 13 = .ok (.iaload, 1) := by decide +kernel
theorem d_Hole_spreadOf_14 : decode prog_5_method_16_code 14 = .ok (.goto 4, 3) := by decide +kernel
theorem d_Hole_spreadOf_17 : decode prog_5_method_16_code 17 = .ok (.iconst 0, 1) := by decide +kernel
theorem d_Hole_spreadOf_18 : decode prog_5_method_16_code 18 = .ok (.ireturn, 1) := by decide +kernel
theorem d_Hole_believedOf_0 : decode prog_5_method_17_code 0 = .ok (.aload_n 0, 1) := by decide +kernel
theorem d_Hole_believedOf_1 : decode prog_5_method_17_code 1 = .ok (.iload_n 1, 1) := by decide +kernel
theorem d_Hole_believedOf_2 : decode prog_5_method_17_code 2 = .ok (.invokevirtual 63, 3) := by decide +kernel
theorem d_Hole_believedOf_5 : decode prog_5_method_17_code 5 = .ok (.ifCond .eq 12, 3) := by decide +kernel
theorem d_Hole_believedOf_8 : decode prog_5_method_17_code 8 = .ok (.aload_n 0, 1) := by decide +kernel
theorem d_Hole_believedOf_9 : decode prog_5_method_17_code 9 = .ok (.getfield 21, 3) := by decide +kernel
theorem d_Hole_believedOf_12 : decode prog_5_method_17_code 12 = .ok (.iload_n 1, 1) := by decide +kernel
theorem d_Hole_believedOf_13 : decode prog_5_method_17_code 13 = .ok (.iaload, 1) := by decide +kernel
theorem d_Hole_believedOf_14 : decode prog_5_method_17_code 14 = .ok (.goto 4, 3) := by decide +kernel
theorem d_Hole_believedOf_17 : decode prog_5_method_17_code 17 = .ok (.iconst 0, 1) := by decide +kernel
theorem d_Hole_believedOf_18 : decode prog_5_method_17_code 18 = .ok (.ireturn, 1) := by decide +kernel
theorem d_Hole_waysOf_0 : decode prog_5_method_18_code 0 = .ok (.iconst 2, 1) := by decide +kernel
theorem d_Hole_waysOf_1 : decode prog_5_method_18_code 1 = .ok (.aload_n 0, 1) := by decide +kernel
theorem d_Hole_waysOf_2 : decode prog_5_method_18_code 2 = .ok (.iload_n 1, 1) := by decide +kernel
theorem d_Hole_waysOf_3 : decode prog_5_method_18_code 3 = .ok (.invokevirtual 97, 3) := by decide +kernel
theorem d_Hole_waysOf_6 : decode prog_5_method_18_code 6 = .ok (.imul, 1) := by decide +kernel
theorem d_Hole_waysOf_7 : decode prog_5_method_18_code 7 = .ok (.iconst 1, 1) := by decide +kernel
theorem d_Hole_waysOf_8 : decode prog_5_method_18_code 8 = .ok (.iadd, 1) := by decide +kernel
theorem d_Hole_waysOf_9 : decode prog_5_method_18_code 9 = .ok (.ireturn, 1) := by decide +kernel
theorem d_Hole_isGreen_0 : decode prog_5_method_19_code 0 = .ok (.iload_n 1, 1) := by decide +kernel
theorem d_Hole_isGreen_1 : decode prog_5_method_19_code 1 = .ok (.invokestatic 59, 3) := by decide +kernel
theorem d_Hole_isGreen_4 : decode prog_5_method_19_code 4 = .ok (.ifCond .eq 25, 3) := by decide +kernel
theorem d_Hole_isGreen_7 : decode prog_5_method_19_code 7 = .ok (.iload_n 1, 1) := by decide +kernel
theorem d_Hole_isGreen_8 : decode prog_5_method_19_code 8 = .ok (.aload_n 0, 1) := by decide +kernel
theorem d_Hole_isGreen_9 : decode prog_5_method_19_code 9 = .ok (.getfield 28, 3) := by decide +kernel
theorem d_Hole_isGreen_12 : decode prog_5_method_19_code 12 = .ok (.if_icmp .eq 13, 3) := by decide +kernel
theorem d_Hole_isGreen_15 : decode prog_5_method_19_code 15 = .ok (.aload_n 0, 1) := by decide +kernel
theorem d_Hole_isGreen_16 : decode prog_5_method_19_code 16 = .ok (.getfield 11, 3) := by decide +kernel
theorem d_Hole_isGreen_19 : decode prog_5_method_19_code 19 = .ok (.iload_n 1, 1) := by decide +kernel
theorem d_Hole_isGreen_20 : decode prog_5_method_19_code 20 = .ok (.iaload, 1) := by decide +kernel
theorem d_Hole_isGreen_21 : decode prog_5_method_19_code 21 = .ok (.iconst 4, 1) := by decide +kernel
theorem d_Hole_isGreen_22 : decode prog_5_method_19_code 22 = .ok (.if_icmp .ne 7, 3) := by decide +kernel
theorem d_Hole_isGreen_25 : decode prog_5_method_19_code 25 = .ok (.iconst 1, 1) := by decide +kernel
theorem d_Hole_isGreen_26 : decode prog_5_method_19_code 26 = .ok (.goto 4, 3) := by decide +kernel
theorem d_Hole_isGreen_29 : decode prog_5_method_19_code 29 = .ok (.iconst 0, 1) := by decide +kernel
theorem d_Hole_isGreen_30 : decode prog_5_method_19_code 30 = .ok (.ireturn, 1) := by decide +kernel
theorem d_Hole_isOffGreen_0 : decode prog_5_method_20_code 0 = .ok (.iload_n 1, 1) := by decide +kernel
theorem d_Hole_isOffGreen_1 : decode prog_5_method_20_code 1 = .ok (.invokestatic 59, 3) := by decide +kernel
theorem d_Hole_isOffGreen_4 : decode prog_5_method_20_code 4 = .ok (.ifCond .eq 15, 3) := by decide +kernel
theorem d_Hole_isOffGreen_7 : decode prog_5_method_20_code 7 = .ok (.aload_n 0, 1) := by decide +kernel
theorem d_Hole_isOffGreen_8 : decode prog_5_method_20_code 8 = .ok (.iload_n 1, 1) := by decide +kernel
theorem d_Hole_isOffGreen_9 : decode prog_5_method_20_code 9 = .ok (.invokevirtual 101, 3) := by decide +kernel
theorem d_Hole_isOffGreen_12 : decode prog_5_method_20_code 12 = .ok (.ifCond .ne 7, 3) := by decide +kernel
theorem d_Hole_isOffGreen_15 : decode prog_5_method_20_code 15 = .ok (.iconst 1, 1) := by decide +kernel
theorem d_Hole_isOffGreen_16 : decode prog_5_method_20_code 16 = .ok (.goto 4, 3) := by decide +kernel
theorem d_Hole_isOffGreen_19 : decode prog_5_method_20_code 19 = .ok (.iconst 0, 1) := by decide +kernel
theorem d_Hole_isOffGreen_20 : decode prog_5_method_20_code 20 = .ok (.ireturn, 1) := by decide +kernel
theorem d_Hole_isWater_0 : decode prog_5_method_21_code 0 = .ok (.iload_n 1, 1) := by decide +kernel
theorem d_Hole_isWater_1 : decode prog_5_method_21_code 1 = .ok (.invokestatic 59, 3) := by decide +kernel
theorem d_Hole_isWater_4 : decode prog_5_method_21_code 4 = .ok (.ifCond .eq 25, 3) := by decide +kernel
theorem d_Hole_isWater_7 : decode prog_5_method_21_code 7 = .ok (.iload_n 1, 1) := by decide +kernel
theorem d_Hole_isWater_8 : decode prog_5_method_21_code 8 = .ok (.aload_n 0, 1) := by decide +kernel
theorem d_Hole_isWater_9 : decode prog_5_method_21_code 9 = .ok (.getfield 28, 3) := by decide +kernel
theorem d_Hole_isWater_12 : decode prog_5_method_21_code 12 = .ok (.if_icmp .eq 17, 3) := by decide +kernel
theorem d_Hole_isWater_15 : decode prog_5_method_21_code 15 = .ok (.aload_n 0, 1) := by decide +kernel
theorem d_Hole_isWater_16 : decode prog_5_method_21_code 16 = .ok (.getfield 11, 3) := by decide +kernel
theorem d_Hole_isWater_19 : decode prog_5_method_21_code 19 = .ok (.iload_n 1, 1) := by decide +kernel
theorem d_Hole_isWater_20 : decode prog_5_method_21_code 20 = .ok (.iaload, 1) := by decide +kernel
theorem d_Hole_isWater_21 : decode prog_5_method_21_code 21 = .ok (.iconst 3, 1) := by decide +kernel
theorem d_Hole_isWater_22 : decode prog_5_method_21_code 22 = .ok (.if_icmp .ne 7, 3) := by decide +kernel
theorem d_Hole_isWater_25 : decode prog_5_method_21_code 25 = .ok (.iconst 1, 1) := by decide +kernel
theorem d_Hole_isWater_26 : decode prog_5_method_21_code 26 = .ok (.goto 4, 3) := by decide +kernel
theorem d_Hole_isWater_29 : decode prog_5_method_21_code 29 = .ok (.iconst 0, 1) := by decide +kernel
theorem d_Hole_isWater_30 : decode prog_5_method_21_code 30 = .ok (.ireturn, 1) := by decide +kernel
theorem d_Hole_greenCells_0 : decode prog_5_method_22_code 0 = .ok (.iconst 0, 1) := by decide +kernel
theorem d_Hole_greenCells_1 : decode prog_5_method_22_code 1 = .ok (.istore_n 1, 1) := by decide +kernel
theorem d_Hole_greenCells_2 : decode prog_5_method_22_code 2 = .ok (.iconst 0, 1) := by decide +kernel
theorem d_Hole_greenCells_3 : decode prog_5_method_22_code 3 = .ok (.istore_n 2, 1) := by decide +kernel
theorem d_Hole_greenCells_4 : decode prog_5_method_22_code 4 = .ok (.iload_n 2, 1) := by decide +kernel
theorem d_Hole_greenCells_5 : decode prog_5_method_22_code 5 = .ok (.bipush 31, 2) := by decide +kernel
theorem d_Hole_greenCells_7 : decode prog_5_method_22_code 7 = .ok (.if_icmp .ge 25, 3) := by decide +kernel
theorem d_Hole_greenCells_10 : decode prog_5_method_22_code 10 = .ok (.iload_n 1, 1) := by decide +kernel
theorem d_Hole_greenCells_11 : decode prog_5_method_22_code 11 = .ok (.aload_n 0, 1) := by decide +kernel
theorem d_Hole_greenCells_12 : decode prog_5_method_22_code 12 = .ok (.iload_n 2, 1) := by decide +kernel
theorem d_Hole_greenCells_13 : decode prog_5_method_22_code 13 = .ok (.invokevirtual 101, 3) := by decide +kernel
theorem d_Hole_greenCells_16 : decode prog_5_method_22_code 16 = .ok (.ifCond .eq 7, 3) := by decide +kernel
theorem d_Hole_greenCells_19 : decode prog_5_method_22_code 19 = .ok (.iconst 1, 1) := by decide +kernel
theorem d_Hole_greenCells_20 : decode prog_5_method_22_code 20 = .ok (.goto 4, 3) := by decide +kernel
theorem d_Hole_greenCells_23 : decode prog_5_method_22_code 23 = .ok (.iconst 0, 1) := by decide +kernel
theorem d_Hole_greenCells_24 : decode prog_5_method_22_code 24 = .ok (.iadd, 1) := by decide +kernel
theorem d_Hole_greenCells_25 : decode prog_5_method_22_code 25 = .ok (.istore_n 1, 1) := by decide +kernel
theorem d_Hole_greenCells_26 : decode prog_5_method_22_code 26 = .ok (.iinc 2 1, 3) := by decide +kernel
theorem d_Hole_greenCells_29 : decode prog_5_method_22_code 29 = .ok (.goto (-25), 3) := by decide +kernel
theorem d_Hole_greenCells_32 : decode prog_5_method_22_code 32 = .ok (.iload_n 1, 1) := by decide +kernel
theorem d_Hole_greenCells_33 : decode prog_5_method_22_code 33 = .ok (.ireturn, 1) := by decide +kernel
theorem b_Hole_isCell_0 {d : Nat} {x0 : Int32} {h : am_H} {Q : am_Q} (kt : x0 < 0 → am_W (X_Hole_isCell d) 14 [some (.int x0)] [] h Q) (kf : ¬ x0 < 0 → am_W (X_Hole_isCell d) 4 [some (.int x0)] [] h Q) : am_W (X_Hole_isCell d) 0 [some (.int x0)] [] h Q :=
  am_iload_n d_Hole_isCell_0 rfl (i := 0) rfl <|
    am_if_lt (tgt := 14) d_Hole_isCell_1 (by decide) kt kf
theorem b_Hole_isCell_4 {d : Nat} {x0 : Int32} {h : am_H} {Q : am_Q} (kt : 31 ≤ x0 → am_W (X_Hole_isCell d) 14 [some (.int x0)] [] h Q) (kf : ¬ 31 ≤ x0 → am_W (X_Hole_isCell d) 10 [some (.int x0)] [] h Q) : am_W (X_Hole_isCell d) 4 [some (.int x0)] [] h Q :=
  am_iload_n d_Hole_isCell_4 rfl (i := 0) rfl <|
    am_bipush (v := 31) d_Hole_isCell_5 (by decide) <|
    am_icmp_ge (tgt := 14) d_Hole_isCell_7 (by decide) kt kf
theorem b_Hole_isCell_10 {d : Nat} {x0 : Int32} {h : am_H} {Q : am_Q} (k : am_W (X_Hole_isCell d) 15 [some (.int x0)] [.int 1] h Q) : am_W (X_Hole_isCell d) 10 [some (.int x0)] [] h Q :=
  am_iconst (v := 1) d_Hole_isCell_10 (by decide) <|
    am_goto (tgt := 15) d_Hole_isCell_11 (by decide) k
theorem b_Hole_isCell_14 {d : Nat} {x0 : Int32} {h : am_H} {Q : am_Q} (k : am_W (X_Hole_isCell d) 15 [some (.int x0)] [.int 0] h Q) : am_W (X_Hole_isCell d) 14 [some (.int x0)] [] h Q :=
  am_iconst (v := 0) d_Hole_isCell_14 (by decide) <|
    k
theorem b_Hole_isCell_15 {d : Nat} {x0 : Int32} {y0 : Int32} {h : am_H} {Q : am_Q} (qz : narrow .boolean (.int y0) = .int y0) (q : Q (some (.int y0)) h) : am_W (X_Hole_isCell d) 15 [some (.int x0)] [.int y0] h Q :=
  am_zret (ty := .boolean) rfl qz d_Hole_isCell_15 q
theorem b_Hole_isClub_0 {d : Nat} {x0 : Int32} {x1 : Int32} {x2 : Int32} {h : am_H} {Q : am_Q} (k : m_Hole_isWithin d [.int 1, .int x0] h (fun r h => am_W (X_Hole_isClub (d + 1)) 5 [some (.int x0), some (.int x1), some (.int x2)] (r.toList ++ []) h Q)) : am_W (X_Hole_isClub (d + 1)) 0 [some (.int x0), some (.int x1), some (.int x2)] [] h Q :=
  am_iconst (v := 1) d_Hole_isClub_0 (by decide) <|
    am_iload_n d_Hole_isClub_1 rfl (i := 0) rfl <|
    am_callS (vs := [.int 1, .int x0]) (st := []) rfl d_Hole_isClub_2 w_396 w_397 w_83 w_398 p_Hole_isWithin (Nat.le_of_ble_eq_true rfl) (Nat.le_of_ble_eq_true rfl) rfl k
theorem b_Hole_isClub_5 {d : Nat} {x0 : Int32} {x1 : Int32} {x2 : Int32} {y0 : Int32} {h : am_H} {Q : am_Q} (kt : y0 = 0 → am_W (X_Hole_isClub d) 28 [some (.int x0), some (.int x1), some (.int x2)] [] h Q) (kf : ¬ y0 = 0 → am_W (X_Hole_isClub d) 8 [some (.int x0), some (.int x1), some (.int x2)] [] h Q) : am_W (X_Hole_isClub d) 5 [some (.int x0), some (.int x1), some (.int x2)] [.int y0] h Q :=
  am_if_eq (tgt := 28) d_Hole_isClub_5 (by decide) kt kf
theorem b_Hole_isClub_8 {d : Nat} {x0 : Int32} {x1 : Int32} {x2 : Int32} {h : am_H} {Q : am_Q} (k : m_Hole_isWithin d [.int 2, .int x1] h (fun r h => am_W (X_Hole_isClub (d + 1)) 13 [some (.int x0), some (.int x1), some (.int x2)] (r.toList ++ []) h Q)) : am_W (X_Hole_isClub (d + 1)) 8 [some (.int x0), some (.int x1), some (.int x2)] [] h Q :=
  am_iconst (v := 2) d_Hole_isClub_8 (by decide) <|
    am_iload_n d_Hole_isClub_9 rfl (i := 1) rfl <|
    am_callS (vs := [.int 2, .int x1]) (st := []) rfl d_Hole_isClub_10 w_396 w_397 w_83 w_398 p_Hole_isWithin (Nat.le_of_ble_eq_true rfl) (Nat.le_of_ble_eq_true rfl) rfl k
theorem b_Hole_isClub_13 {d : Nat} {x0 : Int32} {x1 : Int32} {x2 : Int32} {y0 : Int32} {h : am_H} {Q : am_Q} (kt : y0 = 0 → am_W (X_Hole_isClub d) 28 [some (.int x0), some (.int x1), some (.int x2)] [] h Q) (kf : ¬ y0 = 0 → am_W (X_Hole_isClub d) 16 [some (.int x0), some (.int x1), some (.int x2)] [] h Q) : am_W (X_Hole_isClub d) 13 [some (.int x0), some (.int x1), some (.int x2)] [.int y0] h Q :=
  am_if_eq (tgt := 28) d_Hole_isClub_13 (by decide) kt kf
theorem b_Hole_isClub_16 {d : Nat} {x0 : Int32} {x1 : Int32} {x2 : Int32} {h : am_H} {Q : am_Q} (k : m_Hole_isWithin d [.int 3, .int x2] h (fun r h => am_W (X_Hole_isClub (d + 1)) 21 [some (.int x0), some (.int x1), some (.int x2)] (r.toList ++ []) h Q)) : am_W (X_Hole_isClub (d + 1)) 16 [some (.int x0), some (.int x1), some (.int x2)] [] h Q :=
  am_iconst (v := 3) d_Hole_isClub_16 (by decide) <|
    am_iload_n d_Hole_isClub_17 rfl (i := 2) rfl <|
    am_callS (vs := [.int 3, .int x2]) (st := []) rfl d_Hole_isClub_18 w_396 w_397 w_83 w_398 p_Hole_isWithin (Nat.le_of_ble_eq_true rfl) (Nat.le_of_ble_eq_true rfl) rfl k
theorem b_Hole_isClub_21 {d : Nat} {x0 : Int32} {x1 : Int32} {x2 : Int32} {y0 : Int32} {h : am_H} {Q : am_Q} (kt : y0 = 0 → am_W (X_Hole_isClub d) 28 [some (.int x0), some (.int x1), some (.int x2)] [] h Q) (kf : ¬ y0 = 0 → am_W (X_Hole_isClub d) 24 [some (.int x0), some (.int x1), some (.int x2)] [] h Q) : am_W (X_Hole_isClub d) 21 [some (.int x0), some (.int x1), some (.int x2)] [.int y0] h Q :=
  am_if_eq (tgt := 28) d_Hole_isClub_21 (by decide) kt kf
theorem b_Hole_isClub_24 {d : Nat} {x0 : Int32} {x1 : Int32} {x2 : Int32} {h : am_H} {Q : am_Q} (k : am_W (X_Hole_isClub d) 29 [some (.int x0), some (.int x1), some (.int x2)] [.int 1] h Q) : am_W (X_Hole_isClub d) 24 [some (.int x0), some (.int x1), some (.int x2)] [] h Q :=
  am_iconst (v := 1) d_Hole_isClub_24 (by decide) <|
    am_goto (tgt := 29) d_Hole_isClub_25 (by decide) k
theorem b_Hole_isClub_28 {d : Nat} {x0 : Int32} {x1 : Int32} {x2 : Int32} {h : am_H} {Q : am_Q} (k : am_W (X_Hole_isClub d) 29 [some (.int x0), some (.int x1), some (.int x2)] [.int 0] h Q) : am_W (X_Hole_isClub d) 28 [some (.int x0), some (.int x1), some (.int x2)] [] h Q :=
  am_iconst (v := 0) d_Hole_isClub_28 (by decide) <|
    k
theorem b_Hole_isClub_29 {d : Nat} {x0 : Int32} {x1 : Int32} {x2 : Int32} {y0 : Int32} {h : am_H} {Q : am_Q} (qz : narrow .boolean (.int y0) = .int y0) (q : Q (some (.int y0)) h) : am_W (X_Hole_isClub d) 29 [some (.int x0), some (.int x1), some (.int x2)] [.int y0] h Q :=
  am_zret (ty := .boolean) rfl qz d_Hole_isClub_29 q
theorem b_Hole_isWithin_0 {d : Nat} {x0 : Int32} {x1 : Int32} {h : am_H} {Q : am_Q} (kt : x0 < 0 → am_W (X_Hole_isWithin d) 42 [some (.int x0), some (.int x1)] [] h Q) (kf : ¬ x0 < 0 → am_W (X_Hole_isWithin d) 4 [some (.int x0), some (.int x1)] [] h Q) : am_W (X_Hole_isWithin d) 0 [some (.int x0), some (.int x1)] [] h Q :=
  am_iload_n d_Hole_isWithin_0 rfl (i := 0) rfl <|
    am_if_lt (tgt := 42) d_Hole_isWithin_1 (by decide) kt kf
theorem b_Hole_isWithin_4 {d : Nat} {x0 : Int32} {x1 : Int32} {h : am_H} {Q : am_Q} (kt : 9 ≤ x0 → am_W (X_Hole_isWithin d) 42 [some (.int x0), some (.int x1)] [] h Q) (kf : ¬ 9 ≤ x0 → am_W (X_Hole_isWithin d) 12 [some (.int x0), some (.int x1)] [] h Q) : am_W (X_Hole_isWithin d) 4 [some (.int x0), some (.int x1)] [] h Q :=
  am_iload_n d_Hole_isWithin_4 rfl (i := 0) rfl <|
    am_gets tb_MOST w_399 d_Hole_isWithin_5 <|
    am_tlen (v := 9) tb_MOST (by decide) d_Hole_isWithin_8 <|
    am_icmp_ge (tgt := 42) d_Hole_isWithin_9 (by decide) kt kf
theorem b_Hole_isWithin_12 {d : Nat} {x0 : Int32} {x1 : Int32} {h : am_H} {Q : am_Q} (kt : 9 ≤ x0 → am_W (X_Hole_isWithin d) 42 [some (.int x0), some (.int x1)] [] h Q) (kf : ¬ 9 ≤ x0 → am_W (X_Hole_isWithin d) 20 [some (.int x0), some (.int x1)] [] h Q) : am_W (X_Hole_isWithin d) 12 [some (.int x0), some (.int x1)] [] h Q :=
  am_iload_n d_Hole_isWithin_12 rfl (i := 0) rfl <|
    am_gets tb_LEAST w_401 d_Hole_isWithin_13 <|
    am_tlen (v := 9) tb_LEAST (by decide) d_Hole_isWithin_16 <|
    am_icmp_ge (tgt := 42) d_Hole_isWithin_17 (by decide) kt kf
theorem b_Hole_isWithin_20 {d : Nat} {x0 : Int32} {x1 : Int32} {v0 : Int32} {h : am_H} {Q : am_Q} (q0 : vp_in x0 9) (q1 : tc_LEAST.getD x0.toNatClampNeg .null = .int v0) (kt : x1 < v0 → am_W (X_Hole_isWithin d) 42 [some (.int x0), some (.int x1)] [] h Q) (kf : ¬ x1 < v0 → am_W (X_Hole_isWithin d) 29 [some (.int x0), some (.int x1)] [] h Q) : am_W (X_Hole_isWithin d) 20 [some (.int x0), some (.int x1)] [] h Q :=
  am_iload_n d_Hole_isWithin_20 rfl (i := 1) rfl <|
    am_gets tb_LEAST w_401 d_Hole_isWithin_21 <|
    am_iload_n d_Hole_isWithin_24 rfl (i := 0) rfl <|
    am_ti (v := v0) tb_LEAST q0 q1 d_Hole_isWithin_25 <|
    am_icmp_lt (tgt := 42) d_Hole_isWithin_26 (by decide) kt kf
theorem b_Hole_isWithin_29 {d : Nat} {x0 : Int32} {x1 : Int32} {v0 : Int32} {h : am_H} {Q : am_Q} (q0 : vp_in x0 9) (q1 : tc_MOST.getD x0.toNatClampNeg .null = .int v0) (kt : v0 < x1 → am_W (X_Hole_isWithin d) 42 [some (.int x0), some (.int x1)] [] h Q) (kf : ¬ v0 < x1 → am_W (X_Hole_isWithin d) 38 [some (.int x0), some (.int x1)] [] h Q) : am_W (X_Hole_isWithin d) 29 [some (.int x0), some (.int x1)] [] h Q :=
  am_iload_n d_Hole_isWithin_29 rfl (i := 1) rfl <|
    am_gets tb_MOST w_399 d_Hole_isWithin_30 <|
    am_iload_n d_Hole_isWithin_33 rfl (i := 0) rfl <|
    am_ti (v := v0) tb_MOST q0 q1 d_Hole_isWithin_34 <|
    am_icmp_gt (tgt := 42) d_Hole_isWithin_35 (by decide) kt kf
theorem b_Hole_isWithin_38 {d : Nat} {x0 : Int32} {x1 : Int32} {h : am_H} {Q : am_Q} (k : am_W (X_Hole_isWithin d) 43 [some (.int x0), some (.int x1)] [.int 1] h Q) : am_W (X_Hole_isWithin d) 38 [some (.int x0), some (.int x1)] [] h Q :=
  am_iconst (v := 1) d_Hole_isWithin_38 (by decide) <|
    am_goto (tgt := 43) d_Hole_isWithin_39 (by decide) k
theorem b_Hole_isWithin_42 {d : Nat} {x0 : Int32} {x1 : Int32} {h : am_H} {Q : am_Q} (k : am_W (X_Hole_isWithin d) 43 [some (.int x0), some (.int x1)] [.int 0] h Q) : am_W (X_Hole_isWithin d) 42 [some (.int x0), some (.int x1)] [] h Q :=
  am_iconst (v := 0) d_Hole_isWithin_42 (by decide) <|
    k
theorem b_Hole_isWithin_43 {d : Nat} {x0 : Int32} {x1 : Int32} {y0 : Int32} {h : am_H} {Q : am_Q} (qz : narrow .boolean (.int y0) = .int y0) (q : Q (some (.int y0)) h) : am_W (X_Hole_isWithin d) 43 [some (.int x0), some (.int x1)] [.int y0] h Q :=
  am_zret (ty := .boolean) rfl qz d_Hole_isWithin_43 q
theorem b_Hole_hasNumber_0 {d : Nat} {x1 : Int32} {x2 : Int32} {h : am_H} {Q : am_Q} (kt : ¬ x2 = 0 → am_W (X_Hole_hasNumber d) 9 [some (.ref 1), some (.int x1), some (.int x2)] [] h Q) (kf : x2 = 0 → am_W (X_Hole_hasNumber d) 4 [some (.ref 1), some (.int x1), some (.int x2)] [] h Q) : am_W (X_Hole_hasNumber d) 0 [some (.ref 1), some (.int x1), some (.int x2)] [] h Q :=
  am_iload_n d_Hole_hasNumber_0 rfl (i := 2) rfl <|
    am_if_ne (tgt := 9) d_Hole_hasNumber_1 (by decide) kt kf
theorem b_Hole_hasNumber_4 {d : Nat} {x1 : Int32} {x2 : Int32} {h : am_H} {Q : am_Q} (k : m_Hole_isCell d [.int x1] h (fun r h => am_W (X_Hole_hasNumber (d + 1)) 8 [some (.ref 1), some (.int x1), some (.int x2)] (r.toList ++ []) h Q)) : am_W (X_Hole_hasNumber (d + 1)) 4 [some (.ref 1), some (.int x1), some (.int x2)] [] h Q :=
  am_iload_n d_Hole_hasNumber_4 rfl (i := 1) rfl <|
    am_callS (vs := [.int x1]) (st := []) rfl d_Hole_hasNumber_5 w_467 w_468 w_83 w_469 p_Hole_isCell (Nat.le_of_ble_eq_true rfl) (Nat.le_of_ble_eq_true rfl) rfl k
theorem b_Hole_hasNumber_8 {d : Nat} {x1 : Int32} {x2 : Int32} {y0 : Int32} {h : am_H} {Q : am_Q} (qz : narrow .boolean (.int y0) = .int y0) (q : Q (some (.int y0)) h) : am_W (X_Hole_hasNumber d) 8 [some (.ref 1), some (.int x1), some (.int x2)] [.int y0] h Q :=
  am_zret (ty := .boolean) rfl qz d_Hole_hasNumber_8 q
theorem b_Hole_hasNumber_9 {d : Nat} {x1 : Int32} {x2 : Int32} {h : am_H} {Q : am_Q} (kt : x2 < 1 → am_W (X_Hole_hasNumber d) 25 [some (.ref 1), some (.int x1), some (.int x2)] [] h Q) (kf : ¬ x2 < 1 → am_W (X_Hole_hasNumber d) 14 [some (.ref 1), some (.int x1), some (.int x2)] [] h Q) : am_W (X_Hole_hasNumber d) 9 [some (.ref 1), some (.int x1), some (.int x2)] [] h Q :=
  am_iload_n d_Hole_hasNumber_9 rfl (i := 2) rfl <|
    am_iconst (v := 1) d_Hole_hasNumber_10 (by decide) <|
    am_icmp_lt (tgt := 25) d_Hole_hasNumber_11 (by decide) kt kf
theorem b_Hole_hasNumber_14 {d : Nat} {x1 : Int32} {x2 : Int32} {h : am_H} {Q : am_Q} (kt : 3 < x2 → am_W (X_Hole_hasNumber d) 25 [some (.ref 1), some (.int x1), some (.int x2)] [] h Q) (kf : ¬ 3 < x2 → am_W (X_Hole_hasNumber d) 19 [some (.ref 1), some (.int x1), some (.int x2)] [] h Q) : am_W (X_Hole_hasNumber d) 14 [some (.ref 1), some (.int x1), some (.int x2)] [] h Q :=
  am_iload_n d_Hole_hasNumber_14 rfl (i := 2) rfl <|
    am_iconst (v := 3) d_Hole_hasNumber_15 (by decide) <|
    am_icmp_gt (tgt := 25) d_Hole_hasNumber_16 (by decide) kt kf
theorem b_Hole_hasNumber_19 {d : Nat} {x1 : Int32} {x2 : Int32} {h : am_H} {Q : am_Q} (k : m_Hole_hasClub d [.ref 1, .int x1] h (fun r h => am_W (X_Hole_hasNumber (d + 1)) 24 [some (.ref 1), some (.int x1), some (.int x2)] (r.toList ++ []) h Q)) : am_W (X_Hole_hasNumber (d + 1)) 19 [some (.ref 1), some (.int x1), some (.int x2)] [] h Q :=
  am_aload_n d_Hole_hasNumber_19 rfl (i := 0) rfl <|
    am_iload_n d_Hole_hasNumber_20 rfl (i := 1) rfl <|
    am_callV (vs := [.int x1]) (st := []) (k := 1) (ci := 1) rfl d_Hole_hasNumber_21 rfl rfl w_470 w_471 w_472 w_83 w_473 p_Hole_hasClub (Nat.le_of_ble_eq_true rfl) (Nat.le_of_ble_eq_true rfl) rfl k
theorem b_Hole_hasNumber_24 {d : Nat} {x1 : Int32} {x2 : Int32} {y0 : Int32} {h : am_H} {Q : am_Q} (qz : narrow .boolean (.int y0) = .int y0) (q : Q (some (.int y0)) h) : am_W (X_Hole_hasNumber d) 24 [some (.ref 1), some (.int x1), some (.int x2)] [.int y0] h Q :=
  am_zret (ty := .boolean) rfl qz d_Hole_hasNumber_24 q
theorem b_Hole_hasNumber_25 {d : Nat} {x1 : Int32} {x2 : Int32} {h : am_H} {Q : am_Q} (kt : x2 < 4 → am_W (X_Hole_hasNumber d) 44 [some (.ref 1), some (.int x1), some (.int x2)] [] h Q) (kf : ¬ x2 < 4 → am_W (X_Hole_hasNumber d) 30 [some (.ref 1), some (.int x1), some (.int x2)] [] h Q) : am_W (X_Hole_hasNumber d) 25 [some (.ref 1), some (.int x1), some (.int x2)] [] h Q :=
  am_iload_n d_Hole_hasNumber_25 rfl (i := 2) rfl <|
    am_iconst (v := 4) d_Hole_hasNumber_26 (by decide) <|
    am_icmp_lt (tgt := 44) d_Hole_hasNumber_27 (by decide) kt kf
theorem b_Hole_hasNumber_30 {d : Nat} {x1 : Int32} {x2 : Int32} {h : am_H} {Q : am_Q} (kt : 8 < x2 → am_W (X_Hole_hasNumber d) 44 [some (.ref 1), some (.int x1), some (.int x2)] [] h Q) (kf : ¬ 8 < x2 → am_W (X_Hole_hasNumber d) 36 [some (.ref 1), some (.int x1), some (.int x2)] [] h Q) : am_W (X_Hole_hasNumber d) 30 [some (.ref 1), some (.int x1), some (.int x2)] [] h Q :=
  am_iload_n d_Hole_hasNumber_30 rfl (i := 2) rfl <|
    am_bipush (v := 8) d_Hole_hasNumber_31 (by decide) <|
    am_icmp_gt (tgt := 44) d_Hole_hasNumber_33 (by decide) kt kf
theorem b_Hole_hasNumber_36 {d : Nat} {x1 : Int32} {x2 : Int32} {h : am_H} {Q : am_Q} (kt : ¬ x1 = 0 → am_W (X_Hole_hasNumber d) 44 [some (.ref 1), some (.int x1), some (.int x2)] [] h Q) (kf : x1 = 0 → am_W (X_Hole_hasNumber d) 40 [some (.ref 1), some (.int x1), some (.int x2)] [] h Q) : am_W (X_Hole_hasNumber d) 36 [some (.ref 1), some (.int x1), some (.int x2)] [] h Q :=
  am_iload_n d_Hole_hasNumber_36 rfl (i := 1) rfl <|
    am_if_ne (tgt := 44) d_Hole_hasNumber_37 (by decide) kt kf
theorem b_Hole_hasNumber_40 {d : Nat} {x1 : Int32} {x2 : Int32} {h : am_H} {Q : am_Q} (k : am_W (X_Hole_hasNumber d) 45 [some (.ref 1), some (.int x1), some (.int x2)] [.int 1] h Q) : am_W (X_Hole_hasNumber d) 40 [some (.ref 1), some (.int x1), some (.int x2)] [] h Q :=
  am_iconst (v := 1) d_Hole_hasNumber_40 (by decide) <|
    am_goto (tgt := 45) d_Hole_hasNumber_41 (by decide) k
theorem b_Hole_hasNumber_44 {d : Nat} {x1 : Int32} {x2 : Int32} {h : am_H} {Q : am_Q} (k : am_W (X_Hole_hasNumber d) 45 [some (.ref 1), some (.int x1), some (.int x2)] [.int 0] h Q) : am_W (X_Hole_hasNumber d) 44 [some (.ref 1), some (.int x1), some (.int x2)] [] h Q :=
  am_iconst (v := 0) d_Hole_hasNumber_44 (by decide) <|
    k
theorem b_Hole_hasNumber_45 {d : Nat} {x1 : Int32} {x2 : Int32} {y0 : Int32} {h : am_H} {Q : am_Q} (qz : narrow .boolean (.int y0) = .int y0) (q : Q (some (.int y0)) h) : am_W (X_Hole_hasNumber d) 45 [some (.ref 1), some (.int x1), some (.int x2)] [.int y0] h Q :=
  am_zret (ty := .boolean) rfl qz d_Hole_hasNumber_45 q
theorem b_Hole_allows_0 {d : Nat} {x1 : Int32} {x2 : Int32} {h : am_H} {Q : am_Q} (kt : ¬ x1 = 7 → am_W (X_Hole_allows d) 17 [some (.ref 1), some (.int x1), some (.int x2)] [] h Q) (kf : x1 = 7 → am_W (X_Hole_allows d) 6 [some (.ref 1), some (.int x1), some (.int x2)] [] h Q) : am_W (X_Hole_allows d) 0 [some (.ref 1), some (.int x1), some (.int x2)] [] h Q :=
  am_iload_n d_Hole_allows_0 rfl (i := 1) rfl <|
    am_bipush (v := 7) d_Hole_allows_1 (by decide) <|
    am_icmp_ne (tgt := 17) d_Hole_allows_3 (by decide) kt kf
theorem b_Hole_allows_6 {d : Nat} {x1 : Int32} {x2 : Int32} {h : am_H} {Q : am_Q} (kt : (12 - (h.1 1 9)) < x2 → am_W (X_Hole_allows d) 34 [some (.ref 1), some (.int x1), some (.int x2)] [] h Q) (kf : ¬ (12 - (h.1 1 9)) < x2 → am_W (X_Hole_allows d) 17 [some (.ref 1), some (.int x1), some (.int x2)] [] h Q) : am_W (X_Hole_allows d) 6 [some (.ref 1), some (.int x1), some (.int x2)] [] h Q :=
  am_iload_n d_Hole_allows_6 rfl (i := 2) rfl <|
    am_bipush (v := 12) d_Hole_allows_7 (by decide) <|
    am_aload_n d_Hole_allows_9 rfl (i := 0) rfl <|
    am_getI (ci := 1) (i := 9) rfl rfl rfl (Nat.le_of_ble_eq_true rfl) w_130 d_Hole_allows_10 <|
    am_isub d_Hole_allows_13 <|
    am_icmp_gt (tgt := 34) d_Hole_allows_14 (by decide) kt kf
theorem b_Hole_allows_17 {d : Nat} {x1 : Int32} {x2 : Int32} {h : am_H} {Q : am_Q} (kt : ¬ x1 = 8 → am_W (X_Hole_allows d) 36 [some (.ref 1), some (.int x1), some (.int x2)] [] h Q) (kf : x1 = 8 → am_W (X_Hole_allows d) 23 [some (.ref 1), some (.int x1), some (.int x2)] [] h Q) : am_W (X_Hole_allows d) 17 [some (.ref 1), some (.int x1), some (.int x2)] [] h Q :=
  am_iload_n d_Hole_allows_17 rfl (i := 1) rfl <|
    am_bipush (v := 8) d_Hole_allows_18 (by decide) <|
    am_icmp_ne (tgt := 36) d_Hole_allows_20 (by decide) kt kf
theorem b_Hole_allows_23 {d : Nat} {x1 : Int32} {x2 : Int32} {h : am_H} {Q : am_Q} (kt : x2 ≤ (12 - (h.1 1 8)) → am_W (X_Hole_allows d) 36 [some (.ref 1), some (.int x1), some (.int x2)] [] h Q) (kf : ¬ x2 ≤ (12 - (h.1 1 8)) → am_W (X_Hole_allows d) 34 [some (.ref 1), some (.int x1), some (.int x2)] [] h Q) : am_W (X_Hole_allows d) 23 [some (.ref 1), some (.int x1), some (.int x2)] [] h Q :=
  am_iload_n d_Hole_allows_23 rfl (i := 2) rfl <|
    am_bipush (v := 12) d_Hole_allows_24 (by decide) <|
    am_aload_n d_Hole_allows_26 rfl (i := 0) rfl <|
    am_getI (ci := 1) (i := 8) rfl rfl rfl (Nat.le_of_ble_eq_true rfl) w_129 d_Hole_allows_27 <|
    am_isub d_Hole_allows_30 <|
    am_icmp_le (tgt := 36) d_Hole_allows_31 (by decide) kt kf
theorem b_Hole_allows_34 {d : Nat} {x1 : Int32} {x2 : Int32} {h : am_H} {Q : am_Q} (q : Q (some (.int 0)) h) : am_W (X_Hole_allows d) 34 [some (.ref 1), some (.int x1), some (.int x2)] [] h Q :=
  am_iconst (v := 0) d_Hole_allows_34 (by decide) <|
    am_zret (ty := .boolean) rfl (by decide) d_Hole_allows_35 q
theorem b_Hole_allows_36 {d : Nat} {x1 : Int32} {x2 : Int32} {h : am_H} {Q : am_Q} (k : m_Hole_isWithin d [.int x1, .int x2] h (fun r h => am_W (X_Hole_allows (d + 1)) 41 [some (.ref 1), some (.int x1), some (.int x2)] (r.toList ++ []) h Q)) : am_W (X_Hole_allows (d + 1)) 36 [some (.ref 1), some (.int x1), some (.int x2)] [] h Q :=
  am_iload_n d_Hole_allows_36 rfl (i := 1) rfl <|
    am_iload_n d_Hole_allows_37 rfl (i := 2) rfl <|
    am_callS (vs := [.int x1, .int x2]) (st := []) rfl d_Hole_allows_38 w_396 w_397 w_83 w_398 p_Hole_isWithin (Nat.le_of_ble_eq_true rfl) (Nat.le_of_ble_eq_true rfl) rfl k
theorem b_Hole_allows_41 {d : Nat} {x1 : Int32} {x2 : Int32} {y0 : Int32} {h : am_H} {Q : am_Q} (qz : narrow .boolean (.int y0) = .int y0) (q : Q (some (.int y0)) h) : am_W (X_Hole_allows d) 41 [some (.ref 1), some (.int x1), some (.int x2)] [.int y0] h Q :=
  am_zret (ty := .boolean) rfl qz d_Hole_allows_41 q
theorem b_Hole_numberAt_0 {d : Nat} {x1 : Int32} {x2 : Int32} {h : am_H} {Q : am_Q} (k0 : x2 = 0 → am_W (X_Hole_numberAt d) 52 [some (.ref 1), some (.int x1), some (.int x2)] [] h Q) (k1 : x2 = 1 → am_W (X_Hole_numberAt d) 71 [some (.ref 1), some (.int x1), some (.int x2)] [] h Q) (k2 : x2 = 2 → am_W (X_Hole_numberAt d) 91 [some (.ref 1), some (.int x1), some (.int x2)] [] h Q) (k3 : x2 = 3 → am_W (X_Hole_numberAt d) 111 [some (.ref 1), some (.int x1), some (.int x2)] [] h Q) (k4 : x2 = 4 → am_W (X_Hole_numberAt d) 131 [some (.ref 1), some (.int x1), some (.int x2)] [] h Q) (k5 : x2 = 5 → am_W (X_Hole_numberAt d) 136 [some (.ref 1), some (.int x1), some (.int x2)] [] h Q) (k6 : x2 = 6 → am_W (X_Hole_numberAt d) 141 [some (.ref 1), some (.int x1), some (.int x2)] [] h Q) (k7 : x2 = 7 → am_W (X_Hole_numberAt d) 146 [some (.ref 1), some (.int x1), some (.int x2)] [] h Q) (k8 : x2 = 8 → am_W (X_Hole_numberAt d) 151 [some (.ref 1), some (.int x1), some (.int x2)] [] h Q) (kd : ¬ x2 = 0 → ¬ x2 = 1 → ¬ x2 = 2 → ¬ x2 = 3 → ¬ x2 = 4 → ¬ x2 = 5 → ¬ x2 = 6 → ¬ x2 = 7 → ¬ x2 = 8 → am_W (X_Hole_numberAt d) 156 [some (.ref 1), some (.int x1), some (.int x2)] [] h Q) : am_W (X_Hole_numberAt d) 0 [some (.ref 1), some (.int x1), some (.int x2)] [] h Q := by
  refine am_iload_n d_Hole_numberAt_0 rfl (i := 2) rfl ?_
  by_cases e0 : (x2 : Int32).toInt < 0 ∨ 8 < (x2 : Int32).toInt
  · exact am_tableOut (tgt := 156) d_Hole_numberAt_1 e0 (by decide) (kd (fun e => by rw [e] at e0; revert e0; decide) (fun e => by rw [e] at e0; revert e0; decide) (fun e => by rw [e] at e0; revert e0; decide) (fun e => by rw [e] at e0; revert e0; decide) (fun e => by rw [e] at e0; revert e0; decide) (fun e => by rw [e] at e0; revert e0; decide) (fun e => by rw [e] at e0; revert e0; decide) (fun e => by rw [e] at e0; revert e0; decide) (fun e => by rw [e] at e0; revert e0; decide))
  by_cases e1 : x2 = 0
  · exact am_tableIn (tgt := 52) d_Hole_numberAt_1 (fun e => e0 (Or.inl e)) (fun e => e0 (Or.inr e)) (by rw [e1]; decide +kernel) (by decide) (k0 e1)
  by_cases e2 : x2 = 1
  · exact am_tableIn (tgt := 71) d_Hole_numberAt_1 (fun e => e0 (Or.inl e)) (fun e => e0 (Or.inr e)) (by rw [e2]; decide +kernel) (by decide) (k1 e2)
  by_cases e3 : x2 = 2
  · exact am_tableIn (tgt := 91) d_Hole_numberAt_1 (fun e => e0 (Or.inl e)) (fun e => e0 (Or.inr e)) (by rw [e3]; decide +kernel) (by decide) (k2 e3)
  by_cases e4 : x2 = 3
  · exact am_tableIn (tgt := 111) d_Hole_numberAt_1 (fun e => e0 (Or.inl e)) (fun e => e0 (Or.inr e)) (by rw [e4]; decide +kernel) (by decide) (k3 e4)
  by_cases e5 : x2 = 4
  · exact am_tableIn (tgt := 131) d_Hole_numberAt_1 (fun e => e0 (Or.inl e)) (fun e => e0 (Or.inr e)) (by rw [e5]; decide +kernel) (by decide) (k4 e5)
  by_cases e6 : x2 = 5
  · exact am_tableIn (tgt := 136) d_Hole_numberAt_1 (fun e => e0 (Or.inl e)) (fun e => e0 (Or.inr e)) (by rw [e6]; decide +kernel) (by decide) (k5 e6)
  by_cases e7 : x2 = 6
  · exact am_tableIn (tgt := 141) d_Hole_numberAt_1 (fun e => e0 (Or.inl e)) (fun e => e0 (Or.inr e)) (by rw [e7]; decide +kernel) (by decide) (k6 e7)
  by_cases e8 : x2 = 7
  · exact am_tableIn (tgt := 146) d_Hole_numberAt_1 (fun e => e0 (Or.inl e)) (fun e => e0 (Or.inr e)) (by rw [e8]; decide +kernel) (by decide) (k7 e8)
  by_cases e9 : x2 = 8
  · exact am_tableIn (tgt := 151) d_Hole_numberAt_1 (fun e => e0 (Or.inl e)) (fun e => e0 (Or.inr e)) (by rw [e9]; decide +kernel) (by decide) (k8 e9)
  exfalso
  simp only [← Int32.toInt_inj] at e1 e2 e3 e4 e5 e6 e7 e8 e9
  simp only [Int32.reduceToInt] at e1 e2 e3 e4 e5 e6 e7 e8 e9
  omega
theorem b_Hole_numberAt_52 {d : Nat} {x1 : Int32} {x2 : Int32} {h : am_H} {Q : am_Q} (k : m_Hole_isCell d [.int x1] h (fun r h => am_W (X_Hole_numberAt (d + 1)) 56 [some (.ref 1), some (.int x1), some (.int x2)] (r.toList ++ []) h Q)) : am_W (X_Hole_numberAt (d + 1)) 52 [some (.ref 1), some (.int x1), some (.int x2)] [] h Q :=
  am_iload_n d_Hole_numberAt_52 rfl (i := 1) rfl <|
    am_callS (vs := [.int x1]) (st := []) rfl d_Hole_numberAt_53 w_467 w_468 w_83 w_469 p_Hole_isCell (Nat.le_of_ble_eq_true rfl) (Nat.le_of_ble_eq_true rfl) rfl k
theorem b_Hole_numberAt_56 {d : Nat} {x1 : Int32} {x2 : Int32} {y0 : Int32} {h : am_H} {Q : am_Q} (kt : y0 = 0 → am_W (X_Hole_numberAt d) 68 [some (.ref 1), some (.int x1), some (.int x2)] [] h Q) (kf : ¬ y0 = 0 → am_W (X_Hole_numberAt d) 59 [some (.ref 1), some (.int x1), some (.int x2)] [] h Q) : am_W (X_Hole_numberAt d) 56 [some (.ref 1), some (.int x1), some (.int x2)] [.int y0] h Q :=
  am_if_eq (tgt := 68) d_Hole_numberAt_56 (by decide) kt kf
theorem b_Hole_numberAt_59 {d : Nat} {x1 : Int32} {x2 : Int32} {h : am_H} {Q : am_Q} (q0 : vp_in x1 31) (k : am_W (X_Hole_numberAt d) 70 [some (.ref 1), some (.int x1), some (.int x2)] [.int (h.1 2 x1.toNatClampNeg)] h Q) : am_W (X_Hole_numberAt d) 59 [some (.ref 1), some (.int x1), some (.int x2)] [] h Q :=
  am_aload_n d_Hole_numberAt_59 rfl (i := 0) rfl <|
    am_getR (ci := 1) (i := 0) rfl rfl rfl (Nat.le_of_ble_eq_true rfl) w_121 d_Hole_numberAt_60 <|
    am_iload_n d_Hole_numberAt_63 rfl (i := 1) rfl <|
    am_iald rfl q0 d_Hole_numberAt_64 <|
    am_goto (tgt := 70) d_Hole_numberAt_65 (by decide) k
theorem b_Hole_numberAt_68 {d : Nat} {x1 : Int32} {x2 : Int32} {h : am_H} {Q : am_Q} (k : am_W (X_Hole_numberAt d) 70 [some (.ref 1), some (.int x1), some (.int x2)] [.int (-2000000000)] h Q) : am_W (X_Hole_numberAt d) 68 [some (.ref 1), some (.int x1), some (.int x2)] [] h Q :=
  am_ldc (v := (-2000000000)) d_Hole_numberAt_68 w_483 <|
    k
theorem b_Hole_numberAt_70 {d : Nat} {x1 : Int32} {x2 : Int32} {y0 : Int32} {h : am_H} {Q : am_Q} (q : Q (some (.int y0)) h) : am_W (X_Hole_numberAt d) 70 [some (.ref 1), some (.int x1), some (.int x2)] [.int y0] h Q :=
  am_iret rfl d_Hole_numberAt_70 q
theorem b_Hole_numberAt_71 {d : Nat} {x1 : Int32} {x2 : Int32} {h : am_H} {Q : am_Q} (k : m_Hole_hasClub d [.ref 1, .int x1] h (fun r h => am_W (X_Hole_numberAt (d + 1)) 76 [some (.ref 1), some (.int x1), some (.int x2)] (r.toList ++ []) h Q)) : am_W (X_Hole_numberAt (d + 1)) 71 [some (.ref 1), some (.int x1), some (.int x2)] [] h Q :=
  am_aload_n d_Hole_numberAt_71 rfl (i := 0) rfl <|
    am_iload_n d_Hole_numberAt_72 rfl (i := 1) rfl <|
    am_callV (vs := [.int x1]) (st := []) (k := 1) (ci := 1) rfl d_Hole_numberAt_73 rfl rfl w_470 w_471 w_472 w_83 w_473 p_Hole_hasClub (Nat.le_of_ble_eq_true rfl) (Nat.le_of_ble_eq_true rfl) rfl k
theorem b_Hole_numberAt_76 {d : Nat} {x1 : Int32} {x2 : Int32} {y0 : Int32} {h : am_H} {Q : am_Q} (kt : y0 = 0 → am_W (X_Hole_numberAt d) 88 [some (.ref 1), some (.int x1), some (.int x2)] [] h Q) (kf : ¬ y0 = 0 → am_W (X_Hole_numberAt d) 79 [some (.ref 1), some (.int x1), some (.int x2)] [] h Q) : am_W (X_Hole_numberAt d) 76 [some (.ref 1), some (.int x1), some (.int x2)] [.int y0] h Q :=
  am_if_eq (tgt := 88) d_Hole_numberAt_76 (by decide) kt kf
theorem b_Hole_numberAt_79 {d : Nat} {x1 : Int32} {x2 : Int32} {h : am_H} {Q : am_Q} (q0 : vp_in x1 6) (k : am_W (X_Hole_numberAt d) 90 [some (.ref 1), some (.int x1), some (.int x2)] [.int (h.1 3 x1.toNatClampNeg)] h Q) : am_W (X_Hole_numberAt d) 79 [some (.ref 1), some (.int x1), some (.int x2)] [] h Q :=
  am_aload_n d_Hole_numberAt_79 rfl (i := 0) rfl <|
    am_getR (ci := 1) (i := 1) rfl rfl rfl (Nat.le_of_ble_eq_true rfl) w_122 d_Hole_numberAt_80 <|
    am_iload_n d_Hole_numberAt_83 rfl (i := 1) rfl <|
    am_iald rfl q0 d_Hole_numberAt_84 <|
    am_goto (tgt := 90) d_Hole_numberAt_85 (by decide) k
theorem b_Hole_numberAt_88 {d : Nat} {x1 : Int32} {x2 : Int32} {h : am_H} {Q : am_Q} (k : am_W (X_Hole_numberAt d) 90 [some (.ref 1), some (.int x1), some (.int x2)] [.int (-2000000000)] h Q) : am_W (X_Hole_numberAt d) 88 [some (.ref 1), some (.int x1), some (.int x2)] [] h Q :=
  am_ldc (v := (-2000000000)) d_Hole_numberAt_88 w_483 <|
    k
theorem b_Hole_numberAt_90 {d : Nat} {x1 : Int32} {x2 : Int32} {y0 : Int32} {h : am_H} {Q : am_Q} (q : Q (some (.int y0)) h) : am_W (X_Hole_numberAt d) 90 [some (.ref 1), some (.int x1), some (.int x2)] [.int y0] h Q :=
  am_iret rfl d_Hole_numberAt_90 q
theorem b_Hole_numberAt_91 {d : Nat} {x1 : Int32} {x2 : Int32} {h : am_H} {Q : am_Q} (k : m_Hole_hasClub d [.ref 1, .int x1] h (fun r h => am_W (X_Hole_numberAt (d + 1)) 96 [some (.ref 1), some (.int x1), some (.int x2)] (r.toList ++ []) h Q)) : am_W (X_Hole_numberAt (d + 1)) 91 [some (.ref 1), some (.int x1), some (.int x2)] [] h Q :=
  am_aload_n d_Hole_numberAt_91 rfl (i := 0) rfl <|
    am_iload_n d_Hole_numberAt_92 rfl (i := 1) rfl <|
    am_callV (vs := [.int x1]) (st := []) (k := 1) (ci := 1) rfl d_Hole_numberAt_93 rfl rfl w_470 w_471 w_472 w_83 w_473 p_Hole_hasClub (Nat.le_of_ble_eq_true rfl) (Nat.le_of_ble_eq_true rfl) rfl k
theorem b_Hole_numberAt_96 {d : Nat} {x1 : Int32} {x2 : Int32} {y0 : Int32} {h : am_H} {Q : am_Q} (kt : y0 = 0 → am_W (X_Hole_numberAt d) 108 [some (.ref 1), some (.int x1), some (.int x2)] [] h Q) (kf : ¬ y0 = 0 → am_W (X_Hole_numberAt d) 99 [some (.ref 1), some (.int x1), some (.int x2)] [] h Q) : am_W (X_Hole_numberAt d) 96 [some (.ref 1), some (.int x1), some (.int x2)] [.int y0] h Q :=
  am_if_eq (tgt := 108) d_Hole_numberAt_96 (by decide) kt kf
theorem b_Hole_numberAt_99 {d : Nat} {x1 : Int32} {x2 : Int32} {h : am_H} {Q : am_Q} (q0 : vp_in x1 6) (k : am_W (X_Hole_numberAt d) 110 [some (.ref 1), some (.int x1), some (.int x2)] [.int (h.1 4 x1.toNatClampNeg)] h Q) : am_W (X_Hole_numberAt d) 99 [some (.ref 1), some (.int x1), some (.int x2)] [] h Q :=
  am_aload_n d_Hole_numberAt_99 rfl (i := 0) rfl <|
    am_getR (ci := 1) (i := 2) rfl rfl rfl (Nat.le_of_ble_eq_true rfl) w_123 d_Hole_numberAt_100 <|
    am_iload_n d_Hole_numberAt_103 rfl (i := 1) rfl <|
    am_iald rfl q0 d_Hole_numberAt_104 <|
    am_goto (tgt := 110) d_Hole_numberAt_105 (by decide) k
theorem b_Hole_numberAt_108 {d : Nat} {x1 : Int32} {x2 : Int32} {h : am_H} {Q : am_Q} (k : am_W (X_Hole_numberAt d) 110 [some (.ref 1), some (.int x1), some (.int x2)] [.int (-2000000000)] h Q) : am_W (X_Hole_numberAt d) 108 [some (.ref 1), some (.int x1), some (.int x2)] [] h Q :=
  am_ldc (v := (-2000000000)) d_Hole_numberAt_108 w_483 <|
    k
theorem b_Hole_numberAt_110 {d : Nat} {x1 : Int32} {x2 : Int32} {y0 : Int32} {h : am_H} {Q : am_Q} (q : Q (some (.int y0)) h) : am_W (X_Hole_numberAt d) 110 [some (.ref 1), some (.int x1), some (.int x2)] [.int y0] h Q :=
  am_iret rfl d_Hole_numberAt_110 q
theorem b_Hole_numberAt_111 {d : Nat} {x1 : Int32} {x2 : Int32} {h : am_H} {Q : am_Q} (k : m_Hole_hasClub d [.ref 1, .int x1] h (fun r h => am_W (X_Hole_numberAt (d + 1)) 116 [some (.ref 1), some (.int x1), some (.int x2)] (r.toList ++ []) h Q)) : am_W (X_Hole_numberAt (d + 1)) 111 [some (.ref 1), some (.int x1), some (.int x2)] [] h Q :=
  am_aload_n d_Hole_numberAt_111 rfl (i := 0) rfl <|
    am_iload_n d_Hole_numberAt_112 rfl (i := 1) rfl <|
    am_callV (vs := [.int x1]) (st := []) (k := 1) (ci := 1) rfl d_Hole_numberAt_113 rfl rfl w_470 w_471 w_472 w_83 w_473 p_Hole_hasClub (Nat.le_of_ble_eq_true rfl) (Nat.le_of_ble_eq_true rfl) rfl k
theorem b_Hole_numberAt_116 {d : Nat} {x1 : Int32} {x2 : Int32} {y0 : Int32} {h : am_H} {Q : am_Q} (kt : y0 = 0 → am_W (X_Hole_numberAt d) 128 [some (.ref 1), some (.int x1), some (.int x2)] [] h Q) (kf : ¬ y0 = 0 → am_W (X_Hole_numberAt d) 119 [some (.ref 1), some (.int x1), some (.int x2)] [] h Q) : am_W (X_Hole_numberAt d) 116 [some (.ref 1), some (.int x1), some (.int x2)] [.int y0] h Q :=
  am_if_eq (tgt := 128) d_Hole_numberAt_116 (by decide) kt kf
theorem b_Hole_numberAt_119 {d : Nat} {x1 : Int32} {x2 : Int32} {h : am_H} {Q : am_Q} (q0 : vp_in x1 6) (k : am_W (X_Hole_numberAt d) 130 [some (.ref 1), some (.int x1), some (.int x2)] [.int (h.1 5 x1.toNatClampNeg)] h Q) : am_W (X_Hole_numberAt d) 119 [some (.ref 1), some (.int x1), some (.int x2)] [] h Q :=
  am_aload_n d_Hole_numberAt_119 rfl (i := 0) rfl <|
    am_getR (ci := 1) (i := 3) rfl rfl rfl (Nat.le_of_ble_eq_true rfl) w_124 d_Hole_numberAt_120 <|
    am_iload_n d_Hole_numberAt_123 rfl (i := 1) rfl <|
    am_iald rfl q0 d_Hole_numberAt_124 <|
    am_goto (tgt := 130) d_Hole_numberAt_125 (by decide) k
theorem b_Hole_numberAt_128 {d : Nat} {x1 : Int32} {x2 : Int32} {h : am_H} {Q : am_Q} (k : am_W (X_Hole_numberAt d) 130 [some (.ref 1), some (.int x1), some (.int x2)] [.int (-2000000000)] h Q) : am_W (X_Hole_numberAt d) 128 [some (.ref 1), some (.int x1), some (.int x2)] [] h Q :=
  am_ldc (v := (-2000000000)) d_Hole_numberAt_128 w_483 <|
    k
theorem b_Hole_numberAt_130 {d : Nat} {x1 : Int32} {x2 : Int32} {y0 : Int32} {h : am_H} {Q : am_Q} (q : Q (some (.int y0)) h) : am_W (X_Hole_numberAt d) 130 [some (.ref 1), some (.int x1), some (.int x2)] [.int y0] h Q :=
  am_iret rfl d_Hole_numberAt_130 q
theorem b_Hole_numberAt_131 {d : Nat} {x1 : Int32} {x2 : Int32} {h : am_H} {Q : am_Q} (q : Q (some (.int (h.1 1 5))) h) : am_W (X_Hole_numberAt d) 131 [some (.ref 1), some (.int x1), some (.int x2)] [] h Q :=
  am_aload_n d_Hole_numberAt_131 rfl (i := 0) rfl <|
    am_getI (ci := 1) (i := 5) rfl rfl rfl (Nat.le_of_ble_eq_true rfl) w_126 d_Hole_numberAt_132 <|
    am_iret rfl d_Hole_numberAt_135 q
theorem b_Hole_numberAt_136 {d : Nat} {x1 : Int32} {x2 : Int32} {h : am_H} {Q : am_Q} (q : Q (some (.int (h.1 1 6))) h) : am_W (X_Hole_numberAt d) 136 [some (.ref 1), some (.int x1), some (.int x2)] [] h Q :=
  am_aload_n d_Hole_numberAt_136 rfl (i := 0) rfl <|
    am_getI (ci := 1) (i := 6) rfl rfl rfl (Nat.le_of_ble_eq_true rfl) w_127 d_Hole_numberAt_137 <|
    am_iret rfl d_Hole_numberAt_140 q
theorem b_Hole_numberAt_141 {d : Nat} {x1 : Int32} {x2 : Int32} {h : am_H} {Q : am_Q} (q : Q (some (.int (h.1 1 7))) h) : am_W (X_Hole_numberAt d) 141 [some (.ref 1), some (.int x1), some (.int x2)] [] h Q :=
  am_aload_n d_Hole_numberAt_141 rfl (i := 0) rfl <|
    am_getI (ci := 1) (i := 7) rfl rfl rfl (Nat.le_of_ble_eq_true rfl) w_128 d_Hole_numberAt_142 <|
    am_iret rfl d_Hole_numberAt_145 q
theorem b_Hole_numberAt_146 {d : Nat} {x1 : Int32} {x2 : Int32} {h : am_H} {Q : am_Q} (q : Q (some (.int (h.1 1 8))) h) : am_W (X_Hole_numberAt d) 146 [some (.ref 1), some (.int x1), some (.int x2)] [] h Q :=
  am_aload_n d_Hole_numberAt_146 rfl (i := 0) rfl <|
    am_getI (ci := 1) (i := 8) rfl rfl rfl (Nat.le_of_ble_eq_true rfl) w_129 d_Hole_numberAt_147 <|
    am_iret rfl d_Hole_numberAt_150 q
theorem b_Hole_numberAt_151 {d : Nat} {x1 : Int32} {x2 : Int32} {h : am_H} {Q : am_Q} (q : Q (some (.int (h.1 1 9))) h) : am_W (X_Hole_numberAt d) 151 [some (.ref 1), some (.int x1), some (.int x2)] [] h Q :=
  am_aload_n d_Hole_numberAt_151 rfl (i := 0) rfl <|
    am_getI (ci := 1) (i := 9) rfl rfl rfl (Nat.le_of_ble_eq_true rfl) w_130 d_Hole_numberAt_152 <|
    am_iret rfl d_Hole_numberAt_155 q
theorem b_Hole_numberAt_156 {d : Nat} {x1 : Int32} {x2 : Int32} {h : am_H} {Q : am_Q} (q : Q (some (.int (-2000000000))) h) : am_W (X_Hole_numberAt d) 156 [some (.ref 1), some (.int x1), some (.int x2)] [] h Q :=
  am_ldc (v := (-2000000000)) d_Hole_numberAt_156 w_483 <|
    am_iret rfl d_Hole_numberAt_158 q
theorem b_Hole_become_0 {d : Nat} {x1 : Int32} {x2 : Int32} {x3 : Int32} {h : am_H} {Q : am_Q} (k : m_Hole_hasNumber d [.ref 1, .int x1, .int x2] h (fun r h => am_W (X_Hole_become (d + 1)) 6 [some (.ref 1), some (.int x1), some (.int x2), some (.int x3)] (r.toList ++ []) h Q)) : am_W (X_Hole_become (d + 1)) 0 [some (.ref 1), some (.int x1), some (.int x2), some (.int x3)] [] h Q :=
  am_aload_n d_Hole_become_0 rfl (i := 0) rfl <|
    am_iload_n d_Hole_become_1 rfl (i := 1) rfl <|
    am_iload_n d_Hole_become_2 rfl (i := 2) rfl <|
    am_callV (vs := [.int x1, .int x2]) (st := []) (k := 1) (ci := 1) rfl d_Hole_become_3 rfl rfl w_503 w_464 w_465 w_83 w_466 p_Hole_hasNumber (Nat.le_of_ble_eq_true rfl) (Nat.le_of_ble_eq_true rfl) rfl k
theorem b_Hole_become_6 {d : Nat} {x1 : Int32} {x2 : Int32} {x3 : Int32} {y0 : Int32} {h : am_H} {Q : am_Q} (kt : ¬ y0 = 0 → am_W (X_Hole_become d) 10 [some (.ref 1), some (.int x1), some (.int x2), some (.int x3)] [] h Q) (kf : y0 = 0 → am_W (X_Hole_become d) 9 [some (.ref 1), some (.int x1), some (.int x2), some (.int x3)] [] h Q) : am_W (X_Hole_become d) 6 [some (.ref 1), some (.int x1), some (.int x2), some (.int x3)] [.int y0] h Q :=
  am_if_ne (tgt := 10) d_Hole_become_6 (by decide) kt kf
theorem b_Hole_become_9 {d : Nat} {x1 : Int32} {x2 : Int32} {x3 : Int32} {h : am_H} {Q : am_Q} (q : Q none h) : am_W (X_Hole_become d) 9 [some (.ref 1), some (.int x1), some (.int x2), some (.int x3)] [] h Q :=
  am_vret rfl d_Hole_become_9 q
theorem b_Hole_become_10 {d : Nat} {x1 : Int32} {x2 : Int32} {x3 : Int32} {h : am_H} {Q : am_Q} (k0 : x2 = 0 → am_W (X_Hole_become d) 56 [some (.ref 1), some (.int x1), some (.int x2), some (.int x3)] [] h Q) (k1 : x2 = 1 → am_W (X_Hole_become d) 66 [some (.ref 1), some (.int x1), some (.int x2), some (.int x3)] [] h Q) (k2 : x2 = 2 → am_W (X_Hole_become d) 76 [some (.ref 1), some (.int x1), some (.int x2), some (.int x3)] [] h Q) (k3 : x2 = 3 → am_W (X_Hole_become d) 86 [some (.ref 1), some (.int x1), some (.int x2), some (.int x3)] [] h Q) (k4 : x2 = 4 → am_W (X_Hole_become d) 96 [some (.ref 1), some (.int x1), some (.int x2), some (.int x3)] [] h Q) (k5 : x2 = 5 → am_W (X_Hole_become d) 104 [some (.ref 1), some (.int x1), some (.int x2), some (.int x3)] [] h Q) (k6 : x2 = 6 → am_W (X_Hole_become d) 112 [some (.ref 1), some (.int x1), some (.int x2), some (.int x3)] [] h Q) (k7 : x2 = 7 → am_W (X_Hole_become d) 120 [some (.ref 1), some (.int x1), some (.int x2), some (.int x3)] [] h Q) (kd : ¬ x2 = 0 → ¬ x2 = 1 → ¬ x2 = 2 → ¬ x2 = 3 → ¬ x2 = 4 → ¬ x2 = 5 → ¬ x2 = 6 → ¬ x2 = 7 → am_W (X_Hole_become d) 128 [some (.ref 1), some (.int x1), some (.int x2), some (.int x3)] [] h Q) : am_W (X_Hole_become d) 10 [some (.ref 1), some (.int x1), some (.int x2), some (.int x3)] [] h Q := by
  refine am_iload_n d_Hole_become_10 rfl (i := 2) rfl ?_
  by_cases e0 : (x2 : Int32).toInt < 0 ∨ 7 < (x2 : Int32).toInt
  · exact am_tableOut (tgt := 128) d_Hole_become_11 e0 (by decide) (kd (fun e => by rw [e] at e0; revert e0; decide) (fun e => by rw [e] at e0; revert e0; decide) (fun e => by rw [e] at e0; revert e0; decide) (fun e => by rw [e] at e0; revert e0; decide) (fun e => by rw [e] at e0; revert e0; decide) (fun e => by rw [e] at e0; revert e0; decide) (fun e => by rw [e] at e0; revert e0; decide) (fun e => by rw [e] at e0; revert e0; decide))
  by_cases e1 : x2 = 0
  · exact am_tableIn (tgt := 56) d_Hole_become_11 (fun e => e0 (Or.inl e)) (fun e => e0 (Or.inr e)) (by rw [e1]; decide +kernel) (by decide) (k0 e1)
  by_cases e2 : x2 = 1
  · exact am_tableIn (tgt := 66) d_Hole_become_11 (fun e => e0 (Or.inl e)) (fun e => e0 (Or.inr e)) (by rw [e2]; decide +kernel) (by decide) (k1 e2)
  by_cases e3 : x2 = 2
  · exact am_tableIn (tgt := 76) d_Hole_become_11 (fun e => e0 (Or.inl e)) (fun e => e0 (Or.inr e)) (by rw [e3]; decide +kernel) (by decide) (k2 e3)
  by_cases e4 : x2 = 3
  · exact am_tableIn (tgt := 86) d_Hole_become_11 (fun e => e0 (Or.inl e)) (fun e => e0 (Or.inr e)) (by rw [e4]; decide +kernel) (by decide) (k3 e4)
  by_cases e5 : x2 = 4
  · exact am_tableIn (tgt := 96) d_Hole_become_11 (fun e => e0 (Or.inl e)) (fun e => e0 (Or.inr e)) (by rw [e5]; decide +kernel) (by decide) (k4 e5)
  by_cases e6 : x2 = 5
  · exact am_tableIn (tgt := 104) d_Hole_become_11 (fun e => e0 (Or.inl e)) (fun e => e0 (Or.inr e)) (by rw [e6]; decide +kernel) (by decide) (k5 e6)
  by_cases e7 : x2 = 6
  · exact am_tableIn (tgt := 112) d_Hole_become_11 (fun e => e0 (Or.inl e)) (fun e => e0 (Or.inr e)) (by rw [e7]; decide +kernel) (by decide) (k6 e7)
  by_cases e8 : x2 = 7
  · exact am_tableIn (tgt := 120) d_Hole_become_11 (fun e => e0 (Or.inl e)) (fun e => e0 (Or.inr e)) (by rw [e8]; decide +kernel) (by decide) (k7 e8)
  exfalso
  simp only [← Int32.toInt_inj] at e1 e2 e3 e4 e5 e6 e7 e8
  simp only [Int32.reduceToInt] at e1 e2 e3 e4 e5 e6 e7 e8
  omega
theorem b_Hole_become_56 {d : Nat} {x1 : Int32} {x2 : Int32} {x3 : Int32} {h : am_H} {Q : am_Q} (q0 : vp_in x1 31) (k : am_W (X_Hole_become d) 133 [some (.ref 1), some (.int x1), some (.int x2), some (.int x3)] [] (am_pI h 2 x1.toNatClampNeg x3) Q) : am_W (X_Hole_become d) 56 [some (.ref 1), some (.int x1), some (.int x2), some (.int x3)] [] h Q :=
  am_aload_n d_Hole_become_56 rfl (i := 0) rfl <|
    am_getR (ci := 1) (i := 0) rfl rfl rfl (Nat.le_of_ble_eq_true rfl) w_121 d_Hole_become_57 <|
    am_iload_n d_Hole_become_60 rfl (i := 1) rfl <|
    am_iload_n d_Hole_become_61 rfl (i := 3) rfl <|
    am_iast rfl q0 d_Hole_become_62 <|
    am_goto (tgt := 133) d_Hole_become_63 (by decide) k
theorem b_Hole_become_66 {d : Nat} {x1 : Int32} {x2 : Int32} {x3 : Int32} {h : am_H} {Q : am_Q} (q0 : vp_in x1 6) (k : am_W (X_Hole_become d) 133 [some (.ref 1), some (.int x1), some (.int x2), some (.int x3)] [] (am_pI h 3 x1.toNatClampNeg x3) Q) : am_W (X_Hole_become d) 66 [some (.ref 1), some (.int x1), some (.int x2), some (.int x3)] [] h Q :=
  am_aload_n d_Hole_become_66 rfl (i := 0) rfl <|
    am_getR (ci := 1) (i := 1) rfl rfl rfl (Nat.le_of_ble_eq_true rfl) w_122 d_Hole_become_67 <|
    am_iload_n d_Hole_become_70 rfl (i := 1) rfl <|
    am_iload_n d_Hole_become_71 rfl (i := 3) rfl <|
    am_iast rfl q0 d_Hole_become_72 <|
    am_goto (tgt := 133) d_Hole_become_73 (by decide) k
theorem b_Hole_become_76 {d : Nat} {x1 : Int32} {x2 : Int32} {x3 : Int32} {h : am_H} {Q : am_Q} (q0 : vp_in x1 6) (k : am_W (X_Hole_become d) 133 [some (.ref 1), some (.int x1), some (.int x2), some (.int x3)] [] (am_pI h 4 x1.toNatClampNeg x3) Q) : am_W (X_Hole_become d) 76 [some (.ref 1), some (.int x1), some (.int x2), some (.int x3)] [] h Q :=
  am_aload_n d_Hole_become_76 rfl (i := 0) rfl <|
    am_getR (ci := 1) (i := 2) rfl rfl rfl (Nat.le_of_ble_eq_true rfl) w_123 d_Hole_become_77 <|
    am_iload_n d_Hole_become_80 rfl (i := 1) rfl <|
    am_iload_n d_Hole_become_81 rfl (i := 3) rfl <|
    am_iast rfl q0 d_Hole_become_82 <|
    am_goto (tgt := 133) d_Hole_become_83 (by decide) k
theorem b_Hole_become_86 {d : Nat} {x1 : Int32} {x2 : Int32} {x3 : Int32} {h : am_H} {Q : am_Q} (q0 : vp_in x1 6) (k : am_W (X_Hole_become d) 133 [some (.ref 1), some (.int x1), some (.int x2), some (.int x3)] [] (am_pI h 5 x1.toNatClampNeg x3) Q) : am_W (X_Hole_become d) 86 [some (.ref 1), some (.int x1), some (.int x2), some (.int x3)] [] h Q :=
  am_aload_n d_Hole_become_86 rfl (i := 0) rfl <|
    am_getR (ci := 1) (i := 3) rfl rfl rfl (Nat.le_of_ble_eq_true rfl) w_124 d_Hole_become_87 <|
    am_iload_n d_Hole_become_90 rfl (i := 1) rfl <|
    am_iload_n d_Hole_become_91 rfl (i := 3) rfl <|
    am_iast rfl q0 d_Hole_become_92 <|
    am_goto (tgt := 133) d_Hole_become_93 (by decide) k
theorem b_Hole_become_96 {d : Nat} {x1 : Int32} {x2 : Int32} {x3 : Int32} {h : am_H} {Q : am_Q} (k : am_W (X_Hole_become d) 133 [some (.ref 1), some (.int x1), some (.int x2), some (.int x3)] [] (am_pI h 1 5 x3) Q) : am_W (X_Hole_become d) 96 [some (.ref 1), some (.int x1), some (.int x2), some (.int x3)] [] h Q :=
  am_aload_n d_Hole_become_96 rfl (i := 0) rfl <|
    am_iload_n d_Hole_become_97 rfl (i := 3) rfl <|
    am_putI (ci := 1) (i := 5) rfl rfl rfl (Nat.le_of_ble_eq_true rfl) w_126 rfl rfl rfl d_Hole_become_98 <|
    am_goto (tgt := 133) d_Hole_become_101 (by decide) k
theorem b_Hole_become_104 {d : Nat} {x1 : Int32} {x2 : Int32} {x3 : Int32} {h : am_H} {Q : am_Q} (k : am_W (X_Hole_become d) 133 [some (.ref 1), some (.int x1), some (.int x2), some (.int x3)] [] (am_pI h 1 6 x3) Q) : am_W (X_Hole_become d) 104 [some (.ref 1), some (.int x1), some (.int x2), some (.int x3)] [] h Q :=
  am_aload_n d_Hole_become_104 rfl (i := 0) rfl <|
    am_iload_n d_Hole_become_105 rfl (i := 3) rfl <|
    am_putI (ci := 1) (i := 6) rfl rfl rfl (Nat.le_of_ble_eq_true rfl) w_127 rfl rfl rfl d_Hole_become_106 <|
    am_goto (tgt := 133) d_Hole_become_109 (by decide) k
theorem b_Hole_become_112 {d : Nat} {x1 : Int32} {x2 : Int32} {x3 : Int32} {h : am_H} {Q : am_Q} (k : am_W (X_Hole_become d) 133 [some (.ref 1), some (.int x1), some (.int x2), some (.int x3)] [] (am_pI h 1 7 x3) Q) : am_W (X_Hole_become d) 112 [some (.ref 1), some (.int x1), some (.int x2), some (.int x3)] [] h Q :=
  am_aload_n d_Hole_become_112 rfl (i := 0) rfl <|
    am_iload_n d_Hole_become_113 rfl (i := 3) rfl <|
    am_putI (ci := 1) (i := 7) rfl rfl rfl (Nat.le_of_ble_eq_true rfl) w_128 rfl rfl rfl d_Hole_become_114 <|
    am_goto (tgt := 133) d_Hole_become_117 (by decide) k
theorem b_Hole_become_120 {d : Nat} {x1 : Int32} {x2 : Int32} {x3 : Int32} {h : am_H} {Q : am_Q} (k : am_W (X_Hole_become d) 133 [some (.ref 1), some (.int x1), some (.int x2), some (.int x3)] [] (am_pI h 1 8 x3) Q) : am_W (X_Hole_become d) 120 [some (.ref 1), some (.int x1), some (.int x2), some (.int x3)] [] h Q :=
  am_aload_n d_Hole_become_120 rfl (i := 0) rfl <|
    am_iload_n d_Hole_become_121 rfl (i := 3) rfl <|
    am_putI (ci := 1) (i := 8) rfl rfl rfl (Nat.le_of_ble_eq_true rfl) w_129 rfl rfl rfl d_Hole_become_122 <|
    am_goto (tgt := 133) d_Hole_become_125 (by decide) k
theorem b_Hole_become_128 {d : Nat} {x1 : Int32} {x2 : Int32} {x3 : Int32} {h : am_H} {Q : am_Q} (k : am_W (X_Hole_become d) 133 [some (.ref 1), some (.int x1), some (.int x2), some (.int x3)] [] (am_pI h 1 9 x3) Q) : am_W (X_Hole_become d) 128 [some (.ref 1), some (.int x1), some (.int x2), some (.int x3)] [] h Q :=
  am_aload_n d_Hole_become_128 rfl (i := 0) rfl <|
    am_iload_n d_Hole_become_129 rfl (i := 3) rfl <|
    am_putI (ci := 1) (i := 9) rfl rfl rfl (Nat.le_of_ble_eq_true rfl) w_130 rfl rfl rfl d_Hole_become_130 <|
    k
theorem b_Hole_become_133 {d : Nat} {x1 : Int32} {x2 : Int32} {x3 : Int32} {h : am_H} {Q : am_Q} (q : Q none h) : am_W (X_Hole_become d) 133 [some (.ref 1), some (.int x1), some (.int x2), some (.int x3)] [] h Q :=
  am_vret rfl d_Hole_become_133 q
theorem b_Hole_clubsHeld_0 {d : Nat} {h : am_H} {Q : am_Q} (q : Q (some (.int (h.1 1 4))) h) : am_W (X_Hole_clubsHeld d) 0 [some (.ref 1)] [] h Q :=
  am_aload_n d_Hole_clubsHeld_0 rfl (i := 0) rfl <|
    am_getI (ci := 1) (i := 4) rfl rfl rfl (Nat.le_of_ble_eq_true rfl) w_125 d_Hole_clubsHeld_1 <|
    am_iret rfl d_Hole_clubsHeld_4 q
theorem b_Hole_hasNoClubs_0 {d : Nat} {h : am_H} {Q : am_Q} (kt : ¬ (h.1 1 4) = 0 → am_W (X_Hole_hasNoClubs d) 11 [some (.ref 1)] [] h Q) (kf : (h.1 1 4) = 0 → am_W (X_Hole_hasNoClubs d) 7 [some (.ref 1)] [] h Q) : am_W (X_Hole_hasNoClubs d) 0 [some (.ref 1)] [] h Q :=
  am_aload_n d_Hole_hasNoClubs_0 rfl (i := 0) rfl <|
    am_getI (ci := 1) (i := 4) rfl rfl rfl (Nat.le_of_ble_eq_true rfl) w_125 d_Hole_hasNoClubs_1 <|
    am_if_ne (tgt := 11) d_Hole_hasNoClubs_4 (by decide) kt kf
theorem b_Hole_hasNoClubs_7 {d : Nat} {h : am_H} {Q : am_Q} (k : am_W (X_Hole_hasNoClubs d) 12 [some (.ref 1)] [.int 1] h Q) : am_W (X_Hole_hasNoClubs d) 7 [some (.ref 1)] [] h Q :=
  am_iconst (v := 1) d_Hole_hasNoClubs_7 (by decide) <|
    am_goto (tgt := 12) d_Hole_hasNoClubs_8 (by decide) k
theorem b_Hole_hasNoClubs_11 {d : Nat} {h : am_H} {Q : am_Q} (k : am_W (X_Hole_hasNoClubs d) 12 [some (.ref 1)] [.int 0] h Q) : am_W (X_Hole_hasNoClubs d) 11 [some (.ref 1)] [] h Q :=
  am_iconst (v := 0) d_Hole_hasNoClubs_11 (by decide) <|
    k
theorem b_Hole_hasNoClubs_12 {d : Nat} {y0 : Int32} {h : am_H} {Q : am_Q} (qz : narrow .boolean (.int y0) = .int y0) (q : Q (some (.int y0)) h) : am_W (X_Hole_hasNoClubs d) 12 [some (.ref 1)] [.int y0] h Q :=
  am_zret (ty := .boolean) rfl qz d_Hole_hasNoClubs_12 q
theorem b_Hole_isFull_0 {d : Nat} {h : am_H} {Q : am_Q} (kt : (h.1 1 4) < 6 → am_W (X_Hole_isFull d) 13 [some (.ref 1)] [] h Q) (kf : ¬ (h.1 1 4) < 6 → am_W (X_Hole_isFull d) 9 [some (.ref 1)] [] h Q) : am_W (X_Hole_isFull d) 0 [some (.ref 1)] [] h Q :=
  am_aload_n d_Hole_isFull_0 rfl (i := 0) rfl <|
    am_getI (ci := 1) (i := 4) rfl rfl rfl (Nat.le_of_ble_eq_true rfl) w_125 d_Hole_isFull_1 <|
    am_bipush (v := 6) d_Hole_isFull_4 (by decide) <|
    am_icmp_lt (tgt := 13) d_Hole_isFull_6 (by decide) kt kf
theorem b_Hole_isFull_9 {d : Nat} {h : am_H} {Q : am_Q} (k : am_W (X_Hole_isFull d) 14 [some (.ref 1)] [.int 1] h Q) : am_W (X_Hole_isFull d) 9 [some (.ref 1)] [] h Q :=
  am_iconst (v := 1) d_Hole_isFull_9 (by decide) <|
    am_goto (tgt := 14) d_Hole_isFull_10 (by decide) k
theorem b_Hole_isFull_13 {d : Nat} {h : am_H} {Q : am_Q} (k : am_W (X_Hole_isFull d) 14 [some (.ref 1)] [.int 0] h Q) : am_W (X_Hole_isFull d) 13 [some (.ref 1)] [] h Q :=
  am_iconst (v := 0) d_Hole_isFull_13 (by decide) <|
    k
theorem b_Hole_isFull_14 {d : Nat} {y0 : Int32} {h : am_H} {Q : am_Q} (qz : narrow .boolean (.int y0) = .int y0) (q : Q (some (.int y0)) h) : am_W (X_Hole_isFull d) 14 [some (.ref 1)] [.int y0] h Q :=
  am_zret (ty := .boolean) rfl qz d_Hole_isFull_14 q
theorem b_Hole_hasClub_0 {d : Nat} {x1 : Int32} {h : am_H} {Q : am_Q} (kt : x1 < 0 → am_W (X_Hole_hasClub d) 22 [some (.ref 1), some (.int x1)] [] h Q) (kf : ¬ x1 < 0 → am_W (X_Hole_hasClub d) 4 [some (.ref 1), some (.int x1)] [] h Q) : am_W (X_Hole_hasClub d) 0 [some (.ref 1), some (.int x1)] [] h Q :=
  am_iload_n d_Hole_hasClub_0 rfl (i := 1) rfl <|
    am_if_lt (tgt := 22) d_Hole_hasClub_1 (by decide) kt kf
theorem b_Hole_hasClub_4 {d : Nat} {x1 : Int32} {h : am_H} {Q : am_Q} (kt : (h.1 1 4) ≤ x1 → am_W (X_Hole_hasClub d) 22 [some (.ref 1), some (.int x1)] [] h Q) (kf : ¬ (h.1 1 4) ≤ x1 → am_W (X_Hole_hasClub d) 12 [some (.ref 1), some (.int x1)] [] h Q) : am_W (X_Hole_hasClub d) 4 [some (.ref 1), some (.int x1)] [] h Q :=
  am_iload_n d_Hole_hasClub_4 rfl (i := 1) rfl <|
    am_aload_n d_Hole_hasClub_5 rfl (i := 0) rfl <|
    am_getI (ci := 1) (i := 4) rfl rfl rfl (Nat.le_of_ble_eq_true rfl) w_125 d_Hole_hasClub_6 <|
    am_icmp_ge (tgt := 22) d_Hole_hasClub_9 (by decide) kt kf
theorem b_Hole_hasClub_12 {d : Nat} {x1 : Int32} {h : am_H} {Q : am_Q} (kt : 6 ≤ x1 → am_W (X_Hole_hasClub d) 22 [some (.ref 1), some (.int x1)] [] h Q) (kf : ¬ 6 ≤ x1 → am_W (X_Hole_hasClub d) 18 [some (.ref 1), some (.int x1)] [] h Q) : am_W (X_Hole_hasClub d) 12 [some (.ref 1), some (.int x1)] [] h Q :=
  am_iload_n d_Hole_hasClub_12 rfl (i := 1) rfl <|
    am_bipush (v := 6) d_Hole_hasClub_13 (by decide) <|
    am_icmp_ge (tgt := 22) d_Hole_hasClub_15 (by decide) kt kf
theorem b_Hole_hasClub_18 {d : Nat} {x1 : Int32} {h : am_H} {Q : am_Q} (k : am_W (X_Hole_hasClub d) 23 [some (.ref 1), some (.int x1)] [.int 1] h Q) : am_W (X_Hole_hasClub d) 18 [some (.ref 1), some (.int x1)] [] h Q :=
  am_iconst (v := 1) d_Hole_hasClub_18 (by decide) <|
    am_goto (tgt := 23) d_Hole_hasClub_19 (by decide) k
theorem b_Hole_hasClub_22 {d : Nat} {x1 : Int32} {h : am_H} {Q : am_Q} (k : am_W (X_Hole_hasClub d) 23 [some (.ref 1), some (.int x1)] [.int 0] h Q) : am_W (X_Hole_hasClub d) 22 [some (.ref 1), some (.int x1)] [] h Q :=
  am_iconst (v := 0) d_Hole_hasClub_22 (by decide) <|
    k
theorem b_Hole_hasClub_23 {d : Nat} {x1 : Int32} {y0 : Int32} {h : am_H} {Q : am_Q} (qz : narrow .boolean (.int y0) = .int y0) (q : Q (some (.int y0)) h) : am_W (X_Hole_hasClub d) 23 [some (.ref 1), some (.int x1)] [.int y0] h Q :=
  am_zret (ty := .boolean) rfl qz d_Hole_hasClub_23 q
theorem b_Hole_addClub_0 {d : Nat} {x1 : Int32} {x2 : Int32} {x3 : Int32} {h : am_H} {Q : am_Q} (kt : (h.1 1 4) < 0 → am_W (X_Hole_addClub d) 18 [some (.ref 1), some (.int x1), some (.int x2), some (.int x3), some (.int (h.1 1 4))] [] h Q) (kf : ¬ (h.1 1 4) < 0 → am_W (X_Hole_addClub d) 11 [some (.ref 1), some (.int x1), some (.int x2), some (.int x3), some (.int (h.1 1 4))] [] h Q) : am_W (X_Hole_addClub d) 0 [some (.ref 1), some (.int x1), some (.int x2), some (.int x3), none] [] h Q :=
  am_aload_n d_Hole_addClub_0 rfl (i := 0) rfl <|
    am_getI (ci := 1) (i := 4) rfl rfl rfl (Nat.le_of_ble_eq_true rfl) w_125 d_Hole_addClub_1 <|
    am_istore (ls' := [some (.ref 1), some (.int x1), some (.int x2), some (.int x3), some (.int (h.1 1 4))]) d_Hole_addClub_4 (Nat.le_of_ble_eq_true rfl) rfl <|
    am_iload d_Hole_addClub_6 rfl <|
    am_if_lt (tgt := 18) d_Hole_addClub_8 (by decide) kt kf
theorem b_Hole_addClub_11 {d : Nat} {x1 : Int32} {x2 : Int32} {x3 : Int32} {x4 : Int32} {h : am_H} {Q : am_Q} (kt : x4 < 6 → am_W (X_Hole_addClub d) 21 [some (.ref 1), some (.int x1), some (.int x2), some (.int x3), some (.int x4)] [] h Q) (kf : ¬ x4 < 6 → am_W (X_Hole_addClub d) 18 [some (.ref 1), some (.int x1), some (.int x2), some (.int x3), some (.int x4)] [] h Q) : am_W (X_Hole_addClub d) 11 [some (.ref 1), some (.int x1), some (.int x2), some (.int x3), some (.int x4)] [] h Q :=
  am_iload d_Hole_addClub_11 rfl <|
    am_bipush (v := 6) d_Hole_addClub_13 (by decide) <|
    am_icmp_lt (tgt := 21) d_Hole_addClub_15 (by decide) kt kf
theorem b_Hole_addClub_18 {d : Nat} {x1 : Int32} {x2 : Int32} {x3 : Int32} {x4 : Int32} {h : am_H} {Q : am_Q} (q : Q (some (.int (-3))) h) : am_W (X_Hole_addClub d) 18 [some (.ref 1), some (.int x1), some (.int x2), some (.int x3), some (.int x4)] [] h Q :=
  am_bipush (v := (-3)) d_Hole_addClub_18 (by decide) <|
    am_iret rfl d_Hole_addClub_20 q
theorem b_Hole_addClub_21 {d : Nat} {x1 : Int32} {x2 : Int32} {x3 : Int32} {x4 : Int32} {h : am_H} {Q : am_Q} (q0 : vp_in x4 6) (q : Q (some (.int x4)) (am_pI (am_pI (am_pI (am_pI h 3 x4.toNatClampNeg x1) 4 x4.toNatClampNeg x2) 5 x4.toNatClampNeg x3) 1 4 (x4 + 1))) : am_W (X_Hole_addClub d) 21 [some (.ref 1), some (.int x1), some (.int x2), some (.int x3), some (.int x4)] [] h Q :=
  am_aload_n d_Hole_addClub_21 rfl (i := 0) rfl <|
    am_getR (ci := 1) (i := 1) rfl rfl rfl (Nat.le_of_ble_eq_true rfl) w_122 d_Hole_addClub_22 <|
    am_iload d_Hole_addClub_25 rfl <|
    am_iload_n d_Hole_addClub_27 rfl (i := 1) rfl <|
    am_iast rfl q0 d_Hole_addClub_28 <|
    am_aload_n d_Hole_addClub_29 rfl (i := 0) rfl <|
    am_getR (ci := 1) (i := 2) rfl rfl rfl (Nat.le_of_ble_eq_true rfl) w_123 d_Hole_addClub_30 <|
    am_iload d_Hole_addClub_33 rfl <|
    am_iload_n d_Hole_addClub_35 rfl (i := 2) rfl <|
    am_iast rfl q0 d_Hole_addClub_36 <|
    am_aload_n d_Hole_addClub_37 rfl (i := 0) rfl <|
    am_getR (ci := 1) (i := 3) rfl rfl rfl (Nat.le_of_ble_eq_true rfl) w_124 d_Hole_addClub_38 <|
    am_iload d_Hole_addClub_41 rfl <|
    am_iload_n d_Hole_addClub_43 rfl (i := 3) rfl <|
    am_iast rfl q0 d_Hole_addClub_44 <|
    am_aload_n d_Hole_addClub_45 rfl (i := 0) rfl <|
    am_iload d_Hole_addClub_46 rfl <|
    am_iconst (v := 1) d_Hole_addClub_48 (by decide) <|
    am_iadd d_Hole_addClub_49 <|
    am_putI (ci := 1) (i := 4) rfl rfl rfl (Nat.le_of_ble_eq_true rfl) w_125 rfl rfl rfl d_Hole_addClub_50 <|
    am_iload d_Hole_addClub_53 rfl <|
    am_iret rfl d_Hole_addClub_55 q
theorem b_Hole_addClubs_0 {d : Nat} {a1 : Nat} {x2 : Int32} {x3 : Int32} {h : am_H} {Q : am_Q} (k : am_W (X_Hole_addClubs d) 3 [some (.ref 1), some (.ref a1), some (.int x2), some (.int x3), some (.int 0), none, none, none, none] [] h Q) : am_W (X_Hole_addClubs d) 0 [some (.ref 1), some (.ref a1), some (.int x2), some (.int x3), none, none, none, none, none] [] h Q :=
  am_iconst (v := 0) d_Hole_addClubs_0 (by decide) <|
    am_istore (ls' := [some (.ref 1), some (.ref a1), some (.int x2), some (.int x3), some (.int 0), none, none, none, none]) d_Hole_addClubs_1 (Nat.le_of_ble_eq_true rfl) rfl <|
    k
theorem b_Hole_addClubs_3 {d : Nat} {a1 : Nat} {x2 : Int32} {x3 : Int32} {x4 : Int32} {h : am_H} {Q : am_Q} (kt : x3 ≤ x4 → am_W (X_Hole_addClubs d) 111 [some (.ref 1), some (.ref a1), some (.int x2), some (.int x3), some (.int x4), none, none, none, none] [] h Q) (kf : ¬ x3 ≤ x4 → am_W (X_Hole_addClubs d) 9 [some (.ref 1), some (.ref a1), some (.int x2), some (.int x3), some (.int x4), none, none, none, none] [] h Q) : am_W (X_Hole_addClubs d) 3 [some (.ref 1), some (.ref a1), some (.int x2), some (.int x3), some (.int x4), none, none, none, none] [] h Q :=
  am_iload d_Hole_addClubs_3 rfl <|
    am_iload_n d_Hole_addClubs_5 rfl (i := 3) rfl <|
    am_icmp_ge (tgt := 111) d_Hole_addClubs_6 (by decide) kt kf
theorem b_Hole_addClubs_9 {d : Nat} {a1 : Nat} {x2 : Int32} {x3 : Int32} {x4 : Int32} {h : am_H} {Q : am_Q} (kt : 6 ≤ x4 → am_W (X_Hole_addClubs d) 111 [some (.ref 1), some (.ref a1), some (.int x2), some (.int x3), some (.int x4), none, none, none, none] [] h Q) (kf : ¬ 6 ≤ x4 → am_W (X_Hole_addClubs d) 16 [some (.ref 1), some (.ref a1), some (.int x2), some (.int x3), some (.int x4), none, none, none, none] [] h Q) : am_W (X_Hole_addClubs d) 9 [some (.ref 1), some (.ref a1), some (.int x2), some (.int x3), some (.int x4), none, none, none, none] [] h Q :=
  am_iload d_Hole_addClubs_9 rfl <|
    am_bipush (v := 6) d_Hole_addClubs_11 (by decide) <|
    am_icmp_ge (tgt := 111) d_Hole_addClubs_13 (by decide) kt kf
theorem b_Hole_addClubs_16 {d : Nat} {a1 : Nat} {x2 : Int32} {x3 : Int32} {x4 : Int32} {h : am_H} {Q : am_Q} (k : m_Hole_isFull d [.ref 1] h (fun r h => am_W (X_Hole_addClubs (d + 1)) 20 [some (.ref 1), some (.ref a1), some (.int x2), some (.int x3), some (.int x4), none, none, none, none] (r.toList ++ []) h Q)) : am_W (X_Hole_addClubs (d + 1)) 16 [some (.ref 1), some (.ref a1), some (.int x2), some (.int x3), some (.int x4), none, none, none, none] [] h Q :=
  am_aload_n d_Hole_addClubs_16 rfl (i := 0) rfl <|
    am_callV (vs := []) (st := []) (k := 1) (ci := 1) rfl d_Hole_addClubs_17 rfl rfl w_445 w_404 w_405 w_83 w_406 p_Hole_isFull (Nat.le_of_ble_eq_true rfl) (Nat.le_of_ble_eq_true rfl) rfl k
theorem b_Hole_addClubs_20 {d : Nat} {a1 : Nat} {x2 : Int32} {x3 : Int32} {x4 : Int32} {y0 : Int32} {h : am_H} {Q : am_Q} (kt : ¬ y0 = 0 → am_W (X_Hole_addClubs d) 37 [some (.ref 1), some (.ref a1), some (.int x2), some (.int x3), some (.int x4), none, none, none, none] [] h Q) (kf : y0 = 0 → am_W (X_Hole_addClubs d) 23 [some (.ref 1), some (.ref a1), some (.int x2), some (.int x3), some (.int x4), none, none, none, none] [] h Q) : am_W (X_Hole_addClubs d) 20 [some (.ref 1), some (.ref a1), some (.int x2), some (.int x3), some (.int x4), none, none, none, none] [.int y0] h Q :=
  am_if_ne (tgt := 37) d_Hole_addClubs_20 (by decide) kt kf
theorem b_Hole_addClubs_23 {d : Nat} {a1 : Nat} {x2 : Int32} {x3 : Int32} {x4 : Int32} {h : am_H} {Q : am_Q} (sa1 : am_shf a1) (k : m_Shelf_hasPlaces d [.ref a1, .int x2, .int ((3 * x4) + 3)] h (fun r h => am_W (X_Hole_addClubs (d + 1)) 34 [some (.ref 1), some (.ref a1), some (.int x2), some (.int x3), some (.int x4), none, none, none, none] (r.toList ++ []) h Q)) : am_W (X_Hole_addClubs (d + 1)) 23 [some (.ref 1), some (.ref a1), some (.int x2), some (.int x3), some (.int x4), none, none, none, none] [] h Q :=
  am_aload_n d_Hole_addClubs_23 rfl (i := 1) rfl <|
    am_iload_n d_Hole_addClubs_24 rfl (i := 2) rfl <|
    am_iconst (v := 3) d_Hole_addClubs_25 (by decide) <|
    am_iload d_Hole_addClubs_26 rfl <|
    am_imul d_Hole_addClubs_28 <|
    am_iconst (v := 3) d_Hole_addClubs_29 (by decide) <|
    am_iadd d_Hole_addClubs_30 <|
    am_callV (vs := [.int x2, .int ((3 * x4) + 3)]) (st := []) (k := a1) (ci := 9) rfl d_Hole_addClubs_31 rfl sa1.1 w_446 w_447 w_448 w_92 w_449 p_Shelf_hasPlaces (Nat.le_of_ble_eq_true rfl) (Nat.le_of_ble_eq_true rfl) rfl k
theorem b_Hole_addClubs_34 {d : Nat} {a1 : Nat} {x2 : Int32} {x3 : Int32} {x4 : Int32} {y0 : Int32} {h : am_H} {Q : am_Q} (kt : ¬ y0 = 0 → am_W (X_Hole_addClubs d) 40 [some (.ref 1), some (.ref a1), some (.int x2), some (.int x3), some (.int x4), none, none, none, none] [] h Q) (kf : y0 = 0 → am_W (X_Hole_addClubs d) 37 [some (.ref 1), some (.ref a1), some (.int x2), some (.int x3), some (.int x4), none, none, none, none] [] h Q) : am_W (X_Hole_addClubs d) 34 [some (.ref 1), some (.ref a1), some (.int x2), some (.int x3), some (.int x4), none, none, none, none] [.int y0] h Q :=
  am_if_ne (tgt := 40) d_Hole_addClubs_34 (by decide) kt kf
theorem b_Hole_addClubs_37 {d : Nat} {a1 : Nat} {x2 : Int32} {x3 : Int32} {x4 : Int32} {h : am_H} {Q : am_Q} (q : Q (some (.int x4)) h) : am_W (X_Hole_addClubs d) 37 [some (.ref 1), some (.ref a1), some (.int x2), some (.int x3), some (.int x4), none, none, none, none] [] h Q :=
  am_iload d_Hole_addClubs_37 rfl <|
    am_iret rfl d_Hole_addClubs_39 q
theorem b_Hole_addClubs_40 {d : Nat} {a1 : Nat} {x2 : Int32} {x3 : Int32} {x4 : Int32} {h : am_H} {Q : am_Q} (sa1 : am_shf a1) (k : m_Shelf_read d [.ref a1, .int (x2 + (3 * x4))] h (fun r h => am_W (X_Hole_addClubs (d + 1)) 54 [some (.ref 1), some (.ref a1), some (.int x2), some (.int x3), some (.int x4), some (.int (x2 + (3 * x4))), none, none, none] (r.toList ++ []) h Q)) : am_W (X_Hole_addClubs (d + 1)) 40 [some (.ref 1), some (.ref a1), some (.int x2), some (.int x3), some (.int x4), none, none, none, none] [] h Q :=
  am_iload_n d_Hole_addClubs_40 rfl (i := 2) rfl <|
    am_iconst (v := 3) d_Hole_addClubs_41 (by decide) <|
    am_iload d_Hole_addClubs_42 rfl <|
    am_imul d_Hole_addClubs_44 <|
    am_iadd d_Hole_addClubs_45 <|
    am_istore (ls' := [some (.ref 1), some (.ref a1), some (.int x2), some (.int x3), some (.int x4), some (.int (x2 + (3 * x4))), none, none, none]) d_Hole_addClubs_46 (Nat.le_of_ble_eq_true rfl) rfl <|
    am_aload_n d_Hole_addClubs_48 rfl (i := 1) rfl <|
    am_iload d_Hole_addClubs_49 rfl <|
    am_callV (vs := [.int (x2 + (3 * x4))]) (st := []) (k := a1) (ci := 9) rfl d_Hole_addClubs_51 rfl sa1.1 w_450 w_451 w_452 w_92 w_453 p_Shelf_read (Nat.le_of_ble_eq_true rfl) (Nat.le_of_ble_eq_true rfl) rfl k
theorem b_Hole_addClubs_54 {d : Nat} {a1 : Nat} {x2 : Int32} {x3 : Int32} {x4 : Int32} {x5 : Int32} {y0 : Int64} {h : am_H} {Q : am_Q} (sa1 : am_shf a1) (k : m_Shelf_read d [.ref a1, .int (x5 + 1)] h (fun r h => am_W (X_Hole_addClubs (d + 1)) 65 [some (.ref 1), some (.ref a1), some (.int x2), some (.int x3), some (.int x4), some (.int x5), some (.int y0.toInt32), none, none] (r.toList ++ []) h Q)) : am_W (X_Hole_addClubs (d + 1)) 54 [some (.ref 1), some (.ref a1), some (.int x2), some (.int x3), some (.int x4), some (.int x5), none, none, none] [.long y0] h Q :=
  am_l2i d_Hole_addClubs_54 <|
    am_istore (ls' := [some (.ref 1), some (.ref a1), some (.int x2), some (.int x3), some (.int x4), some (.int x5), some (.int y0.toInt32), none, none]) d_Hole_addClubs_55 (Nat.le_of_ble_eq_true rfl) rfl <|
    am_aload_n d_Hole_addClubs_57 rfl (i := 1) rfl <|
    am_iload d_Hole_addClubs_58 rfl <|
    am_iconst (v := 1) d_Hole_addClubs_60 (by decide) <|
    am_iadd d_Hole_addClubs_61 <|
    am_callV (vs := [.int (x5 + 1)]) (st := []) (k := a1) (ci := 9) rfl d_Hole_addClubs_62 rfl sa1.1 w_450 w_451 w_452 w_92 w_453 p_Shelf_read (Nat.le_of_ble_eq_true rfl) (Nat.le_of_ble_eq_true rfl) rfl k
theorem b_Hole_addClubs_65 {d : Nat} {a1 : Nat} {x2 : Int32} {x3 : Int32} {x4 : Int32} {x5 : Int32} {x6 : Int32} {y0 : Int64} {h : am_H} {Q : am_Q} (sa1 : am_shf a1) (k : m_Shelf_read d [.ref a1, .int (x5 + 2)] h (fun r h => am_W (X_Hole_addClubs (d + 1)) 76 [some (.ref 1), some (.ref a1), some (.int x2), some (.int x3), some (.int x4), some (.int x5), some (.int x6), some (.int y0.toInt32), none] (r.toList ++ []) h Q)) : am_W (X_Hole_addClubs (d + 1)) 65 [some (.ref 1), some (.ref a1), some (.int x2), some (.int x3), some (.int x4), some (.int x5), some (.int x6), none, none] [.long y0] h Q :=
  am_l2i d_Hole_addClubs_65 <|
    am_istore (ls' := [some (.ref 1), some (.ref a1), some (.int x2), some (.int x3), some (.int x4), some (.int x5), some (.int x6), some (.int y0.toInt32), none]) d_Hole_addClubs_66 (Nat.le_of_ble_eq_true rfl) rfl <|
    am_aload_n d_Hole_addClubs_68 rfl (i := 1) rfl <|
    am_iload d_Hole_addClubs_69 rfl <|
    am_iconst (v := 2) d_Hole_addClubs_71 (by decide) <|
    am_iadd d_Hole_addClubs_72 <|
    am_callV (vs := [.int (x5 + 2)]) (st := []) (k := a1) (ci := 9) rfl d_Hole_addClubs_73 rfl sa1.1 w_450 w_451 w_452 w_92 w_453 p_Shelf_read (Nat.le_of_ble_eq_true rfl) (Nat.le_of_ble_eq_true rfl) rfl k
theorem b_Hole_addClubs_76 {d : Nat} {a1 : Nat} {x2 : Int32} {x3 : Int32} {x4 : Int32} {x5 : Int32} {x6 : Int32} {x7 : Int32} {y0 : Int64} {h : am_H} {Q : am_Q} (k : m_Hole_isClub d [.int x6, .int x7, .int y0.toInt32] h (fun r h => am_W (X_Hole_addClubs (d + 1)) 88 [some (.ref 1), some (.ref a1), some (.int x2), some (.int x3), some (.int x4), some (.int x5), some (.int x6), some (.int x7), some (.int y0.toInt32)] (r.toList ++ []) h Q)) : am_W (X_Hole_addClubs (d + 1)) 76 [some (.ref 1), some (.ref a1), some (.int x2), some (.int x3), some (.int x4), some (.int x5), some (.int x6), some (.int x7), none] [.long y0] h Q :=
  am_l2i d_Hole_addClubs_76 <|
    am_istore (ls' := [some (.ref 1), some (.ref a1), some (.int x2), some (.int x3), some (.int x4), some (.int x5), some (.int x6), some (.int x7), some (.int y0.toInt32)]) d_Hole_addClubs_77 (Nat.le_of_ble_eq_true rfl) rfl <|
    am_iload d_Hole_addClubs_79 rfl <|
    am_iload d_Hole_addClubs_81 rfl <|
    am_iload d_Hole_addClubs_83 rfl <|
    am_callS (vs := [.int x6, .int x7, .int y0.toInt32]) (st := []) rfl d_Hole_addClubs_85 w_454 w_394 w_83 w_395 p_Hole_isClub (Nat.le_of_ble_eq_true rfl) (Nat.le_of_ble_eq_true rfl) rfl k
theorem b_Hole_addClubs_88 {d : Nat} {a1 : Nat} {x2 : Int32} {x3 : Int32} {x4 : Int32} {x5 : Int32} {x6 : Int32} {x7 : Int32} {x8 : Int32} {y0 : Int32} {h : am_H} {Q : am_Q} (kt : ¬ y0 = 0 → am_W (X_Hole_addClubs d) 94 [some (.ref 1), some (.ref a1), some (.int x2), some (.int x3), some (.int x4), some (.int x5), some (.int x6), some (.int x7), some (.int x8)] [] h Q) (kf : y0 = 0 → am_W (X_Hole_addClubs d) 91 [some (.ref 1), some (.ref a1), some (.int x2), some (.int x3), some (.int x4), some (.int x5), some (.int x6), some (.int x7), some (.int x8)] [] h Q) : am_W (X_Hole_addClubs d) 88 [some (.ref 1), some (.ref a1), some (.int x2), some (.int x3), some (.int x4), some (.int x5), some (.int x6), some (.int x7), some (.int x8)] [.int y0] h Q :=
  am_if_ne (tgt := 94) d_Hole_addClubs_88 (by decide) kt kf
theorem b_Hole_addClubs_91 {d : Nat} {a1 : Nat} {x2 : Int32} {x3 : Int32} {x4 : Int32} {x5 : Int32} {x6 : Int32} {x7 : Int32} {x8 : Int32} {h : am_H} {Q : am_Q} (q : Q (some (.int x4)) h) : am_W (X_Hole_addClubs d) 91 [some (.ref 1), some (.ref a1), some (.int x2), some (.int x3), some (.int x4), some (.int x5), some (.int x6), some (.int x7), some (.int x8)] [] h Q :=
  am_iload d_Hole_addClubs_91 rfl <|
    am_iret rfl d_Hole_addClubs_93 q
theorem b_Hole_addClubs_94 {d : Nat} {a1 : Nat} {x2 : Int32} {x3 : Int32} {x4 : Int32} {x5 : Int32} {x6 : Int32} {x7 : Int32} {x8 : Int32} {h : am_H} {Q : am_Q} (k : m_Hole_addClub d [.ref 1, .int x6, .int x7, .int x8] h (fun r h => am_W (X_Hole_addClubs (d + 1)) 104 [some (.ref 1), some (.ref a1), some (.int x2), some (.int x3), some (.int x4), some (.int x5), some (.int x6), some (.int x7), some (.int x8)] (r.toList ++ []) h Q)) : am_W (X_Hole_addClubs (d + 1)) 94 [some (.ref 1), some (.ref a1), some (.int x2), some (.int x3), some (.int x4), some (.int x5), some (.int x6), some (.int x7), some (.int x8)] [] h Q :=
  am_aload_n d_Hole_addClubs_94 rfl (i := 0) rfl <|
    am_iload d_Hole_addClubs_95 rfl <|
    am_iload d_Hole_addClubs_97 rfl <|
    am_iload d_Hole_addClubs_99 rfl <|
    am_callV (vs := [.int x6, .int x7, .int x8]) (st := []) (k := 1) (ci := 1) rfl d_Hole_addClubs_101 rfl rfl w_455 w_423 w_424 w_83 w_425 p_Hole_addClub (Nat.le_of_ble_eq_true rfl) (Nat.le_of_ble_eq_true rfl) rfl k
theorem b_Hole_addClubs_104 {d : Nat} {a1 : Nat} {x2 : Int32} {x3 : Int32} {x4 : Int32} {x5 : Int32} {x6 : Int32} {x7 : Int32} {x8 : Int32} {y0 : Int32} {h : am_H} {Q : am_Q} (k : am_W (X_Hole_addClubs d) 3 [some (.ref 1), some (.ref a1), some (.int x2), some (.int x3), some (.int (x4 + 1)), some (.int x5), some (.int x6), some (.int x7), some (.int x8)] [] h Q) : am_W (X_Hole_addClubs d) 104 [some (.ref 1), some (.ref a1), some (.int x2), some (.int x3), some (.int x4), some (.int x5), some (.int x6), some (.int x7), some (.int x8)] [.int y0] h Q :=
  am_popI d_Hole_addClubs_104 <|
    am_iinc (v := (x4 + 1)) (ls' := [some (.ref 1), some (.ref a1), some (.int x2), some (.int x3), some (.int (x4 + 1)), some (.int x5), some (.int x6), some (.int x7), some (.int x8)]) d_Hole_addClubs_105 rfl rfl (Nat.le_of_ble_eq_true rfl) rfl <|
    am_goto (tgt := 3) d_Hole_addClubs_108 (by decide) k
theorem b_Hole_addClubs_111 {d : Nat} {a1 : Nat} {x2 : Int32} {x3 : Int32} {x4 : Int32} {h : am_H} {Q : am_Q} (q : Q (some (.int (if 6 < x3 then 6 else x3))) h) : am_W (X_Hole_addClubs d) 111 [some (.ref 1), some (.ref a1), some (.int x2), some (.int x3), some (.int x4), none, none, none, none] [] h Q :=
  am_iload_n d_Hole_addClubs_111 rfl (i := 3) rfl <|
    am_bipush (v := 6) d_Hole_addClubs_112 (by decide) <|
    am_mmin w_456 d_Hole_addClubs_114 (Nat.le_of_ble_eq_true rfl) <|
    am_iret rfl d_Hole_addClubs_117 q
theorem b_Hole_carryOf_0 {d : Nat} {x1 : Int32} {h : am_H} {Q : am_Q} (k : m_Hole_hasClub d [.ref 1, .int x1] h (fun r h => am_W (X_Hole_carryOf (d + 1)) 5 [some (.ref 1), some (.int x1)] (r.toList ++ []) h Q)) : am_W (X_Hole_carryOf (d + 1)) 0 [some (.ref 1), some (.int x1)] [] h Q :=
  am_aload_n d_Hole_carryOf_0 rfl (i := 0) rfl <|
    am_iload_n d_Hole_carryOf_1 rfl (i := 1) rfl <|
    am_callV (vs := [.int x1]) (st := []) (k := 1) (ci := 1) rfl d_Hole_carryOf_2 rfl rfl w_470 w_471 w_472 w_83 w_473 p_Hole_hasClub (Nat.le_of_ble_eq_true rfl) (Nat.le_of_ble_eq_true rfl) rfl k
theorem b_Hole_carryOf_5 {d : Nat} {x1 : Int32} {y0 : Int32} {h : am_H} {Q : am_Q} (kt : y0 = 0 → am_W (X_Hole_carryOf d) 17 [some (.ref 1), some (.int x1)] [] h Q) (kf : ¬ y0 = 0 → am_W (X_Hole_carryOf d) 8 [some (.ref 1), some (.int x1)] [] h Q) : am_W (X_Hole_carryOf d) 5 [some (.ref 1), some (.int x1)] [.int y0] h Q :=
  am_if_eq (tgt := 17) d_Hole_carryOf_5 (by decide) kt kf
theorem b_Hole_carryOf_8 {d : Nat} {x1 : Int32} {h : am_H} {Q : am_Q} (q0 : vp_in x1 6) (k : am_W (X_Hole_carryOf d) 18 [some (.ref 1), some (.int x1)] [.int (h.1 3 x1.toNatClampNeg)] h Q) : am_W (X_Hole_carryOf d) 8 [some (.ref 1), some (.int x1)] [] h Q :=
  am_aload_n d_Hole_carryOf_8 rfl (i := 0) rfl <|
    am_getR (ci := 1) (i := 1) rfl rfl rfl (Nat.le_of_ble_eq_true rfl) w_122 d_Hole_carryOf_9 <|
    am_iload_n d_Hole_carryOf_12 rfl (i := 1) rfl <|
    am_iald rfl q0 d_Hole_carryOf_13 <|
    am_goto (tgt := 18) d_Hole_carryOf_14 (by decide) k
theorem b_Hole_carryOf_17 {d : Nat} {x1 : Int32} {h : am_H} {Q : am_Q} (k : am_W (X_Hole_carryOf d) 18 [some (.ref 1), some (.int x1)] [.int 0] h Q) : am_W (X_Hole_carryOf d) 17 [some (.ref 1), some (.int x1)] [] h Q :=
  am_iconst (v := 0) d_Hole_carryOf_17 (by decide) <|
    k
theorem b_Hole_carryOf_18 {d : Nat} {x1 : Int32} {y0 : Int32} {h : am_H} {Q : am_Q} (q : Q (some (.int y0)) h) : am_W (X_Hole_carryOf d) 18 [some (.ref 1), some (.int x1)] [.int y0] h Q :=
  am_iret rfl d_Hole_carryOf_18 q
theorem b_Hole_spreadOf_0 {d : Nat} {x1 : Int32} {h : am_H} {Q : am_Q} (k : m_Hole_hasClub d [.ref 1, .int x1] h (fun r h => am_W (X_Hole_spreadOf (d + 1)) 5 [some (.ref 1), some (.int x1)] (r.toList ++ []) h Q)) : am_W (X_Hole_spreadOf (d + 1)) 0 [some (.ref 1), some (.int x1)] [] h Q :=
  am_aload_n d_Hole_spreadOf_0 rfl (i := 0) rfl <|
    am_iload_n d_Hole_spreadOf_1 rfl (i := 1) rfl <|
    am_callV (vs := [.int x1]) (st := []) (k := 1) (ci := 1) rfl d_Hole_spreadOf_2 rfl rfl w_470 w_471 w_472 w_83 w_473 p_Hole_hasClub (Nat.le_of_ble_eq_true rfl) (Nat.le_of_ble_eq_true rfl) rfl k
theorem b_Hole_spreadOf_5 {d : Nat} {x1 : Int32} {y0 : Int32} {h : am_H} {Q : am_Q} (kt : y0 = 0 → am_W (X_Hole_spreadOf d) 17 [some (.ref 1), some (.int x1)] [] h Q) (kf : ¬ y0 = 0 → am_W (X_Hole_spreadOf d) 8 [some (.ref 1), some (.int x1)] [] h Q) : am_W (X_Hole_spreadOf d) 5 [some (.ref 1), some (.int x1)] [.int y0] h Q :=
  am_if_eq (tgt := 17) d_Hole_spreadOf_5 (by decide) kt kf
theorem b_Hole_spreadOf_8 {d : Nat} {x1 : Int32} {h : am_H} {Q : am_Q} (q0 : vp_in x1 6) (k : am_W (X_Hole_spreadOf d) 18 [some (.ref 1), some (.int x1)] [.int (h.1 4 x1.toNatClampNeg)] h Q) : am_W (X_Hole_spreadOf d) 8 [some (.ref 1), some (.int x1)] [] h Q :=
  am_aload_n d_Hole_spreadOf_8 rfl (i := 0) rfl <|
    am_getR (ci := 1) (i := 2) rfl rfl rfl (Nat.le_of_ble_eq_true rfl) w_123 d_Hole_spreadOf_9 <|
    am_iload_n d_Hole_spreadOf_12 rfl (i := 1) rfl <|
    am_iald rfl q0 d_Hole_spreadOf_13 <|
    am_goto (tgt := 18) d_Hole_spreadOf_14 (by decide) k
theorem b_Hole_spreadOf_17 {d : Nat} {x1 : Int32} {h : am_H} {Q : am_Q} (k : am_W (X_Hole_spreadOf d) 18 [some (.ref 1), some (.int x1)] [.int 0] h Q) : am_W (X_Hole_spreadOf d) 17 [some (.ref 1), some (.int x1)] [] h Q :=
  am_iconst (v := 0) d_Hole_spreadOf_17 (by decide) <|
    k
theorem b_Hole_spreadOf_18 {d : Nat} {x1 : Int32} {y0 : Int32} {h : am_H} {Q : am_Q} (q : Q (some (.int y0)) h) : am_W (X_Hole_spreadOf d) 18 [some (.ref 1), some (.int x1)] [.int y0] h Q :=
  am_iret rfl d_Hole_spreadOf_18 q
theorem b_Hole_believedOf_0 {d : Nat} {x1 : Int32} {h : am_H} {Q : am_Q} (k : m_Hole_hasClub d [.ref 1, .int x1] h (fun r h => am_W (X_Hole_believedOf (d + 1)) 5 [some (.ref 1), some (.int x1)] (r.toList ++ []) h Q)) : am_W (X_Hole_believedOf (d + 1)) 0 [some (.ref 1), some (.int x1)] [] h Q :=
  am_aload_n d_Hole_believedOf_0 rfl (i := 0) rfl <|
    am_iload_n d_Hole_believedOf_1 rfl (i := 1) rfl <|
    am_callV (vs := [.int x1]) (st := []) (k := 1) (ci := 1) rfl d_Hole_believedOf_2 rfl rfl w_470 w_471 w_472 w_83 w_473 p_Hole_hasClub (Nat.le_of_ble_eq_true rfl) (Nat.le_of_ble_eq_true rfl) rfl k
theorem b_Hole_believedOf_5 {d : Nat} {x1 : Int32} {y0 : Int32} {h : am_H} {Q : am_Q} (kt : y0 = 0 → am_W (X_Hole_believedOf d) 17 [some (.ref 1), some (.int x1)] [] h Q) (kf : ¬ y0 = 0 → am_W (X_Hole_believedOf d) 8 [some (.ref 1), some (.int x1)] [] h Q) : am_W (X_Hole_believedOf d) 5 [some (.ref 1), some (.int x1)] [.int y0] h Q :=
  am_if_eq (tgt := 17) d_Hole_believedOf_5 (by decide) kt kf
theorem b_Hole_believedOf_8 {d : Nat} {x1 : Int32} {h : am_H} {Q : am_Q} (q0 : vp_in x1 6) (k : am_W (X_Hole_believedOf d) 18 [some (.ref 1), some (.int x1)] [.int (h.1 5 x1.toNatClampNeg)] h Q) : am_W (X_Hole_believedOf d) 8 [some (.ref 1), some (.int x1)] [] h Q :=
  am_aload_n d_Hole_believedOf_8 rfl (i := 0) rfl <|
    am_getR (ci := 1) (i := 3) rfl rfl rfl (Nat.le_of_ble_eq_true rfl) w_124 d_Hole_believedOf_9 <|
    am_iload_n d_Hole_believedOf_12 rfl (i := 1) rfl <|
    am_iald rfl q0 d_Hole_believedOf_13 <|
    am_goto (tgt := 18) d_Hole_believedOf_14 (by decide) k
theorem b_Hole_believedOf_17 {d : Nat} {x1 : Int32} {h : am_H} {Q : am_Q} (k : am_W (X_Hole_believedOf d) 18 [some (.ref 1), some (.int x1)] [.int 0] h Q) : am_W (X_Hole_believedOf d) 17 [some (.ref 1), some (.int x1)] [] h Q :=
  am_iconst (v := 0) d_Hole_believedOf_17 (by decide) <|
    k
theorem b_Hole_believedOf_18 {d : Nat} {x1 : Int32} {y0 : Int32} {h : am_H} {Q : am_Q} (q : Q (some (.int y0)) h) : am_W (X_Hole_believedOf d) 18 [some (.ref 1), some (.int x1)] [.int y0] h Q :=
  am_iret rfl d_Hole_believedOf_18 q
theorem b_Hole_waysOf_0 {d : Nat} {x1 : Int32} {h : am_H} {Q : am_Q} (k : m_Hole_spreadOf d [.ref 1, .int x1] h (fun r h => am_W (X_Hole_waysOf (d + 1)) 6 [some (.ref 1), some (.int x1)] (r.toList ++ [.int 2]) h Q)) : am_W (X_Hole_waysOf (d + 1)) 0 [some (.ref 1), some (.int x1)] [] h Q :=
  am_iconst (v := 2) d_Hole_waysOf_0 (by decide) <|
    am_aload_n d_Hole_waysOf_1 rfl (i := 0) rfl <|
    am_iload_n d_Hole_waysOf_2 rfl (i := 1) rfl <|
    am_callV (vs := [.int x1]) (st := [.int 2]) (k := 1) (ci := 1) rfl d_Hole_waysOf_3 rfl rfl w_710 w_688 w_689 w_83 w_690 p_Hole_spreadOf (Nat.le_of_ble_eq_true rfl) (Nat.le_of_ble_eq_true rfl) rfl k
theorem b_Hole_waysOf_6 {d : Nat} {x1 : Int32} {y1 : Int32} {y0 : Int32} {h : am_H} {Q : am_Q} (q : Q (some (.int ((y0 * y1) + 1))) h) : am_W (X_Hole_waysOf d) 6 [some (.ref 1), some (.int x1)] [.int y1, .int y0] h Q :=
  am_imul d_Hole_waysOf_6 <|
    am_iconst (v := 1) d_Hole_waysOf_7 (by decide) <|
    am_iadd d_Hole_waysOf_8 <|
    am_iret rfl d_Hole_waysOf_9 q
theorem b_Hole_isGreen_0 {d : Nat} {x1 : Int32} {h : am_H} {Q : am_Q} (k : m_Hole_isCell d [.int x1] h (fun r h => am_W (X_Hole_isGreen (d + 1)) 4 [some (.ref 1), some (.int x1)] (r.toList ++ []) h Q)) : am_W (X_Hole_isGreen (d + 1)) 0 [some (.ref 1), some (.int x1)] [] h Q :=
  am_iload_n d_Hole_isGreen_0 rfl (i := 1) rfl <|
    am_callS (vs := [.int x1]) (st := []) rfl d_Hole_isGreen_1 w_467 w_468 w_83 w_469 p_Hole_isCell (Nat.le_of_ble_eq_true rfl) (Nat.le_of_ble_eq_true rfl) rfl k
theorem b_Hole_isGreen_4 {d : Nat} {x1 : Int32} {y0 : Int32} {h : am_H} {Q : am_Q} (kt : y0 = 0 → am_W (X_Hole_isGreen d) 29 [some (.ref 1), some (.int x1)] [] h Q) (kf : ¬ y0 = 0 → am_W (X_Hole_isGreen d) 7 [some (.ref 1), some (.int x1)] [] h Q) : am_W (X_Hole_isGreen d) 4 [some (.ref 1), some (.int x1)] [.int y0] h Q :=
  am_if_eq (tgt := 29) d_Hole_isGreen_4 (by decide) kt kf
theorem b_Hole_isGreen_7 {d : Nat} {x1 : Int32} {h : am_H} {Q : am_Q} (kt : x1 = (h.1 1 5) → am_W (X_Hole_isGreen d) 25 [some (.ref 1), some (.int x1)] [] h Q) (kf : ¬ x1 = (h.1 1 5) → am_W (X_Hole_isGreen d) 15 [some (.ref 1), some (.int x1)] [] h Q) : am_W (X_Hole_isGreen d) 7 [some (.ref 1), some (.int x1)] [] h Q :=
  am_iload_n d_Hole_isGreen_7 rfl (i := 1) rfl <|
    am_aload_n d_Hole_isGreen_8 rfl (i := 0) rfl <|
    am_getI (ci := 1) (i := 5) rfl rfl rfl (Nat.le_of_ble_eq_true rfl) w_126 d_Hole_isGreen_9 <|
    am_icmp_eq (tgt := 25) d_Hole_isGreen_12 (by decide) kt kf
theorem b_Hole_isGreen_15 {d : Nat} {x1 : Int32} {h : am_H} {Q : am_Q} (q0 : vp_in x1 31) (kt : ¬ (h.1 2 x1.toNatClampNeg) = 4 → am_W (X_Hole_isGreen d) 29 [some (.ref 1), some (.int x1)] [] h Q) (kf : (h.1 2 x1.toNatClampNeg) = 4 → am_W (X_Hole_isGreen d) 25 [some (.ref 1), some (.int x1)] [] h Q) : am_W (X_Hole_isGreen d) 15 [some (.ref 1), some (.int x1)] [] h Q :=
  am_aload_n d_Hole_isGreen_15 rfl (i := 0) rfl <|
    am_getR (ci := 1) (i := 0) rfl rfl rfl (Nat.le_of_ble_eq_true rfl) w_121 d_Hole_isGreen_16 <|
    am_iload_n d_Hole_isGreen_19 rfl (i := 1) rfl <|
    am_iald rfl q0 d_Hole_isGreen_20 <|
    am_iconst (v := 4) d_Hole_isGreen_21 (by decide) <|
    am_icmp_ne (tgt := 29) d_Hole_isGreen_22 (by decide) kt kf
theorem b_Hole_isGreen_25 {d : Nat} {x1 : Int32} {h : am_H} {Q : am_Q} (k : am_W (X_Hole_isGreen d) 30 [some (.ref 1), some (.int x1)] [.int 1] h Q) : am_W (X_Hole_isGreen d) 25 [some (.ref 1), some (.int x1)] [] h Q :=
  am_iconst (v := 1) d_Hole_isGreen_25 (by decide) <|
    am_goto (tgt := 30) d_Hole_isGreen_26 (by decide) k
theorem b_Hole_isGreen_29 {d : Nat} {x1 : Int32} {h : am_H} {Q : am_Q} (k : am_W (X_Hole_isGreen d) 30 [some (.ref 1), some (.int x1)] [.int 0] h Q) : am_W (X_Hole_isGreen d) 29 [some (.ref 1), some (.int x1)] [] h Q :=
  am_iconst (v := 0) d_Hole_isGreen_29 (by decide) <|
    k
theorem b_Hole_isGreen_30 {d : Nat} {x1 : Int32} {y0 : Int32} {h : am_H} {Q : am_Q} (qz : narrow .boolean (.int y0) = .int y0) (q : Q (some (.int y0)) h) : am_W (X_Hole_isGreen d) 30 [some (.ref 1), some (.int x1)] [.int y0] h Q :=
  am_zret (ty := .boolean) rfl qz d_Hole_isGreen_30 q
theorem b_Hole_isOffGreen_0 {d : Nat} {x1 : Int32} {h : am_H} {Q : am_Q} (k : m_Hole_isCell d [.int x1] h (fun r h => am_W (X_Hole_isOffGreen (d + 1)) 4 [some (.ref 1), some (.int x1)] (r.toList ++ []) h Q)) : am_W (X_Hole_isOffGreen (d + 1)) 0 [some (.ref 1), some (.int x1)] [] h Q :=
  am_iload_n d_Hole_isOffGreen_0 rfl (i := 1) rfl <|
    am_callS (vs := [.int x1]) (st := []) rfl d_Hole_isOffGreen_1 w_467 w_468 w_83 w_469 p_Hole_isCell (Nat.le_of_ble_eq_true rfl) (Nat.le_of_ble_eq_true rfl) rfl k
theorem b_Hole_isOffGreen_4 {d : Nat} {x1 : Int32} {y0 : Int32} {h : am_H} {Q : am_Q} (kt : y0 = 0 → am_W (X_Hole_isOffGreen d) 19 [some (.ref 1), some (.int x1)] [] h Q) (kf : ¬ y0 = 0 → am_W (X_Hole_isOffGreen d) 7 [some (.ref 1), some (.int x1)] [] h Q) : am_W (X_Hole_isOffGreen d) 4 [some (.ref 1), some (.int x1)] [.int y0] h Q :=
  am_if_eq (tgt := 19) d_Hole_isOffGreen_4 (by decide) kt kf
theorem b_Hole_isOffGreen_7 {d : Nat} {x1 : Int32} {h : am_H} {Q : am_Q} (k : m_Hole_isGreen d [.ref 1, .int x1] h (fun r h => am_W (X_Hole_isOffGreen (d + 1)) 12 [some (.ref 1), some (.int x1)] (r.toList ++ []) h Q)) : am_W (X_Hole_isOffGreen (d + 1)) 7 [some (.ref 1), some (.int x1)] [] h Q :=
  am_aload_n d_Hole_isOffGreen_7 rfl (i := 0) rfl <|
    am_iload_n d_Hole_isOffGreen_8 rfl (i := 1) rfl <|
    am_callV (vs := [.int x1]) (st := []) (k := 1) (ci := 1) rfl d_Hole_isOffGreen_9 rfl rfl w_673 w_674 w_675 w_83 w_676 p_Hole_isGreen (Nat.le_of_ble_eq_true rfl) (Nat.le_of_ble_eq_true rfl) rfl k
theorem b_Hole_isOffGreen_12 {d : Nat} {x1 : Int32} {y0 : Int32} {h : am_H} {Q : am_Q} (kt : ¬ y0 = 0 → am_W (X_Hole_isOffGreen d) 19 [some (.ref 1), some (.int x1)] [] h Q) (kf : y0 = 0 → am_W (X_Hole_isOffGreen d) 15 [some (.ref 1), some (.int x1)] [] h Q) : am_W (X_Hole_isOffGreen d) 12 [some (.ref 1), some (.int x1)] [.int y0] h Q :=
  am_if_ne (tgt := 19) d_Hole_isOffGreen_12 (by decide) kt kf
theorem b_Hole_isOffGreen_15 {d : Nat} {x1 : Int32} {h : am_H} {Q : am_Q} (k : am_W (X_Hole_isOffGreen d) 20 [some (.ref 1), some (.int x1)] [.int 1] h Q) : am_W (X_Hole_isOffGreen d) 15 [some (.ref 1), some (.int x1)] [] h Q :=
  am_iconst (v := 1) d_Hole_isOffGreen_15 (by decide) <|
    am_goto (tgt := 20) d_Hole_isOffGreen_16 (by decide) k
theorem b_Hole_isOffGreen_19 {d : Nat} {x1 : Int32} {h : am_H} {Q : am_Q} (k : am_W (X_Hole_isOffGreen d) 20 [some (.ref 1), some (.int x1)] [.int 0] h Q) : am_W (X_Hole_isOffGreen d) 19 [some (.ref 1), some (.int x1)] [] h Q :=
  am_iconst (v := 0) d_Hole_isOffGreen_19 (by decide) <|
    k
theorem b_Hole_isOffGreen_20 {d : Nat} {x1 : Int32} {y0 : Int32} {h : am_H} {Q : am_Q} (qz : narrow .boolean (.int y0) = .int y0) (q : Q (some (.int y0)) h) : am_W (X_Hole_isOffGreen d) 20 [some (.ref 1), some (.int x1)] [.int y0] h Q :=
  am_zret (ty := .boolean) rfl qz d_Hole_isOffGreen_20 q
theorem b_Hole_isWater_0 {d : Nat} {x1 : Int32} {h : am_H} {Q : am_Q} (k : m_Hole_isCell d [.int x1] h (fun r h => am_W (X_Hole_isWater (d + 1)) 4 [some (.ref 1), some (.int x1)] (r.toList ++ []) h Q)) : am_W (X_Hole_isWater (d + 1)) 0 [some (.ref 1), some (.int x1)] [] h Q :=
  am_iload_n d_Hole_isWater_0 rfl (i := 1) rfl <|
    am_callS (vs := [.int x1]) (st := []) rfl d_Hole_isWater_1 w_467 w_468 w_83 w_469 p_Hole_isCell (Nat.le_of_ble_eq_true rfl) (Nat.le_of_ble_eq_true rfl) rfl k
theorem b_Hole_isWater_4 {d : Nat} {x1 : Int32} {y0 : Int32} {h : am_H} {Q : am_Q} (kt : y0 = 0 → am_W (X_Hole_isWater d) 29 [some (.ref 1), some (.int x1)] [] h Q) (kf : ¬ y0 = 0 → am_W (X_Hole_isWater d) 7 [some (.ref 1), some (.int x1)] [] h Q) : am_W (X_Hole_isWater d) 4 [some (.ref 1), some (.int x1)] [.int y0] h Q :=
  am_if_eq (tgt := 29) d_Hole_isWater_4 (by decide) kt kf
theorem b_Hole_isWater_7 {d : Nat} {x1 : Int32} {h : am_H} {Q : am_Q} (kt : x1 = (h.1 1 5) → am_W (X_Hole_isWater d) 29 [some (.ref 1), some (.int x1)] [] h Q) (kf : ¬ x1 = (h.1 1 5) → am_W (X_Hole_isWater d) 15 [some (.ref 1), some (.int x1)] [] h Q) : am_W (X_Hole_isWater d) 7 [some (.ref 1), some (.int x1)] [] h Q :=
  am_iload_n d_Hole_isWater_7 rfl (i := 1) rfl <|
    am_aload_n d_Hole_isWater_8 rfl (i := 0) rfl <|
    am_getI (ci := 1) (i := 5) rfl rfl rfl (Nat.le_of_ble_eq_true rfl) w_126 d_Hole_isWater_9 <|
    am_icmp_eq (tgt := 29) d_Hole_isWater_12 (by decide) kt kf
theorem b_Hole_isWater_15 {d : Nat} {x1 : Int32} {h : am_H} {Q : am_Q} (q0 : vp_in x1 31) (kt : ¬ (h.1 2 x1.toNatClampNeg) = 3 → am_W (X_Hole_isWater d) 29 [some (.ref 1), some (.int x1)] [] h Q) (kf : (h.1 2 x1.toNatClampNeg) = 3 → am_W (X_Hole_isWater d) 25 [some (.ref 1), some (.int x1)] [] h Q) : am_W (X_Hole_isWater d) 15 [some (.ref 1), some (.int x1)] [] h Q :=
  am_aload_n d_Hole_isWater_15 rfl (i := 0) rfl <|
    am_getR (ci := 1) (i := 0) rfl rfl rfl (Nat.le_of_ble_eq_true rfl) w_121 d_Hole_isWater_16 <|
    am_iload_n d_Hole_isWater_19 rfl (i := 1) rfl <|
    am_iald rfl q0 d_Hole_isWater_20 <|
    am_iconst (v := 3) d_Hole_isWater_21 (by decide) <|
    am_icmp_ne (tgt := 29) d_Hole_isWater_22 (by decide) kt kf
theorem b_Hole_isWater_25 {d : Nat} {x1 : Int32} {h : am_H} {Q : am_Q} (k : am_W (X_Hole_isWater d) 30 [some (.ref 1), some (.int x1)] [.int 1] h Q) : am_W (X_Hole_isWater d) 25 [some (.ref 1), some (.int x1)] [] h Q :=
  am_iconst (v := 1) d_Hole_isWater_25 (by decide) <|
    am_goto (tgt := 30) d_Hole_isWater_26 (by decide) k
theorem b_Hole_isWater_29 {d : Nat} {x1 : Int32} {h : am_H} {Q : am_Q} (k : am_W (X_Hole_isWater d) 30 [some (.ref 1), some (.int x1)] [.int 0] h Q) : am_W (X_Hole_isWater d) 29 [some (.ref 1), some (.int x1)] [] h Q :=
  am_iconst (v := 0) d_Hole_isWater_29 (by decide) <|
    k
theorem b_Hole_isWater_30 {d : Nat} {x1 : Int32} {y0 : Int32} {h : am_H} {Q : am_Q} (qz : narrow .boolean (.int y0) = .int y0) (q : Q (some (.int y0)) h) : am_W (X_Hole_isWater d) 30 [some (.ref 1), some (.int x1)] [.int y0] h Q :=
  am_zret (ty := .boolean) rfl qz d_Hole_isWater_30 q
theorem b_Hole_greenCells_0 {d : Nat} {h : am_H} {Q : am_Q} (k : am_W (X_Hole_greenCells d) 4 [some (.ref 1), some (.int 0), some (.int 0)] [] h Q) : am_W (X_Hole_greenCells d) 0 [some (.ref 1), none, none] [] h Q :=
  am_iconst (v := 0) d_Hole_greenCells_0 (by decide) <|
    am_istore_n (ls' := [some (.ref 1), some (.int 0), none]) d_Hole_greenCells_1 rfl (Nat.le_of_ble_eq_true rfl) rfl <|
    am_iconst (v := 0) d_Hole_greenCells_2 (by decide) <|
    am_istore_n (ls' := [some (.ref 1), some (.int 0), some (.int 0)]) d_Hole_greenCells_3 rfl (Nat.le_of_ble_eq_true rfl) rfl <|
    k
theorem b_Hole_greenCells_4 {d : Nat} {x1 : Int32} {x2 : Int32} {h : am_H} {Q : am_Q} (kt : 31 ≤ x2 → am_W (X_Hole_greenCells d) 32 [some (.ref 1), some (.int x1), some (.int x2)] [] h Q) (kf : ¬ 31 ≤ x2 → am_W (X_Hole_greenCells d) 10 [some (.ref 1), some (.int x1), some (.int x2)] [] h Q) : am_W (X_Hole_greenCells d) 4 [some (.ref 1), some (.int x1), some (.int x2)] [] h Q :=
  am_iload_n d_Hole_greenCells_4 rfl (i := 2) rfl <|
    am_bipush (v := 31) d_Hole_greenCells_5 (by decide) <|
    am_icmp_ge (tgt := 32) d_Hole_greenCells_7 (by decide) kt kf
theorem b_Hole_greenCells_10 {d : Nat} {x1 : Int32} {x2 : Int32} {h : am_H} {Q : am_Q} (k : m_Hole_isGreen d [.ref 1, .int x2] h (fun r h => am_W (X_Hole_greenCells (d + 1)) 16 [some (.ref 1), some (.int x1), some (.int x2)] (r.toList ++ [.int x1]) h Q)) : am_W (X_Hole_greenCells (d + 1)) 10 [some (.ref 1), some (.int x1), some (.int x2)] [] h Q :=
  am_iload_n d_Hole_greenCells_10 rfl (i := 1) rfl <|
    am_aload_n d_Hole_greenCells_11 rfl (i := 0) rfl <|
    am_iload_n d_Hole_greenCells_12 rfl (i := 2) rfl <|
    am_callV (vs := [.int x2]) (st := [.int x1]) (k := 1) (ci := 1) rfl d_Hole_greenCells_13 rfl rfl w_673 w_674 w_675 w_83 w_676 p_Hole_isGreen (Nat.le_of_ble_eq_true rfl) (Nat.le_of_ble_eq_true rfl) rfl k
theorem b_Hole_greenCells_16 {d : Nat} {x1 : Int32} {x2 : Int32} {y1 : Int32} {y0 : Int32} {h : am_H} {Q : am_Q} (kt : y1 = 0 → am_W (X_Hole_greenCells d) 23 [some (.ref 1), some (.int x1), some (.int x2)] [.int y0] h Q) (kf : ¬ y1 = 0 → am_W (X_Hole_greenCells d) 19 [some (.ref 1), some (.int x1), some (.int x2)] [.int y0] h Q) : am_W (X_Hole_greenCells d) 16 [some (.ref 1), some (.int x1), some (.int x2)] [.int y1, .int y0] h Q :=
  am_if_eq (tgt := 23) d_Hole_greenCells_16 (by decide) kt kf
theorem b_Hole_greenCells_19 {d : Nat} {x1 : Int32} {x2 : Int32} {y0 : Int32} {h : am_H} {Q : am_Q} (k : am_W (X_Hole_greenCells d) 24 [some (.ref 1), some (.int x1), some (.int x2)] [.int 1, .int y0] h Q) : am_W (X_Hole_greenCells d) 19 [some (.ref 1), some (.int x1), some (.int x2)] [.int y0] h Q :=
  am_iconst (v := 1) d_Hole_greenCells_19 (by decide) <|
    am_goto (tgt := 24) d_Hole_greenCells_20 (by decide) k
theorem b_Hole_greenCells_23 {d : Nat} {x1 : Int32} {x2 : Int32} {y0 : Int32} {h : am_H} {Q : am_Q} (k : am_W (X_Hole_greenCells d) 24 [some (.ref 1), some (.int x1), some (.int x2)] [.int 0, .int y0] h Q) : am_W (X_Hole_greenCells d) 23 [some (.ref 1), some (.int x1), some (.int x2)] [.int y0] h Q :=
  am_iconst (v := 0) d_Hole_greenCells_23 (by decide) <|
    k
theorem b_Hole_greenCells_24 {d : Nat} {x1 : Int32} {x2 : Int32} {y1 : Int32} {y0 : Int32} {h : am_H} {Q : am_Q} (k : am_W (X_Hole_greenCells d) 4 [some (.ref 1), some (.int (y0 + y1)), some (.int (x2 + 1))] [] h Q) : am_W (X_Hole_greenCells d) 24 [some (.ref 1), some (.int x1), some (.int x2)] [.int y1, .int y0] h Q :=
  am_iadd d_Hole_greenCells_24 <|
    am_istore_n (ls' := [some (.ref 1), some (.int (y0 + y1)), some (.int x2)]) d_Hole_greenCells_25 rfl (Nat.le_of_ble_eq_true rfl) rfl <|
    am_iinc (v := (x2 + 1)) (ls' := [some (.ref 1), some (.int (y0 + y1)), some (.int (x2 + 1))]) d_Hole_greenCells_26 rfl rfl (Nat.le_of_ble_eq_true rfl) rfl <|
    am_goto (tgt := 4) d_Hole_greenCells_29 (by decide) k
theorem b_Hole_greenCells_32 {d : Nat} {x1 : Int32} {x2 : Int32} {h : am_H} {Q : am_Q} (q : Q (some (.int x1)) h) : am_W (X_Hole_greenCells d) 32 [some (.ref 1), some (.int x1), some (.int x2)] [] h Q :=
  am_iload_n d_Hole_greenCells_32 rfl (i := 1) rfl <|
    am_iret rfl d_Hole_greenCells_33 q
