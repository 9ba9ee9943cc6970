theorem dX6_thrown_0 : decode cX6_thrown 0 = .ok (.aload_n 0, 1) := by decide +kernel
theorem dX6_thrown_1 : decode cX6_thrown 1 = .ok (.getfield 65, 3) := by decide +kernel
theorem dX6_thrown_4 : decode cX6_thrown 4 = .ok (.ireturn, 1) := by decide +kernel
theorem dX6_type_0 : decode cX6_type 0 = .ok (.iconst 0, 1) := by decide +kernel
theorem dX6_type_1 : decode cX6_type 1 = .ok (.istore_n 3, 1) := by decide +kernel
theorem dX6_type_2 : decode cX6_type 2 = .ok (.iconst 1, 1) := by decide +kernel
theorem dX6_type_3 : decode cX6_type 3 = .ok (.istore 4, 2) := by decide +kernel
theorem dX6_type_5 : decode cX6_type 5 = .ok (.iconst 0, 1) := by decide +kernel
theorem dX6_type_6 : decode cX6_type 6 = .ok (.istore 5, 2) := by decide +kernel
theorem dX6_type_8 : decode cX6_type 8 = .ok (.iload 5, 2) := by decide +kernel
theorem dX6_type_10 : decode cX6_type 10 = .ok (.bipush 8, 2) := by decide +kernel
theorem dX6_type_12 : decode cX6_type 12 = .ok (.if_icmp .ge 80, 3) := by decide +kernel
theorem dX6_type_15 : decode cX6_type 15 = .ok (.iload_n 3, 1) := by decide +kernel
theorem dX6_type_16 : decode cX6_type 16 = .ok (.iload 5, 2) := by decide +kernel
theorem dX6_type_18 : decode cX6_type 18 = .ok (.if_icmp .ne 74, 3) := by decide +kernel
theorem dX6_type_21 : decode cX6_type 21 = .ok (.lload_n 1, 1) := by decide +kernel
theorem dX6_type_22 : decode cX6_type 22 = .ok (.bipush 8, 2) := by decide +kernel
theorem dX6_type_24 : decode cX6_type 24 = .ok (.iload 5, 2) := by decide +kernel
theorem dX6_type_26 : decode cX6_type 26 = .ok (.imul, 1) := by decide +kernel
theorem dX6_type_27 : decode cX6_type 27 = .ok (.lushr, 1) := by decide +kernel
theorem dX6_type_28 : decode cX6_type 28 = .ok (.ldc2_w 68, 3) := by decide +kernel
theorem dX6_type_31 : decode cX6_type 31 = .ok (.land, 1) := by decide +kernel
theorem dX6_type_32 : decode cX6_type 32 = .ok (.lstore 6, 2) := by decide +kernel
theorem dX6_type_34 : decode cX6_type 34 = .ok (.iload 4, 2) := by decide +kernel
theorem dX6_type_36 : decode cX6_type 36 = .ok (.ifCond .eq 32, 3) := by decide +kernel
theorem dX6_type_39 : decode cX6_type 39 = .ok (.lload 6, 2) := by decide +kernel
theorem dX6_type_41 : decode cX6_type 41 = .ok (.lconst 0, 1) := by decide +kernel
theorem dX6_type_42 : decode cX6_type 42 = .ok (.lcmp, 1) := by decide +kernel
theorem dX6_type_43 : decode cX6_type 43 = .ok (.ifCond .eq 21, 3) := by decide +kernel
theorem dX6_type_46 : decode cX6_type 46 = .ok (.lload 6, 2) := by decide +kernel
theorem dX6_type_48 : decode cX6_type 48 = .ok (.ldc2_w 70, 3) := by decide +kernel
theorem dX6_type_51 : decode cX6_type 51 = .ok (.lcmp, 1) := by decide +kernel
theorem dX6_type_52 : decode cX6_type 52 = .ok (.ifCond .lt 16, 3) := by decide +kernel
theorem dX6_type_55 : decode cX6_type 55 = .ok (.lload 6, 2) := by decide +kernel
theorem dX6_type_57 : decode cX6_type 57 = .ok (.ldc2_w 72, 3) := by decide +kernel
theorem dX6_type_60 : decode cX6_type 60 = .ok (.lcmp, 1) := by decide +kernel
theorem dX6_type_61 : decode cX6_type 61 = .ok (.ifCond .gt 7, 3) := by decide +kernel
theorem dX6_type_64 : decode cX6_type 64 = .ok (.iconst 1, 1) := by decide +kernel
theorem dX6_type_65 : decode cX6_type 65 = .ok (.goto 4, 3) := by decide +kernel
theorem dX6_type_68 : decode cX6_type 68 = .ok (.iconst 0, 1) := by decide +kernel
theorem dX6_type_69 : decode cX6_type 69 = .ok (.istore 4, 2) := by decide +kernel
theorem dX6_type_71 : decode cX6_type 71 = .ok (.lload 6, 2) := by decide +kernel
theorem dX6_type_73 : decode cX6_type 73 = .ok (.lconst 0, 1) := by decide +kernel
theorem dX6_type_74 : decode cX6_type 74 = .ok (.lcmp, 1) := by decide +kernel
theorem dX6_type_75 : decode cX6_type 75 = .ok (.ifCond .ne 7, 3) := by decide +kernel
theorem dX6_type_78 : decode cX6_type 78 = .ok (.iload_n 3, 1) := by decide +kernel
theorem dX6_type_79 : decode cX6_type 79 = .ok (.goto 6, 3) := by decide +kernel
theorem dX6_type_82 : decode cX6_type 82 = .ok (.iload_n 3, 1) := by decide +kernel
theorem dX6_type_83 : decode cX6_type 83 = .ok (.iconst 1, 1) := by decide +kernel
theorem dX6_type_84 : decode cX6_type 84 = .ok (.iadd, 1) := by decide +kernel
theorem dX6_type_85 : decode cX6_type 85 = .ok (.istore_n 3, 1) := by decide +kernel
theorem dX6_type_86 : decode cX6_type 86 = .ok (.iinc 5 1, 3) := by decide +kernel
theorem dX6_type_89 : decode cX6_type 89 = .ok (.goto (-81), 3) := by decide +kernel
theorem dX6_type_92 : decode cX6_type 92 = .ok (.aload_n 0, 1) := by decide +kernel
theorem dX6_type_93 : decode cX6_type 93 = .ok (.iload 4, 2) := by decide +kernel
theorem dX6_type_95 : decode cX6_type 95 = .ok (.ifCond .ne 7, 3) := by decide +kernel
theorem dX6_type_98 : decode cX6_type 98 = .ok (.iconst 1, 1) := by decide +kernel
theorem dX6_type_99 : decode cX6_type 99 = .ok (.goto 19, 3) := by decide +kernel
theorem dX6_type_102 : decode cX6_type 102 = .ok (.aload_n 0, 1) := by decide +kernel
theorem dX6_type_103 : decode cX6_type 103 = .ok (.getfield 74, 3) := by decide +kernel
theorem dX6_type_106 : decode cX6_type 106 = .ok (.iload_n 3, 1) := by decide +kernel
theorem dX6_type_107 : decode cX6_type 107 = .ok (.iadd, 1) := by decide +kernel
theorem dX6_type_108 : decode cX6_type 108 = .ok (.bipush 100, 2) := by decide +kernel
theorem dX6_type_110 : decode cX6_type 110 = .ok (.if_icmp .le 7, 3) := by decide +kernel
theorem dX6_type_113 : decode cX6_type 113 = .ok (.iconst 2, 1) := by decide +kernel
theorem dX6_type_114 : decode cX6_type 114 = .ok (.goto 4, 3) := by decide +kernel
theorem dX6_type_117 : decode cX6_type 117 = .ok (.iconst 0, 1) := by decide +kernel
theorem dX6_type_118 : decode cX6_type 118 = .ok (.putfield 65, 3) := by decide +kernel
theorem dX6_type_121 : decode cX6_type 121 = .ok (.aload_n 0, 1) := by decide +kernel
theorem dX6_type_122 : decode cX6_type 122 = .ok (.getfield 65, 3) := by decide +kernel
theorem dX6_type_125 : decode cX6_type 125 = .ok (.ifCond .eq 5, 3) := by decide +kernel
theorem dX6_type_128 : decode cX6_type 128 = .ok (.iconst 0, 1) := by decide +kernel
theorem dX6_type_129 : decode cX6_type 129 = .ok (.ireturn, 1) := by decide +kernel
theorem dX6_type_130 : decode cX6_type 130 = .ok (.iconst 0, 1) := by decide +kernel
theorem dX6_type_131 : decode cX6_type 131 = .ok (.istore 5, 2) := by decide +kernel
theorem dX6_type_133 : decode cX6_type 133 = .ok (.iload 5, 2) := by decide +kernel
theorem dX6_type_135 : decode cX6_type 135 = .ok (.iload_n 3, 1) := by decide +kernel
theorem dX6_type_136 : decode cX6_type 136 = .ok (.if_icmp .ge 41, 3) := by decide +kernel
theorem dX6_type_139 : decode cX6_type 139 = .ok (.aload_n 0, 1) := by decide +kernel
theorem dX6_type_140 : decode cX6_type 140 = .ok (.getfield 7, 3) := by decide +kernel
theorem dX6_type_143 : decode cX6_type 143 = .ok (.aload_n 0, 1) := by decide +kernel
theorem dX6_type_144 : decode cX6_type 144 = .ok (.getfield 74, 3) := by decide +kernel
theorem dX6_type_147 : decode cX6_type 147 = .ok (.lload_n 1, 1) := by decide +kernel
theorem dX6_type_148 : decode cX6_type 148 = .ok (.bipush 8, 2) := by decide +kernel
theorem dX6_type_150 : decode cX6_type 150 = .ok (.iload 5, 2) := by decide +kernel
theorem dX6_type_152 : decode cX6_type 152 = .ok (.imul, 1) := by decide +kernel
theorem dX6_type_153 : decode cX6_type 153 = .ok (.lushr, 1) := by decide +kernel
theorem dX6_type_154 : decode cX6_type 154 = .ok (.ldc2_w 68, 3) := by decide +kernel
theorem dX6_type_157 : decode cX6_type 157 = .ok (.land, 1) := by decide +kernel
theorem dX6_type_158 : decode cX6_type 158 = .ok (.l2i, 1) := by decide +kernel
theorem dX6_type_159 : decode cX6_type 159 = .ok (.i2c, 1) := by decide +kernel
theorem dX6_type_160 : decode cX6_type 160 = .ok (.castore, 1) := by decide +kernel
theorem dX6_type_161 : decode cX6_type 161 = .ok (.aload_n 0, 1) := by decide +kernel
theorem dX6_type_162 : decode cX6_type 162 = .ok (.dup, 1) := by decide +kernel
theorem dX6_type_163 : decode cX6_type 163 = .ok (.getfield 74, 3) := by decide +kernel
theorem dX6_type_166 : decode cX6_type 166 = .ok (.iconst 1, 1) := by decide +kernel
theorem dX6_type_167 : decode cX6_type 167 = .ok (.iadd, 1) := by decide +kernel
theorem dX6_type_168 : decode cX6_type 168 = .ok (.putfield 74, 3) := by decide +kernel
theorem dX6_type_171 : decode cX6_type 171 = .ok (.iinc 5 1, 3) := by decide +kernel
theorem dX6_type_174 : decode cX6_type 174 = .ok (.goto (-41), 3) := by decide +kernel
theorem dX6_type_177 : decode cX6_type 177 = .ok (.aload_n 0, 1) := by decide +kernel
theorem dX6_type_178 : decode cX6_type 178 = .ok (.getfield 74, 3) := by decide +kernel
theorem dX6_type_181 : decode cX6_type 181 = .ok (.ireturn, 1) := by decide +kernel
theorem dX6_fail_0 : decode cX6_fail 0 = .ok (.aload_n 0, 1) := by decide +kernel
theorem dX6_fail_1 : decode cX6_fail 1 = .ok (.getfield 77, 3) := by decide +kernel
theorem dX6_fail_4 : decode cX6_fail 4 = .ok (.ifCond .ne 13, 3) := by decide +kernel
theorem dX6_fail_7 : decode cX6_fail 7 = .ok (.aload_n 0, 1) := by decide +kernel
theorem dX6_fail_8 : decode cX6_fail 8 = .ok (.iload_n 1, 1) := by decide +kernel
theorem dX6_fail_9 : decode cX6_fail 9 = .ok (.putfield 77, 3) := by decide +kernel
theorem dX6_fail_12 : decode cX6_fail 12 = .ok (.aload_n 0, 1) := by decide +kernel
theorem dX6_fail_13 : decode cX6_fail 13 = .ok (.iload_n 2, 1) := by decide +kernel
theorem dX6_fail_14 : decode cX6_fail 14 = .ok (.putfield 80, 3) := by decide +kernel
theorem dX6_fail_17 : decode cX6_fail 17 = .ok (.return_, 1) := by decide +kernel
theorem dX6_failIf_0 : decode cX6_failIf 0 = .ok (.iload_n 1, 1) := by decide +kernel
theorem dX6_failIf_1 : decode cX6_failIf 1 = .ok (.ifCond .eq 9, 3) := by decide +kernel
theorem dX6_failIf_4 : decode cX6_failIf 4 = .ok (.aload_n 0, 1) := by decide +kernel
theorem dX6_failIf_5 : decode cX6_failIf 5 = .ok (.iload_n 2, 1) := by decide +kernel
theorem dX6_failIf_6 : decode cX6_failIf 6 = .ok (.iload_n 3, 1) := by decide +kernel
theorem dX6_failIf_7 : decode cX6_failIf 7 = .ok (.invokevirtual 83, 3) := by decide +kernel
theorem dX6_failIf_10 : decode cX6_failIf 10 = .ok (.return_, 1) := by decide +kernel
theorem dX6_charAt_0 : decode cX6_charAt 0 = .ok (.iload_n 1, 1) := by decide +kernel
theorem dX6_charAt_1 : decode cX6_charAt 1 = .ok (.aload_n 0, 1) := by decide +kernel
theorem dX6_charAt_2 : decode cX6_charAt 2 = .ok (.getfield 87, 3) := by decide +kernel
theorem dX6_charAt_5 : decode cX6_charAt 5 = .ok (.if_icmp .ge 12, 3) := by decide +kernel
theorem dX6_charAt_8 : decode cX6_charAt 8 = .ok (.aload_n 0, 1) := by decide +kernel
theorem dX6_charAt_9 : decode cX6_charAt 9 = .ok (.getfield 13, 3) := by decide +kernel
theorem dX6_charAt_12 : decode cX6_charAt 12 = .ok (.iload_n 1, 1) := by decide +kernel
theorem dX6_charAt_13 : decode cX6_charAt 13 = .ok (.caload, 1) := by decide +kernel
theorem dX6_charAt_14 : decode cX6_charAt 14 = .ok (.goto 4, 3) := by decide +kernel
theorem dX6_charAt_17 : decode cX6_charAt 17 = .ok (.iconst 0, 1) := by decide +kernel
theorem dX6_charAt_18 : decode cX6_charAt 18 = .ok (.ireturn, 1) := by decide +kernel
theorem dX6_isDigit_0 : decode cX6_isDigit 0 = .ok (.iload_n 0, 1) := by decide +kernel
theorem dX6_isDigit_1 : decode cX6_isDigit 1 = .ok (.bipush 48, 2) := by decide +kernel
theorem dX6_isDigit_3 : decode cX6_isDigit 3 = .ok (.if_icmp .lt 13, 3) := by decide +kernel
theorem dX6_isDigit_6 : decode cX6_isDigit 6 = .ok (.iload_n 0, 1) := by decide +kernel
theorem dX6_isDigit_7 : decode cX6_isDigit 7 = .ok (.bipush 57, 2) := by decide +kernel
theorem dX6_isDigit_9 : decode cX6_isDigit 9 = .ok (.if_icmp .gt 7, 3) := by decide +kernel
theorem dX6_isDigit_12 : decode cX6_isDigit 12 = .ok (.iconst 1, 1) := by decide +kernel
theorem dX6_isDigit_13 : decode cX6_isDigit 13 = .ok (.goto 4, 3) := by decide +kernel
theorem dX6_isDigit_16 : decode cX6_isDigit 16 = .ok (.iconst 0, 1) := by decide +kernel
theorem dX6_isDigit_17 : decode cX6_isDigit 17 = .ok (.ireturn, 1) := by decide +kernel
theorem dX6_isCapital_0 : decode cX6_isCapital 0 = .ok (.iload_n 0, 1) := by decide +kernel
theorem dX6_isCapital_1 : decode cX6_isCapital 1 = .ok (.bipush 65, 2) := by decide +kernel
theorem dX6_isCapital_3 : decode cX6_isCapital 3 = .ok (.if_icmp .lt 13, 3) := by decide +kernel
theorem dX6_isCapital_6 : decode cX6_isCapital 6 = .ok (.iload_n 0, 1) := by decide +kernel
theorem dX6_isCapital_7 : decode cX6_isCapital 7 = .ok (.bipush 90, 2) := by decide +kernel
theorem dX6_isCapital_9 : decode cX6_isCapital 9 = .ok (.if_icmp .gt 7, 3) := by decide +kernel
theorem dX6_isCapital_12 : decode cX6_isCapital 12 = .ok (.iconst 1, 1) := by decide +kernel
theorem dX6_isCapital_13 : decode cX6_isCapital 13 = .ok (.goto 4, 3) := by decide +kernel
theorem dX6_isCapital_16 : decode cX6_isCapital 16 = .ok (.iconst 0, 1) := by decide +kernel
theorem dX6_isCapital_17 : decode cX6_isCapital 17 = .ok (.ireturn, 1) := by decide +kernel
theorem dX6_skip_0 : decode cX6_skip 0 = .ok (.aload_n 0, 1) := by decide +kernel
theorem dX6_skip_1 : decode cX6_skip 1 = .ok (.aload_n 0, 1) := by decide +kernel
theorem dX6_skip_2 : decode cX6_skip 2 = .ok (.getfield 90, 3) := by decide +kernel
theorem dX6_skip_5 : decode cX6_skip 5 = .ok (.invokevirtual 93, 3) := by decide +kernel
theorem dX6_skip_8 : decode cX6_skip 8 = .ok (.bipush 32, 2) := by decide +kernel
theorem dX6_skip_10 : decode cX6_skip 10 = .ok (.if_icmp .ne 16, 3) := by decide +kernel
theorem dX6_skip_13 : decode cX6_skip 13 = .ok (.aload_n 0, 1) := by decide +kernel
theorem dX6_skip_14 : decode cX6_skip 14 = .ok (.dup, 1) := by decide +kernel
theorem dX6_skip_15 : decode cX6_skip 15 = .ok (.getfield 90, 3) := by decide +kernel
theorem dX6_skip_18 : decode cX6_skip 18 = .ok (.iconst 1, 1) := by decide +kernel
theorem dX6_skip_19 : decode cX6_skip 19 = .ok (.iadd, 1) := by decide +kernel
theorem dX6_skip_20 : decode cX6_skip 20 = .ok (.putfield 90, 3) := by decide +kernel
theorem dX6_skip_23 : decode cX6_skip 23 = .ok (.goto (-23), 3) := by decide +kernel
theorem dX6_skip_26 : decode cX6_skip 26 = .ok (.return_, 1) := by decide +kernel
theorem dX6_number0_0 : decode cX6_number0 0 = .ok (.aload_n 0, 1) := by decide +kernel
theorem dX6_number0_1 : decode cX6_number0 1 = .ok (.getfield 90, 3) := by decide +kernel
theorem dX6_number0_4 : decode cX6_number0 4 = .ok (.istore_n 1, 1) := by decide +kernel
theorem dX6_number0_5 : decode cX6_number0 5 = .ok (.aload_n 0, 1) := by decide +kernel
theorem dX6_number0_6 : decode cX6_number0 6 = .ok (.aload_n 0, 1) := by decide +kernel
theorem dX6_number0_7 : decode cX6_number0 7 = .ok (.getfield 90, 3) := by decide +kernel
theorem dX6_number0_10 : decode cX6_number0 10 = .ok (.invokevirtual 93, 3) := by decide +kernel
theorem dX6_number0_13 : decode cX6_number0 13 = .ok (.invokestatic 97, 3) := by decide +kernel
theorem dX6_number0_16 : decode cX6_number0 16 = .ok (.ifCond .eq 16, 3) := by decide +kernel
theorem dX6_number0_19 : decode cX6_number0 19 = .ok (.aload_n 0, 1) := by decide +kernel
theorem dX6_number0_20 : decode cX6_number0 20 = .ok (.dup, 1) := by decide +kernel
theorem dX6_number0_21 : decode cX6_number0 21 = .ok (.getfield 90, 3) := by decide +kernel
theorem dX6_number0_24 : decode cX6_number0 24 = .ok (.iconst 1, 1) := by decide +kernel
theorem dX6_number0_25 : decode cX6_number0 25 = .ok (.iadd, 1) := by decide +kernel
theorem dX6_number0_26 : decode cX6_number0 26 = .ok (.putfield 90, 3) := by decide +kernel
theorem dX6_number0_29 : decode cX6_number0 29 = .ok (.goto (-24), 3) := by decide +kernel
theorem dX6_number0_32 : decode cX6_number0 32 = .ok (.aload_n 0, 1) := by decide +kernel
theorem dX6_number0_33 : decode cX6_number0 33 = .ok (.getfield 90, 3) := by decide +kernel
theorem dX6_number0_36 : decode cX6_number0 36 = .ok (.iload_n 1, 1) := by decide +kernel
theorem dX6_number0_37 : decode cX6_number0 37 = .ok (.isub, 1) := by decide +kernel
theorem dX6_number0_38 : decode cX6_number0 38 = .ok (.istore_n 2, 1) := by decide +kernel
theorem dX6_number0_39 : decode cX6_number0 39 = .ok (.aload_n 0, 1) := by decide +kernel
theorem dX6_number0_40 : decode cX6_number0 40 = .ok (.iload_n 2, 1) := by decide +kernel
theorem dX6_number0_41 : decode cX6_number0 41 = .ok (.iconst 2, 1) := by decide +kernel
theorem dX6_number0_42 : decode cX6_number0 42 = .ok (.if_icmp .gt 18, 3) := by decide +kernel
theorem dX6_number0_45 : decode cX6_number0 45 = .ok (.iload_n 2, 1) := by decide +kernel
theorem dX6_number0_46 : decode cX6_number0 46 = .ok (.ifCond .le 18, 3) := by decide +kernel
theorem dX6_number0_49 : decode cX6_number0 49 = .ok (.aload_n 0, 1) := by decide +kernel
theorem dX6_number0_50 : decode cX6_number0 50 = .ok (.getfield 13, 3) := by decide +kernel
theorem dX6_number0_53 : decode cX6_number0 53 = .ok (.iload_n 1, 1) := by decide +kernel
theorem dX6_number0_54 : decode cX6_number0 54 = .ok (.caload, 1) := by decide +kernel
theorem dX6_number0_55 : decode cX6_number0 55 = .ok (.bipush 48, 2) := by decide +kernel
theorem dX6_number0_57 : decode cX6_number0 57 = .ok (.if_icmp .ne 7, 3) := by decide +kernel
theorem dX6_number0_60 : decode cX6_number0 60 = .ok (.iconst 1, 1) := by decide +kernel
theorem dX6_number0_61 : decode cX6_number0 61 = .ok (.goto 4, 3) := by decide +kernel
theorem dX6_number0_64 : decode cX6_number0 64 = .ok (.iconst 0, 1) := by decide +kernel
theorem dX6_number0_65 : decode cX6_number0 65 = .ok (.bipush (-3), 2) := by decide +kernel
theorem dX6_number0_67 : decode cX6_number0 67 = .ok (.iload_n 1, 1) := by decide +kernel
theorem dX6_number0_68 : decode cX6_number0 68 = .ok (.invokevirtual 101, 3) := by decide +kernel
theorem dX6_number0_71 : decode cX6_number0 71 = .ok (.iload_n 2, 1) := by decide +kernel
theorem dX6_number0_72 : decode cX6_number0 72 = .ok (.iconst 1, 1) := by decide +kernel
theorem dX6_number0_73 : decode cX6_number0 73 = .ok (.if_icmp .ne 16, 3) := by decide +kernel
theorem dX6_number0_76 : decode cX6_number0 76 = .ok (.aload_n 0, 1) := by decide +kernel
theorem dX6_number0_77 : decode cX6_number0 77 = .ok (.getfield 13, 3) := by decide +kernel
theorem dX6_number0_80 : decode cX6_number0 80 = .ok (.iload_n 1, 1) := by decide +kernel
theorem dX6_number0_81 : decode cX6_number0 81 = .ok (.caload, 1) := by decide +kernel
theorem dX6_number0_82 : decode cX6_number0 82 = .ok (.bipush 48, 2) := by decide +kernel
theorem dX6_number0_84 : decode cX6_number0 84 = .ok (.isub, 1) := by decide +kernel
theorem dX6_number0_85 : decode cX6_number0 85 = .ok (.i2l, 1) := by decide +kernel
theorem dX6_number0_86 : decode cX6_number0 86 = .ok (.goto 37, 3) := by decide +kernel
theorem dX6_number0_89 : decode cX6_number0 89 = .ok (.iload_n 2, 1) := by decide +kernel
theorem dX6_number0_90 : decode cX6_number0 90 = .ok (.iconst 2, 1) := by decide +kernel
theorem dX6_number0_91 : decode cX6_number0 91 = .ok (.if_icmp .ne 31, 3) := by decide +kernel
theorem dX6_number0_94 : decode cX6_number0 94 = .ok (.bipush 10, 2) := by decide +kernel
theorem dX6_number0_96 : decode cX6_number0 96 = .ok (.aload_n 0, 1) := by decide +kernel
theorem dX6_number0_97 : decode cX6_number0 97 = .ok (.getfield 13, 3) := by decide +kernel
theorem dX6_number0_100 : decode cX6_number0 100 = .ok (.iload_n 1, 1) := by decide +kernel
theorem dX6_number0_101 : decode cX6_number0 101 = .ok (.caload, 1) := by decide +kernel
theorem dX6_number0_102 : decode cX6_number0 102 = .ok (.bipush 48, 2) := by decide +kernel
theorem dX6_number0_104 : decode cX6_number0 104 = .ok (.isub, 1) := by decide +kernel
theorem dX6_number0_105 : decode cX6_number0 105 = .ok (.imul, 1) := by decide +kernel
theorem dX6_number0_106 : decode cX6_number0 106 = .ok (.aload_n 0, 1) := by decide +kernel
theorem dX6_number0_107 : decode cX6_number0 107 = .ok (.getfield 13, 3) := by decide +kernel
theorem dX6_number0_110 : decode cX6_number0 110 = .ok (.iload_n 1, 1) := by decide +kernel
theorem dX6_number0_111 : decode cX6_number0 111 = .ok (.iconst 1, 1) := by decide +kernel
theorem dX6_number0_112 : decode cX6_number0 112 = .ok (.iadd, 1) := by decide +kernel
theorem dX6_number0_113 : decode cX6_number0 113 = .ok (.caload, 1) := by decide +kernel
theorem dX6_number0_114 : decode cX6_number0 114 = .ok (.iadd, 1) := by decide +kernel
theorem dX6_number0_115 : decode cX6_number0 115 = .ok (.bipush 48, 2) := by decide +kernel
theorem dX6_number0_117 : decode cX6_number0 117 = .ok (.isub, 1) := by decide +kernel
theorem dX6_number0_118 : decode cX6_number0 118 = .ok (.i2l, 1) := by decide +kernel
theorem dX6_number0_119 : decode cX6_number0 119 = .ok (.goto 4, 3) := by decide +kernel
theorem dX6_number0_122 : decode cX6_number0 122 = .ok (.lconst 1, 1) := by decide +kernel
theorem dX6_number0_123 : decode cX6_number0 123 = .ok (.lreturn, 1) := by decide +kernel
theorem dX6_noteCharge_0 : decode cX6_noteCharge 0 = .ok (.aload_n 0, 1) := by decide +kernel
theorem dX6_noteCharge_1 : decode cX6_noteCharge 1 = .ok (.aload_n 0, 1) := by decide +kernel
theorem dX6_noteCharge_2 : decode cX6_noteCharge 2 = .ok (.getfield 105, 3) := by decide +kernel
theorem dX6_noteCharge_5 : decode cX6_noteCharge 5 = .ok (.ifCond .ne 15, 3) := by decide +kernel
theorem dX6_noteCharge_8 : decode cX6_noteCharge 8 = .ok (.aload_n 0, 1) := by decide +kernel
theorem dX6_noteCharge_9 : decode cX6_noteCharge 9 = .ok (.getfield 109, 3) := by decide +kernel
theorem dX6_noteCharge_12 : decode cX6_noteCharge 12 = .ok (.iconst 5, 1) := by decide +kernel
theorem dX6_noteCharge_13 : decode cX6_noteCharge 13 = .ok (.if_icmp .ne 7, 3) := by decide +kernel
theorem dX6_noteCharge_16 : decode cX6_noteCharge 16 = .ok (.iconst 1, 1) := by decide +kernel
theorem dX6_noteCharge_17 : decode cX6_noteCharge 17 = .ok (.goto 4, 3) := by decide +kernel
theorem dX6_noteCharge_20 : decode cX6_noteCharge 20 = .ok (.iconst 0, 1) := by decide +kernel
theorem dX6_noteCharge_21 : decode cX6_noteCharge 21 = .ok (.bipush (-5), 2) := by decide +kernel
theorem dX6_noteCharge_23 : decode cX6_noteCharge 23 = .ok (.iload_n 1, 1) := by decide +kernel
theorem dX6_noteCharge_24 : decode cX6_noteCharge 24 = .ok (.invokevirtual 101, 3) := by decide +kernel
theorem dX6_noteCharge_27 : decode cX6_noteCharge 27 = .ok (.aload_n 0, 1) := by decide +kernel
theorem dX6_noteCharge_28 : decode cX6_noteCharge 28 = .ok (.iconst 1, 1) := by decide +kernel
theorem dX6_noteCharge_29 : decode cX6_noteCharge 29 = .ok (.putfield 105, 3) := by decide +kernel
theorem dX6_noteCharge_32 : decode cX6_noteCharge 32 = .ok (.return_, 1) := by decide +kernel
theorem dX6_element_0 : decode cX6_element 0 = .ok (.aload_n 0, 1) := by decide +kernel
theorem dX6_element_1 : decode cX6_element 1 = .ok (.getfield 90, 3) := by decide +kernel
theorem dX6_element_4 : decode cX6_element 4 = .ok (.istore_n 1, 1) := by decide +kernel
theorem dX6_element_5 : decode cX6_element 5 = .ok (.aload_n 0, 1) := by decide +kernel
theorem dX6_element_6 : decode cX6_element 6 = .ok (.getfield 13, 3) := by decide +kernel
theorem dX6_element_9 : decode cX6_element 9 = .ok (.aload_n 0, 1) := by decide +kernel
theorem dX6_element_10 : decode cX6_element 10 = .ok (.getfield 90, 3) := by decide +kernel
theorem dX6_element_13 : decode cX6_element 13 = .ok (.caload, 1) := by decide +kernel
theorem dX6_element_14 : decode cX6_element 14 = .ok (.istore_n 2, 1) := by decide +kernel
theorem dX6_element_15 : decode cX6_element 15 = .ok (.aload_n 0, 1) := by decide +kernel
theorem dX6_element_16 : decode cX6_element 16 = .ok (.dup, 1) := by decide +kernel
theorem dX6_element_17 : decode cX6_element 17 = .ok (.getfield 90, 3) := by decide +kernel
theorem dX6_element_20 : decode cX6_element 20 = .ok (.iconst 1, 1) := by decide +kernel
theorem dX6_element_21 : decode cX6_element 21 = .ok (.iadd, 1) := by decide +kernel
theorem dX6_element_22 : decode cX6_element 22 = .ok (.putfield 90, 3) := by decide +kernel
theorem dX6_element_25 : decode cX6_element 25 = .ok (.aload_n 0, 1) := by decide +kernel
theorem dX6_element_26 : decode cX6_element 26 = .ok (.aload_n 0, 1) := by decide +kernel
theorem dX6_element_27 : decode cX6_element 27 = .ok (.getfield 90, 3) := by decide +kernel
theorem dX6_element_30 : decode cX6_element 30 = .ok (.invokevirtual 93, 3) := by decide +kernel
theorem dX6_element_33 : decode cX6_element 33 = .ok (.istore_n 3, 1) := by decide +kernel
theorem dX6_element_34 : decode cX6_element 34 = .ok (.iload_n 3, 1) := by decide +kernel
theorem dX6_element_35 : decode cX6_element 35 = .ok (.bipush 97, 2) := by decide +kernel
theorem dX6_element_37 : decode cX6_element 37 = .ok (.if_icmp .lt 27, 3) := by decide +kernel
theorem dX6_element_40 : decode cX6_element 40 = .ok (.iload_n 3, 1) := by decide +kernel
theorem dX6_element_41 : decode cX6_element 41 = .ok (.bipush 122, 2) := by decide +kernel
theorem dX6_element_43 : decode cX6_element 43 = .ok (.if_icmp .gt 21, 3) := by decide +kernel
theorem dX6_element_46 : decode cX6_element 46 = .ok (.iload_n 2, 1) := by decide +kernel
theorem dX6_element_47 : decode cX6_element 47 = .ok (.sipush 256, 3) := by decide +kernel
theorem dX6_element_50 : decode cX6_element 50 = .ok (.iload_n 3, 1) := by decide +kernel
theorem dX6_element_51 : decode cX6_element 51 = .ok (.imul, 1) := by decide +kernel
theorem dX6_element_52 : decode cX6_element 52 = .ok (.iadd, 1) := by decide +kernel
theorem dX6_element_53 : decode cX6_element 53 = .ok (.istore_n 2, 1) := by decide +kernel
theorem dX6_element_54 : decode cX6_element 54 = .ok (.aload_n 0, 1) := by decide +kernel
theorem dX6_element_55 : decode cX6_element 55 = .ok (.dup, 1) := by decide +kernel
theorem dX6_element_56 : decode cX6_element 56 = .ok (.getfield 90, 3) := by decide +kernel
theorem dX6_element_59 : decode cX6_element 59 = .ok (.iconst 1, 1) := by decide +kernel
theorem dX6_element_60 : decode cX6_element 60 = .ok (.iadd, 1) := by decide +kernel
theorem dX6_element_61 : decode cX6_element 61 = .ok (.putfield 90, 3) := by decide +kernel
theorem dX6_element_64 : decode cX6_element 64 = .ok (.iconst 0, 1) := by decide +kernel
theorem dX6_element_65 : decode cX6_element 65 = .ok (.istore 4, 2) := by decide +kernel
theorem dX6_element_67 : decode cX6_element 67 = .ok (.iload 4, 2) := by decide +kernel
theorem dX6_element_69 : decode cX6_element 69 = .ok (.aload_n 0, 1) := by decide +kernel
theorem dX6_element_70 : decode cX6_element 70 = .ok (.getfield 109, 3) := by decide +kernel
theorem dX6_element_73 : decode cX6_element 73 = .ok (.if_icmp .ge 23, 3) := by decide +kernel
theorem dX6_element_76 : decode cX6_element 76 = .ok (.aload_n 0, 1) := by decide +kernel
theorem dX6_element_77 : decode cX6_element 77 = .ok (.getfield 38, 3) := by decide +kernel
theorem dX6_element_80 : decode cX6_element 80 = .ok (.iload 4, 2) := by decide +kernel
theorem dX6_element_82 : decode cX6_element 82 = .ok (.iaload, 1) := by decide +kernel
theorem dX6_element_83 : decode cX6_element 83 = .ok (.iload_n 2, 1) := by decide +kernel
theorem dX6_element_84 : decode cX6_element 84 = .ok (.if_icmp .ne 6, 3) := by decide +kernel
theorem dX6_element_87 : decode cX6_element 87 = .ok (.iload 4, 2) := by decide +kernel
theorem dX6_element_89 : decode cX6_element 89 = .ok (.ireturn, 1) := by decide +kernel
theorem dX6_element_90 : decode cX6_element 90 = .ok (.iinc 4 1, 3) := by decide +kernel
theorem dX6_element_93 : decode cX6_element 93 = .ok (.goto (-26), 3) := by decide +kernel
theorem dX6_element_96 : decode cX6_element 96 = .ok (.aload_n 0, 1) := by decide +kernel
theorem dX6_element_97 : decode cX6_element 97 = .ok (.aload_n 0, 1) := by decide +kernel
theorem dX6_element_98 : decode cX6_element 98 = .ok (.getfield 109, 3) := by decide +kernel
theorem dX6_element_101 : decode cX6_element 101 = .ok (.aload_n 0, 1) := by decide +kernel
theorem dX6_element_102 : decode cX6_element 102 = .ok (.getfield 105, 3) := by decide +kernel
theorem dX6_element_105 : decode cX6_element 105 = .ok (.ifCond .eq 7, 3) := by decide +kernel
theorem dX6_element_108 : decode cX6_element 108 = .ok (.iconst 1, 1) := by decide +kernel
theorem dX6_element_109 : decode cX6_element 109 = .ok (.goto 4, 3) := by decide +kernel
theorem dX6_element_112 : decode cX6_element 112 = .ok (.iconst 0, 1) := by decide +kernel
theorem dX6_element_113 : decode cX6_element 113 = .ok (.iadd, 1) := by decide +kernel
theorem dX6_element_114 : decode cX6_element 114 = .ok (.iconst 5, 1) := by decide +kernel
theorem dX6_element_115 : decode cX6_element 115 = .ok (.if_icmp .ne 7, 3) := by decide +kernel
theorem dX6_element_118 : decode cX6_element 118 = .ok (.iconst 1, 1) := by decide +kernel
theorem dX6_element_119 : decode cX6_element 119 = .ok (.goto 4, 3) := by decide +kernel
theorem dX6_element_122 : decode cX6_element 122 = .ok (.iconst 0, 1) := by decide +kernel
theorem dX6_element_123 : decode cX6_element 123 = .ok (.bipush (-5), 2) := by decide +kernel
theorem dX6_element_125 : decode cX6_element 125 = .ok (.iload_n 1, 1) := by decide +kernel
theorem dX6_element_126 : decode cX6_element 126 = .ok (.invokevirtual 101, 3) := by decide +kernel
theorem dX6_element_129 : decode cX6_element 129 = .ok (.aload_n 0, 1) := by decide +kernel
theorem dX6_element_130 : decode cX6_element 130 = .ok (.getfield 77, 3) := by decide +kernel
theorem dX6_element_133 : decode cX6_element 133 = .ok (.ifCond .eq 5, 3) := by decide +kernel
theorem dX6_element_136 : decode cX6_element 136 = .ok (.iconst 0, 1) := by decide +kernel
theorem dX6_element_137 : decode cX6_element 137 = .ok (.ireturn, 1) := by decide +kernel
theorem dX6_element_138 : decode cX6_element 138 = .ok (.aload_n 0, 1) := by decide +kernel
theorem dX6_element_139 : decode cX6_element 139 = .ok (.getfield 38, 3) := by decide +kernel
theorem dX6_element_142 : decode cX6_element 142 = .ok (.aload_n 0, 1) := by decide +kernel
theorem dX6_element_143 : decode cX6_element 143 = .ok (.getfield 109, 3) := by decide +kernel
theorem dX6_element_146 : decode cX6_element 146 = .ok (.iload_n 2, 1) := by decide +kernel
theorem dX6_element_147 : decode cX6_element 147 = .ok (.iastore, 1) := by decide +kernel
theorem dX6_element_148 : decode cX6_element 148 = .ok (.aload_n 0, 1) := by decide +kernel
theorem dX6_element_149 : decode cX6_element 149 = .ok (.dup, 1) := by decide +kernel
theorem dX6_element_150 : decode cX6_element 150 = .ok (.getfield 109, 3) := by decide +kernel
theorem dX6_element_153 : decode cX6_element 153 = .ok (.iconst 1, 1) := by decide +kernel
theorem dX6_element_154 : decode cX6_element 154 = .ok (.iadd, 1) := by decide +kernel
theorem dX6_element_155 : decode cX6_element 155 = .ok (.putfield 109, 3) := by decide +kernel
theorem dX6_element_158 : decode cX6_element 158 = .ok (.aload_n 0, 1) := by decide +kernel
theorem dX6_element_159 : decode cX6_element 159 = .ok (.getfield 109, 3) := by decide +kernel
theorem dX6_element_162 : decode cX6_element 162 = .ok (.iconst 1, 1) := by decide +kernel
theorem dX6_element_163 : decode cX6_element 163 = .ok (.isub, 1) := by decide +kernel
theorem dX6_element_164 : decode cX6_element 164 = .ok (.ireturn, 1) := by decide +kernel
theorem dX6_clearSums_0 : decode cX6_clearSums 0 = .ok (.iconst 0, 1) := by decide +kernel
theorem dX6_clearSums_1 : decode cX6_clearSums 1 = .ok (.istore_n 1, 1) := by decide +kernel
theorem dX6_clearSums_2 : decode cX6_clearSums 2 = .ok (.iload_n 1, 1) := by decide +kernel
theorem dX6_clearSums_3 : decode cX6_clearSums 3 = .ok (.iconst 5, 1) := by decide +kernel
theorem dX6_clearSums_4 : decode cX6_clearSums 4 = .ok (.if_icmp .ge 23, 3) := by decide +kernel
theorem dX6_clearSums_7 : decode cX6_clearSums 7 = .ok (.aload_n 0, 1) := by decide +kernel
theorem dX6_clearSums_8 : decode cX6_clearSums 8 = .ok (.getfield 41, 3) := by decide +kernel
theorem dX6_clearSums_11 : decode cX6_clearSums 11 = .ok (.iconst 5, 1) := by decide +kernel
theorem dX6_clearSums_12 : decode cX6_clearSums 12 = .ok (.aload_n 0, 1) := by decide +kernel
theorem dX6_clearSums_13 : decode cX6_clearSums 13 = .ok (.getfield 112, 3) := by decide +kernel
theorem dX6_clearSums_16 : decode cX6_clearSums 16 = .ok (.imul, 1) := by decide +kernel
theorem dX6_clearSums_17 : decode cX6_clearSums 17 = .ok (.iload_n 1, 1) := by decide +kernel
theorem dX6_clearSums_18 : decode cX6_clearSums 18 = .ok (.iadd, 1) := by decide +kernel
theorem dX6_clearSums_19 : decode cX6_clearSums 19 = .ok (.lconst 0, 1) := by decide +kernel
theorem dX6_clearSums_20 : decode cX6_clearSums 20 = .ok (.lastore, 1) := by decide +kernel
theorem dX6_clearSums_21 : decode cX6_clearSums 21 = .ok (.iinc 1 1, 3) := by decide +kernel
theorem dX6_clearSums_24 : decode cX6_clearSums 24 = .ok (.goto (-22), 3) := by decide +kernel
theorem dX6_clearSums_27 : decode cX6_clearSums 27 = .ok (.return_, 1) := by decide +kernel
theorem dX6_readStep_0 : decode cX6_readStep 0 = .ok (.aload_n 0, 1) := by decide +kernel
theorem dX6_readStep_1 : decode cX6_readStep 1 = .ok (.aload_n 0, 1) := by decide +kernel
theorem dX6_readStep_2 : decode cX6_readStep 2 = .ok (.getfield 90, 3) := by decide +kernel
theorem dX6_readStep_5 : decode cX6_readStep 5 = .ok (.invokevirtual 93, 3) := by decide +kernel
theorem dX6_readStep_8 : decode cX6_readStep 8 = .ok (.istore_n 2, 1) := by decide +kernel
theorem dX6_readStep_9 : decode cX6_readStep 9 = .ok (.iload_n 2, 1) := by decide +kernel
theorem dX6_readStep_10 : decode cX6_readStep 10 = .ok (.bipush 40, 2) := by decide +kernel
theorem dX6_readStep_12 : decode cX6_readStep 12 = .ok (.if_icmp .eq 9, 3) := by decide +kernel
theorem dX6_readStep_15 : decode cX6_readStep 15 = .ok (.iload_n 2, 1) := by decide +kernel
theorem dX6_readStep_16 : decode cX6_readStep 16 = .ok (.bipush 91, 2) := by decide +kernel
theorem dX6_readStep_18 : decode cX6_readStep 18 = .ok (.if_icmp .ne 81, 3) := by decide +kernel
theorem dX6_readStep_21 : decode cX6_readStep 21 = .ok (.aload_n 0, 1) := by decide +kernel
theorem dX6_readStep_22 : decode cX6_readStep 22 = .ok (.aload_n 0, 1) := by decide +kernel
theorem dX6_readStep_23 : decode cX6_readStep 23 = .ok (.getfield 112, 3) := by decide +kernel
theorem dX6_readStep_26 : decode cX6_readStep 26 = .ok (.iconst 3, 1) := by decide +kernel
theorem dX6_readStep_27 : decode cX6_readStep 27 = .ok (.if_icmp .ne 7, 3) := by decide +kernel
theorem dX6_readStep_30 : decode cX6_readStep 30 = .ok (.iconst 1, 1) := by decide +kernel
theorem dX6_readStep_31 : decode cX6_readStep 31 = .ok (.goto 4, 3) := by decide +kernel
theorem dX6_readStep_34 : decode cX6_readStep 34 = .ok (.iconst 0, 1) := by decide +kernel
theorem dX6_readStep_35 : decode cX6_readStep 35 = .ok (.bipush (-4), 2) := by decide +kernel
theorem dX6_readStep_37 : decode cX6_readStep 37 = .ok (.aload_n 0, 1) := by decide +kernel
theorem dX6_readStep_38 : decode cX6_readStep 38 = .ok (.getfield 90, 3) := by decide +kernel
theorem dX6_readStep_41 : decode cX6_readStep 41 = .ok (.invokevirtual 101, 3) := by decide +kernel
theorem dX6_readStep_44 : decode cX6_readStep 44 = .ok (.aload_n 0, 1) := by decide +kernel
theorem dX6_readStep_45 : decode cX6_readStep 45 = .ok (.getfield 77, 3) := by decide +kernel
theorem dX6_readStep_48 : decode cX6_readStep 48 = .ok (.ifCond .ne 49, 3) := by decide +kernel
theorem dX6_readStep_51 : decode cX6_readStep 51 = .ok (.aload_n 0, 1) := by decide +kernel
theorem dX6_readStep_52 : decode cX6_readStep 52 = .ok (.dup, 1) := by decide +kernel
theorem dX6_readStep_53 : decode cX6_readStep 53 = .ok (.getfield 112, 3) := by decide +kernel
theorem dX6_readStep_56 : decode cX6_readStep 56 = .ok (.iconst 1, 1) := by decide +kernel
theorem dX6_readStep_57 : decode cX6_readStep 57 = .ok (.iadd, 1) := by decide +kernel
theorem dX6_readStep_58 : decode cX6_readStep 58 = .ok (.putfield 112, 3) := by decide +kernel
theorem dX6_readStep_61 : decode cX6_readStep 61 = .ok (.aload_n 0, 1) := by decide +kernel
theorem dX6_readStep_62 : decode cX6_readStep 62 = .ok (.getfield 44, 3) := by decide +kernel
theorem dX6_readStep_65 : decode cX6_readStep 65 = .ok (.aload_n 0, 1) := by decide +kernel
theorem dX6_readStep_66 : decode cX6_readStep 66 = .ok (.getfield 112, 3) := by decide +kernel
theorem dX6_readStep_69 : decode cX6_readStep 69 = .ok (.iload_n 2, 1) := by decide +kernel
theorem dX6_readStep_70 : decode cX6_readStep 70 = .ok (.bipush 40, 2) := by decide +kernel
theorem dX6_readStep_72 : decode cX6_readStep 72 = .ok (.if_icmp .ne 8, 3) := by decide +kernel
theorem dX6_readStep_75 : decode cX6_readStep 75 = .ok (.bipush 41, 2) := by decide +kernel
theorem dX6_readStep_77 : decode cX6_readStep 77 = .ok (.goto 5, 3) := by decide +kernel
theorem dX6_readStep_80 : decode cX6_readStep 80 = .ok (.bipush 93, 2) := by decide +kernel
theorem dX6_readStep_82 : decode cX6_readStep 82 = .ok (.castore, 1) := by decide +kernel
theorem dX6_readStep_83 : decode cX6_readStep 83 = .ok (.aload_n 0, 1) := by decide +kernel
theorem dX6_readStep_84 : decode cX6_readStep 84 = .ok (.invokevirtual 115, 3) := by decide +kernel
theorem dX6_readStep_87 : decode cX6_readStep 87 = .ok (.aload_n 0, 1) := by decide +kernel
theorem dX6_readStep_88 : decode cX6_readStep 88 = .ok (.dup, 1) := by decide +kernel
theorem dX6_readStep_89 : decode cX6_readStep 89 = .ok (.getfield 90, 3) := by decide +kernel
theorem dX6_readStep_92 : decode cX6_readStep 92 = .ok (.iconst 1, 1) := by decide +kernel
theorem dX6_readStep_93 : decode cX6_readStep 93 = .ok (.iadd, 1) := by decide +kernel
theorem dX6_readStep_94 : decode cX6_readStep 94 = .ok (.putfield 90, 3) := by decide +kernel
theorem dX6_readStep_97 : decode cX6_readStep 97 = .ok (.iconst 1, 1) := by decide +kernel
theorem dX6_readStep_98 : decode cX6_readStep 98 = .ok (.ireturn, 1) := by decide +kernel
theorem dX6_readStep_99 : decode cX6_readStep 99 = .ok (.iload_n 2, 1) := by decide +kernel
theorem dX6_readStep_100 : decode cX6_readStep 100 = .ok (.invokestatic 118, 3) := by decide +kernel
theorem dX6_readStep_103 : decode cX6_readStep 103 = .ok (.ifCond .eq 45, 3) := by decide +kernel
theorem dX6_readStep_106 : decode cX6_readStep 106 = .ok (.aload_n 0, 1) := by decide +kernel
theorem dX6_readStep_107 : decode cX6_readStep 107 = .ok (.invokevirtual 121, 3) := by decide +kernel
theorem dX6_readStep_110 : decode cX6_readStep 110 = .ok (.istore_n 3, 1) := by decide +kernel
theorem dX6_readStep_111 : decode cX6_readStep 111 = .ok (.aload_n 0, 1) := by decide +kernel
theorem dX6_readStep_112 : decode cX6_readStep 112 = .ok (.getfield 77, 3) := by decide +kernel
theorem dX6_readStep_115 : decode cX6_readStep 115 = .ok (.ifCond .ne 10, 3) := by decide +kernel
theorem dX6_readStep_118 : decode cX6_readStep 118 = .ok (.aload_n 0, 1) := by decide +kernel
theorem dX6_readStep_119 : decode cX6_readStep 119 = .ok (.invokevirtual 125, 3) := by decide +kernel
theorem dX6_readStep_122 : decode cX6_readStep 122 = .ok (.goto 4, 3) := by decide +kernel
theorem dX6_readStep_125 : decode cX6_readStep 125 = .ok (.lconst 0, 1) := by decide +kernel
theorem dX6_readStep_126 : decode cX6_readStep 126 = .ok (.lstore 4, 2) := by decide +kernel
theorem dX6_readStep_128 : decode cX6_readStep 128 = .ok (.aload_n 0, 1) := by decide +kernel
theorem dX6_readStep_129 : decode cX6_readStep 129 = .ok (.getfield 41, 3) := by decide +kernel
theorem dX6_readStep_132 : decode cX6_readStep 132 = .ok (.iconst 5, 1) := by decide +kernel
theorem dX6_readStep_133 : decode cX6_readStep 133 = .ok (.aload_n 0, 1) := by decide +kernel
theorem dX6_readStep_134 : decode cX6_readStep 134 = .ok (.getfield 112, 3) := by decide +kernel
theorem dX6_readStep_137 : decode cX6_readStep 137 = .ok (.imul, 1) := by decide +kernel
theorem dX6_readStep_138 : decode cX6_readStep 138 = .ok (.iload_n 3, 1) := by decide +kernel
theorem dX6_readStep_139 : decode cX6_readStep 139 = .ok (.iadd, 1) := by decide +kernel
theorem dX6_readStep_140 : decode cX6_readStep 140 = .ok (.dup2, 1) := by decide +kernel
theorem dX6_readStep_141 : decode cX6_readStep 141 = .ok (.laload, 1) := by decide +kernel
theorem dX6_readStep_142 : decode cX6_readStep 142 = .ok (.lload 4, 2) := by decide +kernel
theorem dX6_readStep_144 : decode cX6_readStep 144 = .ok (.ladd, 1) := by decide +kernel
theorem dX6_readStep_145 : decode cX6_readStep 145 = .ok (.lastore, 1) := by decide +kernel
theorem dX6_readStep_146 : decode cX6_readStep 146 = .ok (.iconst 1, 1) := by decide +kernel
theorem dX6_readStep_147 : decode cX6_readStep 147 = .ok (.ireturn, 1) := by decide +kernel
theorem dX6_readStep_148 : decode cX6_readStep 148 = .ok (.iload_n 1, 1) := by decide +kernel
theorem dX6_readStep_149 : decode cX6_readStep 149 = .ok (.ifCond .ne 100, 3) := by decide +kernel
theorem dX6_readStep_152 : decode cX6_readStep 152 = .ok (.aload_n 0, 1) := by decide +kernel
theorem dX6_readStep_153 : decode cX6_readStep 153 = .ok (.getfield 112, 3) := by decide +kernel
theorem dX6_readStep_156 : decode cX6_readStep 156 = .ok (.ifCond .le 93, 3) := by decide +kernel
theorem dX6_readStep_159 : decode cX6_readStep 159 = .ok (.iload_n 2, 1) := by decide +kernel
theorem dX6_readStep_160 : decode cX6_readStep 160 = .ok (.aload_n 0, 1) := by decide +kernel
theorem dX6_readStep_161 : decode cX6_readStep 161 = .ok (.getfield 44, 3) := by decide +kernel
theorem dX6_readStep_164 : decode cX6_readStep 164 = .ok (.aload_n 0, 1) := by decide +kernel
theorem dX6_readStep_165 : decode cX6_readStep 165 = .ok (.getfield 112, 3) := by decide +kernel
theorem dX6_readStep_168 : decode cX6_readStep 168 = .ok (.caload, 1) := by decide +kernel
theorem dX6_readStep_169 : decode cX6_readStep 169 = .ok (.if_icmp .ne 80, 3) := by decide +kernel
theorem dX6_readStep_172 : decode cX6_readStep 172 = .ok (.aload_n 0, 1) := by decide +kernel
theorem dX6_readStep_173 : decode cX6_readStep 173 = .ok (.dup, 1) := by decide +kernel
theorem dX6_readStep_174 : decode cX6_readStep 174 = .ok (.getfield 90, 3) := by decide +kernel
theorem dX6_readStep_177 : decode cX6_readStep 177 = .ok (.iconst 1, 1) := by decide +kernel
theorem dX6_readStep_178 : decode cX6_readStep 178 = .ok (.iadd, 1) := by decide +kernel
theorem dX6_readStep_179 : decode cX6_readStep 179 = .ok (.putfield 90, 3) := by decide +kernel
theorem dX6_readStep_182 : decode cX6_readStep 182 = .ok (.aload_n 0, 1) := by decide +kernel
theorem dX6_readStep_183 : decode cX6_readStep 183 = .ok (.invokevirtual 125, 3) := by decide +kernel
theorem dX6_readStep_186 : decode cX6_readStep 186 = .ok (.lstore_n 3, 1) := by decide +kernel
theorem dX6_readStep_187 : decode cX6_readStep 187 = .ok (.iconst 0, 1) := by decide +kernel
theorem dX6_readStep_188 : decode cX6_readStep 188 = .ok (.istore 5, 2) := by decide +kernel
theorem dX6_readStep_190 : decode cX6_readStep 190 = .ok (.iload 5, 2) := by decide +kernel
theorem dX6_readStep_192 : decode cX6_readStep 192 = .ok (.iconst 5, 1) := by decide +kernel
theorem dX6_readStep_193 : decode cX6_readStep 193 = .ok (.if_icmp .ge 44, 3) := by decide +kernel
theorem dX6_readStep_196 : decode cX6_readStep 196 = .ok (.aload_n 0, 1) := by decide +kernel
theorem dX6_readStep_197 : decode cX6_readStep 197 = .ok (.getfield 41, 3) := by decide +kernel
theorem dX6_readStep_200 : decode cX6_readStep 200 = .ok (.iconst 5, 1) := by decide +kernel
theorem dX6_readStep_201 : decode cX6_readStep 201 = .ok (.aload_n 0, 1) := by decide +kernel
theorem dX6_readStep_202 : decode cX6_readStep 202 = .ok (.getfield 112, 3) := by decide +kernel
theorem dX6_readStep_205 : decode cX6_readStep 205 = .ok (.imul, 1) := by decide +kernel
theorem dX6_readStep_206 : decode cX6_readStep 206 = .ok (.iconst 5, 1) := by decide +kernel
theorem dX6_readStep_207 : decode cX6_readStep 207 = .ok (.isub, 1) := by decide +kernel
theorem dX6_readStep_208 : decode cX6_readStep 208 = .ok (.iload 5, 2) := by decide +kernel
theorem dX6_readStep_210 : decode cX6_readStep 210 = .ok (.iadd, 1) := by decide +kernel
theorem dX6_readStep_211 : decode cX6_readStep 211 = .ok (.dup2, 1) := by decide +kernel
theorem dX6_readStep_212 : decode cX6_readStep 212 = .ok (.laload, 1) := by decide +kernel
theorem dX6_readStep_213 : decode cX6_readStep 213 = .ok (.lload_n 3, 1) := by decide +kernel
theorem dX6_readStep_214 : decode cX6_readStep 214 = .ok (.aload_n 0, 1) := by decide +kernel
theorem dX6_readStep_215 : decode cX6_readStep 215 = .ok (.getfield 41, 3) := by decide +kernel
theorem dX6_readStep_218 : decode cX6_readStep 218 = .ok (.iconst 5, 1) := by decide +kernel
theorem dX6_readStep_219 : decode cX6_readStep 219 = .ok (.aload_n 0, 1) := by decide +kernel
theorem dX6_readStep_220 : decode cX6_readStep 220 = .ok (.getfield 112, 3) := by decide +kernel
theorem dX6_readStep_223 : decode cX6_readStep 223 = .ok (.imul, 1) := by decide +kernel
theorem dX6_readStep_224 : decode cX6_readStep 224 = .ok (.iload 5, 2) := by decide +kernel
theorem dX6_readStep_226 : decode cX6_readStep 226 = .ok (.iadd, 1) := by decide +kernel
theorem dX6_readStep_227 : decode cX6_readStep 227 = .ok (.laload, 1) := by decide +kernel
theorem dX6_readStep_228 : decode cX6_readStep 228 = .ok (.lmul, 1) := by decide +kernel
theorem dX6_readStep_229 : decode cX6_readStep 229 = .ok (.ladd, 1) := by decide +kernel
theorem dX6_readStep_230 : decode cX6_readStep 230 = .ok (.lastore, 1) := by decide +kernel
theorem dX6_readStep_231 : decode cX6_readStep 231 = .ok (.iinc 5 1, 3) := by decide +kernel
theorem dX6_readStep_234 : decode cX6_readStep 234 = .ok (.goto (-44), 3) := by decide +kernel
theorem dX6_readStep_237 : decode cX6_readStep 237 = .ok (.aload_n 0, 1) := by decide +kernel
theorem dX6_readStep_238 : decode cX6_readStep 238 = .ok (.dup, 1) := by decide +kernel
theorem dX6_readStep_239 : decode cX6_readStep 239 = .ok (.getfield 112, 3) := by decide +kernel
theorem dX6_readStep_242 : decode cX6_readStep 242 = .ok (.iconst 1, 1) := by decide +kernel
theorem dX6_readStep_243 : decode cX6_readStep 243 = .ok (.isub, 1) := by decide +kernel
theorem dX6_readStep_244 : decode cX6_readStep 244 = .ok (.putfield 112, 3) := by decide +kernel
theorem dX6_readStep_247 : decode cX6_readStep 247 = .ok (.iconst 1, 1) := by decide +kernel
theorem dX6_readStep_248 : decode cX6_readStep 248 = .ok (.ireturn, 1) := by decide +kernel
theorem dX6_readStep_249 : decode cX6_readStep 249 = .ok (.aload_n 0, 1) := by decide +kernel
theorem dX6_readStep_250 : decode cX6_readStep 250 = .ok (.iload_n 1, 1) := by decide +kernel
theorem dX6_readStep_251 : decode cX6_readStep 251 = .ok (.ifCond .ne 10, 3) := by decide +kernel
theorem dX6_readStep_254 : decode cX6_readStep 254 = .ok (.aload_n 0, 1) := by decide +kernel
theorem dX6_readStep_255 : decode cX6_readStep 255 = .ok (.getfield 112, 3) := by decide +kernel
theorem dX6_readStep_258 : decode cX6_readStep 258 = .ok (.ifCond .le 7, 3) := by decide +kernel
theorem dX6_readStep_261 : decode cX6_readStep 261 = .ok (.iconst 1, 1) := by decide +kernel
theorem dX6_readStep_262 : decode cX6_readStep 262 = .ok (.goto 4, 3) := by decide +kernel
theorem dX6_readStep_265 : decode cX6_readStep 265 = .ok (.iconst 0, 1) := by decide +kernel
theorem dX6_readStep_266 : decode cX6_readStep 266 = .ok (.bipush (-2), 2) := by decide +kernel
theorem dX6_readStep_268 : decode cX6_readStep 268 = .ok (.aload_n 0, 1) := by decide +kernel
theorem dX6_readStep_269 : decode cX6_readStep 269 = .ok (.getfield 90, 3) := by decide +kernel
theorem dX6_readStep_272 : decode cX6_readStep 272 = .ok (.invokevirtual 101, 3) := by decide +kernel
theorem dX6_readStep_275 : decode cX6_readStep 275 = .ok (.iconst 0, 1) := by decide +kernel
theorem dX6_readStep_276 : decode cX6_readStep 276 = .ok (.ireturn, 1) := by decide +kernel
theorem dX6_readPart_0 : decode cX6_readPart 0 = .ok (.aload_n 0, 1) := by decide +kernel
theorem dX6_readPart_1 : decode cX6_readPart 1 = .ok (.invokevirtual 125, 3) := by decide +kernel
theorem dX6_readPart_4 : decode cX6_readPart 4 = .ok (.lstore_n 1, 1) := by decide +kernel
theorem dX6_readPart_5 : decode cX6_readPart 5 = .ok (.aload_n 0, 1) := by decide +kernel
theorem dX6_readPart_6 : decode cX6_readPart 6 = .ok (.iconst 0, 1) := by decide +kernel
theorem dX6_readPart_7 : decode cX6_readPart 7 = .ok (.putfield 112, 3) := by decide +kernel
theorem dX6_readPart_10 : decode cX6_readPart 10 = .ok (.aload_n 0, 1) := by decide +kernel
theorem dX6_readPart_11 : decode cX6_readPart 11 = .ok (.invokevirtual 115, 3) := by decide +kernel
theorem dX6_readPart_14 : decode cX6_readPart 14 = .ok (.iconst 1, 1) := by decide +kernel
theorem dX6_readPart_15 : decode cX6_readPart 15 = .ok (.istore_n 3, 1) := by decide +kernel
theorem dX6_readPart_16 : decode cX6_readPart 16 = .ok (.iconst 1, 1) := by decide +kernel
theorem dX6_readPart_17 : decode cX6_readPart 17 = .ok (.istore 4, 2) := by decide +kernel
theorem dX6_readPart_19 : decode cX6_readPart 19 = .ok (.iload_n 3, 1) := by decide +kernel
theorem dX6_readPart_20 : decode cX6_readPart 20 = .ok (.ifCond .eq 51, 3) := by decide +kernel
theorem dX6_readPart_23 : decode cX6_readPart 23 = .ok (.aload_n 0, 1) := by decide +kernel
theorem dX6_readPart_24 : decode cX6_readPart 24 = .ok (.getfield 77, 3) := by decide +kernel
theorem dX6_readPart_27 : decode cX6_readPart 27 = .ok (.ifCond .ne 44, 3) := by decide +kernel
theorem dX6_readPart_30 : decode cX6_readPart 30 = .ok (.aload_n 0, 1) := by decide +kernel
theorem dX6_readPart_31 : decode cX6_readPart 31 = .ok (.aload_n 0, 1) := by decide +kernel
theorem dX6_readPart_32 : decode cX6_readPart 32 = .ok (.getfield 90, 3) := by decide +kernel
theorem dX6_readPart_35 : decode cX6_readPart 35 = .ok (.invokevirtual 93, 3) := by decide +kernel
theorem dX6_readPart_38 : decode cX6_readPart 38 = .ok (.istore 5, 2) := by decide +kernel
theorem dX6_readPart_40 : decode cX6_readPart 40 = .ok (.aload_n 0, 1) := by decide +kernel
theorem dX6_readPart_41 : decode cX6_readPart 41 = .ok (.iload 4, 2) := by decide +kernel
theorem dX6_readPart_43 : decode cX6_readPart 43 = .ok (.invokevirtual 129, 3) := by decide +kernel
theorem dX6_readPart_46 : decode cX6_readPart 46 = .ok (.istore_n 3, 1) := by decide +kernel
theorem dX6_readPart_47 : decode cX6_readPart 47 = .ok (.iload 5, 2) := by decide +kernel
theorem dX6_readPart_49 : decode cX6_readPart 49 = .ok (.bipush 40, 2) := by decide +kernel
theorem dX6_readPart_51 : decode cX6_readPart 51 = .ok (.if_icmp .eq 10, 3) := by decide +kernel
theorem dX6_readPart_54 : decode cX6_readPart 54 = .ok (.iload 5, 2) := by decide +kernel
theorem dX6_readPart_56 : decode cX6_readPart 56 = .ok (.bipush 91, 2) := by decide +kernel
theorem dX6_readPart_58 : decode cX6_readPart 58 = .ok (.if_icmp .ne 7, 3) := by decide +kernel
theorem dX6_readPart_61 : decode cX6_readPart 61 = .ok (.iconst 1, 1) := by decide +kernel
theorem dX6_readPart_62 : decode cX6_readPart 62 = .ok (.goto 4, 3) := by decide +kernel
theorem dX6_readPart_65 : decode cX6_readPart 65 = .ok (.iconst 0, 1) := by decide +kernel
theorem dX6_readPart_66 : decode cX6_readPart 66 = .ok (.istore 4, 2) := by decide +kernel
theorem dX6_readPart_68 : decode cX6_readPart 68 = .ok (.goto (-49), 3) := by decide +kernel
theorem dX6_readPart_71 : decode cX6_readPart 71 = .ok (.iconst 0, 1) := by decide +kernel
theorem dX6_readPart_72 : decode cX6_readPart 72 = .ok (.istore 5, 2) := by decide +kernel
theorem dX6_readPart_74 : decode cX6_readPart 74 = .ok (.iload 5, 2) := by decide +kernel
theorem dX6_readPart_76 : decode cX6_readPart 76 = .ok (.iconst 5, 1) := by decide +kernel
theorem dX6_readPart_77 : decode cX6_readPart 77 = .ok (.if_icmp .ge 42, 3) := by decide +kernel
theorem dX6_readPart_80 : decode cX6_readPart 80 = .ok (.aload_n 0, 1) := by decide +kernel
theorem dX6_readPart_81 : decode cX6_readPart 81 = .ok (.getfield 77, 3) := by decide +kernel
theorem dX6_readPart_84 : decode cX6_readPart 84 = .ok (.ifCond .ne 35, 3) := by decide +kernel
theorem dX6_readPart_87 : decode cX6_readPart 87 = .ok (.aload_n 0, 1) := by decide +kernel
theorem dX6_readPart_88 : decode cX6_readPart 88 = .ok (.getfield 35, 3) := by decide +kernel
theorem dX6_readPart_91 : decode cX6_readPart 91 = .ok (.iconst 5, 1) := by decide +kernel
theorem dX6_readPart_92 : decode cX6_readPart 92 = .ok (.aload_n 0, 1) := by decide +kernel
theorem dX6_readPart_93 : decode cX6_readPart 93 = .ok (.getfield 133, 3) := by decide +kernel
theorem dX6_readPart_96 : decode cX6_readPart 96 = .ok (.imul, 1) := by decide +kernel
theorem dX6_readPart_97 : decode cX6_readPart 97 = .ok (.iload 5, 2) := by decide +kernel
theorem dX6_readPart_99 : decode cX6_readPart 99 = .ok (.iadd, 1) := by decide +kernel
theorem dX6_readPart_100 : decode cX6_readPart 100 = .ok (.dup2, 1) := by decide +kernel
theorem dX6_readPart_101 : decode cX6_readPart 101 = .ok (.laload, 1) := by decide +kernel
theorem dX6_readPart_102 : decode cX6_readPart 102 = .ok (.lload_n 1, 1) := by decide +kernel
theorem dX6_readPart_103 : decode cX6_readPart 103 = .ok (.aload_n 0, 1) := by decide +kernel
theorem dX6_readPart_104 : decode cX6_readPart 104 = .ok (.getfield 41, 3) := by decide +kernel
theorem dX6_readPart_107 : decode cX6_readPart 107 = .ok (.iload 5, 2) := by decide +kernel
theorem dX6_readPart_109 : decode cX6_readPart 109 = .ok (.laload, 1) := by decide +kernel
theorem dX6_readPart_110 : decode cX6_readPart 110 = .ok (.lmul, 1) := by decide +kernel
theorem dX6_readPart_111 : decode cX6_readPart 111 = .ok (.ladd, 1) := by decide +kernel
theorem dX6_readPart_112 : decode cX6_readPart 112 = .ok (.lastore, 1) := by decide +kernel
theorem dX6_readPart_113 : decode cX6_readPart 113 = .ok (.iinc 5 1, 3) := by decide +kernel
theorem dX6_readPart_116 : decode cX6_readPart 116 = .ok (.goto (-42), 3) := by decide +kernel
theorem dX6_readPart_119 : decode cX6_readPart 119 = .ok (.return_, 1) := by decide +kernel
theorem dX6_readCharge_0 : decode cX6_readCharge 0 = .ok (.aload_n 0, 1) := by decide +kernel
theorem dX6_readCharge_1 : decode cX6_readCharge 1 = .ok (.aload_n 0, 1) := by decide +kernel
theorem dX6_readCharge_2 : decode cX6_readCharge 2 = .ok (.getfield 90, 3) := by decide +kernel
theorem dX6_readCharge_5 : decode cX6_readCharge 5 = .ok (.invokevirtual 136, 3) := by decide +kernel
theorem dX6_readCharge_8 : decode cX6_readCharge 8 = .ok (.aload_n 0, 1) := by decide +kernel
theorem dX6_readCharge_9 : decode cX6_readCharge 9 = .ok (.dup, 1) := by decide +kernel
theorem dX6_readCharge_10 : decode cX6_readCharge 10 = .ok (.getfield 90, 3) := by decide +kernel
theorem dX6_readCharge_13 : decode cX6_readCharge 13 = .ok (.iconst 1, 1) := by decide +kernel
theorem dX6_readCharge_14 : decode cX6_readCharge 14 = .ok (.iadd, 1) := by decide +kernel
theorem dX6_readCharge_15 : decode cX6_readCharge 15 = .ok (.putfield 90, 3) := by decide +kernel
theorem dX6_readCharge_18 : decode cX6_readCharge 18 = .ok (.aload_n 0, 1) := by decide +kernel
theorem dX6_readCharge_19 : decode cX6_readCharge 19 = .ok (.getfield 77, 3) := by decide +kernel
theorem dX6_readCharge_22 : decode cX6_readCharge 22 = .ok (.ifCond .ne 10, 3) := by decide +kernel
theorem dX6_readCharge_25 : decode cX6_readCharge 25 = .ok (.aload_n 0, 1) := by decide +kernel
theorem dX6_readCharge_26 : decode cX6_readCharge 26 = .ok (.invokevirtual 125, 3) := by decide +kernel
theorem dX6_readCharge_29 : decode cX6_readCharge 29 = .ok (.goto 4, 3) := by decide +kernel
theorem dX6_readCharge_32 : decode cX6_readCharge 32 = .ok (.lconst 0, 1) := by decide +kernel
theorem dX6_readCharge_33 : decode cX6_readCharge 33 = .ok (.lstore_n 1, 1) := by decide +kernel
theorem dX6_readCharge_34 : decode cX6_readCharge 34 = .ok (.aload_n 0, 1) := by decide +kernel
theorem dX6_readCharge_35 : decode cX6_readCharge 35 = .ok (.aload_n 0, 1) := by decide +kernel
theorem dX6_readCharge_36 : decode cX6_readCharge 36 = .ok (.getfield 90, 3) := by decide +kernel
theorem dX6_readCharge_39 : decode cX6_readCharge 39 = .ok (.invokevirtual 93, 3) := by decide +kernel
theorem dX6_readCharge_42 : decode cX6_readCharge 42 = .ok (.istore_n 3, 1) := by decide +kernel
theorem dX6_readCharge_43 : decode cX6_readCharge 43 = .ok (.aload_n 0, 1) := by decide +kernel
theorem dX6_readCharge_44 : decode cX6_readCharge 44 = .ok (.iload_n 3, 1) := by decide +kernel
theorem dX6_readCharge_45 : decode cX6_readCharge 45 = .ok (.bipush 43, 2) := by decide +kernel
theorem dX6_readCharge_47 : decode cX6_readCharge 47 = .ok (.if_icmp .eq 13, 3) := by decide +kernel
theorem dX6_readCharge_50 : decode cX6_readCharge 50 = .ok (.iload_n 3, 1) := by decide +kernel
theorem dX6_readCharge_51 : decode cX6_readCharge 51 = .ok (.bipush 45, 2) := by decide +kernel
theorem dX6_readCharge_53 : decode cX6_readCharge 53 = .ok (.if_icmp .eq 7, 3) := by decide +kernel
theorem dX6_readCharge_56 : decode cX6_readCharge 56 = .ok (.iconst 1, 1) := by decide +kernel
theorem dX6_readCharge_57 : decode cX6_readCharge 57 = .ok (.goto 4, 3) := by decide +kernel
theorem dX6_readCharge_60 : decode cX6_readCharge 60 = .ok (.iconst 0, 1) := by decide +kernel
theorem dX6_readCharge_61 : decode cX6_readCharge 61 = .ok (.bipush (-2), 2) := by decide +kernel
theorem dX6_readCharge_63 : decode cX6_readCharge 63 = .ok (.aload_n 0, 1) := by decide +kernel
theorem dX6_readCharge_64 : decode cX6_readCharge 64 = .ok (.getfield 90, 3) := by decide +kernel
theorem dX6_readCharge_67 : decode cX6_readCharge 67 = .ok (.invokevirtual 101, 3) := by decide +kernel
theorem dX6_readCharge_70 : decode cX6_readCharge 70 = .ok (.aload_n 0, 1) := by decide +kernel
theorem dX6_readCharge_71 : decode cX6_readCharge 71 = .ok (.getfield 31, 3) := by decide +kernel
theorem dX6_readCharge_74 : decode cX6_readCharge 74 = .ok (.aload_n 0, 1) := by decide +kernel
theorem dX6_readCharge_75 : decode cX6_readCharge 75 = .ok (.getfield 133, 3) := by decide +kernel
theorem dX6_readCharge_78 : decode cX6_readCharge 78 = .ok (.iload_n 3, 1) := by decide +kernel
theorem dX6_readCharge_79 : decode cX6_readCharge 79 = .ok (.bipush 43, 2) := by decide +kernel
theorem dX6_readCharge_81 : decode cX6_readCharge 81 = .ok (.if_icmp .ne 7, 3) := by decide +kernel
theorem dX6_readCharge_84 : decode cX6_readCharge 84 = .ok (.lload_n 1, 1) := by decide +kernel
theorem dX6_readCharge_85 : decode cX6_readCharge 85 = .ok (.goto 5, 3) := by decide +kernel
theorem dX6_readCharge_88 : decode cX6_readCharge 88 = .ok (.lload_n 1, 1) := by decide +kernel
theorem dX6_readCharge_89 : decode cX6_readCharge 89 = .ok (.lneg, 1) := by decide +kernel
theorem dX6_readCharge_90 : decode cX6_readCharge 90 = .ok (.lastore, 1) := by decide +kernel
theorem dX6_readCharge_91 : decode cX6_readCharge 91 = .ok (.aload_n 0, 1) := by decide +kernel
theorem dX6_readCharge_92 : decode cX6_readCharge 92 = .ok (.dup, 1) := by decide +kernel
theorem dX6_readCharge_93 : decode cX6_readCharge 93 = .ok (.getfield 90, 3) := by decide +kernel
theorem dX6_readCharge_96 : decode cX6_readCharge 96 = .ok (.iconst 1, 1) := by decide +kernel
theorem dX6_readCharge_97 : decode cX6_readCharge 97 = .ok (.iadd, 1) := by decide +kernel
theorem dX6_readCharge_98 : decode cX6_readCharge 98 = .ok (.putfield 90, 3) := by decide +kernel
theorem dX6_readCharge_101 : decode cX6_readCharge 101 = .ok (.return_, 1) := by decide +kernel
theorem dX6_readFormula_0 : decode cX6_readFormula 0 = .ok (.aload_n 0, 1) := by decide +kernel
theorem dX6_readFormula_1 : decode cX6_readFormula 1 = .ok (.getfield 20, 3) := by decide +kernel
theorem dX6_readFormula_4 : decode cX6_readFormula 4 = .ok (.aload_n 0, 1) := by decide +kernel
theorem dX6_readFormula_5 : decode cX6_readFormula 5 = .ok (.getfield 133, 3) := by decide +kernel
theorem dX6_readFormula_8 : decode cX6_readFormula 8 = .ok (.aload_n 0, 1) := by decide +kernel
theorem dX6_readFormula_9 : decode cX6_readFormula 9 = .ok (.getfield 90, 3) := by decide +kernel
theorem dX6_readFormula_12 : decode cX6_readFormula 12 = .ok (.iastore, 1) := by decide +kernel
theorem dX6_readFormula_13 : decode cX6_readFormula 13 = .ok (.aload_n 0, 1) := by decide +kernel
theorem dX6_readFormula_14 : decode cX6_readFormula 14 = .ok (.getfield 27, 3) := by decide +kernel
theorem dX6_readFormula_17 : decode cX6_readFormula 17 = .ok (.aload_n 0, 1) := by decide +kernel
theorem dX6_readFormula_18 : decode cX6_readFormula 18 = .ok (.getfield 133, 3) := by decide +kernel
theorem dX6_readFormula_21 : decode cX6_readFormula 21 = .ok (.iload_n 1, 1) := by decide +kernel
theorem dX6_readFormula_22 : decode cX6_readFormula 22 = .ok (.bastore, 1) := by decide +kernel
theorem dX6_readFormula_23 : decode cX6_readFormula 23 = .ok (.aload_n 0, 1) := by decide +kernel
theorem dX6_readFormula_24 : decode cX6_readFormula 24 = .ok (.getfield 31, 3) := by decide +kernel
theorem dX6_readFormula_27 : decode cX6_readFormula 27 = .ok (.aload_n 0, 1) := by decide +kernel
theorem dX6_readFormula_28 : decode cX6_readFormula 28 = .ok (.getfield 133, 3) := by decide +kernel
theorem dX6_readFormula_31 : decode cX6_readFormula 31 = .ok (.lconst 0, 1) := by decide +kernel
theorem dX6_readFormula_32 : decode cX6_readFormula 32 = .ok (.lastore, 1) := by decide +kernel
theorem dX6_readFormula_33 : decode cX6_readFormula 33 = .ok (.iconst 0, 1) := by decide +kernel
theorem dX6_readFormula_34 : decode cX6_readFormula 34 = .ok (.istore_n 2, 1) := by decide +kernel
theorem dX6_readFormula_35 : decode cX6_readFormula 35 = .ok (.iload_n 2, 1) := by decide +kernel
theorem dX6_readFormula_36 : decode cX6_readFormula 36 = .ok (.iconst 5, 1) := by decide +kernel
theorem dX6_readFormula_37 : decode cX6_readFormula 37 = .ok (.if_icmp .ge 23, 3) := by decide +kernel
theorem dX6_readFormula_40 : decode cX6_readFormula 40 = .ok (.aload_n 0, 1) := by decide +kernel
theorem dX6_readFormula_41 : decode cX6_readFormula 41 = .ok (.getfield 35, 3) := by decide +kernel
theorem dX6_readFormula_44 : decode cX6_readFormula 44 = .ok (.iconst 5, 1) := by decide +kernel
theorem dX6_readFormula_45 : decode cX6_readFormula 45 = .ok (.aload_n 0, 1) := by decide +kernel
theorem dX6_readFormula_46 : decode cX6_readFormula 46 = .ok (.getfield 133, 3) := by decide +kernel
theorem dX6_readFormula_49 : decode cX6_readFormula 49 = .ok (.imul, 1) := by decide +kernel
theorem dX6_readFormula_50 : decode cX6_readFormula 50 = .ok (.iload_n 2, 1) := by decide +kernel
theorem dX6_readFormula_51 : decode cX6_readFormula 51 = .ok (.iadd, 1) := by decide +kernel
theorem dX6_readFormula_52 : decode cX6_readFormula 52 = .ok (.lconst 0, 1) := by decide +kernel
theorem dX6_readFormula_53 : decode cX6_readFormula 53 = .ok (.lastore, 1) := by decide +kernel
theorem dX6_readFormula_54 : decode cX6_readFormula 54 = .ok (.iinc 2 1, 3) := by decide +kernel
theorem dX6_readFormula_57 : decode cX6_readFormula 57 = .ok (.goto (-22), 3) := by decide +kernel
theorem dX6_readFormula_60 : decode cX6_readFormula 60 = .ok (.aload_n 0, 1) := by decide +kernel
theorem dX6_readFormula_61 : decode cX6_readFormula 61 = .ok (.aload_n 0, 1) := by decide +kernel
theorem dX6_readFormula_62 : decode cX6_readFormula 62 = .ok (.getfield 90, 3) := by decide +kernel
theorem dX6_readFormula_65 : decode cX6_readFormula 65 = .ok (.invokevirtual 93, 3) := by decide +kernel
theorem dX6_readFormula_68 : decode cX6_readFormula 68 = .ok (.bipush 101, 2) := by decide +kernel
theorem dX6_readFormula_70 : decode cX6_readFormula 70 = .ok (.if_icmp .ne 81, 3) := by decide +kernel
theorem dX6_readFormula_73 : decode cX6_readFormula 73 = .ok (.aload_n 0, 1) := by decide +kernel
theorem dX6_readFormula_74 : decode cX6_readFormula 74 = .ok (.aload_n 0, 1) := by decide +kernel
theorem dX6_readFormula_75 : decode cX6_readFormula 75 = .ok (.aload_n 0, 1) := by decide +kernel
theorem dX6_readFormula_76 : decode cX6_readFormula 76 = .ok (.getfield 90, 3) := by decide +kernel
theorem dX6_readFormula_79 : decode cX6_readFormula 79 = .ok (.iconst 1, 1) := by decide +kernel
theorem dX6_readFormula_80 : decode cX6_readFormula 80 = .ok (.iadd, 1) := by decide +kernel
theorem dX6_readFormula_81 : decode cX6_readFormula 81 = .ok (.invokevirtual 93, 3) := by decide +kernel
theorem dX6_readFormula_84 : decode cX6_readFormula 84 = .ok (.bipush 94, 2) := by decide +kernel
theorem dX6_readFormula_86 : decode cX6_readFormula 86 = .ok (.if_icmp .ne 18, 3) := by decide +kernel
theorem dX6_readFormula_89 : decode cX6_readFormula 89 = .ok (.aload_n 0, 1) := by decide +kernel
theorem dX6_readFormula_90 : decode cX6_readFormula 90 = .ok (.aload_n 0, 1) := by decide +kernel
theorem dX6_readFormula_91 : decode cX6_readFormula 91 = .ok (.getfield 90, 3) := by decide +kernel
theorem dX6_readFormula_94 : decode cX6_readFormula 94 = .ok (.iconst 2, 1) := by decide +kernel
theorem dX6_readFormula_95 : decode cX6_readFormula 95 = .ok (.iadd, 1) := by decide +kernel
theorem dX6_readFormula_96 : decode cX6_readFormula 96 = .ok (.invokevirtual 93, 3) := by decide +kernel
theorem dX6_readFormula_99 : decode cX6_readFormula 99 = .ok (.bipush 45, 2) := by decide +kernel
theorem dX6_readFormula_101 : decode cX6_readFormula 101 = .ok (.if_icmp .eq 7, 3) := by decide +kernel
theorem dX6_readFormula_104 : decode cX6_readFormula 104 = .ok (.iconst 1, 1) := by decide +kernel
theorem dX6_readFormula_105 : decode cX6_readFormula 105 = .ok (.goto 4, 3) := by decide +kernel
theorem dX6_readFormula_108 : decode cX6_readFormula 108 = .ok (.iconst 0, 1) := by decide +kernel
theorem dX6_readFormula_109 : decode cX6_readFormula 109 = .ok (.bipush (-2), 2) := by decide +kernel
theorem dX6_readFormula_111 : decode cX6_readFormula 111 = .ok (.aload_n 0, 1) := by decide +kernel
theorem dX6_readFormula_112 : decode cX6_readFormula 112 = .ok (.getfield 90, 3) := by decide +kernel
theorem dX6_readFormula_115 : decode cX6_readFormula 115 = .ok (.invokevirtual 101, 3) := by decide +kernel
theorem dX6_readFormula_118 : decode cX6_readFormula 118 = .ok (.aload_n 0, 1) := by decide +kernel
theorem dX6_readFormula_119 : decode cX6_readFormula 119 = .ok (.aload_n 0, 1) := by decide +kernel
theorem dX6_readFormula_120 : decode cX6_readFormula 120 = .ok (.getfield 90, 3) := by decide +kernel
theorem dX6_readFormula_123 : decode cX6_readFormula 123 = .ok (.invokevirtual 136, 3) := by decide +kernel
theorem dX6_readFormula_126 : decode cX6_readFormula 126 = .ok (.aload_n 0, 1) := by decide +kernel
theorem dX6_readFormula_127 : decode cX6_readFormula 127 = .ok (.getfield 31, 3) := by decide +kernel
theorem dX6_readFormula_130 : decode cX6_readFormula 130 = .ok (.aload_n 0, 1) := by decide +kernel
theorem dX6_readFormula_131 : decode cX6_readFormula 131 = .ok (.getfield 133, 3) := by decide +kernel
theorem dX6_readFormula_134 : decode cX6_readFormula 134 = .ok (.ldc2_w 140, 3) := by decide +kernel
theorem dX6_readFormula_137 : decode cX6_readFormula 137 = .ok (.lastore, 1) := by decide +kernel
theorem dX6_readFormula_138 : decode cX6_readFormula 138 = .ok (.aload_n 0, 1) := by decide +kernel
theorem dX6_readFormula_139 : decode cX6_readFormula 139 = .ok (.dup, 1) := by decide +kernel
theorem dX6_readFormula_140 : decode cX6_readFormula 140 = .ok (.getfield 90, 3) := by decide +kernel
theorem dX6_readFormula_143 : decode cX6_readFormula 143 = .ok (.iconst 3, 1) := by decide +kernel
theorem dX6_readFormula_144 : decode cX6_readFormula 144 = .ok (.iadd, 1) := by decide +kernel
theorem dX6_readFormula_145 : decode cX6_readFormula 145 = .ok (.putfield 90, 3) := by decide +kernel
theorem dX6_readFormula_148 : decode cX6_readFormula 148 = .ok (.goto 68, 3) := by decide +kernel
theorem dX6_readFormula_151 : decode cX6_readFormula 151 = .ok (.aload_n 0, 1) := by decide +kernel
theorem dX6_readFormula_152 : decode cX6_readFormula 152 = .ok (.invokevirtual 142, 3) := by decide +kernel
theorem dX6_readFormula_155 : decode cX6_readFormula 155 = .ok (.aload_n 0, 1) := by decide +kernel
theorem dX6_readFormula_156 : decode cX6_readFormula 156 = .ok (.getfield 77, 3) := by decide +kernel
theorem dX6_readFormula_159 : decode cX6_readFormula 159 = .ok (.ifCond .ne 33, 3) := by decide +kernel
theorem dX6_readFormula_162 : decode cX6_readFormula 162 = .ok (.aload_n 0, 1) := by decide +kernel
theorem dX6_readFormula_163 : decode cX6_readFormula 163 = .ok (.aload_n 0, 1) := by decide +kernel
theorem dX6_readFormula_164 : decode cX6_readFormula 164 = .ok (.getfield 90, 3) := by decide +kernel
theorem dX6_readFormula_167 : decode cX6_readFormula 167 = .ok (.invokevirtual 93, 3) := by decide +kernel
theorem dX6_readFormula_170 : decode cX6_readFormula 170 = .ok (.bipush 46, 2) := by decide +kernel
theorem dX6_readFormula_172 : decode cX6_readFormula 172 = .ok (.if_icmp .ne 20, 3) := by decide +kernel
theorem dX6_readFormula_175 : decode cX6_readFormula 175 = .ok (.aload_n 0, 1) := by decide +kernel
theorem dX6_readFormula_176 : decode cX6_readFormula 176 = .ok (.dup, 1) := by decide +kernel
theorem dX6_readFormula_177 : decode cX6_readFormula 177 = .ok (.getfield 90, 3) := by decide +kernel
theorem dX6_readFormula_180 : decode cX6_readFormula 180 = .ok (.iconst 1, 1) := by decide +kernel
theorem dX6_readFormula_181 : decode cX6_readFormula 181 = .ok (.iadd, 1) := by decide +kernel
theorem dX6_readFormula_182 : decode cX6_readFormula 182 = .ok (.putfield 90, 3) := by decide +kernel
theorem dX6_readFormula_185 : decode cX6_readFormula 185 = .ok (.aload_n 0, 1) := by decide +kernel
theorem dX6_readFormula_186 : decode cX6_readFormula 186 = .ok (.invokevirtual 142, 3) := by decide +kernel
theorem dX6_readFormula_189 : decode cX6_readFormula 189 = .ok (.goto (-34), 3) := by decide +kernel
theorem dX6_readFormula_192 : decode cX6_readFormula 192 = .ok (.aload_n 0, 1) := by decide +kernel
theorem dX6_readFormula_193 : decode cX6_readFormula 193 = .ok (.getfield 77, 3) := by decide +kernel
theorem dX6_readFormula_196 : decode cX6_readFormula 196 = .ok (.ifCond .ne 20, 3) := by decide +kernel
theorem dX6_readFormula_199 : decode cX6_readFormula 199 = .ok (.aload_n 0, 1) := by decide +kernel
theorem dX6_readFormula_200 : decode cX6_readFormula 200 = .ok (.aload_n 0, 1) := by decide +kernel
theorem dX6_readFormula_201 : decode cX6_readFormula 201 = .ok (.getfield 90, 3) := by decide +kernel
theorem dX6_readFormula_204 : decode cX6_readFormula 204 = .ok (.invokevirtual 93, 3) := by decide +kernel
theorem dX6_readFormula_207 : decode cX6_readFormula 207 = .ok (.bipush 94, 2) := by decide +kernel
theorem dX6_readFormula_209 : decode cX6_readFormula 209 = .ok (.if_icmp .ne 7, 3) := by decide +kernel
theorem dX6_readFormula_212 : decode cX6_readFormula 212 = .ok (.aload_n 0, 1) := by decide +kernel
theorem dX6_readFormula_213 : decode cX6_readFormula 213 = .ok (.invokevirtual 145, 3) := by decide +kernel
theorem dX6_readFormula_216 : decode cX6_readFormula 216 = .ok (.aload_n 0, 1) := by decide +kernel
theorem dX6_readFormula_217 : decode cX6_readFormula 217 = .ok (.getfield 24, 3) := by decide +kernel
theorem dX6_readFormula_220 : decode cX6_readFormula 220 = .ok (.aload_n 0, 1) := by decide +kernel
theorem dX6_readFormula_221 : decode cX6_readFormula 221 = .ok (.getfield 133, 3) := by decide +kernel
theorem dX6_readFormula_224 : decode cX6_readFormula 224 = .ok (.aload_n 0, 1) := by decide +kernel
theorem dX6_readFormula_225 : decode cX6_readFormula 225 = .ok (.getfield 90, 3) := by decide +kernel
theorem dX6_readFormula_228 : decode cX6_readFormula 228 = .ok (.iastore, 1) := by decide +kernel
theorem dX6_readFormula_229 : decode cX6_readFormula 229 = .ok (.aload_n 0, 1) := by decide +kernel
theorem dX6_readFormula_230 : decode cX6_readFormula 230 = .ok (.getfield 31, 3) := by decide +kernel
theorem dX6_readFormula_233 : decode cX6_readFormula 233 = .ok (.aload_n 0, 1) := by decide +kernel
theorem dX6_readFormula_234 : decode cX6_readFormula 234 = .ok (.getfield 133, 3) := by decide +kernel
theorem dX6_readFormula_237 : decode cX6_readFormula 237 = .ok (.laload, 1) := by decide +kernel
theorem dX6_readFormula_238 : decode cX6_readFormula 238 = .ok (.ldc2_w 148, 3) := by decide +kernel
theorem dX6_readFormula_241 : decode cX6_readFormula 241 = .ok (.lcmp, 1) := by decide +kernel
theorem dX6_readFormula_242 : decode cX6_readFormula 242 = .ok (.ifCond .gt 19, 3) := by decide +kernel
theorem dX6_readFormula_245 : decode cX6_readFormula 245 = .ok (.aload_n 0, 1) := by decide +kernel
theorem dX6_readFormula_246 : decode cX6_readFormula 246 = .ok (.getfield 31, 3) := by decide +kernel
theorem dX6_readFormula_249 : decode cX6_readFormula 249 = .ok (.aload_n 0, 1) := by decide +kernel
theorem dX6_readFormula_250 : decode cX6_readFormula 250 = .ok (.getfield 133, 3) := by decide +kernel
theorem dX6_readFormula_253 : decode cX6_readFormula 253 = .ok (.laload, 1) := by decide +kernel
theorem dX6_readFormula_254 : decode cX6_readFormula 254 = .ok (.ldc2_w 150, 3) := by decide +kernel
theorem dX6_readFormula_257 : decode cX6_readFormula 257 = .ok (.lcmp, 1) := by decide +kernel
theorem dX6_readFormula_258 : decode cX6_readFormula 258 = .ok (.ifCond .ge 7, 3) := by decide +kernel
theorem dX6_readFormula_261 : decode cX6_readFormula 261 = .ok (.iconst 1, 1) := by decide +kernel
theorem dX6_readFormula_262 : decode cX6_readFormula 262 = .ok (.goto 4, 3) := by decide +kernel
theorem dX6_readFormula_265 : decode cX6_readFormula 265 = .ok (.iconst 0, 1) := by decide +kernel
theorem dX6_readFormula_266 : decode cX6_readFormula 266 = .ok (.istore_n 2, 1) := by decide +kernel
theorem dX6_readFormula_267 : decode cX6_readFormula 267 = .ok (.iconst 0, 1) := by decide +kernel
theorem dX6_readFormula_268 : decode cX6_readFormula 268 = .ok (.istore_n 3, 1) := by decide +kernel
theorem dX6_readFormula_269 : decode cX6_readFormula 269 = .ok (.iload_n 3, 1) := by decide +kernel
theorem dX6_readFormula_270 : decode cX6_readFormula 270 = .ok (.iconst 5, 1) := by decide +kernel
theorem dX6_readFormula_271 : decode cX6_readFormula 271 = .ok (.if_icmp .ge 39, 3) := by decide +kernel
theorem dX6_readFormula_274 : decode cX6_readFormula 274 = .ok (.iload_n 2, 1) := by decide +kernel
theorem dX6_readFormula_275 : decode cX6_readFormula 275 = .ok (.ifCond .ne 23, 3) := by decide +kernel
theorem dX6_readFormula_278 : decode cX6_readFormula 278 = .ok (.aload_n 0, 1) := by decide +kernel
theorem dX6_readFormula_279 : decode cX6_readFormula 279 = .ok (.getfield 35, 3) := by decide +kernel
theorem dX6_readFormula_282 : decode cX6_readFormula 282 = .ok (.iconst 5, 1) := by decide +kernel
theorem dX6_readFormula_283 : decode cX6_readFormula 283 = .ok (.aload_n 0, 1) := by decide +kernel
theorem dX6_readFormula_284 : decode cX6_readFormula 284 = .ok (.getfield 133, 3) := by decide +kernel
theorem dX6_readFormula_287 : decode cX6_readFormula 287 = .ok (.imul, 1) := by decide +kernel
theorem dX6_readFormula_288 : decode cX6_readFormula 288 = .ok (.iload_n 3, 1) := by decide +kernel
theorem dX6_readFormula_289 : decode cX6_readFormula 289 = .ok (.iadd, 1) := by decide +kernel
theorem dX6_readFormula_290 : decode cX6_readFormula 290 = .ok (.laload, 1) := by decide +kernel
theorem dX6_readFormula_291 : decode cX6_readFormula 291 = .ok (.ldc2_w 148, 3) := by decide +kernel
theorem dX6_readFormula_294 : decode cX6_readFormula 294 = .ok (.lcmp, 1) := by decide +kernel
theorem dX6_readFormula_295 : decode cX6_readFormula 295 = .ok (.ifCond .le 7, 3) := by decide +kernel
theorem dX6_readFormula_298 : decode cX6_readFormula 298 = .ok (.iconst 1, 1) := by decide +kernel
theorem dX6_readFormula_299 : decode cX6_readFormula 299 = .ok (.goto 4, 3) := by decide +kernel
theorem dX6_readFormula_302 : decode cX6_readFormula 302 = .ok (.iconst 0, 1) := by decide +kernel
theorem dX6_readFormula_303 : decode cX6_readFormula 303 = .ok (.istore_n 2, 1) := by decide +kernel
theorem dX6_readFormula_304 : decode cX6_readFormula 304 = .ok (.iinc 3 1, 3) := by decide +kernel
theorem dX6_readFormula_307 : decode cX6_readFormula 307 = .ok (.goto (-38), 3) := by decide +kernel
theorem dX6_readFormula_310 : decode cX6_readFormula 310 = .ok (.aload_n 0, 1) := by decide +kernel
theorem dX6_readFormula_311 : decode cX6_readFormula 311 = .ok (.iload_n 2, 1) := by decide +kernel
theorem dX6_readFormula_312 : decode cX6_readFormula 312 = .ok (.bipush (-6), 2) := by decide +kernel
theorem dX6_readFormula_314 : decode cX6_readFormula 314 = .ok (.aload_n 0, 1) := by decide +kernel
theorem dX6_readFormula_315 : decode cX6_readFormula 315 = .ok (.getfield 20, 3) := by decide +kernel
theorem dX6_readFormula_318 : decode cX6_readFormula 318 = .ok (.aload_n 0, 1) := by decide +kernel
theorem dX6_readFormula_319 : decode cX6_readFormula 319 = .ok (.getfield 133, 3) := by decide +kernel
theorem dX6_readFormula_322 : decode cX6_readFormula 322 = .ok (.iaload, 1) := by decide +kernel
theorem dX6_readFormula_323 : decode cX6_readFormula 323 = .ok (.invokevirtual 101, 3) := by decide +kernel
theorem dX6_readFormula_326 : decode cX6_readFormula 326 = .ok (.aload_n 0, 1) := by decide +kernel
theorem dX6_readFormula_327 : decode cX6_readFormula 327 = .ok (.dup, 1) := by decide +kernel
theorem dX6_readFormula_328 : decode cX6_readFormula 328 = .ok (.getfield 133, 3) := by decide +kernel
theorem dX6_readFormula_331 : decode cX6_readFormula 331 = .ok (.iconst 1, 1) := by decide +kernel
theorem dX6_readFormula_332 : decode cX6_readFormula 332 = .ok (.iadd, 1) := by decide +kernel
theorem dX6_readFormula_333 : decode cX6_readFormula 333 = .ok (.putfield 133, 3) := by decide +kernel
theorem dX6_readFormula_336 : decode cX6_readFormula 336 = .ok (.return_, 1) := by decide +kernel
theorem dX6_readSide_0 : decode cX6_readSide 0 = .ok (.iconst 1, 1) := by decide +kernel
theorem dX6_readSide_1 : decode cX6_readSide 1 = .ok (.istore_n 2, 1) := by decide +kernel
theorem dX6_readSide_2 : decode cX6_readSide 2 = .ok (.iload_n 2, 1) := by decide +kernel
theorem dX6_readSide_3 : decode cX6_readSide 3 = .ok (.ifCond .eq 101, 3) := by decide +kernel
theorem dX6_readSide_6 : decode cX6_readSide 6 = .ok (.aload_n 0, 1) := by decide +kernel
theorem dX6_readSide_7 : decode cX6_readSide 7 = .ok (.getfield 77, 3) := by decide +kernel
theorem dX6_readSide_10 : decode cX6_readSide 10 = .ok (.ifCond .ne 94, 3) := by decide +kernel
theorem dX6_readSide_13 : decode cX6_readSide 13 = .ok (.aload_n 0, 1) := by decide +kernel
theorem dX6_readSide_14 : decode cX6_readSide 14 = .ok (.invokevirtual 152, 3) := by decide +kernel
theorem dX6_readSide_17 : decode cX6_readSide 17 = .ok (.aload_n 0, 1) := by decide +kernel
theorem dX6_readSide_18 : decode cX6_readSide 18 = .ok (.aload_n 0, 1) := by decide +kernel
theorem dX6_readSide_19 : decode cX6_readSide 19 = .ok (.getfield 133, 3) := by decide +kernel
theorem dX6_readSide_22 : decode cX6_readSide 22 = .ok (.bipush 6, 2) := by decide +kernel
theorem dX6_readSide_24 : decode cX6_readSide 24 = .ok (.if_icmp .ne 7, 3) := by decide +kernel
theorem dX6_readSide_27 : decode cX6_readSide 27 = .ok (.iconst 1, 1) := by decide +kernel
theorem dX6_readSide_28 : decode cX6_readSide 28 = .ok (.goto 4, 3) := by decide +kernel
theorem dX6_readSide_31 : decode cX6_readSide 31 = .ok (.iconst 0, 1) := by decide +kernel
theorem dX6_readSide_32 : decode cX6_readSide 32 = .ok (.bipush (-5), 2) := by decide +kernel
theorem dX6_readSide_34 : decode cX6_readSide 34 = .ok (.aload_n 0, 1) := by decide +kernel
theorem dX6_readSide_35 : decode cX6_readSide 35 = .ok (.getfield 90, 3) := by decide +kernel
theorem dX6_readSide_38 : decode cX6_readSide 38 = .ok (.invokevirtual 101, 3) := by decide +kernel
theorem dX6_readSide_41 : decode cX6_readSide 41 = .ok (.aload_n 0, 1) := by decide +kernel
theorem dX6_readSide_42 : decode cX6_readSide 42 = .ok (.getfield 77, 3) := by decide +kernel
theorem dX6_readSide_45 : decode cX6_readSide 45 = .ok (.ifCond .ne 8, 3) := by decide +kernel
theorem dX6_readSide_48 : decode cX6_readSide 48 = .ok (.aload_n 0, 1) := by decide +kernel
theorem dX6_readSide_49 : decode cX6_readSide 49 = .ok (.iload_n 1, 1) := by decide +kernel
theorem dX6_readSide_50 : decode cX6_readSide 50 = .ok (.invokevirtual 155, 3) := by decide +kernel
theorem dX6_readSide_53 : decode cX6_readSide 53 = .ok (.aload_n 0, 1) := by decide +kernel
theorem dX6_readSide_54 : decode cX6_readSide 54 = .ok (.invokevirtual 152, 3) := by decide +kernel
theorem dX6_readSide_57 : decode cX6_readSide 57 = .ok (.aload_n 0, 1) := by decide +kernel
theorem dX6_readSide_58 : decode cX6_readSide 58 = .ok (.getfield 77, 3) := by decide +kernel
theorem dX6_readSide_61 : decode cX6_readSide 61 = .ok (.ifCond .ne 20, 3) := by decide +kernel
theorem dX6_readSide_64 : decode cX6_readSide 64 = .ok (.aload_n 0, 1) := by decide +kernel
theorem dX6_readSide_65 : decode cX6_readSide 65 = .ok (.aload_n 0, 1) := by decide +kernel
theorem dX6_readSide_66 : decode cX6_readSide 66 = .ok (.getfield 90, 3) := by decide +kernel
theorem dX6_readSide_69 : decode cX6_readSide 69 = .ok (.invokevirtual 93, 3) := by decide +kernel
theorem dX6_readSide_72 : decode cX6_readSide 72 = .ok (.bipush 43, 2) := by decide +kernel
theorem dX6_readSide_74 : decode cX6_readSide 74 = .ok (.if_icmp .ne 7, 3) := by decide +kernel
theorem dX6_readSide_77 : decode cX6_readSide 77 = .ok (.iconst 1, 1) := by decide +kernel
theorem dX6_readSide_78 : decode cX6_readSide 78 = .ok (.goto 4, 3) := by decide +kernel
theorem dX6_readSide_81 : decode cX6_readSide 81 = .ok (.iconst 0, 1) := by decide +kernel
theorem dX6_readSide_82 : decode cX6_readSide 82 = .ok (.istore_n 2, 1) := by decide +kernel
theorem dX6_readSide_83 : decode cX6_readSide 83 = .ok (.aload_n 0, 1) := by decide +kernel
theorem dX6_readSide_84 : decode cX6_readSide 84 = .ok (.dup, 1) := by decide +kernel
theorem dX6_readSide_85 : decode cX6_readSide 85 = .ok (.getfield 90, 3) := by decide +kernel
theorem dX6_readSide_88 : decode cX6_readSide 88 = .ok (.iload_n 2, 1) := by decide +kernel
theorem dX6_readSide_89 : decode cX6_readSide 89 = .ok (.ifCond .eq 7, 3) := by decide +kernel
theorem dX6_readSide_92 : decode cX6_readSide 92 = .ok (.iconst 1, 1) := by decide +kernel
theorem dX6_readSide_93 : decode cX6_readSide 93 = .ok (.goto 4, 3) := by decide +kernel
theorem dX6_readSide_96 : decode cX6_readSide 96 = .ok (.iconst 0, 1) := by decide +kernel
theorem dX6_readSide_97 : decode cX6_readSide 97 = .ok (.iadd, 1) := by decide +kernel
theorem dX6_readSide_98 : decode cX6_readSide 98 = .ok (.putfield 90, 3) := by decide +kernel
theorem dX6_readSide_101 : decode cX6_readSide 101 = .ok (.goto (-99), 3) := by decide +kernel
theorem dX6_readSide_104 : decode cX6_readSide 104 = .ok (.return_, 1) := by decide +kernel
theorem dX6_read_0 : decode cX6_read 0 = .ok (.aload_n 0, 1) := by decide +kernel
theorem dX6_read_1 : decode cX6_read 1 = .ok (.iconst 0, 1) := by decide +kernel
theorem dX6_read_2 : decode cX6_read 2 = .ok (.putfield 65, 3) := by decide +kernel
theorem dX6_read_5 : decode cX6_read 5 = .ok (.aload_n 0, 1) := by decide +kernel
theorem dX6_read_6 : decode cX6_read 6 = .ok (.aload_n 0, 1) := by decide +kernel
theorem dX6_read_7 : decode cX6_read 7 = .ok (.getfield 74, 3) := by decide +kernel
theorem dX6_read_10 : decode cX6_read 10 = .ok (.putfield 87, 3) := by decide +kernel
theorem dX6_read_13 : decode cX6_read 13 = .ok (.iconst 0, 1) := by decide +kernel
theorem dX6_read_14 : decode cX6_read 14 = .ok (.istore_n 1, 1) := by decide +kernel
theorem dX6_read_15 : decode cX6_read 15 = .ok (.iload_n 1, 1) := by decide +kernel
theorem dX6_read_16 : decode cX6_read 16 = .ok (.aload_n 0, 1) := by decide +kernel
theorem dX6_read_17 : decode cX6_read 17 = .ok (.getfield 87, 3) := by decide +kernel
theorem dX6_read_20 : decode cX6_read 20 = .ok (.if_icmp .ge 21, 3) := by decide +kernel
theorem dX6_read_23 : decode cX6_read 23 = .ok (.aload_n 0, 1) := by decide +kernel
theorem dX6_read_24 : decode cX6_read 24 = .ok (.getfield 13, 3) := by decide +kernel
theorem dX6_read_27 : decode cX6_read 27 = .ok (.iload_n 1, 1) := by decide +kernel
theorem dX6_read_28 : decode cX6_read 28 = .ok (.aload_n 0, 1) := by decide +kernel
theorem dX6_read_29 : decode cX6_read 29 = .ok (.getfield 7, 3) := by decide +kernel
theorem dX6_read_32 : decode cX6_read 32 = .ok (.iload_n 1, 1) := by decide +kernel
theorem dX6_read_33 : decode cX6_read 33 = .ok (.caload, 1) := by decide +kernel
theorem dX6_read_34 : decode cX6_read 34 = .ok (.castore, 1) := by decide +kernel
theorem dX6_read_35 : decode cX6_read 35 = .ok (.iinc 1 1, 3) := by decide +kernel
theorem dX6_read_38 : decode cX6_read 38 = .ok (.goto (-23), 3) := by decide +kernel
theorem dX6_read_41 : decode cX6_read 41 = .ok (.aload_n 0, 1) := by decide +kernel
theorem dX6_read_42 : decode cX6_read 42 = .ok (.iconst 0, 1) := by decide +kernel
theorem dX6_read_43 : decode cX6_read 43 = .ok (.putfield 74, 3) := by decide +kernel
theorem dX6_read_46 : decode cX6_read 46 = .ok (.aload_n 0, 1) := by decide +kernel
theorem dX6_read_47 : decode cX6_read 47 = .ok (.iconst 0, 1) := by decide +kernel
theorem dX6_read_48 : decode cX6_read 48 = .ok (.putfield 90, 3) := by decide +kernel
theorem dX6_read_51 : decode cX6_read 51 = .ok (.aload_n 0, 1) := by decide +kernel
theorem dX6_read_52 : decode cX6_read 52 = .ok (.iconst 0, 1) := by decide +kernel
theorem dX6_read_53 : decode cX6_read 53 = .ok (.putfield 77, 3) := by decide +kernel
theorem dX6_read_56 : decode cX6_read 56 = .ok (.aload_n 0, 1) := by decide +kernel
theorem dX6_read_57 : decode cX6_read 57 = .ok (.iconst 0, 1) := by decide +kernel
theorem dX6_read_58 : decode cX6_read 58 = .ok (.putfield 133, 3) := by decide +kernel
theorem dX6_read_61 : decode cX6_read 61 = .ok (.aload_n 0, 1) := by decide +kernel
theorem dX6_read_62 : decode cX6_read 62 = .ok (.iconst 0, 1) := by decide +kernel
theorem dX6_read_63 : decode cX6_read 63 = .ok (.putfield 109, 3) := by decide +kernel
theorem dX6_read_66 : decode cX6_read 66 = .ok (.aload_n 0, 1) := by decide +kernel
theorem dX6_read_67 : decode cX6_read 67 = .ok (.iconst 0, 1) := by decide +kernel
theorem dX6_read_68 : decode cX6_read 68 = .ok (.putfield 105, 3) := by decide +kernel
theorem dX6_read_71 : decode cX6_read 71 = .ok (.aload_n 0, 1) := by decide +kernel
theorem dX6_read_72 : decode cX6_read 72 = .ok (.iconst 0, 1) := by decide +kernel
theorem dX6_read_73 : decode cX6_read 73 = .ok (.invokevirtual 159, 3) := by decide +kernel
theorem dX6_read_76 : decode cX6_read 76 = .ok (.aload_n 0, 1) := by decide +kernel
theorem dX6_read_77 : decode cX6_read 77 = .ok (.aload_n 0, 1) := by decide +kernel
theorem dX6_read_78 : decode cX6_read 78 = .ok (.aload_n 0, 1) := by decide +kernel
theorem dX6_read_79 : decode cX6_read 79 = .ok (.getfield 90, 3) := by decide +kernel
theorem dX6_read_82 : decode cX6_read 82 = .ok (.invokevirtual 93, 3) := by decide +kernel
theorem dX6_read_85 : decode cX6_read 85 = .ok (.bipush 61, 2) := by decide +kernel
theorem dX6_read_87 : decode cX6_read 87 = .ok (.if_icmp .eq 7, 3) := by decide +kernel
theorem dX6_read_90 : decode cX6_read 90 = .ok (.iconst 1, 1) := by decide +kernel
theorem dX6_read_91 : decode cX6_read 91 = .ok (.goto 4, 3) := by decide +kernel
theorem dX6_read_94 : decode cX6_read 94 = .ok (.iconst 0, 1) := by decide +kernel
theorem dX6_read_95 : decode cX6_read 95 = .ok (.bipush (-2), 2) := by decide +kernel
theorem dX6_read_97 : decode cX6_read 97 = .ok (.aload_n 0, 1) := by decide +kernel
theorem dX6_read_98 : decode cX6_read 98 = .ok (.getfield 90, 3) := by decide +kernel
theorem dX6_read_101 : decode cX6_read 101 = .ok (.invokevirtual 101, 3) := by decide +kernel
theorem dX6_read_104 : decode cX6_read 104 = .ok (.aload_n 0, 1) := by decide +kernel
theorem dX6_read_105 : decode cX6_read 105 = .ok (.dup, 1) := by decide +kernel
theorem dX6_read_106 : decode cX6_read 106 = .ok (.getfield 90, 3) := by decide +kernel
theorem dX6_read_109 : decode cX6_read 109 = .ok (.iconst 1, 1) := by decide +kernel
theorem dX6_read_110 : decode cX6_read 110 = .ok (.iadd, 1) := by decide +kernel
theorem dX6_read_111 : decode cX6_read 111 = .ok (.putfield 90, 3) := by decide +kernel
theorem dX6_read_114 : decode cX6_read 114 = .ok (.aload_n 0, 1) := by decide +kernel
theorem dX6_read_115 : decode cX6_read 115 = .ok (.getfield 77, 3) := by decide +kernel
theorem dX6_read_118 : decode cX6_read 118 = .ok (.ifCond .ne 34, 3) := by decide +kernel
theorem dX6_read_121 : decode cX6_read 121 = .ok (.aload_n 0, 1) := by decide +kernel
theorem dX6_read_122 : decode cX6_read 122 = .ok (.iconst 1, 1) := by decide +kernel
theorem dX6_read_123 : decode cX6_read 123 = .ok (.invokevirtual 159, 3) := by decide +kernel
theorem dX6_read_126 : decode cX6_read 126 = .ok (.aload_n 0, 1) := by decide +kernel
theorem dX6_read_127 : decode cX6_read 127 = .ok (.aload_n 0, 1) := by decide +kernel
theorem dX6_read_128 : decode cX6_read 128 = .ok (.getfield 90, 3) := by decide +kernel
theorem dX6_read_131 : decode cX6_read 131 = .ok (.aload_n 0, 1) := by decide +kernel
theorem dX6_read_132 : decode cX6_read 132 = .ok (.getfield 87, 3) := by decide +kernel
theorem dX6_read_135 : decode cX6_read 135 = .ok (.if_icmp .ge 7, 3) := by decide +kernel
theorem dX6_read_138 : decode cX6_read 138 = .ok (.iconst 1, 1) := by decide +kernel
theorem dX6_read_139 : decode cX6_read 139 = .ok (.goto 4, 3) := by decide +kernel
theorem dX6_read_142 : decode cX6_read 142 = .ok (.iconst 0, 1) := by decide +kernel
theorem dX6_read_143 : decode cX6_read 143 = .ok (.bipush (-2), 2) := by decide +kernel
theorem dX6_read_145 : decode cX6_read 145 = .ok (.aload_n 0, 1) := by decide +kernel
theorem dX6_read_146 : decode cX6_read 146 = .ok (.getfield 90, 3) := by decide +kernel
theorem dX6_read_149 : decode cX6_read 149 = .ok (.invokevirtual 101, 3) := by decide +kernel
theorem dX6_read_152 : decode cX6_read 152 = .ok (.aload_n 0, 1) := by decide +kernel
theorem dX6_read_153 : decode cX6_read 153 = .ok (.aload_n 0, 1) := by decide +kernel
theorem dX6_read_154 : decode cX6_read 154 = .ok (.getfield 77, 3) := by decide +kernel
theorem dX6_read_157 : decode cX6_read 157 = .ok (.ifCond .ne 7, 3) := by decide +kernel
theorem dX6_read_160 : decode cX6_read 160 = .ok (.iconst 1, 1) := by decide +kernel
theorem dX6_read_161 : decode cX6_read 161 = .ok (.goto 4, 3) := by decide +kernel
theorem dX6_read_164 : decode cX6_read 164 = .ok (.iconst 0, 1) := by decide +kernel
theorem dX6_read_165 : decode cX6_read 165 = .ok (.putfield 162, 3) := by decide +kernel
theorem dX6_read_168 : decode cX6_read 168 = .ok (.aload_n 0, 1) := by decide +kernel
theorem dX6_read_169 : decode cX6_read 169 = .ok (.aload_n 0, 1) := by decide +kernel
theorem dX6_read_170 : decode cX6_read 170 = .ok (.getfield 162, 3) := by decide +kernel
theorem dX6_read_173 : decode cX6_read 173 = .ok (.ifCond .eq 7, 3) := by decide +kernel
theorem dX6_read_176 : decode cX6_read 176 = .ok (.iconst (-1), 1) := by decide +kernel
theorem dX6_read_177 : decode cX6_read 177 = .ok (.goto 7, 3) := by decide +kernel
theorem dX6_read_180 : decode cX6_read 180 = .ok (.aload_n 0, 1) := by decide +kernel
theorem dX6_read_181 : decode cX6_read 181 = .ok (.getfield 80, 3) := by decide +kernel
theorem dX6_read_184 : decode cX6_read 184 = .ok (.putfield 16, 3) := by decide +kernel
theorem dX6_read_187 : decode cX6_read 187 = .ok (.aload_n 0, 1) := by decide +kernel
theorem dX6_read_188 : decode cX6_read 188 = .ok (.getfield 162, 3) := by decide +kernel
theorem dX6_read_191 : decode cX6_read 191 = .ok (.ifCond .ne 8, 3) := by decide +kernel
theorem dX6_read_194 : decode cX6_read 194 = .ok (.aload_n 0, 1) := by decide +kernel
theorem dX6_read_195 : decode cX6_read 195 = .ok (.getfield 77, 3) := by decide +kernel
theorem dX6_read_198 : decode cX6_read 198 = .ok (.ireturn, 1) := by decide +kernel
theorem dX6_read_199 : decode cX6_read 199 = .ok (.aload_n 0, 1) := by decide +kernel
theorem dX6_read_200 : decode cX6_read 200 = .ok (.invokevirtual 165, 3) := by decide +kernel
theorem dX6_read_203 : decode cX6_read 203 = .ok (.aload_n 0, 1) := by decide +kernel
theorem dX6_read_204 : decode cX6_read 204 = .ok (.invokevirtual 168, 3) := by decide +kernel
theorem dX6_read_207 : decode cX6_read 207 = .ok (.aload_n 0, 1) := by decide +kernel
theorem dX6_read_208 : decode cX6_read 208 = .ok (.getfield 133, 3) := by decide +kernel
theorem dX6_read_211 : decode cX6_read 211 = .ok (.ireturn, 1) := by decide +kernel
theorem dX6_solve_0 : decode cX6_solve 0 = .ok (.aload_n 0, 1) := by decide +kernel
theorem dX6_solve_1 : decode cX6_solve 1 = .ok (.iconst 0, 1) := by decide +kernel
theorem dX6_solve_2 : decode cX6_solve 2 = .ok (.putfield 185, 3) := by decide +kernel
theorem dX6_solve_5 : decode cX6_solve 5 = .ok (.aload_n 0, 1) := by decide +kernel
theorem dX6_solve_6 : decode cX6_solve 6 = .ok (.iconst 0, 1) := by decide +kernel
theorem dX6_solve_7 : decode cX6_solve 7 = .ok (.putfield 188, 3) := by decide +kernel
theorem dX6_solve_10 : decode cX6_solve 10 = .ok (.iconst 0, 1) := by decide +kernel
theorem dX6_solve_11 : decode cX6_solve 11 = .ok (.istore_n 1, 1) := by decide +kernel
theorem dX6_solve_12 : decode cX6_solve 12 = .ok (.iload_n 1, 1) := by decide +kernel
theorem dX6_solve_13 : decode cX6_solve 13 = .ok (.aload_n 0, 1) := by decide +kernel
theorem dX6_solve_14 : decode cX6_solve 14 = .ok (.getfield 133, 3) := by decide +kernel
theorem dX6_solve_17 : decode cX6_solve 17 = .ok (.if_icmp .ge 95, 3) := by decide +kernel
theorem dX6_solve_20 : decode cX6_solve 20 = .ok (.aload_n 0, 1) := by decide +kernel
theorem dX6_solve_21 : decode cX6_solve 21 = .ok (.invokevirtual 191, 3) := by decide +kernel
theorem dX6_solve_24 : decode cX6_solve 24 = .ok (.aload_n 0, 1) := by decide +kernel
theorem dX6_solve_25 : decode cX6_solve 25 = .ok (.getfield 56, 3) := by decide +kernel
theorem dX6_solve_28 : decode cX6_solve 28 = .ok (.aload_n 0, 1) := by decide +kernel
theorem dX6_solve_29 : decode cX6_solve 29 = .ok (.getfield 185, 3) := by decide +kernel
theorem dX6_solve_32 : decode cX6_solve 32 = .ok (.iload_n 1, 1) := by decide +kernel
theorem dX6_solve_33 : decode cX6_solve 33 = .ok (.iastore, 1) := by decide +kernel
theorem dX6_solve_34 : decode cX6_solve 34 = .ok (.aload_n 0, 1) := by decide +kernel
theorem dX6_solve_35 : decode cX6_solve 35 = .ok (.getfield 50, 3) := by decide +kernel
theorem dX6_solve_38 : decode cX6_solve 38 = .ok (.iload_n 1, 1) := by decide +kernel
theorem dX6_solve_39 : decode cX6_solve 39 = .ok (.aload_n 0, 1) := by decide +kernel
theorem dX6_solve_40 : decode cX6_solve 40 = .ok (.getfield 185, 3) := by decide +kernel
theorem dX6_solve_43 : decode cX6_solve 43 = .ok (.aload_n 0, 1) := by decide +kernel
theorem dX6_solve_44 : decode cX6_solve 44 = .ok (.invokevirtual 175, 3) := by decide +kernel
theorem dX6_solve_47 : decode cX6_solve 47 = .ok (.if_icmp .eq 16, 3) := by decide +kernel
theorem dX6_solve_50 : decode cX6_solve 50 = .ok (.aload_n 0, 1) := by decide +kernel
theorem dX6_solve_51 : decode cX6_solve 51 = .ok (.aload_n 0, 1) := by decide +kernel
theorem dX6_solve_52 : decode cX6_solve 52 = .ok (.getfield 185, 3) := by decide +kernel
theorem dX6_solve_55 : decode cX6_solve 55 = .ok (.iconst 1, 1) := by decide +kernel
theorem dX6_solve_56 : decode cX6_solve 56 = .ok (.iadd, 1) := by decide +kernel
theorem dX6_solve_57 : decode cX6_solve 57 = .ok (.invokevirtual 194, 3) := by decide +kernel
theorem dX6_solve_60 : decode cX6_solve 60 = .ok (.ifCond .ge 7, 3) := by decide +kernel
theorem dX6_solve_63 : decode cX6_solve 63 = .ok (.iconst 1, 1) := by decide +kernel
theorem dX6_solve_64 : decode cX6_solve 64 = .ok (.goto 4, 3) := by decide +kernel
theorem dX6_solve_67 : decode cX6_solve 67 = .ok (.iconst 0, 1) := by decide +kernel
theorem dX6_solve_68 : decode cX6_solve 68 = .ok (.bastore, 1) := by decide +kernel
theorem dX6_solve_69 : decode cX6_solve 69 = .ok (.aload_n 0, 1) := by decide +kernel
theorem dX6_solve_70 : decode cX6_solve 70 = .ok (.getfield 50, 3) := by decide +kernel
theorem dX6_solve_73 : decode cX6_solve 73 = .ok (.iload_n 1, 1) := by decide +kernel
theorem dX6_solve_74 : decode cX6_solve 74 = .ok (.baload, 1) := by decide +kernel
theorem dX6_solve_75 : decode cX6_solve 75 = .ok (.ifCond .eq 11, 3) := by decide +kernel
theorem dX6_solve_78 : decode cX6_solve 78 = .ok (.aload_n 0, 1) := by decide +kernel
theorem dX6_solve_79 : decode cX6_solve 79 = .ok (.iload_n 1, 1) := by decide +kernel
theorem dX6_solve_80 : decode cX6_solve 80 = .ok (.invokevirtual 201, 3) := by decide +kernel
theorem dX6_solve_83 : decode cX6_solve 83 = .ok (.goto 23, 3) := by decide +kernel
theorem dX6_solve_86 : decode cX6_solve 86 = .ok (.aload_n 0, 1) := by decide +kernel
theorem dX6_solve_87 : decode cX6_solve 87 = .ok (.getfield 47, 3) := by decide +kernel
theorem dX6_solve_90 : decode cX6_solve 90 = .ok (.aload_n 0, 1) := by decide +kernel
theorem dX6_solve_91 : decode cX6_solve 91 = .ok (.getfield 185, 3) := by decide +kernel
theorem dX6_solve_94 : decode cX6_solve 94 = .ok (.iload_n 1, 1) := by decide +kernel
theorem dX6_solve_95 : decode cX6_solve 95 = .ok (.iastore, 1) := by decide +kernel
theorem dX6_solve_96 : decode cX6_solve 96 = .ok (.aload_n 0, 1) := by decide +kernel
theorem dX6_solve_97 : decode cX6_solve 97 = .ok (.dup, 1) := by decide +kernel
theorem dX6_solve_98 : decode cX6_solve 98 = .ok (.getfield 185, 3) := by decide +kernel
theorem dX6_solve_101 : decode cX6_solve 101 = .ok (.iconst 1, 1) := by decide +kernel
theorem dX6_solve_102 : decode cX6_solve 102 = .ok (.iadd, 1) := by decide +kernel
theorem dX6_solve_103 : decode cX6_solve 103 = .ok (.putfield 185, 3) := by decide +kernel
theorem dX6_solve_106 : decode cX6_solve 106 = .ok (.iinc 1 1, 3) := by decide +kernel
theorem dX6_solve_109 : decode cX6_solve 109 = .ok (.goto (-97), 3) := by decide +kernel
theorem dX6_solve_112 : decode cX6_solve 112 = .ok (.return_, 1) := by decide +kernel
theorem dX6_noteLeads_0 : decode cX6_noteLeads 0 = .ok (.iconst 0, 1) := by decide +kernel
theorem dX6_noteLeads_1 : decode cX6_noteLeads 1 = .ok (.istore_n 1, 1) := by decide +kernel
theorem dX6_noteLeads_2 : decode cX6_noteLeads 2 = .ok (.iload_n 1, 1) := by decide +kernel
theorem dX6_noteLeads_3 : decode cX6_noteLeads 3 = .ok (.aload_n 0, 1) := by decide +kernel
theorem dX6_noteLeads_4 : decode cX6_noteLeads 4 = .ok (.getfield 185, 3) := by decide +kernel
theorem dX6_noteLeads_7 : decode cX6_noteLeads 7 = .ok (.if_icmp .ge 21, 3) := by decide +kernel
theorem dX6_noteLeads_10 : decode cX6_noteLeads 10 = .ok (.aload_n 0, 1) := by decide +kernel
theorem dX6_noteLeads_11 : decode cX6_noteLeads 11 = .ok (.getfield 56, 3) := by decide +kernel
theorem dX6_noteLeads_14 : decode cX6_noteLeads 14 = .ok (.iload_n 1, 1) := by decide +kernel
theorem dX6_noteLeads_15 : decode cX6_noteLeads 15 = .ok (.aload_n 0, 1) := by decide +kernel
theorem dX6_noteLeads_16 : decode cX6_noteLeads 16 = .ok (.getfield 47, 3) := by decide +kernel
theorem dX6_noteLeads_19 : decode cX6_noteLeads 19 = .ok (.iload_n 1, 1) := by decide +kernel
theorem dX6_noteLeads_20 : decode cX6_noteLeads 20 = .ok (.iaload, 1) := by decide +kernel
theorem dX6_noteLeads_21 : decode cX6_noteLeads 21 = .ok (.iastore, 1) := by decide +kernel
theorem dX6_noteLeads_22 : decode cX6_noteLeads 22 = .ok (.iinc 1 1, 3) := by decide +kernel
theorem dX6_noteLeads_25 : decode cX6_noteLeads 25 = .ok (.goto (-23), 3) := by decide +kernel
theorem dX6_noteLeads_28 : decode cX6_noteLeads 28 = .ok (.return_, 1) := by decide +kernel
theorem dX6_kindCount_0 : decode cX6_kindCount 0 = .ok (.aload_n 0, 1) := by decide +kernel
theorem dX6_kindCount_1 : decode cX6_kindCount 1 = .ok (.getfield 109, 3) := by decide +kernel
theorem dX6_kindCount_4 : decode cX6_kindCount 4 = .ok (.aload_n 0, 1) := by decide +kernel
theorem dX6_kindCount_5 : decode cX6_kindCount 5 = .ok (.getfield 105, 3) := by decide +kernel
theorem dX6_kindCount_8 : decode cX6_kindCount 8 = .ok (.ifCond .eq 7, 3) := by decide +kernel
theorem dX6_kindCount_11 : decode cX6_kindCount 11 = .ok (.iconst 1, 1) := by decide +kernel
theorem dX6_kindCount_12 : decode cX6_kindCount 12 = .ok (.goto 4, 3) := by decide +kernel
theorem dX6_kindCount_15 : decode cX6_kindCount 15 = .ok (.iconst 0, 1) := by decide +kernel
theorem dX6_kindCount_16 : decode cX6_kindCount 16 = .ok (.iadd, 1) := by decide +kernel
theorem dX6_kindCount_17 : decode cX6_kindCount 17 = .ok (.ireturn, 1) := by decide +kernel
theorem dX6_rowsFor_0 : decode cX6_rowsFor 0 = .ok (.iconst 0, 1) := by decide +kernel
theorem dX6_rowsFor_1 : decode cX6_rowsFor 1 = .ok (.istore_n 2, 1) := by decide +kernel
theorem dX6_rowsFor_2 : decode cX6_rowsFor 2 = .ok (.iload_n 2, 1) := by decide +kernel
theorem dX6_rowsFor_3 : decode cX6_rowsFor 3 = .ok (.iconst 1, 1) := by decide +kernel
theorem dX6_rowsFor_4 : decode cX6_rowsFor 4 = .ok (.aload_n 0, 1) := by decide +kernel
theorem dX6_rowsFor_5 : decode cX6_rowsFor 5 = .ok (.invokevirtual 175, 3) := by decide +kernel
theorem dX6_rowsFor_8 : decode cX6_rowsFor 8 = .ok (.ishl, 1) := by decide +kernel
theorem dX6_rowsFor_9 : decode cX6_rowsFor 9 = .ok (.if_icmp .ge 30, 3) := by decide +kernel
theorem dX6_rowsFor_12 : decode cX6_rowsFor 12 = .ok (.iload_n 2, 1) := by decide +kernel
theorem dX6_rowsFor_13 : decode cX6_rowsFor 13 = .ok (.invokestatic 178, 3) := by decide +kernel
theorem dX6_rowsFor_16 : decode cX6_rowsFor 16 = .ok (.iload_n 1, 1) := by decide +kernel
theorem dX6_rowsFor_17 : decode cX6_rowsFor 17 = .ok (.if_icmp .ne 16, 3) := by decide +kernel
theorem dX6_rowsFor_20 : decode cX6_rowsFor 20 = .ok (.aload_n 0, 1) := by decide +kernel
theorem dX6_rowsFor_21 : decode cX6_rowsFor 21 = .ok (.iload_n 1, 1) := by decide +kernel
theorem dX6_rowsFor_22 : decode cX6_rowsFor 22 = .ok (.iload_n 2, 1) := by decide +kernel
theorem dX6_rowsFor_23 : decode cX6_rowsFor 23 = .ok (.invokevirtual 182, 3) := by decide +kernel
theorem dX6_rowsFor_26 : decode cX6_rowsFor 26 = .ok (.lconst 0, 1) := by decide +kernel
theorem dX6_rowsFor_27 : decode cX6_rowsFor 27 = .ok (.lcmp, 1) := by decide +kernel
theorem dX6_rowsFor_28 : decode cX6_rowsFor 28 = .ok (.ifCond .eq 5, 3) := by decide +kernel
theorem dX6_rowsFor_31 : decode cX6_rowsFor 31 = .ok (.iload_n 2, 1) := by decide +kernel
theorem dX6_rowsFor_32 : decode cX6_rowsFor 32 = .ok (.ireturn, 1) := by decide +kernel
theorem dX6_rowsFor_33 : decode cX6_rowsFor 33 = .ok (.iinc 2 1, 3) := by decide +kernel
theorem dX6_rowsFor_36 : decode cX6_rowsFor 36 = .ok (.goto (-34), 3) := by decide +kernel
theorem dX6_rowsFor_39 : decode cX6_rowsFor 39 = .ok (.iconst (-1), 1) := by decide +kernel
theorem dX6_rowsFor_40 : decode cX6_rowsFor 40 = .ok (.ireturn, 1) := by decide +kernel
theorem dX6_sizeOf_0 : decode cX6_sizeOf 0 = .ok (.iconst 0, 1) := by decide +kernel
theorem dX6_sizeOf_1 : decode cX6_sizeOf 1 = .ok (.istore_n 1, 1) := by decide +kernel
theorem dX6_sizeOf_2 : decode cX6_sizeOf 2 = .ok (.iconst 0, 1) := by decide +kernel
theorem dX6_sizeOf_3 : decode cX6_sizeOf 3 = .ok (.istore_n 2, 1) := by decide +kernel
theorem dX6_sizeOf_4 : decode cX6_sizeOf 4 = .ok (.iload_n 2, 1) := by decide +kernel
theorem dX6_sizeOf_5 : decode cX6_sizeOf 5 = .ok (.iconst 5, 1) := by decide +kernel
theorem dX6_sizeOf_6 : decode cX6_sizeOf 6 = .ok (.if_icmp .ge 17, 3) := by decide +kernel
theorem dX6_sizeOf_9 : decode cX6_sizeOf 9 = .ok (.iload_n 1, 1) := by decide +kernel
theorem dX6_sizeOf_10 : decode cX6_sizeOf 10 = .ok (.iload_n 0, 1) := by decide +kernel
theorem dX6_sizeOf_11 : decode cX6_sizeOf 11 = .ok (.iload_n 2, 1) := by decide +kernel
theorem dX6_sizeOf_12 : decode cX6_sizeOf 12 = .ok (.ishr, 1) := by decide +kernel
theorem dX6_sizeOf_13 : decode cX6_sizeOf 13 = .ok (.iconst 1, 1) := by decide +kernel
theorem dX6_sizeOf_14 : decode cX6_sizeOf 14 = .ok (.iand, 1) := by decide +kernel
theorem dX6_sizeOf_15 : decode cX6_sizeOf 15 = .ok (.iadd, 1) := by decide +kernel
theorem dX6_sizeOf_16 : decode cX6_sizeOf 16 = .ok (.istore_n 1, 1) := by decide +kernel
theorem dX6_sizeOf_17 : decode cX6_sizeOf 17 = .ok (.iinc 2 1, 3) := by decide +kernel
theorem dX6_sizeOf_20 : decode cX6_sizeOf 20 = .ok (.goto (-16), 3) := by decide +kernel
theorem dX6_sizeOf_23 : decode cX6_sizeOf 23 = .ok (.iload_n 1, 1) := by decide +kernel
theorem dX6_sizeOf_24 : decode cX6_sizeOf 24 = .ok (.ireturn, 1) := by decide +kernel
theorem dX6_determinant_0 : decode cX6_determinant 0 = .ok (.iconst 0, 1) := by decide +kernel
theorem dX6_determinant_1 : decode cX6_determinant 1 = .ok (.istore_n 3, 1) := by decide +kernel
theorem dX6_determinant_2 : decode cX6_determinant 2 = .ok (.iconst 0, 1) := by decide +kernel
theorem dX6_determinant_3 : decode cX6_determinant 3 = .ok (.istore 4, 2) := by decide +kernel
theorem dX6_determinant_5 : decode cX6_determinant 5 = .ok (.iload 4, 2) := by decide +kernel
theorem dX6_determinant_7 : decode cX6_determinant 7 = .ok (.iconst 5, 1) := by decide +kernel
theorem dX6_determinant_8 : decode cX6_determinant 8 = .ok (.if_icmp .ge 91, 3) := by decide +kernel
theorem dX6_determinant_11 : decode cX6_determinant 11 = .ok (.iload_n 3, 1) := by decide +kernel
theorem dX6_determinant_12 : decode cX6_determinant 12 = .ok (.iload_n 1, 1) := by decide +kernel
theorem dX6_determinant_13 : decode cX6_determinant 13 = .ok (.if_icmp .ge 86, 3) := by decide +kernel
theorem dX6_determinant_16 : decode cX6_determinant 16 = .ok (.iload_n 2, 1) := by decide +kernel
theorem dX6_determinant_17 : decode cX6_determinant 17 = .ok (.iload 4, 2) := by decide +kernel
theorem dX6_determinant_19 : decode cX6_determinant 19 = .ok (.ishr, 1) := by decide +kernel
theorem dX6_determinant_20 : decode cX6_determinant 20 = .ok (.iconst 1, 1) := by decide +kernel
theorem dX6_determinant_21 : decode cX6_determinant 21 = .ok (.iand, 1) := by decide +kernel
theorem dX6_determinant_22 : decode cX6_determinant 22 = .ok (.iconst 1, 1) := by decide +kernel
theorem dX6_determinant_23 : decode cX6_determinant 23 = .ok (.if_icmp .ne 70, 3) := by decide +kernel
theorem dX6_determinant_26 : decode cX6_determinant 26 = .ok (.iconst 0, 1) := by decide +kernel
theorem dX6_determinant_27 : decode cX6_determinant 27 = .ok (.istore 5, 2) := by decide +kernel
theorem dX6_determinant_29 : decode cX6_determinant 29 = .ok (.iload 5, 2) := by decide +kernel
theorem dX6_determinant_31 : decode cX6_determinant 31 = .ok (.iload_n 1, 1) := by decide +kernel
theorem dX6_determinant_32 : decode cX6_determinant 32 = .ok (.if_icmp .ge 58, 3) := by decide +kernel
theorem dX6_determinant_35 : decode cX6_determinant 35 = .ok (.aload_n 0, 1) := by decide +kernel
theorem dX6_determinant_36 : decode cX6_determinant 36 = .ok (.aload_n 0, 1) := by decide +kernel
theorem dX6_determinant_37 : decode cX6_determinant 37 = .ok (.getfield 56, 3) := by decide +kernel
theorem dX6_determinant_40 : decode cX6_determinant 40 = .ok (.iload 5, 2) := by decide +kernel
theorem dX6_determinant_42 : decode cX6_determinant 42 = .ok (.iaload, 1) := by decide +kernel
theorem dX6_determinant_43 : decode cX6_determinant 43 = .ok (.iload 4, 2) := by decide +kernel
theorem dX6_determinant_45 : decode cX6_determinant 45 = .ok (.invokevirtual 171, 3) := by decide +kernel
theorem dX6_determinant_48 : decode cX6_determinant 48 = .ok (.lstore 6, 2) := by decide +kernel
theorem dX6_determinant_50 : decode cX6_determinant 50 = .ok (.aload_n 0, 1) := by decide +kernel
theorem dX6_determinant_51 : decode cX6_determinant 51 = .ok (.getfield 59, 3) := by decide +kernel
theorem dX6_determinant_54 : decode cX6_determinant 54 = .ok (.iconst 5, 1) := by decide +kernel
theorem dX6_determinant_55 : decode cX6_determinant 55 = .ok (.iload_n 3, 1) := by decide +kernel
theorem dX6_determinant_56 : decode cX6_determinant 56 = .ok (.imul, 1) := by decide +kernel
theorem dX6_determinant_57 : decode cX6_determinant 57 = .ok (.iload 5, 2) := by decide +kernel
theorem dX6_determinant_59 : decode cX6_determinant 59 = .ok (.iadd, 1) := by decide +kernel
theorem dX6_determinant_60 : decode cX6_determinant 60 = .ok (.aload_n 0, 1) := by decide +kernel
theorem dX6_determinant_61 : decode cX6_determinant 61 = .ok (.getfield 27, 3) := by decide +kernel
theorem dX6_determinant_64 : decode cX6_determinant 64 = .ok (.aload_n 0, 1) := by decide +kernel
theorem dX6_determinant_65 : decode cX6_determinant 65 = .ok (.getfield 56, 3) := by decide +kernel
theorem dX6_determinant_68 : decode cX6_determinant 68 = .ok (.iload 5, 2) := by decide +kernel
theorem dX6_determinant_70 : decode cX6_determinant 70 = .ok (.iaload, 1) := by decide +kernel
theorem dX6_determinant_71 : decode cX6_determinant 71 = .ok (.baload, 1) := by decide +kernel
theorem dX6_determinant_72 : decode cX6_determinant 72 = .ok (.ifCond .eq 9, 3) := by decide +kernel
theorem dX6_determinant_75 : decode cX6_determinant 75 = .ok (.lload 6, 2) := by decide +kernel
theorem dX6_determinant_77 : decode cX6_determinant 77 = .ok (.lneg, 1) := by decide +kernel
theorem dX6_determinant_78 : decode cX6_determinant 78 = .ok (.goto 5, 3) := by decide +kernel
theorem dX6_determinant_81 : decode cX6_determinant 81 = .ok (.lload 6, 2) := by decide +kernel
theorem dX6_determinant_83 : decode cX6_determinant 83 = .ok (.lastore, 1) := by decide +kernel
theorem dX6_determinant_84 : decode cX6_determinant 84 = .ok (.iinc 5 1, 3) := by decide +kernel
theorem dX6_determinant_87 : decode cX6_determinant 87 = .ok (.goto (-58), 3) := by decide +kernel
theorem dX6_determinant_90 : decode cX6_determinant 90 = .ok (.iinc 3 1, 3) := by decide +kernel
theorem dX6_determinant_93 : decode cX6_determinant 93 = .ok (.iinc 4 1, 3) := by decide +kernel
theorem dX6_determinant_96 : decode cX6_determinant 96 = .ok (.goto (-91), 3) := by decide +kernel
theorem dX6_determinant_99 : decode cX6_determinant 99 = .ok (.lconst 1, 1) := by decide +kernel
theorem dX6_determinant_100 : decode cX6_determinant 100 = .ok (.lstore 4, 2) := by decide +kernel
theorem dX6_determinant_102 : decode cX6_determinant 102 = .ok (.lconst 1, 1) := by decide +kernel
theorem dX6_determinant_103 : decode cX6_determinant 103 = .ok (.lstore 6, 2) := by decide +kernel
theorem dX6_determinant_105 : decode cX6_determinant 105 = .ok (.iconst 0, 1) := by decide +kernel
theorem dX6_determinant_106 : decode cX6_determinant 106 = .ok (.istore 8, 2) := by decide +kernel
theorem dX6_determinant_108 : decode cX6_determinant 108 = .ok (.iload 8, 2) := by decide +kernel
theorem dX6_determinant_110 : decode cX6_determinant 110 = .ok (.iconst 1, 1) := by decide +kernel
theorem dX6_determinant_111 : decode cX6_determinant 111 = .ok (.iadd, 1) := by decide +kernel
theorem dX6_determinant_112 : decode cX6_determinant 112 = .ok (.iload_n 1, 1) := by decide +kernel
theorem dX6_determinant_113 : decode cX6_determinant 113 = .ok (.if_icmp .ge 257, 3) := by decide +kernel
theorem dX6_determinant_116 : decode cX6_determinant 116 = .ok (.iload 8, 2) := by decide +kernel
theorem dX6_determinant_118 : decode cX6_determinant 118 = .ok (.istore 9, 2) := by decide +kernel
theorem dX6_determinant_120 : decode cX6_determinant 120 = .ok (.iload 9, 2) := by decide +kernel
theorem dX6_determinant_122 : decode cX6_determinant 122 = .ok (.iload_n 1, 1) := by decide +kernel
theorem dX6_determinant_123 : decode cX6_determinant 123 = .ok (.if_icmp .ge 26, 3) := by decide +kernel
theorem dX6_determinant_126 : decode cX6_determinant 126 = .ok (.aload_n 0, 1) := by decide +kernel
theorem dX6_determinant_127 : decode cX6_determinant 127 = .ok (.getfield 59, 3) := by decide +kernel
theorem dX6_determinant_130 : decode cX6_determinant 130 = .ok (.iconst 5, 1) := by decide +kernel
theorem dX6_determinant_131 : decode cX6_determinant 131 = .ok (.iload 9, 2) := by decide +kernel
theorem dX6_determinant_133 : decode cX6_determinant 133 = .ok (.imul, 1) := by decide +kernel
theorem dX6_determinant_134 : decode cX6_determinant 134 = .ok (.iload 8, 2) := by decide +kernel
theorem dX6_determinant_136 : decode cX6_determinant 136 = .ok (.iadd, 1) := by decide +kernel
theorem dX6_determinant_137 : decode cX6_determinant 137 = .ok (.laload, 1) := by decide +kernel
theorem dX6_determinant_138 : decode cX6_determinant 138 = .ok (.lconst 0, 1) := by decide +kernel
theorem dX6_determinant_139 : decode cX6_determinant 139 = .ok (.lcmp, 1) := by decide +kernel
theorem dX6_determinant_140 : decode cX6_determinant 140 = .ok (.ifCond .ne 9, 3) := by decide +kernel
theorem dX6_determinant_143 : decode cX6_determinant 143 = .ok (.iinc 9 1, 3) := by decide +kernel
theorem dX6_determinant_146 : decode cX6_determinant 146 = .ok (.goto (-26), 3) := by decide +kernel
theorem dX6_determinant_149 : decode cX6_determinant 149 = .ok (.iload 9, 2) := by decide +kernel
theorem dX6_determinant_151 : decode cX6_determinant 151 = .ok (.iload_n 1, 1) := by decide +kernel
theorem dX6_determinant_152 : decode cX6_determinant 152 = .ok (.if_icmp .ne 5, 3) := by decide +kernel
theorem dX6_determinant_155 : decode cX6_determinant 155 = .ok (.lconst 0, 1) := by decide +kernel
theorem dX6_determinant_156 : decode cX6_determinant 156 = .ok (.lreturn, 1) := by decide +kernel
theorem dX6_determinant_157 : decode cX6_determinant 157 = .ok (.iconst 0, 1) := by decide +kernel
theorem dX6_determinant_158 : decode cX6_determinant 158 = .ok (.istore 10, 2) := by decide +kernel
theorem dX6_determinant_160 : decode cX6_determinant 160 = .ok (.iload 10, 2) := by decide +kernel
theorem dX6_determinant_162 : decode cX6_determinant 162 = .ok (.iload_n 1, 1) := by decide +kernel
theorem dX6_determinant_163 : decode cX6_determinant 163 = .ok (.if_icmp .ge 68, 3) := by decide +kernel
theorem dX6_determinant_166 : decode cX6_determinant 166 = .ok (.iload 9, 2) := by decide +kernel
theorem dX6_determinant_168 : decode cX6_determinant 168 = .ok (.iload 8, 2) := by decide +kernel
theorem dX6_determinant_170 : decode cX6_determinant 170 = .ok (.if_icmp .le 61, 3) := by decide +kernel
theorem dX6_determinant_173 : decode cX6_determinant 173 = .ok (.aload_n 0, 1) := by decide +kernel
theorem dX6_determinant_174 : decode cX6_determinant 174 = .ok (.getfield 59, 3) := by decide +kernel
theorem dX6_determinant_177 : decode cX6_determinant 177 = .ok (.iconst 5, 1) := by decide +kernel
theorem dX6_determinant_178 : decode cX6_determinant 178 = .ok (.iload 8, 2) := by decide +kernel
theorem dX6_determinant_180 : decode cX6_determinant 180 = .ok (.imul, 1) := by decide +kernel
theorem dX6_determinant_181 : decode cX6_determinant 181 = .ok (.iload 10, 2) := by decide +kernel
theorem dX6_determinant_183 : decode cX6_determinant 183 = .ok (.iadd, 1) := by decide +kernel
theorem dX6_determinant_184 : decode cX6_determinant 184 = .ok (.laload, 1) := by decide +kernel
theorem dX6_determinant_185 : decode cX6_determinant 185 = .ok (.lstore 11, 2) := by decide +kernel
theorem dX6_determinant_187 : decode cX6_determinant 187 = .ok (.aload_n 0, 1) := by decide +kernel
theorem dX6_determinant_188 : decode cX6_determinant 188 = .ok (.getfield 59, 3) := by decide +kernel
theorem dX6_determinant_191 : decode cX6_determinant 191 = .ok (.iconst 5, 1) := by decide +kernel
theorem dX6_determinant_192 : decode cX6_determinant 192 = .ok (.iload 8, 2) := by decide +kernel
theorem dX6_determinant_194 : decode cX6_determinant 194 = .ok (.imul, 1) := by decide +kernel
theorem dX6_determinant_195 : decode cX6_determinant 195 = .ok (.iload 10, 2) := by decide +kernel
theorem dX6_determinant_197 : decode cX6_determinant 197 = .ok (.iadd, 1) := by decide +kernel
theorem dX6_determinant_198 : decode cX6_determinant 198 = .ok (.aload_n 0, 1) := by decide +kernel
theorem dX6_determinant_199 : decode cX6_determinant 199 = .ok (.getfield 59, 3) := by decide +kernel
theorem dX6_determinant_202 : decode cX6_determinant 202 = .ok (.iconst 5, 1) := by decide +kernel
theorem dX6_determinant_203 : decode cX6_determinant 203 = .ok (.iload 9, 2) := by decide +kernel
theorem dX6_determinant_205 : decode cX6_determinant 205 = .ok (.imul, 1) := by decide +kernel
theorem dX6_determinant_206 : decode cX6_determinant 206 = .ok (.iload 10, 2) := by decide +kernel
theorem dX6_determinant_208 : decode cX6_determinant 208 = .ok (.iadd, 1) := by decide +kernel
theorem dX6_determinant_209 : decode cX6_determinant 209 = .ok (.laload, 1) := by decide +kernel
theorem dX6_determinant_210 : decode cX6_determinant 210 = .ok (.lastore, 1) := by decide +kernel
theorem dX6_determinant_211 : decode cX6_determinant 211 = .ok (.aload_n 0, 1) := by decide +kernel
theorem dX6_determinant_212 : decode cX6_determinant 212 = .ok (.getfield 59, 3) := by decide +kernel
theorem dX6_determinant_215 : decode cX6_determinant 215 = .ok (.iconst 5, 1) := by decide +kernel
theorem dX6_determinant_216 : decode cX6_determinant 216 = .ok (.iload 9, 2) := by decide +kernel
theorem dX6_determinant_218 : decode cX6_determinant 218 = .ok (.imul, 1) := by decide +kernel
theorem dX6_determinant_219 : decode cX6_determinant 219 = .ok (.iload 10, 2) := by decide +kernel
theorem dX6_determinant_221 : decode cX6_determinant 221 = .ok (.iadd, 1) := by decide +kernel
theorem dX6_determinant_222 : decode cX6_determinant 222 = .ok (.lload 11, 2) := by decide +kernel
theorem dX6_determinant_224 : decode cX6_determinant 224 = .ok (.lastore, 1) := by decide +kernel
theorem dX6_determinant_225 : decode cX6_determinant 225 = .ok (.iinc 10 1, 3) := by decide +kernel
theorem dX6_determinant_228 : decode cX6_determinant 228 = .ok (.goto (-68), 3) := by decide +kernel
theorem dX6_determinant_231 : decode cX6_determinant 231 = .ok (.iload 9, 2) := by decide +kernel
theorem dX6_determinant_233 : decode cX6_determinant 233 = .ok (.iload 8, 2) := by decide +kernel
theorem dX6_determinant_235 : decode cX6_determinant 235 = .ok (.if_icmp .le 9, 3) := by decide +kernel
theorem dX6_determinant_238 : decode cX6_determinant 238 = .ok (.lload 6, 2) := by decide +kernel
theorem dX6_determinant_240 : decode cX6_determinant 240 = .ok (.lneg, 1) := by decide +kernel
theorem dX6_determinant_241 : decode cX6_determinant 241 = .ok (.goto 5, 3) := by decide +kernel
theorem dX6_determinant_244 : decode cX6_determinant 244 = .ok (.lload 6, 2) := by decide +kernel
theorem dX6_determinant_246 : decode cX6_determinant 246 = .ok (.lstore 6, 2) := by decide +kernel
theorem dX6_determinant_248 : decode cX6_determinant 248 = .ok (.iload 8, 2) := by decide +kernel
theorem dX6_determinant_250 : decode cX6_determinant 250 = .ok (.iconst 1, 1) := by decide +kernel
theorem dX6_determinant_251 : decode cX6_determinant 251 = .ok (.iadd, 1) := by decide +kernel
theorem dX6_determinant_252 : decode cX6_determinant 252 = .ok (.istore 10, 2) := by decide +kernel
theorem dX6_determinant_254 : decode cX6_determinant 254 = .ok (.iload 10, 2) := by decide +kernel
theorem dX6_determinant_256 : decode cX6_determinant 256 = .ok (.iload_n 1, 1) := by decide +kernel
theorem dX6_determinant_257 : decode cX6_determinant 257 = .ok (.if_icmp .ge 93, 3) := by decide +kernel
theorem dX6_determinant_260 : decode cX6_determinant 260 = .ok (.iload 8, 2) := by decide +kernel
theorem dX6_determinant_262 : decode cX6_determinant 262 = .ok (.iconst 1, 1) := by decide +kernel
theorem dX6_determinant_263 : decode cX6_determinant 263 = .ok (.iadd, 1) := by decide +kernel
theorem dX6_determinant_264 : decode cX6_determinant 264 = .ok (.istore 11, 2) := by decide +kernel
theorem dX6_determinant_266 : decode cX6_determinant 266 = .ok (.iload 11, 2) := by decide +kernel
theorem dX6_determinant_268 : decode cX6_determinant 268 = .ok (.iload_n 1, 1) := by decide +kernel
theorem dX6_determinant_269 : decode cX6_determinant 269 = .ok (.if_icmp .ge 75, 3) := by decide +kernel
theorem dX6_determinant_272 : decode cX6_determinant 272 = .ok (.aload_n 0, 1) := by decide +kernel
theorem dX6_determinant_273 : decode cX6_determinant 273 = .ok (.getfield 59, 3) := by decide +kernel
theorem dX6_determinant_276 : decode cX6_determinant 276 = .ok (.iconst 5, 1) := by decide +kernel
theorem dX6_determinant_277 : decode cX6_determinant 277 = .ok (.iload 10, 2) := by decide +kernel
theorem dX6_determinant_279 : decode cX6_determinant 279 = .ok (.imul, 1) := by decide +kernel
theorem dX6_determinant_280 : decode cX6_determinant 280 = .ok (.iload 11, 2) := by decide +kernel
theorem dX6_determinant_282 : decode cX6_determinant 282 = .ok (.iadd, 1) := by decide +kernel
theorem dX6_determinant_283 : decode cX6_determinant 283 = .ok (.aload_n 0, 1) := by decide +kernel
theorem dX6_determinant_284 : decode cX6_determinant 284 = .ok (.getfield 59, 3) := by decide +kernel
theorem dX6_determinant_287 : decode cX6_determinant 287 = .ok (.iconst 5, 1) := by decide +kernel
theorem dX6_determinant_288 : decode cX6_determinant 288 = .ok (.iload 10, 2) := by decide +kernel
theorem dX6_determinant_290 : decode cX6_determinant 290 = .ok (.imul, 1) := by decide +kernel
theorem dX6_determinant_291 : decode cX6_determinant 291 = .ok (.iload 11, 2) := by decide +kernel
theorem dX6_determinant_293 : decode cX6_determinant 293 = .ok (.iadd, 1) := by decide +kernel
theorem dX6_determinant_294 : decode cX6_determinant 294 = .ok (.laload, 1) := by decide +kernel
theorem dX6_determinant_295 : decode cX6_determinant 295 = .ok (.aload_n 0, 1) := by decide +kernel
theorem dX6_determinant_296 : decode cX6_determinant 296 = .ok (.getfield 59, 3) := by decide +kernel
theorem dX6_determinant_299 : decode cX6_determinant 299 = .ok (.iconst 5, 1) := by decide +kernel
theorem dX6_determinant_300 : decode cX6_determinant 300 = .ok (.iload 8, 2) := by decide +kernel
theorem dX6_determinant_302 : decode cX6_determinant 302 = .ok (.imul, 1) := by decide +kernel
theorem dX6_determinant_303 : decode cX6_determinant 303 = .ok (.iload 8, 2) := by decide +kernel
theorem dX6_determinant_305 : decode cX6_determinant 305 = .ok (.iadd, 1) := by decide +kernel
theorem dX6_determinant_306 : decode cX6_determinant 306 = .ok (.laload, 1) := by decide +kernel
theorem dX6_determinant_307 : decode cX6_determinant 307 = .ok (.lmul, 1) := by decide +kernel
theorem dX6_determinant_308 : decode cX6_determinant 308 = .ok (.aload_n 0, 1) := by decide +kernel
theorem dX6_determinant_309 : decode cX6_determinant 309 = .ok (.getfield 59, 3) := by decide +kernel
theorem dX6_determinant_312 : decode cX6_determinant 312 = .ok (.iconst 5, 1) := by decide +kernel
theorem dX6_determinant_313 : decode cX6_determinant 313 = .ok (.iload 10, 2) := by decide +kernel
theorem dX6_determinant_315 : decode cX6_determinant 315 = .ok (.imul, 1) := by decide +kernel
theorem dX6_determinant_316 : decode cX6_determinant 316 = .ok (.iload 8, 2) := by decide +kernel
theorem dX6_determinant_318 : decode cX6_determinant 318 = .ok (.iadd, 1) := by decide +kernel
theorem dX6_determinant_319 : decode cX6_determinant 319 = .ok (.laload, 1) := by decide +kernel
theorem dX6_determinant_320 : decode cX6_determinant 320 = .ok (.aload_n 0, 1) := by decide +kernel
theorem dX6_determinant_321 : decode cX6_determinant 321 = .ok (.getfield 59, 3) := by decide +kernel
theorem dX6_determinant_324 : decode cX6_determinant 324 = .ok (.iconst 5, 1) := by decide +kernel
theorem dX6_determinant_325 : decode cX6_determinant 325 = .ok (.iload 8, 2) := by decide +kernel
theorem dX6_determinant_327 : decode cX6_determinant 327 = .ok (.imul, 1) := by decide +kernel
theorem dX6_determinant_328 : decode cX6_determinant 328 = .ok (.iload 11, 2) := by decide +kernel
theorem dX6_determinant_330 : decode cX6_determinant 330 = .ok (.iadd, 1) := by decide +kernel
theorem dX6_determinant_331 : decode cX6_determinant 331 = .ok (.laload, 1) := by decide +kernel
theorem dX6_determinant_332 : decode cX6_determinant 332 = .ok (.lmul, 1) := by decide +kernel
theorem dX6_determinant_333 : decode cX6_determinant 333 = .ok (.lsub, 1) := by decide +kernel
theorem dX6_determinant_334 : decode cX6_determinant 334 = .ok (.lload 4, 2) := by decide +kernel
theorem dX6_determinant_336 : decode cX6_determinant 336 = .ok (.ldiv, 1) := by decide +kernel
theorem dX6_determinant_337 : decode cX6_determinant 337 = .ok (.lastore, 1) := by decide +kernel
theorem dX6_determinant_338 : decode cX6_determinant 338 = .ok (.iinc 11 1, 3) := by decide +kernel
theorem dX6_determinant_341 : decode cX6_determinant 341 = .ok (.goto (-75), 3) := by decide +kernel
theorem dX6_determinant_344 : decode cX6_determinant 344 = .ok (.iinc 10 1, 3) := by decide +kernel
theorem dX6_determinant_347 : decode cX6_determinant 347 = .ok (.goto (-93), 3) := by decide +kernel
theorem dX6_determinant_350 : decode cX6_determinant 350 = .ok (.aload_n 0, 1) := by decide +kernel
theorem dX6_determinant_351 : decode cX6_determinant 351 = .ok (.getfield 59, 3) := by decide +kernel
theorem dX6_determinant_354 : decode cX6_determinant 354 = .ok (.iconst 5, 1) := by decide +kernel
theorem dX6_determinant_355 : decode cX6_determinant 355 = .ok (.iload 8, 2) := by decide +kernel
theorem dX6_determinant_357 : decode cX6_determinant 357 = .ok (.imul, 1) := by decide +kernel
theorem dX6_determinant_358 : decode cX6_determinant 358 = .ok (.iload 8, 2) := by decide +kernel
theorem dX6_determinant_360 : decode cX6_determinant 360 = .ok (.iadd, 1) := by decide +kernel
theorem dX6_determinant_361 : decode cX6_determinant 361 = .ok (.laload, 1) := by decide +kernel
theorem dX6_determinant_362 : decode cX6_determinant 362 = .ok (.lstore 4, 2) := by decide +kernel
theorem dX6_determinant_364 : decode cX6_determinant 364 = .ok (.iinc 8 1, 3) := by decide +kernel
theorem dX6_determinant_367 : decode cX6_determinant 367 = .ok (.goto (-259), 3) := by decide +kernel
theorem dX6_determinant_370 : decode cX6_determinant 370 = .ok (.iload_n 1, 1) := by decide +kernel
theorem dX6_determinant_371 : decode cX6_determinant 371 = .ok (.ifCond .ne 7, 3) := by decide +kernel
theorem dX6_determinant_374 : decode cX6_determinant 374 = .ok (.lconst 1, 1) := by decide +kernel
theorem dX6_determinant_375 : decode cX6_determinant 375 = .ok (.goto 20, 3) := by decide +kernel
theorem dX6_determinant_378 : decode cX6_determinant 378 = .ok (.lload 6, 2) := by decide +kernel
theorem dX6_determinant_380 : decode cX6_determinant 380 = .ok (.aload_n 0, 1) := by decide +kernel
theorem dX6_determinant_381 : decode cX6_determinant 381 = .ok (.getfield 59, 3) := by decide +kernel
theorem dX6_determinant_384 : decode cX6_determinant 384 = .ok (.iconst 5, 1) := by decide +kernel
theorem dX6_determinant_385 : decode cX6_determinant 385 = .ok (.iload_n 1, 1) := by decide +kernel
theorem dX6_determinant_386 : decode cX6_determinant 386 = .ok (.imul, 1) := by decide +kernel
theorem dX6_determinant_387 : decode cX6_determinant 387 = .ok (.iconst 5, 1) := by decide +kernel
theorem dX6_determinant_388 : decode cX6_determinant 388 = .ok (.isub, 1) := by decide +kernel
theorem dX6_determinant_389 : decode cX6_determinant 389 = .ok (.iload_n 1, 1) := by decide +kernel
theorem dX6_determinant_390 : decode cX6_determinant 390 = .ok (.iadd, 1) := by decide +kernel
theorem dX6_determinant_391 : decode cX6_determinant 391 = .ok (.iconst 1, 1) := by decide +kernel
theorem dX6_determinant_392 : decode cX6_determinant 392 = .ok (.isub, 1) := by decide +kernel
theorem dX6_determinant_393 : decode cX6_determinant 393 = .ok (.laload, 1) := by decide +kernel
theorem dX6_determinant_394 : decode cX6_determinant 394 = .ok (.lmul, 1) := by decide +kernel
theorem dX6_determinant_395 : decode cX6_determinant 395 = .ok (.lreturn, 1) := by decide +kernel
theorem dX6_hasOf_0 : decode cX6_hasOf 0 = .ok (.iload_n 2, 1) := by decide +kernel
theorem dX6_hasOf_1 : decode cX6_hasOf 1 = .ok (.aload_n 0, 1) := by decide +kernel
theorem dX6_hasOf_2 : decode cX6_hasOf 2 = .ok (.getfield 109, 3) := by decide +kernel
theorem dX6_hasOf_5 : decode cX6_hasOf 5 = .ok (.if_icmp .ge 16, 3) := by decide +kernel
theorem dX6_hasOf_8 : decode cX6_hasOf 8 = .ok (.aload_n 0, 1) := by decide +kernel
theorem dX6_hasOf_9 : decode cX6_hasOf 9 = .ok (.getfield 35, 3) := by decide +kernel
theorem dX6_hasOf_12 : decode cX6_hasOf 12 = .ok (.iconst 5, 1) := by decide +kernel
theorem dX6_hasOf_13 : decode cX6_hasOf 13 = .ok (.iload_n 1, 1) := by decide +kernel
theorem dX6_hasOf_14 : decode cX6_hasOf 14 = .ok (.imul, 1) := by decide +kernel
theorem dX6_hasOf_15 : decode cX6_hasOf 15 = .ok (.iload_n 2, 1) := by decide +kernel
theorem dX6_hasOf_16 : decode cX6_hasOf 16 = .ok (.iadd, 1) := by decide +kernel
theorem dX6_hasOf_17 : decode cX6_hasOf 17 = .ok (.laload, 1) := by decide +kernel
theorem dX6_hasOf_18 : decode cX6_hasOf 18 = .ok (.goto 9, 3) := by decide +kernel
theorem dX6_hasOf_21 : decode cX6_hasOf 21 = .ok (.aload_n 0, 1) := by decide +kernel
theorem dX6_hasOf_22 : decode cX6_hasOf 22 = .ok (.getfield 31, 3) := by decide +kernel
theorem dX6_hasOf_25 : decode cX6_hasOf 25 = .ok (.iload_n 1, 1) := by decide +kernel
theorem dX6_hasOf_26 : decode cX6_hasOf 26 = .ok (.laload, 1) := by decide +kernel
theorem dX6_hasOf_27 : decode cX6_hasOf 27 = .ok (.lreturn, 1) := by decide +kernel
theorem dX6_makeBase_0 : decode cX6_makeBase 0 = .ok (.iconst 0, 1) := by decide +kernel
theorem dX6_makeBase_1 : decode cX6_makeBase 1 = .ok (.istore_n 2, 1) := by decide +kernel
theorem dX6_makeBase_2 : decode cX6_makeBase 2 = .ok (.iload_n 2, 1) := by decide +kernel
theorem dX6_makeBase_3 : decode cX6_makeBase 3 = .ok (.bipush 6, 2) := by decide +kernel
theorem dX6_makeBase_5 : decode cX6_makeBase 5 = .ok (.if_icmp .ge 24, 3) := by decide +kernel
theorem dX6_makeBase_8 : decode cX6_makeBase 8 = .ok (.aload_n 0, 1) := by decide +kernel
theorem dX6_makeBase_9 : decode cX6_makeBase 9 = .ok (.getfield 53, 3) := by decide +kernel
theorem dX6_makeBase_12 : decode cX6_makeBase 12 = .ok (.bipush 6, 2) := by decide +kernel
theorem dX6_makeBase_14 : decode cX6_makeBase 14 = .ok (.aload_n 0, 1) := by decide +kernel
theorem dX6_makeBase_15 : decode cX6_makeBase 15 = .ok (.getfield 188, 3) := by decide +kernel
theorem dX6_makeBase_18 : decode cX6_makeBase 18 = .ok (.imul, 1) := by decide +kernel
theorem dX6_makeBase_19 : decode cX6_makeBase 19 = .ok (.iload_n 2, 1) := by decide +kernel
theorem dX6_makeBase_20 : decode cX6_makeBase 20 = .ok (.iadd, 1) := by decide +kernel
theorem dX6_makeBase_21 : decode cX6_makeBase 21 = .ok (.lconst 0, 1) := by decide +kernel
theorem dX6_makeBase_22 : decode cX6_makeBase 22 = .ok (.lastore, 1) := by decide +kernel
theorem dX6_makeBase_23 : decode cX6_makeBase 23 = .ok (.iinc 2 1, 3) := by decide +kernel
theorem dX6_makeBase_26 : decode cX6_makeBase 26 = .ok (.goto (-24), 3) := by decide +kernel
theorem dX6_makeBase_29 : decode cX6_makeBase 29 = .ok (.aload_n 0, 1) := by decide +kernel
theorem dX6_makeBase_30 : decode cX6_makeBase 30 = .ok (.invokevirtual 191, 3) := by decide +kernel
theorem dX6_makeBase_33 : decode cX6_makeBase 33 = .ok (.aload_n 0, 1) := by decide +kernel
theorem dX6_makeBase_34 : decode cX6_makeBase 34 = .ok (.aload_n 0, 1) := by decide +kernel
theorem dX6_makeBase_35 : decode cX6_makeBase 35 = .ok (.getfield 185, 3) := by decide +kernel
theorem dX6_makeBase_38 : decode cX6_makeBase 38 = .ok (.invokevirtual 194, 3) := by decide +kernel
theorem dX6_makeBase_41 : decode cX6_makeBase 41 = .ok (.istore_n 2, 1) := by decide +kernel
theorem dX6_makeBase_42 : decode cX6_makeBase 42 = .ok (.aload_n 0, 1) := by decide +kernel
theorem dX6_makeBase_43 : decode cX6_makeBase 43 = .ok (.aload_n 0, 1) := by decide +kernel
theorem dX6_makeBase_44 : decode cX6_makeBase 44 = .ok (.getfield 185, 3) := by decide +kernel
theorem dX6_makeBase_47 : decode cX6_makeBase 47 = .ok (.iload_n 2, 1) := by decide +kernel
theorem dX6_makeBase_48 : decode cX6_makeBase 48 = .ok (.invokevirtual 182, 3) := by decide +kernel
theorem dX6_makeBase_51 : decode cX6_makeBase 51 = .ok (.lstore_n 3, 1) := by decide +kernel
theorem dX6_makeBase_52 : decode cX6_makeBase 52 = .ok (.lload_n 3, 1) := by decide +kernel
theorem dX6_makeBase_53 : decode cX6_makeBase 53 = .ok (.lstore 5, 2) := by decide +kernel
theorem dX6_makeBase_55 : decode cX6_makeBase 55 = .ok (.aload_n 0, 1) := by decide +kernel
theorem dX6_makeBase_56 : decode cX6_makeBase 56 = .ok (.getfield 53, 3) := by decide +kernel
theorem dX6_makeBase_59 : decode cX6_makeBase 59 = .ok (.bipush 6, 2) := by decide +kernel
theorem dX6_makeBase_61 : decode cX6_makeBase 61 = .ok (.aload_n 0, 1) := by decide +kernel
theorem dX6_makeBase_62 : decode cX6_makeBase 62 = .ok (.getfield 188, 3) := by decide +kernel
theorem dX6_makeBase_65 : decode cX6_makeBase 65 = .ok (.imul, 1) := by decide +kernel
theorem dX6_makeBase_66 : decode cX6_makeBase 66 = .ok (.iload_n 1, 1) := by decide +kernel
theorem dX6_makeBase_67 : decode cX6_makeBase 67 = .ok (.iadd, 1) := by decide +kernel
theorem dX6_makeBase_68 : decode cX6_makeBase 68 = .ok (.lload_n 3, 1) := by decide +kernel
theorem dX6_makeBase_69 : decode cX6_makeBase 69 = .ok (.lastore, 1) := by decide +kernel
theorem dX6_makeBase_70 : decode cX6_makeBase 70 = .ok (.iconst 0, 1) := by decide +kernel
theorem dX6_makeBase_71 : decode cX6_makeBase 71 = .ok (.istore 7, 2) := by decide +kernel
theorem dX6_makeBase_73 : decode cX6_makeBase 73 = .ok (.iload 7, 2) := by decide +kernel
theorem dX6_makeBase_75 : decode cX6_makeBase 75 = .ok (.aload_n 0, 1) := by decide +kernel
theorem dX6_makeBase_76 : decode cX6_makeBase 76 = .ok (.getfield 185, 3) := by decide +kernel
theorem dX6_makeBase_79 : decode cX6_makeBase 79 = .ok (.if_icmp .ge 64, 3) := by decide +kernel
theorem dX6_makeBase_82 : decode cX6_makeBase 82 = .ok (.aload_n 0, 1) := by decide +kernel
theorem dX6_makeBase_83 : decode cX6_makeBase 83 = .ok (.invokevirtual 191, 3) := by decide +kernel
theorem dX6_makeBase_86 : decode cX6_makeBase 86 = .ok (.aload_n 0, 1) := by decide +kernel
theorem dX6_makeBase_87 : decode cX6_makeBase 87 = .ok (.getfield 56, 3) := by decide +kernel
theorem dX6_makeBase_90 : decode cX6_makeBase 90 = .ok (.iload 7, 2) := by decide +kernel
theorem dX6_makeBase_92 : decode cX6_makeBase 92 = .ok (.iload_n 1, 1) := by decide +kernel
theorem dX6_makeBase_93 : decode cX6_makeBase 93 = .ok (.iastore, 1) := by decide +kernel
theorem dX6_makeBase_94 : decode cX6_makeBase 94 = .ok (.aload_n 0, 1) := by decide +kernel
theorem dX6_makeBase_95 : decode cX6_makeBase 95 = .ok (.aload_n 0, 1) := by decide +kernel
theorem dX6_makeBase_96 : decode cX6_makeBase 96 = .ok (.getfield 185, 3) := by decide +kernel
theorem dX6_makeBase_99 : decode cX6_makeBase 99 = .ok (.iload_n 2, 1) := by decide +kernel
theorem dX6_makeBase_100 : decode cX6_makeBase 100 = .ok (.invokevirtual 182, 3) := by decide +kernel
theorem dX6_makeBase_103 : decode cX6_makeBase 103 = .ok (.lneg, 1) := by decide +kernel
theorem dX6_makeBase_104 : decode cX6_makeBase 104 = .ok (.lstore 8, 2) := by decide +kernel
theorem dX6_makeBase_106 : decode cX6_makeBase 106 = .ok (.aload_n 0, 1) := by decide +kernel
theorem dX6_makeBase_107 : decode cX6_makeBase 107 = .ok (.getfield 53, 3) := by decide +kernel
theorem dX6_makeBase_110 : decode cX6_makeBase 110 = .ok (.bipush 6, 2) := by decide +kernel
theorem dX6_makeBase_112 : decode cX6_makeBase 112 = .ok (.aload_n 0, 1) := by decide +kernel
theorem dX6_makeBase_113 : decode cX6_makeBase 113 = .ok (.getfield 188, 3) := by decide +kernel
theorem dX6_makeBase_116 : decode cX6_makeBase 116 = .ok (.imul, 1) := by decide +kernel
theorem dX6_makeBase_117 : decode cX6_makeBase 117 = .ok (.aload_n 0, 1) := by decide +kernel
theorem dX6_makeBase_118 : decode cX6_makeBase 118 = .ok (.getfield 47, 3) := by decide +kernel
theorem dX6_makeBase_121 : decode cX6_makeBase 121 = .ok (.iload 7, 2) := by decide +kernel
theorem dX6_makeBase_123 : decode cX6_makeBase 123 = .ok (.iaload, 1) := by decide +kernel
theorem dX6_makeBase_124 : decode cX6_makeBase 124 = .ok (.iadd, 1) := by decide +kernel
theorem dX6_makeBase_125 : decode cX6_makeBase 125 = .ok (.lload 8, 2) := by decide +kernel
theorem dX6_makeBase_127 : decode cX6_makeBase 127 = .ok (.lastore, 1) := by decide +kernel
theorem dX6_makeBase_128 : decode cX6_makeBase 128 = .ok (.lload 5, 2) := by decide +kernel
theorem dX6_makeBase_130 : decode cX6_makeBase 130 = .ok (.lload 8, 2) := by decide +kernel
theorem dX6_makeBase_132 : decode cX6_makeBase 132 = .ok (.invokestatic 197, 3) := by decide +kernel
theorem dX6_makeBase_135 : decode cX6_makeBase 135 = .ok (.lstore 5, 2) := by decide +kernel
theorem dX6_makeBase_137 : decode cX6_makeBase 137 = .ok (.iinc 7 1, 3) := by decide +kernel
theorem dX6_makeBase_140 : decode cX6_makeBase 140 = .ok (.goto (-67), 3) := by decide +kernel
theorem dX6_makeBase_143 : decode cX6_makeBase 143 = .ok (.lload 5, 2) := by decide +kernel
theorem dX6_makeBase_145 : decode cX6_makeBase 145 = .ok (.lload 5, 2) := by decide +kernel
theorem dX6_makeBase_147 : decode cX6_makeBase 147 = .ok (.invokestatic 197, 3) := by decide +kernel
theorem dX6_makeBase_150 : decode cX6_makeBase 150 = .ok (.lstore 5, 2) := by decide +kernel
theorem dX6_makeBase_152 : decode cX6_makeBase 152 = .ok (.iconst 0, 1) := by decide +kernel
theorem dX6_makeBase_153 : decode cX6_makeBase 153 = .ok (.istore 7, 2) := by decide +kernel
theorem dX6_makeBase_155 : decode cX6_makeBase 155 = .ok (.iload 7, 2) := by decide +kernel
theorem dX6_makeBase_157 : decode cX6_makeBase 157 = .ok (.bipush 6, 2) := by decide +kernel
theorem dX6_makeBase_159 : decode cX6_makeBase 159 = .ok (.if_icmp .ge 54, 3) := by decide +kernel
theorem dX6_makeBase_162 : decode cX6_makeBase 162 = .ok (.aload_n 0, 1) := by decide +kernel
theorem dX6_makeBase_163 : decode cX6_makeBase 163 = .ok (.getfield 53, 3) := by decide +kernel
theorem dX6_makeBase_166 : decode cX6_makeBase 166 = .ok (.bipush 6, 2) := by decide +kernel
theorem dX6_makeBase_168 : decode cX6_makeBase 168 = .ok (.aload_n 0, 1) := by decide +kernel
theorem dX6_makeBase_169 : decode cX6_makeBase 169 = .ok (.getfield 188, 3) := by decide +kernel
theorem dX6_makeBase_172 : decode cX6_makeBase 172 = .ok (.imul, 1) := by decide +kernel
theorem dX6_makeBase_173 : decode cX6_makeBase 173 = .ok (.iload 7, 2) := by decide +kernel
theorem dX6_makeBase_175 : decode cX6_makeBase 175 = .ok (.iadd, 1) := by decide +kernel
theorem dX6_makeBase_176 : decode cX6_makeBase 176 = .ok (.aload_n 0, 1) := by decide +kernel
theorem dX6_makeBase_177 : decode cX6_makeBase 177 = .ok (.getfield 53, 3) := by decide +kernel
theorem dX6_makeBase_180 : decode cX6_makeBase 180 = .ok (.bipush 6, 2) := by decide +kernel
theorem dX6_makeBase_182 : decode cX6_makeBase 182 = .ok (.aload_n 0, 1) := by decide +kernel
theorem dX6_makeBase_183 : decode cX6_makeBase 183 = .ok (.getfield 188, 3) := by decide +kernel
theorem dX6_makeBase_186 : decode cX6_makeBase 186 = .ok (.imul, 1) := by decide +kernel
theorem dX6_makeBase_187 : decode cX6_makeBase 187 = .ok (.iload 7, 2) := by decide +kernel
theorem dX6_makeBase_189 : decode cX6_makeBase 189 = .ok (.iadd, 1) := by decide +kernel
theorem dX6_makeBase_190 : decode cX6_makeBase 190 = .ok (.laload, 1) := by decide +kernel
theorem dX6_makeBase_191 : decode cX6_makeBase 191 = .ok (.lload_n 3, 1) := by decide +kernel
theorem dX6_makeBase_192 : decode cX6_makeBase 192 = .ok (.lconst 0, 1) := by decide +kernel
theorem dX6_makeBase_193 : decode cX6_makeBase 193 = .ok (.lcmp, 1) := by decide +kernel
theorem dX6_makeBase_194 : decode cX6_makeBase 194 = .ok (.ifCond .ge 9, 3) := by decide +kernel
theorem dX6_makeBase_197 : decode cX6_makeBase 197 = .ok (.lload 5, 2) := by decide +kernel
theorem dX6_makeBase_199 : decode cX6_makeBase 199 = .ok (.lneg, 1) := by decide +kernel
theorem dX6_makeBase_200 : decode cX6_makeBase 200 = .ok (.goto 5, 3) := by decide +kernel
theorem dX6_makeBase_203 : decode cX6_makeBase 203 = .ok (.lload 5, 2) := by decide +kernel
theorem dX6_makeBase_205 : decode cX6_makeBase 205 = .ok (.ldiv, 1) := by decide +kernel
theorem dX6_makeBase_206 : decode cX6_makeBase 206 = .ok (.lastore, 1) := by decide +kernel
theorem dX6_makeBase_207 : decode cX6_makeBase 207 = .ok (.iinc 7 1, 3) := by decide +kernel
theorem dX6_makeBase_210 : decode cX6_makeBase 210 = .ok (.goto (-55), 3) := by decide +kernel
theorem dX6_makeBase_213 : decode cX6_makeBase 213 = .ok (.aload_n 0, 1) := by decide +kernel
theorem dX6_makeBase_214 : decode cX6_makeBase 214 = .ok (.dup, 1) := by decide +kernel
theorem dX6_makeBase_215 : decode cX6_makeBase 215 = .ok (.getfield 188, 3) := by decide +kernel
theorem dX6_makeBase_218 : decode cX6_makeBase 218 = .ok (.iconst 1, 1) := by decide +kernel
theorem dX6_makeBase_219 : decode cX6_makeBase 219 = .ok (.iadd, 1) := by decide +kernel
theorem dX6_makeBase_220 : decode cX6_makeBase 220 = .ok (.putfield 188, 3) := by decide +kernel
theorem dX6_makeBase_223 : decode cX6_makeBase 223 = .ok (.return_, 1) := by decide +kernel
theorem dX6_common_0 : decode cX6_common 0 = .ok (.lload_n 0, 1) := by decide +kernel
theorem dX6_common_1 : decode cX6_common 1 = .ok (.lconst 0, 1) := by decide +kernel
theorem dX6_common_2 : decode cX6_common 2 = .ok (.lcmp, 1) := by decide +kernel
theorem dX6_common_3 : decode cX6_common 3 = .ok (.ifCond .ge 8, 3) := by decide +kernel
theorem dX6_common_6 : decode cX6_common 6 = .ok (.lload_n 0, 1) := by decide +kernel
theorem dX6_common_7 : decode cX6_common 7 = .ok (.lneg, 1) := by decide +kernel
theorem dX6_common_8 : decode cX6_common 8 = .ok (.goto 4, 3) := by decide +kernel
theorem dX6_common_11 : decode cX6_common 11 = .ok (.lload_n 0, 1) := by decide +kernel
theorem dX6_common_12 : decode cX6_common 12 = .ok (.lstore 4, 2) := by decide +kernel
theorem dX6_common_14 : decode cX6_common 14 = .ok (.lload_n 2, 1) := by decide +kernel
theorem dX6_common_15 : decode cX6_common 15 = .ok (.lconst 0, 1) := by decide +kernel
theorem dX6_common_16 : decode cX6_common 16 = .ok (.lcmp, 1) := by decide +kernel
theorem dX6_common_17 : decode cX6_common 17 = .ok (.ifCond .ge 8, 3) := by decide +kernel
theorem dX6_common_20 : decode cX6_common 20 = .ok (.lload_n 2, 1) := by decide +kernel
theorem dX6_common_21 : decode cX6_common 21 = .ok (.lneg, 1) := by decide +kernel
theorem dX6_common_22 : decode cX6_common 22 = .ok (.goto 4, 3) := by decide +kernel
theorem dX6_common_25 : decode cX6_common 25 = .ok (.lload_n 2, 1) := by decide +kernel
theorem dX6_common_26 : decode cX6_common 26 = .ok (.lstore 6, 2) := by decide +kernel
theorem dX6_common_28 : decode cX6_common 28 = .ok (.lload 6, 2) := by decide +kernel
theorem dX6_common_30 : decode cX6_common 30 = .ok (.lconst 0, 1) := by decide +kernel
theorem dX6_common_31 : decode cX6_common 31 = .ok (.lcmp, 1) := by decide +kernel
theorem dX6_common_32 : decode cX6_common 32 = .ok (.ifCond .eq 21, 3) := by decide +kernel
theorem dX6_common_35 : decode cX6_common 35 = .ok (.lload 4, 2) := by decide +kernel
theorem dX6_common_37 : decode cX6_common 37 = .ok (.lload 6, 2) := by decide +kernel
theorem dX6_common_39 : decode cX6_common 39 = .ok (.lrem, 1) := by decide +kernel
theorem dX6_common_40 : decode cX6_common 40 = .ok (.lstore 8, 2) := by decide +kernel
theorem dX6_common_42 : decode cX6_common 42 = .ok (.lload 6, 2) := by decide +kernel
theorem dX6_common_44 : decode cX6_common 44 = .ok (.lstore 4, 2) := by decide +kernel
theorem dX6_common_46 : decode cX6_common 46 = .ok (.lload 8, 2) := by decide +kernel
theorem dX6_common_48 : decode cX6_common 48 = .ok (.lstore 6, 2) := by decide +kernel
theorem dX6_common_50 : decode cX6_common 50 = .ok (.goto (-22), 3) := by decide +kernel
theorem dX6_common_53 : decode cX6_common 53 = .ok (.lload 4, 2) := by decide +kernel
theorem dX6_common_55 : decode cX6_common 55 = .ok (.lreturn, 1) := by decide +kernel
theorem dX6_write_0 : decode cX6_write 0 = .ok (.aload_n 0, 1) := by decide +kernel
theorem dX6_write_1 : decode cX6_write 1 = .ok (.iconst 0, 1) := by decide +kernel
theorem dX6_write_2 : decode cX6_write 2 = .ok (.putfield 204, 3) := by decide +kernel
theorem dX6_write_5 : decode cX6_write 5 = .ok (.iconst 0, 1) := by decide +kernel
theorem dX6_write_6 : decode cX6_write 6 = .ok (.istore_n 1, 1) := by decide +kernel
theorem dX6_write_7 : decode cX6_write 7 = .ok (.iload_n 1, 1) := by decide +kernel
theorem dX6_write_8 : decode cX6_write 8 = .ok (.aload_n 0, 1) := by decide +kernel
theorem dX6_write_9 : decode cX6_write 9 = .ok (.getfield 133, 3) := by decide +kernel
theorem dX6_write_12 : decode cX6_write 12 = .ok (.if_icmp .ge 120, 3) := by decide +kernel
theorem dX6_write_15 : decode cX6_write 15 = .ok (.aload_n 0, 1) := by decide +kernel
theorem dX6_write_16 : decode cX6_write 16 = .ok (.invokevirtual 216, 3) := by decide +kernel
theorem dX6_write_19 : decode cX6_write 19 = .ok (.ifCond .eq 113, 3) := by decide +kernel
theorem dX6_write_22 : decode cX6_write 22 = .ok (.iload_n 1, 1) := by decide +kernel
theorem dX6_write_23 : decode cX6_write 23 = .ok (.ifCond .le 43, 3) := by decide +kernel
theorem dX6_write_26 : decode cX6_write 26 = .ok (.aload_n 0, 1) := by decide +kernel
theorem dX6_write_27 : decode cX6_write 27 = .ok (.bipush 32, 2) := by decide +kernel
theorem dX6_write_29 : decode cX6_write 29 = .ok (.invokevirtual 213, 3) := by decide +kernel
theorem dX6_write_32 : decode cX6_write 32 = .ok (.aload_n 0, 1) := by decide +kernel
theorem dX6_write_33 : decode cX6_write 33 = .ok (.aload_n 0, 1) := by decide +kernel
theorem dX6_write_34 : decode cX6_write 34 = .ok (.getfield 27, 3) := by decide +kernel
theorem dX6_write_37 : decode cX6_write 37 = .ok (.iload_n 1, 1) := by decide +kernel
theorem dX6_write_38 : decode cX6_write 38 = .ok (.baload, 1) := by decide +kernel
theorem dX6_write_39 : decode cX6_write 39 = .ok (.aload_n 0, 1) := by decide +kernel
theorem dX6_write_40 : decode cX6_write 40 = .ok (.getfield 27, 3) := by decide +kernel
theorem dX6_write_43 : decode cX6_write 43 = .ok (.iload_n 1, 1) := by decide +kernel
theorem dX6_write_44 : decode cX6_write 44 = .ok (.iconst 1, 1) := by decide +kernel
theorem dX6_write_45 : decode cX6_write 45 = .ok (.isub, 1) := by decide +kernel
theorem dX6_write_46 : decode cX6_write 46 = .ok (.baload, 1) := by decide +kernel
theorem dX6_write_47 : decode cX6_write 47 = .ok (.if_icmp .eq 8, 3) := by decide +kernel
theorem dX6_write_50 : decode cX6_write 50 = .ok (.bipush 61, 2) := by decide +kernel
theorem dX6_write_52 : decode cX6_write 52 = .ok (.goto 5, 3) := by decide +kernel
theorem dX6_write_55 : decode cX6_write 55 = .ok (.bipush 43, 2) := by decide +kernel
theorem dX6_write_57 : decode cX6_write 57 = .ok (.invokevirtual 213, 3) := by decide +kernel
theorem dX6_write_60 : decode cX6_write 60 = .ok (.aload_n 0, 1) := by decide +kernel
theorem dX6_write_61 : decode cX6_write 61 = .ok (.bipush 32, 2) := by decide +kernel
theorem dX6_write_63 : decode cX6_write 63 = .ok (.invokevirtual 213, 3) := by decide +kernel
theorem dX6_write_66 : decode cX6_write 66 = .ok (.aload_n 0, 1) := by decide +kernel
theorem dX6_write_67 : decode cX6_write 67 = .ok (.getfield 53, 3) := by decide +kernel
theorem dX6_write_70 : decode cX6_write 70 = .ok (.iload_n 1, 1) := by decide +kernel
theorem dX6_write_71 : decode cX6_write 71 = .ok (.laload, 1) := by decide +kernel
theorem dX6_write_72 : decode cX6_write 72 = .ok (.lconst 1, 1) := by decide +kernel
theorem dX6_write_73 : decode cX6_write 73 = .ok (.lcmp, 1) := by decide +kernel
theorem dX6_write_74 : decode cX6_write 74 = .ok (.ifCond .eq 19, 3) := by decide +kernel
theorem dX6_write_77 : decode cX6_write 77 = .ok (.aload_n 0, 1) := by decide +kernel
theorem dX6_write_78 : decode cX6_write 78 = .ok (.aload_n 0, 1) := by decide +kernel
theorem dX6_write_79 : decode cX6_write 79 = .ok (.getfield 53, 3) := by decide +kernel
theorem dX6_write_82 : decode cX6_write 82 = .ok (.iload_n 1, 1) := by decide +kernel
theorem dX6_write_83 : decode cX6_write 83 = .ok (.laload, 1) := by decide +kernel
theorem dX6_write_84 : decode cX6_write 84 = .ok (.invokevirtual 220, 3) := by decide +kernel
theorem dX6_write_87 : decode cX6_write 87 = .ok (.aload_n 0, 1) := by decide +kernel
theorem dX6_write_88 : decode cX6_write 88 = .ok (.bipush 32, 2) := by decide +kernel
theorem dX6_write_90 : decode cX6_write 90 = .ok (.invokevirtual 213, 3) := by decide +kernel
theorem dX6_write_93 : decode cX6_write 93 = .ok (.aload_n 0, 1) := by decide +kernel
theorem dX6_write_94 : decode cX6_write 94 = .ok (.getfield 20, 3) := by decide +kernel
theorem dX6_write_97 : decode cX6_write 97 = .ok (.iload_n 1, 1) := by decide +kernel
theorem dX6_write_98 : decode cX6_write 98 = .ok (.iaload, 1) := by decide +kernel
theorem dX6_write_99 : decode cX6_write 99 = .ok (.istore_n 2, 1) := by decide +kernel
theorem dX6_write_100 : decode cX6_write 100 = .ok (.iload_n 2, 1) := by decide +kernel
theorem dX6_write_101 : decode cX6_write 101 = .ok (.aload_n 0, 1) := by decide +kernel
theorem dX6_write_102 : decode cX6_write 102 = .ok (.getfield 24, 3) := by decide +kernel
theorem dX6_write_105 : decode cX6_write 105 = .ok (.iload_n 1, 1) := by decide +kernel
theorem dX6_write_106 : decode cX6_write 106 = .ok (.iaload, 1) := by decide +kernel
theorem dX6_write_107 : decode cX6_write 107 = .ok (.if_icmp .ge 19, 3) := by decide +kernel
theorem dX6_write_110 : decode cX6_write 110 = .ok (.aload_n 0, 1) := by decide +kernel
theorem dX6_write_111 : decode cX6_write 111 = .ok (.aload_n 0, 1) := by decide +kernel
theorem dX6_write_112 : decode cX6_write 112 = .ok (.getfield 13, 3) := by decide +kernel
theorem dX6_write_115 : decode cX6_write 115 = .ok (.iload_n 2, 1) := by decide +kernel
theorem dX6_write_116 : decode cX6_write 116 = .ok (.caload, 1) := by decide +kernel
theorem dX6_write_117 : decode cX6_write 117 = .ok (.invokevirtual 213, 3) := by decide +kernel
theorem dX6_write_120 : decode cX6_write 120 = .ok (.iinc 2 1, 3) := by decide +kernel
theorem dX6_write_123 : decode cX6_write 123 = .ok (.goto (-23), 3) := by decide +kernel
theorem dX6_write_126 : decode cX6_write 126 = .ok (.iinc 1 1, 3) := by decide +kernel
theorem dX6_write_129 : decode cX6_write 129 = .ok (.goto (-122), 3) := by decide +kernel
theorem dX6_write_132 : decode cX6_write 132 = .ok (.return_, 1) := by decide +kernel
theorem dX6_isBalanced_0 : decode cX6_isBalanced 0 = .ok (.aload_n 0, 1) := by decide +kernel
theorem dX6_isBalanced_1 : decode cX6_isBalanced 1 = .ok (.getfield 162, 3) := by decide +kernel
theorem dX6_isBalanced_4 : decode cX6_isBalanced 4 = .ok (.ifCond .eq 15, 3) := by decide +kernel
theorem dX6_isBalanced_7 : decode cX6_isBalanced 7 = .ok (.aload_n 0, 1) := by decide +kernel
theorem dX6_isBalanced_8 : decode cX6_isBalanced 8 = .ok (.getfield 188, 3) := by decide +kernel
theorem dX6_isBalanced_11 : decode cX6_isBalanced 11 = .ok (.iconst 1, 1) := by decide +kernel
theorem dX6_isBalanced_12 : decode cX6_isBalanced 12 = .ok (.if_icmp .ne 7, 3) := by decide +kernel
theorem dX6_isBalanced_15 : decode cX6_isBalanced 15 = .ok (.iconst 1, 1) := by decide +kernel
theorem dX6_isBalanced_16 : decode cX6_isBalanced 16 = .ok (.goto 4, 3) := by decide +kernel
theorem dX6_isBalanced_19 : decode cX6_isBalanced 19 = .ok (.iconst 0, 1) := by decide +kernel
theorem dX6_isBalanced_20 : decode cX6_isBalanced 20 = .ok (.istore_n 1, 1) := by decide +kernel
theorem dX6_isBalanced_21 : decode cX6_isBalanced 21 = .ok (.iconst 0, 1) := by decide +kernel
theorem dX6_isBalanced_22 : decode cX6_isBalanced 22 = .ok (.istore_n 2, 1) := by decide +kernel
theorem dX6_isBalanced_23 : decode cX6_isBalanced 23 = .ok (.iload_n 2, 1) := by decide +kernel
theorem dX6_isBalanced_24 : decode cX6_isBalanced 24 = .ok (.aload_n 0, 1) := by decide +kernel
theorem dX6_isBalanced_25 : decode cX6_isBalanced 25 = .ok (.getfield 133, 3) := by decide +kernel
theorem dX6_isBalanced_28 : decode cX6_isBalanced 28 = .ok (.if_icmp .ge 30, 3) := by decide +kernel
theorem dX6_isBalanced_31 : decode cX6_isBalanced 31 = .ok (.iload_n 1, 1) := by decide +kernel
theorem dX6_isBalanced_32 : decode cX6_isBalanced 32 = .ok (.ifCond .eq 26, 3) := by decide +kernel
theorem dX6_isBalanced_35 : decode cX6_isBalanced 35 = .ok (.aload_n 0, 1) := by decide +kernel
theorem dX6_isBalanced_36 : decode cX6_isBalanced 36 = .ok (.getfield 53, 3) := by decide +kernel
theorem dX6_isBalanced_39 : decode cX6_isBalanced 39 = .ok (.iload_n 2, 1) := by decide +kernel
theorem dX6_isBalanced_40 : decode cX6_isBalanced 40 = .ok (.laload, 1) := by decide +kernel
theorem dX6_isBalanced_41 : decode cX6_isBalanced 41 = .ok (.lconst 0, 1) := by decide +kernel
theorem dX6_isBalanced_42 : decode cX6_isBalanced 42 = .ok (.lcmp, 1) := by decide +kernel
theorem dX6_isBalanced_43 : decode cX6_isBalanced 43 = .ok (.ifCond .le 7, 3) := by decide +kernel
theorem dX6_isBalanced_46 : decode cX6_isBalanced 46 = .ok (.iconst 1, 1) := by decide +kernel
theorem dX6_isBalanced_47 : decode cX6_isBalanced 47 = .ok (.goto 4, 3) := by decide +kernel
theorem dX6_isBalanced_50 : decode cX6_isBalanced 50 = .ok (.iconst 0, 1) := by decide +kernel
theorem dX6_isBalanced_51 : decode cX6_isBalanced 51 = .ok (.istore_n 1, 1) := by decide +kernel
theorem dX6_isBalanced_52 : decode cX6_isBalanced 52 = .ok (.iinc 2 1, 3) := by decide +kernel
theorem dX6_isBalanced_55 : decode cX6_isBalanced 55 = .ok (.goto (-32), 3) := by decide +kernel
theorem dX6_isBalanced_58 : decode cX6_isBalanced 58 = .ok (.iload_n 1, 1) := by decide +kernel
theorem dX6_isBalanced_59 : decode cX6_isBalanced 59 = .ok (.ireturn, 1) := by decide +kernel
theorem dX6_put_0 : decode cX6_put 0 = .ok (.aload_n 0, 1) := by decide +kernel
theorem dX6_put_1 : decode cX6_put 1 = .ok (.getfield 62, 3) := by decide +kernel
theorem dX6_put_4 : decode cX6_put 4 = .ok (.aload_n 0, 1) := by decide +kernel
theorem dX6_put_5 : decode cX6_put 5 = .ok (.getfield 204, 3) := by decide +kernel
theorem dX6_put_8 : decode cX6_put 8 = .ok (.iload_n 1, 1) := by decide +kernel
theorem dX6_put_9 : decode cX6_put 9 = .ok (.i2c, 1) := by decide +kernel
theorem dX6_put_10 : decode cX6_put 10 = .ok (.castore, 1) := by decide +kernel
theorem dX6_put_11 : decode cX6_put 11 = .ok (.aload_n 0, 1) := by decide +kernel
theorem dX6_put_12 : decode cX6_put 12 = .ok (.dup, 1) := by decide +kernel
theorem dX6_put_13 : decode cX6_put 13 = .ok (.getfield 204, 3) := by decide +kernel
theorem dX6_put_16 : decode cX6_put 16 = .ok (.iconst 1, 1) := by decide +kernel
theorem dX6_put_17 : decode cX6_put 17 = .ok (.iadd, 1) := by decide +kernel
theorem dX6_put_18 : decode cX6_put 18 = .ok (.putfield 204, 3) := by decide +kernel
theorem dX6_put_21 : decode cX6_put 21 = .ok (.return_, 1) := by decide +kernel
theorem dX6_putNumber_0 : decode cX6_putNumber 0 = .ok (.lconst 1, 1) := by decide +kernel
theorem dX6_putNumber_1 : decode cX6_putNumber 1 = .ok (.lstore_n 3, 1) := by decide +kernel
theorem dX6_putNumber_2 : decode cX6_putNumber 2 = .ok (.lload_n 1, 1) := by decide +kernel
theorem dX6_putNumber_3 : decode cX6_putNumber 3 = .ok (.lload_n 3, 1) := by decide +kernel
theorem dX6_putNumber_4 : decode cX6_putNumber 4 = .ok (.ldiv, 1) := by decide +kernel
theorem dX6_putNumber_5 : decode cX6_putNumber 5 = .ok (.ldc2_w 207, 3) := by decide +kernel
theorem dX6_putNumber_8 : decode cX6_putNumber 8 = .ok (.lcmp, 1) := by decide +kernel
theorem dX6_putNumber_9 : decode cX6_putNumber 9 = .ok (.ifCond .le 12, 3) := by decide +kernel
theorem dX6_putNumber_12 : decode cX6_putNumber 12 = .ok (.ldc2_w 209, 3) := by decide +kernel
theorem dX6_putNumber_15 : decode cX6_putNumber 15 = .ok (.lload_n 3, 1) := by decide +kernel
theorem dX6_putNumber_16 : decode cX6_putNumber 16 = .ok (.lmul, 1) := by decide +kernel
theorem dX6_putNumber_17 : decode cX6_putNumber 17 = .ok (.lstore_n 3, 1) := by decide +kernel
theorem dX6_putNumber_18 : decode cX6_putNumber 18 = .ok (.goto (-16), 3) := by decide +kernel
theorem dX6_putNumber_21 : decode cX6_putNumber 21 = .ok (.lload_n 3, 1) := by decide +kernel
theorem dX6_putNumber_22 : decode cX6_putNumber 22 = .ok (.lstore 5, 2) := by decide +kernel
theorem dX6_putNumber_24 : decode cX6_putNumber 24 = .ok (.lload 5, 2) := by decide +kernel
theorem dX6_putNumber_26 : decode cX6_putNumber 26 = .ok (.lconst 0, 1) := by decide +kernel
theorem dX6_putNumber_27 : decode cX6_putNumber 27 = .ok (.lcmp, 1) := by decide +kernel
theorem dX6_putNumber_28 : decode cX6_putNumber 28 = .ok (.ifCond .le 31, 3) := by decide +kernel
theorem dX6_putNumber_31 : decode cX6_putNumber 31 = .ok (.aload_n 0, 1) := by decide +kernel
theorem dX6_putNumber_32 : decode cX6_putNumber 32 = .ok (.ldc2_w 211, 3) := by decide +kernel
theorem dX6_putNumber_35 : decode cX6_putNumber 35 = .ok (.lload_n 1, 1) := by decide +kernel
theorem dX6_putNumber_36 : decode cX6_putNumber 36 = .ok (.lload 5, 2) := by decide +kernel
theorem dX6_putNumber_38 : decode cX6_putNumber 38 = .ok (.ldiv, 1) := by decide +kernel
theorem dX6_putNumber_39 : decode cX6_putNumber 39 = .ok (.ldc2_w 209, 3) := by decide +kernel
theorem dX6_putNumber_42 : decode cX6_putNumber 42 = .ok (.lrem, 1) := by decide +kernel
theorem dX6_putNumber_43 : decode cX6_putNumber 43 = .ok (.ladd, 1) := by decide +kernel
theorem dX6_putNumber_44 : decode cX6_putNumber 44 = .ok (.l2i, 1) := by decide +kernel
theorem dX6_putNumber_45 : decode cX6_putNumber 45 = .ok (.invokevirtual 213, 3) := by decide +kernel
theorem dX6_putNumber_48 : decode cX6_putNumber 48 = .ok (.lload 5, 2) := by decide +kernel
theorem dX6_putNumber_50 : decode cX6_putNumber 50 = .ok (.ldc2_w 209, 3) := by decide +kernel
theorem dX6_putNumber_53 : decode cX6_putNumber 53 = .ok (.ldiv, 1) := by decide +kernel
theorem dX6_putNumber_54 : decode cX6_putNumber 54 = .ok (.lstore 5, 2) := by decide +kernel
theorem dX6_putNumber_56 : decode cX6_putNumber 56 = .ok (.goto (-32), 3) := by decide +kernel
theorem dX6_putNumber_59 : decode cX6_putNumber 59 = .ok (.return_, 1) := by decide +kernel
theorem dX6_at_0 : decode cX6_at 0 = .ok (.aload_n 0, 1) := by decide +kernel
theorem dX6_at_1 : decode cX6_at 1 = .ok (.iconst 0, 1) := by decide +kernel
theorem dX6_at_2 : decode cX6_at 2 = .ok (.putfield 65, 3) := by decide +kernel
theorem dX6_at_5 : decode cX6_at 5 = .ok (.aload_n 0, 1) := by decide +kernel
theorem dX6_at_6 : decode cX6_at 6 = .ok (.getfield 16, 3) := by decide +kernel
theorem dX6_at_9 : decode cX6_at 9 = .ok (.ireturn, 1) := by decide +kernel
theorem dX6_state_0 : decode cX6_state 0 = .ok (.aload_n 0, 1) := by decide +kernel
theorem dX6_state_1 : decode cX6_state 1 = .ok (.iconst 0, 1) := by decide +kernel
theorem dX6_state_2 : decode cX6_state 2 = .ok (.putfield 65, 3) := by decide +kernel
theorem dX6_state_5 : decode cX6_state 5 = .ok (.aload_n 0, 1) := by decide +kernel
theorem dX6_state_6 : decode cX6_state 6 = .ok (.getfield 162, 3) := by decide +kernel
theorem dX6_state_9 : decode cX6_state 9 = .ok (.ifCond .ne 7, 3) := by decide +kernel
theorem dX6_state_12 : decode cX6_state 12 = .ok (.iconst (-1), 1) := by decide +kernel
theorem dX6_state_13 : decode cX6_state 13 = .ok (.goto 38, 3) := by decide +kernel
theorem dX6_state_16 : decode cX6_state 16 = .ok (.aload_n 0, 1) := by decide +kernel
theorem dX6_state_17 : decode cX6_state 17 = .ok (.getfield 188, 3) := by decide +kernel
theorem dX6_state_20 : decode cX6_state 20 = .ok (.ifCond .ne 7, 3) := by decide +kernel
theorem dX6_state_23 : decode cX6_state 23 = .ok (.iconst 1, 1) := by decide +kernel
theorem dX6_state_24 : decode cX6_state 24 = .ok (.goto 27, 3) := by decide +kernel
theorem dX6_state_27 : decode cX6_state 27 = .ok (.aload_n 0, 1) := by decide +kernel
theorem dX6_state_28 : decode cX6_state 28 = .ok (.getfield 188, 3) := by decide +kernel
theorem dX6_state_31 : decode cX6_state 31 = .ok (.iconst 1, 1) := by decide +kernel
theorem dX6_state_32 : decode cX6_state 32 = .ok (.if_icmp .le 7, 3) := by decide +kernel
theorem dX6_state_35 : decode cX6_state 35 = .ok (.iconst 3, 1) := by decide +kernel
theorem dX6_state_36 : decode cX6_state 36 = .ok (.goto 15, 3) := by decide +kernel
theorem dX6_state_39 : decode cX6_state 39 = .ok (.aload_n 0, 1) := by decide +kernel
theorem dX6_state_40 : decode cX6_state 40 = .ok (.invokevirtual 216, 3) := by decide +kernel
theorem dX6_state_43 : decode cX6_state 43 = .ok (.ifCond .eq 7, 3) := by decide +kernel
theorem dX6_state_46 : decode cX6_state 46 = .ok (.iconst 0, 1) := by decide +kernel
theorem dX6_state_47 : decode cX6_state 47 = .ok (.goto 4, 3) := by decide +kernel
theorem dX6_state_50 : decode cX6_state 50 = .ok (.iconst 2, 1) := by decide +kernel
theorem dX6_state_51 : decode cX6_state 51 = .ok (.ireturn, 1) := by decide +kernel
theorem dX6_freedom_0 : decode cX6_freedom 0 = .ok (.aload_n 0, 1) := by decide +kernel
theorem dX6_freedom_1 : decode cX6_freedom 1 = .ok (.iconst 0, 1) := by decide +kernel
theorem dX6_freedom_2 : decode cX6_freedom 2 = .ok (.putfield 65, 3) := by decide +kernel
theorem dX6_freedom_5 : decode cX6_freedom 5 = .ok (.aload_n 0, 1) := by decide +kernel
theorem dX6_freedom_6 : decode cX6_freedom 6 = .ok (.getfield 162, 3) := by decide +kernel
theorem dX6_freedom_9 : decode cX6_freedom 9 = .ok (.ifCond .eq 10, 3) := by decide +kernel
theorem dX6_freedom_12 : decode cX6_freedom 12 = .ok (.aload_n 0, 1) := by decide +kernel
theorem dX6_freedom_13 : decode cX6_freedom 13 = .ok (.getfield 188, 3) := by decide +kernel
theorem dX6_freedom_16 : decode cX6_freedom 16 = .ok (.goto 4, 3) := by decide +kernel
theorem dX6_freedom_19 : decode cX6_freedom 19 = .ok (.iconst (-1), 1) := by decide +kernel
theorem dX6_freedom_20 : decode cX6_freedom 20 = .ok (.ireturn, 1) := by decide +kernel
theorem dX6_formulas_0 : decode cX6_formulas 0 = .ok (.aload_n 0, 1) := by decide +kernel
theorem dX6_formulas_1 : decode cX6_formulas 1 = .ok (.iconst 0, 1) := by decide +kernel
theorem dX6_formulas_2 : decode cX6_formulas 2 = .ok (.putfield 65, 3) := by decide +kernel
theorem dX6_formulas_5 : decode cX6_formulas 5 = .ok (.aload_n 0, 1) := by decide +kernel
theorem dX6_formulas_6 : decode cX6_formulas 6 = .ok (.getfield 162, 3) := by decide +kernel
theorem dX6_formulas_9 : decode cX6_formulas 9 = .ok (.ifCond .eq 10, 3) := by decide +kernel
theorem dX6_formulas_12 : decode cX6_formulas 12 = .ok (.aload_n 0, 1) := by decide +kernel
theorem dX6_formulas_13 : decode cX6_formulas 13 = .ok (.getfield 133, 3) := by decide +kernel
theorem dX6_formulas_16 : decode cX6_formulas 16 = .ok (.goto 4, 3) := by decide +kernel
theorem dX6_formulas_19 : decode cX6_formulas 19 = .ok (.iconst 0, 1) := by decide +kernel
theorem dX6_formulas_20 : decode cX6_formulas 20 = .ok (.ireturn, 1) := by decide +kernel
theorem dX6_kinds_0 : decode cX6_kinds 0 = .ok (.aload_n 0, 1) := by decide +kernel
theorem dX6_kinds_1 : decode cX6_kinds 1 = .ok (.iconst 0, 1) := by decide +kernel
theorem dX6_kinds_2 : decode cX6_kinds 2 = .ok (.putfield 65, 3) := by decide +kernel
theorem dX6_kinds_5 : decode cX6_kinds 5 = .ok (.aload_n 0, 1) := by decide +kernel
theorem dX6_kinds_6 : decode cX6_kinds 6 = .ok (.getfield 162, 3) := by decide +kernel
theorem dX6_kinds_9 : decode cX6_kinds 9 = .ok (.ifCond .eq 10, 3) := by decide +kernel
theorem dX6_kinds_12 : decode cX6_kinds 12 = .ok (.aload_n 0, 1) := by decide +kernel
theorem dX6_kinds_13 : decode cX6_kinds 13 = .ok (.invokevirtual 175, 3) := by decide +kernel
theorem dX6_kinds_16 : decode cX6_kinds 16 = .ok (.goto 4, 3) := by decide +kernel
theorem dX6_kinds_19 : decode cX6_kinds 19 = .ok (.iconst 0, 1) := by decide +kernel
theorem dX6_kinds_20 : decode cX6_kinds 20 = .ok (.ireturn, 1) := by decide +kernel
theorem dX6_isKind_0 : decode cX6_isKind 0 = .ok (.aload_n 0, 1) := by decide +kernel
theorem dX6_isKind_1 : decode cX6_isKind 1 = .ok (.getfield 162, 3) := by decide +kernel
theorem dX6_isKind_4 : decode cX6_isKind 4 = .ok (.ifCond .eq 19, 3) := by decide +kernel
theorem dX6_isKind_7 : decode cX6_isKind 7 = .ok (.iload_n 1, 1) := by decide +kernel
theorem dX6_isKind_8 : decode cX6_isKind 8 = .ok (.ifCond .lt 15, 3) := by decide +kernel
theorem dX6_isKind_11 : decode cX6_isKind 11 = .ok (.iload_n 1, 1) := by decide +kernel
theorem dX6_isKind_12 : decode cX6_isKind 12 = .ok (.aload_n 0, 1) := by decide +kernel
theorem dX6_isKind_13 : decode cX6_isKind 13 = .ok (.invokevirtual 175, 3) := by decide +kernel
theorem dX6_isKind_16 : decode cX6_isKind 16 = .ok (.if_icmp .ge 7, 3) := by decide +kernel
theorem dX6_isKind_19 : decode cX6_isKind 19 = .ok (.iconst 1, 1) := by decide +kernel
theorem dX6_isKind_20 : decode cX6_isKind 20 = .ok (.goto 4, 3) := by decide +kernel
theorem dX6_isKind_23 : decode cX6_isKind 23 = .ok (.iconst 0, 1) := by decide +kernel
theorem dX6_isKind_24 : decode cX6_isKind 24 = .ok (.ireturn, 1) := by decide +kernel
theorem dX6_isFormula_0 : decode cX6_isFormula 0 = .ok (.aload_n 0, 1) := by decide +kernel
theorem dX6_isFormula_1 : decode cX6_isFormula 1 = .ok (.getfield 162, 3) := by decide +kernel
theorem dX6_isFormula_4 : decode cX6_isFormula 4 = .ok (.ifCond .eq 19, 3) := by decide +kernel
theorem dX6_isFormula_7 : decode cX6_isFormula 7 = .ok (.iload_n 1, 1) := by decide +kernel
theorem dX6_isFormula_8 : decode cX6_isFormula 8 = .ok (.ifCond .lt 15, 3) := by decide +kernel
theorem dX6_isFormula_11 : decode cX6_isFormula 11 = .ok (.iload_n 1, 1) := by decide +kernel
theorem dX6_isFormula_12 : decode cX6_isFormula 12 = .ok (.aload_n 0, 1) := by decide +kernel
theorem dX6_isFormula_13 : decode cX6_isFormula 13 = .ok (.getfield 133, 3) := by decide +kernel
theorem dX6_isFormula_16 : decode cX6_isFormula 16 = .ok (.if_icmp .ge 7, 3) := by decide +kernel
theorem dX6_isFormula_19 : decode cX6_isFormula 19 = .ok (.iconst 1, 1) := by decide +kernel
theorem dX6_isFormula_20 : decode cX6_isFormula 20 = .ok (.goto 4, 3) := by decide +kernel
theorem dX6_isFormula_23 : decode cX6_isFormula 23 = .ok (.iconst 0, 1) := by decide +kernel
theorem dX6_isFormula_24 : decode cX6_isFormula 24 = .ok (.ireturn, 1) := by decide +kernel
theorem dX6_name_0 : decode cX6_name 0 = .ok (.aload_n 0, 1) := by decide +kernel
theorem dX6_name_1 : decode cX6_name 1 = .ok (.aload_n 0, 1) := by decide +kernel
theorem dX6_name_2 : decode cX6_name 2 = .ok (.iload_n 1, 1) := by decide +kernel
theorem dX6_name_3 : decode cX6_name 3 = .ok (.invokevirtual 224, 3) := by decide +kernel
theorem dX6_name_6 : decode cX6_name 6 = .ok (.ifCond .eq 7, 3) := by decide +kernel
theorem dX6_name_9 : decode cX6_name 9 = .ok (.iconst 0, 1) := by decide +kernel
theorem dX6_name_10 : decode cX6_name 10 = .ok (.goto 4, 3) := by decide +kernel
theorem dX6_name_13 : decode cX6_name 13 = .ok (.iconst 1, 1) := by decide +kernel
theorem dX6_name_14 : decode cX6_name 14 = .ok (.putfield 65, 3) := by decide +kernel
theorem dX6_name_17 : decode cX6_name 17 = .ok (.aload_n 0, 1) := by decide +kernel
theorem dX6_name_18 : decode cX6_name 18 = .ok (.getfield 65, 3) := by decide +kernel
theorem dX6_name_21 : decode cX6_name 21 = .ok (.ifCond .ne 20, 3) := by decide +kernel
theorem dX6_name_24 : decode cX6_name 24 = .ok (.iload_n 1, 1) := by decide +kernel
theorem dX6_name_25 : decode cX6_name 25 = .ok (.aload_n 0, 1) := by decide +kernel
theorem dX6_name_26 : decode cX6_name 26 = .ok (.getfield 109, 3) := by decide +kernel
theorem dX6_name_29 : decode cX6_name 29 = .ok (.if_icmp .ge 12, 3) := by decide +kernel
theorem dX6_name_32 : decode cX6_name 32 = .ok (.aload_n 0, 1) := by decide +kernel
theorem dX6_name_33 : decode cX6_name 33 = .ok (.getfield 38, 3) := by decide +kernel
theorem dX6_name_36 : decode cX6_name 36 = .ok (.iload_n 1, 1) := by decide +kernel
theorem dX6_name_37 : decode cX6_name 37 = .ok (.iaload, 1) := by decide +kernel
theorem dX6_name_38 : decode cX6_name 38 = .ok (.goto 4, 3) := by decide +kernel
theorem dX6_name_41 : decode cX6_name 41 = .ok (.iconst 0, 1) := by decide +kernel
theorem dX6_name_42 : decode cX6_name 42 = .ok (.ireturn, 1) := by decide +kernel
theorem dX6_has_0 : decode cX6_has 0 = .ok (.aload_n 0, 1) := by decide +kernel
theorem dX6_has_1 : decode cX6_has 1 = .ok (.aload_n 0, 1) := by decide +kernel
theorem dX6_has_2 : decode cX6_has 2 = .ok (.iload_n 1, 1) := by decide +kernel
theorem dX6_has_3 : decode cX6_has 3 = .ok (.invokevirtual 228, 3) := by decide +kernel
theorem dX6_has_6 : decode cX6_has 6 = .ok (.ifCond .eq 15, 3) := by decide +kernel
theorem dX6_has_9 : decode cX6_has 9 = .ok (.aload_n 0, 1) := by decide +kernel
theorem dX6_has_10 : decode cX6_has 10 = .ok (.iload_n 2, 1) := by decide +kernel
theorem dX6_has_11 : decode cX6_has 11 = .ok (.invokevirtual 224, 3) := by decide +kernel
theorem dX6_has_14 : decode cX6_has 14 = .ok (.ifCond .eq 7, 3) := by decide +kernel
theorem dX6_has_17 : decode cX6_has 17 = .ok (.iconst 0, 1) := by decide +kernel
theorem dX6_has_18 : decode cX6_has 18 = .ok (.goto 4, 3) := by decide +kernel
theorem dX6_has_21 : decode cX6_has 21 = .ok (.iconst 1, 1) := by decide +kernel
theorem dX6_has_22 : decode cX6_has 22 = .ok (.putfield 65, 3) := by decide +kernel
theorem dX6_has_25 : decode cX6_has 25 = .ok (.aload_n 0, 1) := by decide +kernel
theorem dX6_has_26 : decode cX6_has 26 = .ok (.getfield 65, 3) := by decide +kernel
theorem dX6_has_29 : decode cX6_has 29 = .ok (.ifCond .ne 13, 3) := by decide +kernel
theorem dX6_has_32 : decode cX6_has 32 = .ok (.aload_n 0, 1) := by decide +kernel
theorem dX6_has_33 : decode cX6_has 33 = .ok (.iload_n 1, 1) := by decide +kernel
theorem dX6_has_34 : decode cX6_has 34 = .ok (.iload_n 2, 1) := by decide +kernel
theorem dX6_has_35 : decode cX6_has 35 = .ok (.invokevirtual 171, 3) := by decide +kernel
theorem dX6_has_38 : decode cX6_has 38 = .ok (.l2i, 1) := by decide +kernel
theorem dX6_has_39 : decode cX6_has 39 = .ok (.goto 4, 3) := by decide +kernel
theorem dX6_has_42 : decode cX6_has 42 = .ok (.iconst 0, 1) := by decide +kernel
theorem dX6_has_43 : decode cX6_has 43 = .ok (.ireturn, 1) := by decide +kernel
theorem dX6_product_0 : decode cX6_product 0 = .ok (.aload_n 0, 1) := by decide +kernel
theorem dX6_product_1 : decode cX6_product 1 = .ok (.aload_n 0, 1) := by decide +kernel
theorem dX6_product_2 : decode cX6_product 2 = .ok (.iload_n 1, 1) := by decide +kernel
theorem dX6_product_3 : decode cX6_product 3 = .ok (.invokevirtual 228, 3) := by decide +kernel
theorem dX6_product_6 : decode cX6_product 6 = .ok (.ifCond .eq 7, 3) := by decide +kernel
theorem dX6_product_9 : decode cX6_product 9 = .ok (.iconst 0, 1) := by decide +kernel
theorem dX6_product_10 : decode cX6_product 10 = .ok (.goto 4, 3) := by decide +kernel
theorem dX6_product_13 : decode cX6_product 13 = .ok (.iconst 1, 1) := by decide +kernel
theorem dX6_product_14 : decode cX6_product 14 = .ok (.putfield 65, 3) := by decide +kernel
theorem dX6_product_17 : decode cX6_product 17 = .ok (.aload_n 0, 1) := by decide +kernel
theorem dX6_product_18 : decode cX6_product 18 = .ok (.getfield 65, 3) := by decide +kernel
theorem dX6_product_21 : decode cX6_product 21 = .ok (.ifCond .ne 16, 3) := by decide +kernel
theorem dX6_product_24 : decode cX6_product 24 = .ok (.aload_n 0, 1) := by decide +kernel
theorem dX6_product_25 : decode cX6_product 25 = .ok (.getfield 27, 3) := by decide +kernel
theorem dX6_product_28 : decode cX6_product 28 = .ok (.iload_n 1, 1) := by decide +kernel
theorem dX6_product_29 : decode cX6_product 29 = .ok (.baload, 1) := by decide +kernel
theorem dX6_product_30 : decode cX6_product 30 = .ok (.ifCond .eq 7, 3) := by decide +kernel
theorem dX6_product_33 : decode cX6_product 33 = .ok (.iconst 1, 1) := by decide +kernel
theorem dX6_product_34 : decode cX6_product 34 = .ok (.goto 4, 3) := by decide +kernel
theorem dX6_product_37 : decode cX6_product 37 = .ok (.iconst 0, 1) := by decide +kernel
theorem dX6_product_38 : decode cX6_product 38 = .ok (.ireturn, 1) := by decide +kernel
theorem dX6_free_0 : decode cX6_free 0 = .ok (.aload_n 0, 1) := by decide +kernel
theorem dX6_free_1 : decode cX6_free 1 = .ok (.aload_n 0, 1) := by decide +kernel
theorem dX6_free_2 : decode cX6_free 2 = .ok (.iload_n 1, 1) := by decide +kernel
theorem dX6_free_3 : decode cX6_free 3 = .ok (.invokevirtual 228, 3) := by decide +kernel
theorem dX6_free_6 : decode cX6_free 6 = .ok (.ifCond .eq 7, 3) := by decide +kernel
theorem dX6_free_9 : decode cX6_free 9 = .ok (.iconst 0, 1) := by decide +kernel
theorem dX6_free_10 : decode cX6_free 10 = .ok (.goto 4, 3) := by decide +kernel
theorem dX6_free_13 : decode cX6_free 13 = .ok (.iconst 1, 1) := by decide +kernel
theorem dX6_free_14 : decode cX6_free 14 = .ok (.putfield 65, 3) := by decide +kernel
theorem dX6_free_17 : decode cX6_free 17 = .ok (.aload_n 0, 1) := by decide +kernel
theorem dX6_free_18 : decode cX6_free 18 = .ok (.getfield 65, 3) := by decide +kernel
theorem dX6_free_21 : decode cX6_free 21 = .ok (.ifCond .ne 16, 3) := by decide +kernel
theorem dX6_free_24 : decode cX6_free 24 = .ok (.aload_n 0, 1) := by decide +kernel
theorem dX6_free_25 : decode cX6_free 25 = .ok (.getfield 50, 3) := by decide +kernel
theorem dX6_free_28 : decode cX6_free 28 = .ok (.iload_n 1, 1) := by decide +kernel
theorem dX6_free_29 : decode cX6_free 29 = .ok (.baload, 1) := by decide +kernel
theorem dX6_free_30 : decode cX6_free 30 = .ok (.ifCond .eq 7, 3) := by decide +kernel
theorem dX6_free_33 : decode cX6_free 33 = .ok (.iconst 1, 1) := by decide +kernel
theorem dX6_free_34 : decode cX6_free 34 = .ok (.goto 4, 3) := by decide +kernel
theorem dX6_free_37 : decode cX6_free 37 = .ok (.iconst 0, 1) := by decide +kernel
theorem dX6_free_38 : decode cX6_free 38 = .ok (.ireturn, 1) := by decide +kernel
theorem dX6_number_0 : decode cX6_number 0 = .ok (.aload_n 0, 1) := by decide +kernel
theorem dX6_number_1 : decode cX6_number 1 = .ok (.aload_n 0, 1) := by decide +kernel
theorem dX6_number_2 : decode cX6_number 2 = .ok (.iload_n 2, 1) := by decide +kernel
theorem dX6_number_3 : decode cX6_number 3 = .ok (.invokevirtual 228, 3) := by decide +kernel
theorem dX6_number_6 : decode cX6_number 6 = .ok (.ifCond .eq 19, 3) := by decide +kernel
theorem dX6_number_9 : decode cX6_number 9 = .ok (.iload_n 1, 1) := by decide +kernel
theorem dX6_number_10 : decode cX6_number 10 = .ok (.ifCond .lt 15, 3) := by decide +kernel
theorem dX6_number_13 : decode cX6_number 13 = .ok (.iload_n 1, 1) := by decide +kernel
theorem dX6_number_14 : decode cX6_number 14 = .ok (.aload_n 0, 1) := by decide +kernel
theorem dX6_number_15 : decode cX6_number 15 = .ok (.getfield 188, 3) := by decide +kernel
theorem dX6_number_18 : decode cX6_number 18 = .ok (.if_icmp .ge 7, 3) := by decide +kernel
theorem dX6_number_21 : decode cX6_number 21 = .ok (.iconst 0, 1) := by decide +kernel
theorem dX6_number_22 : decode cX6_number 22 = .ok (.goto 4, 3) := by decide +kernel
theorem dX6_number_25 : decode cX6_number 25 = .ok (.iconst 1, 1) := by decide +kernel
theorem dX6_number_26 : decode cX6_number 26 = .ok (.putfield 65, 3) := by decide +kernel
theorem dX6_number_29 : decode cX6_number 29 = .ok (.aload_n 0, 1) := by decide +kernel
theorem dX6_number_30 : decode cX6_number 30 = .ok (.getfield 65, 3) := by decide +kernel
theorem dX6_number_33 : decode cX6_number 33 = .ok (.ifCond .ne 17, 3) := by decide +kernel
theorem dX6_number_36 : decode cX6_number 36 = .ok (.aload_n 0, 1) := by decide +kernel
theorem dX6_number_37 : decode cX6_number 37 = .ok (.getfield 53, 3) := by decide +kernel
theorem dX6_number_40 : decode cX6_number 40 = .ok (.bipush 6, 2) := by decide +kernel
theorem dX6_number_42 : decode cX6_number 42 = .ok (.iload_n 1, 1) := by decide +kernel
theorem dX6_number_43 : decode cX6_number 43 = .ok (.imul, 1) := by decide +kernel
theorem dX6_number_44 : decode cX6_number 44 = .ok (.iload_n 2, 1) := by decide +kernel
theorem dX6_number_45 : decode cX6_number 45 = .ok (.iadd, 1) := by decide +kernel
theorem dX6_number_46 : decode cX6_number 46 = .ok (.laload, 1) := by decide +kernel
theorem dX6_number_47 : decode cX6_number 47 = .ok (.goto 4, 3) := by decide +kernel
theorem dX6_number_50 : decode cX6_number 50 = .ok (.lconst 0, 1) := by decide +kernel
theorem dX6_number_51 : decode cX6_number 51 = .ok (.lreturn, 1) := by decide +kernel
theorem dX6_weight_0 : decode cX6_weight 0 = .ok (.aload_n 0, 1) := by decide +kernel
theorem dX6_weight_1 : decode cX6_weight 1 = .ok (.aload_n 0, 1) := by decide +kernel
theorem dX6_weight_2 : decode cX6_weight 2 = .ok (.iload_n 1, 1) := by decide +kernel
theorem dX6_weight_3 : decode cX6_weight 3 = .ok (.invokevirtual 224, 3) := by decide +kernel
theorem dX6_weight_6 : decode cX6_weight 6 = .ok (.ifCond .ne 7, 3) := by decide +kernel
theorem dX6_weight_9 : decode cX6_weight 9 = .ok (.iconst 1, 1) := by decide +kernel
theorem dX6_weight_10 : decode cX6_weight 10 = .ok (.goto 15, 3) := by decide +kernel
theorem dX6_weight_13 : decode cX6_weight 13 = .ok (.aload_n 0, 1) := by decide +kernel
theorem dX6_weight_14 : decode cX6_weight 14 = .ok (.invokevirtual 216, 3) := by decide +kernel
theorem dX6_weight_17 : decode cX6_weight 17 = .ok (.ifCond .ne 7, 3) := by decide +kernel
theorem dX6_weight_20 : decode cX6_weight 20 = .ok (.iconst 2, 1) := by decide +kernel
theorem dX6_weight_21 : decode cX6_weight 21 = .ok (.goto 4, 3) := by decide +kernel
theorem dX6_weight_24 : decode cX6_weight 24 = .ok (.iconst 0, 1) := by decide +kernel
theorem dX6_weight_25 : decode cX6_weight 25 = .ok (.putfield 65, 3) := by decide +kernel
theorem dX6_weight_28 : decode cX6_weight 28 = .ok (.lconst 0, 1) := by decide +kernel
theorem dX6_weight_29 : decode cX6_weight 29 = .ok (.lstore_n 2, 1) := by decide +kernel
theorem dX6_weight_30 : decode cX6_weight 30 = .ok (.iconst 0, 1) := by decide +kernel
theorem dX6_weight_31 : decode cX6_weight 31 = .ok (.istore 4, 2) := by decide +kernel
theorem dX6_weight_33 : decode cX6_weight 33 = .ok (.iload 4, 2) := by decide +kernel
theorem dX6_weight_35 : decode cX6_weight 35 = .ok (.aload_n 0, 1) := by decide +kernel
theorem dX6_weight_36 : decode cX6_weight 36 = .ok (.getfield 133, 3) := by decide +kernel
theorem dX6_weight_39 : decode cX6_weight 39 = .ok (.if_icmp .ge 48, 3) := by decide +kernel
theorem dX6_weight_42 : decode cX6_weight 42 = .ok (.aload_n 0, 1) := by decide +kernel
theorem dX6_weight_43 : decode cX6_weight 43 = .ok (.getfield 65, 3) := by decide +kernel
theorem dX6_weight_46 : decode cX6_weight 46 = .ok (.ifCond .ne 41, 3) := by decide +kernel
theorem dX6_weight_49 : decode cX6_weight 49 = .ok (.lload_n 2, 1) := by decide +kernel
theorem dX6_weight_50 : decode cX6_weight 50 = .ok (.aload_n 0, 1) := by decide +kernel
theorem dX6_weight_51 : decode cX6_weight 51 = .ok (.getfield 27, 3) := by decide +kernel
theorem dX6_weight_54 : decode cX6_weight 54 = .ok (.iload 4, 2) := by decide +kernel
theorem dX6_weight_56 : decode cX6_weight 56 = .ok (.baload, 1) := by decide +kernel
theorem dX6_weight_57 : decode cX6_weight 57 = .ok (.ifCond .eq 7, 3) := by decide +kernel
theorem dX6_weight_60 : decode cX6_weight 60 = .ok (.lconst 0, 1) := by decide +kernel
theorem dX6_weight_61 : decode cX6_weight 61 = .ok (.goto 18, 3) := by decide +kernel
theorem dX6_weight_64 : decode cX6_weight 64 = .ok (.aload_n 0, 1) := by decide +kernel
theorem dX6_weight_65 : decode cX6_weight 65 = .ok (.getfield 53, 3) := by decide +kernel
theorem dX6_weight_68 : decode cX6_weight 68 = .ok (.iload 4, 2) := by decide +kernel
theorem dX6_weight_70 : decode cX6_weight 70 = .ok (.laload, 1) := by decide +kernel
theorem dX6_weight_71 : decode cX6_weight 71 = .ok (.aload_n 0, 1) := by decide +kernel
theorem dX6_weight_72 : decode cX6_weight 72 = .ok (.iload 4, 2) := by decide +kernel
theorem dX6_weight_74 : decode cX6_weight 74 = .ok (.iload_n 1, 1) := by decide +kernel
theorem dX6_weight_75 : decode cX6_weight 75 = .ok (.invokevirtual 171, 3) := by decide +kernel
theorem dX6_weight_78 : decode cX6_weight 78 = .ok (.lmul, 1) := by decide +kernel
theorem dX6_weight_79 : decode cX6_weight 79 = .ok (.ladd, 1) := by decide +kernel
theorem dX6_weight_80 : decode cX6_weight 80 = .ok (.lstore_n 2, 1) := by decide +kernel
theorem dX6_weight_81 : decode cX6_weight 81 = .ok (.iinc 4 1, 3) := by decide +kernel
theorem dX6_weight_84 : decode cX6_weight 84 = .ok (.goto (-51), 3) := by decide +kernel
theorem dX6_weight_87 : decode cX6_weight 87 = .ok (.lload_n 2, 1) := by decide +kernel
theorem dX6_weight_88 : decode cX6_weight 88 = .ok (.lreturn, 1) := by decide +kernel
theorem dX6_written_0 : decode cX6_written 0 = .ok (.aload_n 0, 1) := by decide +kernel
theorem dX6_written_1 : decode cX6_written 1 = .ok (.aload_n 0, 1) := by decide +kernel
theorem dX6_written_2 : decode cX6_written 2 = .ok (.invokevirtual 216, 3) := by decide +kernel
theorem dX6_written_5 : decode cX6_written 5 = .ok (.ifCond .eq 7, 3) := by decide +kernel
theorem dX6_written_8 : decode cX6_written 8 = .ok (.iconst 0, 1) := by decide +kernel
theorem dX6_written_9 : decode cX6_written 9 = .ok (.goto 4, 3) := by decide +kernel
theorem dX6_written_12 : decode cX6_written 12 = .ok (.iconst 1, 1) := by decide +kernel
theorem dX6_written_13 : decode cX6_written 13 = .ok (.putfield 65, 3) := by decide +kernel
theorem dX6_written_16 : decode cX6_written 16 = .ok (.aload_n 0, 1) := by decide +kernel
theorem dX6_written_17 : decode cX6_written 17 = .ok (.getfield 65, 3) := by decide +kernel
theorem dX6_written_20 : decode cX6_written 20 = .ok (.ifCond .eq 7, 3) := by decide +kernel
theorem dX6_written_23 : decode cX6_written 23 = .ok (.iconst 0, 1) := by decide +kernel
theorem dX6_written_24 : decode cX6_written 24 = .ok (.goto 25, 3) := by decide +kernel
theorem dX6_written_27 : decode cX6_written 27 = .ok (.iload_n 1, 1) := by decide +kernel
theorem dX6_written_28 : decode cX6_written 28 = .ok (.ifCond .lt 11, 3) := by decide +kernel
theorem dX6_written_31 : decode cX6_written 31 = .ok (.iload_n 1, 1) := by decide +kernel
theorem dX6_written_32 : decode cX6_written 32 = .ok (.aload_n 0, 1) := by decide +kernel
theorem dX6_written_33 : decode cX6_written 33 = .ok (.getfield 204, 3) := by decide +kernel
theorem dX6_written_36 : decode cX6_written 36 = .ok (.if_icmp .lt 7, 3) := by decide +kernel
theorem dX6_written_39 : decode cX6_written 39 = .ok (.iconst (-1), 1) := by decide +kernel
theorem dX6_written_40 : decode cX6_written 40 = .ok (.goto 9, 3) := by decide +kernel
theorem dX6_written_43 : decode cX6_written 43 = .ok (.aload_n 0, 1) := by decide +kernel
theorem dX6_written_44 : decode cX6_written 44 = .ok (.getfield 62, 3) := by decide +kernel
theorem dX6_written_47 : decode cX6_written 47 = .ok (.iload_n 1, 1) := by decide +kernel
theorem dX6_written_48 : decode cX6_written 48 = .ok (.caload, 1) := by decide +kernel
theorem dX6_written_49 : decode cX6_written 49 = .ok (.ireturn, 1) := by decide +kernel
theorem dX6_solves_0 : decode cX6_solves 0 = .ok (.aload_n 0, 1) := by decide +kernel
theorem dX6_solves_1 : decode cX6_solves 1 = .ok (.aload_n 0, 1) := by decide +kernel
theorem dX6_solves_2 : decode cX6_solves 2 = .ok (.getfield 162, 3) := by decide +kernel
theorem dX6_solves_5 : decode cX6_solves 5 = .ok (.ifCond .eq 12, 3) := by decide +kernel
theorem dX6_solves_8 : decode cX6_solves 8 = .ok (.aload_n 0, 1) := by decide +kernel
theorem dX6_solves_9 : decode cX6_solves 9 = .ok (.getfield 133, 3) := by decide +kernel
theorem dX6_solves_12 : decode cX6_solves 12 = .ok (.bipush 6, 2) := by decide +kernel
theorem dX6_solves_14 : decode cX6_solves 14 = .ok (.if_icmp .ne 7, 3) := by decide +kernel
theorem dX6_solves_17 : decode cX6_solves 17 = .ok (.iconst 1, 1) := by decide +kernel
theorem dX6_solves_18 : decode cX6_solves 18 = .ok (.goto 4, 3) := by decide +kernel
theorem dX6_solves_21 : decode cX6_solves 21 = .ok (.iconst 0, 1) := by decide +kernel
theorem dX6_solves_22 : decode cX6_solves 22 = .ok (.putfield 65, 3) := by decide +kernel
theorem dX6_solves_25 : decode cX6_solves 25 = .ok (.aload_n 0, 1) := by decide +kernel
theorem dX6_solves_26 : decode cX6_solves 26 = .ok (.getfield 65, 3) := by decide +kernel
theorem dX6_solves_29 : decode cX6_solves 29 = .ok (.ifCond .ne 7, 3) := by decide +kernel
theorem dX6_solves_32 : decode cX6_solves 32 = .ok (.iconst 1, 1) := by decide +kernel
theorem dX6_solves_33 : decode cX6_solves 33 = .ok (.goto 4, 3) := by decide +kernel
theorem dX6_solves_36 : decode cX6_solves 36 = .ok (.iconst 0, 1) := by decide +kernel
theorem dX6_solves_37 : decode cX6_solves 37 = .ok (.istore 6, 2) := by decide +kernel
theorem dX6_solves_39 : decode cX6_solves 39 = .ok (.iconst 0, 1) := by decide +kernel
theorem dX6_solves_40 : decode cX6_solves 40 = .ok (.istore 7, 2) := by decide +kernel
theorem dX6_solves_42 : decode cX6_solves 42 = .ok (.iload 7, 2) := by decide +kernel
theorem dX6_solves_44 : decode cX6_solves 44 = .ok (.aload_n 0, 1) := by decide +kernel
theorem dX6_solves_45 : decode cX6_solves 45 = .ok (.invokevirtual 175, 3) := by decide +kernel
theorem dX6_solves_48 : decode cX6_solves 48 = .ok (.if_icmp .ge 134, 3) := by decide +kernel
theorem dX6_solves_51 : decode cX6_solves 51 = .ok (.iload 6, 2) := by decide +kernel
theorem dX6_solves_53 : decode cX6_solves 53 = .ok (.ifCond .eq 129, 3) := by decide +kernel
theorem dX6_solves_56 : decode cX6_solves 56 = .ok (.lconst 0, 1) := by decide +kernel
theorem dX6_solves_57 : decode cX6_solves 57 = .ok (.lstore 8, 2) := by decide +kernel
theorem dX6_solves_59 : decode cX6_solves 59 = .ok (.iconst 0, 1) := by decide +kernel
theorem dX6_solves_60 : decode cX6_solves 60 = .ok (.istore 10, 2) := by decide +kernel
theorem dX6_solves_62 : decode cX6_solves 62 = .ok (.iload 10, 2) := by decide +kernel
theorem dX6_solves_64 : decode cX6_solves 64 = .ok (.aload_n 0, 1) := by decide +kernel
theorem dX6_solves_65 : decode cX6_solves 65 = .ok (.getfield 133, 3) := by decide +kernel
theorem dX6_solves_68 : decode cX6_solves 68 = .ok (.if_icmp .ge 94, 3) := by decide +kernel
theorem dX6_solves_71 : decode cX6_solves 71 = .ok (.iload 10, 2) := by decide +kernel
theorem dX6_solves_73 : decode cX6_solves 73 = .ok (.ifCond .ne 8, 3) := by decide +kernel
theorem dX6_solves_76 : decode cX6_solves 76 = .ok (.iload_n 1, 1) := by decide +kernel
theorem dX6_solves_77 : decode cX6_solves 77 = .ok (.i2l, 1) := by decide +kernel
theorem dX6_solves_78 : decode cX6_solves 78 = .ok (.goto 40, 3) := by decide +kernel
theorem dX6_solves_81 : decode cX6_solves 81 = .ok (.iload 10, 2) := by decide +kernel
theorem dX6_solves_83 : decode cX6_solves 83 = .ok (.iconst 1, 1) := by decide +kernel
theorem dX6_solves_84 : decode cX6_solves 84 = .ok (.if_icmp .ne 8, 3) := by decide +kernel
theorem dX6_solves_87 : decode cX6_solves 87 = .ok (.iload_n 2, 1) := by decide +kernel
theorem dX6_solves_88 : decode cX6_solves 88 = .ok (.i2l, 1) := by decide +kernel
theorem dX6_solves_89 : decode cX6_solves 89 = .ok (.goto 29, 3) := by decide +kernel
theorem dX6_solves_92 : decode cX6_solves 92 = .ok (.iload 10, 2) := by decide +kernel
theorem dX6_solves_94 : decode cX6_solves 94 = .ok (.iconst 2, 1) := by decide +kernel
theorem dX6_solves_95 : decode cX6_solves 95 = .ok (.if_icmp .ne 8, 3) := by decide +kernel
theorem dX6_solves_98 : decode cX6_solves 98 = .ok (.iload_n 3, 1) := by decide +kernel
theorem dX6_solves_99 : decode cX6_solves 99 = .ok (.i2l, 1) := by decide +kernel
theorem dX6_solves_100 : decode cX6_solves 100 = .ok (.goto 18, 3) := by decide +kernel
theorem dX6_solves_103 : decode cX6_solves 103 = .ok (.iload 10, 2) := by decide +kernel
theorem dX6_solves_105 : decode cX6_solves 105 = .ok (.iconst 3, 1) := by decide +kernel
theorem dX6_solves_106 : decode cX6_solves 106 = .ok (.if_icmp .ne 9, 3) := by decide +kernel
theorem dX6_solves_109 : decode cX6_solves 109 = .ok (.iload 4, 2) := by decide +kernel
theorem dX6_solves_111 : decode cX6_solves 111 = .ok (.i2l, 1) := by decide +kernel
theorem dX6_solves_112 : decode cX6_solves 112 = .ok (.goto 6, 3) := by decide +kernel
theorem dX6_solves_115 : decode cX6_solves 115 = .ok (.iload 5, 2) := by decide +kernel
theorem dX6_solves_117 : decode cX6_solves 117 = .ok (.i2l, 1) := by decide +kernel
theorem dX6_solves_118 : decode cX6_solves 118 = .ok (.lstore 11, 2) := by decide +kernel
theorem dX6_solves_120 : decode cX6_solves 120 = .ok (.lload 11, 2) := by decide +kernel
theorem dX6_solves_122 : decode cX6_solves 122 = .ok (.aload_n 0, 1) := by decide +kernel
theorem dX6_solves_123 : decode cX6_solves 123 = .ok (.iload 10, 2) := by decide +kernel
theorem dX6_solves_125 : decode cX6_solves 125 = .ok (.iload 7, 2) := by decide +kernel
theorem dX6_solves_127 : decode cX6_solves 127 = .ok (.invokevirtual 171, 3) := by decide +kernel
theorem dX6_solves_130 : decode cX6_solves 130 = .ok (.lmul, 1) := by decide +kernel
theorem dX6_solves_131 : decode cX6_solves 131 = .ok (.lstore 13, 2) := by decide +kernel
theorem dX6_solves_133 : decode cX6_solves 133 = .ok (.lload 8, 2) := by decide +kernel
theorem dX6_solves_135 : decode cX6_solves 135 = .ok (.aload_n 0, 1) := by decide +kernel
theorem dX6_solves_136 : decode cX6_solves 136 = .ok (.getfield 27, 3) := by decide +kernel
theorem dX6_solves_139 : decode cX6_solves 139 = .ok (.iload 10, 2) := by decide +kernel
theorem dX6_solves_141 : decode cX6_solves 141 = .ok (.baload, 1) := by decide +kernel
theorem dX6_solves_142 : decode cX6_solves 142 = .ok (.ifCond .eq 9, 3) := by decide +kernel
theorem dX6_solves_145 : decode cX6_solves 145 = .ok (.lload 13, 2) := by decide +kernel
theorem dX6_solves_147 : decode cX6_solves 147 = .ok (.lneg, 1) := by decide +kernel
theorem dX6_solves_148 : decode cX6_solves 148 = .ok (.goto 5, 3) := by decide +kernel
theorem dX6_solves_151 : decode cX6_solves 151 = .ok (.lload 13, 2) := by decide +kernel
theorem dX6_solves_153 : decode cX6_solves 153 = .ok (.ladd, 1) := by decide +kernel
theorem dX6_solves_154 : decode cX6_solves 154 = .ok (.lstore 8, 2) := by decide +kernel
theorem dX6_solves_156 : decode cX6_solves 156 = .ok (.iinc 10 1, 3) := by decide +kernel
theorem dX6_solves_159 : decode cX6_solves 159 = .ok (.goto (-97), 3) := by decide +kernel
theorem dX6_solves_162 : decode cX6_solves 162 = .ok (.lload 8, 2) := by decide +kernel
theorem dX6_solves_164 : decode cX6_solves 164 = .ok (.lconst 0, 1) := by decide +kernel
theorem dX6_solves_165 : decode cX6_solves 165 = .ok (.lcmp, 1) := by decide +kernel
theorem dX6_solves_166 : decode cX6_solves 166 = .ok (.ifCond .ne 7, 3) := by decide +kernel
theorem dX6_solves_169 : decode cX6_solves 169 = .ok (.iconst 1, 1) := by decide +kernel
theorem dX6_solves_170 : decode cX6_solves 170 = .ok (.goto 4, 3) := by decide +kernel
theorem dX6_solves_173 : decode cX6_solves 173 = .ok (.iconst 0, 1) := by decide +kernel
theorem dX6_solves_174 : decode cX6_solves 174 = .ok (.istore 6, 2) := by decide +kernel
theorem dX6_solves_176 : decode cX6_solves 176 = .ok (.iinc 7 1, 3) := by decide +kernel
theorem dX6_solves_179 : decode cX6_solves 179 = .ok (.goto (-137), 3) := by decide +kernel
theorem dX6_solves_182 : decode cX6_solves 182 = .ok (.iload 6, 2) := by decide +kernel
theorem dX6_solves_184 : decode cX6_solves 184 = .ok (.ireturn, 1) := by decide +kernel
