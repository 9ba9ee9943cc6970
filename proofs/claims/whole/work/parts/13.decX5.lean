theorem dX5_type_0 : decode cX5_type 0 = .ok (.lload_n 1, 1) := by decide +kernel
theorem dX5_type_1 : decode cX5_type 1 = .ok (.invokestatic 30, 3) := by decide +kernel
theorem dX5_type_4 : decode cX5_type 4 = .ok (.istore_n 3, 1) := by decide +kernel
theorem dX5_type_5 : decode cX5_type 5 = .ok (.iconst 0, 1) := by decide +kernel
theorem dX5_type_6 : decode cX5_type 6 = .ok (.istore 4, 2) := by decide +kernel
theorem dX5_type_8 : decode cX5_type 8 = .ok (.iload 4, 2) := by decide +kernel
theorem dX5_type_10 : decode cX5_type 10 = .ok (.iload_n 3, 1) := by decide +kernel
theorem dX5_type_11 : decode cX5_type 11 = .ok (.if_icmp .ge 29, 3) := by decide +kernel
theorem dX5_type_14 : decode cX5_type 14 = .ok (.lload_n 1, 1) := by decide +kernel
theorem dX5_type_15 : decode cX5_type 15 = .ok (.iload 4, 2) := by decide +kernel
theorem dX5_type_17 : decode cX5_type 17 = .ok (.invokestatic 34, 3) := by decide +kernel
theorem dX5_type_20 : decode cX5_type 20 = .ok (.invokestatic 38, 3) := by decide +kernel
theorem dX5_type_23 : decode cX5_type 23 = .ok (.ifCond .ne 11, 3) := by decide +kernel
theorem dX5_type_26 : decode cX5_type 26 = .ok (.new 42, 3) := by decide +kernel
theorem dX5_type_29 : decode cX5_type 29 = .ok (.dup, 1) := by decide +kernel
theorem dX5_type_30 : decode cX5_type 30 = .ok (.invokespecial 44, 3) := by decide +kernel
theorem dX5_type_33 : decode cX5_type 33 = .ok (.athrow, 1) := by decide +kernel
theorem dX5_type_34 : decode cX5_type 34 = .ok (.iinc 4 1, 3) := by decide +kernel
theorem dX5_type_37 : decode cX5_type 37 = .ok (.goto (-29), 3) := by decide +kernel
theorem dX5_type_40 : decode cX5_type 40 = .ok (.aload_n 0, 1) := by decide +kernel
theorem dX5_type_41 : decode cX5_type 41 = .ok (.getfield 10, 3) := by decide +kernel
theorem dX5_type_44 : decode cX5_type 44 = .ok (.getfield 45, 3) := by decide +kernel
theorem dX5_type_47 : decode cX5_type 47 = .ok (.astore 4, 2) := by decide +kernel
theorem dX5_type_49 : decode cX5_type 49 = .ok (.aload 4, 2) := by decide +kernel
theorem dX5_type_51 : decode cX5_type 51 = .ok (.getfield 49, 3) := by decide +kernel
theorem dX5_type_54 : decode cX5_type 54 = .ok (.iload_n 3, 1) := by decide +kernel
theorem dX5_type_55 : decode cX5_type 55 = .ok (.iadd, 1) := by decide +kernel
theorem dX5_type_56 : decode cX5_type 56 = .ok (.bipush 100, 2) := by decide +kernel
theorem dX5_type_58 : decode cX5_type 58 = .ok (.if_icmp .le 11, 3) := by decide +kernel
theorem dX5_type_61 : decode cX5_type 61 = .ok (.new 55, 3) := by decide +kernel
theorem dX5_type_64 : decode cX5_type 64 = .ok (.dup, 1) := by decide +kernel
theorem dX5_type_65 : decode cX5_type 65 = .ok (.invokespecial 57, 3) := by decide +kernel
theorem dX5_type_68 : decode cX5_type 68 = .ok (.athrow, 1) := by decide +kernel
theorem dX5_type_69 : decode cX5_type 69 = .ok (.iconst 0, 1) := by decide +kernel
theorem dX5_type_70 : decode cX5_type 70 = .ok (.istore 5, 2) := by decide +kernel
theorem dX5_type_72 : decode cX5_type 72 = .ok (.iload 5, 2) := by decide +kernel
theorem dX5_type_74 : decode cX5_type 74 = .ok (.iload_n 3, 1) := by decide +kernel
theorem dX5_type_75 : decode cX5_type 75 = .ok (.if_icmp .ge 21, 3) := by decide +kernel
theorem dX5_type_78 : decode cX5_type 78 = .ok (.aload 4, 2) := by decide +kernel
theorem dX5_type_80 : decode cX5_type 80 = .ok (.lload_n 1, 1) := by decide +kernel
theorem dX5_type_81 : decode cX5_type 81 = .ok (.iload 5, 2) := by decide +kernel
theorem dX5_type_83 : decode cX5_type 83 = .ok (.invokestatic 34, 3) := by decide +kernel
theorem dX5_type_86 : decode cX5_type 86 = .ok (.i2c, 1) := by decide +kernel
theorem dX5_type_87 : decode cX5_type 87 = .ok (.invokevirtual 58, 3) := by decide +kernel
theorem dX5_type_90 : decode cX5_type 90 = .ok (.iinc 5 1, 3) := by decide +kernel
theorem dX5_type_93 : decode cX5_type 93 = .ok (.goto (-21), 3) := by decide +kernel
theorem dX5_type_96 : decode cX5_type 96 = .ok (.aload 4, 2) := by decide +kernel
theorem dX5_type_98 : decode cX5_type 98 = .ok (.getfield 49, 3) := by decide +kernel
theorem dX5_type_101 : decode cX5_type 101 = .ok (.ireturn, 1) := by decide +kernel
theorem dX5_charactersIn_0 : decode cX5_charactersIn 0 = .ok (.iconst 0, 1) := by decide +kernel
theorem dX5_charactersIn_1 : decode cX5_charactersIn 1 = .ok (.istore_n 2, 1) := by decide +kernel
theorem dX5_charactersIn_2 : decode cX5_charactersIn 2 = .ok (.iload_n 2, 1) := by decide +kernel
theorem dX5_charactersIn_3 : decode cX5_charactersIn 3 = .ok (.bipush 8, 2) := by decide +kernel
theorem dX5_charactersIn_5 : decode cX5_charactersIn 5 = .ok (.if_icmp .ge 17, 3) := by decide +kernel
theorem dX5_charactersIn_8 : decode cX5_charactersIn 8 = .ok (.lload_n 0, 1) := by decide +kernel
theorem dX5_charactersIn_9 : decode cX5_charactersIn 9 = .ok (.iload_n 2, 1) := by decide +kernel
theorem dX5_charactersIn_10 : decode cX5_charactersIn 10 = .ok (.invokestatic 34, 3) := by decide +kernel
theorem dX5_charactersIn_13 : decode cX5_charactersIn 13 = .ok (.ifCond .eq 9, 3) := by decide +kernel
theorem dX5_charactersIn_16 : decode cX5_charactersIn 16 = .ok (.iinc 2 1, 3) := by decide +kernel
theorem dX5_charactersIn_19 : decode cX5_charactersIn 19 = .ok (.goto (-17), 3) := by decide +kernel
theorem dX5_charactersIn_22 : decode cX5_charactersIn 22 = .ok (.iload_n 2, 1) := by decide +kernel
theorem dX5_charactersIn_23 : decode cX5_charactersIn 23 = .ok (.ireturn, 1) := by decide +kernel
theorem dX5_byteOf_0 : decode cX5_byteOf 0 = .ok (.lload_n 0, 1) := by decide +kernel
theorem dX5_byteOf_1 : decode cX5_byteOf 1 = .ok (.bipush 8, 2) := by decide +kernel
theorem dX5_byteOf_3 : decode cX5_byteOf 3 = .ok (.iload_n 2, 1) := by decide +kernel
theorem dX5_byteOf_4 : decode cX5_byteOf 4 = .ok (.imul, 1) := by decide +kernel
theorem dX5_byteOf_5 : decode cX5_byteOf 5 = .ok (.lushr, 1) := by decide +kernel
theorem dX5_byteOf_6 : decode cX5_byteOf 6 = .ok (.l2i, 1) := by decide +kernel
theorem dX5_byteOf_7 : decode cX5_byteOf 7 = .ok (.sipush 255, 3) := by decide +kernel
theorem dX5_byteOf_10 : decode cX5_byteOf 10 = .ok (.iand, 1) := by decide +kernel
theorem dX5_byteOf_11 : decode cX5_byteOf 11 = .ok (.ireturn, 1) := by decide +kernel
theorem dX5_isPrintable_0 : decode cX5_isPrintable 0 = .ok (.iload_n 0, 1) := by decide +kernel
theorem dX5_isPrintable_1 : decode cX5_isPrintable 1 = .ok (.bipush 32, 2) := by decide +kernel
theorem dX5_isPrintable_3 : decode cX5_isPrintable 3 = .ok (.if_icmp .lt 13, 3) := by decide +kernel
theorem dX5_isPrintable_6 : decode cX5_isPrintable 6 = .ok (.iload_n 0, 1) := by decide +kernel
theorem dX5_isPrintable_7 : decode cX5_isPrintable 7 = .ok (.bipush 126, 2) := by decide +kernel
theorem dX5_isPrintable_9 : decode cX5_isPrintable 9 = .ok (.if_icmp .gt 7, 3) := by decide +kernel
theorem dX5_isPrintable_12 : decode cX5_isPrintable 12 = .ok (.iconst 1, 1) := by decide +kernel
theorem dX5_isPrintable_13 : decode cX5_isPrintable 13 = .ok (.goto 4, 3) := by decide +kernel
theorem dX5_isPrintable_16 : decode cX5_isPrintable 16 = .ok (.iconst 0, 1) := by decide +kernel
theorem dX5_isPrintable_17 : decode cX5_isPrintable 17 = .ok (.ireturn, 1) := by decide +kernel
theorem dX5_read_0 : decode cX5_read 0 = .ok (.aload_n 0, 1) := by decide +kernel
theorem dX5_read_1 : decode cX5_read 1 = .ok (.getfield 10, 3) := by decide +kernel
theorem dX5_read_4 : decode cX5_read 4 = .ok (.getfield 62, 3) := by decide +kernel
theorem dX5_read_7 : decode cX5_read 7 = .ok (.astore_n 1, 1) := by decide +kernel
theorem dX5_read_8 : decode cX5_read 8 = .ok (.aload_n 0, 1) := by decide +kernel
theorem dX5_read_9 : decode cX5_read 9 = .ok (.getfield 10, 3) := by decide +kernel
theorem dX5_read_12 : decode cX5_read 12 = .ok (.invokevirtual 66, 3) := by decide +kernel
theorem dX5_read_15 : decode cX5_read 15 = .ok (.aload_n 0, 1) := by decide +kernel
theorem dX5_read_16 : decode cX5_read 16 = .ok (.getfield 10, 3) := by decide +kernel
theorem dX5_read_19 : decode cX5_read 19 = .ok (.getfield 69, 3) := by decide +kernel
theorem dX5_read_22 : decode cX5_read 22 = .ok (.ifCond .ne 14, 3) := by decide +kernel
theorem dX5_read_25 : decode cX5_read 25 = .ok (.aload_n 0, 1) := by decide +kernel
theorem dX5_read_26 : decode cX5_read 26 = .ok (.getfield 19, 3) := by decide +kernel
theorem dX5_read_29 : decode cX5_read 29 = .ok (.aload_n 1, 1) := by decide +kernel
theorem dX5_read_30 : decode cX5_read 30 = .ok (.invokevirtual 72, 3) := by decide +kernel
theorem dX5_read_33 : decode cX5_read 33 = .ok (.goto 14, 3) := by decide +kernel
theorem dX5_read_36 : decode cX5_read 36 = .ok (.aload_n 1, 1) := by decide +kernel
theorem dX5_read_37 : decode cX5_read 37 = .ok (.invokevirtual 76, 3) := by decide +kernel
theorem dX5_read_40 : decode cX5_read 40 = .ok (.aload_n 0, 1) := by decide +kernel
theorem dX5_read_41 : decode cX5_read 41 = .ok (.getfield 19, 3) := by decide +kernel
theorem dX5_read_44 : decode cX5_read 44 = .ok (.invokevirtual 81, 3) := by decide +kernel
theorem dX5_read_47 : decode cX5_read 47 = .ok (.aload_n 0, 1) := by decide +kernel
theorem dX5_read_48 : decode cX5_read 48 = .ok (.getfield 19, 3) := by decide +kernel
theorem dX5_read_51 : decode cX5_read 51 = .ok (.getfield 84, 3) := by decide +kernel
theorem dX5_read_54 : decode cX5_read 54 = .ok (.ifCond .ne 27, 3) := by decide +kernel
theorem dX5_read_57 : decode cX5_read 57 = .ok (.aload_n 0, 1) := by decide +kernel
theorem dX5_read_58 : decode cX5_read 58 = .ok (.getfield 26, 3) := by decide +kernel
theorem dX5_read_61 : decode cX5_read 61 = .ok (.aload_n 1, 1) := by decide +kernel
theorem dX5_read_62 : decode cX5_read 62 = .ok (.aload_n 0, 1) := by decide +kernel
theorem dX5_read_63 : decode cX5_read 63 = .ok (.getfield 10, 3) := by decide +kernel
theorem dX5_read_66 : decode cX5_read 66 = .ok (.getfield 45, 3) := by decide +kernel
theorem dX5_read_69 : decode cX5_read 69 = .ok (.aload_n 0, 1) := by decide +kernel
theorem dX5_read_70 : decode cX5_read 70 = .ok (.getfield 19, 3) := by decide +kernel
theorem dX5_read_73 : decode cX5_read 73 = .ok (.getfield 87, 3) := by decide +kernel
theorem dX5_read_76 : decode cX5_read 76 = .ok (.iconst 0, 1) := by decide +kernel
theorem dX5_read_77 : decode cX5_read 77 = .ok (.aaload, 1) := by decide +kernel
theorem dX5_read_78 : decode cX5_read 78 = .ok (.invokevirtual 91, 3) := by decide +kernel
theorem dX5_read_81 : decode cX5_read 81 = .ok (.aload_n 0, 1) := by decide +kernel
theorem dX5_read_82 : decode cX5_read 82 = .ok (.getfield 10, 3) := by decide +kernel
theorem dX5_read_85 : decode cX5_read 85 = .ok (.getfield 45, 3) := by decide +kernel
theorem dX5_read_88 : decode cX5_read 88 = .ok (.invokevirtual 95, 3) := by decide +kernel
theorem dX5_read_91 : decode cX5_read 91 = .ok (.aload_n 0, 1) := by decide +kernel
theorem dX5_read_92 : decode cX5_read 92 = .ok (.getfield 10, 3) := by decide +kernel
theorem dX5_read_95 : decode cX5_read 95 = .ok (.getfield 69, 3) := by decide +kernel
theorem dX5_read_98 : decode cX5_read 98 = .ok (.ifCond .ne 10, 3) := by decide +kernel
theorem dX5_read_101 : decode cX5_read 101 = .ok (.aload_n 1, 1) := by decide +kernel
theorem dX5_read_102 : decode cX5_read 102 = .ok (.getfield 96, 3) := by decide +kernel
theorem dX5_read_105 : decode cX5_read 105 = .ok (.goto 10, 3) := by decide +kernel
theorem dX5_read_108 : decode cX5_read 108 = .ok (.aload_n 0, 1) := by decide +kernel
theorem dX5_read_109 : decode cX5_read 109 = .ok (.getfield 10, 3) := by decide +kernel
theorem dX5_read_112 : decode cX5_read 112 = .ok (.getfield 69, 3) := by decide +kernel
theorem dX5_read_115 : decode cX5_read 115 = .ok (.ireturn, 1) := by decide +kernel
theorem dX5_isDigit_0 : decode cX5_isDigit 0 = .ok (.iload_n 0, 1) := by decide +kernel
theorem dX5_isDigit_1 : decode cX5_isDigit 1 = .ok (.bipush 48, 2) := by decide +kernel
theorem dX5_isDigit_3 : decode cX5_isDigit 3 = .ok (.if_icmp .lt 13, 3) := by decide +kernel
theorem dX5_isDigit_6 : decode cX5_isDigit 6 = .ok (.iload_n 0, 1) := by decide +kernel
theorem dX5_isDigit_7 : decode cX5_isDigit 7 = .ok (.bipush 57, 2) := by decide +kernel
theorem dX5_isDigit_9 : decode cX5_isDigit 9 = .ok (.if_icmp .gt 7, 3) := by decide +kernel
theorem dX5_isDigit_12 : decode cX5_isDigit 12 = .ok (.iconst 1, 1) := by decide +kernel
theorem dX5_isDigit_13 : decode cX5_isDigit 13 = .ok (.goto 4, 3) := by decide +kernel
theorem dX5_isDigit_16 : decode cX5_isDigit 16 = .ok (.iconst 0, 1) := by decide +kernel
theorem dX5_isDigit_17 : decode cX5_isDigit 17 = .ok (.ireturn, 1) := by decide +kernel
theorem dX5_isCapital_0 : decode cX5_isCapital 0 = .ok (.iload_n 0, 1) := by decide +kernel
theorem dX5_isCapital_1 : decode cX5_isCapital 1 = .ok (.bipush 65, 2) := by decide +kernel
theorem dX5_isCapital_3 : decode cX5_isCapital 3 = .ok (.if_icmp .lt 13, 3) := by decide +kernel
theorem dX5_isCapital_6 : decode cX5_isCapital 6 = .ok (.iload_n 0, 1) := by decide +kernel
theorem dX5_isCapital_7 : decode cX5_isCapital 7 = .ok (.bipush 90, 2) := by decide +kernel
theorem dX5_isCapital_9 : decode cX5_isCapital 9 = .ok (.if_icmp .gt 7, 3) := by decide +kernel
theorem dX5_isCapital_12 : decode cX5_isCapital 12 = .ok (.iconst 1, 1) := by decide +kernel
theorem dX5_isCapital_13 : decode cX5_isCapital 13 = .ok (.goto 4, 3) := by decide +kernel
theorem dX5_isCapital_16 : decode cX5_isCapital 16 = .ok (.iconst 0, 1) := by decide +kernel
theorem dX5_isCapital_17 : decode cX5_isCapital 17 = .ok (.ireturn, 1) := by decide +kernel
theorem dX5_isSmall_0 : decode cX5_isSmall 0 = .ok (.iload_n 0, 1) := by decide +kernel
theorem dX5_isSmall_1 : decode cX5_isSmall 1 = .ok (.bipush 97, 2) := by decide +kernel
theorem dX5_isSmall_3 : decode cX5_isSmall 3 = .ok (.if_icmp .lt 13, 3) := by decide +kernel
theorem dX5_isSmall_6 : decode cX5_isSmall 6 = .ok (.iload_n 0, 1) := by decide +kernel
theorem dX5_isSmall_7 : decode cX5_isSmall 7 = .ok (.bipush 122, 2) := by decide +kernel
theorem dX5_isSmall_9 : decode cX5_isSmall 9 = .ok (.if_icmp .gt 7, 3) := by decide +kernel
theorem dX5_isSmall_12 : decode cX5_isSmall 12 = .ok (.iconst 1, 1) := by decide +kernel
theorem dX5_isSmall_13 : decode cX5_isSmall 13 = .ok (.goto 4, 3) := by decide +kernel
theorem dX5_isSmall_16 : decode cX5_isSmall 16 = .ok (.iconst 0, 1) := by decide +kernel
theorem dX5_isSmall_17 : decode cX5_isSmall 17 = .ok (.ireturn, 1) := by decide +kernel
theorem dX5_at_0 : decode cX5_at 0 = .ok (.aload_n 0, 1) := by decide +kernel
theorem dX5_at_1 : decode cX5_at 1 = .ok (.getfield 10, 3) := by decide +kernel
theorem dX5_at_4 : decode cX5_at 4 = .ok (.getfield 99, 3) := by decide +kernel
theorem dX5_at_7 : decode cX5_at 7 = .ok (.ireturn, 1) := by decide +kernel
theorem dX5_state_0 : decode cX5_state 0 = .ok (.aload_n 0, 1) := by decide +kernel
theorem dX5_state_1 : decode cX5_state 1 = .ok (.getfield 19, 3) := by decide +kernel
theorem dX5_state_4 : decode cX5_state 4 = .ok (.getfield 84, 3) := by decide +kernel
theorem dX5_state_7 : decode cX5_state 7 = .ok (.ireturn, 1) := by decide +kernel
theorem dX5_freedom_0 : decode cX5_freedom 0 = .ok (.aload_n 0, 1) := by decide +kernel
theorem dX5_freedom_1 : decode cX5_freedom 1 = .ok (.getfield 19, 3) := by decide +kernel
theorem dX5_freedom_4 : decode cX5_freedom 4 = .ok (.getfield 84, 3) := by decide +kernel
theorem dX5_freedom_7 : decode cX5_freedom 7 = .ok (.iconst (-1), 1) := by decide +kernel
theorem dX5_freedom_8 : decode cX5_freedom 8 = .ok (.if_icmp .ne 7, 3) := by decide +kernel
theorem dX5_freedom_11 : decode cX5_freedom 11 = .ok (.iconst (-1), 1) := by decide +kernel
theorem dX5_freedom_12 : decode cX5_freedom 12 = .ok (.goto 10, 3) := by decide +kernel
theorem dX5_freedom_15 : decode cX5_freedom 15 = .ok (.aload_n 0, 1) := by decide +kernel
theorem dX5_freedom_16 : decode cX5_freedom 16 = .ok (.getfield 19, 3) := by decide +kernel
theorem dX5_freedom_19 : decode cX5_freedom 19 = .ok (.getfield 102, 3) := by decide +kernel
theorem dX5_freedom_22 : decode cX5_freedom 22 = .ok (.ireturn, 1) := by decide +kernel
theorem dX5_formulas_0 : decode cX5_formulas 0 = .ok (.aload_n 0, 1) := by decide +kernel
theorem dX5_formulas_1 : decode cX5_formulas 1 = .ok (.getfield 10, 3) := by decide +kernel
theorem dX5_formulas_4 : decode cX5_formulas 4 = .ok (.getfield 62, 3) := by decide +kernel
theorem dX5_formulas_7 : decode cX5_formulas 7 = .ok (.getfield 96, 3) := by decide +kernel
theorem dX5_formulas_10 : decode cX5_formulas 10 = .ok (.ireturn, 1) := by decide +kernel
theorem dX5_kinds_0 : decode cX5_kinds 0 = .ok (.aload_n 0, 1) := by decide +kernel
theorem dX5_kinds_1 : decode cX5_kinds 1 = .ok (.getfield 10, 3) := by decide +kernel
theorem dX5_kinds_4 : decode cX5_kinds 4 = .ok (.getfield 62, 3) := by decide +kernel
theorem dX5_kinds_7 : decode cX5_kinds 7 = .ok (.invokevirtual 105, 3) := by decide +kernel
theorem dX5_kinds_10 : decode cX5_kinds 10 = .ok (.ireturn, 1) := by decide +kernel
theorem dX5_name_0 : decode cX5_name 0 = .ok (.aload_n 0, 1) := by decide +kernel
theorem dX5_name_1 : decode cX5_name 1 = .ok (.getfield 10, 3) := by decide +kernel
theorem dX5_name_4 : decode cX5_name 4 = .ok (.getfield 62, 3) := by decide +kernel
theorem dX5_name_7 : decode cX5_name 7 = .ok (.iload_n 1, 1) := by decide +kernel
theorem dX5_name_8 : decode cX5_name 8 = .ok (.invokevirtual 109, 3) := by decide +kernel
theorem dX5_name_11 : decode cX5_name 11 = .ok (.ifCond .ne 11, 3) := by decide +kernel
theorem dX5_name_14 : decode cX5_name 14 = .ok (.new 112, 3) := by decide +kernel
theorem dX5_name_17 : decode cX5_name 17 = .ok (.dup, 1) := by decide +kernel
theorem dX5_name_18 : decode cX5_name 18 = .ok (.invokespecial 114, 3) := by decide +kernel
theorem dX5_name_21 : decode cX5_name 21 = .ok (.athrow, 1) := by decide +kernel
theorem dX5_name_22 : decode cX5_name 22 = .ok (.aload_n 0, 1) := by decide +kernel
theorem dX5_name_23 : decode cX5_name 23 = .ok (.getfield 10, 3) := by decide +kernel
theorem dX5_name_26 : decode cX5_name 26 = .ok (.getfield 62, 3) := by decide +kernel
theorem dX5_name_29 : decode cX5_name 29 = .ok (.iload_n 1, 1) := by decide +kernel
theorem dX5_name_30 : decode cX5_name 30 = .ok (.invokevirtual 115, 3) := by decide +kernel
theorem dX5_name_33 : decode cX5_name 33 = .ok (.ireturn, 1) := by decide +kernel
theorem dX5_has_0 : decode cX5_has 0 = .ok (.aload_n 0, 1) := by decide +kernel
theorem dX5_has_1 : decode cX5_has 1 = .ok (.getfield 10, 3) := by decide +kernel
theorem dX5_has_4 : decode cX5_has 4 = .ok (.getfield 62, 3) := by decide +kernel
theorem dX5_has_7 : decode cX5_has 7 = .ok (.iload_n 1, 1) := by decide +kernel
theorem dX5_has_8 : decode cX5_has 8 = .ok (.invokevirtual 119, 3) := by decide +kernel
theorem dX5_has_11 : decode cX5_has 11 = .ok (.ifCond .eq 17, 3) := by decide +kernel
theorem dX5_has_14 : decode cX5_has 14 = .ok (.aload_n 0, 1) := by decide +kernel
theorem dX5_has_15 : decode cX5_has 15 = .ok (.getfield 10, 3) := by decide +kernel
theorem dX5_has_18 : decode cX5_has 18 = .ok (.getfield 62, 3) := by decide +kernel
theorem dX5_has_21 : decode cX5_has 21 = .ok (.iload_n 2, 1) := by decide +kernel
theorem dX5_has_22 : decode cX5_has 22 = .ok (.invokevirtual 109, 3) := by decide +kernel
theorem dX5_has_25 : decode cX5_has 25 = .ok (.ifCond .ne 11, 3) := by decide +kernel
theorem dX5_has_28 : decode cX5_has 28 = .ok (.new 112, 3) := by decide +kernel
theorem dX5_has_31 : decode cX5_has 31 = .ok (.dup, 1) := by decide +kernel
theorem dX5_has_32 : decode cX5_has 32 = .ok (.invokespecial 114, 3) := by decide +kernel
theorem dX5_has_35 : decode cX5_has 35 = .ok (.athrow, 1) := by decide +kernel
theorem dX5_has_36 : decode cX5_has 36 = .ok (.aload_n 0, 1) := by decide +kernel
theorem dX5_has_37 : decode cX5_has 37 = .ok (.getfield 10, 3) := by decide +kernel
theorem dX5_has_40 : decode cX5_has 40 = .ok (.getfield 62, 3) := by decide +kernel
theorem dX5_has_43 : decode cX5_has 43 = .ok (.iload_n 1, 1) := by decide +kernel
theorem dX5_has_44 : decode cX5_has 44 = .ok (.iload_n 2, 1) := by decide +kernel
theorem dX5_has_45 : decode cX5_has 45 = .ok (.invokevirtual 122, 3) := by decide +kernel
theorem dX5_has_48 : decode cX5_has 48 = .ok (.ireturn, 1) := by decide +kernel
theorem dX5_product_0 : decode cX5_product 0 = .ok (.aload_n 0, 1) := by decide +kernel
theorem dX5_product_1 : decode cX5_product 1 = .ok (.getfield 10, 3) := by decide +kernel
theorem dX5_product_4 : decode cX5_product 4 = .ok (.getfield 62, 3) := by decide +kernel
theorem dX5_product_7 : decode cX5_product 7 = .ok (.iload_n 1, 1) := by decide +kernel
theorem dX5_product_8 : decode cX5_product 8 = .ok (.invokevirtual 119, 3) := by decide +kernel
theorem dX5_product_11 : decode cX5_product 11 = .ok (.ifCond .ne 11, 3) := by decide +kernel
theorem dX5_product_14 : decode cX5_product 14 = .ok (.new 112, 3) := by decide +kernel
theorem dX5_product_17 : decode cX5_product 17 = .ok (.dup, 1) := by decide +kernel
theorem dX5_product_18 : decode cX5_product 18 = .ok (.invokespecial 114, 3) := by decide +kernel
theorem dX5_product_21 : decode cX5_product 21 = .ok (.athrow, 1) := by decide +kernel
theorem dX5_product_22 : decode cX5_product 22 = .ok (.aload_n 0, 1) := by decide +kernel
theorem dX5_product_23 : decode cX5_product 23 = .ok (.getfield 10, 3) := by decide +kernel
theorem dX5_product_26 : decode cX5_product 26 = .ok (.getfield 62, 3) := by decide +kernel
theorem dX5_product_29 : decode cX5_product 29 = .ok (.iload_n 1, 1) := by decide +kernel
theorem dX5_product_30 : decode cX5_product 30 = .ok (.invokevirtual 126, 3) := by decide +kernel
theorem dX5_product_33 : decode cX5_product 33 = .ok (.ireturn, 1) := by decide +kernel
theorem dX5_free_0 : decode cX5_free 0 = .ok (.aload_n 0, 1) := by decide +kernel
theorem dX5_free_1 : decode cX5_free 1 = .ok (.getfield 10, 3) := by decide +kernel
theorem dX5_free_4 : decode cX5_free 4 = .ok (.getfield 62, 3) := by decide +kernel
theorem dX5_free_7 : decode cX5_free 7 = .ok (.iload_n 1, 1) := by decide +kernel
theorem dX5_free_8 : decode cX5_free 8 = .ok (.invokevirtual 119, 3) := by decide +kernel
theorem dX5_free_11 : decode cX5_free 11 = .ok (.ifCond .ne 11, 3) := by decide +kernel
theorem dX5_free_14 : decode cX5_free 14 = .ok (.new 112, 3) := by decide +kernel
theorem dX5_free_17 : decode cX5_free 17 = .ok (.dup, 1) := by decide +kernel
theorem dX5_free_18 : decode cX5_free 18 = .ok (.invokespecial 114, 3) := by decide +kernel
theorem dX5_free_21 : decode cX5_free 21 = .ok (.athrow, 1) := by decide +kernel
theorem dX5_free_22 : decode cX5_free 22 = .ok (.aload_n 0, 1) := by decide +kernel
theorem dX5_free_23 : decode cX5_free 23 = .ok (.getfield 19, 3) := by decide +kernel
theorem dX5_free_26 : decode cX5_free 26 = .ok (.getfield 129, 3) := by decide +kernel
theorem dX5_free_29 : decode cX5_free 29 = .ok (.iload_n 1, 1) := by decide +kernel
theorem dX5_free_30 : decode cX5_free 30 = .ok (.baload, 1) := by decide +kernel
theorem dX5_free_31 : decode cX5_free 31 = .ok (.ireturn, 1) := by decide +kernel
theorem dX5_number_0 : decode cX5_number 0 = .ok (.iload_n 1, 1) := by decide +kernel
theorem dX5_number_1 : decode cX5_number 1 = .ok (.ifCond .lt 28, 3) := by decide +kernel
theorem dX5_number_4 : decode cX5_number 4 = .ok (.iload_n 1, 1) := by decide +kernel
theorem dX5_number_5 : decode cX5_number 5 = .ok (.aload_n 0, 1) := by decide +kernel
theorem dX5_number_6 : decode cX5_number 6 = .ok (.getfield 19, 3) := by decide +kernel
theorem dX5_number_9 : decode cX5_number 9 = .ok (.getfield 102, 3) := by decide +kernel
theorem dX5_number_12 : decode cX5_number 12 = .ok (.if_icmp .ge 17, 3) := by decide +kernel
theorem dX5_number_15 : decode cX5_number 15 = .ok (.aload_n 0, 1) := by decide +kernel
theorem dX5_number_16 : decode cX5_number 16 = .ok (.getfield 10, 3) := by decide +kernel
theorem dX5_number_19 : decode cX5_number 19 = .ok (.getfield 62, 3) := by decide +kernel
theorem dX5_number_22 : decode cX5_number 22 = .ok (.iload_n 2, 1) := by decide +kernel
theorem dX5_number_23 : decode cX5_number 23 = .ok (.invokevirtual 119, 3) := by decide +kernel
theorem dX5_number_26 : decode cX5_number 26 = .ok (.ifCond .ne 11, 3) := by decide +kernel
theorem dX5_number_29 : decode cX5_number 29 = .ok (.new 112, 3) := by decide +kernel
theorem dX5_number_32 : decode cX5_number 32 = .ok (.dup, 1) := by decide +kernel
theorem dX5_number_33 : decode cX5_number 33 = .ok (.invokespecial 114, 3) := by decide +kernel
theorem dX5_number_36 : decode cX5_number 36 = .ok (.athrow, 1) := by decide +kernel
theorem dX5_number_37 : decode cX5_number 37 = .ok (.aload_n 0, 1) := by decide +kernel
theorem dX5_number_38 : decode cX5_number 38 = .ok (.getfield 19, 3) := by decide +kernel
theorem dX5_number_41 : decode cX5_number 41 = .ok (.getfield 87, 3) := by decide +kernel
theorem dX5_number_44 : decode cX5_number 44 = .ok (.iload_n 1, 1) := by decide +kernel
theorem dX5_number_45 : decode cX5_number 45 = .ok (.aaload, 1) := by decide +kernel
theorem dX5_number_46 : decode cX5_number 46 = .ok (.iload_n 2, 1) := by decide +kernel
theorem dX5_number_47 : decode cX5_number 47 = .ok (.laload, 1) := by decide +kernel
theorem dX5_number_48 : decode cX5_number 48 = .ok (.lreturn, 1) := by decide +kernel
theorem dX5_weight_0 : decode cX5_weight 0 = .ok (.aload_n 0, 1) := by decide +kernel
theorem dX5_weight_1 : decode cX5_weight 1 = .ok (.getfield 10, 3) := by decide +kernel
theorem dX5_weight_4 : decode cX5_weight 4 = .ok (.getfield 62, 3) := by decide +kernel
theorem dX5_weight_7 : decode cX5_weight 7 = .ok (.astore_n 2, 1) := by decide +kernel
theorem dX5_weight_8 : decode cX5_weight 8 = .ok (.aload_n 2, 1) := by decide +kernel
theorem dX5_weight_9 : decode cX5_weight 9 = .ok (.iload_n 1, 1) := by decide +kernel
theorem dX5_weight_10 : decode cX5_weight 10 = .ok (.invokevirtual 109, 3) := by decide +kernel
theorem dX5_weight_13 : decode cX5_weight 13 = .ok (.ifCond .ne 11, 3) := by decide +kernel
theorem dX5_weight_16 : decode cX5_weight 16 = .ok (.new 112, 3) := by decide +kernel
theorem dX5_weight_19 : decode cX5_weight 19 = .ok (.dup, 1) := by decide +kernel
theorem dX5_weight_20 : decode cX5_weight 20 = .ok (.invokespecial 114, 3) := by decide +kernel
theorem dX5_weight_23 : decode cX5_weight 23 = .ok (.athrow, 1) := by decide +kernel
theorem dX5_weight_24 : decode cX5_weight 24 = .ok (.aload_n 0, 1) := by decide +kernel
theorem dX5_weight_25 : decode cX5_weight 25 = .ok (.getfield 19, 3) := by decide +kernel
theorem dX5_weight_28 : decode cX5_weight 28 = .ok (.getfield 84, 3) := by decide +kernel
theorem dX5_weight_31 : decode cX5_weight 31 = .ok (.ifCond .eq 11, 3) := by decide +kernel
theorem dX5_weight_34 : decode cX5_weight 34 = .ok (.new 133, 3) := by decide +kernel
theorem dX5_weight_37 : decode cX5_weight 37 = .ok (.dup, 1) := by decide +kernel
theorem dX5_weight_38 : decode cX5_weight 38 = .ok (.invokespecial 135, 3) := by decide +kernel
theorem dX5_weight_41 : decode cX5_weight 41 = .ok (.athrow, 1) := by decide +kernel
theorem dX5_weight_42 : decode cX5_weight 42 = .ok (.lconst 0, 1) := by decide +kernel
theorem dX5_weight_43 : decode cX5_weight 43 = .ok (.lstore_n 3, 1) := by decide +kernel
theorem dX5_weight_44 : decode cX5_weight 44 = .ok (.iconst 0, 1) := by decide +kernel
theorem dX5_weight_45 : decode cX5_weight 45 = .ok (.istore 5, 2) := by decide +kernel
theorem dX5_weight_47 : decode cX5_weight 47 = .ok (.iload 5, 2) := by decide +kernel
theorem dX5_weight_49 : decode cX5_weight 49 = .ok (.aload_n 2, 1) := by decide +kernel
theorem dX5_weight_50 : decode cX5_weight 50 = .ok (.getfield 136, 3) := by decide +kernel
theorem dX5_weight_53 : decode cX5_weight 53 = .ok (.if_icmp .ge 33, 3) := by decide +kernel
theorem dX5_weight_56 : decode cX5_weight 56 = .ok (.lload_n 3, 1) := by decide +kernel
theorem dX5_weight_57 : decode cX5_weight 57 = .ok (.aload_n 0, 1) := by decide +kernel
theorem dX5_weight_58 : decode cX5_weight 58 = .ok (.getfield 19, 3) := by decide +kernel
theorem dX5_weight_61 : decode cX5_weight 61 = .ok (.getfield 87, 3) := by decide +kernel
theorem dX5_weight_64 : decode cX5_weight 64 = .ok (.iconst 0, 1) := by decide +kernel
theorem dX5_weight_65 : decode cX5_weight 65 = .ok (.aaload, 1) := by decide +kernel
theorem dX5_weight_66 : decode cX5_weight 66 = .ok (.iload 5, 2) := by decide +kernel
theorem dX5_weight_68 : decode cX5_weight 68 = .ok (.laload, 1) := by decide +kernel
theorem dX5_weight_69 : decode cX5_weight 69 = .ok (.aload_n 2, 1) := by decide +kernel
theorem dX5_weight_70 : decode cX5_weight 70 = .ok (.iload 5, 2) := by decide +kernel
theorem dX5_weight_72 : decode cX5_weight 72 = .ok (.iload_n 1, 1) := by decide +kernel
theorem dX5_weight_73 : decode cX5_weight 73 = .ok (.invokevirtual 122, 3) := by decide +kernel
theorem dX5_weight_76 : decode cX5_weight 76 = .ok (.i2l, 1) := by decide +kernel
theorem dX5_weight_77 : decode cX5_weight 77 = .ok (.lmul, 1) := by decide +kernel
theorem dX5_weight_78 : decode cX5_weight 78 = .ok (.ladd, 1) := by decide +kernel
theorem dX5_weight_79 : decode cX5_weight 79 = .ok (.lstore_n 3, 1) := by decide +kernel
theorem dX5_weight_80 : decode cX5_weight 80 = .ok (.iinc 5 1, 3) := by decide +kernel
theorem dX5_weight_83 : decode cX5_weight 83 = .ok (.goto (-36), 3) := by decide +kernel
theorem dX5_weight_86 : decode cX5_weight 86 = .ok (.lload_n 3, 1) := by decide +kernel
theorem dX5_weight_87 : decode cX5_weight 87 = .ok (.lreturn, 1) := by decide +kernel
theorem dX5_written_0 : decode cX5_written 0 = .ok (.aload_n 0, 1) := by decide +kernel
theorem dX5_written_1 : decode cX5_written 1 = .ok (.getfield 19, 3) := by decide +kernel
theorem dX5_written_4 : decode cX5_written 4 = .ok (.getfield 84, 3) := by decide +kernel
theorem dX5_written_7 : decode cX5_written 7 = .ok (.ifCond .eq 11, 3) := by decide +kernel
theorem dX5_written_10 : decode cX5_written 10 = .ok (.new 133, 3) := by decide +kernel
theorem dX5_written_13 : decode cX5_written 13 = .ok (.dup, 1) := by decide +kernel
theorem dX5_written_14 : decode cX5_written 14 = .ok (.invokespecial 135, 3) := by decide +kernel
theorem dX5_written_17 : decode cX5_written 17 = .ok (.athrow, 1) := by decide +kernel
theorem dX5_written_18 : decode cX5_written 18 = .ok (.aload_n 0, 1) := by decide +kernel
theorem dX5_written_19 : decode cX5_written 19 = .ok (.getfield 26, 3) := by decide +kernel
theorem dX5_written_22 : decode cX5_written 22 = .ok (.iload_n 1, 1) := by decide +kernel
theorem dX5_written_23 : decode cX5_written 23 = .ok (.invokevirtual 139, 3) := by decide +kernel
theorem dX5_written_26 : decode cX5_written 26 = .ok (.ireturn, 1) := by decide +kernel
theorem dX5_solves_0 : decode cX5_solves 0 = .ok (.aload_n 0, 1) := by decide +kernel
theorem dX5_solves_1 : decode cX5_solves 1 = .ok (.getfield 10, 3) := by decide +kernel
theorem dX5_solves_4 : decode cX5_solves 4 = .ok (.getfield 62, 3) := by decide +kernel
theorem dX5_solves_7 : decode cX5_solves 7 = .ok (.astore 6, 2) := by decide +kernel
theorem dX5_solves_9 : decode cX5_solves 9 = .ok (.aload 6, 2) := by decide +kernel
theorem dX5_solves_11 : decode cX5_solves 11 = .ok (.getfield 96, 3) := by decide +kernel
theorem dX5_solves_14 : decode cX5_solves 14 = .ok (.ifCond .eq 13, 3) := by decide +kernel
theorem dX5_solves_17 : decode cX5_solves 17 = .ok (.aload 6, 2) := by decide +kernel
theorem dX5_solves_19 : decode cX5_solves 19 = .ok (.getfield 96, 3) := by decide +kernel
theorem dX5_solves_22 : decode cX5_solves 22 = .ok (.bipush 6, 2) := by decide +kernel
theorem dX5_solves_24 : decode cX5_solves 24 = .ok (.if_icmp .ne 11, 3) := by decide +kernel
theorem dX5_solves_27 : decode cX5_solves 27 = .ok (.new 133, 3) := by decide +kernel
theorem dX5_solves_30 : decode cX5_solves 30 = .ok (.dup, 1) := by decide +kernel
theorem dX5_solves_31 : decode cX5_solves 31 = .ok (.invokespecial 135, 3) := by decide +kernel
theorem dX5_solves_34 : decode cX5_solves 34 = .ok (.athrow, 1) := by decide +kernel
theorem dX5_solves_35 : decode cX5_solves 35 = .ok (.iconst 0, 1) := by decide +kernel
theorem dX5_solves_36 : decode cX5_solves 36 = .ok (.istore 7, 2) := by decide +kernel
theorem dX5_solves_38 : decode cX5_solves 38 = .ok (.iload 7, 2) := by decide +kernel
theorem dX5_solves_40 : decode cX5_solves 40 = .ok (.aload 6, 2) := by decide +kernel
theorem dX5_solves_42 : decode cX5_solves 42 = .ok (.invokevirtual 105, 3) := by decide +kernel
theorem dX5_solves_45 : decode cX5_solves 45 = .ok (.if_icmp .ge 76, 3) := by decide +kernel
theorem dX5_solves_48 : decode cX5_solves 48 = .ok (.aload 6, 2) := by decide +kernel
theorem dX5_solves_50 : decode cX5_solves 50 = .ok (.iconst 0, 1) := by decide +kernel
theorem dX5_solves_51 : decode cX5_solves 51 = .ok (.iload 7, 2) := by decide +kernel
theorem dX5_solves_53 : decode cX5_solves 53 = .ok (.iload_n 1, 1) := by decide +kernel
theorem dX5_solves_54 : decode cX5_solves 54 = .ok (.i2l, 1) := by decide +kernel
theorem dX5_solves_55 : decode cX5_solves 55 = .ok (.invokevirtual 142, 3) := by decide +kernel
theorem dX5_solves_58 : decode cX5_solves 58 = .ok (.aload 6, 2) := by decide +kernel
theorem dX5_solves_60 : decode cX5_solves 60 = .ok (.iconst 1, 1) := by decide +kernel
theorem dX5_solves_61 : decode cX5_solves 61 = .ok (.iload 7, 2) := by decide +kernel
theorem dX5_solves_63 : decode cX5_solves 63 = .ok (.iload_n 2, 1) := by decide +kernel
theorem dX5_solves_64 : decode cX5_solves 64 = .ok (.i2l, 1) := by decide +kernel
theorem dX5_solves_65 : decode cX5_solves 65 = .ok (.invokevirtual 142, 3) := by decide +kernel
theorem dX5_solves_68 : decode cX5_solves 68 = .ok (.ladd, 1) := by decide +kernel
theorem dX5_solves_69 : decode cX5_solves 69 = .ok (.aload 6, 2) := by decide +kernel
theorem dX5_solves_71 : decode cX5_solves 71 = .ok (.iconst 2, 1) := by decide +kernel
theorem dX5_solves_72 : decode cX5_solves 72 = .ok (.iload 7, 2) := by decide +kernel
theorem dX5_solves_74 : decode cX5_solves 74 = .ok (.iload_n 3, 1) := by decide +kernel
theorem dX5_solves_75 : decode cX5_solves 75 = .ok (.i2l, 1) := by decide +kernel
theorem dX5_solves_76 : decode cX5_solves 76 = .ok (.invokevirtual 142, 3) := by decide +kernel
theorem dX5_solves_79 : decode cX5_solves 79 = .ok (.ladd, 1) := by decide +kernel
theorem dX5_solves_80 : decode cX5_solves 80 = .ok (.aload 6, 2) := by decide +kernel
theorem dX5_solves_82 : decode cX5_solves 82 = .ok (.iconst 3, 1) := by decide +kernel
theorem dX5_solves_83 : decode cX5_solves 83 = .ok (.iload 7, 2) := by decide +kernel
theorem dX5_solves_85 : decode cX5_solves 85 = .ok (.iload 4, 2) := by decide +kernel
theorem dX5_solves_87 : decode cX5_solves 87 = .ok (.i2l, 1) := by decide +kernel
theorem dX5_solves_88 : decode cX5_solves 88 = .ok (.invokevirtual 142, 3) := by decide +kernel
theorem dX5_solves_91 : decode cX5_solves 91 = .ok (.ladd, 1) := by decide +kernel
theorem dX5_solves_92 : decode cX5_solves 92 = .ok (.aload 6, 2) := by decide +kernel
theorem dX5_solves_94 : decode cX5_solves 94 = .ok (.iconst 4, 1) := by decide +kernel
theorem dX5_solves_95 : decode cX5_solves 95 = .ok (.iload 7, 2) := by decide +kernel
theorem dX5_solves_97 : decode cX5_solves 97 = .ok (.iload 5, 2) := by decide +kernel
theorem dX5_solves_99 : decode cX5_solves 99 = .ok (.i2l, 1) := by decide +kernel
theorem dX5_solves_100 : decode cX5_solves 100 = .ok (.invokevirtual 142, 3) := by decide +kernel
theorem dX5_solves_103 : decode cX5_solves 103 = .ok (.ladd, 1) := by decide +kernel
theorem dX5_solves_104 : decode cX5_solves 104 = .ok (.lstore 8, 2) := by decide +kernel
theorem dX5_solves_106 : decode cX5_solves 106 = .ok (.lload 8, 2) := by decide +kernel
theorem dX5_solves_108 : decode cX5_solves 108 = .ok (.lconst 0, 1) := by decide +kernel
theorem dX5_solves_109 : decode cX5_solves 109 = .ok (.lcmp, 1) := by decide +kernel
theorem dX5_solves_110 : decode cX5_solves 110 = .ok (.ifCond .eq 5, 3) := by decide +kernel
theorem dX5_solves_113 : decode cX5_solves 113 = .ok (.iconst 0, 1) := by decide +kernel
theorem dX5_solves_114 : decode cX5_solves 114 = .ok (.ireturn, 1) := by decide +kernel
theorem dX5_solves_115 : decode cX5_solves 115 = .ok (.iinc 7 1, 3) := by decide +kernel
theorem dX5_solves_118 : decode cX5_solves 118 = .ok (.goto (-80), 3) := by decide +kernel
theorem dX5_solves_121 : decode cX5_solves 121 = .ok (.iconst 1, 1) := by decide +kernel
theorem dX5_solves_122 : decode cX5_solves 122 = .ok (.ireturn, 1) := by decide +kernel
