theorem dX2_write_0 : decode cX2_write 0 = .ok (.aload_n 0, 1) := by decide +kernel
theorem dX2_write_1 : decode cX2_write 1 = .ok (.iconst 0, 1) := by decide +kernel
theorem dX2_write_2 : decode cX2_write 2 = .ok (.putfield 15, 3) := by decide +kernel
theorem dX2_write_5 : decode cX2_write 5 = .ok (.iconst 0, 1) := by decide +kernel
theorem dX2_write_6 : decode cX2_write 6 = .ok (.istore 4, 2) := by decide +kernel
theorem dX2_write_8 : decode cX2_write 8 = .ok (.iload 4, 2) := by decide +kernel
theorem dX2_write_10 : decode cX2_write 10 = .ok (.aload_n 1, 1) := by decide +kernel
theorem dX2_write_11 : decode cX2_write 11 = .ok (.getfield 19, 3) := by decide +kernel
theorem dX2_write_14 : decode cX2_write 14 = .ok (.if_icmp .ge 95, 3) := by decide +kernel
theorem dX2_write_17 : decode cX2_write 17 = .ok (.iload 4, 2) := by decide +kernel
theorem dX2_write_19 : decode cX2_write 19 = .ok (.ifCond .le 23, 3) := by decide +kernel
theorem dX2_write_22 : decode cX2_write 22 = .ok (.aload_n 0, 1) := by decide +kernel
theorem dX2_write_23 : decode cX2_write 23 = .ok (.iload 4, 2) := by decide +kernel
theorem dX2_write_25 : decode cX2_write 25 = .ok (.aload_n 1, 1) := by decide +kernel
theorem dX2_write_26 : decode cX2_write 26 = .ok (.getfield 24, 3) := by decide +kernel
theorem dX2_write_29 : decode cX2_write 29 = .ok (.if_icmp .ne 8, 3) := by decide +kernel
theorem dX2_write_32 : decode cX2_write 32 = .ok (.bipush 61, 2) := by decide +kernel
theorem dX2_write_34 : decode cX2_write 34 = .ok (.goto 5, 3) := by decide +kernel
theorem dX2_write_37 : decode cX2_write 37 = .ok (.bipush 43, 2) := by decide +kernel
theorem dX2_write_39 : decode cX2_write 39 = .ok (.invokevirtual 27, 3) := by decide +kernel
theorem dX2_write_42 : decode cX2_write 42 = .ok (.aload_n 3, 1) := by decide +kernel
theorem dX2_write_43 : decode cX2_write 43 = .ok (.iload 4, 2) := by decide +kernel
theorem dX2_write_45 : decode cX2_write 45 = .ok (.laload, 1) := by decide +kernel
theorem dX2_write_46 : decode cX2_write 46 = .ok (.lconst 1, 1) := by decide +kernel
theorem dX2_write_47 : decode cX2_write 47 = .ok (.lcmp, 1) := by decide +kernel
theorem dX2_write_48 : decode cX2_write 48 = .ok (.ifCond .eq 17, 3) := by decide +kernel
theorem dX2_write_51 : decode cX2_write 51 = .ok (.aload_n 0, 1) := by decide +kernel
theorem dX2_write_52 : decode cX2_write 52 = .ok (.aload_n 3, 1) := by decide +kernel
theorem dX2_write_53 : decode cX2_write 53 = .ok (.iload 4, 2) := by decide +kernel
theorem dX2_write_55 : decode cX2_write 55 = .ok (.laload, 1) := by decide +kernel
theorem dX2_write_56 : decode cX2_write 56 = .ok (.invokevirtual 31, 3) := by decide +kernel
theorem dX2_write_59 : decode cX2_write 59 = .ok (.aload_n 0, 1) := by decide +kernel
theorem dX2_write_60 : decode cX2_write 60 = .ok (.bipush 32, 2) := by decide +kernel
theorem dX2_write_62 : decode cX2_write 62 = .ok (.invokevirtual 35, 3) := by decide +kernel
theorem dX2_write_65 : decode cX2_write 65 = .ok (.aload_n 1, 1) := by decide +kernel
theorem dX2_write_66 : decode cX2_write 66 = .ok (.getfield 38, 3) := by decide +kernel
theorem dX2_write_69 : decode cX2_write 69 = .ok (.iload 4, 2) := by decide +kernel
theorem dX2_write_71 : decode cX2_write 71 = .ok (.iaload, 1) := by decide +kernel
theorem dX2_write_72 : decode cX2_write 72 = .ok (.istore 5, 2) := by decide +kernel
theorem dX2_write_74 : decode cX2_write 74 = .ok (.iload 5, 2) := by decide +kernel
theorem dX2_write_76 : decode cX2_write 76 = .ok (.aload_n 1, 1) := by decide +kernel
theorem dX2_write_77 : decode cX2_write 77 = .ok (.getfield 42, 3) := by decide +kernel
theorem dX2_write_80 : decode cX2_write 80 = .ok (.iload 4, 2) := by decide +kernel
theorem dX2_write_82 : decode cX2_write 82 = .ok (.iaload, 1) := by decide +kernel
theorem dX2_write_83 : decode cX2_write 83 = .ok (.if_icmp .ge 20, 3) := by decide +kernel
theorem dX2_write_86 : decode cX2_write 86 = .ok (.aload_n 0, 1) := by decide +kernel
theorem dX2_write_87 : decode cX2_write 87 = .ok (.aload_n 2, 1) := by decide +kernel
theorem dX2_write_88 : decode cX2_write 88 = .ok (.getfield 45, 3) := by decide +kernel
theorem dX2_write_91 : decode cX2_write 91 = .ok (.iload 5, 2) := by decide +kernel
theorem dX2_write_93 : decode cX2_write 93 = .ok (.caload, 1) := by decide +kernel
theorem dX2_write_94 : decode cX2_write 94 = .ok (.invokevirtual 35, 3) := by decide +kernel
theorem dX2_write_97 : decode cX2_write 97 = .ok (.iinc 5 1, 3) := by decide +kernel
theorem dX2_write_100 : decode cX2_write 100 = .ok (.goto (-26), 3) := by decide +kernel
theorem dX2_write_103 : decode cX2_write 103 = .ok (.iinc 4 1, 3) := by decide +kernel
theorem dX2_write_106 : decode cX2_write 106 = .ok (.goto (-98), 3) := by decide +kernel
theorem dX2_write_109 : decode cX2_write 109 = .ok (.return_, 1) := by decide +kernel
theorem dX2_addSign_0 : decode cX2_addSign 0 = .ok (.aload_n 0, 1) := by decide +kernel
theorem dX2_addSign_1 : decode cX2_addSign 1 = .ok (.bipush 32, 2) := by decide +kernel
theorem dX2_addSign_3 : decode cX2_addSign 3 = .ok (.invokevirtual 35, 3) := by decide +kernel
theorem dX2_addSign_6 : decode cX2_addSign 6 = .ok (.aload_n 0, 1) := by decide +kernel
theorem dX2_addSign_7 : decode cX2_addSign 7 = .ok (.iload_n 1, 1) := by decide +kernel
theorem dX2_addSign_8 : decode cX2_addSign 8 = .ok (.invokevirtual 35, 3) := by decide +kernel
theorem dX2_addSign_11 : decode cX2_addSign 11 = .ok (.aload_n 0, 1) := by decide +kernel
theorem dX2_addSign_12 : decode cX2_addSign 12 = .ok (.bipush 32, 2) := by decide +kernel
theorem dX2_addSign_14 : decode cX2_addSign 14 = .ok (.invokevirtual 35, 3) := by decide +kernel
theorem dX2_addSign_17 : decode cX2_addSign 17 = .ok (.return_, 1) := by decide +kernel
theorem dX2_add_0 : decode cX2_add 0 = .ok (.aload_n 0, 1) := by decide +kernel
theorem dX2_add_1 : decode cX2_add 1 = .ok (.getfield 15, 3) := by decide +kernel
theorem dX2_add_4 : decode cX2_add 4 = .ok (.sipush 200, 3) := by decide +kernel
theorem dX2_add_7 : decode cX2_add 7 = .ok (.if_icmp .ge 23, 3) := by decide +kernel
theorem dX2_add_10 : decode cX2_add 10 = .ok (.aload_n 0, 1) := by decide +kernel
theorem dX2_add_11 : decode cX2_add 11 = .ok (.getfield 9, 3) := by decide +kernel
theorem dX2_add_14 : decode cX2_add 14 = .ok (.aload_n 0, 1) := by decide +kernel
theorem dX2_add_15 : decode cX2_add 15 = .ok (.getfield 15, 3) := by decide +kernel
theorem dX2_add_18 : decode cX2_add 18 = .ok (.iload_n 1, 1) := by decide +kernel
theorem dX2_add_19 : decode cX2_add 19 = .ok (.castore, 1) := by decide +kernel
theorem dX2_add_20 : decode cX2_add 20 = .ok (.aload_n 0, 1) := by decide +kernel
theorem dX2_add_21 : decode cX2_add 21 = .ok (.dup, 1) := by decide +kernel
theorem dX2_add_22 : decode cX2_add 22 = .ok (.getfield 15, 3) := by decide +kernel
theorem dX2_add_25 : decode cX2_add 25 = .ok (.iconst 1, 1) := by decide +kernel
theorem dX2_add_26 : decode cX2_add 26 = .ok (.iadd, 1) := by decide +kernel
theorem dX2_add_27 : decode cX2_add 27 = .ok (.putfield 15, 3) := by decide +kernel
theorem dX2_add_30 : decode cX2_add 30 = .ok (.return_, 1) := by decide +kernel
theorem dX2_addNumber_0 : decode cX2_addNumber 0 = .ok (.aload_n 0, 1) := by decide +kernel
theorem dX2_addNumber_1 : decode cX2_addNumber 1 = .ok (.getfield 15, 3) := by decide +kernel
theorem dX2_addNumber_4 : decode cX2_addNumber 4 = .ok (.istore_n 3, 1) := by decide +kernel
theorem dX2_addNumber_5 : decode cX2_addNumber 5 = .ok (.lload_n 1, 1) := by decide +kernel
theorem dX2_addNumber_6 : decode cX2_addNumber 6 = .ok (.lstore 4, 2) := by decide +kernel
theorem dX2_addNumber_8 : decode cX2_addNumber 8 = .ok (.iconst 0, 1) := by decide +kernel
theorem dX2_addNumber_9 : decode cX2_addNumber 9 = .ok (.istore 6, 2) := by decide +kernel
theorem dX2_addNumber_11 : decode cX2_addNumber 11 = .ok (.iload 6, 2) := by decide +kernel
theorem dX2_addNumber_13 : decode cX2_addNumber 13 = .ok (.bipush 19, 2) := by decide +kernel
theorem dX2_addNumber_15 : decode cX2_addNumber 15 = .ok (.if_icmp .ge 40, 3) := by decide +kernel
theorem dX2_addNumber_18 : decode cX2_addNumber 18 = .ok (.lload 4, 2) := by decide +kernel
theorem dX2_addNumber_20 : decode cX2_addNumber 20 = .ok (.lconst 0, 1) := by decide +kernel
theorem dX2_addNumber_21 : decode cX2_addNumber 21 = .ok (.lcmp, 1) := by decide +kernel
theorem dX2_addNumber_22 : decode cX2_addNumber 22 = .ok (.ifCond .le 33, 3) := by decide +kernel
theorem dX2_addNumber_25 : decode cX2_addNumber 25 = .ok (.aload_n 0, 1) := by decide +kernel
theorem dX2_addNumber_26 : decode cX2_addNumber 26 = .ok (.ldc2_w 48, 3) := by decide +kernel
theorem dX2_addNumber_29 : decode cX2_addNumber 29 = .ok (.lload 4, 2) := by decide +kernel
theorem dX2_addNumber_31 : decode cX2_addNumber 31 = .ok (.ldc2_w 50, 3) := by decide +kernel
theorem dX2_addNumber_34 : decode cX2_addNumber 34 = .ok (.lrem, 1) := by decide +kernel
theorem dX2_addNumber_35 : decode cX2_addNumber 35 = .ok (.ladd, 1) := by decide +kernel
theorem dX2_addNumber_36 : decode cX2_addNumber 36 = .ok (.l2i, 1) := by decide +kernel
theorem dX2_addNumber_37 : decode cX2_addNumber 37 = .ok (.i2c, 1) := by decide +kernel
theorem dX2_addNumber_38 : decode cX2_addNumber 38 = .ok (.invokevirtual 35, 3) := by decide +kernel
theorem dX2_addNumber_41 : decode cX2_addNumber 41 = .ok (.lload 4, 2) := by decide +kernel
theorem dX2_addNumber_43 : decode cX2_addNumber 43 = .ok (.ldc2_w 50, 3) := by decide +kernel
theorem dX2_addNumber_46 : decode cX2_addNumber 46 = .ok (.ldiv, 1) := by decide +kernel
theorem dX2_addNumber_47 : decode cX2_addNumber 47 = .ok (.lstore 4, 2) := by decide +kernel
theorem dX2_addNumber_49 : decode cX2_addNumber 49 = .ok (.iinc 6 1, 3) := by decide +kernel
theorem dX2_addNumber_52 : decode cX2_addNumber 52 = .ok (.goto (-41), 3) := by decide +kernel
theorem dX2_addNumber_55 : decode cX2_addNumber 55 = .ok (.aload_n 0, 1) := by decide +kernel
theorem dX2_addNumber_56 : decode cX2_addNumber 56 = .ok (.iload_n 3, 1) := by decide +kernel
theorem dX2_addNumber_57 : decode cX2_addNumber 57 = .ok (.invokevirtual 52, 3) := by decide +kernel
theorem dX2_addNumber_60 : decode cX2_addNumber 60 = .ok (.return_, 1) := by decide +kernel
theorem dX2_turnRound_0 : decode cX2_turnRound 0 = .ok (.aload_n 0, 1) := by decide +kernel
theorem dX2_turnRound_1 : decode cX2_turnRound 1 = .ok (.getfield 15, 3) := by decide +kernel
theorem dX2_turnRound_4 : decode cX2_turnRound 4 = .ok (.iconst 1, 1) := by decide +kernel
theorem dX2_turnRound_5 : decode cX2_turnRound 5 = .ok (.isub, 1) := by decide +kernel
theorem dX2_turnRound_6 : decode cX2_turnRound 6 = .ok (.istore_n 2, 1) := by decide +kernel
theorem dX2_turnRound_7 : decode cX2_turnRound 7 = .ok (.iload_n 1, 1) := by decide +kernel
theorem dX2_turnRound_8 : decode cX2_turnRound 8 = .ok (.istore_n 3, 1) := by decide +kernel
theorem dX2_turnRound_9 : decode cX2_turnRound 9 = .ok (.iload_n 3, 1) := by decide +kernel
theorem dX2_turnRound_10 : decode cX2_turnRound 10 = .ok (.iload_n 2, 1) := by decide +kernel
theorem dX2_turnRound_11 : decode cX2_turnRound 11 = .ok (.if_icmp .ge 40, 3) := by decide +kernel
theorem dX2_turnRound_14 : decode cX2_turnRound 14 = .ok (.aload_n 0, 1) := by decide +kernel
theorem dX2_turnRound_15 : decode cX2_turnRound 15 = .ok (.getfield 9, 3) := by decide +kernel
theorem dX2_turnRound_18 : decode cX2_turnRound 18 = .ok (.iload_n 3, 1) := by decide +kernel
theorem dX2_turnRound_19 : decode cX2_turnRound 19 = .ok (.caload, 1) := by decide +kernel
theorem dX2_turnRound_20 : decode cX2_turnRound 20 = .ok (.istore 4, 2) := by decide +kernel
theorem dX2_turnRound_22 : decode cX2_turnRound 22 = .ok (.aload_n 0, 1) := by decide +kernel
theorem dX2_turnRound_23 : decode cX2_turnRound 23 = .ok (.getfield 9, 3) := by decide +kernel
theorem dX2_turnRound_26 : decode cX2_turnRound 26 = .ok (.iload_n 3, 1) := by decide +kernel
theorem dX2_turnRound_27 : decode cX2_turnRound 27 = .ok (.aload_n 0, 1) := by decide +kernel
theorem dX2_turnRound_28 : decode cX2_turnRound 28 = .ok (.getfield 9, 3) := by decide +kernel
theorem dX2_turnRound_31 : decode cX2_turnRound 31 = .ok (.iload_n 2, 1) := by decide +kernel
theorem dX2_turnRound_32 : decode cX2_turnRound 32 = .ok (.caload, 1) := by decide +kernel
theorem dX2_turnRound_33 : decode cX2_turnRound 33 = .ok (.castore, 1) := by decide +kernel
theorem dX2_turnRound_34 : decode cX2_turnRound 34 = .ok (.aload_n 0, 1) := by decide +kernel
theorem dX2_turnRound_35 : decode cX2_turnRound 35 = .ok (.getfield 9, 3) := by decide +kernel
theorem dX2_turnRound_38 : decode cX2_turnRound 38 = .ok (.iload_n 2, 1) := by decide +kernel
theorem dX2_turnRound_39 : decode cX2_turnRound 39 = .ok (.iload 4, 2) := by decide +kernel
theorem dX2_turnRound_41 : decode cX2_turnRound 41 = .ok (.castore, 1) := by decide +kernel
theorem dX2_turnRound_42 : decode cX2_turnRound 42 = .ok (.iinc 2 (-1), 3) := by decide +kernel
theorem dX2_turnRound_45 : decode cX2_turnRound 45 = .ok (.iinc 3 1, 3) := by decide +kernel
theorem dX2_turnRound_48 : decode cX2_turnRound 48 = .ok (.goto (-39), 3) := by decide +kernel
theorem dX2_turnRound_51 : decode cX2_turnRound 51 = .ok (.return_, 1) := by decide +kernel
theorem dX2_characterAt_0 : decode cX2_characterAt 0 = .ok (.iload_n 1, 1) := by decide +kernel
theorem dX2_characterAt_1 : decode cX2_characterAt 1 = .ok (.ifCond .lt 20, 3) := by decide +kernel
theorem dX2_characterAt_4 : decode cX2_characterAt 4 = .ok (.iload_n 1, 1) := by decide +kernel
theorem dX2_characterAt_5 : decode cX2_characterAt 5 = .ok (.aload_n 0, 1) := by decide +kernel
theorem dX2_characterAt_6 : decode cX2_characterAt 6 = .ok (.getfield 15, 3) := by decide +kernel
theorem dX2_characterAt_9 : decode cX2_characterAt 9 = .ok (.if_icmp .ge 12, 3) := by decide +kernel
theorem dX2_characterAt_12 : decode cX2_characterAt 12 = .ok (.aload_n 0, 1) := by decide +kernel
theorem dX2_characterAt_13 : decode cX2_characterAt 13 = .ok (.getfield 9, 3) := by decide +kernel
theorem dX2_characterAt_16 : decode cX2_characterAt 16 = .ok (.iload_n 1, 1) := by decide +kernel
theorem dX2_characterAt_17 : decode cX2_characterAt 17 = .ok (.caload, 1) := by decide +kernel
theorem dX2_characterAt_18 : decode cX2_characterAt 18 = .ok (.goto 4, 3) := by decide +kernel
theorem dX2_characterAt_21 : decode cX2_characterAt 21 = .ok (.iconst (-1), 1) := by decide +kernel
theorem dX2_characterAt_22 : decode cX2_characterAt 22 = .ok (.ireturn, 1) := by decide +kernel
