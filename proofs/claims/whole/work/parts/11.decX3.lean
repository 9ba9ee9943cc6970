theorem dX3_readEquation_0 : decode cX3_readEquation 0 = .ok (.aload_n 0, 1) := by decide +kernel
theorem dX3_readEquation_1 : decode cX3_readEquation 1 = .ok (.iconst 0, 1) := by decide +kernel
theorem dX3_readEquation_2 : decode cX3_readEquation 2 = .ok (.putfield 25, 3) := by decide +kernel
theorem dX3_readEquation_5 : decode cX3_readEquation 5 = .ok (.aload_n 0, 1) := by decide +kernel
theorem dX3_readEquation_6 : decode cX3_readEquation 6 = .ok (.iconst (-1), 1) := by decide +kernel
theorem dX3_readEquation_7 : decode cX3_readEquation 7 = .ok (.putfield 29, 3) := by decide +kernel
theorem dX3_readEquation_10 : decode cX3_readEquation 10 = .ok (.aload_n 0, 1) := by decide +kernel
theorem dX3_readEquation_11 : decode cX3_readEquation 11 = .ok (.getfield 12, 3) := by decide +kernel
theorem dX3_readEquation_14 : decode cX3_readEquation 14 = .ok (.iconst 0, 1) := by decide +kernel
theorem dX3_readEquation_15 : decode cX3_readEquation 15 = .ok (.putfield 51, 3) := by decide +kernel
theorem dX3_readEquation_18 : decode cX3_readEquation 18 = .ok (.aload_n 0, 1) := by decide +kernel
theorem dX3_readEquation_19 : decode cX3_readEquation 19 = .ok (.getfield 21, 3) := by decide +kernel
theorem dX3_readEquation_22 : decode cX3_readEquation 22 = .ok (.invokevirtual 54, 3) := by decide +kernel
theorem dX3_readEquation_25 : decode cX3_readEquation 25 = .ok (.iconst 1, 1) := by decide +kernel
theorem dX3_readEquation_26 : decode cX3_readEquation 26 = .ok (.istore_n 1, 1) := by decide +kernel
theorem dX3_readEquation_27 : decode cX3_readEquation 27 = .ok (.iconst 0, 1) := by decide +kernel
theorem dX3_readEquation_28 : decode cX3_readEquation 28 = .ok (.istore_n 2, 1) := by decide +kernel
theorem dX3_readEquation_29 : decode cX3_readEquation 29 = .ok (.iload_n 2, 1) := by decide +kernel
theorem dX3_readEquation_30 : decode cX3_readEquation 30 = .ok (.bipush 6, 2) := by decide +kernel
theorem dX3_readEquation_32 : decode cX3_readEquation 32 = .ok (.if_icmp .gt 102, 3) := by decide +kernel
theorem dX3_readEquation_35 : decode cX3_readEquation 35 = .ok (.iload_n 1, 1) := by decide +kernel
theorem dX3_readEquation_36 : decode cX3_readEquation 36 = .ok (.ifCond .eq 98, 3) := by decide +kernel
theorem dX3_readEquation_39 : decode cX3_readEquation 39 = .ok (.aload_n 0, 1) := by decide +kernel
theorem dX3_readEquation_40 : decode cX3_readEquation 40 = .ok (.getfield 12, 3) := by decide +kernel
theorem dX3_readEquation_43 : decode cX3_readEquation 43 = .ok (.invokevirtual 57, 3) := by decide +kernel
theorem dX3_readEquation_46 : decode cX3_readEquation 46 = .ok (.aload_n 0, 1) := by decide +kernel
theorem dX3_readEquation_47 : decode cX3_readEquation 47 = .ok (.getfield 12, 3) := by decide +kernel
theorem dX3_readEquation_50 : decode cX3_readEquation 50 = .ok (.getfield 51, 3) := by decide +kernel
theorem dX3_readEquation_53 : decode cX3_readEquation 53 = .ok (.istore_n 3, 1) := by decide +kernel
theorem dX3_readEquation_54 : decode cX3_readEquation 54 = .ok (.aload_n 0, 1) := by decide +kernel
theorem dX3_readEquation_55 : decode cX3_readEquation 55 = .ok (.invokevirtual 60, 3) := by decide +kernel
theorem dX3_readEquation_58 : decode cX3_readEquation 58 = .ok (.aload_n 0, 1) := by decide +kernel
theorem dX3_readEquation_59 : decode cX3_readEquation 59 = .ok (.getfield 21, 3) := by decide +kernel
theorem dX3_readEquation_62 : decode cX3_readEquation 62 = .ok (.getfield 63, 3) := by decide +kernel
theorem dX3_readEquation_65 : decode cX3_readEquation 65 = .ok (.bipush 6, 2) := by decide +kernel
theorem dX3_readEquation_67 : decode cX3_readEquation 67 = .ok (.if_icmp .lt 13, 3) := by decide +kernel
theorem dX3_readEquation_70 : decode cX3_readEquation 70 = .ok (.aload_n 0, 1) := by decide +kernel
theorem dX3_readEquation_71 : decode cX3_readEquation 71 = .ok (.bipush (-5), 2) := by decide +kernel
theorem dX3_readEquation_73 : decode cX3_readEquation 73 = .ok (.iload_n 3, 1) := by decide +kernel
theorem dX3_readEquation_74 : decode cX3_readEquation 74 = .ok (.invokevirtual 66, 3) := by decide +kernel
theorem dX3_readEquation_77 : decode cX3_readEquation 77 = .ok (.goto 26, 3) := by decide +kernel
theorem dX3_readEquation_80 : decode cX3_readEquation 80 = .ok (.aload_n 0, 1) := by decide +kernel
theorem dX3_readEquation_81 : decode cX3_readEquation 81 = .ok (.getfield 12, 3) := by decide +kernel
theorem dX3_readEquation_84 : decode cX3_readEquation 84 = .ok (.invokevirtual 70, 3) := by decide +kernel
theorem dX3_readEquation_87 : decode cX3_readEquation 87 = .ok (.bipush 101, 2) := by decide +kernel
theorem dX3_readEquation_89 : decode cX3_readEquation 89 = .ok (.if_icmp .ne 10, 3) := by decide +kernel
theorem dX3_readEquation_92 : decode cX3_readEquation 92 = .ok (.aload_n 0, 1) := by decide +kernel
theorem dX3_readEquation_93 : decode cX3_readEquation 93 = .ok (.invokevirtual 74, 3) := by decide +kernel
theorem dX3_readEquation_96 : decode cX3_readEquation 96 = .ok (.goto 7, 3) := by decide +kernel
theorem dX3_readEquation_99 : decode cX3_readEquation 99 = .ok (.aload_n 0, 1) := by decide +kernel
theorem dX3_readEquation_100 : decode cX3_readEquation 100 = .ok (.invokevirtual 77, 3) := by decide +kernel
theorem dX3_readEquation_103 : decode cX3_readEquation 103 = .ok (.aload_n 0, 1) := by decide +kernel
theorem dX3_readEquation_104 : decode cX3_readEquation 104 = .ok (.iload_n 3, 1) := by decide +kernel
theorem dX3_readEquation_105 : decode cX3_readEquation 105 = .ok (.invokevirtual 80, 3) := by decide +kernel
theorem dX3_readEquation_108 : decode cX3_readEquation 108 = .ok (.aload_n 0, 1) := by decide +kernel
theorem dX3_readEquation_109 : decode cX3_readEquation 109 = .ok (.getfield 25, 3) := by decide +kernel
theorem dX3_readEquation_112 : decode cX3_readEquation 112 = .ok (.ifCond .ne 14, 3) := by decide +kernel
theorem dX3_readEquation_115 : decode cX3_readEquation 115 = .ok (.aload_n 0, 1) := by decide +kernel
theorem dX3_readEquation_116 : decode cX3_readEquation 116 = .ok (.invokevirtual 84, 3) := by decide +kernel
theorem dX3_readEquation_119 : decode cX3_readEquation 119 = .ok (.ifCond .eq 7, 3) := by decide +kernel
theorem dX3_readEquation_122 : decode cX3_readEquation 122 = .ok (.iconst 1, 1) := by decide +kernel
theorem dX3_readEquation_123 : decode cX3_readEquation 123 = .ok (.goto 4, 3) := by decide +kernel
theorem dX3_readEquation_126 : decode cX3_readEquation 126 = .ok (.iconst 0, 1) := by decide +kernel
theorem dX3_readEquation_127 : decode cX3_readEquation 127 = .ok (.istore_n 1, 1) := by decide +kernel
theorem dX3_readEquation_128 : decode cX3_readEquation 128 = .ok (.iinc 2 1, 3) := by decide +kernel
theorem dX3_readEquation_131 : decode cX3_readEquation 131 = .ok (.goto (-102), 3) := by decide +kernel
theorem dX3_readEquation_134 : decode cX3_readEquation 134 = .ok (.return_, 1) := by decide +kernel
theorem dX3_beginFormula_0 : decode cX3_beginFormula 0 = .ok (.aload_n 0, 1) := by decide +kernel
theorem dX3_beginFormula_1 : decode cX3_beginFormula 1 = .ok (.getfield 44, 3) := by decide +kernel
theorem dX3_beginFormula_4 : decode cX3_beginFormula 4 = .ok (.lconst 0, 1) := by decide +kernel
theorem dX3_beginFormula_5 : decode cX3_beginFormula 5 = .ok (.invokestatic 88, 3) := by decide +kernel
theorem dX3_beginFormula_8 : decode cX3_beginFormula 8 = .ok (.aload_n 0, 1) := by decide +kernel
theorem dX3_beginFormula_9 : decode cX3_beginFormula 9 = .ok (.iconst 0, 1) := by decide +kernel
theorem dX3_beginFormula_10 : decode cX3_beginFormula 10 = .ok (.putfield 48, 3) := by decide +kernel
theorem dX3_beginFormula_13 : decode cX3_beginFormula 13 = .ok (.return_, 1) := by decide +kernel
theorem dX3_meet_0 : decode cX3_meet 0 = .ok (.aload_n 0, 1) := by decide +kernel
theorem dX3_meet_1 : decode cX3_meet 1 = .ok (.iload_n 1, 1) := by decide +kernel
theorem dX3_meet_2 : decode cX3_meet 2 = .ok (.putfield 25, 3) := by decide +kernel
theorem dX3_meet_5 : decode cX3_meet 5 = .ok (.aload_n 0, 1) := by decide +kernel
theorem dX3_meet_6 : decode cX3_meet 6 = .ok (.iload_n 2, 1) := by decide +kernel
theorem dX3_meet_7 : decode cX3_meet 7 = .ok (.putfield 29, 3) := by decide +kernel
theorem dX3_meet_10 : decode cX3_meet 10 = .ok (.return_, 1) := by decide +kernel
theorem dX3_readElectron_0 : decode cX3_readElectron 0 = .ok (.aload_n 0, 1) := by decide +kernel
theorem dX3_readElectron_1 : decode cX3_readElectron 1 = .ok (.getfield 12, 3) := by decide +kernel
theorem dX3_readElectron_4 : decode cX3_readElectron 4 = .ok (.iconst 1, 1) := by decide +kernel
theorem dX3_readElectron_5 : decode cX3_readElectron 5 = .ok (.invokevirtual 106, 3) := by decide +kernel
theorem dX3_readElectron_8 : decode cX3_readElectron 8 = .ok (.bipush 94, 2) := by decide +kernel
theorem dX3_readElectron_10 : decode cX3_readElectron 10 = .ok (.if_icmp .ne 16, 3) := by decide +kernel
theorem dX3_readElectron_13 : decode cX3_readElectron 13 = .ok (.aload_n 0, 1) := by decide +kernel
theorem dX3_readElectron_14 : decode cX3_readElectron 14 = .ok (.getfield 12, 3) := by decide +kernel
theorem dX3_readElectron_17 : decode cX3_readElectron 17 = .ok (.iconst 2, 1) := by decide +kernel
theorem dX3_readElectron_18 : decode cX3_readElectron 18 = .ok (.invokevirtual 106, 3) := by decide +kernel
theorem dX3_readElectron_21 : decode cX3_readElectron 21 = .ok (.bipush 45, 2) := by decide +kernel
theorem dX3_readElectron_23 : decode cX3_readElectron 23 = .ok (.if_icmp .eq 19, 3) := by decide +kernel
theorem dX3_readElectron_26 : decode cX3_readElectron 26 = .ok (.aload_n 0, 1) := by decide +kernel
theorem dX3_readElectron_27 : decode cX3_readElectron 27 = .ok (.bipush (-2), 2) := by decide +kernel
theorem dX3_readElectron_29 : decode cX3_readElectron 29 = .ok (.aload_n 0, 1) := by decide +kernel
theorem dX3_readElectron_30 : decode cX3_readElectron 30 = .ok (.getfield 12, 3) := by decide +kernel
theorem dX3_readElectron_33 : decode cX3_readElectron 33 = .ok (.getfield 51, 3) := by decide +kernel
theorem dX3_readElectron_36 : decode cX3_readElectron 36 = .ok (.invokevirtual 66, 3) := by decide +kernel
theorem dX3_readElectron_39 : decode cX3_readElectron 39 = .ok (.goto 47, 3) := by decide +kernel
theorem dX3_readElectron_42 : decode cX3_readElectron 42 = .ok (.aload_n 0, 1) := by decide +kernel
theorem dX3_readElectron_43 : decode cX3_readElectron 43 = .ok (.getfield 21, 3) := by decide +kernel
theorem dX3_readElectron_46 : decode cX3_readElectron 46 = .ok (.invokevirtual 110, 3) := by decide +kernel
theorem dX3_readElectron_49 : decode cX3_readElectron 49 = .ok (.ifCond .ne 19, 3) := by decide +kernel
theorem dX3_readElectron_52 : decode cX3_readElectron 52 = .ok (.aload_n 0, 1) := by decide +kernel
theorem dX3_readElectron_53 : decode cX3_readElectron 53 = .ok (.bipush (-5), 2) := by decide +kernel
theorem dX3_readElectron_55 : decode cX3_readElectron 55 = .ok (.aload_n 0, 1) := by decide +kernel
theorem dX3_readElectron_56 : decode cX3_readElectron 56 = .ok (.getfield 12, 3) := by decide +kernel
theorem dX3_readElectron_59 : decode cX3_readElectron 59 = .ok (.getfield 51, 3) := by decide +kernel
theorem dX3_readElectron_62 : decode cX3_readElectron 62 = .ok (.invokevirtual 66, 3) := by decide +kernel
theorem dX3_readElectron_65 : decode cX3_readElectron 65 = .ok (.goto 21, 3) := by decide +kernel
theorem dX3_readElectron_68 : decode cX3_readElectron 68 = .ok (.aload_n 0, 1) := by decide +kernel
theorem dX3_readElectron_69 : decode cX3_readElectron 69 = .ok (.iconst (-1), 1) := by decide +kernel
theorem dX3_readElectron_70 : decode cX3_readElectron 70 = .ok (.putfield 48, 3) := by decide +kernel
theorem dX3_readElectron_73 : decode cX3_readElectron 73 = .ok (.aload_n 0, 1) := by decide +kernel
theorem dX3_readElectron_74 : decode cX3_readElectron 74 = .ok (.getfield 12, 3) := by decide +kernel
theorem dX3_readElectron_77 : decode cX3_readElectron 77 = .ok (.dup, 1) := by decide +kernel
theorem dX3_readElectron_78 : decode cX3_readElectron 78 = .ok (.getfield 51, 3) := by decide +kernel
theorem dX3_readElectron_81 : decode cX3_readElectron 81 = .ok (.iconst 3, 1) := by decide +kernel
theorem dX3_readElectron_82 : decode cX3_readElectron 82 = .ok (.iadd, 1) := by decide +kernel
theorem dX3_readElectron_83 : decode cX3_readElectron 83 = .ok (.putfield 51, 3) := by decide +kernel
theorem dX3_readElectron_86 : decode cX3_readElectron 86 = .ok (.return_, 1) := by decide +kernel
theorem dX3_readFormula_0 : decode cX3_readFormula 0 = .ok (.iconst 1, 1) := by decide +kernel
theorem dX3_readFormula_1 : decode cX3_readFormula 1 = .ok (.istore_n 1, 1) := by decide +kernel
theorem dX3_readFormula_2 : decode cX3_readFormula 2 = .ok (.iconst 0, 1) := by decide +kernel
theorem dX3_readFormula_3 : decode cX3_readFormula 3 = .ok (.istore_n 2, 1) := by decide +kernel
theorem dX3_readFormula_4 : decode cX3_readFormula 4 = .ok (.iload_n 2, 1) := by decide +kernel
theorem dX3_readFormula_5 : decode cX3_readFormula 5 = .ok (.bipush 100, 2) := by decide +kernel
theorem dX3_readFormula_7 : decode cX3_readFormula 7 = .ok (.if_icmp .ge 85, 3) := by decide +kernel
theorem dX3_readFormula_10 : decode cX3_readFormula 10 = .ok (.iload_n 1, 1) := by decide +kernel
theorem dX3_readFormula_11 : decode cX3_readFormula 11 = .ok (.ifCond .eq 81, 3) := by decide +kernel
theorem dX3_readFormula_14 : decode cX3_readFormula 14 = .ok (.aload_n 0, 1) := by decide +kernel
theorem dX3_readFormula_15 : decode cX3_readFormula 15 = .ok (.invokevirtual 113, 3) := by decide +kernel
theorem dX3_readFormula_18 : decode cX3_readFormula 18 = .ok (.istore_n 3, 1) := by decide +kernel
theorem dX3_readFormula_19 : decode cX3_readFormula 19 = .ok (.aload_n 0, 1) := by decide +kernel
theorem dX3_readFormula_20 : decode cX3_readFormula 20 = .ok (.getfield 25, 3) := by decide +kernel
theorem dX3_readFormula_23 : decode cX3_readFormula 23 = .ok (.ifCond .ne 21, 3) := by decide +kernel
theorem dX3_readFormula_26 : decode cX3_readFormula 26 = .ok (.aload_n 0, 1) := by decide +kernel
theorem dX3_readFormula_27 : decode cX3_readFormula 27 = .ok (.invokevirtual 117, 3) := by decide +kernel
theorem dX3_readFormula_30 : decode cX3_readFormula 30 = .ok (.aload_n 0, 1) := by decide +kernel
theorem dX3_readFormula_31 : decode cX3_readFormula 31 = .ok (.getfield 44, 3) := by decide +kernel
theorem dX3_readFormula_34 : decode cX3_readFormula 34 = .ok (.aload_n 0, 1) := by decide +kernel
theorem dX3_readFormula_35 : decode cX3_readFormula 35 = .ok (.getfield 34, 3) := by decide +kernel
theorem dX3_readFormula_38 : decode cX3_readFormula 38 = .ok (.iconst 0, 1) := by decide +kernel
theorem dX3_readFormula_39 : decode cX3_readFormula 39 = .ok (.aaload, 1) := by decide +kernel
theorem dX3_readFormula_40 : decode cX3_readFormula 40 = .ok (.iload_n 3, 1) := by decide +kernel
theorem dX3_readFormula_41 : decode cX3_readFormula 41 = .ok (.invokestatic 120, 3) := by decide +kernel
theorem dX3_readFormula_44 : decode cX3_readFormula 44 = .ok (.aload_n 0, 1) := by decide +kernel
theorem dX3_readFormula_45 : decode cX3_readFormula 45 = .ok (.getfield 25, 3) := by decide +kernel
theorem dX3_readFormula_48 : decode cX3_readFormula 48 = .ok (.ifCond .ne 19, 3) := by decide +kernel
theorem dX3_readFormula_51 : decode cX3_readFormula 51 = .ok (.aload_n 0, 1) := by decide +kernel
theorem dX3_readFormula_52 : decode cX3_readFormula 52 = .ok (.getfield 12, 3) := by decide +kernel
theorem dX3_readFormula_55 : decode cX3_readFormula 55 = .ok (.invokevirtual 70, 3) := by decide +kernel
theorem dX3_readFormula_58 : decode cX3_readFormula 58 = .ok (.bipush 46, 2) := by decide +kernel
theorem dX3_readFormula_60 : decode cX3_readFormula 60 = .ok (.if_icmp .ne 7, 3) := by decide +kernel
theorem dX3_readFormula_63 : decode cX3_readFormula 63 = .ok (.iconst 1, 1) := by decide +kernel
theorem dX3_readFormula_64 : decode cX3_readFormula 64 = .ok (.goto 4, 3) := by decide +kernel
theorem dX3_readFormula_67 : decode cX3_readFormula 67 = .ok (.iconst 0, 1) := by decide +kernel
theorem dX3_readFormula_68 : decode cX3_readFormula 68 = .ok (.istore_n 1, 1) := by decide +kernel
theorem dX3_readFormula_69 : decode cX3_readFormula 69 = .ok (.iload_n 1, 1) := by decide +kernel
theorem dX3_readFormula_70 : decode cX3_readFormula 70 = .ok (.ifCond .eq 16, 3) := by decide +kernel
theorem dX3_readFormula_73 : decode cX3_readFormula 73 = .ok (.aload_n 0, 1) := by decide +kernel
theorem dX3_readFormula_74 : decode cX3_readFormula 74 = .ok (.getfield 12, 3) := by decide +kernel
theorem dX3_readFormula_77 : decode cX3_readFormula 77 = .ok (.dup, 1) := by decide +kernel
theorem dX3_readFormula_78 : decode cX3_readFormula 78 = .ok (.getfield 51, 3) := by decide +kernel
theorem dX3_readFormula_81 : decode cX3_readFormula 81 = .ok (.iconst 1, 1) := by decide +kernel
theorem dX3_readFormula_82 : decode cX3_readFormula 82 = .ok (.iadd, 1) := by decide +kernel
theorem dX3_readFormula_83 : decode cX3_readFormula 83 = .ok (.putfield 51, 3) := by decide +kernel
theorem dX3_readFormula_86 : decode cX3_readFormula 86 = .ok (.iinc 2 1, 3) := by decide +kernel
theorem dX3_readFormula_89 : decode cX3_readFormula 89 = .ok (.goto (-85), 3) := by decide +kernel
theorem dX3_readFormula_92 : decode cX3_readFormula 92 = .ok (.aload_n 0, 1) := by decide +kernel
theorem dX3_readFormula_93 : decode cX3_readFormula 93 = .ok (.getfield 25, 3) := by decide +kernel
theorem dX3_readFormula_96 : decode cX3_readFormula 96 = .ok (.ifCond .ne 19, 3) := by decide +kernel
theorem dX3_readFormula_99 : decode cX3_readFormula 99 = .ok (.aload_n 0, 1) := by decide +kernel
theorem dX3_readFormula_100 : decode cX3_readFormula 100 = .ok (.getfield 12, 3) := by decide +kernel
theorem dX3_readFormula_103 : decode cX3_readFormula 103 = .ok (.invokevirtual 70, 3) := by decide +kernel
theorem dX3_readFormula_106 : decode cX3_readFormula 106 = .ok (.bipush 94, 2) := by decide +kernel
theorem dX3_readFormula_108 : decode cX3_readFormula 108 = .ok (.if_icmp .ne 7, 3) := by decide +kernel
theorem dX3_readFormula_111 : decode cX3_readFormula 111 = .ok (.aload_n 0, 1) := by decide +kernel
theorem dX3_readFormula_112 : decode cX3_readFormula 112 = .ok (.invokevirtual 124, 3) := by decide +kernel
theorem dX3_readFormula_115 : decode cX3_readFormula 115 = .ok (.return_, 1) := by decide +kernel
theorem dX3_readNumber_0 : decode cX3_readNumber 0 = .ok (.aload_n 0, 1) := by decide +kernel
theorem dX3_readNumber_1 : decode cX3_readNumber 1 = .ok (.getfield 12, 3) := by decide +kernel
theorem dX3_readNumber_4 : decode cX3_readNumber 4 = .ok (.getfield 51, 3) := by decide +kernel
theorem dX3_readNumber_7 : decode cX3_readNumber 7 = .ok (.istore_n 1, 1) := by decide +kernel
theorem dX3_readNumber_8 : decode cX3_readNumber 8 = .ok (.aload_n 0, 1) := by decide +kernel
theorem dX3_readNumber_9 : decode cX3_readNumber 9 = .ok (.getfield 12, 3) := by decide +kernel
theorem dX3_readNumber_12 : decode cX3_readNumber 12 = .ok (.invokevirtual 70, 3) := by decide +kernel
theorem dX3_readNumber_15 : decode cX3_readNumber 15 = .ok (.bipush 48, 2) := by decide +kernel
theorem dX3_readNumber_17 : decode cX3_readNumber 17 = .ok (.if_icmp .ne 7, 3) := by decide +kernel
theorem dX3_readNumber_20 : decode cX3_readNumber 20 = .ok (.iconst 1, 1) := by decide +kernel
theorem dX3_readNumber_21 : decode cX3_readNumber 21 = .ok (.goto 4, 3) := by decide +kernel
theorem dX3_readNumber_24 : decode cX3_readNumber 24 = .ok (.iconst 0, 1) := by decide +kernel
theorem dX3_readNumber_25 : decode cX3_readNumber 25 = .ok (.istore_n 2, 1) := by decide +kernel
theorem dX3_readNumber_26 : decode cX3_readNumber 26 = .ok (.iconst 0, 1) := by decide +kernel
theorem dX3_readNumber_27 : decode cX3_readNumber 27 = .ok (.istore_n 3, 1) := by decide +kernel
theorem dX3_readNumber_28 : decode cX3_readNumber 28 = .ok (.iconst 0, 1) := by decide +kernel
theorem dX3_readNumber_29 : decode cX3_readNumber 29 = .ok (.istore 4, 2) := by decide +kernel
theorem dX3_readNumber_31 : decode cX3_readNumber 31 = .ok (.iload 4, 2) := by decide +kernel
theorem dX3_readNumber_33 : decode cX3_readNumber 33 = .ok (.bipush 100, 2) := by decide +kernel
theorem dX3_readNumber_35 : decode cX3_readNumber 35 = .ok (.if_icmp .ge 51, 3) := by decide +kernel
theorem dX3_readNumber_38 : decode cX3_readNumber 38 = .ok (.aload_n 0, 1) := by decide +kernel
theorem dX3_readNumber_39 : decode cX3_readNumber 39 = .ok (.getfield 12, 3) := by decide +kernel
theorem dX3_readNumber_42 : decode cX3_readNumber 42 = .ok (.invokevirtual 70, 3) := by decide +kernel
theorem dX3_readNumber_45 : decode cX3_readNumber 45 = .ok (.invokestatic 148, 3) := by decide +kernel
theorem dX3_readNumber_48 : decode cX3_readNumber 48 = .ok (.ifCond .eq 38, 3) := by decide +kernel
theorem dX3_readNumber_51 : decode cX3_readNumber 51 = .ok (.bipush 10, 2) := by decide +kernel
theorem dX3_readNumber_53 : decode cX3_readNumber 53 = .ok (.iload_n 3, 1) := by decide +kernel
theorem dX3_readNumber_54 : decode cX3_readNumber 54 = .ok (.imul, 1) := by decide +kernel
theorem dX3_readNumber_55 : decode cX3_readNumber 55 = .ok (.aload_n 0, 1) := by decide +kernel
theorem dX3_readNumber_56 : decode cX3_readNumber 56 = .ok (.getfield 12, 3) := by decide +kernel
theorem dX3_readNumber_59 : decode cX3_readNumber 59 = .ok (.invokevirtual 70, 3) := by decide +kernel
theorem dX3_readNumber_62 : decode cX3_readNumber 62 = .ok (.bipush 48, 2) := by decide +kernel
theorem dX3_readNumber_64 : decode cX3_readNumber 64 = .ok (.isub, 1) := by decide +kernel
theorem dX3_readNumber_65 : decode cX3_readNumber 65 = .ok (.iadd, 1) := by decide +kernel
theorem dX3_readNumber_66 : decode cX3_readNumber 66 = .ok (.istore_n 3, 1) := by decide +kernel
theorem dX3_readNumber_67 : decode cX3_readNumber 67 = .ok (.aload_n 0, 1) := by decide +kernel
theorem dX3_readNumber_68 : decode cX3_readNumber 68 = .ok (.getfield 12, 3) := by decide +kernel
theorem dX3_readNumber_71 : decode cX3_readNumber 71 = .ok (.dup, 1) := by decide +kernel
theorem dX3_readNumber_72 : decode cX3_readNumber 72 = .ok (.getfield 51, 3) := by decide +kernel
theorem dX3_readNumber_75 : decode cX3_readNumber 75 = .ok (.iconst 1, 1) := by decide +kernel
theorem dX3_readNumber_76 : decode cX3_readNumber 76 = .ok (.iadd, 1) := by decide +kernel
theorem dX3_readNumber_77 : decode cX3_readNumber 77 = .ok (.putfield 51, 3) := by decide +kernel
theorem dX3_readNumber_80 : decode cX3_readNumber 80 = .ok (.iinc 4 1, 3) := by decide +kernel
theorem dX3_readNumber_83 : decode cX3_readNumber 83 = .ok (.goto (-52), 3) := by decide +kernel
theorem dX3_readNumber_86 : decode cX3_readNumber 86 = .ok (.aload_n 0, 1) := by decide +kernel
theorem dX3_readNumber_87 : decode cX3_readNumber 87 = .ok (.getfield 12, 3) := by decide +kernel
theorem dX3_readNumber_90 : decode cX3_readNumber 90 = .ok (.getfield 51, 3) := by decide +kernel
theorem dX3_readNumber_93 : decode cX3_readNumber 93 = .ok (.iload_n 1, 1) := by decide +kernel
theorem dX3_readNumber_94 : decode cX3_readNumber 94 = .ok (.isub, 1) := by decide +kernel
theorem dX3_readNumber_95 : decode cX3_readNumber 95 = .ok (.istore 4, 2) := by decide +kernel
theorem dX3_readNumber_97 : decode cX3_readNumber 97 = .ok (.iload_n 2, 1) := by decide +kernel
theorem dX3_readNumber_98 : decode cX3_readNumber 98 = .ok (.ifCond .ne 9, 3) := by decide +kernel
theorem dX3_readNumber_101 : decode cX3_readNumber 101 = .ok (.iload 4, 2) := by decide +kernel
theorem dX3_readNumber_103 : decode cX3_readNumber 103 = .ok (.iconst 2, 1) := by decide +kernel
theorem dX3_readNumber_104 : decode cX3_readNumber 104 = .ok (.if_icmp .le 10, 3) := by decide +kernel
theorem dX3_readNumber_107 : decode cX3_readNumber 107 = .ok (.aload_n 0, 1) := by decide +kernel
theorem dX3_readNumber_108 : decode cX3_readNumber 108 = .ok (.bipush (-3), 2) := by decide +kernel
theorem dX3_readNumber_110 : decode cX3_readNumber 110 = .ok (.iload_n 1, 1) := by decide +kernel
theorem dX3_readNumber_111 : decode cX3_readNumber 111 = .ok (.invokevirtual 66, 3) := by decide +kernel
theorem dX3_readNumber_114 : decode cX3_readNumber 114 = .ok (.iload 4, 2) := by decide +kernel
theorem dX3_readNumber_116 : decode cX3_readNumber 116 = .ok (.ifCond .ne 7, 3) := by decide +kernel
theorem dX3_readNumber_119 : decode cX3_readNumber 119 = .ok (.iconst 1, 1) := by decide +kernel
theorem dX3_readNumber_120 : decode cX3_readNumber 120 = .ok (.goto 4, 3) := by decide +kernel
theorem dX3_readNumber_123 : decode cX3_readNumber 123 = .ok (.iload_n 3, 1) := by decide +kernel
theorem dX3_readNumber_124 : decode cX3_readNumber 124 = .ok (.ireturn, 1) := by decide +kernel
theorem dX3_readUnits_0 : decode cX3_readUnits 0 = .ok (.aload_n 0, 1) := by decide +kernel
theorem dX3_readUnits_1 : decode cX3_readUnits 1 = .ok (.iconst 0, 1) := by decide +kernel
theorem dX3_readUnits_2 : decode cX3_readUnits 2 = .ok (.putfield 41, 3) := by decide +kernel
theorem dX3_readUnits_5 : decode cX3_readUnits 5 = .ok (.aload_n 0, 1) := by decide +kernel
theorem dX3_readUnits_6 : decode cX3_readUnits 6 = .ok (.getfield 34, 3) := by decide +kernel
theorem dX3_readUnits_9 : decode cX3_readUnits 9 = .ok (.iconst 0, 1) := by decide +kernel
theorem dX3_readUnits_10 : decode cX3_readUnits 10 = .ok (.aaload, 1) := by decide +kernel
theorem dX3_readUnits_11 : decode cX3_readUnits 11 = .ok (.lconst 0, 1) := by decide +kernel
theorem dX3_readUnits_12 : decode cX3_readUnits 12 = .ok (.invokestatic 88, 3) := by decide +kernel
theorem dX3_readUnits_15 : decode cX3_readUnits 15 = .ok (.iconst 1, 1) := by decide +kernel
theorem dX3_readUnits_16 : decode cX3_readUnits 16 = .ok (.istore_n 1, 1) := by decide +kernel
theorem dX3_readUnits_17 : decode cX3_readUnits 17 = .ok (.iconst 1, 1) := by decide +kernel
theorem dX3_readUnits_18 : decode cX3_readUnits 18 = .ok (.istore_n 2, 1) := by decide +kernel
theorem dX3_readUnits_19 : decode cX3_readUnits 19 = .ok (.iconst 0, 1) := by decide +kernel
theorem dX3_readUnits_20 : decode cX3_readUnits 20 = .ok (.istore_n 3, 1) := by decide +kernel
theorem dX3_readUnits_21 : decode cX3_readUnits 21 = .ok (.iload_n 3, 1) := by decide +kernel
theorem dX3_readUnits_22 : decode cX3_readUnits 22 = .ok (.bipush 100, 2) := by decide +kernel
theorem dX3_readUnits_24 : decode cX3_readUnits 24 = .ok (.if_icmp .ge 117, 3) := by decide +kernel
theorem dX3_readUnits_27 : decode cX3_readUnits 27 = .ok (.iload_n 2, 1) := by decide +kernel
theorem dX3_readUnits_28 : decode cX3_readUnits 28 = .ok (.ifCond .eq 113, 3) := by decide +kernel
theorem dX3_readUnits_31 : decode cX3_readUnits 31 = .ok (.aload_n 0, 1) := by decide +kernel
theorem dX3_readUnits_32 : decode cX3_readUnits 32 = .ok (.getfield 12, 3) := by decide +kernel
theorem dX3_readUnits_35 : decode cX3_readUnits 35 = .ok (.invokevirtual 70, 3) := by decide +kernel
theorem dX3_readUnits_38 : decode cX3_readUnits 38 = .ok (.istore 4, 2) := by decide +kernel
theorem dX3_readUnits_40 : decode cX3_readUnits 40 = .ok (.iload 4, 2) := by decide +kernel
theorem dX3_readUnits_42 : decode cX3_readUnits 42 = .ok (.invokestatic 127, 3) := by decide +kernel
theorem dX3_readUnits_45 : decode cX3_readUnits 45 = .ok (.ifCond .eq 14, 3) := by decide +kernel
theorem dX3_readUnits_48 : decode cX3_readUnits 48 = .ok (.aload_n 0, 1) := by decide +kernel
theorem dX3_readUnits_49 : decode cX3_readUnits 49 = .ok (.iload 4, 2) := by decide +kernel
theorem dX3_readUnits_51 : decode cX3_readUnits 51 = .ok (.invokevirtual 131, 3) := by decide +kernel
theorem dX3_readUnits_54 : decode cX3_readUnits 54 = .ok (.iconst 0, 1) := by decide +kernel
theorem dX3_readUnits_55 : decode cX3_readUnits 55 = .ok (.istore_n 1, 1) := by decide +kernel
theorem dX3_readUnits_56 : decode cX3_readUnits 56 = .ok (.goto 62, 3) := by decide +kernel
theorem dX3_readUnits_59 : decode cX3_readUnits 59 = .ok (.iload 4, 2) := by decide +kernel
theorem dX3_readUnits_61 : decode cX3_readUnits 61 = .ok (.bipush 40, 2) := by decide +kernel
theorem dX3_readUnits_63 : decode cX3_readUnits 63 = .ok (.if_icmp .eq 10, 3) := by decide +kernel
theorem dX3_readUnits_66 : decode cX3_readUnits 66 = .ok (.iload 4, 2) := by decide +kernel
theorem dX3_readUnits_68 : decode cX3_readUnits 68 = .ok (.bipush 91, 2) := by decide +kernel
theorem dX3_readUnits_70 : decode cX3_readUnits 70 = .ok (.if_icmp .ne 14, 3) := by decide +kernel
theorem dX3_readUnits_73 : decode cX3_readUnits 73 = .ok (.aload_n 0, 1) := by decide +kernel
theorem dX3_readUnits_74 : decode cX3_readUnits 74 = .ok (.iload 4, 2) := by decide +kernel
theorem dX3_readUnits_76 : decode cX3_readUnits 76 = .ok (.invokevirtual 135, 3) := by decide +kernel
theorem dX3_readUnits_79 : decode cX3_readUnits 79 = .ok (.iconst 1, 1) := by decide +kernel
theorem dX3_readUnits_80 : decode cX3_readUnits 80 = .ok (.istore_n 1, 1) := by decide +kernel
theorem dX3_readUnits_81 : decode cX3_readUnits 81 = .ok (.goto 37, 3) := by decide +kernel
theorem dX3_readUnits_84 : decode cX3_readUnits 84 = .ok (.aload_n 0, 1) := by decide +kernel
theorem dX3_readUnits_85 : decode cX3_readUnits 85 = .ok (.getfield 41, 3) := by decide +kernel
theorem dX3_readUnits_88 : decode cX3_readUnits 88 = .ok (.ifCond .le 28, 3) := by decide +kernel
theorem dX3_readUnits_91 : decode cX3_readUnits 91 = .ok (.iload 4, 2) := by decide +kernel
theorem dX3_readUnits_93 : decode cX3_readUnits 93 = .ok (.aload_n 0, 1) := by decide +kernel
theorem dX3_readUnits_94 : decode cX3_readUnits 94 = .ok (.getfield 37, 3) := by decide +kernel
theorem dX3_readUnits_97 : decode cX3_readUnits 97 = .ok (.aload_n 0, 1) := by decide +kernel
theorem dX3_readUnits_98 : decode cX3_readUnits 98 = .ok (.getfield 41, 3) := by decide +kernel
theorem dX3_readUnits_101 : decode cX3_readUnits 101 = .ok (.caload, 1) := by decide +kernel
theorem dX3_readUnits_102 : decode cX3_readUnits 102 = .ok (.if_icmp .ne 14, 3) := by decide +kernel
theorem dX3_readUnits_105 : decode cX3_readUnits 105 = .ok (.iload_n 1, 1) := by decide +kernel
theorem dX3_readUnits_106 : decode cX3_readUnits 106 = .ok (.ifCond .ne 10, 3) := by decide +kernel
theorem dX3_readUnits_109 : decode cX3_readUnits 109 = .ok (.aload_n 0, 1) := by decide +kernel
theorem dX3_readUnits_110 : decode cX3_readUnits 110 = .ok (.invokevirtual 138, 3) := by decide +kernel
theorem dX3_readUnits_113 : decode cX3_readUnits 113 = .ok (.goto 5, 3) := by decide +kernel
theorem dX3_readUnits_116 : decode cX3_readUnits 116 = .ok (.iconst 0, 1) := by decide +kernel
theorem dX3_readUnits_117 : decode cX3_readUnits 117 = .ok (.istore_n 2, 1) := by decide +kernel
theorem dX3_readUnits_118 : decode cX3_readUnits 118 = .ok (.iload_n 2, 1) := by decide +kernel
theorem dX3_readUnits_119 : decode cX3_readUnits 119 = .ok (.ifCond .eq 14, 3) := by decide +kernel
theorem dX3_readUnits_122 : decode cX3_readUnits 122 = .ok (.aload_n 0, 1) := by decide +kernel
theorem dX3_readUnits_123 : decode cX3_readUnits 123 = .ok (.getfield 25, 3) := by decide +kernel
theorem dX3_readUnits_126 : decode cX3_readUnits 126 = .ok (.ifCond .ne 7, 3) := by decide +kernel
theorem dX3_readUnits_129 : decode cX3_readUnits 129 = .ok (.iconst 1, 1) := by decide +kernel
theorem dX3_readUnits_130 : decode cX3_readUnits 130 = .ok (.goto 4, 3) := by decide +kernel
theorem dX3_readUnits_133 : decode cX3_readUnits 133 = .ok (.iconst 0, 1) := by decide +kernel
theorem dX3_readUnits_134 : decode cX3_readUnits 134 = .ok (.istore_n 2, 1) := by decide +kernel
theorem dX3_readUnits_135 : decode cX3_readUnits 135 = .ok (.iinc 3 1, 3) := by decide +kernel
theorem dX3_readUnits_138 : decode cX3_readUnits 138 = .ok (.goto (-117), 3) := by decide +kernel
theorem dX3_readUnits_141 : decode cX3_readUnits 141 = .ok (.aload_n 0, 1) := by decide +kernel
theorem dX3_readUnits_142 : decode cX3_readUnits 142 = .ok (.getfield 25, 3) := by decide +kernel
theorem dX3_readUnits_145 : decode cX3_readUnits 145 = .ok (.ifCond .ne 27, 3) := by decide +kernel
theorem dX3_readUnits_148 : decode cX3_readUnits 148 = .ok (.iload_n 1, 1) := by decide +kernel
theorem dX3_readUnits_149 : decode cX3_readUnits 149 = .ok (.ifCond .ne 10, 3) := by decide +kernel
theorem dX3_readUnits_152 : decode cX3_readUnits 152 = .ok (.aload_n 0, 1) := by decide +kernel
theorem dX3_readUnits_153 : decode cX3_readUnits 153 = .ok (.getfield 41, 3) := by decide +kernel
theorem dX3_readUnits_156 : decode cX3_readUnits 156 = .ok (.ifCond .le 16, 3) := by decide +kernel
theorem dX3_readUnits_159 : decode cX3_readUnits 159 = .ok (.aload_n 0, 1) := by decide +kernel
theorem dX3_readUnits_160 : decode cX3_readUnits 160 = .ok (.bipush (-2), 2) := by decide +kernel
theorem dX3_readUnits_162 : decode cX3_readUnits 162 = .ok (.aload_n 0, 1) := by decide +kernel
theorem dX3_readUnits_163 : decode cX3_readUnits 163 = .ok (.getfield 12, 3) := by decide +kernel
theorem dX3_readUnits_166 : decode cX3_readUnits 166 = .ok (.getfield 51, 3) := by decide +kernel
theorem dX3_readUnits_169 : decode cX3_readUnits 169 = .ok (.invokevirtual 66, 3) := by decide +kernel
theorem dX3_readUnits_172 : decode cX3_readUnits 172 = .ok (.return_, 1) := by decide +kernel
theorem dX3_readElement_0 : decode cX3_readElement 0 = .ok (.aload_n 0, 1) := by decide +kernel
theorem dX3_readElement_1 : decode cX3_readElement 1 = .ok (.getfield 12, 3) := by decide +kernel
theorem dX3_readElement_4 : decode cX3_readElement 4 = .ok (.iconst 1, 1) := by decide +kernel
theorem dX3_readElement_5 : decode cX3_readElement 5 = .ok (.invokevirtual 106, 3) := by decide +kernel
theorem dX3_readElement_8 : decode cX3_readElement 8 = .ok (.istore_n 2, 1) := by decide +kernel
theorem dX3_readElement_9 : decode cX3_readElement 9 = .ok (.iload_n 2, 1) := by decide +kernel
theorem dX3_readElement_10 : decode cX3_readElement 10 = .ok (.invokestatic 141, 3) := by decide +kernel
theorem dX3_readElement_13 : decode cX3_readElement 13 = .ok (.istore_n 3, 1) := by decide +kernel
theorem dX3_readElement_14 : decode cX3_readElement 14 = .ok (.aload_n 0, 1) := by decide +kernel
theorem dX3_readElement_15 : decode cX3_readElement 15 = .ok (.getfield 21, 3) := by decide +kernel
theorem dX3_readElement_18 : decode cX3_readElement 18 = .ok (.iload_n 3, 1) := by decide +kernel
theorem dX3_readElement_19 : decode cX3_readElement 19 = .ok (.ifCond .eq 13, 3) := by decide +kernel
theorem dX3_readElement_22 : decode cX3_readElement 22 = .ok (.iload_n 1, 1) := by decide +kernel
theorem dX3_readElement_23 : decode cX3_readElement 23 = .ok (.sipush 256, 3) := by decide +kernel
theorem dX3_readElement_26 : decode cX3_readElement 26 = .ok (.iload_n 2, 1) := by decide +kernel
theorem dX3_readElement_27 : decode cX3_readElement 27 = .ok (.imul, 1) := by decide +kernel
theorem dX3_readElement_28 : decode cX3_readElement 28 = .ok (.iadd, 1) := by decide +kernel
theorem dX3_readElement_29 : decode cX3_readElement 29 = .ok (.goto 4, 3) := by decide +kernel
theorem dX3_readElement_32 : decode cX3_readElement 32 = .ok (.iload_n 1, 1) := by decide +kernel
theorem dX3_readElement_33 : decode cX3_readElement 33 = .ok (.invokevirtual 144, 3) := by decide +kernel
theorem dX3_readElement_36 : decode cX3_readElement 36 = .ok (.istore 4, 2) := by decide +kernel
theorem dX3_readElement_38 : decode cX3_readElement 38 = .ok (.iload 4, 2) := by decide +kernel
theorem dX3_readElement_40 : decode cX3_readElement 40 = .ok (.iconst (-1), 1) := by decide +kernel
theorem dX3_readElement_41 : decode cX3_readElement 41 = .ok (.if_icmp .ne 17, 3) := by decide +kernel
theorem dX3_readElement_44 : decode cX3_readElement 44 = .ok (.aload_n 0, 1) := by decide +kernel
theorem dX3_readElement_45 : decode cX3_readElement 45 = .ok (.bipush (-5), 2) := by decide +kernel
theorem dX3_readElement_47 : decode cX3_readElement 47 = .ok (.aload_n 0, 1) := by decide +kernel
theorem dX3_readElement_48 : decode cX3_readElement 48 = .ok (.getfield 12, 3) := by decide +kernel
theorem dX3_readElement_51 : decode cX3_readElement 51 = .ok (.getfield 51, 3) := by decide +kernel
theorem dX3_readElement_54 : decode cX3_readElement 54 = .ok (.invokevirtual 66, 3) := by decide +kernel
theorem dX3_readElement_57 : decode cX3_readElement 57 = .ok (.return_, 1) := by decide +kernel
theorem dX3_readElement_58 : decode cX3_readElement 58 = .ok (.aload_n 0, 1) := by decide +kernel
theorem dX3_readElement_59 : decode cX3_readElement 59 = .ok (.getfield 12, 3) := by decide +kernel
theorem dX3_readElement_62 : decode cX3_readElement 62 = .ok (.dup, 1) := by decide +kernel
theorem dX3_readElement_63 : decode cX3_readElement 63 = .ok (.getfield 51, 3) := by decide +kernel
theorem dX3_readElement_66 : decode cX3_readElement 66 = .ok (.iload_n 3, 1) := by decide +kernel
theorem dX3_readElement_67 : decode cX3_readElement 67 = .ok (.ifCond .eq 7, 3) := by decide +kernel
theorem dX3_readElement_70 : decode cX3_readElement 70 = .ok (.iconst 2, 1) := by decide +kernel
theorem dX3_readElement_71 : decode cX3_readElement 71 = .ok (.goto 4, 3) := by decide +kernel
theorem dX3_readElement_74 : decode cX3_readElement 74 = .ok (.iconst 1, 1) := by decide +kernel
theorem dX3_readElement_75 : decode cX3_readElement 75 = .ok (.iadd, 1) := by decide +kernel
theorem dX3_readElement_76 : decode cX3_readElement 76 = .ok (.putfield 51, 3) := by decide +kernel
theorem dX3_readElement_79 : decode cX3_readElement 79 = .ok (.aload_n 0, 1) := by decide +kernel
theorem dX3_readElement_80 : decode cX3_readElement 80 = .ok (.getfield 34, 3) := by decide +kernel
theorem dX3_readElement_83 : decode cX3_readElement 83 = .ok (.aload_n 0, 1) := by decide +kernel
theorem dX3_readElement_84 : decode cX3_readElement 84 = .ok (.getfield 41, 3) := by decide +kernel
theorem dX3_readElement_87 : decode cX3_readElement 87 = .ok (.aaload, 1) := by decide +kernel
theorem dX3_readElement_88 : decode cX3_readElement 88 = .ok (.iload 4, 2) := by decide +kernel
theorem dX3_readElement_90 : decode cX3_readElement 90 = .ok (.dup2, 1) := by decide +kernel
theorem dX3_readElement_91 : decode cX3_readElement 91 = .ok (.laload, 1) := by decide +kernel
theorem dX3_readElement_92 : decode cX3_readElement 92 = .ok (.aload_n 0, 1) := by decide +kernel
theorem dX3_readElement_93 : decode cX3_readElement 93 = .ok (.invokevirtual 113, 3) := by decide +kernel
theorem dX3_readElement_96 : decode cX3_readElement 96 = .ok (.i2l, 1) := by decide +kernel
theorem dX3_readElement_97 : decode cX3_readElement 97 = .ok (.ladd, 1) := by decide +kernel
theorem dX3_readElement_98 : decode cX3_readElement 98 = .ok (.lastore, 1) := by decide +kernel
theorem dX3_readElement_99 : decode cX3_readElement 99 = .ok (.return_, 1) := by decide +kernel
theorem dX3_openGroup_0 : decode cX3_openGroup 0 = .ok (.aload_n 0, 1) := by decide +kernel
theorem dX3_openGroup_1 : decode cX3_openGroup 1 = .ok (.getfield 41, 3) := by decide +kernel
theorem dX3_openGroup_4 : decode cX3_openGroup 4 = .ok (.iconst 3, 1) := by decide +kernel
theorem dX3_openGroup_5 : decode cX3_openGroup 5 = .ok (.if_icmp .lt 17, 3) := by decide +kernel
theorem dX3_openGroup_8 : decode cX3_openGroup 8 = .ok (.aload_n 0, 1) := by decide +kernel
theorem dX3_openGroup_9 : decode cX3_openGroup 9 = .ok (.bipush (-4), 2) := by decide +kernel
theorem dX3_openGroup_11 : decode cX3_openGroup 11 = .ok (.aload_n 0, 1) := by decide +kernel
theorem dX3_openGroup_12 : decode cX3_openGroup 12 = .ok (.getfield 12, 3) := by decide +kernel
theorem dX3_openGroup_15 : decode cX3_openGroup 15 = .ok (.getfield 51, 3) := by decide +kernel
theorem dX3_openGroup_18 : decode cX3_openGroup 18 = .ok (.invokevirtual 66, 3) := by decide +kernel
theorem dX3_openGroup_21 : decode cX3_openGroup 21 = .ok (.return_, 1) := by decide +kernel
theorem dX3_openGroup_22 : decode cX3_openGroup 22 = .ok (.aload_n 0, 1) := by decide +kernel
theorem dX3_openGroup_23 : decode cX3_openGroup 23 = .ok (.dup, 1) := by decide +kernel
theorem dX3_openGroup_24 : decode cX3_openGroup 24 = .ok (.getfield 41, 3) := by decide +kernel
theorem dX3_openGroup_27 : decode cX3_openGroup 27 = .ok (.iconst 1, 1) := by decide +kernel
theorem dX3_openGroup_28 : decode cX3_openGroup 28 = .ok (.iadd, 1) := by decide +kernel
theorem dX3_openGroup_29 : decode cX3_openGroup 29 = .ok (.putfield 41, 3) := by decide +kernel
theorem dX3_openGroup_32 : decode cX3_openGroup 32 = .ok (.aload_n 0, 1) := by decide +kernel
theorem dX3_openGroup_33 : decode cX3_openGroup 33 = .ok (.getfield 37, 3) := by decide +kernel
theorem dX3_openGroup_36 : decode cX3_openGroup 36 = .ok (.aload_n 0, 1) := by decide +kernel
theorem dX3_openGroup_37 : decode cX3_openGroup 37 = .ok (.getfield 41, 3) := by decide +kernel
theorem dX3_openGroup_40 : decode cX3_openGroup 40 = .ok (.iload_n 1, 1) := by decide +kernel
theorem dX3_openGroup_41 : decode cX3_openGroup 41 = .ok (.bipush 40, 2) := by decide +kernel
theorem dX3_openGroup_43 : decode cX3_openGroup 43 = .ok (.if_icmp .ne 8, 3) := by decide +kernel
theorem dX3_openGroup_46 : decode cX3_openGroup 46 = .ok (.bipush 41, 2) := by decide +kernel
theorem dX3_openGroup_48 : decode cX3_openGroup 48 = .ok (.goto 5, 3) := by decide +kernel
theorem dX3_openGroup_51 : decode cX3_openGroup 51 = .ok (.bipush 93, 2) := by decide +kernel
theorem dX3_openGroup_53 : decode cX3_openGroup 53 = .ok (.castore, 1) := by decide +kernel
theorem dX3_openGroup_54 : decode cX3_openGroup 54 = .ok (.aload_n 0, 1) := by decide +kernel
theorem dX3_openGroup_55 : decode cX3_openGroup 55 = .ok (.getfield 34, 3) := by decide +kernel
theorem dX3_openGroup_58 : decode cX3_openGroup 58 = .ok (.aload_n 0, 1) := by decide +kernel
theorem dX3_openGroup_59 : decode cX3_openGroup 59 = .ok (.getfield 41, 3) := by decide +kernel
theorem dX3_openGroup_62 : decode cX3_openGroup 62 = .ok (.aaload, 1) := by decide +kernel
theorem dX3_openGroup_63 : decode cX3_openGroup 63 = .ok (.lconst 0, 1) := by decide +kernel
theorem dX3_openGroup_64 : decode cX3_openGroup 64 = .ok (.invokestatic 88, 3) := by decide +kernel
theorem dX3_openGroup_67 : decode cX3_openGroup 67 = .ok (.aload_n 0, 1) := by decide +kernel
theorem dX3_openGroup_68 : decode cX3_openGroup 68 = .ok (.getfield 12, 3) := by decide +kernel
theorem dX3_openGroup_71 : decode cX3_openGroup 71 = .ok (.dup, 1) := by decide +kernel
theorem dX3_openGroup_72 : decode cX3_openGroup 72 = .ok (.getfield 51, 3) := by decide +kernel
theorem dX3_openGroup_75 : decode cX3_openGroup 75 = .ok (.iconst 1, 1) := by decide +kernel
theorem dX3_openGroup_76 : decode cX3_openGroup 76 = .ok (.iadd, 1) := by decide +kernel
theorem dX3_openGroup_77 : decode cX3_openGroup 77 = .ok (.putfield 51, 3) := by decide +kernel
theorem dX3_openGroup_80 : decode cX3_openGroup 80 = .ok (.return_, 1) := by decide +kernel
theorem dX3_closeGroup_0 : decode cX3_closeGroup 0 = .ok (.aload_n 0, 1) := by decide +kernel
theorem dX3_closeGroup_1 : decode cX3_closeGroup 1 = .ok (.getfield 12, 3) := by decide +kernel
theorem dX3_closeGroup_4 : decode cX3_closeGroup 4 = .ok (.dup, 1) := by decide +kernel
theorem dX3_closeGroup_5 : decode cX3_closeGroup 5 = .ok (.getfield 51, 3) := by decide +kernel
theorem dX3_closeGroup_8 : decode cX3_closeGroup 8 = .ok (.iconst 1, 1) := by decide +kernel
theorem dX3_closeGroup_9 : decode cX3_closeGroup 9 = .ok (.iadd, 1) := by decide +kernel
theorem dX3_closeGroup_10 : decode cX3_closeGroup 10 = .ok (.putfield 51, 3) := by decide +kernel
theorem dX3_closeGroup_13 : decode cX3_closeGroup 13 = .ok (.aload_n 0, 1) := by decide +kernel
theorem dX3_closeGroup_14 : decode cX3_closeGroup 14 = .ok (.invokevirtual 113, 3) := by decide +kernel
theorem dX3_closeGroup_17 : decode cX3_closeGroup 17 = .ok (.istore_n 1, 1) := by decide +kernel
theorem dX3_closeGroup_18 : decode cX3_closeGroup 18 = .ok (.aload_n 0, 1) := by decide +kernel
theorem dX3_closeGroup_19 : decode cX3_closeGroup 19 = .ok (.dup, 1) := by decide +kernel
theorem dX3_closeGroup_20 : decode cX3_closeGroup 20 = .ok (.getfield 41, 3) := by decide +kernel
theorem dX3_closeGroup_23 : decode cX3_closeGroup 23 = .ok (.iconst 1, 1) := by decide +kernel
theorem dX3_closeGroup_24 : decode cX3_closeGroup 24 = .ok (.isub, 1) := by decide +kernel
theorem dX3_closeGroup_25 : decode cX3_closeGroup 25 = .ok (.putfield 41, 3) := by decide +kernel
theorem dX3_closeGroup_28 : decode cX3_closeGroup 28 = .ok (.aload_n 0, 1) := by decide +kernel
theorem dX3_closeGroup_29 : decode cX3_closeGroup 29 = .ok (.getfield 34, 3) := by decide +kernel
theorem dX3_closeGroup_32 : decode cX3_closeGroup 32 = .ok (.aload_n 0, 1) := by decide +kernel
theorem dX3_closeGroup_33 : decode cX3_closeGroup 33 = .ok (.getfield 41, 3) := by decide +kernel
theorem dX3_closeGroup_36 : decode cX3_closeGroup 36 = .ok (.aaload, 1) := by decide +kernel
theorem dX3_closeGroup_37 : decode cX3_closeGroup 37 = .ok (.aload_n 0, 1) := by decide +kernel
theorem dX3_closeGroup_38 : decode cX3_closeGroup 38 = .ok (.getfield 34, 3) := by decide +kernel
theorem dX3_closeGroup_41 : decode cX3_closeGroup 41 = .ok (.aload_n 0, 1) := by decide +kernel
theorem dX3_closeGroup_42 : decode cX3_closeGroup 42 = .ok (.getfield 41, 3) := by decide +kernel
theorem dX3_closeGroup_45 : decode cX3_closeGroup 45 = .ok (.iconst 1, 1) := by decide +kernel
theorem dX3_closeGroup_46 : decode cX3_closeGroup 46 = .ok (.iadd, 1) := by decide +kernel
theorem dX3_closeGroup_47 : decode cX3_closeGroup 47 = .ok (.aaload, 1) := by decide +kernel
theorem dX3_closeGroup_48 : decode cX3_closeGroup 48 = .ok (.iload_n 1, 1) := by decide +kernel
theorem dX3_closeGroup_49 : decode cX3_closeGroup 49 = .ok (.invokestatic 120, 3) := by decide +kernel
theorem dX3_closeGroup_52 : decode cX3_closeGroup 52 = .ok (.return_, 1) := by decide +kernel
theorem dX3_addTimes_0 : decode cX3_addTimes 0 = .ok (.iconst 0, 1) := by decide +kernel
theorem dX3_addTimes_1 : decode cX3_addTimes 1 = .ok (.istore_n 3, 1) := by decide +kernel
theorem dX3_addTimes_2 : decode cX3_addTimes 2 = .ok (.iload_n 3, 1) := by decide +kernel
theorem dX3_addTimes_3 : decode cX3_addTimes 3 = .ok (.iconst 5, 1) := by decide +kernel
theorem dX3_addTimes_4 : decode cX3_addTimes 4 = .ok (.if_icmp .ge 21, 3) := by decide +kernel
theorem dX3_addTimes_7 : decode cX3_addTimes 7 = .ok (.aload_n 0, 1) := by decide +kernel
theorem dX3_addTimes_8 : decode cX3_addTimes 8 = .ok (.iload_n 3, 1) := by decide +kernel
theorem dX3_addTimes_9 : decode cX3_addTimes 9 = .ok (.dup2, 1) := by decide +kernel
theorem dX3_addTimes_10 : decode cX3_addTimes 10 = .ok (.laload, 1) := by decide +kernel
theorem dX3_addTimes_11 : decode cX3_addTimes 11 = .ok (.iload_n 2, 1) := by decide +kernel
theorem dX3_addTimes_12 : decode cX3_addTimes 12 = .ok (.i2l, 1) := by decide +kernel
theorem dX3_addTimes_13 : decode cX3_addTimes 13 = .ok (.aload_n 1, 1) := by decide +kernel
theorem dX3_addTimes_14 : decode cX3_addTimes 14 = .ok (.iload_n 3, 1) := by decide +kernel
theorem dX3_addTimes_15 : decode cX3_addTimes 15 = .ok (.laload, 1) := by decide +kernel
theorem dX3_addTimes_16 : decode cX3_addTimes 16 = .ok (.lmul, 1) := by decide +kernel
theorem dX3_addTimes_17 : decode cX3_addTimes 17 = .ok (.ladd, 1) := by decide +kernel
theorem dX3_addTimes_18 : decode cX3_addTimes 18 = .ok (.lastore, 1) := by decide +kernel
theorem dX3_addTimes_19 : decode cX3_addTimes 19 = .ok (.iinc 3 1, 3) := by decide +kernel
theorem dX3_addTimes_22 : decode cX3_addTimes 22 = .ok (.goto (-20), 3) := by decide +kernel
theorem dX3_addTimes_25 : decode cX3_addTimes 25 = .ok (.return_, 1) := by decide +kernel
theorem dX3_readCharge_0 : decode cX3_readCharge 0 = .ok (.aload_n 0, 1) := by decide +kernel
theorem dX3_readCharge_1 : decode cX3_readCharge 1 = .ok (.getfield 21, 3) := by decide +kernel
theorem dX3_readCharge_4 : decode cX3_readCharge 4 = .ok (.invokevirtual 110, 3) := by decide +kernel
theorem dX3_readCharge_7 : decode cX3_readCharge 7 = .ok (.ifCond .ne 17, 3) := by decide +kernel
theorem dX3_readCharge_10 : decode cX3_readCharge 10 = .ok (.aload_n 0, 1) := by decide +kernel
theorem dX3_readCharge_11 : decode cX3_readCharge 11 = .ok (.bipush (-5), 2) := by decide +kernel
theorem dX3_readCharge_13 : decode cX3_readCharge 13 = .ok (.aload_n 0, 1) := by decide +kernel
theorem dX3_readCharge_14 : decode cX3_readCharge 14 = .ok (.getfield 12, 3) := by decide +kernel
theorem dX3_readCharge_17 : decode cX3_readCharge 17 = .ok (.getfield 51, 3) := by decide +kernel
theorem dX3_readCharge_20 : decode cX3_readCharge 20 = .ok (.invokevirtual 66, 3) := by decide +kernel
theorem dX3_readCharge_23 : decode cX3_readCharge 23 = .ok (.return_, 1) := by decide +kernel
theorem dX3_readCharge_24 : decode cX3_readCharge 24 = .ok (.aload_n 0, 1) := by decide +kernel
theorem dX3_readCharge_25 : decode cX3_readCharge 25 = .ok (.getfield 12, 3) := by decide +kernel
theorem dX3_readCharge_28 : decode cX3_readCharge 28 = .ok (.dup, 1) := by decide +kernel
theorem dX3_readCharge_29 : decode cX3_readCharge 29 = .ok (.getfield 51, 3) := by decide +kernel
theorem dX3_readCharge_32 : decode cX3_readCharge 32 = .ok (.iconst 1, 1) := by decide +kernel
theorem dX3_readCharge_33 : decode cX3_readCharge 33 = .ok (.iadd, 1) := by decide +kernel
theorem dX3_readCharge_34 : decode cX3_readCharge 34 = .ok (.putfield 51, 3) := by decide +kernel
theorem dX3_readCharge_37 : decode cX3_readCharge 37 = .ok (.aload_n 0, 1) := by decide +kernel
theorem dX3_readCharge_38 : decode cX3_readCharge 38 = .ok (.invokevirtual 113, 3) := by decide +kernel
theorem dX3_readCharge_41 : decode cX3_readCharge 41 = .ok (.istore_n 1, 1) := by decide +kernel
theorem dX3_readCharge_42 : decode cX3_readCharge 42 = .ok (.aload_n 0, 1) := by decide +kernel
theorem dX3_readCharge_43 : decode cX3_readCharge 43 = .ok (.getfield 25, 3) := by decide +kernel
theorem dX3_readCharge_46 : decode cX3_readCharge 46 = .ok (.ifCond .eq 4, 3) := by decide +kernel
theorem dX3_readCharge_49 : decode cX3_readCharge 49 = .ok (.return_, 1) := by decide +kernel
theorem dX3_readCharge_50 : decode cX3_readCharge 50 = .ok (.aload_n 0, 1) := by decide +kernel
theorem dX3_readCharge_51 : decode cX3_readCharge 51 = .ok (.getfield 12, 3) := by decide +kernel
theorem dX3_readCharge_54 : decode cX3_readCharge 54 = .ok (.invokevirtual 70, 3) := by decide +kernel
theorem dX3_readCharge_57 : decode cX3_readCharge 57 = .ok (.istore_n 2, 1) := by decide +kernel
theorem dX3_readCharge_58 : decode cX3_readCharge 58 = .ok (.iload_n 2, 1) := by decide +kernel
theorem dX3_readCharge_59 : decode cX3_readCharge 59 = .ok (.bipush 43, 2) := by decide +kernel
theorem dX3_readCharge_61 : decode cX3_readCharge 61 = .ok (.if_icmp .eq 23, 3) := by decide +kernel
theorem dX3_readCharge_64 : decode cX3_readCharge 64 = .ok (.iload_n 2, 1) := by decide +kernel
theorem dX3_readCharge_65 : decode cX3_readCharge 65 = .ok (.bipush 45, 2) := by decide +kernel
theorem dX3_readCharge_67 : decode cX3_readCharge 67 = .ok (.if_icmp .eq 17, 3) := by decide +kernel
theorem dX3_readCharge_70 : decode cX3_readCharge 70 = .ok (.aload_n 0, 1) := by decide +kernel
theorem dX3_readCharge_71 : decode cX3_readCharge 71 = .ok (.bipush (-2), 2) := by decide +kernel
theorem dX3_readCharge_73 : decode cX3_readCharge 73 = .ok (.aload_n 0, 1) := by decide +kernel
theorem dX3_readCharge_74 : decode cX3_readCharge 74 = .ok (.getfield 12, 3) := by decide +kernel
theorem dX3_readCharge_77 : decode cX3_readCharge 77 = .ok (.getfield 51, 3) := by decide +kernel
theorem dX3_readCharge_80 : decode cX3_readCharge 80 = .ok (.invokevirtual 66, 3) := by decide +kernel
theorem dX3_readCharge_83 : decode cX3_readCharge 83 = .ok (.return_, 1) := by decide +kernel
theorem dX3_readCharge_84 : decode cX3_readCharge 84 = .ok (.aload_n 0, 1) := by decide +kernel
theorem dX3_readCharge_85 : decode cX3_readCharge 85 = .ok (.iload_n 2, 1) := by decide +kernel
theorem dX3_readCharge_86 : decode cX3_readCharge 86 = .ok (.bipush 43, 2) := by decide +kernel
theorem dX3_readCharge_88 : decode cX3_readCharge 88 = .ok (.if_icmp .ne 7, 3) := by decide +kernel
theorem dX3_readCharge_91 : decode cX3_readCharge 91 = .ok (.iload_n 1, 1) := by decide +kernel
theorem dX3_readCharge_92 : decode cX3_readCharge 92 = .ok (.goto 5, 3) := by decide +kernel
theorem dX3_readCharge_95 : decode cX3_readCharge 95 = .ok (.iload_n 1, 1) := by decide +kernel
theorem dX3_readCharge_96 : decode cX3_readCharge 96 = .ok (.ineg, 1) := by decide +kernel
theorem dX3_readCharge_97 : decode cX3_readCharge 97 = .ok (.putfield 48, 3) := by decide +kernel
theorem dX3_readCharge_100 : decode cX3_readCharge 100 = .ok (.aload_n 0, 1) := by decide +kernel
theorem dX3_readCharge_101 : decode cX3_readCharge 101 = .ok (.getfield 12, 3) := by decide +kernel
theorem dX3_readCharge_104 : decode cX3_readCharge 104 = .ok (.dup, 1) := by decide +kernel
theorem dX3_readCharge_105 : decode cX3_readCharge 105 = .ok (.getfield 51, 3) := by decide +kernel
theorem dX3_readCharge_108 : decode cX3_readCharge 108 = .ok (.iconst 1, 1) := by decide +kernel
theorem dX3_readCharge_109 : decode cX3_readCharge 109 = .ok (.iadd, 1) := by decide +kernel
theorem dX3_readCharge_110 : decode cX3_readCharge 110 = .ok (.putfield 51, 3) := by decide +kernel
theorem dX3_readCharge_113 : decode cX3_readCharge 113 = .ok (.return_, 1) := by decide +kernel
theorem dX3_endFormula_0 : decode cX3_endFormula 0 = .ok (.aload_n 0, 1) := by decide +kernel
theorem dX3_endFormula_1 : decode cX3_endFormula 1 = .ok (.getfield 25, 3) := by decide +kernel
theorem dX3_endFormula_4 : decode cX3_endFormula 4 = .ok (.ifCond .ne 17, 3) := by decide +kernel
theorem dX3_endFormula_7 : decode cX3_endFormula 7 = .ok (.aload_n 0, 1) := by decide +kernel
theorem dX3_endFormula_8 : decode cX3_endFormula 8 = .ok (.invokevirtual 94, 3) := by decide +kernel
theorem dX3_endFormula_11 : decode cX3_endFormula 11 = .ok (.ifCond .eq 10, 3) := by decide +kernel
theorem dX3_endFormula_14 : decode cX3_endFormula 14 = .ok (.aload_n 0, 1) := by decide +kernel
theorem dX3_endFormula_15 : decode cX3_endFormula 15 = .ok (.bipush (-6), 2) := by decide +kernel
theorem dX3_endFormula_17 : decode cX3_endFormula 17 = .ok (.iload_n 1, 1) := by decide +kernel
theorem dX3_endFormula_18 : decode cX3_endFormula 18 = .ok (.invokevirtual 66, 3) := by decide +kernel
theorem dX3_endFormula_21 : decode cX3_endFormula 21 = .ok (.aload_n 0, 1) := by decide +kernel
theorem dX3_endFormula_22 : decode cX3_endFormula 22 = .ok (.getfield 25, 3) := by decide +kernel
theorem dX3_endFormula_25 : decode cX3_endFormula 25 = .ok (.ifCond .ne 26, 3) := by decide +kernel
theorem dX3_endFormula_28 : decode cX3_endFormula 28 = .ok (.aload_n 0, 1) := by decide +kernel
theorem dX3_endFormula_29 : decode cX3_endFormula 29 = .ok (.getfield 21, 3) := by decide +kernel
theorem dX3_endFormula_32 : decode cX3_endFormula 32 = .ok (.iload_n 1, 1) := by decide +kernel
theorem dX3_endFormula_33 : decode cX3_endFormula 33 = .ok (.aload_n 0, 1) := by decide +kernel
theorem dX3_endFormula_34 : decode cX3_endFormula 34 = .ok (.getfield 12, 3) := by decide +kernel
theorem dX3_endFormula_37 : decode cX3_endFormula 37 = .ok (.getfield 51, 3) := by decide +kernel
theorem dX3_endFormula_40 : decode cX3_endFormula 40 = .ok (.aload_n 0, 1) := by decide +kernel
theorem dX3_endFormula_41 : decode cX3_endFormula 41 = .ok (.getfield 44, 3) := by decide +kernel
theorem dX3_endFormula_44 : decode cX3_endFormula 44 = .ok (.aload_n 0, 1) := by decide +kernel
theorem dX3_endFormula_45 : decode cX3_endFormula 45 = .ok (.getfield 48, 3) := by decide +kernel
theorem dX3_endFormula_48 : decode cX3_endFormula 48 = .ok (.invokevirtual 97, 3) := by decide +kernel
theorem dX3_endFormula_51 : decode cX3_endFormula 51 = .ok (.return_, 1) := by decide +kernel
theorem dX3_isTooMuch_0 : decode cX3_isTooMuch 0 = .ok (.iconst 0, 1) := by decide +kernel
theorem dX3_isTooMuch_1 : decode cX3_isTooMuch 1 = .ok (.istore_n 1, 1) := by decide +kernel
theorem dX3_isTooMuch_2 : decode cX3_isTooMuch 2 = .ok (.iload_n 1, 1) := by decide +kernel
theorem dX3_isTooMuch_3 : decode cX3_isTooMuch 3 = .ok (.iconst 5, 1) := by decide +kernel
theorem dX3_isTooMuch_4 : decode cX3_isTooMuch 4 = .ok (.if_icmp .ge 24, 3) := by decide +kernel
theorem dX3_isTooMuch_7 : decode cX3_isTooMuch 7 = .ok (.aload_n 0, 1) := by decide +kernel
theorem dX3_isTooMuch_8 : decode cX3_isTooMuch 8 = .ok (.getfield 44, 3) := by decide +kernel
theorem dX3_isTooMuch_11 : decode cX3_isTooMuch 11 = .ok (.iload_n 1, 1) := by decide +kernel
theorem dX3_isTooMuch_12 : decode cX3_isTooMuch 12 = .ok (.laload, 1) := by decide +kernel
theorem dX3_isTooMuch_13 : decode cX3_isTooMuch 13 = .ok (.ldc2_w 101, 3) := by decide +kernel
theorem dX3_isTooMuch_16 : decode cX3_isTooMuch 16 = .ok (.lcmp, 1) := by decide +kernel
theorem dX3_isTooMuch_17 : decode cX3_isTooMuch 17 = .ok (.ifCond .le 5, 3) := by decide +kernel
theorem dX3_isTooMuch_20 : decode cX3_isTooMuch 20 = .ok (.iconst 1, 1) := by decide +kernel
theorem dX3_isTooMuch_21 : decode cX3_isTooMuch 21 = .ok (.ireturn, 1) := by decide +kernel
theorem dX3_isTooMuch_22 : decode cX3_isTooMuch 22 = .ok (.iinc 1 1, 3) := by decide +kernel
theorem dX3_isTooMuch_25 : decode cX3_isTooMuch 25 = .ok (.goto (-23), 3) := by decide +kernel
theorem dX3_isTooMuch_28 : decode cX3_isTooMuch 28 = .ok (.aload_n 0, 1) := by decide +kernel
theorem dX3_isTooMuch_29 : decode cX3_isTooMuch 29 = .ok (.getfield 48, 3) := by decide +kernel
theorem dX3_isTooMuch_32 : decode cX3_isTooMuch 32 = .ok (.bipush 40, 2) := by decide +kernel
theorem dX3_isTooMuch_34 : decode cX3_isTooMuch 34 = .ok (.if_icmp .gt 12, 3) := by decide +kernel
theorem dX3_isTooMuch_37 : decode cX3_isTooMuch 37 = .ok (.aload_n 0, 1) := by decide +kernel
theorem dX3_isTooMuch_38 : decode cX3_isTooMuch 38 = .ok (.getfield 48, 3) := by decide +kernel
theorem dX3_isTooMuch_41 : decode cX3_isTooMuch 41 = .ok (.bipush (-40), 2) := by decide +kernel
theorem dX3_isTooMuch_43 : decode cX3_isTooMuch 43 = .ok (.if_icmp .ge 7, 3) := by decide +kernel
theorem dX3_isTooMuch_46 : decode cX3_isTooMuch 46 = .ok (.iconst 1, 1) := by decide +kernel
theorem dX3_isTooMuch_47 : decode cX3_isTooMuch 47 = .ok (.goto 4, 3) := by decide +kernel
theorem dX3_isTooMuch_50 : decode cX3_isTooMuch 50 = .ok (.iconst 0, 1) := by decide +kernel
theorem dX3_isTooMuch_51 : decode cX3_isTooMuch 51 = .ok (.ireturn, 1) := by decide +kernel
theorem dX3_readSign_0 : decode cX3_readSign 0 = .ok (.aload_n 0, 1) := by decide +kernel
theorem dX3_readSign_1 : decode cX3_readSign 1 = .ok (.getfield 12, 3) := by decide +kernel
theorem dX3_readSign_4 : decode cX3_readSign 4 = .ok (.invokevirtual 57, 3) := by decide +kernel
theorem dX3_readSign_7 : decode cX3_readSign 7 = .ok (.aload_n 0, 1) := by decide +kernel
theorem dX3_readSign_8 : decode cX3_readSign 8 = .ok (.getfield 12, 3) := by decide +kernel
theorem dX3_readSign_11 : decode cX3_readSign 11 = .ok (.invokevirtual 70, 3) := by decide +kernel
theorem dX3_readSign_14 : decode cX3_readSign 14 = .ok (.istore_n 1, 1) := by decide +kernel
theorem dX3_readSign_15 : decode cX3_readSign 15 = .ok (.aload_n 0, 1) := by decide +kernel
theorem dX3_readSign_16 : decode cX3_readSign 16 = .ok (.getfield 21, 3) := by decide +kernel
theorem dX3_readSign_19 : decode cX3_readSign 19 = .ok (.getfield 103, 3) := by decide +kernel
theorem dX3_readSign_22 : decode cX3_readSign 22 = .ok (.ifCond .le 7, 3) := by decide +kernel
theorem dX3_readSign_25 : decode cX3_readSign 25 = .ok (.iconst 1, 1) := by decide +kernel
theorem dX3_readSign_26 : decode cX3_readSign 26 = .ok (.goto 4, 3) := by decide +kernel
theorem dX3_readSign_29 : decode cX3_readSign 29 = .ok (.iconst 0, 1) := by decide +kernel
theorem dX3_readSign_30 : decode cX3_readSign 30 = .ok (.istore_n 2, 1) := by decide +kernel
theorem dX3_readSign_31 : decode cX3_readSign 31 = .ok (.iload_n 1, 1) := by decide +kernel
theorem dX3_readSign_32 : decode cX3_readSign 32 = .ok (.ifCond .ne 9, 3) := by decide +kernel
theorem dX3_readSign_35 : decode cX3_readSign 35 = .ok (.iload_n 2, 1) := by decide +kernel
theorem dX3_readSign_36 : decode cX3_readSign 36 = .ok (.ifCond .eq 5, 3) := by decide +kernel
theorem dX3_readSign_39 : decode cX3_readSign 39 = .ok (.iconst 0, 1) := by decide +kernel
theorem dX3_readSign_40 : decode cX3_readSign 40 = .ok (.ireturn, 1) := by decide +kernel
theorem dX3_readSign_41 : decode cX3_readSign 41 = .ok (.iload_n 1, 1) := by decide +kernel
theorem dX3_readSign_42 : decode cX3_readSign 42 = .ok (.bipush 61, 2) := by decide +kernel
theorem dX3_readSign_44 : decode cX3_readSign 44 = .ok (.if_icmp .ne 24, 3) := by decide +kernel
theorem dX3_readSign_47 : decode cX3_readSign 47 = .ok (.iload_n 2, 1) := by decide +kernel
theorem dX3_readSign_48 : decode cX3_readSign 48 = .ok (.ifCond .ne 20, 3) := by decide +kernel
theorem dX3_readSign_51 : decode cX3_readSign 51 = .ok (.aload_n 0, 1) := by decide +kernel
theorem dX3_readSign_52 : decode cX3_readSign 52 = .ok (.getfield 21, 3) := by decide +kernel
theorem dX3_readSign_55 : decode cX3_readSign 55 = .ok (.aload_n 0, 1) := by decide +kernel
theorem dX3_readSign_56 : decode cX3_readSign 56 = .ok (.getfield 21, 3) := by decide +kernel
theorem dX3_readSign_59 : decode cX3_readSign 59 = .ok (.getfield 63, 3) := by decide +kernel
theorem dX3_readSign_62 : decode cX3_readSign 62 = .ok (.putfield 103, 3) := by decide +kernel
theorem dX3_readSign_65 : decode cX3_readSign 65 = .ok (.goto 24, 3) := by decide +kernel
theorem dX3_readSign_68 : decode cX3_readSign 68 = .ok (.iload_n 1, 1) := by decide +kernel
theorem dX3_readSign_69 : decode cX3_readSign 69 = .ok (.bipush 43, 2) := by decide +kernel
theorem dX3_readSign_71 : decode cX3_readSign 71 = .ok (.if_icmp .eq 18, 3) := by decide +kernel
theorem dX3_readSign_74 : decode cX3_readSign 74 = .ok (.aload_n 0, 1) := by decide +kernel
theorem dX3_readSign_75 : decode cX3_readSign 75 = .ok (.bipush (-2), 2) := by decide +kernel
theorem dX3_readSign_77 : decode cX3_readSign 77 = .ok (.aload_n 0, 1) := by decide +kernel
theorem dX3_readSign_78 : decode cX3_readSign 78 = .ok (.getfield 12, 3) := by decide +kernel
theorem dX3_readSign_81 : decode cX3_readSign 81 = .ok (.getfield 51, 3) := by decide +kernel
theorem dX3_readSign_84 : decode cX3_readSign 84 = .ok (.invokevirtual 66, 3) := by decide +kernel
theorem dX3_readSign_87 : decode cX3_readSign 87 = .ok (.iconst 0, 1) := by decide +kernel
theorem dX3_readSign_88 : decode cX3_readSign 88 = .ok (.ireturn, 1) := by decide +kernel
theorem dX3_readSign_89 : decode cX3_readSign 89 = .ok (.aload_n 0, 1) := by decide +kernel
theorem dX3_readSign_90 : decode cX3_readSign 90 = .ok (.getfield 12, 3) := by decide +kernel
theorem dX3_readSign_93 : decode cX3_readSign 93 = .ok (.dup, 1) := by decide +kernel
theorem dX3_readSign_94 : decode cX3_readSign 94 = .ok (.getfield 51, 3) := by decide +kernel
theorem dX3_readSign_97 : decode cX3_readSign 97 = .ok (.iconst 1, 1) := by decide +kernel
theorem dX3_readSign_98 : decode cX3_readSign 98 = .ok (.iadd, 1) := by decide +kernel
theorem dX3_readSign_99 : decode cX3_readSign 99 = .ok (.putfield 51, 3) := by decide +kernel
theorem dX3_readSign_102 : decode cX3_readSign 102 = .ok (.iconst 1, 1) := by decide +kernel
theorem dX3_readSign_103 : decode cX3_readSign 103 = .ok (.ireturn, 1) := by decide +kernel
