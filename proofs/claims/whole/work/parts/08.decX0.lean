theorem dX0_solve_0 : decode cX0_solve 0 = .ok (.aload_n 0, 1) := by decide +kernel
theorem dX0_solve_1 : decode cX0_solve 1 = .ok (.aload_n 1, 1) := by decide +kernel
theorem dX0_solve_2 : decode cX0_solve 2 = .ok (.invokevirtual 47, 3) := by decide +kernel
theorem dX0_solve_5 : decode cX0_solve 5 = .ok (.aload_n 0, 1) := by decide +kernel
theorem dX0_solve_6 : decode cX0_solve 6 = .ok (.invokevirtual 51, 3) := by decide +kernel
theorem dX0_solve_9 : decode cX0_solve 9 = .ok (.aload_n 0, 1) := by decide +kernel
theorem dX0_solve_10 : decode cX0_solve 10 = .ok (.iconst 0, 1) := by decide +kernel
theorem dX0_solve_11 : decode cX0_solve 11 = .ok (.putfield 20, 3) := by decide +kernel
theorem dX0_solve_14 : decode cX0_solve 14 = .ok (.iconst 0, 1) := by decide +kernel
theorem dX0_solve_15 : decode cX0_solve 15 = .ok (.istore_n 2, 1) := by decide +kernel
theorem dX0_solve_16 : decode cX0_solve 16 = .ok (.iload_n 2, 1) := by decide +kernel
theorem dX0_solve_17 : decode cX0_solve 17 = .ok (.aload_n 0, 1) := by decide +kernel
theorem dX0_solve_18 : decode cX0_solve 18 = .ok (.getfield 40, 3) := by decide +kernel
theorem dX0_solve_21 : decode cX0_solve 21 = .ok (.if_icmp .ge 42, 3) := by decide +kernel
theorem dX0_solve_24 : decode cX0_solve 24 = .ok (.aload_n 0, 1) := by decide +kernel
theorem dX0_solve_25 : decode cX0_solve 25 = .ok (.getfield 9, 3) := by decide +kernel
theorem dX0_solve_28 : decode cX0_solve 28 = .ok (.iload_n 2, 1) := by decide +kernel
theorem dX0_solve_29 : decode cX0_solve 29 = .ok (.baload, 1) := by decide +kernel
theorem dX0_solve_30 : decode cX0_solve 30 = .ok (.ifCond .eq 27, 3) := by decide +kernel
theorem dX0_solve_33 : decode cX0_solve 33 = .ok (.aload_n 0, 1) := by decide +kernel
theorem dX0_solve_34 : decode cX0_solve 34 = .ok (.aload_n 0, 1) := by decide +kernel
theorem dX0_solve_35 : decode cX0_solve 35 = .ok (.getfield 17, 3) := by decide +kernel
theorem dX0_solve_38 : decode cX0_solve 38 = .ok (.aload_n 0, 1) := by decide +kernel
theorem dX0_solve_39 : decode cX0_solve 39 = .ok (.getfield 20, 3) := by decide +kernel
theorem dX0_solve_42 : decode cX0_solve 42 = .ok (.aaload, 1) := by decide +kernel
theorem dX0_solve_43 : decode cX0_solve 43 = .ok (.iload_n 2, 1) := by decide +kernel
theorem dX0_solve_44 : decode cX0_solve 44 = .ok (.invokevirtual 54, 3) := by decide +kernel
theorem dX0_solve_47 : decode cX0_solve 47 = .ok (.aload_n 0, 1) := by decide +kernel
theorem dX0_solve_48 : decode cX0_solve 48 = .ok (.dup, 1) := by decide +kernel
theorem dX0_solve_49 : decode cX0_solve 49 = .ok (.getfield 20, 3) := by decide +kernel
theorem dX0_solve_52 : decode cX0_solve 52 = .ok (.iconst 1, 1) := by decide +kernel
theorem dX0_solve_53 : decode cX0_solve 53 = .ok (.iadd, 1) := by decide +kernel
theorem dX0_solve_54 : decode cX0_solve 54 = .ok (.putfield 20, 3) := by decide +kernel
theorem dX0_solve_57 : decode cX0_solve 57 = .ok (.iinc 2 1, 3) := by decide +kernel
theorem dX0_solve_60 : decode cX0_solve 60 = .ok (.goto (-44), 3) := by decide +kernel
theorem dX0_solve_63 : decode cX0_solve 63 = .ok (.aload_n 0, 1) := by decide +kernel
theorem dX0_solve_64 : decode cX0_solve 64 = .ok (.aload_n 0, 1) := by decide +kernel
theorem dX0_solve_65 : decode cX0_solve 65 = .ok (.invokevirtual 58, 3) := by decide +kernel
theorem dX0_solve_68 : decode cX0_solve 68 = .ok (.putfield 24, 3) := by decide +kernel
theorem dX0_solve_71 : decode cX0_solve 71 = .ok (.return_, 1) := by decide +kernel
theorem dX0_takeRows_0 : decode cX0_takeRows 0 = .ok (.aload_n 0, 1) := by decide +kernel
theorem dX0_takeRows_1 : decode cX0_takeRows 1 = .ok (.aload_n 1, 1) := by decide +kernel
theorem dX0_takeRows_2 : decode cX0_takeRows 2 = .ok (.invokevirtual 62, 3) := by decide +kernel
theorem dX0_takeRows_5 : decode cX0_takeRows 5 = .ok (.putfield 37, 3) := by decide +kernel
theorem dX0_takeRows_8 : decode cX0_takeRows 8 = .ok (.aload_n 0, 1) := by decide +kernel
theorem dX0_takeRows_9 : decode cX0_takeRows 9 = .ok (.aload_n 1, 1) := by decide +kernel
theorem dX0_takeRows_10 : decode cX0_takeRows 10 = .ok (.getfield 67, 3) := by decide +kernel
theorem dX0_takeRows_13 : decode cX0_takeRows 13 = .ok (.putfield 40, 3) := by decide +kernel
theorem dX0_takeRows_16 : decode cX0_takeRows 16 = .ok (.iconst 0, 1) := by decide +kernel
theorem dX0_takeRows_17 : decode cX0_takeRows 17 = .ok (.istore_n 2, 1) := by decide +kernel
theorem dX0_takeRows_18 : decode cX0_takeRows 18 = .ok (.iload_n 2, 1) := by decide +kernel
theorem dX0_takeRows_19 : decode cX0_takeRows 19 = .ok (.aload_n 0, 1) := by decide +kernel
theorem dX0_takeRows_20 : decode cX0_takeRows 20 = .ok (.getfield 37, 3) := by decide +kernel
theorem dX0_takeRows_23 : decode cX0_takeRows 23 = .ok (.if_icmp .ge 40, 3) := by decide +kernel
theorem dX0_takeRows_26 : decode cX0_takeRows 26 = .ok (.iconst 0, 1) := by decide +kernel
theorem dX0_takeRows_27 : decode cX0_takeRows 27 = .ok (.istore_n 3, 1) := by decide +kernel
theorem dX0_takeRows_28 : decode cX0_takeRows 28 = .ok (.iload_n 3, 1) := by decide +kernel
theorem dX0_takeRows_29 : decode cX0_takeRows 29 = .ok (.aload_n 0, 1) := by decide +kernel
theorem dX0_takeRows_30 : decode cX0_takeRows 30 = .ok (.getfield 40, 3) := by decide +kernel
theorem dX0_takeRows_33 : decode cX0_takeRows 33 = .ok (.if_icmp .ge 24, 3) := by decide +kernel
theorem dX0_takeRows_36 : decode cX0_takeRows 36 = .ok (.aload_n 0, 1) := by decide +kernel
theorem dX0_takeRows_37 : decode cX0_takeRows 37 = .ok (.getfield 27, 3) := by decide +kernel
theorem dX0_takeRows_40 : decode cX0_takeRows 40 = .ok (.iload_n 2, 1) := by decide +kernel
theorem dX0_takeRows_41 : decode cX0_takeRows 41 = .ok (.aaload, 1) := by decide +kernel
theorem dX0_takeRows_42 : decode cX0_takeRows 42 = .ok (.iload_n 3, 1) := by decide +kernel
theorem dX0_takeRows_43 : decode cX0_takeRows 43 = .ok (.aload_n 1, 1) := by decide +kernel
theorem dX0_takeRows_44 : decode cX0_takeRows 44 = .ok (.iload_n 3, 1) := by decide +kernel
theorem dX0_takeRows_45 : decode cX0_takeRows 45 = .ok (.iload_n 2, 1) := by decide +kernel
theorem dX0_takeRows_46 : decode cX0_takeRows 46 = .ok (.lconst 1, 1) := by decide +kernel
theorem dX0_takeRows_47 : decode cX0_takeRows 47 = .ok (.invokevirtual 70, 3) := by decide +kernel
theorem dX0_takeRows_50 : decode cX0_takeRows 50 = .ok (.lastore, 1) := by decide +kernel
theorem dX0_takeRows_51 : decode cX0_takeRows 51 = .ok (.iinc 3 1, 3) := by decide +kernel
theorem dX0_takeRows_54 : decode cX0_takeRows 54 = .ok (.goto (-26), 3) := by decide +kernel
theorem dX0_takeRows_57 : decode cX0_takeRows 57 = .ok (.iinc 2 1, 3) := by decide +kernel
theorem dX0_takeRows_60 : decode cX0_takeRows 60 = .ok (.goto (-42), 3) := by decide +kernel
theorem dX0_takeRows_63 : decode cX0_takeRows 63 = .ok (.return_, 1) := by decide +kernel
theorem dX0_reduce_0 : decode cX0_reduce 0 = .ok (.aload_n 0, 1) := by decide +kernel
theorem dX0_reduce_1 : decode cX0_reduce 1 = .ok (.iconst 0, 1) := by decide +kernel
theorem dX0_reduce_2 : decode cX0_reduce 2 = .ok (.putfield 34, 3) := by decide +kernel
theorem dX0_reduce_5 : decode cX0_reduce 5 = .ok (.aload_n 0, 1) := by decide +kernel
theorem dX0_reduce_6 : decode cX0_reduce 6 = .ok (.lconst 1, 1) := by decide +kernel
theorem dX0_reduce_7 : decode cX0_reduce 7 = .ok (.putfield 43, 3) := by decide +kernel
theorem dX0_reduce_10 : decode cX0_reduce 10 = .ok (.iconst 0, 1) := by decide +kernel
theorem dX0_reduce_11 : decode cX0_reduce 11 = .ok (.istore_n 1, 1) := by decide +kernel
theorem dX0_reduce_12 : decode cX0_reduce 12 = .ok (.iload_n 1, 1) := by decide +kernel
theorem dX0_reduce_13 : decode cX0_reduce 13 = .ok (.aload_n 0, 1) := by decide +kernel
theorem dX0_reduce_14 : decode cX0_reduce 14 = .ok (.getfield 40, 3) := by decide +kernel
theorem dX0_reduce_17 : decode cX0_reduce 17 = .ok (.if_icmp .ge 70, 3) := by decide +kernel
theorem dX0_reduce_20 : decode cX0_reduce 20 = .ok (.aload_n 0, 1) := by decide +kernel
theorem dX0_reduce_21 : decode cX0_reduce 21 = .ok (.iload_n 1, 1) := by decide +kernel
theorem dX0_reduce_22 : decode cX0_reduce 22 = .ok (.invokevirtual 74, 3) := by decide +kernel
theorem dX0_reduce_25 : decode cX0_reduce 25 = .ok (.istore_n 2, 1) := by decide +kernel
theorem dX0_reduce_26 : decode cX0_reduce 26 = .ok (.aload_n 0, 1) := by decide +kernel
theorem dX0_reduce_27 : decode cX0_reduce 27 = .ok (.getfield 9, 3) := by decide +kernel
theorem dX0_reduce_30 : decode cX0_reduce 30 = .ok (.iload_n 1, 1) := by decide +kernel
theorem dX0_reduce_31 : decode cX0_reduce 31 = .ok (.iload_n 2, 1) := by decide +kernel
theorem dX0_reduce_32 : decode cX0_reduce 32 = .ok (.iconst (-1), 1) := by decide +kernel
theorem dX0_reduce_33 : decode cX0_reduce 33 = .ok (.if_icmp .ne 7, 3) := by decide +kernel
theorem dX0_reduce_36 : decode cX0_reduce 36 = .ok (.iconst 1, 1) := by decide +kernel
theorem dX0_reduce_37 : decode cX0_reduce 37 = .ok (.goto 4, 3) := by decide +kernel
theorem dX0_reduce_40 : decode cX0_reduce 40 = .ok (.iconst 0, 1) := by decide +kernel
theorem dX0_reduce_41 : decode cX0_reduce 41 = .ok (.bastore, 1) := by decide +kernel
theorem dX0_reduce_42 : decode cX0_reduce 42 = .ok (.iload_n 2, 1) := by decide +kernel
theorem dX0_reduce_43 : decode cX0_reduce 43 = .ok (.iconst (-1), 1) := by decide +kernel
theorem dX0_reduce_44 : decode cX0_reduce 44 = .ok (.if_icmp .eq 37, 3) := by decide +kernel
theorem dX0_reduce_47 : decode cX0_reduce 47 = .ok (.aload_n 0, 1) := by decide +kernel
theorem dX0_reduce_48 : decode cX0_reduce 48 = .ok (.aload_n 0, 1) := by decide +kernel
theorem dX0_reduce_49 : decode cX0_reduce 49 = .ok (.getfield 34, 3) := by decide +kernel
theorem dX0_reduce_52 : decode cX0_reduce 52 = .ok (.iload_n 2, 1) := by decide +kernel
theorem dX0_reduce_53 : decode cX0_reduce 53 = .ok (.invokevirtual 78, 3) := by decide +kernel
theorem dX0_reduce_56 : decode cX0_reduce 56 = .ok (.aload_n 0, 1) := by decide +kernel
theorem dX0_reduce_57 : decode cX0_reduce 57 = .ok (.iload_n 1, 1) := by decide +kernel
theorem dX0_reduce_58 : decode cX0_reduce 58 = .ok (.invokevirtual 82, 3) := by decide +kernel
theorem dX0_reduce_61 : decode cX0_reduce 61 = .ok (.aload_n 0, 1) := by decide +kernel
theorem dX0_reduce_62 : decode cX0_reduce 62 = .ok (.getfield 30, 3) := by decide +kernel
theorem dX0_reduce_65 : decode cX0_reduce 65 = .ok (.aload_n 0, 1) := by decide +kernel
theorem dX0_reduce_66 : decode cX0_reduce 66 = .ok (.getfield 34, 3) := by decide +kernel
theorem dX0_reduce_69 : decode cX0_reduce 69 = .ok (.iload_n 1, 1) := by decide +kernel
theorem dX0_reduce_70 : decode cX0_reduce 70 = .ok (.iastore, 1) := by decide +kernel
theorem dX0_reduce_71 : decode cX0_reduce 71 = .ok (.aload_n 0, 1) := by decide +kernel
theorem dX0_reduce_72 : decode cX0_reduce 72 = .ok (.dup, 1) := by decide +kernel
theorem dX0_reduce_73 : decode cX0_reduce 73 = .ok (.getfield 34, 3) := by decide +kernel
theorem dX0_reduce_76 : decode cX0_reduce 76 = .ok (.iconst 1, 1) := by decide +kernel
theorem dX0_reduce_77 : decode cX0_reduce 77 = .ok (.iadd, 1) := by decide +kernel
theorem dX0_reduce_78 : decode cX0_reduce 78 = .ok (.putfield 34, 3) := by decide +kernel
theorem dX0_reduce_81 : decode cX0_reduce 81 = .ok (.iinc 1 1, 3) := by decide +kernel
theorem dX0_reduce_84 : decode cX0_reduce 84 = .ok (.goto (-72), 3) := by decide +kernel
theorem dX0_reduce_87 : decode cX0_reduce 87 = .ok (.return_, 1) := by decide +kernel
theorem dX0_pivotRow_0 : decode cX0_pivotRow 0 = .ok (.aload_n 0, 1) := by decide +kernel
theorem dX0_pivotRow_1 : decode cX0_pivotRow 1 = .ok (.getfield 34, 3) := by decide +kernel
theorem dX0_pivotRow_4 : decode cX0_pivotRow 4 = .ok (.istore_n 2, 1) := by decide +kernel
theorem dX0_pivotRow_5 : decode cX0_pivotRow 5 = .ok (.iload_n 2, 1) := by decide +kernel
theorem dX0_pivotRow_6 : decode cX0_pivotRow 6 = .ok (.aload_n 0, 1) := by decide +kernel
theorem dX0_pivotRow_7 : decode cX0_pivotRow 7 = .ok (.getfield 37, 3) := by decide +kernel
theorem dX0_pivotRow_10 : decode cX0_pivotRow 10 = .ok (.if_icmp .ge 24, 3) := by decide +kernel
theorem dX0_pivotRow_13 : decode cX0_pivotRow 13 = .ok (.aload_n 0, 1) := by decide +kernel
theorem dX0_pivotRow_14 : decode cX0_pivotRow 14 = .ok (.getfield 27, 3) := by decide +kernel
theorem dX0_pivotRow_17 : decode cX0_pivotRow 17 = .ok (.iload_n 2, 1) := by decide +kernel
theorem dX0_pivotRow_18 : decode cX0_pivotRow 18 = .ok (.aaload, 1) := by decide +kernel
theorem dX0_pivotRow_19 : decode cX0_pivotRow 19 = .ok (.iload_n 1, 1) := by decide +kernel
theorem dX0_pivotRow_20 : decode cX0_pivotRow 20 = .ok (.laload, 1) := by decide +kernel
theorem dX0_pivotRow_21 : decode cX0_pivotRow 21 = .ok (.lconst 0, 1) := by decide +kernel
theorem dX0_pivotRow_22 : decode cX0_pivotRow 22 = .ok (.lcmp, 1) := by decide +kernel
theorem dX0_pivotRow_23 : decode cX0_pivotRow 23 = .ok (.ifCond .eq 5, 3) := by decide +kernel
theorem dX0_pivotRow_26 : decode cX0_pivotRow 26 = .ok (.iload_n 2, 1) := by decide +kernel
theorem dX0_pivotRow_27 : decode cX0_pivotRow 27 = .ok (.ireturn, 1) := by decide +kernel
theorem dX0_pivotRow_28 : decode cX0_pivotRow 28 = .ok (.iinc 2 1, 3) := by decide +kernel
theorem dX0_pivotRow_31 : decode cX0_pivotRow 31 = .ok (.goto (-26), 3) := by decide +kernel
theorem dX0_pivotRow_34 : decode cX0_pivotRow 34 = .ok (.iconst (-1), 1) := by decide +kernel
theorem dX0_pivotRow_35 : decode cX0_pivotRow 35 = .ok (.ireturn, 1) := by decide +kernel
theorem dX0_swapRows_0 : decode cX0_swapRows 0 = .ok (.iconst 0, 1) := by decide +kernel
theorem dX0_swapRows_1 : decode cX0_swapRows 1 = .ok (.istore_n 3, 1) := by decide +kernel
theorem dX0_swapRows_2 : decode cX0_swapRows 2 = .ok (.iload_n 3, 1) := by decide +kernel
theorem dX0_swapRows_3 : decode cX0_swapRows 3 = .ok (.aload_n 0, 1) := by decide +kernel
theorem dX0_swapRows_4 : decode cX0_swapRows 4 = .ok (.getfield 40, 3) := by decide +kernel
theorem dX0_swapRows_7 : decode cX0_swapRows 7 = .ok (.if_icmp .ge 45, 3) := by decide +kernel
theorem dX0_swapRows_10 : decode cX0_swapRows 10 = .ok (.aload_n 0, 1) := by decide +kernel
theorem dX0_swapRows_11 : decode cX0_swapRows 11 = .ok (.getfield 27, 3) := by decide +kernel
theorem dX0_swapRows_14 : decode cX0_swapRows 14 = .ok (.iload_n 1, 1) := by decide +kernel
theorem dX0_swapRows_15 : decode cX0_swapRows 15 = .ok (.aaload, 1) := by decide +kernel
theorem dX0_swapRows_16 : decode cX0_swapRows 16 = .ok (.iload_n 3, 1) := by decide +kernel
theorem dX0_swapRows_17 : decode cX0_swapRows 17 = .ok (.laload, 1) := by decide +kernel
theorem dX0_swapRows_18 : decode cX0_swapRows 18 = .ok (.lstore 4, 2) := by decide +kernel
theorem dX0_swapRows_20 : decode cX0_swapRows 20 = .ok (.aload_n 0, 1) := by decide +kernel
theorem dX0_swapRows_21 : decode cX0_swapRows 21 = .ok (.getfield 27, 3) := by decide +kernel
theorem dX0_swapRows_24 : decode cX0_swapRows 24 = .ok (.iload_n 1, 1) := by decide +kernel
theorem dX0_swapRows_25 : decode cX0_swapRows 25 = .ok (.aaload, 1) := by decide +kernel
theorem dX0_swapRows_26 : decode cX0_swapRows 26 = .ok (.iload_n 3, 1) := by decide +kernel
theorem dX0_swapRows_27 : decode cX0_swapRows 27 = .ok (.aload_n 0, 1) := by decide +kernel
theorem dX0_swapRows_28 : decode cX0_swapRows 28 = .ok (.getfield 27, 3) := by decide +kernel
theorem dX0_swapRows_31 : decode cX0_swapRows 31 = .ok (.iload_n 2, 1) := by decide +kernel
theorem dX0_swapRows_32 : decode cX0_swapRows 32 = .ok (.aaload, 1) := by decide +kernel
theorem dX0_swapRows_33 : decode cX0_swapRows 33 = .ok (.iload_n 3, 1) := by decide +kernel
theorem dX0_swapRows_34 : decode cX0_swapRows 34 = .ok (.laload, 1) := by decide +kernel
theorem dX0_swapRows_35 : decode cX0_swapRows 35 = .ok (.lastore, 1) := by decide +kernel
theorem dX0_swapRows_36 : decode cX0_swapRows 36 = .ok (.aload_n 0, 1) := by decide +kernel
theorem dX0_swapRows_37 : decode cX0_swapRows 37 = .ok (.getfield 27, 3) := by decide +kernel
theorem dX0_swapRows_40 : decode cX0_swapRows 40 = .ok (.iload_n 2, 1) := by decide +kernel
theorem dX0_swapRows_41 : decode cX0_swapRows 41 = .ok (.aaload, 1) := by decide +kernel
theorem dX0_swapRows_42 : decode cX0_swapRows 42 = .ok (.iload_n 3, 1) := by decide +kernel
theorem dX0_swapRows_43 : decode cX0_swapRows 43 = .ok (.lload 4, 2) := by decide +kernel
theorem dX0_swapRows_45 : decode cX0_swapRows 45 = .ok (.lastore, 1) := by decide +kernel
theorem dX0_swapRows_46 : decode cX0_swapRows 46 = .ok (.iinc 3 1, 3) := by decide +kernel
theorem dX0_swapRows_49 : decode cX0_swapRows 49 = .ok (.goto (-47), 3) := by decide +kernel
theorem dX0_swapRows_52 : decode cX0_swapRows 52 = .ok (.return_, 1) := by decide +kernel
theorem dX0_clearColumn_0 : decode cX0_clearColumn 0 = .ok (.aload_n 0, 1) := by decide +kernel
theorem dX0_clearColumn_1 : decode cX0_clearColumn 1 = .ok (.getfield 43, 3) := by decide +kernel
theorem dX0_clearColumn_4 : decode cX0_clearColumn 4 = .ok (.lstore_n 2, 1) := by decide +kernel
theorem dX0_clearColumn_5 : decode cX0_clearColumn 5 = .ok (.aload_n 0, 1) := by decide +kernel
theorem dX0_clearColumn_6 : decode cX0_clearColumn 6 = .ok (.aload_n 0, 1) := by decide +kernel
theorem dX0_clearColumn_7 : decode cX0_clearColumn 7 = .ok (.getfield 27, 3) := by decide +kernel
theorem dX0_clearColumn_10 : decode cX0_clearColumn 10 = .ok (.aload_n 0, 1) := by decide +kernel
theorem dX0_clearColumn_11 : decode cX0_clearColumn 11 = .ok (.getfield 34, 3) := by decide +kernel
theorem dX0_clearColumn_14 : decode cX0_clearColumn 14 = .ok (.aaload, 1) := by decide +kernel
theorem dX0_clearColumn_15 : decode cX0_clearColumn 15 = .ok (.iload_n 1, 1) := by decide +kernel
theorem dX0_clearColumn_16 : decode cX0_clearColumn 16 = .ok (.laload, 1) := by decide +kernel
theorem dX0_clearColumn_17 : decode cX0_clearColumn 17 = .ok (.putfield 43, 3) := by decide +kernel
theorem dX0_clearColumn_20 : decode cX0_clearColumn 20 = .ok (.iconst 0, 1) := by decide +kernel
theorem dX0_clearColumn_21 : decode cX0_clearColumn 21 = .ok (.istore 4, 2) := by decide +kernel
theorem dX0_clearColumn_23 : decode cX0_clearColumn 23 = .ok (.iload 4, 2) := by decide +kernel
theorem dX0_clearColumn_25 : decode cX0_clearColumn 25 = .ok (.aload_n 0, 1) := by decide +kernel
theorem dX0_clearColumn_26 : decode cX0_clearColumn 26 = .ok (.getfield 37, 3) := by decide +kernel
theorem dX0_clearColumn_29 : decode cX0_clearColumn 29 = .ok (.if_icmp .ge 92, 3) := by decide +kernel
theorem dX0_clearColumn_32 : decode cX0_clearColumn 32 = .ok (.aload_n 0, 1) := by decide +kernel
theorem dX0_clearColumn_33 : decode cX0_clearColumn 33 = .ok (.getfield 27, 3) := by decide +kernel
theorem dX0_clearColumn_36 : decode cX0_clearColumn 36 = .ok (.iload 4, 2) := by decide +kernel
theorem dX0_clearColumn_38 : decode cX0_clearColumn 38 = .ok (.aaload, 1) := by decide +kernel
theorem dX0_clearColumn_39 : decode cX0_clearColumn 39 = .ok (.iload_n 1, 1) := by decide +kernel
theorem dX0_clearColumn_40 : decode cX0_clearColumn 40 = .ok (.laload, 1) := by decide +kernel
theorem dX0_clearColumn_41 : decode cX0_clearColumn 41 = .ok (.lstore 5, 2) := by decide +kernel
theorem dX0_clearColumn_43 : decode cX0_clearColumn 43 = .ok (.iconst 0, 1) := by decide +kernel
theorem dX0_clearColumn_44 : decode cX0_clearColumn 44 = .ok (.istore 7, 2) := by decide +kernel
theorem dX0_clearColumn_46 : decode cX0_clearColumn 46 = .ok (.iload 7, 2) := by decide +kernel
theorem dX0_clearColumn_48 : decode cX0_clearColumn 48 = .ok (.aload_n 0, 1) := by decide +kernel
theorem dX0_clearColumn_49 : decode cX0_clearColumn 49 = .ok (.getfield 40, 3) := by decide +kernel
theorem dX0_clearColumn_52 : decode cX0_clearColumn 52 = .ok (.if_icmp .ge 63, 3) := by decide +kernel
theorem dX0_clearColumn_55 : decode cX0_clearColumn 55 = .ok (.iload 4, 2) := by decide +kernel
theorem dX0_clearColumn_57 : decode cX0_clearColumn 57 = .ok (.aload_n 0, 1) := by decide +kernel
theorem dX0_clearColumn_58 : decode cX0_clearColumn 58 = .ok (.getfield 34, 3) := by decide +kernel
theorem dX0_clearColumn_61 : decode cX0_clearColumn 61 = .ok (.if_icmp .eq 54, 3) := by decide +kernel
theorem dX0_clearColumn_64 : decode cX0_clearColumn 64 = .ok (.aload_n 0, 1) := by decide +kernel
theorem dX0_clearColumn_65 : decode cX0_clearColumn 65 = .ok (.getfield 27, 3) := by decide +kernel
theorem dX0_clearColumn_68 : decode cX0_clearColumn 68 = .ok (.iload 4, 2) := by decide +kernel
theorem dX0_clearColumn_70 : decode cX0_clearColumn 70 = .ok (.aaload, 1) := by decide +kernel
theorem dX0_clearColumn_71 : decode cX0_clearColumn 71 = .ok (.iload 7, 2) := by decide +kernel
theorem dX0_clearColumn_73 : decode cX0_clearColumn 73 = .ok (.aload_n 0, 1) := by decide +kernel
theorem dX0_clearColumn_74 : decode cX0_clearColumn 74 = .ok (.getfield 43, 3) := by decide +kernel
theorem dX0_clearColumn_77 : decode cX0_clearColumn 77 = .ok (.aload_n 0, 1) := by decide +kernel
theorem dX0_clearColumn_78 : decode cX0_clearColumn 78 = .ok (.getfield 27, 3) := by decide +kernel
theorem dX0_clearColumn_81 : decode cX0_clearColumn 81 = .ok (.iload 4, 2) := by decide +kernel
theorem dX0_clearColumn_83 : decode cX0_clearColumn 83 = .ok (.aaload, 1) := by decide +kernel
theorem dX0_clearColumn_84 : decode cX0_clearColumn 84 = .ok (.iload 7, 2) := by decide +kernel
theorem dX0_clearColumn_86 : decode cX0_clearColumn 86 = .ok (.laload, 1) := by decide +kernel
theorem dX0_clearColumn_87 : decode cX0_clearColumn 87 = .ok (.lmul, 1) := by decide +kernel
theorem dX0_clearColumn_88 : decode cX0_clearColumn 88 = .ok (.lload 5, 2) := by decide +kernel
theorem dX0_clearColumn_90 : decode cX0_clearColumn 90 = .ok (.aload_n 0, 1) := by decide +kernel
theorem dX0_clearColumn_91 : decode cX0_clearColumn 91 = .ok (.getfield 27, 3) := by decide +kernel
theorem dX0_clearColumn_94 : decode cX0_clearColumn 94 = .ok (.aload_n 0, 1) := by decide +kernel
theorem dX0_clearColumn_95 : decode cX0_clearColumn 95 = .ok (.getfield 34, 3) := by decide +kernel
theorem dX0_clearColumn_98 : decode cX0_clearColumn 98 = .ok (.aaload, 1) := by decide +kernel
theorem dX0_clearColumn_99 : decode cX0_clearColumn 99 = .ok (.iload 7, 2) := by decide +kernel
theorem dX0_clearColumn_101 : decode cX0_clearColumn 101 = .ok (.laload, 1) := by decide +kernel
theorem dX0_clearColumn_102 : decode cX0_clearColumn 102 = .ok (.lmul, 1) := by decide +kernel
theorem dX0_clearColumn_103 : decode cX0_clearColumn 103 = .ok (.lsub, 1) := by decide +kernel
theorem dX0_clearColumn_104 : decode cX0_clearColumn 104 = .ok (.lload_n 2, 1) := by decide +kernel
theorem dX0_clearColumn_105 : decode cX0_clearColumn 105 = .ok (.invokestatic 86, 3) := by decide +kernel
theorem dX0_clearColumn_108 : decode cX0_clearColumn 108 = .ok (.lastore, 1) := by decide +kernel
theorem dX0_clearColumn_109 : decode cX0_clearColumn 109 = .ok (.iinc 7 1, 3) := by decide +kernel
theorem dX0_clearColumn_112 : decode cX0_clearColumn 112 = .ok (.goto (-66), 3) := by decide +kernel
theorem dX0_clearColumn_115 : decode cX0_clearColumn 115 = .ok (.iinc 4 1, 3) := by decide +kernel
theorem dX0_clearColumn_118 : decode cX0_clearColumn 118 = .ok (.goto (-95), 3) := by decide +kernel
theorem dX0_clearColumn_121 : decode cX0_clearColumn 121 = .ok (.return_, 1) := by decide +kernel
theorem dX0_quotient_0 : decode cX0_quotient 0 = .ok (.lload_n 2, 1) := by decide +kernel
theorem dX0_quotient_1 : decode cX0_quotient 1 = .ok (.lconst 0, 1) := by decide +kernel
theorem dX0_quotient_2 : decode cX0_quotient 2 = .ok (.lcmp, 1) := by decide +kernel
theorem dX0_quotient_3 : decode cX0_quotient 3 = .ok (.ifCond .ne 7, 3) := by decide +kernel
theorem dX0_quotient_6 : decode cX0_quotient 6 = .ok (.lconst 0, 1) := by decide +kernel
theorem dX0_quotient_7 : decode cX0_quotient 7 = .ok (.goto 6, 3) := by decide +kernel
theorem dX0_quotient_10 : decode cX0_quotient 10 = .ok (.lload_n 0, 1) := by decide +kernel
theorem dX0_quotient_11 : decode cX0_quotient 11 = .ok (.lload_n 2, 1) := by decide +kernel
theorem dX0_quotient_12 : decode cX0_quotient 12 = .ok (.ldiv, 1) := by decide +kernel
theorem dX0_quotient_13 : decode cX0_quotient 13 = .ok (.lreturn, 1) := by decide +kernel
theorem dX0_makeBase_0 : decode cX0_makeBase 0 = .ok (.aload_n 1, 1) := by decide +kernel
theorem dX0_makeBase_1 : decode cX0_makeBase 1 = .ok (.lconst 0, 1) := by decide +kernel
theorem dX0_makeBase_2 : decode cX0_makeBase 2 = .ok (.invokestatic 90, 3) := by decide +kernel
theorem dX0_makeBase_5 : decode cX0_makeBase 5 = .ok (.aload_n 1, 1) := by decide +kernel
theorem dX0_makeBase_6 : decode cX0_makeBase 6 = .ok (.iload_n 2, 1) := by decide +kernel
theorem dX0_makeBase_7 : decode cX0_makeBase 7 = .ok (.aload_n 0, 1) := by decide +kernel
theorem dX0_makeBase_8 : decode cX0_makeBase 8 = .ok (.getfield 43, 3) := by decide +kernel
theorem dX0_makeBase_11 : decode cX0_makeBase 11 = .ok (.lastore, 1) := by decide +kernel
theorem dX0_makeBase_12 : decode cX0_makeBase 12 = .ok (.iconst 0, 1) := by decide +kernel
theorem dX0_makeBase_13 : decode cX0_makeBase 13 = .ok (.istore_n 3, 1) := by decide +kernel
theorem dX0_makeBase_14 : decode cX0_makeBase 14 = .ok (.iload_n 3, 1) := by decide +kernel
theorem dX0_makeBase_15 : decode cX0_makeBase 15 = .ok (.aload_n 0, 1) := by decide +kernel
theorem dX0_makeBase_16 : decode cX0_makeBase 16 = .ok (.getfield 34, 3) := by decide +kernel
theorem dX0_makeBase_19 : decode cX0_makeBase 19 = .ok (.if_icmp .ge 26, 3) := by decide +kernel
theorem dX0_makeBase_22 : decode cX0_makeBase 22 = .ok (.aload_n 1, 1) := by decide +kernel
theorem dX0_makeBase_23 : decode cX0_makeBase 23 = .ok (.aload_n 0, 1) := by decide +kernel
theorem dX0_makeBase_24 : decode cX0_makeBase 24 = .ok (.getfield 30, 3) := by decide +kernel
theorem dX0_makeBase_27 : decode cX0_makeBase 27 = .ok (.iload_n 3, 1) := by decide +kernel
theorem dX0_makeBase_28 : decode cX0_makeBase 28 = .ok (.iaload, 1) := by decide +kernel
theorem dX0_makeBase_29 : decode cX0_makeBase 29 = .ok (.aload_n 0, 1) := by decide +kernel
theorem dX0_makeBase_30 : decode cX0_makeBase 30 = .ok (.getfield 27, 3) := by decide +kernel
theorem dX0_makeBase_33 : decode cX0_makeBase 33 = .ok (.iload_n 3, 1) := by decide +kernel
theorem dX0_makeBase_34 : decode cX0_makeBase 34 = .ok (.aaload, 1) := by decide +kernel
theorem dX0_makeBase_35 : decode cX0_makeBase 35 = .ok (.iload_n 2, 1) := by decide +kernel
theorem dX0_makeBase_36 : decode cX0_makeBase 36 = .ok (.laload, 1) := by decide +kernel
theorem dX0_makeBase_37 : decode cX0_makeBase 37 = .ok (.lneg, 1) := by decide +kernel
theorem dX0_makeBase_38 : decode cX0_makeBase 38 = .ok (.lastore, 1) := by decide +kernel
theorem dX0_makeBase_39 : decode cX0_makeBase 39 = .ok (.iinc 3 1, 3) := by decide +kernel
theorem dX0_makeBase_42 : decode cX0_makeBase 42 = .ok (.goto (-28), 3) := by decide +kernel
theorem dX0_makeBase_45 : decode cX0_makeBase 45 = .ok (.lconst 0, 1) := by decide +kernel
theorem dX0_makeBase_46 : decode cX0_makeBase 46 = .ok (.lstore_n 3, 1) := by decide +kernel
theorem dX0_makeBase_47 : decode cX0_makeBase 47 = .ok (.iconst 0, 1) := by decide +kernel
theorem dX0_makeBase_48 : decode cX0_makeBase 48 = .ok (.istore 5, 2) := by decide +kernel
theorem dX0_makeBase_50 : decode cX0_makeBase 50 = .ok (.iload 5, 2) := by decide +kernel
theorem dX0_makeBase_52 : decode cX0_makeBase 52 = .ok (.aload_n 0, 1) := by decide +kernel
theorem dX0_makeBase_53 : decode cX0_makeBase 53 = .ok (.getfield 40, 3) := by decide +kernel
theorem dX0_makeBase_56 : decode cX0_makeBase 56 = .ok (.if_icmp .ge 18, 3) := by decide +kernel
theorem dX0_makeBase_59 : decode cX0_makeBase 59 = .ok (.lload_n 3, 1) := by decide +kernel
theorem dX0_makeBase_60 : decode cX0_makeBase 60 = .ok (.aload_n 1, 1) := by decide +kernel
theorem dX0_makeBase_61 : decode cX0_makeBase 61 = .ok (.iload 5, 2) := by decide +kernel
theorem dX0_makeBase_63 : decode cX0_makeBase 63 = .ok (.laload, 1) := by decide +kernel
theorem dX0_makeBase_64 : decode cX0_makeBase 64 = .ok (.invokestatic 96, 3) := by decide +kernel
theorem dX0_makeBase_67 : decode cX0_makeBase 67 = .ok (.lstore_n 3, 1) := by decide +kernel
theorem dX0_makeBase_68 : decode cX0_makeBase 68 = .ok (.iinc 5 1, 3) := by decide +kernel
theorem dX0_makeBase_71 : decode cX0_makeBase 71 = .ok (.goto (-21), 3) := by decide +kernel
theorem dX0_makeBase_74 : decode cX0_makeBase 74 = .ok (.aload_n 0, 1) := by decide +kernel
theorem dX0_makeBase_75 : decode cX0_makeBase 75 = .ok (.getfield 43, 3) := by decide +kernel
theorem dX0_makeBase_78 : decode cX0_makeBase 78 = .ok (.lconst 0, 1) := by decide +kernel
theorem dX0_makeBase_79 : decode cX0_makeBase 79 = .ok (.lcmp, 1) := by decide +kernel
theorem dX0_makeBase_80 : decode cX0_makeBase 80 = .ok (.ifCond .ge 8, 3) := by decide +kernel
theorem dX0_makeBase_83 : decode cX0_makeBase 83 = .ok (.lload_n 3, 1) := by decide +kernel
theorem dX0_makeBase_84 : decode cX0_makeBase 84 = .ok (.lneg, 1) := by decide +kernel
theorem dX0_makeBase_85 : decode cX0_makeBase 85 = .ok (.goto 4, 3) := by decide +kernel
theorem dX0_makeBase_88 : decode cX0_makeBase 88 = .ok (.lload_n 3, 1) := by decide +kernel
theorem dX0_makeBase_89 : decode cX0_makeBase 89 = .ok (.lstore 5, 2) := by decide +kernel
theorem dX0_makeBase_91 : decode cX0_makeBase 91 = .ok (.iconst 0, 1) := by decide +kernel
theorem dX0_makeBase_92 : decode cX0_makeBase 92 = .ok (.istore 7, 2) := by decide +kernel
theorem dX0_makeBase_94 : decode cX0_makeBase 94 = .ok (.iload 7, 2) := by decide +kernel
theorem dX0_makeBase_96 : decode cX0_makeBase 96 = .ok (.aload_n 0, 1) := by decide +kernel
theorem dX0_makeBase_97 : decode cX0_makeBase 97 = .ok (.getfield 40, 3) := by decide +kernel
theorem dX0_makeBase_100 : decode cX0_makeBase 100 = .ok (.if_icmp .ge 22, 3) := by decide +kernel
theorem dX0_makeBase_103 : decode cX0_makeBase 103 = .ok (.aload_n 1, 1) := by decide +kernel
theorem dX0_makeBase_104 : decode cX0_makeBase 104 = .ok (.iload 7, 2) := by decide +kernel
theorem dX0_makeBase_106 : decode cX0_makeBase 106 = .ok (.aload_n 1, 1) := by decide +kernel
theorem dX0_makeBase_107 : decode cX0_makeBase 107 = .ok (.iload 7, 2) := by decide +kernel
theorem dX0_makeBase_109 : decode cX0_makeBase 109 = .ok (.laload, 1) := by decide +kernel
theorem dX0_makeBase_110 : decode cX0_makeBase 110 = .ok (.lload 5, 2) := by decide +kernel
theorem dX0_makeBase_112 : decode cX0_makeBase 112 = .ok (.invokestatic 86, 3) := by decide +kernel
theorem dX0_makeBase_115 : decode cX0_makeBase 115 = .ok (.lastore, 1) := by decide +kernel
theorem dX0_makeBase_116 : decode cX0_makeBase 116 = .ok (.iinc 7 1, 3) := by decide +kernel
theorem dX0_makeBase_119 : decode cX0_makeBase 119 = .ok (.goto (-25), 3) := by decide +kernel
theorem dX0_makeBase_122 : decode cX0_makeBase 122 = .ok (.return_, 1) := by decide +kernel
theorem dX0_commonDivisor_0 : decode cX0_commonDivisor 0 = .ok (.lload_n 0, 1) := by decide +kernel
theorem dX0_commonDivisor_1 : decode cX0_commonDivisor 1 = .ok (.invokestatic 99, 3) := by decide +kernel
theorem dX0_commonDivisor_4 : decode cX0_commonDivisor 4 = .ok (.lstore 4, 2) := by decide +kernel
theorem dX0_commonDivisor_6 : decode cX0_commonDivisor 6 = .ok (.lload_n 2, 1) := by decide +kernel
theorem dX0_commonDivisor_7 : decode cX0_commonDivisor 7 = .ok (.invokestatic 99, 3) := by decide +kernel
theorem dX0_commonDivisor_10 : decode cX0_commonDivisor 10 = .ok (.lstore 6, 2) := by decide +kernel
theorem dX0_commonDivisor_12 : decode cX0_commonDivisor 12 = .ok (.iconst 0, 1) := by decide +kernel
theorem dX0_commonDivisor_13 : decode cX0_commonDivisor 13 = .ok (.istore 8, 2) := by decide +kernel
theorem dX0_commonDivisor_15 : decode cX0_commonDivisor 15 = .ok (.iload 8, 2) := by decide +kernel
theorem dX0_commonDivisor_17 : decode cX0_commonDivisor 17 = .ok (.sipush 200, 3) := by decide +kernel
theorem dX0_commonDivisor_20 : decode cX0_commonDivisor 20 = .ok (.if_icmp .ge 31, 3) := by decide +kernel
theorem dX0_commonDivisor_23 : decode cX0_commonDivisor 23 = .ok (.lload 6, 2) := by decide +kernel
theorem dX0_commonDivisor_25 : decode cX0_commonDivisor 25 = .ok (.lconst 0, 1) := by decide +kernel
theorem dX0_commonDivisor_26 : decode cX0_commonDivisor 26 = .ok (.lcmp, 1) := by decide +kernel
theorem dX0_commonDivisor_27 : decode cX0_commonDivisor 27 = .ok (.ifCond .eq 24, 3) := by decide +kernel
theorem dX0_commonDivisor_30 : decode cX0_commonDivisor 30 = .ok (.lload 4, 2) := by decide +kernel
theorem dX0_commonDivisor_32 : decode cX0_commonDivisor 32 = .ok (.lload 6, 2) := by decide +kernel
theorem dX0_commonDivisor_34 : decode cX0_commonDivisor 34 = .ok (.lrem, 1) := by decide +kernel
theorem dX0_commonDivisor_35 : decode cX0_commonDivisor 35 = .ok (.lstore 9, 2) := by decide +kernel
theorem dX0_commonDivisor_37 : decode cX0_commonDivisor 37 = .ok (.lload 6, 2) := by decide +kernel
theorem dX0_commonDivisor_39 : decode cX0_commonDivisor 39 = .ok (.lstore 4, 2) := by decide +kernel
theorem dX0_commonDivisor_41 : decode cX0_commonDivisor 41 = .ok (.lload 9, 2) := by decide +kernel
theorem dX0_commonDivisor_43 : decode cX0_commonDivisor 43 = .ok (.lstore 6, 2) := by decide +kernel
theorem dX0_commonDivisor_45 : decode cX0_commonDivisor 45 = .ok (.iinc 8 1, 3) := by decide +kernel
theorem dX0_commonDivisor_48 : decode cX0_commonDivisor 48 = .ok (.goto (-33), 3) := by decide +kernel
theorem dX0_commonDivisor_51 : decode cX0_commonDivisor 51 = .ok (.lload 4, 2) := by decide +kernel
theorem dX0_commonDivisor_53 : decode cX0_commonDivisor 53 = .ok (.lreturn, 1) := by decide +kernel
theorem dX0_judge_0 : decode cX0_judge 0 = .ok (.aload_n 0, 1) := by decide +kernel
theorem dX0_judge_1 : decode cX0_judge 1 = .ok (.getfield 20, 3) := by decide +kernel
theorem dX0_judge_4 : decode cX0_judge 4 = .ok (.ifCond .ne 5, 3) := by decide +kernel
theorem dX0_judge_7 : decode cX0_judge 7 = .ok (.iconst 1, 1) := by decide +kernel
theorem dX0_judge_8 : decode cX0_judge 8 = .ok (.ireturn, 1) := by decide +kernel
theorem dX0_judge_9 : decode cX0_judge 9 = .ok (.aload_n 0, 1) := by decide +kernel
theorem dX0_judge_10 : decode cX0_judge 10 = .ok (.getfield 20, 3) := by decide +kernel
theorem dX0_judge_13 : decode cX0_judge 13 = .ok (.iconst 1, 1) := by decide +kernel
theorem dX0_judge_14 : decode cX0_judge 14 = .ok (.if_icmp .le 5, 3) := by decide +kernel
theorem dX0_judge_17 : decode cX0_judge 17 = .ok (.iconst 3, 1) := by decide +kernel
theorem dX0_judge_18 : decode cX0_judge 18 = .ok (.ireturn, 1) := by decide +kernel
theorem dX0_judge_19 : decode cX0_judge 19 = .ok (.iconst 0, 1) := by decide +kernel
theorem dX0_judge_20 : decode cX0_judge 20 = .ok (.istore_n 1, 1) := by decide +kernel
theorem dX0_judge_21 : decode cX0_judge 21 = .ok (.iload_n 1, 1) := by decide +kernel
theorem dX0_judge_22 : decode cX0_judge 22 = .ok (.aload_n 0, 1) := by decide +kernel
theorem dX0_judge_23 : decode cX0_judge 23 = .ok (.getfield 40, 3) := by decide +kernel
theorem dX0_judge_26 : decode cX0_judge 26 = .ok (.if_icmp .ge 24, 3) := by decide +kernel
theorem dX0_judge_29 : decode cX0_judge 29 = .ok (.aload_n 0, 1) := by decide +kernel
theorem dX0_judge_30 : decode cX0_judge 30 = .ok (.getfield 17, 3) := by decide +kernel
theorem dX0_judge_33 : decode cX0_judge 33 = .ok (.iconst 0, 1) := by decide +kernel
theorem dX0_judge_34 : decode cX0_judge 34 = .ok (.aaload, 1) := by decide +kernel
theorem dX0_judge_35 : decode cX0_judge 35 = .ok (.iload_n 1, 1) := by decide +kernel
theorem dX0_judge_36 : decode cX0_judge 36 = .ok (.laload, 1) := by decide +kernel
theorem dX0_judge_37 : decode cX0_judge 37 = .ok (.lconst 0, 1) := by decide +kernel
theorem dX0_judge_38 : decode cX0_judge 38 = .ok (.lcmp, 1) := by decide +kernel
theorem dX0_judge_39 : decode cX0_judge 39 = .ok (.ifCond .gt 5, 3) := by decide +kernel
theorem dX0_judge_42 : decode cX0_judge 42 = .ok (.iconst 2, 1) := by decide +kernel
theorem dX0_judge_43 : decode cX0_judge 43 = .ok (.ireturn, 1) := by decide +kernel
theorem dX0_judge_44 : decode cX0_judge 44 = .ok (.iinc 1 1, 3) := by decide +kernel
theorem dX0_judge_47 : decode cX0_judge 47 = .ok (.goto (-26), 3) := by decide +kernel
theorem dX0_judge_50 : decode cX0_judge 50 = .ok (.iconst 0, 1) := by decide +kernel
theorem dX0_judge_51 : decode cX0_judge 51 = .ok (.ireturn, 1) := by decide +kernel
theorem dX0_forget_0 : decode cX0_forget 0 = .ok (.aload_n 0, 1) := by decide +kernel
theorem dX0_forget_1 : decode cX0_forget 1 = .ok (.iconst 0, 1) := by decide +kernel
theorem dX0_forget_2 : decode cX0_forget 2 = .ok (.putfield 20, 3) := by decide +kernel
theorem dX0_forget_5 : decode cX0_forget 5 = .ok (.aload_n 0, 1) := by decide +kernel
theorem dX0_forget_6 : decode cX0_forget 6 = .ok (.iconst (-1), 1) := by decide +kernel
theorem dX0_forget_7 : decode cX0_forget 7 = .ok (.putfield 24, 3) := by decide +kernel
theorem dX0_forget_10 : decode cX0_forget 10 = .ok (.return_, 1) := by decide +kernel
