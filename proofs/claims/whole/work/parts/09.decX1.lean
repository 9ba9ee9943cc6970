theorem dX1_clear_0 : decode cX1_clear 0 = .ok (.aload_n 0, 1) := by decide +kernel
theorem dX1_clear_1 : decode cX1_clear 1 = .ok (.iconst 0, 1) := by decide +kernel
theorem dX1_clear_2 : decode cX1_clear 2 = .ok (.putfield 29, 3) := by decide +kernel
theorem dX1_clear_5 : decode cX1_clear 5 = .ok (.aload_n 0, 1) := by decide +kernel
theorem dX1_clear_6 : decode cX1_clear 6 = .ok (.iconst 0, 1) := by decide +kernel
theorem dX1_clear_7 : decode cX1_clear 7 = .ok (.putfield 33, 3) := by decide +kernel
theorem dX1_clear_10 : decode cX1_clear 10 = .ok (.aload_n 0, 1) := by decide +kernel
theorem dX1_clear_11 : decode cX1_clear 11 = .ok (.iconst 0, 1) := by decide +kernel
theorem dX1_clear_12 : decode cX1_clear 12 = .ok (.putfield 36, 3) := by decide +kernel
theorem dX1_clear_15 : decode cX1_clear 15 = .ok (.aload_n 0, 1) := by decide +kernel
theorem dX1_clear_16 : decode cX1_clear 16 = .ok (.iconst 0, 1) := by decide +kernel
theorem dX1_clear_17 : decode cX1_clear 17 = .ok (.putfield 39, 3) := by decide +kernel
theorem dX1_clear_20 : decode cX1_clear 20 = .ok (.return_, 1) := by decide +kernel
theorem dX1_admitCharge_0 : decode cX1_admitCharge 0 = .ok (.aload_n 0, 1) := by decide +kernel
theorem dX1_admitCharge_1 : decode cX1_admitCharge 1 = .ok (.aload_n 0, 1) := by decide +kernel
theorem dX1_admitCharge_2 : decode cX1_admitCharge 2 = .ok (.getfield 39, 3) := by decide +kernel
theorem dX1_admitCharge_5 : decode cX1_admitCharge 5 = .ok (.ifCond .ne 11, 3) := by decide +kernel
theorem dX1_admitCharge_8 : decode cX1_admitCharge 8 = .ok (.aload_n 0, 1) := by decide +kernel
theorem dX1_admitCharge_9 : decode cX1_admitCharge 9 = .ok (.getfield 36, 3) := by decide +kernel
theorem dX1_admitCharge_12 : decode cX1_admitCharge 12 = .ok (.iconst 5, 1) := by decide +kernel
theorem dX1_admitCharge_13 : decode cX1_admitCharge 13 = .ok (.if_icmp .ge 7, 3) := by decide +kernel
theorem dX1_admitCharge_16 : decode cX1_admitCharge 16 = .ok (.iconst 1, 1) := by decide +kernel
theorem dX1_admitCharge_17 : decode cX1_admitCharge 17 = .ok (.goto 4, 3) := by decide +kernel
theorem dX1_admitCharge_20 : decode cX1_admitCharge 20 = .ok (.iconst 0, 1) := by decide +kernel
theorem dX1_admitCharge_21 : decode cX1_admitCharge 21 = .ok (.putfield 39, 3) := by decide +kernel
theorem dX1_admitCharge_24 : decode cX1_admitCharge 24 = .ok (.aload_n 0, 1) := by decide +kernel
theorem dX1_admitCharge_25 : decode cX1_admitCharge 25 = .ok (.getfield 39, 3) := by decide +kernel
theorem dX1_admitCharge_28 : decode cX1_admitCharge 28 = .ok (.ireturn, 1) := by decide +kernel
theorem dX1_elementKind_0 : decode cX1_elementKind 0 = .ok (.iconst 0, 1) := by decide +kernel
theorem dX1_elementKind_1 : decode cX1_elementKind 1 = .ok (.istore_n 2, 1) := by decide +kernel
theorem dX1_elementKind_2 : decode cX1_elementKind 2 = .ok (.iload_n 2, 1) := by decide +kernel
theorem dX1_elementKind_3 : decode cX1_elementKind 3 = .ok (.aload_n 0, 1) := by decide +kernel
theorem dX1_elementKind_4 : decode cX1_elementKind 4 = .ok (.getfield 36, 3) := by decide +kernel
theorem dX1_elementKind_7 : decode cX1_elementKind 7 = .ok (.if_icmp .ge 21, 3) := by decide +kernel
theorem dX1_elementKind_10 : decode cX1_elementKind 10 = .ok (.aload_n 0, 1) := by decide +kernel
theorem dX1_elementKind_11 : decode cX1_elementKind 11 = .ok (.getfield 9, 3) := by decide +kernel
theorem dX1_elementKind_14 : decode cX1_elementKind 14 = .ok (.iload_n 2, 1) := by decide +kernel
theorem dX1_elementKind_15 : decode cX1_elementKind 15 = .ok (.iaload, 1) := by decide +kernel
theorem dX1_elementKind_16 : decode cX1_elementKind 16 = .ok (.iload_n 1, 1) := by decide +kernel
theorem dX1_elementKind_17 : decode cX1_elementKind 17 = .ok (.if_icmp .ne 5, 3) := by decide +kernel
theorem dX1_elementKind_20 : decode cX1_elementKind 20 = .ok (.iload_n 2, 1) := by decide +kernel
theorem dX1_elementKind_21 : decode cX1_elementKind 21 = .ok (.ireturn, 1) := by decide +kernel
theorem dX1_elementKind_22 : decode cX1_elementKind 22 = .ok (.iinc 2 1, 3) := by decide +kernel
theorem dX1_elementKind_25 : decode cX1_elementKind 25 = .ok (.goto (-23), 3) := by decide +kernel
theorem dX1_elementKind_28 : decode cX1_elementKind 28 = .ok (.aload_n 0, 1) := by decide +kernel
theorem dX1_elementKind_29 : decode cX1_elementKind 29 = .ok (.invokevirtual 43, 3) := by decide +kernel
theorem dX1_elementKind_32 : decode cX1_elementKind 32 = .ok (.iconst 5, 1) := by decide +kernel
theorem dX1_elementKind_33 : decode cX1_elementKind 33 = .ok (.if_icmp .lt 5, 3) := by decide +kernel
theorem dX1_elementKind_36 : decode cX1_elementKind 36 = .ok (.iconst (-1), 1) := by decide +kernel
theorem dX1_elementKind_37 : decode cX1_elementKind 37 = .ok (.ireturn, 1) := by decide +kernel
theorem dX1_elementKind_38 : decode cX1_elementKind 38 = .ok (.aload_n 0, 1) := by decide +kernel
theorem dX1_elementKind_39 : decode cX1_elementKind 39 = .ok (.getfield 9, 3) := by decide +kernel
theorem dX1_elementKind_42 : decode cX1_elementKind 42 = .ok (.aload_n 0, 1) := by decide +kernel
theorem dX1_elementKind_43 : decode cX1_elementKind 43 = .ok (.getfield 36, 3) := by decide +kernel
theorem dX1_elementKind_46 : decode cX1_elementKind 46 = .ok (.iload_n 1, 1) := by decide +kernel
theorem dX1_elementKind_47 : decode cX1_elementKind 47 = .ok (.iastore, 1) := by decide +kernel
theorem dX1_elementKind_48 : decode cX1_elementKind 48 = .ok (.aload_n 0, 1) := by decide +kernel
theorem dX1_elementKind_49 : decode cX1_elementKind 49 = .ok (.dup, 1) := by decide +kernel
theorem dX1_elementKind_50 : decode cX1_elementKind 50 = .ok (.getfield 36, 3) := by decide +kernel
theorem dX1_elementKind_53 : decode cX1_elementKind 53 = .ok (.iconst 1, 1) := by decide +kernel
theorem dX1_elementKind_54 : decode cX1_elementKind 54 = .ok (.iadd, 1) := by decide +kernel
theorem dX1_elementKind_55 : decode cX1_elementKind 55 = .ok (.putfield 36, 3) := by decide +kernel
theorem dX1_elementKind_58 : decode cX1_elementKind 58 = .ok (.aload_n 0, 1) := by decide +kernel
theorem dX1_elementKind_59 : decode cX1_elementKind 59 = .ok (.getfield 36, 3) := by decide +kernel
theorem dX1_elementKind_62 : decode cX1_elementKind 62 = .ok (.iconst 1, 1) := by decide +kernel
theorem dX1_elementKind_63 : decode cX1_elementKind 63 = .ok (.isub, 1) := by decide +kernel
theorem dX1_elementKind_64 : decode cX1_elementKind 64 = .ok (.ireturn, 1) := by decide +kernel
theorem dX1_kindCount_0 : decode cX1_kindCount 0 = .ok (.aload_n 0, 1) := by decide +kernel
theorem dX1_kindCount_1 : decode cX1_kindCount 1 = .ok (.getfield 39, 3) := by decide +kernel
theorem dX1_kindCount_4 : decode cX1_kindCount 4 = .ok (.ifCond .eq 12, 3) := by decide +kernel
theorem dX1_kindCount_7 : decode cX1_kindCount 7 = .ok (.aload_n 0, 1) := by decide +kernel
theorem dX1_kindCount_8 : decode cX1_kindCount 8 = .ok (.getfield 36, 3) := by decide +kernel
theorem dX1_kindCount_11 : decode cX1_kindCount 11 = .ok (.iconst 1, 1) := by decide +kernel
theorem dX1_kindCount_12 : decode cX1_kindCount 12 = .ok (.iadd, 1) := by decide +kernel
theorem dX1_kindCount_13 : decode cX1_kindCount 13 = .ok (.goto 7, 3) := by decide +kernel
theorem dX1_kindCount_16 : decode cX1_kindCount 16 = .ok (.aload_n 0, 1) := by decide +kernel
theorem dX1_kindCount_17 : decode cX1_kindCount 17 = .ok (.getfield 36, 3) := by decide +kernel
theorem dX1_kindCount_20 : decode cX1_kindCount 20 = .ok (.ireturn, 1) := by decide +kernel
theorem dX1_addFormula_0 : decode cX1_addFormula 0 = .ok (.aload_n 0, 1) := by decide +kernel
theorem dX1_addFormula_1 : decode cX1_addFormula 1 = .ok (.getfield 29, 3) := by decide +kernel
theorem dX1_addFormula_4 : decode cX1_addFormula 4 = .ok (.bipush 6, 2) := by decide +kernel
theorem dX1_addFormula_6 : decode cX1_addFormula 6 = .ok (.if_icmp .ge 76, 3) := by decide +kernel
theorem dX1_addFormula_9 : decode cX1_addFormula 9 = .ok (.iconst 0, 1) := by decide +kernel
theorem dX1_addFormula_10 : decode cX1_addFormula 10 = .ok (.istore 5, 2) := by decide +kernel
theorem dX1_addFormula_12 : decode cX1_addFormula 12 = .ok (.iload 5, 2) := by decide +kernel
theorem dX1_addFormula_14 : decode cX1_addFormula 14 = .ok (.iconst 5, 1) := by decide +kernel
theorem dX1_addFormula_15 : decode cX1_addFormula 15 = .ok (.if_icmp .ge 26, 3) := by decide +kernel
theorem dX1_addFormula_18 : decode cX1_addFormula 18 = .ok (.aload_n 0, 1) := by decide +kernel
theorem dX1_addFormula_19 : decode cX1_addFormula 19 = .ok (.getfield 17, 3) := by decide +kernel
theorem dX1_addFormula_22 : decode cX1_addFormula 22 = .ok (.aload_n 0, 1) := by decide +kernel
theorem dX1_addFormula_23 : decode cX1_addFormula 23 = .ok (.getfield 29, 3) := by decide +kernel
theorem dX1_addFormula_26 : decode cX1_addFormula 26 = .ok (.aaload, 1) := by decide +kernel
theorem dX1_addFormula_27 : decode cX1_addFormula 27 = .ok (.iload 5, 2) := by decide +kernel
theorem dX1_addFormula_29 : decode cX1_addFormula 29 = .ok (.aload_n 3, 1) := by decide +kernel
theorem dX1_addFormula_30 : decode cX1_addFormula 30 = .ok (.iload 5, 2) := by decide +kernel
theorem dX1_addFormula_32 : decode cX1_addFormula 32 = .ok (.laload, 1) := by decide +kernel
theorem dX1_addFormula_33 : decode cX1_addFormula 33 = .ok (.l2i, 1) := by decide +kernel
theorem dX1_addFormula_34 : decode cX1_addFormula 34 = .ok (.iastore, 1) := by decide +kernel
theorem dX1_addFormula_35 : decode cX1_addFormula 35 = .ok (.iinc 5 1, 3) := by decide +kernel
theorem dX1_addFormula_38 : decode cX1_addFormula 38 = .ok (.goto (-26), 3) := by decide +kernel
theorem dX1_addFormula_41 : decode cX1_addFormula 41 = .ok (.aload_n 0, 1) := by decide +kernel
theorem dX1_addFormula_42 : decode cX1_addFormula 42 = .ok (.getfield 20, 3) := by decide +kernel
theorem dX1_addFormula_45 : decode cX1_addFormula 45 = .ok (.aload_n 0, 1) := by decide +kernel
theorem dX1_addFormula_46 : decode cX1_addFormula 46 = .ok (.getfield 29, 3) := by decide +kernel
theorem dX1_addFormula_49 : decode cX1_addFormula 49 = .ok (.iload 4, 2) := by decide +kernel
theorem dX1_addFormula_51 : decode cX1_addFormula 51 = .ok (.iastore, 1) := by decide +kernel
theorem dX1_addFormula_52 : decode cX1_addFormula 52 = .ok (.aload_n 0, 1) := by decide +kernel
theorem dX1_addFormula_53 : decode cX1_addFormula 53 = .ok (.getfield 23, 3) := by decide +kernel
theorem dX1_addFormula_56 : decode cX1_addFormula 56 = .ok (.aload_n 0, 1) := by decide +kernel
theorem dX1_addFormula_57 : decode cX1_addFormula 57 = .ok (.getfield 29, 3) := by decide +kernel
theorem dX1_addFormula_60 : decode cX1_addFormula 60 = .ok (.iload_n 1, 1) := by decide +kernel
theorem dX1_addFormula_61 : decode cX1_addFormula 61 = .ok (.iastore, 1) := by decide +kernel
theorem dX1_addFormula_62 : decode cX1_addFormula 62 = .ok (.aload_n 0, 1) := by decide +kernel
theorem dX1_addFormula_63 : decode cX1_addFormula 63 = .ok (.getfield 26, 3) := by decide +kernel
theorem dX1_addFormula_66 : decode cX1_addFormula 66 = .ok (.aload_n 0, 1) := by decide +kernel
theorem dX1_addFormula_67 : decode cX1_addFormula 67 = .ok (.getfield 29, 3) := by decide +kernel
theorem dX1_addFormula_70 : decode cX1_addFormula 70 = .ok (.iload_n 2, 1) := by decide +kernel
theorem dX1_addFormula_71 : decode cX1_addFormula 71 = .ok (.iastore, 1) := by decide +kernel
theorem dX1_addFormula_72 : decode cX1_addFormula 72 = .ok (.aload_n 0, 1) := by decide +kernel
theorem dX1_addFormula_73 : decode cX1_addFormula 73 = .ok (.dup, 1) := by decide +kernel
theorem dX1_addFormula_74 : decode cX1_addFormula 74 = .ok (.getfield 29, 3) := by decide +kernel
theorem dX1_addFormula_77 : decode cX1_addFormula 77 = .ok (.iconst 1, 1) := by decide +kernel
theorem dX1_addFormula_78 : decode cX1_addFormula 78 = .ok (.iadd, 1) := by decide +kernel
theorem dX1_addFormula_79 : decode cX1_addFormula 79 = .ok (.putfield 29, 3) := by decide +kernel
theorem dX1_addFormula_82 : decode cX1_addFormula 82 = .ok (.return_, 1) := by decide +kernel
theorem dX1_share_0 : decode cX1_share 0 = .ok (.aload_n 0, 1) := by decide +kernel
theorem dX1_share_1 : decode cX1_share 1 = .ok (.iload_n 1, 1) := by decide +kernel
theorem dX1_share_2 : decode cX1_share 2 = .ok (.invokevirtual 47, 3) := by decide +kernel
theorem dX1_share_5 : decode cX1_share 5 = .ok (.ifCond .ne 5, 3) := by decide +kernel
theorem dX1_share_8 : decode cX1_share 8 = .ok (.lconst 0, 1) := by decide +kernel
theorem dX1_share_9 : decode cX1_share 9 = .ok (.lreturn, 1) := by decide +kernel
theorem dX1_share_10 : decode cX1_share 10 = .ok (.lload_n 3, 1) := by decide +kernel
theorem dX1_share_11 : decode cX1_share 11 = .ok (.aload_n 0, 1) := by decide +kernel
theorem dX1_share_12 : decode cX1_share 12 = .ok (.iload_n 1, 1) := by decide +kernel
theorem dX1_share_13 : decode cX1_share 13 = .ok (.iload_n 2, 1) := by decide +kernel
theorem dX1_share_14 : decode cX1_share 14 = .ok (.invokevirtual 51, 3) := by decide +kernel
theorem dX1_share_17 : decode cX1_share 17 = .ok (.i2l, 1) := by decide +kernel
theorem dX1_share_18 : decode cX1_share 18 = .ok (.lmul, 1) := by decide +kernel
theorem dX1_share_19 : decode cX1_share 19 = .ok (.lstore 5, 2) := by decide +kernel
theorem dX1_share_21 : decode cX1_share 21 = .ok (.aload_n 0, 1) := by decide +kernel
theorem dX1_share_22 : decode cX1_share 22 = .ok (.iload_n 1, 1) := by decide +kernel
theorem dX1_share_23 : decode cX1_share 23 = .ok (.invokevirtual 55, 3) := by decide +kernel
theorem dX1_share_26 : decode cX1_share 26 = .ok (.ifCond .eq 9, 3) := by decide +kernel
theorem dX1_share_29 : decode cX1_share 29 = .ok (.lload 5, 2) := by decide +kernel
theorem dX1_share_31 : decode cX1_share 31 = .ok (.lneg, 1) := by decide +kernel
theorem dX1_share_32 : decode cX1_share 32 = .ok (.goto 5, 3) := by decide +kernel
theorem dX1_share_35 : decode cX1_share 35 = .ok (.lload 5, 2) := by decide +kernel
theorem dX1_share_37 : decode cX1_share 37 = .ok (.lreturn, 1) := by decide +kernel
theorem dX1_containsFormula_0 : decode cX1_containsFormula 0 = .ok (.iload_n 1, 1) := by decide +kernel
theorem dX1_containsFormula_1 : decode cX1_containsFormula 1 = .ok (.ifCond .lt 15, 3) := by decide +kernel
theorem dX1_containsFormula_4 : decode cX1_containsFormula 4 = .ok (.iload_n 1, 1) := by decide +kernel
theorem dX1_containsFormula_5 : decode cX1_containsFormula 5 = .ok (.aload_n 0, 1) := by decide +kernel
theorem dX1_containsFormula_6 : decode cX1_containsFormula 6 = .ok (.getfield 29, 3) := by decide +kernel
theorem dX1_containsFormula_9 : decode cX1_containsFormula 9 = .ok (.if_icmp .ge 7, 3) := by decide +kernel
theorem dX1_containsFormula_12 : decode cX1_containsFormula 12 = .ok (.iconst 1, 1) := by decide +kernel
theorem dX1_containsFormula_13 : decode cX1_containsFormula 13 = .ok (.goto 4, 3) := by decide +kernel
theorem dX1_containsFormula_16 : decode cX1_containsFormula 16 = .ok (.iconst 0, 1) := by decide +kernel
theorem dX1_containsFormula_17 : decode cX1_containsFormula 17 = .ok (.ireturn, 1) := by decide +kernel
theorem dX1_amount_0 : decode cX1_amount 0 = .ok (.iload_n 2, 1) := by decide +kernel
theorem dX1_amount_1 : decode cX1_amount 1 = .ok (.aload_n 0, 1) := by decide +kernel
theorem dX1_amount_2 : decode cX1_amount 2 = .ok (.getfield 36, 3) := by decide +kernel
theorem dX1_amount_5 : decode cX1_amount 5 = .ok (.if_icmp .ge 14, 3) := by decide +kernel
theorem dX1_amount_8 : decode cX1_amount 8 = .ok (.aload_n 0, 1) := by decide +kernel
theorem dX1_amount_9 : decode cX1_amount 9 = .ok (.getfield 17, 3) := by decide +kernel
theorem dX1_amount_12 : decode cX1_amount 12 = .ok (.iload_n 1, 1) := by decide +kernel
theorem dX1_amount_13 : decode cX1_amount 13 = .ok (.aaload, 1) := by decide +kernel
theorem dX1_amount_14 : decode cX1_amount 14 = .ok (.iload_n 2, 1) := by decide +kernel
theorem dX1_amount_15 : decode cX1_amount 15 = .ok (.iaload, 1) := by decide +kernel
theorem dX1_amount_16 : decode cX1_amount 16 = .ok (.goto 9, 3) := by decide +kernel
theorem dX1_amount_19 : decode cX1_amount 19 = .ok (.aload_n 0, 1) := by decide +kernel
theorem dX1_amount_20 : decode cX1_amount 20 = .ok (.getfield 20, 3) := by decide +kernel
theorem dX1_amount_23 : decode cX1_amount 23 = .ok (.iload_n 1, 1) := by decide +kernel
theorem dX1_amount_24 : decode cX1_amount 24 = .ok (.iaload, 1) := by decide +kernel
theorem dX1_amount_25 : decode cX1_amount 25 = .ok (.ireturn, 1) := by decide +kernel
theorem dX1_isProduct_0 : decode cX1_isProduct 0 = .ok (.iload_n 1, 1) := by decide +kernel
theorem dX1_isProduct_1 : decode cX1_isProduct 1 = .ok (.aload_n 0, 1) := by decide +kernel
theorem dX1_isProduct_2 : decode cX1_isProduct 2 = .ok (.getfield 33, 3) := by decide +kernel
theorem dX1_isProduct_5 : decode cX1_isProduct 5 = .ok (.if_icmp .lt 7, 3) := by decide +kernel
theorem dX1_isProduct_8 : decode cX1_isProduct 8 = .ok (.iconst 1, 1) := by decide +kernel
theorem dX1_isProduct_9 : decode cX1_isProduct 9 = .ok (.goto 4, 3) := by decide +kernel
theorem dX1_isProduct_12 : decode cX1_isProduct 12 = .ok (.iconst 0, 1) := by decide +kernel
theorem dX1_isProduct_13 : decode cX1_isProduct 13 = .ok (.ireturn, 1) := by decide +kernel
theorem dX1_containsKind_0 : decode cX1_containsKind 0 = .ok (.iload_n 1, 1) := by decide +kernel
theorem dX1_containsKind_1 : decode cX1_containsKind 1 = .ok (.ifCond .lt 15, 3) := by decide +kernel
theorem dX1_containsKind_4 : decode cX1_containsKind 4 = .ok (.iload_n 1, 1) := by decide +kernel
theorem dX1_containsKind_5 : decode cX1_containsKind 5 = .ok (.aload_n 0, 1) := by decide +kernel
theorem dX1_containsKind_6 : decode cX1_containsKind 6 = .ok (.invokevirtual 43, 3) := by decide +kernel
theorem dX1_containsKind_9 : decode cX1_containsKind 9 = .ok (.if_icmp .ge 7, 3) := by decide +kernel
theorem dX1_containsKind_12 : decode cX1_containsKind 12 = .ok (.iconst 1, 1) := by decide +kernel
theorem dX1_containsKind_13 : decode cX1_containsKind 13 = .ok (.goto 4, 3) := by decide +kernel
theorem dX1_containsKind_16 : decode cX1_containsKind 16 = .ok (.iconst 0, 1) := by decide +kernel
theorem dX1_containsKind_17 : decode cX1_containsKind 17 = .ok (.ireturn, 1) := by decide +kernel
theorem dX1_kindName_0 : decode cX1_kindName 0 = .ok (.iload_n 1, 1) := by decide +kernel
theorem dX1_kindName_1 : decode cX1_kindName 1 = .ok (.aload_n 0, 1) := by decide +kernel
theorem dX1_kindName_2 : decode cX1_kindName 2 = .ok (.getfield 36, 3) := by decide +kernel
theorem dX1_kindName_5 : decode cX1_kindName 5 = .ok (.if_icmp .ge 12, 3) := by decide +kernel
theorem dX1_kindName_8 : decode cX1_kindName 8 = .ok (.aload_n 0, 1) := by decide +kernel
theorem dX1_kindName_9 : decode cX1_kindName 9 = .ok (.getfield 9, 3) := by decide +kernel
theorem dX1_kindName_12 : decode cX1_kindName 12 = .ok (.iload_n 1, 1) := by decide +kernel
theorem dX1_kindName_13 : decode cX1_kindName 13 = .ok (.iaload, 1) := by decide +kernel
theorem dX1_kindName_14 : decode cX1_kindName 14 = .ok (.goto 4, 3) := by decide +kernel
theorem dX1_kindName_17 : decode cX1_kindName 17 = .ok (.iconst 0, 1) := by decide +kernel
theorem dX1_kindName_18 : decode cX1_kindName 18 = .ok (.ireturn, 1) := by decide +kernel
