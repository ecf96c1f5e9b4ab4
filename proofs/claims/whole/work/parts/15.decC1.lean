theorem dX0_readLine_92 : decode cX0_readLine 92 = .ok (.getfield 16, 3) := by decide +kernel
theorem dX0_readLine_95 : decode cX0_readLine 95 = .ok (.aload_n 0, 1) := by decide +kernel
theorem dX0_readLine_96 : decode cX0_readLine 96 = .ok (.getfield 19, 3) := by decide +kernel
theorem dX0_readLine_99 : decode cX0_readLine 99 = .ok (.aload_n 1, 1) := by decide +kernel
theorem dX0_readLine_100 : decode cX0_readLine 100 = .ok (.getfield 58, 3) := by decide +kernel
theorem dX0_readLine_103 : decode cX0_readLine 103 = .ok (.iastore, 1) := by decide +kernel
theorem dX0_readLine_104 : decode cX0_readLine 104 = .ok (.aload_n 0, 1) := by decide +kernel
theorem dX0_readLine_105 : decode cX0_readLine 105 = .ok (.dup, 1) := by decide +kernel
theorem dX0_readLine_106 : decode cX0_readLine 106 = .ok (.getfield 19, 3) := by decide +kernel
theorem dX0_readLine_109 : decode cX0_readLine 109 = .ok (.iconst 1, 1) := by decide +kernel
theorem dX0_readLine_110 : decode cX0_readLine 110 = .ok (.iadd, 1) := by decide +kernel
theorem dX0_readLine_111 : decode cX0_readLine 111 = .ok (.putfield 19, 3) := by decide +kernel
theorem dX0_readLine_114 : decode cX0_readLine 114 = .ok (.iconst 1, 1) := by decide +kernel
theorem dX0_readLine_115 : decode cX0_readLine 115 = .ok (.ireturn, 1) := by decide +kernel
theorem dX0_readLine_89 : decode cX0_readLine 89 = .ok (.iconst 0, 1) := by decide +kernel
theorem dX0_readLine_90 : decode cX0_readLine 90 = .ok (.ireturn, 1) := by decide +kernel
theorem dX0_readLine_64 : decode cX0_readLine 64 = .ok (.iconst 0, 1) := by decide +kernel
theorem dX0_readLine_65 : decode cX0_readLine 65 = .ok (.ireturn, 1) := by decide +kernel
theorem dX0_readLine_30 : decode cX0_readLine 30 = .ok (.aload_n 1, 1) := by decide +kernel
theorem dX0_readLine_31 : decode cX0_readLine 31 = .ok (.iload_n 3, 1) := by decide +kernel
theorem dX0_readLine_32 : decode cX0_readLine 32 = .ok (.iconst 3, 1) := by decide +kernel
theorem dX0_readLine_33 : decode cX0_readLine 33 = .ok (.invokevirtual 55, 3) := by decide +kernel
theorem dX0_readLine_36 : decode cX0_readLine 36 = .ok (.ireturn, 1) := by decide +kernel
theorem dX0_readLine_19 : decode cX0_readLine 19 = .ok (.iconst 0, 1) := by decide +kernel
theorem dX0_readLine_20 : decode cX0_readLine 20 = .ok (.ireturn, 1) := by decide +kernel
theorem dX0_readFrom_25 : decode cX0_readFrom 25 = .ok (.invokevirtual 35, 3) := by decide +kernel
theorem dX0_readFrom_28 : decode cX0_readFrom 28 = .ok (.ifCond .eq 12, 3) := by decide +kernel
theorem dX0_readFrom_40 : decode cX0_readFrom 40 = .ok (.iconst 0, 1) := by decide +kernel
theorem dX0_readFrom_41 : decode cX0_readFrom 41 = .ok (.ireturn, 1) := by decide +kernel
theorem dX0_readFrom_31 : decode cX0_readFrom 31 = .ok (.aload_n 1, 1) := by decide +kernel
theorem dX0_readFrom_32 : decode cX0_readFrom 32 = .ok (.bipush 59, 2) := by decide +kernel
theorem dX0_readFrom_34 : decode cX0_readFrom 34 = .ok (.invokevirtual 39, 3) := by decide +kernel
theorem dX0_readFrom_37 : decode cX0_readFrom 37 = .ok (.ifCond .ne 5, 3) := by decide +kernel
theorem dX0_readFrom_42 : decode cX0_readFrom 42 = .ok (.iinc 3 1, 3) := by decide +kernel
theorem dX0_readFrom_45 : decode cX0_readFrom 45 = .ok (.goto (-38), 3) := by decide +kernel
theorem dX0_readFrom_20 : decode cX0_readFrom 20 = .ok (.iconst 1, 1) := by decide +kernel
theorem dX0_readFrom_21 : decode cX0_readFrom 21 = .ok (.ireturn, 1) := by decide +kernel
theorem dX9_book_19 : decode cX9_book 19 = .ok (.invokevirtual 153, 3) := by decide +kernel
theorem dX9_book_22 : decode cX9_book 22 = .ok (.ifCond .ne 14, 3) := by decide +kernel
theorem dX9_book_36 : decode cX9_book 36 = .ok (.aload_n 0, 1) := by decide +kernel
theorem dX9_book_37 : decode cX9_book 37 = .ok (.getfield 44, 3) := by decide +kernel
theorem dX9_book_40 : decode cX9_book 40 = .ok (.aload_n 0, 1) := by decide +kernel
theorem dX9_book_41 : decode cX9_book 41 = .ok (.getfield 48, 3) := by decide +kernel
theorem dX0_copyFrom_0 : decode cX0_copyFrom 0 = .ok (.aload_n 0, 1) := by decide +kernel
theorem dX0_copyFrom_1 : decode cX0_copyFrom 1 = .ok (.aload_n 1, 1) := by decide +kernel
theorem dX0_copyFrom_2 : decode cX0_copyFrom 2 = .ok (.getfield 19, 3) := by decide +kernel
theorem dX0_copyFrom_5 : decode cX0_copyFrom 5 = .ok (.putfield 19, 3) := by decide +kernel
theorem dX0_copyFrom_8 : decode cX0_copyFrom 8 = .ok (.aload_n 1, 1) := by decide +kernel
theorem dX0_copyFrom_9 : decode cX0_copyFrom 9 = .ok (.getfield 9, 3) := by decide +kernel
theorem dX0_copyFrom_12 : decode cX0_copyFrom 12 = .ok (.iconst 0, 1) := by decide +kernel
theorem dX0_copyFrom_13 : decode cX0_copyFrom 13 = .ok (.aload_n 0, 1) := by decide +kernel
theorem dX0_copyFrom_14 : decode cX0_copyFrom 14 = .ok (.getfield 9, 3) := by decide +kernel
theorem dX0_copyFrom_17 : decode cX0_copyFrom 17 = .ok (.iconst 0, 1) := by decide +kernel
theorem dX0_copyFrom_18 : decode cX0_copyFrom 18 = .ok (.bipush 6, 2) := by decide +kernel
theorem dX0_copyFrom_20 : decode cX0_copyFrom 20 = .ok (.invokestatic 23, 3) := by decide +kernel
theorem dX0_copyFrom_23 : decode cX0_copyFrom 23 = .ok (.aload_n 1, 1) := by decide +kernel
theorem dX0_copyFrom_24 : decode cX0_copyFrom 24 = .ok (.getfield 13, 3) := by decide +kernel
theorem dX0_copyFrom_27 : decode cX0_copyFrom 27 = .ok (.iconst 0, 1) := by decide +kernel
theorem dX0_copyFrom_28 : decode cX0_copyFrom 28 = .ok (.aload_n 0, 1) := by decide +kernel
theorem dX0_copyFrom_29 : decode cX0_copyFrom 29 = .ok (.getfield 13, 3) := by decide +kernel
theorem dX0_copyFrom_32 : decode cX0_copyFrom 32 = .ok (.iconst 0, 1) := by decide +kernel
theorem dX0_copyFrom_33 : decode cX0_copyFrom 33 = .ok (.bipush 6, 2) := by decide +kernel
theorem dX0_copyFrom_35 : decode cX0_copyFrom 35 = .ok (.invokestatic 23, 3) := by decide +kernel
theorem dX0_copyFrom_38 : decode cX0_copyFrom 38 = .ok (.aload_n 1, 1) := by decide +kernel
theorem dX0_copyFrom_39 : decode cX0_copyFrom 39 = .ok (.getfield 16, 3) := by decide +kernel
theorem dX0_copyFrom_42 : decode cX0_copyFrom 42 = .ok (.iconst 0, 1) := by decide +kernel
theorem dX0_copyFrom_43 : decode cX0_copyFrom 43 = .ok (.aload_n 0, 1) := by decide +kernel
theorem dX0_copyFrom_44 : decode cX0_copyFrom 44 = .ok (.getfield 16, 3) := by decide +kernel
theorem dX0_copyFrom_47 : decode cX0_copyFrom 47 = .ok (.iconst 0, 1) := by decide +kernel
theorem dX0_copyFrom_48 : decode cX0_copyFrom 48 = .ok (.bipush 6, 2) := by decide +kernel
theorem dX0_copyFrom_50 : decode cX0_copyFrom 50 = .ok (.invokestatic 23, 3) := by decide +kernel
theorem dX0_copyFrom_53 : decode cX0_copyFrom 53 = .ok (.return_, 1) := by decide +kernel
theorem dX9_book_44 : decode cX9_book 44 = .ok (.invokevirtual 154, 3) := by decide +kernel
theorem dX9_book_47 : decode cX9_book 47 = .ok (.aload_n 0, 1) := by decide +kernel
theorem dX9_book_48 : decode cX9_book 48 = .ok (.getfield 44, 3) := by decide +kernel
theorem dX9_book_51 : decode cX9_book 51 = .ok (.getfield 113, 3) := by decide +kernel
theorem dX9_book_54 : decode cX9_book 54 = .ok (.ireturn, 1) := by decide +kernel
theorem dX9_book_25 : decode cX9_book 25 = .ok (.aload_n 0, 1) := by decide +kernel
theorem dX9_book_26 : decode cX9_book 26 = .ok (.getfield 21, 3) := by decide +kernel
theorem dX9_book_29 : decode cX9_book 29 = .ok (.getfield 103, 3) := by decide +kernel
theorem dX9_book_32 : decode cX9_book 32 = .ok (.bipush 10, 2) := by decide +kernel
theorem dX9_book_34 : decode cX9_book 34 = .ok (.isub, 1) := by decide +kernel
theorem dX9_book_35 : decode cX9_book 35 = .ok (.ireturn, 1) := by decide +kernel
theorem dX9_fault_0 : decode cX9_fault 0 = .ok (.aload_n 0, 1) := by decide +kernel
theorem dX9_fault_1 : decode cX9_fault 1 = .ok (.getfield 21, 3) := by decide +kernel
theorem dX9_fault_4 : decode cX9_fault 4 = .ok (.getfield 157, 3) := by decide +kernel
theorem dX9_fault_7 : decode cX9_fault 7 = .ok (.ireturn, 1) := by decide +kernel
theorem dX9_undo_0 : decode cX9_undo 0 = .ok (.aload_n 0, 1) := by decide +kernel
theorem dX9_undo_1 : decode cX9_undo 1 = .ok (.getfield 65, 3) := by decide +kernel
theorem dX9_undo_4 : decode cX9_undo 4 = .ok (.aload_n 0, 1) := by decide +kernel
theorem dX9_undo_5 : decode cX9_undo 5 = .ok (.getfield 58, 3) := by decide +kernel
theorem dX4_popWork_0 : decode cX4_popWork 0 = .ok (.aload_n 0, 1) := by decide +kernel
theorem dX4_popWork_1 : decode cX4_popWork 1 = .ok (.getfield 21, 3) := by decide +kernel
theorem dX4_popWork_4 : decode cX4_popWork 4 = .ok (.ifCond .gt 5, 3) := by decide +kernel
theorem dX4_popWork_9 : decode cX4_popWork 9 = .ok (.aload_n 0, 1) := by decide +kernel
theorem dX4_popWork_10 : decode cX4_popWork 10 = .ok (.dup, 1) := by decide +kernel
theorem dX4_popWork_11 : decode cX4_popWork 11 = .ok (.getfield 21, 3) := by decide +kernel
theorem dX4_popWork_14 : decode cX4_popWork 14 = .ok (.iconst 1, 1) := by decide +kernel
theorem dX4_popWork_15 : decode cX4_popWork 15 = .ok (.isub, 1) := by decide +kernel
theorem dX4_popWork_16 : decode cX4_popWork 16 = .ok (.putfield 21, 3) := by decide +kernel
theorem dX4_popWork_19 : decode cX4_popWork 19 = .ok (.aload_n 0, 1) := by decide +kernel
theorem dX4_popWork_20 : decode cX4_popWork 20 = .ok (.getfield 11, 3) := by decide +kernel
theorem dX4_popWork_23 : decode cX4_popWork 23 = .ok (.aload_n 0, 1) := by decide +kernel
theorem dX4_popWork_24 : decode cX4_popWork 24 = .ok (.getfield 21, 3) := by decide +kernel
theorem dX4_popWork_27 : decode cX4_popWork 27 = .ok (.bipush 74, 2) := by decide +kernel
theorem dX4_popWork_29 : decode cX4_popWork 29 = .ok (.imul, 1) := by decide +kernel
theorem dX4_popWork_30 : decode cX4_popWork 30 = .ok (.aload_n 1, 1) := by decide +kernel
theorem dX4_popWork_31 : decode cX4_popWork 31 = .ok (.getfield 28, 3) := by decide +kernel
theorem dX4_popWork_34 : decode cX4_popWork 34 = .ok (.iconst 0, 1) := by decide +kernel
theorem dX4_popWork_35 : decode cX4_popWork 35 = .ok (.bipush 74, 2) := by decide +kernel
theorem dX4_popWork_37 : decode cX4_popWork 37 = .ok (.invokestatic 31, 3) := by decide +kernel
theorem dX4_popWork_40 : decode cX4_popWork 40 = .ok (.iconst 1, 1) := by decide +kernel
theorem dX4_popWork_41 : decode cX4_popWork 41 = .ok (.ireturn, 1) := by decide +kernel
theorem dX4_popWork_7 : decode cX4_popWork 7 = .ok (.iconst 0, 1) := by decide +kernel
theorem dX4_popWork_8 : decode cX4_popWork 8 = .ok (.ireturn, 1) := by decide +kernel
theorem dX9_undo_8 : decode cX9_undo 8 = .ok (.invokevirtual 160, 3) := by decide +kernel
theorem dX9_undo_11 : decode cX9_undo 11 = .ok (.ifCond .ne 5, 3) := by decide +kernel
theorem dX9_undo_16 : decode cX9_undo 16 = .ok (.aload_n 0, 1) := by decide +kernel
theorem dX9_undo_17 : decode cX9_undo 17 = .ok (.iconst 0, 1) := by decide +kernel
theorem dX9_undo_18 : decode cX9_undo 18 = .ok (.putfield 120, 3) := by decide +kernel
theorem dX9_undo_21 : decode cX9_undo 21 = .ok (.aload_n 0, 1) := by decide +kernel
theorem dX9_undo_22 : decode cX9_undo 22 = .ok (.getfield 65, 3) := by decide +kernel
theorem dX9_undo_25 : decode cX9_undo 25 = .ok (.getfield 130, 3) := by decide +kernel
theorem dX9_undo_28 : decode cX9_undo 28 = .ok (.ireturn, 1) := by decide +kernel
theorem dX9_undo_14 : decode cX9_undo 14 = .ok (.iconst (-1), 1) := by decide +kernel
theorem dX9_undo_15 : decode cX9_undo 15 = .ok (.ireturn, 1) := by decide +kernel
theorem dX9_told_0 : decode cX9_told 0 = .ok (.iload_n 1, 1) := by decide +kernel
theorem dX9_told_1 : decode cX9_told 1 = .ok (.tableswitch 156 0 11 #[63, 71, 79, 87, 95, 103, 111, 119, 127, 135, 143, 148], 63) := by decide +kernel
theorem dX9_told_64 : decode cX9_told 64 = .ok (.aload_n 0, 1) := by decide +kernel
theorem dX9_told_65 : decode cX9_told 65 = .ok (.getfield 27, 3) := by decide +kernel
theorem dX9_told_68 : decode cX9_told 68 = .ok (.getfield 172, 3) := by decide +kernel
theorem dX9_told_71 : decode cX9_told 71 = .ok (.ireturn, 1) := by decide +kernel
theorem dX9_told_72 : decode cX9_told 72 = .ok (.aload_n 0, 1) := by decide +kernel
theorem dX9_told_73 : decode cX9_told 73 = .ok (.getfield 27, 3) := by decide +kernel
theorem dX9_told_76 : decode cX9_told 76 = .ok (.getfield 175, 3) := by decide +kernel
theorem dX9_told_79 : decode cX9_told 79 = .ok (.ireturn, 1) := by decide +kernel
theorem dX9_told_80 : decode cX9_told 80 = .ok (.aload_n 0, 1) := by decide +kernel
theorem dX9_told_81 : decode cX9_told 81 = .ok (.getfield 27, 3) := by decide +kernel
theorem dX9_told_84 : decode cX9_told 84 = .ok (.getfield 123, 3) := by decide +kernel
theorem dX9_told_87 : decode cX9_told 87 = .ok (.ireturn, 1) := by decide +kernel
theorem dX9_told_88 : decode cX9_told 88 = .ok (.aload_n 0, 1) := by decide +kernel
theorem dX9_told_89 : decode cX9_told 89 = .ok (.getfield 58, 3) := by decide +kernel
theorem dX5_week_0 : decode cX5_week 0 = .ok (.aload_n 0, 1) := by decide +kernel
theorem dX5_week_1 : decode cX5_week 1 = .ok (.getfield 11, 3) := by decide +kernel
theorem dX5_week_4 : decode cX5_week 4 = .ok (.bipush 73, 2) := by decide +kernel
theorem dX5_week_6 : decode cX5_week 6 = .ok (.iaload, 1) := by decide +kernel
theorem dX5_week_7 : decode cX5_week 7 = .ok (.ireturn, 1) := by decide +kernel
theorem dX9_told_92 : decode cX9_told 92 = .ok (.invokevirtual 178, 3) := by decide +kernel
theorem dX9_told_95 : decode cX9_told 95 = .ok (.ireturn, 1) := by decide +kernel
theorem dX9_told_96 : decode cX9_told 96 = .ok (.aload_n 0, 1) := by decide +kernel
theorem dX9_told_97 : decode cX9_told 97 = .ok (.getfield 58, 3) := by decide +kernel
theorem dX5_paidBits_0 : decode cX5_paidBits 0 = .ok (.aload_n 0, 1) := by decide +kernel
theorem dX5_paidBits_1 : decode cX5_paidBits 1 = .ok (.getfield 11, 3) := by decide +kernel
theorem dX5_paidBits_4 : decode cX5_paidBits 4 = .ok (.bipush 72, 2) := by decide +kernel
theorem dX5_paidBits_6 : decode cX5_paidBits 6 = .ok (.iaload, 1) := by decide +kernel
theorem dX5_paidBits_7 : decode cX5_paidBits 7 = .ok (.ireturn, 1) := by decide +kernel
theorem dX9_told_100 : decode cX9_told 100 = .ok (.invokevirtual 182, 3) := by decide +kernel
theorem dX9_told_103 : decode cX9_told 103 = .ok (.ireturn, 1) := by decide +kernel
theorem dX9_told_104 : decode cX9_told 104 = .ok (.aload_n 0, 1) := by decide +kernel
theorem dX9_told_105 : decode cX9_told 105 = .ok (.getfield 58, 3) := by decide +kernel
theorem dX5_lateBits_0 : decode cX5_lateBits 0 = .ok (.iconst 0, 1) := by decide +kernel
theorem dX5_lateBits_1 : decode cX5_lateBits 1 = .ok (.istore_n 1, 1) := by decide +kernel
theorem dX5_lateBits_2 : decode cX5_lateBits 2 = .ok (.iconst 0, 1) := by decide +kernel
theorem dX5_lateBits_3 : decode cX5_lateBits 3 = .ok (.istore_n 2, 1) := by decide +kernel
theorem dX5_lateBits_4 : decode cX5_lateBits 4 = .ok (.iload_n 2, 1) := by decide +kernel
theorem dX5_lateBits_5 : decode cX5_lateBits 5 = .ok (.aload_n 0, 1) := by decide +kernel
theorem dX5_lateBits_6 : decode cX5_lateBits 6 = .ok (.getfield 15, 3) := by decide +kernel
theorem dX5_lateBits_9 : decode cX5_lateBits 9 = .ok (.getfield 44, 3) := by decide +kernel
theorem dX5_lateBits_12 : decode cX5_lateBits 12 = .ok (.if_icmp .ge 42, 3) := by decide +kernel
theorem dX5_lateBits_54 : decode cX5_lateBits 54 = .ok (.iload_n 1, 1) := by decide +kernel
theorem dX5_lateBits_55 : decode cX5_lateBits 55 = .ok (.ireturn, 1) := by decide +kernel
theorem dX5_lateBits_15 : decode cX5_lateBits 15 = .ok (.aload_n 0, 1) := by decide +kernel
theorem dX5_lateBits_16 : decode cX5_lateBits 16 = .ok (.iload_n 2, 1) := by decide +kernel
theorem dX5_lateBits_17 : decode cX5_lateBits 17 = .ok (.invokevirtual 47, 3) := by decide +kernel
theorem dX5_lateBits_20 : decode cX5_lateBits 20 = .ok (.ifCond .ne 28, 3) := by decide +kernel
theorem dX5_lateBits_48 : decode cX5_lateBits 48 = .ok (.iinc 2 1, 3) := by decide +kernel
theorem dX5_lateBits_51 : decode cX5_lateBits 51 = .ok (.goto (-47), 3) := by decide +kernel
theorem dX5_lateBits_23 : decode cX5_lateBits 23 = .ok (.aload_n 0, 1) := by decide +kernel
theorem dX5_lateBits_24 : decode cX5_lateBits 24 = .ok (.getfield 11, 3) := by decide +kernel
theorem dX5_lateBits_27 : decode cX5_lateBits 27 = .ok (.bipush 73, 2) := by decide +kernel
theorem dX5_lateBits_29 : decode cX5_lateBits 29 = .ok (.iaload, 1) := by decide +kernel
theorem dX5_lateBits_30 : decode cX5_lateBits 30 = .ok (.aload_n 0, 1) := by decide +kernel
theorem dX5_lateBits_31 : decode cX5_lateBits 31 = .ok (.getfield 15, 3) := by decide +kernel
theorem dX5_lateBits_34 : decode cX5_lateBits 34 = .ok (.getfield 51, 3) := by decide +kernel
theorem dX5_lateBits_37 : decode cX5_lateBits 37 = .ok (.iload_n 2, 1) := by decide +kernel
theorem dX5_lateBits_38 : decode cX5_lateBits 38 = .ok (.iaload, 1) := by decide +kernel
theorem dX5_lateBits_39 : decode cX5_lateBits 39 = .ok (.if_icmp .le 9, 3) := by decide +kernel
theorem dX5_lateBits_42 : decode cX5_lateBits 42 = .ok (.iload_n 1, 1) := by decide +kernel
theorem dX5_lateBits_43 : decode cX5_lateBits 43 = .ok (.iconst 1, 1) := by decide +kernel
theorem dX5_lateBits_44 : decode cX5_lateBits 44 = .ok (.iload_n 2, 1) := by decide +kernel
theorem dX5_lateBits_45 : decode cX5_lateBits 45 = .ok (.ishl, 1) := by decide +kernel
theorem dX5_lateBits_46 : decode cX5_lateBits 46 = .ok (.ior, 1) := by decide +kernel
theorem dX5_lateBits_47 : decode cX5_lateBits 47 = .ok (.istore_n 1, 1) := by decide +kernel
theorem dX9_told_108 : decode cX9_told 108 = .ok (.invokevirtual 185, 3) := by decide +kernel
theorem dX9_told_111 : decode cX9_told 111 = .ok (.ireturn, 1) := by decide +kernel
theorem dX9_told_112 : decode cX9_told 112 = .ok (.aload_n 0, 1) := by decide +kernel
theorem dX9_told_113 : decode cX9_told 113 = .ok (.getfield 58, 3) := by decide +kernel
theorem dX5_oldBits_0 : decode cX5_oldBits 0 = .ok (.iconst 0, 1) := by decide +kernel
theorem dX5_oldBits_1 : decode cX5_oldBits 1 = .ok (.istore_n 1, 1) := by decide +kernel
theorem dX5_oldBits_2 : decode cX5_oldBits 2 = .ok (.iconst 0, 1) := by decide +kernel
theorem dX5_oldBits_3 : decode cX5_oldBits 3 = .ok (.istore_n 2, 1) := by decide +kernel
theorem dX5_oldBits_4 : decode cX5_oldBits 4 = .ok (.iload_n 2, 1) := by decide +kernel
theorem dX5_oldBits_5 : decode cX5_oldBits 5 = .ok (.aload_n 0, 1) := by decide +kernel
theorem dX5_oldBits_6 : decode cX5_oldBits 6 = .ok (.getfield 15, 3) := by decide +kernel
theorem dX5_oldBits_9 : decode cX5_oldBits 9 = .ok (.getfield 37, 3) := by decide +kernel
theorem dX5_oldBits_12 : decode cX5_oldBits 12 = .ok (.if_icmp .ge 23, 3) := by decide +kernel
theorem dX5_oldBits_35 : decode cX5_oldBits 35 = .ok (.iload_n 1, 1) := by decide +kernel
theorem dX5_oldBits_36 : decode cX5_oldBits 36 = .ok (.ireturn, 1) := by decide +kernel
theorem dX5_oldBits_15 : decode cX5_oldBits 15 = .ok (.aload_n 0, 1) := by decide +kernel
theorem dX5_oldBits_16 : decode cX5_oldBits 16 = .ok (.iload_n 2, 1) := by decide +kernel
theorem dX5_oldBits_17 : decode cX5_oldBits 17 = .ok (.invokevirtual 57, 3) := by decide +kernel
theorem dX5_oldBits_20 : decode cX5_oldBits 20 = .ok (.ifCond .eq 9, 3) := by decide +kernel
theorem dX5_oldBits_29 : decode cX5_oldBits 29 = .ok (.iinc 2 1, 3) := by decide +kernel
theorem dX5_oldBits_32 : decode cX5_oldBits 32 = .ok (.goto (-28), 3) := by decide +kernel
theorem dX5_oldBits_23 : decode cX5_oldBits 23 = .ok (.iload_n 1, 1) := by decide +kernel
theorem dX5_oldBits_24 : decode cX5_oldBits 24 = .ok (.iconst 1, 1) := by decide +kernel
theorem dX5_oldBits_25 : decode cX5_oldBits 25 = .ok (.iload_n 2, 1) := by decide +kernel
theorem dX5_oldBits_26 : decode cX5_oldBits 26 = .ok (.ishl, 1) := by decide +kernel
theorem dX5_oldBits_27 : decode cX5_oldBits 27 = .ok (.ior, 1) := by decide +kernel
theorem dX5_oldBits_28 : decode cX5_oldBits 28 = .ok (.istore_n 1, 1) := by decide +kernel
theorem dX9_told_116 : decode cX9_told 116 = .ok (.invokevirtual 188, 3) := by decide +kernel
theorem dX9_told_119 : decode cX9_told 119 = .ok (.ireturn, 1) := by decide +kernel
theorem dX9_told_120 : decode cX9_told 120 = .ok (.aload_n 0, 1) := by decide +kernel
theorem dX9_told_121 : decode cX9_told 121 = .ok (.getfield 58, 3) := by decide +kernel
theorem dX5_allSlips_0 : decode cX5_allSlips 0 = .ok (.iconst 0, 1) := by decide +kernel
theorem dX5_allSlips_1 : decode cX5_allSlips 1 = .ok (.istore_n 1, 1) := by decide +kernel
theorem dX5_allSlips_2 : decode cX5_allSlips 2 = .ok (.iconst 0, 1) := by decide +kernel
theorem dX5_allSlips_3 : decode cX5_allSlips 3 = .ok (.istore_n 2, 1) := by decide +kernel
theorem dX5_allSlips_4 : decode cX5_allSlips 4 = .ok (.iload_n 2, 1) := by decide +kernel
theorem dX5_allSlips_5 : decode cX5_allSlips 5 = .ok (.aload_n 0, 1) := by decide +kernel
theorem dX5_allSlips_6 : decode cX5_allSlips 6 = .ok (.getfield 15, 3) := by decide +kernel
theorem dX5_allSlips_9 : decode cX5_allSlips 9 = .ok (.getfield 37, 3) := by decide +kernel
theorem dX5_allSlips_12 : decode cX5_allSlips 12 = .ok (.if_icmp .ge 21, 3) := by decide +kernel
theorem dX5_allSlips_33 : decode cX5_allSlips 33 = .ok (.iload_n 1, 1) := by decide +kernel
theorem dX5_allSlips_34 : decode cX5_allSlips 34 = .ok (.ireturn, 1) := by decide +kernel
theorem dX5_allSlips_15 : decode cX5_allSlips 15 = .ok (.iload_n 1, 1) := by decide +kernel
theorem dX5_allSlips_16 : decode cX5_allSlips 16 = .ok (.aload_n 0, 1) := by decide +kernel
theorem dX5_allSlips_17 : decode cX5_allSlips 17 = .ok (.getfield 11, 3) := by decide +kernel
theorem dX5_allSlips_20 : decode cX5_allSlips 20 = .ok (.bipush 60, 2) := by decide +kernel
theorem dX5_allSlips_22 : decode cX5_allSlips 22 = .ok (.iload_n 2, 1) := by decide +kernel
theorem dX5_allSlips_23 : decode cX5_allSlips 23 = .ok (.iadd, 1) := by decide +kernel
theorem dX5_allSlips_24 : decode cX5_allSlips 24 = .ok (.iaload, 1) := by decide +kernel
theorem dX5_allSlips_25 : decode cX5_allSlips 25 = .ok (.iadd, 1) := by decide +kernel
theorem dX5_allSlips_26 : decode cX5_allSlips 26 = .ok (.istore_n 1, 1) := by decide +kernel
theorem dX5_allSlips_27 : decode cX5_allSlips 27 = .ok (.iinc 2 1, 3) := by decide +kernel
theorem dX5_allSlips_30 : decode cX5_allSlips 30 = .ok (.goto (-26), 3) := by decide +kernel
theorem dX9_told_124 : decode cX9_told 124 = .ok (.invokevirtual 191, 3) := by decide +kernel
theorem dX9_told_127 : decode cX9_told 127 = .ok (.ireturn, 1) := by decide +kernel
theorem dX9_told_128 : decode cX9_told 128 = .ok (.aload_n 0, 1) := by decide +kernel
theorem dX9_told_129 : decode cX9_told 129 = .ok (.getfield 58, 3) := by decide +kernel
theorem dX5_everyLine_0 : decode cX5_everyLine 0 = .ok (.iconst 0, 1) := by decide +kernel
theorem dX5_everyLine_1 : decode cX5_everyLine 1 = .ok (.istore_n 1, 1) := by decide +kernel
theorem dX5_everyLine_2 : decode cX5_everyLine 2 = .ok (.iconst 0, 1) := by decide +kernel
theorem dX5_everyLine_3 : decode cX5_everyLine 3 = .ok (.istore_n 2, 1) := by decide +kernel
theorem dX5_everyLine_4 : decode cX5_everyLine 4 = .ok (.iload_n 2, 1) := by decide +kernel
theorem dX5_everyLine_5 : decode cX5_everyLine 5 = .ok (.aload_n 0, 1) := by decide +kernel
theorem dX5_everyLine_6 : decode cX5_everyLine 6 = .ok (.getfield 15, 3) := by decide +kernel
theorem dX5_everyLine_9 : decode cX5_everyLine 9 = .ok (.getfield 37, 3) := by decide +kernel
theorem dX5_everyLine_12 : decode cX5_everyLine 12 = .ok (.if_icmp .ge 17, 3) := by decide +kernel
theorem dX5_everyLine_29 : decode cX5_everyLine 29 = .ok (.iload_n 1, 1) := by decide +kernel
theorem dX5_everyLine_30 : decode cX5_everyLine 30 = .ok (.ireturn, 1) := by decide +kernel
theorem dX5_everyLine_15 : decode cX5_everyLine 15 = .ok (.iload_n 1, 1) := by decide +kernel
theorem dX5_everyLine_16 : decode cX5_everyLine 16 = .ok (.aload_n 0, 1) := by decide +kernel
theorem dX5_everyLine_17 : decode cX5_everyLine 17 = .ok (.iload_n 2, 1) := by decide +kernel
theorem dX5_everyLine_18 : decode cX5_everyLine 18 = .ok (.invokevirtual 40, 3) := by decide +kernel
theorem dX5_everyLine_21 : decode cX5_everyLine 21 = .ok (.iadd, 1) := by decide +kernel
theorem dX5_everyLine_22 : decode cX5_everyLine 22 = .ok (.istore_n 1, 1) := by decide +kernel
theorem dX5_everyLine_23 : decode cX5_everyLine 23 = .ok (.iinc 2 1, 3) := by decide +kernel
theorem dX5_everyLine_26 : decode cX5_everyLine 26 = .ok (.goto (-22), 3) := by decide +kernel
theorem dX9_told_132 : decode cX9_told 132 = .ok (.invokevirtual 194, 3) := by decide +kernel
theorem dX9_told_135 : decode cX9_told 135 = .ok (.ireturn, 1) := by decide +kernel
theorem dX9_told_136 : decode cX9_told 136 = .ok (.aload_n 0, 1) := by decide +kernel
theorem dX9_told_137 : decode cX9_told 137 = .ok (.getfield 44, 3) := by decide +kernel
theorem dX9_told_140 : decode cX9_told 140 = .ok (.getfield 113, 3) := by decide +kernel
theorem dX9_told_143 : decode cX9_told 143 = .ok (.ireturn, 1) := by decide +kernel
theorem dX9_told_144 : decode cX9_told 144 = .ok (.aload_n 0, 1) := by decide +kernel
theorem dX9_told_145 : decode cX9_told 145 = .ok (.getfield 120, 3) := by decide +kernel
theorem dX9_told_148 : decode cX9_told 148 = .ok (.ireturn, 1) := by decide +kernel
theorem dX9_told_149 : decode cX9_told 149 = .ok (.aload_n 0, 1) := by decide +kernel
theorem dX9_told_150 : decode cX9_told 150 = .ok (.getfield 27, 3) := by decide +kernel
theorem dX9_told_153 : decode cX9_told 153 = .ok (.getfield 197, 3) := by decide +kernel
theorem dX9_told_156 : decode cX9_told 156 = .ok (.ireturn, 1) := by decide +kernel
theorem dX9_told_157 : decode cX9_told 157 = .ok (.aload_n 0, 1) := by decide +kernel
theorem dX9_told_158 : decode cX9_told 158 = .ok (.invokevirtual 200, 3) := by decide +kernel
theorem dX9_told_161 : decode cX9_told 161 = .ok (.ireturn, 1) := by decide +kernel
theorem dX9_poem_0 : decode cX9_poem 0 = .ok (.aload_n 0, 1) := by decide +kernel
theorem dX9_poem_1 : decode cX9_poem 1 = .ok (.iload_n 1, 1) := by decide +kernel
theorem dX9_needPoem_0 : decode cX9_needPoem 0 = .ok (.aload_n 0, 1) := by decide +kernel
theorem dX9_needPoem_1 : decode cX9_needPoem 1 = .ok (.iload_n 1, 1) := by decide +kernel
theorem dX9_needPoem_2 : decode cX9_needPoem 2 = .ok (.aload_n 0, 1) := by decide +kernel
theorem dX9_needPoem_3 : decode cX9_needPoem 3 = .ok (.getfield 27, 3) := by decide +kernel
theorem dX9_needPoem_6 : decode cX9_needPoem 6 = .ok (.getfield 172, 3) := by decide +kernel
theorem dX9_needElement_0 : decode cX9_needElement 0 = .ok (.iload_n 1, 1) := by decide +kernel
theorem dX9_needElement_1 : decode cX9_needElement 1 = .ok (.ifCond .lt 8, 3) := by decide +kernel
theorem dX9_needElement_4 : decode cX9_needElement 4 = .ok (.iload_n 1, 1) := by decide +kernel
theorem dX9_needElement_5 : decode cX9_needElement 5 = .ok (.iload_n 2, 1) := by decide +kernel
theorem dX9_needElement_6 : decode cX9_needElement 6 = .ok (.if_icmp .lt 24, 3) := by decide +kernel
theorem dX9_needElement_30 : decode cX9_needElement 30 = .ok (.return_, 1) := by decide +kernel
theorem dX9_needElement_9 : decode cX9_needElement 9 = .ok (.aload_n 0, 1) := by decide +kernel
theorem dX9_needElement_10 : decode cX9_needElement 10 = .ok (.dup, 1) := by decide +kernel
theorem dX9_needElement_11 : decode cX9_needElement 11 = .ok (.getfield 371, 3) := by decide +kernel
theorem dX9_needElement_14 : decode cX9_needElement 14 = .ok (.iconst 1, 1) := by decide +kernel
theorem dX9_needElement_15 : decode cX9_needElement 15 = .ok (.iadd, 1) := by decide +kernel
theorem dX9_needElement_16 : decode cX9_needElement 16 = .ok (.putfield 371, 3) := by decide +kernel
theorem dX9_needElement_19 : decode cX9_needElement 19 = .ok (.new 390, 3) := by decide +kernel
theorem dX9_needElement_22 : decode cX9_needElement 22 = .ok (.dup, 1) := by decide +kernel
theorem dX9_needElement_23 : decode cX9_needElement 23 = .ok (.ldc_w 392, 3) := by decide +kernel
theorem dX9_needElement_26 : decode cX9_needElement 26 = .ok (.invokespecial 394, 3) := by decide +kernel
theorem dX9_needElement_29 : decode cX9_needElement 29 = .ok (.athrow, 1) := by decide +kernel
theorem dX9_needPoem_9 : decode cX9_needPoem 9 = .ok (.invokevirtual 387, 3) := by decide +kernel
theorem dX9_needPoem_12 : decode cX9_needPoem 12 = .ok (.return_, 1) := by decide +kernel
theorem dX9_poem_2 : decode cX9_poem 2 = .ok (.invokevirtual 203, 3) := by decide +kernel
theorem dX9_poem_5 : decode cX9_poem 5 = .ok (.iload_n 2, 1) := by decide +kernel
theorem dX9_poem_6 : decode cX9_poem 6 = .ok (.tableswitch 78 0 3 #[30, 40, 50, 59], 30) := by decide +kernel
theorem dX9_poem_36 : decode cX9_poem 36 = .ok (.aload_n 0, 1) := by decide +kernel
theorem dX9_poem_37 : decode cX9_poem 37 = .ok (.getfield 27, 3) := by decide +kernel
theorem dX9_poem_40 : decode cX9_poem 40 = .ok (.getfield 206, 3) := by decide +kernel
theorem dX9_poem_43 : decode cX9_poem 43 = .ok (.iload_n 1, 1) := by decide +kernel
theorem dX9_poem_44 : decode cX9_poem 44 = .ok (.iaload, 1) := by decide +kernel
theorem dX9_poem_45 : decode cX9_poem 45 = .ok (.ireturn, 1) := by decide +kernel
theorem dX9_poem_46 : decode cX9_poem 46 = .ok (.aload_n 0, 1) := by decide +kernel
theorem dX9_poem_47 : decode cX9_poem 47 = .ok (.getfield 27, 3) := by decide +kernel
theorem dX9_poem_50 : decode cX9_poem 50 = .ok (.getfield 209, 3) := by decide +kernel
theorem dX9_poem_53 : decode cX9_poem 53 = .ok (.iload_n 1, 1) := by decide +kernel
theorem dX9_poem_54 : decode cX9_poem 54 = .ok (.iaload, 1) := by decide +kernel
theorem dX9_poem_55 : decode cX9_poem 55 = .ok (.ireturn, 1) := by decide +kernel
theorem dX9_poem_56 : decode cX9_poem 56 = .ok (.aload_n 0, 1) := by decide +kernel
theorem dX9_poem_57 : decode cX9_poem 57 = .ok (.getfield 58, 3) := by decide +kernel
theorem dX9_poem_60 : decode cX9_poem 60 = .ok (.iload_n 1, 1) := by decide +kernel
theorem dX5_whoKnowAll_0 : decode cX5_whoKnowAll 0 = .ok (.iconst 0, 1) := by decide +kernel
theorem dX5_whoKnowAll_1 : decode cX5_whoKnowAll 1 = .ok (.istore_n 2, 1) := by decide +kernel
theorem dX5_whoKnowAll_2 : decode cX5_whoKnowAll 2 = .ok (.iconst 0, 1) := by decide +kernel
theorem dX5_whoKnowAll_3 : decode cX5_whoKnowAll 3 = .ok (.istore_n 3, 1) := by decide +kernel
theorem dX5_whoKnowAll_4 : decode cX5_whoKnowAll 4 = .ok (.iload_n 3, 1) := by decide +kernel
theorem dX5_whoKnowAll_5 : decode cX5_whoKnowAll 5 = .ok (.aload_n 0, 1) := by decide +kernel
theorem dX5_whoKnowAll_6 : decode cX5_whoKnowAll 6 = .ok (.getfield 15, 3) := by decide +kernel
theorem dX5_whoKnowAll_9 : decode cX5_whoKnowAll 9 = .ok (.getfield 37, 3) := by decide +kernel
theorem dX5_whoKnowAll_12 : decode cX5_whoKnowAll 12 = .ok (.if_icmp .ge 24, 3) := by decide +kernel
theorem dX5_whoKnowAll_36 : decode cX5_whoKnowAll 36 = .ok (.iload_n 2, 1) := by decide +kernel
theorem dX5_whoKnowAll_37 : decode cX5_whoKnowAll 37 = .ok (.ireturn, 1) := by decide +kernel
theorem dX5_whoKnowAll_15 : decode cX5_whoKnowAll 15 = .ok (.aload_n 0, 1) := by decide +kernel
theorem dX5_whoKnowAll_16 : decode cX5_whoKnowAll 16 = .ok (.iload_n 3, 1) := by decide +kernel
theorem dX5_whoKnowAll_17 : decode cX5_whoKnowAll 17 = .ok (.iload_n 1, 1) := by decide +kernel
theorem dX5_knowsAll_0 : decode cX5_knowsAll 0 = .ok (.aload_n 0, 1) := by decide +kernel
theorem dX5_knowsAll_1 : decode cX5_knowsAll 1 = .ok (.getfield 11, 3) := by decide +kernel
theorem dX5_knowsAll_4 : decode cX5_knowsAll 4 = .ok (.iload_n 1, 1) := by decide +kernel
theorem dX5_knowsAll_5 : decode cX5_knowsAll 5 = .ok (.iload_n 2, 1) := by decide +kernel
theorem dX5_knowsAll_6 : decode cX5_knowsAll 6 = .ok (.invokestatic 29, 3) := by decide +kernel
theorem dX5_knowsAll_9 : decode cX5_knowsAll 9 = .ok (.iaload, 1) := by decide +kernel
theorem dX5_knowsAll_10 : decode cX5_knowsAll 10 = .ok (.aload_n 0, 1) := by decide +kernel
theorem dX5_knowsAll_11 : decode cX5_knowsAll 11 = .ok (.getfield 15, 3) := by decide +kernel
theorem dX5_knowsAll_14 : decode cX5_knowsAll 14 = .ok (.getfield 70, 3) := by decide +kernel
theorem dX5_knowsAll_17 : decode cX5_knowsAll 17 = .ok (.iload_n 2, 1) := by decide +kernel
theorem dX5_knowsAll_18 : decode cX5_knowsAll 18 = .ok (.iaload, 1) := by decide +kernel
theorem dX5_knowsAll_19 : decode cX5_knowsAll 19 = .ok (.if_icmp .lt 7, 3) := by decide +kernel
theorem dX5_knowsAll_26 : decode cX5_knowsAll 26 = .ok (.iconst 0, 1) := by decide +kernel
theorem dX5_knowsAll_27 : decode cX5_knowsAll 27 = .ok (.ireturn, 1) := by decide +kernel
theorem dX5_knowsAll_22 : decode cX5_knowsAll 22 = .ok (.iconst 1, 1) := by decide +kernel
theorem dX5_knowsAll_23 : decode cX5_knowsAll 23 = .ok (.goto 4, 3) := by decide +kernel
theorem dX5_whoKnowAll_18 : decode cX5_whoKnowAll 18 = .ok (.invokevirtual 66, 3) := by decide +kernel
theorem dX5_whoKnowAll_21 : decode cX5_whoKnowAll 21 = .ok (.ifCond .eq 9, 3) := by decide +kernel
theorem dX5_whoKnowAll_30 : decode cX5_whoKnowAll 30 = .ok (.iinc 3 1, 3) := by decide +kernel
theorem dX5_whoKnowAll_33 : decode cX5_whoKnowAll 33 = .ok (.goto (-29), 3) := by decide +kernel
theorem dX5_whoKnowAll_24 : decode cX5_whoKnowAll 24 = .ok (.iload_n 2, 1) := by decide +kernel
theorem dX5_whoKnowAll_25 : decode cX5_whoKnowAll 25 = .ok (.iconst 1, 1) := by decide +kernel
theorem dX5_whoKnowAll_26 : decode cX5_whoKnowAll 26 = .ok (.iload_n 3, 1) := by decide +kernel
theorem dX5_whoKnowAll_27 : decode cX5_whoKnowAll 27 = .ok (.ishl, 1) := by decide +kernel
theorem dX5_whoKnowAll_28 : decode cX5_whoKnowAll 28 = .ok (.ior, 1) := by decide +kernel
theorem dX5_whoKnowAll_29 : decode cX5_whoKnowAll 29 = .ok (.istore_n 2, 1) := by decide +kernel
theorem dX9_poem_61 : decode cX9_poem 61 = .ok (.invokevirtual 212, 3) := by decide +kernel
theorem dX9_poem_64 : decode cX9_poem 64 = .ok (.ireturn, 1) := by decide +kernel
theorem dX9_poem_65 : decode cX9_poem 65 = .ok (.aload_n 0, 1) := by decide +kernel
theorem dX9_poem_66 : decode cX9_poem 66 = .ok (.getfield 27, 3) := by decide +kernel
theorem dX9_poem_69 : decode cX9_poem 69 = .ok (.iload_n 1, 1) := by decide +kernel
theorem dX7_debtsByPoem_0 : decode cX7_debtsByPoem 0 = .ok (.iconst 0, 1) := by decide +kernel
theorem dX7_debtsByPoem_1 : decode cX7_debtsByPoem 1 = .ok (.istore_n 2, 1) := by decide +kernel
theorem dX7_debtsByPoem_2 : decode cX7_debtsByPoem 2 = .ok (.iconst 0, 1) := by decide +kernel
theorem dX7_debtsByPoem_3 : decode cX7_debtsByPoem 3 = .ok (.istore_n 3, 1) := by decide +kernel
theorem dX7_debtsByPoem_4 : decode cX7_debtsByPoem 4 = .ok (.iload_n 3, 1) := by decide +kernel
theorem dX7_debtsByPoem_5 : decode cX7_debtsByPoem 5 = .ok (.aload_n 0, 1) := by decide +kernel
theorem dX7_debtsByPoem_6 : decode cX7_debtsByPoem 6 = .ok (.getfield 44, 3) := by decide +kernel
theorem dX7_debtsByPoem_9 : decode cX7_debtsByPoem 9 = .ok (.if_icmp .ge 25, 3) := by decide +kernel
theorem dX7_debtsByPoem_34 : decode cX7_debtsByPoem 34 = .ok (.iload_n 2, 1) := by decide +kernel
theorem dX7_debtsByPoem_35 : decode cX7_debtsByPoem 35 = .ok (.ireturn, 1) := by decide +kernel
theorem dX7_debtsByPoem_12 : decode cX7_debtsByPoem 12 = .ok (.aload_n 0, 1) := by decide +kernel
theorem dX7_debtsByPoem_13 : decode cX7_debtsByPoem 13 = .ok (.getfield 29, 3) := by decide +kernel
theorem dX7_debtsByPoem_16 : decode cX7_debtsByPoem 16 = .ok (.iload_n 3, 1) := by decide +kernel
theorem dX7_debtsByPoem_17 : decode cX7_debtsByPoem 17 = .ok (.iaload, 1) := by decide +kernel
theorem dX7_debtsByPoem_18 : decode cX7_debtsByPoem 18 = .ok (.iload_n 1, 1) := by decide +kernel
theorem dX7_debtsByPoem_19 : decode cX7_debtsByPoem 19 = .ok (.if_icmp .ne 9, 3) := by decide +kernel
theorem dX7_debtsByPoem_28 : decode cX7_debtsByPoem 28 = .ok (.iinc 3 1, 3) := by decide +kernel
theorem dX7_debtsByPoem_31 : decode cX7_debtsByPoem 31 = .ok (.goto (-27), 3) := by decide +kernel
theorem dX7_debtsByPoem_22 : decode cX7_debtsByPoem 22 = .ok (.iload_n 2, 1) := by decide +kernel
theorem dX7_debtsByPoem_23 : decode cX7_debtsByPoem 23 = .ok (.iconst 1, 1) := by decide +kernel
theorem dX7_debtsByPoem_24 : decode cX7_debtsByPoem 24 = .ok (.iload_n 3, 1) := by decide +kernel
theorem dX7_debtsByPoem_25 : decode cX7_debtsByPoem 25 = .ok (.ishl, 1) := by decide +kernel
theorem dX7_debtsByPoem_26 : decode cX7_debtsByPoem 26 = .ok (.ior, 1) := by decide +kernel
theorem dX7_debtsByPoem_27 : decode cX7_debtsByPoem 27 = .ok (.istore_n 2, 1) := by decide +kernel
theorem dX9_poem_70 : decode cX9_poem 70 = .ok (.invokevirtual 216, 3) := by decide +kernel
theorem dX9_poem_73 : decode cX9_poem 73 = .ok (.aload_n 0, 1) := by decide +kernel
theorem dX9_poem_74 : decode cX9_poem 74 = .ok (.getfield 58, 3) := by decide +kernel
theorem dX9_poem_77 : decode cX9_poem 77 = .ok (.invokevirtual 182, 3) := by decide +kernel
theorem dX9_poem_80 : decode cX9_poem 80 = .ok (.iconst (-1), 1) := by decide +kernel
theorem dX9_poem_81 : decode cX9_poem 81 = .ok (.ixor, 1) := by decide +kernel
theorem dX9_poem_82 : decode cX9_poem 82 = .ok (.iand, 1) := by decide +kernel
theorem dX9_poem_83 : decode cX9_poem 83 = .ok (.ireturn, 1) := by decide +kernel
theorem dX9_poem_84 : decode cX9_poem 84 = .ok (.aload_n 0, 1) := by decide +kernel
theorem dX9_poem_85 : decode cX9_poem 85 = .ok (.invokevirtual 200, 3) := by decide +kernel
theorem dX9_poem_88 : decode cX9_poem 88 = .ok (.ireturn, 1) := by decide +kernel
theorem dX9_man_0 : decode cX9_man 0 = .ok (.aload_n 0, 1) := by decide +kernel
theorem dX9_man_1 : decode cX9_man 1 = .ok (.iload_n 1, 1) := by decide +kernel
theorem dX9_needMan_0 : decode cX9_needMan 0 = .ok (.aload_n 0, 1) := by decide +kernel
theorem dX9_needMan_1 : decode cX9_needMan 1 = .ok (.iload_n 1, 1) := by decide +kernel
theorem dX9_needMan_2 : decode cX9_needMan 2 = .ok (.aload_n 0, 1) := by decide +kernel
theorem dX9_needMan_3 : decode cX9_needMan 3 = .ok (.getfield 27, 3) := by decide +kernel
theorem dX9_needMan_6 : decode cX9_needMan 6 = .ok (.getfield 175, 3) := by decide +kernel
theorem dX9_needMan_9 : decode cX9_needMan 9 = .ok (.invokevirtual 387, 3) := by decide +kernel
theorem dX9_needMan_12 : decode cX9_needMan 12 = .ok (.return_, 1) := by decide +kernel
theorem dX9_man_2 : decode cX9_man 2 = .ok (.invokevirtual 219, 3) := by decide +kernel
theorem dX9_man_5 : decode cX9_man 5 = .ok (.iload_n 2, 1) := by decide +kernel
theorem dX9_man_6 : decode cX9_man 6 = .ok (.tableswitch 142 0 8 #[50, 60, 69, 78, 87, 96, 105, 114, 133], 50) := by decide +kernel
theorem dX9_man_56 : decode cX9_man 56 = .ok (.aload_n 0, 1) := by decide +kernel
theorem dX9_man_57 : decode cX9_man 57 = .ok (.getfield 27, 3) := by decide +kernel
theorem dX9_man_60 : decode cX9_man 60 = .ok (.getfield 222, 3) := by decide +kernel
theorem dX9_man_63 : decode cX9_man 63 = .ok (.iload_n 1, 1) := by decide +kernel
theorem dX9_man_64 : decode cX9_man 64 = .ok (.iaload, 1) := by decide +kernel
theorem dX9_man_65 : decode cX9_man 65 = .ok (.ireturn, 1) := by decide +kernel
theorem dX9_man_66 : decode cX9_man 66 = .ok (.aload_n 0, 1) := by decide +kernel
theorem dX9_man_67 : decode cX9_man 67 = .ok (.getfield 58, 3) := by decide +kernel
theorem dX9_man_70 : decode cX9_man 70 = .ok (.iload_n 1, 1) := by decide +kernel
theorem dX9_man_71 : decode cX9_man 71 = .ok (.invokevirtual 225, 3) := by decide +kernel
theorem dX9_man_74 : decode cX9_man 74 = .ok (.ireturn, 1) := by decide +kernel
theorem dX9_man_75 : decode cX9_man 75 = .ok (.aload_n 0, 1) := by decide +kernel
theorem dX9_man_76 : decode cX9_man 76 = .ok (.getfield 58, 3) := by decide +kernel
theorem dX9_man_79 : decode cX9_man 79 = .ok (.iload_n 1, 1) := by decide +kernel
theorem dX9_man_80 : decode cX9_man 80 = .ok (.invokevirtual 228, 3) := by decide +kernel
theorem dX9_man_83 : decode cX9_man 83 = .ok (.ireturn, 1) := by decide +kernel
theorem dX9_man_84 : decode cX9_man 84 = .ok (.aload_n 0, 1) := by decide +kernel
theorem dX9_man_85 : decode cX9_man 85 = .ok (.getfield 58, 3) := by decide +kernel
theorem dX9_man_88 : decode cX9_man 88 = .ok (.iload_n 1, 1) := by decide +kernel
theorem dX9_man_89 : decode cX9_man 89 = .ok (.invokevirtual 231, 3) := by decide +kernel
theorem dX9_man_92 : decode cX9_man 92 = .ok (.ireturn, 1) := by decide +kernel
theorem dX9_man_93 : decode cX9_man 93 = .ok (.aload_n 0, 1) := by decide +kernel
theorem dX9_man_94 : decode cX9_man 94 = .ok (.getfield 58, 3) := by decide +kernel
theorem dX9_man_97 : decode cX9_man 97 = .ok (.iload_n 1, 1) := by decide +kernel
theorem dX5_lessonsOf_0 : decode cX5_lessonsOf 0 = .ok (.aload_n 0, 1) := by decide +kernel
theorem dX5_lessonsOf_1 : decode cX5_lessonsOf 1 = .ok (.getfield 11, 3) := by decide +kernel
theorem dX5_lessonsOf_4 : decode cX5_lessonsOf 4 = .ok (.bipush 48, 2) := by decide +kernel
theorem dX5_lessonsOf_6 : decode cX5_lessonsOf 6 = .ok (.iload_n 1, 1) := by decide +kernel
theorem dX5_lessonsOf_7 : decode cX5_lessonsOf 7 = .ok (.iadd, 1) := by decide +kernel
theorem dX5_lessonsOf_8 : decode cX5_lessonsOf 8 = .ok (.iaload, 1) := by decide +kernel
theorem dX5_lessonsOf_9 : decode cX5_lessonsOf 9 = .ok (.ireturn, 1) := by decide +kernel
theorem dX9_man_98 : decode cX9_man 98 = .ok (.invokevirtual 234, 3) := by decide +kernel
theorem dX9_man_101 : decode cX9_man 101 = .ok (.ireturn, 1) := by decide +kernel
theorem dX9_man_102 : decode cX9_man 102 = .ok (.aload_n 0, 1) := by decide +kernel
theorem dX9_man_103 : decode cX9_man 103 = .ok (.getfield 58, 3) := by decide +kernel
theorem dX9_man_106 : decode cX9_man 106 = .ok (.iload_n 1, 1) := by decide +kernel
theorem dX5_weekLessonsOf_0 : decode cX5_weekLessonsOf 0 = .ok (.aload_n 0, 1) := by decide +kernel
theorem dX5_weekLessonsOf_1 : decode cX5_weekLessonsOf 1 = .ok (.getfield 11, 3) := by decide +kernel
theorem dX5_weekLessonsOf_4 : decode cX5_weekLessonsOf 4 = .ok (.bipush 54, 2) := by decide +kernel
theorem dX5_weekLessonsOf_6 : decode cX5_weekLessonsOf 6 = .ok (.iload_n 1, 1) := by decide +kernel
theorem dX5_weekLessonsOf_7 : decode cX5_weekLessonsOf 7 = .ok (.iadd, 1) := by decide +kernel
theorem dX5_weekLessonsOf_8 : decode cX5_weekLessonsOf 8 = .ok (.iaload, 1) := by decide +kernel
theorem dX5_weekLessonsOf_9 : decode cX5_weekLessonsOf 9 = .ok (.ireturn, 1) := by decide +kernel
theorem dX9_man_107 : decode cX9_man 107 = .ok (.invokevirtual 237, 3) := by decide +kernel
theorem dX9_man_110 : decode cX9_man 110 = .ok (.ireturn, 1) := by decide +kernel
theorem dX9_man_111 : decode cX9_man 111 = .ok (.aload_n 0, 1) := by decide +kernel
theorem dX9_man_112 : decode cX9_man 112 = .ok (.getfield 58, 3) := by decide +kernel
theorem dX9_man_115 : decode cX9_man 115 = .ok (.iload_n 1, 1) := by decide +kernel
theorem dX5_slipsOf_0 : decode cX5_slipsOf 0 = .ok (.aload_n 0, 1) := by decide +kernel
theorem dX5_slipsOf_1 : decode cX5_slipsOf 1 = .ok (.getfield 11, 3) := by decide +kernel
theorem dX5_slipsOf_4 : decode cX5_slipsOf 4 = .ok (.bipush 60, 2) := by decide +kernel
theorem dX5_slipsOf_6 : decode cX5_slipsOf 6 = .ok (.iload_n 1, 1) := by decide +kernel
theorem dX5_slipsOf_7 : decode cX5_slipsOf 7 = .ok (.iadd, 1) := by decide +kernel
theorem dX5_slipsOf_8 : decode cX5_slipsOf 8 = .ok (.iaload, 1) := by decide +kernel
theorem dX5_slipsOf_9 : decode cX5_slipsOf 9 = .ok (.ireturn, 1) := by decide +kernel
theorem dX9_man_116 : decode cX9_man 116 = .ok (.invokevirtual 240, 3) := by decide +kernel
theorem dX9_man_119 : decode cX9_man 119 = .ok (.ireturn, 1) := by decide +kernel
theorem dX9_man_120 : decode cX9_man 120 = .ok (.aload_n 0, 1) := by decide +kernel
theorem dX9_man_121 : decode cX9_man 121 = .ok (.getfield 27, 3) := by decide +kernel
theorem dX9_man_124 : decode cX9_man 124 = .ok (.iload_n 1, 1) := by decide +kernel
theorem dX7_debtsOfMan_0 : decode cX7_debtsOfMan 0 = .ok (.iconst 0, 1) := by decide +kernel
theorem dX7_debtsOfMan_1 : decode cX7_debtsOfMan 1 = .ok (.istore_n 2, 1) := by decide +kernel
theorem dX7_debtsOfMan_2 : decode cX7_debtsOfMan 2 = .ok (.iconst 0, 1) := by decide +kernel
theorem dX7_debtsOfMan_3 : decode cX7_debtsOfMan 3 = .ok (.istore_n 3, 1) := by decide +kernel
theorem dX7_debtsOfMan_4 : decode cX7_debtsOfMan 4 = .ok (.iload_n 3, 1) := by decide +kernel
theorem dX7_debtsOfMan_5 : decode cX7_debtsOfMan 5 = .ok (.aload_n 0, 1) := by decide +kernel
theorem dX7_debtsOfMan_6 : decode cX7_debtsOfMan 6 = .ok (.getfield 44, 3) := by decide +kernel
theorem dX7_debtsOfMan_9 : decode cX7_debtsOfMan 9 = .ok (.if_icmp .ge 25, 3) := by decide +kernel
theorem dX7_debtsOfMan_34 : decode cX7_debtsOfMan 34 = .ok (.iload_n 2, 1) := by decide +kernel
theorem dX7_debtsOfMan_35 : decode cX7_debtsOfMan 35 = .ok (.ireturn, 1) := by decide +kernel
theorem dX7_debtsOfMan_12 : decode cX7_debtsOfMan 12 = .ok (.aload_n 0, 1) := by decide +kernel
theorem dX7_debtsOfMan_13 : decode cX7_debtsOfMan 13 = .ok (.getfield 26, 3) := by decide +kernel
theorem dX7_debtsOfMan_16 : decode cX7_debtsOfMan 16 = .ok (.iload_n 3, 1) := by decide +kernel
theorem dX7_debtsOfMan_17 : decode cX7_debtsOfMan 17 = .ok (.iaload, 1) := by decide +kernel
theorem dX7_debtsOfMan_18 : decode cX7_debtsOfMan 18 = .ok (.iload_n 1, 1) := by decide +kernel
theorem dX7_debtsOfMan_19 : decode cX7_debtsOfMan 19 = .ok (.if_icmp .ne 9, 3) := by decide +kernel
theorem dX7_debtsOfMan_28 : decode cX7_debtsOfMan 28 = .ok (.iinc 3 1, 3) := by decide +kernel
theorem dX7_debtsOfMan_31 : decode cX7_debtsOfMan 31 = .ok (.goto (-27), 3) := by decide +kernel
theorem dX7_debtsOfMan_22 : decode cX7_debtsOfMan 22 = .ok (.iload_n 2, 1) := by decide +kernel
theorem dX7_debtsOfMan_23 : decode cX7_debtsOfMan 23 = .ok (.iconst 1, 1) := by decide +kernel
theorem dX7_debtsOfMan_24 : decode cX7_debtsOfMan 24 = .ok (.iload_n 3, 1) := by decide +kernel
theorem dX7_debtsOfMan_25 : decode cX7_debtsOfMan 25 = .ok (.ishl, 1) := by decide +kernel
theorem dX7_debtsOfMan_26 : decode cX7_debtsOfMan 26 = .ok (.ior, 1) := by decide +kernel
theorem dX7_debtsOfMan_27 : decode cX7_debtsOfMan 27 = .ok (.istore_n 2, 1) := by decide +kernel
theorem dX9_man_125 : decode cX9_man 125 = .ok (.invokevirtual 243, 3) := by decide +kernel
theorem dX9_man_128 : decode cX9_man 128 = .ok (.aload_n 0, 1) := by decide +kernel
theorem dX9_man_129 : decode cX9_man 129 = .ok (.getfield 58, 3) := by decide +kernel
theorem dX9_man_132 : decode cX9_man 132 = .ok (.invokevirtual 182, 3) := by decide +kernel
theorem dX9_man_135 : decode cX9_man 135 = .ok (.iconst (-1), 1) := by decide +kernel
theorem dX9_man_136 : decode cX9_man 136 = .ok (.ixor, 1) := by decide +kernel
theorem dX9_man_137 : decode cX9_man 137 = .ok (.iand, 1) := by decide +kernel
theorem dX9_man_138 : decode cX9_man 138 = .ok (.ireturn, 1) := by decide +kernel
theorem dX9_man_139 : decode cX9_man 139 = .ok (.aload_n 0, 1) := by decide +kernel
theorem dX9_man_140 : decode cX9_man 140 = .ok (.getfield 58, 3) := by decide +kernel
theorem dX9_man_143 : decode cX9_man 143 = .ok (.iload_n 1, 1) := by decide +kernel
theorem dX5_freshBitsOf_0 : decode cX5_freshBitsOf 0 = .ok (.aload_n 0, 1) := by decide +kernel
theorem dX5_freshBitsOf_1 : decode cX5_freshBitsOf 1 = .ok (.getfield 11, 3) := by decide +kernel
theorem dX5_freshBitsOf_4 : decode cX5_freshBitsOf 4 = .ok (.bipush 66, 2) := by decide +kernel
theorem dX5_freshBitsOf_6 : decode cX5_freshBitsOf 6 = .ok (.iload_n 1, 1) := by decide +kernel
theorem dX5_freshBitsOf_7 : decode cX5_freshBitsOf 7 = .ok (.iadd, 1) := by decide +kernel
theorem dX5_freshBitsOf_8 : decode cX5_freshBitsOf 8 = .ok (.iaload, 1) := by decide +kernel
theorem dX5_freshBitsOf_9 : decode cX5_freshBitsOf 9 = .ok (.ireturn, 1) := by decide +kernel
theorem dX9_man_144 : decode cX9_man 144 = .ok (.invokevirtual 246, 3) := by decide +kernel
theorem dX9_man_147 : decode cX9_man 147 = .ok (.ireturn, 1) := by decide +kernel
theorem dX9_man_148 : decode cX9_man 148 = .ok (.aload_n 0, 1) := by decide +kernel
theorem dX9_man_149 : decode cX9_man 149 = .ok (.invokevirtual 200, 3) := by decide +kernel
theorem dX9_man_152 : decode cX9_man 152 = .ok (.ireturn, 1) := by decide +kernel
theorem dX9_debt_0 : decode cX9_debt 0 = .ok (.aload_n 0, 1) := by decide +kernel
theorem dX9_debt_1 : decode cX9_debt 1 = .ok (.iload_n 1, 1) := by decide +kernel
theorem dX9_needDebt_0 : decode cX9_needDebt 0 = .ok (.aload_n 0, 1) := by decide +kernel
theorem dX9_needDebt_1 : decode cX9_needDebt 1 = .ok (.iload_n 1, 1) := by decide +kernel
theorem dX9_needDebt_2 : decode cX9_needDebt 2 = .ok (.aload_n 0, 1) := by decide +kernel
theorem dX9_needDebt_3 : decode cX9_needDebt 3 = .ok (.getfield 27, 3) := by decide +kernel
theorem dX9_needDebt_6 : decode cX9_needDebt 6 = .ok (.getfield 123, 3) := by decide +kernel
theorem dX9_needDebt_9 : decode cX9_needDebt 9 = .ok (.invokevirtual 387, 3) := by decide +kernel
theorem dX9_needDebt_12 : decode cX9_needDebt 12 = .ok (.return_, 1) := by decide +kernel
theorem dX9_debt_2 : decode cX9_debt 2 = .ok (.invokevirtual 249, 3) := by decide +kernel
theorem dX9_debt_5 : decode cX9_debt 5 = .ok (.iload_n 2, 1) := by decide +kernel
theorem dX9_debt_6 : decode cX9_debt 6 = .ok (.tableswitch 140 0 6 #[42, 52, 62, 72, 82, 99, 116], 42) := by decide +kernel
theorem dX9_debt_48 : decode cX9_debt 48 = .ok (.aload_n 0, 1) := by decide +kernel
theorem dX9_debt_49 : decode cX9_debt 49 = .ok (.getfield 27, 3) := by decide +kernel
theorem dX9_debt_52 : decode cX9_debt 52 = .ok (.getfield 252, 3) := by decide +kernel
theorem dX9_debt_55 : decode cX9_debt 55 = .ok (.iload_n 1, 1) := by decide +kernel
theorem dX9_debt_56 : decode cX9_debt 56 = .ok (.iaload, 1) := by decide +kernel
theorem dX9_debt_57 : decode cX9_debt 57 = .ok (.ireturn, 1) := by decide +kernel
theorem dX9_debt_58 : decode cX9_debt 58 = .ok (.aload_n 0, 1) := by decide +kernel
theorem dX9_debt_59 : decode cX9_debt 59 = .ok (.getfield 27, 3) := by decide +kernel
theorem dX9_debt_62 : decode cX9_debt 62 = .ok (.getfield 255, 3) := by decide +kernel
theorem dX9_debt_65 : decode cX9_debt 65 = .ok (.iload_n 1, 1) := by decide +kernel
theorem dX9_debt_66 : decode cX9_debt 66 = .ok (.iaload, 1) := by decide +kernel
theorem dX9_debt_67 : decode cX9_debt 67 = .ok (.ireturn, 1) := by decide +kernel
theorem dX9_debt_68 : decode cX9_debt 68 = .ok (.aload_n 0, 1) := by decide +kernel
theorem dX9_debt_69 : decode cX9_debt 69 = .ok (.getfield 27, 3) := by decide +kernel
theorem dX9_debt_72 : decode cX9_debt 72 = .ok (.getfield 258, 3) := by decide +kernel
theorem dX9_debt_75 : decode cX9_debt 75 = .ok (.iload_n 1, 1) := by decide +kernel
theorem dX9_debt_76 : decode cX9_debt 76 = .ok (.iaload, 1) := by decide +kernel
theorem dX9_debt_77 : decode cX9_debt 77 = .ok (.ireturn, 1) := by decide +kernel
theorem dX9_debt_78 : decode cX9_debt 78 = .ok (.aload_n 0, 1) := by decide +kernel
theorem dX9_debt_79 : decode cX9_debt 79 = .ok (.getfield 27, 3) := by decide +kernel
theorem dX9_debt_82 : decode cX9_debt 82 = .ok (.getfield 261, 3) := by decide +kernel
theorem dX9_debt_85 : decode cX9_debt 85 = .ok (.iload_n 1, 1) := by decide +kernel
theorem dX9_debt_86 : decode cX9_debt 86 = .ok (.iaload, 1) := by decide +kernel
theorem dX9_debt_87 : decode cX9_debt 87 = .ok (.ireturn, 1) := by decide +kernel
theorem dX9_debt_88 : decode cX9_debt 88 = .ok (.aload_n 0, 1) := by decide +kernel
theorem dX9_debt_89 : decode cX9_debt 89 = .ok (.getfield 58, 3) := by decide +kernel
theorem dX9_debt_92 : decode cX9_debt 92 = .ok (.iload_n 1, 1) := by decide +kernel
theorem dX9_debt_93 : decode cX9_debt 93 = .ok (.invokevirtual 264, 3) := by decide +kernel
theorem dX9_debt_96 : decode cX9_debt 96 = .ok (.ifCond .eq 7, 3) := by decide +kernel
theorem dX9_debt_103 : decode cX9_debt 103 = .ok (.iconst 0, 1) := by decide +kernel
theorem dX9_debt_104 : decode cX9_debt 104 = .ok (.ireturn, 1) := by decide +kernel
theorem dX9_debt_99 : decode cX9_debt 99 = .ok (.iconst 1, 1) := by decide +kernel
theorem dX9_debt_100 : decode cX9_debt 100 = .ok (.goto 4, 3) := by decide +kernel
theorem dX9_debt_105 : decode cX9_debt 105 = .ok (.aload_n 0, 1) := by decide +kernel
theorem dX9_debt_106 : decode cX9_debt 106 = .ok (.getfield 58, 3) := by decide +kernel
theorem dX9_debt_109 : decode cX9_debt 109 = .ok (.iload_n 1, 1) := by decide +kernel
theorem dX9_debt_110 : decode cX9_debt 110 = .ok (.invokevirtual 268, 3) := by decide +kernel
theorem dX9_debt_113 : decode cX9_debt 113 = .ok (.ifCond .eq 7, 3) := by decide +kernel
theorem dX9_debt_120 : decode cX9_debt 120 = .ok (.iconst 0, 1) := by decide +kernel
theorem dX9_debt_121 : decode cX9_debt 121 = .ok (.ireturn, 1) := by decide +kernel
theorem dX9_debt_116 : decode cX9_debt 116 = .ok (.iconst 1, 1) := by decide +kernel
theorem dX9_debt_117 : decode cX9_debt 117 = .ok (.goto 4, 3) := by decide +kernel
theorem dX9_debt_122 : decode cX9_debt 122 = .ok (.aload_n 0, 1) := by decide +kernel
theorem dX9_debt_123 : decode cX9_debt 123 = .ok (.getfield 58, 3) := by decide +kernel
theorem dX9_debt_126 : decode cX9_debt 126 = .ok (.iload_n 1, 1) := by decide +kernel
theorem dX9_debt_127 : decode cX9_debt 127 = .ok (.invokevirtual 264, 3) := by decide +kernel
theorem dX9_debt_130 : decode cX9_debt 130 = .ok (.ifCond .eq 7, 3) := by decide +kernel
theorem dX9_debt_137 : decode cX9_debt 137 = .ok (.aload_n 0, 1) := by decide +kernel
theorem dX9_debt_138 : decode cX9_debt 138 = .ok (.getfield 58, 3) := by decide +kernel
theorem dX9_debt_141 : decode cX9_debt 141 = .ok (.iload_n 1, 1) := by decide +kernel
theorem dX5_needOf_0 : decode cX5_needOf 0 = .ok (.aload_n 0, 1) := by decide +kernel
theorem dX5_needOf_1 : decode cX5_needOf 1 = .ok (.getfield 15, 3) := by decide +kernel
theorem dX5_needOf_4 : decode cX5_needOf 4 = .ok (.getfield 73, 3) := by decide +kernel
theorem dX5_needOf_7 : decode cX5_needOf 7 = .ok (.iload_n 1, 1) := by decide +kernel
theorem dX5_needOf_8 : decode cX5_needOf 8 = .ok (.iaload, 1) := by decide +kernel
theorem dX5_needOf_9 : decode cX5_needOf 9 = .ok (.istore_n 2, 1) := by decide +kernel
theorem dX5_needOf_10 : decode cX5_needOf 10 = .ok (.aload_n 0, 1) := by decide +kernel
theorem dX5_needOf_11 : decode cX5_needOf 11 = .ok (.getfield 15, 3) := by decide +kernel
theorem dX5_needOf_14 : decode cX5_needOf 14 = .ok (.getfield 76, 3) := by decide +kernel
theorem dX5_needOf_17 : decode cX5_needOf 17 = .ok (.iload_n 1, 1) := by decide +kernel
theorem dX5_needOf_18 : decode cX5_needOf 18 = .ok (.iaload, 1) := by decide +kernel
theorem dX5_needOf_19 : decode cX5_needOf 19 = .ok (.istore_n 3, 1) := by decide +kernel
theorem dX5_needOf_20 : decode cX5_needOf 20 = .ok (.aload_n 0, 1) := by decide +kernel
theorem dX5_needOf_21 : decode cX5_needOf 21 = .ok (.getfield 15, 3) := by decide +kernel
theorem dX5_needOf_24 : decode cX5_needOf 24 = .ok (.getfield 70, 3) := by decide +kernel
theorem dX5_needOf_27 : decode cX5_needOf 27 = .ok (.iload_n 3, 1) := by decide +kernel
theorem dX5_needOf_28 : decode cX5_needOf 28 = .ok (.iaload, 1) := by decide +kernel
theorem dX5_needOf_29 : decode cX5_needOf 29 = .ok (.aload_n 0, 1) := by decide +kernel
theorem dX5_needOf_30 : decode cX5_needOf 30 = .ok (.getfield 11, 3) := by decide +kernel
theorem dX5_needOf_33 : decode cX5_needOf 33 = .ok (.iload_n 2, 1) := by decide +kernel
theorem dX5_needOf_34 : decode cX5_needOf 34 = .ok (.iload_n 3, 1) := by decide +kernel
theorem dX5_needOf_35 : decode cX5_needOf 35 = .ok (.invokestatic 29, 3) := by decide +kernel
theorem dX5_needOf_38 : decode cX5_needOf 38 = .ok (.iaload, 1) := by decide +kernel
theorem dX5_needOf_39 : decode cX5_needOf 39 = .ok (.isub, 1) := by decide +kernel
theorem dX5_needOf_40 : decode cX5_needOf 40 = .ok (.istore 4, 2) := by decide +kernel
theorem dX5_needOf_42 : decode cX5_needOf 42 = .ok (.iload 4, 2) := by decide +kernel
theorem dX5_needOf_44 : decode cX5_needOf 44 = .ok (.ifCond .gt 5, 3) := by decide +kernel
theorem dX5_needOf_49 : decode cX5_needOf 49 = .ok (.aload_n 0, 1) := by decide +kernel
theorem dX5_needOf_50 : decode cX5_needOf 50 = .ok (.iload_n 2, 1) := by decide +kernel
theorem dX5_needOf_51 : decode cX5_needOf 51 = .ok (.iload_n 3, 1) := by decide +kernel
theorem dX5_needOf_52 : decode cX5_needOf 52 = .ok (.aload_n 0, 1) := by decide +kernel
theorem dX5_needOf_53 : decode cX5_needOf 53 = .ok (.iload_n 2, 1) := by decide +kernel
theorem dX5_needOf_54 : decode cX5_needOf 54 = .ok (.invokevirtual 82, 3) := by decide +kernel
theorem dX5_needOf_57 : decode cX5_needOf 57 = .ok (.invokevirtual 85, 3) := by decide +kernel
theorem dX5_needOf_60 : decode cX5_needOf 60 = .ok (.istore 5, 2) := by decide +kernel
theorem dX5_needOf_62 : decode cX5_needOf 62 = .ok (.iload 5, 2) := by decide +kernel
theorem dX5_needOf_64 : decode cX5_needOf 64 = .ok (.ifCond .gt 8, 3) := by decide +kernel
theorem dX5_needOf_72 : decode cX5_needOf 72 = .ok (.iload 4, 2) := by decide +kernel
theorem dX5_needOf_74 : decode cX5_needOf 74 = .ok (.iload 5, 2) := by decide +kernel
theorem dX5_needOf_76 : decode cX5_needOf 76 = .ok (.iadd, 1) := by decide +kernel
theorem dX5_needOf_77 : decode cX5_needOf 77 = .ok (.iconst 1, 1) := by decide +kernel
theorem dX5_needOf_78 : decode cX5_needOf 78 = .ok (.isub, 1) := by decide +kernel
theorem dX5_needOf_79 : decode cX5_needOf 79 = .ok (.iload 5, 2) := by decide +kernel
theorem dX5_needOf_81 : decode cX5_needOf 81 = .ok (.idiv, 1) := by decide +kernel
theorem dX5_needOf_82 : decode cX5_needOf 82 = .ok (.ireturn, 1) := by decide +kernel
theorem dX5_needOf_67 : decode cX5_needOf 67 = .ok (.bipush 41, 2) := by decide +kernel
theorem dX5_needOf_69 : decode cX5_needOf 69 = .ok (.goto 13, 3) := by decide +kernel
theorem dX5_needOf_47 : decode cX5_needOf 47 = .ok (.iconst 0, 1) := by decide +kernel
theorem dX5_needOf_48 : decode cX5_needOf 48 = .ok (.ireturn, 1) := by decide +kernel
theorem dX9_debt_142 : decode cX9_debt 142 = .ok (.invokevirtual 271, 3) := by decide +kernel
theorem dX9_debt_145 : decode cX9_debt 145 = .ok (.ireturn, 1) := by decide +kernel
theorem dX9_debt_133 : decode cX9_debt 133 = .ok (.iconst 0, 1) := by decide +kernel
theorem dX9_debt_134 : decode cX9_debt 134 = .ok (.goto 11, 3) := by decide +kernel
theorem dX9_debt_146 : decode cX9_debt 146 = .ok (.aload_n 0, 1) := by decide +kernel
theorem dX9_debt_147 : decode cX9_debt 147 = .ok (.invokevirtual 200, 3) := by decide +kernel
theorem dX9_debt_150 : decode cX9_debt 150 = .ok (.ireturn, 1) := by decide +kernel
theorem dX9_knows_0 : decode cX9_knows 0 = .ok (.aload_n 0, 1) := by decide +kernel
theorem dX9_knows_1 : decode cX9_knows 1 = .ok (.iload_n 1, 1) := by decide +kernel
theorem dX9_knows_2 : decode cX9_knows 2 = .ok (.invokevirtual 219, 3) := by decide +kernel
theorem dX9_knows_5 : decode cX9_knows 5 = .ok (.aload_n 0, 1) := by decide +kernel
theorem dX9_knows_6 : decode cX9_knows 6 = .ok (.iload_n 2, 1) := by decide +kernel
theorem dX9_knows_7 : decode cX9_knows 7 = .ok (.invokevirtual 203, 3) := by decide +kernel
theorem dX9_knows_10 : decode cX9_knows 10 = .ok (.aload_n 0, 1) := by decide +kernel
theorem dX9_knows_11 : decode cX9_knows 11 = .ok (.getfield 58, 3) := by decide +kernel
theorem dX9_knows_14 : decode cX9_knows 14 = .ok (.iload_n 1, 1) := by decide +kernel
theorem dX9_knows_15 : decode cX9_knows 15 = .ok (.iload_n 2, 1) := by decide +kernel
theorem dX5_linesKnown_0 : decode cX5_linesKnown 0 = .ok (.aload_n 0, 1) := by decide +kernel
theorem dX5_linesKnown_1 : decode cX5_linesKnown 1 = .ok (.getfield 11, 3) := by decide +kernel
theorem dX5_linesKnown_4 : decode cX5_linesKnown 4 = .ok (.iload_n 1, 1) := by decide +kernel
theorem dX5_linesKnown_5 : decode cX5_linesKnown 5 = .ok (.iload_n 2, 1) := by decide +kernel
theorem dX5_linesKnown_6 : decode cX5_linesKnown 6 = .ok (.invokestatic 29, 3) := by decide +kernel
theorem dX5_linesKnown_9 : decode cX5_linesKnown 9 = .ok (.iaload, 1) := by decide +kernel
theorem dX5_linesKnown_10 : decode cX5_linesKnown 10 = .ok (.ireturn, 1) := by decide +kernel
theorem dX9_knows_16 : decode cX9_knows 16 = .ok (.invokevirtual 274, 3) := by decide +kernel
theorem dX9_knows_19 : decode cX9_knows 19 = .ok (.ireturn, 1) := by decide +kernel
theorem dX9_learns_0 : decode cX9_learns 0 = .ok (.aload_n 0, 1) := by decide +kernel
theorem dX9_learns_1 : decode cX9_learns 1 = .ok (.iload_n 1, 1) := by decide +kernel
theorem dX9_learns_2 : decode cX9_learns 2 = .ok (.invokevirtual 219, 3) := by decide +kernel
theorem dX9_learns_5 : decode cX9_learns 5 = .ok (.aload_n 0, 1) := by decide +kernel
theorem dX9_learns_6 : decode cX9_learns 6 = .ok (.iload_n 2, 1) := by decide +kernel
theorem dX9_learns_7 : decode cX9_learns 7 = .ok (.invokevirtual 203, 3) := by decide +kernel
theorem dX9_learns_10 : decode cX9_learns 10 = .ok (.aload_n 0, 1) := by decide +kernel
theorem dX9_learns_11 : decode cX9_learns 11 = .ok (.getfield 58, 3) := by decide +kernel
theorem dX9_learns_14 : decode cX9_learns 14 = .ok (.iload_n 1, 1) := by decide +kernel
theorem dX9_learns_15 : decode cX9_learns 15 = .ok (.iload_n 2, 1) := by decide +kernel
theorem dX9_learns_16 : decode cX9_learns 16 = .ok (.aload_n 0, 1) := by decide +kernel
theorem dX9_learns_17 : decode cX9_learns 17 = .ok (.getfield 58, 3) := by decide +kernel
theorem dX9_learns_20 : decode cX9_learns 20 = .ok (.iload_n 1, 1) := by decide +kernel
theorem dX9_learns_21 : decode cX9_learns 21 = .ok (.invokevirtual 228, 3) := by decide +kernel
theorem dX9_learns_24 : decode cX9_learns 24 = .ok (.invokevirtual 278, 3) := by decide +kernel
theorem dX9_learns_27 : decode cX9_learns 27 = .ok (.ireturn, 1) := by decide +kernel
theorem dX9_would_0 : decode cX9_would 0 = .ok (.aload_n 0, 1) := by decide +kernel
theorem dX9_would_1 : decode cX9_would 1 = .ok (.iload_n 1, 1) := by decide +kernel
theorem dX9_would_2 : decode cX9_would 2 = .ok (.iconst 1, 1) := by decide +kernel
theorem dX9_would_3 : decode cX9_would 3 = .ok (.bipush 40, 2) := by decide +kernel
theorem dX9_would_5 : decode cX9_would 5 = .ok (.invokestatic 282, 3) := by decide +kernel
theorem dX9_would_8 : decode cX9_would 8 = .ok (.ifCond .eq 27, 3) := by decide +kernel
theorem dX9_would_11 : decode cX9_would 11 = .ok (.iload_n 2, 1) := by decide +kernel
theorem dX9_would_12 : decode cX9_would 12 = .ok (.iconst 0, 1) := by decide +kernel
theorem dX9_would_13 : decode cX9_would 13 = .ok (.bipush 9, 2) := by decide +kernel
theorem dX9_would_15 : decode cX9_would 15 = .ok (.invokestatic 282, 3) := by decide +kernel
theorem dX9_would_18 : decode cX9_would 18 = .ok (.ifCond .eq 17, 3) := by decide +kernel
theorem dX9_would_21 : decode cX9_would 21 = .ok (.iload_n 3, 1) := by decide +kernel
theorem dX9_would_22 : decode cX9_would 22 = .ok (.iconst 0, 1) := by decide +kernel
theorem dX9_would_23 : decode cX9_would 23 = .ok (.bipush 40, 2) := by decide +kernel
theorem dX9_would_25 : decode cX9_would 25 = .ok (.invokestatic 282, 3) := by decide +kernel
theorem dX9_would_28 : decode cX9_would 28 = .ok (.ifCond .eq 7, 3) := by decide +kernel
theorem dX9_would_31 : decode cX9_would 31 = .ok (.iconst 1, 1) := by decide +kernel
theorem dX9_would_32 : decode cX9_would 32 = .ok (.goto 4, 3) := by decide +kernel
theorem dX9_would_35 : decode cX9_would 35 = .ok (.iconst 0, 1) := by decide +kernel
theorem dX9_would_36 : decode cX9_would 36 = .ok (.invokevirtual 286, 3) := by decide +kernel
theorem dX9_would_39 : decode cX9_would 39 = .ok (.aload_n 0, 1) := by decide +kernel
theorem dX9_would_40 : decode cX9_would 40 = .ok (.iload 4, 2) := by decide +kernel
theorem dX9_would_42 : decode cX9_would 42 = .ok (.iconst 0, 1) := by decide +kernel
theorem dX9_would_43 : decode cX9_would 43 = .ok (.bipush 99, 2) := by decide +kernel
theorem dX9_would_45 : decode cX9_would 45 = .ok (.invokestatic 282, 3) := by decide +kernel
theorem dX9_would_48 : decode cX9_would 48 = .ok (.ifCond .eq 32, 3) := by decide +kernel
theorem dX9_would_51 : decode cX9_would 51 = .ok (.iload 5, 2) := by decide +kernel
theorem dX9_would_53 : decode cX9_would 53 = .ok (.bipush 10, 2) := by decide +kernel
theorem dX9_would_55 : decode cX9_would 55 = .ok (.sipush 150, 3) := by decide +kernel
theorem dX9_would_58 : decode cX9_would 58 = .ok (.invokestatic 282, 3) := by decide +kernel
theorem dX9_would_61 : decode cX9_would 61 = .ok (.ifCond .eq 19, 3) := by decide +kernel
theorem dX9_would_64 : decode cX9_would 64 = .ok (.iload 6, 2) := by decide +kernel
theorem dX9_would_66 : decode cX9_would 66 = .ok (.iconst 0, 1) := by decide +kernel
theorem dX9_would_67 : decode cX9_would 67 = .ok (.sipush 999, 3) := by decide +kernel
theorem dX9_would_70 : decode cX9_would 70 = .ok (.invokestatic 282, 3) := by decide +kernel
theorem dX9_would_73 : decode cX9_would 73 = .ok (.ifCond .eq 7, 3) := by decide +kernel
theorem dX9_would_76 : decode cX9_would 76 = .ok (.iconst 1, 1) := by decide +kernel
theorem dX9_would_77 : decode cX9_would 77 = .ok (.goto 4, 3) := by decide +kernel
theorem dX9_would_80 : decode cX9_would 80 = .ok (.iconst 0, 1) := by decide +kernel
theorem dX9_would_81 : decode cX9_would 81 = .ok (.invokevirtual 286, 3) := by decide +kernel
theorem dX9_would_84 : decode cX9_would 84 = .ok (.aload_n 0, 1) := by decide +kernel
theorem dX9_would_85 : decode cX9_would 85 = .ok (.iload 7, 2) := by decide +kernel
theorem dX9_would_87 : decode cX9_would 87 = .ok (.iconst 0, 1) := by decide +kernel
theorem dX9_would_88 : decode cX9_would 88 = .ok (.sipush 400, 3) := by decide +kernel
theorem dX9_would_91 : decode cX9_would 91 = .ok (.invokestatic 282, 3) := by decide +kernel
theorem dX9_would_94 : decode cX9_would 94 = .ok (.ifCond .eq 17, 3) := by decide +kernel
theorem dX9_would_97 : decode cX9_would 97 = .ok (.iload 8, 2) := by decide +kernel
theorem dX9_would_99 : decode cX9_would 99 = .ok (.iconst 0, 1) := by decide +kernel
theorem dX9_would_100 : decode cX9_would 100 = .ok (.iconst 5, 1) := by decide +kernel
theorem dX9_would_101 : decode cX9_would 101 = .ok (.invokestatic 282, 3) := by decide +kernel
theorem dX9_would_104 : decode cX9_would 104 = .ok (.ifCond .eq 7, 3) := by decide +kernel
theorem dX9_would_107 : decode cX9_would 107 = .ok (.iconst 1, 1) := by decide +kernel
theorem dX9_would_108 : decode cX9_would 108 = .ok (.goto 4, 3) := by decide +kernel
theorem dX9_would_111 : decode cX9_would 111 = .ok (.iconst 0, 1) := by decide +kernel
theorem dX9_would_112 : decode cX9_would 112 = .ok (.invokevirtual 286, 3) := by decide +kernel
theorem dX9_would_115 : decode cX9_would 115 = .ok (.aload_n 0, 1) := by decide +kernel
theorem dX9_would_116 : decode cX9_would 116 = .ok (.getfield 34, 3) := by decide +kernel
theorem dX9_would_119 : decode cX9_would 119 = .ok (.iload_n 1, 1) := by decide +kernel
theorem dX9_would_120 : decode cX9_would 120 = .ok (.iload_n 2, 1) := by decide +kernel
theorem dX9_would_121 : decode cX9_would 121 = .ok (.iload_n 3, 1) := by decide +kernel
theorem dX9_would_122 : decode cX9_would 122 = .ok (.invokevirtual 290, 3) := by decide +kernel
theorem dX9_would_125 : decode cX9_would 125 = .ok (.aload_n 0, 1) := by decide +kernel
theorem dX9_would_126 : decode cX9_would 126 = .ok (.getfield 34, 3) := by decide +kernel
theorem dX9_would_129 : decode cX9_would 129 = .ok (.iload 4, 2) := by decide +kernel
theorem dX9_would_131 : decode cX9_would 131 = .ok (.iload 5, 2) := by decide +kernel
theorem dX9_would_133 : decode cX9_would 133 = .ok (.iload 6, 2) := by decide +kernel
theorem dX9_would_135 : decode cX9_would 135 = .ok (.iload 7, 2) := by decide +kernel
theorem dX9_would_137 : decode cX9_would 137 = .ok (.iload 8, 2) := by decide +kernel
theorem dX9_would_139 : decode cX9_would 139 = .ok (.invokevirtual 294, 3) := by decide +kernel
theorem dX9_would_142 : decode cX9_would 142 = .ok (.aload_n 0, 1) := by decide +kernel
theorem dX9_would_143 : decode cX9_would 143 = .ok (.getfield 34, 3) := by decide +kernel
theorem dX9_would_146 : decode cX9_would 146 = .ok (.invokevirtual 298, 3) := by decide +kernel
theorem dX9_would_149 : decode cX9_would 149 = .ok (.ireturn, 1) := by decide +kernel
theorem dX9_ahead_0 : decode cX9_ahead 0 = .ok (.aload_n 0, 1) := by decide +kernel
theorem dX9_ahead_1 : decode cX9_ahead 1 = .ok (.iload_n 1, 1) := by decide +kernel
theorem dX9_ahead_2 : decode cX9_ahead 2 = .ok (.iconst 0, 1) := by decide +kernel
theorem dX9_ahead_3 : decode cX9_ahead 3 = .ok (.bipush 99, 2) := by decide +kernel
theorem dX9_ahead_5 : decode cX9_ahead 5 = .ok (.invokestatic 282, 3) := by decide +kernel
theorem dX9_ahead_8 : decode cX9_ahead 8 = .ok (.ifCond .eq 16, 3) := by decide +kernel
theorem dX9_ahead_11 : decode cX9_ahead 11 = .ok (.iload_n 2, 1) := by decide +kernel
theorem dX9_ahead_12 : decode cX9_ahead 12 = .ok (.iconst 0, 1) := by decide +kernel
theorem dX9_ahead_13 : decode cX9_ahead 13 = .ok (.iconst 2, 1) := by decide +kernel
theorem dX9_ahead_14 : decode cX9_ahead 14 = .ok (.invokestatic 282, 3) := by decide +kernel
theorem dX9_ahead_17 : decode cX9_ahead 17 = .ok (.ifCond .eq 7, 3) := by decide +kernel
theorem dX9_ahead_20 : decode cX9_ahead 20 = .ok (.iconst 1, 1) := by decide +kernel
theorem dX9_ahead_21 : decode cX9_ahead 21 = .ok (.goto 4, 3) := by decide +kernel
theorem dX9_ahead_24 : decode cX9_ahead 24 = .ok (.iconst 0, 1) := by decide +kernel
theorem dX9_ahead_25 : decode cX9_ahead 25 = .ok (.invokevirtual 286, 3) := by decide +kernel
theorem dX9_ahead_28 : decode cX9_ahead 28 = .ok (.aload_n 0, 1) := by decide +kernel
theorem dX9_ahead_29 : decode cX9_ahead 29 = .ok (.getfield 74, 3) := by decide +kernel
theorem dX9_ahead_32 : decode cX9_ahead 32 = .ok (.iload_n 1, 1) := by decide +kernel
theorem dX2_afterWeeks_0 : decode cX2_afterWeeks 0 = .ok (.aload_n 0, 1) := by decide +kernel
theorem dX2_afterWeeks_1 : decode cX2_afterWeeks 1 = .ok (.getfield 19, 3) := by decide +kernel
theorem dX2_afterWeeks_4 : decode cX2_afterWeeks 4 = .ok (.aload_n 0, 1) := by decide +kernel
theorem dX2_afterWeeks_5 : decode cX2_afterWeeks 5 = .ok (.getfield 15, 3) := by decide +kernel
theorem dX5_copyFrom_0 : decode cX5_copyFrom 0 = .ok (.aload_n 1, 1) := by decide +kernel
theorem dX5_copyFrom_1 : decode cX5_copyFrom 1 = .ok (.getfield 11, 3) := by decide +kernel
theorem dX5_copyFrom_4 : decode cX5_copyFrom 4 = .ok (.iconst 0, 1) := by decide +kernel
theorem dX5_copyFrom_5 : decode cX5_copyFrom 5 = .ok (.aload_n 0, 1) := by decide +kernel
theorem dX5_copyFrom_6 : decode cX5_copyFrom 6 = .ok (.getfield 11, 3) := by decide +kernel
theorem dX5_copyFrom_9 : decode cX5_copyFrom 9 = .ok (.iconst 0, 1) := by decide +kernel
theorem dX5_copyFrom_10 : decode cX5_copyFrom 10 = .ok (.bipush 74, 2) := by decide +kernel
theorem dX5_copyFrom_12 : decode cX5_copyFrom 12 = .ok (.invokestatic 23, 3) := by decide +kernel
theorem dX5_copyFrom_15 : decode cX5_copyFrom 15 = .ok (.return_, 1) := by decide +kernel
theorem dX2_afterWeeks_8 : decode cX2_afterWeeks 8 = .ok (.invokevirtual 22, 3) := by decide +kernel
theorem dX2_afterWeeks_11 : decode cX2_afterWeeks 11 = .ok (.iconst 0, 1) := by decide +kernel
theorem dX2_afterWeeks_12 : decode cX2_afterWeeks 12 = .ok (.istore_n 2, 1) := by decide +kernel
theorem dX2_afterWeeks_13 : decode cX2_afterWeeks 13 = .ok (.iload_n 2, 1) := by decide +kernel
theorem dX2_afterWeeks_14 : decode cX2_afterWeeks 14 = .ok (.iload_n 1, 1) := by decide +kernel
theorem dX2_afterWeeks_15 : decode cX2_afterWeeks 15 = .ok (.if_icmp .ge 24, 3) := by decide +kernel
theorem dX2_afterWeeks_39 : decode cX2_afterWeeks 39 = .ok (.aload_n 0, 1) := by decide +kernel
theorem dX2_afterWeeks_40 : decode cX2_afterWeeks 40 = .ok (.getfield 19, 3) := by decide +kernel
theorem dX2_afterWeeks_43 : decode cX2_afterWeeks 43 = .ok (.areturn, 1) := by decide +kernel
theorem dX2_afterWeeks_18 : decode cX2_afterWeeks 18 = .ok (.aload_n 0, 1) := by decide +kernel
theorem dX2_afterWeeks_19 : decode cX2_afterWeeks 19 = .ok (.getfield 19, 3) := by decide +kernel
theorem dX2_afterWeeks_22 : decode cX2_afterWeeks 22 = .ok (.iconst 0, 1) := by decide +kernel
theorem dX2_afterWeeks_23 : decode cX2_afterWeeks 23 = .ok (.aload_n 0, 1) := by decide +kernel
theorem dX2_afterWeeks_24 : decode cX2_afterWeeks 24 = .ok (.getfield 9, 3) := by decide +kernel
theorem dX2_afterWeeks_27 : decode cX2_afterWeeks 27 = .ok (.getfield 28, 3) := by decide +kernel
theorem dX2_afterWeeks_30 : decode cX2_afterWeeks 30 = .ok (.invokevirtual 34, 3) := by decide +kernel
theorem dX2_afterWeeks_33 : decode cX2_afterWeeks 33 = .ok (.iinc 2 1, 3) := by decide +kernel
theorem dX2_afterWeeks_36 : decode cX2_afterWeeks 36 = .ok (.goto (-23), 3) := by decide +kernel
theorem dX9_ahead_33 : decode cX9_ahead 33 = .ok (.invokevirtual 319, 3) := by decide +kernel
theorem dX9_ahead_36 : decode cX9_ahead 36 = .ok (.astore_n 3, 1) := by decide +kernel
theorem dX9_ahead_37 : decode cX9_ahead 37 = .ok (.iload_n 2, 1) := by decide +kernel
theorem dX9_ahead_38 : decode cX9_ahead 38 = .ok (.lookupswitch 36 #[(0, 26), (1, 31)], 26) := by decide +kernel
theorem dX9_ahead_64 : decode cX9_ahead 64 = .ok (.aload_n 3, 1) := by decide +kernel
theorem dX9_ahead_65 : decode cX9_ahead 65 = .ok (.invokevirtual 194, 3) := by decide +kernel
theorem dX9_ahead_68 : decode cX9_ahead 68 = .ok (.ireturn, 1) := by decide +kernel
theorem dX9_ahead_69 : decode cX9_ahead 69 = .ok (.aload_n 3, 1) := by decide +kernel
theorem dX9_ahead_70 : decode cX9_ahead 70 = .ok (.invokevirtual 185, 3) := by decide +kernel
theorem dX9_ahead_73 : decode cX9_ahead 73 = .ok (.ireturn, 1) := by decide +kernel
theorem dX9_ahead_74 : decode cX9_ahead 74 = .ok (.aload_n 3, 1) := by decide +kernel
theorem dX9_ahead_75 : decode cX9_ahead 75 = .ok (.invokevirtual 188, 3) := by decide +kernel
theorem dX9_ahead_78 : decode cX9_ahead 78 = .ok (.ireturn, 1) := by decide +kernel
theorem dX9_lessons_0 : decode cX9_lessons 0 = .ok (.aload_n 0, 1) := by decide +kernel
theorem dX9_lessons_1 : decode cX9_lessons 1 = .ok (.iload_n 1, 1) := by decide +kernel
theorem dX9_lessons_2 : decode cX9_lessons 2 = .ok (.invokevirtual 219, 3) := by decide +kernel
theorem dX9_lessons_5 : decode cX9_lessons 5 = .ok (.aload_n 0, 1) := by decide +kernel
theorem dX9_lessons_6 : decode cX9_lessons 6 = .ok (.iload_n 2, 1) := by decide +kernel
theorem dX9_lessons_7 : decode cX9_lessons 7 = .ok (.invokevirtual 203, 3) := by decide +kernel
theorem dX9_lessons_10 : decode cX9_lessons 10 = .ok (.aload_n 0, 1) := by decide +kernel
theorem dX9_lessons_11 : decode cX9_lessons 11 = .ok (.getfield 74, 3) := by decide +kernel
theorem dX9_lessons_14 : decode cX9_lessons 14 = .ok (.iload_n 1, 1) := by decide +kernel
theorem dX9_lessons_15 : decode cX9_lessons 15 = .ok (.iload_n 2, 1) := by decide +kernel
theorem dX2_lessonsFor_0 : decode cX2_lessonsFor 0 = .ok (.aload_n 0, 1) := by decide +kernel
theorem dX2_lessonsFor_1 : decode cX2_lessonsFor 1 = .ok (.getfield 19, 3) := by decide +kernel
theorem dX2_lessonsFor_4 : decode cX2_lessonsFor 4 = .ok (.aload_n 0, 1) := by decide +kernel
theorem dX2_lessonsFor_5 : decode cX2_lessonsFor 5 = .ok (.getfield 15, 3) := by decide +kernel
theorem dX2_lessonsFor_8 : decode cX2_lessonsFor 8 = .ok (.invokevirtual 22, 3) := by decide +kernel
theorem dX2_lessonsFor_11 : decode cX2_lessonsFor 11 = .ok (.iconst 0, 1) := by decide +kernel
theorem dX2_lessonsFor_12 : decode cX2_lessonsFor 12 = .ok (.istore_n 3, 1) := by decide +kernel
theorem dX2_lessonsFor_13 : decode cX2_lessonsFor 13 = .ok (.iload_n 3, 1) := by decide +kernel
theorem dX2_lessonsFor_14 : decode cX2_lessonsFor 14 = .ok (.bipush 40, 2) := by decide +kernel
theorem dX2_lessonsFor_16 : decode cX2_lessonsFor 16 = .ok (.if_icmp .gt 48, 3) := by decide +kernel
theorem dX2_lessonsFor_64 : decode cX2_lessonsFor 64 = .ok (.bipush 41, 2) := by decide +kernel
theorem dX2_lessonsFor_66 : decode cX2_lessonsFor 66 = .ok (.ireturn, 1) := by decide +kernel
theorem dX2_lessonsFor_19 : decode cX2_lessonsFor 19 = .ok (.aload_n 0, 1) := by decide +kernel
theorem dX2_lessonsFor_20 : decode cX2_lessonsFor 20 = .ok (.getfield 19, 3) := by decide +kernel
theorem dX2_lessonsFor_23 : decode cX2_lessonsFor 23 = .ok (.iload_n 1, 1) := by decide +kernel
theorem dX2_lessonsFor_24 : decode cX2_lessonsFor 24 = .ok (.iload_n 2, 1) := by decide +kernel
theorem dX2_lessonsFor_25 : decode cX2_lessonsFor 25 = .ok (.invokevirtual 38, 3) := by decide +kernel
theorem dX2_lessonsFor_28 : decode cX2_lessonsFor 28 = .ok (.ifCond .eq 5, 3) := by decide +kernel
theorem dX2_lessonsFor_33 : decode cX2_lessonsFor 33 = .ok (.iload_n 3, 1) := by decide +kernel
theorem dX2_lessonsFor_34 : decode cX2_lessonsFor 34 = .ok (.ifCond .le 14, 3) := by decide +kernel
theorem dX2_lessonsFor_37 : decode cX2_lessonsFor 37 = .ok (.aload_n 0, 1) := by decide +kernel
theorem dX2_lessonsFor_38 : decode cX2_lessonsFor 38 = .ok (.getfield 19, 3) := by decide +kernel
theorem dX2_lessonsFor_41 : decode cX2_lessonsFor 41 = .ok (.iload_n 1, 1) := by decide +kernel
theorem dX2_lessonsFor_42 : decode cX2_lessonsFor 42 = .ok (.iload_n 1, 1) := by decide +kernel
theorem dX2_lessonsFor_43 : decode cX2_lessonsFor 43 = .ok (.iconst 1, 1) := by decide +kernel
theorem dX2_lessonsFor_44 : decode cX2_lessonsFor 44 = .ok (.iadd, 1) := by decide +kernel
theorem dX2_lessonsFor_45 : decode cX2_lessonsFor 45 = .ok (.invokevirtual 34, 3) := by decide +kernel
theorem dX2_lessonsFor_31 : decode cX2_lessonsFor 31 = .ok (.iload_n 3, 1) := by decide +kernel
theorem dX2_lessonsFor_32 : decode cX2_lessonsFor 32 = .ok (.ireturn, 1) := by decide +kernel
theorem dX2_lessonsFor_48 : decode cX2_lessonsFor 48 = .ok (.aload_n 0, 1) := by decide +kernel
theorem dX2_lessonsFor_49 : decode cX2_lessonsFor 49 = .ok (.getfield 19, 3) := by decide +kernel
theorem dX2_lessonsFor_52 : decode cX2_lessonsFor 52 = .ok (.iload_n 1, 1) := by decide +kernel
theorem dX2_lessonsFor_53 : decode cX2_lessonsFor 53 = .ok (.iload_n 2, 1) := by decide +kernel
theorem dX2_lessonsFor_54 : decode cX2_lessonsFor 54 = .ok (.invokevirtual 42, 3) := by decide +kernel
theorem dX2_lessonsFor_57 : decode cX2_lessonsFor 57 = .ok (.pop, 1) := by decide +kernel
theorem dX2_lessonsFor_58 : decode cX2_lessonsFor 58 = .ok (.iinc 3 1, 3) := by decide +kernel
theorem dX2_lessonsFor_61 : decode cX2_lessonsFor 61 = .ok (.goto (-48), 3) := by decide +kernel
theorem dX9_lessons_16 : decode cX9_lessons 16 = .ok (.invokevirtual 323, 3) := by decide +kernel
theorem dX9_lessons_19 : decode cX9_lessons 19 = .ok (.istore_n 3, 1) := by decide +kernel
theorem dX9_lessons_20 : decode cX9_lessons 20 = .ok (.iload_n 3, 1) := by decide +kernel
theorem dX9_lessons_21 : decode cX9_lessons 21 = .ok (.bipush 41, 2) := by decide +kernel
theorem dX9_lessons_23 : decode cX9_lessons 23 = .ok (.if_icmp .ne 7, 3) := by decide +kernel
theorem dX9_lessons_30 : decode cX9_lessons 30 = .ok (.iload_n 3, 1) := by decide +kernel
theorem dX9_lessons_31 : decode cX9_lessons 31 = .ok (.ireturn, 1) := by decide +kernel
theorem dX9_lessons_26 : decode cX9_lessons 26 = .ok (.iconst (-1), 1) := by decide +kernel
theorem dX9_lessons_27 : decode cX9_lessons 27 = .ok (.goto 4, 3) := by decide +kernel
theorem dX9_pays_0 : decode cX9_pays 0 = .ok (.aload_n 0, 1) := by decide +kernel
theorem dX9_pays_1 : decode cX9_pays 1 = .ok (.iload_n 1, 1) := by decide +kernel
theorem dX9_pays_2 : decode cX9_pays 2 = .ok (.invokevirtual 219, 3) := by decide +kernel
theorem dX9_pays_5 : decode cX9_pays 5 = .ok (.aload_n 0, 1) := by decide +kernel
theorem dX9_pays_6 : decode cX9_pays 6 = .ok (.getfield 83, 3) := by decide +kernel
theorem dX9_pays_9 : decode cX9_pays 9 = .ok (.iload_n 1, 1) := by decide +kernel
theorem dX3_chosenFor_0 : decode cX3_chosenFor 0 = .ok (.aload_n 0, 1) := by decide +kernel
theorem dX3_chosenFor_1 : decode cX3_chosenFor 1 = .ok (.getfield 18, 3) := by decide +kernel
theorem dX3_chosenFor_4 : decode cX3_chosenFor 4 = .ok (.iload_n 1, 1) := by decide +kernel
theorem dX3_chosenFor_5 : decode cX3_chosenFor 5 = .ok (.invokevirtual 26, 3) := by decide +kernel
theorem dX3_chosenFor_8 : decode cX3_chosenFor 8 = .ok (.aload_n 0, 1) := by decide +kernel
theorem dX3_chosenFor_9 : decode cX3_chosenFor 9 = .ok (.getfield 22, 3) := by decide +kernel
theorem dX3_chosenFor_12 : decode cX3_chosenFor 12 = .ok (.invokevirtual 30, 3) := by decide +kernel
theorem dX3_chosenFor_15 : decode cX3_chosenFor 15 = .ok (.iconst (-1), 1) := by decide +kernel
theorem dX3_chosenFor_16 : decode cX3_chosenFor 16 = .ok (.ixor, 1) := by decide +kernel
theorem dX3_chosenFor_17 : decode cX3_chosenFor 17 = .ok (.iand, 1) := by decide +kernel
theorem dX3_chosenFor_18 : decode cX3_chosenFor 18 = .ok (.istore_n 2, 1) := by decide +kernel
theorem dX3_chosenFor_19 : decode cX3_chosenFor 19 = .ok (.aload_n 0, 1) := by decide +kernel
theorem dX3_chosenFor_20 : decode cX3_chosenFor 20 = .ok (.iload_n 2, 1) := by decide +kernel
theorem dX3_sortByDue_0 : decode cX3_sortByDue 0 = .ok (.aload_n 0, 1) := by decide +kernel
theorem dX3_sortByDue_1 : decode cX3_sortByDue 1 = .ok (.iconst 0, 1) := by decide +kernel
theorem dX3_sortByDue_2 : decode cX3_sortByDue 2 = .ok (.putfield 51, 3) := by decide +kernel
theorem dX3_sortByDue_5 : decode cX3_sortByDue 5 = .ok (.iconst 0, 1) := by decide +kernel
theorem dX3_sortByDue_6 : decode cX3_sortByDue 6 = .ok (.istore_n 2, 1) := by decide +kernel
theorem dX3_sortByDue_7 : decode cX3_sortByDue 7 = .ok (.iload_n 2, 1) := by decide +kernel
theorem dX3_sortByDue_8 : decode cX3_sortByDue 8 = .ok (.aload_n 0, 1) := by decide +kernel
theorem dX3_sortByDue_9 : decode cX3_sortByDue 9 = .ok (.getfield 18, 3) := by decide +kernel
theorem dX3_sortByDue_12 : decode cX3_sortByDue 12 = .ok (.getfield 55, 3) := by decide +kernel
theorem dX3_sortByDue_15 : decode cX3_sortByDue 15 = .ok (.if_icmp .ge 106, 3) := by decide +kernel
theorem dX3_sortByDue_121 : decode cX3_sortByDue 121 = .ok (.return_, 1) := by decide +kernel
theorem dX3_sortByDue_18 : decode cX3_sortByDue 18 = .ok (.iload_n 1, 1) := by decide +kernel
theorem dX3_sortByDue_19 : decode cX3_sortByDue 19 = .ok (.iload_n 2, 1) := by decide +kernel
theorem dX3_sortByDue_20 : decode cX3_sortByDue 20 = .ok (.ishr, 1) := by decide +kernel
theorem dX3_sortByDue_21 : decode cX3_sortByDue 21 = .ok (.iconst 1, 1) := by decide +kernel
theorem dX3_sortByDue_22 : decode cX3_sortByDue 22 = .ok (.iand, 1) := by decide +kernel
theorem dX3_sortByDue_23 : decode cX3_sortByDue 23 = .ok (.iconst 1, 1) := by decide +kernel
theorem dX3_sortByDue_24 : decode cX3_sortByDue 24 = .ok (.if_icmp .ne 91, 3) := by decide +kernel
theorem dX3_sortByDue_115 : decode cX3_sortByDue 115 = .ok (.iinc 2 1, 3) := by decide +kernel
theorem dX3_sortByDue_118 : decode cX3_sortByDue 118 = .ok (.goto (-111), 3) := by decide +kernel
theorem dX3_sortByDue_27 : decode cX3_sortByDue 27 = .ok (.aload_n 0, 1) := by decide +kernel
theorem dX3_sortByDue_28 : decode cX3_sortByDue 28 = .ok (.getfield 15, 3) := by decide +kernel
theorem dX3_sortByDue_31 : decode cX3_sortByDue 31 = .ok (.iload_n 2, 1) := by decide +kernel
theorem dX3_sortByDue_32 : decode cX3_sortByDue 32 = .ok (.aload_n 0, 1) := by decide +kernel
theorem dX3_sortByDue_33 : decode cX3_sortByDue 33 = .ok (.getfield 22, 3) := by decide +kernel
theorem dX3_sortByDue_36 : decode cX3_sortByDue 36 = .ok (.iload_n 2, 1) := by decide +kernel
theorem dX3_sortByDue_37 : decode cX3_sortByDue 37 = .ok (.invokevirtual 58, 3) := by decide +kernel
theorem dX3_sortByDue_40 : decode cX3_sortByDue 40 = .ok (.iastore, 1) := by decide +kernel
theorem dX3_sortByDue_41 : decode cX3_sortByDue 41 = .ok (.aload_n 0, 1) := by decide +kernel
theorem dX3_sortByDue_42 : decode cX3_sortByDue 42 = .ok (.getfield 51, 3) := by decide +kernel
theorem dX3_sortByDue_45 : decode cX3_sortByDue 45 = .ok (.istore_n 3, 1) := by decide +kernel
theorem dX3_sortByDue_46 : decode cX3_sortByDue 46 = .ok (.iload_n 3, 1) := by decide +kernel
theorem dX3_sortByDue_47 : decode cX3_sortByDue 47 = .ok (.ifCond .le 51, 3) := by decide +kernel
theorem dX3_sortByDue_50 : decode cX3_sortByDue 50 = .ok (.aload_n 0, 1) := by decide +kernel
theorem dX3_sortByDue_51 : decode cX3_sortByDue 51 = .ok (.getfield 18, 3) := by decide +kernel
theorem dX3_sortByDue_54 : decode cX3_sortByDue 54 = .ok (.getfield 61, 3) := by decide +kernel
theorem dX3_sortByDue_57 : decode cX3_sortByDue 57 = .ok (.aload_n 0, 1) := by decide +kernel
theorem dX3_sortByDue_58 : decode cX3_sortByDue 58 = .ok (.getfield 9, 3) := by decide +kernel
theorem dX3_sortByDue_61 : decode cX3_sortByDue 61 = .ok (.iload_n 3, 1) := by decide +kernel
theorem dX3_sortByDue_62 : decode cX3_sortByDue 62 = .ok (.iconst 1, 1) := by decide +kernel
theorem dX3_sortByDue_63 : decode cX3_sortByDue 63 = .ok (.isub, 1) := by decide +kernel
theorem dX3_sortByDue_64 : decode cX3_sortByDue 64 = .ok (.iaload, 1) := by decide +kernel
theorem dX3_sortByDue_65 : decode cX3_sortByDue 65 = .ok (.iaload, 1) := by decide +kernel
theorem dX3_sortByDue_66 : decode cX3_sortByDue 66 = .ok (.aload_n 0, 1) := by decide +kernel
theorem dX3_sortByDue_67 : decode cX3_sortByDue 67 = .ok (.getfield 18, 3) := by decide +kernel
theorem dX3_sortByDue_70 : decode cX3_sortByDue 70 = .ok (.getfield 61, 3) := by decide +kernel
theorem dX3_sortByDue_73 : decode cX3_sortByDue 73 = .ok (.iload_n 2, 1) := by decide +kernel
theorem dX3_sortByDue_74 : decode cX3_sortByDue 74 = .ok (.iaload, 1) := by decide +kernel
theorem dX3_sortByDue_75 : decode cX3_sortByDue 75 = .ok (.if_icmp .le 23, 3) := by decide +kernel
theorem dX3_sortByDue_78 : decode cX3_sortByDue 78 = .ok (.aload_n 0, 1) := by decide +kernel
theorem dX3_sortByDue_79 : decode cX3_sortByDue 79 = .ok (.getfield 9, 3) := by decide +kernel
theorem dX3_sortByDue_82 : decode cX3_sortByDue 82 = .ok (.iload_n 3, 1) := by decide +kernel
theorem dX3_sortByDue_83 : decode cX3_sortByDue 83 = .ok (.aload_n 0, 1) := by decide +kernel
theorem dX3_sortByDue_84 : decode cX3_sortByDue 84 = .ok (.getfield 9, 3) := by decide +kernel
theorem dX3_sortByDue_87 : decode cX3_sortByDue 87 = .ok (.iload_n 3, 1) := by decide +kernel
theorem dX3_sortByDue_88 : decode cX3_sortByDue 88 = .ok (.iconst 1, 1) := by decide +kernel
theorem dX3_sortByDue_89 : decode cX3_sortByDue 89 = .ok (.isub, 1) := by decide +kernel
theorem dX3_sortByDue_90 : decode cX3_sortByDue 90 = .ok (.iaload, 1) := by decide +kernel
theorem dX3_sortByDue_91 : decode cX3_sortByDue 91 = .ok (.iastore, 1) := by decide +kernel
theorem dX3_sortByDue_92 : decode cX3_sortByDue 92 = .ok (.iinc 3 (-1), 3) := by decide +kernel
theorem dX3_sortByDue_95 : decode cX3_sortByDue 95 = .ok (.goto (-49), 3) := by decide +kernel
theorem dX3_sortByDue_98 : decode cX3_sortByDue 98 = .ok (.aload_n 0, 1) := by decide +kernel
theorem dX3_sortByDue_99 : decode cX3_sortByDue 99 = .ok (.getfield 9, 3) := by decide +kernel
theorem dX3_sortByDue_102 : decode cX3_sortByDue 102 = .ok (.iload_n 3, 1) := by decide +kernel
theorem dX3_sortByDue_103 : decode cX3_sortByDue 103 = .ok (.iload_n 2, 1) := by decide +kernel
theorem dX3_sortByDue_104 : decode cX3_sortByDue 104 = .ok (.iastore, 1) := by decide +kernel
theorem dX3_sortByDue_105 : decode cX3_sortByDue 105 = .ok (.aload_n 0, 1) := by decide +kernel
theorem dX3_sortByDue_106 : decode cX3_sortByDue 106 = .ok (.dup, 1) := by decide +kernel
theorem dX3_sortByDue_107 : decode cX3_sortByDue 107 = .ok (.getfield 51, 3) := by decide +kernel
theorem dX3_sortByDue_110 : decode cX3_sortByDue 110 = .ok (.iconst 1, 1) := by decide +kernel
theorem dX3_sortByDue_111 : decode cX3_sortByDue 111 = .ok (.iadd, 1) := by decide +kernel
theorem dX3_sortByDue_112 : decode cX3_sortByDue 112 = .ok (.putfield 51, 3) := by decide +kernel
theorem dX3_chosenFor_21 : decode cX3_chosenFor 21 = .ok (.invokevirtual 36, 3) := by decide +kernel
theorem dX3_chosenFor_24 : decode cX3_chosenFor 24 = .ok (.iconst 0, 1) := by decide +kernel
theorem dX3_chosenFor_25 : decode cX3_chosenFor 25 = .ok (.istore_n 3, 1) := by decide +kernel
theorem dX3_chosenFor_26 : decode cX3_chosenFor 26 = .ok (.iconst 1, 1) := by decide +kernel
theorem dX3_chosenFor_27 : decode cX3_chosenFor 27 = .ok (.istore 4, 2) := by decide +kernel
theorem dX3_chosenFor_29 : decode cX3_chosenFor 29 = .ok (.iload 4, 2) := by decide +kernel
theorem dX3_chosenFor_31 : decode cX3_chosenFor 31 = .ok (.iload_n 2, 1) := by decide +kernel
theorem dX3_chosenFor_32 : decode cX3_chosenFor 32 = .ok (.if_icmp .gt 50, 3) := by decide +kernel
theorem dX3_chosenFor_82 : decode cX3_chosenFor 82 = .ok (.iload_n 3, 1) := by decide +kernel
theorem dX3_chosenFor_83 : decode cX3_chosenFor 83 = .ok (.ireturn, 1) := by decide +kernel
theorem dX3_chosenFor_35 : decode cX3_chosenFor 35 = .ok (.iload 4, 2) := by decide +kernel
theorem dX3_chosenFor_37 : decode cX3_chosenFor 37 = .ok (.iload_n 2, 1) := by decide +kernel
theorem dX3_chosenFor_38 : decode cX3_chosenFor 38 = .ok (.iconst (-1), 1) := by decide +kernel
theorem dX3_chosenFor_39 : decode cX3_chosenFor 39 = .ok (.ixor, 1) := by decide +kernel
theorem dX3_chosenFor_40 : decode cX3_chosenFor 40 = .ok (.iand, 1) := by decide +kernel
theorem dX3_chosenFor_41 : decode cX3_chosenFor 41 = .ok (.ifCond .ne 35, 3) := by decide +kernel
theorem dX3_chosenFor_76 : decode cX3_chosenFor 76 = .ok (.iinc 4 1, 3) := by decide +kernel
theorem dX3_chosenFor_79 : decode cX3_chosenFor 79 = .ok (.goto (-50), 3) := by decide +kernel
theorem dX3_chosenFor_44 : decode cX3_chosenFor 44 = .ok (.aload_n 0, 1) := by decide +kernel
theorem dX3_chosenFor_45 : decode cX3_chosenFor 45 = .ok (.iload 4, 2) := by decide +kernel
theorem dX3_chosenFor_47 : decode cX3_chosenFor 47 = .ok (.iload_n 3, 1) := by decide +kernel
theorem dX3_isBetter_0 : decode cX3_isBetter 0 = .ok (.iload_n 1, 1) := by decide +kernel
theorem dJ6_bitCount_0f7a4_0 : decode cJ6_bitCount_0f7a4 0 = .ok (.iload_n 0, 1) := by decide +kernel
theorem dJ6_bitCount_0f7a4_1 : decode cJ6_bitCount_0f7a4 1 = .ok (.iload_n 0, 1) := by decide +kernel
theorem dJ6_bitCount_0f7a4_2 : decode cJ6_bitCount_0f7a4 2 = .ok (.iconst 1, 1) := by decide +kernel
theorem dJ6_bitCount_0f7a4_3 : decode cJ6_bitCount_0f7a4 3 = .ok (.iushr, 1) := by decide +kernel
theorem dJ6_bitCount_0f7a4_4 : decode cJ6_bitCount_0f7a4 4 = .ok (.ldc_w 265, 3) := by decide +kernel
theorem dJ6_bitCount_0f7a4_7 : decode cJ6_bitCount_0f7a4 7 = .ok (.iand, 1) := by decide +kernel
theorem dJ6_bitCount_0f7a4_8 : decode cJ6_bitCount_0f7a4 8 = .ok (.isub, 1) := by decide +kernel
theorem dJ6_bitCount_0f7a4_9 : decode cJ6_bitCount_0f7a4 9 = .ok (.istore_n 0, 1) := by decide +kernel
theorem dJ6_bitCount_0f7a4_10 : decode cJ6_bitCount_0f7a4 10 = .ok (.iload_n 0, 1) := by decide +kernel
theorem dJ6_bitCount_0f7a4_11 : decode cJ6_bitCount_0f7a4 11 = .ok (.ldc_w 266, 3) := by decide +kernel
theorem dJ6_bitCount_0f7a4_14 : decode cJ6_bitCount_0f7a4 14 = .ok (.iand, 1) := by decide +kernel
theorem dJ6_bitCount_0f7a4_15 : decode cJ6_bitCount_0f7a4 15 = .ok (.iload_n 0, 1) := by decide +kernel
theorem dJ6_bitCount_0f7a4_16 : decode cJ6_bitCount_0f7a4 16 = .ok (.iconst 2, 1) := by decide +kernel
theorem dJ6_bitCount_0f7a4_17 : decode cJ6_bitCount_0f7a4 17 = .ok (.iushr, 1) := by decide +kernel
theorem dJ6_bitCount_0f7a4_18 : decode cJ6_bitCount_0f7a4 18 = .ok (.ldc_w 266, 3) := by decide +kernel
theorem dJ6_bitCount_0f7a4_21 : decode cJ6_bitCount_0f7a4 21 = .ok (.iand, 1) := by decide +kernel
theorem dJ6_bitCount_0f7a4_22 : decode cJ6_bitCount_0f7a4 22 = .ok (.iadd, 1) := by decide +kernel
theorem dJ6_bitCount_0f7a4_23 : decode cJ6_bitCount_0f7a4 23 = .ok (.istore_n 0, 1) := by decide +kernel
theorem dJ6_bitCount_0f7a4_24 : decode cJ6_bitCount_0f7a4 24 = .ok (.iload_n 0, 1) := by decide +kernel
theorem dJ6_bitCount_0f7a4_25 : decode cJ6_bitCount_0f7a4 25 = .ok (.iload_n 0, 1) := by decide +kernel
theorem dJ6_bitCount_0f7a4_26 : decode cJ6_bitCount_0f7a4 26 = .ok (.iconst 4, 1) := by decide +kernel
theorem dJ6_bitCount_0f7a4_27 : decode cJ6_bitCount_0f7a4 27 = .ok (.iushr, 1) := by decide +kernel
theorem dJ6_bitCount_0f7a4_28 : decode cJ6_bitCount_0f7a4 28 = .ok (.iadd, 1) := by decide +kernel
theorem dJ6_bitCount_0f7a4_29 : decode cJ6_bitCount_0f7a4 29 = .ok (.ldc_w 267, 3) := by decide +kernel
theorem dJ6_bitCount_0f7a4_32 : decode cJ6_bitCount_0f7a4 32 = .ok (.iand, 1) := by decide +kernel
theorem dJ6_bitCount_0f7a4_33 : decode cJ6_bitCount_0f7a4 33 = .ok (.istore_n 0, 1) := by decide +kernel
theorem dJ6_bitCount_0f7a4_34 : decode cJ6_bitCount_0f7a4 34 = .ok (.iload_n 0, 1) := by decide +kernel
theorem dJ6_bitCount_0f7a4_35 : decode cJ6_bitCount_0f7a4 35 = .ok (.iload_n 0, 1) := by decide +kernel
theorem dJ6_bitCount_0f7a4_36 : decode cJ6_bitCount_0f7a4 36 = .ok (.bipush 8, 2) := by decide +kernel
theorem dJ6_bitCount_0f7a4_38 : decode cJ6_bitCount_0f7a4 38 = .ok (.iushr, 1) := by decide +kernel
theorem dJ6_bitCount_0f7a4_39 : decode cJ6_bitCount_0f7a4 39 = .ok (.iadd, 1) := by decide +kernel
theorem dJ6_bitCount_0f7a4_40 : decode cJ6_bitCount_0f7a4 40 = .ok (.istore_n 0, 1) := by decide +kernel
theorem dJ6_bitCount_0f7a4_41 : decode cJ6_bitCount_0f7a4 41 = .ok (.iload_n 0, 1) := by decide +kernel
theorem dJ6_bitCount_0f7a4_42 : decode cJ6_bitCount_0f7a4 42 = .ok (.iload_n 0, 1) := by decide +kernel
theorem dJ6_bitCount_0f7a4_43 : decode cJ6_bitCount_0f7a4 43 = .ok (.bipush 16, 2) := by decide +kernel
theorem dJ6_bitCount_0f7a4_45 : decode cJ6_bitCount_0f7a4 45 = .ok (.iushr, 1) := by decide +kernel
theorem dJ6_bitCount_0f7a4_46 : decode cJ6_bitCount_0f7a4 46 = .ok (.iadd, 1) := by decide +kernel
theorem dJ6_bitCount_0f7a4_47 : decode cJ6_bitCount_0f7a4 47 = .ok (.istore_n 0, 1) := by decide +kernel
theorem dJ6_bitCount_0f7a4_48 : decode cJ6_bitCount_0f7a4 48 = .ok (.iload_n 0, 1) := by decide +kernel
theorem dJ6_bitCount_0f7a4_49 : decode cJ6_bitCount_0f7a4 49 = .ok (.bipush 63, 2) := by decide +kernel
theorem dJ6_bitCount_0f7a4_51 : decode cJ6_bitCount_0f7a4 51 = .ok (.iand, 1) := by decide +kernel
theorem dJ6_bitCount_0f7a4_52 : decode cJ6_bitCount_0f7a4 52 = .ok (.ireturn, 1) := by decide +kernel
theorem dX3_isBetter_1 : decode cX3_isBetter 1 = .ok (.invokestatic 64, 3) := by decide +kernel
theorem dX3_isBetter_4 : decode cX3_isBetter 4 = .ok (.iload_n 2, 1) := by decide +kernel
theorem dX3_isBetter_5 : decode cX3_isBetter 5 = .ok (.invokestatic 64, 3) := by decide +kernel
theorem dX3_isBetter_8 : decode cX3_isBetter 8 = .ok (.isub, 1) := by decide +kernel
theorem dX3_isBetter_9 : decode cX3_isBetter 9 = .ok (.istore_n 3, 1) := by decide +kernel
theorem dX3_isBetter_10 : decode cX3_isBetter 10 = .ok (.iload_n 3, 1) := by decide +kernel
theorem dX3_isBetter_11 : decode cX3_isBetter 11 = .ok (.ifCond .gt 20, 3) := by decide +kernel
theorem dX3_isBetter_31 : decode cX3_isBetter 31 = .ok (.iconst 1, 1) := by decide +kernel
theorem dX3_isBetter_32 : decode cX3_isBetter 32 = .ok (.goto 4, 3) := by decide +kernel
theorem dX3_isBetter_36 : decode cX3_isBetter 36 = .ok (.ireturn, 1) := by decide +kernel
theorem dX3_isBetter_14 : decode cX3_isBetter 14 = .ok (.iload_n 3, 1) := by decide +kernel
theorem dX3_isBetter_15 : decode cX3_isBetter 15 = .ok (.ifCond .ne 20, 3) := by decide +kernel
theorem dX3_isBetter_35 : decode cX3_isBetter 35 = .ok (.iconst 0, 1) := by decide +kernel
theorem dX3_isBetter_18 : decode cX3_isBetter 18 = .ok (.aload_n 0, 1) := by decide +kernel
theorem dX3_isBetter_19 : decode cX3_isBetter 19 = .ok (.iload_n 1, 1) := by decide +kernel
theorem dX3_linesOfEach_0 : decode cX3_linesOfEach 0 = .ok (.iconst 0, 1) := by decide +kernel
theorem dX3_linesOfEach_1 : decode cX3_linesOfEach 1 = .ok (.istore_n 2, 1) := by decide +kernel
theorem dX3_linesOfEach_2 : decode cX3_linesOfEach 2 = .ok (.iconst 0, 1) := by decide +kernel
theorem dX3_linesOfEach_3 : decode cX3_linesOfEach 3 = .ok (.istore_n 3, 1) := by decide +kernel
theorem dX3_linesOfEach_4 : decode cX3_linesOfEach 4 = .ok (.iload_n 3, 1) := by decide +kernel
theorem dX3_linesOfEach_5 : decode cX3_linesOfEach 5 = .ok (.aload_n 0, 1) := by decide +kernel
theorem dX3_linesOfEach_6 : decode cX3_linesOfEach 6 = .ok (.getfield 51, 3) := by decide +kernel
theorem dX3_linesOfEach_9 : decode cX3_linesOfEach 9 = .ok (.if_icmp .ge 48, 3) := by decide +kernel
theorem dX3_linesOfEach_57 : decode cX3_linesOfEach 57 = .ok (.iload_n 2, 1) := by decide +kernel
theorem dX3_linesOfEach_58 : decode cX3_linesOfEach 58 = .ok (.ireturn, 1) := by decide +kernel
theorem dX3_linesOfEach_12 : decode cX3_linesOfEach 12 = .ok (.iload_n 1, 1) := by decide +kernel
theorem dX3_linesOfEach_13 : decode cX3_linesOfEach 13 = .ok (.aload_n 0, 1) := by decide +kernel
theorem dX3_linesOfEach_14 : decode cX3_linesOfEach 14 = .ok (.getfield 9, 3) := by decide +kernel
theorem dX3_linesOfEach_17 : decode cX3_linesOfEach 17 = .ok (.iload_n 3, 1) := by decide +kernel
theorem dX3_linesOfEach_18 : decode cX3_linesOfEach 18 = .ok (.iaload, 1) := by decide +kernel
theorem dX3_linesOfEach_19 : decode cX3_linesOfEach 19 = .ok (.ishr, 1) := by decide +kernel
theorem dX3_linesOfEach_20 : decode cX3_linesOfEach 20 = .ok (.iconst 1, 1) := by decide +kernel
theorem dX3_linesOfEach_21 : decode cX3_linesOfEach 21 = .ok (.iand, 1) := by decide +kernel
theorem dX3_linesOfEach_22 : decode cX3_linesOfEach 22 = .ok (.iconst 1, 1) := by decide +kernel
theorem dX3_linesOfEach_23 : decode cX3_linesOfEach 23 = .ok (.if_icmp .ne 28, 3) := by decide +kernel
theorem dX3_linesOfEach_51 : decode cX3_linesOfEach 51 = .ok (.iinc 3 1, 3) := by decide +kernel
theorem dX3_linesOfEach_54 : decode cX3_linesOfEach 54 = .ok (.goto (-50), 3) := by decide +kernel
theorem dX3_linesOfEach_26 : decode cX3_linesOfEach 26 = .ok (.iload_n 2, 1) := by decide +kernel
theorem dX3_linesOfEach_27 : decode cX3_linesOfEach 27 = .ok (.aload_n 0, 1) := by decide +kernel
theorem dX3_linesOfEach_28 : decode cX3_linesOfEach 28 = .ok (.getfield 18, 3) := by decide +kernel
theorem dX3_linesOfEach_31 : decode cX3_linesOfEach 31 = .ok (.getfield 72, 3) := by decide +kernel
theorem dX3_linesOfEach_34 : decode cX3_linesOfEach 34 = .ok (.aload_n 0, 1) := by decide +kernel
theorem dX3_linesOfEach_35 : decode cX3_linesOfEach 35 = .ok (.getfield 18, 3) := by decide +kernel
theorem dX3_linesOfEach_38 : decode cX3_linesOfEach 38 = .ok (.getfield 75, 3) := by decide +kernel
theorem dX3_linesOfEach_41 : decode cX3_linesOfEach 41 = .ok (.aload_n 0, 1) := by decide +kernel
theorem dX3_linesOfEach_42 : decode cX3_linesOfEach 42 = .ok (.getfield 9, 3) := by decide +kernel
theorem dX3_linesOfEach_45 : decode cX3_linesOfEach 45 = .ok (.iload_n 3, 1) := by decide +kernel
theorem dX3_linesOfEach_46 : decode cX3_linesOfEach 46 = .ok (.iaload, 1) := by decide +kernel
theorem dX3_linesOfEach_47 : decode cX3_linesOfEach 47 = .ok (.iaload, 1) := by decide +kernel
theorem dX3_linesOfEach_48 : decode cX3_linesOfEach 48 = .ok (.iaload, 1) := by decide +kernel
theorem dX3_linesOfEach_49 : decode cX3_linesOfEach 49 = .ok (.iadd, 1) := by decide +kernel
theorem dX3_linesOfEach_50 : decode cX3_linesOfEach 50 = .ok (.istore_n 2, 1) := by decide +kernel
theorem dX3_isBetter_20 : decode cX3_isBetter 20 = .ok (.invokevirtual 69, 3) := by decide +kernel
theorem dX3_isBetter_23 : decode cX3_isBetter 23 = .ok (.aload_n 0, 1) := by decide +kernel
theorem dX3_isBetter_24 : decode cX3_isBetter 24 = .ok (.iload_n 2, 1) := by decide +kernel
theorem dX3_isBetter_25 : decode cX3_isBetter 25 = .ok (.invokevirtual 69, 3) := by decide +kernel
theorem dX3_isBetter_28 : decode cX3_isBetter 28 = .ok (.if_icmp .le 7, 3) := by decide +kernel
theorem dX3_chosenFor_48 : decode cX3_chosenFor 48 = .ok (.invokevirtual 40, 3) := by decide +kernel
theorem dX3_chosenFor_51 : decode cX3_chosenFor 51 = .ok (.ifCond .eq 25, 3) := by decide +kernel
theorem dX3_chosenFor_54 : decode cX3_chosenFor 54 = .ok (.aload_n 0, 1) := by decide +kernel
theorem dX3_chosenFor_55 : decode cX3_chosenFor 55 = .ok (.iload_n 1, 1) := by decide +kernel
theorem dX3_chosenFor_56 : decode cX3_chosenFor 56 = .ok (.iload 4, 2) := by decide +kernel
theorem dX3_hasMemory_0 : decode cX3_hasMemory 0 = .ok (.iconst 0, 1) := by decide +kernel
theorem dX3_hasMemory_1 : decode cX3_hasMemory 1 = .ok (.istore_n 3, 1) := by decide +kernel
theorem dX3_hasMemory_2 : decode cX3_hasMemory 2 = .ok (.iconst 0, 1) := by decide +kernel
theorem dX3_hasMemory_3 : decode cX3_hasMemory 3 = .ok (.istore 4, 2) := by decide +kernel
theorem dX3_hasMemory_5 : decode cX3_hasMemory 5 = .ok (.iconst 0, 1) := by decide +kernel
theorem dX3_hasMemory_6 : decode cX3_hasMemory 6 = .ok (.istore 5, 2) := by decide +kernel
theorem dX3_hasMemory_8 : decode cX3_hasMemory 8 = .ok (.iload 5, 2) := by decide +kernel
theorem dX3_hasMemory_10 : decode cX3_hasMemory 10 = .ok (.aload_n 0, 1) := by decide +kernel
theorem dX3_hasMemory_11 : decode cX3_hasMemory 11 = .ok (.getfield 51, 3) := by decide +kernel
theorem dX3_hasMemory_14 : decode cX3_hasMemory 14 = .ok (.if_icmp .ge 73, 3) := by decide +kernel
theorem dX3_hasMemory_87 : decode cX3_hasMemory 87 = .ok (.iload_n 3, 1) := by decide +kernel
theorem dX3_hasMemory_88 : decode cX3_hasMemory 88 = .ok (.aload_n 0, 1) := by decide +kernel
theorem dX3_hasMemory_89 : decode cX3_hasMemory 89 = .ok (.getfield 22, 3) := by decide +kernel
theorem dX3_hasMemory_92 : decode cX3_hasMemory 92 = .ok (.iload_n 1, 1) := by decide +kernel
theorem dX3_hasMemory_93 : decode cX3_hasMemory 93 = .ok (.invokevirtual 78, 3) := by decide +kernel
theorem dX3_hasMemory_96 : decode cX3_hasMemory 96 = .ok (.if_icmp .gt 7, 3) := by decide +kernel
theorem dX3_hasMemory_103 : decode cX3_hasMemory 103 = .ok (.iconst 0, 1) := by decide +kernel
theorem dX3_hasMemory_104 : decode cX3_hasMemory 104 = .ok (.ireturn, 1) := by decide +kernel
theorem dX3_hasMemory_99 : decode cX3_hasMemory 99 = .ok (.iconst 1, 1) := by decide +kernel
theorem dX3_hasMemory_100 : decode cX3_hasMemory 100 = .ok (.goto 4, 3) := by decide +kernel
theorem dX3_hasMemory_17 : decode cX3_hasMemory 17 = .ok (.aload_n 0, 1) := by decide +kernel
theorem dX3_hasMemory_18 : decode cX3_hasMemory 18 = .ok (.getfield 18, 3) := by decide +kernel
theorem dX3_hasMemory_21 : decode cX3_hasMemory 21 = .ok (.getfield 75, 3) := by decide +kernel
theorem dX3_hasMemory_24 : decode cX3_hasMemory 24 = .ok (.aload_n 0, 1) := by decide +kernel
theorem dX3_hasMemory_25 : decode cX3_hasMemory 25 = .ok (.getfield 9, 3) := by decide +kernel
theorem dX3_hasMemory_28 : decode cX3_hasMemory 28 = .ok (.iload 5, 2) := by decide +kernel
theorem dX3_hasMemory_30 : decode cX3_hasMemory 30 = .ok (.iaload, 1) := by decide +kernel
theorem dX3_hasMemory_31 : decode cX3_hasMemory 31 = .ok (.iaload, 1) := by decide +kernel
theorem dX3_hasMemory_32 : decode cX3_hasMemory 32 = .ok (.istore 6, 2) := by decide +kernel
theorem dX3_hasMemory_34 : decode cX3_hasMemory 34 = .ok (.iload_n 2, 1) := by decide +kernel
theorem dX3_hasMemory_35 : decode cX3_hasMemory 35 = .ok (.aload_n 0, 1) := by decide +kernel
theorem dX3_hasMemory_36 : decode cX3_hasMemory 36 = .ok (.getfield 9, 3) := by decide +kernel
theorem dX3_hasMemory_39 : decode cX3_hasMemory 39 = .ok (.iload 5, 2) := by decide +kernel
theorem dX3_hasMemory_41 : decode cX3_hasMemory 41 = .ok (.iaload, 1) := by decide +kernel
theorem dX3_hasMemory_42 : decode cX3_hasMemory 42 = .ok (.ishr, 1) := by decide +kernel
theorem dX3_hasMemory_43 : decode cX3_hasMemory 43 = .ok (.iconst 1, 1) := by decide +kernel
theorem dX3_hasMemory_44 : decode cX3_hasMemory 44 = .ok (.iand, 1) := by decide +kernel
theorem dX3_hasMemory_45 : decode cX3_hasMemory 45 = .ok (.iconst 1, 1) := by decide +kernel
theorem dX3_hasMemory_46 : decode cX3_hasMemory 46 = .ok (.if_icmp .ne 35, 3) := by decide +kernel
theorem dX3_hasMemory_81 : decode cX3_hasMemory 81 = .ok (.iinc 5 1, 3) := by decide +kernel
theorem dX3_hasMemory_84 : decode cX3_hasMemory 84 = .ok (.goto (-76), 3) := by decide +kernel
theorem dX3_hasMemory_49 : decode cX3_hasMemory 49 = .ok (.iload 4, 2) := by decide +kernel
theorem dX3_hasMemory_51 : decode cX3_hasMemory 51 = .ok (.iload 6, 2) := by decide +kernel
theorem dX3_hasMemory_53 : decode cX3_hasMemory 53 = .ok (.ishr, 1) := by decide +kernel
theorem dX3_hasMemory_54 : decode cX3_hasMemory 54 = .ok (.iconst 1, 1) := by decide +kernel
theorem dX3_hasMemory_55 : decode cX3_hasMemory 55 = .ok (.iand, 1) := by decide +kernel
theorem dX3_hasMemory_56 : decode cX3_hasMemory 56 = .ok (.ifCond .ne 25, 3) := by decide +kernel
theorem dX3_hasMemory_59 : decode cX3_hasMemory 59 = .ok (.iload 4, 2) := by decide +kernel
theorem dX3_hasMemory_61 : decode cX3_hasMemory 61 = .ok (.iconst 1, 1) := by decide +kernel
theorem dX3_hasMemory_62 : decode cX3_hasMemory 62 = .ok (.iload 6, 2) := by decide +kernel
theorem dX3_hasMemory_64 : decode cX3_hasMemory 64 = .ok (.ishl, 1) := by decide +kernel
theorem dX3_hasMemory_65 : decode cX3_hasMemory 65 = .ok (.ior, 1) := by decide +kernel
theorem dX3_hasMemory_66 : decode cX3_hasMemory 66 = .ok (.istore 4, 2) := by decide +kernel
theorem dX3_hasMemory_68 : decode cX3_hasMemory 68 = .ok (.iload_n 3, 1) := by decide +kernel
theorem dX3_hasMemory_69 : decode cX3_hasMemory 69 = .ok (.aload_n 0, 1) := by decide +kernel
theorem dX3_hasMemory_70 : decode cX3_hasMemory 70 = .ok (.getfield 18, 3) := by decide +kernel
theorem dX3_hasMemory_73 : decode cX3_hasMemory 73 = .ok (.getfield 72, 3) := by decide +kernel
theorem dX3_hasMemory_76 : decode cX3_hasMemory 76 = .ok (.iload 6, 2) := by decide +kernel
theorem dX3_hasMemory_78 : decode cX3_hasMemory 78 = .ok (.iaload, 1) := by decide +kernel
theorem dX3_hasMemory_79 : decode cX3_hasMemory 79 = .ok (.iadd, 1) := by decide +kernel
theorem dX3_hasMemory_80 : decode cX3_hasMemory 80 = .ok (.istore_n 3, 1) := by decide +kernel
theorem dX3_chosenFor_58 : decode cX3_chosenFor 58 = .ok (.invokevirtual 44, 3) := by decide +kernel
theorem dX3_chosenFor_61 : decode cX3_chosenFor 61 = .ok (.ifCond .eq 15, 3) := by decide +kernel
theorem dX3_chosenFor_64 : decode cX3_chosenFor 64 = .ok (.aload_n 0, 1) := by decide +kernel
theorem dX3_chosenFor_65 : decode cX3_chosenFor 65 = .ok (.iload 4, 2) := by decide +kernel
theorem dX3_isInTime_0 : decode cX3_isInTime 0 = .ok (.iconst 0, 1) := by decide +kernel
theorem dX3_isInTime_1 : decode cX3_isInTime 1 = .ok (.istore_n 2, 1) := by decide +kernel
theorem dX3_isInTime_2 : decode cX3_isInTime 2 = .ok (.iconst 0, 1) := by decide +kernel
theorem dX3_isInTime_3 : decode cX3_isInTime 3 = .ok (.istore_n 3, 1) := by decide +kernel
theorem dX3_isInTime_4 : decode cX3_isInTime 4 = .ok (.iload_n 3, 1) := by decide +kernel
theorem dX3_isInTime_5 : decode cX3_isInTime 5 = .ok (.aload_n 0, 1) := by decide +kernel
theorem dX3_isInTime_6 : decode cX3_isInTime 6 = .ok (.getfield 51, 3) := by decide +kernel
theorem dX3_isInTime_9 : decode cX3_isInTime 9 = .ok (.if_icmp .ge 61, 3) := by decide +kernel
theorem dX3_isInTime_70 : decode cX3_isInTime 70 = .ok (.iconst 1, 1) := by decide +kernel
theorem dX3_isInTime_71 : decode cX3_isInTime 71 = .ok (.ireturn, 1) := by decide +kernel
theorem dX3_isInTime_12 : decode cX3_isInTime 12 = .ok (.aload_n 0, 1) := by decide +kernel
theorem dX3_isInTime_13 : decode cX3_isInTime 13 = .ok (.getfield 9, 3) := by decide +kernel
theorem dX3_isInTime_16 : decode cX3_isInTime 16 = .ok (.iload_n 3, 1) := by decide +kernel
theorem dX3_isInTime_17 : decode cX3_isInTime 17 = .ok (.iaload, 1) := by decide +kernel
theorem dX3_isInTime_18 : decode cX3_isInTime 18 = .ok (.istore 4, 2) := by decide +kernel
theorem dX3_isInTime_20 : decode cX3_isInTime 20 = .ok (.iload_n 1, 1) := by decide +kernel
theorem dX3_isInTime_21 : decode cX3_isInTime 21 = .ok (.iload 4, 2) := by decide +kernel
theorem dX3_isInTime_23 : decode cX3_isInTime 23 = .ok (.ishr, 1) := by decide +kernel
theorem dX3_isInTime_24 : decode cX3_isInTime 24 = .ok (.iconst 1, 1) := by decide +kernel
theorem dX3_isInTime_25 : decode cX3_isInTime 25 = .ok (.iand, 1) := by decide +kernel
theorem dX3_isInTime_26 : decode cX3_isInTime 26 = .ok (.iconst 1, 1) := by decide +kernel
theorem dX3_isInTime_27 : decode cX3_isInTime 27 = .ok (.if_icmp .ne 37, 3) := by decide +kernel
theorem dX3_isInTime_64 : decode cX3_isInTime 64 = .ok (.iinc 3 1, 3) := by decide +kernel
theorem dX3_isInTime_67 : decode cX3_isInTime 67 = .ok (.goto (-63), 3) := by decide +kernel
theorem dX3_isInTime_30 : decode cX3_isInTime 30 = .ok (.iload_n 2, 1) := by decide +kernel
theorem dX3_isInTime_31 : decode cX3_isInTime 31 = .ok (.aload_n 0, 1) := by decide +kernel
theorem dX3_isInTime_32 : decode cX3_isInTime 32 = .ok (.getfield 15, 3) := by decide +kernel
theorem dX3_isInTime_35 : decode cX3_isInTime 35 = .ok (.iload 4, 2) := by decide +kernel
theorem dX3_isInTime_37 : decode cX3_isInTime 37 = .ok (.iaload, 1) := by decide +kernel
theorem dX3_isInTime_38 : decode cX3_isInTime 38 = .ok (.iadd, 1) := by decide +kernel
theorem dX3_isInTime_39 : decode cX3_isInTime 39 = .ok (.istore_n 2, 1) := by decide +kernel
theorem dX3_isInTime_40 : decode cX3_isInTime 40 = .ok (.iload_n 2, 1) := by decide +kernel
theorem dX3_isInTime_41 : decode cX3_isInTime 41 = .ok (.aload_n 0, 1) := by decide +kernel
theorem dX3_isInTime_42 : decode cX3_isInTime 42 = .ok (.getfield 18, 3) := by decide +kernel
theorem dX3_isInTime_45 : decode cX3_isInTime 45 = .ok (.getfield 61, 3) := by decide +kernel
theorem dX3_isInTime_48 : decode cX3_isInTime 48 = .ok (.iload 4, 2) := by decide +kernel
theorem dX3_isInTime_50 : decode cX3_isInTime 50 = .ok (.iaload, 1) := by decide +kernel
theorem dX3_isInTime_51 : decode cX3_isInTime 51 = .ok (.aload_n 0, 1) := by decide +kernel
theorem dX3_isInTime_52 : decode cX3_isInTime 52 = .ok (.getfield 22, 3) := by decide +kernel
theorem dX3_isInTime_55 : decode cX3_isInTime 55 = .ok (.invokevirtual 81, 3) := by decide +kernel
theorem dX3_isInTime_58 : decode cX3_isInTime 58 = .ok (.isub, 1) := by decide +kernel
theorem dX3_isInTime_59 : decode cX3_isInTime 59 = .ok (.if_icmp .le 5, 3) := by decide +kernel
theorem dX3_isInTime_62 : decode cX3_isInTime 62 = .ok (.iconst 0, 1) := by decide +kernel
theorem dX3_isInTime_63 : decode cX3_isInTime 63 = .ok (.ireturn, 1) := by decide +kernel
theorem dX3_chosenFor_67 : decode cX3_chosenFor 67 = .ok (.invokevirtual 47, 3) := by decide +kernel
theorem dX3_chosenFor_70 : decode cX3_chosenFor 70 = .ok (.ifCond .eq 6, 3) := by decide +kernel
theorem dX3_chosenFor_73 : decode cX3_chosenFor 73 = .ok (.iload 4, 2) := by decide +kernel
theorem dX3_chosenFor_75 : decode cX3_chosenFor 75 = .ok (.istore_n 3, 1) := by decide +kernel
theorem dX9_pays_10 : decode cX9_pays 10 = .ok (.invokevirtual 329, 3) := by decide +kernel
theorem dX9_pays_13 : decode cX9_pays 13 = .ok (.ireturn, 1) := by decide +kernel
theorem dX9_hardest_0 : decode cX9_hardest 0 = .ok (.aload_n 0, 1) := by decide +kernel
theorem dX9_hardest_1 : decode cX9_hardest 1 = .ok (.iload_n 1, 1) := by decide +kernel
theorem dX9_hardest_2 : decode cX9_hardest 2 = .ok (.invokevirtual 219, 3) := by decide +kernel
theorem dX9_hardest_5 : decode cX9_hardest 5 = .ok (.aload_n 0, 1) := by decide +kernel
theorem dX9_hardest_6 : decode cX9_hardest 6 = .ok (.getfield 74, 3) := by decide +kernel
theorem dX9_hardest_9 : decode cX9_hardest 9 = .ok (.iload_n 1, 1) := by decide +kernel
theorem dX2_hardestFor_0 : decode cX2_hardestFor 0 = .ok (.iconst (-1), 1) := by decide +kernel
theorem dX2_hardestFor_1 : decode cX2_hardestFor 1 = .ok (.istore_n 2, 1) := by decide +kernel
theorem dX2_hardestFor_2 : decode cX2_hardestFor 2 = .ok (.iconst (-1), 1) := by decide +kernel
theorem dX2_hardestFor_3 : decode cX2_hardestFor 3 = .ok (.istore_n 3, 1) := by decide +kernel
theorem dX2_hardestFor_4 : decode cX2_hardestFor 4 = .ok (.iconst 0, 1) := by decide +kernel
theorem dX2_hardestFor_5 : decode cX2_hardestFor 5 = .ok (.istore 4, 2) := by decide +kernel
theorem dX2_hardestFor_7 : decode cX2_hardestFor 7 = .ok (.iload 4, 2) := by decide +kernel
theorem dX2_hardestFor_9 : decode cX2_hardestFor 9 = .ok (.aload_n 0, 1) := by decide +kernel
theorem dX2_hardestFor_10 : decode cX2_hardestFor 10 = .ok (.getfield 9, 3) := by decide +kernel
theorem dX2_hardestFor_13 : decode cX2_hardestFor 13 = .ok (.getfield 45, 3) := by decide +kernel
theorem dX2_hardestFor_16 : decode cX2_hardestFor 16 = .ok (.if_icmp .ge 30, 3) := by decide +kernel
theorem dX2_hardestFor_46 : decode cX2_hardestFor 46 = .ok (.iload_n 2, 1) := by decide +kernel
theorem dX2_hardestFor_47 : decode cX2_hardestFor 47 = .ok (.ireturn, 1) := by decide +kernel
theorem dX2_hardestFor_19 : decode cX2_hardestFor 19 = .ok (.aload_n 0, 1) := by decide +kernel
theorem dX2_hardestFor_20 : decode cX2_hardestFor 20 = .ok (.iload_n 1, 1) := by decide +kernel
theorem dX2_hardestFor_21 : decode cX2_hardestFor 21 = .ok (.iload 4, 2) := by decide +kernel
theorem dX2_hardestFor_23 : decode cX2_hardestFor 23 = .ok (.invokevirtual 48, 3) := by decide +kernel
theorem dX2_hardestFor_26 : decode cX2_hardestFor 26 = .ok (.istore 5, 2) := by decide +kernel
theorem dX2_hardestFor_28 : decode cX2_hardestFor 28 = .ok (.iload 5, 2) := by decide +kernel
theorem dX2_hardestFor_30 : decode cX2_hardestFor 30 = .ok (.iload_n 3, 1) := by decide +kernel
theorem dX2_hardestFor_31 : decode cX2_hardestFor 31 = .ok (.if_icmp .le 9, 3) := by decide +kernel
theorem dX2_hardestFor_40 : decode cX2_hardestFor 40 = .ok (.iinc 4 1, 3) := by decide +kernel
theorem dX2_hardestFor_43 : decode cX2_hardestFor 43 = .ok (.goto (-36), 3) := by decide +kernel
theorem dX2_hardestFor_34 : decode cX2_hardestFor 34 = .ok (.iload 4, 2) := by decide +kernel
theorem dX2_hardestFor_36 : decode cX2_hardestFor 36 = .ok (.istore_n 2, 1) := by decide +kernel
theorem dX2_hardestFor_37 : decode cX2_hardestFor 37 = .ok (.iload 5, 2) := by decide +kernel
theorem dX2_hardestFor_39 : decode cX2_hardestFor 39 = .ok (.istore_n 3, 1) := by decide +kernel
theorem dX9_hardest_10 : decode cX9_hardest 10 = .ok (.invokevirtual 326, 3) := by decide +kernel
theorem dX9_hardest_13 : decode cX9_hardest 13 = .ok (.ireturn, 1) := by decide +kernel
theorem dX9_fits_0 : decode cX9_fits 0 = .ok (.aload_n 0, 1) := by decide +kernel
theorem dX9_fits_1 : decode cX9_fits 1 = .ok (.iload_n 1, 1) := by decide +kernel
theorem dX9_fits_2 : decode cX9_fits 2 = .ok (.iconst 0, 1) := by decide +kernel
theorem dX9_fits_3 : decode cX9_fits 3 = .ok (.iconst 1, 1) := by decide +kernel
theorem dX9_fits_4 : decode cX9_fits 4 = .ok (.invokestatic 282, 3) := by decide +kernel
theorem dX9_fits_7 : decode cX9_fits 7 = .ok (.invokevirtual 286, 3) := by decide +kernel
theorem dX9_fits_10 : decode cX9_fits 10 = .ok (.iconst 0, 1) := by decide +kernel
theorem dX9_fits_11 : decode cX9_fits 11 = .ok (.istore_n 2, 1) := by decide +kernel
theorem dX9_fits_12 : decode cX9_fits 12 = .ok (.iconst (-1), 1) := by decide +kernel
theorem dX9_fits_13 : decode cX9_fits 13 = .ok (.istore_n 3, 1) := by decide +kernel
theorem dX9_fits_14 : decode cX9_fits 14 = .ok (.iconst 0, 1) := by decide +kernel
theorem dX9_fits_15 : decode cX9_fits 15 = .ok (.istore 4, 2) := by decide +kernel
theorem dX9_fits_17 : decode cX9_fits 17 = .ok (.iload 4, 2) := by decide +kernel
theorem dX9_fits_19 : decode cX9_fits 19 = .ok (.aload_n 0, 1) := by decide +kernel
theorem dX9_fits_20 : decode cX9_fits 20 = .ok (.getfield 27, 3) := by decide +kernel
theorem dX9_fits_23 : decode cX9_fits 23 = .ok (.getfield 175, 3) := by decide +kernel
theorem dX9_fits_26 : decode cX9_fits 26 = .ok (.if_icmp .ge 69, 3) := by decide +kernel
theorem dX9_fits_95 : decode cX9_fits 95 = .ok (.iload_n 1, 1) := by decide +kernel
theorem dX9_fits_96 : decode cX9_fits 96 = .ok (.ifCond .ne 7, 3) := by decide +kernel
theorem dX9_fits_103 : decode cX9_fits 103 = .ok (.iload_n 3, 1) := by decide +kernel
theorem dX9_fits_104 : decode cX9_fits 104 = .ok (.ireturn, 1) := by decide +kernel
theorem dX9_fits_99 : decode cX9_fits 99 = .ok (.iload_n 2, 1) := by decide +kernel
theorem dX9_fits_100 : decode cX9_fits 100 = .ok (.goto 4, 3) := by decide +kernel
theorem dX9_fits_29 : decode cX9_fits 29 = .ok (.iconst 0, 1) := by decide +kernel
theorem dX9_fits_30 : decode cX9_fits 30 = .ok (.istore 5, 2) := by decide +kernel
theorem dX9_fits_32 : decode cX9_fits 32 = .ok (.iload 5, 2) := by decide +kernel
theorem dX9_fits_34 : decode cX9_fits 34 = .ok (.aload_n 0, 1) := by decide +kernel
theorem dX9_fits_35 : decode cX9_fits 35 = .ok (.getfield 27, 3) := by decide +kernel
theorem dX9_fits_38 : decode cX9_fits 38 = .ok (.getfield 172, 3) := by decide +kernel
theorem dX9_fits_41 : decode cX9_fits 41 = .ok (.if_icmp .ge 48, 3) := by decide +kernel
theorem dX9_fits_89 : decode cX9_fits 89 = .ok (.iinc 4 1, 3) := by decide +kernel
theorem dX9_fits_92 : decode cX9_fits 92 = .ok (.goto (-75), 3) := by decide +kernel
theorem dX9_fits_44 : decode cX9_fits 44 = .ok (.aload_n 0, 1) := by decide +kernel
theorem dX9_fits_45 : decode cX9_fits 45 = .ok (.getfield 44, 3) := by decide +kernel
theorem dX9_fits_48 : decode cX9_fits 48 = .ok (.aload_n 0, 1) := by decide +kernel
theorem dX9_fits_49 : decode cX9_fits 49 = .ok (.getfield 58, 3) := by decide +kernel
theorem dX9_fits_52 : decode cX9_fits 52 = .ok (.iload 4, 2) := by decide +kernel
theorem dX9_fits_54 : decode cX9_fits 54 = .ok (.iload 5, 2) := by decide +kernel
theorem dX0_agrees_0 : decode cX0_agrees 0 = .ok (.iconst 0, 1) := by decide +kernel
theorem dX0_agrees_1 : decode cX0_agrees 1 = .ok (.istore 4, 2) := by decide +kernel
theorem dX0_agrees_3 : decode cX0_agrees 3 = .ok (.iload 4, 2) := by decide +kernel
theorem dX0_agrees_5 : decode cX0_agrees 5 = .ok (.aload_n 0, 1) := by decide +kernel
theorem dX0_agrees_6 : decode cX0_agrees 6 = .ok (.getfield 19, 3) := by decide +kernel
theorem dX0_agrees_9 : decode cX0_agrees 9 = .ok (.if_icmp .ge 76, 3) := by decide +kernel
theorem dX0_agrees_85 : decode cX0_agrees 85 = .ok (.iconst 1, 1) := by decide +kernel
theorem dX0_agrees_86 : decode cX0_agrees 86 = .ok (.ireturn, 1) := by decide +kernel
theorem dX0_agrees_12 : decode cX0_agrees 12 = .ok (.aload_n 1, 1) := by decide +kernel
theorem dX0_agrees_13 : decode cX0_agrees 13 = .ok (.aload_n 0, 1) := by decide +kernel
theorem dX0_agrees_14 : decode cX0_agrees 14 = .ok (.getfield 9, 3) := by decide +kernel
theorem dX0_agrees_17 : decode cX0_agrees 17 = .ok (.iload 4, 2) := by decide +kernel
theorem dX0_agrees_19 : decode cX0_agrees 19 = .ok (.iaload, 1) := by decide +kernel
theorem dX0_agrees_20 : decode cX0_agrees 20 = .ok (.aload_n 0, 1) := by decide +kernel
theorem dX0_agrees_21 : decode cX0_agrees 21 = .ok (.getfield 13, 3) := by decide +kernel
theorem dX0_agrees_24 : decode cX0_agrees 24 = .ok (.iload 4, 2) := by decide +kernel
theorem dX0_agrees_26 : decode cX0_agrees 26 = .ok (.iaload, 1) := by decide +kernel
theorem dX0_agrees_27 : decode cX0_agrees 27 = .ok (.invokevirtual 63, 3) := by decide +kernel
theorem dX0_agrees_30 : decode cX0_agrees 30 = .ok (.istore 5, 2) := by decide +kernel
theorem dX0_agrees_32 : decode cX0_agrees 32 = .ok (.aload_n 0, 1) := by decide +kernel
theorem dX0_agrees_33 : decode cX0_agrees 33 = .ok (.getfield 9, 3) := by decide +kernel
theorem dX0_agrees_36 : decode cX0_agrees 36 = .ok (.iload 4, 2) := by decide +kernel
theorem dX0_agrees_38 : decode cX0_agrees 38 = .ok (.iaload, 1) := by decide +kernel
theorem dX0_agrees_39 : decode cX0_agrees 39 = .ok (.iload_n 2, 1) := by decide +kernel
theorem dX0_agrees_40 : decode cX0_agrees 40 = .ok (.if_icmp .ne 25, 3) := by decide +kernel
theorem dX0_agrees_43 : decode cX0_agrees 43 = .ok (.aload_n 0, 1) := by decide +kernel
theorem dX0_agrees_44 : decode cX0_agrees 44 = .ok (.getfield 13, 3) := by decide +kernel
theorem dX0_agrees_47 : decode cX0_agrees 47 = .ok (.iload 4, 2) := by decide +kernel
theorem dX0_agrees_49 : decode cX0_agrees 49 = .ok (.iaload, 1) := by decide +kernel
theorem dX0_agrees_50 : decode cX0_agrees 50 = .ok (.iload_n 3, 1) := by decide +kernel
theorem dX0_agrees_51 : decode cX0_agrees 51 = .ok (.if_icmp .ne 14, 3) := by decide +kernel
theorem dX0_agrees_54 : decode cX0_agrees 54 = .ok (.iload 5, 2) := by decide +kernel
theorem dX0_agrees_56 : decode cX0_agrees 56 = .ok (.aload_n 1, 1) := by decide +kernel
theorem dX0_agrees_57 : decode cX0_agrees 57 = .ok (.iload_n 2, 1) := by decide +kernel
theorem dX0_agrees_58 : decode cX0_agrees 58 = .ok (.iload_n 3, 1) := by decide +kernel
theorem dX0_agrees_59 : decode cX0_agrees 59 = .ok (.invokevirtual 69, 3) := by decide +kernel
theorem dX0_agrees_62 : decode cX0_agrees 62 = .ok (.iadd, 1) := by decide +kernel
theorem dX0_agrees_63 : decode cX0_agrees 63 = .ok (.istore 5, 2) := by decide +kernel
theorem dX0_agrees_65 : decode cX0_agrees 65 = .ok (.iload 5, 2) := by decide +kernel
theorem dX0_agrees_67 : decode cX0_agrees 67 = .ok (.aload_n 0, 1) := by decide +kernel
theorem dX0_agrees_68 : decode cX0_agrees 68 = .ok (.getfield 16, 3) := by decide +kernel
theorem dX0_agrees_71 : decode cX0_agrees 71 = .ok (.iload 4, 2) := by decide +kernel
theorem dX0_agrees_73 : decode cX0_agrees 73 = .ok (.iaload, 1) := by decide +kernel
theorem dX0_agrees_74 : decode cX0_agrees 74 = .ok (.if_icmp .eq 5, 3) := by decide +kernel
theorem dX0_agrees_79 : decode cX0_agrees 79 = .ok (.iinc 4 1, 3) := by decide +kernel
theorem dX0_agrees_82 : decode cX0_agrees 82 = .ok (.goto (-79), 3) := by decide +kernel
theorem dX0_agrees_77 : decode cX0_agrees 77 = .ok (.iconst 0, 1) := by decide +kernel
theorem dX0_agrees_78 : decode cX0_agrees 78 = .ok (.ireturn, 1) := by decide +kernel
theorem dX9_fits_56 : decode cX9_fits 56 = .ok (.invokevirtual 345, 3) := by decide +kernel
theorem dX9_fits_59 : decode cX9_fits 59 = .ok (.ifCond .eq 24, 3) := by decide +kernel
theorem dX9_fits_83 : decode cX9_fits 83 = .ok (.iinc 5 1, 3) := by decide +kernel
theorem dX9_fits_86 : decode cX9_fits 86 = .ok (.goto (-54), 3) := by decide +kernel
theorem dX9_fits_62 : decode cX9_fits 62 = .ok (.iinc 2 1, 3) := by decide +kernel
theorem dX9_fits_65 : decode cX9_fits 65 = .ok (.iload_n 3, 1) := by decide +kernel
theorem dX9_fits_66 : decode cX9_fits 66 = .ok (.iconst (-1), 1) := by decide +kernel
theorem dX9_fits_67 : decode cX9_fits 67 = .ok (.if_icmp .ne 14, 3) := by decide +kernel
theorem dX9_fits_81 : decode cX9_fits 81 = .ok (.iload_n 3, 1) := by decide +kernel
theorem dX9_fits_82 : decode cX9_fits 82 = .ok (.istore_n 3, 1) := by decide +kernel
theorem dX9_fits_70 : decode cX9_fits 70 = .ok (.bipush 10, 2) := by decide +kernel
theorem dX9_fits_72 : decode cX9_fits 72 = .ok (.iload 4, 2) := by decide +kernel
theorem dX9_fits_74 : decode cX9_fits 74 = .ok (.imul, 1) := by decide +kernel
theorem dX9_fits_75 : decode cX9_fits 75 = .ok (.iload 5, 2) := by decide +kernel
theorem dX9_fits_77 : decode cX9_fits 77 = .ok (.iadd, 1) := by decide +kernel
theorem dX9_fits_78 : decode cX9_fits 78 = .ok (.goto 4, 3) := by decide +kernel
theorem dX9_look_0 : decode cX9_look 0 = .ok (.aload_n 0, 1) := by decide +kernel
theorem dX9_look_1 : decode cX9_look 1 = .ok (.iload_n 1, 1) := by decide +kernel
theorem dX9_look_2 : decode cX9_look 2 = .ok (.iconst 0, 1) := by decide +kernel
theorem dX9_look_3 : decode cX9_look 3 = .ok (.iconst 1, 1) := by decide +kernel
theorem dX9_look_4 : decode cX9_look 4 = .ok (.invokestatic 282, 3) := by decide +kernel
theorem dX9_look_7 : decode cX9_look 7 = .ok (.invokevirtual 286, 3) := by decide +kernel
theorem dX9_look_10 : decode cX9_look 10 = .ok (.aload_n 0, 1) := by decide +kernel
theorem dX9_pairsThatFit_0 : decode cX9_pairsThatFit 0 = .ok (.iconst 0, 1) := by decide +kernel
theorem dX9_pairsThatFit_1 : decode cX9_pairsThatFit 1 = .ok (.istore_n 1, 1) := by decide +kernel
theorem dX9_pairsThatFit_2 : decode cX9_pairsThatFit 2 = .ok (.iconst 0, 1) := by decide +kernel
theorem dX9_pairsThatFit_3 : decode cX9_pairsThatFit 3 = .ok (.istore_n 2, 1) := by decide +kernel
theorem dX9_pairsThatFit_4 : decode cX9_pairsThatFit 4 = .ok (.iload_n 2, 1) := by decide +kernel
theorem dX9_pairsThatFit_5 : decode cX9_pairsThatFit 5 = .ok (.aload_n 0, 1) := by decide +kernel
theorem dX9_pairsThatFit_6 : decode cX9_pairsThatFit 6 = .ok (.getfield 27, 3) := by decide +kernel
theorem dX9_pairsThatFit_9 : decode cX9_pairsThatFit 9 = .ok (.getfield 175, 3) := by decide +kernel
theorem dX9_pairsThatFit_12 : decode cX9_pairsThatFit 12 = .ok (.if_icmp .ge 52, 3) := by decide +kernel
theorem dX9_pairsThatFit_64 : decode cX9_pairsThatFit 64 = .ok (.iload_n 1, 1) := by decide +kernel
theorem dX9_pairsThatFit_65 : decode cX9_pairsThatFit 65 = .ok (.ireturn, 1) := by decide +kernel
theorem dX9_pairsThatFit_15 : decode cX9_pairsThatFit 15 = .ok (.iconst 0, 1) := by decide +kernel
theorem dX9_pairsThatFit_16 : decode cX9_pairsThatFit 16 = .ok (.istore_n 3, 1) := by decide +kernel
theorem dX9_pairsThatFit_17 : decode cX9_pairsThatFit 17 = .ok (.iload_n 3, 1) := by decide +kernel
theorem dX9_pairsThatFit_18 : decode cX9_pairsThatFit 18 = .ok (.aload_n 0, 1) := by decide +kernel
theorem dX9_pairsThatFit_19 : decode cX9_pairsThatFit 19 = .ok (.getfield 27, 3) := by decide +kernel
theorem dX9_pairsThatFit_22 : decode cX9_pairsThatFit 22 = .ok (.getfield 172, 3) := by decide +kernel
theorem dX9_pairsThatFit_25 : decode cX9_pairsThatFit 25 = .ok (.if_icmp .ge 33, 3) := by decide +kernel
theorem dX9_pairsThatFit_58 : decode cX9_pairsThatFit 58 = .ok (.iinc 2 1, 3) := by decide +kernel
theorem dX9_pairsThatFit_61 : decode cX9_pairsThatFit 61 = .ok (.goto (-57), 3) := by decide +kernel
theorem dX9_pairsThatFit_28 : decode cX9_pairsThatFit 28 = .ok (.iload_n 1, 1) := by decide +kernel
theorem dX9_pairsThatFit_29 : decode cX9_pairsThatFit 29 = .ok (.aload_n 0, 1) := by decide +kernel
theorem dX9_pairsThatFit_30 : decode cX9_pairsThatFit 30 = .ok (.getfield 44, 3) := by decide +kernel
theorem dX9_pairsThatFit_33 : decode cX9_pairsThatFit 33 = .ok (.aload_n 0, 1) := by decide +kernel
theorem dX9_pairsThatFit_34 : decode cX9_pairsThatFit 34 = .ok (.getfield 58, 3) := by decide +kernel
theorem dX9_pairsThatFit_37 : decode cX9_pairsThatFit 37 = .ok (.iload_n 2, 1) := by decide +kernel
theorem dX9_pairsThatFit_38 : decode cX9_pairsThatFit 38 = .ok (.iload_n 3, 1) := by decide +kernel
theorem dX9_pairsThatFit_39 : decode cX9_pairsThatFit 39 = .ok (.invokevirtual 345, 3) := by decide +kernel
theorem dX9_pairsThatFit_42 : decode cX9_pairsThatFit 42 = .ok (.ifCond .eq 7, 3) := by decide +kernel
theorem dX9_pairsThatFit_49 : decode cX9_pairsThatFit 49 = .ok (.iconst 0, 1) := by decide +kernel
theorem dX9_pairsThatFit_50 : decode cX9_pairsThatFit 50 = .ok (.iadd, 1) := by decide +kernel
theorem dX9_pairsThatFit_51 : decode cX9_pairsThatFit 51 = .ok (.istore_n 1, 1) := by decide +kernel
theorem dX9_pairsThatFit_52 : decode cX9_pairsThatFit 52 = .ok (.iinc 3 1, 3) := by decide +kernel
theorem dX9_pairsThatFit_55 : decode cX9_pairsThatFit 55 = .ok (.goto (-38), 3) := by decide +kernel
theorem dX9_pairsThatFit_45 : decode cX9_pairsThatFit 45 = .ok (.iconst 1, 1) := by decide +kernel
theorem dX9_pairsThatFit_46 : decode cX9_pairsThatFit 46 = .ok (.goto 4, 3) := by decide +kernel
theorem dX9_look_11 : decode cX9_look 11 = .ok (.invokevirtual 349, 3) := by decide +kernel
theorem dX9_look_14 : decode cX9_look 14 = .ok (.istore_n 2, 1) := by decide +kernel
theorem dX9_look_15 : decode cX9_look 15 = .ok (.iconst (-1), 1) := by decide +kernel
theorem dX9_look_16 : decode cX9_look 16 = .ok (.istore_n 3, 1) := by decide +kernel
theorem dX9_look_17 : decode cX9_look 17 = .ok (.iconst (-1), 1) := by decide +kernel
theorem dX9_look_18 : decode cX9_look 18 = .ok (.istore 4, 2) := by decide +kernel
theorem dX9_look_20 : decode cX9_look 20 = .ok (.iconst 0, 1) := by decide +kernel
theorem dX9_look_21 : decode cX9_look 21 = .ok (.istore 5, 2) := by decide +kernel
theorem dX9_look_23 : decode cX9_look 23 = .ok (.iload 5, 2) := by decide +kernel
theorem dX9_look_25 : decode cX9_look 25 = .ok (.aload_n 0, 1) := by decide +kernel
theorem dX9_look_26 : decode cX9_look 26 = .ok (.getfield 27, 3) := by decide +kernel
theorem dX9_look_29 : decode cX9_look 29 = .ok (.getfield 175, 3) := by decide +kernel
theorem dX9_look_32 : decode cX9_look 32 = .ok (.if_icmp .ge 80, 3) := by decide +kernel
theorem dX9_look_112 : decode cX9_look 112 = .ok (.iload_n 1, 1) := by decide +kernel
theorem dX9_look_113 : decode cX9_look 113 = .ok (.ifCond .ne 7, 3) := by decide +kernel
theorem dX9_look_120 : decode cX9_look 120 = .ok (.iload 4, 2) := by decide +kernel
theorem dX9_look_122 : decode cX9_look 122 = .ok (.ireturn, 1) := by decide +kernel
theorem dX9_look_116 : decode cX9_look 116 = .ok (.iload_n 3, 1) := by decide +kernel
theorem dX9_look_117 : decode cX9_look 117 = .ok (.goto 5, 3) := by decide +kernel
theorem dX9_look_35 : decode cX9_look 35 = .ok (.iconst 0, 1) := by decide +kernel
theorem dX9_look_36 : decode cX9_look 36 = .ok (.istore 6, 2) := by decide +kernel
theorem dX9_look_38 : decode cX9_look 38 = .ok (.iload 6, 2) := by decide +kernel
theorem dX9_look_40 : decode cX9_look 40 = .ok (.aload_n 0, 1) := by decide +kernel
theorem dX9_look_41 : decode cX9_look 41 = .ok (.getfield 27, 3) := by decide +kernel
theorem dX9_look_44 : decode cX9_look 44 = .ok (.getfield 172, 3) := by decide +kernel
theorem dX9_look_47 : decode cX9_look 47 = .ok (.if_icmp .ge 59, 3) := by decide +kernel
theorem dX9_look_106 : decode cX9_look 106 = .ok (.iinc 5 1, 3) := by decide +kernel
theorem dX9_look_109 : decode cX9_look 109 = .ok (.goto (-86), 3) := by decide +kernel
theorem dX9_look_50 : decode cX9_look 50 = .ok (.aload_n 0, 1) := by decide +kernel
theorem dX9_look_51 : decode cX9_look 51 = .ok (.getfield 44, 3) := by decide +kernel
theorem dX9_look_54 : decode cX9_look 54 = .ok (.iload 5, 2) := by decide +kernel
theorem dX9_look_56 : decode cX9_look 56 = .ok (.iload 6, 2) := by decide +kernel
theorem dX0_tells_0 : decode cX0_tells 0 = .ok (.iconst 0, 1) := by decide +kernel
theorem dX0_tells_1 : decode cX0_tells 1 = .ok (.istore_n 3, 1) := by decide +kernel
theorem dX0_tells_2 : decode cX0_tells 2 = .ok (.iload_n 3, 1) := by decide +kernel
theorem dX0_tells_3 : decode cX0_tells 3 = .ok (.aload_n 0, 1) := by decide +kernel
theorem dX0_tells_4 : decode cX0_tells 4 = .ok (.getfield 19, 3) := by decide +kernel
theorem dX0_tells_7 : decode cX0_tells 7 = .ok (.if_icmp .ge 31, 3) := by decide +kernel
theorem dX0_tells_38 : decode cX0_tells 38 = .ok (.iconst 0, 1) := by decide +kernel
theorem dX0_tells_39 : decode cX0_tells 39 = .ok (.ireturn, 1) := by decide +kernel
theorem dX0_tells_10 : decode cX0_tells 10 = .ok (.aload_n 0, 1) := by decide +kernel
theorem dX0_tells_11 : decode cX0_tells 11 = .ok (.getfield 9, 3) := by decide +kernel
theorem dX0_tells_14 : decode cX0_tells 14 = .ok (.iload_n 3, 1) := by decide +kernel
theorem dX0_tells_15 : decode cX0_tells 15 = .ok (.iaload, 1) := by decide +kernel
theorem dX0_tells_16 : decode cX0_tells 16 = .ok (.iload_n 1, 1) := by decide +kernel
theorem dX0_tells_17 : decode cX0_tells 17 = .ok (.if_icmp .ne 15, 3) := by decide +kernel
theorem dX0_tells_32 : decode cX0_tells 32 = .ok (.iinc 3 1, 3) := by decide +kernel
theorem dX0_tells_35 : decode cX0_tells 35 = .ok (.goto (-33), 3) := by decide +kernel
theorem dX0_tells_20 : decode cX0_tells 20 = .ok (.aload_n 0, 1) := by decide +kernel
theorem dX0_tells_21 : decode cX0_tells 21 = .ok (.getfield 13, 3) := by decide +kernel
theorem dX0_tells_24 : decode cX0_tells 24 = .ok (.iload_n 3, 1) := by decide +kernel
theorem dX0_tells_25 : decode cX0_tells 25 = .ok (.iaload, 1) := by decide +kernel
theorem dX0_tells_26 : decode cX0_tells 26 = .ok (.iload_n 2, 1) := by decide +kernel
theorem dX0_tells_27 : decode cX0_tells 27 = .ok (.if_icmp .ne 5, 3) := by decide +kernel
theorem dX0_tells_30 : decode cX0_tells 30 = .ok (.iconst 1, 1) := by decide +kernel
theorem dX0_tells_31 : decode cX0_tells 31 = .ok (.ireturn, 1) := by decide +kernel
theorem dX9_look_58 : decode cX9_look 58 = .ok (.invokevirtual 352, 3) := by decide +kernel
theorem dX9_look_61 : decode cX9_look 61 = .ok (.ifCond .ne 39, 3) := by decide +kernel
theorem dX9_look_100 : decode cX9_look 100 = .ok (.iinc 6 1, 3) := by decide +kernel
theorem dX9_look_103 : decode cX9_look 103 = .ok (.goto (-65), 3) := by decide +kernel
theorem dX9_look_64 : decode cX9_look 64 = .ok (.aload_n 0, 1) := by decide +kernel
theorem dX9_look_65 : decode cX9_look 65 = .ok (.iload 5, 2) := by decide +kernel
theorem dX9_look_67 : decode cX9_look 67 = .ok (.iload 6, 2) := by decide +kernel
theorem dX9_look_69 : decode cX9_look 69 = .ok (.iload_n 2, 1) := by decide +kernel
theorem dX9_leftAtWorst_0 : decode cX9_leftAtWorst 0 = .ok (.aload_n 0, 1) := by decide +kernel
theorem dX9_leftAtWorst_1 : decode cX9_leftAtWorst 1 = .ok (.getfield 58, 3) := by decide +kernel
theorem dX9_leftAtWorst_4 : decode cX9_leftAtWorst 4 = .ok (.iload_n 1, 1) := by decide +kernel
theorem dX9_leftAtWorst_5 : decode cX9_leftAtWorst 5 = .ok (.iload_n 2, 1) := by decide +kernel
theorem dX9_leftAtWorst_6 : decode cX9_leftAtWorst 6 = .ok (.invokevirtual 305, 3) := by decide +kernel
theorem dX9_leftAtWorst_9 : decode cX9_leftAtWorst 9 = .ok (.ifCond .le 27, 3) := by decide +kernel
theorem dX9_leftAtWorst_36 : decode cX9_leftAtWorst 36 = .ok (.iload_n 3, 1) := by decide +kernel
theorem dX9_leftAtWorst_37 : decode cX9_leftAtWorst 37 = .ok (.ireturn, 1) := by decide +kernel
theorem dX9_leftAtWorst_12 : decode cX9_leftAtWorst 12 = .ok (.aload_n 0, 1) := by decide +kernel
theorem dX9_leftAtWorst_13 : decode cX9_leftAtWorst 13 = .ok (.getfield 44, 3) := by decide +kernel
theorem dX9_leftAtWorst_16 : decode cX9_leftAtWorst 16 = .ok (.aload_n 0, 1) := by decide +kernel
theorem dX9_leftAtWorst_17 : decode cX9_leftAtWorst 17 = .ok (.getfield 58, 3) := by decide +kernel
theorem dX9_leftAtWorst_20 : decode cX9_leftAtWorst 20 = .ok (.iload_n 1, 1) := by decide +kernel
theorem dX9_leftAtWorst_21 : decode cX9_leftAtWorst 21 = .ok (.iload_n 2, 1) := by decide +kernel
theorem dX9_leftAtWorst_22 : decode cX9_leftAtWorst 22 = .ok (.invokevirtual 345, 3) := by decide +kernel
theorem dX9_leftAtWorst_25 : decode cX9_leftAtWorst 25 = .ok (.ifCond .eq 11, 3) := by decide +kernel
theorem dX9_leftAtWorst_28 : decode cX9_leftAtWorst 28 = .ok (.iload_n 3, 1) := by decide +kernel
theorem dX9_leftAtWorst_29 : decode cX9_leftAtWorst 29 = .ok (.iconst 1, 1) := by decide +kernel
theorem dX9_leftAtWorst_30 : decode cX9_leftAtWorst 30 = .ok (.isub, 1) := by decide +kernel
theorem dX9_leftAtWorst_31 : decode cX9_leftAtWorst 31 = .ok (.iconst 1, 1) := by decide +kernel
theorem dX9_leftAtWorst_32 : decode cX9_leftAtWorst 32 = .ok (.invokestatic 342, 3) := by decide +kernel
theorem dX9_leftAtWorst_35 : decode cX9_leftAtWorst 35 = .ok (.ireturn, 1) := by decide +kernel
theorem dX9_look_70 : decode cX9_look 70 = .ok (.invokevirtual 355, 3) := by decide +kernel
theorem dX9_look_73 : decode cX9_look 73 = .ok (.istore 7, 2) := by decide +kernel
theorem dX9_look_75 : decode cX9_look 75 = .ok (.iload_n 3, 1) := by decide +kernel
theorem dX9_look_76 : decode cX9_look 76 = .ok (.iconst (-1), 1) := by decide +kernel
theorem dX9_look_77 : decode cX9_look 77 = .ok (.if_icmp .eq 10, 3) := by decide +kernel
theorem dX9_look_80 : decode cX9_look 80 = .ok (.iload 7, 2) := by decide +kernel
theorem dX9_look_82 : decode cX9_look 82 = .ok (.iload 4, 2) := by decide +kernel
theorem dX9_look_84 : decode cX9_look 84 = .ok (.if_icmp .ge 16, 3) := by decide +kernel
theorem dX9_look_87 : decode cX9_look 87 = .ok (.bipush 10, 2) := by decide +kernel
theorem dX9_look_89 : decode cX9_look 89 = .ok (.iload 5, 2) := by decide +kernel
theorem dX9_look_91 : decode cX9_look 91 = .ok (.imul, 1) := by decide +kernel
theorem dX9_look_92 : decode cX9_look 92 = .ok (.iload 6, 2) := by decide +kernel
theorem dX9_look_94 : decode cX9_look 94 = .ok (.iadd, 1) := by decide +kernel
theorem dX9_look_95 : decode cX9_look 95 = .ok (.istore_n 3, 1) := by decide +kernel
theorem dX9_look_96 : decode cX9_look 96 = .ok (.iload 7, 2) := by decide +kernel
theorem dX9_look_98 : decode cX9_look 98 = .ok (.istore 4, 2) := by decide +kernel
theorem dX9_kept_0 : decode cX9_kept 0 = .ok (.aload_n 0, 1) := by decide +kernel
theorem dX9_kept_1 : decode cX9_kept 1 = .ok (.iload_n 1, 1) := by decide +kernel
theorem dX9_kept_2 : decode cX9_kept 2 = .ok (.iconst 0, 1) := by decide +kernel
theorem dX9_kept_3 : decode cX9_kept 3 = .ok (.bipush 12, 2) := by decide +kernel
theorem dX9_kept_5 : decode cX9_kept 5 = .ok (.invokestatic 282, 3) := by decide +kernel
theorem dX9_kept_8 : decode cX9_kept 8 = .ok (.ifCond .eq 37, 3) := by decide +kernel
theorem dX9_kept_11 : decode cX9_kept 11 = .ok (.iload_n 2, 1) := by decide +kernel
theorem dX9_kept_12 : decode cX9_kept 12 = .ok (.iconst 0, 1) := by decide +kernel
theorem dX9_kept_13 : decode cX9_kept 13 = .ok (.bipush 13, 2) := by decide +kernel
theorem dX9_kept_15 : decode cX9_kept 15 = .ok (.invokestatic 282, 3) := by decide +kernel
theorem dX9_kept_18 : decode cX9_kept 18 = .ok (.ifCond .eq 27, 3) := by decide +kernel
theorem dX9_kept_21 : decode cX9_kept 21 = .ok (.iload_n 3, 1) := by decide +kernel
theorem dX9_kept_22 : decode cX9_kept 22 = .ok (.iconst 0, 1) := by decide +kernel
theorem dX9_kept_23 : decode cX9_kept 23 = .ok (.bipush 16, 2) := by decide +kernel
theorem dX9_kept_25 : decode cX9_kept 25 = .ok (.invokestatic 282, 3) := by decide +kernel
theorem dX9_kept_28 : decode cX9_kept 28 = .ok (.ifCond .eq 17, 3) := by decide +kernel
theorem dX9_kept_31 : decode cX9_kept 31 = .ok (.iload 4, 2) := by decide +kernel
theorem dX9_kept_33 : decode cX9_kept 33 = .ok (.iconst 0, 1) := by decide +kernel
theorem dX9_kept_34 : decode cX9_kept 34 = .ok (.iconst 1, 1) := by decide +kernel
theorem dX9_kept_35 : decode cX9_kept 35 = .ok (.invokestatic 282, 3) := by decide +kernel
theorem dX9_kept_38 : decode cX9_kept 38 = .ok (.ifCond .eq 7, 3) := by decide +kernel
theorem dX9_kept_41 : decode cX9_kept 41 = .ok (.iconst 1, 1) := by decide +kernel
theorem dX9_kept_42 : decode cX9_kept 42 = .ok (.goto 4, 3) := by decide +kernel
theorem dX9_kept_45 : decode cX9_kept 45 = .ok (.iconst 0, 1) := by decide +kernel
theorem dX9_kept_46 : decode cX9_kept 46 = .ok (.invokevirtual 286, 3) := by decide +kernel
theorem dX9_kept_49 : decode cX9_kept 49 = .ok (.lconst 0, 1) := by decide +kernel
theorem dX9_kept_50 : decode cX9_kept 50 = .ok (.lstore 5, 2) := by decide +kernel
theorem dX9_kept_52 : decode cX9_kept 52 = .ok (.iload_n 2, 1) := by decide +kernel
theorem dX9_kept_53 : decode cX9_kept 53 = .ok (.istore 7, 2) := by decide +kernel
theorem dX9_kept_55 : decode cX9_kept 55 = .ok (.iload 7, 2) := by decide +kernel
theorem dX9_kept_57 : decode cX9_kept 57 = .ok (.iload_n 1, 1) := by decide +kernel
theorem dX9_kept_58 : decode cX9_kept 58 = .ok (.if_icmp .gt 39, 3) := by decide +kernel
theorem dX9_kept_97 : decode cX9_kept 97 = .ok (.bipush 16, 2) := by decide +kernel
theorem dX9_kept_99 : decode cX9_kept 99 = .ok (.iload_n 1, 1) := by decide +kernel
theorem dX9_power_0 : decode cX9_power 0 = .ok (.lconst 1, 1) := by decide +kernel
theorem dX9_power_1 : decode cX9_power 1 = .ok (.lstore_n 2, 1) := by decide +kernel
theorem dX9_power_2 : decode cX9_power 2 = .ok (.iconst 0, 1) := by decide +kernel
theorem dX9_power_3 : decode cX9_power 3 = .ok (.istore 4, 2) := by decide +kernel
theorem dX9_power_5 : decode cX9_power 5 = .ok (.iload 4, 2) := by decide +kernel
theorem dX9_power_7 : decode cX9_power 7 = .ok (.iload_n 1, 1) := by decide +kernel
theorem dX9_power_8 : decode cX9_power 8 = .ok (.if_icmp .ge 14, 3) := by decide +kernel
theorem dX9_power_22 : decode cX9_power 22 = .ok (.lload_n 2, 1) := by decide +kernel
theorem dX9_power_23 : decode cX9_power 23 = .ok (.lreturn, 1) := by decide +kernel
theorem dX9_power_11 : decode cX9_power 11 = .ok (.lload_n 2, 1) := by decide +kernel
theorem dX9_power_12 : decode cX9_power 12 = .ok (.iload_n 0, 1) := by decide +kernel
theorem dX9_power_13 : decode cX9_power 13 = .ok (.i2l, 1) := by decide +kernel
theorem dX9_power_14 : decode cX9_power 14 = .ok (.lmul, 1) := by decide +kernel
theorem dX9_power_15 : decode cX9_power 15 = .ok (.lstore_n 2, 1) := by decide +kernel
theorem dX9_power_16 : decode cX9_power 16 = .ok (.iinc 4 1, 3) := by decide +kernel
theorem dX9_power_19 : decode cX9_power 19 = .ok (.goto (-14), 3) := by decide +kernel
theorem dX9_kept_100 : decode cX9_kept 100 = .ok (.invokestatic 362, 3) := by decide +kernel
theorem dX9_kept_103 : decode cX9_kept 103 = .ok (.lstore 7, 2) := by decide +kernel
theorem dX9_kept_105 : decode cX9_kept 105 = .ok (.iconst 0, 1) := by decide +kernel
theorem dX9_kept_106 : decode cX9_kept 106 = .ok (.istore 9, 2) := by decide +kernel
theorem dX9_kept_61 : decode cX9_kept 61 = .ok (.lload 5, 2) := by decide +kernel
theorem dX9_kept_63 : decode cX9_kept 63 = .ok (.iload_n 1, 1) := by decide +kernel
theorem dX9_kept_64 : decode cX9_kept 64 = .ok (.iload 7, 2) := by decide +kernel
theorem dX9_choices_0 : decode cX9_choices 0 = .ok (.lconst 1, 1) := by decide +kernel
theorem dX9_choices_1 : decode cX9_choices 1 = .ok (.lstore_n 2, 1) := by decide +kernel
theorem dX9_choices_2 : decode cX9_choices 2 = .ok (.iconst 1, 1) := by decide +kernel
theorem dX9_choices_3 : decode cX9_choices 3 = .ok (.istore 4, 2) := by decide +kernel
theorem dX9_choices_5 : decode cX9_choices 5 = .ok (.iload 4, 2) := by decide +kernel
theorem dX9_choices_7 : decode cX9_choices 7 = .ok (.iload_n 1, 1) := by decide +kernel
theorem dX9_choices_8 : decode cX9_choices 8 = .ok (.if_icmp .gt 23, 3) := by decide +kernel
theorem dX9_choices_31 : decode cX9_choices 31 = .ok (.lload_n 2, 1) := by decide +kernel
theorem dX9_choices_32 : decode cX9_choices 32 = .ok (.lreturn, 1) := by decide +kernel
theorem dX9_choices_11 : decode cX9_choices 11 = .ok (.lload_n 2, 1) := by decide +kernel
theorem dX9_choices_12 : decode cX9_choices 12 = .ok (.iload_n 0, 1) := by decide +kernel
theorem dX9_choices_13 : decode cX9_choices 13 = .ok (.iload_n 1, 1) := by decide +kernel
theorem dX9_choices_14 : decode cX9_choices 14 = .ok (.isub, 1) := by decide +kernel
theorem dX9_choices_15 : decode cX9_choices 15 = .ok (.iload 4, 2) := by decide +kernel
theorem dX9_choices_17 : decode cX9_choices 17 = .ok (.iadd, 1) := by decide +kernel
theorem dX9_choices_18 : decode cX9_choices 18 = .ok (.i2l, 1) := by decide +kernel
theorem dX9_choices_19 : decode cX9_choices 19 = .ok (.lmul, 1) := by decide +kernel
theorem dX9_choices_20 : decode cX9_choices 20 = .ok (.iload 4, 2) := by decide +kernel
theorem dX9_choices_22 : decode cX9_choices 22 = .ok (.i2l, 1) := by decide +kernel
theorem dX9_choices_23 : decode cX9_choices 23 = .ok (.ldiv, 1) := by decide +kernel
theorem dX9_choices_24 : decode cX9_choices 24 = .ok (.lstore_n 2, 1) := by decide +kernel
theorem dX9_choices_25 : decode cX9_choices 25 = .ok (.iinc 4 1, 3) := by decide +kernel
theorem dX9_choices_28 : decode cX9_choices 28 = .ok (.goto (-23), 3) := by decide +kernel
theorem dX9_kept_66 : decode cX9_kept 66 = .ok (.invokestatic 358, 3) := by decide +kernel
theorem dX9_kept_69 : decode cX9_kept 69 = .ok (.bipush 16, 2) := by decide +kernel
theorem dX9_kept_71 : decode cX9_kept 71 = .ok (.iload_n 3, 1) := by decide +kernel
theorem dX9_kept_72 : decode cX9_kept 72 = .ok (.isub, 1) := by decide +kernel
theorem dX9_kept_73 : decode cX9_kept 73 = .ok (.iload 7, 2) := by decide +kernel
theorem dX9_kept_75 : decode cX9_kept 75 = .ok (.invokestatic 362, 3) := by decide +kernel
theorem dX9_kept_78 : decode cX9_kept 78 = .ok (.lmul, 1) := by decide +kernel
theorem dX9_kept_79 : decode cX9_kept 79 = .ok (.iload_n 3, 1) := by decide +kernel
theorem dX9_kept_80 : decode cX9_kept 80 = .ok (.iload_n 1, 1) := by decide +kernel
theorem dX9_kept_81 : decode cX9_kept 81 = .ok (.iload 7, 2) := by decide +kernel
theorem dX9_kept_83 : decode cX9_kept 83 = .ok (.isub, 1) := by decide +kernel
theorem dX9_kept_84 : decode cX9_kept 84 = .ok (.invokestatic 362, 3) := by decide +kernel
theorem dX9_kept_87 : decode cX9_kept 87 = .ok (.lmul, 1) := by decide +kernel
theorem dX9_kept_88 : decode cX9_kept 88 = .ok (.ladd, 1) := by decide +kernel
theorem dX9_kept_89 : decode cX9_kept 89 = .ok (.lstore 5, 2) := by decide +kernel
theorem dX9_kept_91 : decode cX9_kept 91 = .ok (.iinc 7 1, 3) := by decide +kernel
theorem dX9_kept_94 : decode cX9_kept 94 = .ok (.goto (-39), 3) := by decide +kernel
theorem dX9_kept_108 : decode cX9_kept 108 = .ok (.iload 9, 2) := by decide +kernel
theorem dX9_kept_110 : decode cX9_kept 110 = .ok (.iconst 4, 1) := by decide +kernel
theorem dX9_kept_111 : decode cX9_kept 111 = .ok (.iload_n 1, 1) := by decide +kernel
theorem dX9_kept_112 : decode cX9_kept 112 = .ok (.imul, 1) := by decide +kernel
theorem dX9_kept_113 : decode cX9_kept 113 = .ok (.if_icmp .ge 36, 3) := by decide +kernel
theorem dX9_kept_116 : decode cX9_kept 116 = .ok (.lload 5, 2) := by decide +kernel
theorem dX9_kept_118 : decode cX9_kept 118 = .ok (.ldc2_w 365, 3) := by decide +kernel
theorem dX9_kept_121 : decode cX9_kept 121 = .ok (.lrem, 1) := by decide +kernel
theorem dX9_kept_122 : decode cX9_kept 122 = .ok (.lconst 0, 1) := by decide +kernel
theorem dX9_kept_123 : decode cX9_kept 123 = .ok (.lcmp, 1) := by decide +kernel
theorem dX9_kept_124 : decode cX9_kept 124 = .ok (.ifCond .ne 25, 3) := by decide +kernel
theorem dX9_kept_127 : decode cX9_kept 127 = .ok (.lload 5, 2) := by decide +kernel
theorem dX9_kept_129 : decode cX9_kept 129 = .ok (.ldc2_w 365, 3) := by decide +kernel
theorem dX9_kept_132 : decode cX9_kept 132 = .ok (.ldiv, 1) := by decide +kernel
theorem dX9_kept_133 : decode cX9_kept 133 = .ok (.lstore 5, 2) := by decide +kernel
theorem dX9_kept_135 : decode cX9_kept 135 = .ok (.lload 7, 2) := by decide +kernel
theorem dX9_kept_137 : decode cX9_kept 137 = .ok (.ldc2_w 365, 3) := by decide +kernel
theorem dX9_kept_140 : decode cX9_kept 140 = .ok (.ldiv, 1) := by decide +kernel
theorem dX9_kept_141 : decode cX9_kept 141 = .ok (.lstore 7, 2) := by decide +kernel
theorem dX9_kept_143 : decode cX9_kept 143 = .ok (.iinc 9 1, 3) := by decide +kernel
theorem dX9_kept_146 : decode cX9_kept 146 = .ok (.goto (-38), 3) := by decide +kernel
theorem dX9_kept_149 : decode cX9_kept 149 = .ok (.iload 4, 2) := by decide +kernel
theorem dX9_kept_151 : decode cX9_kept 151 = .ok (.ifCond .ne 8, 3) := by decide +kernel
theorem dX9_kept_159 : decode cX9_kept 159 = .ok (.lload 7, 2) := by decide +kernel
theorem dX9_kept_161 : decode cX9_kept 161 = .ok (.lreturn, 1) := by decide +kernel
theorem dX9_kept_154 : decode cX9_kept 154 = .ok (.lload 5, 2) := by decide +kernel
theorem dX9_kept_156 : decode cX9_kept 156 = .ok (.goto 5, 3) := by decide +kernel
theorem dX9_fair_0 : decode cX9_fair 0 = .ok (.aload_n 0, 1) := by decide +kernel
theorem dX9_fair_1 : decode cX9_fair 1 = .ok (.iload_n 1, 1) := by decide +kernel
theorem dX9_fair_2 : decode cX9_fair 2 = .ok (.iconst 0, 1) := by decide +kernel
theorem dX9_fair_3 : decode cX9_fair 3 = .ok (.bipush 99, 2) := by decide +kernel
theorem dX9_fair_5 : decode cX9_fair 5 = .ok (.invokestatic 282, 3) := by decide +kernel
theorem dX9_fair_8 : decode cX9_fair 8 = .ok (.ifCond .eq 26, 3) := by decide +kernel
theorem dX9_fair_11 : decode cX9_fair 11 = .ok (.iload_n 2, 1) := by decide +kernel
theorem dX9_fair_12 : decode cX9_fair 12 = .ok (.iconst 0, 1) := by decide +kernel
theorem dX9_fair_13 : decode cX9_fair 13 = .ok (.bipush 99, 2) := by decide +kernel
theorem dX9_fair_15 : decode cX9_fair 15 = .ok (.invokestatic 282, 3) := by decide +kernel
theorem dX9_fair_18 : decode cX9_fair 18 = .ok (.ifCond .eq 16, 3) := by decide +kernel
theorem dX9_fair_21 : decode cX9_fair 21 = .ok (.iload_n 3, 1) := by decide +kernel
theorem dX9_fair_22 : decode cX9_fair 22 = .ok (.iconst 0, 1) := by decide +kernel
theorem dX9_fair_23 : decode cX9_fair 23 = .ok (.iconst 2, 1) := by decide +kernel
theorem dX9_fair_24 : decode cX9_fair 24 = .ok (.invokestatic 282, 3) := by decide +kernel
theorem dX9_fair_27 : decode cX9_fair 27 = .ok (.ifCond .eq 7, 3) := by decide +kernel
theorem dX9_fair_30 : decode cX9_fair 30 = .ok (.iconst 1, 1) := by decide +kernel
theorem dX9_fair_31 : decode cX9_fair 31 = .ok (.goto 4, 3) := by decide +kernel
theorem dX9_fair_34 : decode cX9_fair 34 = .ok (.iconst 0, 1) := by decide +kernel
theorem dX9_fair_35 : decode cX9_fair 35 = .ok (.invokevirtual 286, 3) := by decide +kernel
theorem dX9_fair_38 : decode cX9_fair 38 = .ok (.iconst 0, 1) := by decide +kernel
theorem dX9_fair_39 : decode cX9_fair 39 = .ok (.istore 4, 2) := by decide +kernel
theorem dX9_fair_41 : decode cX9_fair 41 = .ok (.iconst (-1), 1) := by decide +kernel
theorem dX9_fair_42 : decode cX9_fair 42 = .ok (.istore 5, 2) := by decide +kernel
theorem dX9_fair_44 : decode cX9_fair 44 = .ok (.iconst 0, 1) := by decide +kernel
theorem dX9_fair_45 : decode cX9_fair 45 = .ok (.istore 6, 2) := by decide +kernel
theorem dX9_fair_47 : decode cX9_fair 47 = .ok (.iconst 0, 1) := by decide +kernel
theorem dX9_fair_48 : decode cX9_fair 48 = .ok (.istore 7, 2) := by decide +kernel
theorem dX9_fair_50 : decode cX9_fair 50 = .ok (.iload 7, 2) := by decide +kernel
theorem dX9_fair_52 : decode cX9_fair 52 = .ok (.iconst 1, 1) := by decide +kernel
theorem dX9_fair_53 : decode cX9_fair 53 = .ok (.if_icmp .gt 104, 3) := by decide +kernel
theorem dX9_fair_157 : decode cX9_fair 157 = .ok (.iload_n 3, 1) := by decide +kernel
theorem dX9_fair_158 : decode cX9_fair 158 = .ok (.lookupswitch 32 #[(0, 26), (1, 29)], 26) := by decide +kernel
theorem dX9_fair_184 : decode cX9_fair 184 = .ok (.iload 4, 2) := by decide +kernel
theorem dX9_fair_186 : decode cX9_fair 186 = .ok (.ireturn, 1) := by decide +kernel
theorem dX9_fair_187 : decode cX9_fair 187 = .ok (.iload 5, 2) := by decide +kernel
theorem dX9_fair_189 : decode cX9_fair 189 = .ok (.ireturn, 1) := by decide +kernel
theorem dX9_fair_190 : decode cX9_fair 190 = .ok (.iload 6, 2) := by decide +kernel
theorem dX9_fair_192 : decode cX9_fair 192 = .ok (.ireturn, 1) := by decide +kernel
theorem dX9_fair_56 : decode cX9_fair 56 = .ok (.iconst 0, 1) := by decide +kernel
theorem dX9_fair_57 : decode cX9_fair 57 = .ok (.istore 8, 2) := by decide +kernel
theorem dX9_fair_59 : decode cX9_fair 59 = .ok (.iload 8, 2) := by decide +kernel
theorem dX9_fair_61 : decode cX9_fair 61 = .ok (.iconst 1, 1) := by decide +kernel
theorem dX9_fair_62 : decode cX9_fair 62 = .ok (.if_icmp .gt 89, 3) := by decide +kernel
theorem dX9_fair_151 : decode cX9_fair 151 = .ok (.iinc 7 1, 3) := by decide +kernel
theorem dX9_fair_154 : decode cX9_fair 154 = .ok (.goto (-104), 3) := by decide +kernel
theorem dX9_fair_65 : decode cX9_fair 65 = .ok (.iload 7, 2) := by decide +kernel
theorem dX9_fair_67 : decode cX9_fair 67 = .ok (.iload 8, 2) := by decide +kernel
theorem dX9_fair_69 : decode cX9_fair 69 = .ok (.iload_n 1, 1) := by decide +kernel
theorem dX9_fair_70 : decode cX9_fair 70 = .ok (.iload_n 2, 1) := by decide +kernel
theorem dX9_fairShare_0 : decode cX9_fairShare 0 = .ok (.iload_n 1, 1) := by decide +kernel
theorem dX9_fairShare_1 : decode cX9_fairShare 1 = .ok (.iconst 1, 1) := by decide +kernel
theorem dX9_fairShare_2 : decode cX9_fairShare 2 = .ok (.if_icmp .ne 5, 3) := by decide +kernel
theorem dX9_fairShare_7 : decode cX9_fairShare 7 = .ok (.iload_n 0, 1) := by decide +kernel
theorem dX9_fairShare_8 : decode cX9_fairShare 8 = .ok (.ifCond .ne 7, 3) := by decide +kernel
theorem dX9_fairShare_15 : decode cX9_fairShare 15 = .ok (.iload_n 3, 1) := by decide +kernel
theorem dX9_fairShare_16 : decode cX9_fairShare 16 = .ok (.ireturn, 1) := by decide +kernel
theorem dX9_fairShare_11 : decode cX9_fairShare 11 = .ok (.iload_n 2, 1) := by decide +kernel
theorem dX9_fairShare_12 : decode cX9_fairShare 12 = .ok (.goto 4, 3) := by decide +kernel
theorem dX9_fairShare_5 : decode cX9_fairShare 5 = .ok (.iconst 0, 1) := by decide +kernel
theorem dX9_fairShare_6 : decode cX9_fairShare 6 = .ok (.ireturn, 1) := by decide +kernel
theorem dX9_fair_71 : decode cX9_fair 71 = .ok (.invokestatic 367, 3) := by decide +kernel
theorem dX9_fair_74 : decode cX9_fair 74 = .ok (.istore 9, 2) := by decide +kernel
theorem dX9_fair_76 : decode cX9_fair 76 = .ok (.iload 8, 2) := by decide +kernel
theorem dX9_fair_78 : decode cX9_fair 78 = .ok (.iload 7, 2) := by decide +kernel
theorem dX9_fair_80 : decode cX9_fair 80 = .ok (.iload_n 1, 1) := by decide +kernel
theorem dX9_fair_81 : decode cX9_fair 81 = .ok (.iload_n 2, 1) := by decide +kernel
theorem dX9_fair_82 : decode cX9_fair 82 = .ok (.invokestatic 367, 3) := by decide +kernel
theorem dX9_fair_85 : decode cX9_fair 85 = .ok (.istore 10, 2) := by decide +kernel
theorem dX9_fair_87 : decode cX9_fair 87 = .ok (.iconst 1, 1) := by decide +kernel
theorem dX9_fair_88 : decode cX9_fair 88 = .ok (.iload 7, 2) := by decide +kernel
theorem dX9_fair_90 : decode cX9_fair 90 = .ok (.isub, 1) := by decide +kernel
theorem dX9_fair_91 : decode cX9_fair 91 = .ok (.iload 8, 2) := by decide +kernel
theorem dX9_fair_93 : decode cX9_fair 93 = .ok (.iload_n 1, 1) := by decide +kernel
theorem dX9_fair_94 : decode cX9_fair 94 = .ok (.iload_n 2, 1) := by decide +kernel
theorem dX9_fair_95 : decode cX9_fair 95 = .ok (.invokestatic 367, 3) := by decide +kernel
theorem dX9_fair_98 : decode cX9_fair 98 = .ok (.iload 9, 2) := by decide +kernel
theorem dX9_fair_100 : decode cX9_fair 100 = .ok (.if_icmp .gt 45, 3) := by decide +kernel
theorem dX9_fair_145 : decode cX9_fair 145 = .ok (.iinc 8 1, 3) := by decide +kernel
theorem dX9_fair_148 : decode cX9_fair 148 = .ok (.goto (-89), 3) := by decide +kernel
theorem dX9_fair_103 : decode cX9_fair 103 = .ok (.iconst 1, 1) := by decide +kernel
theorem dX9_fair_104 : decode cX9_fair 104 = .ok (.iload 8, 2) := by decide +kernel
theorem dX9_fair_106 : decode cX9_fair 106 = .ok (.isub, 1) := by decide +kernel
theorem dX9_fair_107 : decode cX9_fair 107 = .ok (.iload 7, 2) := by decide +kernel
theorem dX9_fair_109 : decode cX9_fair 109 = .ok (.iload_n 1, 1) := by decide +kernel
theorem dX9_fair_110 : decode cX9_fair 110 = .ok (.iload_n 2, 1) := by decide +kernel
theorem dX9_fair_111 : decode cX9_fair 111 = .ok (.invokestatic 367, 3) := by decide +kernel
theorem dX9_fair_114 : decode cX9_fair 114 = .ok (.iload 10, 2) := by decide +kernel
theorem dX9_fair_116 : decode cX9_fair 116 = .ok (.if_icmp .gt 29, 3) := by decide +kernel
theorem dX9_fair_119 : decode cX9_fair 119 = .ok (.iinc 4 1, 3) := by decide +kernel
theorem dX9_fair_122 : decode cX9_fair 122 = .ok (.iload 5, 2) := by decide +kernel
theorem dX9_fair_124 : decode cX9_fair 124 = .ok (.iconst (-1), 1) := by decide +kernel
theorem dX9_fair_125 : decode cX9_fair 125 = .ok (.if_icmp .ne 20, 3) := by decide +kernel
theorem dX9_fair_128 : decode cX9_fair 128 = .ok (.bipush 10, 2) := by decide +kernel
theorem dX9_fair_130 : decode cX9_fair 130 = .ok (.iload 7, 2) := by decide +kernel
theorem dX9_fair_132 : decode cX9_fair 132 = .ok (.imul, 1) := by decide +kernel
theorem dX9_fair_133 : decode cX9_fair 133 = .ok (.iload 8, 2) := by decide +kernel
theorem dX9_fair_135 : decode cX9_fair 135 = .ok (.iadd, 1) := by decide +kernel
theorem dX9_fair_136 : decode cX9_fair 136 = .ok (.istore 5, 2) := by decide +kernel
theorem dX9_fair_138 : decode cX9_fair 138 = .ok (.iload 9, 2) := by decide +kernel
theorem dX9_fair_140 : decode cX9_fair 140 = .ok (.iload 10, 2) := by decide +kernel
theorem dX9_fair_142 : decode cX9_fair 142 = .ok (.iadd, 1) := by decide +kernel
theorem dX9_fair_143 : decode cX9_fair 143 = .ok (.istore 6, 2) := by decide +kernel
theorem dX9_candles_0 : decode cX9_candles 0 = .ok (.aload_n 0, 1) := by decide +kernel
theorem dX9_candles_1 : decode cX9_candles 1 = .ok (.iload_n 1, 1) := by decide +kernel
theorem dX9_candles_2 : decode cX9_candles 2 = .ok (.invokevirtual 219, 3) := by decide +kernel
theorem dX9_candles_5 : decode cX9_candles 5 = .ok (.aload_n 0, 1) := by decide +kernel
theorem dX9_candles_6 : decode cX9_candles 6 = .ok (.aload_n 0, 1) := by decide +kernel
theorem dX9_candles_7 : decode cX9_candles 7 = .ok (.getfield 27, 3) := by decide +kernel
theorem dX9_candles_10 : decode cX9_candles 10 = .ok (.iload_n 2, 1) := by decide +kernel
theorem dX7_areMen_0 : decode cX7_areMen 0 = .ok (.iload_n 1, 1) := by decide +kernel
theorem dX7_areMen_1 : decode cX7_areMen 1 = .ok (.aload_n 0, 1) := by decide +kernel
theorem dX7_areMen_2 : decode cX7_areMen 2 = .ok (.getfield 41, 3) := by decide +kernel
theorem dX7_areMen_5 : decode cX7_areMen 5 = .ok (.iushr, 1) := by decide +kernel
theorem dX7_areMen_6 : decode cX7_areMen 6 = .ok (.ifCond .ne 7, 3) := by decide +kernel
theorem dX7_areMen_13 : decode cX7_areMen 13 = .ok (.iconst 0, 1) := by decide +kernel
theorem dX7_areMen_14 : decode cX7_areMen 14 = .ok (.ireturn, 1) := by decide +kernel
theorem dX7_areMen_9 : decode cX7_areMen 9 = .ok (.iconst 1, 1) := by decide +kernel
theorem dX7_areMen_10 : decode cX7_areMen 10 = .ok (.goto 4, 3) := by decide +kernel
theorem dX9_candles_11 : decode cX9_candles 11 = .ok (.invokevirtual 308, 3) := by decide +kernel
theorem dX9_candles_14 : decode cX9_candles 14 = .ok (.ifCond .eq 18, 3) := by decide +kernel
theorem dX9_candles_17 : decode cX9_candles 17 = .ok (.iload_n 3, 1) := by decide +kernel
theorem dX9_candles_18 : decode cX9_candles 18 = .ok (.iconst 0, 1) := by decide +kernel
theorem dX9_candles_19 : decode cX9_candles 19 = .ok (.sipush 999, 3) := by decide +kernel
theorem dX9_candles_22 : decode cX9_candles 22 = .ok (.invokestatic 282, 3) := by decide +kernel
theorem dX9_candles_25 : decode cX9_candles 25 = .ok (.ifCond .eq 7, 3) := by decide +kernel
theorem dX9_candles_28 : decode cX9_candles 28 = .ok (.iconst 1, 1) := by decide +kernel
theorem dX9_candles_29 : decode cX9_candles 29 = .ok (.goto 4, 3) := by decide +kernel
theorem dX9_candles_32 : decode cX9_candles 32 = .ok (.iconst 0, 1) := by decide +kernel
theorem dX9_candles_33 : decode cX9_candles 33 = .ok (.invokevirtual 286, 3) := by decide +kernel
theorem dX9_candles_36 : decode cX9_candles 36 = .ok (.iload_n 2, 1) := by decide +kernel
theorem dX9_candles_37 : decode cX9_candles 37 = .ok (.iload_n 1, 1) := by decide +kernel
theorem dX9_candles_38 : decode cX9_candles 38 = .ok (.ishr, 1) := by decide +kernel
theorem dX9_candles_39 : decode cX9_candles 39 = .ok (.iconst 1, 1) := by decide +kernel
theorem dX9_candles_40 : decode cX9_candles 40 = .ok (.iand, 1) := by decide +kernel
theorem dX9_candles_41 : decode cX9_candles 41 = .ok (.ifCond .ne 5, 3) := by decide +kernel
theorem dX9_candles_46 : decode cX9_candles 46 = .ok (.bipush 99, 2) := by decide +kernel
theorem dX9_candles_48 : decode cX9_candles 48 = .ok (.istore 4, 2) := by decide +kernel
theorem dX9_candles_44 : decode cX9_candles 44 = .ok (.iconst 0, 1) := by decide +kernel
theorem dX9_candles_45 : decode cX9_candles 45 = .ok (.ireturn, 1) := by decide +kernel
theorem dX9_candles_50 : decode cX9_candles 50 = .ok (.iload 4, 2) := by decide +kernel
theorem dX9_candles_52 : decode cX9_candles 52 = .ok (.ifCond .le 20, 3) := by decide +kernel
theorem dX9_candles_55 : decode cX9_candles 55 = .ok (.aload_n 0, 1) := by decide +kernel
theorem dX9_candles_56 : decode cX9_candles 56 = .ok (.iload_n 2, 1) := by decide +kernel
theorem dX9_candles_57 : decode cX9_candles 57 = .ok (.iload 4, 2) := by decide +kernel
theorem dX9_candlesGiven_0 : decode cX9_candlesGiven 0 = .ok (.iconst 0, 1) := by decide +kernel
theorem dX9_candlesGiven_1 : decode cX9_candlesGiven 1 = .ok (.istore_n 3, 1) := by decide +kernel
theorem dX9_candlesGiven_2 : decode cX9_candlesGiven 2 = .ok (.iconst 0, 1) := by decide +kernel
theorem dX9_candlesGiven_3 : decode cX9_candlesGiven 3 = .ok (.istore 4, 2) := by decide +kernel
theorem dX9_candlesGiven_5 : decode cX9_candlesGiven 5 = .ok (.iload 4, 2) := by decide +kernel
theorem dX9_candlesGiven_7 : decode cX9_candlesGiven 7 = .ok (.aload_n 0, 1) := by decide +kernel
theorem dX9_candlesGiven_8 : decode cX9_candlesGiven 8 = .ok (.getfield 27, 3) := by decide +kernel
theorem dX9_candlesGiven_11 : decode cX9_candlesGiven 11 = .ok (.getfield 175, 3) := by decide +kernel
theorem dX9_candlesGiven_14 : decode cX9_candlesGiven 14 = .ok (.if_icmp .ge 35, 3) := by decide +kernel
theorem dX9_candlesGiven_49 : decode cX9_candlesGiven 49 = .ok (.iload_n 3, 1) := by decide +kernel
theorem dX9_candlesGiven_50 : decode cX9_candlesGiven 50 = .ok (.ireturn, 1) := by decide +kernel
theorem dX9_candlesGiven_17 : decode cX9_candlesGiven 17 = .ok (.iload_n 1, 1) := by decide +kernel
theorem dX9_candlesGiven_18 : decode cX9_candlesGiven 18 = .ok (.iload 4, 2) := by decide +kernel
theorem dX9_candlesGiven_20 : decode cX9_candlesGiven 20 = .ok (.ishr, 1) := by decide +kernel
theorem dX9_candlesGiven_21 : decode cX9_candlesGiven 21 = .ok (.iconst 1, 1) := by decide +kernel
theorem dX9_candlesGiven_22 : decode cX9_candlesGiven 22 = .ok (.iand, 1) := by decide +kernel
theorem dX9_candlesGiven_23 : decode cX9_candlesGiven 23 = .ok (.iconst 1, 1) := by decide +kernel
theorem dX9_candlesGiven_24 : decode cX9_candlesGiven 24 = .ok (.if_icmp .ne 19, 3) := by decide +kernel
theorem dX9_candlesGiven_43 : decode cX9_candlesGiven 43 = .ok (.iinc 4 1, 3) := by decide +kernel
theorem dX9_candlesGiven_46 : decode cX9_candlesGiven 46 = .ok (.goto (-41), 3) := by decide +kernel
theorem dX9_candlesGiven_27 : decode cX9_candlesGiven 27 = .ok (.iload_n 3, 1) := by decide +kernel
theorem dX9_candlesGiven_28 : decode cX9_candlesGiven 28 = .ok (.aload_n 0, 1) := by decide +kernel
theorem dX9_candlesGiven_29 : decode cX9_candlesGiven 29 = .ok (.getfield 58, 3) := by decide +kernel
theorem dX9_candlesGiven_32 : decode cX9_candlesGiven 32 = .ok (.iload 4, 2) := by decide +kernel
theorem dX9_candlesGiven_34 : decode cX9_candlesGiven 34 = .ok (.invokevirtual 231, 3) := by decide +kernel
theorem dX9_candlesGiven_37 : decode cX9_candlesGiven 37 = .ok (.iload_n 2, 1) := by decide +kernel
theorem dX9_candlesGiven_38 : decode cX9_candlesGiven 38 = .ok (.invokestatic 311, 3) := by decide +kernel
theorem dX9_candlesGiven_41 : decode cX9_candlesGiven 41 = .ok (.iadd, 1) := by decide +kernel
theorem dX9_candlesGiven_42 : decode cX9_candlesGiven 42 = .ok (.istore_n 3, 1) := by decide +kernel
theorem dX9_candles_59 : decode cX9_candles 59 = .ok (.invokevirtual 316, 3) := by decide +kernel
theorem dX9_candles_62 : decode cX9_candles 62 = .ok (.iload_n 3, 1) := by decide +kernel
theorem dX9_candles_63 : decode cX9_candles 63 = .ok (.if_icmp .le 9, 3) := by decide +kernel
theorem dX9_candles_66 : decode cX9_candles 66 = .ok (.iinc 4 (-1), 3) := by decide +kernel
theorem dX9_candles_69 : decode cX9_candles 69 = .ok (.goto (-19), 3) := by decide +kernel
theorem dX9_candles_72 : decode cX9_candles 72 = .ok (.aload_n 0, 1) := by decide +kernel
theorem dX9_candles_73 : decode cX9_candles 73 = .ok (.getfield 58, 3) := by decide +kernel
theorem dX9_candles_76 : decode cX9_candles 76 = .ok (.iload_n 1, 1) := by decide +kernel
theorem dX9_candles_77 : decode cX9_candles 77 = .ok (.invokevirtual 231, 3) := by decide +kernel
theorem dX9_candles_80 : decode cX9_candles 80 = .ok (.iload 4, 2) := by decide +kernel
theorem dX9_candles_82 : decode cX9_candles 82 = .ok (.invokestatic 311, 3) := by decide +kernel
theorem dX9_candles_85 : decode cX9_candles 85 = .ok (.ireturn, 1) := by decide +kernel
theorem dX9_fullest_0 : decode cX9_fullest 0 = .ok (.aload_n 0, 1) := by decide +kernel
theorem dX9_fullest_1 : decode cX9_fullest 1 = .ok (.iload_n 1, 1) := by decide +kernel
theorem dX9_fullest_2 : decode cX9_fullest 2 = .ok (.iconst 0, 1) := by decide +kernel
theorem dX9_fullest_3 : decode cX9_fullest 3 = .ok (.iconst 1, 1) := by decide +kernel
theorem dX9_fullest_4 : decode cX9_fullest 4 = .ok (.invokestatic 282, 3) := by decide +kernel
theorem dX9_fullest_7 : decode cX9_fullest 7 = .ok (.invokevirtual 286, 3) := by decide +kernel
theorem dX9_fullest_10 : decode cX9_fullest 10 = .ok (.iconst (-1), 1) := by decide +kernel
theorem dX9_fullest_11 : decode cX9_fullest 11 = .ok (.istore_n 2, 1) := by decide +kernel
theorem dX9_fullest_12 : decode cX9_fullest 12 = .ok (.iconst (-1), 1) := by decide +kernel
theorem dX9_fullest_13 : decode cX9_fullest 13 = .ok (.istore_n 3, 1) := by decide +kernel
theorem dX9_fullest_14 : decode cX9_fullest 14 = .ok (.iconst 0, 1) := by decide +kernel
theorem dX9_fullest_15 : decode cX9_fullest 15 = .ok (.istore 4, 2) := by decide +kernel
theorem dX9_fullest_17 : decode cX9_fullest 17 = .ok (.iload 4, 2) := by decide +kernel
theorem dX9_fullest_19 : decode cX9_fullest 19 = .ok (.aload_n 0, 1) := by decide +kernel
theorem dX9_fullest_20 : decode cX9_fullest 20 = .ok (.getfield 27, 3) := by decide +kernel
theorem dX9_fullest_23 : decode cX9_fullest 23 = .ok (.getfield 175, 3) := by decide +kernel
theorem dX9_fullest_26 : decode cX9_fullest 26 = .ok (.if_icmp .ge 32, 3) := by decide +kernel
theorem dX9_fullest_58 : decode cX9_fullest 58 = .ok (.iload_n 1, 1) := by decide +kernel
theorem dX9_fullest_59 : decode cX9_fullest 59 = .ok (.ifCond .ne 7, 3) := by decide +kernel
theorem dX9_fullest_66 : decode cX9_fullest 66 = .ok (.iload_n 3, 1) := by decide +kernel
theorem dX9_fullest_67 : decode cX9_fullest 67 = .ok (.ireturn, 1) := by decide +kernel
theorem dX9_fullest_62 : decode cX9_fullest 62 = .ok (.iload_n 2, 1) := by decide +kernel
theorem dX9_fullest_63 : decode cX9_fullest 63 = .ok (.goto 4, 3) := by decide +kernel
theorem dX9_fullest_29 : decode cX9_fullest 29 = .ok (.aload_n 0, 1) := by decide +kernel
theorem dX9_fullest_30 : decode cX9_fullest 30 = .ok (.getfield 58, 3) := by decide +kernel
theorem dX9_fullest_33 : decode cX9_fullest 33 = .ok (.iload 4, 2) := by decide +kernel
theorem dX9_fullest_35 : decode cX9_fullest 35 = .ok (.invokevirtual 231, 3) := by decide +kernel
theorem dX9_fullest_38 : decode cX9_fullest 38 = .ok (.istore 5, 2) := by decide +kernel
theorem dX9_fullest_40 : decode cX9_fullest 40 = .ok (.iload 5, 2) := by decide +kernel
theorem dX9_fullest_42 : decode cX9_fullest 42 = .ok (.iload_n 3, 1) := by decide +kernel
theorem dX9_fullest_43 : decode cX9_fullest 43 = .ok (.if_icmp .le 9, 3) := by decide +kernel
theorem dX9_fullest_52 : decode cX9_fullest 52 = .ok (.iinc 4 1, 3) := by decide +kernel
theorem dX9_fullest_55 : decode cX9_fullest 55 = .ok (.goto (-38), 3) := by decide +kernel
theorem dX9_fullest_46 : decode cX9_fullest 46 = .ok (.iload 4, 2) := by decide +kernel
theorem dX9_fullest_48 : decode cX9_fullest 48 = .ok (.istore_n 2, 1) := by decide +kernel
theorem dX9_fullest_49 : decode cX9_fullest 49 = .ok (.iload 5, 2) := by decide +kernel
theorem dX9_fullest_51 : decode cX9_fullest 51 = .ok (.istore_n 3, 1) := by decide +kernel
theorem dX9_free_0 : decode cX9_free 0 = .ok (.aload_n 0, 1) := by decide +kernel
theorem dX9_free_1 : decode cX9_free 1 = .ok (.getfield 58, 3) := by decide +kernel
theorem dX9_free_4 : decode cX9_free 4 = .ok (.invokevirtual 182, 3) := by decide +kernel
theorem dX9_free_7 : decode cX9_free 7 = .ok (.iconst (-1), 1) := by decide +kernel
theorem dX9_free_8 : decode cX9_free 8 = .ok (.ixor, 1) := by decide +kernel
theorem dX9_free_9 : decode cX9_free 9 = .ok (.istore_n 1, 1) := by decide +kernel
theorem dX9_free_10 : decode cX9_free 10 = .ok (.iconst 0, 1) := by decide +kernel
theorem dX9_free_11 : decode cX9_free 11 = .ok (.istore_n 2, 1) := by decide +kernel
theorem dX9_free_12 : decode cX9_free 12 = .ok (.iconst 0, 1) := by decide +kernel
theorem dX9_free_13 : decode cX9_free 13 = .ok (.istore_n 3, 1) := by decide +kernel
theorem dX9_free_14 : decode cX9_free 14 = .ok (.iload_n 3, 1) := by decide +kernel
theorem dX9_free_15 : decode cX9_free 15 = .ok (.aload_n 0, 1) := by decide +kernel
theorem dX9_free_16 : decode cX9_free 16 = .ok (.getfield 27, 3) := by decide +kernel
theorem dX9_free_19 : decode cX9_free 19 = .ok (.getfield 175, 3) := by decide +kernel
theorem dX9_free_22 : decode cX9_free 22 = .ok (.if_icmp .ge 28, 3) := by decide +kernel
theorem dX9_free_50 : decode cX9_free 50 = .ok (.iload_n 2, 1) := by decide +kernel
theorem dX9_free_51 : decode cX9_free 51 = .ok (.ireturn, 1) := by decide +kernel
theorem dX9_free_25 : decode cX9_free 25 = .ok (.aload_n 0, 1) := by decide +kernel
theorem dX9_free_26 : decode cX9_free 26 = .ok (.getfield 27, 3) := by decide +kernel
theorem dX9_free_29 : decode cX9_free 29 = .ok (.iload_n 3, 1) := by decide +kernel
theorem dX9_free_30 : decode cX9_free 30 = .ok (.invokevirtual 243, 3) := by decide +kernel
theorem dX9_free_33 : decode cX9_free 33 = .ok (.iload_n 1, 1) := by decide +kernel
theorem dX9_free_34 : decode cX9_free 34 = .ok (.iand, 1) := by decide +kernel
theorem dX9_free_35 : decode cX9_free 35 = .ok (.ifCond .ne 9, 3) := by decide +kernel
theorem dX9_free_44 : decode cX9_free 44 = .ok (.iinc 3 1, 3) := by decide +kernel
theorem dX9_free_47 : decode cX9_free 47 = .ok (.goto (-33), 3) := by decide +kernel
theorem dX9_free_38 : decode cX9_free 38 = .ok (.iload_n 2, 1) := by decide +kernel
theorem dX9_free_39 : decode cX9_free 39 = .ok (.iconst 1, 1) := by decide +kernel
theorem dX9_free_40 : decode cX9_free 40 = .ok (.iload_n 3, 1) := by decide +kernel
theorem dX9_free_41 : decode cX9_free 41 = .ok (.ishl, 1) := by decide +kernel
theorem dX9_free_42 : decode cX9_free 42 = .ok (.ior, 1) := by decide +kernel
theorem dX9_free_43 : decode cX9_free 43 = .ok (.istore_n 2, 1) := by decide +kernel
theorem dX9_partners_0 : decode cX9_partners 0 = .ok (.aload_n 0, 1) := by decide +kernel
theorem dX9_partners_1 : decode cX9_partners 1 = .ok (.iload_n 1, 1) := by decide +kernel
theorem dX9_partners_2 : decode cX9_partners 2 = .ok (.invokevirtual 249, 3) := by decide +kernel
theorem dX9_partners_5 : decode cX9_partners 5 = .ok (.aload_n 0, 1) := by decide +kernel
theorem dX9_partners_6 : decode cX9_partners 6 = .ok (.getfield 58, 3) := by decide +kernel
theorem dX9_partners_9 : decode cX9_partners 9 = .ok (.iload_n 1, 1) := by decide +kernel
theorem dX9_partners_10 : decode cX9_partners 10 = .ok (.invokevirtual 264, 3) := by decide +kernel
theorem dX9_partners_13 : decode cX9_partners 13 = .ok (.ifCond .eq 5, 3) := by decide +kernel
theorem dX9_partners_18 : decode cX9_partners 18 = .ok (.iconst 0, 1) := by decide +kernel
theorem dX9_partners_19 : decode cX9_partners 19 = .ok (.istore_n 2, 1) := by decide +kernel
theorem dX9_partners_20 : decode cX9_partners 20 = .ok (.iconst 0, 1) := by decide +kernel
theorem dX9_partners_21 : decode cX9_partners 21 = .ok (.istore_n 3, 1) := by decide +kernel
theorem dX9_partners_16 : decode cX9_partners 16 = .ok (.iconst 0, 1) := by decide +kernel
theorem dX9_partners_17 : decode cX9_partners 17 = .ok (.ireturn, 1) := by decide +kernel
theorem dX9_partners_22 : decode cX9_partners 22 = .ok (.iload_n 3, 1) := by decide +kernel
theorem dX9_partners_23 : decode cX9_partners 23 = .ok (.aload_n 0, 1) := by decide +kernel
theorem dX9_partners_24 : decode cX9_partners 24 = .ok (.getfield 27, 3) := by decide +kernel
theorem dX9_partners_27 : decode cX9_partners 27 = .ok (.getfield 175, 3) := by decide +kernel
theorem dX9_partners_30 : decode cX9_partners 30 = .ok (.if_icmp .ge 40, 3) := by decide +kernel
theorem dX9_partners_70 : decode cX9_partners 70 = .ok (.iload_n 2, 1) := by decide +kernel
theorem dX9_partners_71 : decode cX9_partners 71 = .ok (.ireturn, 1) := by decide +kernel
theorem dX9_partners_33 : decode cX9_partners 33 = .ok (.iload_n 3, 1) := by decide +kernel
theorem dX9_partners_34 : decode cX9_partners 34 = .ok (.aload_n 0, 1) := by decide +kernel
theorem dX9_partners_35 : decode cX9_partners 35 = .ok (.getfield 27, 3) := by decide +kernel
theorem dX9_partners_38 : decode cX9_partners 38 = .ok (.getfield 252, 3) := by decide +kernel
theorem dX9_partners_41 : decode cX9_partners 41 = .ok (.iload_n 1, 1) := by decide +kernel
theorem dX9_partners_42 : decode cX9_partners 42 = .ok (.iaload, 1) := by decide +kernel
theorem dX9_partners_43 : decode cX9_partners 43 = .ok (.if_icmp .eq 21, 3) := by decide +kernel
theorem dX9_partners_64 : decode cX9_partners 64 = .ok (.iinc 3 1, 3) := by decide +kernel
theorem dX9_partners_67 : decode cX9_partners 67 = .ok (.goto (-45), 3) := by decide +kernel
theorem dX9_partners_46 : decode cX9_partners 46 = .ok (.aload_n 0, 1) := by decide +kernel
theorem dX9_partners_47 : decode cX9_partners 47 = .ok (.getfield 58, 3) := by decide +kernel
theorem dX9_partners_50 : decode cX9_partners 50 = .ok (.iload_n 1, 1) := by decide +kernel
theorem dX9_partners_51 : decode cX9_partners 51 = .ok (.iload_n 3, 1) := by decide +kernel
theorem dX9_partners_52 : decode cX9_partners 52 = .ok (.invokevirtual 301, 3) := by decide +kernel
theorem dX9_partners_55 : decode cX9_partners 55 = .ok (.ifCond .eq 9, 3) := by decide +kernel
theorem dX9_partners_58 : decode cX9_partners 58 = .ok (.iload_n 2, 1) := by decide +kernel
theorem dX9_partners_59 : decode cX9_partners 59 = .ok (.iconst 1, 1) := by decide +kernel
theorem dX9_partners_60 : decode cX9_partners 60 = .ok (.iload_n 3, 1) := by decide +kernel
theorem dX9_partners_61 : decode cX9_partners 61 = .ok (.ishl, 1) := by decide +kernel
theorem dX9_partners_62 : decode cX9_partners 62 = .ok (.ior, 1) := by decide +kernel
theorem dX9_partners_63 : decode cX9_partners 63 = .ok (.istore_n 2, 1) := by decide +kernel
theorem dX9_fades_0 : decode cX9_fades 0 = .ok (.aload_n 0, 1) := by decide +kernel
theorem dX9_fades_1 : decode cX9_fades 1 = .ok (.iload_n 1, 1) := by decide +kernel
theorem dX9_fades_2 : decode cX9_fades 2 = .ok (.invokevirtual 219, 3) := by decide +kernel
theorem dX9_fades_5 : decode cX9_fades 5 = .ok (.aload_n 0, 1) := by decide +kernel
theorem dX9_fades_6 : decode cX9_fades 6 = .ok (.iload_n 2, 1) := by decide +kernel
theorem dX9_fades_7 : decode cX9_fades 7 = .ok (.invokevirtual 203, 3) := by decide +kernel
theorem dX9_fades_10 : decode cX9_fades 10 = .ok (.aload_n 0, 1) := by decide +kernel
theorem dX9_fades_11 : decode cX9_fades 11 = .ok (.getfield 58, 3) := by decide +kernel
theorem dX9_fades_14 : decode cX9_fades 14 = .ok (.iload_n 1, 1) := by decide +kernel
theorem dX9_fades_15 : decode cX9_fades 15 = .ok (.iload_n 2, 1) := by decide +kernel
theorem dX9_fades_16 : decode cX9_fades 16 = .ok (.invokevirtual 274, 3) := by decide +kernel
theorem dX9_fades_19 : decode cX9_fades 19 = .ok (.aload_n 0, 1) := by decide +kernel
theorem dX9_fades_20 : decode cX9_fades 20 = .ok (.getfield 74, 3) := by decide +kernel
theorem dX9_fades_23 : decode cX9_fades 23 = .ok (.iconst 1, 1) := by decide +kernel
theorem dX9_fades_24 : decode cX9_fades 24 = .ok (.invokevirtual 319, 3) := by decide +kernel
theorem dX9_fades_27 : decode cX9_fades 27 = .ok (.iload_n 1, 1) := by decide +kernel
theorem dX9_fades_28 : decode cX9_fades 28 = .ok (.iload_n 2, 1) := by decide +kernel
theorem dX9_fades_29 : decode cX9_fades 29 = .ok (.invokevirtual 274, 3) := by decide +kernel
theorem dX9_fades_32 : decode cX9_fades 32 = .ok (.isub, 1) := by decide +kernel
theorem dX9_fades_33 : decode cX9_fades 33 = .ok (.ireturn, 1) := by decide +kernel
theorem dX9_next_0 : decode cX9_next 0 = .ok (.aload_n 0, 1) := by decide +kernel
theorem dX9_next_1 : decode cX9_next 1 = .ok (.iload_n 1, 1) := by decide +kernel
theorem dX9_next_2 : decode cX9_next 2 = .ok (.iconst 0, 1) := by decide +kernel
theorem dX9_next_3 : decode cX9_next 3 = .ok (.iconst 1, 1) := by decide +kernel
theorem dX9_next_4 : decode cX9_next 4 = .ok (.invokestatic 282, 3) := by decide +kernel
theorem dX9_next_7 : decode cX9_next 7 = .ok (.invokevirtual 286, 3) := by decide +kernel
theorem dX9_next_10 : decode cX9_next 10 = .ok (.iconst (-1), 1) := by decide +kernel
theorem dX9_next_11 : decode cX9_next 11 = .ok (.istore_n 2, 1) := by decide +kernel
theorem dX9_next_12 : decode cX9_next 12 = .ok (.iconst (-1), 1) := by decide +kernel
theorem dX9_next_13 : decode cX9_next 13 = .ok (.istore_n 3, 1) := by decide +kernel
theorem dX9_next_14 : decode cX9_next 14 = .ok (.iconst 0, 1) := by decide +kernel
theorem dX9_next_15 : decode cX9_next 15 = .ok (.istore 4, 2) := by decide +kernel
theorem dX9_next_17 : decode cX9_next 17 = .ok (.iload 4, 2) := by decide +kernel
theorem dX9_next_19 : decode cX9_next 19 = .ok (.aload_n 0, 1) := by decide +kernel
theorem dX9_next_20 : decode cX9_next 20 = .ok (.getfield 27, 3) := by decide +kernel
theorem dX9_next_23 : decode cX9_next 23 = .ok (.getfield 123, 3) := by decide +kernel
theorem dX9_next_26 : decode cX9_next 26 = .ok (.if_icmp .ge 54, 3) := by decide +kernel
theorem dX9_next_80 : decode cX9_next 80 = .ok (.iload_n 1, 1) := by decide +kernel
theorem dX9_next_81 : decode cX9_next 81 = .ok (.ifCond .ne 7, 3) := by decide +kernel
theorem dX9_next_88 : decode cX9_next 88 = .ok (.iload_n 3, 1) := by decide +kernel
theorem dX9_next_89 : decode cX9_next 89 = .ok (.ireturn, 1) := by decide +kernel
theorem dX9_next_84 : decode cX9_next 84 = .ok (.iload_n 2, 1) := by decide +kernel
theorem dX9_next_85 : decode cX9_next 85 = .ok (.goto 4, 3) := by decide +kernel
theorem dX9_next_29 : decode cX9_next 29 = .ok (.aload_n 0, 1) := by decide +kernel
theorem dX9_next_30 : decode cX9_next 30 = .ok (.getfield 58, 3) := by decide +kernel
theorem dX9_next_33 : decode cX9_next 33 = .ok (.iload 4, 2) := by decide +kernel
theorem dX9_next_35 : decode cX9_next 35 = .ok (.invokevirtual 264, 3) := by decide +kernel
theorem dX9_next_38 : decode cX9_next 38 = .ok (.ifCond .ne 36, 3) := by decide +kernel
theorem dX9_next_74 : decode cX9_next 74 = .ok (.iinc 4 1, 3) := by decide +kernel
theorem dX9_next_77 : decode cX9_next 77 = .ok (.goto (-60), 3) := by decide +kernel
theorem dX9_next_41 : decode cX9_next 41 = .ok (.iload_n 2, 1) := by decide +kernel
theorem dX9_next_42 : decode cX9_next 42 = .ok (.iconst (-1), 1) := by decide +kernel
theorem dX9_next_43 : decode cX9_next 43 = .ok (.if_icmp .eq 17, 3) := by decide +kernel
theorem dX9_next_46 : decode cX9_next 46 = .ok (.aload_n 0, 1) := by decide +kernel
theorem dX9_next_47 : decode cX9_next 47 = .ok (.getfield 27, 3) := by decide +kernel
theorem dX9_next_50 : decode cX9_next 50 = .ok (.getfield 261, 3) := by decide +kernel
theorem dX9_next_53 : decode cX9_next 53 = .ok (.iload 4, 2) := by decide +kernel
theorem dX9_next_55 : decode cX9_next 55 = .ok (.iaload, 1) := by decide +kernel
theorem dX9_next_56 : decode cX9_next 56 = .ok (.iload_n 3, 1) := by decide +kernel
theorem dX9_next_57 : decode cX9_next 57 = .ok (.if_icmp .ge 17, 3) := by decide +kernel
theorem dX9_next_60 : decode cX9_next 60 = .ok (.iload 4, 2) := by decide +kernel
theorem dX9_next_62 : decode cX9_next 62 = .ok (.istore_n 2, 1) := by decide +kernel
theorem dX9_next_63 : decode cX9_next 63 = .ok (.aload_n 0, 1) := by decide +kernel
theorem dX9_next_64 : decode cX9_next 64 = .ok (.getfield 27, 3) := by decide +kernel
theorem dX9_next_67 : decode cX9_next 67 = .ok (.getfield 261, 3) := by decide +kernel
theorem dX9_next_70 : decode cX9_next 70 = .ok (.iload 4, 2) := by decide +kernel
theorem dX9_next_72 : decode cX9_next 72 = .ok (.iaload, 1) := by decide +kernel
theorem dX9_next_73 : decode cX9_next 73 = .ok (.istore_n 3, 1) := by decide +kernel
theorem dX9_gains_0 : decode cX9_gains 0 = .ok (.aload_n 0, 1) := by decide +kernel
theorem dX9_gains_1 : decode cX9_gains 1 = .ok (.iload_n 1, 1) := by decide +kernel
theorem dX9_gains_2 : decode cX9_gains 2 = .ok (.invokevirtual 219, 3) := by decide +kernel
theorem dX9_gains_5 : decode cX9_gains 5 = .ok (.aload_n 0, 1) := by decide +kernel
theorem dX9_gains_6 : decode cX9_gains 6 = .ok (.iload_n 2, 1) := by decide +kernel
theorem dX9_gains_7 : decode cX9_gains 7 = .ok (.invokevirtual 203, 3) := by decide +kernel
theorem dX9_gains_10 : decode cX9_gains 10 = .ok (.aload_n 0, 1) := by decide +kernel
theorem dX9_gains_11 : decode cX9_gains 11 = .ok (.getfield 58, 3) := by decide +kernel
theorem dX9_gains_14 : decode cX9_gains 14 = .ok (.iload_n 1, 1) := by decide +kernel
theorem dX9_gains_15 : decode cX9_gains 15 = .ok (.iload_n 2, 1) := by decide +kernel
theorem dX9_gains_16 : decode cX9_gains 16 = .ok (.invokevirtual 305, 3) := by decide +kernel
theorem dX9_gains_19 : decode cX9_gains 19 = .ok (.ireturn, 1) := by decide +kernel
theorem dX9_closest_0 : decode cX9_closest 0 = .ok (.aload_n 0, 1) := by decide +kernel
theorem dX9_closest_1 : decode cX9_closest 1 = .ok (.iload_n 1, 1) := by decide +kernel
theorem dX9_closest_2 : decode cX9_closest 2 = .ok (.invokevirtual 219, 3) := by decide +kernel
theorem dX9_closest_5 : decode cX9_closest 5 = .ok (.aload_n 0, 1) := by decide +kernel
theorem dX9_closest_6 : decode cX9_closest 6 = .ok (.iload_n 2, 1) := by decide +kernel
theorem dX9_closest_7 : decode cX9_closest 7 = .ok (.iconst 0, 1) := by decide +kernel
theorem dX9_closest_8 : decode cX9_closest 8 = .ok (.iconst 1, 1) := by decide +kernel
theorem dX9_closest_9 : decode cX9_closest 9 = .ok (.invokestatic 282, 3) := by decide +kernel
theorem dX9_closest_12 : decode cX9_closest 12 = .ok (.invokevirtual 286, 3) := by decide +kernel
theorem dX9_closest_15 : decode cX9_closest 15 = .ok (.iconst (-1), 1) := by decide +kernel
theorem dX9_closest_16 : decode cX9_closest 16 = .ok (.istore_n 3, 1) := by decide +kernel
theorem dX9_closest_17 : decode cX9_closest 17 = .ok (.iconst (-1), 1) := by decide +kernel
theorem dX9_closest_18 : decode cX9_closest 18 = .ok (.istore 4, 2) := by decide +kernel
theorem dX9_closest_20 : decode cX9_closest 20 = .ok (.iconst 0, 1) := by decide +kernel
theorem dX9_closest_21 : decode cX9_closest 21 = .ok (.istore 5, 2) := by decide +kernel
theorem dX9_closest_23 : decode cX9_closest 23 = .ok (.iload 5, 2) := by decide +kernel
theorem dX9_closest_25 : decode cX9_closest 25 = .ok (.aload_n 0, 1) := by decide +kernel
theorem dX9_closest_26 : decode cX9_closest 26 = .ok (.getfield 27, 3) := by decide +kernel
theorem dX9_closest_29 : decode cX9_closest 29 = .ok (.getfield 123, 3) := by decide +kernel
theorem dX9_closest_32 : decode cX9_closest 32 = .ok (.if_icmp .ge 65, 3) := by decide +kernel
theorem dX9_closest_97 : decode cX9_closest 97 = .ok (.iload_n 2, 1) := by decide +kernel
theorem dX9_closest_98 : decode cX9_closest 98 = .ok (.ifCond .ne 7, 3) := by decide +kernel
theorem dX9_closest_105 : decode cX9_closest 105 = .ok (.iload 4, 2) := by decide +kernel
theorem dX9_closest_107 : decode cX9_closest 107 = .ok (.ireturn, 1) := by decide +kernel
theorem dX9_closest_101 : decode cX9_closest 101 = .ok (.iload_n 3, 1) := by decide +kernel
theorem dX9_closest_102 : decode cX9_closest 102 = .ok (.goto 5, 3) := by decide +kernel
theorem dX9_closest_35 : decode cX9_closest 35 = .ok (.aload_n 0, 1) := by decide +kernel
theorem dX9_closest_36 : decode cX9_closest 36 = .ok (.getfield 27, 3) := by decide +kernel
theorem dX9_closest_39 : decode cX9_closest 39 = .ok (.getfield 252, 3) := by decide +kernel
theorem dX9_closest_42 : decode cX9_closest 42 = .ok (.iload 5, 2) := by decide +kernel
theorem dX9_closest_44 : decode cX9_closest 44 = .ok (.iaload, 1) := by decide +kernel
theorem dX9_closest_45 : decode cX9_closest 45 = .ok (.iload_n 1, 1) := by decide +kernel
theorem dX9_closest_46 : decode cX9_closest 46 = .ok (.if_icmp .ne 45, 3) := by decide +kernel
theorem dX9_closest_91 : decode cX9_closest 91 = .ok (.iinc 5 1, 3) := by decide +kernel
theorem dX9_closest_94 : decode cX9_closest 94 = .ok (.goto (-71), 3) := by decide +kernel
theorem dX9_closest_49 : decode cX9_closest 49 = .ok (.aload_n 0, 1) := by decide +kernel
theorem dX9_closest_50 : decode cX9_closest 50 = .ok (.getfield 58, 3) := by decide +kernel
theorem dX9_closest_53 : decode cX9_closest 53 = .ok (.iload 5, 2) := by decide +kernel
theorem dX9_closest_55 : decode cX9_closest 55 = .ok (.invokevirtual 264, 3) := by decide +kernel
theorem dX9_closest_58 : decode cX9_closest 58 = .ok (.ifCond .ne 33, 3) := by decide +kernel
theorem dX9_closest_61 : decode cX9_closest 61 = .ok (.aload_n 0, 1) := by decide +kernel
theorem dX9_closest_62 : decode cX9_closest 62 = .ok (.getfield 58, 3) := by decide +kernel
theorem dX9_closest_65 : decode cX9_closest 65 = .ok (.iload 5, 2) := by decide +kernel
theorem dX9_closest_67 : decode cX9_closest 67 = .ok (.invokevirtual 271, 3) := by decide +kernel
theorem dX9_closest_70 : decode cX9_closest 70 = .ok (.istore 6, 2) := by decide +kernel
theorem dX9_closest_72 : decode cX9_closest 72 = .ok (.iload_n 3, 1) := by decide +kernel
theorem dX9_closest_73 : decode cX9_closest 73 = .ok (.iconst (-1), 1) := by decide +kernel
theorem dX9_closest_74 : decode cX9_closest 74 = .ok (.if_icmp .eq 10, 3) := by decide +kernel
theorem dX9_closest_77 : decode cX9_closest 77 = .ok (.iload 6, 2) := by decide +kernel
theorem dX9_closest_79 : decode cX9_closest 79 = .ok (.iload 4, 2) := by decide +kernel
theorem dX9_closest_81 : decode cX9_closest 81 = .ok (.if_icmp .ge 10, 3) := by decide +kernel
theorem dX9_closest_84 : decode cX9_closest 84 = .ok (.iload 5, 2) := by decide +kernel
theorem dX9_closest_86 : decode cX9_closest 86 = .ok (.istore_n 3, 1) := by decide +kernel
theorem dX9_closest_87 : decode cX9_closest 87 = .ok (.iload 6, 2) := by decide +kernel
theorem dX9_closest_89 : decode cX9_closest 89 = .ok (.istore 4, 2) := by decide +kernel
theorem dX9_best_0 : decode cX9_best 0 = .ok (.aload_n 0, 1) := by decide +kernel
theorem dX9_best_1 : decode cX9_best 1 = .ok (.iload_n 1, 1) := by decide +kernel
theorem dX9_best_2 : decode cX9_best 2 = .ok (.invokevirtual 203, 3) := by decide +kernel
theorem dX9_best_5 : decode cX9_best 5 = .ok (.aload_n 0, 1) := by decide +kernel
theorem dX9_best_6 : decode cX9_best 6 = .ok (.iload_n 2, 1) := by decide +kernel
theorem dX9_best_7 : decode cX9_best 7 = .ok (.iconst 0, 1) := by decide +kernel
theorem dX9_best_8 : decode cX9_best 8 = .ok (.iconst 1, 1) := by decide +kernel
theorem dX9_best_9 : decode cX9_best 9 = .ok (.invokestatic 282, 3) := by decide +kernel
theorem dX9_best_12 : decode cX9_best 12 = .ok (.invokevirtual 286, 3) := by decide +kernel
theorem dX9_best_15 : decode cX9_best 15 = .ok (.iconst (-1), 1) := by decide +kernel
theorem dX9_best_16 : decode cX9_best 16 = .ok (.istore_n 3, 1) := by decide +kernel
theorem dX9_best_17 : decode cX9_best 17 = .ok (.iconst 0, 1) := by decide +kernel
theorem dX9_best_18 : decode cX9_best 18 = .ok (.istore 4, 2) := by decide +kernel
theorem dX9_best_20 : decode cX9_best 20 = .ok (.iconst 0, 1) := by decide +kernel
theorem dX9_best_21 : decode cX9_best 21 = .ok (.istore 5, 2) := by decide +kernel
theorem dX9_best_23 : decode cX9_best 23 = .ok (.iload 5, 2) := by decide +kernel
theorem dX9_best_25 : decode cX9_best 25 = .ok (.aload_n 0, 1) := by decide +kernel
theorem dX9_best_26 : decode cX9_best 26 = .ok (.getfield 27, 3) := by decide +kernel
theorem dX9_best_29 : decode cX9_best 29 = .ok (.getfield 175, 3) := by decide +kernel
theorem dX9_best_32 : decode cX9_best 32 = .ok (.if_icmp .ge 35, 3) := by decide +kernel
theorem dX9_best_67 : decode cX9_best 67 = .ok (.iload_n 3, 1) := by decide +kernel
theorem dX9_best_68 : decode cX9_best 68 = .ok (.iconst (-1), 1) := by decide +kernel
theorem dX9_best_69 : decode cX9_best 69 = .ok (.if_icmp .ne 5, 3) := by decide +kernel
theorem dX9_best_74 : decode cX9_best 74 = .ok (.iload_n 2, 1) := by decide +kernel
theorem dX9_best_75 : decode cX9_best 75 = .ok (.ifCond .ne 7, 3) := by decide +kernel
theorem dX9_best_82 : decode cX9_best 82 = .ok (.iload 4, 2) := by decide +kernel
theorem dX9_best_84 : decode cX9_best 84 = .ok (.ireturn, 1) := by decide +kernel
theorem dX9_best_78 : decode cX9_best 78 = .ok (.iload_n 3, 1) := by decide +kernel
theorem dX9_best_79 : decode cX9_best 79 = .ok (.goto 5, 3) := by decide +kernel
theorem dX9_best_72 : decode cX9_best 72 = .ok (.iconst (-1), 1) := by decide +kernel
theorem dX9_best_73 : decode cX9_best 73 = .ok (.ireturn, 1) := by decide +kernel
theorem dX9_best_35 : decode cX9_best 35 = .ok (.aload_n 0, 1) := by decide +kernel
theorem dX9_best_36 : decode cX9_best 36 = .ok (.getfield 58, 3) := by decide +kernel
theorem dX9_best_39 : decode cX9_best 39 = .ok (.iload 5, 2) := by decide +kernel
theorem dX9_best_41 : decode cX9_best 41 = .ok (.iload_n 1, 1) := by decide +kernel
theorem dX9_best_42 : decode cX9_best 42 = .ok (.invokevirtual 274, 3) := by decide +kernel
theorem dX9_best_45 : decode cX9_best 45 = .ok (.istore 6, 2) := by decide +kernel
theorem dX9_best_47 : decode cX9_best 47 = .ok (.iload 6, 2) := by decide +kernel
theorem dX9_best_49 : decode cX9_best 49 = .ok (.iload 4, 2) := by decide +kernel
theorem dX9_best_51 : decode cX9_best 51 = .ok (.if_icmp .le 10, 3) := by decide +kernel
theorem dX9_best_61 : decode cX9_best 61 = .ok (.iinc 5 1, 3) := by decide +kernel
theorem dX9_best_64 : decode cX9_best 64 = .ok (.goto (-41), 3) := by decide +kernel
theorem dX9_best_54 : decode cX9_best 54 = .ok (.iload 5, 2) := by decide +kernel
theorem dX9_best_56 : decode cX9_best 56 = .ok (.istore_n 3, 1) := by decide +kernel
theorem dX9_best_57 : decode cX9_best 57 = .ok (.iload 6, 2) := by decide +kernel
theorem dX9_best_59 : decode cX9_best 59 = .ok (.istore 4, 2) := by decide +kernel
theorem dX9_chorus_0 : decode cX9_chorus 0 = .ok (.aload_n 0, 1) := by decide +kernel
theorem dX9_chorus_1 : decode cX9_chorus 1 = .ok (.iload_n 1, 1) := by decide +kernel
theorem dX9_chorus_2 : decode cX9_chorus 2 = .ok (.invokevirtual 203, 3) := by decide +kernel
theorem dX9_chorus_5 : decode cX9_chorus 5 = .ok (.aload_n 0, 1) := by decide +kernel
theorem dX9_chorus_6 : decode cX9_chorus 6 = .ok (.aload_n 0, 1) := by decide +kernel
theorem dX9_chorus_7 : decode cX9_chorus 7 = .ok (.getfield 27, 3) := by decide +kernel
theorem dX9_chorus_10 : decode cX9_chorus 10 = .ok (.iload_n 2, 1) := by decide +kernel
theorem dX9_chorus_11 : decode cX9_chorus 11 = .ok (.invokevirtual 308, 3) := by decide +kernel
theorem dX9_chorus_14 : decode cX9_chorus 14 = .ok (.invokevirtual 286, 3) := by decide +kernel
theorem dX9_chorus_17 : decode cX9_chorus 17 = .ok (.iconst 0, 1) := by decide +kernel
theorem dX9_chorus_18 : decode cX9_chorus 18 = .ok (.istore_n 3, 1) := by decide +kernel
theorem dX9_chorus_19 : decode cX9_chorus 19 = .ok (.iconst 0, 1) := by decide +kernel
theorem dX9_chorus_20 : decode cX9_chorus 20 = .ok (.istore 4, 2) := by decide +kernel
theorem dX9_chorus_22 : decode cX9_chorus 22 = .ok (.iload 4, 2) := by decide +kernel
theorem dX9_chorus_24 : decode cX9_chorus 24 = .ok (.aload_n 0, 1) := by decide +kernel
theorem dX9_chorus_25 : decode cX9_chorus 25 = .ok (.getfield 27, 3) := by decide +kernel
theorem dX9_chorus_28 : decode cX9_chorus 28 = .ok (.getfield 175, 3) := by decide +kernel
theorem dX9_chorus_31 : decode cX9_chorus 31 = .ok (.if_icmp .ge 32, 3) := by decide +kernel
theorem dX9_chorus_63 : decode cX9_chorus 63 = .ok (.iload_n 3, 1) := by decide +kernel
theorem dX9_chorus_64 : decode cX9_chorus 64 = .ok (.aload_n 0, 1) := by decide +kernel
theorem dX9_chorus_65 : decode cX9_chorus 65 = .ok (.getfield 27, 3) := by decide +kernel
theorem dX9_chorus_68 : decode cX9_chorus 68 = .ok (.getfield 206, 3) := by decide +kernel
theorem dX9_chorus_71 : decode cX9_chorus 71 = .ok (.iload_n 1, 1) := by decide +kernel
theorem dX9_chorus_72 : decode cX9_chorus 72 = .ok (.iaload, 1) := by decide +kernel
theorem dX9_chorus_73 : decode cX9_chorus 73 = .ok (.invokestatic 311, 3) := by decide +kernel
theorem dX9_chorus_76 : decode cX9_chorus 76 = .ok (.ireturn, 1) := by decide +kernel
theorem dX9_chorus_34 : decode cX9_chorus 34 = .ok (.iload_n 2, 1) := by decide +kernel
theorem dX9_chorus_35 : decode cX9_chorus 35 = .ok (.iload 4, 2) := by decide +kernel
theorem dX9_chorus_37 : decode cX9_chorus 37 = .ok (.ishr, 1) := by decide +kernel
theorem dX9_chorus_38 : decode cX9_chorus 38 = .ok (.iconst 1, 1) := by decide +kernel
theorem dX9_chorus_39 : decode cX9_chorus 39 = .ok (.iand, 1) := by decide +kernel
theorem dX9_chorus_40 : decode cX9_chorus 40 = .ok (.iconst 1, 1) := by decide +kernel
theorem dX9_chorus_41 : decode cX9_chorus 41 = .ok (.if_icmp .ne 16, 3) := by decide +kernel
theorem dX9_chorus_57 : decode cX9_chorus 57 = .ok (.iinc 4 1, 3) := by decide +kernel
theorem dX9_chorus_60 : decode cX9_chorus 60 = .ok (.goto (-38), 3) := by decide +kernel
theorem dX9_chorus_44 : decode cX9_chorus 44 = .ok (.iload_n 3, 1) := by decide +kernel
theorem dX9_chorus_45 : decode cX9_chorus 45 = .ok (.aload_n 0, 1) := by decide +kernel
theorem dX9_chorus_46 : decode cX9_chorus 46 = .ok (.getfield 58, 3) := by decide +kernel
theorem dX9_chorus_49 : decode cX9_chorus 49 = .ok (.iload 4, 2) := by decide +kernel
theorem dX9_chorus_51 : decode cX9_chorus 51 = .ok (.iload_n 1, 1) := by decide +kernel
theorem dX9_chorus_52 : decode cX9_chorus 52 = .ok (.invokevirtual 274, 3) := by decide +kernel
theorem dX9_chorus_55 : decode cX9_chorus 55 = .ok (.iadd, 1) := by decide +kernel
theorem dX9_chorus_56 : decode cX9_chorus 56 = .ok (.istore_n 3, 1) := by decide +kernel
theorem dX9_season_0 : decode cX9_season 0 = .ok (.aload_n 0, 1) := by decide +kernel
theorem dX9_season_1 : decode cX9_season 1 = .ok (.iload_n 2, 1) := by decide +kernel
theorem dX9_season_2 : decode cX9_season 2 = .ok (.iconst 0, 1) := by decide +kernel
theorem dX9_season_3 : decode cX9_season 3 = .ok (.bipush 16, 2) := by decide +kernel
theorem dX9_season_5 : decode cX9_season 5 = .ok (.invokestatic 282, 3) := by decide +kernel
theorem dX9_season_8 : decode cX9_season 8 = .ok (.ifCond .eq 27, 3) := by decide +kernel
theorem dX9_season_11 : decode cX9_season 11 = .ok (.iload_n 3, 1) := by decide +kernel
theorem dX9_season_12 : decode cX9_season 12 = .ok (.iconst 1, 1) := by decide +kernel
theorem dX9_season_13 : decode cX9_season 13 = .ok (.bipush 48, 2) := by decide +kernel
theorem dX9_season_15 : decode cX9_season 15 = .ok (.invokestatic 282, 3) := by decide +kernel
theorem dX9_season_18 : decode cX9_season 18 = .ok (.ifCond .eq 17, 3) := by decide +kernel
theorem dX9_season_21 : decode cX9_season 21 = .ok (.iload 4, 2) := by decide +kernel
theorem dX9_season_23 : decode cX9_season 23 = .ok (.iconst 0, 1) := by decide +kernel
theorem dX9_season_24 : decode cX9_season 24 = .ok (.iconst 3, 1) := by decide +kernel
theorem dX9_season_25 : decode cX9_season 25 = .ok (.invokestatic 282, 3) := by decide +kernel
theorem dX9_season_28 : decode cX9_season 28 = .ok (.ifCond .eq 7, 3) := by decide +kernel
theorem dX9_season_31 : decode cX9_season 31 = .ok (.iconst 1, 1) := by decide +kernel
theorem dX9_season_32 : decode cX9_season 32 = .ok (.goto 4, 3) := by decide +kernel
theorem dX9_season_35 : decode cX9_season 35 = .ok (.iconst 0, 1) := by decide +kernel
theorem dX9_season_36 : decode cX9_season 36 = .ok (.invokevirtual 286, 3) := by decide +kernel
theorem dX9_season_39 : decode cX9_season 39 = .ok (.aload_n 0, 1) := by decide +kernel
theorem dX9_season_40 : decode cX9_season 40 = .ok (.getfield 74, 3) := by decide +kernel
theorem dX9_season_43 : decode cX9_season 43 = .ok (.iload_n 1, 1) := by decide +kernel
theorem dX9_season_44 : decode cX9_season 44 = .ok (.iload_n 2, 1) := by decide +kernel
theorem dX9_season_45 : decode cX9_season 45 = .ok (.iload_n 3, 1) := by decide +kernel
theorem dX2_afterSeason_0 : decode cX2_afterSeason 0 = .ok (.aload_n 0, 1) := by decide +kernel
theorem dX2_afterSeason_1 : decode cX2_afterSeason 1 = .ok (.getfield 19, 3) := by decide +kernel
theorem dX2_afterSeason_4 : decode cX2_afterSeason 4 = .ok (.aload_n 0, 1) := by decide +kernel
theorem dX2_afterSeason_5 : decode cX2_afterSeason 5 = .ok (.getfield 15, 3) := by decide +kernel
theorem dX2_afterSeason_8 : decode cX2_afterSeason 8 = .ok (.invokevirtual 22, 3) := by decide +kernel
theorem dX2_afterSeason_11 : decode cX2_afterSeason 11 = .ok (.aload_n 0, 1) := by decide +kernel
theorem dX2_afterSeason_12 : decode cX2_afterSeason 12 = .ok (.iload_n 1, 1) := by decide +kernel
theorem dX2_afterSeason_13 : decode cX2_afterSeason 13 = .ok (.putfield 52, 3) := by decide +kernel
theorem dX2_afterSeason_16 : decode cX2_afterSeason 16 = .ok (.iconst 0, 1) := by decide +kernel
theorem dX2_afterSeason_17 : decode cX2_afterSeason 17 = .ok (.istore 4, 2) := by decide +kernel
theorem dX2_afterSeason_19 : decode cX2_afterSeason 19 = .ok (.iload 4, 2) := by decide +kernel
theorem dX2_afterSeason_21 : decode cX2_afterSeason 21 = .ok (.iload_n 3, 1) := by decide +kernel
theorem dX2_afterSeason_22 : decode cX2_afterSeason 22 = .ok (.if_icmp .ge 49, 3) := by decide +kernel
theorem dX2_afterSeason_71 : decode cX2_afterSeason 71 = .ok (.aload_n 0, 1) := by decide +kernel
theorem dX2_afterSeason_72 : decode cX2_afterSeason 72 = .ok (.getfield 19, 3) := by decide +kernel
theorem dX2_afterSeason_75 : decode cX2_afterSeason 75 = .ok (.areturn, 1) := by decide +kernel
theorem dX2_afterSeason_25 : decode cX2_afterSeason 25 = .ok (.aload_n 0, 1) := by decide +kernel
theorem dX2_afterSeason_26 : decode cX2_afterSeason 26 = .ok (.getfield 9, 3) := by decide +kernel
theorem dX2_afterSeason_29 : decode cX2_afterSeason 29 = .ok (.getfield 28, 3) := by decide +kernel
theorem dX2_afterSeason_32 : decode cX2_afterSeason 32 = .ok (.ifCond .le 18, 3) := by decide +kernel
theorem dX2_afterSeason_35 : decode cX2_afterSeason 35 = .ok (.aload_n 0, 1) := by decide +kernel
theorem dX2_afterSeason_36 : decode cX2_afterSeason 36 = .ok (.getfield 9, 3) := by decide +kernel
theorem dX2_afterSeason_39 : decode cX2_afterSeason 39 = .ok (.getfield 45, 3) := by decide +kernel
theorem dX2_afterSeason_42 : decode cX2_afterSeason 42 = .ok (.ifCond .le 8, 3) := by decide +kernel
theorem dX2_afterSeason_45 : decode cX2_afterSeason 45 = .ok (.aload_n 0, 1) := by decide +kernel
theorem dX2_afterSeason_46 : decode cX2_afterSeason 46 = .ok (.iload_n 2, 1) := by decide +kernel
theorem dX2_liveWeek_0 : decode cX2_liveWeek 0 = .ok (.aload_n 0, 1) := by decide +kernel
theorem dX2_liveWeek_1 : decode cX2_liveWeek 1 = .ok (.aload_n 0, 1) := by decide +kernel
theorem dX2_liveWeek_2 : decode cX2_liveWeek 2 = .ok (.getfield 9, 3) := by decide +kernel
theorem dX2_liveWeek_5 : decode cX2_liveWeek 5 = .ok (.getfield 28, 3) := by decide +kernel
theorem dX2_draw_0 : decode cX2_draw 0 = .ok (.aload_n 0, 1) := by decide +kernel
theorem dX2_draw_1 : decode cX2_draw 1 = .ok (.aload_n 0, 1) := by decide +kernel
theorem dX2_draw_2 : decode cX2_draw 2 = .ok (.getfield 52, 3) := by decide +kernel
theorem dX2_draw_5 : decode cX2_draw 5 = .ok (.ldc 70, 2) := by decide +kernel
theorem dX2_draw_7 : decode cX2_draw 7 = .ok (.imul, 1) := by decide +kernel
theorem dX2_draw_8 : decode cX2_draw 8 = .ok (.sipush 12345, 3) := by decide +kernel
theorem dX2_draw_11 : decode cX2_draw 11 = .ok (.iadd, 1) := by decide +kernel
theorem dX2_draw_12 : decode cX2_draw 12 = .ok (.putfield 52, 3) := by decide +kernel
theorem dX2_draw_15 : decode cX2_draw 15 = .ok (.aload_n 0, 1) := by decide +kernel
theorem dX2_draw_16 : decode cX2_draw 16 = .ok (.getfield 52, 3) := by decide +kernel
theorem dX2_draw_19 : decode cX2_draw 19 = .ok (.bipush 16, 2) := by decide +kernel
theorem dX2_draw_21 : decode cX2_draw 21 = .ok (.iushr, 1) := by decide +kernel
theorem dX2_draw_22 : decode cX2_draw 22 = .ok (.sipush 32767, 3) := by decide +kernel
theorem dX2_draw_25 : decode cX2_draw 25 = .ok (.iand, 1) := by decide +kernel
theorem dX2_draw_26 : decode cX2_draw 26 = .ok (.istore_n 2, 1) := by decide +kernel
theorem dX2_draw_27 : decode cX2_draw 27 = .ok (.iload_n 1, 1) := by decide +kernel
theorem dX2_draw_28 : decode cX2_draw 28 = .ok (.ifCond .gt 7, 3) := by decide +kernel
theorem dX2_draw_35 : decode cX2_draw 35 = .ok (.iload_n 2, 1) := by decide +kernel
theorem dX2_draw_36 : decode cX2_draw 36 = .ok (.iload_n 1, 1) := by decide +kernel
theorem dX2_draw_37 : decode cX2_draw 37 = .ok (.irem, 1) := by decide +kernel
theorem dX2_draw_38 : decode cX2_draw 38 = .ok (.ireturn, 1) := by decide +kernel
theorem dX2_draw_31 : decode cX2_draw 31 = .ok (.iconst 0, 1) := by decide +kernel
theorem dX2_draw_32 : decode cX2_draw 32 = .ok (.goto 6, 3) := by decide +kernel
theorem dX2_liveWeek_8 : decode cX2_liveWeek 8 = .ok (.invokevirtual 59, 3) := by decide +kernel
theorem dX2_liveWeek_11 : decode cX2_liveWeek 11 = .ok (.istore_n 2, 1) := by decide +kernel
theorem dX2_liveWeek_12 : decode cX2_liveWeek 12 = .ok (.aload_n 0, 1) := by decide +kernel
theorem dX2_liveWeek_13 : decode cX2_liveWeek 13 = .ok (.aload_n 0, 1) := by decide +kernel
theorem dX2_liveWeek_14 : decode cX2_liveWeek 14 = .ok (.getfield 9, 3) := by decide +kernel
theorem dX2_liveWeek_17 : decode cX2_liveWeek 17 = .ok (.getfield 45, 3) := by decide +kernel
theorem dX2_liveWeek_20 : decode cX2_liveWeek 20 = .ok (.invokevirtual 59, 3) := by decide +kernel
theorem dX2_liveWeek_23 : decode cX2_liveWeek 23 = .ok (.istore_n 3, 1) := by decide +kernel
theorem dX2_liveWeek_24 : decode cX2_liveWeek 24 = .ok (.aload_n 0, 1) := by decide +kernel
theorem dX2_liveWeek_25 : decode cX2_liveWeek 25 = .ok (.getfield 19, 3) := by decide +kernel
theorem dX2_liveWeek_28 : decode cX2_liveWeek 28 = .ok (.iload_n 2, 1) := by decide +kernel
theorem dX2_liveWeek_29 : decode cX2_liveWeek 29 = .ok (.iload_n 3, 1) := by decide +kernel
theorem dX2_liveWeek_30 : decode cX2_liveWeek 30 = .ok (.invokevirtual 42, 3) := by decide +kernel
theorem dX2_liveWeek_33 : decode cX2_liveWeek 33 = .ok (.pop, 1) := by decide +kernel
theorem dX2_liveWeek_34 : decode cX2_liveWeek 34 = .ok (.aload_n 0, 1) := by decide +kernel
theorem dX2_liveWeek_35 : decode cX2_liveWeek 35 = .ok (.bipush 16, 2) := by decide +kernel
theorem dX2_liveWeek_37 : decode cX2_liveWeek 37 = .ok (.invokevirtual 59, 3) := by decide +kernel
theorem dX2_liveWeek_40 : decode cX2_liveWeek 40 = .ok (.iload_n 1, 1) := by decide +kernel
theorem dX2_liveWeek_41 : decode cX2_liveWeek 41 = .ok (.if_icmp .ge 32, 3) := by decide +kernel
theorem dX2_liveWeek_73 : decode cX2_liveWeek 73 = .ok (.return_, 1) := by decide +kernel
theorem dX2_liveWeek_44 : decode cX2_liveWeek 44 = .ok (.aload_n 0, 1) := by decide +kernel
theorem dX2_liveWeek_45 : decode cX2_liveWeek 45 = .ok (.getfield 9, 3) := by decide +kernel
theorem dX2_liveWeek_48 : decode cX2_liveWeek 48 = .ok (.getfield 63, 3) := by decide +kernel
theorem dX2_liveWeek_51 : decode cX2_liveWeek 51 = .ok (.ifCond .le 22, 3) := by decide +kernel
theorem dX2_liveWeek_54 : decode cX2_liveWeek 54 = .ok (.aload_n 0, 1) := by decide +kernel
theorem dX2_liveWeek_55 : decode cX2_liveWeek 55 = .ok (.getfield 19, 3) := by decide +kernel
theorem dX2_liveWeek_58 : decode cX2_liveWeek 58 = .ok (.aload_n 0, 1) := by decide +kernel
theorem dX2_liveWeek_59 : decode cX2_liveWeek 59 = .ok (.aload_n 0, 1) := by decide +kernel
theorem dX2_liveWeek_60 : decode cX2_liveWeek 60 = .ok (.getfield 9, 3) := by decide +kernel
theorem dX2_liveWeek_63 : decode cX2_liveWeek 63 = .ok (.getfield 63, 3) := by decide +kernel
theorem dX2_liveWeek_66 : decode cX2_liveWeek 66 = .ok (.invokevirtual 59, 3) := by decide +kernel
theorem dX2_liveWeek_69 : decode cX2_liveWeek 69 = .ok (.invokevirtual 66, 3) := by decide +kernel
theorem dX2_liveWeek_72 : decode cX2_liveWeek 72 = .ok (.pop, 1) := by decide +kernel
theorem dX2_afterSeason_47 : decode cX2_afterSeason 47 = .ok (.invokevirtual 55, 3) := by decide +kernel
theorem dX2_afterSeason_50 : decode cX2_afterSeason 50 = .ok (.aload_n 0, 1) := by decide +kernel
theorem dX2_afterSeason_51 : decode cX2_afterSeason 51 = .ok (.getfield 19, 3) := by decide +kernel
theorem dX2_afterSeason_54 : decode cX2_afterSeason 54 = .ok (.iconst 0, 1) := by decide +kernel
theorem dX2_afterSeason_55 : decode cX2_afterSeason 55 = .ok (.aload_n 0, 1) := by decide +kernel
theorem dX2_afterSeason_56 : decode cX2_afterSeason 56 = .ok (.getfield 9, 3) := by decide +kernel
theorem dX2_afterSeason_59 : decode cX2_afterSeason 59 = .ok (.getfield 28, 3) := by decide +kernel
theorem dX2_afterSeason_62 : decode cX2_afterSeason 62 = .ok (.invokevirtual 34, 3) := by decide +kernel
theorem dX2_afterSeason_65 : decode cX2_afterSeason 65 = .ok (.iinc 4 1, 3) := by decide +kernel
theorem dX2_afterSeason_68 : decode cX2_afterSeason 68 = .ok (.goto (-49), 3) := by decide +kernel
theorem dX9_season_46 : decode cX9_season 46 = .ok (.invokevirtual 332, 3) := by decide +kernel
theorem dX9_season_49 : decode cX9_season 49 = .ok (.astore 5, 2) := by decide +kernel
theorem dX9_season_51 : decode cX9_season 51 = .ok (.iload 4, 2) := by decide +kernel
theorem dX9_season_53 : decode cX9_season 53 = .ok (.tableswitch 53 0 2 #[27, 33, 39], 27) := by decide +kernel
theorem dX9_season_80 : decode cX9_season 80 = .ok (.aload 5, 2) := by decide +kernel
theorem dX9_season_82 : decode cX9_season 82 = .ok (.invokevirtual 182, 3) := by decide +kernel
theorem dX9_season_85 : decode cX9_season 85 = .ok (.ireturn, 1) := by decide +kernel
theorem dX9_season_86 : decode cX9_season 86 = .ok (.aload 5, 2) := by decide +kernel
theorem dX9_season_88 : decode cX9_season 88 = .ok (.invokevirtual 194, 3) := by decide +kernel
theorem dX9_season_91 : decode cX9_season 91 = .ok (.ireturn, 1) := by decide +kernel
theorem dX9_season_92 : decode cX9_season 92 = .ok (.aload 5, 2) := by decide +kernel
theorem dX9_season_94 : decode cX9_season 94 = .ok (.invokevirtual 191, 3) := by decide +kernel
theorem dX9_season_97 : decode cX9_season 97 = .ok (.aload_n 0, 1) := by decide +kernel
theorem dX9_season_98 : decode cX9_season 98 = .ok (.getfield 58, 3) := by decide +kernel
theorem dX9_season_101 : decode cX9_season 101 = .ok (.invokevirtual 191, 3) := by decide +kernel
theorem dX9_season_104 : decode cX9_season 104 = .ok (.isub, 1) := by decide +kernel
theorem dX9_season_105 : decode cX9_season 105 = .ok (.ireturn, 1) := by decide +kernel
theorem dX9_season_106 : decode cX9_season 106 = .ok (.aload 5, 2) := by decide +kernel
theorem dX5_allLessons_0 : decode cX5_allLessons 0 = .ok (.iconst 0, 1) := by decide +kernel
theorem dX5_allLessons_1 : decode cX5_allLessons 1 = .ok (.istore_n 1, 1) := by decide +kernel
theorem dX5_allLessons_2 : decode cX5_allLessons 2 = .ok (.iconst 0, 1) := by decide +kernel
theorem dX5_allLessons_3 : decode cX5_allLessons 3 = .ok (.istore_n 2, 1) := by decide +kernel
theorem dX5_allLessons_4 : decode cX5_allLessons 4 = .ok (.iload_n 2, 1) := by decide +kernel
theorem dX5_allLessons_5 : decode cX5_allLessons 5 = .ok (.aload_n 0, 1) := by decide +kernel
theorem dX5_allLessons_6 : decode cX5_allLessons 6 = .ok (.getfield 15, 3) := by decide +kernel
theorem dX5_allLessons_9 : decode cX5_allLessons 9 = .ok (.getfield 37, 3) := by decide +kernel
theorem dX5_allLessons_12 : decode cX5_allLessons 12 = .ok (.if_icmp .ge 21, 3) := by decide +kernel
theorem dX5_allLessons_33 : decode cX5_allLessons 33 = .ok (.iload_n 1, 1) := by decide +kernel
theorem dX5_allLessons_34 : decode cX5_allLessons 34 = .ok (.ireturn, 1) := by decide +kernel
theorem dX5_allLessons_15 : decode cX5_allLessons 15 = .ok (.iload_n 1, 1) := by decide +kernel
theorem dX5_allLessons_16 : decode cX5_allLessons 16 = .ok (.aload_n 0, 1) := by decide +kernel
theorem dX5_allLessons_17 : decode cX5_allLessons 17 = .ok (.getfield 11, 3) := by decide +kernel
theorem dX5_allLessons_20 : decode cX5_allLessons 20 = .ok (.bipush 48, 2) := by decide +kernel
theorem dX5_allLessons_22 : decode cX5_allLessons 22 = .ok (.iload_n 2, 1) := by decide +kernel
theorem dX5_allLessons_23 : decode cX5_allLessons 23 = .ok (.iadd, 1) := by decide +kernel
theorem dX5_allLessons_24 : decode cX5_allLessons 24 = .ok (.iaload, 1) := by decide +kernel
theorem dX5_allLessons_25 : decode cX5_allLessons 25 = .ok (.iadd, 1) := by decide +kernel
theorem dX5_allLessons_26 : decode cX5_allLessons 26 = .ok (.istore_n 1, 1) := by decide +kernel
theorem dX5_allLessons_27 : decode cX5_allLessons 27 = .ok (.iinc 2 1, 3) := by decide +kernel
theorem dX5_allLessons_30 : decode cX5_allLessons 30 = .ok (.goto (-26), 3) := by decide +kernel
theorem dX9_season_108 : decode cX9_season 108 = .ok (.invokevirtual 336, 3) := by decide +kernel
theorem dX9_season_111 : decode cX9_season 111 = .ok (.aload_n 0, 1) := by decide +kernel
theorem dX9_season_112 : decode cX9_season 112 = .ok (.getfield 58, 3) := by decide +kernel
theorem dX9_season_115 : decode cX9_season 115 = .ok (.invokevirtual 336, 3) := by decide +kernel
theorem dX9_season_118 : decode cX9_season 118 = .ok (.isub, 1) := by decide +kernel
theorem dX9_season_119 : decode cX9_season 119 = .ok (.ireturn, 1) := by decide +kernel
theorem dX9_span_0 : decode cX9_span 0 = .ok (.aload_n 0, 1) := by decide +kernel
theorem dX9_span_1 : decode cX9_span 1 = .ok (.iload_n 2, 1) := by decide +kernel
theorem dX9_span_2 : decode cX9_span 2 = .ok (.iconst 1, 1) := by decide +kernel
theorem dX9_span_3 : decode cX9_span 3 = .ok (.bipush 10, 2) := by decide +kernel
theorem dX9_span_5 : decode cX9_span 5 = .ok (.invokestatic 282, 3) := by decide +kernel
theorem dX9_span_8 : decode cX9_span 8 = .ok (.ifCond .eq 28, 3) := by decide +kernel
theorem dX9_span_11 : decode cX9_span 11 = .ok (.iload_n 3, 1) := by decide +kernel
theorem dX9_span_12 : decode cX9_span 12 = .ok (.iconst 0, 1) := by decide +kernel
theorem dX9_span_13 : decode cX9_span 13 = .ok (.bipush 16, 2) := by decide +kernel
theorem dX9_span_15 : decode cX9_span 15 = .ok (.invokestatic 282, 3) := by decide +kernel
theorem dX9_span_18 : decode cX9_span 18 = .ok (.ifCond .eq 18, 3) := by decide +kernel
theorem dX9_span_21 : decode cX9_span 21 = .ok (.iload 4, 2) := by decide +kernel
theorem dX9_span_23 : decode cX9_span 23 = .ok (.iconst 1, 1) := by decide +kernel
theorem dX9_span_24 : decode cX9_span 24 = .ok (.bipush 48, 2) := by decide +kernel
theorem dX9_span_26 : decode cX9_span 26 = .ok (.invokestatic 282, 3) := by decide +kernel
theorem dX9_span_29 : decode cX9_span 29 = .ok (.ifCond .eq 7, 3) := by decide +kernel
theorem dX9_span_32 : decode cX9_span 32 = .ok (.iconst 1, 1) := by decide +kernel
theorem dX9_span_33 : decode cX9_span 33 = .ok (.goto 4, 3) := by decide +kernel
theorem dX9_span_36 : decode cX9_span 36 = .ok (.iconst 0, 1) := by decide +kernel
theorem dX9_span_37 : decode cX9_span 37 = .ok (.invokevirtual 286, 3) := by decide +kernel
theorem dX9_span_40 : decode cX9_span 40 = .ok (.aload_n 0, 1) := by decide +kernel
theorem dX9_span_41 : decode cX9_span 41 = .ok (.iload 5, 2) := by decide +kernel
theorem dX9_span_43 : decode cX9_span 43 = .ok (.iconst 0, 1) := by decide +kernel
theorem dX9_span_44 : decode cX9_span 44 = .ok (.iconst 2, 1) := by decide +kernel
theorem dX9_span_45 : decode cX9_span 45 = .ok (.invokestatic 282, 3) := by decide +kernel
theorem dX9_span_48 : decode cX9_span 48 = .ok (.ifCond .eq 25, 3) := by decide +kernel
theorem dX9_span_51 : decode cX9_span 51 = .ok (.iload 6, 2) := by decide +kernel
theorem dX9_span_53 : decode cX9_span 53 = .ok (.iconst 0, 1) := by decide +kernel
theorem dX9_span_54 : decode cX9_span 54 = .ok (.aload_n 0, 1) := by decide +kernel
theorem dX9_span_55 : decode cX9_span 55 = .ok (.getfield 27, 3) := by decide +kernel
theorem dX9_span_58 : decode cX9_span 58 = .ok (.getfield 123, 3) := by decide +kernel
theorem dX9_span_61 : decode cX9_span 61 = .ok (.iconst 1, 1) := by decide +kernel
theorem dX9_span_62 : decode cX9_span 62 = .ok (.isub, 1) := by decide +kernel
theorem dX9_span_63 : decode cX9_span 63 = .ok (.invokestatic 282, 3) := by decide +kernel
theorem dX9_span_66 : decode cX9_span 66 = .ok (.ifCond .eq 7, 3) := by decide +kernel
theorem dX9_span_69 : decode cX9_span 69 = .ok (.iconst 1, 1) := by decide +kernel
theorem dX9_span_70 : decode cX9_span 70 = .ok (.goto 4, 3) := by decide +kernel
theorem dX9_span_73 : decode cX9_span 73 = .ok (.iconst 0, 1) := by decide +kernel
theorem dX9_span_74 : decode cX9_span 74 = .ok (.invokevirtual 286, 3) := by decide +kernel
theorem dX9_span_77 : decode cX9_span 77 = .ok (.ldc_w 341, 3) := by decide +kernel
theorem dX9_span_80 : decode cX9_span 80 = .ok (.istore 7, 2) := by decide +kernel
theorem dX9_span_82 : decode cX9_span 82 = .ok (.iconst 0, 1) := by decide +kernel
theorem dX9_span_83 : decode cX9_span 83 = .ok (.istore 8, 2) := by decide +kernel
theorem dX9_span_85 : decode cX9_span 85 = .ok (.iconst 0, 1) := by decide +kernel
theorem dX9_span_86 : decode cX9_span 86 = .ok (.istore 9, 2) := by decide +kernel
theorem dX9_span_88 : decode cX9_span 88 = .ok (.iconst 0, 1) := by decide +kernel
theorem dX9_span_89 : decode cX9_span 89 = .ok (.istore 10, 2) := by decide +kernel
theorem dX9_span_91 : decode cX9_span 91 = .ok (.iload 10, 2) := by decide +kernel
theorem dX9_span_93 : decode cX9_span 93 = .ok (.iload_n 2, 1) := by decide +kernel
theorem dX9_span_94 : decode cX9_span 94 = .ok (.if_icmp .ge 70, 3) := by decide +kernel
theorem dX9_span_164 : decode cX9_span 164 = .ok (.iload 5, 2) := by decide +kernel
theorem dX9_span_166 : decode cX9_span 166 = .ok (.lookupswitch 32 #[(0, 26), (1, 29)], 26) := by decide +kernel
theorem dX9_span_192 : decode cX9_span 192 = .ok (.iload 7, 2) := by decide +kernel
theorem dX9_span_194 : decode cX9_span 194 = .ok (.ireturn, 1) := by decide +kernel
theorem dX9_span_195 : decode cX9_span 195 = .ok (.iload 8, 2) := by decide +kernel
theorem dX9_span_197 : decode cX9_span 197 = .ok (.ireturn, 1) := by decide +kernel
theorem dX9_span_198 : decode cX9_span 198 = .ok (.iload 9, 2) := by decide +kernel
theorem dX9_span_200 : decode cX9_span 200 = .ok (.ireturn, 1) := by decide +kernel
theorem dX9_span_97 : decode cX9_span 97 = .ok (.aload_n 0, 1) := by decide +kernel
theorem dX9_span_98 : decode cX9_span 98 = .ok (.getfield 74, 3) := by decide +kernel
theorem dX9_span_101 : decode cX9_span 101 = .ok (.iload_n 1, 1) := by decide +kernel
theorem dX9_span_102 : decode cX9_span 102 = .ok (.iload 10, 2) := by decide +kernel
theorem dX9_span_104 : decode cX9_span 104 = .ok (.iadd, 1) := by decide +kernel
theorem dX9_span_105 : decode cX9_span 105 = .ok (.iload_n 3, 1) := by decide +kernel
theorem dX9_span_106 : decode cX9_span 106 = .ok (.iload 4, 2) := by decide +kernel
theorem dX9_span_108 : decode cX9_span 108 = .ok (.invokevirtual 332, 3) := by decide +kernel
theorem dX9_span_111 : decode cX9_span 111 = .ok (.astore 11, 2) := by decide +kernel
theorem dX9_span_113 : decode cX9_span 113 = .ok (.aload 11, 2) := by decide +kernel
theorem dX9_span_115 : decode cX9_span 115 = .ok (.invokevirtual 194, 3) := by decide +kernel
theorem dX9_span_118 : decode cX9_span 118 = .ok (.istore 12, 2) := by decide +kernel
theorem dX9_span_120 : decode cX9_span 120 = .ok (.iload 7, 2) := by decide +kernel
theorem dX9_span_122 : decode cX9_span 122 = .ok (.iload 12, 2) := by decide +kernel
theorem dX9_span_124 : decode cX9_span 124 = .ok (.invokestatic 311, 3) := by decide +kernel
theorem dX9_span_127 : decode cX9_span 127 = .ok (.istore 7, 2) := by decide +kernel
theorem dX9_span_129 : decode cX9_span 129 = .ok (.iload 8, 2) := by decide +kernel
theorem dX9_span_131 : decode cX9_span 131 = .ok (.iload 12, 2) := by decide +kernel
theorem dX9_span_133 : decode cX9_span 133 = .ok (.invokestatic 342, 3) := by decide +kernel
theorem dX9_span_136 : decode cX9_span 136 = .ok (.istore 8, 2) := by decide +kernel
theorem dX9_span_138 : decode cX9_span 138 = .ok (.iload 9, 2) := by decide +kernel
theorem dX9_span_140 : decode cX9_span 140 = .ok (.aload 11, 2) := by decide +kernel
theorem dX9_span_142 : decode cX9_span 142 = .ok (.iload 6, 2) := by decide +kernel
theorem dX9_span_144 : decode cX9_span 144 = .ok (.invokevirtual 264, 3) := by decide +kernel
theorem dX9_span_147 : decode cX9_span 147 = .ok (.ifCond .eq 7, 3) := by decide +kernel
theorem dX9_span_154 : decode cX9_span 154 = .ok (.iconst 0, 1) := by decide +kernel
theorem dX9_span_155 : decode cX9_span 155 = .ok (.iadd, 1) := by decide +kernel
theorem dX9_span_156 : decode cX9_span 156 = .ok (.istore 9, 2) := by decide +kernel
theorem dX9_span_158 : decode cX9_span 158 = .ok (.iinc 10 1, 3) := by decide +kernel
theorem dX9_span_161 : decode cX9_span 161 = .ok (.goto (-70), 3) := by decide +kernel
theorem dX9_span_150 : decode cX9_span 150 = .ok (.iconst 1, 1) := by decide +kernel
theorem dX9_span_151 : decode cX9_span 151 = .ok (.goto 4, 3) := by decide +kernel
theorem dX9_image_0 : decode cX9_image 0 = .ok (.aload_n 0, 1) := by decide +kernel
theorem dX9_image_1 : decode cX9_image 1 = .ok (.getfield 65, 3) := by decide +kernel
theorem dX9_image_4 : decode cX9_image 4 = .ok (.aload_n 0, 1) := by decide +kernel
theorem dX9_image_5 : decode cX9_image 5 = .ok (.getfield 58, 3) := by decide +kernel
theorem dX4_pushImage_0 : decode cX4_pushImage 0 = .ok (.aload_n 0, 1) := by decide +kernel
theorem dX4_pushImage_1 : decode cX4_pushImage 1 = .ok (.getfield 25, 3) := by decide +kernel
theorem dX4_pushImage_4 : decode cX4_pushImage 4 = .ok (.iconst 3, 1) := by decide +kernel
theorem dX4_pushImage_5 : decode cX4_pushImage 5 = .ok (.if_icmp .lt 5, 3) := by decide +kernel
theorem dX4_pushImage_10 : decode cX4_pushImage 10 = .ok (.aload_n 0, 1) := by decide +kernel
theorem dX4_pushImage_11 : decode cX4_pushImage 11 = .ok (.getfield 25, 3) := by decide +kernel
theorem dX4_pushImage_14 : decode cX4_pushImage 14 = .ok (.sipush 1258, 3) := by decide +kernel
theorem dX4_pushImage_17 : decode cX4_pushImage 17 = .ok (.imul, 1) := by decide +kernel
theorem dX4_pushImage_18 : decode cX4_pushImage 18 = .ok (.istore_n 2, 1) := by decide +kernel
theorem dX4_pushImage_19 : decode cX4_pushImage 19 = .ok (.aload_n 1, 1) := by decide +kernel
theorem dX4_pushImage_20 : decode cX4_pushImage 20 = .ok (.getfield 28, 3) := by decide +kernel
theorem dX4_pushImage_23 : decode cX4_pushImage 23 = .ok (.iconst 0, 1) := by decide +kernel
theorem dX4_pushImage_24 : decode cX4_pushImage 24 = .ok (.aload_n 0, 1) := by decide +kernel
theorem dX4_pushImage_25 : decode cX4_pushImage 25 = .ok (.getfield 15, 3) := by decide +kernel
theorem dX4_pushImage_28 : decode cX4_pushImage 28 = .ok (.iload_n 2, 1) := by decide +kernel
theorem dX4_pushImage_29 : decode cX4_pushImage 29 = .ok (.bipush 74, 2) := by decide +kernel
theorem dX4_pushImage_31 : decode cX4_pushImage 31 = .ok (.invokestatic 31, 3) := by decide +kernel
theorem dX4_pushImage_34 : decode cX4_pushImage 34 = .ok (.aload_n 0, 1) := by decide +kernel
theorem dX4_pushImage_35 : decode cX4_pushImage 35 = .ok (.getfield 11, 3) := by decide +kernel
theorem dX4_pushImage_38 : decode cX4_pushImage 38 = .ok (.iconst 0, 1) := by decide +kernel
theorem dX4_pushImage_39 : decode cX4_pushImage 39 = .ok (.aload_n 0, 1) := by decide +kernel
theorem dX4_pushImage_40 : decode cX4_pushImage 40 = .ok (.getfield 15, 3) := by decide +kernel
theorem dX4_pushImage_43 : decode cX4_pushImage 43 = .ok (.iload_n 2, 1) := by decide +kernel
theorem dX4_pushImage_44 : decode cX4_pushImage 44 = .ok (.bipush 74, 2) := by decide +kernel
theorem dX4_pushImage_46 : decode cX4_pushImage 46 = .ok (.iadd, 1) := by decide +kernel
theorem dX4_pushImage_47 : decode cX4_pushImage 47 = .ok (.aload_n 0, 1) := by decide +kernel
theorem dX4_pushImage_48 : decode cX4_pushImage 48 = .ok (.getfield 21, 3) := by decide +kernel
theorem dX4_pushImage_51 : decode cX4_pushImage 51 = .ok (.bipush 74, 2) := by decide +kernel
theorem dX4_pushImage_53 : decode cX4_pushImage 53 = .ok (.imul, 1) := by decide +kernel
theorem dX4_pushImage_54 : decode cX4_pushImage 54 = .ok (.invokestatic 31, 3) := by decide +kernel
theorem dX4_pushImage_57 : decode cX4_pushImage 57 = .ok (.aload_n 0, 1) := by decide +kernel
theorem dX4_pushImage_58 : decode cX4_pushImage 58 = .ok (.getfield 18, 3) := by decide +kernel
theorem dX4_pushImage_61 : decode cX4_pushImage 61 = .ok (.aload_n 0, 1) := by decide +kernel
theorem dX4_pushImage_62 : decode cX4_pushImage 62 = .ok (.getfield 25, 3) := by decide +kernel
theorem dX4_pushImage_65 : decode cX4_pushImage 65 = .ok (.aload_n 0, 1) := by decide +kernel
theorem dX4_pushImage_66 : decode cX4_pushImage 66 = .ok (.getfield 21, 3) := by decide +kernel
theorem dX4_pushImage_69 : decode cX4_pushImage 69 = .ok (.iastore, 1) := by decide +kernel
theorem dX4_pushImage_70 : decode cX4_pushImage 70 = .ok (.aload_n 0, 1) := by decide +kernel
theorem dX4_pushImage_71 : decode cX4_pushImage 71 = .ok (.dup, 1) := by decide +kernel
theorem dX4_pushImage_72 : decode cX4_pushImage 72 = .ok (.getfield 25, 3) := by decide +kernel
theorem dX4_pushImage_75 : decode cX4_pushImage 75 = .ok (.iconst 1, 1) := by decide +kernel
theorem dX4_pushImage_76 : decode cX4_pushImage 76 = .ok (.iadd, 1) := by decide +kernel
theorem dX4_pushImage_77 : decode cX4_pushImage 77 = .ok (.putfield 25, 3) := by decide +kernel
theorem dX4_pushImage_80 : decode cX4_pushImage 80 = .ok (.iconst 1, 1) := by decide +kernel
theorem dX4_pushImage_81 : decode cX4_pushImage 81 = .ok (.ireturn, 1) := by decide +kernel
theorem dX4_pushImage_8 : decode cX4_pushImage 8 = .ok (.iconst 0, 1) := by decide +kernel
theorem dX4_pushImage_9 : decode cX4_pushImage 9 = .ok (.ireturn, 1) := by decide +kernel
theorem dX9_image_8 : decode cX9_image 8 = .ok (.invokevirtual 163, 3) := by decide +kernel
theorem dX9_image_11 : decode cX9_image 11 = .ok (.ifCond .eq 13, 3) := by decide +kernel
theorem dX9_image_24 : decode cX9_image 24 = .ok (.iconst (-1), 1) := by decide +kernel
theorem dX9_image_25 : decode cX9_image 25 = .ok (.ireturn, 1) := by decide +kernel
theorem dX9_image_14 : decode cX9_image 14 = .ok (.aload_n 0, 1) := by decide +kernel
theorem dX9_image_15 : decode cX9_image 15 = .ok (.getfield 65, 3) := by decide +kernel
theorem dX9_image_18 : decode cX9_image 18 = .ok (.getfield 166, 3) := by decide +kernel
theorem dX9_image_21 : decode cX9_image 21 = .ok (.goto 4, 3) := by decide +kernel
theorem dX9_restore_0 : decode cX9_restore 0 = .ok (.aload_n 0, 1) := by decide +kernel
theorem dX9_restore_1 : decode cX9_restore 1 = .ok (.getfield 65, 3) := by decide +kernel
theorem dX9_restore_4 : decode cX9_restore 4 = .ok (.aload_n 0, 1) := by decide +kernel
theorem dX9_restore_5 : decode cX9_restore 5 = .ok (.getfield 58, 3) := by decide +kernel
theorem dX4_popImage_0 : decode cX4_popImage 0 = .ok (.aload_n 0, 1) := by decide +kernel
theorem dX4_popImage_1 : decode cX4_popImage 1 = .ok (.getfield 25, 3) := by decide +kernel
theorem dX4_popImage_4 : decode cX4_popImage 4 = .ok (.ifCond .gt 5, 3) := by decide +kernel
theorem dX4_popImage_9 : decode cX4_popImage 9 = .ok (.aload_n 0, 1) := by decide +kernel
theorem dX4_popImage_10 : decode cX4_popImage 10 = .ok (.dup, 1) := by decide +kernel
theorem dX4_popImage_11 : decode cX4_popImage 11 = .ok (.getfield 25, 3) := by decide +kernel
theorem dX4_popImage_14 : decode cX4_popImage 14 = .ok (.iconst 1, 1) := by decide +kernel
theorem dX4_popImage_15 : decode cX4_popImage 15 = .ok (.isub, 1) := by decide +kernel
theorem dX4_popImage_16 : decode cX4_popImage 16 = .ok (.putfield 25, 3) := by decide +kernel
theorem dX4_popImage_19 : decode cX4_popImage 19 = .ok (.aload_n 0, 1) := by decide +kernel
theorem dX4_popImage_20 : decode cX4_popImage 20 = .ok (.aload_n 0, 1) := by decide +kernel
theorem dX4_popImage_21 : decode cX4_popImage 21 = .ok (.getfield 18, 3) := by decide +kernel
theorem dX4_popImage_24 : decode cX4_popImage 24 = .ok (.aload_n 0, 1) := by decide +kernel
theorem dX4_popImage_25 : decode cX4_popImage 25 = .ok (.getfield 25, 3) := by decide +kernel
theorem dX4_popImage_28 : decode cX4_popImage 28 = .ok (.iaload, 1) := by decide +kernel
theorem dX4_popImage_29 : decode cX4_popImage 29 = .ok (.putfield 21, 3) := by decide +kernel
theorem dX4_popImage_32 : decode cX4_popImage 32 = .ok (.aload_n 0, 1) := by decide +kernel
theorem dX4_popImage_33 : decode cX4_popImage 33 = .ok (.getfield 25, 3) := by decide +kernel
theorem dX4_popImage_36 : decode cX4_popImage 36 = .ok (.sipush 1258, 3) := by decide +kernel
theorem dX4_popImage_39 : decode cX4_popImage 39 = .ok (.imul, 1) := by decide +kernel
theorem dX4_popImage_40 : decode cX4_popImage 40 = .ok (.istore_n 2, 1) := by decide +kernel
theorem dX4_popImage_41 : decode cX4_popImage 41 = .ok (.aload_n 0, 1) := by decide +kernel
theorem dX4_popImage_42 : decode cX4_popImage 42 = .ok (.getfield 15, 3) := by decide +kernel
theorem dX4_popImage_45 : decode cX4_popImage 45 = .ok (.iload_n 2, 1) := by decide +kernel
theorem dX4_popImage_46 : decode cX4_popImage 46 = .ok (.aload_n 1, 1) := by decide +kernel
theorem dX4_popImage_47 : decode cX4_popImage 47 = .ok (.getfield 28, 3) := by decide +kernel
theorem dX4_popImage_50 : decode cX4_popImage 50 = .ok (.iconst 0, 1) := by decide +kernel
theorem dX4_popImage_51 : decode cX4_popImage 51 = .ok (.bipush 74, 2) := by decide +kernel
theorem dX4_popImage_53 : decode cX4_popImage 53 = .ok (.invokestatic 31, 3) := by decide +kernel
theorem dX4_popImage_56 : decode cX4_popImage 56 = .ok (.aload_n 0, 1) := by decide +kernel
theorem dX4_popImage_57 : decode cX4_popImage 57 = .ok (.getfield 15, 3) := by decide +kernel
theorem dX4_popImage_60 : decode cX4_popImage 60 = .ok (.iload_n 2, 1) := by decide +kernel
theorem dX4_popImage_61 : decode cX4_popImage 61 = .ok (.bipush 74, 2) := by decide +kernel
theorem dX4_popImage_63 : decode cX4_popImage 63 = .ok (.iadd, 1) := by decide +kernel
theorem dX4_popImage_64 : decode cX4_popImage 64 = .ok (.aload_n 0, 1) := by decide +kernel
theorem dX4_popImage_65 : decode cX4_popImage 65 = .ok (.getfield 11, 3) := by decide +kernel
theorem dX4_popImage_68 : decode cX4_popImage 68 = .ok (.iconst 0, 1) := by decide +kernel
theorem dX4_popImage_69 : decode cX4_popImage 69 = .ok (.aload_n 0, 1) := by decide +kernel
theorem dX4_popImage_70 : decode cX4_popImage 70 = .ok (.getfield 21, 3) := by decide +kernel
theorem dX4_popImage_73 : decode cX4_popImage 73 = .ok (.bipush 74, 2) := by decide +kernel
theorem dX4_popImage_75 : decode cX4_popImage 75 = .ok (.imul, 1) := by decide +kernel
theorem dX4_popImage_76 : decode cX4_popImage 76 = .ok (.invokestatic 31, 3) := by decide +kernel
theorem dX4_popImage_79 : decode cX4_popImage 79 = .ok (.iconst 1, 1) := by decide +kernel
theorem dX4_popImage_80 : decode cX4_popImage 80 = .ok (.ireturn, 1) := by decide +kernel
theorem dX4_popImage_7 : decode cX4_popImage 7 = .ok (.iconst 0, 1) := by decide +kernel
theorem dX4_popImage_8 : decode cX4_popImage 8 = .ok (.ireturn, 1) := by decide +kernel
theorem dX9_restore_8 : decode cX9_restore 8 = .ok (.invokevirtual 169, 3) := by decide +kernel
theorem dX9_restore_11 : decode cX9_restore 11 = .ok (.ifCond .ne 5, 3) := by decide +kernel
theorem dX9_restore_16 : decode cX9_restore 16 = .ok (.aload_n 0, 1) := by decide +kernel
