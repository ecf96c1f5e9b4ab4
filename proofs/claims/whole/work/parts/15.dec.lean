theorem dX6_put_0 : decode cX6_put 0 = .ok (.bipush 24, 2) := by decide +kernel
theorem dX6_put_2 : decode cX6_put 2 = .ok (.istore_n 2, 1) := by decide +kernel
theorem dX6_put_3 : decode cX6_put 3 = .ok (.iload_n 2, 1) := by decide +kernel
theorem dX6_put_4 : decode cX6_put 4 = .ok (.ifCond .lt 45, 3) := by decide +kernel
theorem dX6_put_49 : decode cX6_put 49 = .ok (.return_, 1) := by decide +kernel
theorem dX6_put_7 : decode cX6_put 7 = .ok (.aload_n 0, 1) := by decide +kernel
theorem dX6_put_8 : decode cX6_put 8 = .ok (.getfield 19, 3) := by decide +kernel
theorem dX6_put_11 : decode cX6_put 11 = .ok (.sipush 600, 3) := by decide +kernel
theorem dX6_put_14 : decode cX6_put 14 = .ok (.if_icmp .ge 29, 3) := by decide +kernel
theorem dX6_put_43 : decode cX6_put 43 = .ok (.iinc 2 (-8), 3) := by decide +kernel
theorem dX6_put_46 : decode cX6_put 46 = .ok (.goto (-43), 3) := by decide +kernel
theorem dX6_put_17 : decode cX6_put 17 = .ok (.aload_n 0, 1) := by decide +kernel
theorem dX6_put_18 : decode cX6_put 18 = .ok (.getfield 11, 3) := by decide +kernel
theorem dX6_put_21 : decode cX6_put 21 = .ok (.aload_n 0, 1) := by decide +kernel
theorem dX6_put_22 : decode cX6_put 22 = .ok (.getfield 19, 3) := by decide +kernel
theorem dX6_put_25 : decode cX6_put 25 = .ok (.iload_n 1, 1) := by decide +kernel
theorem dX6_put_26 : decode cX6_put 26 = .ok (.iload_n 2, 1) := by decide +kernel
theorem dX6_put_27 : decode cX6_put 27 = .ok (.iushr, 1) := by decide +kernel
theorem dX6_put_28 : decode cX6_put 28 = .ok (.sipush 255, 3) := by decide +kernel
theorem dX6_put_31 : decode cX6_put 31 = .ok (.iand, 1) := by decide +kernel
theorem dX6_put_32 : decode cX6_put 32 = .ok (.iastore, 1) := by decide +kernel
theorem dX6_put_33 : decode cX6_put 33 = .ok (.aload_n 0, 1) := by decide +kernel
theorem dX6_put_34 : decode cX6_put 34 = .ok (.dup, 1) := by decide +kernel
theorem dX6_put_35 : decode cX6_put 35 = .ok (.getfield 19, 3) := by decide +kernel
theorem dX6_put_38 : decode cX6_put 38 = .ok (.iconst 1, 1) := by decide +kernel
theorem dX6_put_39 : decode cX6_put 39 = .ok (.iadd, 1) := by decide +kernel
theorem dX6_put_40 : decode cX6_put 40 = .ok (.putfield 19, 3) := by decide +kernel
theorem dX5_linesOf_0 : decode cX5_linesOf 0 = .ok (.iconst 0, 1) := by decide +kernel
theorem dX5_linesOf_1 : decode cX5_linesOf 1 = .ok (.istore_n 2, 1) := by decide +kernel
theorem dX5_linesOf_2 : decode cX5_linesOf 2 = .ok (.iconst 0, 1) := by decide +kernel
theorem dX5_linesOf_3 : decode cX5_linesOf 3 = .ok (.istore_n 3, 1) := by decide +kernel
theorem dX5_linesOf_4 : decode cX5_linesOf 4 = .ok (.iload_n 3, 1) := by decide +kernel
theorem dX5_linesOf_5 : decode cX5_linesOf 5 = .ok (.aload_n 0, 1) := by decide +kernel
theorem dX5_linesOf_6 : decode cX5_linesOf 6 = .ok (.getfield 15, 3) := by decide +kernel
theorem dX5_linesOf_9 : decode cX5_linesOf 9 = .ok (.getfield 33, 3) := by decide +kernel
theorem dX5_linesOf_12 : decode cX5_linesOf 12 = .ok (.if_icmp .ge 22, 3) := by decide +kernel
theorem dX5_linesOf_34 : decode cX5_linesOf 34 = .ok (.iload_n 2, 1) := by decide +kernel
theorem dX5_linesOf_35 : decode cX5_linesOf 35 = .ok (.ireturn, 1) := by decide +kernel
theorem dX5_linesOf_15 : decode cX5_linesOf 15 = .ok (.iload_n 2, 1) := by decide +kernel
theorem dX5_linesOf_16 : decode cX5_linesOf 16 = .ok (.aload_n 0, 1) := by decide +kernel
theorem dX5_linesOf_17 : decode cX5_linesOf 17 = .ok (.getfield 11, 3) := by decide +kernel
theorem dX5_linesOf_20 : decode cX5_linesOf 20 = .ok (.iload_n 1, 1) := by decide +kernel
theorem dX5_linesOf_21 : decode cX5_linesOf 21 = .ok (.iload_n 3, 1) := by decide +kernel
theorem dX5_place_0 : decode cX5_place 0 = .ok (.iconst 0, 1) := by decide +kernel
theorem dX5_place_1 : decode cX5_place 1 = .ok (.iload_n 0, 1) := by decide +kernel
theorem dX5_place_2 : decode cX5_place 2 = .ok (.bipush 8, 2) := by decide +kernel
theorem dX5_place_4 : decode cX5_place 4 = .ok (.imul, 1) := by decide +kernel
theorem dX5_place_5 : decode cX5_place 5 = .ok (.iadd, 1) := by decide +kernel
theorem dX5_place_6 : decode cX5_place 6 = .ok (.iload_n 1, 1) := by decide +kernel
theorem dX5_place_7 : decode cX5_place 7 = .ok (.iadd, 1) := by decide +kernel
theorem dX5_place_8 : decode cX5_place 8 = .ok (.ireturn, 1) := by decide +kernel
theorem dX5_linesOf_22 : decode cX5_linesOf 22 = .ok (.invokestatic 29, 3) := by decide +kernel
theorem dX5_linesOf_25 : decode cX5_linesOf 25 = .ok (.iaload, 1) := by decide +kernel
theorem dX5_linesOf_26 : decode cX5_linesOf 26 = .ok (.iadd, 1) := by decide +kernel
theorem dX5_linesOf_27 : decode cX5_linesOf 27 = .ok (.istore_n 2, 1) := by decide +kernel
theorem dX5_linesOf_28 : decode cX5_linesOf 28 = .ok (.iinc 3 1, 3) := by decide +kernel
theorem dX5_linesOf_31 : decode cX5_linesOf 31 = .ok (.goto (-27), 3) := by decide +kernel
theorem dX9_need_0 : decode cX9_need 0 = .ok (.iload_n 1, 1) := by decide +kernel
theorem dX9_need_1 : decode cX9_need 1 = .ok (.ifCond .ne 8, 3) := by decide +kernel
theorem dX9_need_9 : decode cX9_need 9 = .ok (.return_, 1) := by decide +kernel
theorem dX9_need_4 : decode cX9_need 4 = .ok (.aload_n 0, 1) := by decide +kernel
theorem dX9_refuseArgument_0 : decode cX9_refuseArgument 0 = .ok (.aload_n 0, 1) := by decide +kernel
theorem dX9_refuseArgument_1 : decode cX9_refuseArgument 1 = .ok (.dup, 1) := by decide +kernel
theorem dX9_refuseArgument_2 : decode cX9_refuseArgument 2 = .ok (.getfield 374, 3) := by decide +kernel
theorem dX9_refuseArgument_5 : decode cX9_refuseArgument 5 = .ok (.iconst 1, 1) := by decide +kernel
theorem dX9_refuseArgument_6 : decode cX9_refuseArgument 6 = .ok (.iadd, 1) := by decide +kernel
theorem dX9_refuseArgument_7 : decode cX9_refuseArgument 7 = .ok (.putfield 374, 3) := by decide +kernel
theorem dX9_refuseArgument_10 : decode cX9_refuseArgument 10 = .ok (.new 380, 3) := by decide +kernel
theorem dX9_refuseArgument_13 : decode cX9_refuseArgument 13 = .ok (.dup, 1) := by decide +kernel
theorem dX9_refuseArgument_14 : decode cX9_refuseArgument 14 = .ok (.ldc_w 382, 3) := by decide +kernel
theorem dX9_refuseArgument_17 : decode cX9_refuseArgument 17 = .ok (.invokespecial 384, 3) := by decide +kernel
theorem dX9_refuseArgument_20 : decode cX9_refuseArgument 20 = .ok (.athrow, 1) := by decide +kernel
theorem dX9_need_5 : decode cX9_need 5 = .ok (.invokevirtual 200, 3) := by decide +kernel
theorem dX9_need_8 : decode cX9_need 8 = .ok (.pop, 1) := by decide +kernel
theorem dX6_isWord_0 : decode cX6_isWord 0 = .ok (.aload_n 0, 1) := by decide +kernel
theorem dX6_isWord_1 : decode cX6_isWord 1 = .ok (.getfield 25, 3) := by decide +kernel
theorem dX6_isWord_4 : decode cX6_isWord 4 = .ok (.aload_n 0, 1) := by decide +kernel
theorem dX6_isWord_5 : decode cX6_isWord 5 = .ok (.getfield 41, 3) := by decide +kernel
theorem dX6_isWord_8 : decode cX6_isWord 8 = .ok (.isub, 1) := by decide +kernel
theorem dX6_isWord_9 : decode cX6_isWord 9 = .ok (.aload_n 1, 1) := by decide +kernel
theorem dX6_isWord_10 : decode cX6_isWord 10 = .ok (.invokevirtual 44, 3) := by decide +kernel
theorem dX6_isWord_13 : decode cX6_isWord 13 = .ok (.if_icmp .eq 5, 3) := by decide +kernel
theorem dX6_isWord_18 : decode cX6_isWord 18 = .ok (.iconst 0, 1) := by decide +kernel
theorem dX6_isWord_19 : decode cX6_isWord 19 = .ok (.istore_n 2, 1) := by decide +kernel
theorem dX6_isWord_16 : decode cX6_isWord 16 = .ok (.iconst 0, 1) := by decide +kernel
theorem dX6_isWord_17 : decode cX6_isWord 17 = .ok (.ireturn, 1) := by decide +kernel
theorem dX6_isWord_20 : decode cX6_isWord 20 = .ok (.iload_n 2, 1) := by decide +kernel
theorem dX6_isWord_21 : decode cX6_isWord 21 = .ok (.aload_n 1, 1) := by decide +kernel
theorem dX6_isWord_22 : decode cX6_isWord 22 = .ok (.invokevirtual 44, 3) := by decide +kernel
theorem dX6_isWord_25 : decode cX6_isWord 25 = .ok (.if_icmp .ge 30, 3) := by decide +kernel
theorem dX6_isWord_55 : decode cX6_isWord 55 = .ok (.iconst 1, 1) := by decide +kernel
theorem dX6_isWord_56 : decode cX6_isWord 56 = .ok (.ireturn, 1) := by decide +kernel
theorem dX6_isWord_28 : decode cX6_isWord 28 = .ok (.aload_n 0, 1) := by decide +kernel
theorem dX6_isWord_29 : decode cX6_isWord 29 = .ok (.getfield 11, 3) := by decide +kernel
theorem dX6_isWord_32 : decode cX6_isWord 32 = .ok (.aload_n 0, 1) := by decide +kernel
theorem dX6_isWord_33 : decode cX6_isWord 33 = .ok (.getfield 41, 3) := by decide +kernel
theorem dX6_isWord_36 : decode cX6_isWord 36 = .ok (.iload_n 2, 1) := by decide +kernel
theorem dX6_isWord_37 : decode cX6_isWord 37 = .ok (.iadd, 1) := by decide +kernel
theorem dX6_isWord_38 : decode cX6_isWord 38 = .ok (.iaload, 1) := by decide +kernel
theorem dX6_isWord_39 : decode cX6_isWord 39 = .ok (.aload_n 1, 1) := by decide +kernel
theorem dX6_isWord_40 : decode cX6_isWord 40 = .ok (.iload_n 2, 1) := by decide +kernel
theorem dX6_isWord_41 : decode cX6_isWord 41 = .ok (.invokevirtual 49, 3) := by decide +kernel
theorem dX6_isWord_44 : decode cX6_isWord 44 = .ok (.if_icmp .eq 5, 3) := by decide +kernel
theorem dX6_isWord_49 : decode cX6_isWord 49 = .ok (.iinc 2 1, 3) := by decide +kernel
theorem dX6_isWord_52 : decode cX6_isWord 52 = .ok (.goto (-32), 3) := by decide +kernel
theorem dX6_isWord_47 : decode cX6_isWord 47 = .ok (.iconst 0, 1) := by decide +kernel
theorem dX6_isWord_48 : decode cX6_isWord 48 = .ok (.ireturn, 1) := by decide +kernel
