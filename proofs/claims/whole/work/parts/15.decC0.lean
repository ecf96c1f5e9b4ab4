theorem dX9_feed_0 : decode cX9_feed 0 = .ok (.aload_n 0, 1) := by decide +kernel
theorem dX9_feed_1 : decode cX9_feed 1 = .ok (.getfield 21, 3) := by decide +kernel
theorem dX9_feed_4 : decode cX9_feed 4 = .ok (.getfield 87, 3) := by decide +kernel
theorem dX9_feed_7 : decode cX9_feed 7 = .ok (.bipush 20, 2) := by decide +kernel
theorem dX9_feed_9 : decode cX9_feed 9 = .ok (.iadd, 1) := by decide +kernel
theorem dX9_feed_10 : decode cX9_feed 10 = .ok (.sipush 600, 3) := by decide +kernel
theorem dX9_feed_13 : decode cX9_feed 13 = .ok (.if_icmp .le 5, 3) := by decide +kernel
theorem dX9_feed_18 : decode cX9_feed 18 = .ok (.aload_n 0, 1) := by decide +kernel
theorem dX9_feed_19 : decode cX9_feed 19 = .ok (.getfield 21, 3) := by decide +kernel
theorem dX9_feed_22 : decode cX9_feed 22 = .ok (.iload_n 1, 1) := by decide +kernel
theorem dX6_put_0 : decode cX6_put 0 = .ok (.bipush 24, 2) := by decide +kernel
theorem dX6_put_2 : decode cX6_put 2 = .ok (.istore_n 2, 1) := by decide +kernel
theorem dX6_put_3 : decode cX6_put 3 = .ok (.iload_n 2, 1) := by decide +kernel
theorem dX6_put_4 : decode cX6_put 4 = .ok (.ifCond .lt 45, 3) := by decide +kernel
theorem dX6_put_49 : decode cX6_put 49 = .ok (.return_, 1) := by decide +kernel
theorem dX6_put_7 : decode cX6_put 7 = .ok (.aload_n 0, 1) := by decide +kernel
theorem dX6_put_8 : decode cX6_put 8 = .ok (.getfield 19, 3) := by decide +kernel
theorem dX6_put_11 : decode cX6_put 11 = .ok (.sipush 600, 3) := by decide +kernel
theorem dX6_put_14 : decode cX6_put 14 = .ok (.if_icmp .ge 29, 3) := by decide +kernel
theorem dX6_put_43 : decode cX6_put 43 = .ok (.iinc 2 (-8), 3) := by decide +kernel
theorem dX6_put_46 : decode cX6_put 46 = .ok (.goto (-43), 3) := by decide +kernel
theorem dX6_put_17 : decode cX6_put 17 = .ok (.aload_n 0, 1) := by decide +kernel
theorem dX6_put_18 : decode cX6_put 18 = .ok (.getfield 11, 3) := by decide +kernel
theorem dX6_put_21 : decode cX6_put 21 = .ok (.aload_n 0, 1) := by decide +kernel
theorem dX6_put_22 : decode cX6_put 22 = .ok (.getfield 19, 3) := by decide +kernel
theorem dX6_put_25 : decode cX6_put 25 = .ok (.iload_n 1, 1) := by decide +kernel
theorem dX6_put_26 : decode cX6_put 26 = .ok (.iload_n 2, 1) := by decide +kernel
theorem dX6_put_27 : decode cX6_put 27 = .ok (.iushr, 1) := by decide +kernel
theorem dX6_put_28 : decode cX6_put 28 = .ok (.sipush 255, 3) := by decide +kernel
theorem dX6_put_31 : decode cX6_put 31 = .ok (.iand, 1) := by decide +kernel
theorem dX6_put_32 : decode cX6_put 32 = .ok (.iastore, 1) := by decide +kernel
theorem dX6_put_33 : decode cX6_put 33 = .ok (.aload_n 0, 1) := by decide +kernel
theorem dX6_put_34 : decode cX6_put 34 = .ok (.dup, 1) := by decide +kernel
theorem dX6_put_35 : decode cX6_put 35 = .ok (.getfield 19, 3) := by decide +kernel
theorem dX6_put_38 : decode cX6_put 38 = .ok (.iconst 1, 1) := by decide +kernel
theorem dX6_put_39 : decode cX6_put 39 = .ok (.iadd, 1) := by decide +kernel
theorem dX6_put_40 : decode cX6_put 40 = .ok (.putfield 19, 3) := by decide +kernel
theorem dX9_feed_23 : decode cX9_feed 23 = .ok (.invokevirtual 91, 3) := by decide +kernel
theorem dX9_feed_26 : decode cX9_feed 26 = .ok (.aload_n 0, 1) := by decide +kernel
theorem dX9_feed_27 : decode cX9_feed 27 = .ok (.getfield 21, 3) := by decide +kernel
theorem dX9_feed_30 : decode cX9_feed 30 = .ok (.iload_n 2, 1) := by decide +kernel
theorem dX9_feed_31 : decode cX9_feed 31 = .ok (.invokevirtual 91, 3) := by decide +kernel
theorem dX9_feed_34 : decode cX9_feed 34 = .ok (.aload_n 0, 1) := by decide +kernel
theorem dX9_feed_35 : decode cX9_feed 35 = .ok (.getfield 21, 3) := by decide +kernel
theorem dX9_feed_38 : decode cX9_feed 38 = .ok (.iload_n 3, 1) := by decide +kernel
theorem dX9_feed_39 : decode cX9_feed 39 = .ok (.invokevirtual 91, 3) := by decide +kernel
theorem dX9_feed_42 : decode cX9_feed 42 = .ok (.aload_n 0, 1) := by decide +kernel
theorem dX9_feed_43 : decode cX9_feed 43 = .ok (.getfield 21, 3) := by decide +kernel
theorem dX9_feed_46 : decode cX9_feed 46 = .ok (.iload 4, 2) := by decide +kernel
theorem dX9_feed_48 : decode cX9_feed 48 = .ok (.invokevirtual 91, 3) := by decide +kernel
theorem dX9_feed_51 : decode cX9_feed 51 = .ok (.aload_n 0, 1) := by decide +kernel
theorem dX9_feed_52 : decode cX9_feed 52 = .ok (.getfield 21, 3) := by decide +kernel
theorem dX9_feed_55 : decode cX9_feed 55 = .ok (.iload 5, 2) := by decide +kernel
theorem dX9_feed_57 : decode cX9_feed 57 = .ok (.invokevirtual 91, 3) := by decide +kernel
theorem dX9_feed_60 : decode cX9_feed 60 = .ok (.aload_n 0, 1) := by decide +kernel
theorem dX9_feed_61 : decode cX9_feed 61 = .ok (.getfield 21, 3) := by decide +kernel
theorem dX9_feed_64 : decode cX9_feed 64 = .ok (.getfield 87, 3) := by decide +kernel
theorem dX9_feed_67 : decode cX9_feed 67 = .ok (.ireturn, 1) := by decide +kernel
theorem dX9_feed_16 : decode cX9_feed 16 = .ok (.iconst (-1), 1) := by decide +kernel
theorem dX9_feed_17 : decode cX9_feed 17 = .ok (.ireturn, 1) := by decide +kernel
theorem dX9_valley_0 : decode cX9_valley 0 = .ok (.aload_n 0, 1) := by decide +kernel
theorem dX9_valley_1 : decode cX9_valley 1 = .ok (.iload_n 1, 1) := by decide +kernel
theorem dX9_valley_2 : decode cX9_valley 2 = .ok (.sipush 600, 3) := by decide +kernel
theorem dX9_openText_0 : decode cX9_openText 0 = .ok (.aload_n 0, 1) := by decide +kernel
theorem dX9_openText_1 : decode cX9_openText 1 = .ok (.iload_n 1, 1) := by decide +kernel
theorem dX9_openText_2 : decode cX9_openText 2 = .ok (.iconst 0, 1) := by decide +kernel
theorem dX9_openText_3 : decode cX9_openText 3 = .ok (.iload_n 2, 1) := by decide +kernel
theorem dX9_openText_4 : decode cX9_openText 4 = .ok (.aload_n 0, 1) := by decide +kernel
theorem dX9_openText_5 : decode cX9_openText 5 = .ok (.getfield 21, 3) := by decide +kernel
theorem dX9_openText_8 : decode cX9_openText 8 = .ok (.getfield 87, 3) := by decide +kernel
theorem dX9_openText_11 : decode cX9_openText 11 = .ok (.invokestatic 311, 3) := by decide +kernel
theorem dX9_isWithin_0 : decode cX9_isWithin 0 = .ok (.iload_n 0, 1) := by decide +kernel
theorem dX9_isWithin_1 : decode cX9_isWithin 1 = .ok (.iload_n 1, 1) := by decide +kernel
theorem dX9_isWithin_2 : decode cX9_isWithin 2 = .ok (.if_icmp .lt 12, 3) := by decide +kernel
theorem dX9_isWithin_14 : decode cX9_isWithin 14 = .ok (.iconst 0, 1) := by decide +kernel
theorem dX9_isWithin_15 : decode cX9_isWithin 15 = .ok (.ireturn, 1) := by decide +kernel
theorem dX9_isWithin_5 : decode cX9_isWithin 5 = .ok (.iload_n 0, 1) := by decide +kernel
theorem dX9_isWithin_6 : decode cX9_isWithin 6 = .ok (.iload_n 2, 1) := by decide +kernel
theorem dX9_isWithin_7 : decode cX9_isWithin 7 = .ok (.if_icmp .gt 7, 3) := by decide +kernel
theorem dX9_isWithin_10 : decode cX9_isWithin 10 = .ok (.iconst 1, 1) := by decide +kernel
theorem dX9_isWithin_11 : decode cX9_isWithin 11 = .ok (.goto 4, 3) := by decide +kernel
theorem dX9_openText_14 : decode cX9_openText 14 = .ok (.invokestatic 282, 3) := by decide +kernel
theorem dX9_need_0 : decode cX9_need 0 = .ok (.iload_n 1, 1) := by decide +kernel
theorem dX9_need_1 : decode cX9_need 1 = .ok (.ifCond .ne 8, 3) := by decide +kernel
theorem dX9_need_9 : decode cX9_need 9 = .ok (.return_, 1) := by decide +kernel
theorem dX9_need_4 : decode cX9_need 4 = .ok (.aload_n 0, 1) := by decide +kernel
theorem dX9_refuseArgument_0 : decode cX9_refuseArgument 0 = .ok (.aload_n 0, 1) := by decide +kernel
theorem dX9_refuseArgument_1 : decode cX9_refuseArgument 1 = .ok (.dup, 1) := by decide +kernel
theorem dX9_refuseArgument_2 : decode cX9_refuseArgument 2 = .ok (.getfield 374, 3) := by decide +kernel
theorem dX9_refuseArgument_5 : decode cX9_refuseArgument 5 = .ok (.iconst 1, 1) := by decide +kernel
theorem dX9_refuseArgument_6 : decode cX9_refuseArgument 6 = .ok (.iadd, 1) := by decide +kernel
theorem dX9_refuseArgument_7 : decode cX9_refuseArgument 7 = .ok (.putfield 374, 3) := by decide +kernel
theorem dX9_refuseArgument_10 : decode cX9_refuseArgument 10 = .ok (.new 380, 3) := by decide +kernel
theorem dX9_refuseArgument_13 : decode cX9_refuseArgument 13 = .ok (.dup, 1) := by decide +kernel
theorem dX9_refuseArgument_14 : decode cX9_refuseArgument 14 = .ok (.ldc_w 382, 3) := by decide +kernel
theorem dX9_refuseArgument_17 : decode cX9_refuseArgument 17 = .ok (.invokespecial 384, 3) := by decide +kernel
theorem dX9_refuseArgument_20 : decode cX9_refuseArgument 20 = .ok (.athrow, 1) := by decide +kernel
theorem dX9_need_5 : decode cX9_need 5 = .ok (.invokevirtual 200, 3) := by decide +kernel
theorem dX9_need_8 : decode cX9_need 8 = .ok (.pop, 1) := by decide +kernel
theorem dX9_openText_17 : decode cX9_openText 17 = .ok (.invokevirtual 286, 3) := by decide +kernel
theorem dX9_openText_20 : decode cX9_openText 20 = .ok (.aload_n 0, 1) := by decide +kernel
theorem dX9_openText_21 : decode cX9_openText 21 = .ok (.getfield 21, 3) := by decide +kernel
theorem dX9_openText_24 : decode cX9_openText 24 = .ok (.iload_n 1, 1) := by decide +kernel
theorem dX6_open_0 : decode cX6_open 0 = .ok (.aload_n 0, 1) := by decide +kernel
theorem dX6_open_1 : decode cX6_open 1 = .ok (.iload_n 1, 1) := by decide +kernel
theorem dX6_open_2 : decode cX6_open 2 = .ok (.putfield 22, 3) := by decide +kernel
theorem dX6_open_5 : decode cX6_open 5 = .ok (.aload_n 0, 1) := by decide +kernel
theorem dX6_open_6 : decode cX6_open 6 = .ok (.iconst 0, 1) := by decide +kernel
theorem dX6_open_7 : decode cX6_open 7 = .ok (.putfield 25, 3) := by decide +kernel
theorem dX6_open_10 : decode cX6_open 10 = .ok (.aload_n 0, 1) := by decide +kernel
theorem dX6_open_11 : decode cX6_open 11 = .ok (.iconst 0, 1) := by decide +kernel
theorem dX6_open_12 : decode cX6_open 12 = .ok (.putfield 19, 3) := by decide +kernel
theorem dX6_open_15 : decode cX6_open 15 = .ok (.aload_n 0, 1) := by decide +kernel
theorem dX6_open_16 : decode cX6_open 16 = .ok (.iconst 0, 1) := by decide +kernel
theorem dX6_open_17 : decode cX6_open 17 = .ok (.putfield 28, 3) := by decide +kernel
theorem dX6_open_20 : decode cX6_open 20 = .ok (.aload_n 0, 1) := by decide +kernel
theorem dX6_open_21 : decode cX6_open 21 = .ok (.iconst (-1), 1) := by decide +kernel
theorem dX6_open_22 : decode cX6_open 22 = .ok (.putfield 15, 3) := by decide +kernel
theorem dX6_open_25 : decode cX6_open 25 = .ok (.return_, 1) := by decide +kernel
theorem dX9_openText_25 : decode cX9_openText 25 = .ok (.invokevirtual 377, 3) := by decide +kernel
theorem dX9_openText_28 : decode cX9_openText 28 = .ok (.return_, 1) := by decide +kernel
theorem dX9_valley_5 : decode cX9_valley 5 = .ok (.invokevirtual 95, 3) := by decide +kernel
theorem dX9_valley_8 : decode cX9_valley 8 = .ok (.aload_n 0, 1) := by decide +kernel
theorem dX9_valley_9 : decode cX9_valley 9 = .ok (.getfield 31, 3) := by decide +kernel
theorem dX9_valley_12 : decode cX9_valley 12 = .ok (.aload_n 0, 1) := by decide +kernel
theorem dX9_valley_13 : decode cX9_valley 13 = .ok (.getfield 21, 3) := by decide +kernel
theorem dX7_readFrom_0 : decode cX7_readFrom 0 = .ok (.aload_n 0, 1) := by decide +kernel
theorem dX7_readFrom_1 : decode cX7_readFrom 1 = .ok (.iconst 0, 1) := by decide +kernel
theorem dX7_readFrom_2 : decode cX7_readFrom 2 = .ok (.putfield 38, 3) := by decide +kernel
theorem dX7_readFrom_5 : decode cX7_readFrom 5 = .ok (.aload_n 0, 1) := by decide +kernel
theorem dX7_readFrom_6 : decode cX7_readFrom 6 = .ok (.iconst 0, 1) := by decide +kernel
theorem dX7_readFrom_7 : decode cX7_readFrom 7 = .ok (.putfield 41, 3) := by decide +kernel
theorem dX7_readFrom_10 : decode cX7_readFrom 10 = .ok (.aload_n 0, 1) := by decide +kernel
theorem dX7_readFrom_11 : decode cX7_readFrom 11 = .ok (.iconst 0, 1) := by decide +kernel
theorem dX7_readFrom_12 : decode cX7_readFrom 12 = .ok (.putfield 44, 3) := by decide +kernel
theorem dX7_readFrom_15 : decode cX7_readFrom 15 = .ok (.aload_n 0, 1) := by decide +kernel
theorem dX7_readFrom_16 : decode cX7_readFrom 16 = .ok (.iconst 3, 1) := by decide +kernel
theorem dX7_readFrom_17 : decode cX7_readFrom 17 = .ok (.putfield 9, 3) := by decide +kernel
theorem dX7_readFrom_20 : decode cX7_readFrom 20 = .ok (.iconst 0, 1) := by decide +kernel
theorem dX7_readFrom_21 : decode cX7_readFrom 21 = .ok (.istore_n 2, 1) := by decide +kernel
theorem dX7_readFrom_22 : decode cX7_readFrom 22 = .ok (.iload_n 2, 1) := by decide +kernel
theorem dX7_readFrom_23 : decode cX7_readFrom 23 = .ok (.bipush 60, 2) := by decide +kernel
theorem dX7_readFrom_25 : decode cX7_readFrom 25 = .ok (.if_icmp .gt 48, 3) := by decide +kernel
theorem dX7_readFrom_73 : decode cX7_readFrom 73 = .ok (.iconst 0, 1) := by decide +kernel
theorem dX7_readFrom_74 : decode cX7_readFrom 74 = .ok (.ireturn, 1) := by decide +kernel
theorem dX7_readFrom_28 : decode cX7_readFrom 28 = .ok (.aload_n 1, 1) := by decide +kernel
theorem dX6_ended_0 : decode cX6_ended 0 = .ok (.aload_n 0, 1) := by decide +kernel
theorem dX6_skipBlanks_0 : decode cX6_skipBlanks 0 = .ok (.aload_n 0, 1) := by decide +kernel
theorem dX6_skipBlanks_1 : decode cX6_skipBlanks 1 = .ok (.getfield 25, 3) := by decide +kernel
theorem dX6_skipBlanks_4 : decode cX6_skipBlanks 4 = .ok (.aload_n 0, 1) := by decide +kernel
theorem dX6_skipBlanks_5 : decode cX6_skipBlanks 5 = .ok (.getfield 22, 3) := by decide +kernel
theorem dX6_skipBlanks_8 : decode cX6_skipBlanks 8 = .ok (.if_icmp .ge 30, 3) := by decide +kernel
theorem dX6_skipBlanks_38 : decode cX6_skipBlanks 38 = .ok (.return_, 1) := by decide +kernel
theorem dX6_skipBlanks_11 : decode cX6_skipBlanks 11 = .ok (.aload_n 0, 1) := by decide +kernel
theorem dX6_skipBlanks_12 : decode cX6_skipBlanks 12 = .ok (.getfield 11, 3) := by decide +kernel
theorem dX6_skipBlanks_15 : decode cX6_skipBlanks 15 = .ok (.aload_n 0, 1) := by decide +kernel
theorem dX6_skipBlanks_16 : decode cX6_skipBlanks 16 = .ok (.getfield 25, 3) := by decide +kernel
theorem dX6_skipBlanks_19 : decode cX6_skipBlanks 19 = .ok (.iaload, 1) := by decide +kernel
theorem dX6_skipBlanks_20 : decode cX6_skipBlanks 20 = .ok (.bipush 32, 2) := by decide +kernel
theorem dX6_skipBlanks_22 : decode cX6_skipBlanks 22 = .ok (.if_icmp .ne 16, 3) := by decide +kernel
theorem dX6_skipBlanks_25 : decode cX6_skipBlanks 25 = .ok (.aload_n 0, 1) := by decide +kernel
theorem dX6_skipBlanks_26 : decode cX6_skipBlanks 26 = .ok (.dup, 1) := by decide +kernel
theorem dX6_skipBlanks_27 : decode cX6_skipBlanks 27 = .ok (.getfield 25, 3) := by decide +kernel
theorem dX6_skipBlanks_30 : decode cX6_skipBlanks 30 = .ok (.iconst 1, 1) := by decide +kernel
theorem dX6_skipBlanks_31 : decode cX6_skipBlanks 31 = .ok (.iadd, 1) := by decide +kernel
theorem dX6_skipBlanks_32 : decode cX6_skipBlanks 32 = .ok (.putfield 25, 3) := by decide +kernel
theorem dX6_skipBlanks_35 : decode cX6_skipBlanks 35 = .ok (.goto (-35), 3) := by decide +kernel
theorem dX6_ended_1 : decode cX6_ended 1 = .ok (.invokevirtual 31, 3) := by decide +kernel
theorem dX6_ended_4 : decode cX6_ended 4 = .ok (.aload_n 0, 1) := by decide +kernel
theorem dX6_ended_5 : decode cX6_ended 5 = .ok (.getfield 25, 3) := by decide +kernel
theorem dX6_ended_8 : decode cX6_ended 8 = .ok (.aload_n 0, 1) := by decide +kernel
theorem dX6_ended_9 : decode cX6_ended 9 = .ok (.getfield 22, 3) := by decide +kernel
theorem dX6_ended_12 : decode cX6_ended 12 = .ok (.if_icmp .lt 7, 3) := by decide +kernel
theorem dX6_ended_19 : decode cX6_ended 19 = .ok (.iconst 0, 1) := by decide +kernel
theorem dX6_ended_20 : decode cX6_ended 20 = .ok (.ireturn, 1) := by decide +kernel
theorem dX6_ended_15 : decode cX6_ended 15 = .ok (.iconst 1, 1) := by decide +kernel
theorem dX6_ended_16 : decode cX6_ended 16 = .ok (.goto 4, 3) := by decide +kernel
theorem dX7_readFrom_29 : decode cX7_readFrom 29 = .ok (.invokevirtual 53, 3) := by decide +kernel
theorem dX7_readFrom_32 : decode cX7_readFrom 32 = .ok (.ifCond .eq 5, 3) := by decide +kernel
theorem dX7_readFrom_37 : decode cX7_readFrom 37 = .ok (.aload_n 0, 1) := by decide +kernel
theorem dX7_readFrom_38 : decode cX7_readFrom 38 = .ok (.aload_n 1, 1) := by decide +kernel
theorem dX7_readFrom_39 : decode cX7_readFrom 39 = .ok (.iload_n 2, 1) := by decide +kernel
theorem dX7_readFrom_40 : decode cX7_readFrom 40 = .ok (.bipush 60, 2) := by decide +kernel
theorem dX7_readFrom_42 : decode cX7_readFrom 42 = .ok (.if_icmp .ne 7, 3) := by decide +kernel
theorem dX7_readFrom_49 : decode cX7_readFrom 49 = .ok (.iconst 0, 1) := by decide +kernel
theorem dX7_readFrom_45 : decode cX7_readFrom 45 = .ok (.iconst 1, 1) := by decide +kernel
theorem dX7_readFrom_46 : decode cX7_readFrom 46 = .ok (.goto 4, 3) := by decide +kernel
theorem dX7_readFrom_35 : decode cX7_readFrom 35 = .ok (.iconst 1, 1) := by decide +kernel
theorem dX7_readFrom_36 : decode cX7_readFrom 36 = .ok (.ireturn, 1) := by decide +kernel
theorem dX7_readClause_0 : decode cX7_readClause 0 = .ok (.aload_n 1, 1) := by decide +kernel
theorem dX6_takeWord_0 : decode cX6_takeWord 0 = .ok (.aload_n 0, 1) := by decide +kernel
theorem dX6_takeWord_1 : decode cX6_takeWord 1 = .ok (.invokevirtual 31, 3) := by decide +kernel
theorem dX6_takeWord_4 : decode cX6_takeWord 4 = .ok (.aload_n 0, 1) := by decide +kernel
theorem dX6_takeWord_5 : decode cX6_takeWord 5 = .ok (.aload_n 0, 1) := by decide +kernel
theorem dX6_takeWord_6 : decode cX6_takeWord 6 = .ok (.getfield 25, 3) := by decide +kernel
theorem dX6_takeWord_9 : decode cX6_takeWord 9 = .ok (.putfield 41, 3) := by decide +kernel
theorem dX6_takeWord_12 : decode cX6_takeWord 12 = .ok (.aload_n 0, 1) := by decide +kernel
theorem dX6_takeWord_13 : decode cX6_takeWord 13 = .ok (.getfield 25, 3) := by decide +kernel
theorem dX6_takeWord_16 : decode cX6_takeWord 16 = .ok (.aload_n 0, 1) := by decide +kernel
theorem dX6_takeWord_17 : decode cX6_takeWord 17 = .ok (.getfield 22, 3) := by decide +kernel
theorem dX6_takeWord_20 : decode cX6_takeWord 20 = .ok (.if_icmp .ge 44, 3) := by decide +kernel
theorem dX6_takeWord_64 : decode cX6_takeWord 64 = .ok (.return_, 1) := by decide +kernel
theorem dX6_takeWord_23 : decode cX6_takeWord 23 = .ok (.aload_n 0, 1) := by decide +kernel
theorem dX6_takeWord_24 : decode cX6_takeWord 24 = .ok (.getfield 11, 3) := by decide +kernel
theorem dX6_takeWord_27 : decode cX6_takeWord 27 = .ok (.aload_n 0, 1) := by decide +kernel
theorem dX6_takeWord_28 : decode cX6_takeWord 28 = .ok (.getfield 25, 3) := by decide +kernel
theorem dX6_takeWord_31 : decode cX6_takeWord 31 = .ok (.iaload, 1) := by decide +kernel
theorem dX6_takeWord_32 : decode cX6_takeWord 32 = .ok (.bipush 97, 2) := by decide +kernel
theorem dX6_takeWord_34 : decode cX6_takeWord 34 = .ok (.if_icmp .lt 30, 3) := by decide +kernel
theorem dX6_takeWord_37 : decode cX6_takeWord 37 = .ok (.aload_n 0, 1) := by decide +kernel
theorem dX6_takeWord_38 : decode cX6_takeWord 38 = .ok (.getfield 11, 3) := by decide +kernel
theorem dX6_takeWord_41 : decode cX6_takeWord 41 = .ok (.aload_n 0, 1) := by decide +kernel
theorem dX6_takeWord_42 : decode cX6_takeWord 42 = .ok (.getfield 25, 3) := by decide +kernel
theorem dX6_takeWord_45 : decode cX6_takeWord 45 = .ok (.iaload, 1) := by decide +kernel
theorem dX6_takeWord_46 : decode cX6_takeWord 46 = .ok (.bipush 122, 2) := by decide +kernel
theorem dX6_takeWord_48 : decode cX6_takeWord 48 = .ok (.if_icmp .gt 16, 3) := by decide +kernel
theorem dX6_takeWord_51 : decode cX6_takeWord 51 = .ok (.aload_n 0, 1) := by decide +kernel
theorem dX6_takeWord_52 : decode cX6_takeWord 52 = .ok (.dup, 1) := by decide +kernel
theorem dX6_takeWord_53 : decode cX6_takeWord 53 = .ok (.getfield 25, 3) := by decide +kernel
theorem dX6_takeWord_56 : decode cX6_takeWord 56 = .ok (.iconst 1, 1) := by decide +kernel
theorem dX6_takeWord_57 : decode cX6_takeWord 57 = .ok (.iadd, 1) := by decide +kernel
theorem dX6_takeWord_58 : decode cX6_takeWord 58 = .ok (.putfield 25, 3) := by decide +kernel
theorem dX6_takeWord_61 : decode cX6_takeWord 61 = .ok (.goto (-49), 3) := by decide +kernel
theorem dX7_readClause_1 : decode cX7_readClause 1 = .ok (.invokevirtual 67, 3) := by decide +kernel
theorem dX7_readClause_4 : decode cX7_readClause 4 = .ok (.aload_n 1, 1) := by decide +kernel
theorem dX7_readClause_5 : decode cX7_readClause 5 = .ok (.ldc 70, 2) := by decide +kernel
theorem dX6_isWord_0 : decode cX6_isWord 0 = .ok (.aload_n 0, 1) := by decide +kernel
theorem dX6_isWord_1 : decode cX6_isWord 1 = .ok (.getfield 25, 3) := by decide +kernel
theorem dX6_isWord_4 : decode cX6_isWord 4 = .ok (.aload_n 0, 1) := by decide +kernel
theorem dX6_isWord_5 : decode cX6_isWord 5 = .ok (.getfield 41, 3) := by decide +kernel
theorem dX6_isWord_8 : decode cX6_isWord 8 = .ok (.isub, 1) := by decide +kernel
theorem dX6_isWord_9 : decode cX6_isWord 9 = .ok (.aload_n 1, 1) := by decide +kernel
theorem dX6_isWord_10 : decode cX6_isWord 10 = .ok (.invokevirtual 44, 3) := by decide +kernel
theorem dX6_isWord_13 : decode cX6_isWord 13 = .ok (.if_icmp .eq 5, 3) := by decide +kernel
theorem dX6_isWord_18 : decode cX6_isWord 18 = .ok (.iconst 0, 1) := by decide +kernel
theorem dX6_isWord_19 : decode cX6_isWord 19 = .ok (.istore_n 2, 1) := by decide +kernel
theorem dX6_isWord_16 : decode cX6_isWord 16 = .ok (.iconst 0, 1) := by decide +kernel
theorem dX6_isWord_17 : decode cX6_isWord 17 = .ok (.ireturn, 1) := by decide +kernel
theorem dX6_isWord_20 : decode cX6_isWord 20 = .ok (.iload_n 2, 1) := by decide +kernel
theorem dX6_isWord_21 : decode cX6_isWord 21 = .ok (.aload_n 1, 1) := by decide +kernel
theorem dX6_isWord_22 : decode cX6_isWord 22 = .ok (.invokevirtual 44, 3) := by decide +kernel
theorem dX6_isWord_25 : decode cX6_isWord 25 = .ok (.if_icmp .ge 30, 3) := by decide +kernel
theorem dX6_isWord_55 : decode cX6_isWord 55 = .ok (.iconst 1, 1) := by decide +kernel
theorem dX6_isWord_56 : decode cX6_isWord 56 = .ok (.ireturn, 1) := by decide +kernel
theorem dX6_isWord_28 : decode cX6_isWord 28 = .ok (.aload_n 0, 1) := by decide +kernel
theorem dX6_isWord_29 : decode cX6_isWord 29 = .ok (.getfield 11, 3) := by decide +kernel
theorem dX6_isWord_32 : decode cX6_isWord 32 = .ok (.aload_n 0, 1) := by decide +kernel
theorem dX6_isWord_33 : decode cX6_isWord 33 = .ok (.getfield 41, 3) := by decide +kernel
theorem dX6_isWord_36 : decode cX6_isWord 36 = .ok (.iload_n 2, 1) := by decide +kernel
theorem dX6_isWord_37 : decode cX6_isWord 37 = .ok (.iadd, 1) := by decide +kernel
theorem dX6_isWord_38 : decode cX6_isWord 38 = .ok (.iaload, 1) := by decide +kernel
theorem dX6_isWord_39 : decode cX6_isWord 39 = .ok (.aload_n 1, 1) := by decide +kernel
theorem dX6_isWord_40 : decode cX6_isWord 40 = .ok (.iload_n 2, 1) := by decide +kernel
theorem dX6_isWord_41 : decode cX6_isWord 41 = .ok (.invokevirtual 49, 3) := by decide +kernel
theorem dX6_isWord_44 : decode cX6_isWord 44 = .ok (.if_icmp .eq 5, 3) := by decide +kernel
theorem dX6_isWord_49 : decode cX6_isWord 49 = .ok (.iinc 2 1, 3) := by decide +kernel
theorem dX6_isWord_52 : decode cX6_isWord 52 = .ok (.goto (-32), 3) := by decide +kernel
theorem dX6_isWord_47 : decode cX6_isWord 47 = .ok (.iconst 0, 1) := by decide +kernel
theorem dX6_isWord_48 : decode cX6_isWord 48 = .ok (.ireturn, 1) := by decide +kernel
theorem dX7_readClause_7 : decode cX7_readClause 7 = .ok (.invokevirtual 72, 3) := by decide +kernel
theorem dX7_readClause_10 : decode cX7_readClause 10 = .ok (.ifCond .eq 30, 3) := by decide +kernel
theorem dX7_readClause_40 : decode cX7_readClause 40 = .ok (.aload_n 1, 1) := by decide +kernel
theorem dX7_readClause_41 : decode cX7_readClause 41 = .ok (.ldc 84, 2) := by decide +kernel
theorem dX7_readClause_43 : decode cX7_readClause 43 = .ok (.invokevirtual 72, 3) := by decide +kernel
theorem dX7_readClause_46 : decode cX7_readClause 46 = .ok (.ifCond .eq 30, 3) := by decide +kernel
theorem dX7_readClause_76 : decode cX7_readClause 76 = .ok (.aload_n 1, 1) := by decide +kernel
theorem dX7_readClause_77 : decode cX7_readClause 77 = .ok (.ldc 89, 2) := by decide +kernel
theorem dX7_readClause_79 : decode cX7_readClause 79 = .ok (.invokevirtual 72, 3) := by decide +kernel
theorem dX7_readClause_82 : decode cX7_readClause 82 = .ok (.ifCond .eq 30, 3) := by decide +kernel
theorem dX7_readClause_112 : decode cX7_readClause 112 = .ok (.aload_n 1, 1) := by decide +kernel
theorem dX7_readClause_113 : decode cX7_readClause 113 = .ok (.ldc 94, 2) := by decide +kernel
theorem dX7_readClause_115 : decode cX7_readClause 115 = .ok (.invokevirtual 72, 3) := by decide +kernel
theorem dX7_readClause_118 : decode cX7_readClause 118 = .ok (.ifCond .eq 21, 3) := by decide +kernel
theorem dX7_readClause_139 : decode cX7_readClause 139 = .ok (.aload_n 1, 1) := by decide +kernel
theorem dX7_readClause_140 : decode cX7_readClause 140 = .ok (.iconst 1, 1) := by decide +kernel
theorem dX6_refuseWord_0 : decode cX6_refuseWord 0 = .ok (.aload_n 0, 1) := by decide +kernel
theorem dX6_refuseWord_1 : decode cX6_refuseWord 1 = .ok (.aload_n 0, 1) := by decide +kernel
theorem dX6_refuseWord_2 : decode cX6_refuseWord 2 = .ok (.getfield 41, 3) := by decide +kernel
theorem dX6_refuseWord_5 : decode cX6_refuseWord 5 = .ok (.iload_n 1, 1) := by decide +kernel
theorem dX6_refuse_0 : decode cX6_refuse 0 = .ok (.aload_n 0, 1) := by decide +kernel
theorem dX6_refuse_1 : decode cX6_refuse 1 = .ok (.iload_n 1, 1) := by decide +kernel
theorem dX6_refuse_2 : decode cX6_refuse 2 = .ok (.putfield 15, 3) := by decide +kernel
theorem dX6_refuse_5 : decode cX6_refuse 5 = .ok (.aload_n 0, 1) := by decide +kernel
theorem dX6_refuse_6 : decode cX6_refuse 6 = .ok (.iload_n 2, 1) := by decide +kernel
theorem dX6_refuse_7 : decode cX6_refuse 7 = .ok (.putfield 28, 3) := by decide +kernel
theorem dX6_refuse_10 : decode cX6_refuse 10 = .ok (.iconst 0, 1) := by decide +kernel
theorem dX6_refuse_11 : decode cX6_refuse 11 = .ok (.ireturn, 1) := by decide +kernel
theorem dX6_refuseWord_6 : decode cX6_refuseWord 6 = .ok (.invokevirtual 34, 3) := by decide +kernel
theorem dX6_refuseWord_9 : decode cX6_refuseWord 9 = .ok (.ireturn, 1) := by decide +kernel
theorem dX7_readClause_141 : decode cX7_readClause 141 = .ok (.invokevirtual 76, 3) := by decide +kernel
theorem dX7_readClause_144 : decode cX7_readClause 144 = .ok (.ireturn, 1) := by decide +kernel
theorem dX7_readClause_121 : decode cX7_readClause 121 = .ok (.iload_n 2, 1) := by decide +kernel
theorem dX7_readClause_122 : decode cX7_readClause 122 = .ok (.ifCond .eq 11, 3) := by decide +kernel
theorem dX7_readClause_133 : decode cX7_readClause 133 = .ok (.aload_n 0, 1) := by decide +kernel
theorem dX7_readClause_134 : decode cX7_readClause 134 = .ok (.aload_n 1, 1) := by decide +kernel
theorem dX7_readFade_0 : decode cX7_readFade 0 = .ok (.aload_n 1, 1) := by decide +kernel
theorem dX7_readFade_1 : decode cX7_readFade 1 = .ok (.iconst 0, 1) := by decide +kernel
theorem dX7_readFade_2 : decode cX7_readFade 2 = .ok (.bipush 9, 2) := by decide +kernel
theorem dX6_needsNumber_0 : decode cX6_needsNumber 0 = .ok (.aload_n 0, 1) := by decide +kernel
theorem dX6_needsNumber_1 : decode cX6_needsNumber 1 = .ok (.invokevirtual 31, 3) := by decide +kernel
theorem dX6_needsNumber_4 : decode cX6_needsNumber 4 = .ok (.aload_n 0, 1) := by decide +kernel
theorem dX6_needsNumber_5 : decode cX6_needsNumber 5 = .ok (.getfield 25, 3) := by decide +kernel
theorem dX6_needsNumber_8 : decode cX6_needsNumber 8 = .ok (.istore_n 3, 1) := by decide +kernel
theorem dX6_needsNumber_9 : decode cX6_needsNumber 9 = .ok (.iconst 0, 1) := by decide +kernel
theorem dX6_needsNumber_10 : decode cX6_needsNumber 10 = .ok (.istore 4, 2) := by decide +kernel
theorem dX6_needsNumber_12 : decode cX6_needsNumber 12 = .ok (.aload_n 0, 1) := by decide +kernel
theorem dX6_needsNumber_13 : decode cX6_needsNumber 13 = .ok (.getfield 25, 3) := by decide +kernel
theorem dX6_needsNumber_16 : decode cX6_needsNumber 16 = .ok (.aload_n 0, 1) := by decide +kernel
theorem dX6_needsNumber_17 : decode cX6_needsNumber 17 = .ok (.getfield 22, 3) := by decide +kernel
theorem dX6_needsNumber_20 : decode cX6_needsNumber 20 = .ok (.if_icmp .ge 72, 3) := by decide +kernel
theorem dX6_needsNumber_23 : decode cX6_needsNumber 23 = .ok (.aload_n 0, 1) := by decide +kernel
theorem dX6_needsNumber_24 : decode cX6_needsNumber 24 = .ok (.getfield 11, 3) := by decide +kernel
theorem dX6_needsNumber_27 : decode cX6_needsNumber 27 = .ok (.aload_n 0, 1) := by decide +kernel
theorem dX6_needsNumber_28 : decode cX6_needsNumber 28 = .ok (.getfield 25, 3) := by decide +kernel
theorem dX6_needsNumber_31 : decode cX6_needsNumber 31 = .ok (.iaload, 1) := by decide +kernel
theorem dX6_needsNumber_32 : decode cX6_needsNumber 32 = .ok (.bipush 48, 2) := by decide +kernel
theorem dX6_needsNumber_34 : decode cX6_needsNumber 34 = .ok (.if_icmp .lt 58, 3) := by decide +kernel
theorem dX6_needsNumber_37 : decode cX6_needsNumber 37 = .ok (.aload_n 0, 1) := by decide +kernel
theorem dX6_needsNumber_38 : decode cX6_needsNumber 38 = .ok (.getfield 11, 3) := by decide +kernel
theorem dX6_needsNumber_41 : decode cX6_needsNumber 41 = .ok (.aload_n 0, 1) := by decide +kernel
theorem dX6_needsNumber_42 : decode cX6_needsNumber 42 = .ok (.getfield 25, 3) := by decide +kernel
theorem dX6_needsNumber_45 : decode cX6_needsNumber 45 = .ok (.iaload, 1) := by decide +kernel
theorem dX6_needsNumber_46 : decode cX6_needsNumber 46 = .ok (.bipush 57, 2) := by decide +kernel
theorem dX6_needsNumber_48 : decode cX6_needsNumber 48 = .ok (.if_icmp .gt 44, 3) := by decide +kernel
theorem dX6_needsNumber_51 : decode cX6_needsNumber 51 = .ok (.iload 4, 2) := by decide +kernel
theorem dX6_needsNumber_53 : decode cX6_needsNumber 53 = .ok (.sipush 999, 3) := by decide +kernel
theorem dX6_needsNumber_56 : decode cX6_needsNumber 56 = .ok (.if_icmp .gt 23, 3) := by decide +kernel
theorem dX6_needsNumber_59 : decode cX6_needsNumber 59 = .ok (.iload 4, 2) := by decide +kernel
theorem dX6_needsNumber_61 : decode cX6_needsNumber 61 = .ok (.bipush 10, 2) := by decide +kernel
theorem dX6_needsNumber_63 : decode cX6_needsNumber 63 = .ok (.imul, 1) := by decide +kernel
theorem dX6_needsNumber_64 : decode cX6_needsNumber 64 = .ok (.aload_n 0, 1) := by decide +kernel
theorem dX6_needsNumber_65 : decode cX6_needsNumber 65 = .ok (.getfield 11, 3) := by decide +kernel
theorem dX6_needsNumber_68 : decode cX6_needsNumber 68 = .ok (.aload_n 0, 1) := by decide +kernel
theorem dX6_needsNumber_69 : decode cX6_needsNumber 69 = .ok (.getfield 25, 3) := by decide +kernel
theorem dX6_needsNumber_72 : decode cX6_needsNumber 72 = .ok (.iaload, 1) := by decide +kernel
theorem dX6_needsNumber_73 : decode cX6_needsNumber 73 = .ok (.iadd, 1) := by decide +kernel
theorem dX6_needsNumber_74 : decode cX6_needsNumber 74 = .ok (.bipush 48, 2) := by decide +kernel
theorem dX6_needsNumber_76 : decode cX6_needsNumber 76 = .ok (.isub, 1) := by decide +kernel
theorem dX6_needsNumber_77 : decode cX6_needsNumber 77 = .ok (.istore 4, 2) := by decide +kernel
theorem dX6_needsNumber_92 : decode cX6_needsNumber 92 = .ok (.aload_n 0, 1) := by decide +kernel
theorem dX6_needsNumber_93 : decode cX6_needsNumber 93 = .ok (.getfield 25, 3) := by decide +kernel
theorem dX6_needsNumber_96 : decode cX6_needsNumber 96 = .ok (.iload_n 3, 1) := by decide +kernel
theorem dX6_needsNumber_97 : decode cX6_needsNumber 97 = .ok (.if_icmp .ne 10, 3) := by decide +kernel
theorem dX6_needsNumber_107 : decode cX6_needsNumber 107 = .ok (.aload_n 0, 1) := by decide +kernel
theorem dX6_needsNumber_108 : decode cX6_needsNumber 108 = .ok (.iload 4, 2) := by decide +kernel
theorem dX6_needsNumber_110 : decode cX6_needsNumber 110 = .ok (.putfield 38, 3) := by decide +kernel
theorem dX6_needsNumber_113 : decode cX6_needsNumber 113 = .ok (.iload 4, 2) := by decide +kernel
theorem dX6_needsNumber_115 : decode cX6_needsNumber 115 = .ok (.iload_n 1, 1) := by decide +kernel
theorem dX6_needsNumber_116 : decode cX6_needsNumber 116 = .ok (.if_icmp .lt 9, 3) := by decide +kernel
theorem dX6_needsNumber_119 : decode cX6_needsNumber 119 = .ok (.iload 4, 2) := by decide +kernel
theorem dX6_needsNumber_121 : decode cX6_needsNumber 121 = .ok (.iload_n 2, 1) := by decide +kernel
theorem dX6_needsNumber_122 : decode cX6_needsNumber 122 = .ok (.if_icmp .le 12, 3) := by decide +kernel
theorem dX6_needsNumber_134 : decode cX6_needsNumber 134 = .ok (.iconst 1, 1) := by decide +kernel
theorem dX6_needsNumber_135 : decode cX6_needsNumber 135 = .ok (.goto 4, 3) := by decide +kernel
theorem dX6_needsNumber_139 : decode cX6_needsNumber 139 = .ok (.ireturn, 1) := by decide +kernel
theorem dX6_needsNumber_100 : decode cX6_needsNumber 100 = .ok (.aload_n 0, 1) := by decide +kernel
theorem dX6_needsNumber_101 : decode cX6_needsNumber 101 = .ok (.iload_n 3, 1) := by decide +kernel
theorem dX6_needsNumber_102 : decode cX6_needsNumber 102 = .ok (.iconst 1, 1) := by decide +kernel
theorem dX6_needsNumber_103 : decode cX6_needsNumber 103 = .ok (.invokevirtual 34, 3) := by decide +kernel
theorem dX6_needsNumber_106 : decode cX6_needsNumber 106 = .ok (.ireturn, 1) := by decide +kernel
theorem dX6_needsNumber_79 : decode cX6_needsNumber 79 = .ok (.aload_n 0, 1) := by decide +kernel
theorem dX6_needsNumber_80 : decode cX6_needsNumber 80 = .ok (.dup, 1) := by decide +kernel
theorem dX6_needsNumber_81 : decode cX6_needsNumber 81 = .ok (.getfield 25, 3) := by decide +kernel
theorem dX6_needsNumber_84 : decode cX6_needsNumber 84 = .ok (.iconst 1, 1) := by decide +kernel
theorem dX6_needsNumber_85 : decode cX6_needsNumber 85 = .ok (.iadd, 1) := by decide +kernel
theorem dX6_needsNumber_86 : decode cX6_needsNumber 86 = .ok (.putfield 25, 3) := by decide +kernel
theorem dX6_needsNumber_89 : decode cX6_needsNumber 89 = .ok (.goto (-77), 3) := by decide +kernel
theorem dX6_needsNumber_125 : decode cX6_needsNumber 125 = .ok (.aload_n 0, 1) := by decide +kernel
theorem dX6_needsNumber_126 : decode cX6_needsNumber 126 = .ok (.iload_n 3, 1) := by decide +kernel
theorem dX6_needsNumber_127 : decode cX6_needsNumber 127 = .ok (.iconst 2, 1) := by decide +kernel
theorem dX6_needsNumber_128 : decode cX6_needsNumber 128 = .ok (.invokevirtual 34, 3) := by decide +kernel
theorem dX6_needsNumber_131 : decode cX6_needsNumber 131 = .ok (.ifCond .eq 7, 3) := by decide +kernel
theorem dX6_needsNumber_138 : decode cX6_needsNumber 138 = .ok (.iconst 0, 1) := by decide +kernel
theorem dX7_readFade_4 : decode cX7_readFade 4 = .ok (.invokevirtual 98, 3) := by decide +kernel
theorem dX7_readFade_7 : decode cX7_readFade 7 = .ok (.ifCond .ne 5, 3) := by decide +kernel
theorem dX7_readFade_12 : decode cX7_readFade 12 = .ok (.aload_n 0, 1) := by decide +kernel
theorem dX7_readFade_13 : decode cX7_readFade 13 = .ok (.aload_n 1, 1) := by decide +kernel
theorem dX7_readFade_14 : decode cX7_readFade 14 = .ok (.getfield 102, 3) := by decide +kernel
theorem dX7_readFade_17 : decode cX7_readFade 17 = .ok (.putfield 9, 3) := by decide +kernel
theorem dX7_readFade_20 : decode cX7_readFade 20 = .ok (.iconst 1, 1) := by decide +kernel
theorem dX7_readFade_21 : decode cX7_readFade 21 = .ok (.ireturn, 1) := by decide +kernel
theorem dX7_readFade_10 : decode cX7_readFade 10 = .ok (.iconst 0, 1) := by decide +kernel
theorem dX7_readFade_11 : decode cX7_readFade 11 = .ok (.ireturn, 1) := by decide +kernel
theorem dX7_readClause_135 : decode cX7_readClause 135 = .ok (.invokevirtual 95, 3) := by decide +kernel
theorem dX7_readClause_138 : decode cX7_readClause 138 = .ok (.ireturn, 1) := by decide +kernel
theorem dX7_readClause_125 : decode cX7_readClause 125 = .ok (.aload_n 1, 1) := by decide +kernel
theorem dX7_readClause_126 : decode cX7_readClause 126 = .ok (.iconst 3, 1) := by decide +kernel
theorem dX7_readClause_127 : decode cX7_readClause 127 = .ok (.invokevirtual 76, 3) := by decide +kernel
theorem dX7_readClause_130 : decode cX7_readClause 130 = .ok (.goto 8, 3) := by decide +kernel
theorem dX7_readClause_85 : decode cX7_readClause 85 = .ok (.iload_n 2, 1) := by decide +kernel
theorem dX7_readClause_86 : decode cX7_readClause 86 = .ok (.ifCond .ne 12, 3) := by decide +kernel
theorem dX7_readClause_89 : decode cX7_readClause 89 = .ok (.aload_n 0, 1) := by decide +kernel
theorem dX7_readClause_90 : decode cX7_readClause 90 = .ok (.getfield 44, 3) := by decide +kernel
theorem dX7_readClause_93 : decode cX7_readClause 93 = .ok (.bipush 10, 2) := by decide +kernel
theorem dX7_readClause_95 : decode cX7_readClause 95 = .ok (.if_icmp .lt 11, 3) := by decide +kernel
theorem dX7_readClause_106 : decode cX7_readClause 106 = .ok (.aload_n 0, 1) := by decide +kernel
theorem dX7_readClause_107 : decode cX7_readClause 107 = .ok (.aload_n 1, 1) := by decide +kernel
theorem dX7_readDebt_0 : decode cX7_readDebt 0 = .ok (.aload_n 1, 1) := by decide +kernel
theorem dX7_readDebt_1 : decode cX7_readDebt 1 = .ok (.iconst 0, 1) := by decide +kernel
theorem dX7_readDebt_2 : decode cX7_readDebt 2 = .ok (.aload_n 0, 1) := by decide +kernel
theorem dX7_readDebt_3 : decode cX7_readDebt 3 = .ok (.getfield 41, 3) := by decide +kernel
theorem dX7_readDebt_6 : decode cX7_readDebt 6 = .ok (.iconst 1, 1) := by decide +kernel
theorem dX7_readDebt_7 : decode cX7_readDebt 7 = .ok (.isub, 1) := by decide +kernel
theorem dX7_readDebt_8 : decode cX7_readDebt 8 = .ok (.invokevirtual 98, 3) := by decide +kernel
theorem dX7_readDebt_11 : decode cX7_readDebt 11 = .ok (.ifCond .ne 5, 3) := by decide +kernel
theorem dX7_readDebt_16 : decode cX7_readDebt 16 = .ok (.aload_n 0, 1) := by decide +kernel
theorem dX7_readDebt_17 : decode cX7_readDebt 17 = .ok (.getfield 26, 3) := by decide +kernel
theorem dX7_readDebt_20 : decode cX7_readDebt 20 = .ok (.aload_n 0, 1) := by decide +kernel
theorem dX7_readDebt_21 : decode cX7_readDebt 21 = .ok (.getfield 44, 3) := by decide +kernel
theorem dX7_readDebt_24 : decode cX7_readDebt 24 = .ok (.aload_n 1, 1) := by decide +kernel
theorem dX7_readDebt_25 : decode cX7_readDebt 25 = .ok (.getfield 102, 3) := by decide +kernel
theorem dX7_readDebt_28 : decode cX7_readDebt 28 = .ok (.iastore, 1) := by decide +kernel
theorem dX7_readDebt_29 : decode cX7_readDebt 29 = .ok (.aload_n 1, 1) := by decide +kernel
theorem dX7_readDebt_30 : decode cX7_readDebt 30 = .ok (.iconst 0, 1) := by decide +kernel
theorem dX7_readDebt_31 : decode cX7_readDebt 31 = .ok (.aload_n 0, 1) := by decide +kernel
theorem dX7_readDebt_32 : decode cX7_readDebt 32 = .ok (.getfield 38, 3) := by decide +kernel
theorem dX7_readDebt_35 : decode cX7_readDebt 35 = .ok (.iconst 1, 1) := by decide +kernel
theorem dX7_readDebt_36 : decode cX7_readDebt 36 = .ok (.isub, 1) := by decide +kernel
theorem dX7_readDebt_37 : decode cX7_readDebt 37 = .ok (.invokevirtual 98, 3) := by decide +kernel
theorem dX7_readDebt_40 : decode cX7_readDebt 40 = .ok (.ifCond .ne 5, 3) := by decide +kernel
theorem dX7_readDebt_45 : decode cX7_readDebt 45 = .ok (.aload_n 0, 1) := by decide +kernel
theorem dX7_readDebt_46 : decode cX7_readDebt 46 = .ok (.getfield 29, 3) := by decide +kernel
theorem dX7_readDebt_49 : decode cX7_readDebt 49 = .ok (.aload_n 0, 1) := by decide +kernel
theorem dX7_readDebt_50 : decode cX7_readDebt 50 = .ok (.getfield 44, 3) := by decide +kernel
theorem dX7_readDebt_53 : decode cX7_readDebt 53 = .ok (.aload_n 1, 1) := by decide +kernel
theorem dX7_readDebt_54 : decode cX7_readDebt 54 = .ok (.getfield 102, 3) := by decide +kernel
theorem dX7_readDebt_57 : decode cX7_readDebt 57 = .ok (.iastore, 1) := by decide +kernel
theorem dX7_readDebt_58 : decode cX7_readDebt 58 = .ok (.aload_n 1, 1) := by decide +kernel
theorem dX7_readDebt_59 : decode cX7_readDebt 59 = .ok (.iconst 0, 1) := by decide +kernel
theorem dX7_readDebt_60 : decode cX7_readDebt 60 = .ok (.iconst 3, 1) := by decide +kernel
theorem dX7_readDebt_61 : decode cX7_readDebt 61 = .ok (.invokevirtual 98, 3) := by decide +kernel
theorem dX7_readDebt_64 : decode cX7_readDebt 64 = .ok (.ifCond .ne 5, 3) := by decide +kernel
theorem dX7_readDebt_69 : decode cX7_readDebt 69 = .ok (.aload_n 0, 1) := by decide +kernel
theorem dX7_readDebt_70 : decode cX7_readDebt 70 = .ok (.getfield 32, 3) := by decide +kernel
theorem dX7_readDebt_73 : decode cX7_readDebt 73 = .ok (.aload_n 0, 1) := by decide +kernel
theorem dX7_readDebt_74 : decode cX7_readDebt 74 = .ok (.getfield 44, 3) := by decide +kernel
theorem dX7_readDebt_77 : decode cX7_readDebt 77 = .ok (.aload_n 1, 1) := by decide +kernel
theorem dX7_readDebt_78 : decode cX7_readDebt 78 = .ok (.getfield 102, 3) := by decide +kernel
theorem dX7_readDebt_81 : decode cX7_readDebt 81 = .ok (.iastore, 1) := by decide +kernel
theorem dX7_readDebt_82 : decode cX7_readDebt 82 = .ok (.aload_n 1, 1) := by decide +kernel
theorem dX7_readDebt_83 : decode cX7_readDebt 83 = .ok (.iconst 0, 1) := by decide +kernel
theorem dX7_readDebt_84 : decode cX7_readDebt 84 = .ok (.bipush 40, 2) := by decide +kernel
theorem dX7_readDebt_86 : decode cX7_readDebt 86 = .ok (.invokevirtual 98, 3) := by decide +kernel
theorem dX7_readDebt_89 : decode cX7_readDebt 89 = .ok (.ifCond .ne 5, 3) := by decide +kernel
theorem dX7_readDebt_94 : decode cX7_readDebt 94 = .ok (.aload_n 0, 1) := by decide +kernel
theorem dX7_readDebt_95 : decode cX7_readDebt 95 = .ok (.getfield 35, 3) := by decide +kernel
theorem dX7_readDebt_98 : decode cX7_readDebt 98 = .ok (.aload_n 0, 1) := by decide +kernel
theorem dX7_readDebt_99 : decode cX7_readDebt 99 = .ok (.getfield 44, 3) := by decide +kernel
theorem dX7_readDebt_102 : decode cX7_readDebt 102 = .ok (.aload_n 1, 1) := by decide +kernel
theorem dX7_readDebt_103 : decode cX7_readDebt 103 = .ok (.getfield 102, 3) := by decide +kernel
theorem dX7_readDebt_106 : decode cX7_readDebt 106 = .ok (.iastore, 1) := by decide +kernel
theorem dX7_readDebt_107 : decode cX7_readDebt 107 = .ok (.aload_n 0, 1) := by decide +kernel
theorem dX7_readDebt_108 : decode cX7_readDebt 108 = .ok (.dup, 1) := by decide +kernel
theorem dX7_readDebt_109 : decode cX7_readDebt 109 = .ok (.getfield 44, 3) := by decide +kernel
theorem dX7_readDebt_112 : decode cX7_readDebt 112 = .ok (.iconst 1, 1) := by decide +kernel
theorem dX7_readDebt_113 : decode cX7_readDebt 113 = .ok (.iadd, 1) := by decide +kernel
theorem dX7_readDebt_114 : decode cX7_readDebt 114 = .ok (.putfield 44, 3) := by decide +kernel
theorem dX7_readDebt_117 : decode cX7_readDebt 117 = .ok (.iconst 1, 1) := by decide +kernel
theorem dX7_readDebt_118 : decode cX7_readDebt 118 = .ok (.ireturn, 1) := by decide +kernel
theorem dX7_readDebt_92 : decode cX7_readDebt 92 = .ok (.iconst 0, 1) := by decide +kernel
theorem dX7_readDebt_93 : decode cX7_readDebt 93 = .ok (.ireturn, 1) := by decide +kernel
theorem dX7_readDebt_67 : decode cX7_readDebt 67 = .ok (.iconst 0, 1) := by decide +kernel
theorem dX7_readDebt_68 : decode cX7_readDebt 68 = .ok (.ireturn, 1) := by decide +kernel
theorem dX7_readDebt_43 : decode cX7_readDebt 43 = .ok (.iconst 0, 1) := by decide +kernel
theorem dX7_readDebt_44 : decode cX7_readDebt 44 = .ok (.ireturn, 1) := by decide +kernel
theorem dX7_readDebt_14 : decode cX7_readDebt 14 = .ok (.iconst 0, 1) := by decide +kernel
theorem dX7_readDebt_15 : decode cX7_readDebt 15 = .ok (.ireturn, 1) := by decide +kernel
theorem dX7_readClause_108 : decode cX7_readClause 108 = .ok (.invokevirtual 91, 3) := by decide +kernel
theorem dX7_readClause_111 : decode cX7_readClause 111 = .ok (.ireturn, 1) := by decide +kernel
theorem dX7_readClause_49 : decode cX7_readClause 49 = .ok (.iload_n 2, 1) := by decide +kernel
theorem dX7_readClause_50 : decode cX7_readClause 50 = .ok (.ifCond .ne 12, 3) := by decide +kernel
theorem dX7_readClause_53 : decode cX7_readClause 53 = .ok (.aload_n 0, 1) := by decide +kernel
theorem dX7_readClause_54 : decode cX7_readClause 54 = .ok (.getfield 41, 3) := by decide +kernel
theorem dX7_readClause_57 : decode cX7_readClause 57 = .ok (.bipush 6, 2) := by decide +kernel
theorem dX7_readClause_59 : decode cX7_readClause 59 = .ok (.if_icmp .lt 11, 3) := by decide +kernel
theorem dX7_readClause_70 : decode cX7_readClause 70 = .ok (.aload_n 0, 1) := by decide +kernel
theorem dX7_readClause_71 : decode cX7_readClause 71 = .ok (.aload_n 1, 1) := by decide +kernel
theorem dX7_readMan_0 : decode cX7_readMan 0 = .ok (.aload_n 1, 1) := by decide +kernel
theorem dX7_readMan_1 : decode cX7_readMan 1 = .ok (.iconst 1, 1) := by decide +kernel
theorem dX7_readMan_2 : decode cX7_readMan 2 = .ok (.bipush 99, 2) := by decide +kernel
theorem dX7_readMan_4 : decode cX7_readMan 4 = .ok (.invokevirtual 98, 3) := by decide +kernel
theorem dX7_readMan_7 : decode cX7_readMan 7 = .ok (.ifCond .ne 5, 3) := by decide +kernel
theorem dX7_readMan_12 : decode cX7_readMan 12 = .ok (.aload_n 0, 1) := by decide +kernel
theorem dX7_readMan_13 : decode cX7_readMan 13 = .ok (.getfield 20, 3) := by decide +kernel
theorem dX7_readMan_16 : decode cX7_readMan 16 = .ok (.aload_n 0, 1) := by decide +kernel
theorem dX7_readMan_17 : decode cX7_readMan 17 = .ok (.getfield 41, 3) := by decide +kernel
theorem dX7_readMan_20 : decode cX7_readMan 20 = .ok (.aload_n 1, 1) := by decide +kernel
theorem dX7_readMan_21 : decode cX7_readMan 21 = .ok (.getfield 102, 3) := by decide +kernel
theorem dX7_readMan_24 : decode cX7_readMan 24 = .ok (.iastore, 1) := by decide +kernel
theorem dX7_readMan_25 : decode cX7_readMan 25 = .ok (.aload_n 1, 1) := by decide +kernel
theorem dX7_readMan_26 : decode cX7_readMan 26 = .ok (.bipush 10, 2) := by decide +kernel
theorem dX7_readMan_28 : decode cX7_readMan 28 = .ok (.bipush 70, 2) := by decide +kernel
theorem dX7_readMan_30 : decode cX7_readMan 30 = .ok (.invokevirtual 98, 3) := by decide +kernel
theorem dX7_readMan_33 : decode cX7_readMan 33 = .ok (.ifCond .ne 5, 3) := by decide +kernel
theorem dX7_readMan_38 : decode cX7_readMan 38 = .ok (.aload_n 0, 1) := by decide +kernel
theorem dX7_readMan_39 : decode cX7_readMan 39 = .ok (.getfield 23, 3) := by decide +kernel
theorem dX7_readMan_42 : decode cX7_readMan 42 = .ok (.aload_n 0, 1) := by decide +kernel
theorem dX7_readMan_43 : decode cX7_readMan 43 = .ok (.getfield 41, 3) := by decide +kernel
theorem dX7_readMan_46 : decode cX7_readMan 46 = .ok (.aload_n 1, 1) := by decide +kernel
theorem dX7_readMan_47 : decode cX7_readMan 47 = .ok (.getfield 102, 3) := by decide +kernel
theorem dX7_readMan_50 : decode cX7_readMan 50 = .ok (.iastore, 1) := by decide +kernel
theorem dX7_readMan_51 : decode cX7_readMan 51 = .ok (.aload_n 0, 1) := by decide +kernel
theorem dX7_readMan_52 : decode cX7_readMan 52 = .ok (.dup, 1) := by decide +kernel
theorem dX7_readMan_53 : decode cX7_readMan 53 = .ok (.getfield 41, 3) := by decide +kernel
theorem dX7_readMan_56 : decode cX7_readMan 56 = .ok (.iconst 1, 1) := by decide +kernel
theorem dX7_readMan_57 : decode cX7_readMan 57 = .ok (.iadd, 1) := by decide +kernel
theorem dX7_readMan_58 : decode cX7_readMan 58 = .ok (.putfield 41, 3) := by decide +kernel
theorem dX7_readMan_61 : decode cX7_readMan 61 = .ok (.iconst 1, 1) := by decide +kernel
theorem dX7_readMan_62 : decode cX7_readMan 62 = .ok (.ireturn, 1) := by decide +kernel
theorem dX7_readMan_36 : decode cX7_readMan 36 = .ok (.iconst 0, 1) := by decide +kernel
theorem dX7_readMan_37 : decode cX7_readMan 37 = .ok (.ireturn, 1) := by decide +kernel
theorem dX7_readMan_10 : decode cX7_readMan 10 = .ok (.iconst 0, 1) := by decide +kernel
theorem dX7_readMan_11 : decode cX7_readMan 11 = .ok (.ireturn, 1) := by decide +kernel
theorem dX7_readClause_72 : decode cX7_readClause 72 = .ok (.invokevirtual 86, 3) := by decide +kernel
theorem dX7_readClause_75 : decode cX7_readClause 75 = .ok (.ireturn, 1) := by decide +kernel
theorem dX7_readClause_13 : decode cX7_readClause 13 = .ok (.iload_n 2, 1) := by decide +kernel
theorem dX7_readClause_14 : decode cX7_readClause 14 = .ok (.ifCond .ne 12, 3) := by decide +kernel
theorem dX7_readClause_17 : decode cX7_readClause 17 = .ok (.aload_n 0, 1) := by decide +kernel
theorem dX7_readClause_18 : decode cX7_readClause 18 = .ok (.getfield 38, 3) := by decide +kernel
theorem dX7_readClause_21 : decode cX7_readClause 21 = .ok (.bipush 8, 2) := by decide +kernel
theorem dX7_readClause_23 : decode cX7_readClause 23 = .ok (.if_icmp .lt 11, 3) := by decide +kernel
theorem dX7_readClause_34 : decode cX7_readClause 34 = .ok (.aload_n 0, 1) := by decide +kernel
theorem dX7_readClause_35 : decode cX7_readClause 35 = .ok (.aload_n 1, 1) := by decide +kernel
theorem dX7_readPoem_0 : decode cX7_readPoem 0 = .ok (.aload_n 1, 1) := by decide +kernel
theorem dX7_readPoem_1 : decode cX7_readPoem 1 = .ok (.iconst 1, 1) := by decide +kernel
theorem dX7_readPoem_2 : decode cX7_readPoem 2 = .ok (.bipush 40, 2) := by decide +kernel
theorem dX7_readPoem_4 : decode cX7_readPoem 4 = .ok (.invokevirtual 98, 3) := by decide +kernel
theorem dX7_readPoem_7 : decode cX7_readPoem 7 = .ok (.ifCond .ne 5, 3) := by decide +kernel
theorem dX7_readPoem_12 : decode cX7_readPoem 12 = .ok (.aload_n 0, 1) := by decide +kernel
theorem dX7_readPoem_13 : decode cX7_readPoem 13 = .ok (.getfield 13, 3) := by decide +kernel
theorem dX7_readPoem_16 : decode cX7_readPoem 16 = .ok (.aload_n 0, 1) := by decide +kernel
theorem dX7_readPoem_17 : decode cX7_readPoem 17 = .ok (.getfield 38, 3) := by decide +kernel
theorem dX7_readPoem_20 : decode cX7_readPoem 20 = .ok (.aload_n 1, 1) := by decide +kernel
theorem dX7_readPoem_21 : decode cX7_readPoem 21 = .ok (.getfield 102, 3) := by decide +kernel
theorem dX7_readPoem_24 : decode cX7_readPoem 24 = .ok (.iastore, 1) := by decide +kernel
theorem dX7_readPoem_25 : decode cX7_readPoem 25 = .ok (.aload_n 1, 1) := by decide +kernel
theorem dX7_readPoem_26 : decode cX7_readPoem 26 = .ok (.iconst 0, 1) := by decide +kernel
theorem dX7_readPoem_27 : decode cX7_readPoem 27 = .ok (.bipush 9, 2) := by decide +kernel
theorem dX7_readPoem_29 : decode cX7_readPoem 29 = .ok (.invokevirtual 98, 3) := by decide +kernel
theorem dX7_readPoem_32 : decode cX7_readPoem 32 = .ok (.ifCond .ne 5, 3) := by decide +kernel
theorem dX7_readPoem_37 : decode cX7_readPoem 37 = .ok (.aload_n 0, 1) := by decide +kernel
theorem dX7_readPoem_38 : decode cX7_readPoem 38 = .ok (.getfield 17, 3) := by decide +kernel
theorem dX7_readPoem_41 : decode cX7_readPoem 41 = .ok (.aload_n 0, 1) := by decide +kernel
theorem dX7_readPoem_42 : decode cX7_readPoem 42 = .ok (.getfield 38, 3) := by decide +kernel
theorem dX7_readPoem_45 : decode cX7_readPoem 45 = .ok (.aload_n 1, 1) := by decide +kernel
theorem dX7_readPoem_46 : decode cX7_readPoem 46 = .ok (.getfield 102, 3) := by decide +kernel
theorem dX7_readPoem_49 : decode cX7_readPoem 49 = .ok (.iastore, 1) := by decide +kernel
theorem dX7_readPoem_50 : decode cX7_readPoem 50 = .ok (.aload_n 0, 1) := by decide +kernel
theorem dX7_readPoem_51 : decode cX7_readPoem 51 = .ok (.dup, 1) := by decide +kernel
theorem dX7_readPoem_52 : decode cX7_readPoem 52 = .ok (.getfield 38, 3) := by decide +kernel
theorem dX7_readPoem_55 : decode cX7_readPoem 55 = .ok (.iconst 1, 1) := by decide +kernel
theorem dX7_readPoem_56 : decode cX7_readPoem 56 = .ok (.iadd, 1) := by decide +kernel
theorem dX7_readPoem_57 : decode cX7_readPoem 57 = .ok (.putfield 38, 3) := by decide +kernel
theorem dX7_readPoem_60 : decode cX7_readPoem 60 = .ok (.iconst 1, 1) := by decide +kernel
theorem dX7_readPoem_61 : decode cX7_readPoem 61 = .ok (.ireturn, 1) := by decide +kernel
theorem dX7_readPoem_35 : decode cX7_readPoem 35 = .ok (.iconst 0, 1) := by decide +kernel
theorem dX7_readPoem_36 : decode cX7_readPoem 36 = .ok (.ireturn, 1) := by decide +kernel
theorem dX7_readPoem_10 : decode cX7_readPoem 10 = .ok (.iconst 0, 1) := by decide +kernel
theorem dX7_readPoem_11 : decode cX7_readPoem 11 = .ok (.ireturn, 1) := by decide +kernel
theorem dX7_readClause_36 : decode cX7_readClause 36 = .ok (.invokevirtual 80, 3) := by decide +kernel
theorem dX7_readClause_39 : decode cX7_readClause 39 = .ok (.ireturn, 1) := by decide +kernel
theorem dX7_readClause_98 : decode cX7_readClause 98 = .ok (.aload_n 1, 1) := by decide +kernel
theorem dX7_readClause_99 : decode cX7_readClause 99 = .ok (.iconst 3, 1) := by decide +kernel
theorem dX7_readClause_100 : decode cX7_readClause 100 = .ok (.invokevirtual 76, 3) := by decide +kernel
theorem dX7_readClause_103 : decode cX7_readClause 103 = .ok (.goto 8, 3) := by decide +kernel
theorem dX7_readClause_62 : decode cX7_readClause 62 = .ok (.aload_n 1, 1) := by decide +kernel
theorem dX7_readClause_63 : decode cX7_readClause 63 = .ok (.iconst 3, 1) := by decide +kernel
theorem dX7_readClause_64 : decode cX7_readClause 64 = .ok (.invokevirtual 76, 3) := by decide +kernel
theorem dX7_readClause_67 : decode cX7_readClause 67 = .ok (.goto 8, 3) := by decide +kernel
theorem dX7_readClause_26 : decode cX7_readClause 26 = .ok (.aload_n 1, 1) := by decide +kernel
theorem dX7_readClause_27 : decode cX7_readClause 27 = .ok (.iconst 3, 1) := by decide +kernel
theorem dX7_readClause_28 : decode cX7_readClause 28 = .ok (.invokevirtual 76, 3) := by decide +kernel
theorem dX7_readClause_31 : decode cX7_readClause 31 = .ok (.goto 8, 3) := by decide +kernel
theorem dX7_readFrom_50 : decode cX7_readFrom 50 = .ok (.invokevirtual 59, 3) := by decide +kernel
theorem dX7_readFrom_53 : decode cX7_readFrom 53 = .ok (.ifCond .eq 12, 3) := by decide +kernel
theorem dX7_readFrom_65 : decode cX7_readFrom 65 = .ok (.iconst 0, 1) := by decide +kernel
theorem dX7_readFrom_66 : decode cX7_readFrom 66 = .ok (.ireturn, 1) := by decide +kernel
theorem dX7_readFrom_56 : decode cX7_readFrom 56 = .ok (.aload_n 1, 1) := by decide +kernel
theorem dX7_readFrom_57 : decode cX7_readFrom 57 = .ok (.bipush 59, 2) := by decide +kernel
theorem dX6_needs_0 : decode cX6_needs 0 = .ok (.aload_n 0, 1) := by decide +kernel
theorem dX6_needs_1 : decode cX6_needs 1 = .ok (.invokevirtual 31, 3) := by decide +kernel
theorem dX6_needs_4 : decode cX6_needs 4 = .ok (.aload_n 0, 1) := by decide +kernel
theorem dX6_needs_5 : decode cX6_needs 5 = .ok (.getfield 25, 3) := by decide +kernel
theorem dX6_needs_8 : decode cX6_needs 8 = .ok (.aload_n 0, 1) := by decide +kernel
theorem dX6_needs_9 : decode cX6_needs 9 = .ok (.getfield 22, 3) := by decide +kernel
theorem dX6_needs_12 : decode cX6_needs 12 = .ok (.if_icmp .ge 28, 3) := by decide +kernel
theorem dX6_needs_15 : decode cX6_needs 15 = .ok (.aload_n 0, 1) := by decide +kernel
theorem dX6_needs_16 : decode cX6_needs 16 = .ok (.getfield 11, 3) := by decide +kernel
theorem dX6_needs_19 : decode cX6_needs 19 = .ok (.aload_n 0, 1) := by decide +kernel
theorem dX6_needs_20 : decode cX6_needs 20 = .ok (.getfield 25, 3) := by decide +kernel
theorem dX6_needs_23 : decode cX6_needs 23 = .ok (.iaload, 1) := by decide +kernel
theorem dX6_needs_24 : decode cX6_needs 24 = .ok (.iload_n 1, 1) := by decide +kernel
theorem dX6_needs_25 : decode cX6_needs 25 = .ok (.if_icmp .ne 15, 3) := by decide +kernel
theorem dX6_needs_28 : decode cX6_needs 28 = .ok (.aload_n 0, 1) := by decide +kernel
theorem dX6_needs_29 : decode cX6_needs 29 = .ok (.dup, 1) := by decide +kernel
theorem dX6_needs_30 : decode cX6_needs 30 = .ok (.getfield 25, 3) := by decide +kernel
theorem dX6_needs_33 : decode cX6_needs 33 = .ok (.iconst 1, 1) := by decide +kernel
theorem dX6_needs_34 : decode cX6_needs 34 = .ok (.iadd, 1) := by decide +kernel
theorem dX6_needs_35 : decode cX6_needs 35 = .ok (.putfield 25, 3) := by decide +kernel
theorem dX6_needs_38 : decode cX6_needs 38 = .ok (.iconst 1, 1) := by decide +kernel
theorem dX6_needs_39 : decode cX6_needs 39 = .ok (.ireturn, 1) := by decide +kernel
theorem dX6_needs_40 : decode cX6_needs 40 = .ok (.aload_n 0, 1) := by decide +kernel
theorem dX6_needs_41 : decode cX6_needs 41 = .ok (.aload_n 0, 1) := by decide +kernel
theorem dX6_needs_42 : decode cX6_needs 42 = .ok (.getfield 25, 3) := by decide +kernel
theorem dX6_needs_45 : decode cX6_needs 45 = .ok (.iconst 1, 1) := by decide +kernel
theorem dX6_needs_46 : decode cX6_needs 46 = .ok (.invokevirtual 34, 3) := by decide +kernel
theorem dX6_needs_49 : decode cX6_needs 49 = .ok (.ireturn, 1) := by decide +kernel
theorem dX7_readFrom_59 : decode cX7_readFrom 59 = .ok (.invokevirtual 63, 3) := by decide +kernel
theorem dX7_readFrom_62 : decode cX7_readFrom 62 = .ok (.ifCond .ne 5, 3) := by decide +kernel
theorem dX7_readFrom_67 : decode cX7_readFrom 67 = .ok (.iinc 2 1, 3) := by decide +kernel
theorem dX7_readFrom_70 : decode cX7_readFrom 70 = .ok (.goto (-48), 3) := by decide +kernel
theorem dX9_valley_16 : decode cX9_valley 16 = .ok (.invokevirtual 99, 3) := by decide +kernel
theorem dX9_valley_19 : decode cX9_valley 19 = .ok (.ifCond .ne 14, 3) := by decide +kernel
theorem dX9_valley_33 : decode cX9_valley 33 = .ok (.aload_n 0, 1) := by decide +kernel
theorem dX9_valley_34 : decode cX9_valley 34 = .ok (.getfield 27, 3) := by decide +kernel
theorem dX9_valley_37 : decode cX9_valley 37 = .ok (.aload_n 0, 1) := by decide +kernel
theorem dX9_valley_38 : decode cX9_valley 38 = .ok (.getfield 31, 3) := by decide +kernel
theorem dX7_copyFrom_0 : decode cX7_copyFrom 0 = .ok (.aload_n 0, 1) := by decide +kernel
theorem dX7_copyFrom_1 : decode cX7_copyFrom 1 = .ok (.aload_n 1, 1) := by decide +kernel
theorem dX7_copyFrom_2 : decode cX7_copyFrom 2 = .ok (.getfield 38, 3) := by decide +kernel
theorem dX7_copyFrom_5 : decode cX7_copyFrom 5 = .ok (.putfield 38, 3) := by decide +kernel
theorem dX7_copyFrom_8 : decode cX7_copyFrom 8 = .ok (.aload_n 0, 1) := by decide +kernel
theorem dX7_copyFrom_9 : decode cX7_copyFrom 9 = .ok (.aload_n 1, 1) := by decide +kernel
theorem dX7_copyFrom_10 : decode cX7_copyFrom 10 = .ok (.getfield 41, 3) := by decide +kernel
theorem dX7_copyFrom_13 : decode cX7_copyFrom 13 = .ok (.putfield 41, 3) := by decide +kernel
theorem dX7_copyFrom_16 : decode cX7_copyFrom 16 = .ok (.aload_n 0, 1) := by decide +kernel
theorem dX7_copyFrom_17 : decode cX7_copyFrom 17 = .ok (.aload_n 1, 1) := by decide +kernel
theorem dX7_copyFrom_18 : decode cX7_copyFrom 18 = .ok (.getfield 44, 3) := by decide +kernel
theorem dX7_copyFrom_21 : decode cX7_copyFrom 21 = .ok (.putfield 44, 3) := by decide +kernel
theorem dX7_copyFrom_24 : decode cX7_copyFrom 24 = .ok (.aload_n 0, 1) := by decide +kernel
theorem dX7_copyFrom_25 : decode cX7_copyFrom 25 = .ok (.aload_n 1, 1) := by decide +kernel
theorem dX7_copyFrom_26 : decode cX7_copyFrom 26 = .ok (.getfield 9, 3) := by decide +kernel
theorem dX7_copyFrom_29 : decode cX7_copyFrom 29 = .ok (.putfield 9, 3) := by decide +kernel
theorem dX7_copyFrom_32 : decode cX7_copyFrom 32 = .ok (.aload_n 1, 1) := by decide +kernel
theorem dX7_copyFrom_33 : decode cX7_copyFrom 33 = .ok (.getfield 13, 3) := by decide +kernel
theorem dX7_copyFrom_36 : decode cX7_copyFrom 36 = .ok (.iconst 0, 1) := by decide +kernel
theorem dX7_copyFrom_37 : decode cX7_copyFrom 37 = .ok (.aload_n 0, 1) := by decide +kernel
theorem dX7_copyFrom_38 : decode cX7_copyFrom 38 = .ok (.getfield 13, 3) := by decide +kernel
theorem dX7_copyFrom_41 : decode cX7_copyFrom 41 = .ok (.iconst 0, 1) := by decide +kernel
theorem dX7_copyFrom_42 : decode cX7_copyFrom 42 = .ok (.bipush 8, 2) := by decide +kernel
theorem dX7_copyFrom_44 : decode cX7_copyFrom 44 = .ok (.invokestatic 47, 3) := by decide +kernel
theorem dX7_copyFrom_47 : decode cX7_copyFrom 47 = .ok (.aload_n 1, 1) := by decide +kernel
theorem dX7_copyFrom_48 : decode cX7_copyFrom 48 = .ok (.getfield 17, 3) := by decide +kernel
theorem dX7_copyFrom_51 : decode cX7_copyFrom 51 = .ok (.iconst 0, 1) := by decide +kernel
theorem dX7_copyFrom_52 : decode cX7_copyFrom 52 = .ok (.aload_n 0, 1) := by decide +kernel
theorem dX7_copyFrom_53 : decode cX7_copyFrom 53 = .ok (.getfield 17, 3) := by decide +kernel
theorem dX7_copyFrom_56 : decode cX7_copyFrom 56 = .ok (.iconst 0, 1) := by decide +kernel
theorem dX7_copyFrom_57 : decode cX7_copyFrom 57 = .ok (.bipush 8, 2) := by decide +kernel
theorem dX7_copyFrom_59 : decode cX7_copyFrom 59 = .ok (.invokestatic 47, 3) := by decide +kernel
theorem dX7_copyFrom_62 : decode cX7_copyFrom 62 = .ok (.aload_n 1, 1) := by decide +kernel
theorem dX7_copyFrom_63 : decode cX7_copyFrom 63 = .ok (.getfield 20, 3) := by decide +kernel
theorem dX7_copyFrom_66 : decode cX7_copyFrom 66 = .ok (.iconst 0, 1) := by decide +kernel
theorem dX7_copyFrom_67 : decode cX7_copyFrom 67 = .ok (.aload_n 0, 1) := by decide +kernel
theorem dX7_copyFrom_68 : decode cX7_copyFrom 68 = .ok (.getfield 20, 3) := by decide +kernel
theorem dX7_copyFrom_71 : decode cX7_copyFrom 71 = .ok (.iconst 0, 1) := by decide +kernel
theorem dX7_copyFrom_72 : decode cX7_copyFrom 72 = .ok (.bipush 6, 2) := by decide +kernel
theorem dX7_copyFrom_74 : decode cX7_copyFrom 74 = .ok (.invokestatic 47, 3) := by decide +kernel
theorem dX7_copyFrom_77 : decode cX7_copyFrom 77 = .ok (.aload_n 1, 1) := by decide +kernel
theorem dX7_copyFrom_78 : decode cX7_copyFrom 78 = .ok (.getfield 23, 3) := by decide +kernel
theorem dX7_copyFrom_81 : decode cX7_copyFrom 81 = .ok (.iconst 0, 1) := by decide +kernel
theorem dX7_copyFrom_82 : decode cX7_copyFrom 82 = .ok (.aload_n 0, 1) := by decide +kernel
theorem dX7_copyFrom_83 : decode cX7_copyFrom 83 = .ok (.getfield 23, 3) := by decide +kernel
theorem dX7_copyFrom_86 : decode cX7_copyFrom 86 = .ok (.iconst 0, 1) := by decide +kernel
theorem dX7_copyFrom_87 : decode cX7_copyFrom 87 = .ok (.bipush 6, 2) := by decide +kernel
theorem dX7_copyFrom_89 : decode cX7_copyFrom 89 = .ok (.invokestatic 47, 3) := by decide +kernel
theorem dX7_copyFrom_92 : decode cX7_copyFrom 92 = .ok (.aload_n 1, 1) := by decide +kernel
theorem dX7_copyFrom_93 : decode cX7_copyFrom 93 = .ok (.getfield 26, 3) := by decide +kernel
theorem dX7_copyFrom_96 : decode cX7_copyFrom 96 = .ok (.iconst 0, 1) := by decide +kernel
theorem dX7_copyFrom_97 : decode cX7_copyFrom 97 = .ok (.aload_n 0, 1) := by decide +kernel
theorem dX7_copyFrom_98 : decode cX7_copyFrom 98 = .ok (.getfield 26, 3) := by decide +kernel
theorem dX7_copyFrom_101 : decode cX7_copyFrom 101 = .ok (.iconst 0, 1) := by decide +kernel
theorem dX7_copyFrom_102 : decode cX7_copyFrom 102 = .ok (.bipush 10, 2) := by decide +kernel
theorem dX7_copyFrom_104 : decode cX7_copyFrom 104 = .ok (.invokestatic 47, 3) := by decide +kernel
theorem dX7_copyFrom_107 : decode cX7_copyFrom 107 = .ok (.aload_n 1, 1) := by decide +kernel
theorem dX7_copyFrom_108 : decode cX7_copyFrom 108 = .ok (.getfield 29, 3) := by decide +kernel
theorem dX7_copyFrom_111 : decode cX7_copyFrom 111 = .ok (.iconst 0, 1) := by decide +kernel
theorem dX7_copyFrom_112 : decode cX7_copyFrom 112 = .ok (.aload_n 0, 1) := by decide +kernel
theorem dX7_copyFrom_113 : decode cX7_copyFrom 113 = .ok (.getfield 29, 3) := by decide +kernel
theorem dX7_copyFrom_116 : decode cX7_copyFrom 116 = .ok (.iconst 0, 1) := by decide +kernel
theorem dX7_copyFrom_117 : decode cX7_copyFrom 117 = .ok (.bipush 10, 2) := by decide +kernel
theorem dX7_copyFrom_119 : decode cX7_copyFrom 119 = .ok (.invokestatic 47, 3) := by decide +kernel
theorem dX7_copyFrom_122 : decode cX7_copyFrom 122 = .ok (.aload_n 1, 1) := by decide +kernel
theorem dX7_copyFrom_123 : decode cX7_copyFrom 123 = .ok (.getfield 32, 3) := by decide +kernel
theorem dX7_copyFrom_126 : decode cX7_copyFrom 126 = .ok (.iconst 0, 1) := by decide +kernel
theorem dX7_copyFrom_127 : decode cX7_copyFrom 127 = .ok (.aload_n 0, 1) := by decide +kernel
theorem dX7_copyFrom_128 : decode cX7_copyFrom 128 = .ok (.getfield 32, 3) := by decide +kernel
theorem dX7_copyFrom_131 : decode cX7_copyFrom 131 = .ok (.iconst 0, 1) := by decide +kernel
theorem dX7_copyFrom_132 : decode cX7_copyFrom 132 = .ok (.bipush 10, 2) := by decide +kernel
theorem dX7_copyFrom_134 : decode cX7_copyFrom 134 = .ok (.invokestatic 47, 3) := by decide +kernel
theorem dX7_copyFrom_137 : decode cX7_copyFrom 137 = .ok (.aload_n 1, 1) := by decide +kernel
theorem dX7_copyFrom_138 : decode cX7_copyFrom 138 = .ok (.getfield 35, 3) := by decide +kernel
theorem dX7_copyFrom_141 : decode cX7_copyFrom 141 = .ok (.iconst 0, 1) := by decide +kernel
theorem dX7_copyFrom_142 : decode cX7_copyFrom 142 = .ok (.aload_n 0, 1) := by decide +kernel
theorem dX7_copyFrom_143 : decode cX7_copyFrom 143 = .ok (.getfield 35, 3) := by decide +kernel
theorem dX7_copyFrom_146 : decode cX7_copyFrom 146 = .ok (.iconst 0, 1) := by decide +kernel
theorem dX7_copyFrom_147 : decode cX7_copyFrom 147 = .ok (.bipush 10, 2) := by decide +kernel
theorem dX7_copyFrom_149 : decode cX7_copyFrom 149 = .ok (.invokestatic 47, 3) := by decide +kernel
theorem dX7_copyFrom_152 : decode cX7_copyFrom 152 = .ok (.return_, 1) := by decide +kernel
theorem dX9_valley_41 : decode cX9_valley 41 = .ok (.invokevirtual 106, 3) := by decide +kernel
theorem dX9_valley_44 : decode cX9_valley 44 = .ok (.aload_n 0, 1) := by decide +kernel
theorem dX9_valley_45 : decode cX9_valley 45 = .ok (.getfield 34, 3) := by decide +kernel
theorem dX1_makePlain_0 : decode cX1_makePlain 0 = .ok (.aload_n 0, 1) := by decide +kernel
theorem dX1_makePlain_1 : decode cX1_makePlain 1 = .ok (.iconst 0, 1) := by decide +kernel
theorem dX1_makePlain_2 : decode cX1_makePlain 2 = .ok (.putfield 24, 3) := by decide +kernel
theorem dX1_makePlain_5 : decode cX1_makePlain 5 = .ok (.aload_n 0, 1) := by decide +kernel
theorem dX1_makePlain_6 : decode cX1_makePlain 6 = .ok (.bipush 9, 2) := by decide +kernel
theorem dX1_put_0 : decode cX1_put 0 = .ok (.aload_n 0, 1) := by decide +kernel
theorem dX1_put_1 : decode cX1_put 1 = .ok (.getfield 24, 3) := by decide +kernel
theorem dX1_put_4 : decode cX1_put 4 = .ok (.sipush 160, 3) := by decide +kernel
theorem dX1_put_7 : decode cX1_put 7 = .ok (.if_icmp .lt 5, 3) := by decide +kernel
theorem dX1_put_12 : decode cX1_put 12 = .ok (.aload_n 0, 1) := by decide +kernel
theorem dX1_put_13 : decode cX1_put 13 = .ok (.getfield 11, 3) := by decide +kernel
theorem dX1_put_16 : decode cX1_put 16 = .ok (.aload_n 0, 1) := by decide +kernel
theorem dX1_put_17 : decode cX1_put 17 = .ok (.getfield 24, 3) := by decide +kernel
theorem dX1_put_20 : decode cX1_put 20 = .ok (.iload_n 1, 1) := by decide +kernel
theorem dX1_put_21 : decode cX1_put 21 = .ok (.iastore, 1) := by decide +kernel
theorem dX1_put_22 : decode cX1_put 22 = .ok (.aload_n 0, 1) := by decide +kernel
theorem dX1_put_23 : decode cX1_put 23 = .ok (.dup, 1) := by decide +kernel
theorem dX1_put_24 : decode cX1_put 24 = .ok (.getfield 24, 3) := by decide +kernel
theorem dX1_put_27 : decode cX1_put 27 = .ok (.iconst 1, 1) := by decide +kernel
theorem dX1_put_28 : decode cX1_put 28 = .ok (.iadd, 1) := by decide +kernel
theorem dX1_put_29 : decode cX1_put 29 = .ok (.putfield 24, 3) := by decide +kernel
theorem dX1_put_32 : decode cX1_put 32 = .ok (.iconst 1, 1) := by decide +kernel
theorem dX1_put_33 : decode cX1_put 33 = .ok (.ireturn, 1) := by decide +kernel
theorem dX1_put_10 : decode cX1_put 10 = .ok (.iconst 0, 1) := by decide +kernel
theorem dX1_put_11 : decode cX1_put 11 = .ok (.ireturn, 1) := by decide +kernel
theorem dX1_makePlain_8 : decode cX1_makePlain 8 = .ok (.invokevirtual 28, 3) := by decide +kernel
theorem dX1_makePlain_11 : decode cX1_makePlain 11 = .ok (.pop, 1) := by decide +kernel
theorem dX1_makePlain_12 : decode cX1_makePlain 12 = .ok (.aload_n 0, 1) := by decide +kernel
theorem dX1_makePlain_13 : decode cX1_makePlain 13 = .ok (.sipush 1001, 3) := by decide +kernel
theorem dX1_makePlain_16 : decode cX1_makePlain 16 = .ok (.invokevirtual 28, 3) := by decide +kernel
theorem dX1_makePlain_19 : decode cX1_makePlain 19 = .ok (.pop, 1) := by decide +kernel
theorem dX1_makePlain_20 : decode cX1_makePlain 20 = .ok (.aload_n 0, 1) := by decide +kernel
theorem dX1_makePlain_21 : decode cX1_makePlain 21 = .ok (.sipush 2001, 3) := by decide +kernel
theorem dX1_makePlain_24 : decode cX1_makePlain 24 = .ok (.invokevirtual 28, 3) := by decide +kernel
theorem dX1_makePlain_27 : decode cX1_makePlain 27 = .ok (.pop, 1) := by decide +kernel
theorem dX1_makePlain_28 : decode cX1_makePlain 28 = .ok (.return_, 1) := by decide +kernel
theorem dX9_valley_48 : decode cX9_valley 48 = .ok (.invokevirtual 110, 3) := by decide +kernel
theorem dX9_valley_51 : decode cX9_valley 51 = .ok (.aload_n 0, 1) := by decide +kernel
theorem dX9_valley_52 : decode cX9_valley 52 = .ok (.getfield 44, 3) := by decide +kernel
theorem dX9_valley_55 : decode cX9_valley 55 = .ok (.iconst 0, 1) := by decide +kernel
theorem dX9_valley_56 : decode cX9_valley 56 = .ok (.putfield 113, 3) := by decide +kernel
theorem dX9_valley_59 : decode cX9_valley 59 = .ok (.aload_n 0, 1) := by decide +kernel
theorem dX9_valley_60 : decode cX9_valley 60 = .ok (.getfield 58, 3) := by decide +kernel
theorem dX5_clear_0 : decode cX5_clear 0 = .ok (.iconst 0, 1) := by decide +kernel
theorem dX5_clear_1 : decode cX5_clear 1 = .ok (.istore_n 1, 1) := by decide +kernel
theorem dX5_clear_2 : decode cX5_clear 2 = .ok (.iload_n 1, 1) := by decide +kernel
theorem dX5_clear_3 : decode cX5_clear 3 = .ok (.bipush 74, 2) := by decide +kernel
theorem dX5_clear_5 : decode cX5_clear 5 = .ok (.if_icmp .ge 16, 3) := by decide +kernel
theorem dX5_clear_21 : decode cX5_clear 21 = .ok (.return_, 1) := by decide +kernel
theorem dX5_clear_8 : decode cX5_clear 8 = .ok (.aload_n 0, 1) := by decide +kernel
theorem dX5_clear_9 : decode cX5_clear 9 = .ok (.getfield 11, 3) := by decide +kernel
theorem dX5_clear_12 : decode cX5_clear 12 = .ok (.iload_n 1, 1) := by decide +kernel
theorem dX5_clear_13 : decode cX5_clear 13 = .ok (.iconst 0, 1) := by decide +kernel
theorem dX5_clear_14 : decode cX5_clear 14 = .ok (.iastore, 1) := by decide +kernel
theorem dX5_clear_15 : decode cX5_clear 15 = .ok (.iinc 1 1, 3) := by decide +kernel
theorem dX5_clear_18 : decode cX5_clear 18 = .ok (.goto (-16), 3) := by decide +kernel
theorem dX9_valley_63 : decode cX9_valley 63 = .ok (.invokevirtual 116, 3) := by decide +kernel
theorem dX9_valley_66 : decode cX9_valley 66 = .ok (.aload_n 0, 1) := by decide +kernel
theorem dX9_valley_67 : decode cX9_valley 67 = .ok (.getfield 65, 3) := by decide +kernel
theorem dX4_clear_0 : decode cX4_clear 0 = .ok (.aload_n 0, 1) := by decide +kernel
theorem dX4_clear_1 : decode cX4_clear 1 = .ok (.iconst 0, 1) := by decide +kernel
theorem dX4_clear_2 : decode cX4_clear 2 = .ok (.putfield 21, 3) := by decide +kernel
theorem dX4_clear_5 : decode cX4_clear 5 = .ok (.aload_n 0, 1) := by decide +kernel
theorem dX4_clear_6 : decode cX4_clear 6 = .ok (.iconst 0, 1) := by decide +kernel
theorem dX4_clear_7 : decode cX4_clear 7 = .ok (.putfield 25, 3) := by decide +kernel
theorem dX4_clear_10 : decode cX4_clear 10 = .ok (.return_, 1) := by decide +kernel
theorem dX9_valley_70 : decode cX9_valley 70 = .ok (.invokevirtual 119, 3) := by decide +kernel
theorem dX9_valley_73 : decode cX9_valley 73 = .ok (.aload_n 0, 1) := by decide +kernel
theorem dX9_valley_74 : decode cX9_valley 74 = .ok (.iconst 0, 1) := by decide +kernel
theorem dX9_valley_75 : decode cX9_valley 75 = .ok (.putfield 120, 3) := by decide +kernel
theorem dX9_valley_78 : decode cX9_valley 78 = .ok (.aload_n 0, 1) := by decide +kernel
theorem dX9_valley_79 : decode cX9_valley 79 = .ok (.getfield 27, 3) := by decide +kernel
theorem dX9_valley_82 : decode cX9_valley 82 = .ok (.getfield 123, 3) := by decide +kernel
theorem dX9_valley_85 : decode cX9_valley 85 = .ok (.ireturn, 1) := by decide +kernel
theorem dX9_valley_22 : decode cX9_valley 22 = .ok (.aload_n 0, 1) := by decide +kernel
theorem dX9_valley_23 : decode cX9_valley 23 = .ok (.getfield 21, 3) := by decide +kernel
theorem dX9_valley_26 : decode cX9_valley 26 = .ok (.getfield 103, 3) := by decide +kernel
theorem dX9_valley_29 : decode cX9_valley 29 = .ok (.bipush 10, 2) := by decide +kernel
theorem dX9_valley_31 : decode cX9_valley 31 = .ok (.isub, 1) := by decide +kernel
theorem dX9_valley_32 : decode cX9_valley 32 = .ok (.ireturn, 1) := by decide +kernel
theorem dX9_law_0 : decode cX9_law 0 = .ok (.aload_n 0, 1) := by decide +kernel
theorem dX9_law_1 : decode cX9_law 1 = .ok (.iload_n 1, 1) := by decide +kernel
theorem dX9_law_2 : decode cX9_law 2 = .ok (.sipush 150, 3) := by decide +kernel
theorem dX9_law_5 : decode cX9_law 5 = .ok (.invokevirtual 95, 3) := by decide +kernel
theorem dX9_law_8 : decode cX9_law 8 = .ok (.aload_n 0, 1) := by decide +kernel
theorem dX9_law_9 : decode cX9_law 9 = .ok (.getfield 38, 3) := by decide +kernel
theorem dX9_law_12 : decode cX9_law 12 = .ok (.aload_n 0, 1) := by decide +kernel
theorem dX9_law_13 : decode cX9_law 13 = .ok (.getfield 21, 3) := by decide +kernel
theorem dX1_readFrom_0 : decode cX1_readFrom 0 = .ok (.aload_n 0, 1) := by decide +kernel
theorem dX1_readFrom_1 : decode cX1_readFrom 1 = .ok (.iconst 0, 1) := by decide +kernel
theorem dX1_readFrom_2 : decode cX1_readFrom 2 = .ok (.putfield 24, 3) := by decide +kernel
theorem dX1_readFrom_5 : decode cX1_readFrom 5 = .ok (.aload_n 0, 1) := by decide +kernel
theorem dX1_readFrom_6 : decode cX1_readFrom 6 = .ok (.aload_n 1, 1) := by decide +kernel
theorem dX1_readFrom_7 : decode cX1_readFrom 7 = .ok (.iconst 0, 1) := by decide +kernel
theorem dX1_readSum_0 : decode cX1_readSum 0 = .ok (.aload_n 0, 1) := by decide +kernel
theorem dX1_readSum_1 : decode cX1_readSum 1 = .ok (.aload_n 1, 1) := by decide +kernel
theorem dX1_readSum_2 : decode cX1_readSum 2 = .ok (.iload_n 2, 1) := by decide +kernel
theorem dX1_readProduct_0 : decode cX1_readProduct 0 = .ok (.aload_n 0, 1) := by decide +kernel
theorem dX1_readProduct_1 : decode cX1_readProduct 1 = .ok (.aload_n 1, 1) := by decide +kernel
theorem dX1_readProduct_2 : decode cX1_readProduct 2 = .ok (.iload_n 2, 1) := by decide +kernel
theorem dX1_readUnit_0 : decode cX1_readUnit 0 = .ok (.aload_n 1, 1) := by decide +kernel
theorem dX6_seesDigit_0 : decode cX6_seesDigit 0 = .ok (.aload_n 0, 1) := by decide +kernel
theorem dX6_seesDigit_1 : decode cX6_seesDigit 1 = .ok (.invokevirtual 31, 3) := by decide +kernel
theorem dX6_seesDigit_4 : decode cX6_seesDigit 4 = .ok (.aload_n 0, 1) := by decide +kernel
theorem dX6_seesDigit_5 : decode cX6_seesDigit 5 = .ok (.getfield 25, 3) := by decide +kernel
theorem dX6_seesDigit_8 : decode cX6_seesDigit 8 = .ok (.aload_n 0, 1) := by decide +kernel
theorem dX6_seesDigit_9 : decode cX6_seesDigit 9 = .ok (.getfield 22, 3) := by decide +kernel
theorem dX6_seesDigit_12 : decode cX6_seesDigit 12 = .ok (.if_icmp .ge 35, 3) := by decide +kernel
theorem dX6_seesDigit_47 : decode cX6_seesDigit 47 = .ok (.iconst 0, 1) := by decide +kernel
theorem dX6_seesDigit_48 : decode cX6_seesDigit 48 = .ok (.ireturn, 1) := by decide +kernel
theorem dX6_seesDigit_15 : decode cX6_seesDigit 15 = .ok (.aload_n 0, 1) := by decide +kernel
theorem dX6_seesDigit_16 : decode cX6_seesDigit 16 = .ok (.getfield 11, 3) := by decide +kernel
theorem dX6_seesDigit_19 : decode cX6_seesDigit 19 = .ok (.aload_n 0, 1) := by decide +kernel
theorem dX6_seesDigit_20 : decode cX6_seesDigit 20 = .ok (.getfield 25, 3) := by decide +kernel
theorem dX6_seesDigit_23 : decode cX6_seesDigit 23 = .ok (.iaload, 1) := by decide +kernel
theorem dX6_seesDigit_24 : decode cX6_seesDigit 24 = .ok (.bipush 48, 2) := by decide +kernel
theorem dX6_seesDigit_26 : decode cX6_seesDigit 26 = .ok (.if_icmp .lt 21, 3) := by decide +kernel
theorem dX6_seesDigit_29 : decode cX6_seesDigit 29 = .ok (.aload_n 0, 1) := by decide +kernel
theorem dX6_seesDigit_30 : decode cX6_seesDigit 30 = .ok (.getfield 11, 3) := by decide +kernel
theorem dX6_seesDigit_33 : decode cX6_seesDigit 33 = .ok (.aload_n 0, 1) := by decide +kernel
theorem dX6_seesDigit_34 : decode cX6_seesDigit 34 = .ok (.getfield 25, 3) := by decide +kernel
theorem dX6_seesDigit_37 : decode cX6_seesDigit 37 = .ok (.iaload, 1) := by decide +kernel
theorem dX6_seesDigit_38 : decode cX6_seesDigit 38 = .ok (.bipush 57, 2) := by decide +kernel
theorem dX6_seesDigit_40 : decode cX6_seesDigit 40 = .ok (.if_icmp .gt 7, 3) := by decide +kernel
theorem dX6_seesDigit_43 : decode cX6_seesDigit 43 = .ok (.iconst 1, 1) := by decide +kernel
theorem dX6_seesDigit_44 : decode cX6_seesDigit 44 = .ok (.goto 4, 3) := by decide +kernel
theorem dX1_readUnit_1 : decode cX1_readUnit 1 = .ok (.invokevirtual 66, 3) := by decide +kernel
theorem dX1_readUnit_4 : decode cX1_readUnit 4 = .ok (.ifCond .eq 31, 3) := by decide +kernel
theorem dX1_readUnit_35 : decode cX1_readUnit 35 = .ok (.aload_n 1, 1) := by decide +kernel
theorem dX1_readUnit_36 : decode cX1_readUnit 36 = .ok (.bipush 40, 2) := by decide +kernel
theorem dX6_sees_0 : decode cX6_sees 0 = .ok (.aload_n 0, 1) := by decide +kernel
theorem dX6_sees_1 : decode cX6_sees 1 = .ok (.invokevirtual 31, 3) := by decide +kernel
theorem dX6_sees_4 : decode cX6_sees 4 = .ok (.aload_n 0, 1) := by decide +kernel
theorem dX6_sees_5 : decode cX6_sees 5 = .ok (.getfield 25, 3) := by decide +kernel
theorem dX6_sees_8 : decode cX6_sees 8 = .ok (.aload_n 0, 1) := by decide +kernel
theorem dX6_sees_9 : decode cX6_sees 9 = .ok (.getfield 22, 3) := by decide +kernel
theorem dX6_sees_12 : decode cX6_sees 12 = .ok (.if_icmp .ge 20, 3) := by decide +kernel
theorem dX6_sees_32 : decode cX6_sees 32 = .ok (.iconst 0, 1) := by decide +kernel
theorem dX6_sees_33 : decode cX6_sees 33 = .ok (.ireturn, 1) := by decide +kernel
theorem dX6_sees_15 : decode cX6_sees 15 = .ok (.aload_n 0, 1) := by decide +kernel
theorem dX6_sees_16 : decode cX6_sees 16 = .ok (.getfield 11, 3) := by decide +kernel
theorem dX6_sees_19 : decode cX6_sees 19 = .ok (.aload_n 0, 1) := by decide +kernel
theorem dX6_sees_20 : decode cX6_sees 20 = .ok (.getfield 25, 3) := by decide +kernel
theorem dX6_sees_23 : decode cX6_sees 23 = .ok (.iaload, 1) := by decide +kernel
theorem dX6_sees_24 : decode cX6_sees 24 = .ok (.iload_n 1, 1) := by decide +kernel
theorem dX6_sees_25 : decode cX6_sees 25 = .ok (.if_icmp .ne 7, 3) := by decide +kernel
theorem dX6_sees_28 : decode cX6_sees 28 = .ok (.iconst 1, 1) := by decide +kernel
theorem dX6_sees_29 : decode cX6_sees 29 = .ok (.goto 4, 3) := by decide +kernel
theorem dX1_readUnit_38 : decode cX1_readUnit 38 = .ok (.invokevirtual 75, 3) := by decide +kernel
theorem dX1_readUnit_41 : decode cX1_readUnit 41 = .ok (.ifCond .eq 54, 3) := by decide +kernel
theorem dX1_readUnit_95 : decode cX1_readUnit 95 = .ok (.aload_n 1, 1) := by decide +kernel
theorem dX1_readUnit_96 : decode cX1_readUnit 96 = .ok (.invokevirtual 81, 3) := by decide +kernel
theorem dX1_readUnit_99 : decode cX1_readUnit 99 = .ok (.aload_n 1, 1) := by decide +kernel
theorem dX1_readUnit_100 : decode cX1_readUnit 100 = .ok (.ldc 84, 2) := by decide +kernel
theorem dX1_readUnit_102 : decode cX1_readUnit 102 = .ok (.invokevirtual 86, 3) := by decide +kernel
theorem dX1_readUnit_105 : decode cX1_readUnit 105 = .ok (.ifCond .eq 13, 3) := by decide +kernel
theorem dX1_readUnit_118 : decode cX1_readUnit 118 = .ok (.aload_n 1, 1) := by decide +kernel
theorem dX1_readUnit_119 : decode cX1_readUnit 119 = .ok (.ldc 94, 2) := by decide +kernel
theorem dX1_readUnit_121 : decode cX1_readUnit 121 = .ok (.invokevirtual 86, 3) := by decide +kernel
theorem dX1_readUnit_124 : decode cX1_readUnit 124 = .ok (.ifCond .eq 13, 3) := by decide +kernel
theorem dX1_readUnit_137 : decode cX1_readUnit 137 = .ok (.aload_n 1, 1) := by decide +kernel
theorem dX1_factNamed_0 : decode cX1_factNamed 0 = .ok (.aload_n 0, 1) := by decide +kernel
theorem dX1_factNamed_1 : decode cX1_factNamed 1 = .ok (.ldc 103, 2) := by decide +kernel
theorem dX1_factNamed_3 : decode cX1_factNamed 3 = .ok (.invokevirtual 86, 3) := by decide +kernel
theorem dX1_factNamed_6 : decode cX1_factNamed 6 = .ok (.ifCond .eq 5, 3) := by decide +kernel
theorem dX1_factNamed_11 : decode cX1_factNamed 11 = .ok (.aload_n 0, 1) := by decide +kernel
theorem dX1_factNamed_12 : decode cX1_factNamed 12 = .ok (.ldc 105, 2) := by decide +kernel
theorem dX1_factNamed_14 : decode cX1_factNamed 14 = .ok (.invokevirtual 86, 3) := by decide +kernel
theorem dX1_factNamed_17 : decode cX1_factNamed 17 = .ok (.ifCond .eq 5, 3) := by decide +kernel
theorem dX1_factNamed_22 : decode cX1_factNamed 22 = .ok (.aload_n 0, 1) := by decide +kernel
theorem dX1_factNamed_23 : decode cX1_factNamed 23 = .ok (.ldc 107, 2) := by decide +kernel
theorem dX1_factNamed_25 : decode cX1_factNamed 25 = .ok (.invokevirtual 86, 3) := by decide +kernel
theorem dX1_factNamed_28 : decode cX1_factNamed 28 = .ok (.ifCond .eq 5, 3) := by decide +kernel
theorem dX1_factNamed_33 : decode cX1_factNamed 33 = .ok (.aload_n 0, 1) := by decide +kernel
theorem dX1_factNamed_34 : decode cX1_factNamed 34 = .ok (.ldc 109, 2) := by decide +kernel
theorem dX1_factNamed_36 : decode cX1_factNamed 36 = .ok (.invokevirtual 86, 3) := by decide +kernel
theorem dX1_factNamed_39 : decode cX1_factNamed 39 = .ok (.ifCond .eq 5, 3) := by decide +kernel
theorem dX1_factNamed_44 : decode cX1_factNamed 44 = .ok (.aload_n 0, 1) := by decide +kernel
theorem dX1_factNamed_45 : decode cX1_factNamed 45 = .ok (.ldc 111, 2) := by decide +kernel
theorem dX1_factNamed_47 : decode cX1_factNamed 47 = .ok (.invokevirtual 86, 3) := by decide +kernel
theorem dX1_factNamed_50 : decode cX1_factNamed 50 = .ok (.ifCond .eq 5, 3) := by decide +kernel
theorem dX1_factNamed_55 : decode cX1_factNamed 55 = .ok (.aload_n 0, 1) := by decide +kernel
theorem dX1_factNamed_56 : decode cX1_factNamed 56 = .ok (.ldc 113, 2) := by decide +kernel
theorem dX1_factNamed_58 : decode cX1_factNamed 58 = .ok (.invokevirtual 86, 3) := by decide +kernel
theorem dX1_factNamed_61 : decode cX1_factNamed 61 = .ok (.ifCond .eq 5, 3) := by decide +kernel
theorem dX1_factNamed_66 : decode cX1_factNamed 66 = .ok (.aload_n 0, 1) := by decide +kernel
theorem dX1_factNamed_67 : decode cX1_factNamed 67 = .ok (.ldc 115, 2) := by decide +kernel
theorem dX1_factNamed_69 : decode cX1_factNamed 69 = .ok (.invokevirtual 86, 3) := by decide +kernel
theorem dX1_factNamed_72 : decode cX1_factNamed 72 = .ok (.ifCond .eq 6, 3) := by decide +kernel
theorem dX1_factNamed_78 : decode cX1_factNamed 78 = .ok (.aload_n 0, 1) := by decide +kernel
theorem dX1_factNamed_79 : decode cX1_factNamed 79 = .ok (.ldc 117, 2) := by decide +kernel
theorem dX1_factNamed_81 : decode cX1_factNamed 81 = .ok (.invokevirtual 86, 3) := by decide +kernel
theorem dX1_factNamed_84 : decode cX1_factNamed 84 = .ok (.ifCond .eq 8, 3) := by decide +kernel
theorem dX1_factNamed_92 : decode cX1_factNamed 92 = .ok (.iconst (-1), 1) := by decide +kernel
theorem dX1_factNamed_93 : decode cX1_factNamed 93 = .ok (.ireturn, 1) := by decide +kernel
theorem dX1_factNamed_87 : decode cX1_factNamed 87 = .ok (.bipush 7, 2) := by decide +kernel
theorem dX1_factNamed_89 : decode cX1_factNamed 89 = .ok (.goto 4, 3) := by decide +kernel
theorem dX1_factNamed_75 : decode cX1_factNamed 75 = .ok (.bipush 6, 2) := by decide +kernel
theorem dX1_factNamed_77 : decode cX1_factNamed 77 = .ok (.ireturn, 1) := by decide +kernel
theorem dX1_factNamed_64 : decode cX1_factNamed 64 = .ok (.iconst 5, 1) := by decide +kernel
theorem dX1_factNamed_65 : decode cX1_factNamed 65 = .ok (.ireturn, 1) := by decide +kernel
theorem dX1_factNamed_53 : decode cX1_factNamed 53 = .ok (.iconst 4, 1) := by decide +kernel
theorem dX1_factNamed_54 : decode cX1_factNamed 54 = .ok (.ireturn, 1) := by decide +kernel
theorem dX1_factNamed_42 : decode cX1_factNamed 42 = .ok (.iconst 3, 1) := by decide +kernel
theorem dX1_factNamed_43 : decode cX1_factNamed 43 = .ok (.ireturn, 1) := by decide +kernel
theorem dX1_factNamed_31 : decode cX1_factNamed 31 = .ok (.iconst 2, 1) := by decide +kernel
theorem dX1_factNamed_32 : decode cX1_factNamed 32 = .ok (.ireturn, 1) := by decide +kernel
theorem dX1_factNamed_20 : decode cX1_factNamed 20 = .ok (.iconst 1, 1) := by decide +kernel
theorem dX1_factNamed_21 : decode cX1_factNamed 21 = .ok (.ireturn, 1) := by decide +kernel
theorem dX1_factNamed_9 : decode cX1_factNamed 9 = .ok (.iconst 0, 1) := by decide +kernel
theorem dX1_factNamed_10 : decode cX1_factNamed 10 = .ok (.ireturn, 1) := by decide +kernel
theorem dX1_readUnit_138 : decode cX1_readUnit 138 = .ok (.invokestatic 96, 3) := by decide +kernel
theorem dX1_readUnit_141 : decode cX1_readUnit 141 = .ok (.istore_n 3, 1) := by decide +kernel
theorem dX1_readUnit_142 : decode cX1_readUnit 142 = .ok (.iload_n 3, 1) := by decide +kernel
theorem dX1_readUnit_143 : decode cX1_readUnit 143 = .ok (.iconst (-1), 1) := by decide +kernel
theorem dX1_readUnit_144 : decode cX1_readUnit 144 = .ok (.if_icmp .ne 9, 3) := by decide +kernel
theorem dX1_readUnit_153 : decode cX1_readUnit 153 = .ok (.aload_n 0, 1) := by decide +kernel
theorem dX1_readUnit_154 : decode cX1_readUnit 154 = .ok (.sipush 1000, 3) := by decide +kernel
theorem dX1_readUnit_157 : decode cX1_readUnit 157 = .ok (.iload_n 3, 1) := by decide +kernel
theorem dX1_readUnit_158 : decode cX1_readUnit 158 = .ok (.iadd, 1) := by decide +kernel
theorem dX1_readUnit_159 : decode cX1_readUnit 159 = .ok (.invokevirtual 28, 3) := by decide +kernel
theorem dX1_readUnit_162 : decode cX1_readUnit 162 = .ok (.ireturn, 1) := by decide +kernel
theorem dX1_readUnit_147 : decode cX1_readUnit 147 = .ok (.aload_n 1, 1) := by decide +kernel
theorem dX1_readUnit_148 : decode cX1_readUnit 148 = .ok (.iconst 1, 1) := by decide +kernel
theorem dX1_readUnit_149 : decode cX1_readUnit 149 = .ok (.invokevirtual 100, 3) := by decide +kernel
theorem dX1_readUnit_152 : decode cX1_readUnit 152 = .ok (.ireturn, 1) := by decide +kernel
theorem dX1_readUnit_127 : decode cX1_readUnit 127 = .ok (.aload_n 0, 1) := by decide +kernel
theorem dX1_readUnit_128 : decode cX1_readUnit 128 = .ok (.aload_n 1, 1) := by decide +kernel
theorem dX1_readUnit_129 : decode cX1_readUnit 129 = .ok (.iload_n 2, 1) := by decide +kernel
theorem dX1_readUnit_130 : decode cX1_readUnit 130 = .ok (.sipush 2006, 3) := by decide +kernel
theorem dX1_readPair_0 : decode cX1_readPair 0 = .ok (.iload_n 2, 1) := by decide +kernel
theorem dX1_readPair_1 : decode cX1_readPair 1 = .ok (.bipush 6, 2) := by decide +kernel
theorem dX1_readPair_3 : decode cX1_readPair 3 = .ok (.if_icmp .lt 9, 3) := by decide +kernel
theorem dX1_readPair_12 : decode cX1_readPair 12 = .ok (.aload_n 1, 1) := by decide +kernel
theorem dX1_readPair_13 : decode cX1_readPair 13 = .ok (.bipush 91, 2) := by decide +kernel
theorem dX1_readPair_15 : decode cX1_readPair 15 = .ok (.invokevirtual 78, 3) := by decide +kernel
theorem dX1_readPair_18 : decode cX1_readPair 18 = .ok (.ifCond .eq 55, 3) := by decide +kernel
theorem dX1_readPair_73 : decode cX1_readPair 73 = .ok (.iconst 0, 1) := by decide +kernel
theorem dX1_readPair_74 : decode cX1_readPair 74 = .ok (.ireturn, 1) := by decide +kernel
theorem dX1_readPair_21 : decode cX1_readPair 21 = .ok (.aload_n 0, 1) := by decide +kernel
theorem dX1_readPair_22 : decode cX1_readPair 22 = .ok (.aload_n 1, 1) := by decide +kernel
theorem dX1_readPair_23 : decode cX1_readPair 23 = .ok (.iload_n 2, 1) := by decide +kernel
theorem dX1_readPair_24 : decode cX1_readPair 24 = .ok (.iconst 1, 1) := by decide +kernel
theorem dX1_readPair_25 : decode cX1_readPair 25 = .ok (.iadd, 1) := by decide +kernel
theorem dX1_readPair_26 : decode cX1_readPair 26 = .ok (.invokevirtual 38, 3) := by decide +kernel
theorem dX1_readPair_29 : decode cX1_readPair 29 = .ok (.ifCond .eq 44, 3) := by decide +kernel
theorem dX1_readPair_32 : decode cX1_readPair 32 = .ok (.aload_n 1, 1) := by decide +kernel
theorem dX1_readPair_33 : decode cX1_readPair 33 = .ok (.bipush 44, 2) := by decide +kernel
theorem dX1_readPair_35 : decode cX1_readPair 35 = .ok (.invokevirtual 78, 3) := by decide +kernel
theorem dX1_readPair_38 : decode cX1_readPair 38 = .ok (.ifCond .eq 35, 3) := by decide +kernel
theorem dX1_readPair_41 : decode cX1_readPair 41 = .ok (.aload_n 0, 1) := by decide +kernel
theorem dX1_readPair_42 : decode cX1_readPair 42 = .ok (.aload_n 1, 1) := by decide +kernel
theorem dX1_readPair_43 : decode cX1_readPair 43 = .ok (.iload_n 2, 1) := by decide +kernel
theorem dX1_readPair_44 : decode cX1_readPair 44 = .ok (.iconst 1, 1) := by decide +kernel
theorem dX1_readPair_45 : decode cX1_readPair 45 = .ok (.iadd, 1) := by decide +kernel
theorem dX1_readPair_46 : decode cX1_readPair 46 = .ok (.invokevirtual 38, 3) := by decide +kernel
theorem dX1_readPair_49 : decode cX1_readPair 49 = .ok (.ifCond .eq 24, 3) := by decide +kernel
theorem dX1_readPair_52 : decode cX1_readPair 52 = .ok (.aload_n 1, 1) := by decide +kernel
theorem dX1_readPair_53 : decode cX1_readPair 53 = .ok (.bipush 93, 2) := by decide +kernel
theorem dX1_readPair_55 : decode cX1_readPair 55 = .ok (.invokevirtual 78, 3) := by decide +kernel
theorem dX1_readPair_58 : decode cX1_readPair 58 = .ok (.ifCond .eq 15, 3) := by decide +kernel
theorem dX1_readPair_61 : decode cX1_readPair 61 = .ok (.aload_n 0, 1) := by decide +kernel
theorem dX1_readPair_62 : decode cX1_readPair 62 = .ok (.iload_n 3, 1) := by decide +kernel
theorem dX1_readPair_63 : decode cX1_readPair 63 = .ok (.invokevirtual 28, 3) := by decide +kernel
theorem dX1_readPair_66 : decode cX1_readPair 66 = .ok (.ifCond .eq 7, 3) := by decide +kernel
theorem dX1_readPair_69 : decode cX1_readPair 69 = .ok (.iconst 1, 1) := by decide +kernel
theorem dX1_readPair_70 : decode cX1_readPair 70 = .ok (.goto 4, 3) := by decide +kernel
theorem dX1_readPair_6 : decode cX1_readPair 6 = .ok (.aload_n 1, 1) := by decide +kernel
theorem dX1_readPair_7 : decode cX1_readPair 7 = .ok (.iconst 3, 1) := by decide +kernel
theorem dX1_readPair_8 : decode cX1_readPair 8 = .ok (.invokevirtual 100, 3) := by decide +kernel
theorem dX1_readPair_11 : decode cX1_readPair 11 = .ok (.ireturn, 1) := by decide +kernel
theorem dX1_readUnit_133 : decode cX1_readUnit 133 = .ok (.invokevirtual 90, 3) := by decide +kernel
theorem dX1_readUnit_136 : decode cX1_readUnit 136 = .ok (.ireturn, 1) := by decide +kernel
theorem dX1_readUnit_108 : decode cX1_readUnit 108 = .ok (.aload_n 0, 1) := by decide +kernel
theorem dX1_readUnit_109 : decode cX1_readUnit 109 = .ok (.aload_n 1, 1) := by decide +kernel
theorem dX1_readUnit_110 : decode cX1_readUnit 110 = .ok (.iload_n 2, 1) := by decide +kernel
theorem dX1_readUnit_111 : decode cX1_readUnit 111 = .ok (.sipush 2005, 3) := by decide +kernel
theorem dX1_readUnit_114 : decode cX1_readUnit 114 = .ok (.invokevirtual 90, 3) := by decide +kernel
theorem dX1_readUnit_117 : decode cX1_readUnit 117 = .ok (.ireturn, 1) := by decide +kernel
theorem dX1_readUnit_44 : decode cX1_readUnit 44 = .ok (.iload_n 2, 1) := by decide +kernel
theorem dX1_readUnit_45 : decode cX1_readUnit 45 = .ok (.bipush 6, 2) := by decide +kernel
theorem dX1_readUnit_47 : decode cX1_readUnit 47 = .ok (.if_icmp .lt 13, 3) := by decide +kernel
theorem dX1_readUnit_60 : decode cX1_readUnit 60 = .ok (.aload_n 1, 1) := by decide +kernel
theorem dX1_readUnit_61 : decode cX1_readUnit 61 = .ok (.bipush 40, 2) := by decide +kernel
theorem dX1_readUnit_63 : decode cX1_readUnit 63 = .ok (.invokevirtual 78, 3) := by decide +kernel
theorem dX1_readUnit_66 : decode cX1_readUnit 66 = .ok (.ifCond .eq 27, 3) := by decide +kernel
theorem dX1_readUnit_93 : decode cX1_readUnit 93 = .ok (.iconst 0, 1) := by decide +kernel
theorem dX1_readUnit_94 : decode cX1_readUnit 94 = .ok (.ireturn, 1) := by decide +kernel
theorem dX1_readUnit_69 : decode cX1_readUnit 69 = .ok (.aload_n 0, 1) := by decide +kernel
theorem dX1_readUnit_70 : decode cX1_readUnit 70 = .ok (.aload_n 1, 1) := by decide +kernel
theorem dX1_readUnit_71 : decode cX1_readUnit 71 = .ok (.iload_n 2, 1) := by decide +kernel
theorem dX1_readUnit_72 : decode cX1_readUnit 72 = .ok (.iconst 1, 1) := by decide +kernel
theorem dX1_readUnit_73 : decode cX1_readUnit 73 = .ok (.iadd, 1) := by decide +kernel
theorem dX1_readUnit_74 : decode cX1_readUnit 74 = .ok (.invokevirtual 38, 3) := by decide +kernel
theorem dX1_readUnit_77 : decode cX1_readUnit 77 = .ok (.ifCond .eq 16, 3) := by decide +kernel
theorem dX1_readUnit_80 : decode cX1_readUnit 80 = .ok (.aload_n 1, 1) := by decide +kernel
theorem dX1_readUnit_81 : decode cX1_readUnit 81 = .ok (.bipush 41, 2) := by decide +kernel
theorem dX1_readUnit_83 : decode cX1_readUnit 83 = .ok (.invokevirtual 78, 3) := by decide +kernel
theorem dX1_readUnit_86 : decode cX1_readUnit 86 = .ok (.ifCond .eq 7, 3) := by decide +kernel
theorem dX1_readUnit_89 : decode cX1_readUnit 89 = .ok (.iconst 1, 1) := by decide +kernel
theorem dX1_readUnit_90 : decode cX1_readUnit 90 = .ok (.goto 4, 3) := by decide +kernel
theorem dX1_readUnit_50 : decode cX1_readUnit 50 = .ok (.aload_n 1, 1) := by decide +kernel
theorem dX1_readUnit_51 : decode cX1_readUnit 51 = .ok (.aload_n 1, 1) := by decide +kernel
theorem dX6_place_0 : decode cX6_place 0 = .ok (.aload_n 0, 1) := by decide +kernel
theorem dX6_place_1 : decode cX6_place 1 = .ok (.invokevirtual 31, 3) := by decide +kernel
theorem dX6_place_4 : decode cX6_place 4 = .ok (.aload_n 0, 1) := by decide +kernel
theorem dX6_place_5 : decode cX6_place 5 = .ok (.getfield 25, 3) := by decide +kernel
theorem dX6_place_8 : decode cX6_place 8 = .ok (.ireturn, 1) := by decide +kernel
theorem dX1_readUnit_52 : decode cX1_readUnit 52 = .ok (.invokevirtual 48, 3) := by decide +kernel
theorem dX1_readUnit_55 : decode cX1_readUnit 55 = .ok (.iconst 3, 1) := by decide +kernel
theorem dX1_readUnit_56 : decode cX1_readUnit 56 = .ok (.invokevirtual 52, 3) := by decide +kernel
theorem dX1_readUnit_59 : decode cX1_readUnit 59 = .ok (.ireturn, 1) := by decide +kernel
theorem dX1_readUnit_7 : decode cX1_readUnit 7 = .ok (.aload_n 1, 1) := by decide +kernel
theorem dX1_readUnit_8 : decode cX1_readUnit 8 = .ok (.iconst 0, 1) := by decide +kernel
theorem dX1_readUnit_9 : decode cX1_readUnit 9 = .ok (.sipush 999, 3) := by decide +kernel
theorem dX1_readUnit_12 : decode cX1_readUnit 12 = .ok (.invokevirtual 69, 3) := by decide +kernel
theorem dX1_readUnit_15 : decode cX1_readUnit 15 = .ok (.ifCond .eq 18, 3) := by decide +kernel
theorem dX1_readUnit_33 : decode cX1_readUnit 33 = .ok (.iconst 0, 1) := by decide +kernel
theorem dX1_readUnit_34 : decode cX1_readUnit 34 = .ok (.ireturn, 1) := by decide +kernel
theorem dX1_readUnit_18 : decode cX1_readUnit 18 = .ok (.aload_n 0, 1) := by decide +kernel
theorem dX1_readUnit_19 : decode cX1_readUnit 19 = .ok (.aload_n 1, 1) := by decide +kernel
theorem dX1_readUnit_20 : decode cX1_readUnit 20 = .ok (.getfield 72, 3) := by decide +kernel
theorem dX1_readUnit_23 : decode cX1_readUnit 23 = .ok (.invokevirtual 28, 3) := by decide +kernel
theorem dX1_readUnit_26 : decode cX1_readUnit 26 = .ok (.ifCond .eq 7, 3) := by decide +kernel
theorem dX1_readUnit_29 : decode cX1_readUnit 29 = .ok (.iconst 1, 1) := by decide +kernel
theorem dX1_readUnit_30 : decode cX1_readUnit 30 = .ok (.goto 4, 3) := by decide +kernel
theorem dX1_readProduct_3 : decode cX1_readProduct 3 = .ok (.invokevirtual 63, 3) := by decide +kernel
theorem dX1_readProduct_6 : decode cX1_readProduct 6 = .ok (.ifCond .ne 5, 3) := by decide +kernel
theorem dX1_readProduct_11 : decode cX1_readProduct 11 = .ok (.iconst 0, 1) := by decide +kernel
theorem dX1_readProduct_12 : decode cX1_readProduct 12 = .ok (.istore_n 3, 1) := by decide +kernel
theorem dX1_readProduct_9 : decode cX1_readProduct 9 = .ok (.iconst 0, 1) := by decide +kernel
theorem dX1_readProduct_10 : decode cX1_readProduct 10 = .ok (.ireturn, 1) := by decide +kernel
theorem dX1_readProduct_13 : decode cX1_readProduct 13 = .ok (.iload_n 3, 1) := by decide +kernel
theorem dX1_readProduct_14 : decode cX1_readProduct 14 = .ok (.sipush 160, 3) := by decide +kernel
theorem dX1_readProduct_17 : decode cX1_readProduct 17 = .ok (.if_icmp .ge 84, 3) := by decide +kernel
theorem dX1_readProduct_101 : decode cX1_readProduct 101 = .ok (.iconst 0, 1) := by decide +kernel
theorem dX1_readProduct_102 : decode cX1_readProduct 102 = .ok (.ireturn, 1) := by decide +kernel
theorem dX1_readProduct_20 : decode cX1_readProduct 20 = .ok (.aload_n 1, 1) := by decide +kernel
theorem dX1_readProduct_21 : decode cX1_readProduct 21 = .ok (.bipush 42, 2) := by decide +kernel
theorem dX6_takes_0 : decode cX6_takes 0 = .ok (.aload_n 0, 1) := by decide +kernel
theorem dX6_takes_1 : decode cX6_takes 1 = .ok (.invokevirtual 31, 3) := by decide +kernel
theorem dX6_takes_4 : decode cX6_takes 4 = .ok (.aload_n 0, 1) := by decide +kernel
theorem dX6_takes_5 : decode cX6_takes 5 = .ok (.getfield 25, 3) := by decide +kernel
theorem dX6_takes_8 : decode cX6_takes 8 = .ok (.aload_n 0, 1) := by decide +kernel
theorem dX6_takes_9 : decode cX6_takes 9 = .ok (.getfield 22, 3) := by decide +kernel
theorem dX6_takes_12 : decode cX6_takes 12 = .ok (.if_icmp .ge 28, 3) := by decide +kernel
theorem dX6_takes_40 : decode cX6_takes 40 = .ok (.iconst 0, 1) := by decide +kernel
theorem dX6_takes_41 : decode cX6_takes 41 = .ok (.ireturn, 1) := by decide +kernel
theorem dX6_takes_15 : decode cX6_takes 15 = .ok (.aload_n 0, 1) := by decide +kernel
theorem dX6_takes_16 : decode cX6_takes 16 = .ok (.getfield 11, 3) := by decide +kernel
theorem dX6_takes_19 : decode cX6_takes 19 = .ok (.aload_n 0, 1) := by decide +kernel
theorem dX6_takes_20 : decode cX6_takes 20 = .ok (.getfield 25, 3) := by decide +kernel
theorem dX6_takes_23 : decode cX6_takes 23 = .ok (.iaload, 1) := by decide +kernel
theorem dX6_takes_24 : decode cX6_takes 24 = .ok (.iload_n 1, 1) := by decide +kernel
theorem dX6_takes_25 : decode cX6_takes 25 = .ok (.if_icmp .ne 15, 3) := by decide +kernel
theorem dX6_takes_28 : decode cX6_takes 28 = .ok (.aload_n 0, 1) := by decide +kernel
theorem dX6_takes_29 : decode cX6_takes 29 = .ok (.dup, 1) := by decide +kernel
theorem dX6_takes_30 : decode cX6_takes 30 = .ok (.getfield 25, 3) := by decide +kernel
theorem dX6_takes_33 : decode cX6_takes 33 = .ok (.iconst 1, 1) := by decide +kernel
theorem dX6_takes_34 : decode cX6_takes 34 = .ok (.iadd, 1) := by decide +kernel
theorem dX6_takes_35 : decode cX6_takes 35 = .ok (.putfield 25, 3) := by decide +kernel
theorem dX6_takes_38 : decode cX6_takes 38 = .ok (.iconst 1, 1) := by decide +kernel
theorem dX6_takes_39 : decode cX6_takes 39 = .ok (.ireturn, 1) := by decide +kernel
theorem dX1_readProduct_23 : decode cX1_readProduct 23 = .ok (.invokevirtual 59, 3) := by decide +kernel
theorem dX1_readProduct_26 : decode cX1_readProduct 26 = .ok (.ifCond .eq 9, 3) := by decide +kernel
theorem dX1_readProduct_35 : decode cX1_readProduct 35 = .ok (.aload_n 1, 1) := by decide +kernel
theorem dX1_readProduct_36 : decode cX1_readProduct 36 = .ok (.bipush 47, 2) := by decide +kernel
theorem dX1_readProduct_38 : decode cX1_readProduct 38 = .ok (.invokevirtual 59, 3) := by decide +kernel
theorem dX1_readProduct_41 : decode cX1_readProduct 41 = .ok (.ifCond .eq 9, 3) := by decide +kernel
theorem dX1_readProduct_50 : decode cX1_readProduct 50 = .ok (.aload_n 1, 1) := by decide +kernel
theorem dX1_readProduct_51 : decode cX1_readProduct 51 = .ok (.bipush 37, 2) := by decide +kernel
theorem dX1_readProduct_53 : decode cX1_readProduct 53 = .ok (.invokevirtual 59, 3) := by decide +kernel
theorem dX1_readProduct_56 : decode cX1_readProduct 56 = .ok (.ifCond .eq 9, 3) := by decide +kernel
theorem dX1_readProduct_65 : decode cX1_readProduct 65 = .ok (.iconst 0, 1) := by decide +kernel
theorem dX1_readProduct_59 : decode cX1_readProduct 59 = .ok (.sipush 2004, 3) := by decide +kernel
theorem dX1_readProduct_62 : decode cX1_readProduct 62 = .ok (.goto 4, 3) := by decide +kernel
theorem dX1_readProduct_44 : decode cX1_readProduct 44 = .ok (.sipush 2003, 3) := by decide +kernel
theorem dX1_readProduct_47 : decode cX1_readProduct 47 = .ok (.goto 19, 3) := by decide +kernel
theorem dX1_readProduct_29 : decode cX1_readProduct 29 = .ok (.sipush 2002, 3) := by decide +kernel
theorem dX1_readProduct_32 : decode cX1_readProduct 32 = .ok (.goto 34, 3) := by decide +kernel
theorem dX1_readProduct_66 : decode cX1_readProduct 66 = .ok (.istore 4, 2) := by decide +kernel
theorem dX1_readProduct_68 : decode cX1_readProduct 68 = .ok (.iload 4, 2) := by decide +kernel
theorem dX1_readProduct_70 : decode cX1_readProduct 70 = .ok (.ifCond .ne 5, 3) := by decide +kernel
theorem dX1_readProduct_75 : decode cX1_readProduct 75 = .ok (.aload_n 0, 1) := by decide +kernel
theorem dX1_readProduct_76 : decode cX1_readProduct 76 = .ok (.aload_n 1, 1) := by decide +kernel
theorem dX1_readProduct_77 : decode cX1_readProduct 77 = .ok (.iload_n 2, 1) := by decide +kernel
theorem dX1_readProduct_78 : decode cX1_readProduct 78 = .ok (.invokevirtual 63, 3) := by decide +kernel
theorem dX1_readProduct_81 : decode cX1_readProduct 81 = .ok (.ifCond .eq 12, 3) := by decide +kernel
theorem dX1_readProduct_93 : decode cX1_readProduct 93 = .ok (.iconst 0, 1) := by decide +kernel
theorem dX1_readProduct_94 : decode cX1_readProduct 94 = .ok (.ireturn, 1) := by decide +kernel
theorem dX1_readProduct_84 : decode cX1_readProduct 84 = .ok (.aload_n 0, 1) := by decide +kernel
theorem dX1_readProduct_85 : decode cX1_readProduct 85 = .ok (.iload 4, 2) := by decide +kernel
theorem dX1_readProduct_87 : decode cX1_readProduct 87 = .ok (.invokevirtual 28, 3) := by decide +kernel
theorem dX1_readProduct_90 : decode cX1_readProduct 90 = .ok (.ifCond .ne 5, 3) := by decide +kernel
theorem dX1_readProduct_95 : decode cX1_readProduct 95 = .ok (.iinc 3 1, 3) := by decide +kernel
theorem dX1_readProduct_98 : decode cX1_readProduct 98 = .ok (.goto (-85), 3) := by decide +kernel
theorem dX1_readProduct_73 : decode cX1_readProduct 73 = .ok (.iconst 1, 1) := by decide +kernel
theorem dX1_readProduct_74 : decode cX1_readProduct 74 = .ok (.ireturn, 1) := by decide +kernel
theorem dX1_readSum_3 : decode cX1_readSum 3 = .ok (.invokevirtual 56, 3) := by decide +kernel
theorem dX1_readSum_6 : decode cX1_readSum 6 = .ok (.ifCond .ne 5, 3) := by decide +kernel
theorem dX1_readSum_11 : decode cX1_readSum 11 = .ok (.iconst 0, 1) := by decide +kernel
theorem dX1_readSum_12 : decode cX1_readSum 12 = .ok (.istore_n 3, 1) := by decide +kernel
theorem dX1_readSum_9 : decode cX1_readSum 9 = .ok (.iconst 0, 1) := by decide +kernel
theorem dX1_readSum_10 : decode cX1_readSum 10 = .ok (.ireturn, 1) := by decide +kernel
theorem dX1_readSum_13 : decode cX1_readSum 13 = .ok (.iload_n 3, 1) := by decide +kernel
theorem dX1_readSum_14 : decode cX1_readSum 14 = .ok (.sipush 160, 3) := by decide +kernel
theorem dX1_readSum_17 : decode cX1_readSum 17 = .ok (.if_icmp .ge 69, 3) := by decide +kernel
theorem dX1_readSum_86 : decode cX1_readSum 86 = .ok (.iconst 0, 1) := by decide +kernel
theorem dX1_readSum_87 : decode cX1_readSum 87 = .ok (.ireturn, 1) := by decide +kernel
theorem dX1_readSum_20 : decode cX1_readSum 20 = .ok (.aload_n 1, 1) := by decide +kernel
theorem dX1_readSum_21 : decode cX1_readSum 21 = .ok (.bipush 43, 2) := by decide +kernel
theorem dX1_readSum_23 : decode cX1_readSum 23 = .ok (.invokevirtual 59, 3) := by decide +kernel
theorem dX1_readSum_26 : decode cX1_readSum 26 = .ok (.ifCond .eq 9, 3) := by decide +kernel
theorem dX1_readSum_35 : decode cX1_readSum 35 = .ok (.aload_n 1, 1) := by decide +kernel
theorem dX1_readSum_36 : decode cX1_readSum 36 = .ok (.bipush 45, 2) := by decide +kernel
theorem dX1_readSum_38 : decode cX1_readSum 38 = .ok (.invokevirtual 59, 3) := by decide +kernel
theorem dX1_readSum_41 : decode cX1_readSum 41 = .ok (.ifCond .eq 9, 3) := by decide +kernel
theorem dX1_readSum_50 : decode cX1_readSum 50 = .ok (.iconst 0, 1) := by decide +kernel
theorem dX1_readSum_44 : decode cX1_readSum 44 = .ok (.sipush 2001, 3) := by decide +kernel
theorem dX1_readSum_47 : decode cX1_readSum 47 = .ok (.goto 4, 3) := by decide +kernel
theorem dX1_readSum_29 : decode cX1_readSum 29 = .ok (.sipush 2000, 3) := by decide +kernel
theorem dX1_readSum_32 : decode cX1_readSum 32 = .ok (.goto 19, 3) := by decide +kernel
theorem dX1_readSum_51 : decode cX1_readSum 51 = .ok (.istore 4, 2) := by decide +kernel
theorem dX1_readSum_53 : decode cX1_readSum 53 = .ok (.iload 4, 2) := by decide +kernel
theorem dX1_readSum_55 : decode cX1_readSum 55 = .ok (.ifCond .ne 5, 3) := by decide +kernel
theorem dX1_readSum_60 : decode cX1_readSum 60 = .ok (.aload_n 0, 1) := by decide +kernel
theorem dX1_readSum_61 : decode cX1_readSum 61 = .ok (.aload_n 1, 1) := by decide +kernel
theorem dX1_readSum_62 : decode cX1_readSum 62 = .ok (.iload_n 2, 1) := by decide +kernel
theorem dX1_readSum_63 : decode cX1_readSum 63 = .ok (.invokevirtual 56, 3) := by decide +kernel
theorem dX1_readSum_66 : decode cX1_readSum 66 = .ok (.ifCond .eq 12, 3) := by decide +kernel
theorem dX1_readSum_78 : decode cX1_readSum 78 = .ok (.iconst 0, 1) := by decide +kernel
theorem dX1_readSum_79 : decode cX1_readSum 79 = .ok (.ireturn, 1) := by decide +kernel
theorem dX1_readSum_69 : decode cX1_readSum 69 = .ok (.aload_n 0, 1) := by decide +kernel
theorem dX1_readSum_70 : decode cX1_readSum 70 = .ok (.iload 4, 2) := by decide +kernel
theorem dX1_readSum_72 : decode cX1_readSum 72 = .ok (.invokevirtual 28, 3) := by decide +kernel
theorem dX1_readSum_75 : decode cX1_readSum 75 = .ok (.ifCond .ne 5, 3) := by decide +kernel
theorem dX1_readSum_80 : decode cX1_readSum 80 = .ok (.iinc 3 1, 3) := by decide +kernel
theorem dX1_readSum_83 : decode cX1_readSum 83 = .ok (.goto (-70), 3) := by decide +kernel
theorem dX1_readSum_58 : decode cX1_readSum 58 = .ok (.iconst 1, 1) := by decide +kernel
theorem dX1_readSum_59 : decode cX1_readSum 59 = .ok (.ireturn, 1) := by decide +kernel
theorem dX1_readFrom_8 : decode cX1_readFrom 8 = .ok (.invokevirtual 38, 3) := by decide +kernel
theorem dX1_readFrom_11 : decode cX1_readFrom 11 = .ok (.ifCond .ne 5, 3) := by decide +kernel
theorem dX1_readFrom_16 : decode cX1_readFrom 16 = .ok (.aload_n 1, 1) := by decide +kernel
theorem dX1_readFrom_17 : decode cX1_readFrom 17 = .ok (.invokevirtual 42, 3) := by decide +kernel
theorem dX1_readFrom_20 : decode cX1_readFrom 20 = .ok (.ifCond .ne 15, 3) := by decide +kernel
theorem dX1_readFrom_35 : decode cX1_readFrom 35 = .ok (.iconst 1, 1) := by decide +kernel
theorem dX1_readFrom_36 : decode cX1_readFrom 36 = .ok (.goto 4, 3) := by decide +kernel
theorem dX1_readFrom_40 : decode cX1_readFrom 40 = .ok (.ireturn, 1) := by decide +kernel
theorem dX1_readFrom_23 : decode cX1_readFrom 23 = .ok (.aload_n 1, 1) := by decide +kernel
theorem dX1_readFrom_24 : decode cX1_readFrom 24 = .ok (.aload_n 1, 1) := by decide +kernel
theorem dX1_readFrom_25 : decode cX1_readFrom 25 = .ok (.invokevirtual 48, 3) := by decide +kernel
theorem dX1_readFrom_28 : decode cX1_readFrom 28 = .ok (.iconst 1, 1) := by decide +kernel
theorem dX1_readFrom_29 : decode cX1_readFrom 29 = .ok (.invokevirtual 52, 3) := by decide +kernel
theorem dX1_readFrom_32 : decode cX1_readFrom 32 = .ok (.ifCond .eq 7, 3) := by decide +kernel
theorem dX1_readFrom_39 : decode cX1_readFrom 39 = .ok (.iconst 0, 1) := by decide +kernel
theorem dX1_readFrom_14 : decode cX1_readFrom 14 = .ok (.iconst 0, 1) := by decide +kernel
theorem dX1_readFrom_15 : decode cX1_readFrom 15 = .ok (.ireturn, 1) := by decide +kernel
theorem dX9_law_16 : decode cX9_law 16 = .ok (.invokevirtual 126, 3) := by decide +kernel
theorem dX9_law_19 : decode cX9_law 19 = .ok (.ifCond .ne 14, 3) := by decide +kernel
theorem dX9_law_33 : decode cX9_law 33 = .ok (.aload_n 0, 1) := by decide +kernel
theorem dX9_law_34 : decode cX9_law 34 = .ok (.getfield 34, 3) := by decide +kernel
theorem dX9_law_37 : decode cX9_law 37 = .ok (.aload_n 0, 1) := by decide +kernel
theorem dX9_law_38 : decode cX9_law 38 = .ok (.getfield 38, 3) := by decide +kernel
theorem dX1_copyFrom_0 : decode cX1_copyFrom 0 = .ok (.aload_n 1, 1) := by decide +kernel
theorem dX1_copyFrom_1 : decode cX1_copyFrom 1 = .ok (.getfield 11, 3) := by decide +kernel
theorem dX1_copyFrom_4 : decode cX1_copyFrom 4 = .ok (.iconst 0, 1) := by decide +kernel
theorem dX1_copyFrom_5 : decode cX1_copyFrom 5 = .ok (.aload_n 0, 1) := by decide +kernel
theorem dX1_copyFrom_6 : decode cX1_copyFrom 6 = .ok (.getfield 11, 3) := by decide +kernel
theorem dX1_copyFrom_9 : decode cX1_copyFrom 9 = .ok (.iconst 0, 1) := by decide +kernel
theorem dX1_copyFrom_10 : decode cX1_copyFrom 10 = .ok (.sipush 160, 3) := by decide +kernel
theorem dX1_copyFrom_13 : decode cX1_copyFrom 13 = .ok (.invokestatic 32, 3) := by decide +kernel
theorem dX1_copyFrom_16 : decode cX1_copyFrom 16 = .ok (.aload_n 0, 1) := by decide +kernel
theorem dX1_copyFrom_17 : decode cX1_copyFrom 17 = .ok (.aload_n 1, 1) := by decide +kernel
theorem dX1_copyFrom_18 : decode cX1_copyFrom 18 = .ok (.getfield 24, 3) := by decide +kernel
theorem dX1_copyFrom_21 : decode cX1_copyFrom 21 = .ok (.putfield 24, 3) := by decide +kernel
theorem dX1_copyFrom_24 : decode cX1_copyFrom 24 = .ok (.return_, 1) := by decide +kernel
theorem dX9_law_41 : decode cX9_law 41 = .ok (.invokevirtual 127, 3) := by decide +kernel
theorem dX9_law_44 : decode cX9_law 44 = .ok (.iconst 1, 1) := by decide +kernel
theorem dX9_law_45 : decode cX9_law 45 = .ok (.ireturn, 1) := by decide +kernel
theorem dX9_law_22 : decode cX9_law 22 = .ok (.aload_n 0, 1) := by decide +kernel
theorem dX9_law_23 : decode cX9_law 23 = .ok (.getfield 21, 3) := by decide +kernel
theorem dX9_law_26 : decode cX9_law 26 = .ok (.getfield 103, 3) := by decide +kernel
theorem dX9_law_29 : decode cX9_law 29 = .ok (.bipush 10, 2) := by decide +kernel
theorem dX9_law_31 : decode cX9_law 31 = .ok (.isub, 1) := by decide +kernel
theorem dX9_law_32 : decode cX9_law 32 = .ok (.ireturn, 1) := by decide +kernel
theorem dX9_work_0 : decode cX9_work 0 = .ok (.aload_n 0, 1) := by decide +kernel
theorem dX9_work_1 : decode cX9_work 1 = .ok (.iload_n 1, 1) := by decide +kernel
theorem dX9_work_2 : decode cX9_work 2 = .ok (.sipush 150, 3) := by decide +kernel
theorem dX9_work_5 : decode cX9_work 5 = .ok (.invokevirtual 95, 3) := by decide +kernel
theorem dX9_work_8 : decode cX9_work 8 = .ok (.aload_n 0, 1) := by decide +kernel
theorem dX9_work_9 : decode cX9_work 9 = .ok (.getfield 65, 3) := by decide +kernel
theorem dX9_work_12 : decode cX9_work 12 = .ok (.getfield 130, 3) := by decide +kernel
theorem dX9_work_15 : decode cX9_work 15 = .ok (.bipush 16, 2) := by decide +kernel
theorem dX9_work_17 : decode cX9_work 17 = .ok (.if_icmp .lt 6, 3) := by decide +kernel
theorem dX9_work_23 : decode cX9_work 23 = .ok (.aload_n 0, 1) := by decide +kernel
theorem dX9_work_24 : decode cX9_work 24 = .ok (.getfield 54, 3) := by decide +kernel
theorem dX9_work_27 : decode cX9_work 27 = .ok (.aload_n 0, 1) := by decide +kernel
theorem dX9_work_28 : decode cX9_work 28 = .ok (.getfield 21, 3) := by decide +kernel
theorem dX9_work_31 : decode cX9_work 31 = .ok (.aload_n 0, 1) := by decide +kernel
theorem dX9_work_32 : decode cX9_work 32 = .ok (.getfield 27, 3) := by decide +kernel
theorem dX8_readFrom_0 : decode cX8_readFrom 0 = .ok (.aload_n 0, 1) := by decide +kernel
theorem dX8_readFrom_1 : decode cX8_readFrom 1 = .ok (.iconst 0, 1) := by decide +kernel
theorem dX8_readFrom_2 : decode cX8_readFrom 2 = .ok (.putfield 19, 3) := by decide +kernel
theorem dX8_readFrom_5 : decode cX8_readFrom 5 = .ok (.aload_n 0, 1) := by decide +kernel
theorem dX8_readFrom_6 : decode cX8_readFrom 6 = .ok (.iconst 0, 1) := by decide +kernel
theorem dX8_readFrom_7 : decode cX8_readFrom 7 = .ok (.putfield 23, 3) := by decide +kernel
theorem dX8_readFrom_10 : decode cX8_readFrom 10 = .ok (.aload_n 0, 1) := by decide +kernel
theorem dX8_readFrom_11 : decode cX8_readFrom 11 = .ok (.iconst 0, 1) := by decide +kernel
theorem dX8_readFrom_12 : decode cX8_readFrom 12 = .ok (.putfield 26, 3) := by decide +kernel
theorem dX8_readFrom_15 : decode cX8_readFrom 15 = .ok (.aload_n 0, 1) := by decide +kernel
theorem dX8_readFrom_16 : decode cX8_readFrom 16 = .ok (.iconst 0, 1) := by decide +kernel
theorem dX8_readFrom_17 : decode cX8_readFrom 17 = .ok (.putfield 29, 3) := by decide +kernel
theorem dX8_readFrom_20 : decode cX8_readFrom 20 = .ok (.aload_n 0, 1) := by decide +kernel
theorem dX8_readFrom_21 : decode cX8_readFrom 21 = .ok (.aload_n 1, 1) := by decide +kernel
theorem dX8_readFrom_22 : decode cX8_readFrom 22 = .ok (.aload_n 2, 1) := by decide +kernel
theorem dX8_readFrom_23 : decode cX8_readFrom 23 = .ok (.iconst 0, 1) := by decide +kernel
theorem dX8_readSteps_0 : decode cX8_readSteps 0 = .ok (.iconst 0, 1) := by decide +kernel
theorem dX8_readSteps_1 : decode cX8_readSteps 1 = .ok (.istore 4, 2) := by decide +kernel
theorem dX8_readSteps_3 : decode cX8_readSteps 3 = .ok (.iload 4, 2) := by decide +kernel
theorem dX8_readSteps_5 : decode cX8_readSteps 5 = .ok (.bipush 64, 2) := by decide +kernel
theorem dX8_readSteps_7 : decode cX8_readSteps 7 = .ok (.if_icmp .gt 55, 3) := by decide +kernel
theorem dX8_readSteps_62 : decode cX8_readSteps 62 = .ok (.iconst 0, 1) := by decide +kernel
theorem dX8_readSteps_63 : decode cX8_readSteps 63 = .ok (.ireturn, 1) := by decide +kernel
theorem dX8_readSteps_10 : decode cX8_readSteps 10 = .ok (.iload_n 3, 1) := by decide +kernel
theorem dX8_readSteps_11 : decode cX8_readSteps 11 = .ok (.ifCond .le 15, 3) := by decide +kernel
theorem dX8_readSteps_26 : decode cX8_readSteps 26 = .ok (.aload_n 1, 1) := by decide +kernel
theorem dX8_readSteps_27 : decode cX8_readSteps 27 = .ok (.invokevirtual 42, 3) := by decide +kernel
theorem dX8_readSteps_30 : decode cX8_readSteps 30 = .ok (.ifCond .eq 5, 3) := by decide +kernel
theorem dX8_readSteps_33 : decode cX8_readSteps 33 = .ok (.iconst 1, 1) := by decide +kernel
theorem dX8_readSteps_34 : decode cX8_readSteps 34 = .ok (.ireturn, 1) := by decide +kernel
theorem dX8_readSteps_14 : decode cX8_readSteps 14 = .ok (.aload_n 1, 1) := by decide +kernel
theorem dX8_readSteps_15 : decode cX8_readSteps 15 = .ok (.bipush 93, 2) := by decide +kernel
theorem dX8_readSteps_17 : decode cX8_readSteps 17 = .ok (.invokevirtual 36, 3) := by decide +kernel
theorem dX8_readSteps_20 : decode cX8_readSteps 20 = .ok (.ifCond .eq 15, 3) := by decide +kernel
theorem dX8_readSteps_23 : decode cX8_readSteps 23 = .ok (.goto 10, 3) := by decide +kernel
theorem dX8_readSteps_35 : decode cX8_readSteps 35 = .ok (.aload_n 0, 1) := by decide +kernel
theorem dX8_readSteps_36 : decode cX8_readSteps 36 = .ok (.aload_n 1, 1) := by decide +kernel
theorem dX8_readSteps_37 : decode cX8_readSteps 37 = .ok (.aload_n 2, 1) := by decide +kernel
theorem dX8_readSteps_38 : decode cX8_readSteps 38 = .ok (.iload_n 3, 1) := by decide +kernel
theorem dX8_readStep_0 : decode cX8_readStep 0 = .ok (.aload_n 1, 1) := by decide +kernel
theorem dX8_readStep_1 : decode cX8_readStep 1 = .ok (.invokevirtual 52, 3) := by decide +kernel
theorem dX8_readStep_4 : decode cX8_readStep 4 = .ok (.aload_n 1, 1) := by decide +kernel
theorem dX8_readStep_5 : decode cX8_readStep 5 = .ok (.ldc 55, 2) := by decide +kernel
theorem dX8_readStep_7 : decode cX8_readStep 7 = .ok (.invokevirtual 57, 3) := by decide +kernel
theorem dX8_readStep_10 : decode cX8_readStep 10 = .ok (.ifCond .eq 18, 3) := by decide +kernel
theorem dX8_readStep_28 : decode cX8_readStep 28 = .ok (.aload_n 1, 1) := by decide +kernel
theorem dX8_readStep_29 : decode cX8_readStep 29 = .ok (.ldc 73, 2) := by decide +kernel
theorem dX8_readStep_31 : decode cX8_readStep 31 = .ok (.invokevirtual 57, 3) := by decide +kernel
theorem dX8_readStep_34 : decode cX8_readStep 34 = .ok (.ifCond .eq 18, 3) := by decide +kernel
theorem dX8_readStep_52 : decode cX8_readStep 52 = .ok (.aload_n 1, 1) := by decide +kernel
theorem dX8_readStep_53 : decode cX8_readStep 53 = .ok (.ldc 75, 2) := by decide +kernel
theorem dX8_readStep_55 : decode cX8_readStep 55 = .ok (.invokevirtual 57, 3) := by decide +kernel
theorem dX8_readStep_58 : decode cX8_readStep 58 = .ok (.ifCond .eq 36, 3) := by decide +kernel
theorem dX8_readStep_94 : decode cX8_readStep 94 = .ok (.aload_n 1, 1) := by decide +kernel
theorem dX8_readStep_95 : decode cX8_readStep 95 = .ok (.ldc 91, 2) := by decide +kernel
theorem dX8_readStep_97 : decode cX8_readStep 97 = .ok (.invokevirtual 57, 3) := by decide +kernel
theorem dX8_readStep_100 : decode cX8_readStep 100 = .ok (.ifCond .eq 18, 3) := by decide +kernel
theorem dX8_readStep_118 : decode cX8_readStep 118 = .ok (.aload_n 1, 1) := by decide +kernel
theorem dX8_readStep_119 : decode cX8_readStep 119 = .ok (.ldc 93, 2) := by decide +kernel
theorem dX8_readStep_121 : decode cX8_readStep 121 = .ok (.invokevirtual 57, 3) := by decide +kernel
theorem dX8_readStep_124 : decode cX8_readStep 124 = .ok (.ifCond .eq 11, 3) := by decide +kernel
theorem dX8_readStep_135 : decode cX8_readStep 135 = .ok (.aload_n 1, 1) := by decide +kernel
theorem dX8_readStep_136 : decode cX8_readStep 136 = .ok (.ldc 95, 2) := by decide +kernel
theorem dX8_readStep_138 : decode cX8_readStep 138 = .ok (.invokevirtual 57, 3) := by decide +kernel
theorem dX8_readStep_141 : decode cX8_readStep 141 = .ok (.ifCond .eq 25, 3) := by decide +kernel
theorem dX8_readStep_166 : decode cX8_readStep 166 = .ok (.aload_n 1, 1) := by decide +kernel
theorem dX8_readStep_167 : decode cX8_readStep 167 = .ok (.iconst 1, 1) := by decide +kernel
theorem dX8_readStep_168 : decode cX8_readStep 168 = .ok (.invokevirtual 97, 3) := by decide +kernel
theorem dX8_readStep_171 : decode cX8_readStep 171 = .ok (.ireturn, 1) := by decide +kernel
theorem dX8_readStep_144 : decode cX8_readStep 144 = .ok (.iload_n 3, 1) := by decide +kernel
theorem dX8_readStep_145 : decode cX8_readStep 145 = .ok (.bipush 6, 2) := by decide +kernel
theorem dX8_readStep_147 : decode cX8_readStep 147 = .ok (.if_icmp .lt 11, 3) := by decide +kernel
theorem dX8_readStep_158 : decode cX8_readStep 158 = .ok (.aload_n 0, 1) := by decide +kernel
theorem dX8_readStep_159 : decode cX8_readStep 159 = .ok (.aload_n 1, 1) := by decide +kernel
theorem dX8_readStep_160 : decode cX8_readStep 160 = .ok (.aload_n 2, 1) := by decide +kernel
theorem dX8_readStep_161 : decode cX8_readStep 161 = .ok (.iload_n 3, 1) := by decide +kernel
theorem dX8_readAgain_0 : decode cX8_readAgain 0 = .ok (.aload_n 0, 1) := by decide +kernel
theorem dX8_readAgain_1 : decode cX8_readAgain 1 = .ok (.getfield 19, 3) := by decide +kernel
theorem dX8_readAgain_4 : decode cX8_readAgain 4 = .ok (.istore 4, 2) := by decide +kernel
theorem dX8_readAgain_6 : decode cX8_readAgain 6 = .ok (.aload_n 1, 1) := by decide +kernel
theorem dX8_readAgain_7 : decode cX8_readAgain 7 = .ok (.iconst 0, 1) := by decide +kernel
theorem dX8_readAgain_8 : decode cX8_readAgain 8 = .ok (.bipush 40, 2) := by decide +kernel
theorem dX8_readAgain_10 : decode cX8_readAgain 10 = .ok (.invokevirtual 80, 3) := by decide +kernel
theorem dX8_readAgain_13 : decode cX8_readAgain 13 = .ok (.ifCond .eq 16, 3) := by decide +kernel
theorem dX8_readAgain_29 : decode cX8_readAgain 29 = .ok (.iconst 0, 1) := by decide +kernel
theorem dX8_readAgain_30 : decode cX8_readAgain 30 = .ok (.ireturn, 1) := by decide +kernel
theorem dX8_readAgain_16 : decode cX8_readAgain 16 = .ok (.aload_n 0, 1) := by decide +kernel
theorem dX8_readAgain_17 : decode cX8_readAgain 17 = .ok (.iconst 5, 1) := by decide +kernel
theorem dX8_readAgain_18 : decode cX8_readAgain 18 = .ok (.aload_n 1, 1) := by decide +kernel
theorem dX8_readAgain_19 : decode cX8_readAgain 19 = .ok (.getfield 84, 3) := by decide +kernel
theorem dX8_readAgain_22 : decode cX8_readAgain 22 = .ok (.iconst 0, 1) := by decide +kernel
theorem dX8_put_0 : decode cX8_put 0 = .ok (.aload_n 0, 1) := by decide +kernel
theorem dX8_put_1 : decode cX8_put 1 = .ok (.getfield 19, 3) := by decide +kernel
theorem dX8_put_4 : decode cX8_put 4 = .ok (.bipush 64, 2) := by decide +kernel
theorem dX8_put_6 : decode cX8_put 6 = .ok (.if_icmp .lt 5, 3) := by decide +kernel
theorem dX8_put_11 : decode cX8_put 11 = .ok (.aload_n 0, 1) := by decide +kernel
theorem dX8_put_12 : decode cX8_put 12 = .ok (.getfield 9, 3) := by decide +kernel
theorem dX8_put_15 : decode cX8_put 15 = .ok (.aload_n 0, 1) := by decide +kernel
theorem dX8_put_16 : decode cX8_put 16 = .ok (.getfield 19, 3) := by decide +kernel
theorem dX8_put_19 : decode cX8_put 19 = .ok (.iload_n 1, 1) := by decide +kernel
theorem dX8_put_20 : decode cX8_put 20 = .ok (.iastore, 1) := by decide +kernel
theorem dX8_put_21 : decode cX8_put 21 = .ok (.aload_n 0, 1) := by decide +kernel
theorem dX8_put_22 : decode cX8_put 22 = .ok (.getfield 13, 3) := by decide +kernel
theorem dX8_put_25 : decode cX8_put 25 = .ok (.aload_n 0, 1) := by decide +kernel
theorem dX8_put_26 : decode cX8_put 26 = .ok (.getfield 19, 3) := by decide +kernel
theorem dX8_put_29 : decode cX8_put 29 = .ok (.iload_n 2, 1) := by decide +kernel
theorem dX8_put_30 : decode cX8_put 30 = .ok (.iastore, 1) := by decide +kernel
theorem dX8_put_31 : decode cX8_put 31 = .ok (.aload_n 0, 1) := by decide +kernel
theorem dX8_put_32 : decode cX8_put 32 = .ok (.getfield 16, 3) := by decide +kernel
theorem dX8_put_35 : decode cX8_put 35 = .ok (.aload_n 0, 1) := by decide +kernel
theorem dX8_put_36 : decode cX8_put 36 = .ok (.getfield 19, 3) := by decide +kernel
theorem dX8_put_39 : decode cX8_put 39 = .ok (.iload_n 3, 1) := by decide +kernel
theorem dX8_put_40 : decode cX8_put 40 = .ok (.iastore, 1) := by decide +kernel
theorem dX8_put_41 : decode cX8_put 41 = .ok (.aload_n 0, 1) := by decide +kernel
theorem dX8_put_42 : decode cX8_put 42 = .ok (.dup, 1) := by decide +kernel
theorem dX8_put_43 : decode cX8_put 43 = .ok (.getfield 19, 3) := by decide +kernel
theorem dX8_put_46 : decode cX8_put 46 = .ok (.iconst 1, 1) := by decide +kernel
theorem dX8_put_47 : decode cX8_put 47 = .ok (.iadd, 1) := by decide +kernel
theorem dX8_put_48 : decode cX8_put 48 = .ok (.putfield 19, 3) := by decide +kernel
theorem dX8_put_51 : decode cX8_put 51 = .ok (.iconst 1, 1) := by decide +kernel
theorem dX8_put_52 : decode cX8_put 52 = .ok (.ireturn, 1) := by decide +kernel
theorem dX8_put_9 : decode cX8_put 9 = .ok (.iconst 0, 1) := by decide +kernel
theorem dX8_put_10 : decode cX8_put 10 = .ok (.ireturn, 1) := by decide +kernel
theorem dX8_readAgain_23 : decode cX8_readAgain 23 = .ok (.invokevirtual 87, 3) := by decide +kernel
theorem dX8_readAgain_26 : decode cX8_readAgain 26 = .ok (.ifCond .ne 5, 3) := by decide +kernel
theorem dX8_readAgain_31 : decode cX8_readAgain 31 = .ok (.aload_n 1, 1) := by decide +kernel
theorem dX8_readAgain_32 : decode cX8_readAgain 32 = .ok (.bipush 91, 2) := by decide +kernel
theorem dX8_readAgain_34 : decode cX8_readAgain 34 = .ok (.invokevirtual 49, 3) := by decide +kernel
theorem dX8_readAgain_37 : decode cX8_readAgain 37 = .ok (.ifCond .eq 24, 3) := by decide +kernel
theorem dX8_readAgain_61 : decode cX8_readAgain 61 = .ok (.iconst 0, 1) := by decide +kernel
theorem dX8_readAgain_62 : decode cX8_readAgain 62 = .ok (.ireturn, 1) := by decide +kernel
theorem dX8_readAgain_40 : decode cX8_readAgain 40 = .ok (.aload_n 0, 1) := by decide +kernel
theorem dX8_readAgain_41 : decode cX8_readAgain 41 = .ok (.aload_n 1, 1) := by decide +kernel
theorem dX8_readAgain_42 : decode cX8_readAgain 42 = .ok (.aload_n 2, 1) := by decide +kernel
theorem dX8_readAgain_43 : decode cX8_readAgain 43 = .ok (.iload_n 3, 1) := by decide +kernel
theorem dX8_readAgain_44 : decode cX8_readAgain 44 = .ok (.iconst 1, 1) := by decide +kernel
theorem dX8_readAgain_45 : decode cX8_readAgain 45 = .ok (.iadd, 1) := by decide +kernel
theorem dX8_readAgain_46 : decode cX8_readAgain 46 = .ok (.invokevirtual 32, 3) := by decide +kernel
theorem dX8_readAgain_49 : decode cX8_readAgain 49 = .ok (.ifCond .eq 12, 3) := by decide +kernel
theorem dX8_readAgain_52 : decode cX8_readAgain 52 = .ok (.aload_n 1, 1) := by decide +kernel
theorem dX8_readAgain_53 : decode cX8_readAgain 53 = .ok (.bipush 93, 2) := by decide +kernel
theorem dX8_readAgain_55 : decode cX8_readAgain 55 = .ok (.invokevirtual 49, 3) := by decide +kernel
theorem dX8_readAgain_58 : decode cX8_readAgain 58 = .ok (.ifCond .ne 5, 3) := by decide +kernel
theorem dX8_readAgain_63 : decode cX8_readAgain 63 = .ok (.aload_n 0, 1) := by decide +kernel
theorem dX8_readAgain_64 : decode cX8_readAgain 64 = .ok (.getfield 16, 3) := by decide +kernel
theorem dX8_readAgain_67 : decode cX8_readAgain 67 = .ok (.iload 4, 2) := by decide +kernel
theorem dX8_readAgain_69 : decode cX8_readAgain 69 = .ok (.aload_n 0, 1) := by decide +kernel
theorem dX8_readAgain_70 : decode cX8_readAgain 70 = .ok (.getfield 19, 3) := by decide +kernel
theorem dX8_readAgain_73 : decode cX8_readAgain 73 = .ok (.iastore, 1) := by decide +kernel
theorem dX8_readAgain_74 : decode cX8_readAgain 74 = .ok (.iconst 1, 1) := by decide +kernel
theorem dX8_readAgain_75 : decode cX8_readAgain 75 = .ok (.ireturn, 1) := by decide +kernel
theorem dX8_readStep_162 : decode cX8_readStep 162 = .ok (.invokevirtual 101, 3) := by decide +kernel
theorem dX8_readStep_165 : decode cX8_readStep 165 = .ok (.ireturn, 1) := by decide +kernel
theorem dX8_readStep_150 : decode cX8_readStep 150 = .ok (.aload_n 1, 1) := by decide +kernel
theorem dX8_readStep_151 : decode cX8_readStep 151 = .ok (.iconst 3, 1) := by decide +kernel
theorem dX8_readStep_152 : decode cX8_readStep 152 = .ok (.invokevirtual 97, 3) := by decide +kernel
theorem dX8_readStep_155 : decode cX8_readStep 155 = .ok (.goto 10, 3) := by decide +kernel
theorem dX8_readStep_127 : decode cX8_readStep 127 = .ok (.aload_n 0, 1) := by decide +kernel
theorem dX8_readStep_128 : decode cX8_readStep 128 = .ok (.iconst 4, 1) := by decide +kernel
theorem dX8_readStep_129 : decode cX8_readStep 129 = .ok (.iconst 0, 1) := by decide +kernel
theorem dX8_readStep_130 : decode cX8_readStep 130 = .ok (.iconst 0, 1) := by decide +kernel
theorem dX8_readStep_131 : decode cX8_readStep 131 = .ok (.invokevirtual 87, 3) := by decide +kernel
theorem dX8_readStep_134 : decode cX8_readStep 134 = .ok (.ireturn, 1) := by decide +kernel
theorem dX8_readStep_103 : decode cX8_readStep 103 = .ok (.aload_n 0, 1) := by decide +kernel
theorem dX8_readStep_104 : decode cX8_readStep 104 = .ok (.aload_n 1, 1) := by decide +kernel
theorem dX8_readStep_105 : decode cX8_readStep 105 = .ok (.iconst 3, 1) := by decide +kernel
theorem dX8_readStep_106 : decode cX8_readStep 106 = .ok (.aload_n 2, 1) := by decide +kernel
theorem dX8_readStep_107 : decode cX8_readStep 107 = .ok (.getfield 77, 3) := by decide +kernel
theorem dX8_readStep_110 : decode cX8_readStep 110 = .ok (.aload_n 2, 1) := by decide +kernel
theorem dX8_readStep_111 : decode cX8_readStep 111 = .ok (.getfield 61, 3) := by decide +kernel
theorem dX8_readNumbers_0 : decode cX8_readNumbers 0 = .ok (.aload_n 1, 1) := by decide +kernel
theorem dX8_readNumbers_1 : decode cX8_readNumbers 1 = .ok (.iconst 0, 1) := by decide +kernel
theorem dX8_readNumbers_2 : decode cX8_readNumbers 2 = .ok (.iload_n 3, 1) := by decide +kernel
theorem dX8_readNumbers_3 : decode cX8_readNumbers 3 = .ok (.iconst 1, 1) := by decide +kernel
theorem dX8_readNumbers_4 : decode cX8_readNumbers 4 = .ok (.isub, 1) := by decide +kernel
theorem dX8_readNumbers_5 : decode cX8_readNumbers 5 = .ok (.invokevirtual 80, 3) := by decide +kernel
theorem dX8_readNumbers_8 : decode cX8_readNumbers 8 = .ok (.ifCond .ne 5, 3) := by decide +kernel
theorem dX8_readNumbers_13 : decode cX8_readNumbers 13 = .ok (.aload_n 1, 1) := by decide +kernel
theorem dX8_readNumbers_14 : decode cX8_readNumbers 14 = .ok (.getfield 84, 3) := by decide +kernel
theorem dX8_readNumbers_17 : decode cX8_readNumbers 17 = .ok (.istore 5, 2) := by decide +kernel
theorem dX8_readNumbers_19 : decode cX8_readNumbers 19 = .ok (.aload_n 1, 1) := by decide +kernel
theorem dX8_readNumbers_20 : decode cX8_readNumbers 20 = .ok (.iconst 0, 1) := by decide +kernel
theorem dX8_readNumbers_21 : decode cX8_readNumbers 21 = .ok (.iload 4, 2) := by decide +kernel
theorem dX8_readNumbers_23 : decode cX8_readNumbers 23 = .ok (.iconst 1, 1) := by decide +kernel
theorem dX8_readNumbers_24 : decode cX8_readNumbers 24 = .ok (.isub, 1) := by decide +kernel
theorem dX8_readNumbers_25 : decode cX8_readNumbers 25 = .ok (.invokevirtual 80, 3) := by decide +kernel
theorem dX8_readNumbers_28 : decode cX8_readNumbers 28 = .ok (.ifCond .eq 21, 3) := by decide +kernel
theorem dX8_readNumbers_49 : decode cX8_readNumbers 49 = .ok (.iconst 0, 1) := by decide +kernel
theorem dX8_readNumbers_50 : decode cX8_readNumbers 50 = .ok (.ireturn, 1) := by decide +kernel
theorem dX8_readNumbers_31 : decode cX8_readNumbers 31 = .ok (.aload_n 0, 1) := by decide +kernel
theorem dX8_readNumbers_32 : decode cX8_readNumbers 32 = .ok (.iload_n 2, 1) := by decide +kernel
theorem dX8_readNumbers_33 : decode cX8_readNumbers 33 = .ok (.iload 5, 2) := by decide +kernel
theorem dX8_readNumbers_35 : decode cX8_readNumbers 35 = .ok (.aload_n 1, 1) := by decide +kernel
theorem dX8_readNumbers_36 : decode cX8_readNumbers 36 = .ok (.getfield 84, 3) := by decide +kernel
theorem dX8_readNumbers_39 : decode cX8_readNumbers 39 = .ok (.invokevirtual 87, 3) := by decide +kernel
theorem dX8_readNumbers_42 : decode cX8_readNumbers 42 = .ok (.ifCond .eq 7, 3) := by decide +kernel
theorem dX8_readNumbers_45 : decode cX8_readNumbers 45 = .ok (.iconst 1, 1) := by decide +kernel
theorem dX8_readNumbers_46 : decode cX8_readNumbers 46 = .ok (.goto 4, 3) := by decide +kernel
theorem dX8_readNumbers_11 : decode cX8_readNumbers 11 = .ok (.iconst 0, 1) := by decide +kernel
theorem dX8_readNumbers_12 : decode cX8_readNumbers 12 = .ok (.ireturn, 1) := by decide +kernel
theorem dX8_readStep_114 : decode cX8_readStep 114 = .ok (.invokevirtual 69, 3) := by decide +kernel
theorem dX8_readStep_117 : decode cX8_readStep 117 = .ok (.ireturn, 1) := by decide +kernel
theorem dX8_readStep_61 : decode cX8_readStep 61 = .ok (.aload_n 1, 1) := by decide +kernel
theorem dX8_readStep_62 : decode cX8_readStep 62 = .ok (.iconst 0, 1) := by decide +kernel
theorem dX8_readStep_63 : decode cX8_readStep 63 = .ok (.aload_n 2, 1) := by decide +kernel
theorem dX8_readStep_64 : decode cX8_readStep 64 = .ok (.getfield 77, 3) := by decide +kernel
theorem dX8_readStep_67 : decode cX8_readStep 67 = .ok (.iconst 1, 1) := by decide +kernel
theorem dX8_readStep_68 : decode cX8_readStep 68 = .ok (.isub, 1) := by decide +kernel
theorem dX8_readStep_69 : decode cX8_readStep 69 = .ok (.invokevirtual 80, 3) := by decide +kernel
theorem dX8_readStep_72 : decode cX8_readStep 72 = .ok (.ifCond .eq 20, 3) := by decide +kernel
theorem dX8_readStep_92 : decode cX8_readStep 92 = .ok (.iconst 0, 1) := by decide +kernel
theorem dX8_readStep_93 : decode cX8_readStep 93 = .ok (.ireturn, 1) := by decide +kernel
theorem dX8_readStep_75 : decode cX8_readStep 75 = .ok (.aload_n 0, 1) := by decide +kernel
theorem dX8_readStep_76 : decode cX8_readStep 76 = .ok (.iconst 2, 1) := by decide +kernel
theorem dX8_readStep_77 : decode cX8_readStep 77 = .ok (.aload_n 1, 1) := by decide +kernel
theorem dX8_readStep_78 : decode cX8_readStep 78 = .ok (.getfield 84, 3) := by decide +kernel
theorem dX8_readStep_81 : decode cX8_readStep 81 = .ok (.iconst 0, 1) := by decide +kernel
theorem dX8_readStep_82 : decode cX8_readStep 82 = .ok (.invokevirtual 87, 3) := by decide +kernel
theorem dX8_readStep_85 : decode cX8_readStep 85 = .ok (.ifCond .eq 7, 3) := by decide +kernel
theorem dX8_readStep_88 : decode cX8_readStep 88 = .ok (.iconst 1, 1) := by decide +kernel
theorem dX8_readStep_89 : decode cX8_readStep 89 = .ok (.goto 4, 3) := by decide +kernel
theorem dX8_readStep_37 : decode cX8_readStep 37 = .ok (.aload_n 0, 1) := by decide +kernel
theorem dX8_readStep_38 : decode cX8_readStep 38 = .ok (.aload_n 1, 1) := by decide +kernel
theorem dX8_readStep_39 : decode cX8_readStep 39 = .ok (.iconst 1, 1) := by decide +kernel
theorem dX8_readStep_40 : decode cX8_readStep 40 = .ok (.aload_n 2, 1) := by decide +kernel
theorem dX8_readStep_41 : decode cX8_readStep 41 = .ok (.getfield 61, 3) := by decide +kernel
theorem dX8_readStep_44 : decode cX8_readStep 44 = .ok (.aload_n 2, 1) := by decide +kernel
theorem dX8_readStep_45 : decode cX8_readStep 45 = .ok (.getfield 66, 3) := by decide +kernel
theorem dX8_readStep_48 : decode cX8_readStep 48 = .ok (.invokevirtual 69, 3) := by decide +kernel
theorem dX8_readStep_51 : decode cX8_readStep 51 = .ok (.ireturn, 1) := by decide +kernel
theorem dX8_readStep_13 : decode cX8_readStep 13 = .ok (.aload_n 0, 1) := by decide +kernel
theorem dX8_readStep_14 : decode cX8_readStep 14 = .ok (.aload_n 1, 1) := by decide +kernel
theorem dX8_readStep_15 : decode cX8_readStep 15 = .ok (.iconst 0, 1) := by decide +kernel
theorem dX8_readStep_16 : decode cX8_readStep 16 = .ok (.aload_n 2, 1) := by decide +kernel
theorem dX8_readStep_17 : decode cX8_readStep 17 = .ok (.getfield 61, 3) := by decide +kernel
theorem dX8_readStep_20 : decode cX8_readStep 20 = .ok (.aload_n 2, 1) := by decide +kernel
theorem dX8_readStep_21 : decode cX8_readStep 21 = .ok (.getfield 66, 3) := by decide +kernel
theorem dX8_readStep_24 : decode cX8_readStep 24 = .ok (.invokevirtual 69, 3) := by decide +kernel
theorem dX8_readStep_27 : decode cX8_readStep 27 = .ok (.ireturn, 1) := by decide +kernel
theorem dX8_readSteps_39 : decode cX8_readSteps 39 = .ok (.invokevirtual 46, 3) := by decide +kernel
theorem dX8_readSteps_42 : decode cX8_readSteps 42 = .ok (.ifCond .eq 12, 3) := by decide +kernel
theorem dX8_readSteps_54 : decode cX8_readSteps 54 = .ok (.iconst 0, 1) := by decide +kernel
theorem dX8_readSteps_55 : decode cX8_readSteps 55 = .ok (.ireturn, 1) := by decide +kernel
theorem dX8_readSteps_45 : decode cX8_readSteps 45 = .ok (.aload_n 1, 1) := by decide +kernel
theorem dX8_readSteps_46 : decode cX8_readSteps 46 = .ok (.bipush 59, 2) := by decide +kernel
theorem dX8_readSteps_48 : decode cX8_readSteps 48 = .ok (.invokevirtual 49, 3) := by decide +kernel
theorem dX8_readSteps_51 : decode cX8_readSteps 51 = .ok (.ifCond .ne 5, 3) := by decide +kernel
theorem dX8_readSteps_56 : decode cX8_readSteps 56 = .ok (.iinc 4 1, 3) := by decide +kernel
theorem dX8_readSteps_59 : decode cX8_readSteps 59 = .ok (.goto (-56), 3) := by decide +kernel
theorem dX8_readFrom_24 : decode cX8_readFrom 24 = .ok (.invokevirtual 32, 3) := by decide +kernel
theorem dX8_readFrom_27 : decode cX8_readFrom 27 = .ok (.ireturn, 1) := by decide +kernel
theorem dX9_work_35 : decode cX9_work 35 = .ok (.invokevirtual 133, 3) := by decide +kernel
theorem dX9_work_38 : decode cX9_work 38 = .ok (.ifCond .ne 14, 3) := by decide +kernel
theorem dX9_work_52 : decode cX9_work 52 = .ok (.aload_n 0, 1) := by decide +kernel
theorem dX9_work_53 : decode cX9_work 53 = .ok (.getfield 65, 3) := by decide +kernel
theorem dX9_work_56 : decode cX9_work 56 = .ok (.aload_n 0, 1) := by decide +kernel
theorem dX9_work_57 : decode cX9_work 57 = .ok (.getfield 58, 3) := by decide +kernel
theorem dX4_pushWork_0 : decode cX4_pushWork 0 = .ok (.aload_n 0, 1) := by decide +kernel
theorem dX4_pushWork_1 : decode cX4_pushWork 1 = .ok (.getfield 21, 3) := by decide +kernel
theorem dX4_pushWork_4 : decode cX4_pushWork 4 = .ok (.bipush 16, 2) := by decide +kernel
theorem dX4_pushWork_6 : decode cX4_pushWork 6 = .ok (.if_icmp .lt 5, 3) := by decide +kernel
theorem dX4_pushWork_11 : decode cX4_pushWork 11 = .ok (.aload_n 1, 1) := by decide +kernel
theorem dX4_pushWork_12 : decode cX4_pushWork 12 = .ok (.getfield 28, 3) := by decide +kernel
theorem dX4_pushWork_15 : decode cX4_pushWork 15 = .ok (.iconst 0, 1) := by decide +kernel
theorem dX4_pushWork_16 : decode cX4_pushWork 16 = .ok (.aload_n 0, 1) := by decide +kernel
theorem dX4_pushWork_17 : decode cX4_pushWork 17 = .ok (.getfield 11, 3) := by decide +kernel
theorem dX4_pushWork_20 : decode cX4_pushWork 20 = .ok (.aload_n 0, 1) := by decide +kernel
theorem dX4_pushWork_21 : decode cX4_pushWork 21 = .ok (.getfield 21, 3) := by decide +kernel
theorem dX4_pushWork_24 : decode cX4_pushWork 24 = .ok (.bipush 74, 2) := by decide +kernel
theorem dX4_pushWork_26 : decode cX4_pushWork 26 = .ok (.imul, 1) := by decide +kernel
theorem dX4_pushWork_27 : decode cX4_pushWork 27 = .ok (.bipush 74, 2) := by decide +kernel
theorem dX4_pushWork_29 : decode cX4_pushWork 29 = .ok (.invokestatic 31, 3) := by decide +kernel
theorem dX4_pushWork_32 : decode cX4_pushWork 32 = .ok (.aload_n 0, 1) := by decide +kernel
theorem dX4_pushWork_33 : decode cX4_pushWork 33 = .ok (.dup, 1) := by decide +kernel
theorem dX4_pushWork_34 : decode cX4_pushWork 34 = .ok (.getfield 21, 3) := by decide +kernel
theorem dX4_pushWork_37 : decode cX4_pushWork 37 = .ok (.iconst 1, 1) := by decide +kernel
theorem dX4_pushWork_38 : decode cX4_pushWork 38 = .ok (.iadd, 1) := by decide +kernel
theorem dX4_pushWork_39 : decode cX4_pushWork 39 = .ok (.putfield 21, 3) := by decide +kernel
theorem dX4_pushWork_42 : decode cX4_pushWork 42 = .ok (.iconst 1, 1) := by decide +kernel
theorem dX4_pushWork_43 : decode cX4_pushWork 43 = .ok (.ireturn, 1) := by decide +kernel
theorem dX4_pushWork_9 : decode cX4_pushWork 9 = .ok (.iconst 0, 1) := by decide +kernel
theorem dX4_pushWork_10 : decode cX4_pushWork 10 = .ok (.ireturn, 1) := by decide +kernel
theorem dX9_work_60 : decode cX9_work 60 = .ok (.invokevirtual 136, 3) := by decide +kernel
theorem dX9_work_63 : decode cX9_work 63 = .ok (.pop, 1) := by decide +kernel
theorem dX9_work_64 : decode cX9_work 64 = .ok (.aload_n 0, 1) := by decide +kernel
theorem dX9_work_65 : decode cX9_work 65 = .ok (.getfield 54, 3) := by decide +kernel
theorem dX9_work_68 : decode cX9_work 68 = .ok (.aload_n 0, 1) := by decide +kernel
theorem dX9_work_69 : decode cX9_work 69 = .ok (.getfield 58, 3) := by decide +kernel
theorem dX9_work_72 : decode cX9_work 72 = .ok (.iconst 0, 1) := by decide +kernel
theorem dX9_work_73 : decode cX9_work 73 = .ok (.aload_n 0, 1) := by decide +kernel
theorem dX9_work_74 : decode cX9_work 74 = .ok (.getfield 54, 3) := by decide +kernel
theorem dX9_work_77 : decode cX9_work 77 = .ok (.getfield 140, 3) := by decide +kernel
theorem dX9_work_80 : decode cX9_work 80 = .ok (.iconst 0, 1) := by decide +kernel
theorem dX8_doSteps_0 : decode cX8_doSteps 0 = .ok (.iload_n 2, 1) := by decide +kernel
theorem dX8_doSteps_1 : decode cX8_doSteps 1 = .ok (.istore 5, 2) := by decide +kernel
theorem dX8_doSteps_3 : decode cX8_doSteps 3 = .ok (.iload_n 2, 1) := by decide +kernel
theorem dX8_doSteps_4 : decode cX8_doSteps 4 = .ok (.istore 6, 2) := by decide +kernel
theorem dX8_doSteps_6 : decode cX8_doSteps 6 = .ok (.iload 6, 2) := by decide +kernel
theorem dX8_doSteps_8 : decode cX8_doSteps 8 = .ok (.iload_n 3, 1) := by decide +kernel
theorem dX8_doSteps_9 : decode cX8_doSteps 9 = .ok (.if_icmp .ge 104, 3) := by decide +kernel
theorem dX8_doSteps_113 : decode cX8_doSteps 113 = .ok (.return_, 1) := by decide +kernel
theorem dX8_doSteps_12 : decode cX8_doSteps 12 = .ok (.iload 6, 2) := by decide +kernel
theorem dX8_doSteps_14 : decode cX8_doSteps 14 = .ok (.iload 5, 2) := by decide +kernel
theorem dX8_doSteps_16 : decode cX8_doSteps 16 = .ok (.if_icmp .lt 91, 3) := by decide +kernel
theorem dX8_doSteps_107 : decode cX8_doSteps 107 = .ok (.iinc 6 1, 3) := by decide +kernel
theorem dX8_doSteps_110 : decode cX8_doSteps 110 = .ok (.goto (-104), 3) := by decide +kernel
theorem dX8_doSteps_19 : decode cX8_doSteps 19 = .ok (.aload_n 0, 1) := by decide +kernel
theorem dX8_doSteps_20 : decode cX8_doSteps 20 = .ok (.getfield 23, 3) := by decide +kernel
theorem dX8_doSteps_23 : decode cX8_doSteps 23 = .ok (.sipush 200, 3) := by decide +kernel
theorem dX8_doSteps_26 : decode cX8_doSteps 26 = .ok (.if_icmp .lt 6, 3) := by decide +kernel
theorem dX8_doSteps_32 : decode cX8_doSteps 32 = .ok (.aload_n 0, 1) := by decide +kernel
theorem dX8_doSteps_33 : decode cX8_doSteps 33 = .ok (.dup, 1) := by decide +kernel
theorem dX8_doSteps_34 : decode cX8_doSteps 34 = .ok (.getfield 23, 3) := by decide +kernel
theorem dX8_doSteps_37 : decode cX8_doSteps 37 = .ok (.iconst 1, 1) := by decide +kernel
theorem dX8_doSteps_38 : decode cX8_doSteps 38 = .ok (.iadd, 1) := by decide +kernel
theorem dX8_doSteps_39 : decode cX8_doSteps 39 = .ok (.putfield 23, 3) := by decide +kernel
theorem dX8_doSteps_42 : decode cX8_doSteps 42 = .ok (.aload_n 0, 1) := by decide +kernel
theorem dX8_doSteps_43 : decode cX8_doSteps 43 = .ok (.getfield 9, 3) := by decide +kernel
theorem dX8_doSteps_46 : decode cX8_doSteps 46 = .ok (.iload 6, 2) := by decide +kernel
theorem dX8_doSteps_48 : decode cX8_doSteps 48 = .ok (.iaload, 1) := by decide +kernel
theorem dX8_doSteps_49 : decode cX8_doSteps 49 = .ok (.iconst 5, 1) := by decide +kernel
theorem dX8_doSteps_50 : decode cX8_doSteps 50 = .ok (.if_icmp .ne 24, 3) := by decide +kernel
theorem dX8_doSteps_74 : decode cX8_doSteps 74 = .ok (.aload_n 0, 1) := by decide +kernel
theorem dX8_doSteps_75 : decode cX8_doSteps 75 = .ok (.aload_n 1, 1) := by decide +kernel
theorem dX8_doSteps_76 : decode cX8_doSteps 76 = .ok (.iload 6, 2) := by decide +kernel
theorem dX8_doStep_0 : decode cX8_doStep 0 = .ok (.aload_n 0, 1) := by decide +kernel
theorem dX8_doStep_1 : decode cX8_doStep 1 = .ok (.getfield 13, 3) := by decide +kernel
theorem dX8_doStep_4 : decode cX8_doStep 4 = .ok (.iload_n 2, 1) := by decide +kernel
theorem dX8_doStep_5 : decode cX8_doStep 5 = .ok (.iaload, 1) := by decide +kernel
theorem dX8_doStep_6 : decode cX8_doStep 6 = .ok (.istore_n 3, 1) := by decide +kernel
theorem dX8_doStep_7 : decode cX8_doStep 7 = .ok (.aload_n 0, 1) := by decide +kernel
theorem dX8_doStep_8 : decode cX8_doStep 8 = .ok (.getfield 16, 3) := by decide +kernel
theorem dX8_doStep_11 : decode cX8_doStep 11 = .ok (.iload_n 2, 1) := by decide +kernel
theorem dX8_doStep_12 : decode cX8_doStep 12 = .ok (.iaload, 1) := by decide +kernel
theorem dX8_doStep_13 : decode cX8_doStep 13 = .ok (.istore 4, 2) := by decide +kernel
theorem dX8_doStep_15 : decode cX8_doStep 15 = .ok (.aload_n 0, 1) := by decide +kernel
theorem dX8_doStep_16 : decode cX8_doStep 16 = .ok (.getfield 9, 3) := by decide +kernel
theorem dX8_doStep_19 : decode cX8_doStep 19 = .ok (.iload_n 2, 1) := by decide +kernel
theorem dX8_doStep_20 : decode cX8_doStep 20 = .ok (.iaload, 1) := by decide +kernel
theorem dX8_doStep_21 : decode cX8_doStep 21 = .ok (.tableswitch 61 0 3 #[31, 39, 47, 53], 31) := by decide +kernel
theorem dX8_doStep_52 : decode cX8_doStep 52 = .ok (.aload_n 1, 1) := by decide +kernel
theorem dX8_doStep_53 : decode cX8_doStep 53 = .ok (.iload_n 3, 1) := by decide +kernel
theorem dX8_doStep_54 : decode cX8_doStep 54 = .ok (.iload 4, 2) := by decide +kernel
theorem dX5_teach_0 : decode cX5_teach 0 = .ok (.aload_n 0, 1) := by decide +kernel
theorem dX5_teach_1 : decode cX5_teach 1 = .ok (.iload_n 1, 1) := by decide +kernel
theorem dX5_teach_2 : decode cX5_teach 2 = .ok (.iload_n 2, 1) := by decide +kernel
theorem dX5_gainOf_0 : decode cX5_gainOf 0 = .ok (.aload_n 0, 1) := by decide +kernel
theorem dX5_gainOf_1 : decode cX5_gainOf 1 = .ok (.iload_n 1, 1) := by decide +kernel
theorem dX5_roomOf_0 : decode cX5_roomOf 0 = .ok (.aload_n 0, 1) := by decide +kernel
theorem dX5_roomOf_1 : decode cX5_roomOf 1 = .ok (.iload_n 1, 1) := by decide +kernel
theorem dX5_memoryOf_0 : decode cX5_memoryOf 0 = .ok (.aload_n 0, 1) := by decide +kernel
theorem dX5_memoryOf_1 : decode cX5_memoryOf 1 = .ok (.iload_n 1, 1) := by decide +kernel
theorem dX5_isOld_0 : decode cX5_isOld 0 = .ok (.aload_n 0, 1) := by decide +kernel
theorem dX5_isOld_1 : decode cX5_isOld 1 = .ok (.getfield 15, 3) := by decide +kernel
theorem dX5_isOld_4 : decode cX5_isOld 4 = .ok (.getfield 54, 3) := by decide +kernel
theorem dX5_isOld_7 : decode cX5_isOld 7 = .ok (.iload_n 1, 1) := by decide +kernel
theorem dX5_isOld_8 : decode cX5_isOld 8 = .ok (.iaload, 1) := by decide +kernel
theorem dX5_isOld_9 : decode cX5_isOld 9 = .ok (.istore_n 2, 1) := by decide +kernel
theorem dX5_isOld_10 : decode cX5_isOld 10 = .ok (.iload_n 2, 1) := by decide +kernel
theorem dX5_isOld_11 : decode cX5_isOld 11 = .ok (.bipush 60, 2) := by decide +kernel
theorem dX5_isOld_13 : decode cX5_isOld 13 = .ok (.if_icmp .ge 24, 3) := by decide +kernel
theorem dX5_isOld_37 : decode cX5_isOld 37 = .ok (.iconst 0, 1) := by decide +kernel
theorem dX5_isOld_38 : decode cX5_isOld 38 = .ok (.ireturn, 1) := by decide +kernel
theorem dX5_isOld_16 : decode cX5_isOld 16 = .ok (.iload_n 2, 1) := by decide +kernel
theorem dX5_isOld_17 : decode cX5_isOld 17 = .ok (.aload_n 0, 1) := by decide +kernel
theorem dX5_isOld_18 : decode cX5_isOld 18 = .ok (.getfield 11, 3) := by decide +kernel
theorem dX5_isOld_21 : decode cX5_isOld 21 = .ok (.bipush 73, 2) := by decide +kernel
theorem dX5_isOld_23 : decode cX5_isOld 23 = .ok (.iaload, 1) := by decide +kernel
theorem dX5_isOld_24 : decode cX5_isOld 24 = .ok (.bipush 10, 2) := by decide +kernel
theorem dX5_isOld_26 : decode cX5_isOld 26 = .ok (.idiv, 1) := by decide +kernel
theorem dX5_isOld_27 : decode cX5_isOld 27 = .ok (.iadd, 1) := by decide +kernel
theorem dX5_isOld_28 : decode cX5_isOld 28 = .ok (.bipush 60, 2) := by decide +kernel
theorem dX5_isOld_30 : decode cX5_isOld 30 = .ok (.if_icmp .lt 7, 3) := by decide +kernel
theorem dX5_isOld_33 : decode cX5_isOld 33 = .ok (.iconst 1, 1) := by decide +kernel
theorem dX5_isOld_34 : decode cX5_isOld 34 = .ok (.goto 4, 3) := by decide +kernel
theorem dX5_memoryOf_2 : decode cX5_memoryOf 2 = .ok (.invokevirtual 57, 3) := by decide +kernel
theorem dX5_memoryOf_5 : decode cX5_memoryOf 5 = .ok (.ifCond .eq 17, 3) := by decide +kernel
theorem dX5_memoryOf_22 : decode cX5_memoryOf 22 = .ok (.aload_n 0, 1) := by decide +kernel
theorem dX5_memoryOf_23 : decode cX5_memoryOf 23 = .ok (.getfield 15, 3) := by decide +kernel
theorem dX5_memoryOf_26 : decode cX5_memoryOf 26 = .ok (.getfield 60, 3) := by decide +kernel
theorem dX5_memoryOf_29 : decode cX5_memoryOf 29 = .ok (.iload_n 1, 1) := by decide +kernel
theorem dX5_memoryOf_30 : decode cX5_memoryOf 30 = .ok (.iaload, 1) := by decide +kernel
theorem dX5_memoryOf_31 : decode cX5_memoryOf 31 = .ok (.ireturn, 1) := by decide +kernel
theorem dX5_memoryOf_8 : decode cX5_memoryOf 8 = .ok (.aload_n 0, 1) := by decide +kernel
theorem dX5_memoryOf_9 : decode cX5_memoryOf 9 = .ok (.getfield 15, 3) := by decide +kernel
theorem dX5_memoryOf_12 : decode cX5_memoryOf 12 = .ok (.getfield 60, 3) := by decide +kernel
theorem dX5_memoryOf_15 : decode cX5_memoryOf 15 = .ok (.iload_n 1, 1) := by decide +kernel
theorem dX5_memoryOf_16 : decode cX5_memoryOf 16 = .ok (.iaload, 1) := by decide +kernel
theorem dX5_memoryOf_17 : decode cX5_memoryOf 17 = .ok (.iconst 2, 1) := by decide +kernel
theorem dX5_memoryOf_18 : decode cX5_memoryOf 18 = .ok (.idiv, 1) := by decide +kernel
theorem dX5_memoryOf_19 : decode cX5_memoryOf 19 = .ok (.goto 12, 3) := by decide +kernel
theorem dX5_roomOf_2 : decode cX5_roomOf 2 = .ok (.invokevirtual 63, 3) := by decide +kernel
theorem dX5_roomOf_5 : decode cX5_roomOf 5 = .ok (.aload_n 0, 1) := by decide +kernel
theorem dX5_roomOf_6 : decode cX5_roomOf 6 = .ok (.iload_n 1, 1) := by decide +kernel
theorem dX5_linesOf_0 : decode cX5_linesOf 0 = .ok (.iconst 0, 1) := by decide +kernel
theorem dX5_linesOf_1 : decode cX5_linesOf 1 = .ok (.istore_n 2, 1) := by decide +kernel
theorem dX5_linesOf_2 : decode cX5_linesOf 2 = .ok (.iconst 0, 1) := by decide +kernel
theorem dX5_linesOf_3 : decode cX5_linesOf 3 = .ok (.istore_n 3, 1) := by decide +kernel
theorem dX5_linesOf_4 : decode cX5_linesOf 4 = .ok (.iload_n 3, 1) := by decide +kernel
theorem dX5_linesOf_5 : decode cX5_linesOf 5 = .ok (.aload_n 0, 1) := by decide +kernel
theorem dX5_linesOf_6 : decode cX5_linesOf 6 = .ok (.getfield 15, 3) := by decide +kernel
theorem dX5_linesOf_9 : decode cX5_linesOf 9 = .ok (.getfield 33, 3) := by decide +kernel
theorem dX5_linesOf_12 : decode cX5_linesOf 12 = .ok (.if_icmp .ge 22, 3) := by decide +kernel
theorem dX5_linesOf_34 : decode cX5_linesOf 34 = .ok (.iload_n 2, 1) := by decide +kernel
theorem dX5_linesOf_35 : decode cX5_linesOf 35 = .ok (.ireturn, 1) := by decide +kernel
theorem dX5_linesOf_15 : decode cX5_linesOf 15 = .ok (.iload_n 2, 1) := by decide +kernel
theorem dX5_linesOf_16 : decode cX5_linesOf 16 = .ok (.aload_n 0, 1) := by decide +kernel
theorem dX5_linesOf_17 : decode cX5_linesOf 17 = .ok (.getfield 11, 3) := by decide +kernel
theorem dX5_linesOf_20 : decode cX5_linesOf 20 = .ok (.iload_n 1, 1) := by decide +kernel
theorem dX5_linesOf_21 : decode cX5_linesOf 21 = .ok (.iload_n 3, 1) := by decide +kernel
theorem dX5_place_0 : decode cX5_place 0 = .ok (.iconst 0, 1) := by decide +kernel
theorem dX5_place_1 : decode cX5_place 1 = .ok (.iload_n 0, 1) := by decide +kernel
theorem dX5_place_2 : decode cX5_place 2 = .ok (.bipush 8, 2) := by decide +kernel
theorem dX5_place_4 : decode cX5_place 4 = .ok (.imul, 1) := by decide +kernel
theorem dX5_place_5 : decode cX5_place 5 = .ok (.iadd, 1) := by decide +kernel
theorem dX5_place_6 : decode cX5_place 6 = .ok (.iload_n 1, 1) := by decide +kernel
theorem dX5_place_7 : decode cX5_place 7 = .ok (.iadd, 1) := by decide +kernel
theorem dX5_place_8 : decode cX5_place 8 = .ok (.ireturn, 1) := by decide +kernel
theorem dX5_linesOf_22 : decode cX5_linesOf 22 = .ok (.invokestatic 29, 3) := by decide +kernel
theorem dX5_linesOf_25 : decode cX5_linesOf 25 = .ok (.iaload, 1) := by decide +kernel
theorem dX5_linesOf_26 : decode cX5_linesOf 26 = .ok (.iadd, 1) := by decide +kernel
theorem dX5_linesOf_27 : decode cX5_linesOf 27 = .ok (.istore_n 2, 1) := by decide +kernel
theorem dX5_linesOf_28 : decode cX5_linesOf 28 = .ok (.iinc 3 1, 3) := by decide +kernel
theorem dX5_linesOf_31 : decode cX5_linesOf 31 = .ok (.goto (-27), 3) := by decide +kernel
theorem dX5_roomOf_7 : decode cX5_roomOf 7 = .ok (.invokevirtual 40, 3) := by decide +kernel
theorem dX5_roomOf_10 : decode cX5_roomOf 10 = .ok (.isub, 1) := by decide +kernel
theorem dX5_roomOf_11 : decode cX5_roomOf 11 = .ok (.istore_n 2, 1) := by decide +kernel
theorem dX5_roomOf_12 : decode cX5_roomOf 12 = .ok (.iload_n 2, 1) := by decide +kernel
theorem dX5_roomOf_13 : decode cX5_roomOf 13 = .ok (.ifCond .ge 7, 3) := by decide +kernel
theorem dX5_roomOf_20 : decode cX5_roomOf 20 = .ok (.iload_n 2, 1) := by decide +kernel
theorem dX5_roomOf_21 : decode cX5_roomOf 21 = .ok (.ireturn, 1) := by decide +kernel
theorem dX5_roomOf_16 : decode cX5_roomOf 16 = .ok (.iconst 0, 1) := by decide +kernel
theorem dX5_roomOf_17 : decode cX5_roomOf 17 = .ok (.goto 4, 3) := by decide +kernel
theorem dX5_gainOf_2 : decode cX5_gainOf 2 = .ok (.invokevirtual 82, 3) := by decide +kernel
theorem dX5_gainOf_5 : decode cX5_gainOf 5 = .ok (.istore_n 3, 1) := by decide +kernel
theorem dX5_gainOf_6 : decode cX5_gainOf 6 = .ok (.aload_n 0, 1) := by decide +kernel
theorem dX5_gainOf_7 : decode cX5_gainOf 7 = .ok (.iload_n 1, 1) := by decide +kernel
theorem dX5_gainOf_8 : decode cX5_gainOf 8 = .ok (.iload_n 2, 1) := by decide +kernel
theorem dX5_gainOf_9 : decode cX5_gainOf 9 = .ok (.iload_n 3, 1) := by decide +kernel
theorem dX5_learnable_0 : decode cX5_learnable 0 = .ok (.aload_n 0, 1) := by decide +kernel
theorem dX5_learnable_1 : decode cX5_learnable 1 = .ok (.getfield 19, 3) := by decide +kernel
theorem dX5_learnable_4 : decode cX5_learnable 4 = .ok (.aload_n 0, 1) := by decide +kernel
theorem dX5_learnable_5 : decode cX5_learnable 5 = .ok (.getfield 15, 3) := by decide +kernel
theorem dX5_learnable_8 : decode cX5_learnable 8 = .ok (.getfield 70, 3) := by decide +kernel
theorem dX5_learnable_11 : decode cX5_learnable 11 = .ok (.iload_n 2, 1) := by decide +kernel
theorem dX5_learnable_12 : decode cX5_learnable 12 = .ok (.iaload, 1) := by decide +kernel
theorem dX5_learnable_13 : decode cX5_learnable 13 = .ok (.aload_n 0, 1) := by decide +kernel
theorem dX5_learnable_14 : decode cX5_learnable 14 = .ok (.getfield 15, 3) := by decide +kernel
theorem dX5_learnable_17 : decode cX5_learnable 17 = .ok (.getfield 89, 3) := by decide +kernel
theorem dX5_learnable_20 : decode cX5_learnable 20 = .ok (.iload_n 2, 1) := by decide +kernel
theorem dX5_learnable_21 : decode cX5_learnable 21 = .ok (.iaload, 1) := by decide +kernel
theorem dX5_learnable_22 : decode cX5_learnable 22 = .ok (.aload_n 0, 1) := by decide +kernel
theorem dX5_learnable_23 : decode cX5_learnable 23 = .ok (.getfield 11, 3) := by decide +kernel
theorem dX5_learnable_26 : decode cX5_learnable 26 = .ok (.iload_n 1, 1) := by decide +kernel
theorem dX5_learnable_27 : decode cX5_learnable 27 = .ok (.iload_n 2, 1) := by decide +kernel
theorem dX5_learnable_28 : decode cX5_learnable 28 = .ok (.invokestatic 29, 3) := by decide +kernel
theorem dX5_learnable_31 : decode cX5_learnable 31 = .ok (.iaload, 1) := by decide +kernel
theorem dX1_tellPoem_0 : decode cX1_tellPoem 0 = .ok (.aload_n 0, 1) := by decide +kernel
theorem dX1_tellPoem_1 : decode cX1_tellPoem 1 = .ok (.getfield 15, 3) := by decide +kernel
theorem dX1_tellPoem_4 : decode cX1_tellPoem 4 = .ok (.iconst 0, 1) := by decide +kernel
theorem dX1_tellPoem_5 : decode cX1_tellPoem 5 = .ok (.iload_n 1, 1) := by decide +kernel
theorem dX1_tellPoem_6 : decode cX1_tellPoem 6 = .ok (.iastore, 1) := by decide +kernel
theorem dX1_tellPoem_7 : decode cX1_tellPoem 7 = .ok (.aload_n 0, 1) := by decide +kernel
theorem dX1_tellPoem_8 : decode cX1_tellPoem 8 = .ok (.getfield 15, 3) := by decide +kernel
theorem dX1_tellPoem_11 : decode cX1_tellPoem 11 = .ok (.iconst 1, 1) := by decide +kernel
theorem dX1_tellPoem_12 : decode cX1_tellPoem 12 = .ok (.iload_n 2, 1) := by decide +kernel
theorem dX1_tellPoem_13 : decode cX1_tellPoem 13 = .ok (.iastore, 1) := by decide +kernel
theorem dX1_tellPoem_14 : decode cX1_tellPoem 14 = .ok (.aload_n 0, 1) := by decide +kernel
theorem dX1_tellPoem_15 : decode cX1_tellPoem 15 = .ok (.getfield 15, 3) := by decide +kernel
theorem dX1_tellPoem_18 : decode cX1_tellPoem 18 = .ok (.iconst 2, 1) := by decide +kernel
theorem dX1_tellPoem_19 : decode cX1_tellPoem 19 = .ok (.iload_n 3, 1) := by decide +kernel
theorem dX1_tellPoem_20 : decode cX1_tellPoem 20 = .ok (.iastore, 1) := by decide +kernel
theorem dX1_tellPoem_21 : decode cX1_tellPoem 21 = .ok (.return_, 1) := by decide +kernel
theorem dX5_learnable_32 : decode cX5_learnable 32 = .ok (.invokevirtual 92, 3) := by decide +kernel
theorem dX5_learnable_35 : decode cX5_learnable 35 = .ok (.aload_n 0, 1) := by decide +kernel
theorem dX5_learnable_36 : decode cX5_learnable 36 = .ok (.getfield 19, 3) := by decide +kernel
theorem dX5_learnable_39 : decode cX5_learnable 39 = .ok (.iload_n 3, 1) := by decide +kernel
theorem dX5_learnable_40 : decode cX5_learnable 40 = .ok (.aload_n 0, 1) := by decide +kernel
theorem dX5_learnable_41 : decode cX5_learnable 41 = .ok (.iload_n 1, 1) := by decide +kernel
theorem dX5_ageOf_0 : decode cX5_ageOf 0 = .ok (.aload_n 0, 1) := by decide +kernel
theorem dX5_ageOf_1 : decode cX5_ageOf 1 = .ok (.getfield 15, 3) := by decide +kernel
theorem dX5_ageOf_4 : decode cX5_ageOf 4 = .ok (.getfield 54, 3) := by decide +kernel
theorem dX5_ageOf_7 : decode cX5_ageOf 7 = .ok (.iload_n 1, 1) := by decide +kernel
theorem dX5_ageOf_8 : decode cX5_ageOf 8 = .ok (.iaload, 1) := by decide +kernel
theorem dX5_ageOf_9 : decode cX5_ageOf 9 = .ok (.aload_n 0, 1) := by decide +kernel
theorem dX5_ageOf_10 : decode cX5_ageOf 10 = .ok (.getfield 11, 3) := by decide +kernel
theorem dX5_ageOf_13 : decode cX5_ageOf 13 = .ok (.bipush 73, 2) := by decide +kernel
theorem dX5_ageOf_15 : decode cX5_ageOf 15 = .ok (.iaload, 1) := by decide +kernel
theorem dX5_ageOf_16 : decode cX5_ageOf 16 = .ok (.bipush 10, 2) := by decide +kernel
theorem dX5_ageOf_18 : decode cX5_ageOf 18 = .ok (.idiv, 1) := by decide +kernel
theorem dX5_ageOf_19 : decode cX5_ageOf 19 = .ok (.iadd, 1) := by decide +kernel
theorem dX5_ageOf_20 : decode cX5_ageOf 20 = .ok (.ireturn, 1) := by decide +kernel
theorem dX5_learnable_42 : decode cX5_learnable 42 = .ok (.invokevirtual 98, 3) := by decide +kernel
theorem dX5_learnable_45 : decode cX5_learnable 45 = .ok (.aload_n 0, 1) := by decide +kernel
theorem dX5_learnable_46 : decode cX5_learnable 46 = .ok (.getfield 11, 3) := by decide +kernel
theorem dX5_learnable_49 : decode cX5_learnable 49 = .ok (.bipush 48, 2) := by decide +kernel
theorem dX5_learnable_51 : decode cX5_learnable 51 = .ok (.iload_n 1, 1) := by decide +kernel
theorem dX5_learnable_52 : decode cX5_learnable 52 = .ok (.iadd, 1) := by decide +kernel
theorem dX5_learnable_53 : decode cX5_learnable 53 = .ok (.iaload, 1) := by decide +kernel
theorem dX5_learnable_54 : decode cX5_learnable 54 = .ok (.aload_n 0, 1) := by decide +kernel
theorem dX5_learnable_55 : decode cX5_learnable 55 = .ok (.getfield 11, 3) := by decide +kernel
theorem dX5_learnable_58 : decode cX5_learnable 58 = .ok (.bipush 73, 2) := by decide +kernel
theorem dX5_learnable_60 : decode cX5_learnable 60 = .ok (.iaload, 1) := by decide +kernel
theorem dX5_learnable_61 : decode cX5_learnable 61 = .ok (.iload_n 1, 1) := by decide +kernel
theorem dX1_tellMan_0 : decode cX1_tellMan 0 = .ok (.aload_n 0, 1) := by decide +kernel
theorem dX1_tellMan_1 : decode cX1_tellMan 1 = .ok (.getfield 15, 3) := by decide +kernel
theorem dX1_tellMan_4 : decode cX1_tellMan 4 = .ok (.iconst 3, 1) := by decide +kernel
theorem dX1_tellMan_5 : decode cX1_tellMan 5 = .ok (.iload_n 1, 1) := by decide +kernel
theorem dX1_tellMan_6 : decode cX1_tellMan 6 = .ok (.iastore, 1) := by decide +kernel
theorem dX1_tellMan_7 : decode cX1_tellMan 7 = .ok (.aload_n 0, 1) := by decide +kernel
theorem dX1_tellMan_8 : decode cX1_tellMan 8 = .ok (.getfield 15, 3) := by decide +kernel
theorem dX1_tellMan_11 : decode cX1_tellMan 11 = .ok (.iconst 4, 1) := by decide +kernel
theorem dX1_tellMan_12 : decode cX1_tellMan 12 = .ok (.iload_n 2, 1) := by decide +kernel
theorem dX1_tellMan_13 : decode cX1_tellMan 13 = .ok (.iastore, 1) := by decide +kernel
theorem dX1_tellMan_14 : decode cX1_tellMan 14 = .ok (.aload_n 0, 1) := by decide +kernel
theorem dX1_tellMan_15 : decode cX1_tellMan 15 = .ok (.getfield 15, 3) := by decide +kernel
theorem dX1_tellMan_18 : decode cX1_tellMan 18 = .ok (.iconst 5, 1) := by decide +kernel
theorem dX1_tellMan_19 : decode cX1_tellMan 19 = .ok (.iload_n 3, 1) := by decide +kernel
theorem dX1_tellMan_20 : decode cX1_tellMan 20 = .ok (.iastore, 1) := by decide +kernel
theorem dX1_tellMan_21 : decode cX1_tellMan 21 = .ok (.aload_n 0, 1) := by decide +kernel
theorem dX1_tellMan_22 : decode cX1_tellMan 22 = .ok (.getfield 15, 3) := by decide +kernel
theorem dX1_tellMan_25 : decode cX1_tellMan 25 = .ok (.bipush 6, 2) := by decide +kernel
theorem dX1_tellMan_27 : decode cX1_tellMan 27 = .ok (.iload 4, 2) := by decide +kernel
theorem dX1_tellMan_29 : decode cX1_tellMan 29 = .ok (.iastore, 1) := by decide +kernel
theorem dX1_tellMan_30 : decode cX1_tellMan 30 = .ok (.aload_n 0, 1) := by decide +kernel
theorem dX1_tellMan_31 : decode cX1_tellMan 31 = .ok (.getfield 15, 3) := by decide +kernel
theorem dX1_tellMan_34 : decode cX1_tellMan 34 = .ok (.bipush 7, 2) := by decide +kernel
theorem dX1_tellMan_36 : decode cX1_tellMan 36 = .ok (.iload 5, 2) := by decide +kernel
theorem dX1_tellMan_38 : decode cX1_tellMan 38 = .ok (.iastore, 1) := by decide +kernel
theorem dX1_tellMan_39 : decode cX1_tellMan 39 = .ok (.return_, 1) := by decide +kernel
theorem dX5_learnable_62 : decode cX5_learnable 62 = .ok (.invokevirtual 101, 3) := by decide +kernel
theorem dX5_learnable_65 : decode cX5_learnable 65 = .ok (.aload_n 0, 1) := by decide +kernel
theorem dX5_learnable_66 : decode cX5_learnable 66 = .ok (.getfield 19, 3) := by decide +kernel
theorem dX1_outcome_0 : decode cX1_outcome 0 = .ok (.iconst 0, 1) := by decide +kernel
theorem dX1_outcome_1 : decode cX1_outcome 1 = .ok (.istore_n 1, 1) := by decide +kernel
theorem dX1_outcome_2 : decode cX1_outcome 2 = .ok (.iconst 0, 1) := by decide +kernel
theorem dX1_outcome_3 : decode cX1_outcome 3 = .ok (.istore_n 2, 1) := by decide +kernel
theorem dX1_outcome_4 : decode cX1_outcome 4 = .ok (.iload_n 2, 1) := by decide +kernel
theorem dX1_outcome_5 : decode cX1_outcome 5 = .ok (.aload_n 0, 1) := by decide +kernel
theorem dX1_outcome_6 : decode cX1_outcome 6 = .ok (.getfield 24, 3) := by decide +kernel
theorem dX1_outcome_9 : decode cX1_outcome 9 = .ok (.if_icmp .ge 100, 3) := by decide +kernel
theorem dX1_outcome_109 : decode cX1_outcome 109 = .ok (.aload_n 0, 1) := by decide +kernel
theorem dX1_outcome_110 : decode cX1_outcome 110 = .ok (.getfield 18, 3) := by decide +kernel
theorem dX1_outcome_113 : decode cX1_outcome 113 = .ok (.iconst 0, 1) := by decide +kernel
theorem dX1_outcome_114 : decode cX1_outcome 114 = .ok (.iaload, 1) := by decide +kernel
theorem dX1_outcome_115 : decode cX1_outcome 115 = .ok (.istore_n 2, 1) := by decide +kernel
theorem dX1_outcome_116 : decode cX1_outcome 116 = .ok (.iload_n 2, 1) := by decide +kernel
theorem dX1_outcome_117 : decode cX1_outcome 117 = .ok (.ifCond .ge 7, 3) := by decide +kernel
theorem dX1_outcome_124 : decode cX1_outcome 124 = .ok (.iload_n 2, 1) := by decide +kernel
theorem dX1_outcome_125 : decode cX1_outcome 125 = .ok (.bipush 20, 2) := by decide +kernel
theorem dX1_outcome_127 : decode cX1_outcome 127 = .ok (.if_icmp .le 8, 3) := by decide +kernel
theorem dX1_outcome_135 : decode cX1_outcome 135 = .ok (.iload_n 2, 1) := by decide +kernel
theorem dX1_outcome_136 : decode cX1_outcome 136 = .ok (.ireturn, 1) := by decide +kernel
theorem dX1_outcome_130 : decode cX1_outcome 130 = .ok (.bipush 20, 2) := by decide +kernel
theorem dX1_outcome_132 : decode cX1_outcome 132 = .ok (.goto 4, 3) := by decide +kernel
theorem dX1_outcome_120 : decode cX1_outcome 120 = .ok (.iconst 0, 1) := by decide +kernel
theorem dX1_outcome_121 : decode cX1_outcome 121 = .ok (.goto 15, 3) := by decide +kernel
theorem dX1_outcome_12 : decode cX1_outcome 12 = .ok (.aload_n 0, 1) := by decide +kernel
theorem dX1_outcome_13 : decode cX1_outcome 13 = .ok (.getfield 11, 3) := by decide +kernel
theorem dX1_outcome_16 : decode cX1_outcome 16 = .ok (.iload_n 2, 1) := by decide +kernel
theorem dX1_outcome_17 : decode cX1_outcome 17 = .ok (.iaload, 1) := by decide +kernel
theorem dX1_outcome_18 : decode cX1_outcome 18 = .ok (.istore_n 3, 1) := by decide +kernel
theorem dX1_outcome_19 : decode cX1_outcome 19 = .ok (.iload_n 3, 1) := by decide +kernel
theorem dX1_outcome_20 : decode cX1_outcome 20 = .ok (.sipush 2000, 3) := by decide +kernel
theorem dX1_outcome_23 : decode cX1_outcome 23 = .ok (.if_icmp .lt 42, 3) := by decide +kernel
theorem dX1_outcome_65 : decode cX1_outcome 65 = .ok (.iload_n 1, 1) := by decide +kernel
theorem dX1_outcome_66 : decode cX1_outcome 66 = .ok (.bipush 40, 2) := by decide +kernel
theorem dX1_outcome_68 : decode cX1_outcome 68 = .ok (.if_icmp .lt 5, 3) := by decide +kernel
theorem dX1_outcome_73 : decode cX1_outcome 73 = .ok (.aload_n 0, 1) := by decide +kernel
theorem dX1_outcome_74 : decode cX1_outcome 74 = .ok (.getfield 18, 3) := by decide +kernel
theorem dX1_outcome_77 : decode cX1_outcome 77 = .ok (.iload_n 1, 1) := by decide +kernel
theorem dX1_outcome_78 : decode cX1_outcome 78 = .ok (.iload_n 3, 1) := by decide +kernel
theorem dX1_outcome_79 : decode cX1_outcome 79 = .ok (.sipush 1000, 3) := by decide +kernel
theorem dX1_outcome_82 : decode cX1_outcome 82 = .ok (.if_icmp .ge 7, 3) := by decide +kernel
theorem dX1_outcome_89 : decode cX1_outcome 89 = .ok (.aload_n 0, 1) := by decide +kernel
theorem dX1_outcome_90 : decode cX1_outcome 90 = .ok (.getfield 15, 3) := by decide +kernel
theorem dX1_outcome_93 : decode cX1_outcome 93 = .ok (.iload_n 3, 1) := by decide +kernel
theorem dX1_outcome_94 : decode cX1_outcome 94 = .ok (.sipush 1000, 3) := by decide +kernel
theorem dX1_outcome_97 : decode cX1_outcome 97 = .ok (.isub, 1) := by decide +kernel
theorem dX1_outcome_98 : decode cX1_outcome 98 = .ok (.iaload, 1) := by decide +kernel
theorem dX1_outcome_85 : decode cX1_outcome 85 = .ok (.iload_n 3, 1) := by decide +kernel
theorem dX1_outcome_86 : decode cX1_outcome 86 = .ok (.goto 13, 3) := by decide +kernel
theorem dX1_outcome_71 : decode cX1_outcome 71 = .ok (.iconst 0, 1) := by decide +kernel
theorem dX1_outcome_72 : decode cX1_outcome 72 = .ok (.ireturn, 1) := by decide +kernel
theorem dX1_outcome_26 : decode cX1_outcome 26 = .ok (.iload_n 1, 1) := by decide +kernel
theorem dX1_outcome_27 : decode cX1_outcome 27 = .ok (.iconst 2, 1) := by decide +kernel
theorem dX1_outcome_28 : decode cX1_outcome 28 = .ok (.if_icmp .ge 5, 3) := by decide +kernel
theorem dX1_outcome_33 : decode cX1_outcome 33 = .ok (.iinc 1 (-1), 3) := by decide +kernel
theorem dX1_outcome_36 : decode cX1_outcome 36 = .ok (.aload_n 0, 1) := by decide +kernel
theorem dX1_outcome_37 : decode cX1_outcome 37 = .ok (.getfield 18, 3) := by decide +kernel
theorem dX1_outcome_40 : decode cX1_outcome 40 = .ok (.iload_n 1, 1) := by decide +kernel
theorem dX1_outcome_41 : decode cX1_outcome 41 = .ok (.iconst 1, 1) := by decide +kernel
theorem dX1_outcome_42 : decode cX1_outcome 42 = .ok (.isub, 1) := by decide +kernel
theorem dX1_outcome_43 : decode cX1_outcome 43 = .ok (.iload_n 3, 1) := by decide +kernel
theorem dX1_outcome_44 : decode cX1_outcome 44 = .ok (.aload_n 0, 1) := by decide +kernel
theorem dX1_outcome_45 : decode cX1_outcome 45 = .ok (.getfield 18, 3) := by decide +kernel
theorem dX1_outcome_48 : decode cX1_outcome 48 = .ok (.iload_n 1, 1) := by decide +kernel
theorem dX1_outcome_49 : decode cX1_outcome 49 = .ok (.iconst 1, 1) := by decide +kernel
theorem dX1_outcome_50 : decode cX1_outcome 50 = .ok (.isub, 1) := by decide +kernel
theorem dX1_outcome_51 : decode cX1_outcome 51 = .ok (.iaload, 1) := by decide +kernel
theorem dX1_outcome_52 : decode cX1_outcome 52 = .ok (.aload_n 0, 1) := by decide +kernel
theorem dX1_outcome_53 : decode cX1_outcome 53 = .ok (.getfield 18, 3) := by decide +kernel
theorem dX1_outcome_56 : decode cX1_outcome 56 = .ok (.iload_n 1, 1) := by decide +kernel
theorem dX1_outcome_57 : decode cX1_outcome 57 = .ok (.iaload, 1) := by decide +kernel
theorem dX1_joined_0 : decode cX1_joined 0 = .ok (.iload_n 0, 1) := by decide +kernel
theorem dX1_joined_1 : decode cX1_joined 1 = .ok (.tableswitch 86 2000 2005 #[39, 43, 47, 51, 63, 75], 39) := by decide +kernel
theorem dX1_joined_40 : decode cX1_joined 40 = .ok (.iload_n 1, 1) := by decide +kernel
theorem dX1_joined_41 : decode cX1_joined 41 = .ok (.iload_n 2, 1) := by decide +kernel
theorem dX1_joined_42 : decode cX1_joined 42 = .ok (.iadd, 1) := by decide +kernel
theorem dX1_joined_43 : decode cX1_joined 43 = .ok (.ireturn, 1) := by decide +kernel
theorem dX1_joined_44 : decode cX1_joined 44 = .ok (.iload_n 1, 1) := by decide +kernel
theorem dX1_joined_45 : decode cX1_joined 45 = .ok (.iload_n 2, 1) := by decide +kernel
theorem dX1_joined_46 : decode cX1_joined 46 = .ok (.isub, 1) := by decide +kernel
theorem dX1_joined_47 : decode cX1_joined 47 = .ok (.ireturn, 1) := by decide +kernel
theorem dX1_joined_48 : decode cX1_joined 48 = .ok (.iload_n 1, 1) := by decide +kernel
theorem dX1_joined_49 : decode cX1_joined 49 = .ok (.iload_n 2, 1) := by decide +kernel
theorem dX1_joined_50 : decode cX1_joined 50 = .ok (.imul, 1) := by decide +kernel
theorem dX1_joined_51 : decode cX1_joined 51 = .ok (.ireturn, 1) := by decide +kernel
theorem dX1_joined_52 : decode cX1_joined 52 = .ok (.iload_n 2, 1) := by decide +kernel
theorem dX1_joined_53 : decode cX1_joined 53 = .ok (.ifCond .ne 7, 3) := by decide +kernel
theorem dX1_joined_60 : decode cX1_joined 60 = .ok (.iload_n 1, 1) := by decide +kernel
theorem dX1_joined_61 : decode cX1_joined 61 = .ok (.iload_n 2, 1) := by decide +kernel
theorem dX1_joined_62 : decode cX1_joined 62 = .ok (.idiv, 1) := by decide +kernel
theorem dX1_joined_63 : decode cX1_joined 63 = .ok (.ireturn, 1) := by decide +kernel
theorem dX1_joined_56 : decode cX1_joined 56 = .ok (.iconst 0, 1) := by decide +kernel
theorem dX1_joined_57 : decode cX1_joined 57 = .ok (.goto 6, 3) := by decide +kernel
theorem dX1_joined_64 : decode cX1_joined 64 = .ok (.iload_n 2, 1) := by decide +kernel
theorem dX1_joined_65 : decode cX1_joined 65 = .ok (.ifCond .ne 7, 3) := by decide +kernel
theorem dX1_joined_72 : decode cX1_joined 72 = .ok (.iload_n 1, 1) := by decide +kernel
theorem dX1_joined_73 : decode cX1_joined 73 = .ok (.iload_n 2, 1) := by decide +kernel
theorem dX1_joined_74 : decode cX1_joined 74 = .ok (.irem, 1) := by decide +kernel
theorem dX1_joined_75 : decode cX1_joined 75 = .ok (.ireturn, 1) := by decide +kernel
theorem dX1_joined_68 : decode cX1_joined 68 = .ok (.iconst 0, 1) := by decide +kernel
theorem dX1_joined_69 : decode cX1_joined 69 = .ok (.goto 6, 3) := by decide +kernel
theorem dX1_joined_76 : decode cX1_joined 76 = .ok (.iload_n 1, 1) := by decide +kernel
theorem dX1_joined_77 : decode cX1_joined 77 = .ok (.iload_n 2, 1) := by decide +kernel
theorem dX1_joined_78 : decode cX1_joined 78 = .ok (.if_icmp .ge 7, 3) := by decide +kernel
theorem dX1_joined_85 : decode cX1_joined 85 = .ok (.iload_n 2, 1) := by decide +kernel
theorem dX1_joined_86 : decode cX1_joined 86 = .ok (.ireturn, 1) := by decide +kernel
theorem dX1_joined_81 : decode cX1_joined 81 = .ok (.iload_n 1, 1) := by decide +kernel
theorem dX1_joined_82 : decode cX1_joined 82 = .ok (.goto 4, 3) := by decide +kernel
theorem dX1_joined_87 : decode cX1_joined 87 = .ok (.iload_n 1, 1) := by decide +kernel
theorem dX1_joined_88 : decode cX1_joined 88 = .ok (.iload_n 2, 1) := by decide +kernel
theorem dX1_joined_89 : decode cX1_joined 89 = .ok (.if_icmp .le 7, 3) := by decide +kernel
theorem dX1_joined_96 : decode cX1_joined 96 = .ok (.iload_n 2, 1) := by decide +kernel
theorem dX1_joined_97 : decode cX1_joined 97 = .ok (.ireturn, 1) := by decide +kernel
theorem dX1_joined_92 : decode cX1_joined 92 = .ok (.iload_n 1, 1) := by decide +kernel
theorem dX1_joined_93 : decode cX1_joined 93 = .ok (.goto 4, 3) := by decide +kernel
theorem dX1_outcome_58 : decode cX1_outcome 58 = .ok (.invokestatic 119, 3) := by decide +kernel
theorem dX1_outcome_61 : decode cX1_outcome 61 = .ok (.iastore, 1) := by decide +kernel
theorem dX1_outcome_62 : decode cX1_outcome 62 = .ok (.goto 41, 3) := by decide +kernel
theorem dX1_outcome_103 : decode cX1_outcome 103 = .ok (.iinc 2 1, 3) := by decide +kernel
theorem dX1_outcome_106 : decode cX1_outcome 106 = .ok (.goto (-102), 3) := by decide +kernel
theorem dX1_outcome_31 : decode cX1_outcome 31 = .ok (.iconst 0, 1) := by decide +kernel
theorem dX1_outcome_32 : decode cX1_outcome 32 = .ok (.ireturn, 1) := by decide +kernel
theorem dX1_outcome_99 : decode cX1_outcome 99 = .ok (.iastore, 1) := by decide +kernel
theorem dX1_outcome_100 : decode cX1_outcome 100 = .ok (.iinc 1 1, 3) := by decide +kernel
theorem dX5_learnable_69 : decode cX5_learnable 69 = .ok (.invokevirtual 105, 3) := by decide +kernel
theorem dX5_learnable_72 : decode cX5_learnable 72 = .ok (.ireturn, 1) := by decide +kernel
theorem dX5_gainOf_10 : decode cX5_gainOf 10 = .ok (.invokevirtual 85, 3) := by decide +kernel
theorem dX5_gainOf_13 : decode cX5_gainOf 13 = .ok (.istore 4, 2) := by decide +kernel
theorem dX5_gainOf_15 : decode cX5_gainOf 15 = .ok (.aload_n 0, 1) := by decide +kernel
theorem dX5_gainOf_16 : decode cX5_gainOf 16 = .ok (.getfield 15, 3) := by decide +kernel
theorem dX5_gainOf_19 : decode cX5_gainOf 19 = .ok (.getfield 70, 3) := by decide +kernel
theorem dX5_gainOf_22 : decode cX5_gainOf 22 = .ok (.iload_n 2, 1) := by decide +kernel
theorem dX5_gainOf_23 : decode cX5_gainOf 23 = .ok (.iaload, 1) := by decide +kernel
theorem dX5_gainOf_24 : decode cX5_gainOf 24 = .ok (.aload_n 0, 1) := by decide +kernel
theorem dX5_gainOf_25 : decode cX5_gainOf 25 = .ok (.getfield 11, 3) := by decide +kernel
theorem dX5_gainOf_28 : decode cX5_gainOf 28 = .ok (.iload_n 1, 1) := by decide +kernel
theorem dX5_gainOf_29 : decode cX5_gainOf 29 = .ok (.iload_n 2, 1) := by decide +kernel
theorem dX5_gainOf_30 : decode cX5_gainOf 30 = .ok (.invokestatic 29, 3) := by decide +kernel
theorem dX5_gainOf_33 : decode cX5_gainOf 33 = .ok (.iaload, 1) := by decide +kernel
theorem dX5_gainOf_34 : decode cX5_gainOf 34 = .ok (.isub, 1) := by decide +kernel
theorem dX5_gainOf_35 : decode cX5_gainOf 35 = .ok (.istore 5, 2) := by decide +kernel
theorem dX5_gainOf_37 : decode cX5_gainOf 37 = .ok (.iload 4, 2) := by decide +kernel
theorem dX5_gainOf_39 : decode cX5_gainOf 39 = .ok (.iload_n 3, 1) := by decide +kernel
theorem dX5_gainOf_40 : decode cX5_gainOf 40 = .ok (.if_icmp .ge 8, 3) := by decide +kernel
theorem dX5_gainOf_48 : decode cX5_gainOf 48 = .ok (.iload_n 3, 1) := by decide +kernel
theorem dX5_gainOf_43 : decode cX5_gainOf 43 = .ok (.iload 4, 2) := by decide +kernel
theorem dX5_gainOf_45 : decode cX5_gainOf 45 = .ok (.goto 4, 3) := by decide +kernel
theorem dX5_gainOf_49 : decode cX5_gainOf 49 = .ok (.istore 4, 2) := by decide +kernel
theorem dX5_gainOf_51 : decode cX5_gainOf 51 = .ok (.iload 4, 2) := by decide +kernel
theorem dX5_gainOf_53 : decode cX5_gainOf 53 = .ok (.iload 5, 2) := by decide +kernel
theorem dX5_gainOf_55 : decode cX5_gainOf 55 = .ok (.if_icmp .ge 8, 3) := by decide +kernel
theorem dX5_gainOf_63 : decode cX5_gainOf 63 = .ok (.iload 5, 2) := by decide +kernel
theorem dX5_gainOf_65 : decode cX5_gainOf 65 = .ok (.ireturn, 1) := by decide +kernel
theorem dX5_gainOf_58 : decode cX5_gainOf 58 = .ok (.iload 4, 2) := by decide +kernel
theorem dX5_gainOf_60 : decode cX5_gainOf 60 = .ok (.goto 5, 3) := by decide +kernel
theorem dX5_teach_3 : decode cX5_teach 3 = .ok (.invokevirtual 109, 3) := by decide +kernel
theorem dX5_teach_6 : decode cX5_teach 6 = .ok (.istore_n 3, 1) := by decide +kernel
theorem dX5_teach_7 : decode cX5_teach 7 = .ok (.iload_n 3, 1) := by decide +kernel
theorem dX5_teach_8 : decode cX5_teach 8 = .ok (.ifCond .gt 5, 3) := by decide +kernel
theorem dX5_teach_13 : decode cX5_teach 13 = .ok (.aload_n 0, 1) := by decide +kernel
theorem dX5_teach_14 : decode cX5_teach 14 = .ok (.getfield 11, 3) := by decide +kernel
theorem dX5_teach_17 : decode cX5_teach 17 = .ok (.iload_n 1, 1) := by decide +kernel
theorem dX5_teach_18 : decode cX5_teach 18 = .ok (.iload_n 2, 1) := by decide +kernel
theorem dX5_teach_19 : decode cX5_teach 19 = .ok (.invokestatic 29, 3) := by decide +kernel
theorem dX5_teach_22 : decode cX5_teach 22 = .ok (.dup2, 1) := by decide +kernel
theorem dX5_teach_23 : decode cX5_teach 23 = .ok (.iaload, 1) := by decide +kernel
theorem dX5_teach_24 : decode cX5_teach 24 = .ok (.iload_n 3, 1) := by decide +kernel
theorem dX5_teach_25 : decode cX5_teach 25 = .ok (.iadd, 1) := by decide +kernel
theorem dX5_teach_26 : decode cX5_teach 26 = .ok (.iastore, 1) := by decide +kernel
theorem dX5_teach_27 : decode cX5_teach 27 = .ok (.aload_n 0, 1) := by decide +kernel
theorem dX5_teach_28 : decode cX5_teach 28 = .ok (.getfield 11, 3) := by decide +kernel
theorem dX5_teach_31 : decode cX5_teach 31 = .ok (.bipush 48, 2) := by decide +kernel
theorem dX5_teach_33 : decode cX5_teach 33 = .ok (.iload_n 1, 1) := by decide +kernel
theorem dX5_teach_34 : decode cX5_teach 34 = .ok (.iadd, 1) := by decide +kernel
theorem dX5_teach_35 : decode cX5_teach 35 = .ok (.dup2, 1) := by decide +kernel
theorem dX5_teach_36 : decode cX5_teach 36 = .ok (.iaload, 1) := by decide +kernel
theorem dX5_teach_37 : decode cX5_teach 37 = .ok (.iconst 1, 1) := by decide +kernel
theorem dX5_teach_38 : decode cX5_teach 38 = .ok (.iadd, 1) := by decide +kernel
theorem dX5_teach_39 : decode cX5_teach 39 = .ok (.iastore, 1) := by decide +kernel
theorem dX5_teach_40 : decode cX5_teach 40 = .ok (.aload_n 0, 1) := by decide +kernel
theorem dX5_teach_41 : decode cX5_teach 41 = .ok (.getfield 11, 3) := by decide +kernel
theorem dX5_teach_44 : decode cX5_teach 44 = .ok (.bipush 54, 2) := by decide +kernel
theorem dX5_teach_46 : decode cX5_teach 46 = .ok (.iload_n 1, 1) := by decide +kernel
theorem dX5_teach_47 : decode cX5_teach 47 = .ok (.iadd, 1) := by decide +kernel
theorem dX5_teach_48 : decode cX5_teach 48 = .ok (.dup2, 1) := by decide +kernel
theorem dX5_teach_49 : decode cX5_teach 49 = .ok (.iaload, 1) := by decide +kernel
theorem dX5_teach_50 : decode cX5_teach 50 = .ok (.iconst 1, 1) := by decide +kernel
theorem dX5_teach_51 : decode cX5_teach 51 = .ok (.iadd, 1) := by decide +kernel
theorem dX5_teach_52 : decode cX5_teach 52 = .ok (.iastore, 1) := by decide +kernel
theorem dX5_teach_53 : decode cX5_teach 53 = .ok (.aload_n 0, 1) := by decide +kernel
theorem dX5_teach_54 : decode cX5_teach 54 = .ok (.getfield 11, 3) := by decide +kernel
theorem dX5_teach_57 : decode cX5_teach 57 = .ok (.bipush 66, 2) := by decide +kernel
theorem dX5_teach_59 : decode cX5_teach 59 = .ok (.iload_n 1, 1) := by decide +kernel
theorem dX5_teach_60 : decode cX5_teach 60 = .ok (.iadd, 1) := by decide +kernel
theorem dX5_teach_61 : decode cX5_teach 61 = .ok (.dup2, 1) := by decide +kernel
theorem dX5_teach_62 : decode cX5_teach 62 = .ok (.iaload, 1) := by decide +kernel
theorem dX5_teach_63 : decode cX5_teach 63 = .ok (.iconst 1, 1) := by decide +kernel
theorem dX5_teach_64 : decode cX5_teach 64 = .ok (.iload_n 2, 1) := by decide +kernel
theorem dX5_teach_65 : decode cX5_teach 65 = .ok (.ishl, 1) := by decide +kernel
theorem dX5_teach_66 : decode cX5_teach 66 = .ok (.ior, 1) := by decide +kernel
theorem dX5_teach_67 : decode cX5_teach 67 = .ok (.iastore, 1) := by decide +kernel
theorem dX5_teach_68 : decode cX5_teach 68 = .ok (.iconst 1, 1) := by decide +kernel
theorem dX5_teach_69 : decode cX5_teach 69 = .ok (.ireturn, 1) := by decide +kernel
theorem dX5_teach_11 : decode cX5_teach 11 = .ok (.iconst 0, 1) := by decide +kernel
theorem dX5_teach_12 : decode cX5_teach 12 = .ok (.ireturn, 1) := by decide +kernel
theorem dX8_doStep_56 : decode cX8_doStep 56 = .ok (.invokevirtual 116, 3) := by decide +kernel
theorem dX8_doStep_59 : decode cX8_doStep 59 = .ok (.ireturn, 1) := by decide +kernel
theorem dX8_doStep_60 : decode cX8_doStep 60 = .ok (.aload_n 1, 1) := by decide +kernel
theorem dX8_doStep_61 : decode cX8_doStep 61 = .ok (.iload_n 3, 1) := by decide +kernel
theorem dX8_doStep_62 : decode cX8_doStep 62 = .ok (.iload 4, 2) := by decide +kernel
theorem dX5_letGo_0 : decode cX5_letGo 0 = .ok (.aload_n 0, 1) := by decide +kernel
theorem dX5_letGo_1 : decode cX5_letGo 1 = .ok (.getfield 11, 3) := by decide +kernel
theorem dX5_letGo_4 : decode cX5_letGo 4 = .ok (.iload_n 1, 1) := by decide +kernel
theorem dX5_letGo_5 : decode cX5_letGo 5 = .ok (.iload_n 2, 1) := by decide +kernel
theorem dX5_letGo_6 : decode cX5_letGo 6 = .ok (.invokestatic 29, 3) := by decide +kernel
theorem dX5_letGo_9 : decode cX5_letGo 9 = .ok (.iaload, 1) := by decide +kernel
theorem dX5_letGo_10 : decode cX5_letGo 10 = .ok (.ifCond .ne 5, 3) := by decide +kernel
theorem dX5_letGo_15 : decode cX5_letGo 15 = .ok (.aload_n 0, 1) := by decide +kernel
theorem dX5_letGo_16 : decode cX5_letGo 16 = .ok (.getfield 11, 3) := by decide +kernel
theorem dX5_letGo_19 : decode cX5_letGo 19 = .ok (.iload_n 1, 1) := by decide +kernel
theorem dX5_letGo_20 : decode cX5_letGo 20 = .ok (.iload_n 2, 1) := by decide +kernel
theorem dX5_letGo_21 : decode cX5_letGo 21 = .ok (.invokestatic 29, 3) := by decide +kernel
theorem dX5_letGo_24 : decode cX5_letGo 24 = .ok (.iconst 0, 1) := by decide +kernel
theorem dX5_letGo_25 : decode cX5_letGo 25 = .ok (.iastore, 1) := by decide +kernel
theorem dX5_letGo_26 : decode cX5_letGo 26 = .ok (.iconst 1, 1) := by decide +kernel
theorem dX5_letGo_27 : decode cX5_letGo 27 = .ok (.ireturn, 1) := by decide +kernel
theorem dX5_letGo_13 : decode cX5_letGo 13 = .ok (.iconst 0, 1) := by decide +kernel
theorem dX5_letGo_14 : decode cX5_letGo 14 = .ok (.ireturn, 1) := by decide +kernel
theorem dX8_doStep_64 : decode cX8_doStep 64 = .ok (.invokevirtual 121, 3) := by decide +kernel
theorem dX8_doStep_67 : decode cX8_doStep 67 = .ok (.ireturn, 1) := by decide +kernel
theorem dX8_doStep_68 : decode cX8_doStep 68 = .ok (.aload_n 1, 1) := by decide +kernel
theorem dX8_doStep_69 : decode cX8_doStep 69 = .ok (.iload_n 3, 1) := by decide +kernel
theorem dX5_sayAlone_0 : decode cX5_sayAlone 0 = .ok (.aload_n 0, 1) := by decide +kernel
theorem dX5_sayAlone_1 : decode cX5_sayAlone 1 = .ok (.iload_n 1, 1) := by decide +kernel
theorem dX5_isPaid_0 : decode cX5_isPaid 0 = .ok (.aload_n 0, 1) := by decide +kernel
theorem dX5_isPaid_1 : decode cX5_isPaid 1 = .ok (.getfield 11, 3) := by decide +kernel
theorem dX5_isPaid_4 : decode cX5_isPaid 4 = .ok (.bipush 72, 2) := by decide +kernel
theorem dX5_isPaid_6 : decode cX5_isPaid 6 = .ok (.iaload, 1) := by decide +kernel
theorem dX5_isPaid_7 : decode cX5_isPaid 7 = .ok (.iload_n 1, 1) := by decide +kernel
theorem dX5_isPaid_8 : decode cX5_isPaid 8 = .ok (.ishr, 1) := by decide +kernel
theorem dX5_isPaid_9 : decode cX5_isPaid 9 = .ok (.iconst 1, 1) := by decide +kernel
theorem dX5_isPaid_10 : decode cX5_isPaid 10 = .ok (.iand, 1) := by decide +kernel
theorem dX5_isPaid_11 : decode cX5_isPaid 11 = .ok (.iconst 1, 1) := by decide +kernel
theorem dX5_isPaid_12 : decode cX5_isPaid 12 = .ok (.if_icmp .ne 7, 3) := by decide +kernel
theorem dX5_isPaid_19 : decode cX5_isPaid 19 = .ok (.iconst 0, 1) := by decide +kernel
theorem dX5_isPaid_20 : decode cX5_isPaid 20 = .ok (.ireturn, 1) := by decide +kernel
theorem dX5_isPaid_15 : decode cX5_isPaid 15 = .ok (.iconst 1, 1) := by decide +kernel
theorem dX5_isPaid_16 : decode cX5_isPaid 16 = .ok (.goto 4, 3) := by decide +kernel
theorem dX5_sayAlone_2 : decode cX5_sayAlone 2 = .ok (.invokevirtual 47, 3) := by decide +kernel
theorem dX5_sayAlone_5 : decode cX5_sayAlone 5 = .ok (.ifCond .eq 5, 3) := by decide +kernel
theorem dX5_sayAlone_10 : decode cX5_sayAlone 10 = .ok (.aload_n 0, 1) := by decide +kernel
theorem dX5_sayAlone_11 : decode cX5_sayAlone 11 = .ok (.iload_n 1, 1) := by decide +kernel
theorem dX5_isWellKnown_0 : decode cX5_isWellKnown 0 = .ok (.aload_n 0, 1) := by decide +kernel
theorem dX5_isWellKnown_1 : decode cX5_isWellKnown 1 = .ok (.getfield 15, 3) := by decide +kernel
theorem dX5_isWellKnown_4 : decode cX5_isWellKnown 4 = .ok (.getfield 73, 3) := by decide +kernel
theorem dX5_isWellKnown_7 : decode cX5_isWellKnown 7 = .ok (.iload_n 1, 1) := by decide +kernel
theorem dX5_isWellKnown_8 : decode cX5_isWellKnown 8 = .ok (.iaload, 1) := by decide +kernel
theorem dX5_isWellKnown_9 : decode cX5_isWellKnown 9 = .ok (.istore_n 2, 1) := by decide +kernel
theorem dX5_isWellKnown_10 : decode cX5_isWellKnown 10 = .ok (.aload_n 0, 1) := by decide +kernel
theorem dX5_isWellKnown_11 : decode cX5_isWellKnown 11 = .ok (.getfield 15, 3) := by decide +kernel
theorem dX5_isWellKnown_14 : decode cX5_isWellKnown 14 = .ok (.getfield 76, 3) := by decide +kernel
theorem dX5_isWellKnown_17 : decode cX5_isWellKnown 17 = .ok (.iload_n 1, 1) := by decide +kernel
theorem dX5_isWellKnown_18 : decode cX5_isWellKnown 18 = .ok (.iaload, 1) := by decide +kernel
theorem dX5_isWellKnown_19 : decode cX5_isWellKnown 19 = .ok (.istore_n 3, 1) := by decide +kernel
theorem dX5_isWellKnown_20 : decode cX5_isWellKnown 20 = .ok (.aload_n 0, 1) := by decide +kernel
theorem dX5_isWellKnown_21 : decode cX5_isWellKnown 21 = .ok (.getfield 11, 3) := by decide +kernel
theorem dX5_isWellKnown_24 : decode cX5_isWellKnown 24 = .ok (.iload_n 2, 1) := by decide +kernel
theorem dX5_isWellKnown_25 : decode cX5_isWellKnown 25 = .ok (.iload_n 3, 1) := by decide +kernel
theorem dX5_isWellKnown_26 : decode cX5_isWellKnown 26 = .ok (.invokestatic 29, 3) := by decide +kernel
theorem dX5_isWellKnown_29 : decode cX5_isWellKnown 29 = .ok (.iaload, 1) := by decide +kernel
theorem dX5_isWellKnown_30 : decode cX5_isWellKnown 30 = .ok (.istore 4, 2) := by decide +kernel
theorem dX5_isWellKnown_32 : decode cX5_isWellKnown 32 = .ok (.aload_n 0, 1) := by decide +kernel
theorem dX5_isWellKnown_33 : decode cX5_isWellKnown 33 = .ok (.getfield 15, 3) := by decide +kernel
theorem dX5_isWellKnown_36 : decode cX5_isWellKnown 36 = .ok (.getfield 70, 3) := by decide +kernel
theorem dX5_isWellKnown_39 : decode cX5_isWellKnown 39 = .ok (.iload_n 3, 1) := by decide +kernel
theorem dX5_isWellKnown_40 : decode cX5_isWellKnown 40 = .ok (.iaload, 1) := by decide +kernel
theorem dX5_isWellKnown_41 : decode cX5_isWellKnown 41 = .ok (.istore 5, 2) := by decide +kernel
theorem dX5_isWellKnown_43 : decode cX5_isWellKnown 43 = .ok (.iload 5, 2) := by decide +kernel
theorem dX5_isWellKnown_45 : decode cX5_isWellKnown 45 = .ok (.iconst 2, 1) := by decide +kernel
theorem dX5_isWellKnown_46 : decode cX5_isWellKnown 46 = .ok (.idiv, 1) := by decide +kernel
theorem dX5_isWellKnown_47 : decode cX5_isWellKnown 47 = .ok (.iconst 1, 1) := by decide +kernel
theorem dX5_isWellKnown_48 : decode cX5_isWellKnown 48 = .ok (.iadd, 1) := by decide +kernel
theorem dX5_isWellKnown_49 : decode cX5_isWellKnown 49 = .ok (.iload 5, 2) := by decide +kernel
theorem dX5_isWellKnown_51 : decode cX5_isWellKnown 51 = .ok (.if_icmp .ge 12, 3) := by decide +kernel
theorem dX5_isWellKnown_63 : decode cX5_isWellKnown 63 = .ok (.iload 5, 2) := by decide +kernel
theorem dX5_isWellKnown_54 : decode cX5_isWellKnown 54 = .ok (.iload 5, 2) := by decide +kernel
theorem dX5_isWellKnown_56 : decode cX5_isWellKnown 56 = .ok (.iconst 2, 1) := by decide +kernel
theorem dX5_isWellKnown_57 : decode cX5_isWellKnown 57 = .ok (.idiv, 1) := by decide +kernel
theorem dX5_isWellKnown_58 : decode cX5_isWellKnown 58 = .ok (.iconst 1, 1) := by decide +kernel
theorem dX5_isWellKnown_59 : decode cX5_isWellKnown 59 = .ok (.iadd, 1) := by decide +kernel
theorem dX5_isWellKnown_60 : decode cX5_isWellKnown 60 = .ok (.goto 5, 3) := by decide +kernel
theorem dX5_isWellKnown_65 : decode cX5_isWellKnown 65 = .ok (.istore 6, 2) := by decide +kernel
theorem dX5_isWellKnown_67 : decode cX5_isWellKnown 67 = .ok (.aload_n 0, 1) := by decide +kernel
theorem dX5_isWellKnown_68 : decode cX5_isWellKnown 68 = .ok (.getfield 15, 3) := by decide +kernel
theorem dX5_isWellKnown_71 : decode cX5_isWellKnown 71 = .ok (.getfield 79, 3) := by decide +kernel
theorem dX5_isWellKnown_74 : decode cX5_isWellKnown 74 = .ok (.iload_n 1, 1) := by decide +kernel
theorem dX5_isWellKnown_75 : decode cX5_isWellKnown 75 = .ok (.iaload, 1) := by decide +kernel
theorem dX5_isWellKnown_76 : decode cX5_isWellKnown 76 = .ok (.lookupswitch 66 #[(0, 28), (2, 41)], 28) := by decide +kernel
theorem dX5_isWellKnown_104 : decode cX5_isWellKnown 104 = .ok (.iload 4, 2) := by decide +kernel
theorem dX5_isWellKnown_106 : decode cX5_isWellKnown 106 = .ok (.iload 5, 2) := by decide +kernel
theorem dX5_isWellKnown_108 : decode cX5_isWellKnown 108 = .ok (.if_icmp .lt 7, 3) := by decide +kernel
theorem dX5_isWellKnown_115 : decode cX5_isWellKnown 115 = .ok (.iconst 0, 1) := by decide +kernel
theorem dX5_isWellKnown_116 : decode cX5_isWellKnown 116 = .ok (.ireturn, 1) := by decide +kernel
theorem dX5_isWellKnown_111 : decode cX5_isWellKnown 111 = .ok (.iconst 1, 1) := by decide +kernel
theorem dX5_isWellKnown_112 : decode cX5_isWellKnown 112 = .ok (.goto 4, 3) := by decide +kernel
theorem dX5_isWellKnown_117 : decode cX5_isWellKnown 117 = .ok (.iload 4, 2) := by decide +kernel
theorem dX5_isWellKnown_119 : decode cX5_isWellKnown 119 = .ok (.iload 5, 2) := by decide +kernel
theorem dX5_isWellKnown_121 : decode cX5_isWellKnown 121 = .ok (.if_icmp .lt 19, 3) := by decide +kernel
theorem dX5_isWellKnown_140 : decode cX5_isWellKnown 140 = .ok (.iconst 0, 1) := by decide +kernel
theorem dX5_isWellKnown_141 : decode cX5_isWellKnown 141 = .ok (.ireturn, 1) := by decide +kernel
theorem dX5_isWellKnown_124 : decode cX5_isWellKnown 124 = .ok (.aload_n 0, 1) := by decide +kernel
theorem dX5_isWellKnown_125 : decode cX5_isWellKnown 125 = .ok (.getfield 11, 3) := by decide +kernel
theorem dX5_isWellKnown_128 : decode cX5_isWellKnown 128 = .ok (.bipush 54, 2) := by decide +kernel
theorem dX5_isWellKnown_130 : decode cX5_isWellKnown 130 = .ok (.iload_n 2, 1) := by decide +kernel
theorem dX5_isWellKnown_131 : decode cX5_isWellKnown 131 = .ok (.iadd, 1) := by decide +kernel
theorem dX5_isWellKnown_132 : decode cX5_isWellKnown 132 = .ok (.iaload, 1) := by decide +kernel
theorem dX5_isWellKnown_133 : decode cX5_isWellKnown 133 = .ok (.ifCond .le 7, 3) := by decide +kernel
theorem dX5_isWellKnown_136 : decode cX5_isWellKnown 136 = .ok (.iconst 1, 1) := by decide +kernel
theorem dX5_isWellKnown_137 : decode cX5_isWellKnown 137 = .ok (.goto 4, 3) := by decide +kernel
theorem dX5_isWellKnown_142 : decode cX5_isWellKnown 142 = .ok (.iload 4, 2) := by decide +kernel
theorem dX5_isWellKnown_144 : decode cX5_isWellKnown 144 = .ok (.iload 6, 2) := by decide +kernel
theorem dX5_isWellKnown_146 : decode cX5_isWellKnown 146 = .ok (.if_icmp .lt 7, 3) := by decide +kernel
theorem dX5_isWellKnown_153 : decode cX5_isWellKnown 153 = .ok (.iconst 0, 1) := by decide +kernel
theorem dX5_isWellKnown_154 : decode cX5_isWellKnown 154 = .ok (.ireturn, 1) := by decide +kernel
theorem dX5_isWellKnown_149 : decode cX5_isWellKnown 149 = .ok (.iconst 1, 1) := by decide +kernel
theorem dX5_isWellKnown_150 : decode cX5_isWellKnown 150 = .ok (.goto 4, 3) := by decide +kernel
theorem dX5_sayAlone_12 : decode cX5_sayAlone 12 = .ok (.invokevirtual 112, 3) := by decide +kernel
theorem dX5_sayAlone_15 : decode cX5_sayAlone 15 = .ok (.ifCond .eq 19, 3) := by decide +kernel
theorem dX5_sayAlone_34 : decode cX5_sayAlone 34 = .ok (.aload_n 0, 1) := by decide +kernel
theorem dX5_sayAlone_35 : decode cX5_sayAlone 35 = .ok (.aload_n 0, 1) := by decide +kernel
theorem dX5_sayAlone_36 : decode cX5_sayAlone 36 = .ok (.getfield 15, 3) := by decide +kernel
theorem dX5_sayAlone_39 : decode cX5_sayAlone 39 = .ok (.getfield 73, 3) := by decide +kernel
theorem dX5_sayAlone_42 : decode cX5_sayAlone 42 = .ok (.iload_n 1, 1) := by decide +kernel
theorem dX5_sayAlone_43 : decode cX5_sayAlone 43 = .ok (.iaload, 1) := by decide +kernel
theorem dX5_sayAlone_44 : decode cX5_sayAlone 44 = .ok (.aload_n 0, 1) := by decide +kernel
theorem dX5_sayAlone_45 : decode cX5_sayAlone 45 = .ok (.getfield 15, 3) := by decide +kernel
theorem dX5_sayAlone_48 : decode cX5_sayAlone 48 = .ok (.getfield 76, 3) := by decide +kernel
theorem dX5_sayAlone_51 : decode cX5_sayAlone 51 = .ok (.iload_n 1, 1) := by decide +kernel
theorem dX5_sayAlone_52 : decode cX5_sayAlone 52 = .ok (.iaload, 1) := by decide +kernel
theorem dX5_slip_0 : decode cX5_slip 0 = .ok (.aload_n 0, 1) := by decide +kernel
theorem dX5_slip_1 : decode cX5_slip 1 = .ok (.iload_n 1, 1) := by decide +kernel
theorem dX5_slip_2 : decode cX5_slip 2 = .ok (.iload_n 2, 1) := by decide +kernel
theorem dX5_slip_3 : decode cX5_slip 3 = .ok (.iconst 4, 1) := by decide +kernel
theorem dX5_lose_0 : decode cX5_lose 0 = .ok (.aload_n 0, 1) := by decide +kernel
theorem dX5_lose_1 : decode cX5_lose 1 = .ok (.getfield 11, 3) := by decide +kernel
theorem dX5_lose_4 : decode cX5_lose 4 = .ok (.iload_n 1, 1) := by decide +kernel
theorem dX5_lose_5 : decode cX5_lose 5 = .ok (.iload_n 2, 1) := by decide +kernel
theorem dX5_lose_6 : decode cX5_lose 6 = .ok (.invokestatic 29, 3) := by decide +kernel
theorem dX5_lose_9 : decode cX5_lose 9 = .ok (.iaload, 1) := by decide +kernel
theorem dX5_lose_10 : decode cX5_lose 10 = .ok (.iload_n 3, 1) := by decide +kernel
theorem dX5_lose_11 : decode cX5_lose 11 = .ok (.isub, 1) := by decide +kernel
theorem dX5_lose_12 : decode cX5_lose 12 = .ok (.istore 4, 2) := by decide +kernel
theorem dX5_lose_14 : decode cX5_lose 14 = .ok (.aload_n 0, 1) := by decide +kernel
theorem dX5_lose_15 : decode cX5_lose 15 = .ok (.getfield 11, 3) := by decide +kernel
theorem dX5_lose_18 : decode cX5_lose 18 = .ok (.iload_n 1, 1) := by decide +kernel
theorem dX5_lose_19 : decode cX5_lose 19 = .ok (.iload_n 2, 1) := by decide +kernel
theorem dX5_lose_20 : decode cX5_lose 20 = .ok (.invokestatic 29, 3) := by decide +kernel
theorem dX5_lose_23 : decode cX5_lose 23 = .ok (.iload 4, 2) := by decide +kernel
theorem dX5_lose_25 : decode cX5_lose 25 = .ok (.ifCond .ge 7, 3) := by decide +kernel
theorem dX5_lose_32 : decode cX5_lose 32 = .ok (.iload 4, 2) := by decide +kernel
theorem dX5_lose_28 : decode cX5_lose 28 = .ok (.iconst 0, 1) := by decide +kernel
theorem dX5_lose_29 : decode cX5_lose 29 = .ok (.goto 5, 3) := by decide +kernel
theorem dX5_lose_34 : decode cX5_lose 34 = .ok (.iastore, 1) := by decide +kernel
theorem dX5_lose_35 : decode cX5_lose 35 = .ok (.return_, 1) := by decide +kernel
theorem dX5_slip_4 : decode cX5_slip 4 = .ok (.invokevirtual 122, 3) := by decide +kernel
theorem dX5_slip_7 : decode cX5_slip 7 = .ok (.aload_n 0, 1) := by decide +kernel
theorem dX5_slip_8 : decode cX5_slip 8 = .ok (.getfield 11, 3) := by decide +kernel
theorem dX5_slip_11 : decode cX5_slip 11 = .ok (.bipush 60, 2) := by decide +kernel
theorem dX5_slip_13 : decode cX5_slip 13 = .ok (.iload_n 1, 1) := by decide +kernel
theorem dX5_slip_14 : decode cX5_slip 14 = .ok (.iadd, 1) := by decide +kernel
theorem dX5_slip_15 : decode cX5_slip 15 = .ok (.dup2, 1) := by decide +kernel
theorem dX5_slip_16 : decode cX5_slip 16 = .ok (.iaload, 1) := by decide +kernel
theorem dX5_slip_17 : decode cX5_slip 17 = .ok (.iconst 1, 1) := by decide +kernel
theorem dX5_slip_18 : decode cX5_slip 18 = .ok (.iadd, 1) := by decide +kernel
theorem dX5_slip_19 : decode cX5_slip 19 = .ok (.iastore, 1) := by decide +kernel
theorem dX5_slip_20 : decode cX5_slip 20 = .ok (.return_, 1) := by decide +kernel
theorem dX5_sayAlone_53 : decode cX5_sayAlone 53 = .ok (.invokevirtual 115, 3) := by decide +kernel
theorem dX5_sayAlone_56 : decode cX5_sayAlone 56 = .ok (.iconst 1, 1) := by decide +kernel
theorem dX5_sayAlone_57 : decode cX5_sayAlone 57 = .ok (.ireturn, 1) := by decide +kernel
theorem dX5_sayAlone_18 : decode cX5_sayAlone 18 = .ok (.aload_n 0, 1) := by decide +kernel
theorem dX5_sayAlone_19 : decode cX5_sayAlone 19 = .ok (.getfield 11, 3) := by decide +kernel
theorem dX5_sayAlone_22 : decode cX5_sayAlone 22 = .ok (.bipush 72, 2) := by decide +kernel
theorem dX5_sayAlone_24 : decode cX5_sayAlone 24 = .ok (.dup2, 1) := by decide +kernel
theorem dX5_sayAlone_25 : decode cX5_sayAlone 25 = .ok (.iaload, 1) := by decide +kernel
theorem dX5_sayAlone_26 : decode cX5_sayAlone 26 = .ok (.iconst 1, 1) := by decide +kernel
theorem dX5_sayAlone_27 : decode cX5_sayAlone 27 = .ok (.iload_n 1, 1) := by decide +kernel
theorem dX5_sayAlone_28 : decode cX5_sayAlone 28 = .ok (.ishl, 1) := by decide +kernel
theorem dX5_sayAlone_29 : decode cX5_sayAlone 29 = .ok (.ior, 1) := by decide +kernel
theorem dX5_sayAlone_30 : decode cX5_sayAlone 30 = .ok (.iastore, 1) := by decide +kernel
theorem dX5_sayAlone_31 : decode cX5_sayAlone 31 = .ok (.goto 25, 3) := by decide +kernel
theorem dX5_sayAlone_8 : decode cX5_sayAlone 8 = .ok (.iconst 0, 1) := by decide +kernel
theorem dX5_sayAlone_9 : decode cX5_sayAlone 9 = .ok (.ireturn, 1) := by decide +kernel
theorem dX8_doStep_70 : decode cX8_doStep 70 = .ok (.invokevirtual 124, 3) := by decide +kernel
theorem dX8_doStep_73 : decode cX8_doStep 73 = .ok (.ireturn, 1) := by decide +kernel
theorem dX8_doStep_74 : decode cX8_doStep 74 = .ok (.aload_n 1, 1) := by decide +kernel
theorem dX8_doStep_75 : decode cX8_doStep 75 = .ok (.iload_n 3, 1) := by decide +kernel
theorem dX8_doStep_76 : decode cX8_doStep 76 = .ok (.iload 4, 2) := by decide +kernel
theorem dX5_sayWith_0 : decode cX5_sayWith 0 = .ok (.aload_n 0, 1) := by decide +kernel
theorem dX5_sayWith_1 : decode cX5_sayWith 1 = .ok (.iload_n 1, 1) := by decide +kernel
theorem dX5_sayWith_2 : decode cX5_sayWith 2 = .ok (.invokevirtual 47, 3) := by decide +kernel
theorem dX5_sayWith_5 : decode cX5_sayWith 5 = .ok (.ifCond .ne 16, 3) := by decide +kernel
theorem dX5_sayWith_21 : decode cX5_sayWith 21 = .ok (.iconst 0, 1) := by decide +kernel
theorem dX5_sayWith_22 : decode cX5_sayWith 22 = .ok (.ireturn, 1) := by decide +kernel
theorem dX5_sayWith_8 : decode cX5_sayWith 8 = .ok (.iload_n 2, 1) := by decide +kernel
theorem dX5_sayWith_9 : decode cX5_sayWith 9 = .ok (.aload_n 0, 1) := by decide +kernel
theorem dX5_sayWith_10 : decode cX5_sayWith 10 = .ok (.getfield 15, 3) := by decide +kernel
theorem dX5_sayWith_13 : decode cX5_sayWith 13 = .ok (.getfield 73, 3) := by decide +kernel
theorem dX5_sayWith_16 : decode cX5_sayWith 16 = .ok (.iload_n 1, 1) := by decide +kernel
theorem dX5_sayWith_17 : decode cX5_sayWith 17 = .ok (.iaload, 1) := by decide +kernel
theorem dX5_sayWith_18 : decode cX5_sayWith 18 = .ok (.if_icmp .ne 5, 3) := by decide +kernel
theorem dX5_sayWith_23 : decode cX5_sayWith 23 = .ok (.aload_n 0, 1) := by decide +kernel
theorem dX5_sayWith_24 : decode cX5_sayWith 24 = .ok (.iload_n 1, 1) := by decide +kernel
theorem dX5_sayWith_25 : decode cX5_sayWith 25 = .ok (.iload_n 2, 1) := by decide +kernel
theorem dX5_isSungBy_0 : decode cX5_isSungBy 0 = .ok (.aload_n 0, 1) := by decide +kernel
theorem dX5_isSungBy_1 : decode cX5_isSungBy 1 = .ok (.getfield 15, 3) := by decide +kernel
theorem dX5_isSungBy_4 : decode cX5_isSungBy 4 = .ok (.getfield 76, 3) := by decide +kernel
theorem dX5_isSungBy_7 : decode cX5_isSungBy 7 = .ok (.iload_n 1, 1) := by decide +kernel
theorem dX5_isSungBy_8 : decode cX5_isSungBy 8 = .ok (.iaload, 1) := by decide +kernel
theorem dX5_isSungBy_9 : decode cX5_isSungBy 9 = .ok (.istore_n 3, 1) := by decide +kernel
theorem dX5_isSungBy_10 : decode cX5_isSungBy 10 = .ok (.aload_n 0, 1) := by decide +kernel
theorem dX5_isSungBy_11 : decode cX5_isSungBy 11 = .ok (.getfield 11, 3) := by decide +kernel
theorem dX5_isSungBy_14 : decode cX5_isSungBy 14 = .ok (.aload_n 0, 1) := by decide +kernel
theorem dX5_isSungBy_15 : decode cX5_isSungBy 15 = .ok (.getfield 15, 3) := by decide +kernel
theorem dX5_isSungBy_18 : decode cX5_isSungBy 18 = .ok (.getfield 73, 3) := by decide +kernel
theorem dX5_isSungBy_21 : decode cX5_isSungBy 21 = .ok (.iload_n 1, 1) := by decide +kernel
theorem dX5_isSungBy_22 : decode cX5_isSungBy 22 = .ok (.iaload, 1) := by decide +kernel
theorem dX5_isSungBy_23 : decode cX5_isSungBy 23 = .ok (.iload_n 3, 1) := by decide +kernel
theorem dX5_isSungBy_24 : decode cX5_isSungBy 24 = .ok (.invokestatic 29, 3) := by decide +kernel
theorem dX5_isSungBy_27 : decode cX5_isSungBy 27 = .ok (.iaload, 1) := by decide +kernel
theorem dX5_isSungBy_28 : decode cX5_isSungBy 28 = .ok (.aload_n 0, 1) := by decide +kernel
theorem dX5_isSungBy_29 : decode cX5_isSungBy 29 = .ok (.getfield 11, 3) := by decide +kernel
theorem dX5_isSungBy_32 : decode cX5_isSungBy 32 = .ok (.iload_n 2, 1) := by decide +kernel
theorem dX5_isSungBy_33 : decode cX5_isSungBy 33 = .ok (.iload_n 3, 1) := by decide +kernel
theorem dX5_isSungBy_34 : decode cX5_isSungBy 34 = .ok (.invokestatic 29, 3) := by decide +kernel
theorem dX5_isSungBy_37 : decode cX5_isSungBy 37 = .ok (.iaload, 1) := by decide +kernel
theorem dX5_isSungBy_38 : decode cX5_isSungBy 38 = .ok (.iadd, 1) := by decide +kernel
theorem dX5_isSungBy_39 : decode cX5_isSungBy 39 = .ok (.istore 4, 2) := by decide +kernel
theorem dX5_isSungBy_41 : decode cX5_isSungBy 41 = .ok (.iload 4, 2) := by decide +kernel
theorem dX5_isSungBy_43 : decode cX5_isSungBy 43 = .ok (.aload_n 0, 1) := by decide +kernel
theorem dX5_isSungBy_44 : decode cX5_isSungBy 44 = .ok (.getfield 15, 3) := by decide +kernel
theorem dX5_isSungBy_47 : decode cX5_isSungBy 47 = .ok (.getfield 70, 3) := by decide +kernel
theorem dX5_isSungBy_50 : decode cX5_isSungBy 50 = .ok (.iload_n 3, 1) := by decide +kernel
theorem dX5_isSungBy_51 : decode cX5_isSungBy 51 = .ok (.iaload, 1) := by decide +kernel
theorem dX5_isSungBy_52 : decode cX5_isSungBy 52 = .ok (.if_icmp .lt 7, 3) := by decide +kernel
theorem dX5_isSungBy_59 : decode cX5_isSungBy 59 = .ok (.iconst 0, 1) := by decide +kernel
theorem dX5_isSungBy_60 : decode cX5_isSungBy 60 = .ok (.ireturn, 1) := by decide +kernel
theorem dX5_isSungBy_55 : decode cX5_isSungBy 55 = .ok (.iconst 1, 1) := by decide +kernel
theorem dX5_isSungBy_56 : decode cX5_isSungBy 56 = .ok (.goto 4, 3) := by decide +kernel
theorem dX5_sayWith_26 : decode cX5_sayWith 26 = .ok (.invokevirtual 119, 3) := by decide +kernel
theorem dX5_sayWith_29 : decode cX5_sayWith 29 = .ok (.ifCond .eq 19, 3) := by decide +kernel
theorem dX5_sayWith_48 : decode cX5_sayWith 48 = .ok (.aload_n 0, 1) := by decide +kernel
theorem dX5_sayWith_49 : decode cX5_sayWith 49 = .ok (.aload_n 0, 1) := by decide +kernel
theorem dX5_sayWith_50 : decode cX5_sayWith 50 = .ok (.getfield 15, 3) := by decide +kernel
theorem dX5_sayWith_53 : decode cX5_sayWith 53 = .ok (.getfield 73, 3) := by decide +kernel
theorem dX5_sayWith_56 : decode cX5_sayWith 56 = .ok (.iload_n 1, 1) := by decide +kernel
theorem dX5_sayWith_57 : decode cX5_sayWith 57 = .ok (.iaload, 1) := by decide +kernel
theorem dX5_sayWith_58 : decode cX5_sayWith 58 = .ok (.aload_n 0, 1) := by decide +kernel
theorem dX5_sayWith_59 : decode cX5_sayWith 59 = .ok (.getfield 15, 3) := by decide +kernel
theorem dX5_sayWith_62 : decode cX5_sayWith 62 = .ok (.getfield 76, 3) := by decide +kernel
theorem dX5_sayWith_65 : decode cX5_sayWith 65 = .ok (.iload_n 1, 1) := by decide +kernel
theorem dX5_sayWith_66 : decode cX5_sayWith 66 = .ok (.iaload, 1) := by decide +kernel
theorem dX5_sayWith_67 : decode cX5_sayWith 67 = .ok (.invokevirtual 115, 3) := by decide +kernel
theorem dX5_sayWith_70 : decode cX5_sayWith 70 = .ok (.aload_n 0, 1) := by decide +kernel
theorem dX5_sayWith_71 : decode cX5_sayWith 71 = .ok (.iload_n 2, 1) := by decide +kernel
theorem dX5_sayWith_72 : decode cX5_sayWith 72 = .ok (.aload_n 0, 1) := by decide +kernel
theorem dX5_sayWith_73 : decode cX5_sayWith 73 = .ok (.getfield 15, 3) := by decide +kernel
theorem dX5_sayWith_76 : decode cX5_sayWith 76 = .ok (.getfield 76, 3) := by decide +kernel
theorem dX5_sayWith_79 : decode cX5_sayWith 79 = .ok (.iload_n 1, 1) := by decide +kernel
theorem dX5_sayWith_80 : decode cX5_sayWith 80 = .ok (.iaload, 1) := by decide +kernel
theorem dX5_sayWith_81 : decode cX5_sayWith 81 = .ok (.invokevirtual 115, 3) := by decide +kernel
theorem dX5_sayWith_84 : decode cX5_sayWith 84 = .ok (.iconst 1, 1) := by decide +kernel
theorem dX5_sayWith_85 : decode cX5_sayWith 85 = .ok (.ireturn, 1) := by decide +kernel
theorem dX5_sayWith_32 : decode cX5_sayWith 32 = .ok (.aload_n 0, 1) := by decide +kernel
theorem dX5_sayWith_33 : decode cX5_sayWith 33 = .ok (.getfield 11, 3) := by decide +kernel
theorem dX5_sayWith_36 : decode cX5_sayWith 36 = .ok (.bipush 72, 2) := by decide +kernel
theorem dX5_sayWith_38 : decode cX5_sayWith 38 = .ok (.dup2, 1) := by decide +kernel
theorem dX5_sayWith_39 : decode cX5_sayWith 39 = .ok (.iaload, 1) := by decide +kernel
theorem dX5_sayWith_40 : decode cX5_sayWith 40 = .ok (.iconst 1, 1) := by decide +kernel
theorem dX5_sayWith_41 : decode cX5_sayWith 41 = .ok (.iload_n 1, 1) := by decide +kernel
theorem dX5_sayWith_42 : decode cX5_sayWith 42 = .ok (.ishl, 1) := by decide +kernel
theorem dX5_sayWith_43 : decode cX5_sayWith 43 = .ok (.ior, 1) := by decide +kernel
theorem dX5_sayWith_44 : decode cX5_sayWith 44 = .ok (.iastore, 1) := by decide +kernel
theorem dX5_sayWith_45 : decode cX5_sayWith 45 = .ok (.goto 39, 3) := by decide +kernel
theorem dX8_doStep_78 : decode cX8_doStep 78 = .ok (.invokevirtual 127, 3) := by decide +kernel
theorem dX8_doStep_81 : decode cX8_doStep 81 = .ok (.ireturn, 1) := by decide +kernel
theorem dX8_doStep_82 : decode cX8_doStep 82 = .ok (.aload_n 1, 1) := by decide +kernel
theorem dX5_endWeekOfWork_0 : decode cX5_endWeekOfWork 0 = .ok (.aload_n 0, 1) := by decide +kernel
theorem dX5_endWeekOfWork_1 : decode cX5_endWeekOfWork 1 = .ok (.getfield 11, 3) := by decide +kernel
theorem dX5_endWeekOfWork_4 : decode cX5_endWeekOfWork 4 = .ok (.bipush 73, 2) := by decide +kernel
theorem dX5_endWeekOfWork_6 : decode cX5_endWeekOfWork 6 = .ok (.iaload, 1) := by decide +kernel
theorem dX5_endWeekOfWork_7 : decode cX5_endWeekOfWork 7 = .ok (.sipush 400, 3) := by decide +kernel
theorem dX5_endWeekOfWork_10 : decode cX5_endWeekOfWork 10 = .ok (.if_icmp .lt 5, 3) := by decide +kernel
theorem dX5_endWeekOfWork_15 : decode cX5_endWeekOfWork 15 = .ok (.aload_n 0, 1) := by decide +kernel
theorem dX5_endWeekOfWork_16 : decode cX5_endWeekOfWork 16 = .ok (.iconst 0, 1) := by decide +kernel
theorem dX5_endWeekOfWork_17 : decode cX5_endWeekOfWork 17 = .ok (.aload_n 0, 1) := by decide +kernel
theorem dX5_endWeekOfWork_18 : decode cX5_endWeekOfWork 18 = .ok (.getfield 15, 3) := by decide +kernel
theorem dX5_endWeekOfWork_21 : decode cX5_endWeekOfWork 21 = .ok (.getfield 37, 3) := by decide +kernel
theorem dX5_endWeek_0 : decode cX5_endWeek 0 = .ok (.aload_n 0, 1) := by decide +kernel
theorem dX5_endWeek_1 : decode cX5_endWeek 1 = .ok (.getfield 11, 3) := by decide +kernel
theorem dX5_endWeek_4 : decode cX5_endWeek 4 = .ok (.bipush 73, 2) := by decide +kernel
theorem dX5_endWeek_6 : decode cX5_endWeek 6 = .ok (.dup2, 1) := by decide +kernel
theorem dX5_endWeek_7 : decode cX5_endWeek 7 = .ok (.iaload, 1) := by decide +kernel
theorem dX5_endWeek_8 : decode cX5_endWeek 8 = .ok (.iconst 1, 1) := by decide +kernel
theorem dX5_endWeek_9 : decode cX5_endWeek 9 = .ok (.iadd, 1) := by decide +kernel
theorem dX5_endWeek_10 : decode cX5_endWeek 10 = .ok (.iastore, 1) := by decide +kernel
theorem dX5_endWeek_11 : decode cX5_endWeek 11 = .ok (.aload_n 0, 1) := by decide +kernel
theorem dX5_endWeek_12 : decode cX5_endWeek 12 = .ok (.getfield 11, 3) := by decide +kernel
theorem dX5_endWeek_15 : decode cX5_endWeek 15 = .ok (.bipush 73, 2) := by decide +kernel
theorem dX5_endWeek_17 : decode cX5_endWeek 17 = .ok (.iaload, 1) := by decide +kernel
theorem dX5_endWeek_18 : decode cX5_endWeek 18 = .ok (.bipush 10, 2) := by decide +kernel
theorem dX5_endWeek_20 : decode cX5_endWeek 20 = .ok (.irem, 1) := by decide +kernel
theorem dX5_endWeek_21 : decode cX5_endWeek 21 = .ok (.ifCond .ne 7, 3) := by decide +kernel
theorem dX5_endWeek_28 : decode cX5_endWeek 28 = .ok (.iconst 0, 1) := by decide +kernel
theorem dX5_endWeek_29 : decode cX5_endWeek 29 = .ok (.istore_n 3, 1) := by decide +kernel
theorem dX5_endWeek_30 : decode cX5_endWeek 30 = .ok (.iload_n 1, 1) := by decide +kernel
theorem dX5_endWeek_31 : decode cX5_endWeek 31 = .ok (.istore 4, 2) := by decide +kernel
theorem dX5_endWeek_24 : decode cX5_endWeek 24 = .ok (.iconst 1, 1) := by decide +kernel
theorem dX5_endWeek_25 : decode cX5_endWeek 25 = .ok (.goto 4, 3) := by decide +kernel
theorem dX5_endWeek_33 : decode cX5_endWeek 33 = .ok (.iload 4, 2) := by decide +kernel
theorem dX5_endWeek_35 : decode cX5_endWeek 35 = .ok (.iload_n 2, 1) := by decide +kernel
theorem dX5_endWeek_36 : decode cX5_endWeek 36 = .ok (.if_icmp .ge 153, 3) := by decide +kernel
theorem dX5_endWeek_189 : decode cX5_endWeek 189 = .ok (.return_, 1) := by decide +kernel
theorem dX5_endWeek_39 : decode cX5_endWeek 39 = .ok (.iload_n 3, 1) := by decide +kernel
theorem dX5_endWeek_40 : decode cX5_endWeek 40 = .ok (.ifCond .eq 18, 3) := by decide +kernel
theorem dX5_endWeek_43 : decode cX5_endWeek 43 = .ok (.aload_n 0, 1) := by decide +kernel
theorem dX5_endWeek_44 : decode cX5_endWeek 44 = .ok (.iload 4, 2) := by decide +kernel
theorem dX5_endWeek_46 : decode cX5_endWeek 46 = .ok (.invokevirtual 98, 3) := by decide +kernel
theorem dX5_endWeek_49 : decode cX5_endWeek 49 = .ok (.bipush 60, 2) := by decide +kernel
theorem dX5_endWeek_51 : decode cX5_endWeek 51 = .ok (.if_icmp .ne 7, 3) := by decide +kernel
theorem dX5_endWeek_54 : decode cX5_endWeek 54 = .ok (.iconst 1, 1) := by decide +kernel
theorem dX5_endWeek_55 : decode cX5_endWeek 55 = .ok (.goto 4, 3) := by decide +kernel
theorem dX5_endWeek_58 : decode cX5_endWeek 58 = .ok (.iconst 0, 1) := by decide +kernel
theorem dX5_endWeek_59 : decode cX5_endWeek 59 = .ok (.istore 5, 2) := by decide +kernel
theorem dX5_endWeek_61 : decode cX5_endWeek 61 = .ok (.iload 4, 2) := by decide +kernel
theorem dX5_endWeek_63 : decode cX5_endWeek 63 = .ok (.iconst 0, 1) := by decide +kernel
theorem dX5_endWeek_64 : decode cX5_endWeek 64 = .ok (.invokestatic 29, 3) := by decide +kernel
theorem dX5_endWeek_67 : decode cX5_endWeek 67 = .ok (.istore 6, 2) := by decide +kernel
theorem dX5_endWeek_69 : decode cX5_endWeek 69 = .ok (.aload_n 0, 1) := by decide +kernel
theorem dX5_endWeek_70 : decode cX5_endWeek 70 = .ok (.getfield 11, 3) := by decide +kernel
theorem dX5_endWeek_73 : decode cX5_endWeek 73 = .ok (.bipush 66, 2) := by decide +kernel
theorem dX5_endWeek_75 : decode cX5_endWeek 75 = .ok (.iload 4, 2) := by decide +kernel
theorem dX5_endWeek_77 : decode cX5_endWeek 77 = .ok (.iadd, 1) := by decide +kernel
theorem dX5_endWeek_78 : decode cX5_endWeek 78 = .ok (.iaload, 1) := by decide +kernel
theorem dX5_endWeek_79 : decode cX5_endWeek 79 = .ok (.istore 7, 2) := by decide +kernel
theorem dX5_endWeek_81 : decode cX5_endWeek 81 = .ok (.iconst 0, 1) := by decide +kernel
theorem dX5_endWeek_82 : decode cX5_endWeek 82 = .ok (.istore 8, 2) := by decide +kernel
theorem dX5_endWeek_84 : decode cX5_endWeek 84 = .ok (.iload 8, 2) := by decide +kernel
theorem dX5_endWeek_86 : decode cX5_endWeek 86 = .ok (.aload_n 0, 1) := by decide +kernel
theorem dX5_endWeek_87 : decode cX5_endWeek 87 = .ok (.getfield 15, 3) := by decide +kernel
theorem dX5_endWeek_90 : decode cX5_endWeek 90 = .ok (.getfield 33, 3) := by decide +kernel
theorem dX5_endWeek_93 : decode cX5_endWeek 93 = .ok (.if_icmp .ge 68, 3) := by decide +kernel
theorem dX5_endWeek_161 : decode cX5_endWeek 161 = .ok (.aload_n 0, 1) := by decide +kernel
theorem dX5_endWeek_162 : decode cX5_endWeek 162 = .ok (.getfield 11, 3) := by decide +kernel
theorem dX5_endWeek_165 : decode cX5_endWeek 165 = .ok (.bipush 66, 2) := by decide +kernel
theorem dX5_endWeek_167 : decode cX5_endWeek 167 = .ok (.iload 4, 2) := by decide +kernel
theorem dX5_endWeek_169 : decode cX5_endWeek 169 = .ok (.iadd, 1) := by decide +kernel
theorem dX5_endWeek_170 : decode cX5_endWeek 170 = .ok (.iconst 0, 1) := by decide +kernel
theorem dX5_endWeek_171 : decode cX5_endWeek 171 = .ok (.iastore, 1) := by decide +kernel
theorem dX5_endWeek_172 : decode cX5_endWeek 172 = .ok (.aload_n 0, 1) := by decide +kernel
theorem dX5_endWeek_173 : decode cX5_endWeek 173 = .ok (.getfield 11, 3) := by decide +kernel
theorem dX5_endWeek_176 : decode cX5_endWeek 176 = .ok (.bipush 54, 2) := by decide +kernel
theorem dX5_endWeek_178 : decode cX5_endWeek 178 = .ok (.iload 4, 2) := by decide +kernel
theorem dX5_endWeek_180 : decode cX5_endWeek 180 = .ok (.iadd, 1) := by decide +kernel
theorem dX5_endWeek_181 : decode cX5_endWeek 181 = .ok (.iconst 0, 1) := by decide +kernel
theorem dX5_endWeek_182 : decode cX5_endWeek 182 = .ok (.iastore, 1) := by decide +kernel
theorem dX5_endWeek_183 : decode cX5_endWeek 183 = .ok (.iinc 4 1, 3) := by decide +kernel
theorem dX5_endWeek_186 : decode cX5_endWeek 186 = .ok (.goto (-153), 3) := by decide +kernel
theorem dX5_endWeek_96 : decode cX5_endWeek 96 = .ok (.aload_n 0, 1) := by decide +kernel
theorem dX5_endWeek_97 : decode cX5_endWeek 97 = .ok (.getfield 11, 3) := by decide +kernel
theorem dX5_endWeek_100 : decode cX5_endWeek 100 = .ok (.iload 6, 2) := by decide +kernel
theorem dX5_endWeek_102 : decode cX5_endWeek 102 = .ok (.iload 8, 2) := by decide +kernel
theorem dX5_endWeek_104 : decode cX5_endWeek 104 = .ok (.iadd, 1) := by decide +kernel
theorem dX5_endWeek_105 : decode cX5_endWeek 105 = .ok (.iaload, 1) := by decide +kernel
theorem dX5_endWeek_106 : decode cX5_endWeek 106 = .ok (.ifCond .le 49, 3) := by decide +kernel
theorem dX5_endWeek_155 : decode cX5_endWeek 155 = .ok (.iinc 8 1, 3) := by decide +kernel
theorem dX5_endWeek_158 : decode cX5_endWeek 158 = .ok (.goto (-74), 3) := by decide +kernel
theorem dX5_endWeek_109 : decode cX5_endWeek 109 = .ok (.iload 5, 2) := by decide +kernel
theorem dX5_endWeek_111 : decode cX5_endWeek 111 = .ok (.ifCond .eq 17, 3) := by decide +kernel
theorem dX5_endWeek_128 : decode cX5_endWeek 128 = .ok (.iload 7, 2) := by decide +kernel
theorem dX5_endWeek_130 : decode cX5_endWeek 130 = .ok (.iload 8, 2) := by decide +kernel
theorem dX5_endWeek_132 : decode cX5_endWeek 132 = .ok (.ishr, 1) := by decide +kernel
theorem dX5_endWeek_133 : decode cX5_endWeek 133 = .ok (.iconst 1, 1) := by decide +kernel
theorem dX5_endWeek_134 : decode cX5_endWeek 134 = .ok (.iand, 1) := by decide +kernel
theorem dX5_endWeek_135 : decode cX5_endWeek 135 = .ok (.ifCond .ne 20, 3) := by decide +kernel
theorem dX5_endWeek_138 : decode cX5_endWeek 138 = .ok (.aload_n 0, 1) := by decide +kernel
theorem dX5_endWeek_139 : decode cX5_endWeek 139 = .ok (.iload 4, 2) := by decide +kernel
theorem dX5_endWeek_141 : decode cX5_endWeek 141 = .ok (.iload 8, 2) := by decide +kernel
theorem dX5_endWeek_143 : decode cX5_endWeek 143 = .ok (.aload_n 0, 1) := by decide +kernel
theorem dX5_endWeek_144 : decode cX5_endWeek 144 = .ok (.getfield 15, 3) := by decide +kernel
theorem dX5_endWeek_147 : decode cX5_endWeek 147 = .ok (.iload 8, 2) := by decide +kernel
theorem dX7_fadedLines_0 : decode cX7_fadedLines 0 = .ok (.aload_n 0, 1) := by decide +kernel
theorem dX7_fadedLines_1 : decode cX7_fadedLines 1 = .ok (.getfield 9, 3) := by decide +kernel
theorem dX7_fadedLines_4 : decode cX7_fadedLines 4 = .ok (.ifCond .ne 7, 3) := by decide +kernel
theorem dX7_fadedLines_11 : decode cX7_fadedLines 11 = .ok (.aload_n 0, 1) := by decide +kernel
theorem dX7_fadedLines_12 : decode cX7_fadedLines 12 = .ok (.getfield 17, 3) := by decide +kernel
theorem dX7_fadedLines_15 : decode cX7_fadedLines 15 = .ok (.iload_n 1, 1) := by decide +kernel
theorem dX7_fadedLines_16 : decode cX7_fadedLines 16 = .ok (.iaload, 1) := by decide +kernel
theorem dX7_fadedLines_17 : decode cX7_fadedLines 17 = .ok (.aload_n 0, 1) := by decide +kernel
theorem dX7_fadedLines_18 : decode cX7_fadedLines 18 = .ok (.getfield 9, 3) := by decide +kernel
theorem dX7_fadedLines_21 : decode cX7_fadedLines 21 = .ok (.idiv, 1) := by decide +kernel
theorem dX7_fadedLines_22 : decode cX7_fadedLines 22 = .ok (.ireturn, 1) := by decide +kernel
theorem dX7_fadedLines_7 : decode cX7_fadedLines 7 = .ok (.iconst 0, 1) := by decide +kernel
theorem dX7_fadedLines_8 : decode cX7_fadedLines 8 = .ok (.goto 14, 3) := by decide +kernel
theorem dX5_endWeek_149 : decode cX5_endWeek 149 = .ok (.invokevirtual 128, 3) := by decide +kernel
theorem dX5_endWeek_152 : decode cX5_endWeek 152 = .ok (.invokevirtual 122, 3) := by decide +kernel
theorem dX5_endWeek_114 : decode cX5_endWeek 114 = .ok (.aload_n 0, 1) := by decide +kernel
theorem dX5_endWeek_115 : decode cX5_endWeek 115 = .ok (.getfield 11, 3) := by decide +kernel
theorem dX5_endWeek_118 : decode cX5_endWeek 118 = .ok (.iload 6, 2) := by decide +kernel
theorem dX5_endWeek_120 : decode cX5_endWeek 120 = .ok (.iload 8, 2) := by decide +kernel
theorem dX5_endWeek_122 : decode cX5_endWeek 122 = .ok (.iadd, 1) := by decide +kernel
theorem dX5_endWeek_123 : decode cX5_endWeek 123 = .ok (.iconst 0, 1) := by decide +kernel
theorem dX5_endWeek_124 : decode cX5_endWeek 124 = .ok (.iastore, 1) := by decide +kernel
theorem dX5_endWeek_125 : decode cX5_endWeek 125 = .ok (.goto 30, 3) := by decide +kernel
theorem dX5_endWeekOfWork_24 : decode cX5_endWeekOfWork 24 = .ok (.invokevirtual 125, 3) := by decide +kernel
theorem dX5_endWeekOfWork_27 : decode cX5_endWeekOfWork 27 = .ok (.iconst 1, 1) := by decide +kernel
theorem dX5_endWeekOfWork_28 : decode cX5_endWeekOfWork 28 = .ok (.ireturn, 1) := by decide +kernel
theorem dX5_endWeekOfWork_13 : decode cX5_endWeekOfWork 13 = .ok (.iconst 0, 1) := by decide +kernel
theorem dX5_endWeekOfWork_14 : decode cX5_endWeekOfWork 14 = .ok (.ireturn, 1) := by decide +kernel
theorem dX8_doStep_83 : decode cX8_doStep 83 = .ok (.invokevirtual 130, 3) := by decide +kernel
theorem dX8_doStep_86 : decode cX8_doStep 86 = .ok (.ireturn, 1) := by decide +kernel
theorem dX8_doSteps_78 : decode cX8_doSteps 78 = .ok (.invokevirtual 108, 3) := by decide +kernel
theorem dX8_doSteps_81 : decode cX8_doSteps 81 = .ok (.ifCond .eq 16, 3) := by decide +kernel
theorem dX8_doSteps_97 : decode cX8_doSteps 97 = .ok (.aload_n 0, 1) := by decide +kernel
theorem dX8_doSteps_98 : decode cX8_doSteps 98 = .ok (.dup, 1) := by decide +kernel
theorem dX8_doSteps_99 : decode cX8_doSteps 99 = .ok (.getfield 29, 3) := by decide +kernel
theorem dX8_doSteps_102 : decode cX8_doSteps 102 = .ok (.iconst 1, 1) := by decide +kernel
theorem dX8_doSteps_103 : decode cX8_doSteps 103 = .ok (.iadd, 1) := by decide +kernel
theorem dX8_doSteps_104 : decode cX8_doSteps 104 = .ok (.putfield 29, 3) := by decide +kernel
theorem dX8_doSteps_84 : decode cX8_doSteps 84 = .ok (.aload_n 0, 1) := by decide +kernel
theorem dX8_doSteps_85 : decode cX8_doSteps 85 = .ok (.dup, 1) := by decide +kernel
theorem dX8_doSteps_86 : decode cX8_doSteps 86 = .ok (.getfield 26, 3) := by decide +kernel
theorem dX8_doSteps_89 : decode cX8_doSteps 89 = .ok (.iconst 1, 1) := by decide +kernel
theorem dX8_doSteps_90 : decode cX8_doSteps 90 = .ok (.iadd, 1) := by decide +kernel
theorem dX8_doSteps_91 : decode cX8_doSteps 91 = .ok (.putfield 26, 3) := by decide +kernel
theorem dX8_doSteps_94 : decode cX8_doSteps 94 = .ok (.goto 13, 3) := by decide +kernel
theorem dX8_doSteps_53 : decode cX8_doSteps 53 = .ok (.aload_n 0, 1) := by decide +kernel
theorem dX8_doSteps_54 : decode cX8_doSteps 54 = .ok (.getfield 16, 3) := by decide +kernel
theorem dX8_doSteps_57 : decode cX8_doSteps 57 = .ok (.iload 6, 2) := by decide +kernel
theorem dX8_doSteps_59 : decode cX8_doSteps 59 = .ok (.iaload, 1) := by decide +kernel
theorem dX8_doSteps_60 : decode cX8_doSteps 60 = .ok (.istore 5, 2) := by decide +kernel
theorem dX8_doSteps_62 : decode cX8_doSteps 62 = .ok (.aload_n 0, 1) := by decide +kernel
theorem dX8_doSteps_63 : decode cX8_doSteps 63 = .ok (.aload_n 1, 1) := by decide +kernel
theorem dX8_doSteps_64 : decode cX8_doSteps 64 = .ok (.iload 6, 2) := by decide +kernel
theorem dX8_doSteps_66 : decode cX8_doSteps 66 = .ok (.iload 4, 2) := by decide +kernel
theorem dX8_doAgain_0 : decode cX8_doAgain 0 = .ok (.iload_n 3, 1) := by decide +kernel
theorem dX8_doAgain_1 : decode cX8_doAgain 1 = .ok (.bipush 6, 2) := by decide +kernel
theorem dX8_doAgain_3 : decode cX8_doAgain 3 = .ok (.if_icmp .lt 4, 3) := by decide +kernel
theorem dX8_doAgain_7 : decode cX8_doAgain 7 = .ok (.iconst 0, 1) := by decide +kernel
theorem dX8_doAgain_8 : decode cX8_doAgain 8 = .ok (.istore 4, 2) := by decide +kernel
theorem dX8_doAgain_6 : decode cX8_doAgain 6 = .ok (.return_, 1) := by decide +kernel
theorem dX8_doAgain_10 : decode cX8_doAgain 10 = .ok (.iload 4, 2) := by decide +kernel
theorem dX8_doAgain_12 : decode cX8_doAgain 12 = .ok (.aload_n 0, 1) := by decide +kernel
theorem dX8_doAgain_13 : decode cX8_doAgain 13 = .ok (.getfield 13, 3) := by decide +kernel
theorem dX8_doAgain_16 : decode cX8_doAgain 16 = .ok (.iload_n 2, 1) := by decide +kernel
theorem dX8_doAgain_17 : decode cX8_doAgain 17 = .ok (.iaload, 1) := by decide +kernel
theorem dX8_doAgain_18 : decode cX8_doAgain 18 = .ok (.if_icmp .ge 36, 3) := by decide +kernel
theorem dX8_doAgain_54 : decode cX8_doAgain 54 = .ok (.return_, 1) := by decide +kernel
theorem dX8_doAgain_21 : decode cX8_doAgain 21 = .ok (.aload_n 0, 1) := by decide +kernel
theorem dX8_doAgain_22 : decode cX8_doAgain 22 = .ok (.getfield 23, 3) := by decide +kernel
theorem dX8_doAgain_25 : decode cX8_doAgain 25 = .ok (.sipush 200, 3) := by decide +kernel
theorem dX8_doAgain_28 : decode cX8_doAgain 28 = .ok (.if_icmp .ge 26, 3) := by decide +kernel
theorem dX8_doAgain_31 : decode cX8_doAgain 31 = .ok (.aload_n 0, 1) := by decide +kernel
theorem dX8_doAgain_32 : decode cX8_doAgain 32 = .ok (.aload_n 1, 1) := by decide +kernel
theorem dX8_doAgain_33 : decode cX8_doAgain 33 = .ok (.iload_n 2, 1) := by decide +kernel
theorem dX8_doAgain_34 : decode cX8_doAgain 34 = .ok (.iconst 1, 1) := by decide +kernel
theorem dX8_doAgain_35 : decode cX8_doAgain 35 = .ok (.iadd, 1) := by decide +kernel
theorem dX8_doAgain_36 : decode cX8_doAgain 36 = .ok (.aload_n 0, 1) := by decide +kernel
theorem dX8_doAgain_37 : decode cX8_doAgain 37 = .ok (.getfield 16, 3) := by decide +kernel
theorem dX8_doAgain_40 : decode cX8_doAgain 40 = .ok (.iload_n 2, 1) := by decide +kernel
theorem dX8_doAgain_41 : decode cX8_doAgain 41 = .ok (.iaload, 1) := by decide +kernel
theorem dX8_doAgain_42 : decode cX8_doAgain 42 = .ok (.iload_n 3, 1) := by decide +kernel
theorem dX8_doAgain_43 : decode cX8_doAgain 43 = .ok (.iconst 1, 1) := by decide +kernel
theorem dX8_doAgain_44 : decode cX8_doAgain 44 = .ok (.iadd, 1) := by decide +kernel
theorem dX8_doAgain_45 : decode cX8_doAgain 45 = .ok (.invokevirtual 112, 3) := by decide +kernel
theorem dX8_doAgain_48 : decode cX8_doAgain 48 = .ok (.iinc 4 1, 3) := by decide +kernel
theorem dX8_doAgain_51 : decode cX8_doAgain 51 = .ok (.goto (-41), 3) := by decide +kernel
theorem dX8_doSteps_68 : decode cX8_doSteps 68 = .ok (.invokevirtual 104, 3) := by decide +kernel
theorem dX8_doSteps_71 : decode cX8_doSteps 71 = .ok (.goto 36, 3) := by decide +kernel
theorem dX8_doSteps_29 : decode cX8_doSteps 29 = .ok (.goto 78, 3) := by decide +kernel
theorem dX9_work_81 : decode cX9_work 81 = .ok (.invokevirtual 143, 3) := by decide +kernel
theorem dX9_work_84 : decode cX9_work 84 = .ok (.aload_n 0, 1) := by decide +kernel
theorem dX9_work_85 : decode cX9_work 85 = .ok (.aload_n 0, 1) := by decide +kernel
theorem dX9_work_86 : decode cX9_work 86 = .ok (.getfield 54, 3) := by decide +kernel
theorem dX9_work_89 : decode cX9_work 89 = .ok (.getfield 147, 3) := by decide +kernel
theorem dX9_work_92 : decode cX9_work 92 = .ok (.putfield 120, 3) := by decide +kernel
theorem dX9_work_95 : decode cX9_work 95 = .ok (.aload_n 0, 1) := by decide +kernel
theorem dX9_work_96 : decode cX9_work 96 = .ok (.getfield 54, 3) := by decide +kernel
theorem dX9_work_99 : decode cX9_work 99 = .ok (.getfield 150, 3) := by decide +kernel
theorem dX9_work_102 : decode cX9_work 102 = .ok (.ireturn, 1) := by decide +kernel
theorem dX9_work_41 : decode cX9_work 41 = .ok (.aload_n 0, 1) := by decide +kernel
theorem dX9_work_42 : decode cX9_work 42 = .ok (.getfield 21, 3) := by decide +kernel
theorem dX9_work_45 : decode cX9_work 45 = .ok (.getfield 103, 3) := by decide +kernel
theorem dX9_work_48 : decode cX9_work 48 = .ok (.bipush 10, 2) := by decide +kernel
theorem dX9_work_50 : decode cX9_work 50 = .ok (.isub, 1) := by decide +kernel
theorem dX9_work_51 : decode cX9_work 51 = .ok (.ireturn, 1) := by decide +kernel
theorem dX9_work_20 : decode cX9_work 20 = .ok (.bipush (-20), 2) := by decide +kernel
theorem dX9_work_22 : decode cX9_work 22 = .ok (.ireturn, 1) := by decide +kernel
theorem dX9_book_0 : decode cX9_book 0 = .ok (.aload_n 0, 1) := by decide +kernel
theorem dX9_book_1 : decode cX9_book 1 = .ok (.iload_n 1, 1) := by decide +kernel
theorem dX9_book_2 : decode cX9_book 2 = .ok (.bipush 60, 2) := by decide +kernel
theorem dX9_book_4 : decode cX9_book 4 = .ok (.invokevirtual 95, 3) := by decide +kernel
theorem dX9_book_7 : decode cX9_book 7 = .ok (.aload_n 0, 1) := by decide +kernel
theorem dX9_book_8 : decode cX9_book 8 = .ok (.getfield 48, 3) := by decide +kernel
theorem dX9_book_11 : decode cX9_book 11 = .ok (.aload_n 0, 1) := by decide +kernel
theorem dX9_book_12 : decode cX9_book 12 = .ok (.getfield 21, 3) := by decide +kernel
theorem dX9_book_15 : decode cX9_book 15 = .ok (.aload_n 0, 1) := by decide +kernel
theorem dX9_book_16 : decode cX9_book 16 = .ok (.getfield 27, 3) := by decide +kernel
theorem dX0_readFrom_0 : decode cX0_readFrom 0 = .ok (.aload_n 0, 1) := by decide +kernel
theorem dX0_readFrom_1 : decode cX0_readFrom 1 = .ok (.iconst 0, 1) := by decide +kernel
theorem dX0_readFrom_2 : decode cX0_readFrom 2 = .ok (.putfield 19, 3) := by decide +kernel
theorem dX0_readFrom_5 : decode cX0_readFrom 5 = .ok (.iconst 0, 1) := by decide +kernel
theorem dX0_readFrom_6 : decode cX0_readFrom 6 = .ok (.istore_n 3, 1) := by decide +kernel
theorem dX0_readFrom_7 : decode cX0_readFrom 7 = .ok (.iload_n 3, 1) := by decide +kernel
theorem dX0_readFrom_8 : decode cX0_readFrom 8 = .ok (.bipush 6, 2) := by decide +kernel
theorem dX0_readFrom_10 : decode cX0_readFrom 10 = .ok (.if_icmp .gt 38, 3) := by decide +kernel
theorem dX0_readFrom_48 : decode cX0_readFrom 48 = .ok (.iconst 0, 1) := by decide +kernel
theorem dX0_readFrom_49 : decode cX0_readFrom 49 = .ok (.ireturn, 1) := by decide +kernel
theorem dX0_readFrom_13 : decode cX0_readFrom 13 = .ok (.aload_n 1, 1) := by decide +kernel
theorem dX0_readFrom_14 : decode cX0_readFrom 14 = .ok (.invokevirtual 29, 3) := by decide +kernel
theorem dX0_readFrom_17 : decode cX0_readFrom 17 = .ok (.ifCond .eq 5, 3) := by decide +kernel
theorem dX0_readFrom_22 : decode cX0_readFrom 22 = .ok (.aload_n 0, 1) := by decide +kernel
theorem dX0_readFrom_23 : decode cX0_readFrom 23 = .ok (.aload_n 1, 1) := by decide +kernel
theorem dX0_readFrom_24 : decode cX0_readFrom 24 = .ok (.aload_n 2, 1) := by decide +kernel
theorem dX0_readLine_0 : decode cX0_readLine 0 = .ok (.aload_n 1, 1) := by decide +kernel
theorem dX0_readLine_1 : decode cX0_readLine 1 = .ok (.invokevirtual 43, 3) := by decide +kernel
theorem dX0_readLine_4 : decode cX0_readLine 4 = .ok (.istore_n 3, 1) := by decide +kernel
theorem dX0_readLine_5 : decode cX0_readLine 5 = .ok (.aload_n 1, 1) := by decide +kernel
theorem dX0_readLine_6 : decode cX0_readLine 6 = .ok (.iconst 0, 1) := by decide +kernel
theorem dX0_readLine_7 : decode cX0_readLine 7 = .ok (.aload_n 2, 1) := by decide +kernel
theorem dX0_readLine_8 : decode cX0_readLine 8 = .ok (.getfield 47, 3) := by decide +kernel
theorem dX0_readLine_11 : decode cX0_readLine 11 = .ok (.iconst 1, 1) := by decide +kernel
theorem dX0_readLine_12 : decode cX0_readLine 12 = .ok (.isub, 1) := by decide +kernel
theorem dX0_readLine_13 : decode cX0_readLine 13 = .ok (.invokevirtual 51, 3) := by decide +kernel
theorem dX0_readLine_16 : decode cX0_readLine 16 = .ok (.ifCond .ne 5, 3) := by decide +kernel
theorem dX0_readLine_21 : decode cX0_readLine 21 = .ok (.aload_n 0, 1) := by decide +kernel
theorem dX0_readLine_22 : decode cX0_readLine 22 = .ok (.getfield 19, 3) := by decide +kernel
theorem dX0_readLine_25 : decode cX0_readLine 25 = .ok (.bipush 6, 2) := by decide +kernel
theorem dX0_readLine_27 : decode cX0_readLine 27 = .ok (.if_icmp .lt 10, 3) := by decide +kernel
theorem dX0_readLine_37 : decode cX0_readLine 37 = .ok (.aload_n 0, 1) := by decide +kernel
theorem dX0_readLine_38 : decode cX0_readLine 38 = .ok (.getfield 9, 3) := by decide +kernel
theorem dX0_readLine_41 : decode cX0_readLine 41 = .ok (.aload_n 0, 1) := by decide +kernel
theorem dX0_readLine_42 : decode cX0_readLine 42 = .ok (.getfield 19, 3) := by decide +kernel
theorem dX0_readLine_45 : decode cX0_readLine 45 = .ok (.aload_n 1, 1) := by decide +kernel
theorem dX0_readLine_46 : decode cX0_readLine 46 = .ok (.getfield 58, 3) := by decide +kernel
theorem dX0_readLine_49 : decode cX0_readLine 49 = .ok (.iastore, 1) := by decide +kernel
theorem dX0_readLine_50 : decode cX0_readLine 50 = .ok (.aload_n 1, 1) := by decide +kernel
theorem dX0_readLine_51 : decode cX0_readLine 51 = .ok (.iconst 0, 1) := by decide +kernel
theorem dX0_readLine_52 : decode cX0_readLine 52 = .ok (.aload_n 2, 1) := by decide +kernel
theorem dX0_readLine_53 : decode cX0_readLine 53 = .ok (.getfield 61, 3) := by decide +kernel
theorem dX0_readLine_56 : decode cX0_readLine 56 = .ok (.iconst 1, 1) := by decide +kernel
theorem dX0_readLine_57 : decode cX0_readLine 57 = .ok (.isub, 1) := by decide +kernel
theorem dX0_readLine_58 : decode cX0_readLine 58 = .ok (.invokevirtual 51, 3) := by decide +kernel
theorem dX0_readLine_61 : decode cX0_readLine 61 = .ok (.ifCond .ne 5, 3) := by decide +kernel
theorem dX0_readLine_66 : decode cX0_readLine 66 = .ok (.aload_n 0, 1) := by decide +kernel
theorem dX0_readLine_67 : decode cX0_readLine 67 = .ok (.getfield 13, 3) := by decide +kernel
theorem dX0_readLine_70 : decode cX0_readLine 70 = .ok (.aload_n 0, 1) := by decide +kernel
theorem dX0_readLine_71 : decode cX0_readLine 71 = .ok (.getfield 19, 3) := by decide +kernel
theorem dX0_readLine_74 : decode cX0_readLine 74 = .ok (.aload_n 1, 1) := by decide +kernel
theorem dX0_readLine_75 : decode cX0_readLine 75 = .ok (.getfield 58, 3) := by decide +kernel
theorem dX0_readLine_78 : decode cX0_readLine 78 = .ok (.iastore, 1) := by decide +kernel
theorem dX0_readLine_79 : decode cX0_readLine 79 = .ok (.aload_n 1, 1) := by decide +kernel
theorem dX0_readLine_80 : decode cX0_readLine 80 = .ok (.iconst 0, 1) := by decide +kernel
theorem dX0_readLine_81 : decode cX0_readLine 81 = .ok (.bipush 99, 2) := by decide +kernel
theorem dX0_readLine_83 : decode cX0_readLine 83 = .ok (.invokevirtual 51, 3) := by decide +kernel
theorem dX0_readLine_86 : decode cX0_readLine 86 = .ok (.ifCond .ne 5, 3) := by decide +kernel
theorem dX0_readLine_91 : decode cX0_readLine 91 = .ok (.aload_n 0, 1) := by decide +kernel
