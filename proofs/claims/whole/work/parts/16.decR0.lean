theorem dX10_feed_0 : decode cX10_feed 0 = .ok (.aload_n 0, 1) := by decide +kernel
theorem dX10_feed_1 : decode cX10_feed 1 = .ok (.iconst 0, 1) := by decide +kernel
theorem dX10_feed_2 : decode cX10_feed 2 = .ok (.putfield 3, 3) := by decide +kernel
theorem dX10_feed_5 : decode cX10_feed 5 = .ok (.aload_n 0, 1) := by decide +kernel
theorem dX10_feed_6 : decode cX10_feed 6 = .ok (.getfield 99, 3) := by decide +kernel
theorem dX10_feed_9 : decode cX10_feed 9 = .ok (.bipush 20, 2) := by decide +kernel
theorem dX10_feed_11 : decode cX10_feed 11 = .ok (.iadd, 1) := by decide +kernel
theorem dX10_feed_12 : decode cX10_feed 12 = .ok (.sipush 600, 3) := by decide +kernel
theorem dX10_feed_15 : decode cX10_feed 15 = .ok (.if_icmp .le 5, 3) := by decide +kernel
theorem dX10_feed_20 : decode cX10_feed 20 = .ok (.iconst 0, 1) := by decide +kernel
theorem dX10_feed_21 : decode cX10_feed 21 = .ok (.istore 6, 2) := by decide +kernel
theorem dX10_feed_18 : decode cX10_feed 18 = .ok (.iconst (-1), 1) := by decide +kernel
theorem dX10_feed_19 : decode cX10_feed 19 = .ok (.ireturn, 1) := by decide +kernel
theorem dX10_feed_23 : decode cX10_feed 23 = .ok (.iload 6, 2) := by decide +kernel
theorem dX10_feed_25 : decode cX10_feed 25 = .ok (.bipush 20, 2) := by decide +kernel
theorem dX10_feed_27 : decode cX10_feed 27 = .ok (.if_icmp .ge 93, 3) := by decide +kernel
theorem dX10_feed_120 : decode cX10_feed 120 = .ok (.aload_n 0, 1) := by decide +kernel
theorem dX10_feed_121 : decode cX10_feed 121 = .ok (.getfield 99, 3) := by decide +kernel
theorem dX10_feed_124 : decode cX10_feed 124 = .ok (.ireturn, 1) := by decide +kernel
theorem dX10_feed_30 : decode cX10_feed 30 = .ok (.iload 6, 2) := by decide +kernel
theorem dX10_feed_32 : decode cX10_feed 32 = .ok (.iconst 4, 1) := by decide +kernel
theorem dX10_feed_33 : decode cX10_feed 33 = .ok (.if_icmp .ge 7, 3) := by decide +kernel
theorem dX10_feed_40 : decode cX10_feed 40 = .ok (.iload 6, 2) := by decide +kernel
theorem dX10_feed_42 : decode cX10_feed 42 = .ok (.bipush 8, 2) := by decide +kernel
theorem dX10_feed_44 : decode cX10_feed 44 = .ok (.if_icmp .ge 7, 3) := by decide +kernel
theorem dX10_feed_51 : decode cX10_feed 51 = .ok (.iload 6, 2) := by decide +kernel
theorem dX10_feed_53 : decode cX10_feed 53 = .ok (.bipush 12, 2) := by decide +kernel
theorem dX10_feed_55 : decode cX10_feed 55 = .ok (.if_icmp .ge 7, 3) := by decide +kernel
theorem dX10_feed_62 : decode cX10_feed 62 = .ok (.iload 6, 2) := by decide +kernel
theorem dX10_feed_64 : decode cX10_feed 64 = .ok (.bipush 16, 2) := by decide +kernel
theorem dX10_feed_66 : decode cX10_feed 66 = .ok (.if_icmp .ge 8, 3) := by decide +kernel
theorem dX10_feed_74 : decode cX10_feed 74 = .ok (.iload 5, 2) := by decide +kernel
theorem dX10_feed_69 : decode cX10_feed 69 = .ok (.iload 4, 2) := by decide +kernel
theorem dX10_feed_71 : decode cX10_feed 71 = .ok (.goto 5, 3) := by decide +kernel
theorem dX10_feed_58 : decode cX10_feed 58 = .ok (.iload_n 3, 1) := by decide +kernel
theorem dX10_feed_59 : decode cX10_feed 59 = .ok (.goto 17, 3) := by decide +kernel
theorem dX10_feed_47 : decode cX10_feed 47 = .ok (.iload_n 2, 1) := by decide +kernel
theorem dX10_feed_48 : decode cX10_feed 48 = .ok (.goto 28, 3) := by decide +kernel
theorem dX10_feed_36 : decode cX10_feed 36 = .ok (.iload_n 1, 1) := by decide +kernel
theorem dX10_feed_37 : decode cX10_feed 37 = .ok (.goto 39, 3) := by decide +kernel
theorem dX10_feed_76 : decode cX10_feed 76 = .ok (.istore 7, 2) := by decide +kernel
theorem dX10_feed_78 : decode cX10_feed 78 = .ok (.aload_n 0, 1) := by decide +kernel
theorem dX10_feed_79 : decode cX10_feed 79 = .ok (.getfield 20, 3) := by decide +kernel
theorem dX10_feed_82 : decode cX10_feed 82 = .ok (.aload_n 0, 1) := by decide +kernel
theorem dX10_feed_83 : decode cX10_feed 83 = .ok (.getfield 99, 3) := by decide +kernel
theorem dX10_feed_86 : decode cX10_feed 86 = .ok (.iload 7, 2) := by decide +kernel
theorem dX10_feed_88 : decode cX10_feed 88 = .ok (.bipush 24, 2) := by decide +kernel
theorem dX10_feed_90 : decode cX10_feed 90 = .ok (.bipush 8, 2) := by decide +kernel
theorem dX10_feed_92 : decode cX10_feed 92 = .ok (.iload 6, 2) := by decide +kernel
theorem dX10_feed_94 : decode cX10_feed 94 = .ok (.iconst 4, 1) := by decide +kernel
theorem dX10_feed_95 : decode cX10_feed 95 = .ok (.irem, 1) := by decide +kernel
theorem dX10_feed_96 : decode cX10_feed 96 = .ok (.imul, 1) := by decide +kernel
theorem dX10_feed_97 : decode cX10_feed 97 = .ok (.isub, 1) := by decide +kernel
theorem dX10_feed_98 : decode cX10_feed 98 = .ok (.ishr, 1) := by decide +kernel
theorem dX10_feed_99 : decode cX10_feed 99 = .ok (.sipush 255, 3) := by decide +kernel
theorem dX10_feed_102 : decode cX10_feed 102 = .ok (.iand, 1) := by decide +kernel
theorem dX10_feed_103 : decode cX10_feed 103 = .ok (.iastore, 1) := by decide +kernel
theorem dX10_feed_104 : decode cX10_feed 104 = .ok (.aload_n 0, 1) := by decide +kernel
theorem dX10_feed_105 : decode cX10_feed 105 = .ok (.dup, 1) := by decide +kernel
theorem dX10_feed_106 : decode cX10_feed 106 = .ok (.getfield 99, 3) := by decide +kernel
theorem dX10_feed_109 : decode cX10_feed 109 = .ok (.iconst 1, 1) := by decide +kernel
theorem dX10_feed_110 : decode cX10_feed 110 = .ok (.iadd, 1) := by decide +kernel
theorem dX10_feed_111 : decode cX10_feed 111 = .ok (.putfield 99, 3) := by decide +kernel
theorem dX10_feed_114 : decode cX10_feed 114 = .ok (.iinc 6 1, 3) := by decide +kernel
theorem dX10_feed_117 : decode cX10_feed 117 = .ok (.goto (-94), 3) := by decide +kernel
theorem dX10_valley_0 : decode cX10_valley 0 = .ok (.aload_n 0, 1) := by decide +kernel
theorem dX10_valley_1 : decode cX10_valley 1 = .ok (.iconst 0, 1) := by decide +kernel
theorem dX10_valley_2 : decode cX10_valley 2 = .ok (.putfield 3, 3) := by decide +kernel
theorem dX10_valley_5 : decode cX10_valley 5 = .ok (.aload_n 0, 1) := by decide +kernel
theorem dX10_valley_6 : decode cX10_valley 6 = .ok (.iload_n 1, 1) := by decide +kernel
theorem dX10_valley_7 : decode cX10_valley 7 = .ok (.ifCond .lt 15, 3) := by decide +kernel
theorem dX10_valley_10 : decode cX10_valley 10 = .ok (.iload_n 1, 1) := by decide +kernel
theorem dX10_valley_11 : decode cX10_valley 11 = .ok (.aload_n 0, 1) := by decide +kernel
theorem dX10_valley_12 : decode cX10_valley 12 = .ok (.getfield 99, 3) := by decide +kernel
theorem dX10_valley_15 : decode cX10_valley 15 = .ok (.if_icmp .gt 7, 3) := by decide +kernel
theorem dX10_valley_18 : decode cX10_valley 18 = .ok (.iconst 1, 1) := by decide +kernel
theorem dX10_valley_19 : decode cX10_valley 19 = .ok (.goto 4, 3) := by decide +kernel
theorem dX10_valley_22 : decode cX10_valley 22 = .ok (.iconst 0, 1) := by decide +kernel
theorem dX10_valley_23 : decode cX10_valley 23 = .ok (.iconst 1, 1) := by decide +kernel
theorem dX10_valley_24 : decode cX10_valley 24 = .ok (.iconst 1, 1) := by decide +kernel
theorem dX10_may_0 : decode cX10_may 0 = .ok (.iload_n 1, 1) := by decide +kernel
theorem dX10_may_1 : decode cX10_may 1 = .ok (.ifCond .ne 25, 3) := by decide +kernel
theorem dX10_may_4 : decode cX10_may 4 = .ok (.aload_n 0, 1) := by decide +kernel
theorem dX10_may_5 : decode cX10_may 5 = .ok (.getfield 3, 3) := by decide +kernel
theorem dX10_may_8 : decode cX10_may 8 = .ok (.ifCond .ne 18, 3) := by decide +kernel
theorem dX10_may_11 : decode cX10_may 11 = .ok (.aload_n 0, 1) := by decide +kernel
theorem dX10_may_12 : decode cX10_may 12 = .ok (.iload_n 2, 1) := by decide +kernel
theorem dX10_may_13 : decode cX10_may 13 = .ok (.putfield 3, 3) := by decide +kernel
theorem dX10_may_16 : decode cX10_may 16 = .ok (.aload_n 0, 1) := by decide +kernel
theorem dX10_may_17 : decode cX10_may 17 = .ok (.getfield 7, 3) := by decide +kernel
theorem dX10_may_20 : decode cX10_may 20 = .ok (.iload_n 3, 1) := by decide +kernel
theorem dX10_may_21 : decode cX10_may 21 = .ok (.dup2, 1) := by decide +kernel
theorem dX10_may_22 : decode cX10_may 22 = .ok (.iaload, 1) := by decide +kernel
theorem dX10_may_23 : decode cX10_may 23 = .ok (.iconst 1, 1) := by decide +kernel
theorem dX10_may_24 : decode cX10_may 24 = .ok (.iadd, 1) := by decide +kernel
theorem dX10_may_25 : decode cX10_may 25 = .ok (.iastore, 1) := by decide +kernel
theorem dX10_may_26 : decode cX10_may 26 = .ok (.aload_n 0, 1) := by decide +kernel
theorem dX10_may_27 : decode cX10_may 27 = .ok (.getfield 3, 3) := by decide +kernel
theorem dX10_may_30 : decode cX10_may 30 = .ok (.ifCond .ne 7, 3) := by decide +kernel
theorem dX10_may_37 : decode cX10_may 37 = .ok (.iconst 0, 1) := by decide +kernel
theorem dX10_may_38 : decode cX10_may 38 = .ok (.ireturn, 1) := by decide +kernel
theorem dX10_may_33 : decode cX10_may 33 = .ok (.iconst 1, 1) := by decide +kernel
theorem dX10_may_34 : decode cX10_may 34 = .ok (.goto 4, 3) := by decide +kernel
theorem dX10_valley_25 : decode cX10_valley 25 = .ok (.invokevirtual 200, 3) := by decide +kernel
theorem dX10_valley_28 : decode cX10_valley 28 = .ok (.ifCond .ne 5, 3) := by decide +kernel
theorem dX10_valley_33 : decode cX10_valley 33 = .ok (.aload_n 0, 1) := by decide +kernel
theorem dX10_valley_34 : decode cX10_valley 34 = .ok (.iload_n 1, 1) := by decide +kernel
theorem dX10_begins_0 : decode cX10_begins 0 = .ok (.aload_n 0, 1) := by decide +kernel
theorem dX10_begins_1 : decode cX10_begins 1 = .ok (.iconst 0, 1) := by decide +kernel
theorem dX10_begins_2 : decode cX10_begins 2 = .ok (.putfield 99, 3) := by decide +kernel
theorem dX10_begins_5 : decode cX10_begins 5 = .ok (.aload_n 0, 1) := by decide +kernel
theorem dX10_begins_6 : decode cX10_begins 6 = .ok (.iconst (-1), 1) := by decide +kernel
theorem dX10_begins_7 : decode cX10_begins 7 = .ok (.putfield 17, 3) := by decide +kernel
theorem dX10_begins_10 : decode cX10_begins 10 = .ok (.aload_n 0, 1) := by decide +kernel
theorem dX10_begins_11 : decode cX10_begins 11 = .ok (.iload_n 1, 1) := by decide +kernel
theorem dX10_begins_12 : decode cX10_begins 12 = .ok (.putfield 111, 3) := by decide +kernel
theorem dX10_begins_15 : decode cX10_begins 15 = .ok (.aload_n 0, 1) := by decide +kernel
theorem dX10_begins_16 : decode cX10_begins 16 = .ok (.iconst 0, 1) := by decide +kernel
theorem dX10_begins_17 : decode cX10_begins 17 = .ok (.putfield 108, 3) := by decide +kernel
theorem dX10_begins_20 : decode cX10_begins 20 = .ok (.aload_n 0, 1) := by decide +kernel
theorem dX10_begins_21 : decode cX10_begins 21 = .ok (.iconst (-1), 1) := by decide +kernel
theorem dX10_begins_22 : decode cX10_begins 22 = .ok (.putfield 102, 3) := by decide +kernel
theorem dX10_begins_25 : decode cX10_begins 25 = .ok (.aload_n 0, 1) := by decide +kernel
theorem dX10_begins_26 : decode cX10_begins 26 = .ok (.iconst 0, 1) := by decide +kernel
theorem dX10_begins_27 : decode cX10_begins 27 = .ok (.putfield 142, 3) := by decide +kernel
theorem dX10_begins_30 : decode cX10_begins 30 = .ok (.return_, 1) := by decide +kernel
theorem dX10_valley_35 : decode cX10_valley 35 = .ok (.invokevirtual 204, 3) := by decide +kernel
theorem dX10_valley_38 : decode cX10_valley 38 = .ok (.aload_n 0, 1) := by decide +kernel
theorem dX10_clears_0 : decode cX10_clears 0 = .ok (.aload_n 0, 1) := by decide +kernel
theorem dX10_clears_1 : decode cX10_clears 1 = .ok (.iconst 0, 1) := by decide +kernel
theorem dX10_clears_2 : decode cX10_clears 2 = .ok (.putfield 145, 3) := by decide +kernel
theorem dX10_clears_5 : decode cX10_clears 5 = .ok (.aload_n 0, 1) := by decide +kernel
theorem dX10_clears_6 : decode cX10_clears 6 = .ok (.iconst 0, 1) := by decide +kernel
theorem dX10_clears_7 : decode cX10_clears 7 = .ok (.putfield 148, 3) := by decide +kernel
theorem dX10_clears_10 : decode cX10_clears 10 = .ok (.aload_n 0, 1) := by decide +kernel
theorem dX10_clears_11 : decode cX10_clears 11 = .ok (.iconst 0, 1) := by decide +kernel
theorem dX10_clears_12 : decode cX10_clears 12 = .ok (.putfield 151, 3) := by decide +kernel
theorem dX10_clears_15 : decode cX10_clears 15 = .ok (.aload_n 0, 1) := by decide +kernel
theorem dX10_clears_16 : decode cX10_clears 16 = .ok (.iconst 3, 1) := by decide +kernel
theorem dX10_clears_17 : decode cX10_clears 17 = .ok (.putfield 154, 3) := by decide +kernel
theorem dX10_clears_20 : decode cX10_clears 20 = .ok (.return_, 1) := by decide +kernel
theorem dX10_valley_39 : decode cX10_valley 39 = .ok (.invokevirtual 93, 3) := by decide +kernel
theorem dX10_valley_42 : decode cX10_valley 42 = .ok (.iconst 0, 1) := by decide +kernel
theorem dX10_valley_43 : decode cX10_valley 43 = .ok (.istore_n 2, 1) := by decide +kernel
theorem dX10_valley_31 : decode cX10_valley 31 = .ok (.iconst 0, 1) := by decide +kernel
theorem dX10_valley_32 : decode cX10_valley 32 = .ok (.ireturn, 1) := by decide +kernel
theorem dX10_valley_44 : decode cX10_valley 44 = .ok (.aload_n 0, 1) := by decide +kernel
theorem dX10_fine_0 : decode cX10_fine 0 = .ok (.aload_n 0, 1) := by decide +kernel
theorem dX10_fine_1 : decode cX10_fine 1 = .ok (.getfield 102, 3) := by decide +kernel
theorem dX10_fine_4 : decode cX10_fine 4 = .ok (.iconst (-1), 1) := by decide +kernel
theorem dX10_fine_5 : decode cX10_fine 5 = .ok (.if_icmp .ne 7, 3) := by decide +kernel
theorem dX10_fine_12 : decode cX10_fine 12 = .ok (.iconst 0, 1) := by decide +kernel
theorem dX10_fine_13 : decode cX10_fine 13 = .ok (.ireturn, 1) := by decide +kernel
theorem dX10_fine_8 : decode cX10_fine 8 = .ok (.iconst 1, 1) := by decide +kernel
theorem dX10_fine_9 : decode cX10_fine 9 = .ok (.goto 4, 3) := by decide +kernel
theorem dX10_valley_45 : decode cX10_valley 45 = .ok (.invokevirtual 131, 3) := by decide +kernel
theorem dX10_valley_48 : decode cX10_valley 48 = .ok (.ifCond .eq 88, 3) := by decide +kernel
theorem dX10_valley_51 : decode cX10_valley 51 = .ok (.aload_n 0, 1) := by decide +kernel
theorem dX10_isMore_0 : decode cX10_isMore 0 = .ok (.aload_n 0, 1) := by decide +kernel
theorem dX10_here_0 : decode cX10_here 0 = .ok (.aload_n 0, 1) := by decide +kernel
theorem dX10_here_1 : decode cX10_here 1 = .ok (.getfield 108, 3) := by decide +kernel
theorem dX10_here_4 : decode cX10_here 4 = .ok (.aload_n 0, 1) := by decide +kernel
theorem dX10_here_5 : decode cX10_here 5 = .ok (.getfield 111, 3) := by decide +kernel
theorem dX10_here_8 : decode cX10_here 8 = .ok (.if_icmp .ge 30, 3) := by decide +kernel
theorem dX10_here_11 : decode cX10_here 11 = .ok (.aload_n 0, 1) := by decide +kernel
theorem dX10_here_12 : decode cX10_here 12 = .ok (.getfield 20, 3) := by decide +kernel
theorem dX10_here_15 : decode cX10_here 15 = .ok (.aload_n 0, 1) := by decide +kernel
theorem dX10_here_16 : decode cX10_here 16 = .ok (.getfield 108, 3) := by decide +kernel
theorem dX10_here_19 : decode cX10_here 19 = .ok (.iaload, 1) := by decide +kernel
theorem dX10_here_20 : decode cX10_here 20 = .ok (.bipush 32, 2) := by decide +kernel
theorem dX10_here_22 : decode cX10_here 22 = .ok (.if_icmp .ne 16, 3) := by decide +kernel
theorem dX10_here_25 : decode cX10_here 25 = .ok (.aload_n 0, 1) := by decide +kernel
theorem dX10_here_26 : decode cX10_here 26 = .ok (.dup, 1) := by decide +kernel
theorem dX10_here_27 : decode cX10_here 27 = .ok (.getfield 108, 3) := by decide +kernel
theorem dX10_here_30 : decode cX10_here 30 = .ok (.iconst 1, 1) := by decide +kernel
theorem dX10_here_31 : decode cX10_here 31 = .ok (.iadd, 1) := by decide +kernel
theorem dX10_here_32 : decode cX10_here 32 = .ok (.putfield 108, 3) := by decide +kernel
theorem dX10_here_35 : decode cX10_here 35 = .ok (.goto (-35), 3) := by decide +kernel
theorem dX10_here_38 : decode cX10_here 38 = .ok (.aload_n 0, 1) := by decide +kernel
theorem dX10_here_39 : decode cX10_here 39 = .ok (.getfield 108, 3) := by decide +kernel
theorem dX10_here_42 : decode cX10_here 42 = .ok (.aload_n 0, 1) := by decide +kernel
theorem dX10_here_43 : decode cX10_here 43 = .ok (.getfield 111, 3) := by decide +kernel
theorem dX10_here_46 : decode cX10_here 46 = .ok (.if_icmp .ge 15, 3) := by decide +kernel
theorem dX10_here_61 : decode cX10_here 61 = .ok (.iconst 0, 1) := by decide +kernel
theorem dX10_here_62 : decode cX10_here 62 = .ok (.ireturn, 1) := by decide +kernel
theorem dX10_here_49 : decode cX10_here 49 = .ok (.aload_n 0, 1) := by decide +kernel
theorem dX10_here_50 : decode cX10_here 50 = .ok (.getfield 20, 3) := by decide +kernel
theorem dX10_here_53 : decode cX10_here 53 = .ok (.aload_n 0, 1) := by decide +kernel
theorem dX10_here_54 : decode cX10_here 54 = .ok (.getfield 108, 3) := by decide +kernel
theorem dX10_here_57 : decode cX10_here 57 = .ok (.iaload, 1) := by decide +kernel
theorem dX10_here_58 : decode cX10_here 58 = .ok (.goto 4, 3) := by decide +kernel
theorem dX10_isMore_1 : decode cX10_isMore 1 = .ok (.invokevirtual 114, 3) := by decide +kernel
theorem dX10_isMore_4 : decode cX10_isMore 4 = .ok (.pop, 1) := by decide +kernel
theorem dX10_isMore_5 : decode cX10_isMore 5 = .ok (.aload_n 0, 1) := by decide +kernel
theorem dX10_isMore_6 : decode cX10_isMore 6 = .ok (.getfield 108, 3) := by decide +kernel
theorem dX10_isMore_9 : decode cX10_isMore 9 = .ok (.aload_n 0, 1) := by decide +kernel
theorem dX10_isMore_10 : decode cX10_isMore 10 = .ok (.getfield 111, 3) := by decide +kernel
theorem dX10_isMore_13 : decode cX10_isMore 13 = .ok (.if_icmp .ge 7, 3) := by decide +kernel
theorem dX10_isMore_20 : decode cX10_isMore 20 = .ok (.iconst 0, 1) := by decide +kernel
theorem dX10_isMore_21 : decode cX10_isMore 21 = .ok (.ireturn, 1) := by decide +kernel
theorem dX10_isMore_16 : decode cX10_isMore 16 = .ok (.iconst 1, 1) := by decide +kernel
theorem dX10_isMore_17 : decode cX10_isMore 17 = .ok (.goto 4, 3) := by decide +kernel
theorem dX10_valley_52 : decode cX10_valley 52 = .ok (.invokevirtual 208, 3) := by decide +kernel
theorem dX10_valley_55 : decode cX10_valley 55 = .ok (.ifCond .eq 81, 3) := by decide +kernel
theorem dX10_valley_58 : decode cX10_valley 58 = .ok (.aload_n 0, 1) := by decide +kernel
theorem dX10_word_0 : decode cX10_word 0 = .ok (.aload_n 0, 1) := by decide +kernel
theorem dX10_word_1 : decode cX10_word 1 = .ok (.invokevirtual 114, 3) := by decide +kernel
theorem dX10_word_4 : decode cX10_word 4 = .ok (.pop, 1) := by decide +kernel
theorem dX10_word_5 : decode cX10_word 5 = .ok (.iconst 0, 1) := by decide +kernel
theorem dX10_word_6 : decode cX10_word 6 = .ok (.istore_n 1, 1) := by decide +kernel
theorem dX10_word_7 : decode cX10_word 7 = .ok (.iconst 0, 1) := by decide +kernel
theorem dX10_word_8 : decode cX10_word 8 = .ok (.istore_n 2, 1) := by decide +kernel
theorem dX10_word_9 : decode cX10_word 9 = .ok (.aload_n 0, 1) := by decide +kernel
theorem dX10_word_10 : decode cX10_word 10 = .ok (.getfield 108, 3) := by decide +kernel
theorem dX10_word_13 : decode cX10_word 13 = .ok (.istore_n 3, 1) := by decide +kernel
theorem dX10_word_14 : decode cX10_word 14 = .ok (.iload_n 3, 1) := by decide +kernel
theorem dX10_word_15 : decode cX10_word 15 = .ok (.aload_n 0, 1) := by decide +kernel
theorem dX10_word_16 : decode cX10_word 16 = .ok (.getfield 111, 3) := by decide +kernel
theorem dX10_word_19 : decode cX10_word 19 = .ok (.if_icmp .ge 48, 3) := by decide +kernel
theorem dX10_word_22 : decode cX10_word 22 = .ok (.aload_n 0, 1) := by decide +kernel
theorem dX10_word_23 : decode cX10_word 23 = .ok (.getfield 20, 3) := by decide +kernel
theorem dX10_word_26 : decode cX10_word 26 = .ok (.iload_n 3, 1) := by decide +kernel
theorem dX10_word_27 : decode cX10_word 27 = .ok (.iaload, 1) := by decide +kernel
theorem dX10_isSmall_0 : decode cX10_isSmall 0 = .ok (.iload_n 0, 1) := by decide +kernel
theorem dX10_isSmall_1 : decode cX10_isSmall 1 = .ok (.bipush 97, 2) := by decide +kernel
theorem dX10_isSmall_3 : decode cX10_isSmall 3 = .ok (.if_icmp .lt 13, 3) := by decide +kernel
theorem dX10_isSmall_16 : decode cX10_isSmall 16 = .ok (.iconst 0, 1) := by decide +kernel
theorem dX10_isSmall_17 : decode cX10_isSmall 17 = .ok (.ireturn, 1) := by decide +kernel
theorem dX10_isSmall_6 : decode cX10_isSmall 6 = .ok (.iload_n 0, 1) := by decide +kernel
theorem dX10_isSmall_7 : decode cX10_isSmall 7 = .ok (.bipush 122, 2) := by decide +kernel
theorem dX10_isSmall_9 : decode cX10_isSmall 9 = .ok (.if_icmp .gt 7, 3) := by decide +kernel
theorem dX10_isSmall_12 : decode cX10_isSmall 12 = .ok (.iconst 1, 1) := by decide +kernel
theorem dX10_isSmall_13 : decode cX10_isSmall 13 = .ok (.goto 4, 3) := by decide +kernel
theorem dX10_word_28 : decode cX10_word 28 = .ok (.invokestatic 118, 3) := by decide +kernel
theorem dX10_word_31 : decode cX10_word 31 = .ok (.ifCond .eq 36, 3) := by decide +kernel
theorem dX10_word_34 : decode cX10_word 34 = .ok (.iload_n 2, 1) := by decide +kernel
theorem dX10_word_35 : decode cX10_word 35 = .ok (.bipush 6, 2) := by decide +kernel
theorem dX10_word_37 : decode cX10_word 37 = .ok (.if_icmp .ge 19, 3) := by decide +kernel
theorem dX10_word_56 : decode cX10_word 56 = .ok (.iconst 0, 1) := by decide +kernel
theorem dX10_word_57 : decode cX10_word 57 = .ok (.istore_n 1, 1) := by decide +kernel
theorem dX10_word_58 : decode cX10_word 58 = .ok (.iinc 2 1, 3) := by decide +kernel
theorem dX10_word_61 : decode cX10_word 61 = .ok (.iinc 3 1, 3) := by decide +kernel
theorem dX10_word_64 : decode cX10_word 64 = .ok (.goto (-50), 3) := by decide +kernel
theorem dX10_word_40 : decode cX10_word 40 = .ok (.iload_n 1, 1) := by decide +kernel
theorem dX10_word_41 : decode cX10_word 41 = .ok (.iconst 5, 1) := by decide +kernel
theorem dX10_word_42 : decode cX10_word 42 = .ok (.ishl, 1) := by decide +kernel
theorem dX10_word_43 : decode cX10_word 43 = .ok (.aload_n 0, 1) := by decide +kernel
theorem dX10_word_44 : decode cX10_word 44 = .ok (.getfield 20, 3) := by decide +kernel
theorem dX10_word_47 : decode cX10_word 47 = .ok (.iload_n 3, 1) := by decide +kernel
theorem dX10_word_48 : decode cX10_word 48 = .ok (.iaload, 1) := by decide +kernel
theorem dX10_word_49 : decode cX10_word 49 = .ok (.bipush 96, 2) := by decide +kernel
theorem dX10_word_51 : decode cX10_word 51 = .ok (.isub, 1) := by decide +kernel
theorem dX10_word_52 : decode cX10_word 52 = .ok (.ior, 1) := by decide +kernel
theorem dX10_word_53 : decode cX10_word 53 = .ok (.goto 4, 3) := by decide +kernel
theorem dX10_word_67 : decode cX10_word 67 = .ok (.iload_n 2, 1) := by decide +kernel
theorem dX10_word_68 : decode cX10_word 68 = .ok (.bipush 6, 2) := by decide +kernel
theorem dX10_word_70 : decode cX10_word 70 = .ok (.if_icmp .le 7, 3) := by decide +kernel
theorem dX10_word_77 : decode cX10_word 77 = .ok (.iload_n 1, 1) := by decide +kernel
theorem dX10_word_78 : decode cX10_word 78 = .ok (.ireturn, 1) := by decide +kernel
theorem dX10_word_73 : decode cX10_word 73 = .ok (.iconst 0, 1) := by decide +kernel
theorem dX10_word_74 : decode cX10_word 74 = .ok (.goto 4, 3) := by decide +kernel
theorem dX10_valley_59 : decode cX10_valley 59 = .ok (.invokevirtual 211, 3) := by decide +kernel
theorem dX10_valley_62 : decode cX10_valley 62 = .ok (.istore_n 3, 1) := by decide +kernel
theorem dX10_valley_63 : decode cX10_valley 63 = .ok (.iload_n 3, 1) := by decide +kernel
theorem dX10_isRow_0 : decode cX10_isRow 0 = .ok (.iload_n 0, 1) := by decide +kernel
theorem dX10_isRow_1 : decode cX10_isRow 1 = .ok (.ldc 188, 2) := by decide +kernel
theorem dX10_of_0 : decode cX10_of 0 = .ok (.iconst 0, 1) := by decide +kernel
theorem dX10_of_1 : decode cX10_of 1 = .ok (.istore_n 1, 1) := by decide +kernel
theorem dX10_of_2 : decode cX10_of 2 = .ok (.iconst 0, 1) := by decide +kernel
theorem dX10_of_3 : decode cX10_of 3 = .ok (.istore_n 2, 1) := by decide +kernel
theorem dX10_of_4 : decode cX10_of 4 = .ok (.iload_n 2, 1) := by decide +kernel
theorem dX10_of_5 : decode cX10_of 5 = .ok (.aload_n 0, 1) := by decide +kernel
theorem dX10_of_6 : decode cX10_of 6 = .ok (.invokevirtual 122, 3) := by decide +kernel
theorem dX10_of_9 : decode cX10_of 9 = .ok (.if_icmp .ge 22, 3) := by decide +kernel
theorem dX10_of_31 : decode cX10_of 31 = .ok (.iload_n 1, 1) := by decide +kernel
theorem dX10_of_32 : decode cX10_of 32 = .ok (.ireturn, 1) := by decide +kernel
theorem dX10_of_12 : decode cX10_of 12 = .ok (.iload_n 1, 1) := by decide +kernel
theorem dX10_of_13 : decode cX10_of 13 = .ok (.iconst 5, 1) := by decide +kernel
theorem dX10_of_14 : decode cX10_of 14 = .ok (.ishl, 1) := by decide +kernel
theorem dX10_of_15 : decode cX10_of 15 = .ok (.aload_n 0, 1) := by decide +kernel
theorem dX10_of_16 : decode cX10_of 16 = .ok (.iload_n 2, 1) := by decide +kernel
theorem dX10_of_17 : decode cX10_of 17 = .ok (.invokevirtual 127, 3) := by decide +kernel
theorem dX10_of_20 : decode cX10_of 20 = .ok (.bipush 96, 2) := by decide +kernel
theorem dX10_of_22 : decode cX10_of 22 = .ok (.isub, 1) := by decide +kernel
theorem dX10_of_23 : decode cX10_of 23 = .ok (.ior, 1) := by decide +kernel
theorem dX10_of_24 : decode cX10_of 24 = .ok (.istore_n 1, 1) := by decide +kernel
theorem dX10_of_25 : decode cX10_of 25 = .ok (.iinc 2 1, 3) := by decide +kernel
theorem dX10_of_28 : decode cX10_of 28 = .ok (.goto (-24), 3) := by decide +kernel
theorem dX10_isRow_3 : decode cX10_isRow 3 = .ok (.invokestatic 189, 3) := by decide +kernel
theorem dX10_isRow_6 : decode cX10_isRow 6 = .ok (.if_icmp .eq 30, 3) := by decide +kernel
theorem dX10_isRow_36 : decode cX10_isRow 36 = .ok (.iconst 1, 1) := by decide +kernel
theorem dX10_isRow_37 : decode cX10_isRow 37 = .ok (.goto 4, 3) := by decide +kernel
theorem dX10_isRow_41 : decode cX10_isRow 41 = .ok (.ireturn, 1) := by decide +kernel
theorem dX10_isRow_9 : decode cX10_isRow 9 = .ok (.iload_n 0, 1) := by decide +kernel
theorem dX10_isRow_10 : decode cX10_isRow 10 = .ok (.ldc 193, 2) := by decide +kernel
theorem dX10_isRow_12 : decode cX10_isRow 12 = .ok (.invokestatic 189, 3) := by decide +kernel
theorem dX10_isRow_15 : decode cX10_isRow 15 = .ok (.if_icmp .eq 21, 3) := by decide +kernel
theorem dX10_isRow_18 : decode cX10_isRow 18 = .ok (.iload_n 0, 1) := by decide +kernel
theorem dX10_isRow_19 : decode cX10_isRow 19 = .ok (.ldc 194, 2) := by decide +kernel
theorem dX10_isRow_21 : decode cX10_isRow 21 = .ok (.invokestatic 189, 3) := by decide +kernel
theorem dX10_isRow_24 : decode cX10_isRow 24 = .ok (.if_icmp .eq 12, 3) := by decide +kernel
theorem dX10_isRow_27 : decode cX10_isRow 27 = .ok (.iload_n 0, 1) := by decide +kernel
theorem dX10_isRow_28 : decode cX10_isRow 28 = .ok (.ldc 195, 2) := by decide +kernel
theorem dX10_isRow_30 : decode cX10_isRow 30 = .ok (.invokestatic 189, 3) := by decide +kernel
theorem dX10_isRow_33 : decode cX10_isRow 33 = .ok (.if_icmp .ne 7, 3) := by decide +kernel
theorem dX10_isRow_40 : decode cX10_isRow 40 = .ok (.iconst 0, 1) := by decide +kernel
theorem dX10_valley_64 : decode cX10_valley 64 = .ok (.invokestatic 214, 3) := by decide +kernel
theorem dX10_valley_67 : decode cX10_valley 67 = .ok (.ifCond .ne 15, 3) := by decide +kernel
theorem dX10_valley_82 : decode cX10_valley 82 = .ok (.iload_n 2, 1) := by decide +kernel
theorem dX10_valley_83 : decode cX10_valley 83 = .ok (.bipush 60, 2) := by decide +kernel
theorem dX10_valley_85 : decode cX10_valley 85 = .ok (.if_icmp .eq 11, 3) := by decide +kernel
theorem dX10_valley_88 : decode cX10_valley 88 = .ok (.aload_n 0, 1) := by decide +kernel
theorem dX10_valley_89 : decode cX10_valley 89 = .ok (.iload_n 3, 1) := by decide +kernel
theorem dX10_isFull_0 : decode cX10_isFull 0 = .ok (.iload_n 1, 1) := by decide +kernel
theorem dX10_isFull_1 : decode cX10_isFull 1 = .ok (.ldc 188, 2) := by decide +kernel
theorem dX10_isFull_3 : decode cX10_isFull 3 = .ok (.invokestatic 189, 3) := by decide +kernel
theorem dX10_isFull_6 : decode cX10_isFull 6 = .ok (.if_icmp .ne 20, 3) := by decide +kernel
theorem dX10_isFull_26 : decode cX10_isFull 26 = .ok (.iload_n 1, 1) := by decide +kernel
theorem dX10_isFull_27 : decode cX10_isFull 27 = .ok (.ldc 193, 2) := by decide +kernel
theorem dX10_isFull_29 : decode cX10_isFull 29 = .ok (.invokestatic 189, 3) := by decide +kernel
theorem dX10_isFull_32 : decode cX10_isFull 32 = .ok (.if_icmp .ne 20, 3) := by decide +kernel
theorem dX10_isFull_52 : decode cX10_isFull 52 = .ok (.iload_n 1, 1) := by decide +kernel
theorem dX10_isFull_53 : decode cX10_isFull 53 = .ok (.ldc 194, 2) := by decide +kernel
theorem dX10_isFull_55 : decode cX10_isFull 55 = .ok (.invokestatic 189, 3) := by decide +kernel
theorem dX10_isFull_58 : decode cX10_isFull 58 = .ok (.if_icmp .ne 16, 3) := by decide +kernel
theorem dX10_isFull_74 : decode cX10_isFull 74 = .ok (.iconst 0, 1) := by decide +kernel
theorem dX10_isFull_75 : decode cX10_isFull 75 = .ok (.ireturn, 1) := by decide +kernel
theorem dX10_isFull_61 : decode cX10_isFull 61 = .ok (.aload_n 0, 1) := by decide +kernel
theorem dX10_isFull_62 : decode cX10_isFull 62 = .ok (.getfield 151, 3) := by decide +kernel
theorem dX10_isFull_65 : decode cX10_isFull 65 = .ok (.bipush 10, 2) := by decide +kernel
theorem dX10_isFull_67 : decode cX10_isFull 67 = .ok (.if_icmp .ne 7, 3) := by decide +kernel
theorem dX10_isFull_70 : decode cX10_isFull 70 = .ok (.iconst 1, 1) := by decide +kernel
theorem dX10_isFull_71 : decode cX10_isFull 71 = .ok (.goto 4, 3) := by decide +kernel
theorem dX10_isFull_35 : decode cX10_isFull 35 = .ok (.aload_n 0, 1) := by decide +kernel
theorem dX10_isFull_36 : decode cX10_isFull 36 = .ok (.getfield 148, 3) := by decide +kernel
theorem dX10_isFull_39 : decode cX10_isFull 39 = .ok (.bipush 6, 2) := by decide +kernel
theorem dX10_isFull_41 : decode cX10_isFull 41 = .ok (.if_icmp .ne 7, 3) := by decide +kernel
theorem dX10_isFull_48 : decode cX10_isFull 48 = .ok (.iconst 0, 1) := by decide +kernel
theorem dX10_isFull_49 : decode cX10_isFull 49 = .ok (.goto 26, 3) := by decide +kernel
theorem dX10_isFull_44 : decode cX10_isFull 44 = .ok (.iconst 1, 1) := by decide +kernel
theorem dX10_isFull_45 : decode cX10_isFull 45 = .ok (.goto 30, 3) := by decide +kernel
theorem dX10_isFull_9 : decode cX10_isFull 9 = .ok (.aload_n 0, 1) := by decide +kernel
theorem dX10_isFull_10 : decode cX10_isFull 10 = .ok (.getfield 145, 3) := by decide +kernel
theorem dX10_isFull_13 : decode cX10_isFull 13 = .ok (.bipush 8, 2) := by decide +kernel
theorem dX10_isFull_15 : decode cX10_isFull 15 = .ok (.if_icmp .ne 7, 3) := by decide +kernel
theorem dX10_isFull_22 : decode cX10_isFull 22 = .ok (.iconst 0, 1) := by decide +kernel
theorem dX10_isFull_23 : decode cX10_isFull 23 = .ok (.goto 52, 3) := by decide +kernel
theorem dX10_isFull_18 : decode cX10_isFull 18 = .ok (.iconst 1, 1) := by decide +kernel
theorem dX10_isFull_19 : decode cX10_isFull 19 = .ok (.goto 56, 3) := by decide +kernel
theorem dX10_valley_90 : decode cX10_valley 90 = .ok (.invokevirtual 217, 3) := by decide +kernel
theorem dX10_valley_93 : decode cX10_valley 93 = .ok (.ifCond .eq 12, 3) := by decide +kernel
theorem dX10_valley_70 : decode cX10_valley 70 = .ok (.aload_n 0, 1) := by decide +kernel
theorem dX10_valley_71 : decode cX10_valley 71 = .ok (.iconst 1, 1) := by decide +kernel
theorem dX10_valley_72 : decode cX10_valley 72 = .ok (.aload_n 0, 1) := by decide +kernel
theorem dX10_valley_73 : decode cX10_valley 73 = .ok (.getfield 108, 3) := by decide +kernel
theorem dX10_wrong_0 : decode cX10_wrong 0 = .ok (.aload_n 0, 1) := by decide +kernel
theorem dX10_wrong_1 : decode cX10_wrong 1 = .ok (.getfield 102, 3) := by decide +kernel
theorem dX10_wrong_4 : decode cX10_wrong 4 = .ok (.iconst (-1), 1) := by decide +kernel
theorem dX10_wrong_5 : decode cX10_wrong 5 = .ok (.if_icmp .eq 4, 3) := by decide +kernel
theorem dX10_wrong_9 : decode cX10_wrong 9 = .ok (.aload_n 0, 1) := by decide +kernel
theorem dX10_wrong_10 : decode cX10_wrong 10 = .ok (.iload_n 2, 1) := by decide +kernel
theorem dX10_wrong_11 : decode cX10_wrong 11 = .ok (.putfield 102, 3) := by decide +kernel
theorem dX10_wrong_14 : decode cX10_wrong 14 = .ok (.aload_n 0, 1) := by decide +kernel
theorem dX10_wrong_15 : decode cX10_wrong 15 = .ok (.iload_n 1, 1) := by decide +kernel
theorem dX10_wrong_16 : decode cX10_wrong 16 = .ok (.putfield 105, 3) := by decide +kernel
theorem dX10_wrong_19 : decode cX10_wrong 19 = .ok (.return_, 1) := by decide +kernel
theorem dX10_wrong_8 : decode cX10_wrong 8 = .ok (.return_, 1) := by decide +kernel
theorem dX10_valley_76 : decode cX10_valley 76 = .ok (.invokevirtual 138, 3) := by decide +kernel
theorem dX10_valley_79 : decode cX10_valley 79 = .ok (.goto 26, 3) := by decide +kernel
theorem dX10_valley_136 : decode cX10_valley 136 = .ok (.aload_n 0, 1) := by decide +kernel
theorem dX10_valley_137 : decode cX10_valley 137 = .ok (.aload_n 0, 1) := by decide +kernel
theorem dX10_valley_138 : decode cX10_valley 138 = .ok (.getfield 151, 3) := by decide +kernel
theorem dX10_result_0 : decode cX10_result 0 = .ok (.aload_n 0, 1) := by decide +kernel
theorem dX10_result_1 : decode cX10_result 1 = .ok (.aload_n 0, 1) := by decide +kernel
theorem dX10_result_2 : decode cX10_result 2 = .ok (.getfield 102, 3) := by decide +kernel
theorem dX10_result_5 : decode cX10_result 5 = .ok (.putfield 17, 3) := by decide +kernel
theorem dX10_result_8 : decode cX10_result 8 = .ok (.aload_n 0, 1) := by decide +kernel
theorem dX10_result_9 : decode cX10_result 9 = .ok (.invokevirtual 131, 3) := by decide +kernel
theorem dX10_result_12 : decode cX10_result 12 = .ok (.ifCond .eq 7, 3) := by decide +kernel
theorem dX10_result_19 : decode cX10_result 19 = .ok (.aload_n 0, 1) := by decide +kernel
theorem dX10_result_20 : decode cX10_result 20 = .ok (.getfield 105, 3) := by decide +kernel
theorem dX10_result_23 : decode cX10_result 23 = .ok (.bipush 10, 2) := by decide +kernel
theorem dX10_result_25 : decode cX10_result 25 = .ok (.isub, 1) := by decide +kernel
theorem dX10_result_26 : decode cX10_result 26 = .ok (.ireturn, 1) := by decide +kernel
theorem dX10_result_15 : decode cX10_result 15 = .ok (.iload_n 1, 1) := by decide +kernel
theorem dX10_result_16 : decode cX10_result 16 = .ok (.goto 10, 3) := by decide +kernel
theorem dX10_valley_141 : decode cX10_valley 141 = .ok (.invokevirtual 229, 3) := by decide +kernel
theorem dX10_valley_144 : decode cX10_valley 144 = .ok (.istore_n 3, 1) := by decide +kernel
theorem dX10_valley_145 : decode cX10_valley 145 = .ok (.aload_n 0, 1) := by decide +kernel
theorem dX10_valley_146 : decode cX10_valley 146 = .ok (.getfield 102, 3) := by decide +kernel
theorem dX10_valley_149 : decode cX10_valley 149 = .ok (.iconst (-1), 1) := by decide +kernel
theorem dX10_valley_150 : decode cX10_valley 150 = .ok (.if_icmp .ne 7, 3) := by decide +kernel
theorem dX10_valley_157 : decode cX10_valley 157 = .ok (.iload_n 3, 1) := by decide +kernel
theorem dX10_valley_158 : decode cX10_valley 158 = .ok (.ireturn, 1) := by decide +kernel
theorem dX10_valley_153 : decode cX10_valley 153 = .ok (.aload_n 0, 1) := by decide +kernel
theorem dX10_sets_0 : decode cX10_sets 0 = .ok (.aload_n 0, 1) := by decide +kernel
theorem dX10_sets_1 : decode cX10_sets 1 = .ok (.aload_n 0, 1) := by decide +kernel
theorem dX10_sets_2 : decode cX10_sets 2 = .ok (.getfield 145, 3) := by decide +kernel
theorem dX10_sets_5 : decode cX10_sets 5 = .ok (.putfield 157, 3) := by decide +kernel
theorem dX10_sets_8 : decode cX10_sets 8 = .ok (.aload_n 0, 1) := by decide +kernel
theorem dX10_sets_9 : decode cX10_sets 9 = .ok (.aload_n 0, 1) := by decide +kernel
theorem dX10_sets_10 : decode cX10_sets 10 = .ok (.getfield 148, 3) := by decide +kernel
theorem dX10_sets_13 : decode cX10_sets 13 = .ok (.putfield 160, 3) := by decide +kernel
theorem dX10_sets_16 : decode cX10_sets 16 = .ok (.aload_n 0, 1) := by decide +kernel
theorem dX10_sets_17 : decode cX10_sets 17 = .ok (.aload_n 0, 1) := by decide +kernel
theorem dX10_sets_18 : decode cX10_sets 18 = .ok (.getfield 151, 3) := by decide +kernel
theorem dX10_sets_21 : decode cX10_sets 21 = .ok (.putfield 163, 3) := by decide +kernel
theorem dX10_sets_24 : decode cX10_sets 24 = .ok (.aload_n 0, 1) := by decide +kernel
theorem dX10_sets_25 : decode cX10_sets 25 = .ok (.aload_n 0, 1) := by decide +kernel
theorem dX10_sets_26 : decode cX10_sets 26 = .ok (.getfield 154, 3) := by decide +kernel
theorem dX10_sets_29 : decode cX10_sets 29 = .ok (.putfield 166, 3) := by decide +kernel
theorem dX10_sets_32 : decode cX10_sets 32 = .ok (.aload_n 0, 1) := by decide +kernel
theorem dX10_sets_33 : decode cX10_sets 33 = .ok (.aload_n 0, 1) := by decide +kernel
theorem dX10_sets_34 : decode cX10_sets 34 = .ok (.getfield 23, 3) := by decide +kernel
theorem dX10_sets_37 : decode cX10_sets 37 = .ok (.aload_n 0, 1) := by decide +kernel
theorem dX10_sets_38 : decode cX10_sets 38 = .ok (.getfield 32, 3) := by decide +kernel
theorem dX10_sets_41 : decode cX10_sets 41 = .ok (.bipush 16, 2) := by decide +kernel
theorem dX10_copies_0 : decode cX10_copies 0 = .ok (.iconst 0, 1) := by decide +kernel
theorem dX10_copies_1 : decode cX10_copies 1 = .ok (.istore 4, 2) := by decide +kernel
theorem dX10_copies_3 : decode cX10_copies 3 = .ok (.iload 4, 2) := by decide +kernel
theorem dX10_copies_5 : decode cX10_copies 5 = .ok (.iload_n 3, 1) := by decide +kernel
theorem dX10_copies_6 : decode cX10_copies 6 = .ok (.if_icmp .ge 17, 3) := by decide +kernel
theorem dX10_copies_23 : decode cX10_copies 23 = .ok (.return_, 1) := by decide +kernel
theorem dX10_copies_9 : decode cX10_copies 9 = .ok (.aload_n 2, 1) := by decide +kernel
theorem dX10_copies_10 : decode cX10_copies 10 = .ok (.iload 4, 2) := by decide +kernel
theorem dX10_copies_12 : decode cX10_copies 12 = .ok (.aload_n 1, 1) := by decide +kernel
theorem dX10_copies_13 : decode cX10_copies 13 = .ok (.iload 4, 2) := by decide +kernel
theorem dX10_copies_15 : decode cX10_copies 15 = .ok (.iaload, 1) := by decide +kernel
theorem dX10_copies_16 : decode cX10_copies 16 = .ok (.iastore, 1) := by decide +kernel
theorem dX10_copies_17 : decode cX10_copies 17 = .ok (.iinc 4 1, 3) := by decide +kernel
theorem dX10_copies_20 : decode cX10_copies 20 = .ok (.goto (-17), 3) := by decide +kernel
theorem dX10_sets_43 : decode cX10_sets 43 = .ok (.invokevirtual 169, 3) := by decide +kernel
theorem dX10_sets_46 : decode cX10_sets 46 = .ok (.aload_n 0, 1) := by decide +kernel
theorem dX10_sets_47 : decode cX10_sets 47 = .ok (.aload_n 0, 1) := by decide +kernel
theorem dX10_sets_48 : decode cX10_sets 48 = .ok (.getfield 26, 3) := by decide +kernel
theorem dX10_sets_51 : decode cX10_sets 51 = .ok (.aload_n 0, 1) := by decide +kernel
theorem dX10_sets_52 : decode cX10_sets 52 = .ok (.getfield 35, 3) := by decide +kernel
theorem dX10_sets_55 : decode cX10_sets 55 = .ok (.bipush 12, 2) := by decide +kernel
theorem dX10_sets_57 : decode cX10_sets 57 = .ok (.invokevirtual 169, 3) := by decide +kernel
theorem dX10_sets_60 : decode cX10_sets 60 = .ok (.aload_n 0, 1) := by decide +kernel
theorem dX10_sets_61 : decode cX10_sets 61 = .ok (.aload_n 0, 1) := by decide +kernel
theorem dX10_sets_62 : decode cX10_sets 62 = .ok (.getfield 29, 3) := by decide +kernel
theorem dX10_sets_65 : decode cX10_sets 65 = .ok (.aload_n 0, 1) := by decide +kernel
theorem dX10_sets_66 : decode cX10_sets 66 = .ok (.getfield 38, 3) := by decide +kernel
theorem dX10_sets_69 : decode cX10_sets 69 = .ok (.bipush 40, 2) := by decide +kernel
theorem dX10_sets_71 : decode cX10_sets 71 = .ok (.invokevirtual 169, 3) := by decide +kernel
theorem dX10_sets_74 : decode cX10_sets 74 = .ok (.aload_n 0, 1) := by decide +kernel
theorem dX10_sets_75 : decode cX10_sets 75 = .ok (.iconst 0, 1) := by decide +kernel
theorem dX10_sets_76 : decode cX10_sets 76 = .ok (.putfield 173, 3) := by decide +kernel
theorem dX10_sets_79 : decode cX10_sets 79 = .ok (.aload_n 0, 1) := by decide +kernel
theorem dX10_sets_80 : decode cX10_sets 80 = .ok (.iconst 0, 1) := by decide +kernel
theorem dX10_sets_81 : decode cX10_sets 81 = .ok (.putfield 176, 3) := by decide +kernel
theorem dX10_sets_84 : decode cX10_sets 84 = .ok (.aload_n 0, 1) := by decide +kernel
theorem dX10_sets_85 : decode cX10_sets 85 = .ok (.iconst 0, 1) := by decide +kernel
theorem dX10_sets_86 : decode cX10_sets 86 = .ok (.putfield 179, 3) := by decide +kernel
theorem dX10_sets_89 : decode cX10_sets 89 = .ok (.aload_n 0, 1) := by decide +kernel
theorem dX10_sets_90 : decode cX10_sets 90 = .ok (.iconst 0, 1) := by decide +kernel
theorem dX10_sets_91 : decode cX10_sets 91 = .ok (.putfield 182, 3) := by decide +kernel
theorem dX10_sets_94 : decode cX10_sets 94 = .ok (.aload_n 0, 1) := by decide +kernel
theorem dX10_sets_95 : decode cX10_sets 95 = .ok (.iconst 0, 1) := by decide +kernel
theorem dX10_sets_96 : decode cX10_sets 96 = .ok (.putfield 185, 3) := by decide +kernel
theorem dX10_sets_99 : decode cX10_sets 99 = .ok (.iconst 0, 1) := by decide +kernel
theorem dX10_sets_100 : decode cX10_sets 100 = .ok (.istore_n 1, 1) := by decide +kernel
theorem dX10_sets_101 : decode cX10_sets 101 = .ok (.iload_n 1, 1) := by decide +kernel
theorem dX10_sets_102 : decode cX10_sets 102 = .ok (.bipush 95, 2) := by decide +kernel
theorem dX10_sets_104 : decode cX10_sets 104 = .ok (.if_icmp .ge 16, 3) := by decide +kernel
theorem dX10_sets_120 : decode cX10_sets 120 = .ok (.iconst 0, 1) := by decide +kernel
theorem dX10_sets_121 : decode cX10_sets 121 = .ok (.istore_n 1, 1) := by decide +kernel
theorem dX10_sets_107 : decode cX10_sets 107 = .ok (.aload_n 0, 1) := by decide +kernel
theorem dX10_sets_108 : decode cX10_sets 108 = .ok (.getfield 65, 3) := by decide +kernel
theorem dX10_sets_111 : decode cX10_sets 111 = .ok (.iload_n 1, 1) := by decide +kernel
theorem dX10_sets_112 : decode cX10_sets 112 = .ok (.iconst 0, 1) := by decide +kernel
theorem dX10_sets_113 : decode cX10_sets 113 = .ok (.iastore, 1) := by decide +kernel
theorem dX10_sets_114 : decode cX10_sets 114 = .ok (.iinc 1 1, 3) := by decide +kernel
theorem dX10_sets_117 : decode cX10_sets 117 = .ok (.goto (-16), 3) := by decide +kernel
theorem dX10_sets_122 : decode cX10_sets 122 = .ok (.iload_n 1, 1) := by decide +kernel
theorem dX10_sets_123 : decode cX10_sets 123 = .ok (.aload_n 0, 1) := by decide +kernel
theorem dX10_sets_124 : decode cX10_sets 124 = .ok (.getfield 160, 3) := by decide +kernel
theorem dX10_sets_127 : decode cX10_sets 127 = .ok (.if_icmp .ge 28, 3) := by decide +kernel
theorem dX10_sets_155 : decode cX10_sets 155 = .ok (.return_, 1) := by decide +kernel
theorem dX10_sets_130 : decode cX10_sets 130 = .ok (.aload_n 0, 1) := by decide +kernel
theorem dX10_sets_131 : decode cX10_sets 131 = .ok (.getfield 65, 3) := by decide +kernel
theorem dX10_sets_134 : decode cX10_sets 134 = .ok (.bipush 48, 2) := by decide +kernel
theorem dX10_sets_136 : decode cX10_sets 136 = .ok (.iload_n 1, 1) := by decide +kernel
theorem dX10_sets_137 : decode cX10_sets 137 = .ok (.iadd, 1) := by decide +kernel
theorem dX10_sets_138 : decode cX10_sets 138 = .ok (.aload_n 0, 1) := by decide +kernel
theorem dX10_sets_139 : decode cX10_sets 139 = .ok (.getfield 35, 3) := by decide +kernel
theorem dX10_sets_142 : decode cX10_sets 142 = .ok (.iconst 2, 1) := by decide +kernel
theorem dX10_sets_143 : decode cX10_sets 143 = .ok (.iload_n 1, 1) := by decide +kernel
theorem dX10_sets_144 : decode cX10_sets 144 = .ok (.imul, 1) := by decide +kernel
theorem dX10_sets_145 : decode cX10_sets 145 = .ok (.iconst 1, 1) := by decide +kernel
theorem dX10_sets_146 : decode cX10_sets 146 = .ok (.iadd, 1) := by decide +kernel
theorem dX10_sets_147 : decode cX10_sets 147 = .ok (.iaload, 1) := by decide +kernel
theorem dX10_sets_148 : decode cX10_sets 148 = .ok (.iastore, 1) := by decide +kernel
theorem dX10_sets_149 : decode cX10_sets 149 = .ok (.iinc 1 1, 3) := by decide +kernel
theorem dX10_sets_152 : decode cX10_sets 152 = .ok (.goto (-30), 3) := by decide +kernel
theorem dX10_valley_154 : decode cX10_valley 154 = .ok (.invokevirtual 96, 3) := by decide +kernel
theorem dX10_valley_96 : decode cX10_valley 96 = .ok (.aload_n 0, 1) := by decide +kernel
theorem dX10_valley_97 : decode cX10_valley 97 = .ok (.iconst 3, 1) := by decide +kernel
theorem dX10_valley_98 : decode cX10_valley 98 = .ok (.aload_n 0, 1) := by decide +kernel
theorem dX10_valley_99 : decode cX10_valley 99 = .ok (.getfield 108, 3) := by decide +kernel
theorem dX10_valley_102 : decode cX10_valley 102 = .ok (.invokevirtual 138, 3) := by decide +kernel
theorem dX10_valley_105 : decode cX10_valley 105 = .ok (.aload_n 0, 1) := by decide +kernel
theorem dX10_valley_106 : decode cX10_valley 106 = .ok (.invokevirtual 131, 3) := by decide +kernel
theorem dX10_valley_109 : decode cX10_valley 109 = .ok (.ifCond .ne 6, 3) := by decide +kernel
theorem dX10_valley_115 : decode cX10_valley 115 = .ok (.aload_n 0, 1) := by decide +kernel
theorem dX10_pass_0 : decode cX10_pass 0 = .ok (.aload_n 0, 1) := by decide +kernel
theorem dX10_pass_1 : decode cX10_pass 1 = .ok (.getfield 108, 3) := by decide +kernel
theorem dX10_pass_4 : decode cX10_pass 4 = .ok (.aload_n 0, 1) := by decide +kernel
theorem dX10_pass_5 : decode cX10_pass 5 = .ok (.getfield 111, 3) := by decide +kernel
theorem dX10_pass_8 : decode cX10_pass 8 = .ok (.if_icmp .ge 31, 3) := by decide +kernel
theorem dX10_pass_39 : decode cX10_pass 39 = .ok (.return_, 1) := by decide +kernel
theorem dX10_pass_11 : decode cX10_pass 11 = .ok (.aload_n 0, 1) := by decide +kernel
theorem dX10_pass_12 : decode cX10_pass 12 = .ok (.getfield 20, 3) := by decide +kernel
theorem dX10_pass_15 : decode cX10_pass 15 = .ok (.aload_n 0, 1) := by decide +kernel
theorem dX10_pass_16 : decode cX10_pass 16 = .ok (.getfield 108, 3) := by decide +kernel
theorem dX10_pass_19 : decode cX10_pass 19 = .ok (.iaload, 1) := by decide +kernel
theorem dX10_pass_20 : decode cX10_pass 20 = .ok (.invokestatic 118, 3) := by decide +kernel
theorem dX10_pass_23 : decode cX10_pass 23 = .ok (.ifCond .eq 16, 3) := by decide +kernel
theorem dX10_pass_26 : decode cX10_pass 26 = .ok (.aload_n 0, 1) := by decide +kernel
theorem dX10_pass_27 : decode cX10_pass 27 = .ok (.dup, 1) := by decide +kernel
theorem dX10_pass_28 : decode cX10_pass 28 = .ok (.getfield 108, 3) := by decide +kernel
theorem dX10_pass_31 : decode cX10_pass 31 = .ok (.iconst 1, 1) := by decide +kernel
theorem dX10_pass_32 : decode cX10_pass 32 = .ok (.iadd, 1) := by decide +kernel
theorem dX10_pass_33 : decode cX10_pass 33 = .ok (.putfield 108, 3) := by decide +kernel
theorem dX10_pass_36 : decode cX10_pass 36 = .ok (.goto (-36), 3) := by decide +kernel
theorem dX10_valley_116 : decode cX10_valley 116 = .ok (.invokevirtual 220, 3) := by decide +kernel
theorem dX10_valley_119 : decode cX10_valley 119 = .ok (.aload_n 0, 1) := by decide +kernel
theorem dX10_valley_120 : decode cX10_valley 120 = .ok (.iload_n 3, 1) := by decide +kernel
theorem dX10_readRow_0 : decode cX10_readRow 0 = .ok (.iload_n 1, 1) := by decide +kernel
theorem dX10_readRow_1 : decode cX10_readRow 1 = .ok (.ldc 188, 2) := by decide +kernel
theorem dX10_readRow_3 : decode cX10_readRow 3 = .ok (.invokestatic 189, 3) := by decide +kernel
theorem dX10_readRow_6 : decode cX10_readRow 6 = .ok (.if_icmp .ne 54, 3) := by decide +kernel
theorem dX10_readRow_60 : decode cX10_readRow 60 = .ok (.iload_n 1, 1) := by decide +kernel
theorem dX10_readRow_61 : decode cX10_readRow 61 = .ok (.ldc 193, 2) := by decide +kernel
theorem dX10_readRow_63 : decode cX10_readRow 63 = .ok (.invokestatic 189, 3) := by decide +kernel
theorem dX10_readRow_66 : decode cX10_readRow 66 = .ok (.if_icmp .ne 55, 3) := by decide +kernel
theorem dX10_readRow_121 : decode cX10_readRow 121 = .ok (.iload_n 1, 1) := by decide +kernel
theorem dX10_readRow_122 : decode cX10_readRow 122 = .ok (.ldc 194, 2) := by decide +kernel
theorem dX10_readRow_124 : decode cX10_readRow 124 = .ok (.invokestatic 189, 3) := by decide +kernel
theorem dX10_readRow_127 : decode cX10_readRow 127 = .ok (.if_icmp .ne 101, 3) := by decide +kernel
theorem dX10_readRow_228 : decode cX10_readRow 228 = .ok (.aload_n 0, 1) := by decide +kernel
theorem dX10_readRow_229 : decode cX10_readRow 229 = .ok (.aload_n 0, 1) := by decide +kernel
theorem dX10_readRow_230 : decode cX10_readRow 230 = .ok (.iconst 0, 1) := by decide +kernel
theorem dX10_readRow_231 : decode cX10_readRow 231 = .ok (.bipush 9, 2) := by decide +kernel
theorem dX10_readNumber_0 : decode cX10_readNumber 0 = .ok (.aload_n 0, 1) := by decide +kernel
theorem dX10_readNumber_1 : decode cX10_readNumber 1 = .ok (.invokevirtual 131, 3) := by decide +kernel
theorem dX10_readNumber_4 : decode cX10_readNumber 4 = .ok (.ifCond .ne 5, 3) := by decide +kernel
theorem dX10_readNumber_9 : decode cX10_readNumber 9 = .ok (.aload_n 0, 1) := by decide +kernel
theorem dX10_readNumber_10 : decode cX10_readNumber 10 = .ok (.invokevirtual 114, 3) := by decide +kernel
theorem dX10_readNumber_13 : decode cX10_readNumber 13 = .ok (.istore_n 3, 1) := by decide +kernel
theorem dX10_readNumber_14 : decode cX10_readNumber 14 = .ok (.aload_n 0, 1) := by decide +kernel
theorem dX10_readNumber_15 : decode cX10_readNumber 15 = .ok (.getfield 108, 3) := by decide +kernel
theorem dX10_readNumber_18 : decode cX10_readNumber 18 = .ok (.istore 4, 2) := by decide +kernel
theorem dX10_readNumber_20 : decode cX10_readNumber 20 = .ok (.iconst 0, 1) := by decide +kernel
theorem dX10_readNumber_21 : decode cX10_readNumber 21 = .ok (.istore 5, 2) := by decide +kernel
theorem dX10_readNumber_23 : decode cX10_readNumber 23 = .ok (.iload_n 3, 1) := by decide +kernel
theorem dX10_isDigit_0 : decode cX10_isDigit 0 = .ok (.iload_n 0, 1) := by decide +kernel
theorem dX10_isDigit_1 : decode cX10_isDigit 1 = .ok (.bipush 48, 2) := by decide +kernel
theorem dX10_isDigit_3 : decode cX10_isDigit 3 = .ok (.if_icmp .lt 13, 3) := by decide +kernel
theorem dX10_isDigit_16 : decode cX10_isDigit 16 = .ok (.iconst 0, 1) := by decide +kernel
theorem dX10_isDigit_17 : decode cX10_isDigit 17 = .ok (.ireturn, 1) := by decide +kernel
theorem dX10_isDigit_6 : decode cX10_isDigit 6 = .ok (.iload_n 0, 1) := by decide +kernel
theorem dX10_isDigit_7 : decode cX10_isDigit 7 = .ok (.bipush 57, 2) := by decide +kernel
theorem dX10_isDigit_9 : decode cX10_isDigit 9 = .ok (.if_icmp .gt 7, 3) := by decide +kernel
theorem dX10_isDigit_12 : decode cX10_isDigit 12 = .ok (.iconst 1, 1) := by decide +kernel
theorem dX10_isDigit_13 : decode cX10_isDigit 13 = .ok (.goto 4, 3) := by decide +kernel
theorem dX10_readNumber_24 : decode cX10_readNumber 24 = .ok (.invokestatic 135, 3) := by decide +kernel
theorem dX10_readNumber_27 : decode cX10_readNumber 27 = .ok (.ifCond .ne 14, 3) := by decide +kernel
theorem dX10_readNumber_30 : decode cX10_readNumber 30 = .ok (.aload_n 0, 1) := by decide +kernel
theorem dX10_readNumber_31 : decode cX10_readNumber 31 = .ok (.iconst 1, 1) := by decide +kernel
theorem dX10_readNumber_32 : decode cX10_readNumber 32 = .ok (.aload_n 0, 1) := by decide +kernel
theorem dX10_readNumber_33 : decode cX10_readNumber 33 = .ok (.getfield 108, 3) := by decide +kernel
theorem dX10_readNumber_36 : decode cX10_readNumber 36 = .ok (.invokevirtual 138, 3) := by decide +kernel
theorem dX10_readNumber_39 : decode cX10_readNumber 39 = .ok (.iconst 0, 1) := by decide +kernel
theorem dX10_readNumber_40 : decode cX10_readNumber 40 = .ok (.ireturn, 1) := by decide +kernel
theorem dX10_readNumber_7 : decode cX10_readNumber 7 = .ok (.iconst 0, 1) := by decide +kernel
theorem dX10_readNumber_8 : decode cX10_readNumber 8 = .ok (.ireturn, 1) := by decide +kernel
theorem dX10_readNumber_41 : decode cX10_readNumber 41 = .ok (.aload_n 0, 1) := by decide +kernel
theorem dX10_readNumber_42 : decode cX10_readNumber 42 = .ok (.getfield 108, 3) := by decide +kernel
theorem dX10_readNumber_45 : decode cX10_readNumber 45 = .ok (.aload_n 0, 1) := by decide +kernel
theorem dX10_readNumber_46 : decode cX10_readNumber 46 = .ok (.getfield 111, 3) := by decide +kernel
theorem dX10_readNumber_49 : decode cX10_readNumber 49 = .ok (.if_icmp .ge 65, 3) := by decide +kernel
theorem dX10_readNumber_52 : decode cX10_readNumber 52 = .ok (.aload_n 0, 1) := by decide +kernel
theorem dX10_readNumber_53 : decode cX10_readNumber 53 = .ok (.getfield 20, 3) := by decide +kernel
theorem dX10_readNumber_56 : decode cX10_readNumber 56 = .ok (.aload_n 0, 1) := by decide +kernel
theorem dX10_readNumber_57 : decode cX10_readNumber 57 = .ok (.getfield 108, 3) := by decide +kernel
theorem dX10_readNumber_60 : decode cX10_readNumber 60 = .ok (.iaload, 1) := by decide +kernel
theorem dX10_readNumber_61 : decode cX10_readNumber 61 = .ok (.invokestatic 135, 3) := by decide +kernel
theorem dX10_readNumber_64 : decode cX10_readNumber 64 = .ok (.ifCond .eq 50, 3) := by decide +kernel
theorem dX10_readNumber_67 : decode cX10_readNumber 67 = .ok (.iload 5, 2) := by decide +kernel
theorem dX10_readNumber_69 : decode cX10_readNumber 69 = .ok (.sipush 9999, 3) := by decide +kernel
theorem dX10_readNumber_72 : decode cX10_readNumber 72 = .ok (.if_icmp .le 9, 3) := by decide +kernel
theorem dX10_readNumber_81 : decode cX10_readNumber 81 = .ok (.bipush 10, 2) := by decide +kernel
theorem dX10_readNumber_83 : decode cX10_readNumber 83 = .ok (.iload 5, 2) := by decide +kernel
theorem dX10_readNumber_85 : decode cX10_readNumber 85 = .ok (.imul, 1) := by decide +kernel
theorem dX10_readNumber_86 : decode cX10_readNumber 86 = .ok (.aload_n 0, 1) := by decide +kernel
theorem dX10_readNumber_87 : decode cX10_readNumber 87 = .ok (.getfield 20, 3) := by decide +kernel
theorem dX10_readNumber_90 : decode cX10_readNumber 90 = .ok (.aload_n 0, 1) := by decide +kernel
theorem dX10_readNumber_91 : decode cX10_readNumber 91 = .ok (.getfield 108, 3) := by decide +kernel
theorem dX10_readNumber_94 : decode cX10_readNumber 94 = .ok (.iaload, 1) := by decide +kernel
theorem dX10_readNumber_95 : decode cX10_readNumber 95 = .ok (.iadd, 1) := by decide +kernel
theorem dX10_readNumber_96 : decode cX10_readNumber 96 = .ok (.bipush 48, 2) := by decide +kernel
theorem dX10_readNumber_98 : decode cX10_readNumber 98 = .ok (.isub, 1) := by decide +kernel
theorem dX10_readNumber_75 : decode cX10_readNumber 75 = .ok (.sipush 10000, 3) := by decide +kernel
theorem dX10_readNumber_78 : decode cX10_readNumber 78 = .ok (.goto 21, 3) := by decide +kernel
theorem dX10_readNumber_114 : decode cX10_readNumber 114 = .ok (.iload 5, 2) := by decide +kernel
theorem dX10_readNumber_116 : decode cX10_readNumber 116 = .ok (.iload_n 1, 1) := by decide +kernel
theorem dX10_readNumber_117 : decode cX10_readNumber 117 = .ok (.if_icmp .lt 9, 3) := by decide +kernel
theorem dX10_readNumber_120 : decode cX10_readNumber 120 = .ok (.iload 5, 2) := by decide +kernel
theorem dX10_readNumber_122 : decode cX10_readNumber 122 = .ok (.iload_n 2, 1) := by decide +kernel
theorem dX10_readNumber_123 : decode cX10_readNumber 123 = .ok (.if_icmp .le 12, 3) := by decide +kernel
theorem dX10_readNumber_135 : decode cX10_readNumber 135 = .ok (.iload 5, 2) := by decide +kernel
theorem dX10_readNumber_137 : decode cX10_readNumber 137 = .ok (.ireturn, 1) := by decide +kernel
theorem dX10_readNumber_99 : decode cX10_readNumber 99 = .ok (.istore 5, 2) := by decide +kernel
theorem dX10_readNumber_101 : decode cX10_readNumber 101 = .ok (.aload_n 0, 1) := by decide +kernel
theorem dX10_readNumber_102 : decode cX10_readNumber 102 = .ok (.dup, 1) := by decide +kernel
theorem dX10_readNumber_103 : decode cX10_readNumber 103 = .ok (.getfield 108, 3) := by decide +kernel
theorem dX10_readNumber_106 : decode cX10_readNumber 106 = .ok (.iconst 1, 1) := by decide +kernel
theorem dX10_readNumber_107 : decode cX10_readNumber 107 = .ok (.iadd, 1) := by decide +kernel
theorem dX10_readNumber_108 : decode cX10_readNumber 108 = .ok (.putfield 108, 3) := by decide +kernel
theorem dX10_readNumber_111 : decode cX10_readNumber 111 = .ok (.goto (-70), 3) := by decide +kernel
theorem dX10_readNumber_126 : decode cX10_readNumber 126 = .ok (.aload_n 0, 1) := by decide +kernel
theorem dX10_readNumber_127 : decode cX10_readNumber 127 = .ok (.iconst 2, 1) := by decide +kernel
theorem dX10_readNumber_128 : decode cX10_readNumber 128 = .ok (.iload 4, 2) := by decide +kernel
theorem dX10_readNumber_130 : decode cX10_readNumber 130 = .ok (.invokevirtual 138, 3) := by decide +kernel
theorem dX10_readNumber_133 : decode cX10_readNumber 133 = .ok (.iconst 0, 1) := by decide +kernel
theorem dX10_readNumber_134 : decode cX10_readNumber 134 = .ok (.ireturn, 1) := by decide +kernel
theorem dX10_readRow_233 : decode cX10_readRow 233 = .ok (.invokevirtual 196, 3) := by decide +kernel
theorem dX10_readRow_236 : decode cX10_readRow 236 = .ok (.putfield 154, 3) := by decide +kernel
theorem dX10_readRow_239 : decode cX10_readRow 239 = .ok (.return_, 1) := by decide +kernel
theorem dX10_readRow_130 : decode cX10_readRow 130 = .ok (.aload_n 0, 1) := by decide +kernel
theorem dX10_readRow_131 : decode cX10_readRow 131 = .ok (.getfield 29, 3) := by decide +kernel
theorem dX10_readRow_134 : decode cX10_readRow 134 = .ok (.iconst 4, 1) := by decide +kernel
theorem dX10_readRow_135 : decode cX10_readRow 135 = .ok (.aload_n 0, 1) := by decide +kernel
theorem dX10_readRow_136 : decode cX10_readRow 136 = .ok (.getfield 151, 3) := by decide +kernel
theorem dX10_readRow_139 : decode cX10_readRow 139 = .ok (.imul, 1) := by decide +kernel
theorem dX10_readRow_140 : decode cX10_readRow 140 = .ok (.aload_n 0, 1) := by decide +kernel
theorem dX10_readRow_141 : decode cX10_readRow 141 = .ok (.iconst 0, 1) := by decide +kernel
theorem dX10_readRow_142 : decode cX10_readRow 142 = .ok (.aload_n 0, 1) := by decide +kernel
theorem dX10_readRow_143 : decode cX10_readRow 143 = .ok (.getfield 148, 3) := by decide +kernel
theorem dX10_readRow_146 : decode cX10_readRow 146 = .ok (.iconst 1, 1) := by decide +kernel
theorem dX10_readRow_147 : decode cX10_readRow 147 = .ok (.isub, 1) := by decide +kernel
theorem dX10_readRow_148 : decode cX10_readRow 148 = .ok (.invokevirtual 196, 3) := by decide +kernel
theorem dX10_readRow_151 : decode cX10_readRow 151 = .ok (.iastore, 1) := by decide +kernel
theorem dX10_readRow_152 : decode cX10_readRow 152 = .ok (.aload_n 0, 1) := by decide +kernel
theorem dX10_readRow_153 : decode cX10_readRow 153 = .ok (.getfield 29, 3) := by decide +kernel
theorem dX10_readRow_156 : decode cX10_readRow 156 = .ok (.iconst 4, 1) := by decide +kernel
theorem dX10_readRow_157 : decode cX10_readRow 157 = .ok (.aload_n 0, 1) := by decide +kernel
theorem dX10_readRow_158 : decode cX10_readRow 158 = .ok (.getfield 151, 3) := by decide +kernel
theorem dX10_readRow_161 : decode cX10_readRow 161 = .ok (.imul, 1) := by decide +kernel
theorem dX10_readRow_162 : decode cX10_readRow 162 = .ok (.iconst 1, 1) := by decide +kernel
theorem dX10_readRow_163 : decode cX10_readRow 163 = .ok (.iadd, 1) := by decide +kernel
theorem dX10_readRow_164 : decode cX10_readRow 164 = .ok (.aload_n 0, 1) := by decide +kernel
theorem dX10_readRow_165 : decode cX10_readRow 165 = .ok (.iconst 0, 1) := by decide +kernel
theorem dX10_readRow_166 : decode cX10_readRow 166 = .ok (.aload_n 0, 1) := by decide +kernel
theorem dX10_readRow_167 : decode cX10_readRow 167 = .ok (.getfield 145, 3) := by decide +kernel
theorem dX10_readRow_170 : decode cX10_readRow 170 = .ok (.iconst 1, 1) := by decide +kernel
theorem dX10_readRow_171 : decode cX10_readRow 171 = .ok (.isub, 1) := by decide +kernel
theorem dX10_readRow_172 : decode cX10_readRow 172 = .ok (.invokevirtual 196, 3) := by decide +kernel
theorem dX10_readRow_175 : decode cX10_readRow 175 = .ok (.iastore, 1) := by decide +kernel
theorem dX10_readRow_176 : decode cX10_readRow 176 = .ok (.aload_n 0, 1) := by decide +kernel
theorem dX10_readRow_177 : decode cX10_readRow 177 = .ok (.getfield 29, 3) := by decide +kernel
theorem dX10_readRow_180 : decode cX10_readRow 180 = .ok (.iconst 4, 1) := by decide +kernel
theorem dX10_readRow_181 : decode cX10_readRow 181 = .ok (.aload_n 0, 1) := by decide +kernel
theorem dX10_readRow_182 : decode cX10_readRow 182 = .ok (.getfield 151, 3) := by decide +kernel
theorem dX10_readRow_185 : decode cX10_readRow 185 = .ok (.imul, 1) := by decide +kernel
theorem dX10_readRow_186 : decode cX10_readRow 186 = .ok (.iconst 2, 1) := by decide +kernel
theorem dX10_readRow_187 : decode cX10_readRow 187 = .ok (.iadd, 1) := by decide +kernel
theorem dX10_readRow_188 : decode cX10_readRow 188 = .ok (.aload_n 0, 1) := by decide +kernel
theorem dX10_readRow_189 : decode cX10_readRow 189 = .ok (.iconst 0, 1) := by decide +kernel
theorem dX10_readRow_190 : decode cX10_readRow 190 = .ok (.iconst 3, 1) := by decide +kernel
theorem dX10_readRow_191 : decode cX10_readRow 191 = .ok (.invokevirtual 196, 3) := by decide +kernel
theorem dX10_readRow_194 : decode cX10_readRow 194 = .ok (.iastore, 1) := by decide +kernel
theorem dX10_readRow_195 : decode cX10_readRow 195 = .ok (.aload_n 0, 1) := by decide +kernel
theorem dX10_readRow_196 : decode cX10_readRow 196 = .ok (.getfield 29, 3) := by decide +kernel
theorem dX10_readRow_199 : decode cX10_readRow 199 = .ok (.iconst 4, 1) := by decide +kernel
theorem dX10_readRow_200 : decode cX10_readRow 200 = .ok (.aload_n 0, 1) := by decide +kernel
theorem dX10_readRow_201 : decode cX10_readRow 201 = .ok (.getfield 151, 3) := by decide +kernel
theorem dX10_readRow_204 : decode cX10_readRow 204 = .ok (.imul, 1) := by decide +kernel
theorem dX10_readRow_205 : decode cX10_readRow 205 = .ok (.iconst 3, 1) := by decide +kernel
theorem dX10_readRow_206 : decode cX10_readRow 206 = .ok (.iadd, 1) := by decide +kernel
theorem dX10_readRow_207 : decode cX10_readRow 207 = .ok (.aload_n 0, 1) := by decide +kernel
theorem dX10_readRow_208 : decode cX10_readRow 208 = .ok (.iconst 0, 1) := by decide +kernel
theorem dX10_readRow_209 : decode cX10_readRow 209 = .ok (.bipush 40, 2) := by decide +kernel
theorem dX10_readRow_211 : decode cX10_readRow 211 = .ok (.invokevirtual 196, 3) := by decide +kernel
theorem dX10_readRow_214 : decode cX10_readRow 214 = .ok (.iastore, 1) := by decide +kernel
theorem dX10_readRow_215 : decode cX10_readRow 215 = .ok (.aload_n 0, 1) := by decide +kernel
theorem dX10_readRow_216 : decode cX10_readRow 216 = .ok (.dup, 1) := by decide +kernel
theorem dX10_readRow_217 : decode cX10_readRow 217 = .ok (.getfield 151, 3) := by decide +kernel
theorem dX10_readRow_220 : decode cX10_readRow 220 = .ok (.iconst 1, 1) := by decide +kernel
theorem dX10_readRow_221 : decode cX10_readRow 221 = .ok (.iadd, 1) := by decide +kernel
theorem dX10_readRow_222 : decode cX10_readRow 222 = .ok (.putfield 151, 3) := by decide +kernel
theorem dX10_readRow_225 : decode cX10_readRow 225 = .ok (.goto 14, 3) := by decide +kernel
theorem dX10_readRow_69 : decode cX10_readRow 69 = .ok (.aload_n 0, 1) := by decide +kernel
theorem dX10_readRow_70 : decode cX10_readRow 70 = .ok (.getfield 26, 3) := by decide +kernel
theorem dX10_readRow_73 : decode cX10_readRow 73 = .ok (.iconst 2, 1) := by decide +kernel
theorem dX10_readRow_74 : decode cX10_readRow 74 = .ok (.aload_n 0, 1) := by decide +kernel
theorem dX10_readRow_75 : decode cX10_readRow 75 = .ok (.getfield 148, 3) := by decide +kernel
theorem dX10_readRow_78 : decode cX10_readRow 78 = .ok (.imul, 1) := by decide +kernel
theorem dX10_readRow_79 : decode cX10_readRow 79 = .ok (.aload_n 0, 1) := by decide +kernel
theorem dX10_readRow_80 : decode cX10_readRow 80 = .ok (.iconst 1, 1) := by decide +kernel
theorem dX10_readRow_81 : decode cX10_readRow 81 = .ok (.bipush 99, 2) := by decide +kernel
theorem dX10_readRow_83 : decode cX10_readRow 83 = .ok (.invokevirtual 196, 3) := by decide +kernel
theorem dX10_readRow_86 : decode cX10_readRow 86 = .ok (.iastore, 1) := by decide +kernel
theorem dX10_readRow_87 : decode cX10_readRow 87 = .ok (.aload_n 0, 1) := by decide +kernel
theorem dX10_readRow_88 : decode cX10_readRow 88 = .ok (.getfield 26, 3) := by decide +kernel
theorem dX10_readRow_91 : decode cX10_readRow 91 = .ok (.iconst 2, 1) := by decide +kernel
theorem dX10_readRow_92 : decode cX10_readRow 92 = .ok (.aload_n 0, 1) := by decide +kernel
theorem dX10_readRow_93 : decode cX10_readRow 93 = .ok (.getfield 148, 3) := by decide +kernel
theorem dX10_readRow_96 : decode cX10_readRow 96 = .ok (.imul, 1) := by decide +kernel
theorem dX10_readRow_97 : decode cX10_readRow 97 = .ok (.iconst 1, 1) := by decide +kernel
theorem dX10_readRow_98 : decode cX10_readRow 98 = .ok (.iadd, 1) := by decide +kernel
theorem dX10_readRow_99 : decode cX10_readRow 99 = .ok (.aload_n 0, 1) := by decide +kernel
theorem dX10_readRow_100 : decode cX10_readRow 100 = .ok (.bipush 10, 2) := by decide +kernel
theorem dX10_readRow_102 : decode cX10_readRow 102 = .ok (.bipush 70, 2) := by decide +kernel
theorem dX10_readRow_104 : decode cX10_readRow 104 = .ok (.invokevirtual 196, 3) := by decide +kernel
theorem dX10_readRow_107 : decode cX10_readRow 107 = .ok (.iastore, 1) := by decide +kernel
theorem dX10_readRow_108 : decode cX10_readRow 108 = .ok (.aload_n 0, 1) := by decide +kernel
theorem dX10_readRow_109 : decode cX10_readRow 109 = .ok (.dup, 1) := by decide +kernel
theorem dX10_readRow_110 : decode cX10_readRow 110 = .ok (.getfield 148, 3) := by decide +kernel
theorem dX10_readRow_113 : decode cX10_readRow 113 = .ok (.iconst 1, 1) := by decide +kernel
theorem dX10_readRow_114 : decode cX10_readRow 114 = .ok (.iadd, 1) := by decide +kernel
theorem dX10_readRow_115 : decode cX10_readRow 115 = .ok (.putfield 148, 3) := by decide +kernel
theorem dX10_readRow_118 : decode cX10_readRow 118 = .ok (.goto 121, 3) := by decide +kernel
theorem dX10_readRow_9 : decode cX10_readRow 9 = .ok (.aload_n 0, 1) := by decide +kernel
theorem dX10_readRow_10 : decode cX10_readRow 10 = .ok (.getfield 23, 3) := by decide +kernel
theorem dX10_readRow_13 : decode cX10_readRow 13 = .ok (.iconst 2, 1) := by decide +kernel
theorem dX10_readRow_14 : decode cX10_readRow 14 = .ok (.aload_n 0, 1) := by decide +kernel
theorem dX10_readRow_15 : decode cX10_readRow 15 = .ok (.getfield 145, 3) := by decide +kernel
theorem dX10_readRow_18 : decode cX10_readRow 18 = .ok (.imul, 1) := by decide +kernel
theorem dX10_readRow_19 : decode cX10_readRow 19 = .ok (.aload_n 0, 1) := by decide +kernel
theorem dX10_readRow_20 : decode cX10_readRow 20 = .ok (.iconst 1, 1) := by decide +kernel
theorem dX10_readRow_21 : decode cX10_readRow 21 = .ok (.bipush 40, 2) := by decide +kernel
theorem dX10_readRow_23 : decode cX10_readRow 23 = .ok (.invokevirtual 196, 3) := by decide +kernel
theorem dX10_readRow_26 : decode cX10_readRow 26 = .ok (.iastore, 1) := by decide +kernel
theorem dX10_readRow_27 : decode cX10_readRow 27 = .ok (.aload_n 0, 1) := by decide +kernel
theorem dX10_readRow_28 : decode cX10_readRow 28 = .ok (.getfield 23, 3) := by decide +kernel
theorem dX10_readRow_31 : decode cX10_readRow 31 = .ok (.iconst 2, 1) := by decide +kernel
theorem dX10_readRow_32 : decode cX10_readRow 32 = .ok (.aload_n 0, 1) := by decide +kernel
theorem dX10_readRow_33 : decode cX10_readRow 33 = .ok (.getfield 145, 3) := by decide +kernel
theorem dX10_readRow_36 : decode cX10_readRow 36 = .ok (.imul, 1) := by decide +kernel
theorem dX10_readRow_37 : decode cX10_readRow 37 = .ok (.iconst 1, 1) := by decide +kernel
theorem dX10_readRow_38 : decode cX10_readRow 38 = .ok (.iadd, 1) := by decide +kernel
theorem dX10_readRow_39 : decode cX10_readRow 39 = .ok (.aload_n 0, 1) := by decide +kernel
theorem dX10_readRow_40 : decode cX10_readRow 40 = .ok (.iconst 0, 1) := by decide +kernel
theorem dX10_readRow_41 : decode cX10_readRow 41 = .ok (.bipush 9, 2) := by decide +kernel
theorem dX10_readRow_43 : decode cX10_readRow 43 = .ok (.invokevirtual 196, 3) := by decide +kernel
theorem dX10_readRow_46 : decode cX10_readRow 46 = .ok (.iastore, 1) := by decide +kernel
theorem dX10_readRow_47 : decode cX10_readRow 47 = .ok (.aload_n 0, 1) := by decide +kernel
theorem dX10_readRow_48 : decode cX10_readRow 48 = .ok (.dup, 1) := by decide +kernel
theorem dX10_readRow_49 : decode cX10_readRow 49 = .ok (.getfield 145, 3) := by decide +kernel
theorem dX10_readRow_52 : decode cX10_readRow 52 = .ok (.iconst 1, 1) := by decide +kernel
theorem dX10_readRow_53 : decode cX10_readRow 53 = .ok (.iadd, 1) := by decide +kernel
theorem dX10_readRow_54 : decode cX10_readRow 54 = .ok (.putfield 145, 3) := by decide +kernel
theorem dX10_readRow_57 : decode cX10_readRow 57 = .ok (.goto 182, 3) := by decide +kernel
theorem dX10_valley_121 : decode cX10_valley 121 = .ok (.invokevirtual 223, 3) := by decide +kernel
theorem dX10_valley_124 : decode cX10_valley 124 = .ok (.aload_n 0, 1) := by decide +kernel
theorem dX10_valley_125 : decode cX10_valley 125 = .ok (.bipush 59, 2) := by decide +kernel
theorem dX10_sign_0 : decode cX10_sign 0 = .ok (.aload_n 0, 1) := by decide +kernel
theorem dX10_sign_1 : decode cX10_sign 1 = .ok (.invokevirtual 131, 3) := by decide +kernel
theorem dX10_sign_4 : decode cX10_sign 4 = .ok (.ifCond .eq 20, 3) := by decide +kernel
theorem dX10_sign_7 : decode cX10_sign 7 = .ok (.aload_n 0, 1) := by decide +kernel
theorem dX10_sign_8 : decode cX10_sign 8 = .ok (.invokevirtual 114, 3) := by decide +kernel
theorem dX10_sign_11 : decode cX10_sign 11 = .ok (.iload_n 1, 1) := by decide +kernel
theorem dX10_sign_12 : decode cX10_sign 12 = .ok (.if_icmp .eq 12, 3) := by decide +kernel
theorem dX10_sign_15 : decode cX10_sign 15 = .ok (.aload_n 0, 1) := by decide +kernel
theorem dX10_sign_16 : decode cX10_sign 16 = .ok (.iconst 1, 1) := by decide +kernel
theorem dX10_sign_17 : decode cX10_sign 17 = .ok (.aload_n 0, 1) := by decide +kernel
theorem dX10_sign_18 : decode cX10_sign 18 = .ok (.getfield 108, 3) := by decide +kernel
theorem dX10_sign_21 : decode cX10_sign 21 = .ok (.invokevirtual 138, 3) := by decide +kernel
theorem dX10_sign_24 : decode cX10_sign 24 = .ok (.aload_n 0, 1) := by decide +kernel
theorem dX10_sign_25 : decode cX10_sign 25 = .ok (.invokevirtual 131, 3) := by decide +kernel
theorem dX10_sign_28 : decode cX10_sign 28 = .ok (.ifCond .eq 13, 3) := by decide +kernel
theorem dX10_sign_41 : decode cX10_sign 41 = .ok (.return_, 1) := by decide +kernel
theorem dX10_sign_31 : decode cX10_sign 31 = .ok (.aload_n 0, 1) := by decide +kernel
theorem dX10_sign_32 : decode cX10_sign 32 = .ok (.dup, 1) := by decide +kernel
theorem dX10_sign_33 : decode cX10_sign 33 = .ok (.getfield 108, 3) := by decide +kernel
theorem dX10_sign_36 : decode cX10_sign 36 = .ok (.iconst 1, 1) := by decide +kernel
theorem dX10_sign_37 : decode cX10_sign 37 = .ok (.iadd, 1) := by decide +kernel
theorem dX10_sign_38 : decode cX10_sign 38 = .ok (.putfield 108, 3) := by decide +kernel
theorem dX10_valley_127 : decode cX10_valley 127 = .ok (.invokevirtual 226, 3) := by decide +kernel
theorem dX10_valley_130 : decode cX10_valley 130 = .ok (.iinc 2 1, 3) := by decide +kernel
theorem dX10_valley_133 : decode cX10_valley 133 = .ok (.goto (-89), 3) := by decide +kernel
theorem dX10_valley_112 : decode cX10_valley 112 = .ok (.goto 24, 3) := by decide +kernel
theorem dX10_law_0 : decode cX10_law 0 = .ok (.aload_n 0, 1) := by decide +kernel
theorem dX10_law_1 : decode cX10_law 1 = .ok (.iconst 0, 1) := by decide +kernel
theorem dX10_law_2 : decode cX10_law 2 = .ok (.putfield 3, 3) := by decide +kernel
theorem dX10_law_5 : decode cX10_law 5 = .ok (.aload_n 0, 1) := by decide +kernel
theorem dX10_law_6 : decode cX10_law 6 = .ok (.iload_n 1, 1) := by decide +kernel
theorem dX10_law_7 : decode cX10_law 7 = .ok (.ifCond .lt 22, 3) := by decide +kernel
theorem dX10_law_10 : decode cX10_law 10 = .ok (.iload_n 1, 1) := by decide +kernel
theorem dX10_law_11 : decode cX10_law 11 = .ok (.aload_n 0, 1) := by decide +kernel
theorem dX10_law_12 : decode cX10_law 12 = .ok (.getfield 99, 3) := by decide +kernel
theorem dX10_law_15 : decode cX10_law 15 = .ok (.if_icmp .gt 14, 3) := by decide +kernel
theorem dX10_law_18 : decode cX10_law 18 = .ok (.iload_n 1, 1) := by decide +kernel
theorem dX10_law_19 : decode cX10_law 19 = .ok (.sipush 150, 3) := by decide +kernel
theorem dX10_law_22 : decode cX10_law 22 = .ok (.if_icmp .gt 7, 3) := by decide +kernel
theorem dX10_law_25 : decode cX10_law 25 = .ok (.iconst 1, 1) := by decide +kernel
theorem dX10_law_26 : decode cX10_law 26 = .ok (.goto 4, 3) := by decide +kernel
theorem dX10_law_29 : decode cX10_law 29 = .ok (.iconst 0, 1) := by decide +kernel
theorem dX10_law_30 : decode cX10_law 30 = .ok (.iconst 1, 1) := by decide +kernel
theorem dX10_law_31 : decode cX10_law 31 = .ok (.iconst 1, 1) := by decide +kernel
theorem dX10_law_32 : decode cX10_law 32 = .ok (.invokevirtual 200, 3) := by decide +kernel
theorem dX10_law_35 : decode cX10_law 35 = .ok (.ifCond .ne 5, 3) := by decide +kernel
theorem dX10_law_40 : decode cX10_law 40 = .ok (.aload_n 0, 1) := by decide +kernel
theorem dX10_law_41 : decode cX10_law 41 = .ok (.iload_n 1, 1) := by decide +kernel
theorem dX10_law_42 : decode cX10_law 42 = .ok (.invokevirtual 204, 3) := by decide +kernel
theorem dX10_law_45 : decode cX10_law 45 = .ok (.aload_n 0, 1) := by decide +kernel
theorem dX10_law_46 : decode cX10_law 46 = .ok (.iconst 0, 1) := by decide +kernel
theorem dX10_law_47 : decode cX10_law 47 = .ok (.putfield 233, 3) := by decide +kernel
theorem dX10_law_50 : decode cX10_law 50 = .ok (.aload_n 0, 1) := by decide +kernel
theorem dX10_readSum_0 : decode cX10_readSum 0 = .ok (.aload_n 0, 1) := by decide +kernel
theorem dX10_readProduct_0 : decode cX10_readProduct 0 = .ok (.aload_n 0, 1) := by decide +kernel
theorem dX10_readUnit_0 : decode cX10_readUnit 0 = .ok (.aload_n 0, 1) := by decide +kernel
theorem dX10_readUnit_1 : decode cX10_readUnit 1 = .ok (.invokevirtual 131, 3) := by decide +kernel
theorem dX10_readUnit_4 : decode cX10_readUnit 4 = .ok (.ifCond .ne 4, 3) := by decide +kernel
theorem dX10_readUnit_8 : decode cX10_readUnit 8 = .ok (.aload_n 0, 1) := by decide +kernel
theorem dX10_readUnit_9 : decode cX10_readUnit 9 = .ok (.invokevirtual 114, 3) := by decide +kernel
theorem dX10_readUnit_12 : decode cX10_readUnit 12 = .ok (.bipush 40, 2) := by decide +kernel
theorem dX10_readUnit_14 : decode cX10_readUnit 14 = .ok (.if_icmp .ne 31, 3) := by decide +kernel
theorem dX10_readUnit_45 : decode cX10_readUnit 45 = .ok (.aload_n 0, 1) := by decide +kernel
theorem dX10_readUnit_46 : decode cX10_readUnit 46 = .ok (.invokevirtual 114, 3) := by decide +kernel
theorem dX10_readUnit_49 : decode cX10_readUnit 49 = .ok (.invokestatic 135, 3) := by decide +kernel
theorem dX10_readUnit_52 : decode cX10_readUnit 52 = .ok (.ifCond .eq 19, 3) := by decide +kernel
theorem dX10_readUnit_71 : decode cX10_readUnit 71 = .ok (.aload_n 0, 1) := by decide +kernel
theorem dX10_readUnit_72 : decode cX10_readUnit 72 = .ok (.invokevirtual 211, 3) := by decide +kernel
theorem dX10_readUnit_75 : decode cX10_readUnit 75 = .ok (.ldc_w 269, 3) := by decide +kernel
theorem dX10_readUnit_78 : decode cX10_readUnit 78 = .ok (.invokestatic 189, 3) := by decide +kernel
theorem dX10_readUnit_81 : decode cX10_readUnit 81 = .ok (.if_icmp .ne 13, 3) := by decide +kernel
theorem dX10_readUnit_94 : decode cX10_readUnit 94 = .ok (.aload_n 0, 1) := by decide +kernel
theorem dX10_readUnit_95 : decode cX10_readUnit 95 = .ok (.invokevirtual 211, 3) := by decide +kernel
theorem dX10_readUnit_98 : decode cX10_readUnit 98 = .ok (.ldc_w 274, 3) := by decide +kernel
theorem dX10_readUnit_101 : decode cX10_readUnit 101 = .ok (.invokestatic 189, 3) := by decide +kernel
theorem dX10_readUnit_104 : decode cX10_readUnit 104 = .ok (.if_icmp .ne 13, 3) := by decide +kernel
theorem dX10_readUnit_117 : decode cX10_readUnit 117 = .ok (.aload_n 0, 1) := by decide +kernel
theorem dX10_factHere_0 : decode cX10_factHere 0 = .ok (.aload_n 0, 1) := by decide +kernel
theorem dX10_factHere_1 : decode cX10_factHere 1 = .ok (.ldc 251, 2) := by decide +kernel
theorem dX10_standsHere_0 : decode cX10_standsHere 0 = .ok (.aload_n 0, 1) := by decide +kernel
theorem dX10_standsHere_1 : decode cX10_standsHere 1 = .ok (.invokevirtual 114, 3) := by decide +kernel
theorem dX10_standsHere_4 : decode cX10_standsHere 4 = .ok (.pop, 1) := by decide +kernel
theorem dX10_standsHere_5 : decode cX10_standsHere 5 = .ok (.iconst 0, 1) := by decide +kernel
theorem dX10_standsHere_6 : decode cX10_standsHere 6 = .ok (.istore_n 2, 1) := by decide +kernel
theorem dX10_standsHere_7 : decode cX10_standsHere 7 = .ok (.iload_n 2, 1) := by decide +kernel
theorem dX10_standsHere_8 : decode cX10_standsHere 8 = .ok (.aload_n 1, 1) := by decide +kernel
theorem dX10_standsHere_9 : decode cX10_standsHere 9 = .ok (.invokevirtual 122, 3) := by decide +kernel
theorem dX10_standsHere_12 : decode cX10_standsHere 12 = .ok (.if_icmp .ge 43, 3) := by decide +kernel
theorem dX10_standsHere_55 : decode cX10_standsHere 55 = .ok (.aload_n 0, 1) := by decide +kernel
theorem dX10_standsHere_56 : decode cX10_standsHere 56 = .ok (.getfield 108, 3) := by decide +kernel
theorem dX10_standsHere_59 : decode cX10_standsHere 59 = .ok (.aload_n 1, 1) := by decide +kernel
theorem dX10_standsHere_60 : decode cX10_standsHere 60 = .ok (.invokevirtual 122, 3) := by decide +kernel
theorem dX10_standsHere_63 : decode cX10_standsHere 63 = .ok (.iadd, 1) := by decide +kernel
theorem dX10_standsHere_64 : decode cX10_standsHere 64 = .ok (.aload_n 0, 1) := by decide +kernel
theorem dX10_standsHere_65 : decode cX10_standsHere 65 = .ok (.getfield 111, 3) := by decide +kernel
theorem dX10_standsHere_68 : decode cX10_standsHere 68 = .ok (.if_icmp .ge 23, 3) := by decide +kernel
theorem dX10_standsHere_91 : decode cX10_standsHere 91 = .ok (.iconst 1, 1) := by decide +kernel
theorem dX10_standsHere_92 : decode cX10_standsHere 92 = .ok (.goto 4, 3) := by decide +kernel
theorem dX10_standsHere_96 : decode cX10_standsHere 96 = .ok (.ireturn, 1) := by decide +kernel
theorem dX10_standsHere_71 : decode cX10_standsHere 71 = .ok (.aload_n 0, 1) := by decide +kernel
theorem dX10_standsHere_72 : decode cX10_standsHere 72 = .ok (.getfield 20, 3) := by decide +kernel
theorem dX10_standsHere_75 : decode cX10_standsHere 75 = .ok (.aload_n 0, 1) := by decide +kernel
theorem dX10_standsHere_76 : decode cX10_standsHere 76 = .ok (.getfield 108, 3) := by decide +kernel
theorem dX10_standsHere_79 : decode cX10_standsHere 79 = .ok (.aload_n 1, 1) := by decide +kernel
theorem dX10_standsHere_80 : decode cX10_standsHere 80 = .ok (.invokevirtual 122, 3) := by decide +kernel
theorem dX10_standsHere_83 : decode cX10_standsHere 83 = .ok (.iadd, 1) := by decide +kernel
theorem dX10_standsHere_84 : decode cX10_standsHere 84 = .ok (.iaload, 1) := by decide +kernel
theorem dX10_standsHere_85 : decode cX10_standsHere 85 = .ok (.invokestatic 118, 3) := by decide +kernel
theorem dX10_standsHere_88 : decode cX10_standsHere 88 = .ok (.ifCond .ne 7, 3) := by decide +kernel
theorem dX10_standsHere_95 : decode cX10_standsHere 95 = .ok (.iconst 0, 1) := by decide +kernel
theorem dX10_standsHere_15 : decode cX10_standsHere 15 = .ok (.aload_n 0, 1) := by decide +kernel
theorem dX10_standsHere_16 : decode cX10_standsHere 16 = .ok (.getfield 108, 3) := by decide +kernel
theorem dX10_standsHere_19 : decode cX10_standsHere 19 = .ok (.iload_n 2, 1) := by decide +kernel
theorem dX10_standsHere_20 : decode cX10_standsHere 20 = .ok (.iadd, 1) := by decide +kernel
theorem dX10_standsHere_21 : decode cX10_standsHere 21 = .ok (.aload_n 0, 1) := by decide +kernel
theorem dX10_standsHere_22 : decode cX10_standsHere 22 = .ok (.getfield 111, 3) := by decide +kernel
theorem dX10_standsHere_25 : decode cX10_standsHere 25 = .ok (.if_icmp .ge 22, 3) := by decide +kernel
theorem dX10_standsHere_47 : decode cX10_standsHere 47 = .ok (.iconst 0, 1) := by decide +kernel
theorem dX10_standsHere_48 : decode cX10_standsHere 48 = .ok (.ireturn, 1) := by decide +kernel
theorem dX10_standsHere_28 : decode cX10_standsHere 28 = .ok (.aload_n 0, 1) := by decide +kernel
theorem dX10_standsHere_29 : decode cX10_standsHere 29 = .ok (.getfield 20, 3) := by decide +kernel
theorem dX10_standsHere_32 : decode cX10_standsHere 32 = .ok (.aload_n 0, 1) := by decide +kernel
theorem dX10_standsHere_33 : decode cX10_standsHere 33 = .ok (.getfield 108, 3) := by decide +kernel
theorem dX10_standsHere_36 : decode cX10_standsHere 36 = .ok (.iload_n 2, 1) := by decide +kernel
theorem dX10_standsHere_37 : decode cX10_standsHere 37 = .ok (.iadd, 1) := by decide +kernel
theorem dX10_standsHere_38 : decode cX10_standsHere 38 = .ok (.iaload, 1) := by decide +kernel
theorem dX10_standsHere_39 : decode cX10_standsHere 39 = .ok (.aload_n 1, 1) := by decide +kernel
theorem dX10_standsHere_40 : decode cX10_standsHere 40 = .ok (.iload_n 2, 1) := by decide +kernel
theorem dX10_standsHere_41 : decode cX10_standsHere 41 = .ok (.invokevirtual 127, 3) := by decide +kernel
theorem dX10_standsHere_44 : decode cX10_standsHere 44 = .ok (.if_icmp .eq 5, 3) := by decide +kernel
theorem dX10_standsHere_49 : decode cX10_standsHere 49 = .ok (.iinc 2 1, 3) := by decide +kernel
theorem dX10_standsHere_52 : decode cX10_standsHere 52 = .ok (.goto (-45), 3) := by decide +kernel
theorem dX10_factHere_3 : decode cX10_factHere 3 = .ok (.invokevirtual 253, 3) := by decide +kernel
theorem dX10_factHere_6 : decode cX10_factHere 6 = .ok (.ifCond .eq 5, 3) := by decide +kernel
theorem dX10_factHere_11 : decode cX10_factHere 11 = .ok (.aload_n 0, 1) := by decide +kernel
theorem dX10_factHere_12 : decode cX10_factHere 12 = .ok (.invokevirtual 211, 3) := by decide +kernel
theorem dX10_factHere_15 : decode cX10_factHere 15 = .ok (.istore_n 1, 1) := by decide +kernel
theorem dX10_factHere_16 : decode cX10_factHere 16 = .ok (.iload_n 1, 1) := by decide +kernel
theorem dX10_factHere_17 : decode cX10_factHere 17 = .ok (.ldc_w 257, 3) := by decide +kernel
theorem dX10_factHere_20 : decode cX10_factHere 20 = .ok (.invokestatic 189, 3) := by decide +kernel
theorem dX10_factHere_23 : decode cX10_factHere 23 = .ok (.if_icmp .ne 7, 3) := by decide +kernel
theorem dX10_factHere_30 : decode cX10_factHere 30 = .ok (.iload_n 1, 1) := by decide +kernel
theorem dX10_factHere_31 : decode cX10_factHere 31 = .ok (.ldc_w 259, 3) := by decide +kernel
theorem dX10_factHere_34 : decode cX10_factHere 34 = .ok (.invokestatic 189, 3) := by decide +kernel
theorem dX10_factHere_37 : decode cX10_factHere 37 = .ok (.if_icmp .ne 7, 3) := by decide +kernel
theorem dX10_factHere_44 : decode cX10_factHere 44 = .ok (.iload_n 1, 1) := by decide +kernel
theorem dX10_factHere_45 : decode cX10_factHere 45 = .ok (.ldc_w 261, 3) := by decide +kernel
theorem dX10_factHere_48 : decode cX10_factHere 48 = .ok (.invokestatic 189, 3) := by decide +kernel
theorem dX10_factHere_51 : decode cX10_factHere 51 = .ok (.if_icmp .ne 7, 3) := by decide +kernel
theorem dX10_factHere_58 : decode cX10_factHere 58 = .ok (.iload_n 1, 1) := by decide +kernel
theorem dX10_factHere_59 : decode cX10_factHere 59 = .ok (.ldc_w 263, 3) := by decide +kernel
theorem dX10_factHere_62 : decode cX10_factHere 62 = .ok (.invokestatic 189, 3) := by decide +kernel
theorem dX10_factHere_65 : decode cX10_factHere 65 = .ok (.if_icmp .ne 7, 3) := by decide +kernel
theorem dX10_factHere_72 : decode cX10_factHere 72 = .ok (.iload_n 1, 1) := by decide +kernel
theorem dX10_factHere_73 : decode cX10_factHere 73 = .ok (.ldc_w 265, 3) := by decide +kernel
theorem dX10_factHere_76 : decode cX10_factHere 76 = .ok (.invokestatic 189, 3) := by decide +kernel
theorem dX10_factHere_79 : decode cX10_factHere 79 = .ok (.if_icmp .ne 7, 3) := by decide +kernel
theorem dX10_factHere_86 : decode cX10_factHere 86 = .ok (.iload_n 1, 1) := by decide +kernel
theorem dX10_factHere_87 : decode cX10_factHere 87 = .ok (.ldc_w 267, 3) := by decide +kernel
theorem dX10_factHere_90 : decode cX10_factHere 90 = .ok (.invokestatic 189, 3) := by decide +kernel
theorem dX10_factHere_93 : decode cX10_factHere 93 = .ok (.if_icmp .ne 8, 3) := by decide +kernel
theorem dX10_factHere_101 : decode cX10_factHere 101 = .ok (.iload_n 1, 1) := by decide +kernel
theorem dX10_factHere_102 : decode cX10_factHere 102 = .ok (.ldc 193, 2) := by decide +kernel
theorem dX10_factHere_104 : decode cX10_factHere 104 = .ok (.invokestatic 189, 3) := by decide +kernel
theorem dX10_factHere_107 : decode cX10_factHere 107 = .ok (.if_icmp .ne 8, 3) := by decide +kernel
theorem dX10_factHere_115 : decode cX10_factHere 115 = .ok (.iconst (-1), 1) := by decide +kernel
theorem dX10_factHere_116 : decode cX10_factHere 116 = .ok (.ireturn, 1) := by decide +kernel
theorem dX10_factHere_110 : decode cX10_factHere 110 = .ok (.bipush 7, 2) := by decide +kernel
theorem dX10_factHere_112 : decode cX10_factHere 112 = .ok (.goto 4, 3) := by decide +kernel
theorem dX10_factHere_96 : decode cX10_factHere 96 = .ok (.bipush 6, 2) := by decide +kernel
theorem dX10_factHere_98 : decode cX10_factHere 98 = .ok (.goto 18, 3) := by decide +kernel
theorem dX10_factHere_82 : decode cX10_factHere 82 = .ok (.iconst 4, 1) := by decide +kernel
theorem dX10_factHere_83 : decode cX10_factHere 83 = .ok (.goto 33, 3) := by decide +kernel
theorem dX10_factHere_68 : decode cX10_factHere 68 = .ok (.iconst 3, 1) := by decide +kernel
theorem dX10_factHere_69 : decode cX10_factHere 69 = .ok (.goto 47, 3) := by decide +kernel
theorem dX10_factHere_54 : decode cX10_factHere 54 = .ok (.iconst 2, 1) := by decide +kernel
theorem dX10_factHere_55 : decode cX10_factHere 55 = .ok (.goto 61, 3) := by decide +kernel
theorem dX10_factHere_40 : decode cX10_factHere 40 = .ok (.iconst 1, 1) := by decide +kernel
theorem dX10_factHere_41 : decode cX10_factHere 41 = .ok (.goto 75, 3) := by decide +kernel
theorem dX10_factHere_26 : decode cX10_factHere 26 = .ok (.iconst 0, 1) := by decide +kernel
theorem dX10_factHere_27 : decode cX10_factHere 27 = .ok (.goto 89, 3) := by decide +kernel
theorem dX10_factHere_9 : decode cX10_factHere 9 = .ok (.iconst 5, 1) := by decide +kernel
theorem dX10_factHere_10 : decode cX10_factHere 10 = .ok (.ireturn, 1) := by decide +kernel
theorem dX10_readUnit_118 : decode cX10_readUnit 118 = .ok (.invokevirtual 276, 3) := by decide +kernel
theorem dX10_readUnit_121 : decode cX10_readUnit 121 = .ok (.istore_n 1, 1) := by decide +kernel
theorem dX10_readUnit_122 : decode cX10_readUnit 122 = .ok (.iload_n 1, 1) := by decide +kernel
theorem dX10_readUnit_123 : decode cX10_readUnit 123 = .ok (.iconst (-1), 1) := by decide +kernel
theorem dX10_readUnit_124 : decode cX10_readUnit 124 = .ok (.if_icmp .ne 12, 3) := by decide +kernel
theorem dX10_readUnit_127 : decode cX10_readUnit 127 = .ok (.aload_n 0, 1) := by decide +kernel
theorem dX10_readUnit_128 : decode cX10_readUnit 128 = .ok (.iconst 1, 1) := by decide +kernel
theorem dX10_readUnit_129 : decode cX10_readUnit 129 = .ok (.aload_n 0, 1) := by decide +kernel
theorem dX10_readUnit_130 : decode cX10_readUnit 130 = .ok (.getfield 108, 3) := by decide +kernel
theorem dX10_readUnit_133 : decode cX10_readUnit 133 = .ok (.invokevirtual 138, 3) := by decide +kernel
theorem dX10_readUnit_107 : decode cX10_readUnit 107 = .ok (.aload_n 0, 1) := by decide +kernel
theorem dX10_readUnit_108 : decode cX10_readUnit 108 = .ok (.iconst 4, 1) := by decide +kernel
theorem dX10_readUnit_109 : decode cX10_readUnit 109 = .ok (.bipush 7, 2) := by decide +kernel
theorem dX10_readTwo_0 : decode cX10_readTwo 0 = .ok (.aload_n 0, 1) := by decide +kernel
theorem dX10_readTwo_1 : decode cX10_readTwo 1 = .ok (.iload_n 1, 1) := by decide +kernel
theorem dX10_opensOne_0 : decode cX10_opensOne 0 = .ok (.aload_n 0, 1) := by decide +kernel
theorem dX10_opensOne_1 : decode cX10_opensOne 1 = .ok (.invokevirtual 131, 3) := by decide +kernel
theorem dX10_opensOne_4 : decode cX10_opensOne 4 = .ok (.ifCond .eq 21, 3) := by decide +kernel
theorem dX10_opensOne_7 : decode cX10_opensOne 7 = .ok (.aload_n 0, 1) := by decide +kernel
theorem dX10_opensOne_8 : decode cX10_opensOne 8 = .ok (.getfield 142, 3) := by decide +kernel
theorem dX10_opensOne_11 : decode cX10_opensOne 11 = .ok (.bipush 6, 2) := by decide +kernel
theorem dX10_opensOne_13 : decode cX10_opensOne 13 = .ok (.if_icmp .ne 12, 3) := by decide +kernel
theorem dX10_opensOne_16 : decode cX10_opensOne 16 = .ok (.aload_n 0, 1) := by decide +kernel
theorem dX10_opensOne_17 : decode cX10_opensOne 17 = .ok (.iconst 3, 1) := by decide +kernel
theorem dX10_opensOne_18 : decode cX10_opensOne 18 = .ok (.aload_n 0, 1) := by decide +kernel
theorem dX10_opensOne_19 : decode cX10_opensOne 19 = .ok (.getfield 108, 3) := by decide +kernel
theorem dX10_opensOne_22 : decode cX10_opensOne 22 = .ok (.invokevirtual 138, 3) := by decide +kernel
theorem dX10_opensOne_25 : decode cX10_opensOne 25 = .ok (.aload_n 0, 1) := by decide +kernel
theorem dX10_opensOne_26 : decode cX10_opensOne 26 = .ok (.invokevirtual 131, 3) := by decide +kernel
theorem dX10_opensOne_29 : decode cX10_opensOne 29 = .ok (.ifCond .eq 13, 3) := by decide +kernel
theorem dX10_opensOne_32 : decode cX10_opensOne 32 = .ok (.aload_n 0, 1) := by decide +kernel
theorem dX10_opensOne_33 : decode cX10_opensOne 33 = .ok (.dup, 1) := by decide +kernel
theorem dX10_opensOne_34 : decode cX10_opensOne 34 = .ok (.getfield 108, 3) := by decide +kernel
theorem dX10_opensOne_37 : decode cX10_opensOne 37 = .ok (.iload_n 1, 1) := by decide +kernel
theorem dX10_opensOne_38 : decode cX10_opensOne 38 = .ok (.iadd, 1) := by decide +kernel
theorem dX10_opensOne_39 : decode cX10_opensOne 39 = .ok (.putfield 108, 3) := by decide +kernel
theorem dX10_opensOne_42 : decode cX10_opensOne 42 = .ok (.aload_n 0, 1) := by decide +kernel
theorem dX10_opensOne_43 : decode cX10_opensOne 43 = .ok (.dup, 1) := by decide +kernel
theorem dX10_opensOne_44 : decode cX10_opensOne 44 = .ok (.getfield 142, 3) := by decide +kernel
theorem dX10_opensOne_47 : decode cX10_opensOne 47 = .ok (.iconst 1, 1) := by decide +kernel
theorem dX10_opensOne_48 : decode cX10_opensOne 48 = .ok (.iadd, 1) := by decide +kernel
theorem dX10_opensOne_49 : decode cX10_opensOne 49 = .ok (.putfield 142, 3) := by decide +kernel
theorem dX10_opensOne_52 : decode cX10_opensOne 52 = .ok (.return_, 1) := by decide +kernel
theorem dX10_readTwo_2 : decode cX10_readTwo 2 = .ok (.invokevirtual 245, 3) := by decide +kernel
theorem dX10_readTwo_5 : decode cX10_readTwo 5 = .ok (.aload_n 0, 1) := by decide +kernel
theorem dX10_readTwo_6 : decode cX10_readTwo 6 = .ok (.bipush 91, 2) := by decide +kernel
theorem dX10_readTwo_8 : decode cX10_readTwo 8 = .ok (.invokevirtual 226, 3) := by decide +kernel
theorem dX10_readTwo_11 : decode cX10_readTwo 11 = .ok (.aload_n 0, 1) := by decide +kernel
theorem dX10_readTwo_12 : decode cX10_readTwo 12 = .ok (.invokevirtual 248, 3) := by decide +kernel
theorem dX10_readTwo_15 : decode cX10_readTwo 15 = .ok (.aload_n 0, 1) := by decide +kernel
theorem dX10_readTwo_16 : decode cX10_readTwo 16 = .ok (.bipush 44, 2) := by decide +kernel
theorem dX10_readTwo_18 : decode cX10_readTwo 18 = .ok (.invokevirtual 226, 3) := by decide +kernel
theorem dX10_readTwo_21 : decode cX10_readTwo 21 = .ok (.aload_n 0, 1) := by decide +kernel
theorem dX10_readTwo_22 : decode cX10_readTwo 22 = .ok (.invokevirtual 248, 3) := by decide +kernel
theorem dX10_readTwo_25 : decode cX10_readTwo 25 = .ok (.aload_n 0, 1) := by decide +kernel
theorem dX10_readTwo_26 : decode cX10_readTwo 26 = .ok (.bipush 93, 2) := by decide +kernel
theorem dX10_readTwo_28 : decode cX10_readTwo 28 = .ok (.invokevirtual 226, 3) := by decide +kernel
theorem dX10_readTwo_31 : decode cX10_readTwo 31 = .ok (.aload_n 0, 1) := by decide +kernel
theorem dX10_readTwo_32 : decode cX10_readTwo 32 = .ok (.dup, 1) := by decide +kernel
theorem dX10_readTwo_33 : decode cX10_readTwo 33 = .ok (.getfield 142, 3) := by decide +kernel
theorem dX10_readTwo_36 : decode cX10_readTwo 36 = .ok (.iconst 1, 1) := by decide +kernel
theorem dX10_readTwo_37 : decode cX10_readTwo 37 = .ok (.isub, 1) := by decide +kernel
theorem dX10_readTwo_38 : decode cX10_readTwo 38 = .ok (.putfield 142, 3) := by decide +kernel
theorem dX10_readTwo_41 : decode cX10_readTwo 41 = .ok (.aload_n 0, 1) := by decide +kernel
theorem dX10_readTwo_42 : decode cX10_readTwo 42 = .ok (.iload_n 2, 1) := by decide +kernel
theorem dX10_readTwo_43 : decode cX10_readTwo 43 = .ok (.iconst 0, 1) := by decide +kernel
theorem dX10_emit_0 : decode cX10_emit 0 = .ok (.aload_n 0, 1) := by decide +kernel
theorem dX10_emit_1 : decode cX10_emit 1 = .ok (.invokevirtual 131, 3) := by decide +kernel
theorem dX10_emit_4 : decode cX10_emit 4 = .ok (.ifCond .ne 4, 3) := by decide +kernel
theorem dX10_emit_8 : decode cX10_emit 8 = .ok (.aload_n 0, 1) := by decide +kernel
theorem dX10_emit_9 : decode cX10_emit 9 = .ok (.getfield 41, 3) := by decide +kernel
theorem dX10_emit_12 : decode cX10_emit 12 = .ok (.aload_n 0, 1) := by decide +kernel
theorem dX10_emit_13 : decode cX10_emit 13 = .ok (.getfield 233, 3) := by decide +kernel
theorem dX10_emit_16 : decode cX10_emit 16 = .ok (.iload_n 1, 1) := by decide +kernel
theorem dX10_emit_17 : decode cX10_emit 17 = .ok (.iastore, 1) := by decide +kernel
theorem dX10_emit_18 : decode cX10_emit 18 = .ok (.aload_n 0, 1) := by decide +kernel
theorem dX10_emit_19 : decode cX10_emit 19 = .ok (.getfield 44, 3) := by decide +kernel
theorem dX10_emit_22 : decode cX10_emit 22 = .ok (.aload_n 0, 1) := by decide +kernel
theorem dX10_emit_23 : decode cX10_emit 23 = .ok (.getfield 233, 3) := by decide +kernel
theorem dX10_emit_26 : decode cX10_emit 26 = .ok (.iload_n 2, 1) := by decide +kernel
theorem dX10_emit_27 : decode cX10_emit 27 = .ok (.iastore, 1) := by decide +kernel
theorem dX10_emit_28 : decode cX10_emit 28 = .ok (.aload_n 0, 1) := by decide +kernel
theorem dX10_emit_29 : decode cX10_emit 29 = .ok (.dup, 1) := by decide +kernel
theorem dX10_emit_30 : decode cX10_emit 30 = .ok (.getfield 233, 3) := by decide +kernel
theorem dX10_emit_33 : decode cX10_emit 33 = .ok (.iconst 1, 1) := by decide +kernel
theorem dX10_emit_34 : decode cX10_emit 34 = .ok (.iadd, 1) := by decide +kernel
theorem dX10_emit_35 : decode cX10_emit 35 = .ok (.putfield 233, 3) := by decide +kernel
theorem dX10_emit_38 : decode cX10_emit 38 = .ok (.return_, 1) := by decide +kernel
theorem dX10_emit_7 : decode cX10_emit 7 = .ok (.return_, 1) := by decide +kernel
theorem dX10_readTwo_44 : decode cX10_readTwo 44 = .ok (.invokevirtual 239, 3) := by decide +kernel
theorem dX10_readTwo_47 : decode cX10_readTwo 47 = .ok (.return_, 1) := by decide +kernel
theorem dX10_readUnit_111 : decode cX10_readUnit 111 = .ok (.invokevirtual 271, 3) := by decide +kernel
theorem dX10_readUnit_114 : decode cX10_readUnit 114 = .ok (.goto 40, 3) := by decide +kernel
theorem dX10_readUnit_154 : decode cX10_readUnit 154 = .ok (.return_, 1) := by decide +kernel
theorem dX10_readUnit_84 : decode cX10_readUnit 84 = .ok (.aload_n 0, 1) := by decide +kernel
theorem dX10_readUnit_85 : decode cX10_readUnit 85 = .ok (.iconst 5, 1) := by decide +kernel
theorem dX10_readUnit_86 : decode cX10_readUnit 86 = .ok (.bipush 6, 2) := by decide +kernel
theorem dX10_readUnit_88 : decode cX10_readUnit 88 = .ok (.invokevirtual 271, 3) := by decide +kernel
theorem dX10_readUnit_91 : decode cX10_readUnit 91 = .ok (.goto 63, 3) := by decide +kernel
theorem dX10_readUnit_55 : decode cX10_readUnit 55 = .ok (.aload_n 0, 1) := by decide +kernel
theorem dX10_readUnit_56 : decode cX10_readUnit 56 = .ok (.iconst 0, 1) := by decide +kernel
theorem dX10_readUnit_57 : decode cX10_readUnit 57 = .ok (.aload_n 0, 1) := by decide +kernel
theorem dX10_readUnit_58 : decode cX10_readUnit 58 = .ok (.iconst 0, 1) := by decide +kernel
theorem dX10_readUnit_59 : decode cX10_readUnit 59 = .ok (.sipush 999, 3) := by decide +kernel
theorem dX10_readUnit_62 : decode cX10_readUnit 62 = .ok (.invokevirtual 196, 3) := by decide +kernel
theorem dX10_readUnit_65 : decode cX10_readUnit 65 = .ok (.invokevirtual 239, 3) := by decide +kernel
theorem dX10_readUnit_68 : decode cX10_readUnit 68 = .ok (.goto 86, 3) := by decide +kernel
theorem dX10_readUnit_17 : decode cX10_readUnit 17 = .ok (.aload_n 0, 1) := by decide +kernel
theorem dX10_readUnit_18 : decode cX10_readUnit 18 = .ok (.iconst 1, 1) := by decide +kernel
theorem dX10_readUnit_19 : decode cX10_readUnit 19 = .ok (.invokevirtual 245, 3) := by decide +kernel
theorem dX10_readUnit_22 : decode cX10_readUnit 22 = .ok (.aload_n 0, 1) := by decide +kernel
theorem dX10_readUnit_23 : decode cX10_readUnit 23 = .ok (.invokevirtual 248, 3) := by decide +kernel
theorem dX10_readUnit_26 : decode cX10_readUnit 26 = .ok (.aload_n 0, 1) := by decide +kernel
theorem dX10_readUnit_27 : decode cX10_readUnit 27 = .ok (.bipush 41, 2) := by decide +kernel
theorem dX10_readUnit_29 : decode cX10_readUnit 29 = .ok (.invokevirtual 226, 3) := by decide +kernel
theorem dX10_readUnit_32 : decode cX10_readUnit 32 = .ok (.aload_n 0, 1) := by decide +kernel
theorem dX10_readUnit_33 : decode cX10_readUnit 33 = .ok (.dup, 1) := by decide +kernel
theorem dX10_readUnit_34 : decode cX10_readUnit 34 = .ok (.getfield 142, 3) := by decide +kernel
theorem dX10_readUnit_37 : decode cX10_readUnit 37 = .ok (.iconst 1, 1) := by decide +kernel
theorem dX10_readUnit_38 : decode cX10_readUnit 38 = .ok (.isub, 1) := by decide +kernel
theorem dX10_readUnit_39 : decode cX10_readUnit 39 = .ok (.putfield 142, 3) := by decide +kernel
theorem dX10_readUnit_42 : decode cX10_readUnit 42 = .ok (.goto 112, 3) := by decide +kernel
theorem dX10_readUnit_7 : decode cX10_readUnit 7 = .ok (.return_, 1) := by decide +kernel
theorem dX10_readUnit_136 : decode cX10_readUnit 136 = .ok (.aload_n 0, 1) := by decide +kernel
theorem dX10_readUnit_137 : decode cX10_readUnit 137 = .ok (.invokevirtual 131, 3) := by decide +kernel
theorem dX10_readUnit_140 : decode cX10_readUnit 140 = .ok (.ifCond .ne 4, 3) := by decide +kernel
theorem dX10_readUnit_144 : decode cX10_readUnit 144 = .ok (.aload_n 0, 1) := by decide +kernel
theorem dX10_readUnit_145 : decode cX10_readUnit 145 = .ok (.invokevirtual 220, 3) := by decide +kernel
theorem dX10_readUnit_148 : decode cX10_readUnit 148 = .ok (.aload_n 0, 1) := by decide +kernel
theorem dX10_readUnit_149 : decode cX10_readUnit 149 = .ok (.iconst 1, 1) := by decide +kernel
theorem dX10_readUnit_150 : decode cX10_readUnit 150 = .ok (.iload_n 1, 1) := by decide +kernel
theorem dX10_readUnit_151 : decode cX10_readUnit 151 = .ok (.invokevirtual 239, 3) := by decide +kernel
theorem dX10_readUnit_143 : decode cX10_readUnit 143 = .ok (.return_, 1) := by decide +kernel
theorem dX10_readProduct_1 : decode cX10_readProduct 1 = .ok (.invokevirtual 242, 3) := by decide +kernel
theorem dX10_readProduct_4 : decode cX10_readProduct 4 = .ok (.aload_n 0, 1) := by decide +kernel
theorem dX10_readProduct_5 : decode cX10_readProduct 5 = .ok (.invokevirtual 131, 3) := by decide +kernel
theorem dX10_readProduct_8 : decode cX10_readProduct 8 = .ok (.ifCond .eq 82, 3) := by decide +kernel
theorem dX10_readProduct_90 : decode cX10_readProduct 90 = .ok (.return_, 1) := by decide +kernel
theorem dX10_readProduct_11 : decode cX10_readProduct 11 = .ok (.aload_n 0, 1) := by decide +kernel
theorem dX10_readProduct_12 : decode cX10_readProduct 12 = .ok (.invokevirtual 114, 3) := by decide +kernel
theorem dX10_readProduct_15 : decode cX10_readProduct 15 = .ok (.bipush 42, 2) := by decide +kernel
theorem dX10_readProduct_17 : decode cX10_readProduct 17 = .ok (.if_icmp .eq 21, 3) := by decide +kernel
theorem dX10_readProduct_20 : decode cX10_readProduct 20 = .ok (.aload_n 0, 1) := by decide +kernel
theorem dX10_readProduct_21 : decode cX10_readProduct 21 = .ok (.invokevirtual 114, 3) := by decide +kernel
theorem dX10_readProduct_24 : decode cX10_readProduct 24 = .ok (.bipush 47, 2) := by decide +kernel
theorem dX10_readProduct_26 : decode cX10_readProduct 26 = .ok (.if_icmp .eq 12, 3) := by decide +kernel
theorem dX10_readProduct_29 : decode cX10_readProduct 29 = .ok (.aload_n 0, 1) := by decide +kernel
theorem dX10_readProduct_30 : decode cX10_readProduct 30 = .ok (.invokevirtual 114, 3) := by decide +kernel
theorem dX10_readProduct_33 : decode cX10_readProduct 33 = .ok (.bipush 37, 2) := by decide +kernel
theorem dX10_readProduct_35 : decode cX10_readProduct 35 = .ok (.if_icmp .ne 55, 3) := by decide +kernel
theorem dX10_readProduct_38 : decode cX10_readProduct 38 = .ok (.aload_n 0, 1) := by decide +kernel
theorem dX10_readProduct_39 : decode cX10_readProduct 39 = .ok (.invokevirtual 114, 3) := by decide +kernel
theorem dX10_readProduct_42 : decode cX10_readProduct 42 = .ok (.bipush 42, 2) := by decide +kernel
theorem dX10_readProduct_44 : decode cX10_readProduct 44 = .ok (.if_icmp .ne 7, 3) := by decide +kernel
theorem dX10_readProduct_51 : decode cX10_readProduct 51 = .ok (.aload_n 0, 1) := by decide +kernel
theorem dX10_readProduct_52 : decode cX10_readProduct 52 = .ok (.invokevirtual 114, 3) := by decide +kernel
theorem dX10_readProduct_55 : decode cX10_readProduct 55 = .ok (.bipush 47, 2) := by decide +kernel
theorem dX10_readProduct_57 : decode cX10_readProduct 57 = .ok (.if_icmp .ne 7, 3) := by decide +kernel
theorem dX10_readProduct_64 : decode cX10_readProduct 64 = .ok (.bipush 8, 2) := by decide +kernel
theorem dX10_readProduct_60 : decode cX10_readProduct 60 = .ok (.iconst 5, 1) := by decide +kernel
theorem dX10_readProduct_61 : decode cX10_readProduct 61 = .ok (.goto 5, 3) := by decide +kernel
theorem dX10_readProduct_47 : decode cX10_readProduct 47 = .ok (.iconst 4, 1) := by decide +kernel
theorem dX10_readProduct_48 : decode cX10_readProduct 48 = .ok (.goto 18, 3) := by decide +kernel
theorem dX10_readProduct_66 : decode cX10_readProduct 66 = .ok (.istore_n 1, 1) := by decide +kernel
theorem dX10_readProduct_67 : decode cX10_readProduct 67 = .ok (.aload_n 0, 1) := by decide +kernel
theorem dX10_readProduct_68 : decode cX10_readProduct 68 = .ok (.dup, 1) := by decide +kernel
theorem dX10_readProduct_69 : decode cX10_readProduct 69 = .ok (.getfield 108, 3) := by decide +kernel
theorem dX10_readProduct_72 : decode cX10_readProduct 72 = .ok (.iconst 1, 1) := by decide +kernel
theorem dX10_readProduct_73 : decode cX10_readProduct 73 = .ok (.iadd, 1) := by decide +kernel
theorem dX10_readProduct_74 : decode cX10_readProduct 74 = .ok (.putfield 108, 3) := by decide +kernel
theorem dX10_readProduct_77 : decode cX10_readProduct 77 = .ok (.aload_n 0, 1) := by decide +kernel
theorem dX10_readProduct_78 : decode cX10_readProduct 78 = .ok (.invokevirtual 242, 3) := by decide +kernel
theorem dX10_readProduct_81 : decode cX10_readProduct 81 = .ok (.aload_n 0, 1) := by decide +kernel
theorem dX10_readProduct_82 : decode cX10_readProduct 82 = .ok (.iload_n 1, 1) := by decide +kernel
theorem dX10_readProduct_83 : decode cX10_readProduct 83 = .ok (.iconst 0, 1) := by decide +kernel
theorem dX10_readProduct_84 : decode cX10_readProduct 84 = .ok (.invokevirtual 239, 3) := by decide +kernel
theorem dX10_readProduct_87 : decode cX10_readProduct 87 = .ok (.goto (-83), 3) := by decide +kernel
theorem dX10_readSum_1 : decode cX10_readSum 1 = .ok (.invokevirtual 236, 3) := by decide +kernel
theorem dX10_readSum_4 : decode cX10_readSum 4 = .ok (.aload_n 0, 1) := by decide +kernel
theorem dX10_readSum_5 : decode cX10_readSum 5 = .ok (.invokevirtual 131, 3) := by decide +kernel
theorem dX10_readSum_8 : decode cX10_readSum 8 = .ok (.ifCond .eq 59, 3) := by decide +kernel
theorem dX10_readSum_67 : decode cX10_readSum 67 = .ok (.return_, 1) := by decide +kernel
theorem dX10_readSum_11 : decode cX10_readSum 11 = .ok (.aload_n 0, 1) := by decide +kernel
theorem dX10_readSum_12 : decode cX10_readSum 12 = .ok (.invokevirtual 114, 3) := by decide +kernel
theorem dX10_readSum_15 : decode cX10_readSum 15 = .ok (.bipush 43, 2) := by decide +kernel
theorem dX10_readSum_17 : decode cX10_readSum 17 = .ok (.if_icmp .eq 12, 3) := by decide +kernel
theorem dX10_readSum_20 : decode cX10_readSum 20 = .ok (.aload_n 0, 1) := by decide +kernel
theorem dX10_readSum_21 : decode cX10_readSum 21 = .ok (.invokevirtual 114, 3) := by decide +kernel
theorem dX10_readSum_24 : decode cX10_readSum 24 = .ok (.bipush 45, 2) := by decide +kernel
theorem dX10_readSum_26 : decode cX10_readSum 26 = .ok (.if_icmp .ne 41, 3) := by decide +kernel
theorem dX10_readSum_29 : decode cX10_readSum 29 = .ok (.aload_n 0, 1) := by decide +kernel
theorem dX10_readSum_30 : decode cX10_readSum 30 = .ok (.invokevirtual 114, 3) := by decide +kernel
theorem dX10_readSum_33 : decode cX10_readSum 33 = .ok (.bipush 43, 2) := by decide +kernel
theorem dX10_readSum_35 : decode cX10_readSum 35 = .ok (.if_icmp .ne 7, 3) := by decide +kernel
theorem dX10_readSum_42 : decode cX10_readSum 42 = .ok (.iconst 3, 1) := by decide +kernel
theorem dX10_readSum_38 : decode cX10_readSum 38 = .ok (.iconst 2, 1) := by decide +kernel
theorem dX10_readSum_39 : decode cX10_readSum 39 = .ok (.goto 4, 3) := by decide +kernel
theorem dX10_readSum_43 : decode cX10_readSum 43 = .ok (.istore_n 1, 1) := by decide +kernel
theorem dX10_readSum_44 : decode cX10_readSum 44 = .ok (.aload_n 0, 1) := by decide +kernel
theorem dX10_readSum_45 : decode cX10_readSum 45 = .ok (.dup, 1) := by decide +kernel
theorem dX10_readSum_46 : decode cX10_readSum 46 = .ok (.getfield 108, 3) := by decide +kernel
theorem dX10_readSum_49 : decode cX10_readSum 49 = .ok (.iconst 1, 1) := by decide +kernel
theorem dX10_readSum_50 : decode cX10_readSum 50 = .ok (.iadd, 1) := by decide +kernel
theorem dX10_readSum_51 : decode cX10_readSum 51 = .ok (.putfield 108, 3) := by decide +kernel
theorem dX10_readSum_54 : decode cX10_readSum 54 = .ok (.aload_n 0, 1) := by decide +kernel
theorem dX10_readSum_55 : decode cX10_readSum 55 = .ok (.invokevirtual 236, 3) := by decide +kernel
theorem dX10_readSum_58 : decode cX10_readSum 58 = .ok (.aload_n 0, 1) := by decide +kernel
theorem dX10_readSum_59 : decode cX10_readSum 59 = .ok (.iload_n 1, 1) := by decide +kernel
theorem dX10_readSum_60 : decode cX10_readSum 60 = .ok (.iconst 0, 1) := by decide +kernel
theorem dX10_readSum_61 : decode cX10_readSum 61 = .ok (.invokevirtual 239, 3) := by decide +kernel
theorem dX10_readSum_64 : decode cX10_readSum 64 = .ok (.goto (-60), 3) := by decide +kernel
theorem dX10_law_51 : decode cX10_law 51 = .ok (.invokevirtual 248, 3) := by decide +kernel
theorem dX10_law_54 : decode cX10_law 54 = .ok (.aload_n 0, 1) := by decide +kernel
theorem dX10_law_55 : decode cX10_law 55 = .ok (.invokevirtual 131, 3) := by decide +kernel
theorem dX10_law_58 : decode cX10_law 58 = .ok (.ifCond .eq 19, 3) := by decide +kernel
theorem dX10_law_61 : decode cX10_law 61 = .ok (.aload_n 0, 1) := by decide +kernel
theorem dX10_law_62 : decode cX10_law 62 = .ok (.invokevirtual 208, 3) := by decide +kernel
theorem dX10_law_65 : decode cX10_law 65 = .ok (.ifCond .eq 12, 3) := by decide +kernel
theorem dX10_law_68 : decode cX10_law 68 = .ok (.aload_n 0, 1) := by decide +kernel
theorem dX10_law_69 : decode cX10_law 69 = .ok (.iconst 1, 1) := by decide +kernel
theorem dX10_law_70 : decode cX10_law 70 = .ok (.aload_n 0, 1) := by decide +kernel
theorem dX10_law_71 : decode cX10_law 71 = .ok (.getfield 108, 3) := by decide +kernel
theorem dX10_law_74 : decode cX10_law 74 = .ok (.invokevirtual 138, 3) := by decide +kernel
theorem dX10_law_38 : decode cX10_law 38 = .ok (.iconst 0, 1) := by decide +kernel
theorem dX10_law_39 : decode cX10_law 39 = .ok (.ireturn, 1) := by decide +kernel
theorem dX10_law_77 : decode cX10_law 77 = .ok (.aload_n 0, 1) := by decide +kernel
theorem dX10_law_78 : decode cX10_law 78 = .ok (.iconst 1, 1) := by decide +kernel
theorem dX10_law_79 : decode cX10_law 79 = .ok (.invokevirtual 229, 3) := by decide +kernel
theorem dX10_law_82 : decode cX10_law 82 = .ok (.istore_n 2, 1) := by decide +kernel
theorem dX10_law_83 : decode cX10_law 83 = .ok (.aload_n 0, 1) := by decide +kernel
theorem dX10_law_84 : decode cX10_law 84 = .ok (.getfield 102, 3) := by decide +kernel
theorem dX10_law_87 : decode cX10_law 87 = .ok (.iconst (-1), 1) := by decide +kernel
theorem dX10_law_88 : decode cX10_law 88 = .ok (.if_icmp .eq 5, 3) := by decide +kernel
theorem dX10_law_93 : decode cX10_law 93 = .ok (.aload_n 0, 1) := by decide +kernel
theorem dX10_law_94 : decode cX10_law 94 = .ok (.aload_n 0, 1) := by decide +kernel
theorem dX10_law_95 : decode cX10_law 95 = .ok (.getfield 233, 3) := by decide +kernel
theorem dX10_law_98 : decode cX10_law 98 = .ok (.putfield 173, 3) := by decide +kernel
theorem dX10_law_101 : decode cX10_law 101 = .ok (.aload_n 0, 1) := by decide +kernel
theorem dX10_law_102 : decode cX10_law 102 = .ok (.aload_n 0, 1) := by decide +kernel
theorem dX10_law_103 : decode cX10_law 103 = .ok (.getfield 41, 3) := by decide +kernel
theorem dX10_law_106 : decode cX10_law 106 = .ok (.aload_n 0, 1) := by decide +kernel
theorem dX10_law_107 : decode cX10_law 107 = .ok (.getfield 47, 3) := by decide +kernel
theorem dX10_law_110 : decode cX10_law 110 = .ok (.aload_n 0, 1) := by decide +kernel
theorem dX10_law_111 : decode cX10_law 111 = .ok (.getfield 233, 3) := by decide +kernel
theorem dX10_law_114 : decode cX10_law 114 = .ok (.invokevirtual 169, 3) := by decide +kernel
theorem dX10_law_117 : decode cX10_law 117 = .ok (.aload_n 0, 1) := by decide +kernel
theorem dX10_law_118 : decode cX10_law 118 = .ok (.aload_n 0, 1) := by decide +kernel
theorem dX10_law_119 : decode cX10_law 119 = .ok (.getfield 44, 3) := by decide +kernel
theorem dX10_law_122 : decode cX10_law 122 = .ok (.aload_n 0, 1) := by decide +kernel
theorem dX10_law_123 : decode cX10_law 123 = .ok (.getfield 50, 3) := by decide +kernel
theorem dX10_law_126 : decode cX10_law 126 = .ok (.aload_n 0, 1) := by decide +kernel
theorem dX10_law_127 : decode cX10_law 127 = .ok (.getfield 233, 3) := by decide +kernel
theorem dX10_law_130 : decode cX10_law 130 = .ok (.invokevirtual 169, 3) := by decide +kernel
theorem dX10_law_133 : decode cX10_law 133 = .ok (.iload_n 2, 1) := by decide +kernel
theorem dX10_law_134 : decode cX10_law 134 = .ok (.ireturn, 1) := by decide +kernel
theorem dX10_law_91 : decode cX10_law 91 = .ok (.iload_n 2, 1) := by decide +kernel
theorem dX10_law_92 : decode cX10_law 92 = .ok (.ireturn, 1) := by decide +kernel
theorem dX10_work_0 : decode cX10_work 0 = .ok (.aload_n 0, 1) := by decide +kernel
theorem dX10_work_1 : decode cX10_work 1 = .ok (.iconst 0, 1) := by decide +kernel
theorem dX10_work_2 : decode cX10_work 2 = .ok (.putfield 3, 3) := by decide +kernel
theorem dX10_work_5 : decode cX10_work 5 = .ok (.aload_n 0, 1) := by decide +kernel
theorem dX10_work_6 : decode cX10_work 6 = .ok (.iload_n 1, 1) := by decide +kernel
theorem dX10_work_7 : decode cX10_work 7 = .ok (.ifCond .lt 22, 3) := by decide +kernel
theorem dX10_work_10 : decode cX10_work 10 = .ok (.iload_n 1, 1) := by decide +kernel
theorem dX10_work_11 : decode cX10_work 11 = .ok (.aload_n 0, 1) := by decide +kernel
theorem dX10_work_12 : decode cX10_work 12 = .ok (.getfield 99, 3) := by decide +kernel
theorem dX10_work_15 : decode cX10_work 15 = .ok (.if_icmp .gt 14, 3) := by decide +kernel
theorem dX10_work_18 : decode cX10_work 18 = .ok (.iload_n 1, 1) := by decide +kernel
theorem dX10_work_19 : decode cX10_work 19 = .ok (.sipush 150, 3) := by decide +kernel
theorem dX10_work_22 : decode cX10_work 22 = .ok (.if_icmp .gt 7, 3) := by decide +kernel
theorem dX10_work_25 : decode cX10_work 25 = .ok (.iconst 1, 1) := by decide +kernel
theorem dX10_work_26 : decode cX10_work 26 = .ok (.goto 4, 3) := by decide +kernel
theorem dX10_work_29 : decode cX10_work 29 = .ok (.iconst 0, 1) := by decide +kernel
theorem dX10_work_30 : decode cX10_work 30 = .ok (.iconst 1, 1) := by decide +kernel
theorem dX10_work_31 : decode cX10_work 31 = .ok (.iconst 1, 1) := by decide +kernel
theorem dX10_work_32 : decode cX10_work 32 = .ok (.invokevirtual 200, 3) := by decide +kernel
theorem dX10_work_35 : decode cX10_work 35 = .ok (.ifCond .ne 5, 3) := by decide +kernel
theorem dX10_work_40 : decode cX10_work 40 = .ok (.aload_n 0, 1) := by decide +kernel
theorem dX10_work_41 : decode cX10_work 41 = .ok (.iload_n 1, 1) := by decide +kernel
theorem dX10_work_42 : decode cX10_work 42 = .ok (.invokevirtual 204, 3) := by decide +kernel
theorem dX10_work_45 : decode cX10_work 45 = .ok (.aload_n 0, 1) := by decide +kernel
theorem dX10_work_46 : decode cX10_work 46 = .ok (.getfield 179, 3) := by decide +kernel
theorem dX10_work_49 : decode cX10_work 49 = .ok (.bipush 16, 2) := by decide +kernel
theorem dX10_work_51 : decode cX10_work 51 = .ok (.if_icmp .ne 12, 3) := by decide +kernel
theorem dX10_work_63 : decode cX10_work 63 = .ok (.aload_n 0, 1) := by decide +kernel
theorem dX10_work_64 : decode cX10_work 64 = .ok (.iconst 0, 1) := by decide +kernel
theorem dX10_work_65 : decode cX10_work 65 = .ok (.putfield 286, 3) := by decide +kernel
theorem dX10_work_54 : decode cX10_work 54 = .ok (.aload_n 0, 1) := by decide +kernel
theorem dX10_work_55 : decode cX10_work 55 = .ok (.iconst 0, 1) := by decide +kernel
theorem dX10_work_56 : decode cX10_work 56 = .ok (.invokevirtual 229, 3) := by decide +kernel
theorem dX10_work_59 : decode cX10_work 59 = .ok (.pop, 1) := by decide +kernel
theorem dX10_work_60 : decode cX10_work 60 = .ok (.bipush (-20), 2) := by decide +kernel
theorem dX10_work_62 : decode cX10_work 62 = .ok (.ireturn, 1) := by decide +kernel
theorem dX10_work_38 : decode cX10_work 38 = .ok (.iconst 0, 1) := by decide +kernel
theorem dX10_work_39 : decode cX10_work 39 = .ok (.ireturn, 1) := by decide +kernel
theorem dX10_work_68 : decode cX10_work 68 = .ok (.aload_n 0, 1) := by decide +kernel
theorem dX10_work_69 : decode cX10_work 69 = .ok (.invokevirtual 131, 3) := by decide +kernel
theorem dX10_work_72 : decode cX10_work 72 = .ok (.ifCond .eq 17, 3) := by decide +kernel
theorem dX10_work_75 : decode cX10_work 75 = .ok (.aload_n 0, 1) := by decide +kernel
theorem dX10_work_76 : decode cX10_work 76 = .ok (.invokevirtual 208, 3) := by decide +kernel
theorem dX10_work_79 : decode cX10_work 79 = .ok (.ifCond .eq 10, 3) := by decide +kernel
theorem dX10_work_82 : decode cX10_work 82 = .ok (.aload_n 0, 1) := by decide +kernel
theorem dX10_readStep_0 : decode cX10_readStep 0 = .ok (.aload_n 0, 1) := by decide +kernel
theorem dX10_readStep_1 : decode cX10_readStep 1 = .ok (.invokevirtual 211, 3) := by decide +kernel
theorem dX10_stepOf_0 : decode cX10_stepOf 0 = .ok (.iload_n 0, 1) := by decide +kernel
theorem dX10_stepOf_1 : decode cX10_stepOf 1 = .ok (.ldc_w 289, 3) := by decide +kernel
theorem dX10_stepOf_4 : decode cX10_stepOf 4 = .ok (.invokestatic 189, 3) := by decide +kernel
theorem dX10_stepOf_7 : decode cX10_stepOf 7 = .ok (.if_icmp .ne 7, 3) := by decide +kernel
theorem dX10_stepOf_14 : decode cX10_stepOf 14 = .ok (.iload_n 0, 1) := by decide +kernel
theorem dX10_stepOf_15 : decode cX10_stepOf 15 = .ok (.ldc_w 291, 3) := by decide +kernel
theorem dX10_stepOf_18 : decode cX10_stepOf 18 = .ok (.invokestatic 189, 3) := by decide +kernel
theorem dX10_stepOf_21 : decode cX10_stepOf 21 = .ok (.if_icmp .ne 7, 3) := by decide +kernel
theorem dX10_stepOf_28 : decode cX10_stepOf 28 = .ok (.iload_n 0, 1) := by decide +kernel
theorem dX10_stepOf_29 : decode cX10_stepOf 29 = .ok (.ldc_w 293, 3) := by decide +kernel
theorem dX10_stepOf_32 : decode cX10_stepOf 32 = .ok (.invokestatic 189, 3) := by decide +kernel
theorem dX10_stepOf_35 : decode cX10_stepOf 35 = .ok (.if_icmp .ne 7, 3) := by decide +kernel
theorem dX10_stepOf_42 : decode cX10_stepOf 42 = .ok (.iload_n 0, 1) := by decide +kernel
theorem dX10_stepOf_43 : decode cX10_stepOf 43 = .ok (.ldc_w 295, 3) := by decide +kernel
theorem dX10_stepOf_46 : decode cX10_stepOf 46 = .ok (.invokestatic 189, 3) := by decide +kernel
theorem dX10_stepOf_49 : decode cX10_stepOf 49 = .ok (.if_icmp .ne 7, 3) := by decide +kernel
theorem dX10_stepOf_56 : decode cX10_stepOf 56 = .ok (.iload_n 0, 1) := by decide +kernel
theorem dX10_stepOf_57 : decode cX10_stepOf 57 = .ok (.ldc_w 267, 3) := by decide +kernel
theorem dX10_stepOf_60 : decode cX10_stepOf 60 = .ok (.invokestatic 189, 3) := by decide +kernel
theorem dX10_stepOf_63 : decode cX10_stepOf 63 = .ok (.if_icmp .ne 7, 3) := by decide +kernel
theorem dX10_stepOf_70 : decode cX10_stepOf 70 = .ok (.iload_n 0, 1) := by decide +kernel
theorem dX10_stepOf_71 : decode cX10_stepOf 71 = .ok (.ldc_w 297, 3) := by decide +kernel
theorem dX10_stepOf_74 : decode cX10_stepOf 74 = .ok (.invokestatic 189, 3) := by decide +kernel
theorem dX10_stepOf_77 : decode cX10_stepOf 77 = .ok (.if_icmp .ne 7, 3) := by decide +kernel
theorem dX10_stepOf_84 : decode cX10_stepOf 84 = .ok (.iconst (-1), 1) := by decide +kernel
theorem dX10_stepOf_85 : decode cX10_stepOf 85 = .ok (.ireturn, 1) := by decide +kernel
theorem dX10_stepOf_80 : decode cX10_stepOf 80 = .ok (.iconst 5, 1) := by decide +kernel
theorem dX10_stepOf_81 : decode cX10_stepOf 81 = .ok (.goto 4, 3) := by decide +kernel
theorem dX10_stepOf_66 : decode cX10_stepOf 66 = .ok (.iconst 4, 1) := by decide +kernel
theorem dX10_stepOf_67 : decode cX10_stepOf 67 = .ok (.goto 18, 3) := by decide +kernel
theorem dX10_stepOf_52 : decode cX10_stepOf 52 = .ok (.iconst 3, 1) := by decide +kernel
theorem dX10_stepOf_53 : decode cX10_stepOf 53 = .ok (.goto 32, 3) := by decide +kernel
theorem dX10_stepOf_38 : decode cX10_stepOf 38 = .ok (.iconst 2, 1) := by decide +kernel
theorem dX10_stepOf_39 : decode cX10_stepOf 39 = .ok (.goto 46, 3) := by decide +kernel
theorem dX10_stepOf_24 : decode cX10_stepOf 24 = .ok (.iconst 1, 1) := by decide +kernel
theorem dX10_stepOf_25 : decode cX10_stepOf 25 = .ok (.goto 60, 3) := by decide +kernel
theorem dX10_stepOf_10 : decode cX10_stepOf 10 = .ok (.iconst 0, 1) := by decide +kernel
theorem dX10_stepOf_11 : decode cX10_stepOf 11 = .ok (.goto 74, 3) := by decide +kernel
theorem dX10_readStep_4 : decode cX10_readStep 4 = .ok (.invokestatic 299, 3) := by decide +kernel
theorem dX10_readStep_7 : decode cX10_readStep 7 = .ok (.istore_n 1, 1) := by decide +kernel
theorem dX10_readStep_8 : decode cX10_readStep 8 = .ok (.iload_n 1, 1) := by decide +kernel
theorem dX10_readStep_9 : decode cX10_readStep 9 = .ok (.iconst (-1), 1) := by decide +kernel
theorem dX10_readStep_10 : decode cX10_readStep 10 = .ok (.if_icmp .ne 15, 3) := by decide +kernel
theorem dX10_readStep_25 : decode cX10_readStep 25 = .ok (.iload_n 1, 1) := by decide +kernel
theorem dX10_readStep_26 : decode cX10_readStep 26 = .ok (.iconst 5, 1) := by decide +kernel
theorem dX10_readStep_27 : decode cX10_readStep 27 = .ok (.if_icmp .ne 95, 3) := by decide +kernel
theorem dX10_readStep_122 : decode cX10_readStep 122 = .ok (.aload_n 0, 1) := by decide +kernel
theorem dX10_readStep_123 : decode cX10_readStep 123 = .ok (.invokevirtual 220, 3) := by decide +kernel
theorem dX10_readStep_126 : decode cX10_readStep 126 = .ok (.iload_n 1, 1) := by decide +kernel
theorem dX10_readStep_127 : decode cX10_readStep 127 = .ok (.iconst 4, 1) := by decide +kernel
theorem dX10_readStep_128 : decode cX10_readStep 128 = .ok (.if_icmp .ne 7, 3) := by decide +kernel
theorem dX10_readStep_135 : decode cX10_readStep 135 = .ok (.aload_n 0, 1) := by decide +kernel
theorem dX10_readStep_136 : decode cX10_readStep 136 = .ok (.iconst 0, 1) := by decide +kernel
theorem dX10_readStep_137 : decode cX10_readStep 137 = .ok (.iload_n 1, 1) := by decide +kernel
theorem dX10_readStep_138 : decode cX10_readStep 138 = .ok (.iconst 2, 1) := by decide +kernel
theorem dX10_readStep_139 : decode cX10_readStep 139 = .ok (.if_icmp .ge 10, 3) := by decide +kernel
theorem dX10_readStep_149 : decode cX10_readStep 149 = .ok (.aload_n 0, 1) := by decide +kernel
theorem dX10_readStep_150 : decode cX10_readStep 150 = .ok (.getfield 163, 3) := by decide +kernel
theorem dX10_readStep_142 : decode cX10_readStep 142 = .ok (.aload_n 0, 1) := by decide +kernel
theorem dX10_readStep_143 : decode cX10_readStep 143 = .ok (.getfield 160, 3) := by decide +kernel
theorem dX10_readStep_146 : decode cX10_readStep 146 = .ok (.goto 7, 3) := by decide +kernel
theorem dX10_readStep_131 : decode cX10_readStep 131 = .ok (.iconst 0, 1) := by decide +kernel
theorem dX10_readStep_132 : decode cX10_readStep 132 = .ok (.goto 26, 3) := by decide +kernel
theorem dX10_readStep_30 : decode cX10_readStep 30 = .ok (.aload_n 0, 1) := by decide +kernel
theorem dX10_readStep_31 : decode cX10_readStep 31 = .ok (.iconst 5, 1) := by decide +kernel
theorem dX10_readStep_32 : decode cX10_readStep 32 = .ok (.invokevirtual 245, 3) := by decide +kernel
theorem dX10_readStep_35 : decode cX10_readStep 35 = .ok (.aload_n 0, 1) := by decide +kernel
theorem dX10_readStep_36 : decode cX10_readStep 36 = .ok (.iconst 0, 1) := by decide +kernel
theorem dX10_readStep_37 : decode cX10_readStep 37 = .ok (.bipush 40, 2) := by decide +kernel
theorem dX10_readStep_39 : decode cX10_readStep 39 = .ok (.invokevirtual 196, 3) := by decide +kernel
theorem dX10_readStep_42 : decode cX10_readStep 42 = .ok (.istore_n 2, 1) := by decide +kernel
theorem dX10_readStep_43 : decode cX10_readStep 43 = .ok (.aload_n 0, 1) := by decide +kernel
theorem dX10_readStep_44 : decode cX10_readStep 44 = .ok (.bipush 91, 2) := by decide +kernel
theorem dX10_readStep_46 : decode cX10_readStep 46 = .ok (.invokevirtual 226, 3) := by decide +kernel
theorem dX10_readStep_49 : decode cX10_readStep 49 = .ok (.aload_n 0, 1) := by decide +kernel
theorem dX10_readStep_50 : decode cX10_readStep 50 = .ok (.getfield 286, 3) := by decide +kernel
theorem dX10_readStep_53 : decode cX10_readStep 53 = .ok (.istore_n 3, 1) := by decide +kernel
theorem dX10_readStep_54 : decode cX10_readStep 54 = .ok (.aload_n 0, 1) := by decide +kernel
theorem dX10_readStep_55 : decode cX10_readStep 55 = .ok (.iconst 5, 1) := by decide +kernel
theorem dX10_readStep_56 : decode cX10_readStep 56 = .ok (.iload_n 2, 1) := by decide +kernel
theorem dX10_readStep_57 : decode cX10_readStep 57 = .ok (.iconst 0, 1) := by decide +kernel
theorem dX10_tellsStep_0 : decode cX10_tellsStep 0 = .ok (.aload_n 0, 1) := by decide +kernel
theorem dX10_tellsStep_1 : decode cX10_tellsStep 1 = .ok (.invokevirtual 131, 3) := by decide +kernel
theorem dX10_tellsStep_4 : decode cX10_tellsStep 4 = .ok (.ifCond .ne 4, 3) := by decide +kernel
theorem dX10_tellsStep_8 : decode cX10_tellsStep 8 = .ok (.aload_n 0, 1) := by decide +kernel
theorem dX10_tellsStep_9 : decode cX10_tellsStep 9 = .ok (.getfield 59, 3) := by decide +kernel
theorem dX10_tellsStep_12 : decode cX10_tellsStep 12 = .ok (.aload_n 0, 1) := by decide +kernel
theorem dX10_tellsStep_13 : decode cX10_tellsStep 13 = .ok (.getfield 286, 3) := by decide +kernel
theorem dX10_tellsStep_16 : decode cX10_tellsStep 16 = .ok (.iload_n 1, 1) := by decide +kernel
theorem dX10_tellsStep_17 : decode cX10_tellsStep 17 = .ok (.iastore, 1) := by decide +kernel
theorem dX10_tellsStep_18 : decode cX10_tellsStep 18 = .ok (.aload_n 0, 1) := by decide +kernel
theorem dX10_tellsStep_19 : decode cX10_tellsStep 19 = .ok (.getfield 59, 3) := by decide +kernel
theorem dX10_tellsStep_22 : decode cX10_tellsStep 22 = .ok (.aload_n 0, 1) := by decide +kernel
theorem dX10_tellsStep_23 : decode cX10_tellsStep 23 = .ok (.getfield 286, 3) := by decide +kernel
theorem dX10_tellsStep_26 : decode cX10_tellsStep 26 = .ok (.iconst 1, 1) := by decide +kernel
theorem dX10_tellsStep_27 : decode cX10_tellsStep 27 = .ok (.iadd, 1) := by decide +kernel
theorem dX10_tellsStep_28 : decode cX10_tellsStep 28 = .ok (.iload_n 2, 1) := by decide +kernel
theorem dX10_tellsStep_29 : decode cX10_tellsStep 29 = .ok (.iastore, 1) := by decide +kernel
theorem dX10_tellsStep_30 : decode cX10_tellsStep 30 = .ok (.aload_n 0, 1) := by decide +kernel
theorem dX10_tellsStep_31 : decode cX10_tellsStep 31 = .ok (.getfield 59, 3) := by decide +kernel
theorem dX10_tellsStep_34 : decode cX10_tellsStep 34 = .ok (.aload_n 0, 1) := by decide +kernel
theorem dX10_tellsStep_35 : decode cX10_tellsStep 35 = .ok (.getfield 286, 3) := by decide +kernel
theorem dX10_tellsStep_38 : decode cX10_tellsStep 38 = .ok (.iconst 2, 1) := by decide +kernel
theorem dX10_tellsStep_39 : decode cX10_tellsStep 39 = .ok (.iadd, 1) := by decide +kernel
theorem dX10_tellsStep_40 : decode cX10_tellsStep 40 = .ok (.iload_n 3, 1) := by decide +kernel
theorem dX10_tellsStep_41 : decode cX10_tellsStep 41 = .ok (.iastore, 1) := by decide +kernel
theorem dX10_tellsStep_42 : decode cX10_tellsStep 42 = .ok (.aload_n 0, 1) := by decide +kernel
theorem dX10_tellsStep_43 : decode cX10_tellsStep 43 = .ok (.dup, 1) := by decide +kernel
theorem dX10_tellsStep_44 : decode cX10_tellsStep 44 = .ok (.getfield 286, 3) := by decide +kernel
theorem dX10_tellsStep_47 : decode cX10_tellsStep 47 = .ok (.iconst 3, 1) := by decide +kernel
theorem dX10_tellsStep_48 : decode cX10_tellsStep 48 = .ok (.iadd, 1) := by decide +kernel
theorem dX10_tellsStep_49 : decode cX10_tellsStep 49 = .ok (.putfield 286, 3) := by decide +kernel
theorem dX10_tellsStep_52 : decode cX10_tellsStep 52 = .ok (.return_, 1) := by decide +kernel
theorem dX10_tellsStep_7 : decode cX10_tellsStep 7 = .ok (.return_, 1) := by decide +kernel
theorem dX10_readStep_58 : decode cX10_readStep 58 = .ok (.invokevirtual 302, 3) := by decide +kernel
theorem dX10_readStep_13 : decode cX10_readStep 13 = .ok (.aload_n 0, 1) := by decide +kernel
theorem dX10_readStep_14 : decode cX10_readStep 14 = .ok (.iconst 1, 1) := by decide +kernel
theorem dX10_readStep_15 : decode cX10_readStep 15 = .ok (.aload_n 0, 1) := by decide +kernel
theorem dX10_readStep_16 : decode cX10_readStep 16 = .ok (.getfield 108, 3) := by decide +kernel
theorem dX10_readStep_19 : decode cX10_readStep 19 = .ok (.invokevirtual 138, 3) := by decide +kernel
theorem dX10_readStep_22 : decode cX10_readStep 22 = .ok (.goto 182, 3) := by decide +kernel
theorem dX10_readStep_153 : decode cX10_readStep 153 = .ok (.iconst 1, 1) := by decide +kernel
theorem dX10_readStep_154 : decode cX10_readStep 154 = .ok (.isub, 1) := by decide +kernel
theorem dX10_readStep_155 : decode cX10_readStep 155 = .ok (.invokevirtual 196, 3) := by decide +kernel
theorem dX10_readStep_158 : decode cX10_readStep 158 = .ok (.istore_n 2, 1) := by decide +kernel
theorem dX10_readStep_159 : decode cX10_readStep 159 = .ok (.aload_n 0, 1) := by decide +kernel
theorem dX10_readStep_160 : decode cX10_readStep 160 = .ok (.iload_n 1, 1) := by decide +kernel
theorem dX10_readStep_161 : decode cX10_readStep 161 = .ok (.iload_n 2, 1) := by decide +kernel
theorem dX10_readStep_162 : decode cX10_readStep 162 = .ok (.iload_n 1, 1) := by decide +kernel
theorem dX10_readStep_163 : decode cX10_readStep 163 = .ok (.iconst 2, 1) := by decide +kernel
theorem dX10_readStep_164 : decode cX10_readStep 164 = .ok (.if_icmp .ge 17, 3) := by decide +kernel
theorem dX10_readStep_181 : decode cX10_readStep 181 = .ok (.iload_n 1, 1) := by decide +kernel
theorem dX10_readStep_182 : decode cX10_readStep 182 = .ok (.iconst 3, 1) := by decide +kernel
theorem dX10_readStep_183 : decode cX10_readStep 183 = .ok (.if_icmp .ne 17, 3) := by decide +kernel
theorem dX10_readStep_200 : decode cX10_readStep 200 = .ok (.iconst 0, 1) := by decide +kernel
theorem dX10_readStep_186 : decode cX10_readStep 186 = .ok (.aload_n 0, 1) := by decide +kernel
theorem dX10_readStep_187 : decode cX10_readStep 187 = .ok (.iconst 0, 1) := by decide +kernel
theorem dX10_readStep_188 : decode cX10_readStep 188 = .ok (.aload_n 0, 1) := by decide +kernel
theorem dX10_readStep_189 : decode cX10_readStep 189 = .ok (.getfield 160, 3) := by decide +kernel
theorem dX10_readStep_192 : decode cX10_readStep 192 = .ok (.iconst 1, 1) := by decide +kernel
theorem dX10_readStep_193 : decode cX10_readStep 193 = .ok (.isub, 1) := by decide +kernel
theorem dX10_readStep_194 : decode cX10_readStep 194 = .ok (.invokevirtual 196, 3) := by decide +kernel
theorem dX10_readStep_197 : decode cX10_readStep 197 = .ok (.goto 4, 3) := by decide +kernel
theorem dX10_readStep_167 : decode cX10_readStep 167 = .ok (.aload_n 0, 1) := by decide +kernel
theorem dX10_readStep_168 : decode cX10_readStep 168 = .ok (.iconst 0, 1) := by decide +kernel
theorem dX10_readStep_169 : decode cX10_readStep 169 = .ok (.aload_n 0, 1) := by decide +kernel
theorem dX10_readStep_170 : decode cX10_readStep 170 = .ok (.getfield 157, 3) := by decide +kernel
theorem dX10_readStep_173 : decode cX10_readStep 173 = .ok (.iconst 1, 1) := by decide +kernel
theorem dX10_readStep_174 : decode cX10_readStep 174 = .ok (.isub, 1) := by decide +kernel
theorem dX10_readStep_175 : decode cX10_readStep 175 = .ok (.invokevirtual 196, 3) := by decide +kernel
theorem dX10_readStep_178 : decode cX10_readStep 178 = .ok (.goto 23, 3) := by decide +kernel
theorem dX10_readStep_61 : decode cX10_readStep 61 = .ok (.aload_n 0, 1) := by decide +kernel
theorem dX10_readStep_62 : decode cX10_readStep 62 = .ok (.invokevirtual 131, 3) := by decide +kernel
theorem dX10_readStep_65 : decode cX10_readStep 65 = .ok (.ifCond .eq 19, 3) := by decide +kernel
theorem dX10_readStep_68 : decode cX10_readStep 68 = .ok (.aload_n 0, 1) := by decide +kernel
theorem dX10_readStep_69 : decode cX10_readStep 69 = .ok (.invokevirtual 114, 3) := by decide +kernel
theorem dX10_readStep_72 : decode cX10_readStep 72 = .ok (.bipush 93, 2) := by decide +kernel
theorem dX10_readStep_74 : decode cX10_readStep 74 = .ok (.if_icmp .eq 10, 3) := by decide +kernel
theorem dX10_readStep_77 : decode cX10_readStep 77 = .ok (.aload_n 0, 1) := by decide +kernel
theorem dX10_readStep_78 : decode cX10_readStep 78 = .ok (.invokevirtual 306, 3) := by decide +kernel
theorem dX10_readStep_81 : decode cX10_readStep 81 = .ok (.goto (-20), 3) := by decide +kernel
theorem dX10_readStep_204 : decode cX10_readStep 204 = .ok (.aload_n 0, 1) := by decide +kernel
theorem dX10_readStep_205 : decode cX10_readStep 205 = .ok (.bipush 59, 2) := by decide +kernel
theorem dX10_readStep_207 : decode cX10_readStep 207 = .ok (.invokevirtual 226, 3) := by decide +kernel
theorem dX10_readStep_210 : decode cX10_readStep 210 = .ok (.return_, 1) := by decide +kernel
theorem dX10_readStep_201 : decode cX10_readStep 201 = .ok (.invokevirtual 302, 3) := by decide +kernel
theorem dX10_readStep_84 : decode cX10_readStep 84 = .ok (.aload_n 0, 1) := by decide +kernel
theorem dX10_readStep_85 : decode cX10_readStep 85 = .ok (.bipush 93, 2) := by decide +kernel
theorem dX10_readStep_87 : decode cX10_readStep 87 = .ok (.invokevirtual 226, 3) := by decide +kernel
theorem dX10_readStep_90 : decode cX10_readStep 90 = .ok (.aload_n 0, 1) := by decide +kernel
theorem dX10_readStep_91 : decode cX10_readStep 91 = .ok (.dup, 1) := by decide +kernel
theorem dX10_readStep_92 : decode cX10_readStep 92 = .ok (.getfield 142, 3) := by decide +kernel
theorem dX10_readStep_95 : decode cX10_readStep 95 = .ok (.iconst 1, 1) := by decide +kernel
theorem dX10_readStep_96 : decode cX10_readStep 96 = .ok (.isub, 1) := by decide +kernel
theorem dX10_readStep_97 : decode cX10_readStep 97 = .ok (.putfield 142, 3) := by decide +kernel
theorem dX10_readStep_100 : decode cX10_readStep 100 = .ok (.aload_n 0, 1) := by decide +kernel
theorem dX10_readStep_101 : decode cX10_readStep 101 = .ok (.invokevirtual 131, 3) := by decide +kernel
theorem dX10_readStep_104 : decode cX10_readStep 104 = .ok (.ifCond .eq 15, 3) := by decide +kernel
theorem dX10_readStep_107 : decode cX10_readStep 107 = .ok (.aload_n 0, 1) := by decide +kernel
theorem dX10_readStep_108 : decode cX10_readStep 108 = .ok (.getfield 59, 3) := by decide +kernel
theorem dX10_readStep_111 : decode cX10_readStep 111 = .ok (.iload_n 3, 1) := by decide +kernel
theorem dX10_readStep_112 : decode cX10_readStep 112 = .ok (.iconst 2, 1) := by decide +kernel
theorem dX10_readStep_113 : decode cX10_readStep 113 = .ok (.iadd, 1) := by decide +kernel
theorem dX10_readStep_114 : decode cX10_readStep 114 = .ok (.aload_n 0, 1) := by decide +kernel
theorem dX10_readStep_115 : decode cX10_readStep 115 = .ok (.getfield 286, 3) := by decide +kernel
theorem dX10_readStep_118 : decode cX10_readStep 118 = .ok (.iastore, 1) := by decide +kernel
theorem dX10_readStep_119 : decode cX10_readStep 119 = .ok (.goto 85, 3) := by decide +kernel
theorem dX10_work_83 : decode cX10_work 83 = .ok (.invokevirtual 306, 3) := by decide +kernel
theorem dX10_work_86 : decode cX10_work 86 = .ok (.goto (-18), 3) := by decide +kernel
theorem dX10_work_89 : decode cX10_work 89 = .ok (.aload_n 0, 1) := by decide +kernel
theorem dX10_work_90 : decode cX10_work 90 = .ok (.iconst 0, 1) := by decide +kernel
theorem dX10_work_91 : decode cX10_work 91 = .ok (.invokevirtual 229, 3) := by decide +kernel
theorem dX10_work_94 : decode cX10_work 94 = .ok (.istore_n 2, 1) := by decide +kernel
theorem dX10_work_95 : decode cX10_work 95 = .ok (.aload_n 0, 1) := by decide +kernel
theorem dX10_work_96 : decode cX10_work 96 = .ok (.getfield 102, 3) := by decide +kernel
theorem dX10_work_99 : decode cX10_work 99 = .ok (.iconst (-1), 1) := by decide +kernel
theorem dX10_work_100 : decode cX10_work 100 = .ok (.if_icmp .eq 5, 3) := by decide +kernel
theorem dX10_work_105 : decode cX10_work 105 = .ok (.aload_n 0, 1) := by decide +kernel
theorem dX10_work_106 : decode cX10_work 106 = .ok (.aload_n 0, 1) := by decide +kernel
theorem dX10_work_107 : decode cX10_work 107 = .ok (.getfield 59, 3) := by decide +kernel
theorem dX10_work_110 : decode cX10_work 110 = .ok (.aload_n 0, 1) := by decide +kernel
theorem dX10_work_111 : decode cX10_work 111 = .ok (.getfield 62, 3) := by decide +kernel
theorem dX10_work_114 : decode cX10_work 114 = .ok (.aload_n 0, 1) := by decide +kernel
theorem dX10_work_115 : decode cX10_work 115 = .ok (.getfield 286, 3) := by decide +kernel
theorem dX10_work_118 : decode cX10_work 118 = .ok (.invokevirtual 169, 3) := by decide +kernel
theorem dX10_work_121 : decode cX10_work 121 = .ok (.iconst 0, 1) := by decide +kernel
theorem dX10_work_122 : decode cX10_work 122 = .ok (.istore_n 3, 1) := by decide +kernel
theorem dX10_work_103 : decode cX10_work 103 = .ok (.iload_n 2, 1) := by decide +kernel
theorem dX10_work_104 : decode cX10_work 104 = .ok (.ireturn, 1) := by decide +kernel
theorem dX10_work_123 : decode cX10_work 123 = .ok (.iload_n 3, 1) := by decide +kernel
theorem dX10_work_124 : decode cX10_work 124 = .ok (.bipush 95, 2) := by decide +kernel
theorem dX10_work_126 : decode cX10_work 126 = .ok (.if_icmp .ge 29, 3) := by decide +kernel
theorem dX10_work_155 : decode cX10_work 155 = .ok (.aload_n 0, 1) := by decide +kernel
theorem dX10_work_156 : decode cX10_work 156 = .ok (.dup, 1) := by decide +kernel
theorem dX10_work_157 : decode cX10_work 157 = .ok (.getfield 179, 3) := by decide +kernel
theorem dX10_work_160 : decode cX10_work 160 = .ok (.iconst 1, 1) := by decide +kernel
theorem dX10_work_161 : decode cX10_work 161 = .ok (.iadd, 1) := by decide +kernel
theorem dX10_work_162 : decode cX10_work 162 = .ok (.putfield 179, 3) := by decide +kernel
theorem dX10_work_165 : decode cX10_work 165 = .ok (.aload_n 0, 1) := by decide +kernel
theorem dX10_take_0 : decode cX10_take 0 = .ok (.aload_n 0, 1) := by decide +kernel
theorem dX10_take_1 : decode cX10_take 1 = .ok (.aload_n 0, 1) := by decide +kernel
theorem dX10_take_2 : decode cX10_take 2 = .ok (.getfield 65, 3) := by decide +kernel
theorem dX10_take_5 : decode cX10_take 5 = .ok (.aload_n 0, 1) := by decide +kernel
theorem dX10_take_6 : decode cX10_take 6 = .ok (.getfield 68, 3) := by decide +kernel
theorem dX10_take_9 : decode cX10_take 9 = .ok (.bipush 95, 2) := by decide +kernel
theorem dX10_take_11 : decode cX10_take 11 = .ok (.invokevirtual 169, 3) := by decide +kernel
theorem dX10_take_14 : decode cX10_take 14 = .ok (.return_, 1) := by decide +kernel
theorem dX10_work_166 : decode cX10_work 166 = .ok (.invokevirtual 309, 3) := by decide +kernel
theorem dX10_work_169 : decode cX10_work 169 = .ok (.aload_n 0, 1) := by decide +kernel
theorem dX10_work_170 : decode cX10_work 170 = .ok (.iconst 0, 1) := by decide +kernel
theorem dX10_work_171 : decode cX10_work 171 = .ok (.putfield 312, 3) := by decide +kernel
theorem dX10_work_174 : decode cX10_work 174 = .ok (.aload_n 0, 1) := by decide +kernel
theorem dX10_work_175 : decode cX10_work 175 = .ok (.iconst 0, 1) := by decide +kernel
theorem dX10_work_176 : decode cX10_work 176 = .ok (.putfield 315, 3) := by decide +kernel
theorem dX10_work_179 : decode cX10_work 179 = .ok (.aload_n 0, 1) := by decide +kernel
theorem dX10_work_180 : decode cX10_work 180 = .ok (.iconst 0, 1) := by decide +kernel
theorem dX10_work_181 : decode cX10_work 181 = .ok (.putfield 318, 3) := by decide +kernel
theorem dX10_work_184 : decode cX10_work 184 = .ok (.aload_n 0, 1) := by decide +kernel
theorem dX10_work_185 : decode cX10_work 185 = .ok (.iconst 0, 1) := by decide +kernel
theorem dX10_work_186 : decode cX10_work 186 = .ok (.aload_n 0, 1) := by decide +kernel
theorem dX10_work_187 : decode cX10_work 187 = .ok (.getfield 286, 3) := by decide +kernel
theorem dX10_goesSteps_0 : decode cX10_goesSteps 0 = .ok (.iload_n 1, 1) := by decide +kernel
theorem dX10_goesSteps_1 : decode cX10_goesSteps 1 = .ok (.istore_n 3, 1) := by decide +kernel
theorem dX10_goesSteps_2 : decode cX10_goesSteps 2 = .ok (.iload_n 3, 1) := by decide +kernel
theorem dX10_goesSteps_3 : decode cX10_goesSteps 3 = .ok (.iload_n 2, 1) := by decide +kernel
theorem dX10_goesSteps_4 : decode cX10_goesSteps 4 = .ok (.if_icmp .ge 148, 3) := by decide +kernel
theorem dX10_goesSteps_152 : decode cX10_goesSteps 152 = .ok (.return_, 1) := by decide +kernel
theorem dX10_goesSteps_7 : decode cX10_goesSteps 7 = .ok (.aload_n 0, 1) := by decide +kernel
theorem dX10_goesSteps_8 : decode cX10_goesSteps 8 = .ok (.getfield 312, 3) := by decide +kernel
theorem dX10_goesSteps_11 : decode cX10_goesSteps 11 = .ok (.sipush 200, 3) := by decide +kernel
theorem dX10_goesSteps_14 : decode cX10_goesSteps 14 = .ok (.if_icmp .ge 138, 3) := by decide +kernel
theorem dX10_goesSteps_17 : decode cX10_goesSteps 17 = .ok (.aload_n 0, 1) := by decide +kernel
theorem dX10_goesSteps_18 : decode cX10_goesSteps 18 = .ok (.dup, 1) := by decide +kernel
theorem dX10_goesSteps_19 : decode cX10_goesSteps 19 = .ok (.getfield 312, 3) := by decide +kernel
theorem dX10_goesSteps_22 : decode cX10_goesSteps 22 = .ok (.iconst 1, 1) := by decide +kernel
theorem dX10_goesSteps_23 : decode cX10_goesSteps 23 = .ok (.iadd, 1) := by decide +kernel
theorem dX10_goesSteps_24 : decode cX10_goesSteps 24 = .ok (.putfield 312, 3) := by decide +kernel
theorem dX10_goesSteps_27 : decode cX10_goesSteps 27 = .ok (.aload_n 0, 1) := by decide +kernel
theorem dX10_goesSteps_28 : decode cX10_goesSteps 28 = .ok (.getfield 62, 3) := by decide +kernel
theorem dX10_goesSteps_31 : decode cX10_goesSteps 31 = .ok (.iload_n 3, 1) := by decide +kernel
theorem dX10_goesSteps_32 : decode cX10_goesSteps 32 = .ok (.iaload, 1) := by decide +kernel
theorem dX10_goesSteps_33 : decode cX10_goesSteps 33 = .ok (.iconst 5, 1) := by decide +kernel
theorem dX10_goesSteps_34 : decode cX10_goesSteps 34 = .ok (.if_icmp .ne 60, 3) := by decide +kernel
theorem dX10_goesSteps_94 : decode cX10_goesSteps 94 = .ok (.aload_n 0, 1) := by decide +kernel
theorem dX10_goesSteps_95 : decode cX10_goesSteps 95 = .ok (.aload_n 0, 1) := by decide +kernel
theorem dX10_goesSteps_96 : decode cX10_goesSteps 96 = .ok (.getfield 62, 3) := by decide +kernel
theorem dX10_goesSteps_99 : decode cX10_goesSteps 99 = .ok (.iload_n 3, 1) := by decide +kernel
theorem dX10_goesSteps_100 : decode cX10_goesSteps 100 = .ok (.iaload, 1) := by decide +kernel
theorem dX10_goesSteps_101 : decode cX10_goesSteps 101 = .ok (.aload_n 0, 1) := by decide +kernel
theorem dX10_goesSteps_102 : decode cX10_goesSteps 102 = .ok (.getfield 62, 3) := by decide +kernel
theorem dX10_goesSteps_105 : decode cX10_goesSteps 105 = .ok (.iload_n 3, 1) := by decide +kernel
theorem dX10_goesSteps_106 : decode cX10_goesSteps 106 = .ok (.iconst 1, 1) := by decide +kernel
theorem dX10_goesSteps_107 : decode cX10_goesSteps 107 = .ok (.iadd, 1) := by decide +kernel
theorem dX10_goesSteps_108 : decode cX10_goesSteps 108 = .ok (.iaload, 1) := by decide +kernel
theorem dX10_goesSteps_109 : decode cX10_goesSteps 109 = .ok (.aload_n 0, 1) := by decide +kernel
theorem dX10_goesSteps_110 : decode cX10_goesSteps 110 = .ok (.getfield 62, 3) := by decide +kernel
theorem dX10_goesSteps_113 : decode cX10_goesSteps 113 = .ok (.iload_n 3, 1) := by decide +kernel
theorem dX10_goesSteps_114 : decode cX10_goesSteps 114 = .ok (.iconst 2, 1) := by decide +kernel
theorem dX10_goesSteps_115 : decode cX10_goesSteps 115 = .ok (.iadd, 1) := by decide +kernel
theorem dX10_goesSteps_116 : decode cX10_goesSteps 116 = .ok (.iaload, 1) := by decide +kernel
theorem dX10_isDone_0 : decode cX10_isDone 0 = .ok (.iload_n 1, 1) := by decide +kernel
theorem dX10_isDone_1 : decode cX10_isDone 1 = .ok (.ifCond .ne 10, 3) := by decide +kernel
theorem dX10_isDone_11 : decode cX10_isDone 11 = .ok (.iload_n 1, 1) := by decide +kernel
theorem dX10_isDone_12 : decode cX10_isDone 12 = .ok (.iconst 1, 1) := by decide +kernel
theorem dX10_isDone_13 : decode cX10_isDone 13 = .ok (.if_icmp .ne 10, 3) := by decide +kernel
theorem dX10_isDone_23 : decode cX10_isDone 23 = .ok (.iload_n 1, 1) := by decide +kernel
theorem dX10_isDone_24 : decode cX10_isDone 24 = .ok (.iconst 2, 1) := by decide +kernel
theorem dX10_isDone_25 : decode cX10_isDone 25 = .ok (.if_icmp .ne 9, 3) := by decide +kernel
theorem dX10_isDone_34 : decode cX10_isDone 34 = .ok (.iload_n 1, 1) := by decide +kernel
theorem dX10_isDone_35 : decode cX10_isDone 35 = .ok (.iconst 3, 1) := by decide +kernel
theorem dX10_isDone_36 : decode cX10_isDone 36 = .ok (.if_icmp .ne 10, 3) := by decide +kernel
theorem dX10_isDone_46 : decode cX10_isDone 46 = .ok (.aload_n 0, 1) := by decide +kernel
theorem dX10_isDone_47 : decode cX10_isDone 47 = .ok (.getfield 68, 3) := by decide +kernel
theorem dX10_isDone_50 : decode cX10_isDone 50 = .ok (.bipush 94, 2) := by decide +kernel
theorem dX10_isDone_52 : decode cX10_isDone 52 = .ok (.iaload, 1) := by decide +kernel
theorem dX10_isDone_53 : decode cX10_isDone 53 = .ok (.sipush 400, 3) := by decide +kernel
theorem dX10_isDone_56 : decode cX10_isDone 56 = .ok (.if_icmp .lt 5, 3) := by decide +kernel
theorem dX10_isDone_61 : decode cX10_isDone 61 = .ok (.aload_n 0, 1) := by decide +kernel
theorem dX10_passes_0 : decode cX10_passes 0 = .ok (.iconst 0, 1) := by decide +kernel
theorem dX10_passes_1 : decode cX10_passes 1 = .ok (.istore_n 1, 1) := by decide +kernel
theorem dX10_passes_2 : decode cX10_passes 2 = .ok (.iload_n 1, 1) := by decide +kernel
theorem dX10_passes_3 : decode cX10_passes 3 = .ok (.aload_n 0, 1) := by decide +kernel
theorem dX10_passes_4 : decode cX10_passes 4 = .ok (.getfield 160, 3) := by decide +kernel
theorem dX10_passes_7 : decode cX10_passes 7 = .ok (.if_icmp .ge 96, 3) := by decide +kernel
theorem dX10_passes_103 : decode cX10_passes 103 = .ok (.aload_n 0, 1) := by decide +kernel
theorem dX10_passes_104 : decode cX10_passes 104 = .ok (.getfield 68, 3) := by decide +kernel
theorem dX10_passes_107 : decode cX10_passes 107 = .ok (.bipush 94, 2) := by decide +kernel
theorem dX10_passes_109 : decode cX10_passes 109 = .ok (.dup2, 1) := by decide +kernel
theorem dX10_passes_110 : decode cX10_passes 110 = .ok (.iaload, 1) := by decide +kernel
theorem dX10_passes_111 : decode cX10_passes 111 = .ok (.iconst 1, 1) := by decide +kernel
theorem dX10_passes_112 : decode cX10_passes 112 = .ok (.iadd, 1) := by decide +kernel
theorem dX10_passes_113 : decode cX10_passes 113 = .ok (.iastore, 1) := by decide +kernel
theorem dX10_passes_114 : decode cX10_passes 114 = .ok (.iconst 0, 1) := by decide +kernel
theorem dX10_passes_115 : decode cX10_passes 115 = .ok (.istore_n 1, 1) := by decide +kernel
theorem dX10_passes_10 : decode cX10_passes 10 = .ok (.iconst 0, 1) := by decide +kernel
theorem dX10_passes_11 : decode cX10_passes 11 = .ok (.istore_n 2, 1) := by decide +kernel
theorem dX10_passes_116 : decode cX10_passes 116 = .ok (.iload_n 1, 1) := by decide +kernel
theorem dX10_passes_117 : decode cX10_passes 117 = .ok (.aload_n 0, 1) := by decide +kernel
theorem dX10_passes_118 : decode cX10_passes 118 = .ok (.getfield 160, 3) := by decide +kernel
theorem dX10_passes_121 : decode cX10_passes 121 = .ok (.if_icmp .ge 85, 3) := by decide +kernel
theorem dX10_passes_206 : decode cX10_passes 206 = .ok (.return_, 1) := by decide +kernel
theorem dX10_passes_124 : decode cX10_passes 124 = .ok (.aload_n 0, 1) := by decide +kernel
theorem dX10_passes_125 : decode cX10_passes 125 = .ok (.getfield 68, 3) := by decide +kernel
theorem dX10_passes_128 : decode cX10_passes 128 = .ok (.bipush 94, 2) := by decide +kernel
theorem dX10_passes_130 : decode cX10_passes 130 = .ok (.iaload, 1) := by decide +kernel
theorem dX10_passes_131 : decode cX10_passes 131 = .ok (.bipush 10, 2) := by decide +kernel
theorem dX10_passes_133 : decode cX10_passes 133 = .ok (.irem, 1) := by decide +kernel
theorem dX10_passes_134 : decode cX10_passes 134 = .ok (.ifCond .ne 72, 3) := by decide +kernel
theorem dX10_passes_137 : decode cX10_passes 137 = .ok (.aload_n 0, 1) := by decide +kernel
theorem dX10_passes_138 : decode cX10_passes 138 = .ok (.getfield 68, 3) := by decide +kernel
theorem dX10_passes_141 : decode cX10_passes 141 = .ok (.bipush 48, 2) := by decide +kernel
theorem dX10_passes_143 : decode cX10_passes 143 = .ok (.iload_n 1, 1) := by decide +kernel
theorem dX10_passes_144 : decode cX10_passes 144 = .ok (.iadd, 1) := by decide +kernel
theorem dX10_passes_145 : decode cX10_passes 145 = .ok (.dup2, 1) := by decide +kernel
theorem dX10_passes_146 : decode cX10_passes 146 = .ok (.iaload, 1) := by decide +kernel
theorem dX10_passes_147 : decode cX10_passes 147 = .ok (.iconst 1, 1) := by decide +kernel
theorem dX10_passes_148 : decode cX10_passes 148 = .ok (.iadd, 1) := by decide +kernel
theorem dX10_passes_149 : decode cX10_passes 149 = .ok (.iastore, 1) := by decide +kernel
theorem dX10_passes_150 : decode cX10_passes 150 = .ok (.aload_n 0, 1) := by decide +kernel
theorem dX10_passes_151 : decode cX10_passes 151 = .ok (.getfield 68, 3) := by decide +kernel
theorem dX10_passes_154 : decode cX10_passes 154 = .ok (.bipush 48, 2) := by decide +kernel
theorem dX10_passes_156 : decode cX10_passes 156 = .ok (.iload_n 1, 1) := by decide +kernel
theorem dX10_passes_157 : decode cX10_passes 157 = .ok (.iadd, 1) := by decide +kernel
theorem dX10_passes_158 : decode cX10_passes 158 = .ok (.iaload, 1) := by decide +kernel
theorem dX10_passes_159 : decode cX10_passes 159 = .ok (.bipush 60, 2) := by decide +kernel
theorem dX10_passes_161 : decode cX10_passes 161 = .ok (.if_icmp .eq 6, 3) := by decide +kernel
theorem dX10_passes_167 : decode cX10_passes 167 = .ok (.aload_n 0, 1) := by decide +kernel
theorem dX10_passes_168 : decode cX10_passes 168 = .ok (.getfield 68, 3) := by decide +kernel
theorem dX10_passes_171 : decode cX10_passes 171 = .ok (.bipush 54, 2) := by decide +kernel
theorem dX10_passes_173 : decode cX10_passes 173 = .ok (.iload_n 1, 1) := by decide +kernel
theorem dX10_passes_174 : decode cX10_passes 174 = .ok (.iadd, 1) := by decide +kernel
theorem dX10_passes_175 : decode cX10_passes 175 = .ok (.iconst 1, 1) := by decide +kernel
theorem dX10_passes_176 : decode cX10_passes 176 = .ok (.iastore, 1) := by decide +kernel
theorem dX10_passes_177 : decode cX10_passes 177 = .ok (.iconst 0, 1) := by decide +kernel
theorem dX10_passes_178 : decode cX10_passes 178 = .ok (.istore_n 2, 1) := by decide +kernel
theorem dX10_passes_164 : decode cX10_passes 164 = .ok (.goto 36, 3) := by decide +kernel
theorem dX10_passes_200 : decode cX10_passes 200 = .ok (.iinc 1 1, 3) := by decide +kernel
theorem dX10_passes_203 : decode cX10_passes 203 = .ok (.goto (-87), 3) := by decide +kernel
theorem dX10_passes_12 : decode cX10_passes 12 = .ok (.iload_n 2, 1) := by decide +kernel
theorem dX10_passes_13 : decode cX10_passes 13 = .ok (.aload_n 0, 1) := by decide +kernel
theorem dX10_passes_14 : decode cX10_passes 14 = .ok (.getfield 157, 3) := by decide +kernel
theorem dX10_passes_17 : decode cX10_passes 17 = .ok (.if_icmp .ge 60, 3) := by decide +kernel
theorem dX10_passes_77 : decode cX10_passes 77 = .ok (.aload_n 0, 1) := by decide +kernel
theorem dX10_passes_78 : decode cX10_passes 78 = .ok (.getfield 68, 3) := by decide +kernel
theorem dX10_passes_81 : decode cX10_passes 81 = .ok (.bipush 78, 2) := by decide +kernel
theorem dX10_passes_83 : decode cX10_passes 83 = .ok (.iload_n 1, 1) := by decide +kernel
theorem dX10_passes_84 : decode cX10_passes 84 = .ok (.iadd, 1) := by decide +kernel
theorem dX10_passes_85 : decode cX10_passes 85 = .ok (.iconst 0, 1) := by decide +kernel
theorem dX10_passes_86 : decode cX10_passes 86 = .ok (.iastore, 1) := by decide +kernel
theorem dX10_passes_87 : decode cX10_passes 87 = .ok (.aload_n 0, 1) := by decide +kernel
theorem dX10_passes_88 : decode cX10_passes 88 = .ok (.getfield 68, 3) := by decide +kernel
theorem dX10_passes_91 : decode cX10_passes 91 = .ok (.bipush 66, 2) := by decide +kernel
theorem dX10_passes_93 : decode cX10_passes 93 = .ok (.iload_n 1, 1) := by decide +kernel
theorem dX10_passes_94 : decode cX10_passes 94 = .ok (.iadd, 1) := by decide +kernel
theorem dX10_passes_95 : decode cX10_passes 95 = .ok (.iconst 0, 1) := by decide +kernel
theorem dX10_passes_96 : decode cX10_passes 96 = .ok (.iastore, 1) := by decide +kernel
theorem dX10_passes_97 : decode cX10_passes 97 = .ok (.iinc 1 1, 3) := by decide +kernel
theorem dX10_passes_100 : decode cX10_passes 100 = .ok (.goto (-98), 3) := by decide +kernel
theorem dX10_passes_20 : decode cX10_passes 20 = .ok (.aload_n 0, 1) := by decide +kernel
theorem dX10_passes_21 : decode cX10_passes 21 = .ok (.getfield 68, 3) := by decide +kernel
theorem dX10_passes_24 : decode cX10_passes 24 = .ok (.bipush 78, 2) := by decide +kernel
theorem dX10_passes_26 : decode cX10_passes 26 = .ok (.iload_n 1, 1) := by decide +kernel
theorem dX10_passes_27 : decode cX10_passes 27 = .ok (.iadd, 1) := by decide +kernel
theorem dX10_passes_28 : decode cX10_passes 28 = .ok (.iaload, 1) := by decide +kernel
theorem dX10_passes_29 : decode cX10_passes 29 = .ok (.iload_n 2, 1) := by decide +kernel
theorem dX10_passes_30 : decode cX10_passes 30 = .ok (.ishr, 1) := by decide +kernel
theorem dX10_passes_31 : decode cX10_passes 31 = .ok (.iconst 1, 1) := by decide +kernel
theorem dX10_passes_32 : decode cX10_passes 32 = .ok (.iand, 1) := by decide +kernel
theorem dX10_passes_33 : decode cX10_passes 33 = .ok (.ifCond .ne 38, 3) := by decide +kernel
theorem dX10_passes_71 : decode cX10_passes 71 = .ok (.iinc 2 1, 3) := by decide +kernel
theorem dX10_passes_74 : decode cX10_passes 74 = .ok (.goto (-62), 3) := by decide +kernel
theorem dX10_passes_36 : decode cX10_passes 36 = .ok (.aload_n 0, 1) := by decide +kernel
theorem dX10_passes_37 : decode cX10_passes 37 = .ok (.getfield 166, 3) := by decide +kernel
theorem dX10_passes_40 : decode cX10_passes 40 = .ok (.ifCond .le 31, 3) := by decide +kernel
theorem dX10_passes_43 : decode cX10_passes 43 = .ok (.aload_n 0, 1) := by decide +kernel
theorem dX10_passes_44 : decode cX10_passes 44 = .ok (.iload_n 1, 1) := by decide +kernel
theorem dX10_passes_45 : decode cX10_passes 45 = .ok (.iload_n 2, 1) := by decide +kernel
theorem dX10_passes_46 : decode cX10_passes 46 = .ok (.aload_n 0, 1) := by decide +kernel
theorem dX10_passes_47 : decode cX10_passes 47 = .ok (.iload_n 1, 1) := by decide +kernel
theorem dX10_passes_48 : decode cX10_passes 48 = .ok (.iload_n 2, 1) := by decide +kernel
theorem dX10_knownOf_0 : decode cX10_knownOf 0 = .ok (.aload_n 0, 1) := by decide +kernel
theorem dX10_knownOf_1 : decode cX10_knownOf 1 = .ok (.getfield 68, 3) := by decide +kernel
theorem dX10_knownOf_4 : decode cX10_knownOf 4 = .ok (.iconst 0, 1) := by decide +kernel
theorem dX10_knownOf_5 : decode cX10_knownOf 5 = .ok (.bipush 8, 2) := by decide +kernel
theorem dX10_knownOf_7 : decode cX10_knownOf 7 = .ok (.iload_n 1, 1) := by decide +kernel
theorem dX10_knownOf_8 : decode cX10_knownOf 8 = .ok (.imul, 1) := by decide +kernel
theorem dX10_knownOf_9 : decode cX10_knownOf 9 = .ok (.iadd, 1) := by decide +kernel
theorem dX10_knownOf_10 : decode cX10_knownOf 10 = .ok (.iload_n 2, 1) := by decide +kernel
theorem dX10_knownOf_11 : decode cX10_knownOf 11 = .ok (.iadd, 1) := by decide +kernel
theorem dX10_knownOf_12 : decode cX10_knownOf 12 = .ok (.iaload, 1) := by decide +kernel
theorem dX10_knownOf_13 : decode cX10_knownOf 13 = .ok (.ireturn, 1) := by decide +kernel
theorem dX10_passes_49 : decode cX10_passes 49 = .ok (.invokevirtual 340, 3) := by decide +kernel
theorem dX10_passes_52 : decode cX10_passes 52 = .ok (.aload_n 0, 1) := by decide +kernel
theorem dX10_passes_53 : decode cX10_passes 53 = .ok (.getfield 32, 3) := by decide +kernel
theorem dX10_passes_56 : decode cX10_passes 56 = .ok (.iconst 2, 1) := by decide +kernel
theorem dX10_passes_57 : decode cX10_passes 57 = .ok (.iload_n 2, 1) := by decide +kernel
theorem dX10_passes_58 : decode cX10_passes 58 = .ok (.imul, 1) := by decide +kernel
theorem dX10_passes_59 : decode cX10_passes 59 = .ok (.iconst 1, 1) := by decide +kernel
theorem dX10_passes_60 : decode cX10_passes 60 = .ok (.iadd, 1) := by decide +kernel
theorem dX10_passes_61 : decode cX10_passes 61 = .ok (.iaload, 1) := by decide +kernel
theorem dX10_passes_62 : decode cX10_passes 62 = .ok (.aload_n 0, 1) := by decide +kernel
theorem dX10_passes_63 : decode cX10_passes 63 = .ok (.getfield 166, 3) := by decide +kernel
theorem dX10_passes_66 : decode cX10_passes 66 = .ok (.idiv, 1) := by decide +kernel
theorem dX10_passes_67 : decode cX10_passes 67 = .ok (.isub, 1) := by decide +kernel
theorem dX10_knowsThen_0 : decode cX10_knowsThen 0 = .ok (.aload_n 0, 1) := by decide +kernel
theorem dX10_knowsThen_1 : decode cX10_knowsThen 1 = .ok (.getfield 68, 3) := by decide +kernel
theorem dX10_knowsThen_4 : decode cX10_knowsThen 4 = .ok (.iconst 0, 1) := by decide +kernel
theorem dX10_knowsThen_5 : decode cX10_knowsThen 5 = .ok (.bipush 8, 2) := by decide +kernel
theorem dX10_knowsThen_7 : decode cX10_knowsThen 7 = .ok (.iload_n 1, 1) := by decide +kernel
theorem dX10_knowsThen_8 : decode cX10_knowsThen 8 = .ok (.imul, 1) := by decide +kernel
theorem dX10_knowsThen_9 : decode cX10_knowsThen 9 = .ok (.iadd, 1) := by decide +kernel
theorem dX10_knowsThen_10 : decode cX10_knowsThen 10 = .ok (.iload_n 2, 1) := by decide +kernel
theorem dX10_knowsThen_11 : decode cX10_knowsThen 11 = .ok (.iadd, 1) := by decide +kernel
theorem dX10_knowsThen_12 : decode cX10_knowsThen 12 = .ok (.iload_n 3, 1) := by decide +kernel
theorem dX10_knowsThen_13 : decode cX10_knowsThen 13 = .ok (.ifCond .ge 7, 3) := by decide +kernel
theorem dX10_knowsThen_20 : decode cX10_knowsThen 20 = .ok (.iload_n 3, 1) := by decide +kernel
theorem dX10_knowsThen_16 : decode cX10_knowsThen 16 = .ok (.iconst 0, 1) := by decide +kernel
theorem dX10_knowsThen_17 : decode cX10_knowsThen 17 = .ok (.goto 4, 3) := by decide +kernel
theorem dX10_knowsThen_21 : decode cX10_knowsThen 21 = .ok (.iastore, 1) := by decide +kernel
theorem dX10_knowsThen_22 : decode cX10_knowsThen 22 = .ok (.return_, 1) := by decide +kernel
theorem dX10_passes_68 : decode cX10_passes 68 = .ok (.invokevirtual 356, 3) := by decide +kernel
theorem dX10_passes_179 : decode cX10_passes 179 = .ok (.iload_n 2, 1) := by decide +kernel
theorem dX10_passes_180 : decode cX10_passes 180 = .ok (.aload_n 0, 1) := by decide +kernel
theorem dX10_passes_181 : decode cX10_passes 181 = .ok (.getfield 157, 3) := by decide +kernel
theorem dX10_passes_184 : decode cX10_passes 184 = .ok (.if_icmp .ge 16, 3) := by decide +kernel
theorem dX10_passes_187 : decode cX10_passes 187 = .ok (.aload_n 0, 1) := by decide +kernel
theorem dX10_passes_188 : decode cX10_passes 188 = .ok (.iload_n 1, 1) := by decide +kernel
theorem dX10_passes_189 : decode cX10_passes 189 = .ok (.iload_n 2, 1) := by decide +kernel
theorem dX10_passes_190 : decode cX10_passes 190 = .ok (.iconst 0, 1) := by decide +kernel
theorem dX10_passes_191 : decode cX10_passes 191 = .ok (.invokevirtual 356, 3) := by decide +kernel
theorem dX10_passes_194 : decode cX10_passes 194 = .ok (.iinc 2 1, 3) := by decide +kernel
theorem dX10_passes_197 : decode cX10_passes 197 = .ok (.goto (-18), 3) := by decide +kernel
theorem dX10_isDone_62 : decode cX10_isDone 62 = .ok (.invokevirtual 381, 3) := by decide +kernel
theorem dX10_isDone_65 : decode cX10_isDone 65 = .ok (.iconst 1, 1) := by decide +kernel
theorem dX10_isDone_66 : decode cX10_isDone 66 = .ok (.ireturn, 1) := by decide +kernel
theorem dX10_isDone_59 : decode cX10_isDone 59 = .ok (.iconst 0, 1) := by decide +kernel
theorem dX10_isDone_60 : decode cX10_isDone 60 = .ok (.ireturn, 1) := by decide +kernel
theorem dX10_isDone_39 : decode cX10_isDone 39 = .ok (.aload_n 0, 1) := by decide +kernel
theorem dX10_isDone_40 : decode cX10_isDone 40 = .ok (.iload_n 2, 1) := by decide +kernel
theorem dX10_isDone_41 : decode cX10_isDone 41 = .ok (.iload_n 3, 1) := by decide +kernel
theorem dX10_isSung_0 : decode cX10_isSung 0 = .ok (.aload_n 0, 1) := by decide +kernel
theorem dX10_isSung_1 : decode cX10_isSung 1 = .ok (.getfield 68, 3) := by decide +kernel
theorem dX10_isSung_4 : decode cX10_isSung 4 = .ok (.bipush 84, 2) := by decide +kernel
theorem dX10_isSung_6 : decode cX10_isSung 6 = .ok (.iload_n 1, 1) := by decide +kernel
theorem dX10_isSung_7 : decode cX10_isSung 7 = .ok (.iadd, 1) := by decide +kernel
theorem dX10_isSung_8 : decode cX10_isSung 8 = .ok (.iaload, 1) := by decide +kernel
theorem dX10_isSung_9 : decode cX10_isSung 9 = .ok (.iconst 1, 1) := by decide +kernel
theorem dX10_isSung_10 : decode cX10_isSung 10 = .ok (.if_icmp .eq 15, 3) := by decide +kernel
theorem dX10_isSung_25 : decode cX10_isSung 25 = .ok (.iconst 0, 1) := by decide +kernel
theorem dX10_isSung_26 : decode cX10_isSung 26 = .ok (.ireturn, 1) := by decide +kernel
theorem dX10_isSung_13 : decode cX10_isSung 13 = .ok (.aload_n 0, 1) := by decide +kernel
theorem dX10_isSung_14 : decode cX10_isSung 14 = .ok (.getfield 38, 3) := by decide +kernel
theorem dX10_isSung_17 : decode cX10_isSung 17 = .ok (.iconst 4, 1) := by decide +kernel
theorem dX10_isSung_18 : decode cX10_isSung 18 = .ok (.iload_n 1, 1) := by decide +kernel
theorem dX10_isSung_19 : decode cX10_isSung 19 = .ok (.imul, 1) := by decide +kernel
theorem dX10_isSung_20 : decode cX10_isSung 20 = .ok (.iaload, 1) := by decide +kernel
theorem dX10_isSung_21 : decode cX10_isSung 21 = .ok (.iload_n 2, 1) := by decide +kernel
theorem dX10_isSung_22 : decode cX10_isSung 22 = .ok (.if_icmp .ne 5, 3) := by decide +kernel
theorem dX10_isSung_27 : decode cX10_isSung 27 = .ok (.aload_n 0, 1) := by decide +kernel
theorem dX10_isSung_28 : decode cX10_isSung 28 = .ok (.iload_n 1, 1) := by decide +kernel
theorem dX10_isSung_29 : decode cX10_isSung 29 = .ok (.iload_n 2, 1) := by decide +kernel
theorem dX10_isByTwo_0 : decode cX10_isByTwo 0 = .ok (.aload_n 0, 1) := by decide +kernel
theorem dX10_isByTwo_1 : decode cX10_isByTwo 1 = .ok (.aload_n 0, 1) := by decide +kernel
theorem dX10_isByTwo_2 : decode cX10_isByTwo 2 = .ok (.getfield 38, 3) := by decide +kernel
theorem dX10_isByTwo_5 : decode cX10_isByTwo 5 = .ok (.iconst 4, 1) := by decide +kernel
theorem dX10_isByTwo_6 : decode cX10_isByTwo 6 = .ok (.iload_n 1, 1) := by decide +kernel
theorem dX10_isByTwo_7 : decode cX10_isByTwo 7 = .ok (.imul, 1) := by decide +kernel
theorem dX10_isByTwo_8 : decode cX10_isByTwo 8 = .ok (.iaload, 1) := by decide +kernel
theorem dX10_isByTwo_9 : decode cX10_isByTwo 9 = .ok (.aload_n 0, 1) := by decide +kernel
theorem dX10_isByTwo_10 : decode cX10_isByTwo 10 = .ok (.getfield 38, 3) := by decide +kernel
theorem dX10_isByTwo_13 : decode cX10_isByTwo 13 = .ok (.iconst 4, 1) := by decide +kernel
theorem dX10_isByTwo_14 : decode cX10_isByTwo 14 = .ok (.iload_n 1, 1) := by decide +kernel
theorem dX10_isByTwo_15 : decode cX10_isByTwo 15 = .ok (.imul, 1) := by decide +kernel
theorem dX10_isByTwo_16 : decode cX10_isByTwo 16 = .ok (.iconst 1, 1) := by decide +kernel
theorem dX10_isByTwo_17 : decode cX10_isByTwo 17 = .ok (.iadd, 1) := by decide +kernel
theorem dX10_isByTwo_18 : decode cX10_isByTwo 18 = .ok (.iaload, 1) := by decide +kernel
theorem dX10_isByTwo_19 : decode cX10_isByTwo 19 = .ok (.invokevirtual 340, 3) := by decide +kernel
theorem dX10_isByTwo_22 : decode cX10_isByTwo 22 = .ok (.aload_n 0, 1) := by decide +kernel
theorem dX10_isByTwo_23 : decode cX10_isByTwo 23 = .ok (.iload_n 2, 1) := by decide +kernel
theorem dX10_isByTwo_24 : decode cX10_isByTwo 24 = .ok (.aload_n 0, 1) := by decide +kernel
theorem dX10_isByTwo_25 : decode cX10_isByTwo 25 = .ok (.getfield 38, 3) := by decide +kernel
theorem dX10_isByTwo_28 : decode cX10_isByTwo 28 = .ok (.iconst 4, 1) := by decide +kernel
theorem dX10_isByTwo_29 : decode cX10_isByTwo 29 = .ok (.iload_n 1, 1) := by decide +kernel
theorem dX10_isByTwo_30 : decode cX10_isByTwo 30 = .ok (.imul, 1) := by decide +kernel
theorem dX10_isByTwo_31 : decode cX10_isByTwo 31 = .ok (.iconst 1, 1) := by decide +kernel
theorem dX10_isByTwo_32 : decode cX10_isByTwo 32 = .ok (.iadd, 1) := by decide +kernel
theorem dX10_isByTwo_33 : decode cX10_isByTwo 33 = .ok (.iaload, 1) := by decide +kernel
theorem dX10_isByTwo_34 : decode cX10_isByTwo 34 = .ok (.invokevirtual 340, 3) := by decide +kernel
theorem dX10_isByTwo_37 : decode cX10_isByTwo 37 = .ok (.iadd, 1) := by decide +kernel
theorem dX10_isByTwo_38 : decode cX10_isByTwo 38 = .ok (.aload_n 0, 1) := by decide +kernel
theorem dX10_isByTwo_39 : decode cX10_isByTwo 39 = .ok (.getfield 32, 3) := by decide +kernel
theorem dX10_isByTwo_42 : decode cX10_isByTwo 42 = .ok (.iconst 2, 1) := by decide +kernel
theorem dX10_isByTwo_43 : decode cX10_isByTwo 43 = .ok (.aload_n 0, 1) := by decide +kernel
theorem dX10_isByTwo_44 : decode cX10_isByTwo 44 = .ok (.getfield 38, 3) := by decide +kernel
theorem dX10_isByTwo_47 : decode cX10_isByTwo 47 = .ok (.iconst 4, 1) := by decide +kernel
theorem dX10_isByTwo_48 : decode cX10_isByTwo 48 = .ok (.iload_n 1, 1) := by decide +kernel
theorem dX10_isByTwo_49 : decode cX10_isByTwo 49 = .ok (.imul, 1) := by decide +kernel
theorem dX10_isByTwo_50 : decode cX10_isByTwo 50 = .ok (.iconst 1, 1) := by decide +kernel
theorem dX10_isByTwo_51 : decode cX10_isByTwo 51 = .ok (.iadd, 1) := by decide +kernel
theorem dX10_isByTwo_52 : decode cX10_isByTwo 52 = .ok (.iaload, 1) := by decide +kernel
theorem dX10_isByTwo_53 : decode cX10_isByTwo 53 = .ok (.imul, 1) := by decide +kernel
theorem dX10_isByTwo_54 : decode cX10_isByTwo 54 = .ok (.iaload, 1) := by decide +kernel
theorem dX10_isByTwo_55 : decode cX10_isByTwo 55 = .ok (.if_icmp .lt 7, 3) := by decide +kernel
theorem dX10_isByTwo_62 : decode cX10_isByTwo 62 = .ok (.iconst 0, 1) := by decide +kernel
theorem dX10_isByTwo_63 : decode cX10_isByTwo 63 = .ok (.ireturn, 1) := by decide +kernel
theorem dX10_isByTwo_58 : decode cX10_isByTwo 58 = .ok (.iconst 1, 1) := by decide +kernel
theorem dX10_isByTwo_59 : decode cX10_isByTwo 59 = .ok (.goto 4, 3) := by decide +kernel
theorem dX10_isSung_30 : decode cX10_isSung 30 = .ok (.invokevirtual 365, 3) := by decide +kernel
theorem dX10_isSung_33 : decode cX10_isSung 33 = .ok (.ifCond .eq 16, 3) := by decide +kernel
theorem dX10_isSung_49 : decode cX10_isSung 49 = .ok (.aload_n 0, 1) := by decide +kernel
theorem dX10_isSung_50 : decode cX10_isSung 50 = .ok (.aload_n 0, 1) := by decide +kernel
theorem dX10_isSung_51 : decode cX10_isSung 51 = .ok (.getfield 38, 3) := by decide +kernel
theorem dX10_isSung_54 : decode cX10_isSung 54 = .ok (.iconst 4, 1) := by decide +kernel
theorem dX10_isSung_55 : decode cX10_isSung 55 = .ok (.iload_n 1, 1) := by decide +kernel
theorem dX10_isSung_56 : decode cX10_isSung 56 = .ok (.imul, 1) := by decide +kernel
theorem dX10_isSung_57 : decode cX10_isSung 57 = .ok (.iaload, 1) := by decide +kernel
theorem dX10_isSung_58 : decode cX10_isSung 58 = .ok (.aload_n 0, 1) := by decide +kernel
theorem dX10_isSung_59 : decode cX10_isSung 59 = .ok (.getfield 38, 3) := by decide +kernel
theorem dX10_isSung_62 : decode cX10_isSung 62 = .ok (.iconst 4, 1) := by decide +kernel
theorem dX10_isSung_63 : decode cX10_isSung 63 = .ok (.iload_n 1, 1) := by decide +kernel
theorem dX10_isSung_64 : decode cX10_isSung 64 = .ok (.imul, 1) := by decide +kernel
theorem dX10_isSung_65 : decode cX10_isSung 65 = .ok (.iconst 1, 1) := by decide +kernel
theorem dX10_isSung_66 : decode cX10_isSung 66 = .ok (.iadd, 1) := by decide +kernel
theorem dX10_isSung_67 : decode cX10_isSung 67 = .ok (.iaload, 1) := by decide +kernel
theorem dX10_slips_0 : decode cX10_slips 0 = .ok (.aload_n 0, 1) := by decide +kernel
theorem dX10_slips_1 : decode cX10_slips 1 = .ok (.iload_n 1, 1) := by decide +kernel
theorem dX10_slips_2 : decode cX10_slips 2 = .ok (.iload_n 2, 1) := by decide +kernel
theorem dX10_slips_3 : decode cX10_slips 3 = .ok (.aload_n 0, 1) := by decide +kernel
theorem dX10_slips_4 : decode cX10_slips 4 = .ok (.iload_n 1, 1) := by decide +kernel
theorem dX10_slips_5 : decode cX10_slips 5 = .ok (.iload_n 2, 1) := by decide +kernel
theorem dX10_slips_6 : decode cX10_slips 6 = .ok (.invokevirtual 340, 3) := by decide +kernel
theorem dX10_slips_9 : decode cX10_slips 9 = .ok (.iconst 4, 1) := by decide +kernel
theorem dX10_slips_10 : decode cX10_slips 10 = .ok (.isub, 1) := by decide +kernel
theorem dX10_slips_11 : decode cX10_slips 11 = .ok (.invokevirtual 356, 3) := by decide +kernel
theorem dX10_slips_14 : decode cX10_slips 14 = .ok (.aload_n 0, 1) := by decide +kernel
theorem dX10_slips_15 : decode cX10_slips 15 = .ok (.getfield 68, 3) := by decide +kernel
theorem dX10_slips_18 : decode cX10_slips 18 = .ok (.bipush 72, 2) := by decide +kernel
theorem dX10_slips_20 : decode cX10_slips 20 = .ok (.iload_n 1, 1) := by decide +kernel
theorem dX10_slips_21 : decode cX10_slips 21 = .ok (.iadd, 1) := by decide +kernel
theorem dX10_slips_22 : decode cX10_slips 22 = .ok (.dup2, 1) := by decide +kernel
theorem dX10_slips_23 : decode cX10_slips 23 = .ok (.iaload, 1) := by decide +kernel
theorem dX10_slips_24 : decode cX10_slips 24 = .ok (.iconst 1, 1) := by decide +kernel
theorem dX10_slips_25 : decode cX10_slips 25 = .ok (.iadd, 1) := by decide +kernel
theorem dX10_slips_26 : decode cX10_slips 26 = .ok (.iastore, 1) := by decide +kernel
theorem dX10_slips_27 : decode cX10_slips 27 = .ok (.return_, 1) := by decide +kernel
theorem dX10_isSung_68 : decode cX10_isSung 68 = .ok (.invokevirtual 362, 3) := by decide +kernel
theorem dX10_isSung_71 : decode cX10_isSung 71 = .ok (.aload_n 0, 1) := by decide +kernel
theorem dX10_isSung_72 : decode cX10_isSung 72 = .ok (.iload_n 2, 1) := by decide +kernel
theorem dX10_isSung_73 : decode cX10_isSung 73 = .ok (.aload_n 0, 1) := by decide +kernel
theorem dX10_isSung_74 : decode cX10_isSung 74 = .ok (.getfield 38, 3) := by decide +kernel
theorem dX10_isSung_77 : decode cX10_isSung 77 = .ok (.iconst 4, 1) := by decide +kernel
theorem dX10_isSung_78 : decode cX10_isSung 78 = .ok (.iload_n 1, 1) := by decide +kernel
theorem dX10_isSung_79 : decode cX10_isSung 79 = .ok (.imul, 1) := by decide +kernel
theorem dX10_isSung_80 : decode cX10_isSung 80 = .ok (.iconst 1, 1) := by decide +kernel
theorem dX10_isSung_81 : decode cX10_isSung 81 = .ok (.iadd, 1) := by decide +kernel
theorem dX10_isSung_82 : decode cX10_isSung 82 = .ok (.iaload, 1) := by decide +kernel
theorem dX10_isSung_83 : decode cX10_isSung 83 = .ok (.invokevirtual 362, 3) := by decide +kernel
theorem dX10_isSung_86 : decode cX10_isSung 86 = .ok (.iconst 1, 1) := by decide +kernel
theorem dX10_isSung_87 : decode cX10_isSung 87 = .ok (.ireturn, 1) := by decide +kernel
theorem dX10_isSung_36 : decode cX10_isSung 36 = .ok (.aload_n 0, 1) := by decide +kernel
theorem dX10_isSung_37 : decode cX10_isSung 37 = .ok (.getfield 68, 3) := by decide +kernel
theorem dX10_isSung_40 : decode cX10_isSung 40 = .ok (.bipush 84, 2) := by decide +kernel
theorem dX10_isSung_42 : decode cX10_isSung 42 = .ok (.iload_n 1, 1) := by decide +kernel
theorem dX10_isSung_43 : decode cX10_isSung 43 = .ok (.iadd, 1) := by decide +kernel
theorem dX10_isSung_44 : decode cX10_isSung 44 = .ok (.iconst 1, 1) := by decide +kernel
theorem dX10_isSung_45 : decode cX10_isSung 45 = .ok (.iastore, 1) := by decide +kernel
theorem dX10_isSung_46 : decode cX10_isSung 46 = .ok (.goto 40, 3) := by decide +kernel
theorem dX10_isDone_42 : decode cX10_isDone 42 = .ok (.invokevirtual 378, 3) := by decide +kernel
theorem dX10_isDone_45 : decode cX10_isDone 45 = .ok (.ireturn, 1) := by decide +kernel
theorem dX10_isDone_28 : decode cX10_isDone 28 = .ok (.aload_n 0, 1) := by decide +kernel
theorem dX10_isDone_29 : decode cX10_isDone 29 = .ok (.iload_n 2, 1) := by decide +kernel
theorem dX10_isSaid_0 : decode cX10_isSaid 0 = .ok (.aload_n 0, 1) := by decide +kernel
theorem dX10_isSaid_1 : decode cX10_isSaid 1 = .ok (.getfield 68, 3) := by decide +kernel
theorem dX10_isSaid_4 : decode cX10_isSaid 4 = .ok (.bipush 84, 2) := by decide +kernel
theorem dX10_isSaid_6 : decode cX10_isSaid 6 = .ok (.iload_n 1, 1) := by decide +kernel
theorem dX10_isSaid_7 : decode cX10_isSaid 7 = .ok (.iadd, 1) := by decide +kernel
theorem dX10_isSaid_8 : decode cX10_isSaid 8 = .ok (.iaload, 1) := by decide +kernel
theorem dX10_isSaid_9 : decode cX10_isSaid 9 = .ok (.iconst 1, 1) := by decide +kernel
theorem dX10_isSaid_10 : decode cX10_isSaid 10 = .ok (.if_icmp .ne 5, 3) := by decide +kernel
theorem dX10_isSaid_15 : decode cX10_isSaid 15 = .ok (.aload_n 0, 1) := by decide +kernel
theorem dX10_isSaid_16 : decode cX10_isSaid 16 = .ok (.iload_n 1, 1) := by decide +kernel
theorem dX10_isWell_0 : decode cX10_isWell 0 = .ok (.aload_n 0, 1) := by decide +kernel
theorem dX10_isWell_1 : decode cX10_isWell 1 = .ok (.getfield 38, 3) := by decide +kernel
theorem dX10_isWell_4 : decode cX10_isWell 4 = .ok (.iconst 4, 1) := by decide +kernel
theorem dX10_isWell_5 : decode cX10_isWell 5 = .ok (.iload_n 1, 1) := by decide +kernel
theorem dX10_isWell_6 : decode cX10_isWell 6 = .ok (.imul, 1) := by decide +kernel
theorem dX10_isWell_7 : decode cX10_isWell 7 = .ok (.iaload, 1) := by decide +kernel
theorem dX10_isWell_8 : decode cX10_isWell 8 = .ok (.istore_n 2, 1) := by decide +kernel
theorem dX10_isWell_9 : decode cX10_isWell 9 = .ok (.aload_n 0, 1) := by decide +kernel
theorem dX10_isWell_10 : decode cX10_isWell 10 = .ok (.getfield 38, 3) := by decide +kernel
theorem dX10_isWell_13 : decode cX10_isWell 13 = .ok (.iconst 4, 1) := by decide +kernel
theorem dX10_isWell_14 : decode cX10_isWell 14 = .ok (.iload_n 1, 1) := by decide +kernel
theorem dX10_isWell_15 : decode cX10_isWell 15 = .ok (.imul, 1) := by decide +kernel
theorem dX10_isWell_16 : decode cX10_isWell 16 = .ok (.iconst 1, 1) := by decide +kernel
theorem dX10_isWell_17 : decode cX10_isWell 17 = .ok (.iadd, 1) := by decide +kernel
theorem dX10_isWell_18 : decode cX10_isWell 18 = .ok (.iaload, 1) := by decide +kernel
theorem dX10_isWell_19 : decode cX10_isWell 19 = .ok (.istore_n 3, 1) := by decide +kernel
theorem dX10_isWell_20 : decode cX10_isWell 20 = .ok (.aload_n 0, 1) := by decide +kernel
theorem dX10_isWell_21 : decode cX10_isWell 21 = .ok (.getfield 38, 3) := by decide +kernel
theorem dX10_isWell_24 : decode cX10_isWell 24 = .ok (.iconst 4, 1) := by decide +kernel
theorem dX10_isWell_25 : decode cX10_isWell 25 = .ok (.iload_n 1, 1) := by decide +kernel
theorem dX10_isWell_26 : decode cX10_isWell 26 = .ok (.imul, 1) := by decide +kernel
theorem dX10_isWell_27 : decode cX10_isWell 27 = .ok (.iconst 2, 1) := by decide +kernel
theorem dX10_isWell_28 : decode cX10_isWell 28 = .ok (.iadd, 1) := by decide +kernel
theorem dX10_isWell_29 : decode cX10_isWell 29 = .ok (.iaload, 1) := by decide +kernel
theorem dX10_isWell_30 : decode cX10_isWell 30 = .ok (.istore 4, 2) := by decide +kernel
theorem dX10_isWell_32 : decode cX10_isWell 32 = .ok (.aload_n 0, 1) := by decide +kernel
theorem dX10_isWell_33 : decode cX10_isWell 33 = .ok (.getfield 32, 3) := by decide +kernel
theorem dX10_isWell_36 : decode cX10_isWell 36 = .ok (.iconst 2, 1) := by decide +kernel
theorem dX10_isWell_37 : decode cX10_isWell 37 = .ok (.iload_n 3, 1) := by decide +kernel
theorem dX10_isWell_38 : decode cX10_isWell 38 = .ok (.imul, 1) := by decide +kernel
theorem dX10_isWell_39 : decode cX10_isWell 39 = .ok (.iaload, 1) := by decide +kernel
theorem dX10_isWell_40 : decode cX10_isWell 40 = .ok (.iconst 2, 1) := by decide +kernel
theorem dX10_isWell_41 : decode cX10_isWell 41 = .ok (.idiv, 1) := by decide +kernel
theorem dX10_isWell_42 : decode cX10_isWell 42 = .ok (.iconst 1, 1) := by decide +kernel
theorem dX10_isWell_43 : decode cX10_isWell 43 = .ok (.iadd, 1) := by decide +kernel
theorem dX10_isWell_44 : decode cX10_isWell 44 = .ok (.istore 5, 2) := by decide +kernel
theorem dX10_isWell_46 : decode cX10_isWell 46 = .ok (.aload_n 0, 1) := by decide +kernel
theorem dX10_isWell_47 : decode cX10_isWell 47 = .ok (.iload_n 2, 1) := by decide +kernel
theorem dX10_isWell_48 : decode cX10_isWell 48 = .ok (.iload_n 3, 1) := by decide +kernel
theorem dX10_isWell_49 : decode cX10_isWell 49 = .ok (.invokevirtual 340, 3) := by decide +kernel
theorem dX10_isWell_52 : decode cX10_isWell 52 = .ok (.aload_n 0, 1) := by decide +kernel
theorem dX10_isWell_53 : decode cX10_isWell 53 = .ok (.getfield 32, 3) := by decide +kernel
theorem dX10_isWell_56 : decode cX10_isWell 56 = .ok (.iconst 2, 1) := by decide +kernel
theorem dX10_isWell_57 : decode cX10_isWell 57 = .ok (.iload_n 3, 1) := by decide +kernel
theorem dX10_isWell_58 : decode cX10_isWell 58 = .ok (.imul, 1) := by decide +kernel
theorem dX10_isWell_59 : decode cX10_isWell 59 = .ok (.iaload, 1) := by decide +kernel
theorem dX10_isWell_60 : decode cX10_isWell 60 = .ok (.if_icmp .lt 7, 3) := by decide +kernel
theorem dX10_isWell_67 : decode cX10_isWell 67 = .ok (.iconst 0, 1) := by decide +kernel
theorem dX10_isWell_63 : decode cX10_isWell 63 = .ok (.iconst 1, 1) := by decide +kernel
theorem dX10_isWell_64 : decode cX10_isWell 64 = .ok (.goto 4, 3) := by decide +kernel
theorem dX10_isWell_68 : decode cX10_isWell 68 = .ok (.istore 6, 2) := by decide +kernel
theorem dX10_isWell_70 : decode cX10_isWell 70 = .ok (.iload 4, 2) := by decide +kernel
theorem dX10_isWell_72 : decode cX10_isWell 72 = .ok (.ifCond .ne 6, 3) := by decide +kernel
theorem dX10_isWell_78 : decode cX10_isWell 78 = .ok (.iload 4, 2) := by decide +kernel
theorem dX10_isWell_80 : decode cX10_isWell 80 = .ok (.iconst 2, 1) := by decide +kernel
theorem dX10_isWell_81 : decode cX10_isWell 81 = .ok (.if_icmp .ne 26, 3) := by decide +kernel
theorem dX10_isWell_107 : decode cX10_isWell 107 = .ok (.iload 6, 2) := by decide +kernel
theorem dX10_isWell_109 : decode cX10_isWell 109 = .ok (.ifCond .ne 14, 3) := by decide +kernel
theorem dX10_isWell_123 : decode cX10_isWell 123 = .ok (.iconst 1, 1) := by decide +kernel
theorem dX10_isWell_124 : decode cX10_isWell 124 = .ok (.goto 4, 3) := by decide +kernel
theorem dX10_isWell_128 : decode cX10_isWell 128 = .ok (.ireturn, 1) := by decide +kernel
theorem dX10_isWell_112 : decode cX10_isWell 112 = .ok (.aload_n 0, 1) := by decide +kernel
theorem dX10_isWell_113 : decode cX10_isWell 113 = .ok (.iload_n 2, 1) := by decide +kernel
theorem dX10_isWell_114 : decode cX10_isWell 114 = .ok (.iload_n 3, 1) := by decide +kernel
theorem dX10_isWell_115 : decode cX10_isWell 115 = .ok (.invokevirtual 340, 3) := by decide +kernel
theorem dX10_isWell_118 : decode cX10_isWell 118 = .ok (.iload 5, 2) := by decide +kernel
theorem dX10_isWell_120 : decode cX10_isWell 120 = .ok (.if_icmp .lt 7, 3) := by decide +kernel
theorem dX10_isWell_127 : decode cX10_isWell 127 = .ok (.iconst 0, 1) := by decide +kernel
theorem dX10_isWell_84 : decode cX10_isWell 84 = .ok (.iload 6, 2) := by decide +kernel
theorem dX10_isWell_86 : decode cX10_isWell 86 = .ok (.ifCond .eq 19, 3) := by decide +kernel
theorem dX10_isWell_105 : decode cX10_isWell 105 = .ok (.iconst 0, 1) := by decide +kernel
theorem dX10_isWell_106 : decode cX10_isWell 106 = .ok (.ireturn, 1) := by decide +kernel
theorem dX10_isWell_89 : decode cX10_isWell 89 = .ok (.aload_n 0, 1) := by decide +kernel
theorem dX10_isWell_90 : decode cX10_isWell 90 = .ok (.getfield 68, 3) := by decide +kernel
theorem dX10_isWell_93 : decode cX10_isWell 93 = .ok (.bipush 66, 2) := by decide +kernel
theorem dX10_isWell_95 : decode cX10_isWell 95 = .ok (.iload_n 2, 1) := by decide +kernel
theorem dX10_isWell_96 : decode cX10_isWell 96 = .ok (.iadd, 1) := by decide +kernel
theorem dX10_isWell_97 : decode cX10_isWell 97 = .ok (.iaload, 1) := by decide +kernel
theorem dX10_isWell_98 : decode cX10_isWell 98 = .ok (.ifCond .le 7, 3) := by decide +kernel
theorem dX10_isWell_101 : decode cX10_isWell 101 = .ok (.iconst 1, 1) := by decide +kernel
theorem dX10_isWell_102 : decode cX10_isWell 102 = .ok (.goto 4, 3) := by decide +kernel
theorem dX10_isWell_75 : decode cX10_isWell 75 = .ok (.iload 6, 2) := by decide +kernel
theorem dX10_isWell_77 : decode cX10_isWell 77 = .ok (.ireturn, 1) := by decide +kernel
theorem dX10_isSaid_17 : decode cX10_isSaid 17 = .ok (.invokevirtual 359, 3) := by decide +kernel
theorem dX10_isSaid_20 : decode cX10_isSaid 20 = .ok (.ifCond .eq 16, 3) := by decide +kernel
theorem dX10_isSaid_36 : decode cX10_isSaid 36 = .ok (.aload_n 0, 1) := by decide +kernel
theorem dX10_isSaid_37 : decode cX10_isSaid 37 = .ok (.aload_n 0, 1) := by decide +kernel
theorem dX10_isSaid_38 : decode cX10_isSaid 38 = .ok (.getfield 38, 3) := by decide +kernel
theorem dX10_isSaid_41 : decode cX10_isSaid 41 = .ok (.iconst 4, 1) := by decide +kernel
theorem dX10_isSaid_42 : decode cX10_isSaid 42 = .ok (.iload_n 1, 1) := by decide +kernel
theorem dX10_isSaid_43 : decode cX10_isSaid 43 = .ok (.imul, 1) := by decide +kernel
theorem dX10_isSaid_44 : decode cX10_isSaid 44 = .ok (.iaload, 1) := by decide +kernel
theorem dX10_isSaid_45 : decode cX10_isSaid 45 = .ok (.aload_n 0, 1) := by decide +kernel
theorem dX10_isSaid_46 : decode cX10_isSaid 46 = .ok (.getfield 38, 3) := by decide +kernel
theorem dX10_isSaid_49 : decode cX10_isSaid 49 = .ok (.iconst 4, 1) := by decide +kernel
theorem dX10_isSaid_50 : decode cX10_isSaid 50 = .ok (.iload_n 1, 1) := by decide +kernel
theorem dX10_isSaid_51 : decode cX10_isSaid 51 = .ok (.imul, 1) := by decide +kernel
theorem dX10_isSaid_52 : decode cX10_isSaid 52 = .ok (.iconst 1, 1) := by decide +kernel
theorem dX10_isSaid_53 : decode cX10_isSaid 53 = .ok (.iadd, 1) := by decide +kernel
theorem dX10_isSaid_54 : decode cX10_isSaid 54 = .ok (.iaload, 1) := by decide +kernel
theorem dX10_isSaid_55 : decode cX10_isSaid 55 = .ok (.invokevirtual 362, 3) := by decide +kernel
theorem dX10_isSaid_58 : decode cX10_isSaid 58 = .ok (.iconst 1, 1) := by decide +kernel
theorem dX10_isSaid_59 : decode cX10_isSaid 59 = .ok (.ireturn, 1) := by decide +kernel
theorem dX10_isSaid_23 : decode cX10_isSaid 23 = .ok (.aload_n 0, 1) := by decide +kernel
theorem dX10_isSaid_24 : decode cX10_isSaid 24 = .ok (.getfield 68, 3) := by decide +kernel
theorem dX10_isSaid_27 : decode cX10_isSaid 27 = .ok (.bipush 84, 2) := by decide +kernel
theorem dX10_isSaid_29 : decode cX10_isSaid 29 = .ok (.iload_n 1, 1) := by decide +kernel
theorem dX10_isSaid_30 : decode cX10_isSaid 30 = .ok (.iadd, 1) := by decide +kernel
theorem dX10_isSaid_31 : decode cX10_isSaid 31 = .ok (.iconst 1, 1) := by decide +kernel
theorem dX10_isSaid_32 : decode cX10_isSaid 32 = .ok (.iastore, 1) := by decide +kernel
theorem dX10_isSaid_33 : decode cX10_isSaid 33 = .ok (.goto 25, 3) := by decide +kernel
theorem dX10_isSaid_13 : decode cX10_isSaid 13 = .ok (.iconst 0, 1) := by decide +kernel
theorem dX10_isSaid_14 : decode cX10_isSaid 14 = .ok (.ireturn, 1) := by decide +kernel
theorem dX10_isDone_30 : decode cX10_isDone 30 = .ok (.invokevirtual 375, 3) := by decide +kernel
theorem dX10_isDone_33 : decode cX10_isDone 33 = .ok (.ireturn, 1) := by decide +kernel
theorem dX10_isDone_16 : decode cX10_isDone 16 = .ok (.aload_n 0, 1) := by decide +kernel
theorem dX10_isDone_17 : decode cX10_isDone 17 = .ok (.iload_n 2, 1) := by decide +kernel
theorem dX10_isDone_18 : decode cX10_isDone 18 = .ok (.iload_n 3, 1) := by decide +kernel
theorem dX10_isForgotten_0 : decode cX10_isForgotten 0 = .ok (.aload_n 0, 1) := by decide +kernel
theorem dX10_isForgotten_1 : decode cX10_isForgotten 1 = .ok (.iload_n 1, 1) := by decide +kernel
theorem dX10_isForgotten_2 : decode cX10_isForgotten 2 = .ok (.iload_n 2, 1) := by decide +kernel
theorem dX10_isForgotten_3 : decode cX10_isForgotten 3 = .ok (.invokevirtual 340, 3) := by decide +kernel
theorem dX10_isForgotten_6 : decode cX10_isForgotten 6 = .ok (.ifCond .ne 5, 3) := by decide +kernel
theorem dX10_isForgotten_11 : decode cX10_isForgotten 11 = .ok (.aload_n 0, 1) := by decide +kernel
theorem dX10_isForgotten_12 : decode cX10_isForgotten 12 = .ok (.iload_n 1, 1) := by decide +kernel
theorem dX10_isForgotten_13 : decode cX10_isForgotten 13 = .ok (.iload_n 2, 1) := by decide +kernel
theorem dX10_isForgotten_14 : decode cX10_isForgotten 14 = .ok (.iconst 0, 1) := by decide +kernel
theorem dX10_isForgotten_15 : decode cX10_isForgotten 15 = .ok (.invokevirtual 356, 3) := by decide +kernel
theorem dX10_isForgotten_18 : decode cX10_isForgotten 18 = .ok (.iconst 1, 1) := by decide +kernel
theorem dX10_isForgotten_19 : decode cX10_isForgotten 19 = .ok (.ireturn, 1) := by decide +kernel
theorem dX10_isForgotten_9 : decode cX10_isForgotten 9 = .ok (.iconst 0, 1) := by decide +kernel
theorem dX10_isForgotten_10 : decode cX10_isForgotten 10 = .ok (.ireturn, 1) := by decide +kernel
theorem dX10_isDone_19 : decode cX10_isDone 19 = .ok (.invokevirtual 372, 3) := by decide +kernel
theorem dX10_isDone_22 : decode cX10_isDone 22 = .ok (.ireturn, 1) := by decide +kernel
theorem dX10_isDone_4 : decode cX10_isDone 4 = .ok (.aload_n 0, 1) := by decide +kernel
theorem dX10_isDone_5 : decode cX10_isDone 5 = .ok (.iload_n 2, 1) := by decide +kernel
theorem dX10_isDone_6 : decode cX10_isDone 6 = .ok (.iload_n 3, 1) := by decide +kernel
theorem dX10_isTaught_0 : decode cX10_isTaught 0 = .ok (.aload_n 0, 1) := by decide +kernel
theorem dX10_isTaught_1 : decode cX10_isTaught 1 = .ok (.iload_n 1, 1) := by decide +kernel
theorem dX10_isTaught_2 : decode cX10_isTaught 2 = .ok (.iload_n 2, 1) := by decide +kernel
theorem dX10_moreBy_0 : decode cX10_moreBy 0 = .ok (.aload_n 0, 1) := by decide +kernel
theorem dX10_moreBy_1 : decode cX10_moreBy 1 = .ok (.iload_n 1, 1) := by decide +kernel
theorem dX10_moreBy_2 : decode cX10_moreBy 2 = .ok (.iload_n 2, 1) := by decide +kernel
theorem dX10_learnsBy_0 : decode cX10_learnsBy 0 = .ok (.aload_n 0, 1) := by decide +kernel
theorem dX10_learnsBy_1 : decode cX10_learnsBy 1 = .ok (.aload_n 0, 1) := by decide +kernel
theorem dX10_learnsBy_2 : decode cX10_learnsBy 2 = .ok (.getfield 32, 3) := by decide +kernel
theorem dX10_learnsBy_5 : decode cX10_learnsBy 5 = .ok (.iconst 2, 1) := by decide +kernel
theorem dX10_learnsBy_6 : decode cX10_learnsBy 6 = .ok (.iload_n 2, 1) := by decide +kernel
theorem dX10_learnsBy_7 : decode cX10_learnsBy 7 = .ok (.imul, 1) := by decide +kernel
theorem dX10_learnsBy_8 : decode cX10_learnsBy 8 = .ok (.iaload, 1) := by decide +kernel
theorem dX10_learnsBy_9 : decode cX10_learnsBy 9 = .ok (.aload_n 0, 1) := by decide +kernel
theorem dX10_learnsBy_10 : decode cX10_learnsBy 10 = .ok (.getfield 32, 3) := by decide +kernel
theorem dX10_learnsBy_13 : decode cX10_learnsBy 13 = .ok (.iconst 2, 1) := by decide +kernel
theorem dX10_learnsBy_14 : decode cX10_learnsBy 14 = .ok (.iload_n 2, 1) := by decide +kernel
theorem dX10_learnsBy_15 : decode cX10_learnsBy 15 = .ok (.imul, 1) := by decide +kernel
theorem dX10_learnsBy_16 : decode cX10_learnsBy 16 = .ok (.iconst 1, 1) := by decide +kernel
theorem dX10_learnsBy_17 : decode cX10_learnsBy 17 = .ok (.iadd, 1) := by decide +kernel
theorem dX10_learnsBy_18 : decode cX10_learnsBy 18 = .ok (.iaload, 1) := by decide +kernel
theorem dX10_learnsBy_19 : decode cX10_learnsBy 19 = .ok (.aload_n 0, 1) := by decide +kernel
theorem dX10_learnsBy_20 : decode cX10_learnsBy 20 = .ok (.iload_n 1, 1) := by decide +kernel
theorem dX10_learnsBy_21 : decode cX10_learnsBy 21 = .ok (.iload_n 2, 1) := by decide +kernel
theorem dX10_learnsBy_22 : decode cX10_learnsBy 22 = .ok (.invokevirtual 340, 3) := by decide +kernel
theorem dX10_learnsBy_25 : decode cX10_learnsBy 25 = .ok (.aload_n 0, 1) := by decide +kernel
theorem dX10_learnsBy_26 : decode cX10_learnsBy 26 = .ok (.iload_n 1, 1) := by decide +kernel
theorem dX10_roomOf_0 : decode cX10_roomOf 0 = .ok (.aload_n 0, 1) := by decide +kernel
theorem dX10_roomOf_1 : decode cX10_roomOf 1 = .ok (.iload_n 1, 1) := by decide +kernel
theorem dX10_memoryOf_0 : decode cX10_memoryOf 0 = .ok (.aload_n 0, 1) := by decide +kernel
theorem dX10_memoryOf_1 : decode cX10_memoryOf 1 = .ok (.getfield 68, 3) := by decide +kernel
theorem dX10_memoryOf_4 : decode cX10_memoryOf 4 = .ok (.bipush 54, 2) := by decide +kernel
theorem dX10_memoryOf_6 : decode cX10_memoryOf 6 = .ok (.iload_n 1, 1) := by decide +kernel
theorem dX10_memoryOf_7 : decode cX10_memoryOf 7 = .ok (.iadd, 1) := by decide +kernel
theorem dX10_memoryOf_8 : decode cX10_memoryOf 8 = .ok (.iaload, 1) := by decide +kernel
theorem dX10_memoryOf_9 : decode cX10_memoryOf 9 = .ok (.iconst 1, 1) := by decide +kernel
theorem dX10_memoryOf_10 : decode cX10_memoryOf 10 = .ok (.if_icmp .ne 16, 3) := by decide +kernel
theorem dX10_memoryOf_26 : decode cX10_memoryOf 26 = .ok (.aload_n 0, 1) := by decide +kernel
theorem dX10_memoryOf_27 : decode cX10_memoryOf 27 = .ok (.getfield 35, 3) := by decide +kernel
theorem dX10_memoryOf_30 : decode cX10_memoryOf 30 = .ok (.iconst 2, 1) := by decide +kernel
theorem dX10_memoryOf_31 : decode cX10_memoryOf 31 = .ok (.iload_n 1, 1) := by decide +kernel
theorem dX10_memoryOf_32 : decode cX10_memoryOf 32 = .ok (.imul, 1) := by decide +kernel
theorem dX10_memoryOf_33 : decode cX10_memoryOf 33 = .ok (.iaload, 1) := by decide +kernel
theorem dX10_memoryOf_34 : decode cX10_memoryOf 34 = .ok (.ireturn, 1) := by decide +kernel
theorem dX10_memoryOf_13 : decode cX10_memoryOf 13 = .ok (.aload_n 0, 1) := by decide +kernel
theorem dX10_memoryOf_14 : decode cX10_memoryOf 14 = .ok (.getfield 35, 3) := by decide +kernel
theorem dX10_memoryOf_17 : decode cX10_memoryOf 17 = .ok (.iconst 2, 1) := by decide +kernel
theorem dX10_memoryOf_18 : decode cX10_memoryOf 18 = .ok (.iload_n 1, 1) := by decide +kernel
theorem dX10_memoryOf_19 : decode cX10_memoryOf 19 = .ok (.imul, 1) := by decide +kernel
theorem dX10_memoryOf_20 : decode cX10_memoryOf 20 = .ok (.iaload, 1) := by decide +kernel
theorem dX10_memoryOf_21 : decode cX10_memoryOf 21 = .ok (.iconst 2, 1) := by decide +kernel
theorem dX10_memoryOf_22 : decode cX10_memoryOf 22 = .ok (.idiv, 1) := by decide +kernel
theorem dX10_memoryOf_23 : decode cX10_memoryOf 23 = .ok (.goto 11, 3) := by decide +kernel
theorem dX10_roomOf_2 : decode cX10_roomOf 2 = .ok (.invokevirtual 331, 3) := by decide +kernel
theorem dX10_roomOf_5 : decode cX10_roomOf 5 = .ok (.aload_n 0, 1) := by decide +kernel
theorem dX10_roomOf_6 : decode cX10_roomOf 6 = .ok (.iload_n 1, 1) := by decide +kernel
theorem dX10_allOf_0 : decode cX10_allOf 0 = .ok (.aload_n 0, 1) := by decide +kernel
theorem dX10_allOf_1 : decode cX10_allOf 1 = .ok (.iconst 0, 1) := by decide +kernel
theorem dX10_allOf_2 : decode cX10_allOf 2 = .ok (.bipush 8, 2) := by decide +kernel
theorem dX10_allOf_4 : decode cX10_allOf 4 = .ok (.iload_n 1, 1) := by decide +kernel
theorem dX10_allOf_5 : decode cX10_allOf 5 = .ok (.imul, 1) := by decide +kernel
theorem dX10_allOf_6 : decode cX10_allOf 6 = .ok (.iadd, 1) := by decide +kernel
theorem dX10_allOf_7 : decode cX10_allOf 7 = .ok (.aload_n 0, 1) := by decide +kernel
theorem dX10_allOf_8 : decode cX10_allOf 8 = .ok (.getfield 157, 3) := by decide +kernel
theorem dX10_sumOf_0 : decode cX10_sumOf 0 = .ok (.iconst 0, 1) := by decide +kernel
theorem dX10_sumOf_1 : decode cX10_sumOf 1 = .ok (.istore_n 3, 1) := by decide +kernel
theorem dX10_sumOf_2 : decode cX10_sumOf 2 = .ok (.iconst 0, 1) := by decide +kernel
theorem dX10_sumOf_3 : decode cX10_sumOf 3 = .ok (.istore 4, 2) := by decide +kernel
theorem dX10_sumOf_5 : decode cX10_sumOf 5 = .ok (.iload 4, 2) := by decide +kernel
theorem dX10_sumOf_7 : decode cX10_sumOf 7 = .ok (.iload_n 2, 1) := by decide +kernel
theorem dX10_sumOf_8 : decode cX10_sumOf 8 = .ok (.if_icmp .ge 21, 3) := by decide +kernel
theorem dX10_sumOf_29 : decode cX10_sumOf 29 = .ok (.iload_n 3, 1) := by decide +kernel
theorem dX10_sumOf_30 : decode cX10_sumOf 30 = .ok (.ireturn, 1) := by decide +kernel
theorem dX10_sumOf_11 : decode cX10_sumOf 11 = .ok (.iload_n 3, 1) := by decide +kernel
theorem dX10_sumOf_12 : decode cX10_sumOf 12 = .ok (.aload_n 0, 1) := by decide +kernel
theorem dX10_sumOf_13 : decode cX10_sumOf 13 = .ok (.getfield 68, 3) := by decide +kernel
theorem dX10_sumOf_16 : decode cX10_sumOf 16 = .ok (.iload_n 1, 1) := by decide +kernel
theorem dX10_sumOf_17 : decode cX10_sumOf 17 = .ok (.iload 4, 2) := by decide +kernel
theorem dX10_sumOf_19 : decode cX10_sumOf 19 = .ok (.iadd, 1) := by decide +kernel
theorem dX10_sumOf_20 : decode cX10_sumOf 20 = .ok (.iaload, 1) := by decide +kernel
theorem dX10_sumOf_21 : decode cX10_sumOf 21 = .ok (.iadd, 1) := by decide +kernel
theorem dX10_sumOf_22 : decode cX10_sumOf 22 = .ok (.istore_n 3, 1) := by decide +kernel
theorem dX10_sumOf_23 : decode cX10_sumOf 23 = .ok (.iinc 4 1, 3) := by decide +kernel
theorem dX10_sumOf_26 : decode cX10_sumOf 26 = .ok (.goto (-21), 3) := by decide +kernel
theorem dX10_allOf_11 : decode cX10_allOf 11 = .ok (.invokevirtual 328, 3) := by decide +kernel
theorem dX10_allOf_14 : decode cX10_allOf 14 = .ok (.ireturn, 1) := by decide +kernel
theorem dX10_roomOf_7 : decode cX10_roomOf 7 = .ok (.invokevirtual 334, 3) := by decide +kernel
theorem dX10_roomOf_10 : decode cX10_roomOf 10 = .ok (.if_icmp .ge 7, 3) := by decide +kernel
theorem dX10_roomOf_17 : decode cX10_roomOf 17 = .ok (.aload_n 0, 1) := by decide +kernel
theorem dX10_roomOf_18 : decode cX10_roomOf 18 = .ok (.iload_n 1, 1) := by decide +kernel
theorem dX10_roomOf_19 : decode cX10_roomOf 19 = .ok (.invokevirtual 331, 3) := by decide +kernel
theorem dX10_roomOf_22 : decode cX10_roomOf 22 = .ok (.aload_n 0, 1) := by decide +kernel
theorem dX10_roomOf_23 : decode cX10_roomOf 23 = .ok (.iload_n 1, 1) := by decide +kernel
theorem dX10_roomOf_24 : decode cX10_roomOf 24 = .ok (.invokevirtual 334, 3) := by decide +kernel
theorem dX10_roomOf_27 : decode cX10_roomOf 27 = .ok (.isub, 1) := by decide +kernel
theorem dX10_roomOf_28 : decode cX10_roomOf 28 = .ok (.ireturn, 1) := by decide +kernel
theorem dX10_roomOf_13 : decode cX10_roomOf 13 = .ok (.iconst 0, 1) := by decide +kernel
theorem dX10_roomOf_14 : decode cX10_roomOf 14 = .ok (.goto 14, 3) := by decide +kernel
theorem dX10_learnsBy_27 : decode cX10_learnsBy 27 = .ok (.invokevirtual 343, 3) := by decide +kernel
theorem dX10_learnsBy_30 : decode cX10_learnsBy 30 = .ok (.aload_n 0, 1) := by decide +kernel
theorem dX10_learnsBy_31 : decode cX10_learnsBy 31 = .ok (.getfield 68, 3) := by decide +kernel
theorem dX10_learnsBy_34 : decode cX10_learnsBy 34 = .ok (.bipush 48, 2) := by decide +kernel
theorem dX10_learnsBy_36 : decode cX10_learnsBy 36 = .ok (.iload_n 1, 1) := by decide +kernel
theorem dX10_learnsBy_37 : decode cX10_learnsBy 37 = .ok (.iadd, 1) := by decide +kernel
theorem dX10_learnsBy_38 : decode cX10_learnsBy 38 = .ok (.iaload, 1) := by decide +kernel
theorem dX10_learnsBy_39 : decode cX10_learnsBy 39 = .ok (.aload_n 0, 1) := by decide +kernel
theorem dX10_learnsBy_40 : decode cX10_learnsBy 40 = .ok (.getfield 68, 3) := by decide +kernel
theorem dX10_learnsBy_43 : decode cX10_learnsBy 43 = .ok (.bipush 60, 2) := by decide +kernel
theorem dX10_learnsBy_45 : decode cX10_learnsBy 45 = .ok (.iload_n 1, 1) := by decide +kernel
theorem dX10_learnsBy_46 : decode cX10_learnsBy 46 = .ok (.iadd, 1) := by decide +kernel
theorem dX10_learnsBy_47 : decode cX10_learnsBy 47 = .ok (.iaload, 1) := by decide +kernel
theorem dX10_learnsBy_48 : decode cX10_learnsBy 48 = .ok (.aload_n 0, 1) := by decide +kernel
theorem dX10_learnsBy_49 : decode cX10_learnsBy 49 = .ok (.getfield 68, 3) := by decide +kernel
theorem dX10_learnsBy_52 : decode cX10_learnsBy 52 = .ok (.bipush 94, 2) := by decide +kernel
theorem dX10_learnsBy_54 : decode cX10_learnsBy 54 = .ok (.iaload, 1) := by decide +kernel
theorem dX10_learnsBy_55 : decode cX10_learnsBy 55 = .ok (.iload_n 1, 1) := by decide +kernel
theorem dX10_learnsOf_0 : decode cX10_learnsOf 0 = .ok (.aload_n 0, 1) := by decide +kernel
theorem dX10_learnsOf_1 : decode cX10_learnsOf 1 = .ok (.getfield 56, 3) := by decide +kernel
theorem dX10_learnsOf_4 : decode cX10_learnsOf 4 = .ok (.iconst 0, 1) := by decide +kernel
theorem dX10_learnsOf_5 : decode cX10_learnsOf 5 = .ok (.iload_n 1, 1) := by decide +kernel
theorem dX10_learnsOf_6 : decode cX10_learnsOf 6 = .ok (.iastore, 1) := by decide +kernel
theorem dX10_learnsOf_7 : decode cX10_learnsOf 7 = .ok (.aload_n 0, 1) := by decide +kernel
theorem dX10_learnsOf_8 : decode cX10_learnsOf 8 = .ok (.getfield 56, 3) := by decide +kernel
theorem dX10_learnsOf_11 : decode cX10_learnsOf 11 = .ok (.iconst 1, 1) := by decide +kernel
theorem dX10_learnsOf_12 : decode cX10_learnsOf 12 = .ok (.iload_n 2, 1) := by decide +kernel
theorem dX10_learnsOf_13 : decode cX10_learnsOf 13 = .ok (.iastore, 1) := by decide +kernel
theorem dX10_learnsOf_14 : decode cX10_learnsOf 14 = .ok (.aload_n 0, 1) := by decide +kernel
theorem dX10_learnsOf_15 : decode cX10_learnsOf 15 = .ok (.getfield 56, 3) := by decide +kernel
theorem dX10_learnsOf_18 : decode cX10_learnsOf 18 = .ok (.iconst 2, 1) := by decide +kernel
theorem dX10_learnsOf_19 : decode cX10_learnsOf 19 = .ok (.iload_n 3, 1) := by decide +kernel
theorem dX10_learnsOf_20 : decode cX10_learnsOf 20 = .ok (.iastore, 1) := by decide +kernel
theorem dX10_learnsOf_21 : decode cX10_learnsOf 21 = .ok (.aload_n 0, 1) := by decide +kernel
theorem dX10_learnsOf_22 : decode cX10_learnsOf 22 = .ok (.getfield 56, 3) := by decide +kernel
theorem dX10_learnsOf_25 : decode cX10_learnsOf 25 = .ok (.iconst 3, 1) := by decide +kernel
theorem dX10_learnsOf_26 : decode cX10_learnsOf 26 = .ok (.iload 4, 2) := by decide +kernel
theorem dX10_learnsOf_28 : decode cX10_learnsOf 28 = .ok (.iastore, 1) := by decide +kernel
theorem dX10_learnsOf_29 : decode cX10_learnsOf 29 = .ok (.aload_n 0, 1) := by decide +kernel
theorem dX10_learnsOf_30 : decode cX10_learnsOf 30 = .ok (.getfield 56, 3) := by decide +kernel
theorem dX10_learnsOf_33 : decode cX10_learnsOf 33 = .ok (.iconst 4, 1) := by decide +kernel
theorem dX10_learnsOf_34 : decode cX10_learnsOf 34 = .ok (.iload 5, 2) := by decide +kernel
theorem dX10_learnsOf_36 : decode cX10_learnsOf 36 = .ok (.iastore, 1) := by decide +kernel
theorem dX10_learnsOf_37 : decode cX10_learnsOf 37 = .ok (.aload_n 0, 1) := by decide +kernel
theorem dX10_learnsOf_38 : decode cX10_learnsOf 38 = .ok (.getfield 56, 3) := by decide +kernel
theorem dX10_learnsOf_41 : decode cX10_learnsOf 41 = .ok (.iconst 5, 1) := by decide +kernel
theorem dX10_learnsOf_42 : decode cX10_learnsOf 42 = .ok (.iload 6, 2) := by decide +kernel
theorem dX10_learnsOf_44 : decode cX10_learnsOf 44 = .ok (.iastore, 1) := by decide +kernel
theorem dX10_learnsOf_45 : decode cX10_learnsOf 45 = .ok (.aload_n 0, 1) := by decide +kernel
theorem dX10_learnsOf_46 : decode cX10_learnsOf 46 = .ok (.getfield 56, 3) := by decide +kernel
theorem dX10_learnsOf_49 : decode cX10_learnsOf 49 = .ok (.bipush 6, 2) := by decide +kernel
theorem dX10_learnsOf_51 : decode cX10_learnsOf 51 = .ok (.iload 7, 2) := by decide +kernel
theorem dX10_learnsOf_53 : decode cX10_learnsOf 53 = .ok (.iastore, 1) := by decide +kernel
theorem dX10_learnsOf_54 : decode cX10_learnsOf 54 = .ok (.aload_n 0, 1) := by decide +kernel
theorem dX10_learnsOf_55 : decode cX10_learnsOf 55 = .ok (.getfield 56, 3) := by decide +kernel
theorem dX10_learnsOf_58 : decode cX10_learnsOf 58 = .ok (.bipush 7, 2) := by decide +kernel
theorem dX10_learnsOf_60 : decode cX10_learnsOf 60 = .ok (.iload 8, 2) := by decide +kernel
theorem dX10_learnsOf_62 : decode cX10_learnsOf 62 = .ok (.iastore, 1) := by decide +kernel
theorem dX10_learnsOf_63 : decode cX10_learnsOf 63 = .ok (.aload_n 0, 1) := by decide +kernel
theorem dX10_learnsNow_0 : decode cX10_learnsNow 0 = .ok (.aload_n 0, 1) := by decide +kernel
theorem dX10_learnsNow_1 : decode cX10_learnsNow 1 = .ok (.getfield 173, 3) := by decide +kernel
theorem dX10_learnsNow_4 : decode cX10_learnsNow 4 = .ok (.ifCond .ne 15, 3) := by decide +kernel
theorem dX10_learnsNow_19 : decode cX10_learnsNow 19 = .ok (.aload_n 0, 1) := by decide +kernel
theorem dX10_valueNow_0 : decode cX10_valueNow 0 = .ok (.iconst 0, 1) := by decide +kernel
theorem dX10_valueNow_1 : decode cX10_valueNow 1 = .ok (.istore_n 1, 1) := by decide +kernel
theorem dX10_valueNow_2 : decode cX10_valueNow 2 = .ok (.iconst 0, 1) := by decide +kernel
theorem dX10_valueNow_3 : decode cX10_valueNow 3 = .ok (.istore_n 2, 1) := by decide +kernel
theorem dX10_valueNow_4 : decode cX10_valueNow 4 = .ok (.iload_n 2, 1) := by decide +kernel
theorem dX10_valueNow_5 : decode cX10_valueNow 5 = .ok (.aload_n 0, 1) := by decide +kernel
theorem dX10_valueNow_6 : decode cX10_valueNow 6 = .ok (.getfield 173, 3) := by decide +kernel
theorem dX10_valueNow_9 : decode cX10_valueNow 9 = .ok (.if_icmp .ge 86, 3) := by decide +kernel
theorem dX10_valueNow_95 : decode cX10_valueNow 95 = .ok (.aload_n 0, 1) := by decide +kernel
theorem dX10_valueNow_96 : decode cX10_valueNow 96 = .ok (.getfield 53, 3) := by decide +kernel
theorem dX10_valueNow_99 : decode cX10_valueNow 99 = .ok (.iconst 0, 1) := by decide +kernel
theorem dX10_valueNow_100 : decode cX10_valueNow 100 = .ok (.iaload, 1) := by decide +kernel
theorem dX10_valueNow_101 : decode cX10_valueNow 101 = .ok (.ireturn, 1) := by decide +kernel
theorem dX10_valueNow_12 : decode cX10_valueNow 12 = .ok (.aload_n 0, 1) := by decide +kernel
theorem dX10_valueNow_13 : decode cX10_valueNow 13 = .ok (.getfield 47, 3) := by decide +kernel
theorem dX10_valueNow_16 : decode cX10_valueNow 16 = .ok (.iload_n 2, 1) := by decide +kernel
theorem dX10_valueNow_17 : decode cX10_valueNow 17 = .ok (.iaload, 1) := by decide +kernel
theorem dX10_valueNow_18 : decode cX10_valueNow 18 = .ok (.istore_n 3, 1) := by decide +kernel
theorem dX10_valueNow_19 : decode cX10_valueNow 19 = .ok (.iload_n 3, 1) := by decide +kernel
theorem dX10_valueNow_20 : decode cX10_valueNow 20 = .ok (.iconst 1, 1) := by decide +kernel
theorem dX10_valueNow_21 : decode cX10_valueNow 21 = .ok (.if_icmp .gt 39, 3) := by decide +kernel
theorem dX10_valueNow_60 : decode cX10_valueNow 60 = .ok (.iinc 1 (-1), 3) := by decide +kernel
theorem dX10_valueNow_63 : decode cX10_valueNow 63 = .ok (.aload_n 0, 1) := by decide +kernel
theorem dX10_valueNow_64 : decode cX10_valueNow 64 = .ok (.getfield 53, 3) := by decide +kernel
theorem dX10_valueNow_67 : decode cX10_valueNow 67 = .ok (.iload_n 1, 1) := by decide +kernel
theorem dX10_valueNow_68 : decode cX10_valueNow 68 = .ok (.iconst 1, 1) := by decide +kernel
theorem dX10_valueNow_69 : decode cX10_valueNow 69 = .ok (.isub, 1) := by decide +kernel
theorem dX10_valueNow_70 : decode cX10_valueNow 70 = .ok (.iload_n 3, 1) := by decide +kernel
theorem dX10_valueNow_71 : decode cX10_valueNow 71 = .ok (.aload_n 0, 1) := by decide +kernel
theorem dX10_valueNow_72 : decode cX10_valueNow 72 = .ok (.getfield 53, 3) := by decide +kernel
theorem dX10_valueNow_75 : decode cX10_valueNow 75 = .ok (.iload_n 1, 1) := by decide +kernel
theorem dX10_valueNow_76 : decode cX10_valueNow 76 = .ok (.iconst 1, 1) := by decide +kernel
theorem dX10_valueNow_77 : decode cX10_valueNow 77 = .ok (.isub, 1) := by decide +kernel
theorem dX10_valueNow_78 : decode cX10_valueNow 78 = .ok (.iaload, 1) := by decide +kernel
theorem dX10_valueNow_79 : decode cX10_valueNow 79 = .ok (.aload_n 0, 1) := by decide +kernel
theorem dX10_valueNow_80 : decode cX10_valueNow 80 = .ok (.getfield 53, 3) := by decide +kernel
theorem dX10_valueNow_83 : decode cX10_valueNow 83 = .ok (.iload_n 1, 1) := by decide +kernel
theorem dX10_valueNow_84 : decode cX10_valueNow 84 = .ok (.iaload, 1) := by decide +kernel
theorem dX10_both_0 : decode cX10_both 0 = .ok (.iload_n 0, 1) := by decide +kernel
theorem dX10_both_1 : decode cX10_both 1 = .ok (.iconst 2, 1) := by decide +kernel
theorem dX10_both_2 : decode cX10_both 2 = .ok (.if_icmp .ne 7, 3) := by decide +kernel
theorem dX10_both_9 : decode cX10_both 9 = .ok (.iload_n 0, 1) := by decide +kernel
theorem dX10_both_10 : decode cX10_both 10 = .ok (.iconst 3, 1) := by decide +kernel
theorem dX10_both_11 : decode cX10_both 11 = .ok (.if_icmp .ne 7, 3) := by decide +kernel
theorem dX10_both_18 : decode cX10_both 18 = .ok (.iload_n 0, 1) := by decide +kernel
theorem dX10_both_19 : decode cX10_both 19 = .ok (.iconst 4, 1) := by decide +kernel
theorem dX10_both_20 : decode cX10_both 20 = .ok (.if_icmp .ne 7, 3) := by decide +kernel
theorem dX10_both_27 : decode cX10_both 27 = .ok (.iload_n 0, 1) := by decide +kernel
theorem dX10_both_28 : decode cX10_both 28 = .ok (.iconst 5, 1) := by decide +kernel
theorem dX10_both_29 : decode cX10_both 29 = .ok (.if_icmp .eq 9, 3) := by decide +kernel
theorem dX10_both_32 : decode cX10_both 32 = .ok (.iload_n 0, 1) := by decide +kernel
theorem dX10_both_33 : decode cX10_both 33 = .ok (.bipush 8, 2) := by decide +kernel
theorem dX10_both_35 : decode cX10_both 35 = .ok (.if_icmp .ne 26, 3) := by decide +kernel
theorem dX10_both_61 : decode cX10_both 61 = .ok (.iload_n 1, 1) := by decide +kernel
theorem dX10_both_62 : decode cX10_both 62 = .ok (.iload_n 2, 1) := by decide +kernel
theorem dX10_both_63 : decode cX10_both 63 = .ok (.if_icmp .ge 7, 3) := by decide +kernel
theorem dX10_both_70 : decode cX10_both 70 = .ok (.iconst 0, 1) := by decide +kernel
theorem dX10_both_66 : decode cX10_both 66 = .ok (.iconst 1, 1) := by decide +kernel
theorem dX10_both_67 : decode cX10_both 67 = .ok (.goto 4, 3) := by decide +kernel
theorem dX10_both_23 : decode cX10_both 23 = .ok (.iload_n 1, 1) := by decide +kernel
theorem dX10_both_24 : decode cX10_both 24 = .ok (.iload_n 2, 1) := by decide +kernel
theorem dX10_both_25 : decode cX10_both 25 = .ok (.imul, 1) := by decide +kernel
theorem dX10_both_26 : decode cX10_both 26 = .ok (.ireturn, 1) := by decide +kernel
theorem dX10_both_14 : decode cX10_both 14 = .ok (.iload_n 1, 1) := by decide +kernel
theorem dX10_both_15 : decode cX10_both 15 = .ok (.iload_n 2, 1) := by decide +kernel
theorem dX10_both_16 : decode cX10_both 16 = .ok (.isub, 1) := by decide +kernel
theorem dX10_both_17 : decode cX10_both 17 = .ok (.ireturn, 1) := by decide +kernel
theorem dX10_both_5 : decode cX10_both 5 = .ok (.iload_n 1, 1) := by decide +kernel
theorem dX10_both_6 : decode cX10_both 6 = .ok (.iload_n 2, 1) := by decide +kernel
theorem dX10_both_7 : decode cX10_both 7 = .ok (.iadd, 1) := by decide +kernel
theorem dX10_both_8 : decode cX10_both 8 = .ok (.ireturn, 1) := by decide +kernel
theorem dX10_both_38 : decode cX10_both 38 = .ok (.iload_n 2, 1) := by decide +kernel
theorem dX10_both_39 : decode cX10_both 39 = .ok (.ifCond .ne 7, 3) := by decide +kernel
theorem dX10_both_46 : decode cX10_both 46 = .ok (.iload_n 0, 1) := by decide +kernel
theorem dX10_both_47 : decode cX10_both 47 = .ok (.iconst 5, 1) := by decide +kernel
theorem dX10_both_48 : decode cX10_both 48 = .ok (.if_icmp .ne 9, 3) := by decide +kernel
theorem dX10_both_57 : decode cX10_both 57 = .ok (.iload_n 1, 1) := by decide +kernel
theorem dX10_both_58 : decode cX10_both 58 = .ok (.iload_n 2, 1) := by decide +kernel
theorem dX10_both_59 : decode cX10_both 59 = .ok (.irem, 1) := by decide +kernel
theorem dX10_both_60 : decode cX10_both 60 = .ok (.ireturn, 1) := by decide +kernel
theorem dX10_both_51 : decode cX10_both 51 = .ok (.iload_n 1, 1) := by decide +kernel
theorem dX10_both_52 : decode cX10_both 52 = .ok (.iload_n 2, 1) := by decide +kernel
theorem dX10_both_53 : decode cX10_both 53 = .ok (.idiv, 1) := by decide +kernel
theorem dX10_both_54 : decode cX10_both 54 = .ok (.goto 6, 3) := by decide +kernel
theorem dX10_both_42 : decode cX10_both 42 = .ok (.iconst 0, 1) := by decide +kernel
theorem dX10_both_43 : decode cX10_both 43 = .ok (.goto 17, 3) := by decide +kernel
theorem dX10_both_71 : decode cX10_both 71 = .ok (.iload_n 0, 1) := by decide +kernel
theorem dX10_both_72 : decode cX10_both 72 = .ok (.bipush 6, 2) := by decide +kernel
theorem dX10_both_74 : decode cX10_both 74 = .ok (.if_icmp .ne 7, 3) := by decide +kernel
theorem dX10_both_81 : decode cX10_both 81 = .ok (.iconst 0, 1) := by decide +kernel
theorem dX10_both_77 : decode cX10_both 77 = .ok (.iconst 1, 1) := by decide +kernel
theorem dX10_both_78 : decode cX10_both 78 = .ok (.goto 4, 3) := by decide +kernel
theorem dX10_both_82 : decode cX10_both 82 = .ok (.if_icmp .ne 7, 3) := by decide +kernel
theorem dX10_both_89 : decode cX10_both 89 = .ok (.iload_n 2, 1) := by decide +kernel
theorem dX10_both_90 : decode cX10_both 90 = .ok (.ireturn, 1) := by decide +kernel
theorem dX10_both_85 : decode cX10_both 85 = .ok (.iload_n 1, 1) := by decide +kernel
theorem dX10_both_86 : decode cX10_both 86 = .ok (.goto 4, 3) := by decide +kernel
theorem dX10_valueNow_85 : decode cX10_valueNow 85 = .ok (.invokestatic 279, 3) := by decide +kernel
theorem dX10_valueNow_88 : decode cX10_valueNow 88 = .ok (.iastore, 1) := by decide +kernel
theorem dX10_valueNow_89 : decode cX10_valueNow 89 = .ok (.iinc 2 1, 3) := by decide +kernel
theorem dX10_valueNow_92 : decode cX10_valueNow 92 = .ok (.goto (-88), 3) := by decide +kernel
theorem dX10_valueNow_24 : decode cX10_valueNow 24 = .ok (.aload_n 0, 1) := by decide +kernel
theorem dX10_valueNow_25 : decode cX10_valueNow 25 = .ok (.getfield 53, 3) := by decide +kernel
theorem dX10_valueNow_28 : decode cX10_valueNow 28 = .ok (.iload_n 1, 1) := by decide +kernel
theorem dX10_valueNow_29 : decode cX10_valueNow 29 = .ok (.iload_n 3, 1) := by decide +kernel
theorem dX10_valueNow_30 : decode cX10_valueNow 30 = .ok (.ifCond .ne 12, 3) := by decide +kernel
theorem dX10_valueNow_42 : decode cX10_valueNow 42 = .ok (.aload_n 0, 1) := by decide +kernel
theorem dX10_valueNow_43 : decode cX10_valueNow 43 = .ok (.getfield 56, 3) := by decide +kernel
theorem dX10_valueNow_46 : decode cX10_valueNow 46 = .ok (.aload_n 0, 1) := by decide +kernel
theorem dX10_valueNow_47 : decode cX10_valueNow 47 = .ok (.getfield 50, 3) := by decide +kernel
theorem dX10_valueNow_50 : decode cX10_valueNow 50 = .ok (.iload_n 2, 1) := by decide +kernel
theorem dX10_valueNow_51 : decode cX10_valueNow 51 = .ok (.iaload, 1) := by decide +kernel
theorem dX10_valueNow_52 : decode cX10_valueNow 52 = .ok (.iaload, 1) := by decide +kernel
theorem dX10_valueNow_33 : decode cX10_valueNow 33 = .ok (.aload_n 0, 1) := by decide +kernel
theorem dX10_valueNow_34 : decode cX10_valueNow 34 = .ok (.getfield 50, 3) := by decide +kernel
theorem dX10_valueNow_37 : decode cX10_valueNow 37 = .ok (.iload_n 2, 1) := by decide +kernel
theorem dX10_valueNow_38 : decode cX10_valueNow 38 = .ok (.iaload, 1) := by decide +kernel
theorem dX10_valueNow_39 : decode cX10_valueNow 39 = .ok (.goto 14, 3) := by decide +kernel
theorem dX10_valueNow_53 : decode cX10_valueNow 53 = .ok (.iastore, 1) := by decide +kernel
theorem dX10_valueNow_54 : decode cX10_valueNow 54 = .ok (.iinc 1 1, 3) := by decide +kernel
theorem dX10_valueNow_57 : decode cX10_valueNow 57 = .ok (.goto 32, 3) := by decide +kernel
theorem dX10_learnsNow_20 : decode cX10_learnsNow 20 = .ok (.invokevirtual 283, 3) := by decide +kernel
theorem dX10_learnsNow_7 : decode cX10_learnsNow 7 = .ok (.bipush 9, 2) := by decide +kernel
theorem dX10_learnsNow_9 : decode cX10_learnsNow 9 = .ok (.aload_n 0, 1) := by decide +kernel
theorem dX10_learnsNow_10 : decode cX10_learnsNow 10 = .ok (.getfield 56, 3) := by decide +kernel
theorem dX10_learnsNow_13 : decode cX10_learnsNow 13 = .ok (.iconst 1, 1) := by decide +kernel
theorem dX10_learnsNow_14 : decode cX10_learnsNow 14 = .ok (.iaload, 1) := by decide +kernel
theorem dX10_learnsNow_15 : decode cX10_learnsNow 15 = .ok (.isub, 1) := by decide +kernel
theorem dX10_learnsNow_16 : decode cX10_learnsNow 16 = .ok (.goto 7, 3) := by decide +kernel
theorem dX10_learnsNow_23 : decode cX10_learnsNow 23 = .ok (.istore_n 1, 1) := by decide +kernel
theorem dX10_learnsNow_24 : decode cX10_learnsNow 24 = .ok (.iload_n 1, 1) := by decide +kernel
theorem dX10_learnsNow_25 : decode cX10_learnsNow 25 = .ok (.ifCond .ge 7, 3) := by decide +kernel
theorem dX10_learnsNow_32 : decode cX10_learnsNow 32 = .ok (.iload_n 1, 1) := by decide +kernel
theorem dX10_learnsNow_33 : decode cX10_learnsNow 33 = .ok (.bipush 20, 2) := by decide +kernel
theorem dX10_learnsNow_35 : decode cX10_learnsNow 35 = .ok (.if_icmp .le 8, 3) := by decide +kernel
theorem dX10_learnsNow_43 : decode cX10_learnsNow 43 = .ok (.iload_n 1, 1) := by decide +kernel
theorem dX10_learnsNow_44 : decode cX10_learnsNow 44 = .ok (.ireturn, 1) := by decide +kernel
theorem dX10_learnsNow_38 : decode cX10_learnsNow 38 = .ok (.bipush 20, 2) := by decide +kernel
theorem dX10_learnsNow_40 : decode cX10_learnsNow 40 = .ok (.goto 4, 3) := by decide +kernel
theorem dX10_learnsNow_28 : decode cX10_learnsNow 28 = .ok (.iconst 0, 1) := by decide +kernel
theorem dX10_learnsNow_29 : decode cX10_learnsNow 29 = .ok (.goto 15, 3) := by decide +kernel
theorem dX10_learnsOf_64 : decode cX10_learnsOf 64 = .ok (.invokevirtual 337, 3) := by decide +kernel
theorem dX10_learnsOf_67 : decode cX10_learnsOf 67 = .ok (.ireturn, 1) := by decide +kernel
theorem dX10_learnsBy_56 : decode cX10_learnsBy 56 = .ok (.invokevirtual 346, 3) := by decide +kernel
theorem dX10_learnsBy_59 : decode cX10_learnsBy 59 = .ok (.ireturn, 1) := by decide +kernel
theorem dX10_moreBy_3 : decode cX10_moreBy 3 = .ok (.invokevirtual 350, 3) := by decide +kernel
theorem dX10_moreBy_6 : decode cX10_moreBy 6 = .ok (.istore_n 3, 1) := by decide +kernel
theorem dX10_moreBy_7 : decode cX10_moreBy 7 = .ok (.aload_n 0, 1) := by decide +kernel
theorem dX10_moreBy_8 : decode cX10_moreBy 8 = .ok (.getfield 32, 3) := by decide +kernel
theorem dX10_moreBy_11 : decode cX10_moreBy 11 = .ok (.iconst 2, 1) := by decide +kernel
theorem dX10_moreBy_12 : decode cX10_moreBy 12 = .ok (.iload_n 2, 1) := by decide +kernel
theorem dX10_moreBy_13 : decode cX10_moreBy 13 = .ok (.imul, 1) := by decide +kernel
theorem dX10_moreBy_14 : decode cX10_moreBy 14 = .ok (.iaload, 1) := by decide +kernel
theorem dX10_moreBy_15 : decode cX10_moreBy 15 = .ok (.aload_n 0, 1) := by decide +kernel
theorem dX10_moreBy_16 : decode cX10_moreBy 16 = .ok (.iload_n 1, 1) := by decide +kernel
theorem dX10_moreBy_17 : decode cX10_moreBy 17 = .ok (.iload_n 2, 1) := by decide +kernel
theorem dX10_moreBy_18 : decode cX10_moreBy 18 = .ok (.invokevirtual 340, 3) := by decide +kernel
theorem dX10_moreBy_21 : decode cX10_moreBy 21 = .ok (.isub, 1) := by decide +kernel
theorem dX10_moreBy_22 : decode cX10_moreBy 22 = .ok (.istore 4, 2) := by decide +kernel
theorem dX10_moreBy_24 : decode cX10_moreBy 24 = .ok (.aload_n 0, 1) := by decide +kernel
theorem dX10_moreBy_25 : decode cX10_moreBy 25 = .ok (.iload_n 1, 1) := by decide +kernel
theorem dX10_moreBy_26 : decode cX10_moreBy 26 = .ok (.invokevirtual 343, 3) := by decide +kernel
theorem dX10_moreBy_29 : decode cX10_moreBy 29 = .ok (.iload_n 3, 1) := by decide +kernel
theorem dX10_moreBy_30 : decode cX10_moreBy 30 = .ok (.if_icmp .ge 11, 3) := by decide +kernel
theorem dX10_moreBy_41 : decode cX10_moreBy 41 = .ok (.iload_n 3, 1) := by decide +kernel
theorem dX10_moreBy_33 : decode cX10_moreBy 33 = .ok (.aload_n 0, 1) := by decide +kernel
theorem dX10_moreBy_34 : decode cX10_moreBy 34 = .ok (.iload_n 1, 1) := by decide +kernel
theorem dX10_moreBy_35 : decode cX10_moreBy 35 = .ok (.invokevirtual 343, 3) := by decide +kernel
theorem dX10_moreBy_38 : decode cX10_moreBy 38 = .ok (.goto 4, 3) := by decide +kernel
theorem dX10_moreBy_42 : decode cX10_moreBy 42 = .ok (.istore_n 3, 1) := by decide +kernel
theorem dX10_moreBy_43 : decode cX10_moreBy 43 = .ok (.iload 4, 2) := by decide +kernel
theorem dX10_moreBy_45 : decode cX10_moreBy 45 = .ok (.iload_n 3, 1) := by decide +kernel
theorem dX10_moreBy_46 : decode cX10_moreBy 46 = .ok (.if_icmp .ge 8, 3) := by decide +kernel
theorem dX10_moreBy_54 : decode cX10_moreBy 54 = .ok (.iload_n 3, 1) := by decide +kernel
theorem dX10_moreBy_55 : decode cX10_moreBy 55 = .ok (.ireturn, 1) := by decide +kernel
theorem dX10_moreBy_49 : decode cX10_moreBy 49 = .ok (.iload 4, 2) := by decide +kernel
theorem dX10_moreBy_51 : decode cX10_moreBy 51 = .ok (.goto 4, 3) := by decide +kernel
theorem dX10_isTaught_3 : decode cX10_isTaught 3 = .ok (.invokevirtual 353, 3) := by decide +kernel
theorem dX10_isTaught_6 : decode cX10_isTaught 6 = .ok (.istore_n 3, 1) := by decide +kernel
theorem dX10_isTaught_7 : decode cX10_isTaught 7 = .ok (.iload_n 3, 1) := by decide +kernel
theorem dX10_isTaught_8 : decode cX10_isTaught 8 = .ok (.ifCond .gt 5, 3) := by decide +kernel
theorem dX10_isTaught_13 : decode cX10_isTaught 13 = .ok (.aload_n 0, 1) := by decide +kernel
theorem dX10_isTaught_14 : decode cX10_isTaught 14 = .ok (.iload_n 1, 1) := by decide +kernel
theorem dX10_isTaught_15 : decode cX10_isTaught 15 = .ok (.iload_n 2, 1) := by decide +kernel
theorem dX10_isTaught_16 : decode cX10_isTaught 16 = .ok (.aload_n 0, 1) := by decide +kernel
theorem dX10_isTaught_17 : decode cX10_isTaught 17 = .ok (.iload_n 1, 1) := by decide +kernel
theorem dX10_isTaught_18 : decode cX10_isTaught 18 = .ok (.iload_n 2, 1) := by decide +kernel
theorem dX10_isTaught_19 : decode cX10_isTaught 19 = .ok (.invokevirtual 340, 3) := by decide +kernel
theorem dX10_isTaught_22 : decode cX10_isTaught 22 = .ok (.iload_n 3, 1) := by decide +kernel
theorem dX10_isTaught_23 : decode cX10_isTaught 23 = .ok (.iadd, 1) := by decide +kernel
theorem dX10_isTaught_24 : decode cX10_isTaught 24 = .ok (.invokevirtual 356, 3) := by decide +kernel
theorem dX10_isTaught_27 : decode cX10_isTaught 27 = .ok (.aload_n 0, 1) := by decide +kernel
theorem dX10_isTaught_28 : decode cX10_isTaught 28 = .ok (.getfield 68, 3) := by decide +kernel
theorem dX10_isTaught_31 : decode cX10_isTaught 31 = .ok (.bipush 60, 2) := by decide +kernel
theorem dX10_isTaught_33 : decode cX10_isTaught 33 = .ok (.iload_n 1, 1) := by decide +kernel
theorem dX10_isTaught_34 : decode cX10_isTaught 34 = .ok (.iadd, 1) := by decide +kernel
theorem dX10_isTaught_35 : decode cX10_isTaught 35 = .ok (.dup2, 1) := by decide +kernel
theorem dX10_isTaught_36 : decode cX10_isTaught 36 = .ok (.iaload, 1) := by decide +kernel
theorem dX10_isTaught_37 : decode cX10_isTaught 37 = .ok (.iconst 1, 1) := by decide +kernel
theorem dX10_isTaught_38 : decode cX10_isTaught 38 = .ok (.iadd, 1) := by decide +kernel
theorem dX10_isTaught_39 : decode cX10_isTaught 39 = .ok (.iastore, 1) := by decide +kernel
theorem dX10_isTaught_40 : decode cX10_isTaught 40 = .ok (.aload_n 0, 1) := by decide +kernel
theorem dX10_isTaught_41 : decode cX10_isTaught 41 = .ok (.getfield 68, 3) := by decide +kernel
theorem dX10_isTaught_44 : decode cX10_isTaught 44 = .ok (.bipush 66, 2) := by decide +kernel
theorem dX10_isTaught_46 : decode cX10_isTaught 46 = .ok (.iload_n 1, 1) := by decide +kernel
theorem dX10_isTaught_47 : decode cX10_isTaught 47 = .ok (.iadd, 1) := by decide +kernel
theorem dX10_isTaught_48 : decode cX10_isTaught 48 = .ok (.dup2, 1) := by decide +kernel
theorem dX10_isTaught_49 : decode cX10_isTaught 49 = .ok (.iaload, 1) := by decide +kernel
theorem dX10_isTaught_50 : decode cX10_isTaught 50 = .ok (.iconst 1, 1) := by decide +kernel
theorem dX10_isTaught_51 : decode cX10_isTaught 51 = .ok (.iadd, 1) := by decide +kernel
theorem dX10_isTaught_52 : decode cX10_isTaught 52 = .ok (.iastore, 1) := by decide +kernel
theorem dX10_isTaught_53 : decode cX10_isTaught 53 = .ok (.aload_n 0, 1) := by decide +kernel
theorem dX10_isTaught_54 : decode cX10_isTaught 54 = .ok (.getfield 68, 3) := by decide +kernel
theorem dX10_isTaught_57 : decode cX10_isTaught 57 = .ok (.bipush 78, 2) := by decide +kernel
theorem dX10_isTaught_59 : decode cX10_isTaught 59 = .ok (.iload_n 1, 1) := by decide +kernel
theorem dX10_isTaught_60 : decode cX10_isTaught 60 = .ok (.iadd, 1) := by decide +kernel
theorem dX10_isTaught_61 : decode cX10_isTaught 61 = .ok (.dup2, 1) := by decide +kernel
theorem dX10_isTaught_62 : decode cX10_isTaught 62 = .ok (.iaload, 1) := by decide +kernel
theorem dX10_isTaught_63 : decode cX10_isTaught 63 = .ok (.iconst 1, 1) := by decide +kernel
theorem dX10_isTaught_64 : decode cX10_isTaught 64 = .ok (.iload_n 2, 1) := by decide +kernel
theorem dX10_isTaught_65 : decode cX10_isTaught 65 = .ok (.ishl, 1) := by decide +kernel
theorem dX10_isTaught_66 : decode cX10_isTaught 66 = .ok (.ior, 1) := by decide +kernel
theorem dX10_isTaught_67 : decode cX10_isTaught 67 = .ok (.iastore, 1) := by decide +kernel
theorem dX10_isTaught_68 : decode cX10_isTaught 68 = .ok (.iconst 1, 1) := by decide +kernel
theorem dX10_isTaught_69 : decode cX10_isTaught 69 = .ok (.ireturn, 1) := by decide +kernel
theorem dX10_isTaught_11 : decode cX10_isTaught 11 = .ok (.iconst 0, 1) := by decide +kernel
theorem dX10_isTaught_12 : decode cX10_isTaught 12 = .ok (.ireturn, 1) := by decide +kernel
theorem dX10_isDone_7 : decode cX10_isDone 7 = .ok (.invokevirtual 369, 3) := by decide +kernel
theorem dX10_isDone_10 : decode cX10_isDone 10 = .ok (.ireturn, 1) := by decide +kernel
theorem dX10_goesSteps_117 : decode cX10_goesSteps 117 = .ok (.invokevirtual 324, 3) := by decide +kernel
theorem dX10_goesSteps_120 : decode cX10_goesSteps 120 = .ok (.ifCond .eq 16, 3) := by decide +kernel
theorem dX10_goesSteps_136 : decode cX10_goesSteps 136 = .ok (.aload_n 0, 1) := by decide +kernel
theorem dX10_goesSteps_137 : decode cX10_goesSteps 137 = .ok (.dup, 1) := by decide +kernel
theorem dX10_goesSteps_138 : decode cX10_goesSteps 138 = .ok (.getfield 318, 3) := by decide +kernel
theorem dX10_goesSteps_141 : decode cX10_goesSteps 141 = .ok (.iconst 1, 1) := by decide +kernel
theorem dX10_goesSteps_142 : decode cX10_goesSteps 142 = .ok (.iadd, 1) := by decide +kernel
theorem dX10_goesSteps_143 : decode cX10_goesSteps 143 = .ok (.putfield 318, 3) := by decide +kernel
theorem dX10_goesSteps_146 : decode cX10_goesSteps 146 = .ok (.iinc 3 3, 3) := by decide +kernel
theorem dX10_goesSteps_149 : decode cX10_goesSteps 149 = .ok (.goto (-147), 3) := by decide +kernel
theorem dX10_goesSteps_123 : decode cX10_goesSteps 123 = .ok (.aload_n 0, 1) := by decide +kernel
theorem dX10_goesSteps_124 : decode cX10_goesSteps 124 = .ok (.dup, 1) := by decide +kernel
theorem dX10_goesSteps_125 : decode cX10_goesSteps 125 = .ok (.getfield 315, 3) := by decide +kernel
theorem dX10_goesSteps_128 : decode cX10_goesSteps 128 = .ok (.iconst 1, 1) := by decide +kernel
theorem dX10_goesSteps_129 : decode cX10_goesSteps 129 = .ok (.iadd, 1) := by decide +kernel
theorem dX10_goesSteps_130 : decode cX10_goesSteps 130 = .ok (.putfield 315, 3) := by decide +kernel
theorem dX10_goesSteps_133 : decode cX10_goesSteps 133 = .ok (.goto 13, 3) := by decide +kernel
theorem dX10_goesSteps_37 : decode cX10_goesSteps 37 = .ok (.aload_n 0, 1) := by decide +kernel
theorem dX10_goesSteps_38 : decode cX10_goesSteps 38 = .ok (.getfield 62, 3) := by decide +kernel
theorem dX10_goesSteps_41 : decode cX10_goesSteps 41 = .ok (.iload_n 3, 1) := by decide +kernel
theorem dX10_goesSteps_42 : decode cX10_goesSteps 42 = .ok (.iconst 2, 1) := by decide +kernel
theorem dX10_goesSteps_43 : decode cX10_goesSteps 43 = .ok (.iadd, 1) := by decide +kernel
theorem dX10_goesSteps_44 : decode cX10_goesSteps 44 = .ok (.iaload, 1) := by decide +kernel
theorem dX10_goesSteps_45 : decode cX10_goesSteps 45 = .ok (.istore 4, 2) := by decide +kernel
theorem dX10_goesSteps_47 : decode cX10_goesSteps 47 = .ok (.iconst 0, 1) := by decide +kernel
theorem dX10_goesSteps_48 : decode cX10_goesSteps 48 = .ok (.istore 5, 2) := by decide +kernel
theorem dX10_goesSteps_50 : decode cX10_goesSteps 50 = .ok (.iload 5, 2) := by decide +kernel
theorem dX10_goesSteps_52 : decode cX10_goesSteps 52 = .ok (.aload_n 0, 1) := by decide +kernel
theorem dX10_goesSteps_53 : decode cX10_goesSteps 53 = .ok (.getfield 62, 3) := by decide +kernel
theorem dX10_goesSteps_56 : decode cX10_goesSteps 56 = .ok (.iload_n 3, 1) := by decide +kernel
theorem dX10_goesSteps_57 : decode cX10_goesSteps 57 = .ok (.iconst 1, 1) := by decide +kernel
theorem dX10_goesSteps_58 : decode cX10_goesSteps 58 = .ok (.iadd, 1) := by decide +kernel
theorem dX10_goesSteps_59 : decode cX10_goesSteps 59 = .ok (.iaload, 1) := by decide +kernel
theorem dX10_goesSteps_60 : decode cX10_goesSteps 60 = .ok (.if_icmp .ge 28, 3) := by decide +kernel
theorem dX10_goesSteps_88 : decode cX10_goesSteps 88 = .ok (.iload 4, 2) := by decide +kernel
theorem dX10_goesSteps_90 : decode cX10_goesSteps 90 = .ok (.istore_n 3, 1) := by decide +kernel
theorem dX10_goesSteps_91 : decode cX10_goesSteps 91 = .ok (.goto (-89), 3) := by decide +kernel
theorem dX10_goesSteps_63 : decode cX10_goesSteps 63 = .ok (.aload_n 0, 1) := by decide +kernel
theorem dX10_goesSteps_64 : decode cX10_goesSteps 64 = .ok (.getfield 312, 3) := by decide +kernel
theorem dX10_goesSteps_67 : decode cX10_goesSteps 67 = .ok (.sipush 200, 3) := by decide +kernel
theorem dX10_goesSteps_70 : decode cX10_goesSteps 70 = .ok (.if_icmp .ge 18, 3) := by decide +kernel
theorem dX10_goesSteps_73 : decode cX10_goesSteps 73 = .ok (.aload_n 0, 1) := by decide +kernel
theorem dX10_goesSteps_74 : decode cX10_goesSteps 74 = .ok (.iload_n 3, 1) := by decide +kernel
theorem dX10_goesSteps_75 : decode cX10_goesSteps 75 = .ok (.iconst 3, 1) := by decide +kernel
theorem dX10_goesSteps_76 : decode cX10_goesSteps 76 = .ok (.iadd, 1) := by decide +kernel
theorem dX10_goesSteps_77 : decode cX10_goesSteps 77 = .ok (.iload 4, 2) := by decide +kernel
theorem dX10_goesSteps_79 : decode cX10_goesSteps 79 = .ok (.invokevirtual 321, 3) := by decide +kernel
theorem dX10_goesSteps_82 : decode cX10_goesSteps 82 = .ok (.iinc 5 1, 3) := by decide +kernel
theorem dX10_goesSteps_85 : decode cX10_goesSteps 85 = .ok (.goto (-35), 3) := by decide +kernel
theorem dX10_work_190 : decode cX10_work 190 = .ok (.invokevirtual 321, 3) := by decide +kernel
theorem dX10_work_193 : decode cX10_work 193 = .ok (.aload_n 0, 1) := by decide +kernel
theorem dX10_work_194 : decode cX10_work 194 = .ok (.aload_n 0, 1) := by decide +kernel
theorem dX10_work_195 : decode cX10_work 195 = .ok (.getfield 68, 3) := by decide +kernel
theorem dX10_work_198 : decode cX10_work 198 = .ok (.aload_n 0, 1) := by decide +kernel
theorem dX10_work_199 : decode cX10_work 199 = .ok (.getfield 65, 3) := by decide +kernel
theorem dX10_work_202 : decode cX10_work 202 = .ok (.bipush 95, 2) := by decide +kernel
theorem dX10_work_204 : decode cX10_work 204 = .ok (.invokevirtual 169, 3) := by decide +kernel
theorem dX10_work_207 : decode cX10_work 207 = .ok (.aload_n 0, 1) := by decide +kernel
theorem dX10_work_208 : decode cX10_work 208 = .ok (.aload_n 0, 1) := by decide +kernel
theorem dX10_work_209 : decode cX10_work 209 = .ok (.getfield 318, 3) := by decide +kernel
theorem dX10_work_212 : decode cX10_work 212 = .ok (.putfield 185, 3) := by decide +kernel
theorem dX10_work_215 : decode cX10_work 215 = .ok (.aload_n 0, 1) := by decide +kernel
theorem dX10_work_216 : decode cX10_work 216 = .ok (.getfield 315, 3) := by decide +kernel
theorem dX10_work_219 : decode cX10_work 219 = .ok (.ireturn, 1) := by decide +kernel
theorem dX10_work_129 : decode cX10_work 129 = .ok (.aload_n 0, 1) := by decide +kernel
theorem dX10_work_130 : decode cX10_work 130 = .ok (.getfield 71, 3) := by decide +kernel
theorem dX10_work_133 : decode cX10_work 133 = .ok (.bipush 95, 2) := by decide +kernel
theorem dX10_work_135 : decode cX10_work 135 = .ok (.aload_n 0, 1) := by decide +kernel
theorem dX10_work_136 : decode cX10_work 136 = .ok (.getfield 179, 3) := by decide +kernel
theorem dX10_work_139 : decode cX10_work 139 = .ok (.imul, 1) := by decide +kernel
theorem dX10_work_140 : decode cX10_work 140 = .ok (.iload_n 3, 1) := by decide +kernel
theorem dX10_work_141 : decode cX10_work 141 = .ok (.iadd, 1) := by decide +kernel
theorem dX10_work_142 : decode cX10_work 142 = .ok (.aload_n 0, 1) := by decide +kernel
theorem dX10_work_143 : decode cX10_work 143 = .ok (.getfield 65, 3) := by decide +kernel
theorem dX10_work_146 : decode cX10_work 146 = .ok (.iload_n 3, 1) := by decide +kernel
theorem dX10_work_147 : decode cX10_work 147 = .ok (.iaload, 1) := by decide +kernel
theorem dX10_work_148 : decode cX10_work 148 = .ok (.iastore, 1) := by decide +kernel
theorem dX10_work_149 : decode cX10_work 149 = .ok (.iinc 3 1, 3) := by decide +kernel
theorem dX10_work_152 : decode cX10_work 152 = .ok (.goto (-29), 3) := by decide +kernel
theorem dX10_book_0 : decode cX10_book 0 = .ok (.aload_n 0, 1) := by decide +kernel
theorem dX10_book_1 : decode cX10_book 1 = .ok (.iconst 0, 1) := by decide +kernel
theorem dX10_book_2 : decode cX10_book 2 = .ok (.putfield 3, 3) := by decide +kernel
theorem dX10_book_5 : decode cX10_book 5 = .ok (.aload_n 0, 1) := by decide +kernel
theorem dX10_book_6 : decode cX10_book 6 = .ok (.iload_n 1, 1) := by decide +kernel
theorem dX10_book_7 : decode cX10_book 7 = .ok (.ifCond .lt 21, 3) := by decide +kernel
theorem dX10_book_10 : decode cX10_book 10 = .ok (.iload_n 1, 1) := by decide +kernel
theorem dX10_book_11 : decode cX10_book 11 = .ok (.aload_n 0, 1) := by decide +kernel
theorem dX10_book_12 : decode cX10_book 12 = .ok (.getfield 99, 3) := by decide +kernel
theorem dX10_book_15 : decode cX10_book 15 = .ok (.if_icmp .gt 13, 3) := by decide +kernel
theorem dX10_book_18 : decode cX10_book 18 = .ok (.iload_n 1, 1) := by decide +kernel
theorem dX10_book_19 : decode cX10_book 19 = .ok (.bipush 60, 2) := by decide +kernel
theorem dX10_book_21 : decode cX10_book 21 = .ok (.if_icmp .gt 7, 3) := by decide +kernel
theorem dX10_book_24 : decode cX10_book 24 = .ok (.iconst 1, 1) := by decide +kernel
theorem dX10_book_25 : decode cX10_book 25 = .ok (.goto 4, 3) := by decide +kernel
theorem dX10_book_28 : decode cX10_book 28 = .ok (.iconst 0, 1) := by decide +kernel
theorem dX10_book_29 : decode cX10_book 29 = .ok (.iconst 1, 1) := by decide +kernel
theorem dX10_book_30 : decode cX10_book 30 = .ok (.iconst 1, 1) := by decide +kernel
theorem dX10_book_31 : decode cX10_book 31 = .ok (.invokevirtual 200, 3) := by decide +kernel
theorem dX10_book_34 : decode cX10_book 34 = .ok (.ifCond .ne 5, 3) := by decide +kernel
theorem dX10_book_39 : decode cX10_book 39 = .ok (.aload_n 0, 1) := by decide +kernel
theorem dX10_book_40 : decode cX10_book 40 = .ok (.iload_n 1, 1) := by decide +kernel
theorem dX10_book_41 : decode cX10_book 41 = .ok (.invokevirtual 204, 3) := by decide +kernel
theorem dX10_book_44 : decode cX10_book 44 = .ok (.iconst 0, 1) := by decide +kernel
theorem dX10_book_45 : decode cX10_book 45 = .ok (.istore_n 2, 1) := by decide +kernel
theorem dX10_book_37 : decode cX10_book 37 = .ok (.iconst 0, 1) := by decide +kernel
theorem dX10_book_38 : decode cX10_book 38 = .ok (.ireturn, 1) := by decide +kernel
theorem dX10_book_46 : decode cX10_book 46 = .ok (.aload_n 0, 1) := by decide +kernel
theorem dX10_book_47 : decode cX10_book 47 = .ok (.invokevirtual 131, 3) := by decide +kernel
theorem dX10_book_50 : decode cX10_book 50 = .ok (.ifCond .eq 130, 3) := by decide +kernel
theorem dX10_book_53 : decode cX10_book 53 = .ok (.aload_n 0, 1) := by decide +kernel
theorem dX10_book_54 : decode cX10_book 54 = .ok (.invokevirtual 208, 3) := by decide +kernel
theorem dX10_book_57 : decode cX10_book 57 = .ok (.ifCond .eq 123, 3) := by decide +kernel
theorem dX10_book_60 : decode cX10_book 60 = .ok (.aload_n 0, 1) := by decide +kernel
theorem dX10_book_61 : decode cX10_book 61 = .ok (.invokevirtual 114, 3) := by decide +kernel
theorem dX10_book_64 : decode cX10_book 64 = .ok (.pop, 1) := by decide +kernel
theorem dX10_book_65 : decode cX10_book 65 = .ok (.aload_n 0, 1) := by decide +kernel
theorem dX10_book_66 : decode cX10_book 66 = .ok (.getfield 108, 3) := by decide +kernel
theorem dX10_book_69 : decode cX10_book 69 = .ok (.istore_n 3, 1) := by decide +kernel
theorem dX10_book_70 : decode cX10_book 70 = .ok (.aload_n 0, 1) := by decide +kernel
theorem dX10_book_71 : decode cX10_book 71 = .ok (.iconst 0, 1) := by decide +kernel
theorem dX10_book_72 : decode cX10_book 72 = .ok (.aload_n 0, 1) := by decide +kernel
theorem dX10_book_73 : decode cX10_book 73 = .ok (.getfield 160, 3) := by decide +kernel
theorem dX10_book_76 : decode cX10_book 76 = .ok (.iconst 1, 1) := by decide +kernel
theorem dX10_book_77 : decode cX10_book 77 = .ok (.isub, 1) := by decide +kernel
theorem dX10_book_78 : decode cX10_book 78 = .ok (.invokevirtual 196, 3) := by decide +kernel
theorem dX10_book_81 : decode cX10_book 81 = .ok (.istore 4, 2) := by decide +kernel
