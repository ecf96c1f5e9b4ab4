theorem dX10_span_88 : decode cX10_span 88 = .ok (.iload_n 3, 1) := by decide +kernel
theorem dX10_span_89 : decode cX10_span 89 = .ok (.iload 4, 2) := by decide +kernel
theorem dX10_span_91 : decode cX10_span 91 = .ok (.invokevirtual 463, 3) := by decide +kernel
theorem dX10_span_94 : decode cX10_span 94 = .ok (.aload_n 0, 1) := by decide +kernel
theorem dX10_span_95 : decode cX10_span 95 = .ok (.invokevirtual 393, 3) := by decide +kernel
theorem dX10_span_98 : decode cX10_span 98 = .ok (.istore 11, 2) := by decide +kernel
theorem dX10_span_100 : decode cX10_span 100 = .ok (.iload 7, 2) := by decide +kernel
theorem dX10_span_102 : decode cX10_span 102 = .ok (.iconst (-1), 1) := by decide +kernel
theorem dX10_span_103 : decode cX10_span 103 = .ok (.if_icmp .eq 10, 3) := by decide +kernel
theorem dX10_span_106 : decode cX10_span 106 = .ok (.iload 11, 2) := by decide +kernel
theorem dX10_span_108 : decode cX10_span 108 = .ok (.iload 7, 2) := by decide +kernel
theorem dX10_span_110 : decode cX10_span 110 = .ok (.if_icmp .ge 8, 3) := by decide +kernel
theorem dX10_span_118 : decode cX10_span 118 = .ok (.iload 7, 2) := by decide +kernel
theorem dX10_span_113 : decode cX10_span 113 = .ok (.iload 11, 2) := by decide +kernel
theorem dX10_span_115 : decode cX10_span 115 = .ok (.goto 5, 3) := by decide +kernel
theorem dX10_span_120 : decode cX10_span 120 = .ok (.istore 7, 2) := by decide +kernel
theorem dX10_span_122 : decode cX10_span 122 = .ok (.iload 11, 2) := by decide +kernel
theorem dX10_span_124 : decode cX10_span 124 = .ok (.iload 8, 2) := by decide +kernel
theorem dX10_span_126 : decode cX10_span 126 = .ok (.if_icmp .le 8, 3) := by decide +kernel
theorem dX10_span_134 : decode cX10_span 134 = .ok (.iload 8, 2) := by decide +kernel
theorem dX10_span_129 : decode cX10_span 129 = .ok (.iload 11, 2) := by decide +kernel
theorem dX10_span_131 : decode cX10_span 131 = .ok (.goto 5, 3) := by decide +kernel
theorem dX10_span_136 : decode cX10_span 136 = .ok (.istore 8, 2) := by decide +kernel
theorem dX10_span_138 : decode cX10_span 138 = .ok (.iload 9, 2) := by decide +kernel
theorem dX10_span_140 : decode cX10_span 140 = .ok (.aload_n 0, 1) := by decide +kernel
theorem dX10_span_141 : decode cX10_span 141 = .ok (.getfield 68, 3) := by decide +kernel
theorem dX10_span_144 : decode cX10_span 144 = .ok (.bipush 84, 2) := by decide +kernel
theorem dX10_span_146 : decode cX10_span 146 = .ok (.iload 6, 2) := by decide +kernel
theorem dX10_span_148 : decode cX10_span 148 = .ok (.iadd, 1) := by decide +kernel
theorem dX10_span_149 : decode cX10_span 149 = .ok (.iaload, 1) := by decide +kernel
theorem dX10_span_150 : decode cX10_span 150 = .ok (.iadd, 1) := by decide +kernel
theorem dX10_span_151 : decode cX10_span 151 = .ok (.istore 9, 2) := by decide +kernel
theorem dX10_span_153 : decode cX10_span 153 = .ok (.iinc 10 1, 3) := by decide +kernel
theorem dX10_span_156 : decode cX10_span 156 = .ok (.goto (-79), 3) := by decide +kernel
theorem dX10_image_0 : decode cX10_image 0 = .ok (.aload_n 0, 1) := by decide +kernel
theorem dX10_image_1 : decode cX10_image 1 = .ok (.iconst 0, 1) := by decide +kernel
theorem dX10_image_2 : decode cX10_image 2 = .ok (.putfield 3, 3) := by decide +kernel
theorem dX10_image_5 : decode cX10_image 5 = .ok (.aload_n 0, 1) := by decide +kernel
theorem dX10_image_6 : decode cX10_image 6 = .ok (.getfield 182, 3) := by decide +kernel
theorem dX10_image_9 : decode cX10_image 9 = .ok (.iconst 3, 1) := by decide +kernel
theorem dX10_image_10 : decode cX10_image 10 = .ok (.if_icmp .ne 5, 3) := by decide +kernel
theorem dX10_image_15 : decode cX10_image 15 = .ok (.aload_n 0, 1) := by decide +kernel
theorem dX10_image_16 : decode cX10_image 16 = .ok (.aload_n 0, 1) := by decide +kernel
theorem dX10_image_17 : decode cX10_image 17 = .ok (.getfield 182, 3) := by decide +kernel
theorem dX10_image_20 : decode cX10_image 20 = .ok (.iconst 1, 1) := by decide +kernel
theorem dX10_keepsAll_0 : decode cX10_keepsAll 0 = .ok (.aload_n 0, 1) := by decide +kernel
theorem dX10_keepsAll_1 : decode cX10_keepsAll 1 = .ok (.sipush 1616, 3) := by decide +kernel
theorem dX10_keepsAll_4 : decode cX10_keepsAll 4 = .ok (.iload_n 1, 1) := by decide +kernel
theorem dX10_keepsAll_5 : decode cX10_keepsAll 5 = .ok (.imul, 1) := by decide +kernel
theorem dX10_keepsAll_6 : decode cX10_keepsAll 6 = .ok (.aload_n 0, 1) := by decide +kernel
theorem dX10_keepsAll_7 : decode cX10_keepsAll 7 = .ok (.getfield 65, 3) := by decide +kernel
theorem dX10_keepsAll_10 : decode cX10_keepsAll 10 = .ok (.bipush 95, 2) := by decide +kernel
theorem dX10_keepsAll_12 : decode cX10_keepsAll 12 = .ok (.iload_n 2, 1) := by decide +kernel
theorem dX10_keepsRow_0 : decode cX10_keepsRow 0 = .ok (.iconst 0, 1) := by decide +kernel
theorem dX10_keepsRow_1 : decode cX10_keepsRow 1 = .ok (.istore 5, 2) := by decide +kernel
theorem dX10_keepsRow_3 : decode cX10_keepsRow 3 = .ok (.iload 5, 2) := by decide +kernel
theorem dX10_keepsRow_5 : decode cX10_keepsRow 5 = .ok (.iload_n 3, 1) := by decide +kernel
theorem dX10_keepsRow_6 : decode cX10_keepsRow 6 = .ok (.if_icmp .ge 43, 3) := by decide +kernel
theorem dX10_keepsRow_49 : decode cX10_keepsRow 49 = .ok (.iload_n 1, 1) := by decide +kernel
theorem dX10_keepsRow_50 : decode cX10_keepsRow 50 = .ok (.iload_n 3, 1) := by decide +kernel
theorem dX10_keepsRow_51 : decode cX10_keepsRow 51 = .ok (.iadd, 1) := by decide +kernel
theorem dX10_keepsRow_52 : decode cX10_keepsRow 52 = .ok (.ireturn, 1) := by decide +kernel
theorem dX10_keepsRow_9 : decode cX10_keepsRow 9 = .ok (.iload 4, 2) := by decide +kernel
theorem dX10_keepsRow_11 : decode cX10_keepsRow 11 = .ok (.ifCond .eq 19, 3) := by decide +kernel
theorem dX10_keepsRow_30 : decode cX10_keepsRow 30 = .ok (.aload_n 2, 1) := by decide +kernel
theorem dX10_keepsRow_31 : decode cX10_keepsRow 31 = .ok (.iload 5, 2) := by decide +kernel
theorem dX10_keepsRow_33 : decode cX10_keepsRow 33 = .ok (.aload_n 0, 1) := by decide +kernel
theorem dX10_keepsRow_34 : decode cX10_keepsRow 34 = .ok (.getfield 90, 3) := by decide +kernel
theorem dX10_keepsRow_37 : decode cX10_keepsRow 37 = .ok (.iload_n 1, 1) := by decide +kernel
theorem dX10_keepsRow_38 : decode cX10_keepsRow 38 = .ok (.iload 5, 2) := by decide +kernel
theorem dX10_keepsRow_40 : decode cX10_keepsRow 40 = .ok (.iadd, 1) := by decide +kernel
theorem dX10_keepsRow_41 : decode cX10_keepsRow 41 = .ok (.iaload, 1) := by decide +kernel
theorem dX10_keepsRow_42 : decode cX10_keepsRow 42 = .ok (.iastore, 1) := by decide +kernel
theorem dX10_keepsRow_43 : decode cX10_keepsRow 43 = .ok (.iinc 5 1, 3) := by decide +kernel
theorem dX10_keepsRow_46 : decode cX10_keepsRow 46 = .ok (.goto (-43), 3) := by decide +kernel
theorem dX10_keepsRow_14 : decode cX10_keepsRow 14 = .ok (.aload_n 0, 1) := by decide +kernel
theorem dX10_keepsRow_15 : decode cX10_keepsRow 15 = .ok (.getfield 90, 3) := by decide +kernel
theorem dX10_keepsRow_18 : decode cX10_keepsRow 18 = .ok (.iload_n 1, 1) := by decide +kernel
theorem dX10_keepsRow_19 : decode cX10_keepsRow 19 = .ok (.iload 5, 2) := by decide +kernel
theorem dX10_keepsRow_21 : decode cX10_keepsRow 21 = .ok (.iadd, 1) := by decide +kernel
theorem dX10_keepsRow_22 : decode cX10_keepsRow 22 = .ok (.aload_n 2, 1) := by decide +kernel
theorem dX10_keepsRow_23 : decode cX10_keepsRow 23 = .ok (.iload 5, 2) := by decide +kernel
theorem dX10_keepsRow_25 : decode cX10_keepsRow 25 = .ok (.iaload, 1) := by decide +kernel
theorem dX10_keepsRow_26 : decode cX10_keepsRow 26 = .ok (.iastore, 1) := by decide +kernel
theorem dX10_keepsRow_27 : decode cX10_keepsRow 27 = .ok (.goto 16, 3) := by decide +kernel
theorem dX10_keepsAll_13 : decode cX10_keepsAll 13 = .ok (.invokevirtual 466, 3) := by decide +kernel
theorem dX10_keepsAll_16 : decode cX10_keepsAll 16 = .ok (.istore_n 3, 1) := by decide +kernel
theorem dX10_keepsAll_17 : decode cX10_keepsAll 17 = .ok (.aload_n 0, 1) := by decide +kernel
theorem dX10_keepsAll_18 : decode cX10_keepsAll 18 = .ok (.iload_n 3, 1) := by decide +kernel
theorem dX10_keepsAll_19 : decode cX10_keepsAll 19 = .ok (.aload_n 0, 1) := by decide +kernel
theorem dX10_keepsAll_20 : decode cX10_keepsAll 20 = .ok (.getfield 71, 3) := by decide +kernel
theorem dX10_keepsAll_23 : decode cX10_keepsAll 23 = .ok (.sipush 1520, 3) := by decide +kernel
theorem dX10_keepsAll_26 : decode cX10_keepsAll 26 = .ok (.iload_n 2, 1) := by decide +kernel
theorem dX10_keepsAll_27 : decode cX10_keepsAll 27 = .ok (.invokevirtual 466, 3) := by decide +kernel
theorem dX10_keepsAll_30 : decode cX10_keepsAll 30 = .ok (.istore_n 3, 1) := by decide +kernel
theorem dX10_keepsAll_31 : decode cX10_keepsAll 31 = .ok (.iload_n 2, 1) := by decide +kernel
theorem dX10_keepsAll_32 : decode cX10_keepsAll 32 = .ok (.ifCond .eq 16, 3) := by decide +kernel
theorem dX10_keepsAll_48 : decode cX10_keepsAll 48 = .ok (.aload_n 0, 1) := by decide +kernel
theorem dX10_keepsAll_49 : decode cX10_keepsAll 49 = .ok (.aload_n 0, 1) := by decide +kernel
theorem dX10_keepsAll_50 : decode cX10_keepsAll 50 = .ok (.getfield 90, 3) := by decide +kernel
theorem dX10_keepsAll_53 : decode cX10_keepsAll 53 = .ok (.iload_n 3, 1) := by decide +kernel
theorem dX10_keepsAll_54 : decode cX10_keepsAll 54 = .ok (.iaload, 1) := by decide +kernel
theorem dX10_keepsAll_55 : decode cX10_keepsAll 55 = .ok (.putfield 179, 3) := by decide +kernel
theorem dX10_keepsAll_58 : decode cX10_keepsAll 58 = .ok (.return_, 1) := by decide +kernel
theorem dX10_keepsAll_35 : decode cX10_keepsAll 35 = .ok (.aload_n 0, 1) := by decide +kernel
theorem dX10_keepsAll_36 : decode cX10_keepsAll 36 = .ok (.getfield 90, 3) := by decide +kernel
theorem dX10_keepsAll_39 : decode cX10_keepsAll 39 = .ok (.iload_n 3, 1) := by decide +kernel
theorem dX10_keepsAll_40 : decode cX10_keepsAll 40 = .ok (.aload_n 0, 1) := by decide +kernel
theorem dX10_keepsAll_41 : decode cX10_keepsAll 41 = .ok (.getfield 179, 3) := by decide +kernel
theorem dX10_keepsAll_44 : decode cX10_keepsAll 44 = .ok (.iastore, 1) := by decide +kernel
theorem dX10_keepsAll_45 : decode cX10_keepsAll 45 = .ok (.goto 13, 3) := by decide +kernel
theorem dX10_image_21 : decode cX10_image 21 = .ok (.invokevirtual 470, 3) := by decide +kernel
theorem dX10_image_24 : decode cX10_image 24 = .ok (.aload_n 0, 1) := by decide +kernel
theorem dX10_image_25 : decode cX10_image 25 = .ok (.dup, 1) := by decide +kernel
theorem dX10_image_26 : decode cX10_image 26 = .ok (.getfield 182, 3) := by decide +kernel
theorem dX10_image_29 : decode cX10_image 29 = .ok (.iconst 1, 1) := by decide +kernel
theorem dX10_image_30 : decode cX10_image 30 = .ok (.iadd, 1) := by decide +kernel
theorem dX10_image_31 : decode cX10_image 31 = .ok (.putfield 182, 3) := by decide +kernel
theorem dX10_image_34 : decode cX10_image 34 = .ok (.aload_n 0, 1) := by decide +kernel
theorem dX10_image_35 : decode cX10_image 35 = .ok (.getfield 182, 3) := by decide +kernel
theorem dX10_image_38 : decode cX10_image 38 = .ok (.ireturn, 1) := by decide +kernel
theorem dX10_image_13 : decode cX10_image 13 = .ok (.iconst (-1), 1) := by decide +kernel
theorem dX10_image_14 : decode cX10_image 14 = .ok (.ireturn, 1) := by decide +kernel
theorem dX10_restore_0 : decode cX10_restore 0 = .ok (.aload_n 0, 1) := by decide +kernel
theorem dX10_restore_1 : decode cX10_restore 1 = .ok (.iconst 0, 1) := by decide +kernel
theorem dX10_restore_2 : decode cX10_restore 2 = .ok (.putfield 3, 3) := by decide +kernel
theorem dX10_restore_5 : decode cX10_restore 5 = .ok (.aload_n 0, 1) := by decide +kernel
theorem dX10_restore_6 : decode cX10_restore 6 = .ok (.getfield 182, 3) := by decide +kernel
theorem dX10_restore_9 : decode cX10_restore 9 = .ok (.ifCond .ne 5, 3) := by decide +kernel
theorem dX10_restore_14 : decode cX10_restore 14 = .ok (.aload_n 0, 1) := by decide +kernel
theorem dX10_restore_15 : decode cX10_restore 15 = .ok (.dup, 1) := by decide +kernel
theorem dX10_restore_16 : decode cX10_restore 16 = .ok (.getfield 182, 3) := by decide +kernel
theorem dX10_restore_19 : decode cX10_restore 19 = .ok (.iconst 1, 1) := by decide +kernel
theorem dX10_restore_20 : decode cX10_restore 20 = .ok (.isub, 1) := by decide +kernel
theorem dX10_restore_21 : decode cX10_restore 21 = .ok (.putfield 182, 3) := by decide +kernel
theorem dX10_restore_24 : decode cX10_restore 24 = .ok (.aload_n 0, 1) := by decide +kernel
theorem dX10_restore_25 : decode cX10_restore 25 = .ok (.aload_n 0, 1) := by decide +kernel
theorem dX10_restore_26 : decode cX10_restore 26 = .ok (.getfield 182, 3) := by decide +kernel
theorem dX10_restore_29 : decode cX10_restore 29 = .ok (.iconst 0, 1) := by decide +kernel
theorem dX10_restore_30 : decode cX10_restore 30 = .ok (.invokevirtual 470, 3) := by decide +kernel
theorem dX10_restore_33 : decode cX10_restore 33 = .ok (.aload_n 0, 1) := by decide +kernel
theorem dX10_restore_34 : decode cX10_restore 34 = .ok (.iconst 0, 1) := by decide +kernel
theorem dX10_restore_35 : decode cX10_restore 35 = .ok (.putfield 185, 3) := by decide +kernel
theorem dX10_restore_38 : decode cX10_restore 38 = .ok (.aload_n 0, 1) := by decide +kernel
theorem dX10_restore_39 : decode cX10_restore 39 = .ok (.getfield 182, 3) := by decide +kernel
theorem dX10_restore_42 : decode cX10_restore 42 = .ok (.ireturn, 1) := by decide +kernel
theorem dX10_restore_12 : decode cX10_restore 12 = .ok (.iconst (-1), 1) := by decide +kernel
theorem dX10_restore_13 : decode cX10_restore 13 = .ok (.ireturn, 1) := by decide +kernel
theorem dX10_status_0 : decode cX10_status 0 = .ok (.aload_n 0, 1) := by decide +kernel
theorem dX10_status_1 : decode cX10_status 1 = .ok (.iconst 0, 1) := by decide +kernel
theorem dX10_status_2 : decode cX10_status 2 = .ok (.putfield 3, 3) := by decide +kernel
theorem dX10_status_5 : decode cX10_status 5 = .ok (.iload_n 1, 1) := by decide +kernel
theorem dX10_status_6 : decode cX10_status 6 = .ok (.iconst 0, 1) := by decide +kernel
theorem dX10_status_7 : decode cX10_status 7 = .ok (.iconst 1, 1) := by decide +kernel
theorem dX10_status_8 : decode cX10_status 8 = .ok (.invokestatic 384, 3) := by decide +kernel
theorem dX10_status_11 : decode cX10_status 11 = .ok (.ifCond .eq 12, 3) := by decide +kernel
theorem dX10_status_23 : decode cX10_status 23 = .ok (.iconst (-1), 1) := by decide +kernel
theorem dX10_status_24 : decode cX10_status 24 = .ok (.ireturn, 1) := by decide +kernel
theorem dX10_status_14 : decode cX10_status 14 = .ok (.aload_n 0, 1) := by decide +kernel
theorem dX10_status_15 : decode cX10_status 15 = .ok (.getfield 7, 3) := by decide +kernel
theorem dX10_status_18 : decode cX10_status 18 = .ok (.iload_n 1, 1) := by decide +kernel
theorem dX10_status_19 : decode cX10_status 19 = .ok (.iaload, 1) := by decide +kernel
theorem dX10_status_20 : decode cX10_status 20 = .ok (.goto 4, 3) := by decide +kernel
theorem dX10_count_0 : decode cX10_count 0 = .ok (.aload_n 0, 1) := by decide +kernel
theorem dX10_count_1 : decode cX10_count 1 = .ok (.iconst 0, 1) := by decide +kernel
theorem dX10_count_2 : decode cX10_count 2 = .ok (.putfield 3, 3) := by decide +kernel
theorem dX10_count_5 : decode cX10_count 5 = .ok (.iload_n 1, 1) := by decide +kernel
theorem dX10_count_6 : decode cX10_count 6 = .ok (.ifCond .ne 10, 3) := by decide +kernel
theorem dX10_count_16 : decode cX10_count 16 = .ok (.iload_n 1, 1) := by decide +kernel
theorem dX10_count_17 : decode cX10_count 17 = .ok (.iconst 1, 1) := by decide +kernel
theorem dX10_count_18 : decode cX10_count 18 = .ok (.if_icmp .ne 10, 3) := by decide +kernel
theorem dX10_count_28 : decode cX10_count 28 = .ok (.iload_n 1, 1) := by decide +kernel
theorem dX10_count_29 : decode cX10_count 29 = .ok (.iconst 2, 1) := by decide +kernel
theorem dX10_count_30 : decode cX10_count 30 = .ok (.if_icmp .ne 10, 3) := by decide +kernel
theorem dX10_count_40 : decode cX10_count 40 = .ok (.iconst (-1), 1) := by decide +kernel
theorem dX10_count_41 : decode cX10_count 41 = .ok (.ireturn, 1) := by decide +kernel
theorem dX10_count_33 : decode cX10_count 33 = .ok (.aload_n 0, 1) := by decide +kernel
theorem dX10_count_34 : decode cX10_count 34 = .ok (.getfield 179, 3) := by decide +kernel
theorem dX10_count_37 : decode cX10_count 37 = .ok (.goto 4, 3) := by decide +kernel
theorem dX10_count_21 : decode cX10_count 21 = .ok (.aload_n 0, 1) := by decide +kernel
theorem dX10_count_22 : decode cX10_count 22 = .ok (.getfield 99, 3) := by decide +kernel
theorem dX10_count_25 : decode cX10_count 25 = .ok (.goto 16, 3) := by decide +kernel
theorem dX10_count_9 : decode cX10_count 9 = .ok (.aload_n 0, 1) := by decide +kernel
theorem dX10_count_10 : decode cX10_count 10 = .ok (.getfield 182, 3) := by decide +kernel
theorem dX10_count_13 : decode cX10_count 13 = .ok (.goto 28, 3) := by decide +kernel
theorem dX10_thrown_0 : decode cX10_thrown 0 = .ok (.aload_n 0, 1) := by decide +kernel
theorem dX10_thrown_1 : decode cX10_thrown 1 = .ok (.getfield 3, 3) := by decide +kernel
theorem dX10_thrown_4 : decode cX10_thrown 4 = .ok (.ireturn, 1) := by decide +kernel
