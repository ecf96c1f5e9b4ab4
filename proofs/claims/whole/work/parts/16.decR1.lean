theorem dX10_book_83 : decode cX10_book 83 = .ok (.aload_n 0, 1) := by decide +kernel
theorem dX10_book_84 : decode cX10_book 84 = .ok (.invokevirtual 131, 3) := by decide +kernel
theorem dX10_book_87 : decode cX10_book 87 = .ok (.ifCond .eq 15, 3) := by decide +kernel
theorem dX10_book_90 : decode cX10_book 90 = .ok (.iload_n 2, 1) := by decide +kernel
theorem dX10_book_91 : decode cX10_book 91 = .ok (.bipush 6, 2) := by decide +kernel
theorem dX10_book_93 : decode cX10_book 93 = .ok (.if_icmp .ne 9, 3) := by decide +kernel
theorem dX10_book_96 : decode cX10_book 96 = .ok (.aload_n 0, 1) := by decide +kernel
theorem dX10_book_97 : decode cX10_book 97 = .ok (.iconst 3, 1) := by decide +kernel
theorem dX10_book_98 : decode cX10_book 98 = .ok (.iload_n 3, 1) := by decide +kernel
theorem dX10_book_99 : decode cX10_book 99 = .ok (.invokevirtual 138, 3) := by decide +kernel
theorem dX10_book_180 : decode cX10_book 180 = .ok (.aload_n 0, 1) := by decide +kernel
theorem dX10_book_181 : decode cX10_book 181 = .ok (.iload_n 2, 1) := by decide +kernel
theorem dX10_book_182 : decode cX10_book 182 = .ok (.invokevirtual 229, 3) := by decide +kernel
theorem dX10_book_185 : decode cX10_book 185 = .ok (.istore_n 3, 1) := by decide +kernel
theorem dX10_book_186 : decode cX10_book 186 = .ok (.aload_n 0, 1) := by decide +kernel
theorem dX10_book_187 : decode cX10_book 187 = .ok (.getfield 102, 3) := by decide +kernel
theorem dX10_book_190 : decode cX10_book 190 = .ok (.iconst (-1), 1) := by decide +kernel
theorem dX10_book_191 : decode cX10_book 191 = .ok (.if_icmp .eq 5, 3) := by decide +kernel
theorem dX10_book_196 : decode cX10_book 196 = .ok (.aload_n 0, 1) := by decide +kernel
theorem dX10_book_197 : decode cX10_book 197 = .ok (.iload_n 2, 1) := by decide +kernel
theorem dX10_book_198 : decode cX10_book 198 = .ok (.putfield 176, 3) := by decide +kernel
theorem dX10_book_201 : decode cX10_book 201 = .ok (.aload_n 0, 1) := by decide +kernel
theorem dX10_book_202 : decode cX10_book 202 = .ok (.aload_n 0, 1) := by decide +kernel
theorem dX10_book_203 : decode cX10_book 203 = .ok (.getfield 74, 3) := by decide +kernel
theorem dX10_book_206 : decode cX10_book 206 = .ok (.aload_n 0, 1) := by decide +kernel
theorem dX10_book_207 : decode cX10_book 207 = .ok (.getfield 77, 3) := by decide +kernel
theorem dX10_book_210 : decode cX10_book 210 = .ok (.bipush 18, 2) := by decide +kernel
theorem dX10_book_212 : decode cX10_book 212 = .ok (.invokevirtual 169, 3) := by decide +kernel
theorem dX10_book_215 : decode cX10_book 215 = .ok (.iload_n 3, 1) := by decide +kernel
theorem dX10_book_216 : decode cX10_book 216 = .ok (.ireturn, 1) := by decide +kernel
theorem dX10_book_194 : decode cX10_book 194 = .ok (.iload_n 3, 1) := by decide +kernel
theorem dX10_book_195 : decode cX10_book 195 = .ok (.ireturn, 1) := by decide +kernel
theorem dX10_book_102 : decode cX10_book 102 = .ok (.aload_n 0, 1) := by decide +kernel
theorem dX10_book_103 : decode cX10_book 103 = .ok (.iconst 0, 1) := by decide +kernel
theorem dX10_book_104 : decode cX10_book 104 = .ok (.aload_n 0, 1) := by decide +kernel
theorem dX10_book_105 : decode cX10_book 105 = .ok (.getfield 157, 3) := by decide +kernel
theorem dX10_book_108 : decode cX10_book 108 = .ok (.iconst 1, 1) := by decide +kernel
theorem dX10_book_109 : decode cX10_book 109 = .ok (.isub, 1) := by decide +kernel
theorem dX10_book_110 : decode cX10_book 110 = .ok (.invokevirtual 196, 3) := by decide +kernel
theorem dX10_book_113 : decode cX10_book 113 = .ok (.istore 5, 2) := by decide +kernel
theorem dX10_book_115 : decode cX10_book 115 = .ok (.aload_n 0, 1) := by decide +kernel
theorem dX10_book_116 : decode cX10_book 116 = .ok (.iconst 0, 1) := by decide +kernel
theorem dX10_book_117 : decode cX10_book 117 = .ok (.bipush 99, 2) := by decide +kernel
theorem dX10_book_119 : decode cX10_book 119 = .ok (.invokevirtual 196, 3) := by decide +kernel
theorem dX10_book_122 : decode cX10_book 122 = .ok (.istore 6, 2) := by decide +kernel
theorem dX10_book_124 : decode cX10_book 124 = .ok (.aload_n 0, 1) := by decide +kernel
theorem dX10_book_125 : decode cX10_book 125 = .ok (.bipush 59, 2) := by decide +kernel
theorem dX10_book_127 : decode cX10_book 127 = .ok (.invokevirtual 226, 3) := by decide +kernel
theorem dX10_book_130 : decode cX10_book 130 = .ok (.aload_n 0, 1) := by decide +kernel
theorem dX10_book_131 : decode cX10_book 131 = .ok (.invokevirtual 131, 3) := by decide +kernel
theorem dX10_book_134 : decode cX10_book 134 = .ok (.ifCond .ne 6, 3) := by decide +kernel
theorem dX10_book_140 : decode cX10_book 140 = .ok (.aload_n 0, 1) := by decide +kernel
theorem dX10_book_141 : decode cX10_book 141 = .ok (.getfield 74, 3) := by decide +kernel
theorem dX10_book_144 : decode cX10_book 144 = .ok (.iconst 3, 1) := by decide +kernel
theorem dX10_book_145 : decode cX10_book 145 = .ok (.iload_n 2, 1) := by decide +kernel
theorem dX10_book_146 : decode cX10_book 146 = .ok (.imul, 1) := by decide +kernel
theorem dX10_book_147 : decode cX10_book 147 = .ok (.iload 4, 2) := by decide +kernel
theorem dX10_book_149 : decode cX10_book 149 = .ok (.iastore, 1) := by decide +kernel
theorem dX10_book_150 : decode cX10_book 150 = .ok (.aload_n 0, 1) := by decide +kernel
theorem dX10_book_151 : decode cX10_book 151 = .ok (.getfield 74, 3) := by decide +kernel
theorem dX10_book_154 : decode cX10_book 154 = .ok (.iconst 3, 1) := by decide +kernel
theorem dX10_book_155 : decode cX10_book 155 = .ok (.iload_n 2, 1) := by decide +kernel
theorem dX10_book_156 : decode cX10_book 156 = .ok (.imul, 1) := by decide +kernel
theorem dX10_book_157 : decode cX10_book 157 = .ok (.iconst 1, 1) := by decide +kernel
theorem dX10_book_158 : decode cX10_book 158 = .ok (.iadd, 1) := by decide +kernel
theorem dX10_book_159 : decode cX10_book 159 = .ok (.iload 5, 2) := by decide +kernel
theorem dX10_book_161 : decode cX10_book 161 = .ok (.iastore, 1) := by decide +kernel
theorem dX10_book_162 : decode cX10_book 162 = .ok (.aload_n 0, 1) := by decide +kernel
theorem dX10_book_163 : decode cX10_book 163 = .ok (.getfield 74, 3) := by decide +kernel
theorem dX10_book_166 : decode cX10_book 166 = .ok (.iconst 3, 1) := by decide +kernel
theorem dX10_book_167 : decode cX10_book 167 = .ok (.iload_n 2, 1) := by decide +kernel
theorem dX10_book_168 : decode cX10_book 168 = .ok (.imul, 1) := by decide +kernel
theorem dX10_book_169 : decode cX10_book 169 = .ok (.iconst 2, 1) := by decide +kernel
theorem dX10_book_170 : decode cX10_book 170 = .ok (.iadd, 1) := by decide +kernel
theorem dX10_book_171 : decode cX10_book 171 = .ok (.iload 6, 2) := by decide +kernel
theorem dX10_book_173 : decode cX10_book 173 = .ok (.iastore, 1) := by decide +kernel
theorem dX10_book_174 : decode cX10_book 174 = .ok (.iinc 2 1, 3) := by decide +kernel
theorem dX10_book_177 : decode cX10_book 177 = .ok (.goto (-131), 3) := by decide +kernel
theorem dX10_book_137 : decode cX10_book 137 = .ok (.goto 43, 3) := by decide +kernel
theorem dX10_fault_0 : decode cX10_fault 0 = .ok (.aload_n 0, 1) := by decide +kernel
theorem dX10_fault_1 : decode cX10_fault 1 = .ok (.iconst 0, 1) := by decide +kernel
theorem dX10_fault_2 : decode cX10_fault 2 = .ok (.putfield 3, 3) := by decide +kernel
theorem dX10_fault_5 : decode cX10_fault 5 = .ok (.aload_n 0, 1) := by decide +kernel
theorem dX10_fault_6 : decode cX10_fault 6 = .ok (.getfield 17, 3) := by decide +kernel
theorem dX10_fault_9 : decode cX10_fault 9 = .ok (.ireturn, 1) := by decide +kernel
theorem dX10_undo_0 : decode cX10_undo 0 = .ok (.aload_n 0, 1) := by decide +kernel
theorem dX10_undo_1 : decode cX10_undo 1 = .ok (.iconst 0, 1) := by decide +kernel
theorem dX10_undo_2 : decode cX10_undo 2 = .ok (.putfield 3, 3) := by decide +kernel
theorem dX10_undo_5 : decode cX10_undo 5 = .ok (.aload_n 0, 1) := by decide +kernel
theorem dX10_undo_6 : decode cX10_undo 6 = .ok (.getfield 179, 3) := by decide +kernel
theorem dX10_undo_9 : decode cX10_undo 9 = .ok (.ifCond .ne 5, 3) := by decide +kernel
theorem dX10_undo_14 : decode cX10_undo 14 = .ok (.aload_n 0, 1) := by decide +kernel
theorem dX10_undo_15 : decode cX10_undo 15 = .ok (.dup, 1) := by decide +kernel
theorem dX10_undo_16 : decode cX10_undo 16 = .ok (.getfield 179, 3) := by decide +kernel
theorem dX10_undo_19 : decode cX10_undo 19 = .ok (.iconst 1, 1) := by decide +kernel
theorem dX10_undo_20 : decode cX10_undo 20 = .ok (.isub, 1) := by decide +kernel
theorem dX10_undo_21 : decode cX10_undo 21 = .ok (.putfield 179, 3) := by decide +kernel
theorem dX10_undo_24 : decode cX10_undo 24 = .ok (.iconst 0, 1) := by decide +kernel
theorem dX10_undo_25 : decode cX10_undo 25 = .ok (.istore_n 1, 1) := by decide +kernel
theorem dX10_undo_12 : decode cX10_undo 12 = .ok (.iconst (-1), 1) := by decide +kernel
theorem dX10_undo_13 : decode cX10_undo 13 = .ok (.ireturn, 1) := by decide +kernel
theorem dX10_undo_26 : decode cX10_undo 26 = .ok (.iload_n 1, 1) := by decide +kernel
theorem dX10_undo_27 : decode cX10_undo 27 = .ok (.bipush 95, 2) := by decide +kernel
theorem dX10_undo_29 : decode cX10_undo 29 = .ok (.if_icmp .ge 29, 3) := by decide +kernel
theorem dX10_undo_58 : decode cX10_undo 58 = .ok (.aload_n 0, 1) := by decide +kernel
theorem dX10_undo_59 : decode cX10_undo 59 = .ok (.iconst 0, 1) := by decide +kernel
theorem dX10_undo_60 : decode cX10_undo 60 = .ok (.putfield 185, 3) := by decide +kernel
theorem dX10_undo_63 : decode cX10_undo 63 = .ok (.aload_n 0, 1) := by decide +kernel
theorem dX10_undo_64 : decode cX10_undo 64 = .ok (.getfield 179, 3) := by decide +kernel
theorem dX10_undo_67 : decode cX10_undo 67 = .ok (.ireturn, 1) := by decide +kernel
theorem dX10_undo_32 : decode cX10_undo 32 = .ok (.aload_n 0, 1) := by decide +kernel
theorem dX10_undo_33 : decode cX10_undo 33 = .ok (.getfield 65, 3) := by decide +kernel
theorem dX10_undo_36 : decode cX10_undo 36 = .ok (.iload_n 1, 1) := by decide +kernel
theorem dX10_undo_37 : decode cX10_undo 37 = .ok (.aload_n 0, 1) := by decide +kernel
theorem dX10_undo_38 : decode cX10_undo 38 = .ok (.getfield 71, 3) := by decide +kernel
theorem dX10_undo_41 : decode cX10_undo 41 = .ok (.bipush 95, 2) := by decide +kernel
theorem dX10_undo_43 : decode cX10_undo 43 = .ok (.aload_n 0, 1) := by decide +kernel
theorem dX10_undo_44 : decode cX10_undo 44 = .ok (.getfield 179, 3) := by decide +kernel
theorem dX10_undo_47 : decode cX10_undo 47 = .ok (.imul, 1) := by decide +kernel
theorem dX10_undo_48 : decode cX10_undo 48 = .ok (.iload_n 1, 1) := by decide +kernel
theorem dX10_undo_49 : decode cX10_undo 49 = .ok (.iadd, 1) := by decide +kernel
theorem dX10_undo_50 : decode cX10_undo 50 = .ok (.iaload, 1) := by decide +kernel
theorem dX10_undo_51 : decode cX10_undo 51 = .ok (.iastore, 1) := by decide +kernel
theorem dX10_undo_52 : decode cX10_undo 52 = .ok (.iinc 1 1, 3) := by decide +kernel
theorem dX10_undo_55 : decode cX10_undo 55 = .ok (.goto (-29), 3) := by decide +kernel
theorem dX10_told_0 : decode cX10_told 0 = .ok (.aload_n 0, 1) := by decide +kernel
theorem dX10_told_1 : decode cX10_told 1 = .ok (.iconst 0, 1) := by decide +kernel
theorem dX10_told_2 : decode cX10_told 2 = .ok (.putfield 3, 3) := by decide +kernel
theorem dX10_told_5 : decode cX10_told 5 = .ok (.aload_n 0, 1) := by decide +kernel
theorem dX10_told_6 : decode cX10_told 6 = .ok (.iload_n 1, 1) := by decide +kernel
theorem dX10_told_7 : decode cX10_told 7 = .ok (.iconst 0, 1) := by decide +kernel
theorem dX10_told_8 : decode cX10_told 8 = .ok (.bipush 11, 2) := by decide +kernel
theorem dX10_within_0 : decode cX10_within 0 = .ok (.iload_n 0, 1) := by decide +kernel
theorem dX10_within_1 : decode cX10_within 1 = .ok (.iload_n 1, 1) := by decide +kernel
theorem dX10_within_2 : decode cX10_within 2 = .ok (.if_icmp .lt 12, 3) := by decide +kernel
theorem dX10_within_14 : decode cX10_within 14 = .ok (.iconst 0, 1) := by decide +kernel
theorem dX10_within_15 : decode cX10_within 15 = .ok (.ireturn, 1) := by decide +kernel
theorem dX10_within_5 : decode cX10_within 5 = .ok (.iload_n 0, 1) := by decide +kernel
theorem dX10_within_6 : decode cX10_within 6 = .ok (.iload_n 2, 1) := by decide +kernel
theorem dX10_within_7 : decode cX10_within 7 = .ok (.if_icmp .gt 7, 3) := by decide +kernel
theorem dX10_within_10 : decode cX10_within 10 = .ok (.iconst 1, 1) := by decide +kernel
theorem dX10_within_11 : decode cX10_within 11 = .ok (.goto 4, 3) := by decide +kernel
theorem dX10_told_10 : decode cX10_told 10 = .ok (.invokestatic 384, 3) := by decide +kernel
theorem dX10_told_13 : decode cX10_told 13 = .ok (.iconst 1, 1) := by decide +kernel
theorem dX10_told_14 : decode cX10_told 14 = .ok (.iconst 1, 1) := by decide +kernel
theorem dX10_told_15 : decode cX10_told 15 = .ok (.invokevirtual 200, 3) := by decide +kernel
theorem dX10_told_18 : decode cX10_told 18 = .ok (.ifCond .ne 5, 3) := by decide +kernel
theorem dX10_told_23 : decode cX10_told 23 = .ok (.aload_n 0, 1) := by decide +kernel
theorem dX10_told_24 : decode cX10_told 24 = .ok (.invokevirtual 309, 3) := by decide +kernel
theorem dX10_told_27 : decode cX10_told 27 = .ok (.iload_n 1, 1) := by decide +kernel
theorem dX10_told_28 : decode cX10_told 28 = .ok (.iconst 4, 1) := by decide +kernel
theorem dX10_told_29 : decode cX10_told 29 = .ok (.if_icmp .ge 46, 3) := by decide +kernel
theorem dX10_told_75 : decode cX10_told 75 = .ok (.iload_n 1, 1) := by decide +kernel
theorem dX10_told_76 : decode cX10_told 76 = .ok (.bipush 7, 2) := by decide +kernel
theorem dX10_told_78 : decode cX10_told 78 = .ok (.if_icmp .ge 44, 3) := by decide +kernel
theorem dX10_told_122 : decode cX10_told 122 = .ok (.iload_n 1, 1) := by decide +kernel
theorem dX10_told_123 : decode cX10_told 123 = .ok (.bipush 9, 2) := by decide +kernel
theorem dX10_told_125 : decode cX10_told 125 = .ok (.if_icmp .ge 27, 3) := by decide +kernel
theorem dX10_told_152 : decode cX10_told 152 = .ok (.iload_n 1, 1) := by decide +kernel
theorem dX10_told_153 : decode cX10_told 153 = .ok (.bipush 9, 2) := by decide +kernel
theorem dX10_told_155 : decode cX10_told 155 = .ok (.if_icmp .ne 10, 3) := by decide +kernel
theorem dX10_told_165 : decode cX10_told 165 = .ok (.iload_n 1, 1) := by decide +kernel
theorem dX10_told_166 : decode cX10_told 166 = .ok (.bipush 10, 2) := by decide +kernel
theorem dX10_told_168 : decode cX10_told 168 = .ok (.if_icmp .ne 10, 3) := by decide +kernel
theorem dX10_told_178 : decode cX10_told 178 = .ok (.aload_n 0, 1) := by decide +kernel
theorem dX10_told_179 : decode cX10_told 179 = .ok (.getfield 166, 3) := by decide +kernel
theorem dX10_told_182 : decode cX10_told 182 = .ok (.ireturn, 1) := by decide +kernel
theorem dX10_told_171 : decode cX10_told 171 = .ok (.aload_n 0, 1) := by decide +kernel
theorem dX10_told_172 : decode cX10_told 172 = .ok (.getfield 185, 3) := by decide +kernel
theorem dX10_told_175 : decode cX10_told 175 = .ok (.goto 7, 3) := by decide +kernel
theorem dX10_told_158 : decode cX10_told 158 = .ok (.aload_n 0, 1) := by decide +kernel
theorem dX10_told_159 : decode cX10_told 159 = .ok (.getfield 176, 3) := by decide +kernel
theorem dX10_told_162 : decode cX10_told 162 = .ok (.goto 20, 3) := by decide +kernel
theorem dX10_told_128 : decode cX10_told 128 = .ok (.iload_n 1, 1) := by decide +kernel
theorem dX10_told_129 : decode cX10_told 129 = .ok (.bipush 7, 2) := by decide +kernel
theorem dX10_told_131 : decode cX10_told 131 = .ok (.if_icmp .ne 16, 3) := by decide +kernel
theorem dX10_told_147 : decode cX10_told 147 = .ok (.aload_n 0, 1) := by decide +kernel
theorem dX10_allLines_0 : decode cX10_allLines 0 = .ok (.iconst 0, 1) := by decide +kernel
theorem dX10_allLines_1 : decode cX10_allLines 1 = .ok (.istore_n 1, 1) := by decide +kernel
theorem dX10_allLines_2 : decode cX10_allLines 2 = .ok (.iconst 0, 1) := by decide +kernel
theorem dX10_allLines_3 : decode cX10_allLines 3 = .ok (.istore_n 2, 1) := by decide +kernel
theorem dX10_allLines_4 : decode cX10_allLines 4 = .ok (.iload_n 2, 1) := by decide +kernel
theorem dX10_allLines_5 : decode cX10_allLines 5 = .ok (.aload_n 0, 1) := by decide +kernel
theorem dX10_allLines_6 : decode cX10_allLines 6 = .ok (.getfield 160, 3) := by decide +kernel
theorem dX10_allLines_9 : decode cX10_allLines 9 = .ok (.if_icmp .ge 17, 3) := by decide +kernel
theorem dX10_allLines_26 : decode cX10_allLines 26 = .ok (.iload_n 1, 1) := by decide +kernel
theorem dX10_allLines_27 : decode cX10_allLines 27 = .ok (.ireturn, 1) := by decide +kernel
theorem dX10_allLines_12 : decode cX10_allLines 12 = .ok (.iload_n 1, 1) := by decide +kernel
theorem dX10_allLines_13 : decode cX10_allLines 13 = .ok (.aload_n 0, 1) := by decide +kernel
theorem dX10_allLines_14 : decode cX10_allLines 14 = .ok (.iload_n 2, 1) := by decide +kernel
theorem dX10_allLines_15 : decode cX10_allLines 15 = .ok (.invokevirtual 334, 3) := by decide +kernel
theorem dX10_allLines_18 : decode cX10_allLines 18 = .ok (.iadd, 1) := by decide +kernel
theorem dX10_allLines_19 : decode cX10_allLines 19 = .ok (.istore_n 1, 1) := by decide +kernel
theorem dX10_allLines_20 : decode cX10_allLines 20 = .ok (.iinc 2 1, 3) := by decide +kernel
theorem dX10_allLines_23 : decode cX10_allLines 23 = .ok (.goto (-19), 3) := by decide +kernel
theorem dX10_told_148 : decode cX10_told 148 = .ok (.invokevirtual 393, 3) := by decide +kernel
theorem dX10_told_151 : decode cX10_told 151 = .ok (.ireturn, 1) := by decide +kernel
theorem dX10_told_134 : decode cX10_told 134 = .ok (.aload_n 0, 1) := by decide +kernel
theorem dX10_told_135 : decode cX10_told 135 = .ok (.bipush 72, 2) := by decide +kernel
theorem dX10_told_137 : decode cX10_told 137 = .ok (.aload_n 0, 1) := by decide +kernel
theorem dX10_told_138 : decode cX10_told 138 = .ok (.getfield 160, 3) := by decide +kernel
theorem dX10_told_141 : decode cX10_told 141 = .ok (.invokevirtual 328, 3) := by decide +kernel
theorem dX10_told_144 : decode cX10_told 144 = .ok (.goto 7, 3) := by decide +kernel
theorem dX10_told_81 : decode cX10_told 81 = .ok (.iload_n 1, 1) := by decide +kernel
theorem dX10_told_82 : decode cX10_told 82 = .ok (.iconst 4, 1) := by decide +kernel
theorem dX10_told_83 : decode cX10_told 83 = .ok (.if_icmp .ne 16, 3) := by decide +kernel
theorem dX10_told_99 : decode cX10_told 99 = .ok (.iload_n 1, 1) := by decide +kernel
theorem dX10_told_100 : decode cX10_told 100 = .ok (.iconst 5, 1) := by decide +kernel
theorem dX10_told_101 : decode cX10_told 101 = .ok (.if_icmp .ne 10, 3) := by decide +kernel
theorem dX10_told_111 : decode cX10_told 111 = .ok (.aload_n 0, 1) := by decide +kernel
theorem dX10_told_112 : decode cX10_told 112 = .ok (.bipush 54, 2) := by decide +kernel
theorem dX10_told_114 : decode cX10_told 114 = .ok (.aload_n 0, 1) := by decide +kernel
theorem dX10_told_115 : decode cX10_told 115 = .ok (.getfield 160, 3) := by decide +kernel
theorem dX10_bitsOf_0 : decode cX10_bitsOf 0 = .ok (.iconst 0, 1) := by decide +kernel
theorem dX10_bitsOf_1 : decode cX10_bitsOf 1 = .ok (.istore_n 3, 1) := by decide +kernel
theorem dX10_bitsOf_2 : decode cX10_bitsOf 2 = .ok (.iconst 0, 1) := by decide +kernel
theorem dX10_bitsOf_3 : decode cX10_bitsOf 3 = .ok (.istore 4, 2) := by decide +kernel
theorem dX10_bitsOf_5 : decode cX10_bitsOf 5 = .ok (.iload 4, 2) := by decide +kernel
theorem dX10_bitsOf_7 : decode cX10_bitsOf 7 = .ok (.iload_n 2, 1) := by decide +kernel
theorem dX10_bitsOf_8 : decode cX10_bitsOf 8 = .ok (.if_icmp .ge 24, 3) := by decide +kernel
theorem dX10_bitsOf_32 : decode cX10_bitsOf 32 = .ok (.iload_n 3, 1) := by decide +kernel
theorem dX10_bitsOf_33 : decode cX10_bitsOf 33 = .ok (.ireturn, 1) := by decide +kernel
theorem dX10_bitsOf_11 : decode cX10_bitsOf 11 = .ok (.iload_n 3, 1) := by decide +kernel
theorem dX10_bitsOf_12 : decode cX10_bitsOf 12 = .ok (.aload_n 0, 1) := by decide +kernel
theorem dX10_bitsOf_13 : decode cX10_bitsOf 13 = .ok (.getfield 68, 3) := by decide +kernel
theorem dX10_bitsOf_16 : decode cX10_bitsOf 16 = .ok (.iload_n 1, 1) := by decide +kernel
theorem dX10_bitsOf_17 : decode cX10_bitsOf 17 = .ok (.iload 4, 2) := by decide +kernel
theorem dX10_bitsOf_19 : decode cX10_bitsOf 19 = .ok (.iadd, 1) := by decide +kernel
theorem dX10_bitsOf_20 : decode cX10_bitsOf 20 = .ok (.iaload, 1) := by decide +kernel
theorem dX10_bitsOf_21 : decode cX10_bitsOf 21 = .ok (.iload 4, 2) := by decide +kernel
theorem dX10_bitsOf_23 : decode cX10_bitsOf 23 = .ok (.ishl, 1) := by decide +kernel
theorem dX10_bitsOf_24 : decode cX10_bitsOf 24 = .ok (.ior, 1) := by decide +kernel
theorem dX10_bitsOf_25 : decode cX10_bitsOf 25 = .ok (.istore_n 3, 1) := by decide +kernel
theorem dX10_bitsOf_26 : decode cX10_bitsOf 26 = .ok (.iinc 4 1, 3) := by decide +kernel
theorem dX10_bitsOf_29 : decode cX10_bitsOf 29 = .ok (.goto (-24), 3) := by decide +kernel
theorem dX10_told_118 : decode cX10_told 118 = .ok (.invokevirtual 387, 3) := by decide +kernel
theorem dX10_told_121 : decode cX10_told 121 = .ok (.ireturn, 1) := by decide +kernel
theorem dX10_told_104 : decode cX10_told 104 = .ok (.aload_n 0, 1) := by decide +kernel
theorem dX10_lateNow_0 : decode cX10_lateNow 0 = .ok (.iconst 0, 1) := by decide +kernel
theorem dX10_lateNow_1 : decode cX10_lateNow 1 = .ok (.istore_n 1, 1) := by decide +kernel
theorem dX10_lateNow_2 : decode cX10_lateNow 2 = .ok (.iconst 0, 1) := by decide +kernel
theorem dX10_lateNow_3 : decode cX10_lateNow 3 = .ok (.istore_n 2, 1) := by decide +kernel
theorem dX10_lateNow_4 : decode cX10_lateNow 4 = .ok (.iload_n 2, 1) := by decide +kernel
theorem dX10_lateNow_5 : decode cX10_lateNow 5 = .ok (.aload_n 0, 1) := by decide +kernel
theorem dX10_lateNow_6 : decode cX10_lateNow 6 = .ok (.getfield 163, 3) := by decide +kernel
theorem dX10_lateNow_9 : decode cX10_lateNow 9 = .ok (.if_icmp .ge 51, 3) := by decide +kernel
theorem dX10_lateNow_60 : decode cX10_lateNow 60 = .ok (.iload_n 1, 1) := by decide +kernel
theorem dX10_lateNow_61 : decode cX10_lateNow 61 = .ok (.ireturn, 1) := by decide +kernel
theorem dX10_lateNow_12 : decode cX10_lateNow 12 = .ok (.iload_n 1, 1) := by decide +kernel
theorem dX10_lateNow_13 : decode cX10_lateNow 13 = .ok (.aload_n 0, 1) := by decide +kernel
theorem dX10_lateNow_14 : decode cX10_lateNow 14 = .ok (.getfield 68, 3) := by decide +kernel
theorem dX10_lateNow_17 : decode cX10_lateNow 17 = .ok (.bipush 84, 2) := by decide +kernel
theorem dX10_lateNow_19 : decode cX10_lateNow 19 = .ok (.iload_n 2, 1) := by decide +kernel
theorem dX10_lateNow_20 : decode cX10_lateNow 20 = .ok (.iadd, 1) := by decide +kernel
theorem dX10_lateNow_21 : decode cX10_lateNow 21 = .ok (.iaload, 1) := by decide +kernel
theorem dX10_lateNow_22 : decode cX10_lateNow 22 = .ok (.ifCond .ne 29, 3) := by decide +kernel
theorem dX10_lateNow_51 : decode cX10_lateNow 51 = .ok (.iconst 0, 1) := by decide +kernel
theorem dX10_lateNow_52 : decode cX10_lateNow 52 = .ok (.ior, 1) := by decide +kernel
theorem dX10_lateNow_53 : decode cX10_lateNow 53 = .ok (.istore_n 1, 1) := by decide +kernel
theorem dX10_lateNow_54 : decode cX10_lateNow 54 = .ok (.iinc 2 1, 3) := by decide +kernel
theorem dX10_lateNow_57 : decode cX10_lateNow 57 = .ok (.goto (-53), 3) := by decide +kernel
theorem dX10_lateNow_25 : decode cX10_lateNow 25 = .ok (.aload_n 0, 1) := by decide +kernel
theorem dX10_lateNow_26 : decode cX10_lateNow 26 = .ok (.getfield 68, 3) := by decide +kernel
theorem dX10_lateNow_29 : decode cX10_lateNow 29 = .ok (.bipush 94, 2) := by decide +kernel
theorem dX10_lateNow_31 : decode cX10_lateNow 31 = .ok (.iaload, 1) := by decide +kernel
theorem dX10_lateNow_32 : decode cX10_lateNow 32 = .ok (.aload_n 0, 1) := by decide +kernel
theorem dX10_lateNow_33 : decode cX10_lateNow 33 = .ok (.getfield 38, 3) := by decide +kernel
theorem dX10_lateNow_36 : decode cX10_lateNow 36 = .ok (.iconst 4, 1) := by decide +kernel
theorem dX10_lateNow_37 : decode cX10_lateNow 37 = .ok (.iload_n 2, 1) := by decide +kernel
theorem dX10_lateNow_38 : decode cX10_lateNow 38 = .ok (.imul, 1) := by decide +kernel
theorem dX10_lateNow_39 : decode cX10_lateNow 39 = .ok (.iconst 3, 1) := by decide +kernel
theorem dX10_lateNow_40 : decode cX10_lateNow 40 = .ok (.iadd, 1) := by decide +kernel
theorem dX10_lateNow_41 : decode cX10_lateNow 41 = .ok (.iaload, 1) := by decide +kernel
theorem dX10_lateNow_42 : decode cX10_lateNow 42 = .ok (.if_icmp .le 9, 3) := by decide +kernel
theorem dX10_lateNow_45 : decode cX10_lateNow 45 = .ok (.iconst 1, 1) := by decide +kernel
theorem dX10_lateNow_46 : decode cX10_lateNow 46 = .ok (.iload_n 2, 1) := by decide +kernel
theorem dX10_lateNow_47 : decode cX10_lateNow 47 = .ok (.ishl, 1) := by decide +kernel
theorem dX10_lateNow_48 : decode cX10_lateNow 48 = .ok (.goto 4, 3) := by decide +kernel
theorem dX10_told_105 : decode cX10_told 105 = .ok (.invokevirtual 390, 3) := by decide +kernel
theorem dX10_told_108 : decode cX10_told 108 = .ok (.goto 13, 3) := by decide +kernel
theorem dX10_told_86 : decode cX10_told 86 = .ok (.aload_n 0, 1) := by decide +kernel
theorem dX10_told_87 : decode cX10_told 87 = .ok (.bipush 84, 2) := by decide +kernel
theorem dX10_told_89 : decode cX10_told 89 = .ok (.aload_n 0, 1) := by decide +kernel
theorem dX10_told_90 : decode cX10_told 90 = .ok (.getfield 163, 3) := by decide +kernel
theorem dX10_told_93 : decode cX10_told 93 = .ok (.invokevirtual 387, 3) := by decide +kernel
theorem dX10_told_96 : decode cX10_told 96 = .ok (.goto 25, 3) := by decide +kernel
theorem dX10_told_32 : decode cX10_told 32 = .ok (.iload_n 1, 1) := by decide +kernel
theorem dX10_told_33 : decode cX10_told 33 = .ok (.ifCond .ne 10, 3) := by decide +kernel
theorem dX10_told_43 : decode cX10_told 43 = .ok (.iload_n 1, 1) := by decide +kernel
theorem dX10_told_44 : decode cX10_told 44 = .ok (.iconst 1, 1) := by decide +kernel
theorem dX10_told_45 : decode cX10_told 45 = .ok (.if_icmp .ne 10, 3) := by decide +kernel
theorem dX10_told_55 : decode cX10_told 55 = .ok (.iload_n 1, 1) := by decide +kernel
theorem dX10_told_56 : decode cX10_told 56 = .ok (.iconst 2, 1) := by decide +kernel
theorem dX10_told_57 : decode cX10_told 57 = .ok (.if_icmp .ne 10, 3) := by decide +kernel
theorem dX10_told_67 : decode cX10_told 67 = .ok (.aload_n 0, 1) := by decide +kernel
theorem dX10_told_68 : decode cX10_told 68 = .ok (.getfield 68, 3) := by decide +kernel
theorem dX10_told_71 : decode cX10_told 71 = .ok (.bipush 94, 2) := by decide +kernel
theorem dX10_told_73 : decode cX10_told 73 = .ok (.iaload, 1) := by decide +kernel
theorem dX10_told_74 : decode cX10_told 74 = .ok (.ireturn, 1) := by decide +kernel
theorem dX10_told_60 : decode cX10_told 60 = .ok (.aload_n 0, 1) := by decide +kernel
theorem dX10_told_61 : decode cX10_told 61 = .ok (.getfield 163, 3) := by decide +kernel
theorem dX10_told_64 : decode cX10_told 64 = .ok (.goto 10, 3) := by decide +kernel
theorem dX10_told_48 : decode cX10_told 48 = .ok (.aload_n 0, 1) := by decide +kernel
theorem dX10_told_49 : decode cX10_told 49 = .ok (.getfield 160, 3) := by decide +kernel
theorem dX10_told_52 : decode cX10_told 52 = .ok (.goto 22, 3) := by decide +kernel
theorem dX10_told_36 : decode cX10_told 36 = .ok (.aload_n 0, 1) := by decide +kernel
theorem dX10_told_37 : decode cX10_told 37 = .ok (.getfield 157, 3) := by decide +kernel
theorem dX10_told_40 : decode cX10_told 40 = .ok (.goto 34, 3) := by decide +kernel
theorem dX10_told_21 : decode cX10_told 21 = .ok (.iconst 0, 1) := by decide +kernel
theorem dX10_told_22 : decode cX10_told 22 = .ok (.ireturn, 1) := by decide +kernel
theorem dX10_poem_0 : decode cX10_poem 0 = .ok (.aload_n 0, 1) := by decide +kernel
theorem dX10_poem_1 : decode cX10_poem 1 = .ok (.iconst 0, 1) := by decide +kernel
theorem dX10_poem_2 : decode cX10_poem 2 = .ok (.putfield 3, 3) := by decide +kernel
theorem dX10_poem_5 : decode cX10_poem 5 = .ok (.aload_n 0, 1) := by decide +kernel
theorem dX10_poem_6 : decode cX10_poem 6 = .ok (.iload_n 1, 1) := by decide +kernel
theorem dX10_poem_7 : decode cX10_poem 7 = .ok (.iconst 1, 1) := by decide +kernel
theorem dX10_isPoem_0 : decode cX10_isPoem 0 = .ok (.aload_n 0, 1) := by decide +kernel
theorem dX10_isPoem_1 : decode cX10_isPoem 1 = .ok (.iload_n 1, 1) := by decide +kernel
theorem dX10_isPoem_2 : decode cX10_isPoem 2 = .ok (.iconst 0, 1) := by decide +kernel
theorem dX10_isPoem_3 : decode cX10_isPoem 3 = .ok (.aload_n 0, 1) := by decide +kernel
theorem dX10_isPoem_4 : decode cX10_isPoem 4 = .ok (.getfield 157, 3) := by decide +kernel
theorem dX10_isPoem_7 : decode cX10_isPoem 7 = .ok (.iconst 1, 1) := by decide +kernel
theorem dX10_isPoem_8 : decode cX10_isPoem 8 = .ok (.isub, 1) := by decide +kernel
theorem dX10_isPoem_9 : decode cX10_isPoem 9 = .ok (.invokestatic 384, 3) := by decide +kernel
theorem dX10_isPoem_12 : decode cX10_isPoem 12 = .ok (.iload_n 2, 1) := by decide +kernel
theorem dX10_isPoem_13 : decode cX10_isPoem 13 = .ok (.iconst 0, 1) := by decide +kernel
theorem dX10_isPoem_14 : decode cX10_isPoem 14 = .ok (.invokevirtual 200, 3) := by decide +kernel
theorem dX10_isPoem_17 : decode cX10_isPoem 17 = .ok (.ireturn, 1) := by decide +kernel
theorem dX10_poem_8 : decode cX10_poem 8 = .ok (.invokevirtual 396, 3) := by decide +kernel
theorem dX10_poem_11 : decode cX10_poem 11 = .ok (.ifCond .eq 18, 3) := by decide +kernel
theorem dX10_poem_29 : decode cX10_poem 29 = .ok (.iconst 0, 1) := by decide +kernel
theorem dX10_poem_30 : decode cX10_poem 30 = .ok (.ireturn, 1) := by decide +kernel
theorem dX10_poem_14 : decode cX10_poem 14 = .ok (.aload_n 0, 1) := by decide +kernel
theorem dX10_poem_15 : decode cX10_poem 15 = .ok (.iload_n 2, 1) := by decide +kernel
theorem dX10_poem_16 : decode cX10_poem 16 = .ok (.iconst 0, 1) := by decide +kernel
theorem dX10_poem_17 : decode cX10_poem 17 = .ok (.iconst 3, 1) := by decide +kernel
theorem dX10_poem_18 : decode cX10_poem 18 = .ok (.invokestatic 384, 3) := by decide +kernel
theorem dX10_poem_21 : decode cX10_poem 21 = .ok (.iconst 2, 1) := by decide +kernel
theorem dX10_poem_22 : decode cX10_poem 22 = .ok (.iconst 1, 1) := by decide +kernel
theorem dX10_poem_23 : decode cX10_poem 23 = .ok (.invokevirtual 200, 3) := by decide +kernel
theorem dX10_poem_26 : decode cX10_poem 26 = .ok (.ifCond .ne 5, 3) := by decide +kernel
theorem dX10_poem_31 : decode cX10_poem 31 = .ok (.aload_n 0, 1) := by decide +kernel
theorem dX10_poem_32 : decode cX10_poem 32 = .ok (.invokevirtual 309, 3) := by decide +kernel
theorem dX10_poem_35 : decode cX10_poem 35 = .ok (.iload_n 2, 1) := by decide +kernel
theorem dX10_poem_36 : decode cX10_poem 36 = .ok (.iconst 2, 1) := by decide +kernel
theorem dX10_poem_37 : decode cX10_poem 37 = .ok (.if_icmp .ge 14, 3) := by decide +kernel
theorem dX10_poem_51 : decode cX10_poem 51 = .ok (.iload_n 2, 1) := by decide +kernel
theorem dX10_poem_52 : decode cX10_poem 52 = .ok (.iconst 3, 1) := by decide +kernel
theorem dX10_poem_53 : decode cX10_poem 53 = .ok (.if_icmp .ne 10, 3) := by decide +kernel
theorem dX10_poem_63 : decode cX10_poem 63 = .ok (.iconst 0, 1) := by decide +kernel
theorem dX10_poem_64 : decode cX10_poem 64 = .ok (.istore_n 3, 1) := by decide +kernel
theorem dX10_poem_65 : decode cX10_poem 65 = .ok (.iconst 0, 1) := by decide +kernel
theorem dX10_poem_66 : decode cX10_poem 66 = .ok (.istore 4, 2) := by decide +kernel
theorem dX10_poem_56 : decode cX10_poem 56 = .ok (.aload_n 0, 1) := by decide +kernel
theorem dX10_poem_57 : decode cX10_poem 57 = .ok (.iconst 1, 1) := by decide +kernel
theorem dX10_poem_58 : decode cX10_poem 58 = .ok (.iload_n 1, 1) := by decide +kernel
theorem dX10_openBy_0 : decode cX10_openBy 0 = .ok (.iconst 0, 1) := by decide +kernel
theorem dX10_openBy_1 : decode cX10_openBy 1 = .ok (.istore_n 3, 1) := by decide +kernel
theorem dX10_openBy_2 : decode cX10_openBy 2 = .ok (.iconst 0, 1) := by decide +kernel
theorem dX10_openBy_3 : decode cX10_openBy 3 = .ok (.istore 4, 2) := by decide +kernel
theorem dX10_openBy_5 : decode cX10_openBy 5 = .ok (.iload 4, 2) := by decide +kernel
theorem dX10_openBy_7 : decode cX10_openBy 7 = .ok (.aload_n 0, 1) := by decide +kernel
theorem dX10_openBy_8 : decode cX10_openBy 8 = .ok (.getfield 163, 3) := by decide +kernel
theorem dX10_openBy_11 : decode cX10_openBy 11 = .ok (.if_icmp .ge 48, 3) := by decide +kernel
theorem dX10_openBy_59 : decode cX10_openBy 59 = .ok (.iload_n 3, 1) := by decide +kernel
theorem dX10_openBy_60 : decode cX10_openBy 60 = .ok (.ireturn, 1) := by decide +kernel
theorem dX10_openBy_14 : decode cX10_openBy 14 = .ok (.iload_n 3, 1) := by decide +kernel
theorem dX10_openBy_15 : decode cX10_openBy 15 = .ok (.aload_n 0, 1) := by decide +kernel
theorem dX10_openBy_16 : decode cX10_openBy 16 = .ok (.getfield 68, 3) := by decide +kernel
theorem dX10_openBy_19 : decode cX10_openBy 19 = .ok (.bipush 84, 2) := by decide +kernel
theorem dX10_openBy_21 : decode cX10_openBy 21 = .ok (.iload 4, 2) := by decide +kernel
theorem dX10_openBy_23 : decode cX10_openBy 23 = .ok (.iadd, 1) := by decide +kernel
theorem dX10_openBy_24 : decode cX10_openBy 24 = .ok (.iaload, 1) := by decide +kernel
theorem dX10_openBy_25 : decode cX10_openBy 25 = .ok (.ifCond .ne 25, 3) := by decide +kernel
theorem dX10_openBy_50 : decode cX10_openBy 50 = .ok (.iconst 0, 1) := by decide +kernel
theorem dX10_openBy_51 : decode cX10_openBy 51 = .ok (.ior, 1) := by decide +kernel
theorem dX10_openBy_52 : decode cX10_openBy 52 = .ok (.istore_n 3, 1) := by decide +kernel
theorem dX10_openBy_53 : decode cX10_openBy 53 = .ok (.iinc 4 1, 3) := by decide +kernel
theorem dX10_openBy_56 : decode cX10_openBy 56 = .ok (.goto (-51), 3) := by decide +kernel
theorem dX10_openBy_28 : decode cX10_openBy 28 = .ok (.aload_n 0, 1) := by decide +kernel
theorem dX10_openBy_29 : decode cX10_openBy 29 = .ok (.getfield 38, 3) := by decide +kernel
theorem dX10_openBy_32 : decode cX10_openBy 32 = .ok (.iconst 4, 1) := by decide +kernel
theorem dX10_openBy_33 : decode cX10_openBy 33 = .ok (.iload 4, 2) := by decide +kernel
theorem dX10_openBy_35 : decode cX10_openBy 35 = .ok (.imul, 1) := by decide +kernel
theorem dX10_openBy_36 : decode cX10_openBy 36 = .ok (.iload_n 1, 1) := by decide +kernel
theorem dX10_openBy_37 : decode cX10_openBy 37 = .ok (.iadd, 1) := by decide +kernel
theorem dX10_openBy_38 : decode cX10_openBy 38 = .ok (.iaload, 1) := by decide +kernel
theorem dX10_openBy_39 : decode cX10_openBy 39 = .ok (.iload_n 2, 1) := by decide +kernel
theorem dX10_openBy_40 : decode cX10_openBy 40 = .ok (.if_icmp .ne 10, 3) := by decide +kernel
theorem dX10_openBy_43 : decode cX10_openBy 43 = .ok (.iconst 1, 1) := by decide +kernel
theorem dX10_openBy_44 : decode cX10_openBy 44 = .ok (.iload 4, 2) := by decide +kernel
theorem dX10_openBy_46 : decode cX10_openBy 46 = .ok (.ishl, 1) := by decide +kernel
theorem dX10_openBy_47 : decode cX10_openBy 47 = .ok (.goto 4, 3) := by decide +kernel
theorem dX10_poem_59 : decode cX10_poem 59 = .ok (.invokevirtual 399, 3) := by decide +kernel
theorem dX10_poem_62 : decode cX10_poem 62 = .ok (.ireturn, 1) := by decide +kernel
theorem dX10_poem_40 : decode cX10_poem 40 = .ok (.aload_n 0, 1) := by decide +kernel
theorem dX10_poem_41 : decode cX10_poem 41 = .ok (.getfield 32, 3) := by decide +kernel
theorem dX10_poem_44 : decode cX10_poem 44 = .ok (.iconst 2, 1) := by decide +kernel
theorem dX10_poem_45 : decode cX10_poem 45 = .ok (.iload_n 1, 1) := by decide +kernel
theorem dX10_poem_46 : decode cX10_poem 46 = .ok (.imul, 1) := by decide +kernel
theorem dX10_poem_47 : decode cX10_poem 47 = .ok (.iload_n 2, 1) := by decide +kernel
theorem dX10_poem_48 : decode cX10_poem 48 = .ok (.iadd, 1) := by decide +kernel
theorem dX10_poem_49 : decode cX10_poem 49 = .ok (.iaload, 1) := by decide +kernel
theorem dX10_poem_50 : decode cX10_poem 50 = .ok (.ireturn, 1) := by decide +kernel
theorem dX10_poem_68 : decode cX10_poem 68 = .ok (.iload 4, 2) := by decide +kernel
theorem dX10_poem_70 : decode cX10_poem 70 = .ok (.aload_n 0, 1) := by decide +kernel
theorem dX10_poem_71 : decode cX10_poem 71 = .ok (.getfield 160, 3) := by decide +kernel
theorem dX10_poem_74 : decode cX10_poem 74 = .ok (.if_icmp .ge 38, 3) := by decide +kernel
theorem dX10_poem_112 : decode cX10_poem 112 = .ok (.iload_n 3, 1) := by decide +kernel
theorem dX10_poem_113 : decode cX10_poem 113 = .ok (.ireturn, 1) := by decide +kernel
theorem dX10_poem_77 : decode cX10_poem 77 = .ok (.iload_n 3, 1) := by decide +kernel
theorem dX10_poem_78 : decode cX10_poem 78 = .ok (.aload_n 0, 1) := by decide +kernel
theorem dX10_poem_79 : decode cX10_poem 79 = .ok (.iload 4, 2) := by decide +kernel
theorem dX10_poem_81 : decode cX10_poem 81 = .ok (.iload_n 1, 1) := by decide +kernel
theorem dX10_poem_82 : decode cX10_poem 82 = .ok (.invokevirtual 340, 3) := by decide +kernel
theorem dX10_poem_85 : decode cX10_poem 85 = .ok (.aload_n 0, 1) := by decide +kernel
theorem dX10_poem_86 : decode cX10_poem 86 = .ok (.getfield 32, 3) := by decide +kernel
theorem dX10_poem_89 : decode cX10_poem 89 = .ok (.iconst 2, 1) := by decide +kernel
theorem dX10_poem_90 : decode cX10_poem 90 = .ok (.iload_n 1, 1) := by decide +kernel
theorem dX10_poem_91 : decode cX10_poem 91 = .ok (.imul, 1) := by decide +kernel
theorem dX10_poem_92 : decode cX10_poem 92 = .ok (.iaload, 1) := by decide +kernel
theorem dX10_poem_93 : decode cX10_poem 93 = .ok (.if_icmp .ne 10, 3) := by decide +kernel
theorem dX10_poem_103 : decode cX10_poem 103 = .ok (.iconst 0, 1) := by decide +kernel
theorem dX10_poem_104 : decode cX10_poem 104 = .ok (.ior, 1) := by decide +kernel
theorem dX10_poem_105 : decode cX10_poem 105 = .ok (.istore_n 3, 1) := by decide +kernel
theorem dX10_poem_106 : decode cX10_poem 106 = .ok (.iinc 4 1, 3) := by decide +kernel
theorem dX10_poem_109 : decode cX10_poem 109 = .ok (.goto (-41), 3) := by decide +kernel
theorem dX10_poem_96 : decode cX10_poem 96 = .ok (.iconst 1, 1) := by decide +kernel
theorem dX10_poem_97 : decode cX10_poem 97 = .ok (.iload 4, 2) := by decide +kernel
theorem dX10_poem_99 : decode cX10_poem 99 = .ok (.ishl, 1) := by decide +kernel
theorem dX10_poem_100 : decode cX10_poem 100 = .ok (.goto 4, 3) := by decide +kernel
theorem dX10_man_0 : decode cX10_man 0 = .ok (.aload_n 0, 1) := by decide +kernel
theorem dX10_man_1 : decode cX10_man 1 = .ok (.iconst 0, 1) := by decide +kernel
theorem dX10_man_2 : decode cX10_man 2 = .ok (.putfield 3, 3) := by decide +kernel
theorem dX10_man_5 : decode cX10_man 5 = .ok (.aload_n 0, 1) := by decide +kernel
theorem dX10_man_6 : decode cX10_man 6 = .ok (.iload_n 1, 1) := by decide +kernel
theorem dX10_man_7 : decode cX10_man 7 = .ok (.iconst 1, 1) := by decide +kernel
theorem dX10_isMan_0 : decode cX10_isMan 0 = .ok (.aload_n 0, 1) := by decide +kernel
theorem dX10_isMan_1 : decode cX10_isMan 1 = .ok (.iload_n 1, 1) := by decide +kernel
theorem dX10_isMan_2 : decode cX10_isMan 2 = .ok (.iconst 0, 1) := by decide +kernel
theorem dX10_isMan_3 : decode cX10_isMan 3 = .ok (.aload_n 0, 1) := by decide +kernel
theorem dX10_isMan_4 : decode cX10_isMan 4 = .ok (.getfield 160, 3) := by decide +kernel
theorem dX10_isMan_7 : decode cX10_isMan 7 = .ok (.iconst 1, 1) := by decide +kernel
theorem dX10_isMan_8 : decode cX10_isMan 8 = .ok (.isub, 1) := by decide +kernel
theorem dX10_isMan_9 : decode cX10_isMan 9 = .ok (.invokestatic 384, 3) := by decide +kernel
theorem dX10_isMan_12 : decode cX10_isMan 12 = .ok (.iload_n 2, 1) := by decide +kernel
theorem dX10_isMan_13 : decode cX10_isMan 13 = .ok (.iconst 0, 1) := by decide +kernel
theorem dX10_isMan_14 : decode cX10_isMan 14 = .ok (.invokevirtual 200, 3) := by decide +kernel
theorem dX10_isMan_17 : decode cX10_isMan 17 = .ok (.ireturn, 1) := by decide +kernel
theorem dX10_man_8 : decode cX10_man 8 = .ok (.invokevirtual 402, 3) := by decide +kernel
theorem dX10_man_11 : decode cX10_man 11 = .ok (.ifCond .eq 19, 3) := by decide +kernel
theorem dX10_man_30 : decode cX10_man 30 = .ok (.iconst 0, 1) := by decide +kernel
theorem dX10_man_31 : decode cX10_man 31 = .ok (.ireturn, 1) := by decide +kernel
theorem dX10_man_14 : decode cX10_man 14 = .ok (.aload_n 0, 1) := by decide +kernel
theorem dX10_man_15 : decode cX10_man 15 = .ok (.iload_n 2, 1) := by decide +kernel
theorem dX10_man_16 : decode cX10_man 16 = .ok (.iconst 0, 1) := by decide +kernel
theorem dX10_man_17 : decode cX10_man 17 = .ok (.bipush 8, 2) := by decide +kernel
theorem dX10_man_19 : decode cX10_man 19 = .ok (.invokestatic 384, 3) := by decide +kernel
theorem dX10_man_22 : decode cX10_man 22 = .ok (.iconst 2, 1) := by decide +kernel
theorem dX10_man_23 : decode cX10_man 23 = .ok (.iconst 1, 1) := by decide +kernel
theorem dX10_man_24 : decode cX10_man 24 = .ok (.invokevirtual 200, 3) := by decide +kernel
theorem dX10_man_27 : decode cX10_man 27 = .ok (.ifCond .ne 5, 3) := by decide +kernel
theorem dX10_man_32 : decode cX10_man 32 = .ok (.aload_n 0, 1) := by decide +kernel
theorem dX10_man_33 : decode cX10_man 33 = .ok (.invokevirtual 309, 3) := by decide +kernel
theorem dX10_man_36 : decode cX10_man 36 = .ok (.iload_n 2, 1) := by decide +kernel
theorem dX10_man_37 : decode cX10_man 37 = .ok (.iconst 4, 1) := by decide +kernel
theorem dX10_man_38 : decode cX10_man 38 = .ok (.if_icmp .ge 54, 3) := by decide +kernel
theorem dX10_man_92 : decode cX10_man 92 = .ok (.iload_n 2, 1) := by decide +kernel
theorem dX10_man_93 : decode cX10_man 93 = .ok (.bipush 7, 2) := by decide +kernel
theorem dX10_man_95 : decode cX10_man 95 = .ok (.if_icmp .ne 10, 3) := by decide +kernel
theorem dX10_man_105 : decode cX10_man 105 = .ok (.aload_n 0, 1) := by decide +kernel
theorem dX10_man_106 : decode cX10_man 106 = .ok (.getfield 68, 3) := by decide +kernel
theorem dX10_man_109 : decode cX10_man 109 = .ok (.iload_n 2, 1) := by decide +kernel
theorem dX10_man_110 : decode cX10_man 110 = .ok (.iconst 4, 1) := by decide +kernel
theorem dX10_man_111 : decode cX10_man 111 = .ok (.if_icmp .ne 8, 3) := by decide +kernel
theorem dX10_man_119 : decode cX10_man 119 = .ok (.iload_n 2, 1) := by decide +kernel
theorem dX10_man_120 : decode cX10_man 120 = .ok (.iconst 5, 1) := by decide +kernel
theorem dX10_man_121 : decode cX10_man 121 = .ok (.if_icmp .ne 8, 3) := by decide +kernel
theorem dX10_man_129 : decode cX10_man 129 = .ok (.iload_n 2, 1) := by decide +kernel
theorem dX10_man_130 : decode cX10_man 130 = .ok (.bipush 6, 2) := by decide +kernel
theorem dX10_man_132 : decode cX10_man 132 = .ok (.if_icmp .ne 8, 3) := by decide +kernel
theorem dX10_man_140 : decode cX10_man 140 = .ok (.bipush 78, 2) := by decide +kernel
theorem dX10_man_142 : decode cX10_man 142 = .ok (.iload_n 1, 1) := by decide +kernel
theorem dX10_man_143 : decode cX10_man 143 = .ok (.iadd, 1) := by decide +kernel
theorem dX10_man_144 : decode cX10_man 144 = .ok (.iaload, 1) := by decide +kernel
theorem dX10_man_145 : decode cX10_man 145 = .ok (.ireturn, 1) := by decide +kernel
theorem dX10_man_135 : decode cX10_man 135 = .ok (.bipush 72, 2) := by decide +kernel
theorem dX10_man_137 : decode cX10_man 137 = .ok (.goto 5, 3) := by decide +kernel
theorem dX10_man_124 : decode cX10_man 124 = .ok (.bipush 66, 2) := by decide +kernel
theorem dX10_man_126 : decode cX10_man 126 = .ok (.goto 16, 3) := by decide +kernel
theorem dX10_man_114 : decode cX10_man 114 = .ok (.bipush 60, 2) := by decide +kernel
theorem dX10_man_116 : decode cX10_man 116 = .ok (.goto 26, 3) := by decide +kernel
theorem dX10_man_98 : decode cX10_man 98 = .ok (.aload_n 0, 1) := by decide +kernel
theorem dX10_man_99 : decode cX10_man 99 = .ok (.iconst 0, 1) := by decide +kernel
theorem dX10_man_100 : decode cX10_man 100 = .ok (.iload_n 1, 1) := by decide +kernel
theorem dX10_man_101 : decode cX10_man 101 = .ok (.invokevirtual 399, 3) := by decide +kernel
theorem dX10_man_104 : decode cX10_man 104 = .ok (.ireturn, 1) := by decide +kernel
theorem dX10_man_41 : decode cX10_man 41 = .ok (.iload_n 2, 1) := by decide +kernel
theorem dX10_man_42 : decode cX10_man 42 = .ok (.ifCond .ne 14, 3) := by decide +kernel
theorem dX10_man_56 : decode cX10_man 56 = .ok (.iload_n 2, 1) := by decide +kernel
theorem dX10_man_57 : decode cX10_man 57 = .ok (.iconst 1, 1) := by decide +kernel
theorem dX10_man_58 : decode cX10_man 58 = .ok (.if_icmp .ne 15, 3) := by decide +kernel
theorem dX10_man_73 : decode cX10_man 73 = .ok (.iload_n 2, 1) := by decide +kernel
theorem dX10_man_74 : decode cX10_man 74 = .ok (.iconst 2, 1) := by decide +kernel
theorem dX10_man_75 : decode cX10_man 75 = .ok (.if_icmp .ne 11, 3) := by decide +kernel
theorem dX10_man_86 : decode cX10_man 86 = .ok (.aload_n 0, 1) := by decide +kernel
theorem dX10_man_87 : decode cX10_man 87 = .ok (.iload_n 1, 1) := by decide +kernel
theorem dX10_man_88 : decode cX10_man 88 = .ok (.invokevirtual 334, 3) := by decide +kernel
theorem dX10_man_91 : decode cX10_man 91 = .ok (.ireturn, 1) := by decide +kernel
theorem dX10_man_78 : decode cX10_man 78 = .ok (.aload_n 0, 1) := by decide +kernel
theorem dX10_man_79 : decode cX10_man 79 = .ok (.iload_n 1, 1) := by decide +kernel
theorem dX10_man_80 : decode cX10_man 80 = .ok (.invokevirtual 343, 3) := by decide +kernel
theorem dX10_man_83 : decode cX10_man 83 = .ok (.goto 8, 3) := by decide +kernel
theorem dX10_man_61 : decode cX10_man 61 = .ok (.aload_n 0, 1) := by decide +kernel
theorem dX10_man_62 : decode cX10_man 62 = .ok (.getfield 68, 3) := by decide +kernel
theorem dX10_man_65 : decode cX10_man 65 = .ok (.bipush 48, 2) := by decide +kernel
theorem dX10_man_67 : decode cX10_man 67 = .ok (.iload_n 1, 1) := by decide +kernel
theorem dX10_man_68 : decode cX10_man 68 = .ok (.iadd, 1) := by decide +kernel
theorem dX10_man_69 : decode cX10_man 69 = .ok (.iaload, 1) := by decide +kernel
theorem dX10_man_70 : decode cX10_man 70 = .ok (.goto 21, 3) := by decide +kernel
theorem dX10_man_45 : decode cX10_man 45 = .ok (.aload_n 0, 1) := by decide +kernel
theorem dX10_man_46 : decode cX10_man 46 = .ok (.getfield 35, 3) := by decide +kernel
theorem dX10_man_49 : decode cX10_man 49 = .ok (.iconst 2, 1) := by decide +kernel
theorem dX10_man_50 : decode cX10_man 50 = .ok (.iload_n 1, 1) := by decide +kernel
theorem dX10_man_51 : decode cX10_man 51 = .ok (.imul, 1) := by decide +kernel
theorem dX10_man_52 : decode cX10_man 52 = .ok (.iaload, 1) := by decide +kernel
theorem dX10_man_53 : decode cX10_man 53 = .ok (.goto 38, 3) := by decide +kernel
theorem dX10_debt_0 : decode cX10_debt 0 = .ok (.aload_n 0, 1) := by decide +kernel
theorem dX10_debt_1 : decode cX10_debt 1 = .ok (.iconst 0, 1) := by decide +kernel
theorem dX10_debt_2 : decode cX10_debt 2 = .ok (.putfield 3, 3) := by decide +kernel
theorem dX10_debt_5 : decode cX10_debt 5 = .ok (.aload_n 0, 1) := by decide +kernel
theorem dX10_debt_6 : decode cX10_debt 6 = .ok (.iload_n 1, 1) := by decide +kernel
theorem dX10_debt_7 : decode cX10_debt 7 = .ok (.iconst 1, 1) := by decide +kernel
theorem dX10_isDebt_0 : decode cX10_isDebt 0 = .ok (.aload_n 0, 1) := by decide +kernel
theorem dX10_isDebt_1 : decode cX10_isDebt 1 = .ok (.iload_n 1, 1) := by decide +kernel
theorem dX10_isDebt_2 : decode cX10_isDebt 2 = .ok (.iconst 0, 1) := by decide +kernel
theorem dX10_isDebt_3 : decode cX10_isDebt 3 = .ok (.aload_n 0, 1) := by decide +kernel
theorem dX10_isDebt_4 : decode cX10_isDebt 4 = .ok (.getfield 163, 3) := by decide +kernel
theorem dX10_isDebt_7 : decode cX10_isDebt 7 = .ok (.iconst 1, 1) := by decide +kernel
theorem dX10_isDebt_8 : decode cX10_isDebt 8 = .ok (.isub, 1) := by decide +kernel
theorem dX10_isDebt_9 : decode cX10_isDebt 9 = .ok (.invokestatic 384, 3) := by decide +kernel
theorem dX10_isDebt_12 : decode cX10_isDebt 12 = .ok (.iload_n 2, 1) := by decide +kernel
theorem dX10_isDebt_13 : decode cX10_isDebt 13 = .ok (.iconst 0, 1) := by decide +kernel
theorem dX10_isDebt_14 : decode cX10_isDebt 14 = .ok (.invokevirtual 200, 3) := by decide +kernel
theorem dX10_isDebt_17 : decode cX10_isDebt 17 = .ok (.ireturn, 1) := by decide +kernel
theorem dX10_debt_8 : decode cX10_debt 8 = .ok (.invokevirtual 405, 3) := by decide +kernel
theorem dX10_debt_11 : decode cX10_debt 11 = .ok (.ifCond .eq 19, 3) := by decide +kernel
theorem dX10_debt_30 : decode cX10_debt 30 = .ok (.iconst 0, 1) := by decide +kernel
theorem dX10_debt_31 : decode cX10_debt 31 = .ok (.ireturn, 1) := by decide +kernel
theorem dX10_debt_14 : decode cX10_debt 14 = .ok (.aload_n 0, 1) := by decide +kernel
theorem dX10_debt_15 : decode cX10_debt 15 = .ok (.iload_n 2, 1) := by decide +kernel
theorem dX10_debt_16 : decode cX10_debt 16 = .ok (.iconst 0, 1) := by decide +kernel
theorem dX10_debt_17 : decode cX10_debt 17 = .ok (.bipush 6, 2) := by decide +kernel
theorem dX10_debt_19 : decode cX10_debt 19 = .ok (.invokestatic 384, 3) := by decide +kernel
theorem dX10_debt_22 : decode cX10_debt 22 = .ok (.iconst 2, 1) := by decide +kernel
theorem dX10_debt_23 : decode cX10_debt 23 = .ok (.iconst 1, 1) := by decide +kernel
theorem dX10_debt_24 : decode cX10_debt 24 = .ok (.invokevirtual 200, 3) := by decide +kernel
theorem dX10_debt_27 : decode cX10_debt 27 = .ok (.ifCond .ne 5, 3) := by decide +kernel
theorem dX10_debt_32 : decode cX10_debt 32 = .ok (.aload_n 0, 1) := by decide +kernel
theorem dX10_debt_33 : decode cX10_debt 33 = .ok (.invokevirtual 309, 3) := by decide +kernel
theorem dX10_debt_36 : decode cX10_debt 36 = .ok (.iload_n 2, 1) := by decide +kernel
theorem dX10_debt_37 : decode cX10_debt 37 = .ok (.iconst 4, 1) := by decide +kernel
theorem dX10_debt_38 : decode cX10_debt 38 = .ok (.if_icmp .ge 14, 3) := by decide +kernel
theorem dX10_debt_52 : decode cX10_debt 52 = .ok (.iload_n 2, 1) := by decide +kernel
theorem dX10_debt_53 : decode cX10_debt 53 = .ok (.bipush 6, 2) := by decide +kernel
theorem dX10_debt_55 : decode cX10_debt 55 = .ok (.if_icmp .ge 34, 3) := by decide +kernel
theorem dX10_debt_89 : decode cX10_debt 89 = .ok (.aload_n 0, 1) := by decide +kernel
theorem dX10_debt_90 : decode cX10_debt 90 = .ok (.getfield 68, 3) := by decide +kernel
theorem dX10_debt_93 : decode cX10_debt 93 = .ok (.bipush 84, 2) := by decide +kernel
theorem dX10_debt_95 : decode cX10_debt 95 = .ok (.iload_n 1, 1) := by decide +kernel
theorem dX10_debt_96 : decode cX10_debt 96 = .ok (.iadd, 1) := by decide +kernel
theorem dX10_debt_97 : decode cX10_debt 97 = .ok (.iaload, 1) := by decide +kernel
theorem dX10_debt_98 : decode cX10_debt 98 = .ok (.iconst 1, 1) := by decide +kernel
theorem dX10_debt_99 : decode cX10_debt 99 = .ok (.if_icmp .ne 7, 3) := by decide +kernel
theorem dX10_debt_106 : decode cX10_debt 106 = .ok (.aload_n 0, 1) := by decide +kernel
theorem dX10_debt_107 : decode cX10_debt 107 = .ok (.iload_n 1, 1) := by decide +kernel
theorem dX10_needOf_0 : decode cX10_needOf 0 = .ok (.aload_n 0, 1) := by decide +kernel
theorem dX10_needOf_1 : decode cX10_needOf 1 = .ok (.getfield 38, 3) := by decide +kernel
theorem dX10_needOf_4 : decode cX10_needOf 4 = .ok (.iconst 4, 1) := by decide +kernel
theorem dX10_needOf_5 : decode cX10_needOf 5 = .ok (.iload_n 1, 1) := by decide +kernel
theorem dX10_needOf_6 : decode cX10_needOf 6 = .ok (.imul, 1) := by decide +kernel
theorem dX10_needOf_7 : decode cX10_needOf 7 = .ok (.iaload, 1) := by decide +kernel
theorem dX10_needOf_8 : decode cX10_needOf 8 = .ok (.istore_n 2, 1) := by decide +kernel
theorem dX10_needOf_9 : decode cX10_needOf 9 = .ok (.aload_n 0, 1) := by decide +kernel
theorem dX10_needOf_10 : decode cX10_needOf 10 = .ok (.getfield 38, 3) := by decide +kernel
theorem dX10_needOf_13 : decode cX10_needOf 13 = .ok (.iconst 4, 1) := by decide +kernel
theorem dX10_needOf_14 : decode cX10_needOf 14 = .ok (.iload_n 1, 1) := by decide +kernel
theorem dX10_needOf_15 : decode cX10_needOf 15 = .ok (.imul, 1) := by decide +kernel
theorem dX10_needOf_16 : decode cX10_needOf 16 = .ok (.iconst 1, 1) := by decide +kernel
theorem dX10_needOf_17 : decode cX10_needOf 17 = .ok (.iadd, 1) := by decide +kernel
theorem dX10_needOf_18 : decode cX10_needOf 18 = .ok (.iaload, 1) := by decide +kernel
theorem dX10_needOf_19 : decode cX10_needOf 19 = .ok (.istore_n 3, 1) := by decide +kernel
theorem dX10_needOf_20 : decode cX10_needOf 20 = .ok (.aload_n 0, 1) := by decide +kernel
theorem dX10_needOf_21 : decode cX10_needOf 21 = .ok (.getfield 32, 3) := by decide +kernel
theorem dX10_needOf_24 : decode cX10_needOf 24 = .ok (.iconst 2, 1) := by decide +kernel
theorem dX10_needOf_25 : decode cX10_needOf 25 = .ok (.iload_n 3, 1) := by decide +kernel
theorem dX10_needOf_26 : decode cX10_needOf 26 = .ok (.imul, 1) := by decide +kernel
theorem dX10_needOf_27 : decode cX10_needOf 27 = .ok (.iaload, 1) := by decide +kernel
theorem dX10_needOf_28 : decode cX10_needOf 28 = .ok (.aload_n 0, 1) := by decide +kernel
theorem dX10_needOf_29 : decode cX10_needOf 29 = .ok (.iload_n 2, 1) := by decide +kernel
theorem dX10_needOf_30 : decode cX10_needOf 30 = .ok (.iload_n 3, 1) := by decide +kernel
theorem dX10_needOf_31 : decode cX10_needOf 31 = .ok (.invokevirtual 340, 3) := by decide +kernel
theorem dX10_needOf_34 : decode cX10_needOf 34 = .ok (.isub, 1) := by decide +kernel
theorem dX10_needOf_35 : decode cX10_needOf 35 = .ok (.istore 4, 2) := by decide +kernel
theorem dX10_needOf_37 : decode cX10_needOf 37 = .ok (.aload_n 0, 1) := by decide +kernel
theorem dX10_needOf_38 : decode cX10_needOf 38 = .ok (.iload_n 2, 1) := by decide +kernel
theorem dX10_needOf_39 : decode cX10_needOf 39 = .ok (.iload_n 3, 1) := by decide +kernel
theorem dX10_needOf_40 : decode cX10_needOf 40 = .ok (.invokevirtual 350, 3) := by decide +kernel
theorem dX10_needOf_43 : decode cX10_needOf 43 = .ok (.istore 5, 2) := by decide +kernel
theorem dX10_needOf_45 : decode cX10_needOf 45 = .ok (.iload 4, 2) := by decide +kernel
theorem dX10_needOf_47 : decode cX10_needOf 47 = .ok (.ifCond .ne 7, 3) := by decide +kernel
theorem dX10_needOf_54 : decode cX10_needOf 54 = .ok (.iload 5, 2) := by decide +kernel
theorem dX10_needOf_56 : decode cX10_needOf 56 = .ok (.ifCond .ne 8, 3) := by decide +kernel
theorem dX10_needOf_64 : decode cX10_needOf 64 = .ok (.iload 4, 2) := by decide +kernel
theorem dX10_needOf_66 : decode cX10_needOf 66 = .ok (.iload 5, 2) := by decide +kernel
theorem dX10_needOf_68 : decode cX10_needOf 68 = .ok (.iadd, 1) := by decide +kernel
theorem dX10_needOf_69 : decode cX10_needOf 69 = .ok (.iconst 1, 1) := by decide +kernel
theorem dX10_needOf_70 : decode cX10_needOf 70 = .ok (.isub, 1) := by decide +kernel
theorem dX10_needOf_71 : decode cX10_needOf 71 = .ok (.iload 5, 2) := by decide +kernel
theorem dX10_needOf_73 : decode cX10_needOf 73 = .ok (.idiv, 1) := by decide +kernel
theorem dX10_needOf_74 : decode cX10_needOf 74 = .ok (.ireturn, 1) := by decide +kernel
theorem dX10_needOf_59 : decode cX10_needOf 59 = .ok (.bipush 41, 2) := by decide +kernel
theorem dX10_needOf_61 : decode cX10_needOf 61 = .ok (.goto 13, 3) := by decide +kernel
theorem dX10_needOf_50 : decode cX10_needOf 50 = .ok (.iconst 0, 1) := by decide +kernel
theorem dX10_needOf_51 : decode cX10_needOf 51 = .ok (.goto 23, 3) := by decide +kernel
theorem dX10_debt_108 : decode cX10_debt 108 = .ok (.invokevirtual 408, 3) := by decide +kernel
theorem dX10_debt_111 : decode cX10_debt 111 = .ok (.ireturn, 1) := by decide +kernel
theorem dX10_debt_102 : decode cX10_debt 102 = .ok (.iconst 0, 1) := by decide +kernel
theorem dX10_debt_103 : decode cX10_debt 103 = .ok (.goto 8, 3) := by decide +kernel
theorem dX10_debt_58 : decode cX10_debt 58 = .ok (.iload_n 2, 1) := by decide +kernel
theorem dX10_debt_59 : decode cX10_debt 59 = .ok (.iconst 4, 1) := by decide +kernel
theorem dX10_debt_60 : decode cX10_debt 60 = .ok (.if_icmp .ne 15, 3) := by decide +kernel
theorem dX10_debt_75 : decode cX10_debt 75 = .ok (.aload_n 0, 1) := by decide +kernel
theorem dX10_debt_76 : decode cX10_debt 76 = .ok (.iload_n 1, 1) := by decide +kernel
theorem dX10_debt_77 : decode cX10_debt 77 = .ok (.invokevirtual 359, 3) := by decide +kernel
theorem dX10_debt_80 : decode cX10_debt 80 = .ok (.ifCond .eq 7, 3) := by decide +kernel
theorem dX10_debt_87 : decode cX10_debt 87 = .ok (.iconst 0, 1) := by decide +kernel
theorem dX10_debt_88 : decode cX10_debt 88 = .ok (.ireturn, 1) := by decide +kernel
theorem dX10_debt_83 : decode cX10_debt 83 = .ok (.iconst 1, 1) := by decide +kernel
theorem dX10_debt_84 : decode cX10_debt 84 = .ok (.goto 4, 3) := by decide +kernel
theorem dX10_debt_63 : decode cX10_debt 63 = .ok (.aload_n 0, 1) := by decide +kernel
theorem dX10_debt_64 : decode cX10_debt 64 = .ok (.getfield 68, 3) := by decide +kernel
theorem dX10_debt_67 : decode cX10_debt 67 = .ok (.bipush 84, 2) := by decide +kernel
theorem dX10_debt_69 : decode cX10_debt 69 = .ok (.iload_n 1, 1) := by decide +kernel
theorem dX10_debt_70 : decode cX10_debt 70 = .ok (.iadd, 1) := by decide +kernel
theorem dX10_debt_71 : decode cX10_debt 71 = .ok (.iaload, 1) := by decide +kernel
theorem dX10_debt_72 : decode cX10_debt 72 = .ok (.goto 16, 3) := by decide +kernel
theorem dX10_debt_41 : decode cX10_debt 41 = .ok (.aload_n 0, 1) := by decide +kernel
theorem dX10_debt_42 : decode cX10_debt 42 = .ok (.getfield 38, 3) := by decide +kernel
theorem dX10_debt_45 : decode cX10_debt 45 = .ok (.iconst 4, 1) := by decide +kernel
theorem dX10_debt_46 : decode cX10_debt 46 = .ok (.iload_n 1, 1) := by decide +kernel
theorem dX10_debt_47 : decode cX10_debt 47 = .ok (.imul, 1) := by decide +kernel
theorem dX10_debt_48 : decode cX10_debt 48 = .ok (.iload_n 2, 1) := by decide +kernel
theorem dX10_debt_49 : decode cX10_debt 49 = .ok (.iadd, 1) := by decide +kernel
theorem dX10_debt_50 : decode cX10_debt 50 = .ok (.iaload, 1) := by decide +kernel
theorem dX10_debt_51 : decode cX10_debt 51 = .ok (.ireturn, 1) := by decide +kernel
theorem dX10_knows_0 : decode cX10_knows 0 = .ok (.aload_n 0, 1) := by decide +kernel
theorem dX10_knows_1 : decode cX10_knows 1 = .ok (.iconst 0, 1) := by decide +kernel
theorem dX10_knows_2 : decode cX10_knows 2 = .ok (.putfield 3, 3) := by decide +kernel
theorem dX10_knows_5 : decode cX10_knows 5 = .ok (.aload_n 0, 1) := by decide +kernel
theorem dX10_knows_6 : decode cX10_knows 6 = .ok (.iload_n 1, 1) := by decide +kernel
theorem dX10_knows_7 : decode cX10_knows 7 = .ok (.iconst 1, 1) := by decide +kernel
theorem dX10_knows_8 : decode cX10_knows 8 = .ok (.invokevirtual 402, 3) := by decide +kernel
theorem dX10_knows_11 : decode cX10_knows 11 = .ok (.ifCond .eq 28, 3) := by decide +kernel
theorem dX10_knows_39 : decode cX10_knows 39 = .ok (.iconst 0, 1) := by decide +kernel
theorem dX10_knows_40 : decode cX10_knows 40 = .ok (.ireturn, 1) := by decide +kernel
theorem dX10_knows_14 : decode cX10_knows 14 = .ok (.aload_n 0, 1) := by decide +kernel
theorem dX10_knows_15 : decode cX10_knows 15 = .ok (.iload_n 2, 1) := by decide +kernel
theorem dX10_knows_16 : decode cX10_knows 16 = .ok (.iconst 1, 1) := by decide +kernel
theorem dX10_knows_17 : decode cX10_knows 17 = .ok (.invokevirtual 396, 3) := by decide +kernel
theorem dX10_knows_20 : decode cX10_knows 20 = .ok (.ifCond .eq 19, 3) := by decide +kernel
theorem dX10_knows_23 : decode cX10_knows 23 = .ok (.aload_n 0, 1) := by decide +kernel
theorem dX10_knows_24 : decode cX10_knows 24 = .ok (.getfield 65, 3) := by decide +kernel
theorem dX10_knows_27 : decode cX10_knows 27 = .ok (.iconst 0, 1) := by decide +kernel
theorem dX10_knows_28 : decode cX10_knows 28 = .ok (.bipush 8, 2) := by decide +kernel
theorem dX10_knows_30 : decode cX10_knows 30 = .ok (.iload_n 1, 1) := by decide +kernel
theorem dX10_knows_31 : decode cX10_knows 31 = .ok (.imul, 1) := by decide +kernel
theorem dX10_knows_32 : decode cX10_knows 32 = .ok (.iadd, 1) := by decide +kernel
theorem dX10_knows_33 : decode cX10_knows 33 = .ok (.iload_n 2, 1) := by decide +kernel
theorem dX10_knows_34 : decode cX10_knows 34 = .ok (.iadd, 1) := by decide +kernel
theorem dX10_knows_35 : decode cX10_knows 35 = .ok (.iaload, 1) := by decide +kernel
theorem dX10_knows_36 : decode cX10_knows 36 = .ok (.goto 4, 3) := by decide +kernel
theorem dX10_learns_0 : decode cX10_learns 0 = .ok (.aload_n 0, 1) := by decide +kernel
theorem dX10_learns_1 : decode cX10_learns 1 = .ok (.iconst 0, 1) := by decide +kernel
theorem dX10_learns_2 : decode cX10_learns 2 = .ok (.putfield 3, 3) := by decide +kernel
theorem dX10_learns_5 : decode cX10_learns 5 = .ok (.aload_n 0, 1) := by decide +kernel
theorem dX10_learns_6 : decode cX10_learns 6 = .ok (.iload_n 1, 1) := by decide +kernel
theorem dX10_learns_7 : decode cX10_learns 7 = .ok (.iconst 1, 1) := by decide +kernel
theorem dX10_learns_8 : decode cX10_learns 8 = .ok (.invokevirtual 402, 3) := by decide +kernel
theorem dX10_learns_11 : decode cX10_learns 11 = .ok (.ifCond .eq 12, 3) := by decide +kernel
theorem dX10_learns_23 : decode cX10_learns 23 = .ok (.iconst 0, 1) := by decide +kernel
theorem dX10_learns_24 : decode cX10_learns 24 = .ok (.ireturn, 1) := by decide +kernel
theorem dX10_learns_14 : decode cX10_learns 14 = .ok (.aload_n 0, 1) := by decide +kernel
theorem dX10_learns_15 : decode cX10_learns 15 = .ok (.iload_n 2, 1) := by decide +kernel
theorem dX10_learns_16 : decode cX10_learns 16 = .ok (.iconst 1, 1) := by decide +kernel
theorem dX10_learns_17 : decode cX10_learns 17 = .ok (.invokevirtual 396, 3) := by decide +kernel
theorem dX10_learns_20 : decode cX10_learns 20 = .ok (.ifCond .ne 5, 3) := by decide +kernel
theorem dX10_learns_25 : decode cX10_learns 25 = .ok (.aload_n 0, 1) := by decide +kernel
theorem dX10_learns_26 : decode cX10_learns 26 = .ok (.invokevirtual 309, 3) := by decide +kernel
theorem dX10_learns_29 : decode cX10_learns 29 = .ok (.aload_n 0, 1) := by decide +kernel
theorem dX10_learns_30 : decode cX10_learns 30 = .ok (.iload_n 1, 1) := by decide +kernel
theorem dX10_learns_31 : decode cX10_learns 31 = .ok (.iload_n 2, 1) := by decide +kernel
theorem dX10_learns_32 : decode cX10_learns 32 = .ok (.invokevirtual 350, 3) := by decide +kernel
theorem dX10_learns_35 : decode cX10_learns 35 = .ok (.ireturn, 1) := by decide +kernel
theorem dX10_would_0 : decode cX10_would 0 = .ok (.aload_n 0, 1) := by decide +kernel
theorem dX10_would_1 : decode cX10_would 1 = .ok (.iconst 0, 1) := by decide +kernel
theorem dX10_would_2 : decode cX10_would 2 = .ok (.putfield 3, 3) := by decide +kernel
theorem dX10_would_5 : decode cX10_would 5 = .ok (.aload_n 0, 1) := by decide +kernel
theorem dX10_would_6 : decode cX10_would 6 = .ok (.iload_n 1, 1) := by decide +kernel
theorem dX10_would_7 : decode cX10_would 7 = .ok (.iconst 1, 1) := by decide +kernel
theorem dX10_would_8 : decode cX10_would 8 = .ok (.bipush 40, 2) := by decide +kernel
theorem dX10_would_10 : decode cX10_would 10 = .ok (.invokestatic 384, 3) := by decide +kernel
theorem dX10_would_13 : decode cX10_would 13 = .ok (.ifCond .eq 85, 3) := by decide +kernel
theorem dX10_would_16 : decode cX10_would 16 = .ok (.iload_n 2, 1) := by decide +kernel
theorem dX10_would_17 : decode cX10_would 17 = .ok (.iconst 0, 1) := by decide +kernel
theorem dX10_would_18 : decode cX10_would 18 = .ok (.bipush 9, 2) := by decide +kernel
theorem dX10_would_20 : decode cX10_would 20 = .ok (.invokestatic 384, 3) := by decide +kernel
theorem dX10_would_23 : decode cX10_would 23 = .ok (.ifCond .eq 75, 3) := by decide +kernel
theorem dX10_would_26 : decode cX10_would 26 = .ok (.iload_n 3, 1) := by decide +kernel
theorem dX10_would_27 : decode cX10_would 27 = .ok (.iconst 0, 1) := by decide +kernel
theorem dX10_would_28 : decode cX10_would 28 = .ok (.bipush 40, 2) := by decide +kernel
theorem dX10_would_30 : decode cX10_would 30 = .ok (.invokestatic 384, 3) := by decide +kernel
theorem dX10_would_33 : decode cX10_would 33 = .ok (.ifCond .eq 65, 3) := by decide +kernel
theorem dX10_would_36 : decode cX10_would 36 = .ok (.iload 4, 2) := by decide +kernel
theorem dX10_would_38 : decode cX10_would 38 = .ok (.iconst 0, 1) := by decide +kernel
theorem dX10_would_39 : decode cX10_would 39 = .ok (.bipush 99, 2) := by decide +kernel
theorem dX10_would_41 : decode cX10_would 41 = .ok (.invokestatic 384, 3) := by decide +kernel
theorem dX10_would_44 : decode cX10_would 44 = .ok (.ifCond .eq 54, 3) := by decide +kernel
theorem dX10_would_47 : decode cX10_would 47 = .ok (.iload 5, 2) := by decide +kernel
theorem dX10_would_49 : decode cX10_would 49 = .ok (.bipush 10, 2) := by decide +kernel
theorem dX10_would_51 : decode cX10_would 51 = .ok (.sipush 150, 3) := by decide +kernel
theorem dX10_would_54 : decode cX10_would 54 = .ok (.invokestatic 384, 3) := by decide +kernel
theorem dX10_would_57 : decode cX10_would 57 = .ok (.ifCond .eq 41, 3) := by decide +kernel
theorem dX10_would_60 : decode cX10_would 60 = .ok (.iload 6, 2) := by decide +kernel
theorem dX10_would_62 : decode cX10_would 62 = .ok (.iconst 0, 1) := by decide +kernel
theorem dX10_would_63 : decode cX10_would 63 = .ok (.sipush 999, 3) := by decide +kernel
theorem dX10_would_66 : decode cX10_would 66 = .ok (.invokestatic 384, 3) := by decide +kernel
theorem dX10_would_69 : decode cX10_would 69 = .ok (.ifCond .eq 29, 3) := by decide +kernel
theorem dX10_would_72 : decode cX10_would 72 = .ok (.iload 7, 2) := by decide +kernel
theorem dX10_would_74 : decode cX10_would 74 = .ok (.iconst 0, 1) := by decide +kernel
theorem dX10_would_75 : decode cX10_would 75 = .ok (.sipush 400, 3) := by decide +kernel
theorem dX10_would_78 : decode cX10_would 78 = .ok (.invokestatic 384, 3) := by decide +kernel
theorem dX10_would_81 : decode cX10_would 81 = .ok (.ifCond .eq 17, 3) := by decide +kernel
theorem dX10_would_84 : decode cX10_would 84 = .ok (.iload 8, 2) := by decide +kernel
theorem dX10_would_86 : decode cX10_would 86 = .ok (.iconst 0, 1) := by decide +kernel
theorem dX10_would_87 : decode cX10_would 87 = .ok (.iconst 5, 1) := by decide +kernel
theorem dX10_would_88 : decode cX10_would 88 = .ok (.invokestatic 384, 3) := by decide +kernel
theorem dX10_would_91 : decode cX10_would 91 = .ok (.ifCond .eq 7, 3) := by decide +kernel
theorem dX10_would_94 : decode cX10_would 94 = .ok (.iconst 1, 1) := by decide +kernel
theorem dX10_would_95 : decode cX10_would 95 = .ok (.goto 4, 3) := by decide +kernel
theorem dX10_would_98 : decode cX10_would 98 = .ok (.iconst 0, 1) := by decide +kernel
theorem dX10_would_99 : decode cX10_would 99 = .ok (.iconst 1, 1) := by decide +kernel
theorem dX10_would_100 : decode cX10_would 100 = .ok (.iconst 1, 1) := by decide +kernel
theorem dX10_would_101 : decode cX10_would 101 = .ok (.invokevirtual 200, 3) := by decide +kernel
theorem dX10_would_104 : decode cX10_would 104 = .ok (.ifCond .ne 5, 3) := by decide +kernel
theorem dX10_would_109 : decode cX10_would 109 = .ok (.aload_n 0, 1) := by decide +kernel
theorem dX10_would_110 : decode cX10_would 110 = .ok (.iload_n 1, 1) := by decide +kernel
theorem dX10_would_111 : decode cX10_would 111 = .ok (.iload_n 2, 1) := by decide +kernel
theorem dX10_would_112 : decode cX10_would 112 = .ok (.iload_n 3, 1) := by decide +kernel
theorem dX10_would_113 : decode cX10_would 113 = .ok (.iload 4, 2) := by decide +kernel
theorem dX10_would_115 : decode cX10_would 115 = .ok (.iload 5, 2) := by decide +kernel
theorem dX10_would_117 : decode cX10_would 117 = .ok (.iload 6, 2) := by decide +kernel
theorem dX10_would_119 : decode cX10_would 119 = .ok (.iload 7, 2) := by decide +kernel
theorem dX10_would_121 : decode cX10_would 121 = .ok (.iload 8, 2) := by decide +kernel
theorem dX10_would_123 : decode cX10_would 123 = .ok (.invokevirtual 346, 3) := by decide +kernel
theorem dX10_would_126 : decode cX10_would 126 = .ok (.ireturn, 1) := by decide +kernel
theorem dX10_would_107 : decode cX10_would 107 = .ok (.iconst 0, 1) := by decide +kernel
theorem dX10_would_108 : decode cX10_would 108 = .ok (.ireturn, 1) := by decide +kernel
theorem dX10_ahead_0 : decode cX10_ahead 0 = .ok (.aload_n 0, 1) := by decide +kernel
theorem dX10_ahead_1 : decode cX10_ahead 1 = .ok (.iconst 0, 1) := by decide +kernel
theorem dX10_ahead_2 : decode cX10_ahead 2 = .ok (.putfield 3, 3) := by decide +kernel
theorem dX10_ahead_5 : decode cX10_ahead 5 = .ok (.aload_n 0, 1) := by decide +kernel
theorem dX10_ahead_6 : decode cX10_ahead 6 = .ok (.iload_n 1, 1) := by decide +kernel
theorem dX10_ahead_7 : decode cX10_ahead 7 = .ok (.iconst 0, 1) := by decide +kernel
theorem dX10_ahead_8 : decode cX10_ahead 8 = .ok (.bipush 99, 2) := by decide +kernel
theorem dX10_ahead_10 : decode cX10_ahead 10 = .ok (.invokestatic 384, 3) := by decide +kernel
theorem dX10_ahead_13 : decode cX10_ahead 13 = .ok (.ifCond .eq 16, 3) := by decide +kernel
theorem dX10_ahead_16 : decode cX10_ahead 16 = .ok (.iload_n 2, 1) := by decide +kernel
theorem dX10_ahead_17 : decode cX10_ahead 17 = .ok (.iconst 0, 1) := by decide +kernel
theorem dX10_ahead_18 : decode cX10_ahead 18 = .ok (.iconst 2, 1) := by decide +kernel
theorem dX10_ahead_19 : decode cX10_ahead 19 = .ok (.invokestatic 384, 3) := by decide +kernel
theorem dX10_ahead_22 : decode cX10_ahead 22 = .ok (.ifCond .eq 7, 3) := by decide +kernel
theorem dX10_ahead_25 : decode cX10_ahead 25 = .ok (.iconst 1, 1) := by decide +kernel
theorem dX10_ahead_26 : decode cX10_ahead 26 = .ok (.goto 4, 3) := by decide +kernel
theorem dX10_ahead_29 : decode cX10_ahead 29 = .ok (.iconst 0, 1) := by decide +kernel
theorem dX10_ahead_30 : decode cX10_ahead 30 = .ok (.iconst 1, 1) := by decide +kernel
theorem dX10_ahead_31 : decode cX10_ahead 31 = .ok (.iconst 1, 1) := by decide +kernel
theorem dX10_ahead_32 : decode cX10_ahead 32 = .ok (.invokevirtual 200, 3) := by decide +kernel
theorem dX10_ahead_35 : decode cX10_ahead 35 = .ok (.ifCond .ne 5, 3) := by decide +kernel
theorem dX10_ahead_40 : decode cX10_ahead 40 = .ok (.aload_n 0, 1) := by decide +kernel
theorem dX10_ahead_41 : decode cX10_ahead 41 = .ok (.invokevirtual 309, 3) := by decide +kernel
theorem dX10_ahead_44 : decode cX10_ahead 44 = .ok (.iconst 0, 1) := by decide +kernel
theorem dX10_ahead_45 : decode cX10_ahead 45 = .ok (.istore_n 3, 1) := by decide +kernel
theorem dX10_ahead_38 : decode cX10_ahead 38 = .ok (.iconst 0, 1) := by decide +kernel
theorem dX10_ahead_39 : decode cX10_ahead 39 = .ok (.ireturn, 1) := by decide +kernel
theorem dX10_ahead_46 : decode cX10_ahead 46 = .ok (.iload_n 3, 1) := by decide +kernel
theorem dX10_ahead_47 : decode cX10_ahead 47 = .ok (.iload_n 1, 1) := by decide +kernel
theorem dX10_ahead_48 : decode cX10_ahead 48 = .ok (.if_icmp .ge 13, 3) := by decide +kernel
theorem dX10_ahead_61 : decode cX10_ahead 61 = .ok (.iload_n 2, 1) := by decide +kernel
theorem dX10_ahead_62 : decode cX10_ahead 62 = .ok (.ifCond .ne 10, 3) := by decide +kernel
theorem dX10_ahead_72 : decode cX10_ahead 72 = .ok (.iload_n 2, 1) := by decide +kernel
theorem dX10_ahead_73 : decode cX10_ahead 73 = .ok (.iconst 1, 1) := by decide +kernel
theorem dX10_ahead_74 : decode cX10_ahead 74 = .ok (.if_icmp .ne 10, 3) := by decide +kernel
theorem dX10_ahead_84 : decode cX10_ahead 84 = .ok (.aload_n 0, 1) := by decide +kernel
theorem dX10_ahead_85 : decode cX10_ahead 85 = .ok (.bipush 54, 2) := by decide +kernel
theorem dX10_ahead_87 : decode cX10_ahead 87 = .ok (.aload_n 0, 1) := by decide +kernel
theorem dX10_ahead_88 : decode cX10_ahead 88 = .ok (.getfield 160, 3) := by decide +kernel
theorem dX10_ahead_91 : decode cX10_ahead 91 = .ok (.invokevirtual 387, 3) := by decide +kernel
theorem dX10_ahead_94 : decode cX10_ahead 94 = .ok (.ireturn, 1) := by decide +kernel
theorem dX10_ahead_77 : decode cX10_ahead 77 = .ok (.aload_n 0, 1) := by decide +kernel
theorem dX10_ahead_78 : decode cX10_ahead 78 = .ok (.invokevirtual 390, 3) := by decide +kernel
theorem dX10_ahead_81 : decode cX10_ahead 81 = .ok (.goto 13, 3) := by decide +kernel
theorem dX10_ahead_65 : decode cX10_ahead 65 = .ok (.aload_n 0, 1) := by decide +kernel
theorem dX10_ahead_66 : decode cX10_ahead 66 = .ok (.invokevirtual 393, 3) := by decide +kernel
theorem dX10_ahead_69 : decode cX10_ahead 69 = .ok (.goto 25, 3) := by decide +kernel
theorem dX10_ahead_51 : decode cX10_ahead 51 = .ok (.aload_n 0, 1) := by decide +kernel
theorem dX10_ahead_52 : decode cX10_ahead 52 = .ok (.invokevirtual 381, 3) := by decide +kernel
theorem dX10_ahead_55 : decode cX10_ahead 55 = .ok (.iinc 3 1, 3) := by decide +kernel
theorem dX10_ahead_58 : decode cX10_ahead 58 = .ok (.goto (-12), 3) := by decide +kernel
theorem dX10_lessons_0 : decode cX10_lessons 0 = .ok (.aload_n 0, 1) := by decide +kernel
theorem dX10_lessons_1 : decode cX10_lessons 1 = .ok (.iconst 0, 1) := by decide +kernel
theorem dX10_lessons_2 : decode cX10_lessons 2 = .ok (.putfield 3, 3) := by decide +kernel
theorem dX10_lessons_5 : decode cX10_lessons 5 = .ok (.aload_n 0, 1) := by decide +kernel
theorem dX10_lessons_6 : decode cX10_lessons 6 = .ok (.iload_n 1, 1) := by decide +kernel
theorem dX10_lessons_7 : decode cX10_lessons 7 = .ok (.iconst 1, 1) := by decide +kernel
theorem dX10_lessons_8 : decode cX10_lessons 8 = .ok (.invokevirtual 402, 3) := by decide +kernel
theorem dX10_lessons_11 : decode cX10_lessons 11 = .ok (.ifCond .eq 21, 3) := by decide +kernel
theorem dX10_lessons_32 : decode cX10_lessons 32 = .ok (.iconst 0, 1) := by decide +kernel
theorem dX10_lessons_33 : decode cX10_lessons 33 = .ok (.ireturn, 1) := by decide +kernel
theorem dX10_lessons_14 : decode cX10_lessons 14 = .ok (.aload_n 0, 1) := by decide +kernel
theorem dX10_lessons_15 : decode cX10_lessons 15 = .ok (.iload_n 2, 1) := by decide +kernel
theorem dX10_lessons_16 : decode cX10_lessons 16 = .ok (.iconst 1, 1) := by decide +kernel
theorem dX10_lessons_17 : decode cX10_lessons 17 = .ok (.invokevirtual 396, 3) := by decide +kernel
theorem dX10_lessons_20 : decode cX10_lessons 20 = .ok (.ifCond .eq 12, 3) := by decide +kernel
theorem dX10_lessons_23 : decode cX10_lessons 23 = .ok (.aload_n 0, 1) := by decide +kernel
theorem dX10_lessons_24 : decode cX10_lessons 24 = .ok (.iload_n 1, 1) := by decide +kernel
theorem dX10_lessons_25 : decode cX10_lessons 25 = .ok (.iload_n 2, 1) := by decide +kernel
theorem dX10_lessonsTo_0 : decode cX10_lessonsTo 0 = .ok (.aload_n 0, 1) := by decide +kernel
theorem dX10_lessonsTo_1 : decode cX10_lessonsTo 1 = .ok (.invokevirtual 309, 3) := by decide +kernel
theorem dX10_lessonsTo_4 : decode cX10_lessonsTo 4 = .ok (.iconst 0, 1) := by decide +kernel
theorem dX10_lessonsTo_5 : decode cX10_lessonsTo 5 = .ok (.istore_n 3, 1) := by decide +kernel
theorem dX10_lessonsTo_6 : decode cX10_lessonsTo 6 = .ok (.iload_n 3, 1) := by decide +kernel
theorem dX10_lessonsTo_7 : decode cX10_lessonsTo 7 = .ok (.bipush 40, 2) := by decide +kernel
theorem dX10_lessonsTo_9 : decode cX10_lessonsTo 9 = .ok (.if_icmp .gt 47, 3) := by decide +kernel
theorem dX10_lessonsTo_56 : decode cX10_lessonsTo 56 = .ok (.iconst (-1), 1) := by decide +kernel
theorem dX10_lessonsTo_57 : decode cX10_lessonsTo 57 = .ok (.ireturn, 1) := by decide +kernel
theorem dX10_lessonsTo_12 : decode cX10_lessonsTo 12 = .ok (.iload_n 3, 1) := by decide +kernel
theorem dX10_lessonsTo_13 : decode cX10_lessonsTo 13 = .ok (.ifCond .le 10, 3) := by decide +kernel
theorem dX10_lessonsTo_16 : decode cX10_lessonsTo 16 = .ok (.aload_n 0, 1) := by decide +kernel
theorem dX10_lessonsTo_17 : decode cX10_lessonsTo 17 = .ok (.iload_n 1, 1) := by decide +kernel
theorem dX10_lessonsTo_18 : decode cX10_lessonsTo 18 = .ok (.iload_n 2, 1) := by decide +kernel
theorem dX10_lessonsTo_19 : decode cX10_lessonsTo 19 = .ok (.invokevirtual 369, 3) := by decide +kernel
theorem dX10_lessonsTo_22 : decode cX10_lessonsTo 22 = .ok (.pop, 1) := by decide +kernel
theorem dX10_lessonsTo_23 : decode cX10_lessonsTo 23 = .ok (.aload_n 0, 1) := by decide +kernel
theorem dX10_lessonsTo_24 : decode cX10_lessonsTo 24 = .ok (.iload_n 1, 1) := by decide +kernel
theorem dX10_lessonsTo_25 : decode cX10_lessonsTo 25 = .ok (.iload_n 2, 1) := by decide +kernel
theorem dX10_lessonsTo_26 : decode cX10_lessonsTo 26 = .ok (.invokevirtual 340, 3) := by decide +kernel
theorem dX10_lessonsTo_29 : decode cX10_lessonsTo 29 = .ok (.aload_n 0, 1) := by decide +kernel
theorem dX10_lessonsTo_30 : decode cX10_lessonsTo 30 = .ok (.getfield 32, 3) := by decide +kernel
theorem dX10_lessonsTo_33 : decode cX10_lessonsTo 33 = .ok (.iconst 2, 1) := by decide +kernel
theorem dX10_lessonsTo_34 : decode cX10_lessonsTo 34 = .ok (.iload_n 2, 1) := by decide +kernel
theorem dX10_lessonsTo_35 : decode cX10_lessonsTo 35 = .ok (.imul, 1) := by decide +kernel
theorem dX10_lessonsTo_36 : decode cX10_lessonsTo 36 = .ok (.iaload, 1) := by decide +kernel
theorem dX10_lessonsTo_37 : decode cX10_lessonsTo 37 = .ok (.if_icmp .ne 5, 3) := by decide +kernel
theorem dX10_lessonsTo_42 : decode cX10_lessonsTo 42 = .ok (.iload_n 3, 1) := by decide +kernel
theorem dX10_lessonsTo_43 : decode cX10_lessonsTo 43 = .ok (.ifCond .le 7, 3) := by decide +kernel
theorem dX10_lessonsTo_50 : decode cX10_lessonsTo 50 = .ok (.iinc 3 1, 3) := by decide +kernel
theorem dX10_lessonsTo_53 : decode cX10_lessonsTo 53 = .ok (.goto (-47), 3) := by decide +kernel
theorem dX10_lessonsTo_46 : decode cX10_lessonsTo 46 = .ok (.aload_n 0, 1) := by decide +kernel
theorem dX10_lessonsTo_47 : decode cX10_lessonsTo 47 = .ok (.invokevirtual 381, 3) := by decide +kernel
theorem dX10_lessonsTo_40 : decode cX10_lessonsTo 40 = .ok (.iload_n 3, 1) := by decide +kernel
theorem dX10_lessonsTo_41 : decode cX10_lessonsTo 41 = .ok (.ireturn, 1) := by decide +kernel
theorem dX10_lessons_26 : decode cX10_lessons 26 = .ok (.invokevirtual 411, 3) := by decide +kernel
theorem dX10_lessons_29 : decode cX10_lessons 29 = .ok (.goto 4, 3) := by decide +kernel
theorem dX10_pays_0 : decode cX10_pays 0 = .ok (.aload_n 0, 1) := by decide +kernel
theorem dX10_pays_1 : decode cX10_pays 1 = .ok (.iconst 0, 1) := by decide +kernel
theorem dX10_pays_2 : decode cX10_pays 2 = .ok (.putfield 3, 3) := by decide +kernel
theorem dX10_pays_5 : decode cX10_pays 5 = .ok (.aload_n 0, 1) := by decide +kernel
theorem dX10_pays_6 : decode cX10_pays 6 = .ok (.iload_n 1, 1) := by decide +kernel
theorem dX10_pays_7 : decode cX10_pays 7 = .ok (.iconst 1, 1) := by decide +kernel
theorem dX10_pays_8 : decode cX10_pays 8 = .ok (.invokevirtual 402, 3) := by decide +kernel
theorem dX10_pays_11 : decode cX10_pays 11 = .ok (.ifCond .ne 5, 3) := by decide +kernel
theorem dX10_pays_16 : decode cX10_pays 16 = .ok (.aload_n 0, 1) := by decide +kernel
theorem dX10_pays_17 : decode cX10_pays 17 = .ok (.invokevirtual 309, 3) := by decide +kernel
theorem dX10_pays_20 : decode cX10_pays 20 = .ok (.aload_n 0, 1) := by decide +kernel
theorem dX10_laysDue_0 : decode cX10_laysDue 0 = .ok (.iconst 0, 1) := by decide +kernel
theorem dX10_laysDue_1 : decode cX10_laysDue 1 = .ok (.istore_n 1, 1) := by decide +kernel
theorem dX10_laysDue_2 : decode cX10_laysDue 2 = .ok (.iload_n 1, 1) := by decide +kernel
theorem dX10_laysDue_3 : decode cX10_laysDue 3 = .ok (.aload_n 0, 1) := by decide +kernel
theorem dX10_laysDue_4 : decode cX10_laysDue 4 = .ok (.getfield 163, 3) := by decide +kernel
theorem dX10_laysDue_7 : decode cX10_laysDue 7 = .ok (.if_icmp .ge 72, 3) := by decide +kernel
theorem dX10_laysDue_79 : decode cX10_laysDue 79 = .ok (.return_, 1) := by decide +kernel
theorem dX10_laysDue_10 : decode cX10_laysDue 10 = .ok (.iload_n 1, 1) := by decide +kernel
theorem dX10_laysDue_11 : decode cX10_laysDue 11 = .ok (.istore_n 2, 1) := by decide +kernel
theorem dX10_laysDue_12 : decode cX10_laysDue 12 = .ok (.iload_n 2, 1) := by decide +kernel
theorem dX10_laysDue_13 : decode cX10_laysDue 13 = .ok (.ifCond .le 53, 3) := by decide +kernel
theorem dX10_laysDue_16 : decode cX10_laysDue 16 = .ok (.aload_n 0, 1) := by decide +kernel
theorem dX10_laysDue_17 : decode cX10_laysDue 17 = .ok (.getfield 38, 3) := by decide +kernel
theorem dX10_laysDue_20 : decode cX10_laysDue 20 = .ok (.iconst 4, 1) := by decide +kernel
theorem dX10_laysDue_21 : decode cX10_laysDue 21 = .ok (.aload_n 0, 1) := by decide +kernel
theorem dX10_laysDue_22 : decode cX10_laysDue 22 = .ok (.getfield 80, 3) := by decide +kernel
theorem dX10_laysDue_25 : decode cX10_laysDue 25 = .ok (.iload_n 2, 1) := by decide +kernel
theorem dX10_laysDue_26 : decode cX10_laysDue 26 = .ok (.iconst 1, 1) := by decide +kernel
theorem dX10_laysDue_27 : decode cX10_laysDue 27 = .ok (.isub, 1) := by decide +kernel
theorem dX10_laysDue_28 : decode cX10_laysDue 28 = .ok (.iaload, 1) := by decide +kernel
theorem dX10_laysDue_29 : decode cX10_laysDue 29 = .ok (.imul, 1) := by decide +kernel
theorem dX10_laysDue_30 : decode cX10_laysDue 30 = .ok (.iconst 3, 1) := by decide +kernel
theorem dX10_laysDue_31 : decode cX10_laysDue 31 = .ok (.iadd, 1) := by decide +kernel
theorem dX10_laysDue_32 : decode cX10_laysDue 32 = .ok (.iaload, 1) := by decide +kernel
theorem dX10_laysDue_33 : decode cX10_laysDue 33 = .ok (.aload_n 0, 1) := by decide +kernel
theorem dX10_laysDue_34 : decode cX10_laysDue 34 = .ok (.getfield 38, 3) := by decide +kernel
theorem dX10_laysDue_37 : decode cX10_laysDue 37 = .ok (.iconst 4, 1) := by decide +kernel
theorem dX10_laysDue_38 : decode cX10_laysDue 38 = .ok (.iload_n 1, 1) := by decide +kernel
theorem dX10_laysDue_39 : decode cX10_laysDue 39 = .ok (.imul, 1) := by decide +kernel
theorem dX10_laysDue_40 : decode cX10_laysDue 40 = .ok (.iconst 3, 1) := by decide +kernel
theorem dX10_laysDue_41 : decode cX10_laysDue 41 = .ok (.iadd, 1) := by decide +kernel
theorem dX10_laysDue_42 : decode cX10_laysDue 42 = .ok (.iaload, 1) := by decide +kernel
theorem dX10_laysDue_43 : decode cX10_laysDue 43 = .ok (.if_icmp .le 23, 3) := by decide +kernel
theorem dX10_laysDue_46 : decode cX10_laysDue 46 = .ok (.aload_n 0, 1) := by decide +kernel
theorem dX10_laysDue_47 : decode cX10_laysDue 47 = .ok (.getfield 80, 3) := by decide +kernel
theorem dX10_laysDue_50 : decode cX10_laysDue 50 = .ok (.iload_n 2, 1) := by decide +kernel
theorem dX10_laysDue_51 : decode cX10_laysDue 51 = .ok (.aload_n 0, 1) := by decide +kernel
theorem dX10_laysDue_52 : decode cX10_laysDue 52 = .ok (.getfield 80, 3) := by decide +kernel
theorem dX10_laysDue_55 : decode cX10_laysDue 55 = .ok (.iload_n 2, 1) := by decide +kernel
theorem dX10_laysDue_56 : decode cX10_laysDue 56 = .ok (.iconst 1, 1) := by decide +kernel
theorem dX10_laysDue_57 : decode cX10_laysDue 57 = .ok (.isub, 1) := by decide +kernel
theorem dX10_laysDue_58 : decode cX10_laysDue 58 = .ok (.iaload, 1) := by decide +kernel
theorem dX10_laysDue_59 : decode cX10_laysDue 59 = .ok (.iastore, 1) := by decide +kernel
theorem dX10_laysDue_60 : decode cX10_laysDue 60 = .ok (.iinc 2 (-1), 3) := by decide +kernel
theorem dX10_laysDue_63 : decode cX10_laysDue 63 = .ok (.goto (-51), 3) := by decide +kernel
theorem dX10_laysDue_66 : decode cX10_laysDue 66 = .ok (.aload_n 0, 1) := by decide +kernel
theorem dX10_laysDue_67 : decode cX10_laysDue 67 = .ok (.getfield 80, 3) := by decide +kernel
theorem dX10_laysDue_70 : decode cX10_laysDue 70 = .ok (.iload_n 2, 1) := by decide +kernel
theorem dX10_laysDue_71 : decode cX10_laysDue 71 = .ok (.iload_n 1, 1) := by decide +kernel
theorem dX10_laysDue_72 : decode cX10_laysDue 72 = .ok (.iastore, 1) := by decide +kernel
theorem dX10_laysDue_73 : decode cX10_laysDue 73 = .ok (.iinc 1 1, 3) := by decide +kernel
theorem dX10_laysDue_76 : decode cX10_laysDue 76 = .ok (.goto (-74), 3) := by decide +kernel
theorem dX10_pays_21 : decode cX10_pays 21 = .ok (.invokevirtual 417, 3) := by decide +kernel
theorem dX10_pays_24 : decode cX10_pays 24 = .ok (.aload_n 0, 1) := by decide +kernel
theorem dX10_pays_25 : decode cX10_pays 25 = .ok (.iconst 0, 1) := by decide +kernel
theorem dX10_pays_26 : decode cX10_pays 26 = .ok (.iload_n 1, 1) := by decide +kernel
theorem dX10_pays_27 : decode cX10_pays 27 = .ok (.invokevirtual 399, 3) := by decide +kernel
theorem dX10_pays_30 : decode cX10_pays 30 = .ok (.istore_n 2, 1) := by decide +kernel
theorem dX10_pays_31 : decode cX10_pays 31 = .ok (.iconst 0, 1) := by decide +kernel
theorem dX10_pays_32 : decode cX10_pays 32 = .ok (.istore_n 3, 1) := by decide +kernel
theorem dX10_pays_33 : decode cX10_pays 33 = .ok (.iconst 0, 1) := by decide +kernel
theorem dX10_pays_34 : decode cX10_pays 34 = .ok (.istore 4, 2) := by decide +kernel
theorem dX10_pays_36 : decode cX10_pays 36 = .ok (.iconst 1, 1) := by decide +kernel
theorem dX10_pays_37 : decode cX10_pays 37 = .ok (.istore 5, 2) := by decide +kernel
theorem dX10_pays_14 : decode cX10_pays 14 = .ok (.iconst 0, 1) := by decide +kernel
theorem dX10_pays_15 : decode cX10_pays 15 = .ok (.ireturn, 1) := by decide +kernel
theorem dX10_pays_39 : decode cX10_pays 39 = .ok (.iload 5, 2) := by decide +kernel
theorem dX10_pays_41 : decode cX10_pays 41 = .ok (.iload_n 2, 1) := by decide +kernel
theorem dX10_pays_42 : decode cX10_pays 42 = .ok (.if_icmp .gt 76, 3) := by decide +kernel
theorem dX10_pays_118 : decode cX10_pays 118 = .ok (.iload_n 3, 1) := by decide +kernel
theorem dX10_pays_119 : decode cX10_pays 119 = .ok (.ireturn, 1) := by decide +kernel
theorem dX10_pays_45 : decode cX10_pays 45 = .ok (.iload 5, 2) := by decide +kernel
theorem dX10_pays_47 : decode cX10_pays 47 = .ok (.iload_n 2, 1) := by decide +kernel
theorem dX10_pays_48 : decode cX10_pays 48 = .ok (.iconst (-1), 1) := by decide +kernel
theorem dX10_pays_49 : decode cX10_pays 49 = .ok (.ixor, 1) := by decide +kernel
theorem dX10_pays_50 : decode cX10_pays 50 = .ok (.iand, 1) := by decide +kernel
theorem dX10_pays_51 : decode cX10_pays 51 = .ok (.ifCond .ne 61, 3) := by decide +kernel
theorem dX10_pays_112 : decode cX10_pays 112 = .ok (.iinc 5 1, 3) := by decide +kernel
theorem dX10_pays_115 : decode cX10_pays 115 = .ok (.goto (-76), 3) := by decide +kernel
theorem dX10_pays_54 : decode cX10_pays 54 = .ok (.iload 5, 2) := by decide +kernel
theorem dX10_ones_0 : decode cX10_ones 0 = .ok (.iconst 0, 1) := by decide +kernel
theorem dX10_ones_1 : decode cX10_ones 1 = .ok (.istore_n 1, 1) := by decide +kernel
theorem dX10_ones_2 : decode cX10_ones 2 = .ok (.iconst 0, 1) := by decide +kernel
theorem dX10_ones_3 : decode cX10_ones 3 = .ok (.istore_n 2, 1) := by decide +kernel
theorem dX10_ones_4 : decode cX10_ones 4 = .ok (.iload_n 2, 1) := by decide +kernel
theorem dX10_ones_5 : decode cX10_ones 5 = .ok (.bipush 10, 2) := by decide +kernel
theorem dX10_ones_7 : decode cX10_ones 7 = .ok (.if_icmp .ge 17, 3) := by decide +kernel
theorem dX10_ones_24 : decode cX10_ones 24 = .ok (.iload_n 1, 1) := by decide +kernel
theorem dX10_ones_25 : decode cX10_ones 25 = .ok (.ireturn, 1) := by decide +kernel
theorem dX10_ones_10 : decode cX10_ones 10 = .ok (.iload_n 1, 1) := by decide +kernel
theorem dX10_ones_11 : decode cX10_ones 11 = .ok (.iload_n 0, 1) := by decide +kernel
theorem dX10_ones_12 : decode cX10_ones 12 = .ok (.iload_n 2, 1) := by decide +kernel
theorem dX10_ones_13 : decode cX10_ones 13 = .ok (.ishr, 1) := by decide +kernel
theorem dX10_ones_14 : decode cX10_ones 14 = .ok (.iconst 1, 1) := by decide +kernel
theorem dX10_ones_15 : decode cX10_ones 15 = .ok (.iand, 1) := by decide +kernel
theorem dX10_ones_16 : decode cX10_ones 16 = .ok (.iadd, 1) := by decide +kernel
theorem dX10_ones_17 : decode cX10_ones 17 = .ok (.istore_n 1, 1) := by decide +kernel
theorem dX10_ones_18 : decode cX10_ones 18 = .ok (.iinc 2 1, 3) := by decide +kernel
theorem dX10_ones_21 : decode cX10_ones 21 = .ok (.goto (-17), 3) := by decide +kernel
theorem dX10_pays_56 : decode cX10_pays 56 = .ok (.invokestatic 420, 3) := by decide +kernel
theorem dX10_pays_59 : decode cX10_pays 59 = .ok (.iload_n 3, 1) := by decide +kernel
theorem dX10_pays_60 : decode cX10_pays 60 = .ok (.invokestatic 420, 3) := by decide +kernel
theorem dX10_pays_63 : decode cX10_pays 63 = .ok (.if_icmp .lt 49, 3) := by decide +kernel
theorem dX10_pays_66 : decode cX10_pays 66 = .ok (.aload_n 0, 1) := by decide +kernel
theorem dX10_pays_67 : decode cX10_pays 67 = .ok (.iload_n 1, 1) := by decide +kernel
theorem dX10_pays_68 : decode cX10_pays 68 = .ok (.iload 5, 2) := by decide +kernel
theorem dX10_isPayable_0 : decode cX10_isPayable 0 = .ok (.iconst 0, 1) := by decide +kernel
theorem dX10_isPayable_1 : decode cX10_isPayable 1 = .ok (.istore_n 3, 1) := by decide +kernel
theorem dX10_isPayable_2 : decode cX10_isPayable 2 = .ok (.iconst 0, 1) := by decide +kernel
theorem dX10_isPayable_3 : decode cX10_isPayable 3 = .ok (.istore 4, 2) := by decide +kernel
theorem dX10_isPayable_5 : decode cX10_isPayable 5 = .ok (.iconst 0, 1) := by decide +kernel
theorem dX10_isPayable_6 : decode cX10_isPayable 6 = .ok (.istore 5, 2) := by decide +kernel
theorem dX10_isPayable_8 : decode cX10_isPayable 8 = .ok (.iconst 1, 1) := by decide +kernel
theorem dX10_isPayable_9 : decode cX10_isPayable 9 = .ok (.istore 6, 2) := by decide +kernel
theorem dX10_isPayable_11 : decode cX10_isPayable 11 = .ok (.aload_n 0, 1) := by decide +kernel
theorem dX10_isPayable_12 : decode cX10_isPayable 12 = .ok (.iconst 0, 1) := by decide +kernel
theorem dX10_isPayable_13 : decode cX10_isPayable 13 = .ok (.putfield 414, 3) := by decide +kernel
theorem dX10_isPayable_16 : decode cX10_isPayable 16 = .ok (.iconst 0, 1) := by decide +kernel
theorem dX10_isPayable_17 : decode cX10_isPayable 17 = .ok (.istore 7, 2) := by decide +kernel
theorem dX10_isPayable_19 : decode cX10_isPayable 19 = .ok (.iload 7, 2) := by decide +kernel
theorem dX10_isPayable_21 : decode cX10_isPayable 21 = .ok (.aload_n 0, 1) := by decide +kernel
theorem dX10_isPayable_22 : decode cX10_isPayable 22 = .ok (.getfield 163, 3) := by decide +kernel
theorem dX10_isPayable_25 : decode cX10_isPayable 25 = .ok (.if_icmp .ge 142, 3) := by decide +kernel
theorem dX10_isPayable_167 : decode cX10_isPayable 167 = .ok (.iload 6, 2) := by decide +kernel
theorem dX10_isPayable_169 : decode cX10_isPayable 169 = .ok (.ifCond .eq 17, 3) := by decide +kernel
theorem dX10_isPayable_186 : decode cX10_isPayable 186 = .ok (.iconst 0, 1) := by decide +kernel
theorem dX10_isPayable_187 : decode cX10_isPayable 187 = .ok (.ireturn, 1) := by decide +kernel
theorem dX10_isPayable_172 : decode cX10_isPayable 172 = .ok (.iload 5, 2) := by decide +kernel
theorem dX10_isPayable_174 : decode cX10_isPayable 174 = .ok (.aload_n 0, 1) := by decide +kernel
theorem dX10_isPayable_175 : decode cX10_isPayable 175 = .ok (.iload_n 1, 1) := by decide +kernel
theorem dX10_isPayable_176 : decode cX10_isPayable 176 = .ok (.invokevirtual 331, 3) := by decide +kernel
theorem dX10_isPayable_179 : decode cX10_isPayable 179 = .ok (.if_icmp .gt 7, 3) := by decide +kernel
theorem dX10_isPayable_182 : decode cX10_isPayable 182 = .ok (.iconst 1, 1) := by decide +kernel
theorem dX10_isPayable_183 : decode cX10_isPayable 183 = .ok (.goto 4, 3) := by decide +kernel
theorem dX10_isPayable_28 : decode cX10_isPayable 28 = .ok (.aload_n 0, 1) := by decide +kernel
theorem dX10_isPayable_29 : decode cX10_isPayable 29 = .ok (.getfield 80, 3) := by decide +kernel
theorem dX10_isPayable_32 : decode cX10_isPayable 32 = .ok (.iload 7, 2) := by decide +kernel
theorem dX10_isPayable_34 : decode cX10_isPayable 34 = .ok (.iaload, 1) := by decide +kernel
theorem dX10_isPayable_35 : decode cX10_isPayable 35 = .ok (.istore 8, 2) := by decide +kernel
theorem dX10_isPayable_37 : decode cX10_isPayable 37 = .ok (.iload_n 2, 1) := by decide +kernel
theorem dX10_isPayable_38 : decode cX10_isPayable 38 = .ok (.iload 8, 2) := by decide +kernel
theorem dX10_isPayable_40 : decode cX10_isPayable 40 = .ok (.ishr, 1) := by decide +kernel
theorem dX10_isPayable_41 : decode cX10_isPayable 41 = .ok (.iconst 1, 1) := by decide +kernel
theorem dX10_isPayable_42 : decode cX10_isPayable 42 = .ok (.iand, 1) := by decide +kernel
theorem dX10_isPayable_43 : decode cX10_isPayable 43 = .ok (.ifCond .ne 6, 3) := by decide +kernel
theorem dX10_isPayable_49 : decode cX10_isPayable 49 = .ok (.aload_n 0, 1) := by decide +kernel
theorem dX10_isPayable_50 : decode cX10_isPayable 50 = .ok (.getfield 38, 3) := by decide +kernel
theorem dX10_isPayable_53 : decode cX10_isPayable 53 = .ok (.iconst 4, 1) := by decide +kernel
theorem dX10_isPayable_54 : decode cX10_isPayable 54 = .ok (.iload 8, 2) := by decide +kernel
theorem dX10_isPayable_56 : decode cX10_isPayable 56 = .ok (.imul, 1) := by decide +kernel
theorem dX10_isPayable_57 : decode cX10_isPayable 57 = .ok (.iconst 1, 1) := by decide +kernel
theorem dX10_isPayable_58 : decode cX10_isPayable 58 = .ok (.iadd, 1) := by decide +kernel
theorem dX10_isPayable_59 : decode cX10_isPayable 59 = .ok (.iaload, 1) := by decide +kernel
theorem dX10_isPayable_60 : decode cX10_isPayable 60 = .ok (.istore 9, 2) := by decide +kernel
theorem dX10_isPayable_62 : decode cX10_isPayable 62 = .ok (.iload 5, 2) := by decide +kernel
theorem dX10_isPayable_64 : decode cX10_isPayable 64 = .ok (.iload 4, 2) := by decide +kernel
theorem dX10_isPayable_66 : decode cX10_isPayable 66 = .ok (.iload 9, 2) := by decide +kernel
theorem dX10_isPayable_68 : decode cX10_isPayable 68 = .ok (.ishr, 1) := by decide +kernel
theorem dX10_isPayable_69 : decode cX10_isPayable 69 = .ok (.iconst 1, 1) := by decide +kernel
theorem dX10_isPayable_70 : decode cX10_isPayable 70 = .ok (.iand, 1) := by decide +kernel
theorem dX10_isPayable_71 : decode cX10_isPayable 71 = .ok (.ifCond .ne 15, 3) := by decide +kernel
theorem dX10_isPayable_86 : decode cX10_isPayable 86 = .ok (.iconst 0, 1) := by decide +kernel
theorem dX10_isPayable_74 : decode cX10_isPayable 74 = .ok (.aload_n 0, 1) := by decide +kernel
theorem dX10_isPayable_75 : decode cX10_isPayable 75 = .ok (.getfield 32, 3) := by decide +kernel
theorem dX10_isPayable_78 : decode cX10_isPayable 78 = .ok (.iconst 2, 1) := by decide +kernel
theorem dX10_isPayable_79 : decode cX10_isPayable 79 = .ok (.iload 9, 2) := by decide +kernel
theorem dX10_isPayable_81 : decode cX10_isPayable 81 = .ok (.imul, 1) := by decide +kernel
theorem dX10_isPayable_82 : decode cX10_isPayable 82 = .ok (.iaload, 1) := by decide +kernel
theorem dX10_isPayable_83 : decode cX10_isPayable 83 = .ok (.goto 4, 3) := by decide +kernel
theorem dX10_isPayable_46 : decode cX10_isPayable 46 = .ok (.goto 115, 3) := by decide +kernel
theorem dX10_isPayable_161 : decode cX10_isPayable 161 = .ok (.iinc 7 1, 3) := by decide +kernel
theorem dX10_isPayable_164 : decode cX10_isPayable 164 = .ok (.goto (-145), 3) := by decide +kernel
theorem dX10_isPayable_87 : decode cX10_isPayable 87 = .ok (.iadd, 1) := by decide +kernel
theorem dX10_isPayable_88 : decode cX10_isPayable 88 = .ok (.istore 5, 2) := by decide +kernel
theorem dX10_isPayable_90 : decode cX10_isPayable 90 = .ok (.iload 4, 2) := by decide +kernel
theorem dX10_isPayable_92 : decode cX10_isPayable 92 = .ok (.iconst 1, 1) := by decide +kernel
theorem dX10_isPayable_93 : decode cX10_isPayable 93 = .ok (.iload 9, 2) := by decide +kernel
theorem dX10_isPayable_95 : decode cX10_isPayable 95 = .ok (.ishl, 1) := by decide +kernel
theorem dX10_isPayable_96 : decode cX10_isPayable 96 = .ok (.ior, 1) := by decide +kernel
theorem dX10_isPayable_97 : decode cX10_isPayable 97 = .ok (.istore 4, 2) := by decide +kernel
theorem dX10_isPayable_99 : decode cX10_isPayable 99 = .ok (.aload_n 0, 1) := by decide +kernel
theorem dX10_isPayable_100 : decode cX10_isPayable 100 = .ok (.dup, 1) := by decide +kernel
theorem dX10_isPayable_101 : decode cX10_isPayable 101 = .ok (.getfield 414, 3) := by decide +kernel
theorem dX10_isPayable_104 : decode cX10_isPayable 104 = .ok (.aload_n 0, 1) := by decide +kernel
theorem dX10_isPayable_105 : decode cX10_isPayable 105 = .ok (.getfield 32, 3) := by decide +kernel
theorem dX10_isPayable_108 : decode cX10_isPayable 108 = .ok (.iconst 2, 1) := by decide +kernel
theorem dX10_isPayable_109 : decode cX10_isPayable 109 = .ok (.iload 9, 2) := by decide +kernel
theorem dX10_isPayable_111 : decode cX10_isPayable 111 = .ok (.imul, 1) := by decide +kernel
theorem dX10_isPayable_112 : decode cX10_isPayable 112 = .ok (.iaload, 1) := by decide +kernel
theorem dX10_isPayable_113 : decode cX10_isPayable 113 = .ok (.iadd, 1) := by decide +kernel
theorem dX10_isPayable_114 : decode cX10_isPayable 114 = .ok (.putfield 414, 3) := by decide +kernel
theorem dX10_isPayable_117 : decode cX10_isPayable 117 = .ok (.iload_n 3, 1) := by decide +kernel
theorem dX10_isPayable_118 : decode cX10_isPayable 118 = .ok (.aload_n 0, 1) := by decide +kernel
theorem dX10_isPayable_119 : decode cX10_isPayable 119 = .ok (.iload 8, 2) := by decide +kernel
theorem dX10_isPayable_121 : decode cX10_isPayable 121 = .ok (.invokevirtual 408, 3) := by decide +kernel
theorem dX10_isPayable_124 : decode cX10_isPayable 124 = .ok (.iadd, 1) := by decide +kernel
theorem dX10_isPayable_125 : decode cX10_isPayable 125 = .ok (.istore_n 3, 1) := by decide +kernel
theorem dX10_isPayable_126 : decode cX10_isPayable 126 = .ok (.iload 6, 2) := by decide +kernel
theorem dX10_isPayable_128 : decode cX10_isPayable 128 = .ok (.ifCond .eq 30, 3) := by decide +kernel
theorem dX10_isPayable_158 : decode cX10_isPayable 158 = .ok (.iconst 0, 1) := by decide +kernel
theorem dX10_isPayable_159 : decode cX10_isPayable 159 = .ok (.istore 6, 2) := by decide +kernel
theorem dX10_isPayable_131 : decode cX10_isPayable 131 = .ok (.iload_n 3, 1) := by decide +kernel
theorem dX10_isPayable_132 : decode cX10_isPayable 132 = .ok (.aload_n 0, 1) := by decide +kernel
theorem dX10_isPayable_133 : decode cX10_isPayable 133 = .ok (.getfield 38, 3) := by decide +kernel
theorem dX10_isPayable_136 : decode cX10_isPayable 136 = .ok (.iconst 4, 1) := by decide +kernel
theorem dX10_isPayable_137 : decode cX10_isPayable 137 = .ok (.iload 8, 2) := by decide +kernel
theorem dX10_isPayable_139 : decode cX10_isPayable 139 = .ok (.imul, 1) := by decide +kernel
theorem dX10_isPayable_140 : decode cX10_isPayable 140 = .ok (.iconst 3, 1) := by decide +kernel
theorem dX10_isPayable_141 : decode cX10_isPayable 141 = .ok (.iadd, 1) := by decide +kernel
theorem dX10_isPayable_142 : decode cX10_isPayable 142 = .ok (.iaload, 1) := by decide +kernel
theorem dX10_isPayable_143 : decode cX10_isPayable 143 = .ok (.aload_n 0, 1) := by decide +kernel
theorem dX10_isPayable_144 : decode cX10_isPayable 144 = .ok (.getfield 68, 3) := by decide +kernel
theorem dX10_isPayable_147 : decode cX10_isPayable 147 = .ok (.bipush 94, 2) := by decide +kernel
theorem dX10_isPayable_149 : decode cX10_isPayable 149 = .ok (.iaload, 1) := by decide +kernel
theorem dX10_isPayable_150 : decode cX10_isPayable 150 = .ok (.isub, 1) := by decide +kernel
theorem dX10_isPayable_151 : decode cX10_isPayable 151 = .ok (.if_icmp .gt 7, 3) := by decide +kernel
theorem dX10_isPayable_154 : decode cX10_isPayable 154 = .ok (.iconst 1, 1) := by decide +kernel
theorem dX10_isPayable_155 : decode cX10_isPayable 155 = .ok (.goto 4, 3) := by decide +kernel
theorem dX10_pays_70 : decode cX10_pays 70 = .ok (.invokevirtual 423, 3) := by decide +kernel
theorem dX10_pays_73 : decode cX10_pays 73 = .ok (.ifCond .ne 6, 3) := by decide +kernel
theorem dX10_pays_79 : decode cX10_pays 79 = .ok (.iload 5, 2) := by decide +kernel
theorem dX10_pays_81 : decode cX10_pays 81 = .ok (.invokestatic 420, 3) := by decide +kernel
theorem dX10_pays_84 : decode cX10_pays 84 = .ok (.iload_n 3, 1) := by decide +kernel
theorem dX10_pays_85 : decode cX10_pays 85 = .ok (.invokestatic 420, 3) := by decide +kernel
theorem dX10_pays_88 : decode cX10_pays 88 = .ok (.if_icmp .ne 15, 3) := by decide +kernel
theorem dX10_pays_91 : decode cX10_pays 91 = .ok (.aload_n 0, 1) := by decide +kernel
theorem dX10_pays_92 : decode cX10_pays 92 = .ok (.getfield 414, 3) := by decide +kernel
theorem dX10_pays_95 : decode cX10_pays 95 = .ok (.iload 4, 2) := by decide +kernel
theorem dX10_pays_97 : decode cX10_pays 97 = .ok (.if_icmp .gt 6, 3) := by decide +kernel
theorem dX10_pays_100 : decode cX10_pays 100 = .ok (.goto 12, 3) := by decide +kernel
theorem dX10_pays_76 : decode cX10_pays 76 = .ok (.goto 36, 3) := by decide +kernel
theorem dX10_pays_103 : decode cX10_pays 103 = .ok (.iload 5, 2) := by decide +kernel
theorem dX10_pays_105 : decode cX10_pays 105 = .ok (.istore_n 3, 1) := by decide +kernel
theorem dX10_pays_106 : decode cX10_pays 106 = .ok (.aload_n 0, 1) := by decide +kernel
theorem dX10_pays_107 : decode cX10_pays 107 = .ok (.getfield 414, 3) := by decide +kernel
theorem dX10_pays_110 : decode cX10_pays 110 = .ok (.istore 4, 2) := by decide +kernel
theorem dX10_hardest_0 : decode cX10_hardest 0 = .ok (.aload_n 0, 1) := by decide +kernel
theorem dX10_hardest_1 : decode cX10_hardest 1 = .ok (.iconst 0, 1) := by decide +kernel
theorem dX10_hardest_2 : decode cX10_hardest 2 = .ok (.putfield 3, 3) := by decide +kernel
theorem dX10_hardest_5 : decode cX10_hardest 5 = .ok (.aload_n 0, 1) := by decide +kernel
theorem dX10_hardest_6 : decode cX10_hardest 6 = .ok (.iload_n 1, 1) := by decide +kernel
theorem dX10_hardest_7 : decode cX10_hardest 7 = .ok (.iconst 1, 1) := by decide +kernel
theorem dX10_hardest_8 : decode cX10_hardest 8 = .ok (.invokevirtual 402, 3) := by decide +kernel
theorem dX10_hardest_11 : decode cX10_hardest 11 = .ok (.ifCond .ne 5, 3) := by decide +kernel
theorem dX10_hardest_16 : decode cX10_hardest 16 = .ok (.iconst (-1), 1) := by decide +kernel
theorem dX10_hardest_17 : decode cX10_hardest 17 = .ok (.istore_n 2, 1) := by decide +kernel
theorem dX10_hardest_18 : decode cX10_hardest 18 = .ok (.iconst (-1), 1) := by decide +kernel
theorem dX10_hardest_19 : decode cX10_hardest 19 = .ok (.istore_n 3, 1) := by decide +kernel
theorem dX10_hardest_20 : decode cX10_hardest 20 = .ok (.iconst 0, 1) := by decide +kernel
theorem dX10_hardest_21 : decode cX10_hardest 21 = .ok (.istore 4, 2) := by decide +kernel
theorem dX10_hardest_14 : decode cX10_hardest 14 = .ok (.iconst 0, 1) := by decide +kernel
theorem dX10_hardest_15 : decode cX10_hardest 15 = .ok (.ireturn, 1) := by decide +kernel
theorem dX10_hardest_23 : decode cX10_hardest 23 = .ok (.iload 4, 2) := by decide +kernel
theorem dX10_hardest_25 : decode cX10_hardest 25 = .ok (.aload_n 0, 1) := by decide +kernel
theorem dX10_hardest_26 : decode cX10_hardest 26 = .ok (.getfield 157, 3) := by decide +kernel
theorem dX10_hardest_29 : decode cX10_hardest 29 = .ok (.if_icmp .ge 48, 3) := by decide +kernel
theorem dX10_hardest_77 : decode cX10_hardest 77 = .ok (.iload_n 2, 1) := by decide +kernel
theorem dX10_hardest_78 : decode cX10_hardest 78 = .ok (.ireturn, 1) := by decide +kernel
theorem dX10_hardest_32 : decode cX10_hardest 32 = .ok (.aload_n 0, 1) := by decide +kernel
theorem dX10_hardest_33 : decode cX10_hardest 33 = .ok (.iload_n 1, 1) := by decide +kernel
theorem dX10_hardest_34 : decode cX10_hardest 34 = .ok (.iload 4, 2) := by decide +kernel
theorem dX10_hardest_36 : decode cX10_hardest 36 = .ok (.invokevirtual 411, 3) := by decide +kernel
theorem dX10_hardest_39 : decode cX10_hardest 39 = .ok (.istore 5, 2) := by decide +kernel
theorem dX10_hardest_41 : decode cX10_hardest 41 = .ok (.iload 5, 2) := by decide +kernel
theorem dX10_hardest_43 : decode cX10_hardest 43 = .ok (.iconst (-1), 1) := by decide +kernel
theorem dX10_hardest_44 : decode cX10_hardest 44 = .ok (.if_icmp .ne 8, 3) := by decide +kernel
theorem dX10_hardest_52 : decode cX10_hardest 52 = .ok (.iload 5, 2) := by decide +kernel
theorem dX10_hardest_47 : decode cX10_hardest 47 = .ok (.bipush 41, 2) := by decide +kernel
theorem dX10_hardest_49 : decode cX10_hardest 49 = .ok (.goto 5, 3) := by decide +kernel
theorem dX10_hardest_54 : decode cX10_hardest 54 = .ok (.istore 5, 2) := by decide +kernel
theorem dX10_hardest_56 : decode cX10_hardest 56 = .ok (.iload 5, 2) := by decide +kernel
theorem dX10_hardest_58 : decode cX10_hardest 58 = .ok (.iload_n 3, 1) := by decide +kernel
theorem dX10_hardest_59 : decode cX10_hardest 59 = .ok (.if_icmp .gt 6, 3) := by decide +kernel
theorem dX10_hardest_65 : decode cX10_hardest 65 = .ok (.iload 4, 2) := by decide +kernel
theorem dX10_hardest_67 : decode cX10_hardest 67 = .ok (.istore_n 2, 1) := by decide +kernel
theorem dX10_hardest_68 : decode cX10_hardest 68 = .ok (.iload 5, 2) := by decide +kernel
theorem dX10_hardest_70 : decode cX10_hardest 70 = .ok (.istore_n 3, 1) := by decide +kernel
theorem dX10_hardest_71 : decode cX10_hardest 71 = .ok (.iinc 4 1, 3) := by decide +kernel
theorem dX10_hardest_74 : decode cX10_hardest 74 = .ok (.goto (-51), 3) := by decide +kernel
theorem dX10_hardest_62 : decode cX10_hardest 62 = .ok (.goto 9, 3) := by decide +kernel
theorem dX10_fits_0 : decode cX10_fits 0 = .ok (.aload_n 0, 1) := by decide +kernel
theorem dX10_fits_1 : decode cX10_fits 1 = .ok (.iconst 0, 1) := by decide +kernel
theorem dX10_fits_2 : decode cX10_fits 2 = .ok (.putfield 3, 3) := by decide +kernel
theorem dX10_fits_5 : decode cX10_fits 5 = .ok (.aload_n 0, 1) := by decide +kernel
theorem dX10_fits_6 : decode cX10_fits 6 = .ok (.iload_n 1, 1) := by decide +kernel
theorem dX10_fits_7 : decode cX10_fits 7 = .ok (.iconst 0, 1) := by decide +kernel
theorem dX10_fits_8 : decode cX10_fits 8 = .ok (.iconst 1, 1) := by decide +kernel
theorem dX10_fits_9 : decode cX10_fits 9 = .ok (.invokestatic 384, 3) := by decide +kernel
theorem dX10_fits_12 : decode cX10_fits 12 = .ok (.iconst 1, 1) := by decide +kernel
theorem dX10_fits_13 : decode cX10_fits 13 = .ok (.iconst 1, 1) := by decide +kernel
theorem dX10_fits_14 : decode cX10_fits 14 = .ok (.invokevirtual 200, 3) := by decide +kernel
theorem dX10_fits_17 : decode cX10_fits 17 = .ok (.ifCond .ne 5, 3) := by decide +kernel
theorem dX10_fits_22 : decode cX10_fits 22 = .ok (.aload_n 0, 1) := by decide +kernel
theorem dX10_fits_23 : decode cX10_fits 23 = .ok (.invokevirtual 309, 3) := by decide +kernel
theorem dX10_fits_26 : decode cX10_fits 26 = .ok (.iconst 0, 1) := by decide +kernel
theorem dX10_fits_27 : decode cX10_fits 27 = .ok (.istore_n 2, 1) := by decide +kernel
theorem dX10_fits_28 : decode cX10_fits 28 = .ok (.iconst (-1), 1) := by decide +kernel
theorem dX10_fits_29 : decode cX10_fits 29 = .ok (.istore_n 3, 1) := by decide +kernel
theorem dX10_fits_30 : decode cX10_fits 30 = .ok (.iconst 0, 1) := by decide +kernel
theorem dX10_fits_31 : decode cX10_fits 31 = .ok (.istore 4, 2) := by decide +kernel
theorem dX10_fits_20 : decode cX10_fits 20 = .ok (.iconst 0, 1) := by decide +kernel
theorem dX10_fits_21 : decode cX10_fits 21 = .ok (.ireturn, 1) := by decide +kernel
theorem dX10_fits_33 : decode cX10_fits 33 = .ok (.iload 4, 2) := by decide +kernel
theorem dX10_fits_35 : decode cX10_fits 35 = .ok (.aload_n 0, 1) := by decide +kernel
theorem dX10_fits_36 : decode cX10_fits 36 = .ok (.getfield 160, 3) := by decide +kernel
theorem dX10_fits_39 : decode cX10_fits 39 = .ok (.if_icmp .ge 62, 3) := by decide +kernel
theorem dX10_fits_101 : decode cX10_fits 101 = .ok (.iload_n 1, 1) := by decide +kernel
theorem dX10_fits_102 : decode cX10_fits 102 = .ok (.ifCond .ne 7, 3) := by decide +kernel
theorem dX10_fits_109 : decode cX10_fits 109 = .ok (.iload_n 3, 1) := by decide +kernel
theorem dX10_fits_110 : decode cX10_fits 110 = .ok (.ireturn, 1) := by decide +kernel
theorem dX10_fits_105 : decode cX10_fits 105 = .ok (.iload_n 2, 1) := by decide +kernel
theorem dX10_fits_106 : decode cX10_fits 106 = .ok (.goto 4, 3) := by decide +kernel
theorem dX10_fits_42 : decode cX10_fits 42 = .ok (.iconst 0, 1) := by decide +kernel
theorem dX10_fits_43 : decode cX10_fits 43 = .ok (.istore 5, 2) := by decide +kernel
theorem dX10_fits_45 : decode cX10_fits 45 = .ok (.iload 5, 2) := by decide +kernel
theorem dX10_fits_47 : decode cX10_fits 47 = .ok (.aload_n 0, 1) := by decide +kernel
theorem dX10_fits_48 : decode cX10_fits 48 = .ok (.getfield 157, 3) := by decide +kernel
theorem dX10_fits_51 : decode cX10_fits 51 = .ok (.if_icmp .ge 44, 3) := by decide +kernel
theorem dX10_fits_95 : decode cX10_fits 95 = .ok (.iinc 4 1, 3) := by decide +kernel
theorem dX10_fits_98 : decode cX10_fits 98 = .ok (.goto (-65), 3) := by decide +kernel
theorem dX10_fits_54 : decode cX10_fits 54 = .ok (.aload_n 0, 1) := by decide +kernel
theorem dX10_fits_55 : decode cX10_fits 55 = .ok (.iload 4, 2) := by decide +kernel
theorem dX10_fits_57 : decode cX10_fits 57 = .ok (.iload 5, 2) := by decide +kernel
theorem dX10_isFit_0 : decode cX10_isFit 0 = .ok (.iconst 1, 1) := by decide +kernel
theorem dX10_isFit_1 : decode cX10_isFit 1 = .ok (.istore_n 3, 1) := by decide +kernel
theorem dX10_isFit_2 : decode cX10_isFit 2 = .ok (.iconst 0, 1) := by decide +kernel
theorem dX10_isFit_3 : decode cX10_isFit 3 = .ok (.istore 4, 2) := by decide +kernel
theorem dX10_isFit_5 : decode cX10_isFit 5 = .ok (.iload 4, 2) := by decide +kernel
theorem dX10_isFit_7 : decode cX10_isFit 7 = .ok (.aload_n 0, 1) := by decide +kernel
theorem dX10_isFit_8 : decode cX10_isFit 8 = .ok (.getfield 176, 3) := by decide +kernel
theorem dX10_isFit_11 : decode cX10_isFit 11 = .ok (.if_icmp .ge 59, 3) := by decide +kernel
theorem dX10_isFit_70 : decode cX10_isFit 70 = .ok (.iload_n 3, 1) := by decide +kernel
theorem dX10_isFit_71 : decode cX10_isFit 71 = .ok (.ireturn, 1) := by decide +kernel
theorem dX10_isFit_14 : decode cX10_isFit 14 = .ok (.iload_n 3, 1) := by decide +kernel
theorem dX10_isFit_15 : decode cX10_isFit 15 = .ok (.ifCond .eq 47, 3) := by decide +kernel
theorem dX10_isFit_62 : decode cX10_isFit 62 = .ok (.iconst 0, 1) := by decide +kernel
theorem dX10_isFit_63 : decode cX10_isFit 63 = .ok (.istore_n 3, 1) := by decide +kernel
theorem dX10_isFit_64 : decode cX10_isFit 64 = .ok (.iinc 4 1, 3) := by decide +kernel
theorem dX10_isFit_67 : decode cX10_isFit 67 = .ok (.goto (-62), 3) := by decide +kernel
theorem dX10_isFit_18 : decode cX10_isFit 18 = .ok (.aload_n 0, 1) := by decide +kernel
theorem dX10_isFit_19 : decode cX10_isFit 19 = .ok (.aload_n 0, 1) := by decide +kernel
theorem dX10_isFit_20 : decode cX10_isFit 20 = .ok (.getfield 77, 3) := by decide +kernel
theorem dX10_isFit_23 : decode cX10_isFit 23 = .ok (.iconst 3, 1) := by decide +kernel
theorem dX10_isFit_24 : decode cX10_isFit 24 = .ok (.iload 4, 2) := by decide +kernel
theorem dX10_isFit_26 : decode cX10_isFit 26 = .ok (.imul, 1) := by decide +kernel
theorem dX10_isFit_27 : decode cX10_isFit 27 = .ok (.iaload, 1) := by decide +kernel
theorem dX10_isFit_28 : decode cX10_isFit 28 = .ok (.aload_n 0, 1) := by decide +kernel
theorem dX10_isFit_29 : decode cX10_isFit 29 = .ok (.getfield 77, 3) := by decide +kernel
theorem dX10_isFit_32 : decode cX10_isFit 32 = .ok (.iconst 3, 1) := by decide +kernel
theorem dX10_isFit_33 : decode cX10_isFit 33 = .ok (.iload 4, 2) := by decide +kernel
theorem dX10_isFit_35 : decode cX10_isFit 35 = .ok (.imul, 1) := by decide +kernel
theorem dX10_isFit_36 : decode cX10_isFit 36 = .ok (.iconst 1, 1) := by decide +kernel
theorem dX10_isFit_37 : decode cX10_isFit 37 = .ok (.iadd, 1) := by decide +kernel
theorem dX10_isFit_38 : decode cX10_isFit 38 = .ok (.iaload, 1) := by decide +kernel
theorem dX10_isFit_39 : decode cX10_isFit 39 = .ok (.iload_n 1, 1) := by decide +kernel
theorem dX10_isFit_40 : decode cX10_isFit 40 = .ok (.iload_n 2, 1) := by decide +kernel
theorem dX10_knownThen_0 : decode cX10_knownThen 0 = .ok (.aload_n 0, 1) := by decide +kernel
theorem dX10_knownThen_1 : decode cX10_knownThen 1 = .ok (.iload_n 1, 1) := by decide +kernel
theorem dX10_knownThen_2 : decode cX10_knownThen 2 = .ok (.iload_n 2, 1) := by decide +kernel
theorem dX10_knownThen_3 : decode cX10_knownThen 3 = .ok (.invokevirtual 340, 3) := by decide +kernel
theorem dX10_knownThen_6 : decode cX10_knownThen 6 = .ok (.iload_n 1, 1) := by decide +kernel
theorem dX10_knownThen_7 : decode cX10_knownThen 7 = .ok (.iload_n 3, 1) := by decide +kernel
theorem dX10_knownThen_8 : decode cX10_knownThen 8 = .ok (.if_icmp .ne 27, 3) := by decide +kernel
theorem dX10_knownThen_35 : decode cX10_knownThen 35 = .ok (.iconst 0, 1) := by decide +kernel
theorem dX10_knownThen_36 : decode cX10_knownThen 36 = .ok (.iadd, 1) := by decide +kernel
theorem dX10_knownThen_37 : decode cX10_knownThen 37 = .ok (.ireturn, 1) := by decide +kernel
theorem dX10_knownThen_11 : decode cX10_knownThen 11 = .ok (.iload_n 2, 1) := by decide +kernel
theorem dX10_knownThen_12 : decode cX10_knownThen 12 = .ok (.iload 4, 2) := by decide +kernel
theorem dX10_knownThen_14 : decode cX10_knownThen 14 = .ok (.if_icmp .ne 21, 3) := by decide +kernel
theorem dX10_knownThen_17 : decode cX10_knownThen 17 = .ok (.aload_n 0, 1) := by decide +kernel
theorem dX10_knownThen_18 : decode cX10_knownThen 18 = .ok (.iload_n 1, 1) := by decide +kernel
theorem dX10_knownThen_19 : decode cX10_knownThen 19 = .ok (.iload_n 2, 1) := by decide +kernel
theorem dX10_knownThen_20 : decode cX10_knownThen 20 = .ok (.invokevirtual 353, 3) := by decide +kernel
theorem dX10_knownThen_23 : decode cX10_knownThen 23 = .ok (.ifCond .le 12, 3) := by decide +kernel
theorem dX10_knownThen_26 : decode cX10_knownThen 26 = .ok (.aload_n 0, 1) := by decide +kernel
theorem dX10_knownThen_27 : decode cX10_knownThen 27 = .ok (.iload_n 1, 1) := by decide +kernel
theorem dX10_knownThen_28 : decode cX10_knownThen 28 = .ok (.iload_n 2, 1) := by decide +kernel
theorem dX10_knownThen_29 : decode cX10_knownThen 29 = .ok (.invokevirtual 353, 3) := by decide +kernel
theorem dX10_knownThen_32 : decode cX10_knownThen 32 = .ok (.goto 4, 3) := by decide +kernel
theorem dX10_isFit_41 : decode cX10_isFit 41 = .ok (.invokevirtual 426, 3) := by decide +kernel
theorem dX10_isFit_44 : decode cX10_isFit 44 = .ok (.aload_n 0, 1) := by decide +kernel
theorem dX10_isFit_45 : decode cX10_isFit 45 = .ok (.getfield 77, 3) := by decide +kernel
theorem dX10_isFit_48 : decode cX10_isFit 48 = .ok (.iconst 3, 1) := by decide +kernel
theorem dX10_isFit_49 : decode cX10_isFit 49 = .ok (.iload 4, 2) := by decide +kernel
theorem dX10_isFit_51 : decode cX10_isFit 51 = .ok (.imul, 1) := by decide +kernel
theorem dX10_isFit_52 : decode cX10_isFit 52 = .ok (.iconst 2, 1) := by decide +kernel
theorem dX10_isFit_53 : decode cX10_isFit 53 = .ok (.iadd, 1) := by decide +kernel
theorem dX10_isFit_54 : decode cX10_isFit 54 = .ok (.iaload, 1) := by decide +kernel
theorem dX10_isFit_55 : decode cX10_isFit 55 = .ok (.if_icmp .ne 7, 3) := by decide +kernel
theorem dX10_isFit_58 : decode cX10_isFit 58 = .ok (.iconst 1, 1) := by decide +kernel
theorem dX10_isFit_59 : decode cX10_isFit 59 = .ok (.goto 4, 3) := by decide +kernel
theorem dX10_fits_59 : decode cX10_fits 59 = .ok (.invokevirtual 430, 3) := by decide +kernel
theorem dX10_fits_62 : decode cX10_fits 62 = .ok (.ifCond .ne 6, 3) := by decide +kernel
theorem dX10_fits_68 : decode cX10_fits 68 = .ok (.iinc 2 1, 3) := by decide +kernel
theorem dX10_fits_71 : decode cX10_fits 71 = .ok (.iload_n 3, 1) := by decide +kernel
theorem dX10_fits_72 : decode cX10_fits 72 = .ok (.iconst (-1), 1) := by decide +kernel
theorem dX10_fits_73 : decode cX10_fits 73 = .ok (.if_icmp .ne 14, 3) := by decide +kernel
theorem dX10_fits_87 : decode cX10_fits 87 = .ok (.iload_n 3, 1) := by decide +kernel
theorem dX10_fits_88 : decode cX10_fits 88 = .ok (.istore_n 3, 1) := by decide +kernel
theorem dX10_fits_89 : decode cX10_fits 89 = .ok (.iinc 5 1, 3) := by decide +kernel
theorem dX10_fits_92 : decode cX10_fits 92 = .ok (.goto (-47), 3) := by decide +kernel
theorem dX10_fits_76 : decode cX10_fits 76 = .ok (.bipush 10, 2) := by decide +kernel
theorem dX10_fits_78 : decode cX10_fits 78 = .ok (.iload 4, 2) := by decide +kernel
theorem dX10_fits_80 : decode cX10_fits 80 = .ok (.imul, 1) := by decide +kernel
theorem dX10_fits_81 : decode cX10_fits 81 = .ok (.iload 5, 2) := by decide +kernel
theorem dX10_fits_83 : decode cX10_fits 83 = .ok (.iadd, 1) := by decide +kernel
theorem dX10_fits_84 : decode cX10_fits 84 = .ok (.goto 4, 3) := by decide +kernel
theorem dX10_fits_65 : decode cX10_fits 65 = .ok (.goto 24, 3) := by decide +kernel
theorem dX10_look_0 : decode cX10_look 0 = .ok (.aload_n 0, 1) := by decide +kernel
theorem dX10_look_1 : decode cX10_look 1 = .ok (.iconst 0, 1) := by decide +kernel
theorem dX10_look_2 : decode cX10_look 2 = .ok (.putfield 3, 3) := by decide +kernel
theorem dX10_look_5 : decode cX10_look 5 = .ok (.aload_n 0, 1) := by decide +kernel
theorem dX10_look_6 : decode cX10_look 6 = .ok (.iload_n 1, 1) := by decide +kernel
theorem dX10_look_7 : decode cX10_look 7 = .ok (.iconst 0, 1) := by decide +kernel
theorem dX10_look_8 : decode cX10_look 8 = .ok (.iconst 1, 1) := by decide +kernel
theorem dX10_look_9 : decode cX10_look 9 = .ok (.invokestatic 384, 3) := by decide +kernel
theorem dX10_look_12 : decode cX10_look 12 = .ok (.iconst 1, 1) := by decide +kernel
theorem dX10_look_13 : decode cX10_look 13 = .ok (.iconst 1, 1) := by decide +kernel
theorem dX10_look_14 : decode cX10_look 14 = .ok (.invokevirtual 200, 3) := by decide +kernel
theorem dX10_look_17 : decode cX10_look 17 = .ok (.ifCond .ne 5, 3) := by decide +kernel
theorem dX10_look_22 : decode cX10_look 22 = .ok (.aload_n 0, 1) := by decide +kernel
theorem dX10_look_23 : decode cX10_look 23 = .ok (.invokevirtual 309, 3) := by decide +kernel
theorem dX10_look_26 : decode cX10_look 26 = .ok (.iconst (-1), 1) := by decide +kernel
theorem dX10_look_27 : decode cX10_look 27 = .ok (.istore_n 2, 1) := by decide +kernel
theorem dX10_look_28 : decode cX10_look 28 = .ok (.iconst (-1), 1) := by decide +kernel
theorem dX10_look_29 : decode cX10_look 29 = .ok (.istore_n 3, 1) := by decide +kernel
theorem dX10_look_30 : decode cX10_look 30 = .ok (.iconst 0, 1) := by decide +kernel
theorem dX10_look_31 : decode cX10_look 31 = .ok (.istore 4, 2) := by decide +kernel
theorem dX10_look_20 : decode cX10_look 20 = .ok (.iconst 0, 1) := by decide +kernel
theorem dX10_look_21 : decode cX10_look 21 = .ok (.ireturn, 1) := by decide +kernel
theorem dX10_look_33 : decode cX10_look 33 = .ok (.iload 4, 2) := by decide +kernel
theorem dX10_look_35 : decode cX10_look 35 = .ok (.aload_n 0, 1) := by decide +kernel
theorem dX10_look_36 : decode cX10_look 36 = .ok (.getfield 160, 3) := by decide +kernel
theorem dX10_look_39 : decode cX10_look 39 = .ok (.if_icmp .ge 84, 3) := by decide +kernel
theorem dX10_look_123 : decode cX10_look 123 = .ok (.iload_n 1, 1) := by decide +kernel
theorem dX10_look_124 : decode cX10_look 124 = .ok (.ifCond .ne 7, 3) := by decide +kernel
theorem dX10_look_131 : decode cX10_look 131 = .ok (.iload_n 3, 1) := by decide +kernel
theorem dX10_look_132 : decode cX10_look 132 = .ok (.ireturn, 1) := by decide +kernel
theorem dX10_look_127 : decode cX10_look 127 = .ok (.iload_n 2, 1) := by decide +kernel
theorem dX10_look_128 : decode cX10_look 128 = .ok (.goto 4, 3) := by decide +kernel
theorem dX10_look_42 : decode cX10_look 42 = .ok (.iconst 0, 1) := by decide +kernel
theorem dX10_look_43 : decode cX10_look 43 = .ok (.istore 5, 2) := by decide +kernel
theorem dX10_look_45 : decode cX10_look 45 = .ok (.iload 5, 2) := by decide +kernel
theorem dX10_look_47 : decode cX10_look 47 = .ok (.aload_n 0, 1) := by decide +kernel
theorem dX10_look_48 : decode cX10_look 48 = .ok (.getfield 157, 3) := by decide +kernel
theorem dX10_look_51 : decode cX10_look 51 = .ok (.if_icmp .ge 66, 3) := by decide +kernel
theorem dX10_look_117 : decode cX10_look 117 = .ok (.iinc 4 1, 3) := by decide +kernel
theorem dX10_look_120 : decode cX10_look 120 = .ok (.goto (-87), 3) := by decide +kernel
theorem dX10_look_54 : decode cX10_look 54 = .ok (.aload_n 0, 1) := by decide +kernel
theorem dX10_look_55 : decode cX10_look 55 = .ok (.iload 4, 2) := by decide +kernel
theorem dX10_look_57 : decode cX10_look 57 = .ok (.iload 5, 2) := by decide +kernel
theorem dX10_isWritten_0 : decode cX10_isWritten 0 = .ok (.iconst 0, 1) := by decide +kernel
theorem dX10_isWritten_1 : decode cX10_isWritten 1 = .ok (.istore_n 3, 1) := by decide +kernel
theorem dX10_isWritten_2 : decode cX10_isWritten 2 = .ok (.iload_n 3, 1) := by decide +kernel
theorem dX10_isWritten_3 : decode cX10_isWritten 3 = .ok (.aload_n 0, 1) := by decide +kernel
theorem dX10_isWritten_4 : decode cX10_isWritten 4 = .ok (.getfield 176, 3) := by decide +kernel
theorem dX10_isWritten_7 : decode cX10_isWritten 7 = .ok (.if_icmp .ge 37, 3) := by decide +kernel
theorem dX10_isWritten_44 : decode cX10_isWritten 44 = .ok (.iconst 0, 1) := by decide +kernel
theorem dX10_isWritten_45 : decode cX10_isWritten 45 = .ok (.ireturn, 1) := by decide +kernel
theorem dX10_isWritten_10 : decode cX10_isWritten 10 = .ok (.aload_n 0, 1) := by decide +kernel
theorem dX10_isWritten_11 : decode cX10_isWritten 11 = .ok (.getfield 77, 3) := by decide +kernel
theorem dX10_isWritten_14 : decode cX10_isWritten 14 = .ok (.iconst 3, 1) := by decide +kernel
theorem dX10_isWritten_15 : decode cX10_isWritten 15 = .ok (.iload_n 3, 1) := by decide +kernel
theorem dX10_isWritten_16 : decode cX10_isWritten 16 = .ok (.imul, 1) := by decide +kernel
theorem dX10_isWritten_17 : decode cX10_isWritten 17 = .ok (.iaload, 1) := by decide +kernel
theorem dX10_isWritten_18 : decode cX10_isWritten 18 = .ok (.iload_n 1, 1) := by decide +kernel
theorem dX10_isWritten_19 : decode cX10_isWritten 19 = .ok (.if_icmp .ne 19, 3) := by decide +kernel
theorem dX10_isWritten_38 : decode cX10_isWritten 38 = .ok (.iinc 3 1, 3) := by decide +kernel
theorem dX10_isWritten_41 : decode cX10_isWritten 41 = .ok (.goto (-39), 3) := by decide +kernel
theorem dX10_isWritten_22 : decode cX10_isWritten 22 = .ok (.aload_n 0, 1) := by decide +kernel
theorem dX10_isWritten_23 : decode cX10_isWritten 23 = .ok (.getfield 77, 3) := by decide +kernel
theorem dX10_isWritten_26 : decode cX10_isWritten 26 = .ok (.iconst 3, 1) := by decide +kernel
theorem dX10_isWritten_27 : decode cX10_isWritten 27 = .ok (.iload_n 3, 1) := by decide +kernel
theorem dX10_isWritten_28 : decode cX10_isWritten 28 = .ok (.imul, 1) := by decide +kernel
theorem dX10_isWritten_29 : decode cX10_isWritten 29 = .ok (.iconst 1, 1) := by decide +kernel
theorem dX10_isWritten_30 : decode cX10_isWritten 30 = .ok (.iadd, 1) := by decide +kernel
theorem dX10_isWritten_31 : decode cX10_isWritten 31 = .ok (.iaload, 1) := by decide +kernel
theorem dX10_isWritten_32 : decode cX10_isWritten 32 = .ok (.iload_n 2, 1) := by decide +kernel
theorem dX10_isWritten_33 : decode cX10_isWritten 33 = .ok (.if_icmp .ne 5, 3) := by decide +kernel
theorem dX10_isWritten_36 : decode cX10_isWritten 36 = .ok (.iconst 1, 1) := by decide +kernel
theorem dX10_isWritten_37 : decode cX10_isWritten 37 = .ok (.ireturn, 1) := by decide +kernel
theorem dX10_look_59 : decode cX10_look 59 = .ok (.invokevirtual 433, 3) := by decide +kernel
theorem dX10_look_62 : decode cX10_look 62 = .ok (.ifCond .eq 7, 3) := by decide +kernel
theorem dX10_look_69 : decode cX10_look 69 = .ok (.aload_n 0, 1) := by decide +kernel
theorem dX10_look_70 : decode cX10_look 70 = .ok (.iload 4, 2) := by decide +kernel
theorem dX10_look_72 : decode cX10_look 72 = .ok (.iload 5, 2) := by decide +kernel
theorem dX10_worstOf_0 : decode cX10_worstOf 0 = .ok (.iconst 0, 1) := by decide +kernel
theorem dX10_worstOf_1 : decode cX10_worstOf 1 = .ok (.istore_n 3, 1) := by decide +kernel
theorem dX10_worstOf_2 : decode cX10_worstOf 2 = .ok (.iload_n 3, 1) := by decide +kernel
theorem dX10_worstOf_3 : decode cX10_worstOf 3 = .ok (.bipush 40, 2) := by decide +kernel
theorem dX10_worstOf_5 : decode cX10_worstOf 5 = .ok (.if_icmp .gt 16, 3) := by decide +kernel
theorem dX10_worstOf_21 : decode cX10_worstOf 21 = .ok (.iconst 0, 1) := by decide +kernel
theorem dX10_worstOf_22 : decode cX10_worstOf 22 = .ok (.istore_n 3, 1) := by decide +kernel
theorem dX10_worstOf_23 : decode cX10_worstOf 23 = .ok (.iconst 0, 1) := by decide +kernel
theorem dX10_worstOf_24 : decode cX10_worstOf 24 = .ok (.istore 4, 2) := by decide +kernel
theorem dX10_worstOf_8 : decode cX10_worstOf 8 = .ok (.aload_n 0, 1) := by decide +kernel
theorem dX10_worstOf_9 : decode cX10_worstOf 9 = .ok (.getfield 83, 3) := by decide +kernel
theorem dX10_worstOf_12 : decode cX10_worstOf 12 = .ok (.iload_n 3, 1) := by decide +kernel
theorem dX10_worstOf_13 : decode cX10_worstOf 13 = .ok (.iconst 0, 1) := by decide +kernel
theorem dX10_worstOf_14 : decode cX10_worstOf 14 = .ok (.iastore, 1) := by decide +kernel
theorem dX10_worstOf_15 : decode cX10_worstOf 15 = .ok (.iinc 3 1, 3) := by decide +kernel
theorem dX10_worstOf_18 : decode cX10_worstOf 18 = .ok (.goto (-16), 3) := by decide +kernel
theorem dX10_worstOf_26 : decode cX10_worstOf 26 = .ok (.iload 4, 2) := by decide +kernel
theorem dX10_worstOf_28 : decode cX10_worstOf 28 = .ok (.aload_n 0, 1) := by decide +kernel
theorem dX10_worstOf_29 : decode cX10_worstOf 29 = .ok (.getfield 160, 3) := by decide +kernel
theorem dX10_worstOf_32 : decode cX10_worstOf 32 = .ok (.if_icmp .ge 87, 3) := by decide +kernel
theorem dX10_worstOf_119 : decode cX10_worstOf 119 = .ok (.iload_n 3, 1) := by decide +kernel
theorem dX10_worstOf_120 : decode cX10_worstOf 120 = .ok (.ireturn, 1) := by decide +kernel
theorem dX10_worstOf_35 : decode cX10_worstOf 35 = .ok (.iconst 0, 1) := by decide +kernel
theorem dX10_worstOf_36 : decode cX10_worstOf 36 = .ok (.istore 5, 2) := by decide +kernel
theorem dX10_worstOf_38 : decode cX10_worstOf 38 = .ok (.iload 5, 2) := by decide +kernel
theorem dX10_worstOf_40 : decode cX10_worstOf 40 = .ok (.aload_n 0, 1) := by decide +kernel
theorem dX10_worstOf_41 : decode cX10_worstOf 41 = .ok (.getfield 157, 3) := by decide +kernel
theorem dX10_worstOf_44 : decode cX10_worstOf 44 = .ok (.if_icmp .ge 69, 3) := by decide +kernel
theorem dX10_worstOf_113 : decode cX10_worstOf 113 = .ok (.iinc 4 1, 3) := by decide +kernel
theorem dX10_worstOf_116 : decode cX10_worstOf 116 = .ok (.goto (-90), 3) := by decide +kernel
theorem dX10_worstOf_47 : decode cX10_worstOf 47 = .ok (.aload_n 0, 1) := by decide +kernel
theorem dX10_worstOf_48 : decode cX10_worstOf 48 = .ok (.iload 4, 2) := by decide +kernel
theorem dX10_worstOf_50 : decode cX10_worstOf 50 = .ok (.iload 5, 2) := by decide +kernel
theorem dX10_worstOf_52 : decode cX10_worstOf 52 = .ok (.invokevirtual 430, 3) := by decide +kernel
theorem dX10_worstOf_55 : decode cX10_worstOf 55 = .ok (.ifCond .ne 6, 3) := by decide +kernel
theorem dX10_worstOf_61 : decode cX10_worstOf 61 = .ok (.aload_n 0, 1) := by decide +kernel
theorem dX10_worstOf_62 : decode cX10_worstOf 62 = .ok (.iload_n 1, 1) := by decide +kernel
theorem dX10_worstOf_63 : decode cX10_worstOf 63 = .ok (.iload_n 2, 1) := by decide +kernel
theorem dX10_worstOf_64 : decode cX10_worstOf 64 = .ok (.iload 4, 2) := by decide +kernel
theorem dX10_worstOf_66 : decode cX10_worstOf 66 = .ok (.iload 5, 2) := by decide +kernel
theorem dX10_worstOf_68 : decode cX10_worstOf 68 = .ok (.invokevirtual 426, 3) := by decide +kernel
theorem dX10_worstOf_71 : decode cX10_worstOf 71 = .ok (.istore 6, 2) := by decide +kernel
theorem dX10_worstOf_73 : decode cX10_worstOf 73 = .ok (.aload_n 0, 1) := by decide +kernel
theorem dX10_worstOf_74 : decode cX10_worstOf 74 = .ok (.getfield 83, 3) := by decide +kernel
theorem dX10_worstOf_77 : decode cX10_worstOf 77 = .ok (.iload 6, 2) := by decide +kernel
theorem dX10_worstOf_79 : decode cX10_worstOf 79 = .ok (.dup2, 1) := by decide +kernel
theorem dX10_worstOf_80 : decode cX10_worstOf 80 = .ok (.iaload, 1) := by decide +kernel
theorem dX10_worstOf_81 : decode cX10_worstOf 81 = .ok (.iconst 1, 1) := by decide +kernel
theorem dX10_worstOf_82 : decode cX10_worstOf 82 = .ok (.iadd, 1) := by decide +kernel
theorem dX10_worstOf_83 : decode cX10_worstOf 83 = .ok (.iastore, 1) := by decide +kernel
theorem dX10_worstOf_84 : decode cX10_worstOf 84 = .ok (.aload_n 0, 1) := by decide +kernel
theorem dX10_worstOf_85 : decode cX10_worstOf 85 = .ok (.getfield 83, 3) := by decide +kernel
theorem dX10_worstOf_88 : decode cX10_worstOf 88 = .ok (.iload 6, 2) := by decide +kernel
theorem dX10_worstOf_90 : decode cX10_worstOf 90 = .ok (.iaload, 1) := by decide +kernel
theorem dX10_worstOf_91 : decode cX10_worstOf 91 = .ok (.iload_n 3, 1) := by decide +kernel
theorem dX10_worstOf_92 : decode cX10_worstOf 92 = .ok (.if_icmp .le 13, 3) := by decide +kernel
theorem dX10_worstOf_105 : decode cX10_worstOf 105 = .ok (.iload_n 3, 1) := by decide +kernel
theorem dX10_worstOf_106 : decode cX10_worstOf 106 = .ok (.istore_n 3, 1) := by decide +kernel
theorem dX10_worstOf_107 : decode cX10_worstOf 107 = .ok (.iinc 5 1, 3) := by decide +kernel
theorem dX10_worstOf_110 : decode cX10_worstOf 110 = .ok (.goto (-72), 3) := by decide +kernel
theorem dX10_worstOf_95 : decode cX10_worstOf 95 = .ok (.aload_n 0, 1) := by decide +kernel
theorem dX10_worstOf_96 : decode cX10_worstOf 96 = .ok (.getfield 83, 3) := by decide +kernel
theorem dX10_worstOf_99 : decode cX10_worstOf 99 = .ok (.iload 6, 2) := by decide +kernel
theorem dX10_worstOf_101 : decode cX10_worstOf 101 = .ok (.iaload, 1) := by decide +kernel
theorem dX10_worstOf_102 : decode cX10_worstOf 102 = .ok (.goto 4, 3) := by decide +kernel
theorem dX10_worstOf_58 : decode cX10_worstOf 58 = .ok (.goto 49, 3) := by decide +kernel
theorem dX10_look_74 : decode cX10_look 74 = .ok (.invokevirtual 436, 3) := by decide +kernel
theorem dX10_look_65 : decode cX10_look 65 = .ok (.iconst (-1), 1) := by decide +kernel
theorem dX10_look_66 : decode cX10_look 66 = .ok (.goto 11, 3) := by decide +kernel
theorem dX10_look_77 : decode cX10_look 77 = .ok (.istore 6, 2) := by decide +kernel
theorem dX10_look_79 : decode cX10_look 79 = .ok (.iload 6, 2) := by decide +kernel
theorem dX10_look_81 : decode cX10_look 81 = .ok (.iconst (-1), 1) := by decide +kernel
theorem dX10_look_82 : decode cX10_look 82 = .ok (.if_icmp .eq 29, 3) := by decide +kernel
theorem dX10_look_111 : decode cX10_look 111 = .ok (.iinc 5 1, 3) := by decide +kernel
theorem dX10_look_114 : decode cX10_look 114 = .ok (.goto (-69), 3) := by decide +kernel
theorem dX10_look_85 : decode cX10_look 85 = .ok (.iload_n 2, 1) := by decide +kernel
theorem dX10_look_86 : decode cX10_look 86 = .ok (.iconst (-1), 1) := by decide +kernel
theorem dX10_look_87 : decode cX10_look 87 = .ok (.if_icmp .eq 12, 3) := by decide +kernel
theorem dX10_look_90 : decode cX10_look 90 = .ok (.iload 6, 2) := by decide +kernel
theorem dX10_look_92 : decode cX10_look 92 = .ok (.iload_n 3, 1) := by decide +kernel
theorem dX10_look_93 : decode cX10_look 93 = .ok (.if_icmp .lt 6, 3) := by decide +kernel
theorem dX10_look_96 : decode cX10_look 96 = .ok (.goto 15, 3) := by decide +kernel
theorem dX10_look_99 : decode cX10_look 99 = .ok (.bipush 10, 2) := by decide +kernel
theorem dX10_look_101 : decode cX10_look 101 = .ok (.iload 4, 2) := by decide +kernel
theorem dX10_look_103 : decode cX10_look 103 = .ok (.imul, 1) := by decide +kernel
theorem dX10_look_104 : decode cX10_look 104 = .ok (.iload 5, 2) := by decide +kernel
theorem dX10_look_106 : decode cX10_look 106 = .ok (.iadd, 1) := by decide +kernel
theorem dX10_look_107 : decode cX10_look 107 = .ok (.istore_n 2, 1) := by decide +kernel
theorem dX10_look_108 : decode cX10_look 108 = .ok (.iload 6, 2) := by decide +kernel
theorem dX10_look_110 : decode cX10_look 110 = .ok (.istore_n 3, 1) := by decide +kernel
theorem dX10_kept_0 : decode cX10_kept 0 = .ok (.aload_n 0, 1) := by decide +kernel
theorem dX10_kept_1 : decode cX10_kept 1 = .ok (.iconst 0, 1) := by decide +kernel
theorem dX10_kept_2 : decode cX10_kept 2 = .ok (.putfield 3, 3) := by decide +kernel
theorem dX10_kept_5 : decode cX10_kept 5 = .ok (.aload_n 0, 1) := by decide +kernel
theorem dX10_kept_6 : decode cX10_kept 6 = .ok (.iload_n 1, 1) := by decide +kernel
theorem dX10_kept_7 : decode cX10_kept 7 = .ok (.iconst 0, 1) := by decide +kernel
theorem dX10_kept_8 : decode cX10_kept 8 = .ok (.bipush 12, 2) := by decide +kernel
theorem dX10_kept_10 : decode cX10_kept 10 = .ok (.invokestatic 384, 3) := by decide +kernel
theorem dX10_kept_13 : decode cX10_kept 13 = .ok (.ifCond .eq 37, 3) := by decide +kernel
theorem dX10_kept_16 : decode cX10_kept 16 = .ok (.iload_n 2, 1) := by decide +kernel
theorem dX10_kept_17 : decode cX10_kept 17 = .ok (.iconst 0, 1) := by decide +kernel
theorem dX10_kept_18 : decode cX10_kept 18 = .ok (.bipush 13, 2) := by decide +kernel
theorem dX10_kept_20 : decode cX10_kept 20 = .ok (.invokestatic 384, 3) := by decide +kernel
theorem dX10_kept_23 : decode cX10_kept 23 = .ok (.ifCond .eq 27, 3) := by decide +kernel
theorem dX10_kept_26 : decode cX10_kept 26 = .ok (.iload_n 3, 1) := by decide +kernel
theorem dX10_kept_27 : decode cX10_kept 27 = .ok (.iconst 0, 1) := by decide +kernel
theorem dX10_kept_28 : decode cX10_kept 28 = .ok (.bipush 16, 2) := by decide +kernel
theorem dX10_kept_30 : decode cX10_kept 30 = .ok (.invokestatic 384, 3) := by decide +kernel
theorem dX10_kept_33 : decode cX10_kept 33 = .ok (.ifCond .eq 17, 3) := by decide +kernel
theorem dX10_kept_36 : decode cX10_kept 36 = .ok (.iload 4, 2) := by decide +kernel
theorem dX10_kept_38 : decode cX10_kept 38 = .ok (.iconst 0, 1) := by decide +kernel
theorem dX10_kept_39 : decode cX10_kept 39 = .ok (.iconst 1, 1) := by decide +kernel
theorem dX10_kept_40 : decode cX10_kept 40 = .ok (.invokestatic 384, 3) := by decide +kernel
theorem dX10_kept_43 : decode cX10_kept 43 = .ok (.ifCond .eq 7, 3) := by decide +kernel
theorem dX10_kept_46 : decode cX10_kept 46 = .ok (.iconst 1, 1) := by decide +kernel
theorem dX10_kept_47 : decode cX10_kept 47 = .ok (.goto 4, 3) := by decide +kernel
theorem dX10_kept_50 : decode cX10_kept 50 = .ok (.iconst 0, 1) := by decide +kernel
theorem dX10_kept_51 : decode cX10_kept 51 = .ok (.iconst 1, 1) := by decide +kernel
theorem dX10_kept_52 : decode cX10_kept 52 = .ok (.iconst 1, 1) := by decide +kernel
theorem dX10_kept_53 : decode cX10_kept 53 = .ok (.invokevirtual 200, 3) := by decide +kernel
theorem dX10_kept_56 : decode cX10_kept 56 = .ok (.ifCond .ne 5, 3) := by decide +kernel
theorem dX10_kept_61 : decode cX10_kept 61 = .ok (.iconst 0, 1) := by decide +kernel
theorem dX10_kept_62 : decode cX10_kept 62 = .ok (.istore 5, 2) := by decide +kernel
theorem dX10_kept_59 : decode cX10_kept 59 = .ok (.lconst 0, 1) := by decide +kernel
theorem dX10_kept_60 : decode cX10_kept 60 = .ok (.lreturn, 1) := by decide +kernel
theorem dX10_kept_64 : decode cX10_kept 64 = .ok (.iload 5, 2) := by decide +kernel
theorem dX10_kept_66 : decode cX10_kept 66 = .ok (.bipush 14, 2) := by decide +kernel
theorem dX10_kept_68 : decode cX10_kept 68 = .ok (.if_icmp .ge 26, 3) := by decide +kernel
theorem dX10_kept_94 : decode cX10_kept 94 = .ok (.lconst 1, 1) := by decide +kernel
theorem dX10_kept_95 : decode cX10_kept 95 = .ok (.lstore 5, 2) := by decide +kernel
theorem dX10_kept_97 : decode cX10_kept 97 = .ok (.iconst 0, 1) := by decide +kernel
theorem dX10_kept_98 : decode cX10_kept 98 = .ok (.istore 7, 2) := by decide +kernel
theorem dX10_kept_71 : decode cX10_kept 71 = .ok (.aload_n 0, 1) := by decide +kernel
theorem dX10_kept_72 : decode cX10_kept 72 = .ok (.getfield 86, 3) := by decide +kernel
theorem dX10_kept_75 : decode cX10_kept 75 = .ok (.iload 5, 2) := by decide +kernel
theorem dX10_kept_77 : decode cX10_kept 77 = .ok (.iload 5, 2) := by decide +kernel
theorem dX10_kept_79 : decode cX10_kept 79 = .ok (.ifCond .ne 7, 3) := by decide +kernel
theorem dX10_kept_86 : decode cX10_kept 86 = .ok (.lconst 0, 1) := by decide +kernel
theorem dX10_kept_82 : decode cX10_kept 82 = .ok (.lconst 1, 1) := by decide +kernel
theorem dX10_kept_83 : decode cX10_kept 83 = .ok (.goto 4, 3) := by decide +kernel
theorem dX10_kept_100 : decode cX10_kept 100 = .ok (.iload 7, 2) := by decide +kernel
theorem dX10_kept_102 : decode cX10_kept 102 = .ok (.iload_n 1, 1) := by decide +kernel
theorem dX10_kept_103 : decode cX10_kept 103 = .ok (.if_icmp .ge 74, 3) := by decide +kernel
theorem dX10_kept_177 : decode cX10_kept 177 = .ok (.lconst 0, 1) := by decide +kernel
theorem dX10_kept_178 : decode cX10_kept 178 = .ok (.lstore 7, 2) := by decide +kernel
theorem dX10_kept_180 : decode cX10_kept 180 = .ok (.iload_n 2, 1) := by decide +kernel
theorem dX10_kept_181 : decode cX10_kept 181 = .ok (.istore 9, 2) := by decide +kernel
theorem dX10_kept_106 : decode cX10_kept 106 = .ok (.bipush 13, 2) := by decide +kernel
theorem dX10_kept_108 : decode cX10_kept 108 = .ok (.istore 8, 2) := by decide +kernel
theorem dX10_kept_87 : decode cX10_kept 87 = .ok (.lastore, 1) := by decide +kernel
theorem dX10_kept_88 : decode cX10_kept 88 = .ok (.iinc 5 1, 3) := by decide +kernel
theorem dX10_kept_91 : decode cX10_kept 91 = .ok (.goto (-27), 3) := by decide +kernel
theorem dX10_kept_183 : decode cX10_kept 183 = .ok (.iload 9, 2) := by decide +kernel
theorem dX10_kept_185 : decode cX10_kept 185 = .ok (.bipush 14, 2) := by decide +kernel
theorem dX10_kept_187 : decode cX10_kept 187 = .ok (.if_icmp .ge 21, 3) := by decide +kernel
theorem dX10_kept_208 : decode cX10_kept 208 = .ok (.lload 7, 2) := by decide +kernel
theorem dX10_kept_210 : decode cX10_kept 210 = .ok (.lload 5, 2) := by decide +kernel
theorem dX10_kept_212 : decode cX10_kept 212 = .ok (.iload 4, 2) := by decide +kernel
theorem dX10_least_0 : decode cX10_least 0 = .ok (.lload_n 0, 1) := by decide +kernel
theorem dX10_least_1 : decode cX10_least 1 = .ok (.lstore 5, 2) := by decide +kernel
theorem dX10_least_3 : decode cX10_least 3 = .ok (.lload_n 2, 1) := by decide +kernel
theorem dX10_least_4 : decode cX10_least 4 = .ok (.lstore 7, 2) := by decide +kernel
theorem dX10_least_6 : decode cX10_least 6 = .ok (.lload 7, 2) := by decide +kernel
theorem dX10_least_8 : decode cX10_least 8 = .ok (.lconst 0, 1) := by decide +kernel
theorem dX10_least_9 : decode cX10_least 9 = .ok (.lcmp, 1) := by decide +kernel
theorem dX10_least_10 : decode cX10_least 10 = .ok (.ifCond .eq 21, 3) := by decide +kernel
theorem dX10_least_31 : decode cX10_least 31 = .ok (.iload 4, 2) := by decide +kernel
theorem dX10_least_33 : decode cX10_least 33 = .ok (.ifCond .ne 7, 3) := by decide +kernel
theorem dX10_least_40 : decode cX10_least 40 = .ok (.lload_n 2, 1) := by decide +kernel
theorem dX10_least_41 : decode cX10_least 41 = .ok (.lload 5, 2) := by decide +kernel
theorem dX10_least_43 : decode cX10_least 43 = .ok (.ldiv, 1) := by decide +kernel
theorem dX10_least_44 : decode cX10_least 44 = .ok (.lreturn, 1) := by decide +kernel
theorem dX10_least_36 : decode cX10_least 36 = .ok (.lload_n 0, 1) := by decide +kernel
theorem dX10_least_37 : decode cX10_least 37 = .ok (.goto 4, 3) := by decide +kernel
theorem dX10_least_13 : decode cX10_least 13 = .ok (.lload 5, 2) := by decide +kernel
theorem dX10_least_15 : decode cX10_least 15 = .ok (.lload 7, 2) := by decide +kernel
theorem dX10_least_17 : decode cX10_least 17 = .ok (.lrem, 1) := by decide +kernel
theorem dX10_least_18 : decode cX10_least 18 = .ok (.lstore 9, 2) := by decide +kernel
theorem dX10_least_20 : decode cX10_least 20 = .ok (.lload 7, 2) := by decide +kernel
theorem dX10_least_22 : decode cX10_least 22 = .ok (.lstore 5, 2) := by decide +kernel
theorem dX10_least_24 : decode cX10_least 24 = .ok (.lload 9, 2) := by decide +kernel
theorem dX10_least_26 : decode cX10_least 26 = .ok (.lstore 7, 2) := by decide +kernel
theorem dX10_least_28 : decode cX10_least 28 = .ok (.goto (-22), 3) := by decide +kernel
theorem dX10_kept_214 : decode cX10_kept 214 = .ok (.invokestatic 441, 3) := by decide +kernel
theorem dX10_kept_217 : decode cX10_kept 217 = .ok (.lreturn, 1) := by decide +kernel
theorem dX10_kept_190 : decode cX10_kept 190 = .ok (.lload 7, 2) := by decide +kernel
theorem dX10_kept_192 : decode cX10_kept 192 = .ok (.aload_n 0, 1) := by decide +kernel
theorem dX10_kept_193 : decode cX10_kept 193 = .ok (.getfield 86, 3) := by decide +kernel
theorem dX10_kept_196 : decode cX10_kept 196 = .ok (.iload 9, 2) := by decide +kernel
theorem dX10_kept_198 : decode cX10_kept 198 = .ok (.laload, 1) := by decide +kernel
theorem dX10_kept_199 : decode cX10_kept 199 = .ok (.ladd, 1) := by decide +kernel
theorem dX10_kept_200 : decode cX10_kept 200 = .ok (.lstore 7, 2) := by decide +kernel
theorem dX10_kept_202 : decode cX10_kept 202 = .ok (.iinc 9 1, 3) := by decide +kernel
theorem dX10_kept_205 : decode cX10_kept 205 = .ok (.goto (-22), 3) := by decide +kernel
theorem dX10_kept_110 : decode cX10_kept 110 = .ok (.iload 8, 2) := by decide +kernel
theorem dX10_kept_112 : decode cX10_kept 112 = .ok (.ifCond .lt 51, 3) := by decide +kernel
theorem dX10_kept_163 : decode cX10_kept 163 = .ok (.lload 5, 2) := by decide +kernel
theorem dX10_kept_165 : decode cX10_kept 165 = .ok (.ldc2_w 439, 3) := by decide +kernel
theorem dX10_kept_168 : decode cX10_kept 168 = .ok (.lmul, 1) := by decide +kernel
theorem dX10_kept_169 : decode cX10_kept 169 = .ok (.lstore 5, 2) := by decide +kernel
theorem dX10_kept_171 : decode cX10_kept 171 = .ok (.iinc 7 1, 3) := by decide +kernel
theorem dX10_kept_174 : decode cX10_kept 174 = .ok (.goto (-74), 3) := by decide +kernel
theorem dX10_kept_115 : decode cX10_kept 115 = .ok (.aload_n 0, 1) := by decide +kernel
theorem dX10_kept_116 : decode cX10_kept 116 = .ok (.getfield 86, 3) := by decide +kernel
theorem dX10_kept_119 : decode cX10_kept 119 = .ok (.iload 8, 2) := by decide +kernel
theorem dX10_kept_121 : decode cX10_kept 121 = .ok (.aload_n 0, 1) := by decide +kernel
theorem dX10_kept_122 : decode cX10_kept 122 = .ok (.getfield 86, 3) := by decide +kernel
theorem dX10_kept_125 : decode cX10_kept 125 = .ok (.iload 8, 2) := by decide +kernel
theorem dX10_kept_127 : decode cX10_kept 127 = .ok (.laload, 1) := by decide +kernel
theorem dX10_kept_128 : decode cX10_kept 128 = .ok (.iload_n 3, 1) := by decide +kernel
theorem dX10_kept_129 : decode cX10_kept 129 = .ok (.i2l, 1) := by decide +kernel
theorem dX10_kept_130 : decode cX10_kept 130 = .ok (.lmul, 1) := by decide +kernel
theorem dX10_kept_131 : decode cX10_kept 131 = .ok (.iload 8, 2) := by decide +kernel
theorem dX10_kept_133 : decode cX10_kept 133 = .ok (.ifCond .le 21, 3) := by decide +kernel
theorem dX10_kept_154 : decode cX10_kept 154 = .ok (.lconst 0, 1) := by decide +kernel
theorem dX10_kept_136 : decode cX10_kept 136 = .ok (.aload_n 0, 1) := by decide +kernel
theorem dX10_kept_137 : decode cX10_kept 137 = .ok (.getfield 86, 3) := by decide +kernel
theorem dX10_kept_140 : decode cX10_kept 140 = .ok (.iload 8, 2) := by decide +kernel
theorem dX10_kept_142 : decode cX10_kept 142 = .ok (.iconst 1, 1) := by decide +kernel
theorem dX10_kept_143 : decode cX10_kept 143 = .ok (.isub, 1) := by decide +kernel
theorem dX10_kept_144 : decode cX10_kept 144 = .ok (.laload, 1) := by decide +kernel
theorem dX10_kept_145 : decode cX10_kept 145 = .ok (.bipush 16, 2) := by decide +kernel
theorem dX10_kept_147 : decode cX10_kept 147 = .ok (.iload_n 3, 1) := by decide +kernel
theorem dX10_kept_148 : decode cX10_kept 148 = .ok (.isub, 1) := by decide +kernel
theorem dX10_kept_149 : decode cX10_kept 149 = .ok (.i2l, 1) := by decide +kernel
theorem dX10_kept_150 : decode cX10_kept 150 = .ok (.lmul, 1) := by decide +kernel
theorem dX10_kept_151 : decode cX10_kept 151 = .ok (.goto 4, 3) := by decide +kernel
theorem dX10_kept_155 : decode cX10_kept 155 = .ok (.ladd, 1) := by decide +kernel
theorem dX10_kept_156 : decode cX10_kept 156 = .ok (.lastore, 1) := by decide +kernel
theorem dX10_kept_157 : decode cX10_kept 157 = .ok (.iinc 8 (-1), 3) := by decide +kernel
theorem dX10_kept_160 : decode cX10_kept 160 = .ok (.goto (-50), 3) := by decide +kernel
theorem dX10_fair_0 : decode cX10_fair 0 = .ok (.aload_n 0, 1) := by decide +kernel
theorem dX10_fair_1 : decode cX10_fair 1 = .ok (.iconst 0, 1) := by decide +kernel
theorem dX10_fair_2 : decode cX10_fair 2 = .ok (.putfield 3, 3) := by decide +kernel
theorem dX10_fair_5 : decode cX10_fair 5 = .ok (.aload_n 0, 1) := by decide +kernel
theorem dX10_fair_6 : decode cX10_fair 6 = .ok (.iload_n 1, 1) := by decide +kernel
theorem dX10_fair_7 : decode cX10_fair 7 = .ok (.iconst 0, 1) := by decide +kernel
theorem dX10_fair_8 : decode cX10_fair 8 = .ok (.bipush 99, 2) := by decide +kernel
theorem dX10_fair_10 : decode cX10_fair 10 = .ok (.invokestatic 384, 3) := by decide +kernel
theorem dX10_fair_13 : decode cX10_fair 13 = .ok (.ifCond .eq 26, 3) := by decide +kernel
theorem dX10_fair_16 : decode cX10_fair 16 = .ok (.iload_n 2, 1) := by decide +kernel
theorem dX10_fair_17 : decode cX10_fair 17 = .ok (.iconst 0, 1) := by decide +kernel
theorem dX10_fair_18 : decode cX10_fair 18 = .ok (.bipush 99, 2) := by decide +kernel
theorem dX10_fair_20 : decode cX10_fair 20 = .ok (.invokestatic 384, 3) := by decide +kernel
theorem dX10_fair_23 : decode cX10_fair 23 = .ok (.ifCond .eq 16, 3) := by decide +kernel
theorem dX10_fair_26 : decode cX10_fair 26 = .ok (.iload_n 3, 1) := by decide +kernel
theorem dX10_fair_27 : decode cX10_fair 27 = .ok (.iconst 0, 1) := by decide +kernel
theorem dX10_fair_28 : decode cX10_fair 28 = .ok (.iconst 2, 1) := by decide +kernel
theorem dX10_fair_29 : decode cX10_fair 29 = .ok (.invokestatic 384, 3) := by decide +kernel
theorem dX10_fair_32 : decode cX10_fair 32 = .ok (.ifCond .eq 7, 3) := by decide +kernel
theorem dX10_fair_35 : decode cX10_fair 35 = .ok (.iconst 1, 1) := by decide +kernel
theorem dX10_fair_36 : decode cX10_fair 36 = .ok (.goto 4, 3) := by decide +kernel
theorem dX10_fair_39 : decode cX10_fair 39 = .ok (.iconst 0, 1) := by decide +kernel
theorem dX10_fair_40 : decode cX10_fair 40 = .ok (.iconst 1, 1) := by decide +kernel
theorem dX10_fair_41 : decode cX10_fair 41 = .ok (.iconst 1, 1) := by decide +kernel
theorem dX10_fair_42 : decode cX10_fair 42 = .ok (.invokevirtual 200, 3) := by decide +kernel
theorem dX10_fair_45 : decode cX10_fair 45 = .ok (.ifCond .ne 5, 3) := by decide +kernel
theorem dX10_fair_50 : decode cX10_fair 50 = .ok (.iconst 0, 1) := by decide +kernel
theorem dX10_fair_51 : decode cX10_fair 51 = .ok (.istore 4, 2) := by decide +kernel
theorem dX10_fair_53 : decode cX10_fair 53 = .ok (.iconst (-1), 1) := by decide +kernel
theorem dX10_fair_54 : decode cX10_fair 54 = .ok (.istore 5, 2) := by decide +kernel
theorem dX10_fair_56 : decode cX10_fair 56 = .ok (.iconst 0, 1) := by decide +kernel
theorem dX10_fair_57 : decode cX10_fair 57 = .ok (.istore 6, 2) := by decide +kernel
theorem dX10_fair_48 : decode cX10_fair 48 = .ok (.iconst 0, 1) := by decide +kernel
theorem dX10_fair_49 : decode cX10_fair 49 = .ok (.ireturn, 1) := by decide +kernel
theorem dX10_fair_59 : decode cX10_fair 59 = .ok (.iload 6, 2) := by decide +kernel
theorem dX10_fair_61 : decode cX10_fair 61 = .ok (.iconst 4, 1) := by decide +kernel
theorem dX10_fair_62 : decode cX10_fair 62 = .ok (.if_icmp .ge 94, 3) := by decide +kernel
theorem dX10_fair_156 : decode cX10_fair 156 = .ok (.iload_n 3, 1) := by decide +kernel
theorem dX10_fair_157 : decode cX10_fair 157 = .ok (.ifCond .ne 8, 3) := by decide +kernel
theorem dX10_fair_165 : decode cX10_fair 165 = .ok (.iload_n 3, 1) := by decide +kernel
theorem dX10_fair_166 : decode cX10_fair 166 = .ok (.iconst 1, 1) := by decide +kernel
theorem dX10_fair_167 : decode cX10_fair 167 = .ok (.if_icmp .ne 8, 3) := by decide +kernel
theorem dX10_fair_175 : decode cX10_fair 175 = .ok (.iload 5, 2) := by decide +kernel
theorem dX10_fair_177 : decode cX10_fair 177 = .ok (.iconst (-1), 1) := by decide +kernel
theorem dX10_fair_178 : decode cX10_fair 178 = .ok (.if_icmp .ne 7, 3) := by decide +kernel
theorem dX10_fair_185 : decode cX10_fair 185 = .ok (.iload 5, 2) := by decide +kernel
theorem dX10_fair_187 : decode cX10_fair 187 = .ok (.bipush 10, 2) := by decide +kernel
theorem dX10_fair_189 : decode cX10_fair 189 = .ok (.idiv, 1) := by decide +kernel
theorem dX10_fair_190 : decode cX10_fair 190 = .ok (.iload 5, 2) := by decide +kernel
theorem dX10_fair_192 : decode cX10_fair 192 = .ok (.bipush 10, 2) := by decide +kernel
theorem dX10_fair_194 : decode cX10_fair 194 = .ok (.irem, 1) := by decide +kernel
theorem dX10_fair_195 : decode cX10_fair 195 = .ok (.iload_n 1, 1) := by decide +kernel
theorem dX10_fair_196 : decode cX10_fair 196 = .ok (.iload_n 2, 1) := by decide +kernel
theorem dX10_hasBy_0 : decode cX10_hasBy 0 = .ok (.iload_n 0, 1) := by decide +kernel
theorem dX10_hasBy_1 : decode cX10_hasBy 1 = .ok (.iload_n 1, 1) := by decide +kernel
theorem dX10_hasBy_2 : decode cX10_hasBy 2 = .ok (.if_icmp .ne 15, 3) := by decide +kernel
theorem dX10_hasBy_17 : decode cX10_hasBy 17 = .ok (.iload_n 0, 1) := by decide +kernel
theorem dX10_hasBy_18 : decode cX10_hasBy 18 = .ok (.ifCond .ne 7, 3) := by decide +kernel
theorem dX10_hasBy_25 : decode cX10_hasBy 25 = .ok (.iload_n 3, 1) := by decide +kernel
theorem dX10_hasBy_26 : decode cX10_hasBy 26 = .ok (.ireturn, 1) := by decide +kernel
theorem dX10_hasBy_21 : decode cX10_hasBy 21 = .ok (.iconst 0, 1) := by decide +kernel
theorem dX10_hasBy_22 : decode cX10_hasBy 22 = .ok (.goto 4, 3) := by decide +kernel
theorem dX10_hasBy_5 : decode cX10_hasBy 5 = .ok (.iload_n 0, 1) := by decide +kernel
theorem dX10_hasBy_6 : decode cX10_hasBy 6 = .ok (.ifCond .ne 7, 3) := by decide +kernel
theorem dX10_hasBy_13 : decode cX10_hasBy 13 = .ok (.iconst 0, 1) := by decide +kernel
theorem dX10_hasBy_14 : decode cX10_hasBy 14 = .ok (.goto 12, 3) := by decide +kernel
theorem dX10_hasBy_9 : decode cX10_hasBy 9 = .ok (.iload_n 2, 1) := by decide +kernel
theorem dX10_hasBy_10 : decode cX10_hasBy 10 = .ok (.goto 16, 3) := by decide +kernel
theorem dX10_fair_197 : decode cX10_fair 197 = .ok (.invokestatic 444, 3) := by decide +kernel
theorem dX10_fair_200 : decode cX10_fair 200 = .ok (.iload 5, 2) := by decide +kernel
theorem dX10_fair_202 : decode cX10_fair 202 = .ok (.bipush 10, 2) := by decide +kernel
theorem dX10_fair_204 : decode cX10_fair 204 = .ok (.irem, 1) := by decide +kernel
theorem dX10_fair_205 : decode cX10_fair 205 = .ok (.iload 5, 2) := by decide +kernel
theorem dX10_fair_207 : decode cX10_fair 207 = .ok (.bipush 10, 2) := by decide +kernel
theorem dX10_fair_209 : decode cX10_fair 209 = .ok (.idiv, 1) := by decide +kernel
theorem dX10_fair_210 : decode cX10_fair 210 = .ok (.iload_n 1, 1) := by decide +kernel
theorem dX10_fair_211 : decode cX10_fair 211 = .ok (.iload_n 2, 1) := by decide +kernel
theorem dX10_fair_212 : decode cX10_fair 212 = .ok (.invokestatic 444, 3) := by decide +kernel
theorem dX10_fair_215 : decode cX10_fair 215 = .ok (.iadd, 1) := by decide +kernel
theorem dX10_fair_216 : decode cX10_fair 216 = .ok (.ireturn, 1) := by decide +kernel
theorem dX10_fair_181 : decode cX10_fair 181 = .ok (.iconst 0, 1) := by decide +kernel
theorem dX10_fair_182 : decode cX10_fair 182 = .ok (.goto 34, 3) := by decide +kernel
theorem dX10_fair_170 : decode cX10_fair 170 = .ok (.iload 5, 2) := by decide +kernel
theorem dX10_fair_172 : decode cX10_fair 172 = .ok (.goto 44, 3) := by decide +kernel
theorem dX10_fair_160 : decode cX10_fair 160 = .ok (.iload 4, 2) := by decide +kernel
theorem dX10_fair_162 : decode cX10_fair 162 = .ok (.goto 54, 3) := by decide +kernel
theorem dX10_fair_65 : decode cX10_fair 65 = .ok (.iload 6, 2) := by decide +kernel
theorem dX10_fair_67 : decode cX10_fair 67 = .ok (.iconst 2, 1) := by decide +kernel
theorem dX10_fair_68 : decode cX10_fair 68 = .ok (.idiv, 1) := by decide +kernel
theorem dX10_fair_69 : decode cX10_fair 69 = .ok (.istore 7, 2) := by decide +kernel
theorem dX10_fair_71 : decode cX10_fair 71 = .ok (.iload 6, 2) := by decide +kernel
theorem dX10_fair_73 : decode cX10_fair 73 = .ok (.iconst 2, 1) := by decide +kernel
theorem dX10_fair_74 : decode cX10_fair 74 = .ok (.irem, 1) := by decide +kernel
theorem dX10_fair_75 : decode cX10_fair 75 = .ok (.istore 8, 2) := by decide +kernel
theorem dX10_fair_77 : decode cX10_fair 77 = .ok (.iconst 1, 1) := by decide +kernel
theorem dX10_fair_78 : decode cX10_fair 78 = .ok (.iload 7, 2) := by decide +kernel
theorem dX10_fair_80 : decode cX10_fair 80 = .ok (.isub, 1) := by decide +kernel
theorem dX10_fair_81 : decode cX10_fair 81 = .ok (.iload 8, 2) := by decide +kernel
theorem dX10_fair_83 : decode cX10_fair 83 = .ok (.iload_n 1, 1) := by decide +kernel
theorem dX10_fair_84 : decode cX10_fair 84 = .ok (.iload_n 2, 1) := by decide +kernel
theorem dX10_fair_85 : decode cX10_fair 85 = .ok (.invokestatic 444, 3) := by decide +kernel
theorem dX10_fair_88 : decode cX10_fair 88 = .ok (.iload 7, 2) := by decide +kernel
theorem dX10_fair_90 : decode cX10_fair 90 = .ok (.iload 8, 2) := by decide +kernel
theorem dX10_fair_92 : decode cX10_fair 92 = .ok (.iload_n 1, 1) := by decide +kernel
theorem dX10_fair_93 : decode cX10_fair 93 = .ok (.iload_n 2, 1) := by decide +kernel
theorem dX10_fair_94 : decode cX10_fair 94 = .ok (.invokestatic 444, 3) := by decide +kernel
theorem dX10_fair_97 : decode cX10_fair 97 = .ok (.if_icmp .gt 53, 3) := by decide +kernel
theorem dX10_fair_150 : decode cX10_fair 150 = .ok (.iinc 6 1, 3) := by decide +kernel
theorem dX10_fair_153 : decode cX10_fair 153 = .ok (.goto (-94), 3) := by decide +kernel
theorem dX10_fair_100 : decode cX10_fair 100 = .ok (.iconst 1, 1) := by decide +kernel
theorem dX10_fair_101 : decode cX10_fair 101 = .ok (.iload 8, 2) := by decide +kernel
theorem dX10_fair_103 : decode cX10_fair 103 = .ok (.isub, 1) := by decide +kernel
theorem dX10_fair_104 : decode cX10_fair 104 = .ok (.iload 7, 2) := by decide +kernel
theorem dX10_fair_106 : decode cX10_fair 106 = .ok (.iload_n 1, 1) := by decide +kernel
theorem dX10_fair_107 : decode cX10_fair 107 = .ok (.iload_n 2, 1) := by decide +kernel
theorem dX10_fair_108 : decode cX10_fair 108 = .ok (.invokestatic 444, 3) := by decide +kernel
theorem dX10_fair_111 : decode cX10_fair 111 = .ok (.iload 8, 2) := by decide +kernel
theorem dX10_fair_113 : decode cX10_fair 113 = .ok (.iload 7, 2) := by decide +kernel
theorem dX10_fair_115 : decode cX10_fair 115 = .ok (.iload_n 1, 1) := by decide +kernel
theorem dX10_fair_116 : decode cX10_fair 116 = .ok (.iload_n 2, 1) := by decide +kernel
theorem dX10_fair_117 : decode cX10_fair 117 = .ok (.invokestatic 444, 3) := by decide +kernel
theorem dX10_fair_120 : decode cX10_fair 120 = .ok (.if_icmp .le 6, 3) := by decide +kernel
theorem dX10_fair_126 : decode cX10_fair 126 = .ok (.iinc 4 1, 3) := by decide +kernel
theorem dX10_fair_129 : decode cX10_fair 129 = .ok (.iload 5, 2) := by decide +kernel
theorem dX10_fair_131 : decode cX10_fair 131 = .ok (.iconst (-1), 1) := by decide +kernel
theorem dX10_fair_132 : decode cX10_fair 132 = .ok (.if_icmp .ne 14, 3) := by decide +kernel
theorem dX10_fair_146 : decode cX10_fair 146 = .ok (.iload 5, 2) := by decide +kernel
theorem dX10_fair_148 : decode cX10_fair 148 = .ok (.istore 5, 2) := by decide +kernel
theorem dX10_fair_135 : decode cX10_fair 135 = .ok (.bipush 10, 2) := by decide +kernel
theorem dX10_fair_137 : decode cX10_fair 137 = .ok (.iload 7, 2) := by decide +kernel
theorem dX10_fair_139 : decode cX10_fair 139 = .ok (.imul, 1) := by decide +kernel
theorem dX10_fair_140 : decode cX10_fair 140 = .ok (.iload 8, 2) := by decide +kernel
theorem dX10_fair_142 : decode cX10_fair 142 = .ok (.iadd, 1) := by decide +kernel
theorem dX10_fair_143 : decode cX10_fair 143 = .ok (.goto 5, 3) := by decide +kernel
theorem dX10_fair_123 : decode cX10_fair 123 = .ok (.goto 27, 3) := by decide +kernel
theorem dX10_candles_0 : decode cX10_candles 0 = .ok (.aload_n 0, 1) := by decide +kernel
theorem dX10_candles_1 : decode cX10_candles 1 = .ok (.iconst 0, 1) := by decide +kernel
theorem dX10_candles_2 : decode cX10_candles 2 = .ok (.putfield 3, 3) := by decide +kernel
theorem dX10_candles_5 : decode cX10_candles 5 = .ok (.aload_n 0, 1) := by decide +kernel
theorem dX10_candles_6 : decode cX10_candles 6 = .ok (.iload_n 1, 1) := by decide +kernel
theorem dX10_candles_7 : decode cX10_candles 7 = .ok (.iconst 1, 1) := by decide +kernel
theorem dX10_candles_8 : decode cX10_candles 8 = .ok (.invokevirtual 402, 3) := by decide +kernel
theorem dX10_candles_11 : decode cX10_candles 11 = .ok (.ifCond .eq 42, 3) := by decide +kernel
theorem dX10_candles_53 : decode cX10_candles 53 = .ok (.iconst 0, 1) := by decide +kernel
theorem dX10_candles_54 : decode cX10_candles 54 = .ok (.ireturn, 1) := by decide +kernel
theorem dX10_candles_14 : decode cX10_candles 14 = .ok (.aload_n 0, 1) := by decide +kernel
theorem dX10_candles_15 : decode cX10_candles 15 = .ok (.iload_n 2, 1) := by decide +kernel
theorem dX10_candles_16 : decode cX10_candles 16 = .ok (.ifCond .lt 28, 3) := by decide +kernel
theorem dX10_candles_19 : decode cX10_candles 19 = .ok (.iload_n 2, 1) := by decide +kernel
theorem dX10_candles_20 : decode cX10_candles 20 = .ok (.iconst 1, 1) := by decide +kernel
theorem dX10_candles_21 : decode cX10_candles 21 = .ok (.aload_n 0, 1) := by decide +kernel
theorem dX10_candles_22 : decode cX10_candles 22 = .ok (.getfield 160, 3) := by decide +kernel
theorem dX10_candles_25 : decode cX10_candles 25 = .ok (.ishl, 1) := by decide +kernel
theorem dX10_candles_26 : decode cX10_candles 26 = .ok (.if_icmp .ge 18, 3) := by decide +kernel
theorem dX10_candles_29 : decode cX10_candles 29 = .ok (.iload_n 3, 1) := by decide +kernel
theorem dX10_candles_30 : decode cX10_candles 30 = .ok (.iconst 0, 1) := by decide +kernel
theorem dX10_candles_31 : decode cX10_candles 31 = .ok (.sipush 999, 3) := by decide +kernel
theorem dX10_candles_34 : decode cX10_candles 34 = .ok (.invokestatic 384, 3) := by decide +kernel
theorem dX10_candles_37 : decode cX10_candles 37 = .ok (.ifCond .eq 7, 3) := by decide +kernel
theorem dX10_candles_40 : decode cX10_candles 40 = .ok (.iconst 1, 1) := by decide +kernel
theorem dX10_candles_41 : decode cX10_candles 41 = .ok (.goto 4, 3) := by decide +kernel
theorem dX10_candles_44 : decode cX10_candles 44 = .ok (.iconst 0, 1) := by decide +kernel
theorem dX10_candles_45 : decode cX10_candles 45 = .ok (.iconst 2, 1) := by decide +kernel
theorem dX10_candles_46 : decode cX10_candles 46 = .ok (.iconst 1, 1) := by decide +kernel
theorem dX10_candles_47 : decode cX10_candles 47 = .ok (.invokevirtual 200, 3) := by decide +kernel
theorem dX10_candles_50 : decode cX10_candles 50 = .ok (.ifCond .ne 5, 3) := by decide +kernel
theorem dX10_candles_55 : decode cX10_candles 55 = .ok (.aload_n 0, 1) := by decide +kernel
theorem dX10_candles_56 : decode cX10_candles 56 = .ok (.invokevirtual 309, 3) := by decide +kernel
theorem dX10_candles_59 : decode cX10_candles 59 = .ok (.bipush 99, 2) := by decide +kernel
theorem dX10_candles_61 : decode cX10_candles 61 = .ok (.istore 4, 2) := by decide +kernel
theorem dX10_candles_63 : decode cX10_candles 63 = .ok (.aload_n 0, 1) := by decide +kernel
theorem dX10_candles_64 : decode cX10_candles 64 = .ok (.iload_n 2, 1) := by decide +kernel
theorem dX10_candles_65 : decode cX10_candles 65 = .ok (.iload 4, 2) := by decide +kernel
theorem dX10_candlesBy_0 : decode cX10_candlesBy 0 = .ok (.iconst 0, 1) := by decide +kernel
theorem dX10_candlesBy_1 : decode cX10_candlesBy 1 = .ok (.istore_n 3, 1) := by decide +kernel
theorem dX10_candlesBy_2 : decode cX10_candlesBy 2 = .ok (.iconst 0, 1) := by decide +kernel
theorem dX10_candlesBy_3 : decode cX10_candlesBy 3 = .ok (.istore 4, 2) := by decide +kernel
theorem dX10_candlesBy_5 : decode cX10_candlesBy 5 = .ok (.iload 4, 2) := by decide +kernel
theorem dX10_candlesBy_7 : decode cX10_candlesBy 7 = .ok (.aload_n 0, 1) := by decide +kernel
theorem dX10_candlesBy_8 : decode cX10_candlesBy 8 = .ok (.getfield 160, 3) := by decide +kernel
theorem dX10_candlesBy_11 : decode cX10_candlesBy 11 = .ok (.if_icmp .ge 26, 3) := by decide +kernel
theorem dX10_candlesBy_37 : decode cX10_candlesBy 37 = .ok (.iload_n 3, 1) := by decide +kernel
theorem dX10_candlesBy_38 : decode cX10_candlesBy 38 = .ok (.ireturn, 1) := by decide +kernel
theorem dX10_candlesBy_14 : decode cX10_candlesBy 14 = .ok (.iload_n 3, 1) := by decide +kernel
theorem dX10_candlesBy_15 : decode cX10_candlesBy 15 = .ok (.iload_n 1, 1) := by decide +kernel
theorem dX10_candlesBy_16 : decode cX10_candlesBy 16 = .ok (.iload 4, 2) := by decide +kernel
theorem dX10_candlesBy_18 : decode cX10_candlesBy 18 = .ok (.ishr, 1) := by decide +kernel
theorem dX10_candlesBy_19 : decode cX10_candlesBy 19 = .ok (.iconst 1, 1) := by decide +kernel
theorem dX10_candlesBy_20 : decode cX10_candlesBy 20 = .ok (.iand, 1) := by decide +kernel
theorem dX10_candlesBy_21 : decode cX10_candlesBy 21 = .ok (.aload_n 0, 1) := by decide +kernel
theorem dX10_candlesBy_22 : decode cX10_candlesBy 22 = .ok (.iload 4, 2) := by decide +kernel
theorem dX10_candlesBy_24 : decode cX10_candlesBy 24 = .ok (.iload_n 2, 1) := by decide +kernel
theorem dX10_bounded_0 : decode cX10_bounded 0 = .ok (.aload_n 0, 1) := by decide +kernel
theorem dX10_bounded_1 : decode cX10_bounded 1 = .ok (.iload_n 1, 1) := by decide +kernel
theorem dX10_bounded_2 : decode cX10_bounded 2 = .ok (.invokevirtual 334, 3) := by decide +kernel
theorem dX10_bounded_5 : decode cX10_bounded 5 = .ok (.iload_n 2, 1) := by decide +kernel
theorem dX10_bounded_6 : decode cX10_bounded 6 = .ok (.if_icmp .ge 11, 3) := by decide +kernel
theorem dX10_bounded_17 : decode cX10_bounded 17 = .ok (.iload_n 2, 1) := by decide +kernel
theorem dX10_bounded_18 : decode cX10_bounded 18 = .ok (.ireturn, 1) := by decide +kernel
theorem dX10_bounded_9 : decode cX10_bounded 9 = .ok (.aload_n 0, 1) := by decide +kernel
theorem dX10_bounded_10 : decode cX10_bounded 10 = .ok (.iload_n 1, 1) := by decide +kernel
theorem dX10_bounded_11 : decode cX10_bounded 11 = .ok (.invokevirtual 334, 3) := by decide +kernel
theorem dX10_bounded_14 : decode cX10_bounded 14 = .ok (.goto 4, 3) := by decide +kernel
theorem dX10_candlesBy_25 : decode cX10_candlesBy 25 = .ok (.invokevirtual 447, 3) := by decide +kernel
theorem dX10_candlesBy_28 : decode cX10_candlesBy 28 = .ok (.imul, 1) := by decide +kernel
theorem dX10_candlesBy_29 : decode cX10_candlesBy 29 = .ok (.iadd, 1) := by decide +kernel
theorem dX10_candlesBy_30 : decode cX10_candlesBy 30 = .ok (.istore_n 3, 1) := by decide +kernel
theorem dX10_candlesBy_31 : decode cX10_candlesBy 31 = .ok (.iinc 4 1, 3) := by decide +kernel
theorem dX10_candlesBy_34 : decode cX10_candlesBy 34 = .ok (.goto (-29), 3) := by decide +kernel
theorem dX10_candles_67 : decode cX10_candles 67 = .ok (.invokevirtual 450, 3) := by decide +kernel
theorem dX10_candles_70 : decode cX10_candles 70 = .ok (.iload_n 3, 1) := by decide +kernel
theorem dX10_candles_71 : decode cX10_candles 71 = .ok (.if_icmp .le 9, 3) := by decide +kernel
theorem dX10_candles_80 : decode cX10_candles 80 = .ok (.iload_n 2, 1) := by decide +kernel
theorem dX10_candles_81 : decode cX10_candles 81 = .ok (.iload_n 1, 1) := by decide +kernel
theorem dX10_candles_82 : decode cX10_candles 82 = .ok (.ishr, 1) := by decide +kernel
theorem dX10_candles_83 : decode cX10_candles 83 = .ok (.iconst 1, 1) := by decide +kernel
theorem dX10_candles_84 : decode cX10_candles 84 = .ok (.iand, 1) := by decide +kernel
theorem dX10_candles_85 : decode cX10_candles 85 = .ok (.ifCond .ne 7, 3) := by decide +kernel
theorem dX10_candles_92 : decode cX10_candles 92 = .ok (.aload_n 0, 1) := by decide +kernel
theorem dX10_candles_93 : decode cX10_candles 93 = .ok (.iload_n 1, 1) := by decide +kernel
theorem dX10_candles_94 : decode cX10_candles 94 = .ok (.iload 4, 2) := by decide +kernel
theorem dX10_candles_96 : decode cX10_candles 96 = .ok (.invokevirtual 447, 3) := by decide +kernel
theorem dX10_candles_99 : decode cX10_candles 99 = .ok (.ireturn, 1) := by decide +kernel
theorem dX10_candles_88 : decode cX10_candles 88 = .ok (.iconst 0, 1) := by decide +kernel
theorem dX10_candles_89 : decode cX10_candles 89 = .ok (.goto 10, 3) := by decide +kernel
theorem dX10_candles_74 : decode cX10_candles 74 = .ok (.iinc 4 (-1), 3) := by decide +kernel
theorem dX10_candles_77 : decode cX10_candles 77 = .ok (.goto (-14), 3) := by decide +kernel
theorem dX10_fullest_0 : decode cX10_fullest 0 = .ok (.aload_n 0, 1) := by decide +kernel
theorem dX10_fullest_1 : decode cX10_fullest 1 = .ok (.iconst 0, 1) := by decide +kernel
theorem dX10_fullest_2 : decode cX10_fullest 2 = .ok (.putfield 3, 3) := by decide +kernel
theorem dX10_fullest_5 : decode cX10_fullest 5 = .ok (.aload_n 0, 1) := by decide +kernel
theorem dX10_fullest_6 : decode cX10_fullest 6 = .ok (.iload_n 1, 1) := by decide +kernel
theorem dX10_fullest_7 : decode cX10_fullest 7 = .ok (.iconst 0, 1) := by decide +kernel
theorem dX10_fullest_8 : decode cX10_fullest 8 = .ok (.iconst 1, 1) := by decide +kernel
theorem dX10_fullest_9 : decode cX10_fullest 9 = .ok (.invokestatic 384, 3) := by decide +kernel
theorem dX10_fullest_12 : decode cX10_fullest 12 = .ok (.iconst 1, 1) := by decide +kernel
theorem dX10_fullest_13 : decode cX10_fullest 13 = .ok (.iconst 1, 1) := by decide +kernel
theorem dX10_fullest_14 : decode cX10_fullest 14 = .ok (.invokevirtual 200, 3) := by decide +kernel
theorem dX10_fullest_17 : decode cX10_fullest 17 = .ok (.ifCond .ne 5, 3) := by decide +kernel
theorem dX10_fullest_22 : decode cX10_fullest 22 = .ok (.aload_n 0, 1) := by decide +kernel
theorem dX10_fullest_23 : decode cX10_fullest 23 = .ok (.invokevirtual 309, 3) := by decide +kernel
theorem dX10_fullest_26 : decode cX10_fullest 26 = .ok (.iconst (-1), 1) := by decide +kernel
theorem dX10_fullest_27 : decode cX10_fullest 27 = .ok (.istore_n 2, 1) := by decide +kernel
theorem dX10_fullest_28 : decode cX10_fullest 28 = .ok (.iconst 0, 1) := by decide +kernel
theorem dX10_fullest_29 : decode cX10_fullest 29 = .ok (.istore_n 3, 1) := by decide +kernel
theorem dX10_fullest_20 : decode cX10_fullest 20 = .ok (.iconst 0, 1) := by decide +kernel
theorem dX10_fullest_21 : decode cX10_fullest 21 = .ok (.ireturn, 1) := by decide +kernel
theorem dX10_fullest_30 : decode cX10_fullest 30 = .ok (.iload_n 3, 1) := by decide +kernel
theorem dX10_fullest_31 : decode cX10_fullest 31 = .ok (.aload_n 0, 1) := by decide +kernel
theorem dX10_fullest_32 : decode cX10_fullest 32 = .ok (.getfield 160, 3) := by decide +kernel
theorem dX10_fullest_35 : decode cX10_fullest 35 = .ok (.if_icmp .ge 29, 3) := by decide +kernel
theorem dX10_fullest_64 : decode cX10_fullest 64 = .ok (.iload_n 1, 1) := by decide +kernel
theorem dX10_fullest_65 : decode cX10_fullest 65 = .ok (.ifCond .eq 8, 3) := by decide +kernel
theorem dX10_fullest_73 : decode cX10_fullest 73 = .ok (.iload_n 2, 1) := by decide +kernel
theorem dX10_fullest_74 : decode cX10_fullest 74 = .ok (.goto 8, 3) := by decide +kernel
theorem dX10_fullest_82 : decode cX10_fullest 82 = .ok (.ireturn, 1) := by decide +kernel
theorem dX10_fullest_68 : decode cX10_fullest 68 = .ok (.iload_n 2, 1) := by decide +kernel
theorem dX10_fullest_69 : decode cX10_fullest 69 = .ok (.iconst (-1), 1) := by decide +kernel
theorem dX10_fullest_70 : decode cX10_fullest 70 = .ok (.if_icmp .ne 7, 3) := by decide +kernel
theorem dX10_fullest_77 : decode cX10_fullest 77 = .ok (.aload_n 0, 1) := by decide +kernel
theorem dX10_fullest_78 : decode cX10_fullest 78 = .ok (.iload_n 2, 1) := by decide +kernel
theorem dX10_fullest_79 : decode cX10_fullest 79 = .ok (.invokevirtual 334, 3) := by decide +kernel
theorem dX10_fullest_38 : decode cX10_fullest 38 = .ok (.iload_n 2, 1) := by decide +kernel
theorem dX10_fullest_39 : decode cX10_fullest 39 = .ok (.iconst (-1), 1) := by decide +kernel
theorem dX10_fullest_40 : decode cX10_fullest 40 = .ok (.if_icmp .eq 16, 3) := by decide +kernel
theorem dX10_fullest_56 : decode cX10_fullest 56 = .ok (.iload_n 3, 1) := by decide +kernel
theorem dX10_fullest_57 : decode cX10_fullest 57 = .ok (.istore_n 2, 1) := by decide +kernel
theorem dX10_fullest_58 : decode cX10_fullest 58 = .ok (.iinc 3 1, 3) := by decide +kernel
theorem dX10_fullest_61 : decode cX10_fullest 61 = .ok (.goto (-31), 3) := by decide +kernel
theorem dX10_fullest_43 : decode cX10_fullest 43 = .ok (.aload_n 0, 1) := by decide +kernel
theorem dX10_fullest_44 : decode cX10_fullest 44 = .ok (.iload_n 3, 1) := by decide +kernel
theorem dX10_fullest_45 : decode cX10_fullest 45 = .ok (.invokevirtual 334, 3) := by decide +kernel
theorem dX10_fullest_48 : decode cX10_fullest 48 = .ok (.aload_n 0, 1) := by decide +kernel
theorem dX10_fullest_49 : decode cX10_fullest 49 = .ok (.iload_n 2, 1) := by decide +kernel
theorem dX10_fullest_50 : decode cX10_fullest 50 = .ok (.invokevirtual 334, 3) := by decide +kernel
theorem dX10_fullest_53 : decode cX10_fullest 53 = .ok (.if_icmp .le 5, 3) := by decide +kernel
theorem dX10_free_0 : decode cX10_free 0 = .ok (.aload_n 0, 1) := by decide +kernel
theorem dX10_free_1 : decode cX10_free 1 = .ok (.iconst 0, 1) := by decide +kernel
theorem dX10_free_2 : decode cX10_free 2 = .ok (.putfield 3, 3) := by decide +kernel
theorem dX10_free_5 : decode cX10_free 5 = .ok (.aload_n 0, 1) := by decide +kernel
theorem dX10_free_6 : decode cX10_free 6 = .ok (.invokevirtual 309, 3) := by decide +kernel
theorem dX10_free_9 : decode cX10_free 9 = .ok (.iconst 0, 1) := by decide +kernel
theorem dX10_free_10 : decode cX10_free 10 = .ok (.istore_n 1, 1) := by decide +kernel
theorem dX10_free_11 : decode cX10_free 11 = .ok (.iconst 0, 1) := by decide +kernel
theorem dX10_free_12 : decode cX10_free 12 = .ok (.istore_n 2, 1) := by decide +kernel
theorem dX10_free_13 : decode cX10_free 13 = .ok (.iload_n 2, 1) := by decide +kernel
theorem dX10_free_14 : decode cX10_free 14 = .ok (.aload_n 0, 1) := by decide +kernel
theorem dX10_free_15 : decode cX10_free 15 = .ok (.getfield 160, 3) := by decide +kernel
theorem dX10_free_18 : decode cX10_free 18 = .ok (.if_icmp .ge 28, 3) := by decide +kernel
theorem dX10_free_46 : decode cX10_free 46 = .ok (.iload_n 1, 1) := by decide +kernel
theorem dX10_free_47 : decode cX10_free 47 = .ok (.ireturn, 1) := by decide +kernel
theorem dX10_free_21 : decode cX10_free 21 = .ok (.iload_n 1, 1) := by decide +kernel
theorem dX10_free_22 : decode cX10_free 22 = .ok (.aload_n 0, 1) := by decide +kernel
theorem dX10_free_23 : decode cX10_free 23 = .ok (.iconst 0, 1) := by decide +kernel
theorem dX10_free_24 : decode cX10_free 24 = .ok (.iload_n 2, 1) := by decide +kernel
theorem dX10_free_25 : decode cX10_free 25 = .ok (.invokevirtual 399, 3) := by decide +kernel
theorem dX10_free_28 : decode cX10_free 28 = .ok (.ifCond .ne 9, 3) := by decide +kernel
theorem dX10_free_37 : decode cX10_free 37 = .ok (.iconst 0, 1) := by decide +kernel
theorem dX10_free_38 : decode cX10_free 38 = .ok (.ior, 1) := by decide +kernel
theorem dX10_free_39 : decode cX10_free 39 = .ok (.istore_n 1, 1) := by decide +kernel
theorem dX10_free_40 : decode cX10_free 40 = .ok (.iinc 2 1, 3) := by decide +kernel
theorem dX10_free_43 : decode cX10_free 43 = .ok (.goto (-30), 3) := by decide +kernel
theorem dX10_free_31 : decode cX10_free 31 = .ok (.iconst 1, 1) := by decide +kernel
theorem dX10_free_32 : decode cX10_free 32 = .ok (.iload_n 2, 1) := by decide +kernel
theorem dX10_free_33 : decode cX10_free 33 = .ok (.ishl, 1) := by decide +kernel
theorem dX10_free_34 : decode cX10_free 34 = .ok (.goto 4, 3) := by decide +kernel
theorem dX10_partners_0 : decode cX10_partners 0 = .ok (.aload_n 0, 1) := by decide +kernel
theorem dX10_partners_1 : decode cX10_partners 1 = .ok (.iconst 0, 1) := by decide +kernel
theorem dX10_partners_2 : decode cX10_partners 2 = .ok (.putfield 3, 3) := by decide +kernel
theorem dX10_partners_5 : decode cX10_partners 5 = .ok (.aload_n 0, 1) := by decide +kernel
theorem dX10_partners_6 : decode cX10_partners 6 = .ok (.iload_n 1, 1) := by decide +kernel
theorem dX10_partners_7 : decode cX10_partners 7 = .ok (.iconst 1, 1) := by decide +kernel
theorem dX10_partners_8 : decode cX10_partners 8 = .ok (.invokevirtual 405, 3) := by decide +kernel
theorem dX10_partners_11 : decode cX10_partners 11 = .ok (.ifCond .ne 5, 3) := by decide +kernel
theorem dX10_partners_16 : decode cX10_partners 16 = .ok (.aload_n 0, 1) := by decide +kernel
theorem dX10_partners_17 : decode cX10_partners 17 = .ok (.invokevirtual 309, 3) := by decide +kernel
theorem dX10_partners_20 : decode cX10_partners 20 = .ok (.iconst 0, 1) := by decide +kernel
theorem dX10_partners_21 : decode cX10_partners 21 = .ok (.istore_n 2, 1) := by decide +kernel
theorem dX10_partners_22 : decode cX10_partners 22 = .ok (.iconst 0, 1) := by decide +kernel
theorem dX10_partners_23 : decode cX10_partners 23 = .ok (.istore_n 3, 1) := by decide +kernel
theorem dX10_partners_14 : decode cX10_partners 14 = .ok (.iconst 0, 1) := by decide +kernel
theorem dX10_partners_15 : decode cX10_partners 15 = .ok (.ireturn, 1) := by decide +kernel
theorem dX10_partners_24 : decode cX10_partners 24 = .ok (.iload_n 3, 1) := by decide +kernel
theorem dX10_partners_25 : decode cX10_partners 25 = .ok (.aload_n 0, 1) := by decide +kernel
theorem dX10_partners_26 : decode cX10_partners 26 = .ok (.getfield 160, 3) := by decide +kernel
theorem dX10_partners_29 : decode cX10_partners 29 = .ok (.if_icmp .ge 52, 3) := by decide +kernel
theorem dX10_partners_81 : decode cX10_partners 81 = .ok (.iload_n 2, 1) := by decide +kernel
theorem dX10_partners_82 : decode cX10_partners 82 = .ok (.ireturn, 1) := by decide +kernel
theorem dX10_partners_32 : decode cX10_partners 32 = .ok (.iload_n 2, 1) := by decide +kernel
theorem dX10_partners_33 : decode cX10_partners 33 = .ok (.iload_n 3, 1) := by decide +kernel
theorem dX10_partners_34 : decode cX10_partners 34 = .ok (.aload_n 0, 1) := by decide +kernel
theorem dX10_partners_35 : decode cX10_partners 35 = .ok (.getfield 38, 3) := by decide +kernel
theorem dX10_partners_38 : decode cX10_partners 38 = .ok (.iconst 4, 1) := by decide +kernel
theorem dX10_partners_39 : decode cX10_partners 39 = .ok (.iload_n 1, 1) := by decide +kernel
theorem dX10_partners_40 : decode cX10_partners 40 = .ok (.imul, 1) := by decide +kernel
theorem dX10_partners_41 : decode cX10_partners 41 = .ok (.iaload, 1) := by decide +kernel
theorem dX10_partners_42 : decode cX10_partners 42 = .ok (.if_icmp .eq 30, 3) := by decide +kernel
theorem dX10_partners_72 : decode cX10_partners 72 = .ok (.iconst 0, 1) := by decide +kernel
theorem dX10_partners_73 : decode cX10_partners 73 = .ok (.ior, 1) := by decide +kernel
theorem dX10_partners_74 : decode cX10_partners 74 = .ok (.istore_n 2, 1) := by decide +kernel
theorem dX10_partners_75 : decode cX10_partners 75 = .ok (.iinc 3 1, 3) := by decide +kernel
theorem dX10_partners_78 : decode cX10_partners 78 = .ok (.goto (-54), 3) := by decide +kernel
theorem dX10_partners_45 : decode cX10_partners 45 = .ok (.aload_n 0, 1) := by decide +kernel
theorem dX10_partners_46 : decode cX10_partners 46 = .ok (.getfield 68, 3) := by decide +kernel
theorem dX10_partners_49 : decode cX10_partners 49 = .ok (.bipush 84, 2) := by decide +kernel
theorem dX10_partners_51 : decode cX10_partners 51 = .ok (.iload_n 1, 1) := by decide +kernel
theorem dX10_partners_52 : decode cX10_partners 52 = .ok (.iadd, 1) := by decide +kernel
theorem dX10_partners_53 : decode cX10_partners 53 = .ok (.iaload, 1) := by decide +kernel
theorem dX10_partners_54 : decode cX10_partners 54 = .ok (.ifCond .ne 18, 3) := by decide +kernel
theorem dX10_partners_57 : decode cX10_partners 57 = .ok (.aload_n 0, 1) := by decide +kernel
theorem dX10_partners_58 : decode cX10_partners 58 = .ok (.iload_n 1, 1) := by decide +kernel
theorem dX10_partners_59 : decode cX10_partners 59 = .ok (.iload_n 3, 1) := by decide +kernel
theorem dX10_partners_60 : decode cX10_partners 60 = .ok (.invokevirtual 365, 3) := by decide +kernel
theorem dX10_partners_63 : decode cX10_partners 63 = .ok (.ifCond .eq 9, 3) := by decide +kernel
theorem dX10_partners_66 : decode cX10_partners 66 = .ok (.iconst 1, 1) := by decide +kernel
theorem dX10_partners_67 : decode cX10_partners 67 = .ok (.iload_n 3, 1) := by decide +kernel
theorem dX10_partners_68 : decode cX10_partners 68 = .ok (.ishl, 1) := by decide +kernel
theorem dX10_partners_69 : decode cX10_partners 69 = .ok (.goto 4, 3) := by decide +kernel
theorem dX10_fades_0 : decode cX10_fades 0 = .ok (.aload_n 0, 1) := by decide +kernel
theorem dX10_fades_1 : decode cX10_fades 1 = .ok (.iconst 0, 1) := by decide +kernel
theorem dX10_fades_2 : decode cX10_fades 2 = .ok (.putfield 3, 3) := by decide +kernel
theorem dX10_fades_5 : decode cX10_fades 5 = .ok (.aload_n 0, 1) := by decide +kernel
theorem dX10_fades_6 : decode cX10_fades 6 = .ok (.iload_n 1, 1) := by decide +kernel
theorem dX10_fades_7 : decode cX10_fades 7 = .ok (.iconst 1, 1) := by decide +kernel
theorem dX10_fades_8 : decode cX10_fades 8 = .ok (.invokevirtual 402, 3) := by decide +kernel
theorem dX10_fades_11 : decode cX10_fades 11 = .ok (.ifCond .eq 12, 3) := by decide +kernel
theorem dX10_fades_23 : decode cX10_fades 23 = .ok (.iconst 0, 1) := by decide +kernel
theorem dX10_fades_24 : decode cX10_fades 24 = .ok (.ireturn, 1) := by decide +kernel
theorem dX10_fades_14 : decode cX10_fades 14 = .ok (.aload_n 0, 1) := by decide +kernel
theorem dX10_fades_15 : decode cX10_fades 15 = .ok (.iload_n 2, 1) := by decide +kernel
theorem dX10_fades_16 : decode cX10_fades 16 = .ok (.iconst 1, 1) := by decide +kernel
theorem dX10_fades_17 : decode cX10_fades 17 = .ok (.invokevirtual 396, 3) := by decide +kernel
theorem dX10_fades_20 : decode cX10_fades 20 = .ok (.ifCond .ne 5, 3) := by decide +kernel
theorem dX10_fades_25 : decode cX10_fades 25 = .ok (.aload_n 0, 1) := by decide +kernel
theorem dX10_fades_26 : decode cX10_fades 26 = .ok (.invokevirtual 309, 3) := by decide +kernel
theorem dX10_fades_29 : decode cX10_fades 29 = .ok (.aload_n 0, 1) := by decide +kernel
theorem dX10_fades_30 : decode cX10_fades 30 = .ok (.invokevirtual 381, 3) := by decide +kernel
theorem dX10_fades_33 : decode cX10_fades 33 = .ok (.aload_n 0, 1) := by decide +kernel
theorem dX10_fades_34 : decode cX10_fades 34 = .ok (.getfield 65, 3) := by decide +kernel
theorem dX10_fades_37 : decode cX10_fades 37 = .ok (.iconst 0, 1) := by decide +kernel
theorem dX10_fades_38 : decode cX10_fades 38 = .ok (.bipush 8, 2) := by decide +kernel
theorem dX10_fades_40 : decode cX10_fades 40 = .ok (.iload_n 1, 1) := by decide +kernel
theorem dX10_fades_41 : decode cX10_fades 41 = .ok (.imul, 1) := by decide +kernel
theorem dX10_fades_42 : decode cX10_fades 42 = .ok (.iadd, 1) := by decide +kernel
theorem dX10_fades_43 : decode cX10_fades 43 = .ok (.iload_n 2, 1) := by decide +kernel
theorem dX10_fades_44 : decode cX10_fades 44 = .ok (.iadd, 1) := by decide +kernel
theorem dX10_fades_45 : decode cX10_fades 45 = .ok (.iaload, 1) := by decide +kernel
theorem dX10_fades_46 : decode cX10_fades 46 = .ok (.aload_n 0, 1) := by decide +kernel
theorem dX10_fades_47 : decode cX10_fades 47 = .ok (.iload_n 1, 1) := by decide +kernel
theorem dX10_fades_48 : decode cX10_fades 48 = .ok (.iload_n 2, 1) := by decide +kernel
theorem dX10_fades_49 : decode cX10_fades 49 = .ok (.invokevirtual 340, 3) := by decide +kernel
theorem dX10_fades_52 : decode cX10_fades 52 = .ok (.isub, 1) := by decide +kernel
theorem dX10_fades_53 : decode cX10_fades 53 = .ok (.ireturn, 1) := by decide +kernel
theorem dX10_next_0 : decode cX10_next 0 = .ok (.aload_n 0, 1) := by decide +kernel
theorem dX10_next_1 : decode cX10_next 1 = .ok (.iconst 0, 1) := by decide +kernel
theorem dX10_next_2 : decode cX10_next 2 = .ok (.putfield 3, 3) := by decide +kernel
theorem dX10_next_5 : decode cX10_next 5 = .ok (.aload_n 0, 1) := by decide +kernel
theorem dX10_next_6 : decode cX10_next 6 = .ok (.iload_n 1, 1) := by decide +kernel
theorem dX10_next_7 : decode cX10_next 7 = .ok (.iconst 0, 1) := by decide +kernel
theorem dX10_next_8 : decode cX10_next 8 = .ok (.iconst 1, 1) := by decide +kernel
theorem dX10_next_9 : decode cX10_next 9 = .ok (.invokestatic 384, 3) := by decide +kernel
theorem dX10_next_12 : decode cX10_next 12 = .ok (.iconst 1, 1) := by decide +kernel
theorem dX10_next_13 : decode cX10_next 13 = .ok (.iconst 1, 1) := by decide +kernel
theorem dX10_next_14 : decode cX10_next 14 = .ok (.invokevirtual 200, 3) := by decide +kernel
theorem dX10_next_17 : decode cX10_next 17 = .ok (.ifCond .ne 5, 3) := by decide +kernel
theorem dX10_next_22 : decode cX10_next 22 = .ok (.iconst (-1), 1) := by decide +kernel
theorem dX10_next_23 : decode cX10_next 23 = .ok (.istore_n 2, 1) := by decide +kernel
theorem dX10_next_24 : decode cX10_next 24 = .ok (.iconst 0, 1) := by decide +kernel
theorem dX10_next_25 : decode cX10_next 25 = .ok (.istore_n 3, 1) := by decide +kernel
theorem dX10_next_20 : decode cX10_next 20 = .ok (.iconst 0, 1) := by decide +kernel
theorem dX10_next_21 : decode cX10_next 21 = .ok (.ireturn, 1) := by decide +kernel
theorem dX10_next_26 : decode cX10_next 26 = .ok (.iload_n 3, 1) := by decide +kernel
theorem dX10_next_27 : decode cX10_next 27 = .ok (.aload_n 0, 1) := by decide +kernel
theorem dX10_next_28 : decode cX10_next 28 = .ok (.getfield 163, 3) := by decide +kernel
theorem dX10_next_31 : decode cX10_next 31 = .ok (.if_icmp .ge 51, 3) := by decide +kernel
theorem dX10_next_82 : decode cX10_next 82 = .ok (.iload_n 1, 1) := by decide +kernel
theorem dX10_next_83 : decode cX10_next 83 = .ok (.ifCond .eq 8, 3) := by decide +kernel
theorem dX10_next_91 : decode cX10_next 91 = .ok (.iload_n 2, 1) := by decide +kernel
theorem dX10_next_92 : decode cX10_next 92 = .ok (.goto 13, 3) := by decide +kernel
theorem dX10_next_105 : decode cX10_next 105 = .ok (.ireturn, 1) := by decide +kernel
theorem dX10_next_86 : decode cX10_next 86 = .ok (.iload_n 2, 1) := by decide +kernel
theorem dX10_next_87 : decode cX10_next 87 = .ok (.iconst (-1), 1) := by decide +kernel
theorem dX10_next_88 : decode cX10_next 88 = .ok (.if_icmp .ne 7, 3) := by decide +kernel
theorem dX10_next_95 : decode cX10_next 95 = .ok (.aload_n 0, 1) := by decide +kernel
theorem dX10_next_96 : decode cX10_next 96 = .ok (.getfield 38, 3) := by decide +kernel
theorem dX10_next_99 : decode cX10_next 99 = .ok (.iconst 4, 1) := by decide +kernel
theorem dX10_next_100 : decode cX10_next 100 = .ok (.iload_n 2, 1) := by decide +kernel
theorem dX10_next_101 : decode cX10_next 101 = .ok (.imul, 1) := by decide +kernel
theorem dX10_next_102 : decode cX10_next 102 = .ok (.iconst 3, 1) := by decide +kernel
theorem dX10_next_103 : decode cX10_next 103 = .ok (.iadd, 1) := by decide +kernel
theorem dX10_next_104 : decode cX10_next 104 = .ok (.iaload, 1) := by decide +kernel
theorem dX10_next_34 : decode cX10_next 34 = .ok (.aload_n 0, 1) := by decide +kernel
theorem dX10_next_35 : decode cX10_next 35 = .ok (.getfield 65, 3) := by decide +kernel
theorem dX10_next_38 : decode cX10_next 38 = .ok (.bipush 84, 2) := by decide +kernel
theorem dX10_next_40 : decode cX10_next 40 = .ok (.iload_n 3, 1) := by decide +kernel
theorem dX10_next_41 : decode cX10_next 41 = .ok (.iadd, 1) := by decide +kernel
theorem dX10_next_42 : decode cX10_next 42 = .ok (.iaload, 1) := by decide +kernel
theorem dX10_next_43 : decode cX10_next 43 = .ok (.ifCond .ne 33, 3) := by decide +kernel
theorem dX10_next_76 : decode cX10_next 76 = .ok (.iinc 3 1, 3) := by decide +kernel
theorem dX10_next_79 : decode cX10_next 79 = .ok (.goto (-53), 3) := by decide +kernel
theorem dX10_next_46 : decode cX10_next 46 = .ok (.iload_n 2, 1) := by decide +kernel
theorem dX10_next_47 : decode cX10_next 47 = .ok (.iconst (-1), 1) := by decide +kernel
theorem dX10_next_48 : decode cX10_next 48 = .ok (.if_icmp .eq 26, 3) := by decide +kernel
theorem dX10_next_74 : decode cX10_next 74 = .ok (.iload_n 3, 1) := by decide +kernel
theorem dX10_next_75 : decode cX10_next 75 = .ok (.istore_n 2, 1) := by decide +kernel
theorem dX10_next_51 : decode cX10_next 51 = .ok (.aload_n 0, 1) := by decide +kernel
theorem dX10_next_52 : decode cX10_next 52 = .ok (.getfield 38, 3) := by decide +kernel
theorem dX10_next_55 : decode cX10_next 55 = .ok (.iconst 4, 1) := by decide +kernel
theorem dX10_next_56 : decode cX10_next 56 = .ok (.iload_n 3, 1) := by decide +kernel
theorem dX10_next_57 : decode cX10_next 57 = .ok (.imul, 1) := by decide +kernel
theorem dX10_next_58 : decode cX10_next 58 = .ok (.iconst 3, 1) := by decide +kernel
theorem dX10_next_59 : decode cX10_next 59 = .ok (.iadd, 1) := by decide +kernel
theorem dX10_next_60 : decode cX10_next 60 = .ok (.iaload, 1) := by decide +kernel
theorem dX10_next_61 : decode cX10_next 61 = .ok (.aload_n 0, 1) := by decide +kernel
theorem dX10_next_62 : decode cX10_next 62 = .ok (.getfield 38, 3) := by decide +kernel
theorem dX10_next_65 : decode cX10_next 65 = .ok (.iconst 4, 1) := by decide +kernel
theorem dX10_next_66 : decode cX10_next 66 = .ok (.iload_n 2, 1) := by decide +kernel
theorem dX10_next_67 : decode cX10_next 67 = .ok (.imul, 1) := by decide +kernel
theorem dX10_next_68 : decode cX10_next 68 = .ok (.iconst 3, 1) := by decide +kernel
theorem dX10_next_69 : decode cX10_next 69 = .ok (.iadd, 1) := by decide +kernel
theorem dX10_next_70 : decode cX10_next 70 = .ok (.iaload, 1) := by decide +kernel
theorem dX10_next_71 : decode cX10_next 71 = .ok (.if_icmp .ge 5, 3) := by decide +kernel
theorem dX10_gains_0 : decode cX10_gains 0 = .ok (.aload_n 0, 1) := by decide +kernel
theorem dX10_gains_1 : decode cX10_gains 1 = .ok (.iconst 0, 1) := by decide +kernel
theorem dX10_gains_2 : decode cX10_gains 2 = .ok (.putfield 3, 3) := by decide +kernel
theorem dX10_gains_5 : decode cX10_gains 5 = .ok (.aload_n 0, 1) := by decide +kernel
theorem dX10_gains_6 : decode cX10_gains 6 = .ok (.iload_n 1, 1) := by decide +kernel
theorem dX10_gains_7 : decode cX10_gains 7 = .ok (.iconst 1, 1) := by decide +kernel
theorem dX10_gains_8 : decode cX10_gains 8 = .ok (.invokevirtual 402, 3) := by decide +kernel
theorem dX10_gains_11 : decode cX10_gains 11 = .ok (.ifCond .eq 12, 3) := by decide +kernel
theorem dX10_gains_23 : decode cX10_gains 23 = .ok (.iconst 0, 1) := by decide +kernel
theorem dX10_gains_24 : decode cX10_gains 24 = .ok (.ireturn, 1) := by decide +kernel
theorem dX10_gains_14 : decode cX10_gains 14 = .ok (.aload_n 0, 1) := by decide +kernel
theorem dX10_gains_15 : decode cX10_gains 15 = .ok (.iload_n 2, 1) := by decide +kernel
theorem dX10_gains_16 : decode cX10_gains 16 = .ok (.iconst 1, 1) := by decide +kernel
theorem dX10_gains_17 : decode cX10_gains 17 = .ok (.invokevirtual 396, 3) := by decide +kernel
theorem dX10_gains_20 : decode cX10_gains 20 = .ok (.ifCond .ne 5, 3) := by decide +kernel
theorem dX10_gains_25 : decode cX10_gains 25 = .ok (.aload_n 0, 1) := by decide +kernel
theorem dX10_gains_26 : decode cX10_gains 26 = .ok (.invokevirtual 309, 3) := by decide +kernel
theorem dX10_gains_29 : decode cX10_gains 29 = .ok (.aload_n 0, 1) := by decide +kernel
theorem dX10_gains_30 : decode cX10_gains 30 = .ok (.iload_n 1, 1) := by decide +kernel
theorem dX10_gains_31 : decode cX10_gains 31 = .ok (.iload_n 2, 1) := by decide +kernel
theorem dX10_gains_32 : decode cX10_gains 32 = .ok (.invokevirtual 353, 3) := by decide +kernel
theorem dX10_gains_35 : decode cX10_gains 35 = .ok (.istore_n 3, 1) := by decide +kernel
theorem dX10_gains_36 : decode cX10_gains 36 = .ok (.iload_n 3, 1) := by decide +kernel
theorem dX10_gains_37 : decode cX10_gains 37 = .ok (.ifCond .ge 7, 3) := by decide +kernel
theorem dX10_gains_44 : decode cX10_gains 44 = .ok (.iload_n 3, 1) := by decide +kernel
theorem dX10_gains_45 : decode cX10_gains 45 = .ok (.ireturn, 1) := by decide +kernel
theorem dX10_gains_40 : decode cX10_gains 40 = .ok (.iconst 0, 1) := by decide +kernel
theorem dX10_gains_41 : decode cX10_gains 41 = .ok (.goto 4, 3) := by decide +kernel
theorem dX10_closest_0 : decode cX10_closest 0 = .ok (.aload_n 0, 1) := by decide +kernel
theorem dX10_closest_1 : decode cX10_closest 1 = .ok (.iconst 0, 1) := by decide +kernel
theorem dX10_closest_2 : decode cX10_closest 2 = .ok (.putfield 3, 3) := by decide +kernel
theorem dX10_closest_5 : decode cX10_closest 5 = .ok (.aload_n 0, 1) := by decide +kernel
theorem dX10_closest_6 : decode cX10_closest 6 = .ok (.iload_n 1, 1) := by decide +kernel
theorem dX10_closest_7 : decode cX10_closest 7 = .ok (.iconst 1, 1) := by decide +kernel
theorem dX10_closest_8 : decode cX10_closest 8 = .ok (.invokevirtual 402, 3) := by decide +kernel
theorem dX10_closest_11 : decode cX10_closest 11 = .ok (.ifCond .eq 18, 3) := by decide +kernel
theorem dX10_closest_29 : decode cX10_closest 29 = .ok (.iconst 0, 1) := by decide +kernel
theorem dX10_closest_30 : decode cX10_closest 30 = .ok (.ireturn, 1) := by decide +kernel
theorem dX10_closest_14 : decode cX10_closest 14 = .ok (.aload_n 0, 1) := by decide +kernel
theorem dX10_closest_15 : decode cX10_closest 15 = .ok (.iload_n 2, 1) := by decide +kernel
theorem dX10_closest_16 : decode cX10_closest 16 = .ok (.iconst 0, 1) := by decide +kernel
theorem dX10_closest_17 : decode cX10_closest 17 = .ok (.iconst 1, 1) := by decide +kernel
theorem dX10_closest_18 : decode cX10_closest 18 = .ok (.invokestatic 384, 3) := by decide +kernel
theorem dX10_closest_21 : decode cX10_closest 21 = .ok (.iconst 2, 1) := by decide +kernel
theorem dX10_closest_22 : decode cX10_closest 22 = .ok (.iconst 1, 1) := by decide +kernel
theorem dX10_closest_23 : decode cX10_closest 23 = .ok (.invokevirtual 200, 3) := by decide +kernel
theorem dX10_closest_26 : decode cX10_closest 26 = .ok (.ifCond .ne 5, 3) := by decide +kernel
theorem dX10_closest_31 : decode cX10_closest 31 = .ok (.aload_n 0, 1) := by decide +kernel
theorem dX10_closest_32 : decode cX10_closest 32 = .ok (.invokevirtual 309, 3) := by decide +kernel
theorem dX10_closest_35 : decode cX10_closest 35 = .ok (.aload_n 0, 1) := by decide +kernel
theorem dX10_closest_36 : decode cX10_closest 36 = .ok (.iconst 0, 1) := by decide +kernel
theorem dX10_closest_37 : decode cX10_closest 37 = .ok (.iload_n 1, 1) := by decide +kernel
theorem dX10_closest_38 : decode cX10_closest 38 = .ok (.invokevirtual 399, 3) := by decide +kernel
theorem dX10_closest_41 : decode cX10_closest 41 = .ok (.istore_n 3, 1) := by decide +kernel
theorem dX10_closest_42 : decode cX10_closest 42 = .ok (.iconst (-1), 1) := by decide +kernel
theorem dX10_closest_43 : decode cX10_closest 43 = .ok (.istore 4, 2) := by decide +kernel
theorem dX10_closest_45 : decode cX10_closest 45 = .ok (.iconst 0, 1) := by decide +kernel
theorem dX10_closest_46 : decode cX10_closest 46 = .ok (.istore 5, 2) := by decide +kernel
theorem dX10_closest_48 : decode cX10_closest 48 = .ok (.iload 5, 2) := by decide +kernel
theorem dX10_closest_50 : decode cX10_closest 50 = .ok (.aload_n 0, 1) := by decide +kernel
theorem dX10_closest_51 : decode cX10_closest 51 = .ok (.getfield 163, 3) := by decide +kernel
theorem dX10_closest_54 : decode cX10_closest 54 = .ok (.if_icmp .ge 44, 3) := by decide +kernel
theorem dX10_closest_98 : decode cX10_closest 98 = .ok (.iload_n 2, 1) := by decide +kernel
theorem dX10_closest_99 : decode cX10_closest 99 = .ok (.ifCond .eq 9, 3) := by decide +kernel
theorem dX10_closest_108 : decode cX10_closest 108 = .ok (.iload 4, 2) := by decide +kernel
theorem dX10_closest_110 : decode cX10_closest 110 = .ok (.goto 9, 3) := by decide +kernel
theorem dX10_closest_119 : decode cX10_closest 119 = .ok (.ireturn, 1) := by decide +kernel
theorem dX10_closest_102 : decode cX10_closest 102 = .ok (.iload 4, 2) := by decide +kernel
theorem dX10_closest_104 : decode cX10_closest 104 = .ok (.iconst (-1), 1) := by decide +kernel
theorem dX10_closest_105 : decode cX10_closest 105 = .ok (.if_icmp .ne 8, 3) := by decide +kernel
theorem dX10_closest_113 : decode cX10_closest 113 = .ok (.aload_n 0, 1) := by decide +kernel
theorem dX10_closest_114 : decode cX10_closest 114 = .ok (.iload 4, 2) := by decide +kernel
theorem dX10_closest_116 : decode cX10_closest 116 = .ok (.invokevirtual 408, 3) := by decide +kernel
theorem dX10_closest_57 : decode cX10_closest 57 = .ok (.iload_n 3, 1) := by decide +kernel
theorem dX10_closest_58 : decode cX10_closest 58 = .ok (.iload 5, 2) := by decide +kernel
theorem dX10_closest_60 : decode cX10_closest 60 = .ok (.ishr, 1) := by decide +kernel
theorem dX10_closest_61 : decode cX10_closest 61 = .ok (.iconst 1, 1) := by decide +kernel
theorem dX10_closest_62 : decode cX10_closest 62 = .ok (.iand, 1) := by decide +kernel
theorem dX10_closest_63 : decode cX10_closest 63 = .ok (.iconst 1, 1) := by decide +kernel
theorem dX10_closest_64 : decode cX10_closest 64 = .ok (.if_icmp .ne 28, 3) := by decide +kernel
theorem dX10_closest_92 : decode cX10_closest 92 = .ok (.iinc 5 1, 3) := by decide +kernel
theorem dX10_closest_95 : decode cX10_closest 95 = .ok (.goto (-47), 3) := by decide +kernel
theorem dX10_closest_67 : decode cX10_closest 67 = .ok (.iload 4, 2) := by decide +kernel
theorem dX10_closest_69 : decode cX10_closest 69 = .ok (.iconst (-1), 1) := by decide +kernel
theorem dX10_closest_70 : decode cX10_closest 70 = .ok (.if_icmp .eq 18, 3) := by decide +kernel
theorem dX10_closest_88 : decode cX10_closest 88 = .ok (.iload 5, 2) := by decide +kernel
theorem dX10_closest_90 : decode cX10_closest 90 = .ok (.istore 4, 2) := by decide +kernel
theorem dX10_closest_73 : decode cX10_closest 73 = .ok (.aload_n 0, 1) := by decide +kernel
theorem dX10_closest_74 : decode cX10_closest 74 = .ok (.iload 5, 2) := by decide +kernel
theorem dX10_closest_76 : decode cX10_closest 76 = .ok (.invokevirtual 408, 3) := by decide +kernel
theorem dX10_closest_79 : decode cX10_closest 79 = .ok (.aload_n 0, 1) := by decide +kernel
theorem dX10_closest_80 : decode cX10_closest 80 = .ok (.iload 4, 2) := by decide +kernel
theorem dX10_closest_82 : decode cX10_closest 82 = .ok (.invokevirtual 408, 3) := by decide +kernel
theorem dX10_closest_85 : decode cX10_closest 85 = .ok (.if_icmp .ge 7, 3) := by decide +kernel
theorem dX10_best_0 : decode cX10_best 0 = .ok (.aload_n 0, 1) := by decide +kernel
theorem dX10_best_1 : decode cX10_best 1 = .ok (.iconst 0, 1) := by decide +kernel
theorem dX10_best_2 : decode cX10_best 2 = .ok (.putfield 3, 3) := by decide +kernel
theorem dX10_best_5 : decode cX10_best 5 = .ok (.aload_n 0, 1) := by decide +kernel
theorem dX10_best_6 : decode cX10_best 6 = .ok (.iload_n 1, 1) := by decide +kernel
theorem dX10_best_7 : decode cX10_best 7 = .ok (.iconst 1, 1) := by decide +kernel
theorem dX10_best_8 : decode cX10_best 8 = .ok (.invokevirtual 396, 3) := by decide +kernel
theorem dX10_best_11 : decode cX10_best 11 = .ok (.ifCond .eq 18, 3) := by decide +kernel
theorem dX10_best_29 : decode cX10_best 29 = .ok (.iconst 0, 1) := by decide +kernel
theorem dX10_best_30 : decode cX10_best 30 = .ok (.ireturn, 1) := by decide +kernel
theorem dX10_best_14 : decode cX10_best 14 = .ok (.aload_n 0, 1) := by decide +kernel
theorem dX10_best_15 : decode cX10_best 15 = .ok (.iload_n 2, 1) := by decide +kernel
theorem dX10_best_16 : decode cX10_best 16 = .ok (.iconst 0, 1) := by decide +kernel
theorem dX10_best_17 : decode cX10_best 17 = .ok (.iconst 1, 1) := by decide +kernel
theorem dX10_best_18 : decode cX10_best 18 = .ok (.invokestatic 384, 3) := by decide +kernel
theorem dX10_best_21 : decode cX10_best 21 = .ok (.iconst 2, 1) := by decide +kernel
theorem dX10_best_22 : decode cX10_best 22 = .ok (.iconst 1, 1) := by decide +kernel
theorem dX10_best_23 : decode cX10_best 23 = .ok (.invokevirtual 200, 3) := by decide +kernel
theorem dX10_best_26 : decode cX10_best 26 = .ok (.ifCond .ne 5, 3) := by decide +kernel
theorem dX10_best_31 : decode cX10_best 31 = .ok (.aload_n 0, 1) := by decide +kernel
theorem dX10_best_32 : decode cX10_best 32 = .ok (.invokevirtual 309, 3) := by decide +kernel
theorem dX10_best_35 : decode cX10_best 35 = .ok (.iconst (-1), 1) := by decide +kernel
theorem dX10_best_36 : decode cX10_best 36 = .ok (.istore_n 3, 1) := by decide +kernel
theorem dX10_best_37 : decode cX10_best 37 = .ok (.iconst 0, 1) := by decide +kernel
theorem dX10_best_38 : decode cX10_best 38 = .ok (.istore 4, 2) := by decide +kernel
theorem dX10_best_40 : decode cX10_best 40 = .ok (.iconst 0, 1) := by decide +kernel
theorem dX10_best_41 : decode cX10_best 41 = .ok (.istore 5, 2) := by decide +kernel
theorem dX10_best_43 : decode cX10_best 43 = .ok (.iload 5, 2) := by decide +kernel
theorem dX10_best_45 : decode cX10_best 45 = .ok (.aload_n 0, 1) := by decide +kernel
theorem dX10_best_46 : decode cX10_best 46 = .ok (.getfield 160, 3) := by decide +kernel
theorem dX10_best_49 : decode cX10_best 49 = .ok (.if_icmp .ge 36, 3) := by decide +kernel
theorem dX10_best_85 : decode cX10_best 85 = .ok (.iload_n 2, 1) := by decide +kernel
theorem dX10_best_86 : decode cX10_best 86 = .ok (.ifCond .eq 8, 3) := by decide +kernel
theorem dX10_best_94 : decode cX10_best 94 = .ok (.iload_n 3, 1) := by decide +kernel
theorem dX10_best_95 : decode cX10_best 95 = .ok (.goto 5, 3) := by decide +kernel
theorem dX10_best_100 : decode cX10_best 100 = .ok (.ireturn, 1) := by decide +kernel
theorem dX10_best_89 : decode cX10_best 89 = .ok (.iload_n 3, 1) := by decide +kernel
theorem dX10_best_90 : decode cX10_best 90 = .ok (.iconst (-1), 1) := by decide +kernel
theorem dX10_best_91 : decode cX10_best 91 = .ok (.if_icmp .ne 7, 3) := by decide +kernel
theorem dX10_best_98 : decode cX10_best 98 = .ok (.iload 4, 2) := by decide +kernel
theorem dX10_best_52 : decode cX10_best 52 = .ok (.aload_n 0, 1) := by decide +kernel
theorem dX10_best_53 : decode cX10_best 53 = .ok (.iload 5, 2) := by decide +kernel
theorem dX10_best_55 : decode cX10_best 55 = .ok (.iload_n 1, 1) := by decide +kernel
theorem dX10_best_56 : decode cX10_best 56 = .ok (.invokevirtual 340, 3) := by decide +kernel
theorem dX10_best_59 : decode cX10_best 59 = .ok (.iload 4, 2) := by decide +kernel
theorem dX10_best_61 : decode cX10_best 61 = .ok (.if_icmp .gt 6, 3) := by decide +kernel
theorem dX10_best_67 : decode cX10_best 67 = .ok (.iload 5, 2) := by decide +kernel
theorem dX10_best_69 : decode cX10_best 69 = .ok (.istore_n 3, 1) := by decide +kernel
theorem dX10_best_70 : decode cX10_best 70 = .ok (.aload_n 0, 1) := by decide +kernel
theorem dX10_best_71 : decode cX10_best 71 = .ok (.iload 5, 2) := by decide +kernel
theorem dX10_best_73 : decode cX10_best 73 = .ok (.iload_n 1, 1) := by decide +kernel
theorem dX10_best_74 : decode cX10_best 74 = .ok (.invokevirtual 340, 3) := by decide +kernel
theorem dX10_best_77 : decode cX10_best 77 = .ok (.istore 4, 2) := by decide +kernel
theorem dX10_best_79 : decode cX10_best 79 = .ok (.iinc 5 1, 3) := by decide +kernel
theorem dX10_best_82 : decode cX10_best 82 = .ok (.goto (-39), 3) := by decide +kernel
theorem dX10_best_64 : decode cX10_best 64 = .ok (.goto 15, 3) := by decide +kernel
theorem dX10_chorus_0 : decode cX10_chorus 0 = .ok (.aload_n 0, 1) := by decide +kernel
theorem dX10_chorus_1 : decode cX10_chorus 1 = .ok (.iconst 0, 1) := by decide +kernel
theorem dX10_chorus_2 : decode cX10_chorus 2 = .ok (.putfield 3, 3) := by decide +kernel
theorem dX10_chorus_5 : decode cX10_chorus 5 = .ok (.aload_n 0, 1) := by decide +kernel
theorem dX10_chorus_6 : decode cX10_chorus 6 = .ok (.iload_n 1, 1) := by decide +kernel
theorem dX10_chorus_7 : decode cX10_chorus 7 = .ok (.iconst 1, 1) := by decide +kernel
theorem dX10_chorus_8 : decode cX10_chorus 8 = .ok (.invokevirtual 396, 3) := by decide +kernel
theorem dX10_chorus_11 : decode cX10_chorus 11 = .ok (.ifCond .eq 31, 3) := by decide +kernel
theorem dX10_chorus_42 : decode cX10_chorus 42 = .ok (.iconst 0, 1) := by decide +kernel
theorem dX10_chorus_43 : decode cX10_chorus 43 = .ok (.ireturn, 1) := by decide +kernel
theorem dX10_chorus_14 : decode cX10_chorus 14 = .ok (.aload_n 0, 1) := by decide +kernel
theorem dX10_chorus_15 : decode cX10_chorus 15 = .ok (.iload_n 2, 1) := by decide +kernel
theorem dX10_chorus_16 : decode cX10_chorus 16 = .ok (.ifCond .lt 17, 3) := by decide +kernel
theorem dX10_chorus_19 : decode cX10_chorus 19 = .ok (.iload_n 2, 1) := by decide +kernel
theorem dX10_chorus_20 : decode cX10_chorus 20 = .ok (.iconst 1, 1) := by decide +kernel
theorem dX10_chorus_21 : decode cX10_chorus 21 = .ok (.aload_n 0, 1) := by decide +kernel
theorem dX10_chorus_22 : decode cX10_chorus 22 = .ok (.getfield 160, 3) := by decide +kernel
theorem dX10_chorus_25 : decode cX10_chorus 25 = .ok (.ishl, 1) := by decide +kernel
theorem dX10_chorus_26 : decode cX10_chorus 26 = .ok (.if_icmp .ge 7, 3) := by decide +kernel
theorem dX10_chorus_29 : decode cX10_chorus 29 = .ok (.iconst 1, 1) := by decide +kernel
theorem dX10_chorus_30 : decode cX10_chorus 30 = .ok (.goto 4, 3) := by decide +kernel
theorem dX10_chorus_33 : decode cX10_chorus 33 = .ok (.iconst 0, 1) := by decide +kernel
theorem dX10_chorus_34 : decode cX10_chorus 34 = .ok (.iconst 2, 1) := by decide +kernel
theorem dX10_chorus_35 : decode cX10_chorus 35 = .ok (.iconst 1, 1) := by decide +kernel
theorem dX10_chorus_36 : decode cX10_chorus 36 = .ok (.invokevirtual 200, 3) := by decide +kernel
theorem dX10_chorus_39 : decode cX10_chorus 39 = .ok (.ifCond .ne 5, 3) := by decide +kernel
theorem dX10_chorus_44 : decode cX10_chorus 44 = .ok (.aload_n 0, 1) := by decide +kernel
theorem dX10_chorus_45 : decode cX10_chorus 45 = .ok (.invokevirtual 309, 3) := by decide +kernel
theorem dX10_chorus_48 : decode cX10_chorus 48 = .ok (.iconst 0, 1) := by decide +kernel
theorem dX10_chorus_49 : decode cX10_chorus 49 = .ok (.istore_n 3, 1) := by decide +kernel
theorem dX10_chorus_50 : decode cX10_chorus 50 = .ok (.iconst 0, 1) := by decide +kernel
theorem dX10_chorus_51 : decode cX10_chorus 51 = .ok (.istore 4, 2) := by decide +kernel
theorem dX10_chorus_53 : decode cX10_chorus 53 = .ok (.iload 4, 2) := by decide +kernel
theorem dX10_chorus_55 : decode cX10_chorus 55 = .ok (.aload_n 0, 1) := by decide +kernel
theorem dX10_chorus_56 : decode cX10_chorus 56 = .ok (.getfield 160, 3) := by decide +kernel
theorem dX10_chorus_59 : decode cX10_chorus 59 = .ok (.if_icmp .ge 26, 3) := by decide +kernel
theorem dX10_chorus_85 : decode cX10_chorus 85 = .ok (.iload_n 3, 1) := by decide +kernel
theorem dX10_chorus_86 : decode cX10_chorus 86 = .ok (.aload_n 0, 1) := by decide +kernel
theorem dX10_chorus_87 : decode cX10_chorus 87 = .ok (.getfield 32, 3) := by decide +kernel
theorem dX10_chorus_90 : decode cX10_chorus 90 = .ok (.iconst 2, 1) := by decide +kernel
theorem dX10_chorus_91 : decode cX10_chorus 91 = .ok (.iload_n 1, 1) := by decide +kernel
theorem dX10_chorus_92 : decode cX10_chorus 92 = .ok (.imul, 1) := by decide +kernel
theorem dX10_chorus_93 : decode cX10_chorus 93 = .ok (.iaload, 1) := by decide +kernel
theorem dX10_chorus_94 : decode cX10_chorus 94 = .ok (.if_icmp .le 14, 3) := by decide +kernel
theorem dX10_chorus_108 : decode cX10_chorus 108 = .ok (.iload_n 3, 1) := by decide +kernel
theorem dX10_chorus_109 : decode cX10_chorus 109 = .ok (.ireturn, 1) := by decide +kernel
theorem dX10_chorus_97 : decode cX10_chorus 97 = .ok (.aload_n 0, 1) := by decide +kernel
theorem dX10_chorus_98 : decode cX10_chorus 98 = .ok (.getfield 32, 3) := by decide +kernel
theorem dX10_chorus_101 : decode cX10_chorus 101 = .ok (.iconst 2, 1) := by decide +kernel
theorem dX10_chorus_102 : decode cX10_chorus 102 = .ok (.iload_n 1, 1) := by decide +kernel
theorem dX10_chorus_103 : decode cX10_chorus 103 = .ok (.imul, 1) := by decide +kernel
theorem dX10_chorus_104 : decode cX10_chorus 104 = .ok (.iaload, 1) := by decide +kernel
theorem dX10_chorus_105 : decode cX10_chorus 105 = .ok (.goto 4, 3) := by decide +kernel
theorem dX10_chorus_62 : decode cX10_chorus 62 = .ok (.iload_n 3, 1) := by decide +kernel
theorem dX10_chorus_63 : decode cX10_chorus 63 = .ok (.iload_n 2, 1) := by decide +kernel
theorem dX10_chorus_64 : decode cX10_chorus 64 = .ok (.iload 4, 2) := by decide +kernel
theorem dX10_chorus_66 : decode cX10_chorus 66 = .ok (.ishr, 1) := by decide +kernel
theorem dX10_chorus_67 : decode cX10_chorus 67 = .ok (.iconst 1, 1) := by decide +kernel
theorem dX10_chorus_68 : decode cX10_chorus 68 = .ok (.iand, 1) := by decide +kernel
theorem dX10_chorus_69 : decode cX10_chorus 69 = .ok (.aload_n 0, 1) := by decide +kernel
theorem dX10_chorus_70 : decode cX10_chorus 70 = .ok (.iload 4, 2) := by decide +kernel
theorem dX10_chorus_72 : decode cX10_chorus 72 = .ok (.iload_n 1, 1) := by decide +kernel
theorem dX10_chorus_73 : decode cX10_chorus 73 = .ok (.invokevirtual 340, 3) := by decide +kernel
theorem dX10_chorus_76 : decode cX10_chorus 76 = .ok (.imul, 1) := by decide +kernel
theorem dX10_chorus_77 : decode cX10_chorus 77 = .ok (.iadd, 1) := by decide +kernel
theorem dX10_chorus_78 : decode cX10_chorus 78 = .ok (.istore_n 3, 1) := by decide +kernel
theorem dX10_chorus_79 : decode cX10_chorus 79 = .ok (.iinc 4 1, 3) := by decide +kernel
theorem dX10_chorus_82 : decode cX10_chorus 82 = .ok (.goto (-29), 3) := by decide +kernel
theorem dX10_season_0 : decode cX10_season 0 = .ok (.aload_n 0, 1) := by decide +kernel
theorem dX10_season_1 : decode cX10_season 1 = .ok (.iconst 0, 1) := by decide +kernel
theorem dX10_season_2 : decode cX10_season 2 = .ok (.putfield 3, 3) := by decide +kernel
theorem dX10_season_5 : decode cX10_season 5 = .ok (.aload_n 0, 1) := by decide +kernel
theorem dX10_season_6 : decode cX10_season 6 = .ok (.iload_n 2, 1) := by decide +kernel
theorem dX10_season_7 : decode cX10_season 7 = .ok (.iload_n 3, 1) := by decide +kernel
theorem dX10_isSeason_0 : decode cX10_isSeason 0 = .ok (.iload_n 0, 1) := by decide +kernel
theorem dX10_isSeason_1 : decode cX10_isSeason 1 = .ok (.ifCond .lt 24, 3) := by decide +kernel
theorem dX10_isSeason_25 : decode cX10_isSeason 25 = .ok (.iconst 0, 1) := by decide +kernel
theorem dX10_isSeason_26 : decode cX10_isSeason 26 = .ok (.ireturn, 1) := by decide +kernel
theorem dX10_isSeason_4 : decode cX10_isSeason 4 = .ok (.iload_n 0, 1) := by decide +kernel
theorem dX10_isSeason_5 : decode cX10_isSeason 5 = .ok (.bipush 16, 2) := by decide +kernel
theorem dX10_isSeason_7 : decode cX10_isSeason 7 = .ok (.if_icmp .gt 18, 3) := by decide +kernel
theorem dX10_isSeason_10 : decode cX10_isSeason 10 = .ok (.iload_n 1, 1) := by decide +kernel
theorem dX10_isSeason_11 : decode cX10_isSeason 11 = .ok (.iconst 1, 1) := by decide +kernel
theorem dX10_isSeason_12 : decode cX10_isSeason 12 = .ok (.if_icmp .lt 13, 3) := by decide +kernel
theorem dX10_isSeason_15 : decode cX10_isSeason 15 = .ok (.iload_n 1, 1) := by decide +kernel
theorem dX10_isSeason_16 : decode cX10_isSeason 16 = .ok (.bipush 48, 2) := by decide +kernel
theorem dX10_isSeason_18 : decode cX10_isSeason 18 = .ok (.if_icmp .gt 7, 3) := by decide +kernel
theorem dX10_isSeason_21 : decode cX10_isSeason 21 = .ok (.iconst 1, 1) := by decide +kernel
theorem dX10_isSeason_22 : decode cX10_isSeason 22 = .ok (.goto 4, 3) := by decide +kernel
theorem dX10_season_8 : decode cX10_season 8 = .ok (.invokestatic 460, 3) := by decide +kernel
theorem dX10_season_11 : decode cX10_season 11 = .ok (.ifCond .eq 17, 3) := by decide +kernel
theorem dX10_season_14 : decode cX10_season 14 = .ok (.iload 4, 2) := by decide +kernel
theorem dX10_season_16 : decode cX10_season 16 = .ok (.iconst 0, 1) := by decide +kernel
theorem dX10_season_17 : decode cX10_season 17 = .ok (.iconst 3, 1) := by decide +kernel
theorem dX10_season_18 : decode cX10_season 18 = .ok (.invokestatic 384, 3) := by decide +kernel
theorem dX10_season_21 : decode cX10_season 21 = .ok (.ifCond .eq 7, 3) := by decide +kernel
theorem dX10_season_24 : decode cX10_season 24 = .ok (.iconst 1, 1) := by decide +kernel
theorem dX10_season_25 : decode cX10_season 25 = .ok (.goto 4, 3) := by decide +kernel
theorem dX10_season_28 : decode cX10_season 28 = .ok (.iconst 0, 1) := by decide +kernel
theorem dX10_season_29 : decode cX10_season 29 = .ok (.iconst 1, 1) := by decide +kernel
theorem dX10_season_30 : decode cX10_season 30 = .ok (.iconst 1, 1) := by decide +kernel
theorem dX10_season_31 : decode cX10_season 31 = .ok (.invokevirtual 200, 3) := by decide +kernel
theorem dX10_season_34 : decode cX10_season 34 = .ok (.ifCond .ne 5, 3) := by decide +kernel
theorem dX10_season_39 : decode cX10_season 39 = .ok (.aload_n 0, 1) := by decide +kernel
theorem dX10_season_40 : decode cX10_season 40 = .ok (.iload_n 1, 1) := by decide +kernel
theorem dX10_season_41 : decode cX10_season 41 = .ok (.iload_n 2, 1) := by decide +kernel
theorem dX10_season_42 : decode cX10_season 42 = .ok (.iload_n 3, 1) := by decide +kernel
theorem dX10_seasonGoes_0 : decode cX10_seasonGoes 0 = .ok (.aload_n 0, 1) := by decide +kernel
theorem dX10_seasonGoes_1 : decode cX10_seasonGoes 1 = .ok (.invokevirtual 309, 3) := by decide +kernel
theorem dX10_seasonGoes_4 : decode cX10_seasonGoes 4 = .ok (.aload_n 0, 1) := by decide +kernel
theorem dX10_seasonGoes_5 : decode cX10_seasonGoes 5 = .ok (.iload_n 1, 1) := by decide +kernel
theorem dX10_seasonGoes_6 : decode cX10_seasonGoes 6 = .ok (.putfield 453, 3) := by decide +kernel
theorem dX10_seasonGoes_9 : decode cX10_seasonGoes 9 = .ok (.iconst 0, 1) := by decide +kernel
theorem dX10_seasonGoes_10 : decode cX10_seasonGoes 10 = .ok (.istore 4, 2) := by decide +kernel
theorem dX10_seasonGoes_12 : decode cX10_seasonGoes 12 = .ok (.iload 4, 2) := by decide +kernel
theorem dX10_seasonGoes_14 : decode cX10_seasonGoes 14 = .ok (.iload_n 3, 1) := by decide +kernel
theorem dX10_seasonGoes_15 : decode cX10_seasonGoes 15 = .ok (.if_icmp .ge 82, 3) := by decide +kernel
theorem dX10_seasonGoes_97 : decode cX10_seasonGoes 97 = .ok (.return_, 1) := by decide +kernel
theorem dX10_seasonGoes_18 : decode cX10_seasonGoes 18 = .ok (.aload_n 0, 1) := by decide +kernel
theorem dX10_seasonGoes_19 : decode cX10_seasonGoes 19 = .ok (.getfield 160, 3) := by decide +kernel
theorem dX10_seasonGoes_22 : decode cX10_seasonGoes 22 = .ok (.ifCond .le 65, 3) := by decide +kernel
theorem dX10_seasonGoes_25 : decode cX10_seasonGoes 25 = .ok (.aload_n 0, 1) := by decide +kernel
theorem dX10_seasonGoes_26 : decode cX10_seasonGoes 26 = .ok (.getfield 157, 3) := by decide +kernel
theorem dX10_seasonGoes_29 : decode cX10_seasonGoes 29 = .ok (.ifCond .le 58, 3) := by decide +kernel
theorem dX10_seasonGoes_32 : decode cX10_seasonGoes 32 = .ok (.aload_n 0, 1) := by decide +kernel
theorem dX10_seasonGoes_33 : decode cX10_seasonGoes 33 = .ok (.aload_n 0, 1) := by decide +kernel
theorem dX10_seasonGoes_34 : decode cX10_seasonGoes 34 = .ok (.getfield 160, 3) := by decide +kernel
theorem dX10_draws_0 : decode cX10_draws 0 = .ok (.aload_n 0, 1) := by decide +kernel
theorem dX10_draws_1 : decode cX10_draws 1 = .ok (.aload_n 0, 1) := by decide +kernel
theorem dX10_draws_2 : decode cX10_draws 2 = .ok (.getfield 453, 3) := by decide +kernel
theorem dX10_draws_5 : decode cX10_draws 5 = .ok (.ldc_w 456, 3) := by decide +kernel
theorem dX10_draws_8 : decode cX10_draws 8 = .ok (.imul, 1) := by decide +kernel
theorem dX10_draws_9 : decode cX10_draws 9 = .ok (.sipush 12345, 3) := by decide +kernel
theorem dX10_draws_12 : decode cX10_draws 12 = .ok (.iadd, 1) := by decide +kernel
theorem dX10_draws_13 : decode cX10_draws 13 = .ok (.putfield 453, 3) := by decide +kernel
theorem dX10_draws_16 : decode cX10_draws 16 = .ok (.aload_n 0, 1) := by decide +kernel
theorem dX10_draws_17 : decode cX10_draws 17 = .ok (.getfield 453, 3) := by decide +kernel
theorem dX10_draws_20 : decode cX10_draws 20 = .ok (.bipush 16, 2) := by decide +kernel
theorem dX10_draws_22 : decode cX10_draws 22 = .ok (.ishr, 1) := by decide +kernel
theorem dX10_draws_23 : decode cX10_draws 23 = .ok (.sipush 32767, 3) := by decide +kernel
theorem dX10_draws_26 : decode cX10_draws 26 = .ok (.iand, 1) := by decide +kernel
theorem dX10_draws_27 : decode cX10_draws 27 = .ok (.iload_n 1, 1) := by decide +kernel
theorem dX10_draws_28 : decode cX10_draws 28 = .ok (.irem, 1) := by decide +kernel
theorem dX10_draws_29 : decode cX10_draws 29 = .ok (.ireturn, 1) := by decide +kernel
theorem dX10_seasonGoes_37 : decode cX10_seasonGoes 37 = .ok (.invokevirtual 457, 3) := by decide +kernel
theorem dX10_seasonGoes_40 : decode cX10_seasonGoes 40 = .ok (.istore 5, 2) := by decide +kernel
theorem dX10_seasonGoes_42 : decode cX10_seasonGoes 42 = .ok (.aload_n 0, 1) := by decide +kernel
theorem dX10_seasonGoes_43 : decode cX10_seasonGoes 43 = .ok (.iload 5, 2) := by decide +kernel
theorem dX10_seasonGoes_45 : decode cX10_seasonGoes 45 = .ok (.aload_n 0, 1) := by decide +kernel
theorem dX10_seasonGoes_46 : decode cX10_seasonGoes 46 = .ok (.aload_n 0, 1) := by decide +kernel
theorem dX10_seasonGoes_47 : decode cX10_seasonGoes 47 = .ok (.getfield 157, 3) := by decide +kernel
theorem dX10_seasonGoes_50 : decode cX10_seasonGoes 50 = .ok (.invokevirtual 457, 3) := by decide +kernel
theorem dX10_seasonGoes_53 : decode cX10_seasonGoes 53 = .ok (.invokevirtual 369, 3) := by decide +kernel
theorem dX10_seasonGoes_56 : decode cX10_seasonGoes 56 = .ok (.pop, 1) := by decide +kernel
theorem dX10_seasonGoes_57 : decode cX10_seasonGoes 57 = .ok (.aload_n 0, 1) := by decide +kernel
theorem dX10_seasonGoes_58 : decode cX10_seasonGoes 58 = .ok (.bipush 16, 2) := by decide +kernel
theorem dX10_seasonGoes_60 : decode cX10_seasonGoes 60 = .ok (.invokevirtual 457, 3) := by decide +kernel
theorem dX10_seasonGoes_63 : decode cX10_seasonGoes 63 = .ok (.iload_n 2, 1) := by decide +kernel
theorem dX10_seasonGoes_64 : decode cX10_seasonGoes 64 = .ok (.if_icmp .ge 23, 3) := by decide +kernel
theorem dX10_seasonGoes_67 : decode cX10_seasonGoes 67 = .ok (.aload_n 0, 1) := by decide +kernel
theorem dX10_seasonGoes_68 : decode cX10_seasonGoes 68 = .ok (.getfield 163, 3) := by decide +kernel
theorem dX10_seasonGoes_71 : decode cX10_seasonGoes 71 = .ok (.ifCond .le 16, 3) := by decide +kernel
theorem dX10_seasonGoes_74 : decode cX10_seasonGoes 74 = .ok (.aload_n 0, 1) := by decide +kernel
theorem dX10_seasonGoes_75 : decode cX10_seasonGoes 75 = .ok (.aload_n 0, 1) := by decide +kernel
theorem dX10_seasonGoes_76 : decode cX10_seasonGoes 76 = .ok (.aload_n 0, 1) := by decide +kernel
theorem dX10_seasonGoes_77 : decode cX10_seasonGoes 77 = .ok (.getfield 163, 3) := by decide +kernel
theorem dX10_seasonGoes_80 : decode cX10_seasonGoes 80 = .ok (.invokevirtual 457, 3) := by decide +kernel
theorem dX10_seasonGoes_83 : decode cX10_seasonGoes 83 = .ok (.invokevirtual 375, 3) := by decide +kernel
theorem dX10_seasonGoes_86 : decode cX10_seasonGoes 86 = .ok (.pop, 1) := by decide +kernel
theorem dX10_seasonGoes_87 : decode cX10_seasonGoes 87 = .ok (.aload_n 0, 1) := by decide +kernel
theorem dX10_seasonGoes_88 : decode cX10_seasonGoes 88 = .ok (.invokevirtual 381, 3) := by decide +kernel
theorem dX10_seasonGoes_91 : decode cX10_seasonGoes 91 = .ok (.iinc 4 1, 3) := by decide +kernel
theorem dX10_seasonGoes_94 : decode cX10_seasonGoes 94 = .ok (.goto (-82), 3) := by decide +kernel
theorem dX10_season_43 : decode cX10_season 43 = .ok (.invokevirtual 463, 3) := by decide +kernel
theorem dX10_season_46 : decode cX10_season 46 = .ok (.iload 4, 2) := by decide +kernel
theorem dX10_season_48 : decode cX10_season 48 = .ok (.iconst 2, 1) := by decide +kernel
theorem dX10_season_49 : decode cX10_season 49 = .ok (.if_icmp .ge 26, 3) := by decide +kernel
theorem dX10_season_75 : decode cX10_season 75 = .ok (.iload 4, 2) := by decide +kernel
theorem dX10_season_77 : decode cX10_season 77 = .ok (.iconst 2, 1) := by decide +kernel
theorem dX10_season_78 : decode cX10_season 78 = .ok (.if_icmp .ne 8, 3) := by decide +kernel
theorem dX10_season_86 : decode cX10_season 86 = .ok (.bipush 60, 2) := by decide +kernel
theorem dX10_season_88 : decode cX10_season 88 = .ok (.istore 5, 2) := by decide +kernel
theorem dX10_season_90 : decode cX10_season 90 = .ok (.iconst 0, 1) := by decide +kernel
theorem dX10_season_91 : decode cX10_season 91 = .ok (.istore 6, 2) := by decide +kernel
theorem dX10_season_93 : decode cX10_season 93 = .ok (.iconst 0, 1) := by decide +kernel
theorem dX10_season_94 : decode cX10_season 94 = .ok (.istore 7, 2) := by decide +kernel
theorem dX10_season_81 : decode cX10_season 81 = .ok (.bipush 72, 2) := by decide +kernel
theorem dX10_season_83 : decode cX10_season 83 = .ok (.goto 5, 3) := by decide +kernel
theorem dX10_season_52 : decode cX10_season 52 = .ok (.iload 4, 2) := by decide +kernel
theorem dX10_season_54 : decode cX10_season 54 = .ok (.ifCond .ne 16, 3) := by decide +kernel
theorem dX10_season_70 : decode cX10_season 70 = .ok (.aload_n 0, 1) := by decide +kernel
theorem dX10_season_71 : decode cX10_season 71 = .ok (.invokevirtual 393, 3) := by decide +kernel
theorem dX10_season_74 : decode cX10_season 74 = .ok (.ireturn, 1) := by decide +kernel
theorem dX10_season_57 : decode cX10_season 57 = .ok (.aload_n 0, 1) := by decide +kernel
theorem dX10_season_58 : decode cX10_season 58 = .ok (.bipush 84, 2) := by decide +kernel
theorem dX10_season_60 : decode cX10_season 60 = .ok (.aload_n 0, 1) := by decide +kernel
theorem dX10_season_61 : decode cX10_season 61 = .ok (.getfield 163, 3) := by decide +kernel
theorem dX10_season_64 : decode cX10_season 64 = .ok (.invokevirtual 387, 3) := by decide +kernel
theorem dX10_season_67 : decode cX10_season 67 = .ok (.goto 7, 3) := by decide +kernel
theorem dX10_season_37 : decode cX10_season 37 = .ok (.iconst 0, 1) := by decide +kernel
theorem dX10_season_38 : decode cX10_season 38 = .ok (.ireturn, 1) := by decide +kernel
theorem dX10_season_96 : decode cX10_season 96 = .ok (.iload 7, 2) := by decide +kernel
theorem dX10_season_98 : decode cX10_season 98 = .ok (.aload_n 0, 1) := by decide +kernel
theorem dX10_season_99 : decode cX10_season 99 = .ok (.getfield 160, 3) := by decide +kernel
theorem dX10_season_102 : decode cX10_season 102 = .ok (.if_icmp .ge 35, 3) := by decide +kernel
theorem dX10_season_137 : decode cX10_season 137 = .ok (.iload 6, 2) := by decide +kernel
theorem dX10_season_139 : decode cX10_season 139 = .ok (.ireturn, 1) := by decide +kernel
theorem dX10_season_105 : decode cX10_season 105 = .ok (.iload 6, 2) := by decide +kernel
theorem dX10_season_107 : decode cX10_season 107 = .ok (.aload_n 0, 1) := by decide +kernel
theorem dX10_season_108 : decode cX10_season 108 = .ok (.getfield 68, 3) := by decide +kernel
theorem dX10_season_111 : decode cX10_season 111 = .ok (.iload 5, 2) := by decide +kernel
theorem dX10_season_113 : decode cX10_season 113 = .ok (.iload 7, 2) := by decide +kernel
theorem dX10_season_115 : decode cX10_season 115 = .ok (.iadd, 1) := by decide +kernel
theorem dX10_season_116 : decode cX10_season 116 = .ok (.iaload, 1) := by decide +kernel
theorem dX10_season_117 : decode cX10_season 117 = .ok (.aload_n 0, 1) := by decide +kernel
theorem dX10_season_118 : decode cX10_season 118 = .ok (.getfield 65, 3) := by decide +kernel
theorem dX10_season_121 : decode cX10_season 121 = .ok (.iload 5, 2) := by decide +kernel
theorem dX10_season_123 : decode cX10_season 123 = .ok (.iload 7, 2) := by decide +kernel
theorem dX10_season_125 : decode cX10_season 125 = .ok (.iadd, 1) := by decide +kernel
theorem dX10_season_126 : decode cX10_season 126 = .ok (.iaload, 1) := by decide +kernel
theorem dX10_season_127 : decode cX10_season 127 = .ok (.isub, 1) := by decide +kernel
theorem dX10_season_128 : decode cX10_season 128 = .ok (.iadd, 1) := by decide +kernel
theorem dX10_season_129 : decode cX10_season 129 = .ok (.istore 6, 2) := by decide +kernel
theorem dX10_season_131 : decode cX10_season 131 = .ok (.iinc 7 1, 3) := by decide +kernel
theorem dX10_season_134 : decode cX10_season 134 = .ok (.goto (-38), 3) := by decide +kernel
theorem dX10_span_0 : decode cX10_span 0 = .ok (.aload_n 0, 1) := by decide +kernel
theorem dX10_span_1 : decode cX10_span 1 = .ok (.iconst 0, 1) := by decide +kernel
theorem dX10_span_2 : decode cX10_span 2 = .ok (.putfield 3, 3) := by decide +kernel
theorem dX10_span_5 : decode cX10_span 5 = .ok (.aload_n 0, 1) := by decide +kernel
theorem dX10_span_6 : decode cX10_span 6 = .ok (.iload_n 2, 1) := by decide +kernel
theorem dX10_span_7 : decode cX10_span 7 = .ok (.iconst 1, 1) := by decide +kernel
theorem dX10_span_8 : decode cX10_span 8 = .ok (.bipush 10, 2) := by decide +kernel
theorem dX10_span_10 : decode cX10_span 10 = .ok (.invokestatic 384, 3) := by decide +kernel
theorem dX10_span_13 : decode cX10_span 13 = .ok (.ifCond .eq 41, 3) := by decide +kernel
theorem dX10_span_16 : decode cX10_span 16 = .ok (.iload_n 3, 1) := by decide +kernel
theorem dX10_span_17 : decode cX10_span 17 = .ok (.iload 4, 2) := by decide +kernel
theorem dX10_span_19 : decode cX10_span 19 = .ok (.invokestatic 460, 3) := by decide +kernel
theorem dX10_span_22 : decode cX10_span 22 = .ok (.ifCond .eq 32, 3) := by decide +kernel
theorem dX10_span_25 : decode cX10_span 25 = .ok (.iload 5, 2) := by decide +kernel
theorem dX10_span_27 : decode cX10_span 27 = .ok (.iconst 0, 1) := by decide +kernel
theorem dX10_span_28 : decode cX10_span 28 = .ok (.iconst 2, 1) := by decide +kernel
theorem dX10_span_29 : decode cX10_span 29 = .ok (.invokestatic 384, 3) := by decide +kernel
theorem dX10_span_32 : decode cX10_span 32 = .ok (.ifCond .eq 22, 3) := by decide +kernel
theorem dX10_span_35 : decode cX10_span 35 = .ok (.iload 6, 2) := by decide +kernel
theorem dX10_span_37 : decode cX10_span 37 = .ok (.iconst 0, 1) := by decide +kernel
theorem dX10_span_38 : decode cX10_span 38 = .ok (.aload_n 0, 1) := by decide +kernel
theorem dX10_span_39 : decode cX10_span 39 = .ok (.getfield 163, 3) := by decide +kernel
theorem dX10_span_42 : decode cX10_span 42 = .ok (.iconst 1, 1) := by decide +kernel
theorem dX10_span_43 : decode cX10_span 43 = .ok (.isub, 1) := by decide +kernel
theorem dX10_span_44 : decode cX10_span 44 = .ok (.invokestatic 384, 3) := by decide +kernel
theorem dX10_span_47 : decode cX10_span 47 = .ok (.ifCond .eq 7, 3) := by decide +kernel
theorem dX10_span_50 : decode cX10_span 50 = .ok (.iconst 1, 1) := by decide +kernel
theorem dX10_span_51 : decode cX10_span 51 = .ok (.goto 4, 3) := by decide +kernel
theorem dX10_span_54 : decode cX10_span 54 = .ok (.iconst 0, 1) := by decide +kernel
theorem dX10_span_55 : decode cX10_span 55 = .ok (.iconst 1, 1) := by decide +kernel
theorem dX10_span_56 : decode cX10_span 56 = .ok (.iconst 1, 1) := by decide +kernel
theorem dX10_span_57 : decode cX10_span 57 = .ok (.invokevirtual 200, 3) := by decide +kernel
theorem dX10_span_60 : decode cX10_span 60 = .ok (.ifCond .ne 5, 3) := by decide +kernel
theorem dX10_span_65 : decode cX10_span 65 = .ok (.iconst (-1), 1) := by decide +kernel
theorem dX10_span_66 : decode cX10_span 66 = .ok (.istore 7, 2) := by decide +kernel
theorem dX10_span_68 : decode cX10_span 68 = .ok (.iconst 0, 1) := by decide +kernel
theorem dX10_span_69 : decode cX10_span 69 = .ok (.istore 8, 2) := by decide +kernel
theorem dX10_span_71 : decode cX10_span 71 = .ok (.iconst 0, 1) := by decide +kernel
theorem dX10_span_72 : decode cX10_span 72 = .ok (.istore 9, 2) := by decide +kernel
theorem dX10_span_74 : decode cX10_span 74 = .ok (.iconst 0, 1) := by decide +kernel
theorem dX10_span_75 : decode cX10_span 75 = .ok (.istore 10, 2) := by decide +kernel
theorem dX10_span_63 : decode cX10_span 63 = .ok (.iconst 0, 1) := by decide +kernel
theorem dX10_span_64 : decode cX10_span 64 = .ok (.ireturn, 1) := by decide +kernel
theorem dX10_span_77 : decode cX10_span 77 = .ok (.iload 10, 2) := by decide +kernel
theorem dX10_span_79 : decode cX10_span 79 = .ok (.iload_n 2, 1) := by decide +kernel
theorem dX10_span_80 : decode cX10_span 80 = .ok (.if_icmp .ge 79, 3) := by decide +kernel
theorem dX10_span_159 : decode cX10_span 159 = .ok (.iload 5, 2) := by decide +kernel
theorem dX10_span_161 : decode cX10_span 161 = .ok (.ifCond .ne 8, 3) := by decide +kernel
theorem dX10_span_169 : decode cX10_span 169 = .ok (.iload 5, 2) := by decide +kernel
theorem dX10_span_171 : decode cX10_span 171 = .ok (.iconst 1, 1) := by decide +kernel
theorem dX10_span_172 : decode cX10_span 172 = .ok (.if_icmp .ne 8, 3) := by decide +kernel
theorem dX10_span_180 : decode cX10_span 180 = .ok (.iload 9, 2) := by decide +kernel
theorem dX10_span_182 : decode cX10_span 182 = .ok (.ireturn, 1) := by decide +kernel
theorem dX10_span_175 : decode cX10_span 175 = .ok (.iload 8, 2) := by decide +kernel
theorem dX10_span_177 : decode cX10_span 177 = .ok (.goto 5, 3) := by decide +kernel
theorem dX10_span_164 : decode cX10_span 164 = .ok (.iload 7, 2) := by decide +kernel
theorem dX10_span_166 : decode cX10_span 166 = .ok (.goto 16, 3) := by decide +kernel
theorem dX10_span_83 : decode cX10_span 83 = .ok (.aload_n 0, 1) := by decide +kernel
theorem dX10_span_84 : decode cX10_span 84 = .ok (.iload_n 1, 1) := by decide +kernel
theorem dX10_span_85 : decode cX10_span 85 = .ok (.iload 10, 2) := by decide +kernel
theorem dX10_span_87 : decode cX10_span 87 = .ok (.iadd, 1) := by decide +kernel
