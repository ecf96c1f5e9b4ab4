/-! the law's helpers -/
theorem q_1355 : Cond.methodLink RL 7 yX9_valley ∈ tblG := tg 526 (by decide +kernel) rfl
theorem q_1356 : Cond.classLink RL 13 "java/lang/IllegalArgumentException" ∈ tblG := tg 525 (by decide +kernel) rfl
theorem q_1357 : Cond.methodLink RL 15 yX9_law ∈ tblG := tg 744 (by decide +kernel) rfl
theorem q_1358 : Cond.methodLink RL 18 yX9_work ∈ tblG := tg 812 (by decide +kernel) rfl
theorem q_1359 : Cond.methodLink RL 21 yX9_book ∈ tblG := tg 967 (by decide +kernel) rfl
theorem q_1360 : Cond.methodLink RL 24 yX9_told ∈ tblG := tg 992 (by decide +kernel) rfl
theorem q_1361 : Cond.methodLink RL 27 yX9_poem ∈ tblG := tg 1020 (by decide +kernel) rfl
theorem q_1362 : Cond.classLink RL 31 "java/util/NoSuchElementException" ∈ tblG := tg 1019 (by decide +kernel) rfl
theorem q_1363 : Cond.methodLink RL 33 yX9_man ∈ tblG := tg 1063 (by decide +kernel) rfl
theorem q_1364 : Cond.methodLink RL 36 yX9_debt ∈ tblG := tg 1093 (by decide +kernel) rfl
theorem q_1365 : Cond.methodLink RL 39 yX9_knows ∈ tblG := tg 1110 (by decide +kernel) rfl
theorem q_1366 : Cond.methodLink RL 42 yX9_learns ∈ tblG := tg 1121 (by decide +kernel) rfl
theorem q_1367 : Cond.methodLink RL 45 yX9_would ∈ tblG := tg 1129 (by decide +kernel) rfl
theorem q_1368 : Cond.methodLink RL 49 yX9_ahead ∈ tblG := tg 1139 (by decide +kernel) rfl
theorem q_1369 : Cond.methodLink RL 52 yX9_lessons ∈ tblG := tg 1156 (by decide +kernel) rfl
theorem q_1370 : Cond.methodLink RL 55 yX9_pays ∈ tblG := tg 1169 (by decide +kernel) rfl
theorem q_1371 : Cond.methodLink RL 58 yX9_hardest ∈ tblG := tg 1211 (by decide +kernel) rfl
theorem q_1372 : Cond.methodLink RL 61 yX9_fits ∈ tblG := tg 1223 (by decide +kernel) rfl
theorem q_1373 : Cond.methodLink RL 64 yX9_look ∈ tblG := tg 1236 (by decide +kernel) rfl
theorem q_1374 : Cond.methodLink RL 67 yX9_kept ∈ tblG := tg 1259 (by decide +kernel) rfl
theorem q_1375 : Cond.methodLink RL 71 yX9_fair ∈ tblG := tg 1273 (by decide +kernel) rfl
theorem q_1376 : Cond.methodLink RL 75 yX9_candles ∈ tblG := tg 1283 (by decide +kernel) rfl
theorem q_1377 : Cond.methodLink RL 78 yX9_fullest ∈ tblG := tg 1298 (by decide +kernel) rfl
theorem q_1378 : Cond.methodLink RL 81 yX9_partners ∈ tblG := tg 1305 (by decide +kernel) rfl
theorem q_1379 : Cond.methodLink RL 84 yX9_fades ∈ tblG := tg 1313 (by decide +kernel) rfl
theorem q_1380 : Cond.methodLink RL 87 yX9_next ∈ tblG := tg 1320 (by decide +kernel) rfl
theorem q_1381 : Cond.methodLink RL 90 yX9_gains ∈ tblG := tg 1327 (by decide +kernel) rfl
theorem q_1382 : Cond.methodLink RL 93 yX9_closest ∈ tblG := tg 1334 (by decide +kernel) rfl
theorem q_1383 : Cond.methodLink RL 96 yX9_best ∈ tblG := tg 1341 (by decide +kernel) rfl
theorem q_1384 : Cond.methodLink RL 99 yX9_chorus ∈ tblG := tg 1348 (by decide +kernel) rfl
theorem q_1385 : Cond.methodLink RL 102 yX9_season ∈ tblG := tg 1355 (by decide +kernel) rfl
theorem q_1386 : Cond.methodLink RL 106 yX9_span ∈ tblG := tg 1380 (by decide +kernel) rfl
theorem dL_valley_0 : decode cL_valley 0 = .ok (.aload_n 2, 1) := by decide +kernel
theorem dL_valley_1 : decode cL_valley 1 = .ok (.iconst 0, 1) := by decide +kernel
theorem dL_valley_2 : decode cL_valley 2 = .ok (.aload_n 0, 1) := by decide +kernel
theorem dL_valley_3 : decode cL_valley 3 = .ok (.iload_n 1, 1) := by decide +kernel
theorem dL_valley_4 : decode cL_valley 4 = .ok (.invokevirtual 7, 3) := by decide +kernel
theorem dL_valley_7 : decode cL_valley 7 = .ok (.i2l, 1) := by decide +kernel
theorem dL_valley_8 : decode cL_valley 8 = .ok (.lastore, 1) := by decide +kernel
theorem dL_valley_9 : decode cL_valley 9 = .ok (.goto 6, 3) := by decide +kernel
theorem dL_valley_15 : decode cL_valley 15 = .ok (.iconst 0, 1) := by decide +kernel
theorem dL_valley_16 : decode cL_valley 16 = .ok (.ireturn, 1) := by decide +kernel
theorem dL_valley_12 : decode cL_valley 12 = .ok (.astore_n 3, 1) := by decide +kernel
theorem dL_valley_13 : decode cL_valley 13 = .ok (.iconst 1, 1) := by decide +kernel
theorem dL_valley_14 : decode cL_valley 14 = .ok (.ireturn, 1) := by decide +kernel
theorem dL_law_0 : decode cL_law 0 = .ok (.aload_n 2, 1) := by decide +kernel
theorem dL_law_1 : decode cL_law 1 = .ok (.iconst 0, 1) := by decide +kernel
theorem dL_law_2 : decode cL_law 2 = .ok (.aload_n 0, 1) := by decide +kernel
theorem dL_law_3 : decode cL_law 3 = .ok (.iload_n 1, 1) := by decide +kernel
theorem dL_law_4 : decode cL_law 4 = .ok (.invokevirtual 15, 3) := by decide +kernel
theorem dL_law_7 : decode cL_law 7 = .ok (.i2l, 1) := by decide +kernel
theorem dL_law_8 : decode cL_law 8 = .ok (.lastore, 1) := by decide +kernel
theorem dL_law_9 : decode cL_law 9 = .ok (.goto 6, 3) := by decide +kernel
theorem dL_law_15 : decode cL_law 15 = .ok (.iconst 0, 1) := by decide +kernel
theorem dL_law_16 : decode cL_law 16 = .ok (.ireturn, 1) := by decide +kernel
theorem dL_law_12 : decode cL_law 12 = .ok (.astore_n 3, 1) := by decide +kernel
theorem dL_law_13 : decode cL_law 13 = .ok (.iconst 1, 1) := by decide +kernel
theorem dL_law_14 : decode cL_law 14 = .ok (.ireturn, 1) := by decide +kernel
theorem dL_work_0 : decode cL_work 0 = .ok (.aload_n 2, 1) := by decide +kernel
theorem dL_work_1 : decode cL_work 1 = .ok (.iconst 0, 1) := by decide +kernel
theorem dL_work_2 : decode cL_work 2 = .ok (.aload_n 0, 1) := by decide +kernel
theorem dL_work_3 : decode cL_work 3 = .ok (.iload_n 1, 1) := by decide +kernel
theorem dL_work_4 : decode cL_work 4 = .ok (.invokevirtual 18, 3) := by decide +kernel
theorem dL_work_7 : decode cL_work 7 = .ok (.i2l, 1) := by decide +kernel
theorem dL_work_8 : decode cL_work 8 = .ok (.lastore, 1) := by decide +kernel
theorem dL_work_9 : decode cL_work 9 = .ok (.goto 6, 3) := by decide +kernel
theorem dL_work_15 : decode cL_work 15 = .ok (.iconst 0, 1) := by decide +kernel
theorem dL_work_16 : decode cL_work 16 = .ok (.ireturn, 1) := by decide +kernel
theorem dL_work_12 : decode cL_work 12 = .ok (.astore_n 3, 1) := by decide +kernel
theorem dL_work_13 : decode cL_work 13 = .ok (.iconst 1, 1) := by decide +kernel
theorem dL_work_14 : decode cL_work 14 = .ok (.ireturn, 1) := by decide +kernel
theorem dL_book_0 : decode cL_book 0 = .ok (.aload_n 2, 1) := by decide +kernel
theorem dL_book_1 : decode cL_book 1 = .ok (.iconst 0, 1) := by decide +kernel
theorem dL_book_2 : decode cL_book 2 = .ok (.aload_n 0, 1) := by decide +kernel
theorem dL_book_3 : decode cL_book 3 = .ok (.iload_n 1, 1) := by decide +kernel
theorem dL_book_4 : decode cL_book 4 = .ok (.invokevirtual 21, 3) := by decide +kernel
theorem dL_book_7 : decode cL_book 7 = .ok (.i2l, 1) := by decide +kernel
theorem dL_book_8 : decode cL_book 8 = .ok (.lastore, 1) := by decide +kernel
theorem dL_book_9 : decode cL_book 9 = .ok (.goto 6, 3) := by decide +kernel
theorem dL_book_15 : decode cL_book 15 = .ok (.iconst 0, 1) := by decide +kernel
theorem dL_book_16 : decode cL_book 16 = .ok (.ireturn, 1) := by decide +kernel
theorem dL_book_12 : decode cL_book 12 = .ok (.astore_n 3, 1) := by decide +kernel
theorem dL_book_13 : decode cL_book 13 = .ok (.iconst 1, 1) := by decide +kernel
theorem dL_book_14 : decode cL_book 14 = .ok (.ireturn, 1) := by decide +kernel
theorem dL_told_0 : decode cL_told 0 = .ok (.aload_n 2, 1) := by decide +kernel
theorem dL_told_1 : decode cL_told 1 = .ok (.iconst 0, 1) := by decide +kernel
theorem dL_told_2 : decode cL_told 2 = .ok (.aload_n 0, 1) := by decide +kernel
theorem dL_told_3 : decode cL_told 3 = .ok (.iload_n 1, 1) := by decide +kernel
theorem dL_told_4 : decode cL_told 4 = .ok (.invokevirtual 24, 3) := by decide +kernel
theorem dL_told_7 : decode cL_told 7 = .ok (.i2l, 1) := by decide +kernel
theorem dL_told_8 : decode cL_told 8 = .ok (.lastore, 1) := by decide +kernel
theorem dL_told_9 : decode cL_told 9 = .ok (.goto 6, 3) := by decide +kernel
theorem dL_told_15 : decode cL_told 15 = .ok (.iconst 0, 1) := by decide +kernel
theorem dL_told_16 : decode cL_told 16 = .ok (.ireturn, 1) := by decide +kernel
theorem dL_told_12 : decode cL_told 12 = .ok (.astore_n 3, 1) := by decide +kernel
theorem dL_told_13 : decode cL_told 13 = .ok (.iconst 1, 1) := by decide +kernel
theorem dL_told_14 : decode cL_told 14 = .ok (.ireturn, 1) := by decide +kernel
theorem dL_poem_0 : decode cL_poem 0 = .ok (.aload_n 3, 1) := by decide +kernel
theorem dL_poem_1 : decode cL_poem 1 = .ok (.iconst 0, 1) := by decide +kernel
theorem dL_poem_2 : decode cL_poem 2 = .ok (.aload_n 0, 1) := by decide +kernel
theorem dL_poem_3 : decode cL_poem 3 = .ok (.iload_n 1, 1) := by decide +kernel
theorem dL_poem_4 : decode cL_poem 4 = .ok (.iload_n 2, 1) := by decide +kernel
theorem dL_poem_5 : decode cL_poem 5 = .ok (.invokevirtual 27, 3) := by decide +kernel
theorem dL_poem_8 : decode cL_poem 8 = .ok (.i2l, 1) := by decide +kernel
theorem dL_poem_9 : decode cL_poem 9 = .ok (.lastore, 1) := by decide +kernel
theorem dL_poem_10 : decode cL_poem 10 = .ok (.goto 11, 3) := by decide +kernel
theorem dL_poem_21 : decode cL_poem 21 = .ok (.iconst 0, 1) := by decide +kernel
theorem dL_poem_22 : decode cL_poem 22 = .ok (.ireturn, 1) := by decide +kernel
theorem dL_poem_13 : decode cL_poem 13 = .ok (.astore 4, 2) := by decide +kernel
theorem dL_poem_15 : decode cL_poem 15 = .ok (.iconst 1, 1) := by decide +kernel
theorem dL_poem_16 : decode cL_poem 16 = .ok (.ireturn, 1) := by decide +kernel
theorem dL_poem_17 : decode cL_poem 17 = .ok (.astore 4, 2) := by decide +kernel
theorem dL_poem_19 : decode cL_poem 19 = .ok (.iconst 2, 1) := by decide +kernel
theorem dL_poem_20 : decode cL_poem 20 = .ok (.ireturn, 1) := by decide +kernel
theorem dL_man_0 : decode cL_man 0 = .ok (.aload_n 3, 1) := by decide +kernel
theorem dL_man_1 : decode cL_man 1 = .ok (.iconst 0, 1) := by decide +kernel
theorem dL_man_2 : decode cL_man 2 = .ok (.aload_n 0, 1) := by decide +kernel
theorem dL_man_3 : decode cL_man 3 = .ok (.iload_n 1, 1) := by decide +kernel
theorem dL_man_4 : decode cL_man 4 = .ok (.iload_n 2, 1) := by decide +kernel
theorem dL_man_5 : decode cL_man 5 = .ok (.invokevirtual 33, 3) := by decide +kernel
theorem dL_man_8 : decode cL_man 8 = .ok (.i2l, 1) := by decide +kernel
theorem dL_man_9 : decode cL_man 9 = .ok (.lastore, 1) := by decide +kernel
theorem dL_man_10 : decode cL_man 10 = .ok (.goto 11, 3) := by decide +kernel
theorem dL_man_21 : decode cL_man 21 = .ok (.iconst 0, 1) := by decide +kernel
theorem dL_man_22 : decode cL_man 22 = .ok (.ireturn, 1) := by decide +kernel
theorem dL_man_13 : decode cL_man 13 = .ok (.astore 4, 2) := by decide +kernel
theorem dL_man_15 : decode cL_man 15 = .ok (.iconst 1, 1) := by decide +kernel
theorem dL_man_16 : decode cL_man 16 = .ok (.ireturn, 1) := by decide +kernel
theorem dL_man_17 : decode cL_man 17 = .ok (.astore 4, 2) := by decide +kernel
theorem dL_man_19 : decode cL_man 19 = .ok (.iconst 2, 1) := by decide +kernel
theorem dL_man_20 : decode cL_man 20 = .ok (.ireturn, 1) := by decide +kernel
theorem dL_debt_0 : decode cL_debt 0 = .ok (.aload_n 3, 1) := by decide +kernel
theorem dL_debt_1 : decode cL_debt 1 = .ok (.iconst 0, 1) := by decide +kernel
theorem dL_debt_2 : decode cL_debt 2 = .ok (.aload_n 0, 1) := by decide +kernel
theorem dL_debt_3 : decode cL_debt 3 = .ok (.iload_n 1, 1) := by decide +kernel
theorem dL_debt_4 : decode cL_debt 4 = .ok (.iload_n 2, 1) := by decide +kernel
theorem dL_debt_5 : decode cL_debt 5 = .ok (.invokevirtual 36, 3) := by decide +kernel
theorem dL_debt_8 : decode cL_debt 8 = .ok (.i2l, 1) := by decide +kernel
theorem dL_debt_9 : decode cL_debt 9 = .ok (.lastore, 1) := by decide +kernel
theorem dL_debt_10 : decode cL_debt 10 = .ok (.goto 11, 3) := by decide +kernel
theorem dL_debt_21 : decode cL_debt 21 = .ok (.iconst 0, 1) := by decide +kernel
theorem dL_debt_22 : decode cL_debt 22 = .ok (.ireturn, 1) := by decide +kernel
theorem dL_debt_13 : decode cL_debt 13 = .ok (.astore 4, 2) := by decide +kernel
theorem dL_debt_15 : decode cL_debt 15 = .ok (.iconst 1, 1) := by decide +kernel
theorem dL_debt_16 : decode cL_debt 16 = .ok (.ireturn, 1) := by decide +kernel
theorem dL_debt_17 : decode cL_debt 17 = .ok (.astore 4, 2) := by decide +kernel
theorem dL_debt_19 : decode cL_debt 19 = .ok (.iconst 2, 1) := by decide +kernel
theorem dL_debt_20 : decode cL_debt 20 = .ok (.ireturn, 1) := by decide +kernel
theorem dL_knows_0 : decode cL_knows 0 = .ok (.aload_n 3, 1) := by decide +kernel
theorem dL_knows_1 : decode cL_knows 1 = .ok (.iconst 0, 1) := by decide +kernel
theorem dL_knows_2 : decode cL_knows 2 = .ok (.aload_n 0, 1) := by decide +kernel
theorem dL_knows_3 : decode cL_knows 3 = .ok (.iload_n 1, 1) := by decide +kernel
theorem dL_knows_4 : decode cL_knows 4 = .ok (.iload_n 2, 1) := by decide +kernel
theorem dL_knows_5 : decode cL_knows 5 = .ok (.invokevirtual 39, 3) := by decide +kernel
theorem dL_knows_8 : decode cL_knows 8 = .ok (.i2l, 1) := by decide +kernel
theorem dL_knows_9 : decode cL_knows 9 = .ok (.lastore, 1) := by decide +kernel
theorem dL_knows_10 : decode cL_knows 10 = .ok (.goto 7, 3) := by decide +kernel
theorem dL_knows_17 : decode cL_knows 17 = .ok (.iconst 0, 1) := by decide +kernel
theorem dL_knows_18 : decode cL_knows 18 = .ok (.ireturn, 1) := by decide +kernel
theorem dL_knows_13 : decode cL_knows 13 = .ok (.astore 4, 2) := by decide +kernel
theorem dL_knows_15 : decode cL_knows 15 = .ok (.iconst 1, 1) := by decide +kernel
theorem dL_knows_16 : decode cL_knows 16 = .ok (.ireturn, 1) := by decide +kernel
theorem dL_learns_0 : decode cL_learns 0 = .ok (.aload_n 3, 1) := by decide +kernel
theorem dL_learns_1 : decode cL_learns 1 = .ok (.iconst 0, 1) := by decide +kernel
theorem dL_learns_2 : decode cL_learns 2 = .ok (.aload_n 0, 1) := by decide +kernel
theorem dL_learns_3 : decode cL_learns 3 = .ok (.iload_n 1, 1) := by decide +kernel
theorem dL_learns_4 : decode cL_learns 4 = .ok (.iload_n 2, 1) := by decide +kernel
theorem dL_learns_5 : decode cL_learns 5 = .ok (.invokevirtual 42, 3) := by decide +kernel
theorem dL_learns_8 : decode cL_learns 8 = .ok (.i2l, 1) := by decide +kernel
theorem dL_learns_9 : decode cL_learns 9 = .ok (.lastore, 1) := by decide +kernel
theorem dL_learns_10 : decode cL_learns 10 = .ok (.goto 7, 3) := by decide +kernel
theorem dL_learns_17 : decode cL_learns 17 = .ok (.iconst 0, 1) := by decide +kernel
theorem dL_learns_18 : decode cL_learns 18 = .ok (.ireturn, 1) := by decide +kernel
theorem dL_learns_13 : decode cL_learns 13 = .ok (.astore 4, 2) := by decide +kernel
theorem dL_learns_15 : decode cL_learns 15 = .ok (.iconst 1, 1) := by decide +kernel
theorem dL_learns_16 : decode cL_learns 16 = .ok (.ireturn, 1) := by decide +kernel
theorem dL_would_0 : decode cL_would 0 = .ok (.aload 9, 2) := by decide +kernel
theorem dL_would_2 : decode cL_would 2 = .ok (.iconst 0, 1) := by decide +kernel
theorem dL_would_3 : decode cL_would 3 = .ok (.aload_n 0, 1) := by decide +kernel
theorem dL_would_4 : decode cL_would 4 = .ok (.iload_n 1, 1) := by decide +kernel
theorem dL_would_5 : decode cL_would 5 = .ok (.iload_n 2, 1) := by decide +kernel
theorem dL_would_6 : decode cL_would 6 = .ok (.iload_n 3, 1) := by decide +kernel
theorem dL_would_7 : decode cL_would 7 = .ok (.iload 4, 2) := by decide +kernel
theorem dL_would_9 : decode cL_would 9 = .ok (.iload 5, 2) := by decide +kernel
theorem dL_would_11 : decode cL_would 11 = .ok (.iload 6, 2) := by decide +kernel
theorem dL_would_13 : decode cL_would 13 = .ok (.iload 7, 2) := by decide +kernel
theorem dL_would_15 : decode cL_would 15 = .ok (.iload 8, 2) := by decide +kernel
theorem dL_would_17 : decode cL_would 17 = .ok (.invokevirtual 45, 3) := by decide +kernel
theorem dL_would_20 : decode cL_would 20 = .ok (.i2l, 1) := by decide +kernel
theorem dL_would_21 : decode cL_would 21 = .ok (.lastore, 1) := by decide +kernel
theorem dL_would_22 : decode cL_would 22 = .ok (.goto 7, 3) := by decide +kernel
theorem dL_would_29 : decode cL_would 29 = .ok (.iconst 0, 1) := by decide +kernel
theorem dL_would_30 : decode cL_would 30 = .ok (.ireturn, 1) := by decide +kernel
theorem dL_would_25 : decode cL_would 25 = .ok (.astore 10, 2) := by decide +kernel
theorem dL_would_27 : decode cL_would 27 = .ok (.iconst 1, 1) := by decide +kernel
theorem dL_would_28 : decode cL_would 28 = .ok (.ireturn, 1) := by decide +kernel
theorem dL_ahead_0 : decode cL_ahead 0 = .ok (.aload_n 3, 1) := by decide +kernel
theorem dL_ahead_1 : decode cL_ahead 1 = .ok (.iconst 0, 1) := by decide +kernel
theorem dL_ahead_2 : decode cL_ahead 2 = .ok (.aload_n 0, 1) := by decide +kernel
theorem dL_ahead_3 : decode cL_ahead 3 = .ok (.iload_n 1, 1) := by decide +kernel
theorem dL_ahead_4 : decode cL_ahead 4 = .ok (.iload_n 2, 1) := by decide +kernel
theorem dL_ahead_5 : decode cL_ahead 5 = .ok (.invokevirtual 49, 3) := by decide +kernel
theorem dL_ahead_8 : decode cL_ahead 8 = .ok (.i2l, 1) := by decide +kernel
theorem dL_ahead_9 : decode cL_ahead 9 = .ok (.lastore, 1) := by decide +kernel
theorem dL_ahead_10 : decode cL_ahead 10 = .ok (.goto 7, 3) := by decide +kernel
theorem dL_ahead_17 : decode cL_ahead 17 = .ok (.iconst 0, 1) := by decide +kernel
theorem dL_ahead_18 : decode cL_ahead 18 = .ok (.ireturn, 1) := by decide +kernel
theorem dL_ahead_13 : decode cL_ahead 13 = .ok (.astore 4, 2) := by decide +kernel
theorem dL_ahead_15 : decode cL_ahead 15 = .ok (.iconst 1, 1) := by decide +kernel
theorem dL_ahead_16 : decode cL_ahead 16 = .ok (.ireturn, 1) := by decide +kernel
theorem dL_lessons_0 : decode cL_lessons 0 = .ok (.aload_n 3, 1) := by decide +kernel
theorem dL_lessons_1 : decode cL_lessons 1 = .ok (.iconst 0, 1) := by decide +kernel
theorem dL_lessons_2 : decode cL_lessons 2 = .ok (.aload_n 0, 1) := by decide +kernel
theorem dL_lessons_3 : decode cL_lessons 3 = .ok (.iload_n 1, 1) := by decide +kernel
theorem dL_lessons_4 : decode cL_lessons 4 = .ok (.iload_n 2, 1) := by decide +kernel
theorem dL_lessons_5 : decode cL_lessons 5 = .ok (.invokevirtual 52, 3) := by decide +kernel
theorem dL_lessons_8 : decode cL_lessons 8 = .ok (.i2l, 1) := by decide +kernel
theorem dL_lessons_9 : decode cL_lessons 9 = .ok (.lastore, 1) := by decide +kernel
theorem dL_lessons_10 : decode cL_lessons 10 = .ok (.goto 7, 3) := by decide +kernel
theorem dL_lessons_17 : decode cL_lessons 17 = .ok (.iconst 0, 1) := by decide +kernel
theorem dL_lessons_18 : decode cL_lessons 18 = .ok (.ireturn, 1) := by decide +kernel
theorem dL_lessons_13 : decode cL_lessons 13 = .ok (.astore 4, 2) := by decide +kernel
theorem dL_lessons_15 : decode cL_lessons 15 = .ok (.iconst 1, 1) := by decide +kernel
theorem dL_lessons_16 : decode cL_lessons 16 = .ok (.ireturn, 1) := by decide +kernel
theorem dL_pays_0 : decode cL_pays 0 = .ok (.aload_n 2, 1) := by decide +kernel
theorem dL_pays_1 : decode cL_pays 1 = .ok (.iconst 0, 1) := by decide +kernel
theorem dL_pays_2 : decode cL_pays 2 = .ok (.aload_n 0, 1) := by decide +kernel
theorem dL_pays_3 : decode cL_pays 3 = .ok (.iload_n 1, 1) := by decide +kernel
theorem dL_pays_4 : decode cL_pays 4 = .ok (.invokevirtual 55, 3) := by decide +kernel
theorem dL_pays_7 : decode cL_pays 7 = .ok (.i2l, 1) := by decide +kernel
theorem dL_pays_8 : decode cL_pays 8 = .ok (.lastore, 1) := by decide +kernel
theorem dL_pays_9 : decode cL_pays 9 = .ok (.goto 6, 3) := by decide +kernel
theorem dL_pays_15 : decode cL_pays 15 = .ok (.iconst 0, 1) := by decide +kernel
theorem dL_pays_16 : decode cL_pays 16 = .ok (.ireturn, 1) := by decide +kernel
theorem dL_pays_12 : decode cL_pays 12 = .ok (.astore_n 3, 1) := by decide +kernel
theorem dL_pays_13 : decode cL_pays 13 = .ok (.iconst 1, 1) := by decide +kernel
theorem dL_pays_14 : decode cL_pays 14 = .ok (.ireturn, 1) := by decide +kernel
theorem dL_hardest_0 : decode cL_hardest 0 = .ok (.aload_n 2, 1) := by decide +kernel
theorem dL_hardest_1 : decode cL_hardest 1 = .ok (.iconst 0, 1) := by decide +kernel
theorem dL_hardest_2 : decode cL_hardest 2 = .ok (.aload_n 0, 1) := by decide +kernel
theorem dL_hardest_3 : decode cL_hardest 3 = .ok (.iload_n 1, 1) := by decide +kernel
theorem dL_hardest_4 : decode cL_hardest 4 = .ok (.invokevirtual 58, 3) := by decide +kernel
theorem dL_hardest_7 : decode cL_hardest 7 = .ok (.i2l, 1) := by decide +kernel
theorem dL_hardest_8 : decode cL_hardest 8 = .ok (.lastore, 1) := by decide +kernel
theorem dL_hardest_9 : decode cL_hardest 9 = .ok (.goto 6, 3) := by decide +kernel
theorem dL_hardest_15 : decode cL_hardest 15 = .ok (.iconst 0, 1) := by decide +kernel
theorem dL_hardest_16 : decode cL_hardest 16 = .ok (.ireturn, 1) := by decide +kernel
theorem dL_hardest_12 : decode cL_hardest 12 = .ok (.astore_n 3, 1) := by decide +kernel
theorem dL_hardest_13 : decode cL_hardest 13 = .ok (.iconst 1, 1) := by decide +kernel
theorem dL_hardest_14 : decode cL_hardest 14 = .ok (.ireturn, 1) := by decide +kernel
theorem dL_fits_0 : decode cL_fits 0 = .ok (.aload_n 2, 1) := by decide +kernel
theorem dL_fits_1 : decode cL_fits 1 = .ok (.iconst 0, 1) := by decide +kernel
theorem dL_fits_2 : decode cL_fits 2 = .ok (.aload_n 0, 1) := by decide +kernel
theorem dL_fits_3 : decode cL_fits 3 = .ok (.iload_n 1, 1) := by decide +kernel
theorem dL_fits_4 : decode cL_fits 4 = .ok (.invokevirtual 61, 3) := by decide +kernel
theorem dL_fits_7 : decode cL_fits 7 = .ok (.i2l, 1) := by decide +kernel
theorem dL_fits_8 : decode cL_fits 8 = .ok (.lastore, 1) := by decide +kernel
theorem dL_fits_9 : decode cL_fits 9 = .ok (.goto 6, 3) := by decide +kernel
theorem dL_fits_15 : decode cL_fits 15 = .ok (.iconst 0, 1) := by decide +kernel
theorem dL_fits_16 : decode cL_fits 16 = .ok (.ireturn, 1) := by decide +kernel
theorem dL_fits_12 : decode cL_fits 12 = .ok (.astore_n 3, 1) := by decide +kernel
theorem dL_fits_13 : decode cL_fits 13 = .ok (.iconst 1, 1) := by decide +kernel
theorem dL_fits_14 : decode cL_fits 14 = .ok (.ireturn, 1) := by decide +kernel
theorem dL_look_0 : decode cL_look 0 = .ok (.aload_n 2, 1) := by decide +kernel
theorem dL_look_1 : decode cL_look 1 = .ok (.iconst 0, 1) := by decide +kernel
theorem dL_look_2 : decode cL_look 2 = .ok (.aload_n 0, 1) := by decide +kernel
theorem dL_look_3 : decode cL_look 3 = .ok (.iload_n 1, 1) := by decide +kernel
theorem dL_look_4 : decode cL_look 4 = .ok (.invokevirtual 64, 3) := by decide +kernel
theorem dL_look_7 : decode cL_look 7 = .ok (.i2l, 1) := by decide +kernel
theorem dL_look_8 : decode cL_look 8 = .ok (.lastore, 1) := by decide +kernel
theorem dL_look_9 : decode cL_look 9 = .ok (.goto 6, 3) := by decide +kernel
theorem dL_look_15 : decode cL_look 15 = .ok (.iconst 0, 1) := by decide +kernel
theorem dL_look_16 : decode cL_look 16 = .ok (.ireturn, 1) := by decide +kernel
theorem dL_look_12 : decode cL_look 12 = .ok (.astore_n 3, 1) := by decide +kernel
theorem dL_look_13 : decode cL_look 13 = .ok (.iconst 1, 1) := by decide +kernel
theorem dL_look_14 : decode cL_look 14 = .ok (.ireturn, 1) := by decide +kernel
theorem dL_kept_0 : decode cL_kept 0 = .ok (.aload 5, 2) := by decide +kernel
theorem dL_kept_2 : decode cL_kept 2 = .ok (.iconst 0, 1) := by decide +kernel
theorem dL_kept_3 : decode cL_kept 3 = .ok (.aload_n 0, 1) := by decide +kernel
theorem dL_kept_4 : decode cL_kept 4 = .ok (.iload_n 1, 1) := by decide +kernel
theorem dL_kept_5 : decode cL_kept 5 = .ok (.iload_n 2, 1) := by decide +kernel
theorem dL_kept_6 : decode cL_kept 6 = .ok (.iload_n 3, 1) := by decide +kernel
theorem dL_kept_7 : decode cL_kept 7 = .ok (.iload 4, 2) := by decide +kernel
theorem dL_kept_9 : decode cL_kept 9 = .ok (.invokevirtual 67, 3) := by decide +kernel
theorem dL_kept_12 : decode cL_kept 12 = .ok (.lastore, 1) := by decide +kernel
theorem dL_kept_13 : decode cL_kept 13 = .ok (.goto 7, 3) := by decide +kernel
theorem dL_kept_20 : decode cL_kept 20 = .ok (.iconst 0, 1) := by decide +kernel
theorem dL_kept_21 : decode cL_kept 21 = .ok (.ireturn, 1) := by decide +kernel
theorem dL_kept_16 : decode cL_kept 16 = .ok (.astore 6, 2) := by decide +kernel
theorem dL_kept_18 : decode cL_kept 18 = .ok (.iconst 1, 1) := by decide +kernel
theorem dL_kept_19 : decode cL_kept 19 = .ok (.ireturn, 1) := by decide +kernel
theorem dL_fair_0 : decode cL_fair 0 = .ok (.aload 4, 2) := by decide +kernel
theorem dL_fair_2 : decode cL_fair 2 = .ok (.iconst 0, 1) := by decide +kernel
theorem dL_fair_3 : decode cL_fair 3 = .ok (.aload_n 0, 1) := by decide +kernel
theorem dL_fair_4 : decode cL_fair 4 = .ok (.iload_n 1, 1) := by decide +kernel
theorem dL_fair_5 : decode cL_fair 5 = .ok (.iload_n 2, 1) := by decide +kernel
theorem dL_fair_6 : decode cL_fair 6 = .ok (.iload_n 3, 1) := by decide +kernel
theorem dL_fair_7 : decode cL_fair 7 = .ok (.invokevirtual 71, 3) := by decide +kernel
theorem dL_fair_10 : decode cL_fair 10 = .ok (.i2l, 1) := by decide +kernel
theorem dL_fair_11 : decode cL_fair 11 = .ok (.lastore, 1) := by decide +kernel
theorem dL_fair_12 : decode cL_fair 12 = .ok (.goto 7, 3) := by decide +kernel
theorem dL_fair_19 : decode cL_fair 19 = .ok (.iconst 0, 1) := by decide +kernel
theorem dL_fair_20 : decode cL_fair 20 = .ok (.ireturn, 1) := by decide +kernel
theorem dL_fair_15 : decode cL_fair 15 = .ok (.astore 5, 2) := by decide +kernel
theorem dL_fair_17 : decode cL_fair 17 = .ok (.iconst 1, 1) := by decide +kernel
theorem dL_fair_18 : decode cL_fair 18 = .ok (.ireturn, 1) := by decide +kernel
theorem dL_candles_0 : decode cL_candles 0 = .ok (.aload 4, 2) := by decide +kernel
theorem dL_candles_2 : decode cL_candles 2 = .ok (.iconst 0, 1) := by decide +kernel
theorem dL_candles_3 : decode cL_candles 3 = .ok (.aload_n 0, 1) := by decide +kernel
theorem dL_candles_4 : decode cL_candles 4 = .ok (.iload_n 1, 1) := by decide +kernel
theorem dL_candles_5 : decode cL_candles 5 = .ok (.iload_n 2, 1) := by decide +kernel
theorem dL_candles_6 : decode cL_candles 6 = .ok (.iload_n 3, 1) := by decide +kernel
theorem dL_candles_7 : decode cL_candles 7 = .ok (.invokevirtual 75, 3) := by decide +kernel
theorem dL_candles_10 : decode cL_candles 10 = .ok (.i2l, 1) := by decide +kernel
theorem dL_candles_11 : decode cL_candles 11 = .ok (.lastore, 1) := by decide +kernel
theorem dL_candles_12 : decode cL_candles 12 = .ok (.goto 11, 3) := by decide +kernel
theorem dL_candles_23 : decode cL_candles 23 = .ok (.iconst 0, 1) := by decide +kernel
theorem dL_candles_24 : decode cL_candles 24 = .ok (.ireturn, 1) := by decide +kernel
theorem dL_candles_15 : decode cL_candles 15 = .ok (.astore 5, 2) := by decide +kernel
theorem dL_candles_17 : decode cL_candles 17 = .ok (.iconst 1, 1) := by decide +kernel
theorem dL_candles_18 : decode cL_candles 18 = .ok (.ireturn, 1) := by decide +kernel
theorem dL_candles_19 : decode cL_candles 19 = .ok (.astore 5, 2) := by decide +kernel
theorem dL_candles_21 : decode cL_candles 21 = .ok (.iconst 2, 1) := by decide +kernel
theorem dL_candles_22 : decode cL_candles 22 = .ok (.ireturn, 1) := by decide +kernel
theorem dL_fullest_0 : decode cL_fullest 0 = .ok (.aload_n 2, 1) := by decide +kernel
theorem dL_fullest_1 : decode cL_fullest 1 = .ok (.iconst 0, 1) := by decide +kernel
theorem dL_fullest_2 : decode cL_fullest 2 = .ok (.aload_n 0, 1) := by decide +kernel
theorem dL_fullest_3 : decode cL_fullest 3 = .ok (.iload_n 1, 1) := by decide +kernel
theorem dL_fullest_4 : decode cL_fullest 4 = .ok (.invokevirtual 78, 3) := by decide +kernel
theorem dL_fullest_7 : decode cL_fullest 7 = .ok (.i2l, 1) := by decide +kernel
theorem dL_fullest_8 : decode cL_fullest 8 = .ok (.lastore, 1) := by decide +kernel
theorem dL_fullest_9 : decode cL_fullest 9 = .ok (.goto 6, 3) := by decide +kernel
theorem dL_fullest_15 : decode cL_fullest 15 = .ok (.iconst 0, 1) := by decide +kernel
theorem dL_fullest_16 : decode cL_fullest 16 = .ok (.ireturn, 1) := by decide +kernel
theorem dL_fullest_12 : decode cL_fullest 12 = .ok (.astore_n 3, 1) := by decide +kernel
theorem dL_fullest_13 : decode cL_fullest 13 = .ok (.iconst 1, 1) := by decide +kernel
theorem dL_fullest_14 : decode cL_fullest 14 = .ok (.ireturn, 1) := by decide +kernel
theorem dL_partners_0 : decode cL_partners 0 = .ok (.aload_n 2, 1) := by decide +kernel
theorem dL_partners_1 : decode cL_partners 1 = .ok (.iconst 0, 1) := by decide +kernel
theorem dL_partners_2 : decode cL_partners 2 = .ok (.aload_n 0, 1) := by decide +kernel
theorem dL_partners_3 : decode cL_partners 3 = .ok (.iload_n 1, 1) := by decide +kernel
theorem dL_partners_4 : decode cL_partners 4 = .ok (.invokevirtual 81, 3) := by decide +kernel
theorem dL_partners_7 : decode cL_partners 7 = .ok (.i2l, 1) := by decide +kernel
theorem dL_partners_8 : decode cL_partners 8 = .ok (.lastore, 1) := by decide +kernel
theorem dL_partners_9 : decode cL_partners 9 = .ok (.goto 6, 3) := by decide +kernel
theorem dL_partners_15 : decode cL_partners 15 = .ok (.iconst 0, 1) := by decide +kernel
theorem dL_partners_16 : decode cL_partners 16 = .ok (.ireturn, 1) := by decide +kernel
theorem dL_partners_12 : decode cL_partners 12 = .ok (.astore_n 3, 1) := by decide +kernel
theorem dL_partners_13 : decode cL_partners 13 = .ok (.iconst 1, 1) := by decide +kernel
theorem dL_partners_14 : decode cL_partners 14 = .ok (.ireturn, 1) := by decide +kernel
theorem dL_fades_0 : decode cL_fades 0 = .ok (.aload_n 3, 1) := by decide +kernel
theorem dL_fades_1 : decode cL_fades 1 = .ok (.iconst 0, 1) := by decide +kernel
theorem dL_fades_2 : decode cL_fades 2 = .ok (.aload_n 0, 1) := by decide +kernel
theorem dL_fades_3 : decode cL_fades 3 = .ok (.iload_n 1, 1) := by decide +kernel
theorem dL_fades_4 : decode cL_fades 4 = .ok (.iload_n 2, 1) := by decide +kernel
theorem dL_fades_5 : decode cL_fades 5 = .ok (.invokevirtual 84, 3) := by decide +kernel
theorem dL_fades_8 : decode cL_fades 8 = .ok (.i2l, 1) := by decide +kernel
theorem dL_fades_9 : decode cL_fades 9 = .ok (.lastore, 1) := by decide +kernel
theorem dL_fades_10 : decode cL_fades 10 = .ok (.goto 7, 3) := by decide +kernel
theorem dL_fades_17 : decode cL_fades 17 = .ok (.iconst 0, 1) := by decide +kernel
theorem dL_fades_18 : decode cL_fades 18 = .ok (.ireturn, 1) := by decide +kernel
theorem dL_fades_13 : decode cL_fades 13 = .ok (.astore 4, 2) := by decide +kernel
theorem dL_fades_15 : decode cL_fades 15 = .ok (.iconst 1, 1) := by decide +kernel
theorem dL_fades_16 : decode cL_fades 16 = .ok (.ireturn, 1) := by decide +kernel
theorem dL_next_0 : decode cL_next 0 = .ok (.aload_n 2, 1) := by decide +kernel
theorem dL_next_1 : decode cL_next 1 = .ok (.iconst 0, 1) := by decide +kernel
theorem dL_next_2 : decode cL_next 2 = .ok (.aload_n 0, 1) := by decide +kernel
theorem dL_next_3 : decode cL_next 3 = .ok (.iload_n 1, 1) := by decide +kernel
theorem dL_next_4 : decode cL_next 4 = .ok (.invokevirtual 87, 3) := by decide +kernel
theorem dL_next_7 : decode cL_next 7 = .ok (.i2l, 1) := by decide +kernel
theorem dL_next_8 : decode cL_next 8 = .ok (.lastore, 1) := by decide +kernel
theorem dL_next_9 : decode cL_next 9 = .ok (.goto 6, 3) := by decide +kernel
theorem dL_next_15 : decode cL_next 15 = .ok (.iconst 0, 1) := by decide +kernel
theorem dL_next_16 : decode cL_next 16 = .ok (.ireturn, 1) := by decide +kernel
theorem dL_next_12 : decode cL_next 12 = .ok (.astore_n 3, 1) := by decide +kernel
theorem dL_next_13 : decode cL_next 13 = .ok (.iconst 1, 1) := by decide +kernel
theorem dL_next_14 : decode cL_next 14 = .ok (.ireturn, 1) := by decide +kernel
theorem dL_gains_0 : decode cL_gains 0 = .ok (.aload_n 3, 1) := by decide +kernel
theorem dL_gains_1 : decode cL_gains 1 = .ok (.iconst 0, 1) := by decide +kernel
theorem dL_gains_2 : decode cL_gains 2 = .ok (.aload_n 0, 1) := by decide +kernel
theorem dL_gains_3 : decode cL_gains 3 = .ok (.iload_n 1, 1) := by decide +kernel
theorem dL_gains_4 : decode cL_gains 4 = .ok (.iload_n 2, 1) := by decide +kernel
theorem dL_gains_5 : decode cL_gains 5 = .ok (.invokevirtual 90, 3) := by decide +kernel
theorem dL_gains_8 : decode cL_gains 8 = .ok (.i2l, 1) := by decide +kernel
theorem dL_gains_9 : decode cL_gains 9 = .ok (.lastore, 1) := by decide +kernel
theorem dL_gains_10 : decode cL_gains 10 = .ok (.goto 7, 3) := by decide +kernel
theorem dL_gains_17 : decode cL_gains 17 = .ok (.iconst 0, 1) := by decide +kernel
theorem dL_gains_18 : decode cL_gains 18 = .ok (.ireturn, 1) := by decide +kernel
theorem dL_gains_13 : decode cL_gains 13 = .ok (.astore 4, 2) := by decide +kernel
theorem dL_gains_15 : decode cL_gains 15 = .ok (.iconst 1, 1) := by decide +kernel
theorem dL_gains_16 : decode cL_gains 16 = .ok (.ireturn, 1) := by decide +kernel
theorem dL_closest_0 : decode cL_closest 0 = .ok (.aload_n 3, 1) := by decide +kernel
theorem dL_closest_1 : decode cL_closest 1 = .ok (.iconst 0, 1) := by decide +kernel
theorem dL_closest_2 : decode cL_closest 2 = .ok (.aload_n 0, 1) := by decide +kernel
theorem dL_closest_3 : decode cL_closest 3 = .ok (.iload_n 1, 1) := by decide +kernel
theorem dL_closest_4 : decode cL_closest 4 = .ok (.iload_n 2, 1) := by decide +kernel
theorem dL_closest_5 : decode cL_closest 5 = .ok (.invokevirtual 93, 3) := by decide +kernel
theorem dL_closest_8 : decode cL_closest 8 = .ok (.i2l, 1) := by decide +kernel
theorem dL_closest_9 : decode cL_closest 9 = .ok (.lastore, 1) := by decide +kernel
theorem dL_closest_10 : decode cL_closest 10 = .ok (.goto 11, 3) := by decide +kernel
theorem dL_closest_21 : decode cL_closest 21 = .ok (.iconst 0, 1) := by decide +kernel
theorem dL_closest_22 : decode cL_closest 22 = .ok (.ireturn, 1) := by decide +kernel
theorem dL_closest_13 : decode cL_closest 13 = .ok (.astore 4, 2) := by decide +kernel
theorem dL_closest_15 : decode cL_closest 15 = .ok (.iconst 1, 1) := by decide +kernel
theorem dL_closest_16 : decode cL_closest 16 = .ok (.ireturn, 1) := by decide +kernel
theorem dL_closest_17 : decode cL_closest 17 = .ok (.astore 4, 2) := by decide +kernel
theorem dL_closest_19 : decode cL_closest 19 = .ok (.iconst 2, 1) := by decide +kernel
theorem dL_closest_20 : decode cL_closest 20 = .ok (.ireturn, 1) := by decide +kernel
theorem dL_best_0 : decode cL_best 0 = .ok (.aload_n 3, 1) := by decide +kernel
theorem dL_best_1 : decode cL_best 1 = .ok (.iconst 0, 1) := by decide +kernel
theorem dL_best_2 : decode cL_best 2 = .ok (.aload_n 0, 1) := by decide +kernel
theorem dL_best_3 : decode cL_best 3 = .ok (.iload_n 1, 1) := by decide +kernel
theorem dL_best_4 : decode cL_best 4 = .ok (.iload_n 2, 1) := by decide +kernel
theorem dL_best_5 : decode cL_best 5 = .ok (.invokevirtual 96, 3) := by decide +kernel
theorem dL_best_8 : decode cL_best 8 = .ok (.i2l, 1) := by decide +kernel
theorem dL_best_9 : decode cL_best 9 = .ok (.lastore, 1) := by decide +kernel
theorem dL_best_10 : decode cL_best 10 = .ok (.goto 11, 3) := by decide +kernel
theorem dL_best_21 : decode cL_best 21 = .ok (.iconst 0, 1) := by decide +kernel
theorem dL_best_22 : decode cL_best 22 = .ok (.ireturn, 1) := by decide +kernel
theorem dL_best_13 : decode cL_best 13 = .ok (.astore 4, 2) := by decide +kernel
theorem dL_best_15 : decode cL_best 15 = .ok (.iconst 1, 1) := by decide +kernel
theorem dL_best_16 : decode cL_best 16 = .ok (.ireturn, 1) := by decide +kernel
theorem dL_best_17 : decode cL_best 17 = .ok (.astore 4, 2) := by decide +kernel
theorem dL_best_19 : decode cL_best 19 = .ok (.iconst 2, 1) := by decide +kernel
theorem dL_best_20 : decode cL_best 20 = .ok (.ireturn, 1) := by decide +kernel
theorem dL_chorus_0 : decode cL_chorus 0 = .ok (.aload_n 3, 1) := by decide +kernel
theorem dL_chorus_1 : decode cL_chorus 1 = .ok (.iconst 0, 1) := by decide +kernel
theorem dL_chorus_2 : decode cL_chorus 2 = .ok (.aload_n 0, 1) := by decide +kernel
theorem dL_chorus_3 : decode cL_chorus 3 = .ok (.iload_n 1, 1) := by decide +kernel
theorem dL_chorus_4 : decode cL_chorus 4 = .ok (.iload_n 2, 1) := by decide +kernel
theorem dL_chorus_5 : decode cL_chorus 5 = .ok (.invokevirtual 99, 3) := by decide +kernel
theorem dL_chorus_8 : decode cL_chorus 8 = .ok (.i2l, 1) := by decide +kernel
theorem dL_chorus_9 : decode cL_chorus 9 = .ok (.lastore, 1) := by decide +kernel
theorem dL_chorus_10 : decode cL_chorus 10 = .ok (.goto 11, 3) := by decide +kernel
theorem dL_chorus_21 : decode cL_chorus 21 = .ok (.iconst 0, 1) := by decide +kernel
theorem dL_chorus_22 : decode cL_chorus 22 = .ok (.ireturn, 1) := by decide +kernel
theorem dL_chorus_13 : decode cL_chorus 13 = .ok (.astore 4, 2) := by decide +kernel
theorem dL_chorus_15 : decode cL_chorus 15 = .ok (.iconst 1, 1) := by decide +kernel
theorem dL_chorus_16 : decode cL_chorus 16 = .ok (.ireturn, 1) := by decide +kernel
theorem dL_chorus_17 : decode cL_chorus 17 = .ok (.astore 4, 2) := by decide +kernel
theorem dL_chorus_19 : decode cL_chorus 19 = .ok (.iconst 2, 1) := by decide +kernel
theorem dL_chorus_20 : decode cL_chorus 20 = .ok (.ireturn, 1) := by decide +kernel
theorem dL_season_0 : decode cL_season 0 = .ok (.aload 5, 2) := by decide +kernel
theorem dL_season_2 : decode cL_season 2 = .ok (.iconst 0, 1) := by decide +kernel
theorem dL_season_3 : decode cL_season 3 = .ok (.aload_n 0, 1) := by decide +kernel
theorem dL_season_4 : decode cL_season 4 = .ok (.iload_n 1, 1) := by decide +kernel
theorem dL_season_5 : decode cL_season 5 = .ok (.iload_n 2, 1) := by decide +kernel
theorem dL_season_6 : decode cL_season 6 = .ok (.iload_n 3, 1) := by decide +kernel
theorem dL_season_7 : decode cL_season 7 = .ok (.iload 4, 2) := by decide +kernel
theorem dL_season_9 : decode cL_season 9 = .ok (.invokevirtual 102, 3) := by decide +kernel
theorem dL_season_12 : decode cL_season 12 = .ok (.i2l, 1) := by decide +kernel
theorem dL_season_13 : decode cL_season 13 = .ok (.lastore, 1) := by decide +kernel
theorem dL_season_14 : decode cL_season 14 = .ok (.goto 7, 3) := by decide +kernel
theorem dL_season_21 : decode cL_season 21 = .ok (.iconst 0, 1) := by decide +kernel
theorem dL_season_22 : decode cL_season 22 = .ok (.ireturn, 1) := by decide +kernel
theorem dL_season_17 : decode cL_season 17 = .ok (.astore 6, 2) := by decide +kernel
theorem dL_season_19 : decode cL_season 19 = .ok (.iconst 1, 1) := by decide +kernel
theorem dL_season_20 : decode cL_season 20 = .ok (.ireturn, 1) := by decide +kernel
theorem dL_span_0 : decode cL_span 0 = .ok (.aload 7, 2) := by decide +kernel
theorem dL_span_2 : decode cL_span 2 = .ok (.iconst 0, 1) := by decide +kernel
theorem dL_span_3 : decode cL_span 3 = .ok (.aload_n 0, 1) := by decide +kernel
theorem dL_span_4 : decode cL_span 4 = .ok (.iload_n 1, 1) := by decide +kernel
theorem dL_span_5 : decode cL_span 5 = .ok (.iload_n 2, 1) := by decide +kernel
theorem dL_span_6 : decode cL_span 6 = .ok (.iload_n 3, 1) := by decide +kernel
theorem dL_span_7 : decode cL_span 7 = .ok (.iload 4, 2) := by decide +kernel
theorem dL_span_9 : decode cL_span 9 = .ok (.iload 5, 2) := by decide +kernel
theorem dL_span_11 : decode cL_span 11 = .ok (.iload 6, 2) := by decide +kernel
theorem dL_span_13 : decode cL_span 13 = .ok (.invokevirtual 106, 3) := by decide +kernel
theorem dL_span_16 : decode cL_span 16 = .ok (.i2l, 1) := by decide +kernel
theorem dL_span_17 : decode cL_span 17 = .ok (.lastore, 1) := by decide +kernel
theorem dL_span_18 : decode cL_span 18 = .ok (.goto 7, 3) := by decide +kernel
theorem dL_span_25 : decode cL_span 25 = .ok (.iconst 0, 1) := by decide +kernel
theorem dL_span_26 : decode cL_span 26 = .ok (.ireturn, 1) := by decide +kernel
theorem dL_span_21 : decode cL_span 21 = .ok (.astore 8, 2) := by decide +kernel
theorem dL_span_23 : decode cL_span 23 = .ok (.iconst 1, 1) := by decide +kernel
theorem dL_span_24 : decode cL_span 24 = .ok (.ireturn, 1) := by decide +kernel
theorem cH_valley {l : Launch} {G : Gc} (hfl : l.stackTraces = false) (hW : Wok G wC 54) (x1 : Int32) (S : St) : CtH l yL_valley (Cond.codeWith yL_valley cL_valley 4 (some .int) [(0, 9, 12, 13)] :: tblG) 10 1 6 G wC 54 [.ref (gA G 0), .int x1, .ref (gA G 53)] S (fH_valley x1 S) := cth_of (own := RL) hfl (by decide +kernel) rfl hW (Nat.le_of_ble_eq_true rfl) (fun E hE C hN => by
  subst hE
  unfold fH_valley
  refine jh_aload_n (pc := 0) 2 C dL_valley_0 rfl rfl ?_
  refine jh_iconst (pc := 1) 0 C dL_valley_1 (by decide) ?_
  refine jh_aload_n (pc := 2) 0 C dL_valley_2 rfl rfl ?_
  refine jh_iload_n (pc := 3) 1 C dL_valley_3 rfl rfl ?_
  refine jh_callI (pc := 4) C (hrn_V (V := VC G 4 1 6 RL) (ci := 9) 0 (As := [.int x1]) (Cq := (RX9, TX9, 15)) (cC_Main_valley C.flags C.wok x1 S) knX9_valley ⟨q_190, q_191⟩ rfl rfl C dL_valley_4 q_1355 (by omega) rfl rfl (Nat.le_of_ble_eq_true rfl) ⟨(Nat.le_of_ble_eq_true rfl), (Nat.le_of_ble_eq_true rfl)⟩) (fun v T => ?_) (fun j T r9 S9 h9 => ?_)
  ·
    refine jh_i2l (pc := 7) C dL_valley_7 ?_
    refine jh_last (pc := 8) (V := VC G 4 1 6 RL) (sB T 53 0 ((v : Int32).toInt64)) 53 rfl rfl C dL_valley_8 ?_
    refine j_nxS (fun T1 => ?_)
    refine jh_goto (pc := 9) 15 C dL_valley_9 (by decide) ?_
    refine jh_iconst (pc := 15) 0 C dL_valley_15 (by decide) ?_
    exact jh_iret C dL_valley_16 rfl (Nat.le_of_ble_eq_true rfl) (Nat.le_of_ble_eq_true rfl)
  ·
    by_cases e0 : j = 1
    · subst e0
      refine ⟨12, ⟨[], _, [], rfl, fun z hz => (nomatch hz), rfl, by decide, q_1356, q_52, rfl⟩, fun q => ?_⟩
      rw [if_pos rfl]
      refine jh_astore_n (pc := 12) [(3, .ref q), (0, .ref (gA G 0)), (1, .int x1), (2, .ref (gA G 53))] C dL_valley_12 rfl (Nat.le_of_ble_eq_true rfl) rfl ?_
      refine jh_iconst (pc := 13) 1 C dL_valley_13 (by decide) ?_
      exact jh_iret C dL_valley_14 rfl (Nat.le_of_ble_eq_true rfl) (Nat.le_of_ble_eq_true rfl)
    · rw [if_neg e0] at h9
      cases h9)

theorem cH_law {l : Launch} {G : Gc} (hfl : l.stackTraces = false) (hW : Wok G wC 54) (x1 : Int32) (S : St) : CtH l yL_law (Cond.codeWith yL_law cL_law 4 (some .int) [(0, 9, 12, 13)] :: tblG) 58 1 6 G wC 54 [.ref (gA G 0), .int x1, .ref (gA G 53)] S (fH_law x1 S) := cth_of (own := RL) hfl (by decide +kernel) rfl hW (Nat.le_of_ble_eq_true rfl) (fun E hE C hN => by
  subst hE
  unfold fH_law
  refine jh_aload_n (pc := 0) 2 C dL_law_0 rfl rfl ?_
  refine jh_iconst (pc := 1) 0 C dL_law_1 (by decide) ?_
  refine jh_aload_n (pc := 2) 0 C dL_law_2 rfl rfl ?_
  refine jh_iload_n (pc := 3) 1 C dL_law_3 rfl rfl ?_
  refine jh_callI (pc := 4) C (hrn_V (V := VC G 4 1 6 RL) (ci := 9) 0 (As := [.int x1]) (Cq := (RX9, TX9, 15)) (cC_Main_law C.flags C.wok x1 S) knX9_law ⟨q_246, q_247⟩ rfl rfl C dL_law_4 q_1357 (by omega) rfl rfl (Nat.le_of_ble_eq_true rfl) ⟨(Nat.le_of_ble_eq_true rfl), (Nat.le_of_ble_eq_true rfl)⟩) (fun v T => ?_) (fun j T r9 S9 h9 => ?_)
  ·
    refine jh_i2l (pc := 7) C dL_law_7 ?_
    refine jh_last (pc := 8) (V := VC G 4 1 6 RL) (sB T 53 0 ((v : Int32).toInt64)) 53 rfl rfl C dL_law_8 ?_
    refine j_nxS (fun T1 => ?_)
    refine jh_goto (pc := 9) 15 C dL_law_9 (by decide) ?_
    refine jh_iconst (pc := 15) 0 C dL_law_15 (by decide) ?_
    exact jh_iret C dL_law_16 rfl (Nat.le_of_ble_eq_true rfl) (Nat.le_of_ble_eq_true rfl)
  ·
    by_cases e0 : j = 1
    · subst e0
      refine ⟨12, ⟨[], _, [], rfl, fun z hz => (nomatch hz), rfl, by decide, q_1356, q_52, rfl⟩, fun q => ?_⟩
      rw [if_pos rfl]
      refine jh_astore_n (pc := 12) [(3, .ref q), (0, .ref (gA G 0)), (1, .int x1), (2, .ref (gA G 53))] C dL_law_12 rfl (Nat.le_of_ble_eq_true rfl) rfl ?_
      refine jh_iconst (pc := 13) 1 C dL_law_13 (by decide) ?_
      exact jh_iret C dL_law_14 rfl (Nat.le_of_ble_eq_true rfl) (Nat.le_of_ble_eq_true rfl)
    · rw [if_neg e0] at h9
      cases h9)

theorem cH_work {l : Launch} {G : Gc} (hfl : l.stackTraces = false) (hW : Wok G wC 54) (x1 : Int32) (S : St) : CtH l yL_work (Cond.codeWith yL_work cL_work 4 (some .int) [(0, 9, 12, 13)] :: tblG) 45 1 6 G wC 54 [.ref (gA G 0), .int x1, .ref (gA G 53)] S (fH_work x1 S) := cth_of (own := RL) hfl (by decide +kernel) rfl hW (Nat.le_of_ble_eq_true rfl) (fun E hE C hN => by
  subst hE
  unfold fH_work
  refine jh_aload_n (pc := 0) 2 C dL_work_0 rfl rfl ?_
  refine jh_iconst (pc := 1) 0 C dL_work_1 (by decide) ?_
  refine jh_aload_n (pc := 2) 0 C dL_work_2 rfl rfl ?_
  refine jh_iload_n (pc := 3) 1 C dL_work_3 rfl rfl ?_
  refine jh_callI (pc := 4) C (hrn_V (V := VC G 4 1 6 RL) (ci := 9) 0 (As := [.int x1]) (Cq := (RX9, TX9, 15)) (cC_Main_work C.flags C.wok x1 S) knX9_work ⟨q_423, q_424⟩ rfl rfl C dL_work_4 q_1358 (by omega) rfl rfl (Nat.le_of_ble_eq_true rfl) ⟨(Nat.le_of_ble_eq_true rfl), (Nat.le_of_ble_eq_true rfl)⟩) (fun v T => ?_) (fun j T r9 S9 h9 => ?_)
  ·
    refine jh_i2l (pc := 7) C dL_work_7 ?_
    refine jh_last (pc := 8) (V := VC G 4 1 6 RL) (sB T 53 0 ((v : Int32).toInt64)) 53 rfl rfl C dL_work_8 ?_
    refine j_nxS (fun T1 => ?_)
    refine jh_goto (pc := 9) 15 C dL_work_9 (by decide) ?_
    refine jh_iconst (pc := 15) 0 C dL_work_15 (by decide) ?_
    exact jh_iret C dL_work_16 rfl (Nat.le_of_ble_eq_true rfl) (Nat.le_of_ble_eq_true rfl)
  ·
    by_cases e0 : j = 1
    · subst e0
      refine ⟨12, ⟨[], _, [], rfl, fun z hz => (nomatch hz), rfl, by decide, q_1356, q_52, rfl⟩, fun q => ?_⟩
      rw [if_pos rfl]
      refine jh_astore_n (pc := 12) [(3, .ref q), (0, .ref (gA G 0)), (1, .int x1), (2, .ref (gA G 53))] C dL_work_12 rfl (Nat.le_of_ble_eq_true rfl) rfl ?_
      refine jh_iconst (pc := 13) 1 C dL_work_13 (by decide) ?_
      exact jh_iret C dL_work_14 rfl (Nat.le_of_ble_eq_true rfl) (Nat.le_of_ble_eq_true rfl)
    · rw [if_neg e0] at h9
      cases h9)

theorem cH_book {l : Launch} {G : Gc} (hfl : l.stackTraces = false) (hW : Wok G wC 54) (x1 : Int32) (S : St) : CtH l yL_book (Cond.codeWith yL_book cL_book 4 (some .int) [(0, 9, 12, 13)] :: tblG) 10 1 6 G wC 54 [.ref (gA G 0), .int x1, .ref (gA G 53)] S (fH_book x1 S) := cth_of (own := RL) hfl (by decide +kernel) rfl hW (Nat.le_of_ble_eq_true rfl) (fun E hE C hN => by
  subst hE
  unfold fH_book
  refine jh_aload_n (pc := 0) 2 C dL_book_0 rfl rfl ?_
  refine jh_iconst (pc := 1) 0 C dL_book_1 (by decide) ?_
  refine jh_aload_n (pc := 2) 0 C dL_book_2 rfl rfl ?_
  refine jh_iload_n (pc := 3) 1 C dL_book_3 rfl rfl ?_
  refine jh_callI (pc := 4) C (hrn_V (V := VC G 4 1 6 RL) (ci := 9) 0 (As := [.int x1]) (Cq := (RX9, TX9, 15)) (cC_Main_book C.flags C.wok x1 S) knX9_book ⟨q_453, q_454⟩ rfl rfl C dL_book_4 q_1359 (by omega) rfl rfl (Nat.le_of_ble_eq_true rfl) ⟨(Nat.le_of_ble_eq_true rfl), (Nat.le_of_ble_eq_true rfl)⟩) (fun v T => ?_) (fun j T r9 S9 h9 => ?_)
  ·
    refine jh_i2l (pc := 7) C dL_book_7 ?_
    refine jh_last (pc := 8) (V := VC G 4 1 6 RL) (sB T 53 0 ((v : Int32).toInt64)) 53 rfl rfl C dL_book_8 ?_
    refine j_nxS (fun T1 => ?_)
    refine jh_goto (pc := 9) 15 C dL_book_9 (by decide) ?_
    refine jh_iconst (pc := 15) 0 C dL_book_15 (by decide) ?_
    exact jh_iret C dL_book_16 rfl (Nat.le_of_ble_eq_true rfl) (Nat.le_of_ble_eq_true rfl)
  ·
    by_cases e0 : j = 1
    · subst e0
      refine ⟨12, ⟨[], _, [], rfl, fun z hz => (nomatch hz), rfl, by decide, q_1356, q_52, rfl⟩, fun q => ?_⟩
      rw [if_pos rfl]
      refine jh_astore_n (pc := 12) [(3, .ref q), (0, .ref (gA G 0)), (1, .int x1), (2, .ref (gA G 53))] C dL_book_12 rfl (Nat.le_of_ble_eq_true rfl) rfl ?_
      refine jh_iconst (pc := 13) 1 C dL_book_13 (by decide) ?_
      exact jh_iret C dL_book_14 rfl (Nat.le_of_ble_eq_true rfl) (Nat.le_of_ble_eq_true rfl)
    · rw [if_neg e0] at h9
      cases h9)

theorem cH_told {l : Launch} {G : Gc} (hfl : l.stackTraces = false) (hW : Wok G wC 54) (x1 : Int32) (S : St) : CtH l yL_told (Cond.codeWith yL_told cL_told 4 (some .int) [(0, 9, 12, 13)] :: tblG) 8 1 6 G wC 54 [.ref (gA G 0), .int x1, .ref (gA G 53)] S (fH_told x1 S) := cth_of (own := RL) hfl (by decide +kernel) rfl hW (Nat.le_of_ble_eq_true rfl) (fun E hE C hN => by
  subst hE
  unfold fH_told
  refine jh_aload_n (pc := 0) 2 C dL_told_0 rfl rfl ?_
  refine jh_iconst (pc := 1) 0 C dL_told_1 (by decide) ?_
  refine jh_aload_n (pc := 2) 0 C dL_told_2 rfl rfl ?_
  refine jh_iload_n (pc := 3) 1 C dL_told_3 rfl rfl ?_
  refine jh_callI (pc := 4) C (hrn_V (V := VC G 4 1 6 RL) (ci := 9) 0 (As := [.int x1]) (Cq := (RX9, TX9, 15)) (cC_Main_told C.flags C.wok x1 S) knX9_told ⟨q_496, q_497⟩ rfl rfl C dL_told_4 q_1360 (by omega) rfl rfl (Nat.le_of_ble_eq_true rfl) ⟨(Nat.le_of_ble_eq_true rfl), (Nat.le_of_ble_eq_true rfl)⟩) (fun v T => ?_) (fun j T r9 S9 h9 => ?_)
  ·
    refine jh_i2l (pc := 7) C dL_told_7 ?_
    refine jh_last (pc := 8) (V := VC G 4 1 6 RL) (sB T 53 0 ((v : Int32).toInt64)) 53 rfl rfl C dL_told_8 ?_
    refine j_nxS (fun T1 => ?_)
    refine jh_goto (pc := 9) 15 C dL_told_9 (by decide) ?_
    refine jh_iconst (pc := 15) 0 C dL_told_15 (by decide) ?_
    exact jh_iret C dL_told_16 rfl (Nat.le_of_ble_eq_true rfl) (Nat.le_of_ble_eq_true rfl)
  ·
    by_cases e0 : j = 1
    · subst e0
      refine ⟨12, ⟨[], _, [], rfl, fun z hz => (nomatch hz), rfl, by decide, q_1356, q_52, rfl⟩, fun q => ?_⟩
      rw [if_pos rfl]
      refine jh_astore_n (pc := 12) [(3, .ref q), (0, .ref (gA G 0)), (1, .int x1), (2, .ref (gA G 53))] C dL_told_12 rfl (Nat.le_of_ble_eq_true rfl) rfl ?_
      refine jh_iconst (pc := 13) 1 C dL_told_13 (by decide) ?_
      exact jh_iret C dL_told_14 rfl (Nat.le_of_ble_eq_true rfl) (Nat.le_of_ble_eq_true rfl)
    · rw [if_neg e0] at h9
      cases h9)

theorem cH_poem {l : Launch} {G : Gc} (hfl : l.stackTraces = false) (hW : Wok G wC 54) (x1 : Int32) (x2 : Int32) (S : St) : CtH l yL_poem (Cond.codeWith yL_poem cL_poem 5 (some .int) [(0, 10, 13, 31), (0, 10, 17, 13)] :: tblG) 9 2 12 G wC 54 [.ref (gA G 0), .int x1, .int x2, .ref (gA G 53)] S (fH_poem x1 x2 S) := cth_of (own := RL) hfl (by decide +kernel) rfl hW (Nat.le_of_ble_eq_true rfl) (fun E hE C hN => by
  subst hE
  unfold fH_poem
  refine jh_aload_n (pc := 0) 3 C dL_poem_0 rfl rfl ?_
  refine jh_iconst (pc := 1) 0 C dL_poem_1 (by decide) ?_
  refine jh_aload_n (pc := 2) 0 C dL_poem_2 rfl rfl ?_
  refine jh_iload_n (pc := 3) 1 C dL_poem_3 rfl rfl ?_
  refine jh_iload_n (pc := 4) 2 C dL_poem_4 rfl rfl ?_
  refine jh_callI (pc := 5) C (hrn_V (V := VC G 5 2 12 RL) (ci := 9) 0 (As := [.int x1, .int x2]) (Cq := (RX9, TX9, 15)) (cC_Main_poem C.flags C.wok x1 x2 S) knX9_poem ⟨q_524, q_525⟩ rfl rfl C dL_poem_5 q_1361 (by omega) rfl rfl (Nat.le_of_ble_eq_true rfl) ⟨(Nat.le_of_ble_eq_true rfl), (Nat.le_of_ble_eq_true rfl)⟩) (fun v T => ?_) (fun j T r9 S9 h9 => ?_)
  ·
    refine jh_i2l (pc := 8) C dL_poem_8 ?_
    refine jh_last (pc := 9) (V := VC G 5 2 12 RL) (sB T 53 0 ((v : Int32).toInt64)) 53 rfl rfl C dL_poem_9 ?_
    refine j_nxS (fun T1 => ?_)
    refine jh_goto (pc := 10) 21 C dL_poem_10 (by decide) ?_
    refine jh_iconst (pc := 21) 0 C dL_poem_21 (by decide) ?_
    exact jh_iret C dL_poem_22 rfl (Nat.le_of_ble_eq_true rfl) (Nat.le_of_ble_eq_true rfl)
  ·
    by_cases e0 : j = 0
    · subst e0
      refine ⟨13, ⟨[], _, [_], rfl, fun z hz => (nomatch hz), rfl, by decide, q_1362, q_500, rfl⟩, fun q => ?_⟩
      rw [if_pos rfl]
      refine jh_astore (pc := 13) [(4, .ref q), (0, .ref (gA G 0)), (1, .int x1), (2, .int x2), (3, .ref (gA G 53))] C dL_poem_13 (Nat.le_of_ble_eq_true rfl) rfl ?_
      refine jh_iconst (pc := 15) 1 C dL_poem_15 (by decide) ?_
      exact jh_iret C dL_poem_16 rfl (Nat.le_of_ble_eq_true rfl) (Nat.le_of_ble_eq_true rfl)
    · rw [if_neg e0] at h9
      by_cases e1 : j = 1
      · subst e1
        refine ⟨17, ⟨[_], _, [], rfl, fun z hz => Or.inr (by rw [List.mem_singleton] at hz; subst hz; exact ⟨by decide, _, q_1362, hN⟩), rfl, by decide, q_1356, q_52, rfl⟩, fun q => ?_⟩
        rw [if_neg (by decide), if_pos rfl]
        refine jh_astore (pc := 17) [(4, .ref q), (0, .ref (gA G 0)), (1, .int x1), (2, .int x2), (3, .ref (gA G 53))] C dL_poem_17 (Nat.le_of_ble_eq_true rfl) rfl ?_
        refine jh_iconst (pc := 19) 2 C dL_poem_19 (by decide) ?_
        exact jh_iret C dL_poem_20 rfl (Nat.le_of_ble_eq_true rfl) (Nat.le_of_ble_eq_true rfl)
      · rw [if_neg e1] at h9
        cases h9)

theorem cH_man {l : Launch} {G : Gc} (hfl : l.stackTraces = false) (hW : Wok G wC 54) (x1 : Int32) (x2 : Int32) (S : St) : CtH l yL_man (Cond.codeWith yL_man cL_man 5 (some .int) [(0, 10, 13, 31), (0, 10, 17, 13)] :: tblG) 9 2 12 G wC 54 [.ref (gA G 0), .int x1, .int x2, .ref (gA G 53)] S (fH_man x1 x2 S) := cth_of (own := RL) hfl (by decide +kernel) rfl hW (Nat.le_of_ble_eq_true rfl) (fun E hE C hN => by
  subst hE
  unfold fH_man
  refine jh_aload_n (pc := 0) 3 C dL_man_0 rfl rfl ?_
  refine jh_iconst (pc := 1) 0 C dL_man_1 (by decide) ?_
  refine jh_aload_n (pc := 2) 0 C dL_man_2 rfl rfl ?_
  refine jh_iload_n (pc := 3) 1 C dL_man_3 rfl rfl ?_
  refine jh_iload_n (pc := 4) 2 C dL_man_4 rfl rfl ?_
  refine jh_callI (pc := 5) C (hrn_V (V := VC G 5 2 12 RL) (ci := 9) 0 (As := [.int x1, .int x2]) (Cq := (RX9, TX9, 15)) (cC_Main_man C.flags C.wok x1 x2 S) knX9_man ⟨q_555, q_556⟩ rfl rfl C dL_man_5 q_1363 (by omega) rfl rfl (Nat.le_of_ble_eq_true rfl) ⟨(Nat.le_of_ble_eq_true rfl), (Nat.le_of_ble_eq_true rfl)⟩) (fun v T => ?_) (fun j T r9 S9 h9 => ?_)
  ·
    refine jh_i2l (pc := 8) C dL_man_8 ?_
    refine jh_last (pc := 9) (V := VC G 5 2 12 RL) (sB T 53 0 ((v : Int32).toInt64)) 53 rfl rfl C dL_man_9 ?_
    refine j_nxS (fun T1 => ?_)
    refine jh_goto (pc := 10) 21 C dL_man_10 (by decide) ?_
    refine jh_iconst (pc := 21) 0 C dL_man_21 (by decide) ?_
    exact jh_iret C dL_man_22 rfl (Nat.le_of_ble_eq_true rfl) (Nat.le_of_ble_eq_true rfl)
  ·
    by_cases e0 : j = 0
    · subst e0
      refine ⟨13, ⟨[], _, [_], rfl, fun z hz => (nomatch hz), rfl, by decide, q_1362, q_500, rfl⟩, fun q => ?_⟩
      rw [if_pos rfl]
      refine jh_astore (pc := 13) [(4, .ref q), (0, .ref (gA G 0)), (1, .int x1), (2, .int x2), (3, .ref (gA G 53))] C dL_man_13 (Nat.le_of_ble_eq_true rfl) rfl ?_
      refine jh_iconst (pc := 15) 1 C dL_man_15 (by decide) ?_
      exact jh_iret C dL_man_16 rfl (Nat.le_of_ble_eq_true rfl) (Nat.le_of_ble_eq_true rfl)
    · rw [if_neg e0] at h9
      by_cases e1 : j = 1
      · subst e1
        refine ⟨17, ⟨[_], _, [], rfl, fun z hz => Or.inr (by rw [List.mem_singleton] at hz; subst hz; exact ⟨by decide, _, q_1362, hN⟩), rfl, by decide, q_1356, q_52, rfl⟩, fun q => ?_⟩
        rw [if_neg (by decide), if_pos rfl]
        refine jh_astore (pc := 17) [(4, .ref q), (0, .ref (gA G 0)), (1, .int x1), (2, .int x2), (3, .ref (gA G 53))] C dL_man_17 (Nat.le_of_ble_eq_true rfl) rfl ?_
        refine jh_iconst (pc := 19) 2 C dL_man_19 (by decide) ?_
        exact jh_iret C dL_man_20 rfl (Nat.le_of_ble_eq_true rfl) (Nat.le_of_ble_eq_true rfl)
      · rw [if_neg e1] at h9
        cases h9)

theorem cH_debt {l : Launch} {G : Gc} (hfl : l.stackTraces = false) (hW : Wok G wC 54) (x1 : Int32) (x2 : Int32) (S : St) : CtH l yL_debt (Cond.codeWith yL_debt cL_debt 5 (some .int) [(0, 10, 13, 31), (0, 10, 17, 13)] :: tblG) 9 2 12 G wC 54 [.ref (gA G 0), .int x1, .int x2, .ref (gA G 53)] S (fH_debt x1 x2 S) := cth_of (own := RL) hfl (by decide +kernel) rfl hW (Nat.le_of_ble_eq_true rfl) (fun E hE C hN => by
  subst hE
  unfold fH_debt
  refine jh_aload_n (pc := 0) 3 C dL_debt_0 rfl rfl ?_
  refine jh_iconst (pc := 1) 0 C dL_debt_1 (by decide) ?_
  refine jh_aload_n (pc := 2) 0 C dL_debt_2 rfl rfl ?_
  refine jh_iload_n (pc := 3) 1 C dL_debt_3 rfl rfl ?_
  refine jh_iload_n (pc := 4) 2 C dL_debt_4 rfl rfl ?_
  refine jh_callI (pc := 5) C (hrn_V (V := VC G 5 2 12 RL) (ci := 9) 0 (As := [.int x1, .int x2]) (Cq := (RX9, TX9, 15)) (cC_Main_debt C.flags C.wok x1 x2 S) knX9_debt ⟨q_572, q_573⟩ rfl rfl C dL_debt_5 q_1364 (by omega) rfl rfl (Nat.le_of_ble_eq_true rfl) ⟨(Nat.le_of_ble_eq_true rfl), (Nat.le_of_ble_eq_true rfl)⟩) (fun v T => ?_) (fun j T r9 S9 h9 => ?_)
  ·
    refine jh_i2l (pc := 8) C dL_debt_8 ?_
    refine jh_last (pc := 9) (V := VC G 5 2 12 RL) (sB T 53 0 ((v : Int32).toInt64)) 53 rfl rfl C dL_debt_9 ?_
    refine j_nxS (fun T1 => ?_)
    refine jh_goto (pc := 10) 21 C dL_debt_10 (by decide) ?_
    refine jh_iconst (pc := 21) 0 C dL_debt_21 (by decide) ?_
    exact jh_iret C dL_debt_22 rfl (Nat.le_of_ble_eq_true rfl) (Nat.le_of_ble_eq_true rfl)
  ·
    by_cases e0 : j = 0
    · subst e0
      refine ⟨13, ⟨[], _, [_], rfl, fun z hz => (nomatch hz), rfl, by decide, q_1362, q_500, rfl⟩, fun q => ?_⟩
      rw [if_pos rfl]
      refine jh_astore (pc := 13) [(4, .ref q), (0, .ref (gA G 0)), (1, .int x1), (2, .int x2), (3, .ref (gA G 53))] C dL_debt_13 (Nat.le_of_ble_eq_true rfl) rfl ?_
      refine jh_iconst (pc := 15) 1 C dL_debt_15 (by decide) ?_
      exact jh_iret C dL_debt_16 rfl (Nat.le_of_ble_eq_true rfl) (Nat.le_of_ble_eq_true rfl)
    · rw [if_neg e0] at h9
      by_cases e1 : j = 1
      · subst e1
        refine ⟨17, ⟨[_], _, [], rfl, fun z hz => Or.inr (by rw [List.mem_singleton] at hz; subst hz; exact ⟨by decide, _, q_1362, hN⟩), rfl, by decide, q_1356, q_52, rfl⟩, fun q => ?_⟩
        rw [if_neg (by decide), if_pos rfl]
        refine jh_astore (pc := 17) [(4, .ref q), (0, .ref (gA G 0)), (1, .int x1), (2, .int x2), (3, .ref (gA G 53))] C dL_debt_17 (Nat.le_of_ble_eq_true rfl) rfl ?_
        refine jh_iconst (pc := 19) 2 C dL_debt_19 (by decide) ?_
        exact jh_iret C dL_debt_20 rfl (Nat.le_of_ble_eq_true rfl) (Nat.le_of_ble_eq_true rfl)
      · rw [if_neg e1] at h9
        cases h9)

theorem cH_knows {l : Launch} {G : Gc} (hfl : l.stackTraces = false) (hW : Wok G wC 54) (x1 : Int32) (x2 : Int32) (S : St) : CtH l yL_knows (Cond.codeWith yL_knows cL_knows 5 (some .int) [(0, 10, 13, 31)] :: tblG) 9 2 12 G wC 54 [.ref (gA G 0), .int x1, .int x2, .ref (gA G 53)] S (fH_knows x1 x2 S) := cth_of (own := RL) hfl (by decide +kernel) rfl hW (Nat.le_of_ble_eq_true rfl) (fun E hE C hN => by
  subst hE
  unfold fH_knows
  refine jh_aload_n (pc := 0) 3 C dL_knows_0 rfl rfl ?_
  refine jh_iconst (pc := 1) 0 C dL_knows_1 (by decide) ?_
  refine jh_aload_n (pc := 2) 0 C dL_knows_2 rfl rfl ?_
  refine jh_iload_n (pc := 3) 1 C dL_knows_3 rfl rfl ?_
  refine jh_iload_n (pc := 4) 2 C dL_knows_4 rfl rfl ?_
  refine jh_callI (pc := 5) C (hrn_V (V := VC G 5 2 12 RL) (ci := 9) 0 (As := [.int x1, .int x2]) (Cq := (RX9, TX9, 15)) (cC_Main_knows C.flags C.wok x1 x2 S) knX9_knows ⟨q_579, q_580⟩ rfl rfl C dL_knows_5 q_1365 (by omega) rfl rfl (Nat.le_of_ble_eq_true rfl) ⟨(Nat.le_of_ble_eq_true rfl), (Nat.le_of_ble_eq_true rfl)⟩) (fun v T => ?_) (fun j T r9 S9 h9 => ?_)
  ·
    refine jh_i2l (pc := 8) C dL_knows_8 ?_
    refine jh_last (pc := 9) (V := VC G 5 2 12 RL) (sB T 53 0 ((v : Int32).toInt64)) 53 rfl rfl C dL_knows_9 ?_
    refine j_nxS (fun T1 => ?_)
    refine jh_goto (pc := 10) 17 C dL_knows_10 (by decide) ?_
    refine jh_iconst (pc := 17) 0 C dL_knows_17 (by decide) ?_
    exact jh_iret C dL_knows_18 rfl (Nat.le_of_ble_eq_true rfl) (Nat.le_of_ble_eq_true rfl)
  ·
    by_cases e0 : j = 0
    · subst e0
      refine ⟨13, ⟨[], _, [], rfl, fun z hz => (nomatch hz), rfl, by decide, q_1362, q_500, rfl⟩, fun q => ?_⟩
      rw [if_pos rfl]
      refine jh_astore (pc := 13) [(4, .ref q), (0, .ref (gA G 0)), (1, .int x1), (2, .int x2), (3, .ref (gA G 53))] C dL_knows_13 (Nat.le_of_ble_eq_true rfl) rfl ?_
      refine jh_iconst (pc := 15) 1 C dL_knows_15 (by decide) ?_
      exact jh_iret C dL_knows_16 rfl (Nat.le_of_ble_eq_true rfl) (Nat.le_of_ble_eq_true rfl)
    · rw [if_neg e0] at h9
      cases h9)

theorem cH_learns {l : Launch} {G : Gc} (hfl : l.stackTraces = false) (hW : Wok G wC 54) (x1 : Int32) (x2 : Int32) (S : St) : CtH l yL_learns (Cond.codeWith yL_learns cL_learns 5 (some .int) [(0, 10, 13, 31)] :: tblG) 9 2 12 G wC 54 [.ref (gA G 0), .int x1, .int x2, .ref (gA G 53)] S (fH_learns x1 x2 S) := cth_of (own := RL) hfl (by decide +kernel) rfl hW (Nat.le_of_ble_eq_true rfl) (fun E hE C hN => by
  subst hE
  unfold fH_learns
  refine jh_aload_n (pc := 0) 3 C dL_learns_0 rfl rfl ?_
  refine jh_iconst (pc := 1) 0 C dL_learns_1 (by decide) ?_
  refine jh_aload_n (pc := 2) 0 C dL_learns_2 rfl rfl ?_
  refine jh_iload_n (pc := 3) 1 C dL_learns_3 rfl rfl ?_
  refine jh_iload_n (pc := 4) 2 C dL_learns_4 rfl rfl ?_
  refine jh_callI (pc := 5) C (hrn_V (V := VC G 5 2 12 RL) (ci := 9) 0 (As := [.int x1, .int x2]) (Cq := (RX9, TX9, 15)) (cC_Main_learns C.flags C.wok x1 x2 S) knX9_learns ⟨q_583, q_584⟩ rfl rfl C dL_learns_5 q_1366 (by omega) rfl rfl (Nat.le_of_ble_eq_true rfl) ⟨(Nat.le_of_ble_eq_true rfl), (Nat.le_of_ble_eq_true rfl)⟩) (fun v T => ?_) (fun j T r9 S9 h9 => ?_)
  ·
    refine jh_i2l (pc := 8) C dL_learns_8 ?_
    refine jh_last (pc := 9) (V := VC G 5 2 12 RL) (sB T 53 0 ((v : Int32).toInt64)) 53 rfl rfl C dL_learns_9 ?_
    refine j_nxS (fun T1 => ?_)
    refine jh_goto (pc := 10) 17 C dL_learns_10 (by decide) ?_
    refine jh_iconst (pc := 17) 0 C dL_learns_17 (by decide) ?_
    exact jh_iret C dL_learns_18 rfl (Nat.le_of_ble_eq_true rfl) (Nat.le_of_ble_eq_true rfl)
  ·
    by_cases e0 : j = 0
    · subst e0
      refine ⟨13, ⟨[], _, [], rfl, fun z hz => (nomatch hz), rfl, by decide, q_1362, q_500, rfl⟩, fun q => ?_⟩
      rw [if_pos rfl]
      refine jh_astore (pc := 13) [(4, .ref q), (0, .ref (gA G 0)), (1, .int x1), (2, .int x2), (3, .ref (gA G 53))] C dL_learns_13 (Nat.le_of_ble_eq_true rfl) rfl ?_
      refine jh_iconst (pc := 15) 1 C dL_learns_15 (by decide) ?_
      exact jh_iret C dL_learns_16 rfl (Nat.le_of_ble_eq_true rfl) (Nat.le_of_ble_eq_true rfl)
    · rw [if_neg e0] at h9
      cases h9)

theorem cH_would {l : Launch} {G : Gc} (hfl : l.stackTraces = false) (hW : Wok G wC 54) (x1 : Int32) (x2 : Int32) (x3 : Int32) (x4 : Int32) (x5 : Int32) (x6 : Int32) (x7 : Int32) (x8 : Int32) (S : St) : CtH l yL_would (Cond.codeWith yL_would cL_would 11 (some .int) [(0, 22, 25, 13)] :: tblG) 9 3 18 G wC 54 [.ref (gA G 0), .int x1, .int x2, .int x3, .int x4, .int x5, .int x6, .int x7, .int x8, .ref (gA G 53)] S (fH_would x1 x2 x3 x4 x5 x6 x7 x8 S) := cth_of (own := RL) hfl (by decide +kernel) rfl hW (Nat.le_of_ble_eq_true rfl) (fun E hE C hN => by
  subst hE
  unfold fH_would
  refine jh_aload (pc := 0) 9 C dL_would_0 rfl ?_
  refine jh_iconst (pc := 2) 0 C dL_would_2 (by decide) ?_
  refine jh_aload_n (pc := 3) 0 C dL_would_3 rfl rfl ?_
  refine jh_iload_n (pc := 4) 1 C dL_would_4 rfl rfl ?_
  refine jh_iload_n (pc := 5) 2 C dL_would_5 rfl rfl ?_
  refine jh_iload_n (pc := 6) 3 C dL_would_6 rfl rfl ?_
  refine jh_iload (pc := 7) 4 C dL_would_7 rfl ?_
  refine jh_iload (pc := 9) 5 C dL_would_9 rfl ?_
  refine jh_iload (pc := 11) 6 C dL_would_11 rfl ?_
  refine jh_iload (pc := 13) 7 C dL_would_13 rfl ?_
  refine jh_iload (pc := 15) 8 C dL_would_15 rfl ?_
  refine jh_callI (pc := 17) C (hrn_V (V := VC G 11 3 18 RL) (ci := 9) 0 (As := [.int x1, .int x2, .int x3, .int x4, .int x5, .int x6, .int x7, .int x8]) (Cq := (RX9, TX9, 15)) (cC_Main_would C.flags C.wok x1 x2 x3 x4 x5 x6 x7 x8 S) knX9_would ⟨q_589, q_590⟩ rfl rfl C dL_would_17 q_1367 (by omega) rfl rfl (Nat.le_of_ble_eq_true rfl) ⟨(Nat.le_of_ble_eq_true rfl), (Nat.le_of_ble_eq_true rfl)⟩) (fun v T => ?_) (fun j T r9 S9 h9 => ?_)
  ·
    refine jh_i2l (pc := 20) C dL_would_20 ?_
    refine jh_last (pc := 21) (V := VC G 11 3 18 RL) (sB T 53 0 ((v : Int32).toInt64)) 53 rfl rfl C dL_would_21 ?_
    refine j_nxS (fun T1 => ?_)
    refine jh_goto (pc := 22) 29 C dL_would_22 (by decide) ?_
    refine jh_iconst (pc := 29) 0 C dL_would_29 (by decide) ?_
    exact jh_iret C dL_would_30 rfl (Nat.le_of_ble_eq_true rfl) (Nat.le_of_ble_eq_true rfl)
  ·
    by_cases e0 : j = 1
    · subst e0
      refine ⟨25, ⟨[], _, [], rfl, fun z hz => (nomatch hz), rfl, by decide, q_1356, q_52, rfl⟩, fun q => ?_⟩
      rw [if_pos rfl]
      refine jh_astore (pc := 25) [(10, .ref q), (0, .ref (gA G 0)), (1, .int x1), (2, .int x2), (3, .int x3), (4, .int x4), (5, .int x5), (6, .int x6), (7, .int x7), (8, .int x8), (9, .ref (gA G 53))] C dL_would_25 (Nat.le_of_ble_eq_true rfl) rfl ?_
      refine jh_iconst (pc := 27) 1 C dL_would_27 (by decide) ?_
      exact jh_iret C dL_would_28 rfl (Nat.le_of_ble_eq_true rfl) (Nat.le_of_ble_eq_true rfl)
    · rw [if_neg e0] at h9
      cases h9)

theorem cH_ahead {l : Launch} {G : Gc} (hfl : l.stackTraces = false) (hW : Wok G wC 54) (x1 : Int32) (x2 : Int32) (S : St) : CtH l yL_ahead (Cond.codeWith yL_ahead cL_ahead 5 (some .int) [(0, 10, 13, 13)] :: tblG) 9 1 6 G wC 54 [.ref (gA G 0), .int x1, .int x2, .ref (gA G 53)] S (fH_ahead x1 x2 S) := cth_of (own := RL) hfl (by decide +kernel) rfl hW (Nat.le_of_ble_eq_true rfl) (fun E hE C hN => by
  subst hE
  unfold fH_ahead
  refine jh_aload_n (pc := 0) 3 C dL_ahead_0 rfl rfl ?_
  refine jh_iconst (pc := 1) 0 C dL_ahead_1 (by decide) ?_
  refine jh_aload_n (pc := 2) 0 C dL_ahead_2 rfl rfl ?_
  refine jh_iload_n (pc := 3) 1 C dL_ahead_3 rfl rfl ?_
  refine jh_iload_n (pc := 4) 2 C dL_ahead_4 rfl rfl ?_
  refine jh_callI (pc := 5) C (hrn_V (V := VC G 5 1 6 RL) (ci := 9) 0 (As := [.int x1, .int x2]) (Cq := (RX9, TX9, 15)) (cC_Main_ahead C.flags C.wok x1 x2 S) knX9_ahead ⟨q_608, q_609⟩ rfl rfl C dL_ahead_5 q_1368 (by omega) rfl rfl (Nat.le_of_ble_eq_true rfl) ⟨(Nat.le_of_ble_eq_true rfl), (Nat.le_of_ble_eq_true rfl)⟩) (fun v T => ?_) (fun j T r9 S9 h9 => ?_)
  ·
    refine jh_i2l (pc := 8) C dL_ahead_8 ?_
    refine jh_last (pc := 9) (V := VC G 5 1 6 RL) (sB T 53 0 ((v : Int32).toInt64)) 53 rfl rfl C dL_ahead_9 ?_
    refine j_nxS (fun T1 => ?_)
    refine jh_goto (pc := 10) 17 C dL_ahead_10 (by decide) ?_
    refine jh_iconst (pc := 17) 0 C dL_ahead_17 (by decide) ?_
    exact jh_iret C dL_ahead_18 rfl (Nat.le_of_ble_eq_true rfl) (Nat.le_of_ble_eq_true rfl)
  ·
    by_cases e0 : j = 1
    · subst e0
      refine ⟨13, ⟨[], _, [], rfl, fun z hz => (nomatch hz), rfl, by decide, q_1356, q_52, rfl⟩, fun q => ?_⟩
      rw [if_pos rfl]
      refine jh_astore (pc := 13) [(4, .ref q), (0, .ref (gA G 0)), (1, .int x1), (2, .int x2), (3, .ref (gA G 53))] C dL_ahead_13 (Nat.le_of_ble_eq_true rfl) rfl ?_
      refine jh_iconst (pc := 15) 1 C dL_ahead_15 (by decide) ?_
      exact jh_iret C dL_ahead_16 rfl (Nat.le_of_ble_eq_true rfl) (Nat.le_of_ble_eq_true rfl)
    · rw [if_neg e0] at h9
      cases h9)

theorem cH_lessons {l : Launch} {G : Gc} (hfl : l.stackTraces = false) (hW : Wok G wC 54) (x1 : Int32) (x2 : Int32) (S : St) : CtH l yL_lessons (Cond.codeWith yL_lessons cL_lessons 5 (some .int) [(0, 10, 13, 31)] :: tblG) 9 2 12 G wC 54 [.ref (gA G 0), .int x1, .int x2, .ref (gA G 53)] S (fH_lessons x1 x2 S) := cth_of (own := RL) hfl (by decide +kernel) rfl hW (Nat.le_of_ble_eq_true rfl) (fun E hE C hN => by
  subst hE
  unfold fH_lessons
  refine jh_aload_n (pc := 0) 3 C dL_lessons_0 rfl rfl ?_
  refine jh_iconst (pc := 1) 0 C dL_lessons_1 (by decide) ?_
  refine jh_aload_n (pc := 2) 0 C dL_lessons_2 rfl rfl ?_
  refine jh_iload_n (pc := 3) 1 C dL_lessons_3 rfl rfl ?_
  refine jh_iload_n (pc := 4) 2 C dL_lessons_4 rfl rfl ?_
  refine jh_callI (pc := 5) C (hrn_V (V := VC G 5 2 12 RL) (ci := 9) 0 (As := [.int x1, .int x2]) (Cq := (RX9, TX9, 15)) (cC_Main_lessons C.flags C.wok x1 x2 S) knX9_lessons ⟨q_617, q_618⟩ rfl rfl C dL_lessons_5 q_1369 (by omega) rfl rfl (Nat.le_of_ble_eq_true rfl) ⟨(Nat.le_of_ble_eq_true rfl), (Nat.le_of_ble_eq_true rfl)⟩) (fun v T => ?_) (fun j T r9 S9 h9 => ?_)
  ·
    refine jh_i2l (pc := 8) C dL_lessons_8 ?_
    refine jh_last (pc := 9) (V := VC G 5 2 12 RL) (sB T 53 0 ((v : Int32).toInt64)) 53 rfl rfl C dL_lessons_9 ?_
    refine j_nxS (fun T1 => ?_)
    refine jh_goto (pc := 10) 17 C dL_lessons_10 (by decide) ?_
    refine jh_iconst (pc := 17) 0 C dL_lessons_17 (by decide) ?_
    exact jh_iret C dL_lessons_18 rfl (Nat.le_of_ble_eq_true rfl) (Nat.le_of_ble_eq_true rfl)
  ·
    by_cases e0 : j = 0
    · subst e0
      refine ⟨13, ⟨[], _, [], rfl, fun z hz => (nomatch hz), rfl, by decide, q_1362, q_500, rfl⟩, fun q => ?_⟩
      rw [if_pos rfl]
      refine jh_astore (pc := 13) [(4, .ref q), (0, .ref (gA G 0)), (1, .int x1), (2, .int x2), (3, .ref (gA G 53))] C dL_lessons_13 (Nat.le_of_ble_eq_true rfl) rfl ?_
      refine jh_iconst (pc := 15) 1 C dL_lessons_15 (by decide) ?_
      exact jh_iret C dL_lessons_16 rfl (Nat.le_of_ble_eq_true rfl) (Nat.le_of_ble_eq_true rfl)
    · rw [if_neg e0] at h9
      cases h9)

theorem cH_pays {l : Launch} {G : Gc} (hfl : l.stackTraces = false) (hW : Wok G wC 54) (x1 : Int32) (S : St) : CtH l yL_pays (Cond.codeWith yL_pays cL_pays 4 (some .int) [(0, 9, 12, 31)] :: tblG) 9 1 6 G wC 54 [.ref (gA G 0), .int x1, .ref (gA G 53)] S (fH_pays x1 S) := cth_of (own := RL) hfl (by decide +kernel) rfl hW (Nat.le_of_ble_eq_true rfl) (fun E hE C hN => by
  subst hE
  unfold fH_pays
  refine jh_aload_n (pc := 0) 2 C dL_pays_0 rfl rfl ?_
  refine jh_iconst (pc := 1) 0 C dL_pays_1 (by decide) ?_
  refine jh_aload_n (pc := 2) 0 C dL_pays_2 rfl rfl ?_
  refine jh_iload_n (pc := 3) 1 C dL_pays_3 rfl rfl ?_
  refine jh_callI (pc := 4) C (hrn_V (V := VC G 4 1 6 RL) (ci := 9) 0 (As := [.int x1]) (Cq := (RX9, TX9, 15)) (cC_Main_pays C.flags C.wok x1 S) knX9_pays ⟨q_667, q_668⟩ rfl rfl C dL_pays_4 q_1370 (by omega) rfl rfl (Nat.le_of_ble_eq_true rfl) ⟨(Nat.le_of_ble_eq_true rfl), (Nat.le_of_ble_eq_true rfl)⟩) (fun v T => ?_) (fun j T r9 S9 h9 => ?_)
  ·
    refine jh_i2l (pc := 7) C dL_pays_7 ?_
    refine jh_last (pc := 8) (V := VC G 4 1 6 RL) (sB T 53 0 ((v : Int32).toInt64)) 53 rfl rfl C dL_pays_8 ?_
    refine j_nxS (fun T1 => ?_)
    refine jh_goto (pc := 9) 15 C dL_pays_9 (by decide) ?_
    refine jh_iconst (pc := 15) 0 C dL_pays_15 (by decide) ?_
    exact jh_iret C dL_pays_16 rfl (Nat.le_of_ble_eq_true rfl) (Nat.le_of_ble_eq_true rfl)
  ·
    by_cases e0 : j = 0
    · subst e0
      refine ⟨12, ⟨[], _, [], rfl, fun z hz => (nomatch hz), rfl, by decide, q_1362, q_500, rfl⟩, fun q => ?_⟩
      rw [if_pos rfl]
      refine jh_astore_n (pc := 12) [(3, .ref q), (0, .ref (gA G 0)), (1, .int x1), (2, .ref (gA G 53))] C dL_pays_12 rfl (Nat.le_of_ble_eq_true rfl) rfl ?_
      refine jh_iconst (pc := 13) 1 C dL_pays_13 (by decide) ?_
      exact jh_iret C dL_pays_14 rfl (Nat.le_of_ble_eq_true rfl) (Nat.le_of_ble_eq_true rfl)
    · rw [if_neg e0] at h9
      cases h9)

theorem cH_hardest {l : Launch} {G : Gc} (hfl : l.stackTraces = false) (hW : Wok G wC 54) (x1 : Int32) (S : St) : CtH l yL_hardest (Cond.codeWith yL_hardest cL_hardest 4 (some .int) [(0, 9, 12, 31)] :: tblG) 9 1 6 G wC 54 [.ref (gA G 0), .int x1, .ref (gA G 53)] S (fH_hardest x1 S) := cth_of (own := RL) hfl (by decide +kernel) rfl hW (Nat.le_of_ble_eq_true rfl) (fun E hE C hN => by
  subst hE
  unfold fH_hardest
  refine jh_aload_n (pc := 0) 2 C dL_hardest_0 rfl rfl ?_
  refine jh_iconst (pc := 1) 0 C dL_hardest_1 (by decide) ?_
  refine jh_aload_n (pc := 2) 0 C dL_hardest_2 rfl rfl ?_
  refine jh_iload_n (pc := 3) 1 C dL_hardest_3 rfl rfl ?_
  refine jh_callI (pc := 4) C (hrn_V (V := VC G 4 1 6 RL) (ci := 9) 0 (As := [.int x1]) (Cq := (RX9, TX9, 15)) (cC_Main_hardest C.flags C.wok x1 S) knX9_hardest ⟨q_676, q_677⟩ rfl rfl C dL_hardest_4 q_1371 (by omega) rfl rfl (Nat.le_of_ble_eq_true rfl) ⟨(Nat.le_of_ble_eq_true rfl), (Nat.le_of_ble_eq_true rfl)⟩) (fun v T => ?_) (fun j T r9 S9 h9 => ?_)
  ·
    refine jh_i2l (pc := 7) C dL_hardest_7 ?_
    refine jh_last (pc := 8) (V := VC G 4 1 6 RL) (sB T 53 0 ((v : Int32).toInt64)) 53 rfl rfl C dL_hardest_8 ?_
    refine j_nxS (fun T1 => ?_)
    refine jh_goto (pc := 9) 15 C dL_hardest_9 (by decide) ?_
    refine jh_iconst (pc := 15) 0 C dL_hardest_15 (by decide) ?_
    exact jh_iret C dL_hardest_16 rfl (Nat.le_of_ble_eq_true rfl) (Nat.le_of_ble_eq_true rfl)
  ·
    by_cases e0 : j = 0
    · subst e0
      refine ⟨12, ⟨[], _, [], rfl, fun z hz => (nomatch hz), rfl, by decide, q_1362, q_500, rfl⟩, fun q => ?_⟩
      rw [if_pos rfl]
      refine jh_astore_n (pc := 12) [(3, .ref q), (0, .ref (gA G 0)), (1, .int x1), (2, .ref (gA G 53))] C dL_hardest_12 rfl (Nat.le_of_ble_eq_true rfl) rfl ?_
      refine jh_iconst (pc := 13) 1 C dL_hardest_13 (by decide) ?_
      exact jh_iret C dL_hardest_14 rfl (Nat.le_of_ble_eq_true rfl) (Nat.le_of_ble_eq_true rfl)
    · rw [if_neg e0] at h9
      cases h9)

theorem cH_fits {l : Launch} {G : Gc} (hfl : l.stackTraces = false) (hW : Wok G wC 54) (x1 : Int32) (S : St) : CtH l yL_fits (Cond.codeWith yL_fits cL_fits 4 (some .int) [(0, 9, 12, 13)] :: tblG) 9 1 6 G wC 54 [.ref (gA G 0), .int x1, .ref (gA G 53)] S (fH_fits x1 S) := cth_of (own := RL) hfl (by decide +kernel) rfl hW (Nat.le_of_ble_eq_true rfl) (fun E hE C hN => by
  subst hE
  unfold fH_fits
  refine jh_aload_n (pc := 0) 2 C dL_fits_0 rfl rfl ?_
  refine jh_iconst (pc := 1) 0 C dL_fits_1 (by decide) ?_
  refine jh_aload_n (pc := 2) 0 C dL_fits_2 rfl rfl ?_
  refine jh_iload_n (pc := 3) 1 C dL_fits_3 rfl rfl ?_
  refine jh_callI (pc := 4) C (hrn_V (V := VC G 4 1 6 RL) (ci := 9) 0 (As := [.int x1]) (Cq := (RX9, TX9, 15)) (cC_Main_fits C.flags C.wok x1 S) knX9_fits ⟨q_685, q_686⟩ rfl rfl C dL_fits_4 q_1372 (by omega) rfl rfl (Nat.le_of_ble_eq_true rfl) ⟨(Nat.le_of_ble_eq_true rfl), (Nat.le_of_ble_eq_true rfl)⟩) (fun v T => ?_) (fun j T r9 S9 h9 => ?_)
  ·
    refine jh_i2l (pc := 7) C dL_fits_7 ?_
    refine jh_last (pc := 8) (V := VC G 4 1 6 RL) (sB T 53 0 ((v : Int32).toInt64)) 53 rfl rfl C dL_fits_8 ?_
    refine j_nxS (fun T1 => ?_)
    refine jh_goto (pc := 9) 15 C dL_fits_9 (by decide) ?_
    refine jh_iconst (pc := 15) 0 C dL_fits_15 (by decide) ?_
    exact jh_iret C dL_fits_16 rfl (Nat.le_of_ble_eq_true rfl) (Nat.le_of_ble_eq_true rfl)
  ·
    by_cases e0 : j = 1
    · subst e0
      refine ⟨12, ⟨[], _, [], rfl, fun z hz => (nomatch hz), rfl, by decide, q_1356, q_52, rfl⟩, fun q => ?_⟩
      rw [if_pos rfl]
      refine jh_astore_n (pc := 12) [(3, .ref q), (0, .ref (gA G 0)), (1, .int x1), (2, .ref (gA G 53))] C dL_fits_12 rfl (Nat.le_of_ble_eq_true rfl) rfl ?_
      refine jh_iconst (pc := 13) 1 C dL_fits_13 (by decide) ?_
      exact jh_iret C dL_fits_14 rfl (Nat.le_of_ble_eq_true rfl) (Nat.le_of_ble_eq_true rfl)
    · rw [if_neg e0] at h9
      cases h9)

theorem cH_look {l : Launch} {G : Gc} (hfl : l.stackTraces = false) (hW : Wok G wC 54) (x1 : Int32) (S : St) : CtH l yL_look (Cond.codeWith yL_look cL_look 4 (some .int) [(0, 9, 12, 13)] :: tblG) 9 1 6 G wC 54 [.ref (gA G 0), .int x1, .ref (gA G 53)] S (fH_look x1 S) := cth_of (own := RL) hfl (by decide +kernel) rfl hW (Nat.le_of_ble_eq_true rfl) (fun E hE C hN => by
  subst hE
  unfold fH_look
  refine jh_aload_n (pc := 0) 2 C dL_look_0 rfl rfl ?_
  refine jh_iconst (pc := 1) 0 C dL_look_1 (by decide) ?_
  refine jh_aload_n (pc := 2) 0 C dL_look_2 rfl rfl ?_
  refine jh_iload_n (pc := 3) 1 C dL_look_3 rfl rfl ?_
  refine jh_callI (pc := 4) C (hrn_V (V := VC G 4 1 6 RL) (ci := 9) 0 (As := [.int x1]) (Cq := (RX9, TX9, 15)) (cC_Main_look C.flags C.wok x1 S) knX9_look ⟨q_704, q_705⟩ rfl rfl C dL_look_4 q_1373 (by omega) rfl rfl (Nat.le_of_ble_eq_true rfl) ⟨(Nat.le_of_ble_eq_true rfl), (Nat.le_of_ble_eq_true rfl)⟩) (fun v T => ?_) (fun j T r9 S9 h9 => ?_)
  ·
    refine jh_i2l (pc := 7) C dL_look_7 ?_
    refine jh_last (pc := 8) (V := VC G 4 1 6 RL) (sB T 53 0 ((v : Int32).toInt64)) 53 rfl rfl C dL_look_8 ?_
    refine j_nxS (fun T1 => ?_)
    refine jh_goto (pc := 9) 15 C dL_look_9 (by decide) ?_
    refine jh_iconst (pc := 15) 0 C dL_look_15 (by decide) ?_
    exact jh_iret C dL_look_16 rfl (Nat.le_of_ble_eq_true rfl) (Nat.le_of_ble_eq_true rfl)
  ·
    by_cases e0 : j = 1
    · subst e0
      refine ⟨12, ⟨[], _, [], rfl, fun z hz => (nomatch hz), rfl, by decide, q_1356, q_52, rfl⟩, fun q => ?_⟩
      rw [if_pos rfl]
      refine jh_astore_n (pc := 12) [(3, .ref q), (0, .ref (gA G 0)), (1, .int x1), (2, .ref (gA G 53))] C dL_look_12 rfl (Nat.le_of_ble_eq_true rfl) rfl ?_
      refine jh_iconst (pc := 13) 1 C dL_look_13 (by decide) ?_
      exact jh_iret C dL_look_14 rfl (Nat.le_of_ble_eq_true rfl) (Nat.le_of_ble_eq_true rfl)
    · rw [if_neg e0] at h9
      cases h9)

theorem cH_kept {l : Launch} {G : Gc} (hfl : l.stackTraces = false) (hW : Wok G wC 54) (x1 : Int32) (x2 : Int32) (x3 : Int32) (x4 : Int32) (S : St) : CtH l yL_kept (Cond.codeWith yL_kept cL_kept 7 (some .int) [(0, 13, 16, 13)] :: tblG) 9 1 6 G wC 54 [.ref (gA G 0), .int x1, .int x2, .int x3, .int x4, .ref (gA G 53)] S (fH_kept x1 x2 x3 x4 S) := cth_of (own := RL) hfl (by decide +kernel) rfl hW (Nat.le_of_ble_eq_true rfl) (fun E hE C hN => by
  subst hE
  unfold fH_kept
  refine jh_aload (pc := 0) 5 C dL_kept_0 rfl ?_
  refine jh_iconst (pc := 2) 0 C dL_kept_2 (by decide) ?_
  refine jh_aload_n (pc := 3) 0 C dL_kept_3 rfl rfl ?_
  refine jh_iload_n (pc := 4) 1 C dL_kept_4 rfl rfl ?_
  refine jh_iload_n (pc := 5) 2 C dL_kept_5 rfl rfl ?_
  refine jh_iload_n (pc := 6) 3 C dL_kept_6 rfl rfl ?_
  refine jh_iload (pc := 7) 4 C dL_kept_7 rfl ?_
  refine jh_callL (pc := 9) C (hrn_V (V := VC G 7 1 6 RL) (ci := 9) 0 (As := [.int x1, .int x2, .int x3, .int x4]) (Cq := (RX9, TX9, 15)) (cC_Main_kept C.flags C.wok x1 x2 x3 x4 S) knX9_kept ⟨q_714, q_715⟩ rfl rfl C dL_kept_9 q_1374 (by omega) rfl rfl (Nat.le_of_ble_eq_true rfl) ⟨(Nat.le_of_ble_eq_true rfl), (Nat.le_of_ble_eq_true rfl)⟩) (fun v T => ?_) (fun j T r9 S9 h9 => ?_)
  ·
    refine jh_last (pc := 12) (V := VC G 7 1 6 RL) (sB T 53 0 (v)) 53 rfl rfl C dL_kept_12 ?_
    refine j_nxS (fun T1 => ?_)
    refine jh_goto (pc := 13) 20 C dL_kept_13 (by decide) ?_
    refine jh_iconst (pc := 20) 0 C dL_kept_20 (by decide) ?_
    exact jh_iret C dL_kept_21 rfl (Nat.le_of_ble_eq_true rfl) (Nat.le_of_ble_eq_true rfl)
  ·
    by_cases e0 : j = 1
    · subst e0
      refine ⟨16, ⟨[], _, [], rfl, fun z hz => (nomatch hz), rfl, by decide, q_1356, q_52, rfl⟩, fun q => ?_⟩
      rw [if_pos rfl]
      refine jh_astore (pc := 16) [(6, .ref q), (0, .ref (gA G 0)), (1, .int x1), (2, .int x2), (3, .int x3), (4, .int x4), (5, .ref (gA G 53))] C dL_kept_16 (Nat.le_of_ble_eq_true rfl) rfl ?_
      refine jh_iconst (pc := 18) 1 C dL_kept_18 (by decide) ?_
      exact jh_iret C dL_kept_19 rfl (Nat.le_of_ble_eq_true rfl) (Nat.le_of_ble_eq_true rfl)
    · rw [if_neg e0] at h9
      cases h9)

theorem cH_fair {l : Launch} {G : Gc} (hfl : l.stackTraces = false) (hW : Wok G wC 54) (x1 : Int32) (x2 : Int32) (x3 : Int32) (S : St) : CtH l yL_fair (Cond.codeWith yL_fair cL_fair 6 (some .int) [(0, 12, 15, 13)] :: tblG) 9 1 6 G wC 54 [.ref (gA G 0), .int x1, .int x2, .int x3, .ref (gA G 53)] S (fH_fair x1 x2 x3 S) := cth_of (own := RL) hfl (by decide +kernel) rfl hW (Nat.le_of_ble_eq_true rfl) (fun E hE C hN => by
  subst hE
  unfold fH_fair
  refine jh_aload (pc := 0) 4 C dL_fair_0 rfl ?_
  refine jh_iconst (pc := 2) 0 C dL_fair_2 (by decide) ?_
  refine jh_aload_n (pc := 3) 0 C dL_fair_3 rfl rfl ?_
  refine jh_iload_n (pc := 4) 1 C dL_fair_4 rfl rfl ?_
  refine jh_iload_n (pc := 5) 2 C dL_fair_5 rfl rfl ?_
  refine jh_iload_n (pc := 6) 3 C dL_fair_6 rfl rfl ?_
  refine jh_callI (pc := 7) C (hrn_V (V := VC G 6 1 6 RL) (ci := 9) 0 (As := [.int x1, .int x2, .int x3]) (Cq := (RX9, TX9, 15)) (cC_Main_fair C.flags C.wok x1 x2 x3 S) knX9_fair ⟨q_720, q_721⟩ rfl rfl C dL_fair_7 q_1375 (by omega) rfl rfl (Nat.le_of_ble_eq_true rfl) ⟨(Nat.le_of_ble_eq_true rfl), (Nat.le_of_ble_eq_true rfl)⟩) (fun v T => ?_) (fun j T r9 S9 h9 => ?_)
  ·
    refine jh_i2l (pc := 10) C dL_fair_10 ?_
    refine jh_last (pc := 11) (V := VC G 6 1 6 RL) (sB T 53 0 ((v : Int32).toInt64)) 53 rfl rfl C dL_fair_11 ?_
    refine j_nxS (fun T1 => ?_)
    refine jh_goto (pc := 12) 19 C dL_fair_12 (by decide) ?_
    refine jh_iconst (pc := 19) 0 C dL_fair_19 (by decide) ?_
    exact jh_iret C dL_fair_20 rfl (Nat.le_of_ble_eq_true rfl) (Nat.le_of_ble_eq_true rfl)
  ·
    by_cases e0 : j = 1
    · subst e0
      refine ⟨15, ⟨[], _, [], rfl, fun z hz => (nomatch hz), rfl, by decide, q_1356, q_52, rfl⟩, fun q => ?_⟩
      rw [if_pos rfl]
      refine jh_astore (pc := 15) [(5, .ref q), (0, .ref (gA G 0)), (1, .int x1), (2, .int x2), (3, .int x3), (4, .ref (gA G 53))] C dL_fair_15 (Nat.le_of_ble_eq_true rfl) rfl ?_
      refine jh_iconst (pc := 17) 1 C dL_fair_17 (by decide) ?_
      exact jh_iret C dL_fair_18 rfl (Nat.le_of_ble_eq_true rfl) (Nat.le_of_ble_eq_true rfl)
    · rw [if_neg e0] at h9
      cases h9)

theorem cH_candles {l : Launch} {G : Gc} (hfl : l.stackTraces = false) (hW : Wok G wC 54) (x1 : Int32) (x2 : Int32) (x3 : Int32) (S : St) : CtH l yL_candles (Cond.codeWith yL_candles cL_candles 6 (some .int) [(0, 12, 15, 31), (0, 12, 19, 13)] :: tblG) 9 2 12 G wC 54 [.ref (gA G 0), .int x1, .int x2, .int x3, .ref (gA G 53)] S (fH_candles x1 x2 x3 S) := cth_of (own := RL) hfl (by decide +kernel) rfl hW (Nat.le_of_ble_eq_true rfl) (fun E hE C hN => by
  subst hE
  unfold fH_candles
  refine jh_aload (pc := 0) 4 C dL_candles_0 rfl ?_
  refine jh_iconst (pc := 2) 0 C dL_candles_2 (by decide) ?_
  refine jh_aload_n (pc := 3) 0 C dL_candles_3 rfl rfl ?_
  refine jh_iload_n (pc := 4) 1 C dL_candles_4 rfl rfl ?_
  refine jh_iload_n (pc := 5) 2 C dL_candles_5 rfl rfl ?_
  refine jh_iload_n (pc := 6) 3 C dL_candles_6 rfl rfl ?_
  refine jh_callI (pc := 7) C (hrn_V (V := VC G 6 2 12 RL) (ci := 9) 0 (As := [.int x1, .int x2, .int x3]) (Cq := (RX9, TX9, 15)) (cC_Main_candles C.flags C.wok x1 x2 x3 S) knX9_candles ⟨q_731, q_732⟩ rfl rfl C dL_candles_7 q_1376 (by omega) rfl rfl (Nat.le_of_ble_eq_true rfl) ⟨(Nat.le_of_ble_eq_true rfl), (Nat.le_of_ble_eq_true rfl)⟩) (fun v T => ?_) (fun j T r9 S9 h9 => ?_)
  ·
    refine jh_i2l (pc := 10) C dL_candles_10 ?_
    refine jh_last (pc := 11) (V := VC G 6 2 12 RL) (sB T 53 0 ((v : Int32).toInt64)) 53 rfl rfl C dL_candles_11 ?_
    refine j_nxS (fun T1 => ?_)
    refine jh_goto (pc := 12) 23 C dL_candles_12 (by decide) ?_
    refine jh_iconst (pc := 23) 0 C dL_candles_23 (by decide) ?_
    exact jh_iret C dL_candles_24 rfl (Nat.le_of_ble_eq_true rfl) (Nat.le_of_ble_eq_true rfl)
  ·
    by_cases e0 : j = 0
    · subst e0
      refine ⟨15, ⟨[], _, [_], rfl, fun z hz => (nomatch hz), rfl, by decide, q_1362, q_500, rfl⟩, fun q => ?_⟩
      rw [if_pos rfl]
      refine jh_astore (pc := 15) [(5, .ref q), (0, .ref (gA G 0)), (1, .int x1), (2, .int x2), (3, .int x3), (4, .ref (gA G 53))] C dL_candles_15 (Nat.le_of_ble_eq_true rfl) rfl ?_
      refine jh_iconst (pc := 17) 1 C dL_candles_17 (by decide) ?_
      exact jh_iret C dL_candles_18 rfl (Nat.le_of_ble_eq_true rfl) (Nat.le_of_ble_eq_true rfl)
    · rw [if_neg e0] at h9
      by_cases e1 : j = 1
      · subst e1
        refine ⟨19, ⟨[_], _, [], rfl, fun z hz => Or.inr (by rw [List.mem_singleton] at hz; subst hz; exact ⟨by decide, _, q_1362, hN⟩), rfl, by decide, q_1356, q_52, rfl⟩, fun q => ?_⟩
        rw [if_neg (by decide), if_pos rfl]
        refine jh_astore (pc := 19) [(5, .ref q), (0, .ref (gA G 0)), (1, .int x1), (2, .int x2), (3, .int x3), (4, .ref (gA G 53))] C dL_candles_19 (Nat.le_of_ble_eq_true rfl) rfl ?_
        refine jh_iconst (pc := 21) 2 C dL_candles_21 (by decide) ?_
        exact jh_iret C dL_candles_22 rfl (Nat.le_of_ble_eq_true rfl) (Nat.le_of_ble_eq_true rfl)
      · rw [if_neg e1] at h9
        cases h9)

theorem cH_fullest {l : Launch} {G : Gc} (hfl : l.stackTraces = false) (hW : Wok G wC 54) (x1 : Int32) (S : St) : CtH l yL_fullest (Cond.codeWith yL_fullest cL_fullest 4 (some .int) [(0, 9, 12, 13)] :: tblG) 9 1 6 G wC 54 [.ref (gA G 0), .int x1, .ref (gA G 53)] S (fH_fullest x1 S) := cth_of (own := RL) hfl (by decide +kernel) rfl hW (Nat.le_of_ble_eq_true rfl) (fun E hE C hN => by
  subst hE
  unfold fH_fullest
  refine jh_aload_n (pc := 0) 2 C dL_fullest_0 rfl rfl ?_
  refine jh_iconst (pc := 1) 0 C dL_fullest_1 (by decide) ?_
  refine jh_aload_n (pc := 2) 0 C dL_fullest_2 rfl rfl ?_
  refine jh_iload_n (pc := 3) 1 C dL_fullest_3 rfl rfl ?_
  refine jh_callI (pc := 4) C (hrn_V (V := VC G 4 1 6 RL) (ci := 9) 0 (As := [.int x1]) (Cq := (RX9, TX9, 15)) (cC_Main_fullest C.flags C.wok x1 S) knX9_fullest ⟨q_734, q_735⟩ rfl rfl C dL_fullest_4 q_1377 (by omega) rfl rfl (Nat.le_of_ble_eq_true rfl) ⟨(Nat.le_of_ble_eq_true rfl), (Nat.le_of_ble_eq_true rfl)⟩) (fun v T => ?_) (fun j T r9 S9 h9 => ?_)
  ·
    refine jh_i2l (pc := 7) C dL_fullest_7 ?_
    refine jh_last (pc := 8) (V := VC G 4 1 6 RL) (sB T 53 0 ((v : Int32).toInt64)) 53 rfl rfl C dL_fullest_8 ?_
    refine j_nxS (fun T1 => ?_)
    refine jh_goto (pc := 9) 15 C dL_fullest_9 (by decide) ?_
    refine jh_iconst (pc := 15) 0 C dL_fullest_15 (by decide) ?_
    exact jh_iret C dL_fullest_16 rfl (Nat.le_of_ble_eq_true rfl) (Nat.le_of_ble_eq_true rfl)
  ·
    by_cases e0 : j = 1
    · subst e0
      refine ⟨12, ⟨[], _, [], rfl, fun z hz => (nomatch hz), rfl, by decide, q_1356, q_52, rfl⟩, fun q => ?_⟩
      rw [if_pos rfl]
      refine jh_astore_n (pc := 12) [(3, .ref q), (0, .ref (gA G 0)), (1, .int x1), (2, .ref (gA G 53))] C dL_fullest_12 rfl (Nat.le_of_ble_eq_true rfl) rfl ?_
      refine jh_iconst (pc := 13) 1 C dL_fullest_13 (by decide) ?_
      exact jh_iret C dL_fullest_14 rfl (Nat.le_of_ble_eq_true rfl) (Nat.le_of_ble_eq_true rfl)
    · rw [if_neg e0] at h9
      cases h9)

theorem cH_partners {l : Launch} {G : Gc} (hfl : l.stackTraces = false) (hW : Wok G wC 54) (x1 : Int32) (S : St) : CtH l yL_partners (Cond.codeWith yL_partners cL_partners 4 (some .int) [(0, 9, 12, 31)] :: tblG) 9 1 6 G wC 54 [.ref (gA G 0), .int x1, .ref (gA G 53)] S (fH_partners x1 S) := cth_of (own := RL) hfl (by decide +kernel) rfl hW (Nat.le_of_ble_eq_true rfl) (fun E hE C hN => by
  subst hE
  unfold fH_partners
  refine jh_aload_n (pc := 0) 2 C dL_partners_0 rfl rfl ?_
  refine jh_iconst (pc := 1) 0 C dL_partners_1 (by decide) ?_
  refine jh_aload_n (pc := 2) 0 C dL_partners_2 rfl rfl ?_
  refine jh_iload_n (pc := 3) 1 C dL_partners_3 rfl rfl ?_
  refine jh_callI (pc := 4) C (hrn_V (V := VC G 4 1 6 RL) (ci := 9) 0 (As := [.int x1]) (Cq := (RX9, TX9, 15)) (cC_Main_partners C.flags C.wok x1 S) knX9_partners ⟨q_741, q_742⟩ rfl rfl C dL_partners_4 q_1378 (by omega) rfl rfl (Nat.le_of_ble_eq_true rfl) ⟨(Nat.le_of_ble_eq_true rfl), (Nat.le_of_ble_eq_true rfl)⟩) (fun v T => ?_) (fun j T r9 S9 h9 => ?_)
  ·
    refine jh_i2l (pc := 7) C dL_partners_7 ?_
    refine jh_last (pc := 8) (V := VC G 4 1 6 RL) (sB T 53 0 ((v : Int32).toInt64)) 53 rfl rfl C dL_partners_8 ?_
    refine j_nxS (fun T1 => ?_)
    refine jh_goto (pc := 9) 15 C dL_partners_9 (by decide) ?_
    refine jh_iconst (pc := 15) 0 C dL_partners_15 (by decide) ?_
    exact jh_iret C dL_partners_16 rfl (Nat.le_of_ble_eq_true rfl) (Nat.le_of_ble_eq_true rfl)
  ·
    by_cases e0 : j = 0
    · subst e0
      refine ⟨12, ⟨[], _, [], rfl, fun z hz => (nomatch hz), rfl, by decide, q_1362, q_500, rfl⟩, fun q => ?_⟩
      rw [if_pos rfl]
      refine jh_astore_n (pc := 12) [(3, .ref q), (0, .ref (gA G 0)), (1, .int x1), (2, .ref (gA G 53))] C dL_partners_12 rfl (Nat.le_of_ble_eq_true rfl) rfl ?_
      refine jh_iconst (pc := 13) 1 C dL_partners_13 (by decide) ?_
      exact jh_iret C dL_partners_14 rfl (Nat.le_of_ble_eq_true rfl) (Nat.le_of_ble_eq_true rfl)
    · rw [if_neg e0] at h9
      cases h9)

theorem cH_fades {l : Launch} {G : Gc} (hfl : l.stackTraces = false) (hW : Wok G wC 54) (x1 : Int32) (x2 : Int32) (S : St) : CtH l yL_fades (Cond.codeWith yL_fades cL_fades 5 (some .int) [(0, 10, 13, 31)] :: tblG) 9 2 12 G wC 54 [.ref (gA G 0), .int x1, .int x2, .ref (gA G 53)] S (fH_fades x1 x2 S) := cth_of (own := RL) hfl (by decide +kernel) rfl hW (Nat.le_of_ble_eq_true rfl) (fun E hE C hN => by
  subst hE
  unfold fH_fades
  refine jh_aload_n (pc := 0) 3 C dL_fades_0 rfl rfl ?_
  refine jh_iconst (pc := 1) 0 C dL_fades_1 (by decide) ?_
  refine jh_aload_n (pc := 2) 0 C dL_fades_2 rfl rfl ?_
  refine jh_iload_n (pc := 3) 1 C dL_fades_3 rfl rfl ?_
  refine jh_iload_n (pc := 4) 2 C dL_fades_4 rfl rfl ?_
  refine jh_callI (pc := 5) C (hrn_V (V := VC G 5 2 12 RL) (ci := 9) 0 (As := [.int x1, .int x2]) (Cq := (RX9, TX9, 15)) (cC_Main_fades C.flags C.wok x1 x2 S) knX9_fades ⟨q_744, q_745⟩ rfl rfl C dL_fades_5 q_1379 (by omega) rfl rfl (Nat.le_of_ble_eq_true rfl) ⟨(Nat.le_of_ble_eq_true rfl), (Nat.le_of_ble_eq_true rfl)⟩) (fun v T => ?_) (fun j T r9 S9 h9 => ?_)
  ·
    refine jh_i2l (pc := 8) C dL_fades_8 ?_
    refine jh_last (pc := 9) (V := VC G 5 2 12 RL) (sB T 53 0 ((v : Int32).toInt64)) 53 rfl rfl C dL_fades_9 ?_
    refine j_nxS (fun T1 => ?_)
    refine jh_goto (pc := 10) 17 C dL_fades_10 (by decide) ?_
    refine jh_iconst (pc := 17) 0 C dL_fades_17 (by decide) ?_
    exact jh_iret C dL_fades_18 rfl (Nat.le_of_ble_eq_true rfl) (Nat.le_of_ble_eq_true rfl)
  ·
    by_cases e0 : j = 0
    · subst e0
      refine ⟨13, ⟨[], _, [], rfl, fun z hz => (nomatch hz), rfl, by decide, q_1362, q_500, rfl⟩, fun q => ?_⟩
      rw [if_pos rfl]
      refine jh_astore (pc := 13) [(4, .ref q), (0, .ref (gA G 0)), (1, .int x1), (2, .int x2), (3, .ref (gA G 53))] C dL_fades_13 (Nat.le_of_ble_eq_true rfl) rfl ?_
      refine jh_iconst (pc := 15) 1 C dL_fades_15 (by decide) ?_
      exact jh_iret C dL_fades_16 rfl (Nat.le_of_ble_eq_true rfl) (Nat.le_of_ble_eq_true rfl)
    · rw [if_neg e0] at h9
      cases h9)

theorem cH_next {l : Launch} {G : Gc} (hfl : l.stackTraces = false) (hW : Wok G wC 54) (x1 : Int32) (S : St) : CtH l yL_next (Cond.codeWith yL_next cL_next 4 (some .int) [(0, 9, 12, 13)] :: tblG) 9 1 6 G wC 54 [.ref (gA G 0), .int x1, .ref (gA G 53)] S (fH_next x1 S) := cth_of (own := RL) hfl (by decide +kernel) rfl hW (Nat.le_of_ble_eq_true rfl) (fun E hE C hN => by
  subst hE
  unfold fH_next
  refine jh_aload_n (pc := 0) 2 C dL_next_0 rfl rfl ?_
  refine jh_iconst (pc := 1) 0 C dL_next_1 (by decide) ?_
  refine jh_aload_n (pc := 2) 0 C dL_next_2 rfl rfl ?_
  refine jh_iload_n (pc := 3) 1 C dL_next_3 rfl rfl ?_
  refine jh_callI (pc := 4) C (hrn_V (V := VC G 4 1 6 RL) (ci := 9) 0 (As := [.int x1]) (Cq := (RX9, TX9, 15)) (cC_Main_next C.flags C.wok x1 S) knX9_next ⟨q_747, q_748⟩ rfl rfl C dL_next_4 q_1380 (by omega) rfl rfl (Nat.le_of_ble_eq_true rfl) ⟨(Nat.le_of_ble_eq_true rfl), (Nat.le_of_ble_eq_true rfl)⟩) (fun v T => ?_) (fun j T r9 S9 h9 => ?_)
  ·
    refine jh_i2l (pc := 7) C dL_next_7 ?_
    refine jh_last (pc := 8) (V := VC G 4 1 6 RL) (sB T 53 0 ((v : Int32).toInt64)) 53 rfl rfl C dL_next_8 ?_
    refine j_nxS (fun T1 => ?_)
    refine jh_goto (pc := 9) 15 C dL_next_9 (by decide) ?_
    refine jh_iconst (pc := 15) 0 C dL_next_15 (by decide) ?_
    exact jh_iret C dL_next_16 rfl (Nat.le_of_ble_eq_true rfl) (Nat.le_of_ble_eq_true rfl)
  ·
    by_cases e0 : j = 1
    · subst e0
      refine ⟨12, ⟨[], _, [], rfl, fun z hz => (nomatch hz), rfl, by decide, q_1356, q_52, rfl⟩, fun q => ?_⟩
      rw [if_pos rfl]
      refine jh_astore_n (pc := 12) [(3, .ref q), (0, .ref (gA G 0)), (1, .int x1), (2, .ref (gA G 53))] C dL_next_12 rfl (Nat.le_of_ble_eq_true rfl) rfl ?_
      refine jh_iconst (pc := 13) 1 C dL_next_13 (by decide) ?_
      exact jh_iret C dL_next_14 rfl (Nat.le_of_ble_eq_true rfl) (Nat.le_of_ble_eq_true rfl)
    · rw [if_neg e0] at h9
      cases h9)

theorem cH_gains {l : Launch} {G : Gc} (hfl : l.stackTraces = false) (hW : Wok G wC 54) (x1 : Int32) (x2 : Int32) (S : St) : CtH l yL_gains (Cond.codeWith yL_gains cL_gains 5 (some .int) [(0, 10, 13, 31)] :: tblG) 9 2 12 G wC 54 [.ref (gA G 0), .int x1, .int x2, .ref (gA G 53)] S (fH_gains x1 x2 S) := cth_of (own := RL) hfl (by decide +kernel) rfl hW (Nat.le_of_ble_eq_true rfl) (fun E hE C hN => by
  subst hE
  unfold fH_gains
  refine jh_aload_n (pc := 0) 3 C dL_gains_0 rfl rfl ?_
  refine jh_iconst (pc := 1) 0 C dL_gains_1 (by decide) ?_
  refine jh_aload_n (pc := 2) 0 C dL_gains_2 rfl rfl ?_
  refine jh_iload_n (pc := 3) 1 C dL_gains_3 rfl rfl ?_
  refine jh_iload_n (pc := 4) 2 C dL_gains_4 rfl rfl ?_
  refine jh_callI (pc := 5) C (hrn_V (V := VC G 5 2 12 RL) (ci := 9) 0 (As := [.int x1, .int x2]) (Cq := (RX9, TX9, 15)) (cC_Main_gains C.flags C.wok x1 x2 S) knX9_gains ⟨q_750, q_751⟩ rfl rfl C dL_gains_5 q_1381 (by omega) rfl rfl (Nat.le_of_ble_eq_true rfl) ⟨(Nat.le_of_ble_eq_true rfl), (Nat.le_of_ble_eq_true rfl)⟩) (fun v T => ?_) (fun j T r9 S9 h9 => ?_)
  ·
    refine jh_i2l (pc := 8) C dL_gains_8 ?_
    refine jh_last (pc := 9) (V := VC G 5 2 12 RL) (sB T 53 0 ((v : Int32).toInt64)) 53 rfl rfl C dL_gains_9 ?_
    refine j_nxS (fun T1 => ?_)
    refine jh_goto (pc := 10) 17 C dL_gains_10 (by decide) ?_
    refine jh_iconst (pc := 17) 0 C dL_gains_17 (by decide) ?_
    exact jh_iret C dL_gains_18 rfl (Nat.le_of_ble_eq_true rfl) (Nat.le_of_ble_eq_true rfl)
  ·
    by_cases e0 : j = 0
    · subst e0
      refine ⟨13, ⟨[], _, [], rfl, fun z hz => (nomatch hz), rfl, by decide, q_1362, q_500, rfl⟩, fun q => ?_⟩
      rw [if_pos rfl]
      refine jh_astore (pc := 13) [(4, .ref q), (0, .ref (gA G 0)), (1, .int x1), (2, .int x2), (3, .ref (gA G 53))] C dL_gains_13 (Nat.le_of_ble_eq_true rfl) rfl ?_
      refine jh_iconst (pc := 15) 1 C dL_gains_15 (by decide) ?_
      exact jh_iret C dL_gains_16 rfl (Nat.le_of_ble_eq_true rfl) (Nat.le_of_ble_eq_true rfl)
    · rw [if_neg e0] at h9
      cases h9)

theorem cH_closest {l : Launch} {G : Gc} (hfl : l.stackTraces = false) (hW : Wok G wC 54) (x1 : Int32) (x2 : Int32) (S : St) : CtH l yL_closest (Cond.codeWith yL_closest cL_closest 5 (some .int) [(0, 10, 13, 31), (0, 10, 17, 13)] :: tblG) 9 2 12 G wC 54 [.ref (gA G 0), .int x1, .int x2, .ref (gA G 53)] S (fH_closest x1 x2 S) := cth_of (own := RL) hfl (by decide +kernel) rfl hW (Nat.le_of_ble_eq_true rfl) (fun E hE C hN => by
  subst hE
  unfold fH_closest
  refine jh_aload_n (pc := 0) 3 C dL_closest_0 rfl rfl ?_
  refine jh_iconst (pc := 1) 0 C dL_closest_1 (by decide) ?_
  refine jh_aload_n (pc := 2) 0 C dL_closest_2 rfl rfl ?_
  refine jh_iload_n (pc := 3) 1 C dL_closest_3 rfl rfl ?_
  refine jh_iload_n (pc := 4) 2 C dL_closest_4 rfl rfl ?_
  refine jh_callI (pc := 5) C (hrn_V (V := VC G 5 2 12 RL) (ci := 9) 0 (As := [.int x1, .int x2]) (Cq := (RX9, TX9, 15)) (cC_Main_closest C.flags C.wok x1 x2 S) knX9_closest ⟨q_753, q_754⟩ rfl rfl C dL_closest_5 q_1382 (by omega) rfl rfl (Nat.le_of_ble_eq_true rfl) ⟨(Nat.le_of_ble_eq_true rfl), (Nat.le_of_ble_eq_true rfl)⟩) (fun v T => ?_) (fun j T r9 S9 h9 => ?_)
  ·
    refine jh_i2l (pc := 8) C dL_closest_8 ?_
    refine jh_last (pc := 9) (V := VC G 5 2 12 RL) (sB T 53 0 ((v : Int32).toInt64)) 53 rfl rfl C dL_closest_9 ?_
    refine j_nxS (fun T1 => ?_)
    refine jh_goto (pc := 10) 21 C dL_closest_10 (by decide) ?_
    refine jh_iconst (pc := 21) 0 C dL_closest_21 (by decide) ?_
    exact jh_iret C dL_closest_22 rfl (Nat.le_of_ble_eq_true rfl) (Nat.le_of_ble_eq_true rfl)
  ·
    by_cases e0 : j = 0
    · subst e0
      refine ⟨13, ⟨[], _, [_], rfl, fun z hz => (nomatch hz), rfl, by decide, q_1362, q_500, rfl⟩, fun q => ?_⟩
      rw [if_pos rfl]
      refine jh_astore (pc := 13) [(4, .ref q), (0, .ref (gA G 0)), (1, .int x1), (2, .int x2), (3, .ref (gA G 53))] C dL_closest_13 (Nat.le_of_ble_eq_true rfl) rfl ?_
      refine jh_iconst (pc := 15) 1 C dL_closest_15 (by decide) ?_
      exact jh_iret C dL_closest_16 rfl (Nat.le_of_ble_eq_true rfl) (Nat.le_of_ble_eq_true rfl)
    · rw [if_neg e0] at h9
      by_cases e1 : j = 1
      · subst e1
        refine ⟨17, ⟨[_], _, [], rfl, fun z hz => Or.inr (by rw [List.mem_singleton] at hz; subst hz; exact ⟨by decide, _, q_1362, hN⟩), rfl, by decide, q_1356, q_52, rfl⟩, fun q => ?_⟩
        rw [if_neg (by decide), if_pos rfl]
        refine jh_astore (pc := 17) [(4, .ref q), (0, .ref (gA G 0)), (1, .int x1), (2, .int x2), (3, .ref (gA G 53))] C dL_closest_17 (Nat.le_of_ble_eq_true rfl) rfl ?_
        refine jh_iconst (pc := 19) 2 C dL_closest_19 (by decide) ?_
        exact jh_iret C dL_closest_20 rfl (Nat.le_of_ble_eq_true rfl) (Nat.le_of_ble_eq_true rfl)
      · rw [if_neg e1] at h9
        cases h9)

theorem cH_best {l : Launch} {G : Gc} (hfl : l.stackTraces = false) (hW : Wok G wC 54) (x1 : Int32) (x2 : Int32) (S : St) : CtH l yL_best (Cond.codeWith yL_best cL_best 5 (some .int) [(0, 10, 13, 31), (0, 10, 17, 13)] :: tblG) 9 2 12 G wC 54 [.ref (gA G 0), .int x1, .int x2, .ref (gA G 53)] S (fH_best x1 x2 S) := cth_of (own := RL) hfl (by decide +kernel) rfl hW (Nat.le_of_ble_eq_true rfl) (fun E hE C hN => by
  subst hE
  unfold fH_best
  refine jh_aload_n (pc := 0) 3 C dL_best_0 rfl rfl ?_
  refine jh_iconst (pc := 1) 0 C dL_best_1 (by decide) ?_
  refine jh_aload_n (pc := 2) 0 C dL_best_2 rfl rfl ?_
  refine jh_iload_n (pc := 3) 1 C dL_best_3 rfl rfl ?_
  refine jh_iload_n (pc := 4) 2 C dL_best_4 rfl rfl ?_
  refine jh_callI (pc := 5) C (hrn_V (V := VC G 5 2 12 RL) (ci := 9) 0 (As := [.int x1, .int x2]) (Cq := (RX9, TX9, 15)) (cC_Main_best C.flags C.wok x1 x2 S) knX9_best ⟨q_756, q_757⟩ rfl rfl C dL_best_5 q_1383 (by omega) rfl rfl (Nat.le_of_ble_eq_true rfl) ⟨(Nat.le_of_ble_eq_true rfl), (Nat.le_of_ble_eq_true rfl)⟩) (fun v T => ?_) (fun j T r9 S9 h9 => ?_)
  ·
    refine jh_i2l (pc := 8) C dL_best_8 ?_
    refine jh_last (pc := 9) (V := VC G 5 2 12 RL) (sB T 53 0 ((v : Int32).toInt64)) 53 rfl rfl C dL_best_9 ?_
    refine j_nxS (fun T1 => ?_)
    refine jh_goto (pc := 10) 21 C dL_best_10 (by decide) ?_
    refine jh_iconst (pc := 21) 0 C dL_best_21 (by decide) ?_
    exact jh_iret C dL_best_22 rfl (Nat.le_of_ble_eq_true rfl) (Nat.le_of_ble_eq_true rfl)
  ·
    by_cases e0 : j = 0
    · subst e0
      refine ⟨13, ⟨[], _, [_], rfl, fun z hz => (nomatch hz), rfl, by decide, q_1362, q_500, rfl⟩, fun q => ?_⟩
      rw [if_pos rfl]
      refine jh_astore (pc := 13) [(4, .ref q), (0, .ref (gA G 0)), (1, .int x1), (2, .int x2), (3, .ref (gA G 53))] C dL_best_13 (Nat.le_of_ble_eq_true rfl) rfl ?_
      refine jh_iconst (pc := 15) 1 C dL_best_15 (by decide) ?_
      exact jh_iret C dL_best_16 rfl (Nat.le_of_ble_eq_true rfl) (Nat.le_of_ble_eq_true rfl)
    · rw [if_neg e0] at h9
      by_cases e1 : j = 1
      · subst e1
        refine ⟨17, ⟨[_], _, [], rfl, fun z hz => Or.inr (by rw [List.mem_singleton] at hz; subst hz; exact ⟨by decide, _, q_1362, hN⟩), rfl, by decide, q_1356, q_52, rfl⟩, fun q => ?_⟩
        rw [if_neg (by decide), if_pos rfl]
        refine jh_astore (pc := 17) [(4, .ref q), (0, .ref (gA G 0)), (1, .int x1), (2, .int x2), (3, .ref (gA G 53))] C dL_best_17 (Nat.le_of_ble_eq_true rfl) rfl ?_
        refine jh_iconst (pc := 19) 2 C dL_best_19 (by decide) ?_
        exact jh_iret C dL_best_20 rfl (Nat.le_of_ble_eq_true rfl) (Nat.le_of_ble_eq_true rfl)
      · rw [if_neg e1] at h9
        cases h9)

theorem cH_chorus {l : Launch} {G : Gc} (hfl : l.stackTraces = false) (hW : Wok G wC 54) (x1 : Int32) (x2 : Int32) (S : St) : CtH l yL_chorus (Cond.codeWith yL_chorus cL_chorus 5 (some .int) [(0, 10, 13, 31), (0, 10, 17, 13)] :: tblG) 9 2 12 G wC 54 [.ref (gA G 0), .int x1, .int x2, .ref (gA G 53)] S (fH_chorus x1 x2 S) := cth_of (own := RL) hfl (by decide +kernel) rfl hW (Nat.le_of_ble_eq_true rfl) (fun E hE C hN => by
  subst hE
  unfold fH_chorus
  refine jh_aload_n (pc := 0) 3 C dL_chorus_0 rfl rfl ?_
  refine jh_iconst (pc := 1) 0 C dL_chorus_1 (by decide) ?_
  refine jh_aload_n (pc := 2) 0 C dL_chorus_2 rfl rfl ?_
  refine jh_iload_n (pc := 3) 1 C dL_chorus_3 rfl rfl ?_
  refine jh_iload_n (pc := 4) 2 C dL_chorus_4 rfl rfl ?_
  refine jh_callI (pc := 5) C (hrn_V (V := VC G 5 2 12 RL) (ci := 9) 0 (As := [.int x1, .int x2]) (Cq := (RX9, TX9, 15)) (cC_Main_chorus C.flags C.wok x1 x2 S) knX9_chorus ⟨q_759, q_760⟩ rfl rfl C dL_chorus_5 q_1384 (by omega) rfl rfl (Nat.le_of_ble_eq_true rfl) ⟨(Nat.le_of_ble_eq_true rfl), (Nat.le_of_ble_eq_true rfl)⟩) (fun v T => ?_) (fun j T r9 S9 h9 => ?_)
  ·
    refine jh_i2l (pc := 8) C dL_chorus_8 ?_
    refine jh_last (pc := 9) (V := VC G 5 2 12 RL) (sB T 53 0 ((v : Int32).toInt64)) 53 rfl rfl C dL_chorus_9 ?_
    refine j_nxS (fun T1 => ?_)
    refine jh_goto (pc := 10) 21 C dL_chorus_10 (by decide) ?_
    refine jh_iconst (pc := 21) 0 C dL_chorus_21 (by decide) ?_
    exact jh_iret C dL_chorus_22 rfl (Nat.le_of_ble_eq_true rfl) (Nat.le_of_ble_eq_true rfl)
  ·
    by_cases e0 : j = 0
    · subst e0
      refine ⟨13, ⟨[], _, [_], rfl, fun z hz => (nomatch hz), rfl, by decide, q_1362, q_500, rfl⟩, fun q => ?_⟩
      rw [if_pos rfl]
      refine jh_astore (pc := 13) [(4, .ref q), (0, .ref (gA G 0)), (1, .int x1), (2, .int x2), (3, .ref (gA G 53))] C dL_chorus_13 (Nat.le_of_ble_eq_true rfl) rfl ?_
      refine jh_iconst (pc := 15) 1 C dL_chorus_15 (by decide) ?_
      exact jh_iret C dL_chorus_16 rfl (Nat.le_of_ble_eq_true rfl) (Nat.le_of_ble_eq_true rfl)
    · rw [if_neg e0] at h9
      by_cases e1 : j = 1
      · subst e1
        refine ⟨17, ⟨[_], _, [], rfl, fun z hz => Or.inr (by rw [List.mem_singleton] at hz; subst hz; exact ⟨by decide, _, q_1362, hN⟩), rfl, by decide, q_1356, q_52, rfl⟩, fun q => ?_⟩
        rw [if_neg (by decide), if_pos rfl]
        refine jh_astore (pc := 17) [(4, .ref q), (0, .ref (gA G 0)), (1, .int x1), (2, .int x2), (3, .ref (gA G 53))] C dL_chorus_17 (Nat.le_of_ble_eq_true rfl) rfl ?_
        refine jh_iconst (pc := 19) 2 C dL_chorus_19 (by decide) ?_
        exact jh_iret C dL_chorus_20 rfl (Nat.le_of_ble_eq_true rfl) (Nat.le_of_ble_eq_true rfl)
      · rw [if_neg e1] at h9
        cases h9)

theorem cH_season {l : Launch} {G : Gc} (hfl : l.stackTraces = false) (hW : Wok G wC 54) (x1 : Int32) (x2 : Int32) (x3 : Int32) (x4 : Int32) (S : St) : CtH l yL_season (Cond.codeWith yL_season cL_season 7 (some .int) [(0, 14, 17, 13)] :: tblG) 9 1 6 G wC 54 [.ref (gA G 0), .int x1, .int x2, .int x3, .int x4, .ref (gA G 53)] S (fH_season x1 x2 x3 x4 S) := cth_of (own := RL) hfl (by decide +kernel) rfl hW (Nat.le_of_ble_eq_true rfl) (fun E hE C hN => by
  subst hE
  unfold fH_season
  refine jh_aload (pc := 0) 5 C dL_season_0 rfl ?_
  refine jh_iconst (pc := 2) 0 C dL_season_2 (by decide) ?_
  refine jh_aload_n (pc := 3) 0 C dL_season_3 rfl rfl ?_
  refine jh_iload_n (pc := 4) 1 C dL_season_4 rfl rfl ?_
  refine jh_iload_n (pc := 5) 2 C dL_season_5 rfl rfl ?_
  refine jh_iload_n (pc := 6) 3 C dL_season_6 rfl rfl ?_
  refine jh_iload (pc := 7) 4 C dL_season_7 rfl ?_
  refine jh_callI (pc := 9) C (hrn_V (V := VC G 7 1 6 RL) (ci := 9) 0 (As := [.int x1, .int x2, .int x3, .int x4]) (Cq := (RX9, TX9, 15)) (cC_Main_season C.flags C.wok x1 x2 x3 x4 S) knX9_season ⟨q_782, q_783⟩ rfl rfl C dL_season_9 q_1385 (by omega) rfl rfl (Nat.le_of_ble_eq_true rfl) ⟨(Nat.le_of_ble_eq_true rfl), (Nat.le_of_ble_eq_true rfl)⟩) (fun v T => ?_) (fun j T r9 S9 h9 => ?_)
  ·
    refine jh_i2l (pc := 12) C dL_season_12 ?_
    refine jh_last (pc := 13) (V := VC G 7 1 6 RL) (sB T 53 0 ((v : Int32).toInt64)) 53 rfl rfl C dL_season_13 ?_
    refine j_nxS (fun T1 => ?_)
    refine jh_goto (pc := 14) 21 C dL_season_14 (by decide) ?_
    refine jh_iconst (pc := 21) 0 C dL_season_21 (by decide) ?_
    exact jh_iret C dL_season_22 rfl (Nat.le_of_ble_eq_true rfl) (Nat.le_of_ble_eq_true rfl)
  ·
    by_cases e0 : j = 1
    · subst e0
      refine ⟨17, ⟨[], _, [], rfl, fun z hz => (nomatch hz), rfl, by decide, q_1356, q_52, rfl⟩, fun q => ?_⟩
      rw [if_pos rfl]
      refine jh_astore (pc := 17) [(6, .ref q), (0, .ref (gA G 0)), (1, .int x1), (2, .int x2), (3, .int x3), (4, .int x4), (5, .ref (gA G 53))] C dL_season_17 (Nat.le_of_ble_eq_true rfl) rfl ?_
      refine jh_iconst (pc := 19) 1 C dL_season_19 (by decide) ?_
      exact jh_iret C dL_season_20 rfl (Nat.le_of_ble_eq_true rfl) (Nat.le_of_ble_eq_true rfl)
    · rw [if_neg e0] at h9
      cases h9)

theorem cH_span {l : Launch} {G : Gc} (hfl : l.stackTraces = false) (hW : Wok G wC 54) (x1 : Int32) (x2 : Int32) (x3 : Int32) (x4 : Int32) (x5 : Int32) (x6 : Int32) (S : St) : CtH l yL_span (Cond.codeWith yL_span cL_span 9 (some .int) [(0, 18, 21, 13)] :: tblG) 9 2 12 G wC 54 [.ref (gA G 0), .int x1, .int x2, .int x3, .int x4, .int x5, .int x6, .ref (gA G 53)] S (fH_span x1 x2 x3 x4 x5 x6 S) := cth_of (own := RL) hfl (by decide +kernel) rfl hW (Nat.le_of_ble_eq_true rfl) (fun E hE C hN => by
  subst hE
  unfold fH_span
  refine jh_aload (pc := 0) 7 C dL_span_0 rfl ?_
  refine jh_iconst (pc := 2) 0 C dL_span_2 (by decide) ?_
  refine jh_aload_n (pc := 3) 0 C dL_span_3 rfl rfl ?_
  refine jh_iload_n (pc := 4) 1 C dL_span_4 rfl rfl ?_
  refine jh_iload_n (pc := 5) 2 C dL_span_5 rfl rfl ?_
  refine jh_iload_n (pc := 6) 3 C dL_span_6 rfl rfl ?_
  refine jh_iload (pc := 7) 4 C dL_span_7 rfl ?_
  refine jh_iload (pc := 9) 5 C dL_span_9 rfl ?_
  refine jh_iload (pc := 11) 6 C dL_span_11 rfl ?_
  refine jh_callI (pc := 13) C (hrn_V (V := VC G 9 2 12 RL) (ci := 9) 0 (As := [.int x1, .int x2, .int x3, .int x4, .int x5, .int x6]) (Cq := (RX9, TX9, 15)) (cC_Main_span C.flags C.wok x1 x2 x3 x4 x5 x6 S) knX9_span ⟨q_786, q_787⟩ rfl rfl C dL_span_13 q_1386 (by omega) rfl rfl (Nat.le_of_ble_eq_true rfl) ⟨(Nat.le_of_ble_eq_true rfl), (Nat.le_of_ble_eq_true rfl)⟩) (fun v T => ?_) (fun j T r9 S9 h9 => ?_)
  ·
    refine jh_i2l (pc := 16) C dL_span_16 ?_
    refine jh_last (pc := 17) (V := VC G 9 2 12 RL) (sB T 53 0 ((v : Int32).toInt64)) 53 rfl rfl C dL_span_17 ?_
    refine j_nxS (fun T1 => ?_)
    refine jh_goto (pc := 18) 25 C dL_span_18 (by decide) ?_
    refine jh_iconst (pc := 25) 0 C dL_span_25 (by decide) ?_
    exact jh_iret C dL_span_26 rfl (Nat.le_of_ble_eq_true rfl) (Nat.le_of_ble_eq_true rfl)
  ·
    by_cases e0 : j = 1
    · subst e0
      refine ⟨21, ⟨[], _, [], rfl, fun z hz => (nomatch hz), rfl, by decide, q_1356, q_52, rfl⟩, fun q => ?_⟩
      rw [if_pos rfl]
      refine jh_astore (pc := 21) [(8, .ref q), (0, .ref (gA G 0)), (1, .int x1), (2, .int x2), (3, .int x3), (4, .int x4), (5, .int x5), (6, .int x6), (7, .ref (gA G 53))] C dL_span_21 (Nat.le_of_ble_eq_true rfl) rfl ?_
      refine jh_iconst (pc := 23) 1 C dL_span_23 (by decide) ?_
      exact jh_iret C dL_span_24 rfl (Nat.le_of_ble_eq_true rfl) (Nat.le_of_ble_eq_true rfl)
    · rw [if_neg e0] at h9
      cases h9)
