/-! constructors: words, decode rows, the world of one Law, the walks -/
/-! words of the tables, by their places -/
theorem q_1295 : Cond.methodLink RX9 1 objectInit ∈ tblG := tg 138 (by decide +kernel) rfl
theorem q_1296 : Cond.instanceMethod objectInit ∈ tblG := tg 139 (by decide +kernel) rfl
theorem q_1297 : Cond.code objectInit ⟨#[0xb1]⟩ 1 none ∈ tblG := tg 140 (by decide +kernel) rfl
theorem q_1298 : Cond.classLink RX9 7 RX7 ∈ tblG := tg 141 (by decide +kernel) rfl
theorem q_1299 : Cond.instantiable RX7 12 ∈ tblG := tg 142 (by decide +kernel) rfl
theorem q_1300 : Cond.methodLink RX7 1 objectInit ∈ tblG := tg 146 (by decide +kernel) rfl
theorem q_1301 : Cond.arrayClass .int ∈ tblG := tg 218 (by decide +kernel) rfl
theorem q_1302 : Cond.code yX7_init cX7_init 1 none ∈ tblG := tg 145 (by decide +kernel) rfl
theorem q_1303 : Cond.instanceMethod yX7_init ∈ tblG := tg 144 (by decide +kernel) rfl
theorem q_1304 : Cond.classLink RX9 10 RX1 ∈ tblG := tg 219 (by decide +kernel) rfl
theorem q_1305 : Cond.instantiable RX1 4 ∈ tblG := tg 220 (by decide +kernel) rfl
theorem q_1306 : Cond.methodLink RX1 3 objectInit ∈ tblG := tg 224 (by decide +kernel) rfl
theorem q_1307 : Cond.methodLink RX1 21 yX1_makePlain ∈ tblG := tg 225 (by decide +kernel) rfl
theorem q_1308 : Cond.code yX1_init cX1_init 1 none ∈ tblG := tg 223 (by decide +kernel) rfl
theorem q_1309 : Cond.instanceMethod yX1_init ∈ tblG := tg 222 (by decide +kernel) rfl
theorem q_1310 : Cond.methodLink RX9 12 yX1_init ∈ tblG := tg 221 (by decide +kernel) rfl
theorem q_1311 : Cond.classLink RX9 13 RX5 ∈ tblG := tg 246 (by decide +kernel) rfl
theorem q_1312 : Cond.instantiable RX5 3 ∈ tblG := tg 247 (by decide +kernel) rfl
theorem q_1313 : Cond.methodLink RX5 5 objectInit ∈ tblG := tg 251 (by decide +kernel) rfl
theorem q_1314 : Cond.code yX5_init cX5_init 3 none ∈ tblG := tg 250 (by decide +kernel) rfl
theorem q_1315 : Cond.instanceMethod yX5_init ∈ tblG := tg 249 (by decide +kernel) rfl
theorem q_1316 : Cond.methodLink RX9 15 yX5_init ∈ tblG := tg 248 (by decide +kernel) rfl
theorem q_1317 : Cond.classLink RX9 18 RX6 ∈ tblG := tg 263 (by decide +kernel) rfl
theorem q_1318 : Cond.instantiable RX6 8 ∈ tblG := tg 264 (by decide +kernel) rfl
theorem q_1319 : Cond.methodLink RX6 3 objectInit ∈ tblG := tg 268 (by decide +kernel) rfl
theorem q_1320 : Cond.code yX6_init cX6_init 1 none ∈ tblG := tg 267 (by decide +kernel) rfl
theorem q_1321 : Cond.instanceMethod yX6_init ∈ tblG := tg 266 (by decide +kernel) rfl
theorem q_1322 : Cond.classLink RX9 41 RX0 ∈ tblG := tg 301 (by decide +kernel) rfl
theorem q_1323 : Cond.instantiable RX0 4 ∈ tblG := tg 302 (by decide +kernel) rfl
theorem q_1324 : Cond.methodLink RX0 1 objectInit ∈ tblG := tg 306 (by decide +kernel) rfl
theorem q_1325 : Cond.code yX0_init cX0_init 1 none ∈ tblG := tg 305 (by decide +kernel) rfl
theorem q_1326 : Cond.instanceMethod yX0_init ∈ tblG := tg 304 (by decide +kernel) rfl
theorem q_1327 : Cond.classLink RX9 51 RX8 ∈ tblG := tg 321 (by decide +kernel) rfl
theorem q_1328 : Cond.instantiable RX8 7 ∈ tblG := tg 322 (by decide +kernel) rfl
theorem q_1329 : Cond.methodLink RX8 1 objectInit ∈ tblG := tg 326 (by decide +kernel) rfl
theorem q_1330 : Cond.code yX8_init cX8_init 1 none ∈ tblG := tg 325 (by decide +kernel) rfl
theorem q_1331 : Cond.instanceMethod yX8_init ∈ tblG := tg 324 (by decide +kernel) rfl
theorem q_1332 : Cond.classLink RX9 62 RX4 ∈ tblG := tg 352 (by decide +kernel) rfl
theorem q_1333 : Cond.instantiable RX4 5 ∈ tblG := tg 353 (by decide +kernel) rfl
theorem q_1334 : Cond.methodLink RX4 5 objectInit ∈ tblG := tg 357 (by decide +kernel) rfl
theorem q_1335 : Cond.code yX4_init cX4_init 1 none ∈ tblG := tg 356 (by decide +kernel) rfl
theorem q_1336 : Cond.instanceMethod yX4_init ∈ tblG := tg 355 (by decide +kernel) rfl
theorem q_1337 : Cond.classLink RX9 69 RX2 ∈ tblG := tg 376 (by decide +kernel) rfl
theorem q_1338 : Cond.instantiable RX2 4 ∈ tblG := tg 377 (by decide +kernel) rfl
theorem q_1339 : Cond.methodLink RX2 3 objectInit ∈ tblG := tg 381 (by decide +kernel) rfl
theorem q_1340 : Cond.code yX2_init cX2_init 4 none ∈ tblG := tg 380 (by decide +kernel) rfl
theorem q_1341 : Cond.instanceMethod yX2_init ∈ tblG := tg 379 (by decide +kernel) rfl
theorem q_1342 : Cond.methodLink RX9 71 yX2_init ∈ tblG := tg 378 (by decide +kernel) rfl
theorem q_1343 : Cond.classLink RX9 78 RX3 ∈ tblG := tg 395 (by decide +kernel) rfl
theorem q_1344 : Cond.instantiable RX3 5 ∈ tblG := tg 396 (by decide +kernel) rfl
theorem q_1345 : Cond.methodLink RX3 1 objectInit ∈ tblG := tg 400 (by decide +kernel) rfl
theorem q_1346 : Cond.code yX3_init cX3_init 3 none ∈ tblG := tg 399 (by decide +kernel) rfl
theorem q_1347 : Cond.instanceMethod yX3_init ∈ tblG := tg 398 (by decide +kernel) rfl
theorem q_1348 : Cond.methodLink RX9 80 yX3_init ∈ tblG := tg 397 (by decide +kernel) rfl
theorem q_1349 : Cond.code yX9_init cX9_init 4 none ∈ tblG := tg 137 (by decide +kernel) rfl
theorem q_1350 : Cond.instanceMethod yX9_init ∈ tblG := tg 136 (by decide +kernel) rfl
theorem q_1351 : Cond.methodLink RX10 11 objectInit ∈ tblG := tg 1394 (by decide +kernel) rfl
theorem q_1352 : Cond.arrayClass .long ∈ tblG := tg 1567 (by decide +kernel) rfl
theorem q_1353 : Cond.code yX10_init cX10_init 1 none ∈ tblG := tg 1393 (by decide +kernel) rfl
theorem q_1354 : Cond.instanceMethod yX10_init ∈ tblG := tg 1392 (by decide +kernel) rfl
theorem dX9_init_0 : decode cX9_init 0 = .ok (.aload_n 0, 1) := by decide +kernel
theorem dX9_init_1 : decode cX9_init 1 = .ok (.invokespecial 1, 3) := by decide +kernel
theorem dX9_init_4 : decode cX9_init 4 = .ok (.new 7, 3) := by decide +kernel
theorem dX9_init_7 : decode cX9_init 7 = .ok (.dup, 1) := by decide +kernel
theorem dX9_init_8 : decode cX9_init 8 = .ok (.invokespecial 9, 3) := by decide +kernel
theorem dX7_init_0 : decode cX7_init 0 = .ok (.aload_n 0, 1) := by decide +kernel
theorem dX7_init_1 : decode cX7_init 1 = .ok (.invokespecial 1, 3) := by decide +kernel
theorem dX7_init_4 : decode cX7_init 4 = .ok (.aload_n 0, 1) := by decide +kernel
theorem dX7_init_5 : decode cX7_init 5 = .ok (.iconst 3, 1) := by decide +kernel
theorem dX7_init_6 : decode cX7_init 6 = .ok (.putfield 9, 3) := by decide +kernel
theorem dX7_init_9 : decode cX7_init 9 = .ok (.aload_n 0, 1) := by decide +kernel
theorem dX7_init_10 : decode cX7_init 10 = .ok (.bipush 8, 2) := by decide +kernel
theorem dX7_init_12 : decode cX7_init 12 = .ok (.newarray .int, 2) := by decide +kernel
theorem dX7_init_14 : decode cX7_init 14 = .ok (.putfield 13, 3) := by decide +kernel
theorem dX7_init_17 : decode cX7_init 17 = .ok (.aload_n 0, 1) := by decide +kernel
theorem dX7_init_18 : decode cX7_init 18 = .ok (.bipush 8, 2) := by decide +kernel
theorem dX7_init_20 : decode cX7_init 20 = .ok (.newarray .int, 2) := by decide +kernel
theorem dX7_init_22 : decode cX7_init 22 = .ok (.putfield 17, 3) := by decide +kernel
theorem dX7_init_25 : decode cX7_init 25 = .ok (.aload_n 0, 1) := by decide +kernel
theorem dX7_init_26 : decode cX7_init 26 = .ok (.bipush 6, 2) := by decide +kernel
theorem dX7_init_28 : decode cX7_init 28 = .ok (.newarray .int, 2) := by decide +kernel
theorem dX7_init_30 : decode cX7_init 30 = .ok (.putfield 20, 3) := by decide +kernel
theorem dX7_init_33 : decode cX7_init 33 = .ok (.aload_n 0, 1) := by decide +kernel
theorem dX7_init_34 : decode cX7_init 34 = .ok (.bipush 6, 2) := by decide +kernel
theorem dX7_init_36 : decode cX7_init 36 = .ok (.newarray .int, 2) := by decide +kernel
theorem dX7_init_38 : decode cX7_init 38 = .ok (.putfield 23, 3) := by decide +kernel
theorem dX7_init_41 : decode cX7_init 41 = .ok (.aload_n 0, 1) := by decide +kernel
theorem dX7_init_42 : decode cX7_init 42 = .ok (.bipush 10, 2) := by decide +kernel
theorem dX7_init_44 : decode cX7_init 44 = .ok (.newarray .int, 2) := by decide +kernel
theorem dX7_init_46 : decode cX7_init 46 = .ok (.putfield 26, 3) := by decide +kernel
theorem dX7_init_49 : decode cX7_init 49 = .ok (.aload_n 0, 1) := by decide +kernel
theorem dX7_init_50 : decode cX7_init 50 = .ok (.bipush 10, 2) := by decide +kernel
theorem dX7_init_52 : decode cX7_init 52 = .ok (.newarray .int, 2) := by decide +kernel
theorem dX7_init_54 : decode cX7_init 54 = .ok (.putfield 29, 3) := by decide +kernel
theorem dX7_init_57 : decode cX7_init 57 = .ok (.aload_n 0, 1) := by decide +kernel
theorem dX7_init_58 : decode cX7_init 58 = .ok (.bipush 10, 2) := by decide +kernel
theorem dX7_init_60 : decode cX7_init 60 = .ok (.newarray .int, 2) := by decide +kernel
theorem dX7_init_62 : decode cX7_init 62 = .ok (.putfield 32, 3) := by decide +kernel
theorem dX7_init_65 : decode cX7_init 65 = .ok (.aload_n 0, 1) := by decide +kernel
theorem dX7_init_66 : decode cX7_init 66 = .ok (.bipush 10, 2) := by decide +kernel
theorem dX7_init_68 : decode cX7_init 68 = .ok (.newarray .int, 2) := by decide +kernel
theorem dX7_init_70 : decode cX7_init 70 = .ok (.putfield 35, 3) := by decide +kernel
theorem dX7_init_73 : decode cX7_init 73 = .ok (.return_, 1) := by decide +kernel
theorem dX9_init_11 : decode cX9_init 11 = .ok (.astore_n 1, 1) := by decide +kernel
theorem dX9_init_12 : decode cX9_init 12 = .ok (.new 10, 3) := by decide +kernel
theorem dX9_init_15 : decode cX9_init 15 = .ok (.dup, 1) := by decide +kernel
theorem dX9_init_16 : decode cX9_init 16 = .ok (.invokespecial 12, 3) := by decide +kernel
theorem dX1_init_0 : decode cX1_init 0 = .ok (.aload_n 0, 1) := by decide +kernel
theorem dX1_init_1 : decode cX1_init 1 = .ok (.invokespecial 3, 3) := by decide +kernel
theorem dX1_init_4 : decode cX1_init 4 = .ok (.aload_n 0, 1) := by decide +kernel
theorem dX1_init_5 : decode cX1_init 5 = .ok (.sipush 160, 3) := by decide +kernel
theorem dX1_init_8 : decode cX1_init 8 = .ok (.newarray .int, 2) := by decide +kernel
theorem dX1_init_10 : decode cX1_init 10 = .ok (.putfield 11, 3) := by decide +kernel
theorem dX1_init_13 : decode cX1_init 13 = .ok (.aload_n 0, 1) := by decide +kernel
theorem dX1_init_14 : decode cX1_init 14 = .ok (.bipush 8, 2) := by decide +kernel
theorem dX1_init_16 : decode cX1_init 16 = .ok (.newarray .int, 2) := by decide +kernel
theorem dX1_init_18 : decode cX1_init 18 = .ok (.putfield 15, 3) := by decide +kernel
theorem dX1_init_21 : decode cX1_init 21 = .ok (.aload_n 0, 1) := by decide +kernel
theorem dX1_init_22 : decode cX1_init 22 = .ok (.bipush 40, 2) := by decide +kernel
theorem dX1_init_24 : decode cX1_init 24 = .ok (.newarray .int, 2) := by decide +kernel
theorem dX1_init_26 : decode cX1_init 26 = .ok (.putfield 18, 3) := by decide +kernel
theorem dX1_init_29 : decode cX1_init 29 = .ok (.aload_n 0, 1) := by decide +kernel
theorem dX1_init_30 : decode cX1_init 30 = .ok (.invokevirtual 21, 3) := by decide +kernel
theorem dX1_init_33 : decode cX1_init 33 = .ok (.return_, 1) := by decide +kernel
theorem dX9_init_19 : decode cX9_init 19 = .ok (.astore_n 2, 1) := by decide +kernel
theorem dX9_init_20 : decode cX9_init 20 = .ok (.new 13, 3) := by decide +kernel
theorem dX9_init_23 : decode cX9_init 23 = .ok (.dup, 1) := by decide +kernel
theorem dX9_init_24 : decode cX9_init 24 = .ok (.aload_n 1, 1) := by decide +kernel
theorem dX9_init_25 : decode cX9_init 25 = .ok (.aload_n 2, 1) := by decide +kernel
theorem dX9_init_26 : decode cX9_init 26 = .ok (.invokespecial 15, 3) := by decide +kernel
theorem dX5_init_0 : decode cX5_init 0 = .ok (.aload_n 0, 1) := by decide +kernel
theorem dX5_init_1 : decode cX5_init 1 = .ok (.invokespecial 5, 3) := by decide +kernel
theorem dX5_init_4 : decode cX5_init 4 = .ok (.aload_n 0, 1) := by decide +kernel
theorem dX5_init_5 : decode cX5_init 5 = .ok (.bipush 74, 2) := by decide +kernel
theorem dX5_init_7 : decode cX5_init 7 = .ok (.newarray .int, 2) := by decide +kernel
theorem dX5_init_9 : decode cX5_init 9 = .ok (.putfield 11, 3) := by decide +kernel
theorem dX5_init_12 : decode cX5_init 12 = .ok (.aload_n 0, 1) := by decide +kernel
theorem dX5_init_13 : decode cX5_init 13 = .ok (.aload_n 1, 1) := by decide +kernel
theorem dX5_init_14 : decode cX5_init 14 = .ok (.putfield 15, 3) := by decide +kernel
theorem dX5_init_17 : decode cX5_init 17 = .ok (.aload_n 0, 1) := by decide +kernel
theorem dX5_init_18 : decode cX5_init 18 = .ok (.aload_n 2, 1) := by decide +kernel
theorem dX5_init_19 : decode cX5_init 19 = .ok (.putfield 19, 3) := by decide +kernel
theorem dX5_init_22 : decode cX5_init 22 = .ok (.return_, 1) := by decide +kernel
theorem dX9_init_29 : decode cX9_init 29 = .ok (.astore_n 3, 1) := by decide +kernel
theorem dX9_init_30 : decode cX9_init 30 = .ok (.aload_n 0, 1) := by decide +kernel
theorem dX9_init_31 : decode cX9_init 31 = .ok (.new 18, 3) := by decide +kernel
theorem dX9_init_34 : decode cX9_init 34 = .ok (.dup, 1) := by decide +kernel
theorem dX9_init_35 : decode cX9_init 35 = .ok (.invokespecial 20, 3) := by decide +kernel
theorem dX6_init_0 : decode cX6_init 0 = .ok (.aload_n 0, 1) := by decide +kernel
theorem dX6_init_1 : decode cX6_init 1 = .ok (.invokespecial 3, 3) := by decide +kernel
theorem dX6_init_4 : decode cX6_init 4 = .ok (.aload_n 0, 1) := by decide +kernel
theorem dX6_init_5 : decode cX6_init 5 = .ok (.sipush 600, 3) := by decide +kernel
theorem dX6_init_8 : decode cX6_init 8 = .ok (.newarray .int, 2) := by decide +kernel
theorem dX6_init_10 : decode cX6_init 10 = .ok (.putfield 11, 3) := by decide +kernel
theorem dX6_init_13 : decode cX6_init 13 = .ok (.aload_n 0, 1) := by decide +kernel
theorem dX6_init_14 : decode cX6_init 14 = .ok (.iconst (-1), 1) := by decide +kernel
theorem dX6_init_15 : decode cX6_init 15 = .ok (.putfield 15, 3) := by decide +kernel
theorem dX6_init_18 : decode cX6_init 18 = .ok (.return_, 1) := by decide +kernel
theorem dX9_init_38 : decode cX9_init 38 = .ok (.putfield 21, 3) := by decide +kernel
theorem dX9_init_41 : decode cX9_init 41 = .ok (.aload_n 0, 1) := by decide +kernel
theorem dX9_init_42 : decode cX9_init 42 = .ok (.aload_n 1, 1) := by decide +kernel
theorem dX9_init_43 : decode cX9_init 43 = .ok (.putfield 27, 3) := by decide +kernel
theorem dX9_init_46 : decode cX9_init 46 = .ok (.aload_n 0, 1) := by decide +kernel
theorem dX9_init_47 : decode cX9_init 47 = .ok (.new 7, 3) := by decide +kernel
theorem dX9_init_50 : decode cX9_init 50 = .ok (.dup, 1) := by decide +kernel
theorem dX9_init_51 : decode cX9_init 51 = .ok (.invokespecial 9, 3) := by decide +kernel
theorem dX9_init_54 : decode cX9_init 54 = .ok (.putfield 31, 3) := by decide +kernel
theorem dX9_init_57 : decode cX9_init 57 = .ok (.aload_n 0, 1) := by decide +kernel
theorem dX9_init_58 : decode cX9_init 58 = .ok (.aload_n 2, 1) := by decide +kernel
theorem dX9_init_59 : decode cX9_init 59 = .ok (.putfield 34, 3) := by decide +kernel
theorem dX9_init_62 : decode cX9_init 62 = .ok (.aload_n 0, 1) := by decide +kernel
theorem dX9_init_63 : decode cX9_init 63 = .ok (.new 10, 3) := by decide +kernel
theorem dX9_init_66 : decode cX9_init 66 = .ok (.dup, 1) := by decide +kernel
theorem dX9_init_67 : decode cX9_init 67 = .ok (.invokespecial 12, 3) := by decide +kernel
theorem dX9_init_70 : decode cX9_init 70 = .ok (.putfield 38, 3) := by decide +kernel
theorem dX9_init_73 : decode cX9_init 73 = .ok (.aload_n 0, 1) := by decide +kernel
theorem dX9_init_74 : decode cX9_init 74 = .ok (.new 41, 3) := by decide +kernel
theorem dX9_init_77 : decode cX9_init 77 = .ok (.dup, 1) := by decide +kernel
theorem dX9_init_78 : decode cX9_init 78 = .ok (.invokespecial 43, 3) := by decide +kernel
theorem dX0_init_0 : decode cX0_init 0 = .ok (.aload_n 0, 1) := by decide +kernel
theorem dX0_init_1 : decode cX0_init 1 = .ok (.invokespecial 1, 3) := by decide +kernel
theorem dX0_init_4 : decode cX0_init 4 = .ok (.aload_n 0, 1) := by decide +kernel
theorem dX0_init_5 : decode cX0_init 5 = .ok (.bipush 6, 2) := by decide +kernel
theorem dX0_init_7 : decode cX0_init 7 = .ok (.newarray .int, 2) := by decide +kernel
theorem dX0_init_9 : decode cX0_init 9 = .ok (.putfield 9, 3) := by decide +kernel
theorem dX0_init_12 : decode cX0_init 12 = .ok (.aload_n 0, 1) := by decide +kernel
theorem dX0_init_13 : decode cX0_init 13 = .ok (.bipush 6, 2) := by decide +kernel
theorem dX0_init_15 : decode cX0_init 15 = .ok (.newarray .int, 2) := by decide +kernel
theorem dX0_init_17 : decode cX0_init 17 = .ok (.putfield 13, 3) := by decide +kernel
theorem dX0_init_20 : decode cX0_init 20 = .ok (.aload_n 0, 1) := by decide +kernel
theorem dX0_init_21 : decode cX0_init 21 = .ok (.bipush 6, 2) := by decide +kernel
theorem dX0_init_23 : decode cX0_init 23 = .ok (.newarray .int, 2) := by decide +kernel
theorem dX0_init_25 : decode cX0_init 25 = .ok (.putfield 16, 3) := by decide +kernel
theorem dX0_init_28 : decode cX0_init 28 = .ok (.return_, 1) := by decide +kernel
theorem dX9_init_81 : decode cX9_init 81 = .ok (.putfield 44, 3) := by decide +kernel
theorem dX9_init_84 : decode cX9_init 84 = .ok (.aload_n 0, 1) := by decide +kernel
theorem dX9_init_85 : decode cX9_init 85 = .ok (.new 41, 3) := by decide +kernel
theorem dX9_init_88 : decode cX9_init 88 = .ok (.dup, 1) := by decide +kernel
theorem dX9_init_89 : decode cX9_init 89 = .ok (.invokespecial 43, 3) := by decide +kernel
theorem dX9_init_92 : decode cX9_init 92 = .ok (.putfield 48, 3) := by decide +kernel
theorem dX9_init_95 : decode cX9_init 95 = .ok (.aload_n 0, 1) := by decide +kernel
theorem dX9_init_96 : decode cX9_init 96 = .ok (.new 51, 3) := by decide +kernel
theorem dX9_init_99 : decode cX9_init 99 = .ok (.dup, 1) := by decide +kernel
theorem dX9_init_100 : decode cX9_init 100 = .ok (.invokespecial 53, 3) := by decide +kernel
theorem dX8_init_0 : decode cX8_init 0 = .ok (.aload_n 0, 1) := by decide +kernel
theorem dX8_init_1 : decode cX8_init 1 = .ok (.invokespecial 1, 3) := by decide +kernel
theorem dX8_init_4 : decode cX8_init 4 = .ok (.aload_n 0, 1) := by decide +kernel
theorem dX8_init_5 : decode cX8_init 5 = .ok (.bipush 64, 2) := by decide +kernel
theorem dX8_init_7 : decode cX8_init 7 = .ok (.newarray .int, 2) := by decide +kernel
theorem dX8_init_9 : decode cX8_init 9 = .ok (.putfield 9, 3) := by decide +kernel
theorem dX8_init_12 : decode cX8_init 12 = .ok (.aload_n 0, 1) := by decide +kernel
theorem dX8_init_13 : decode cX8_init 13 = .ok (.bipush 64, 2) := by decide +kernel
theorem dX8_init_15 : decode cX8_init 15 = .ok (.newarray .int, 2) := by decide +kernel
theorem dX8_init_17 : decode cX8_init 17 = .ok (.putfield 13, 3) := by decide +kernel
theorem dX8_init_20 : decode cX8_init 20 = .ok (.aload_n 0, 1) := by decide +kernel
theorem dX8_init_21 : decode cX8_init 21 = .ok (.bipush 64, 2) := by decide +kernel
theorem dX8_init_23 : decode cX8_init 23 = .ok (.newarray .int, 2) := by decide +kernel
theorem dX8_init_25 : decode cX8_init 25 = .ok (.putfield 16, 3) := by decide +kernel
theorem dX8_init_28 : decode cX8_init 28 = .ok (.return_, 1) := by decide +kernel
theorem dX9_init_103 : decode cX9_init 103 = .ok (.putfield 54, 3) := by decide +kernel
theorem dX9_init_106 : decode cX9_init 106 = .ok (.aload_n 0, 1) := by decide +kernel
theorem dX9_init_107 : decode cX9_init 107 = .ok (.aload_n 3, 1) := by decide +kernel
theorem dX9_init_108 : decode cX9_init 108 = .ok (.putfield 58, 3) := by decide +kernel
theorem dX9_init_111 : decode cX9_init 111 = .ok (.aload_n 0, 1) := by decide +kernel
theorem dX9_init_112 : decode cX9_init 112 = .ok (.new 62, 3) := by decide +kernel
theorem dX9_init_115 : decode cX9_init 115 = .ok (.dup, 1) := by decide +kernel
theorem dX9_init_116 : decode cX9_init 116 = .ok (.invokespecial 64, 3) := by decide +kernel
theorem dX4_init_0 : decode cX4_init 0 = .ok (.aload_n 0, 1) := by decide +kernel
theorem dX4_init_1 : decode cX4_init 1 = .ok (.invokespecial 5, 3) := by decide +kernel
theorem dX4_init_4 : decode cX4_init 4 = .ok (.aload_n 0, 1) := by decide +kernel
theorem dX4_init_5 : decode cX4_init 5 = .ok (.sipush 1184, 3) := by decide +kernel
theorem dX4_init_8 : decode cX4_init 8 = .ok (.newarray .int, 2) := by decide +kernel
theorem dX4_init_10 : decode cX4_init 10 = .ok (.putfield 11, 3) := by decide +kernel
theorem dX4_init_13 : decode cX4_init 13 = .ok (.aload_n 0, 1) := by decide +kernel
theorem dX4_init_14 : decode cX4_init 14 = .ok (.sipush 3774, 3) := by decide +kernel
theorem dX4_init_17 : decode cX4_init 17 = .ok (.newarray .int, 2) := by decide +kernel
theorem dX4_init_19 : decode cX4_init 19 = .ok (.putfield 15, 3) := by decide +kernel
theorem dX4_init_22 : decode cX4_init 22 = .ok (.aload_n 0, 1) := by decide +kernel
theorem dX4_init_23 : decode cX4_init 23 = .ok (.iconst 3, 1) := by decide +kernel
theorem dX4_init_24 : decode cX4_init 24 = .ok (.newarray .int, 2) := by decide +kernel
theorem dX4_init_26 : decode cX4_init 26 = .ok (.putfield 18, 3) := by decide +kernel
theorem dX4_init_29 : decode cX4_init 29 = .ok (.return_, 1) := by decide +kernel
theorem dX9_init_119 : decode cX9_init 119 = .ok (.putfield 65, 3) := by decide +kernel
theorem dX9_init_122 : decode cX9_init 122 = .ok (.aload_n 0, 1) := by decide +kernel
theorem dX9_init_123 : decode cX9_init 123 = .ok (.new 69, 3) := by decide +kernel
theorem dX9_init_126 : decode cX9_init 126 = .ok (.dup, 1) := by decide +kernel
theorem dX9_init_127 : decode cX9_init 127 = .ok (.aload_n 1, 1) := by decide +kernel
theorem dX9_init_128 : decode cX9_init 128 = .ok (.aload_n 3, 1) := by decide +kernel
theorem dX9_init_129 : decode cX9_init 129 = .ok (.new 13, 3) := by decide +kernel
theorem dX9_init_132 : decode cX9_init 132 = .ok (.dup, 1) := by decide +kernel
theorem dX9_init_133 : decode cX9_init 133 = .ok (.aload_n 1, 1) := by decide +kernel
theorem dX9_init_134 : decode cX9_init 134 = .ok (.aload_n 2, 1) := by decide +kernel
theorem dX9_init_135 : decode cX9_init 135 = .ok (.invokespecial 15, 3) := by decide +kernel
theorem dX9_init_138 : decode cX9_init 138 = .ok (.invokespecial 71, 3) := by decide +kernel
theorem dX2_init_0 : decode cX2_init 0 = .ok (.aload_n 0, 1) := by decide +kernel
theorem dX2_init_1 : decode cX2_init 1 = .ok (.invokespecial 3, 3) := by decide +kernel
theorem dX2_init_4 : decode cX2_init 4 = .ok (.aload_n 0, 1) := by decide +kernel
theorem dX2_init_5 : decode cX2_init 5 = .ok (.aload_n 1, 1) := by decide +kernel
theorem dX2_init_6 : decode cX2_init 6 = .ok (.putfield 9, 3) := by decide +kernel
theorem dX2_init_9 : decode cX2_init 9 = .ok (.aload_n 0, 1) := by decide +kernel
theorem dX2_init_10 : decode cX2_init 10 = .ok (.aload_n 2, 1) := by decide +kernel
theorem dX2_init_11 : decode cX2_init 11 = .ok (.putfield 15, 3) := by decide +kernel
theorem dX2_init_14 : decode cX2_init 14 = .ok (.aload_n 0, 1) := by decide +kernel
theorem dX2_init_15 : decode cX2_init 15 = .ok (.aload_n 3, 1) := by decide +kernel
theorem dX2_init_16 : decode cX2_init 16 = .ok (.putfield 19, 3) := by decide +kernel
theorem dX2_init_19 : decode cX2_init 19 = .ok (.return_, 1) := by decide +kernel
theorem dX9_init_141 : decode cX9_init 141 = .ok (.putfield 74, 3) := by decide +kernel
theorem dX9_init_144 : decode cX9_init 144 = .ok (.aload_n 0, 1) := by decide +kernel
theorem dX9_init_145 : decode cX9_init 145 = .ok (.new 78, 3) := by decide +kernel
theorem dX9_init_148 : decode cX9_init 148 = .ok (.dup, 1) := by decide +kernel
theorem dX9_init_149 : decode cX9_init 149 = .ok (.aload_n 1, 1) := by decide +kernel
theorem dX9_init_150 : decode cX9_init 150 = .ok (.aload_n 3, 1) := by decide +kernel
theorem dX9_init_151 : decode cX9_init 151 = .ok (.invokespecial 80, 3) := by decide +kernel
theorem dX3_init_0 : decode cX3_init 0 = .ok (.aload_n 0, 1) := by decide +kernel
theorem dX3_init_1 : decode cX3_init 1 = .ok (.invokespecial 1, 3) := by decide +kernel
theorem dX3_init_4 : decode cX3_init 4 = .ok (.aload_n 0, 1) := by decide +kernel
theorem dX3_init_5 : decode cX3_init 5 = .ok (.bipush 10, 2) := by decide +kernel
theorem dX3_init_7 : decode cX3_init 7 = .ok (.newarray .int, 2) := by decide +kernel
theorem dX3_init_9 : decode cX3_init 9 = .ok (.putfield 9, 3) := by decide +kernel
theorem dX3_init_12 : decode cX3_init 12 = .ok (.aload_n 0, 1) := by decide +kernel
theorem dX3_init_13 : decode cX3_init 13 = .ok (.bipush 10, 2) := by decide +kernel
theorem dX3_init_15 : decode cX3_init 15 = .ok (.newarray .int, 2) := by decide +kernel
theorem dX3_init_17 : decode cX3_init 17 = .ok (.putfield 15, 3) := by decide +kernel
theorem dX3_init_20 : decode cX3_init 20 = .ok (.aload_n 0, 1) := by decide +kernel
theorem dX3_init_21 : decode cX3_init 21 = .ok (.aload_n 1, 1) := by decide +kernel
theorem dX3_init_22 : decode cX3_init 22 = .ok (.putfield 18, 3) := by decide +kernel
theorem dX3_init_25 : decode cX3_init 25 = .ok (.aload_n 0, 1) := by decide +kernel
theorem dX3_init_26 : decode cX3_init 26 = .ok (.aload_n 2, 1) := by decide +kernel
theorem dX3_init_27 : decode cX3_init 27 = .ok (.putfield 22, 3) := by decide +kernel
theorem dX3_init_30 : decode cX3_init 30 = .ok (.return_, 1) := by decide +kernel
theorem dX9_init_154 : decode cX9_init 154 = .ok (.putfield 83, 3) := by decide +kernel
theorem dX9_init_157 : decode cX9_init 157 = .ok (.return_, 1) := by decide +kernel
theorem dX10_init_0 : decode cX10_init 0 = .ok (.aload_n 0, 1) := by decide +kernel
theorem dX10_init_1 : decode cX10_init 1 = .ok (.invokespecial 11, 3) := by decide +kernel
theorem dX10_init_4 : decode cX10_init 4 = .ok (.aload_n 0, 1) := by decide +kernel
theorem dX10_init_5 : decode cX10_init 5 = .ok (.iconst 2, 1) := by decide +kernel
theorem dX10_init_6 : decode cX10_init 6 = .ok (.newarray .int, 2) := by decide +kernel
theorem dX10_init_8 : decode cX10_init 8 = .ok (.putfield 7, 3) := by decide +kernel
theorem dX10_init_11 : decode cX10_init 11 = .ok (.aload_n 0, 1) := by decide +kernel
theorem dX10_init_12 : decode cX10_init 12 = .ok (.iconst (-1), 1) := by decide +kernel
theorem dX10_init_13 : decode cX10_init 13 = .ok (.putfield 17, 3) := by decide +kernel
theorem dX10_init_16 : decode cX10_init 16 = .ok (.aload_n 0, 1) := by decide +kernel
theorem dX10_init_17 : decode cX10_init 17 = .ok (.sipush 600, 3) := by decide +kernel
theorem dX10_init_20 : decode cX10_init 20 = .ok (.newarray .int, 2) := by decide +kernel
theorem dX10_init_22 : decode cX10_init 22 = .ok (.putfield 20, 3) := by decide +kernel
theorem dX10_init_25 : decode cX10_init 25 = .ok (.aload_n 0, 1) := by decide +kernel
theorem dX10_init_26 : decode cX10_init 26 = .ok (.bipush 16, 2) := by decide +kernel
theorem dX10_init_28 : decode cX10_init 28 = .ok (.newarray .int, 2) := by decide +kernel
theorem dX10_init_30 : decode cX10_init 30 = .ok (.putfield 23, 3) := by decide +kernel
theorem dX10_init_33 : decode cX10_init 33 = .ok (.aload_n 0, 1) := by decide +kernel
theorem dX10_init_34 : decode cX10_init 34 = .ok (.bipush 12, 2) := by decide +kernel
theorem dX10_init_36 : decode cX10_init 36 = .ok (.newarray .int, 2) := by decide +kernel
theorem dX10_init_38 : decode cX10_init 38 = .ok (.putfield 26, 3) := by decide +kernel
theorem dX10_init_41 : decode cX10_init 41 = .ok (.aload_n 0, 1) := by decide +kernel
theorem dX10_init_42 : decode cX10_init 42 = .ok (.bipush 40, 2) := by decide +kernel
theorem dX10_init_44 : decode cX10_init 44 = .ok (.newarray .int, 2) := by decide +kernel
theorem dX10_init_46 : decode cX10_init 46 = .ok (.putfield 29, 3) := by decide +kernel
theorem dX10_init_49 : decode cX10_init 49 = .ok (.aload_n 0, 1) := by decide +kernel
theorem dX10_init_50 : decode cX10_init 50 = .ok (.bipush 16, 2) := by decide +kernel
theorem dX10_init_52 : decode cX10_init 52 = .ok (.newarray .int, 2) := by decide +kernel
theorem dX10_init_54 : decode cX10_init 54 = .ok (.putfield 32, 3) := by decide +kernel
theorem dX10_init_57 : decode cX10_init 57 = .ok (.aload_n 0, 1) := by decide +kernel
theorem dX10_init_58 : decode cX10_init 58 = .ok (.bipush 12, 2) := by decide +kernel
theorem dX10_init_60 : decode cX10_init 60 = .ok (.newarray .int, 2) := by decide +kernel
theorem dX10_init_62 : decode cX10_init 62 = .ok (.putfield 35, 3) := by decide +kernel
theorem dX10_init_65 : decode cX10_init 65 = .ok (.aload_n 0, 1) := by decide +kernel
theorem dX10_init_66 : decode cX10_init 66 = .ok (.bipush 40, 2) := by decide +kernel
theorem dX10_init_68 : decode cX10_init 68 = .ok (.newarray .int, 2) := by decide +kernel
theorem dX10_init_70 : decode cX10_init 70 = .ok (.putfield 38, 3) := by decide +kernel
theorem dX10_init_73 : decode cX10_init 73 = .ok (.aload_n 0, 1) := by decide +kernel
theorem dX10_init_74 : decode cX10_init 74 = .ok (.sipush 150, 3) := by decide +kernel
theorem dX10_init_77 : decode cX10_init 77 = .ok (.newarray .int, 2) := by decide +kernel
theorem dX10_init_79 : decode cX10_init 79 = .ok (.putfield 41, 3) := by decide +kernel
theorem dX10_init_82 : decode cX10_init 82 = .ok (.aload_n 0, 1) := by decide +kernel
theorem dX10_init_83 : decode cX10_init 83 = .ok (.sipush 150, 3) := by decide +kernel
theorem dX10_init_86 : decode cX10_init 86 = .ok (.newarray .int, 2) := by decide +kernel
theorem dX10_init_88 : decode cX10_init 88 = .ok (.putfield 44, 3) := by decide +kernel
theorem dX10_init_91 : decode cX10_init 91 = .ok (.aload_n 0, 1) := by decide +kernel
theorem dX10_init_92 : decode cX10_init 92 = .ok (.sipush 150, 3) := by decide +kernel
theorem dX10_init_95 : decode cX10_init 95 = .ok (.newarray .int, 2) := by decide +kernel
theorem dX10_init_97 : decode cX10_init 97 = .ok (.putfield 47, 3) := by decide +kernel
theorem dX10_init_100 : decode cX10_init 100 = .ok (.aload_n 0, 1) := by decide +kernel
theorem dX10_init_101 : decode cX10_init 101 = .ok (.sipush 150, 3) := by decide +kernel
theorem dX10_init_104 : decode cX10_init 104 = .ok (.newarray .int, 2) := by decide +kernel
theorem dX10_init_106 : decode cX10_init 106 = .ok (.putfield 50, 3) := by decide +kernel
theorem dX10_init_109 : decode cX10_init 109 = .ok (.aload_n 0, 1) := by decide +kernel
theorem dX10_init_110 : decode cX10_init 110 = .ok (.sipush 150, 3) := by decide +kernel
theorem dX10_init_113 : decode cX10_init 113 = .ok (.newarray .int, 2) := by decide +kernel
theorem dX10_init_115 : decode cX10_init 115 = .ok (.putfield 53, 3) := by decide +kernel
theorem dX10_init_118 : decode cX10_init 118 = .ok (.aload_n 0, 1) := by decide +kernel
theorem dX10_init_119 : decode cX10_init 119 = .ok (.bipush 8, 2) := by decide +kernel
theorem dX10_init_121 : decode cX10_init 121 = .ok (.newarray .int, 2) := by decide +kernel
theorem dX10_init_123 : decode cX10_init 123 = .ok (.putfield 56, 3) := by decide +kernel
theorem dX10_init_126 : decode cX10_init 126 = .ok (.aload_n 0, 1) := by decide +kernel
theorem dX10_init_127 : decode cX10_init 127 = .ok (.sipush 150, 3) := by decide +kernel
theorem dX10_init_130 : decode cX10_init 130 = .ok (.newarray .int, 2) := by decide +kernel
theorem dX10_init_132 : decode cX10_init 132 = .ok (.putfield 59, 3) := by decide +kernel
theorem dX10_init_135 : decode cX10_init 135 = .ok (.aload_n 0, 1) := by decide +kernel
theorem dX10_init_136 : decode cX10_init 136 = .ok (.sipush 150, 3) := by decide +kernel
theorem dX10_init_139 : decode cX10_init 139 = .ok (.newarray .int, 2) := by decide +kernel
theorem dX10_init_141 : decode cX10_init 141 = .ok (.putfield 62, 3) := by decide +kernel
theorem dX10_init_144 : decode cX10_init 144 = .ok (.aload_n 0, 1) := by decide +kernel
theorem dX10_init_145 : decode cX10_init 145 = .ok (.bipush 95, 2) := by decide +kernel
theorem dX10_init_147 : decode cX10_init 147 = .ok (.newarray .int, 2) := by decide +kernel
theorem dX10_init_149 : decode cX10_init 149 = .ok (.putfield 65, 3) := by decide +kernel
theorem dX10_init_152 : decode cX10_init 152 = .ok (.aload_n 0, 1) := by decide +kernel
theorem dX10_init_153 : decode cX10_init 153 = .ok (.bipush 95, 2) := by decide +kernel
theorem dX10_init_155 : decode cX10_init 155 = .ok (.newarray .int, 2) := by decide +kernel
theorem dX10_init_157 : decode cX10_init 157 = .ok (.putfield 68, 3) := by decide +kernel
theorem dX10_init_160 : decode cX10_init 160 = .ok (.aload_n 0, 1) := by decide +kernel
theorem dX10_init_161 : decode cX10_init 161 = .ok (.sipush 1520, 3) := by decide +kernel
theorem dX10_init_164 : decode cX10_init 164 = .ok (.newarray .int, 2) := by decide +kernel
theorem dX10_init_166 : decode cX10_init 166 = .ok (.putfield 71, 3) := by decide +kernel
theorem dX10_init_169 : decode cX10_init 169 = .ok (.aload_n 0, 1) := by decide +kernel
theorem dX10_init_170 : decode cX10_init 170 = .ok (.bipush 18, 2) := by decide +kernel
theorem dX10_init_172 : decode cX10_init 172 = .ok (.newarray .int, 2) := by decide +kernel
theorem dX10_init_174 : decode cX10_init 174 = .ok (.putfield 74, 3) := by decide +kernel
theorem dX10_init_177 : decode cX10_init 177 = .ok (.aload_n 0, 1) := by decide +kernel
theorem dX10_init_178 : decode cX10_init 178 = .ok (.bipush 18, 2) := by decide +kernel
theorem dX10_init_180 : decode cX10_init 180 = .ok (.newarray .int, 2) := by decide +kernel
theorem dX10_init_182 : decode cX10_init 182 = .ok (.putfield 77, 3) := by decide +kernel
theorem dX10_init_185 : decode cX10_init 185 = .ok (.aload_n 0, 1) := by decide +kernel
theorem dX10_init_186 : decode cX10_init 186 = .ok (.bipush 10, 2) := by decide +kernel
theorem dX10_init_188 : decode cX10_init 188 = .ok (.newarray .int, 2) := by decide +kernel
theorem dX10_init_190 : decode cX10_init 190 = .ok (.putfield 80, 3) := by decide +kernel
theorem dX10_init_193 : decode cX10_init 193 = .ok (.aload_n 0, 1) := by decide +kernel
theorem dX10_init_194 : decode cX10_init 194 = .ok (.bipush 41, 2) := by decide +kernel
theorem dX10_init_196 : decode cX10_init 196 = .ok (.newarray .int, 2) := by decide +kernel
theorem dX10_init_198 : decode cX10_init 198 = .ok (.putfield 83, 3) := by decide +kernel
theorem dX10_init_201 : decode cX10_init 201 = .ok (.aload_n 0, 1) := by decide +kernel
theorem dX10_init_202 : decode cX10_init 202 = .ok (.bipush 14, 2) := by decide +kernel
theorem dX10_init_204 : decode cX10_init 204 = .ok (.newarray .long, 2) := by decide +kernel
theorem dX10_init_206 : decode cX10_init 206 = .ok (.putfield 86, 3) := by decide +kernel
theorem dX10_init_209 : decode cX10_init 209 = .ok (.aload_n 0, 1) := by decide +kernel
theorem dX10_init_210 : decode cX10_init 210 = .ok (.sipush 4848, 3) := by decide +kernel
theorem dX10_init_213 : decode cX10_init 213 = .ok (.newarray .int, 2) := by decide +kernel
theorem dX10_init_215 : decode cX10_init 215 = .ok (.putfield 90, 3) := by decide +kernel
theorem dX10_init_218 : decode cX10_init 218 = .ok (.aload_n 0, 1) := by decide +kernel
theorem dX10_init_219 : decode cX10_init 219 = .ok (.invokevirtual 93, 3) := by decide +kernel
theorem dX10_init_222 : decode cX10_init 222 = .ok (.aload_n 0, 1) := by decide +kernel
theorem dX10_init_223 : decode cX10_init 223 = .ok (.invokevirtual 96, 3) := by decide +kernel
theorem dX10_init_226 : decode cX10_init 226 = .ok (.return_, 1) := by decide +kernel
def wL (G : Gc) (S : St) : va_W := [(gA G 0, .inr (1, [.ref (gA G 1), .int (S.1 0), .ref (gA G 2), .ref (gA G 3)])),
  (gA G 1, .inl (G.2.1, 160, .inl (S.2.1 1))),
  (gA G 2, .inl (G.2.1, 8, .inl (S.2.1 2))),
  (gA G 3, .inl (G.2.1, 40, .inl (S.2.1 3)))]
abbrev NL : Nat := 4
abbrev VL (G : Gc) (nL mc ms : Nat) (own : String) : Vc := (G, wL, 4, nL, mc, ms, own)
section WL
variable {E : Ec} {G : Gc} {nL mc ms : Nat} {own : String} {cc : ByteArray} {L : Nat} {ret : Option FieldType} {k n pc ix : Nat} {loc : List (Nat × Value)} {st : List Value} {S : St} {o : Oz}
theorem inRX1_again : ∀ q ∈ u_ws RX1 TX1 4, q ∈ tblG := uws_in [237, 239, 241, 243] (by decide +kernel) (by decide +kernel)
theorem oL_0 : (wL G S)[0]? = some (gA G 0, .inr (1, [.ref (gA G 1), .int (S.1 0), .ref (gA G 2), .ref (gA G 3)])) := rfl
theorem gL_0_0 (C : JC E (VL G nL mc ms own) cc L ret) (hd : decode cc pc = .ok (.getfield ix, 3)) (hq : Cond.fieldLink own ix "PaidByHeart$Law" "words" "[I" ∈ tblG) (kk : J E (VL G nL mc ms own) k n (pc + 3) loc (.ref (gA G 1) :: st) S o) : J E (VL G nL mc ms own) k n pc loc (.ref (gA G 0) :: st) S o := j_get (V := (VL G nL mc ms own)) (Cn := RX1) (T := TX1) (N := 4) (ci := 1) 0 0 rfl rfl (by decide) inRX1 rfl C hd hq kk
theorem gL_0_1 (C : JC E (VL G nL mc ms own) cc L ret) (hd : decode cc pc = .ok (.getfield ix, 3)) (hq : Cond.fieldLink own ix "PaidByHeart$Law" "size" "I" ∈ tblG) (kk : J E (VL G nL mc ms own) k n (pc + 3) loc (.int (S.1 0) :: st) S o) : J E (VL G nL mc ms own) k n pc loc (.ref (gA G 0) :: st) S o := j_get (V := (VL G nL mc ms own)) (Cn := RX1) (T := TX1) (N := 4) (ci := 1) 0 1 rfl rfl (by decide) inRX1 rfl C hd hq kk
theorem pL_0_1 {v : Int32} (C : JC E (VL G nL mc ms own) cc L ret) (hd : decode cc pc = .ok (.putfield ix, 3)) (hq : Cond.fieldLink own ix "PaidByHeart$Law" "size" "I" ∈ tblG) (kk : J E (VL G nL mc ms own) k n (pc + 3) loc st (sF S 0 v) o) : J E (VL G nL mc ms own) k n pc loc (.int v :: .ref (gA G 0) :: st) S o := j_put (V := (VL G nL mc ms own)) (Cn := RX1) (T := TX1) (N := 4) (ci := 1) (sF S 0 v) 0 1 rfl rfl (by decide) inRX1 tyX1 tyX1_ok nmX1 rfl rfl (Nat.le_of_ble_eq_true rfl) rfl C hd hq kk
theorem gL_0_2 (C : JC E (VL G nL mc ms own) cc L ret) (hd : decode cc pc = .ok (.getfield ix, 3)) (hq : Cond.fieldLink own ix "PaidByHeart$Law" "facts" "[I" ∈ tblG) (kk : J E (VL G nL mc ms own) k n (pc + 3) loc (.ref (gA G 2) :: st) S o) : J E (VL G nL mc ms own) k n pc loc (.ref (gA G 0) :: st) S o := j_get (V := (VL G nL mc ms own)) (Cn := RX1) (T := TX1) (N := 4) (ci := 1) 0 2 rfl rfl (by decide) inRX1 rfl C hd hq kk
theorem gL_0_3 (C : JC E (VL G nL mc ms own) cc L ret) (hd : decode cc pc = .ok (.getfield ix, 3)) (hq : Cond.fieldLink own ix "PaidByHeart$Law" "stack" "[I" ∈ tblG) (kk : J E (VL G nL mc ms own) k n (pc + 3) loc (.ref (gA G 3) :: st) S o) : J E (VL G nL mc ms own) k n pc loc (.ref (gA G 0) :: st) S o := j_get (V := (VL G nL mc ms own)) (Cn := RX1) (T := TX1) (N := 4) (ci := 1) 0 3 rfl rfl (by decide) inRX1 rfl C hd hq kk
theorem aL_1 {i : Int32} (C : JC E (VL G nL mc ms own) cc L ret) (hd : decode cc pc = .ok (.iaload, 1)) (kk : J E (VL G nL mc ms own) k n (pc + 1) loc (.int (rA S 1 i) :: st) S o) : J E (VL G nL mc ms own) k n pc loc (.int i :: .ref (gA G 1) :: st) S (gd (ib i 160) o) := j_iald (V := (VL G nL mc ms own)) 1 rfl rfl C hd kk
theorem acL_1 {i : Int32} (C : JC E (VL G nL mc ms own) cc L ret) (hd : decode cc pc = .ok (.iaload, 1)) (hg : ib i 160 = true) (kk : J E (VL G nL mc ms own) k n (pc + 1) loc (.int (rA S 1 i) :: st) S o) : J E (VL G nL mc ms own) k n pc loc (.int i :: .ref (gA G 1) :: st) S o := j_ialdc (V := (VL G nL mc ms own)) 1 rfl rfl C hd hg kk
theorem sL_1 {i v : Int32} (C : JC E (VL G nL mc ms own) cc L ret) (hd : decode cc pc = .ok (.iastore, 1)) (kk : J E (VL G nL mc ms own) k n (pc + 1) loc st (sA S 1 i v) o) : J E (VL G nL mc ms own) k n pc loc (.int v :: .int i :: .ref (gA G 1) :: st) S (gd (ib i 160) o) := j_iast (V := (VL G nL mc ms own)) (sA S 1 i v) 1 rfl rfl C hd kk
theorem scL_1 {i v : Int32} (C : JC E (VL G nL mc ms own) cc L ret) (hd : decode cc pc = .ok (.iastore, 1)) (hg : ib i 160 = true) (kk : J E (VL G nL mc ms own) k n (pc + 1) loc st (sA S 1 i v) o) : J E (VL G nL mc ms own) k n pc loc (.int v :: .int i :: .ref (gA G 1) :: st) S o := j_iastc (V := (VL G nL mc ms own)) (sA S 1 i v) 1 rfl rfl C hd hg kk
theorem aL_2 {i : Int32} (C : JC E (VL G nL mc ms own) cc L ret) (hd : decode cc pc = .ok (.iaload, 1)) (kk : J E (VL G nL mc ms own) k n (pc + 1) loc (.int (rA S 2 i) :: st) S o) : J E (VL G nL mc ms own) k n pc loc (.int i :: .ref (gA G 2) :: st) S (gd (ib i 8) o) := j_iald (V := (VL G nL mc ms own)) 2 rfl rfl C hd kk
theorem acL_2 {i : Int32} (C : JC E (VL G nL mc ms own) cc L ret) (hd : decode cc pc = .ok (.iaload, 1)) (hg : ib i 8 = true) (kk : J E (VL G nL mc ms own) k n (pc + 1) loc (.int (rA S 2 i) :: st) S o) : J E (VL G nL mc ms own) k n pc loc (.int i :: .ref (gA G 2) :: st) S o := j_ialdc (V := (VL G nL mc ms own)) 2 rfl rfl C hd hg kk
theorem sL_2 {i v : Int32} (C : JC E (VL G nL mc ms own) cc L ret) (hd : decode cc pc = .ok (.iastore, 1)) (kk : J E (VL G nL mc ms own) k n (pc + 1) loc st (sA S 2 i v) o) : J E (VL G nL mc ms own) k n pc loc (.int v :: .int i :: .ref (gA G 2) :: st) S (gd (ib i 8) o) := j_iast (V := (VL G nL mc ms own)) (sA S 2 i v) 2 rfl rfl C hd kk
theorem scL_2 {i v : Int32} (C : JC E (VL G nL mc ms own) cc L ret) (hd : decode cc pc = .ok (.iastore, 1)) (hg : ib i 8 = true) (kk : J E (VL G nL mc ms own) k n (pc + 1) loc st (sA S 2 i v) o) : J E (VL G nL mc ms own) k n pc loc (.int v :: .int i :: .ref (gA G 2) :: st) S o := j_iastc (V := (VL G nL mc ms own)) (sA S 2 i v) 2 rfl rfl C hd hg kk
theorem aL_3 {i : Int32} (C : JC E (VL G nL mc ms own) cc L ret) (hd : decode cc pc = .ok (.iaload, 1)) (kk : J E (VL G nL mc ms own) k n (pc + 1) loc (.int (rA S 3 i) :: st) S o) : J E (VL G nL mc ms own) k n pc loc (.int i :: .ref (gA G 3) :: st) S (gd (ib i 40) o) := j_iald (V := (VL G nL mc ms own)) 3 rfl rfl C hd kk
theorem acL_3 {i : Int32} (C : JC E (VL G nL mc ms own) cc L ret) (hd : decode cc pc = .ok (.iaload, 1)) (hg : ib i 40 = true) (kk : J E (VL G nL mc ms own) k n (pc + 1) loc (.int (rA S 3 i) :: st) S o) : J E (VL G nL mc ms own) k n pc loc (.int i :: .ref (gA G 3) :: st) S o := j_ialdc (V := (VL G nL mc ms own)) 3 rfl rfl C hd hg kk
theorem sL_3 {i v : Int32} (C : JC E (VL G nL mc ms own) cc L ret) (hd : decode cc pc = .ok (.iastore, 1)) (kk : J E (VL G nL mc ms own) k n (pc + 1) loc st (sA S 3 i v) o) : J E (VL G nL mc ms own) k n pc loc (.int v :: .int i :: .ref (gA G 3) :: st) S (gd (ib i 40) o) := j_iast (V := (VL G nL mc ms own)) (sA S 3 i v) 3 rfl rfl C hd kk
theorem scL_3 {i v : Int32} (C : JC E (VL G nL mc ms own) cc L ret) (hd : decode cc pc = .ok (.iastore, 1)) (hg : ib i 40 = true) (kk : J E (VL G nL mc ms own) k n (pc + 1) loc st (sA S 3 i v) o) : J E (VL G nL mc ms own) k n pc loc (.int v :: .int i :: .ref (gA G 3) :: st) S o := j_iastc (V := (VL G nL mc ms own)) (sA S 3 i v) 3 rfl rfl C hd hg kk
end WL
def fL_put    (x1 : Int32) (S : St) : Oz := if (S.1 0) < 160 then (gd (ib (S.1 0) 160) (nx (sA S 1 (S.1 0) x1) fun T1 => (nx (sF T1 0 ((T1.1 0) + 1)) fun T2 => (some (rI 1, T2))))) else (some (rI 0, S))
theorem bL_put {E : Ec} {G : Gc}    (C : JC E (VL G 2 0 0 RX1) cX1_put 1 (some .boolean))    (x1 : Int32) (S : St) : J E (VL G 2 0 0 RX1) 0 0 0 [(0, .ref (gA G 0)), (1, .int x1)] [] S (fL_put  x1 S) := by
  unfold fL_put
  refine j_aload_n (pc := 0) 0 C dX1_put_0 rfl rfl ?_
  refine gL_0_1 (pc := 1) C dX1_put_1 q_158 ?_
  refine j_sipush (pc := 4) 160 C dX1_put_4 (by decide) ?_
  refine j_icmp_lt (pc := 7) 12 C dX1_put_7 (by decide) ?_ ?_
  ·
    refine j_aload_n (pc := 12) 0 C dX1_put_12 rfl rfl ?_
    refine gL_0_0 (pc := 13) C dX1_put_13 q_159 ?_
    refine j_aload_n (pc := 16) 0 C dX1_put_16 rfl rfl ?_
    refine gL_0_1 (pc := 17) C dX1_put_17 q_158 ?_
    refine j_iload_n (pc := 20) 1 C dX1_put_20 rfl rfl ?_
    refine sL_1 (pc := 21) C dX1_put_21 ?_
    refine j_nxS (fun T1 => ?_)
    refine j_aload_n (pc := 22) 0 C dX1_put_22 rfl rfl ?_
    refine j_dup (pc := 23) C dX1_put_23 rfl ?_
    refine gL_0_1 (pc := 24) C dX1_put_24 q_158 ?_
    refine j_iconst (pc := 27) 1 C dX1_put_27 (by decide) ?_
    refine j_iadd (pc := 28) C dX1_put_28 ?_
    refine pL_0_1 (pc := 29) C dX1_put_29 q_158 ?_
    refine j_nxS (fun T2 => ?_)
    refine j_iconst (pc := 32) 1 C dX1_put_32 (by decide) ?_
    exact j_zretc C dX1_put_33 rfl (Nat.le_of_ble_eq_true rfl) (Nat.le_of_ble_eq_true rfl) rfl
  ·
    refine j_iconst (pc := 10) 0 C dX1_put_10 (by decide) ?_
    exact j_zretc C dX1_put_11 rfl (Nat.le_of_ble_eq_true rfl) (Nat.le_of_ble_eq_true rfl) rfl
theorem cL_put {l : Launch} {G : Gc} (hfl : l.stackTraces = false) (hW : Wok G wL 4)   (x1 : Int32) (S : St) : Ct l yX1_put (Cond.code yX1_put cX1_put 2 (some .boolean) :: tblG) 1 0 0 G wL 4 [.ref (gA G 0), .int x1] S (fL_put x1 S) := ct_of (own := RX1) hfl (by decide +kernel) rfl hW (Nat.le_of_ble_eq_true rfl) (fun E hE C => by subst hE; exact bL_put C   x1 S)
theorem rL_put {E : Ec} {G : Gc} {nL mc ms : Nat} {own : String} {cc : ByteArray} {L : Nat} {ret : Option FieldType} {k n pc ix : Nat} {loc : List (Nat × Value)} {rest : List Value}  {x1 : Int32} {S : St}  (C : JC E (VL G nL mc ms own) cc L ret) (hd : decode cc pc = .ok (.invokevirtual ix, 3)) (hq : Cond.methodLink own ix yX1_put ∈ tblG) (hL : 1 + 1 ≤ L) (hW : (rest.map fun v => v.category).sum ≤ 8) (hf : k + 0 ≤ mc ∧ n + 0 ≤ ms) : Rn E (VL G nL mc ms own) k n 0 0 pc loc (.int x1 :: .ref (gA G 0) :: rest) rest S (fL_put x1 S) := rn_V (ci := 1) 0 (V := VL G nL mc ms own) (As := [.int x1]) (Cq := (RX1, TX1, 4)) (cL_put C.flags C.wok  x1 S) knX1_put ⟨q_162, q_163⟩ rfl rfl C hd hq hL rfl rfl hW hf

def fL_makePlain     (S : St) : Oz := nx (sF S 0 0) fun T1 => (obI (fL_put 9 T1) fun r3 T2 => (obI (fL_put 1001 T2) fun r5 T4 => (obI (fL_put 2001 T4) fun r7 T6 => (some (rV, T6)))))
theorem bL_makePlain {E : Ec} {G : Gc}    (C : JC E (VL G 1 0 0 RX1) cX1_makePlain 2 none)     (S : St) : J E (VL G 1 0 0 RX1) 0 0 0 [(0, .ref (gA G 0))] [] S (fL_makePlain   S) := by
  unfold fL_makePlain
  refine j_aload_n (pc := 0) 0 C dX1_makePlain_0 rfl rfl ?_
  refine j_iconst (pc := 1) 0 C dX1_makePlain_1 (by decide) ?_
  refine pL_0_1 (pc := 2) C dX1_makePlain_2 q_158 ?_
  refine j_nxS (fun T1 => ?_)
  refine j_aload_n (pc := 5) 0 C dX1_makePlain_5 rfl rfl ?_
  refine j_bipush (pc := 6) 9 C dX1_makePlain_6 (by decide) ?_
  refine j_callI0 (pc := 8) C (rL_put C dX1_makePlain_8 q_164 (by omega) (Nat.le_of_ble_eq_true rfl) ⟨Nat.le_of_ble_eq_true rfl, Nat.le_of_ble_eq_true rfl⟩) ⟨Nat.le_of_ble_eq_true rfl, Nat.le_of_ble_eq_true rfl⟩ (fun r3 T2 => ?_)
  refine j_pop (pc := 11) C dX1_makePlain_11 rfl ?_
  refine j_aload_n (pc := 12) 0 C dX1_makePlain_12 rfl rfl ?_
  refine j_sipush (pc := 13) 1001 C dX1_makePlain_13 (by decide) ?_
  refine j_callI0 (pc := 16) C (rL_put C dX1_makePlain_16 q_164 (by omega) (Nat.le_of_ble_eq_true rfl) ⟨Nat.le_of_ble_eq_true rfl, Nat.le_of_ble_eq_true rfl⟩) ⟨Nat.le_of_ble_eq_true rfl, Nat.le_of_ble_eq_true rfl⟩ (fun r5 T4 => ?_)
  refine j_pop (pc := 19) C dX1_makePlain_19 rfl ?_
  refine j_aload_n (pc := 20) 0 C dX1_makePlain_20 rfl rfl ?_
  refine j_sipush (pc := 21) 2001 C dX1_makePlain_21 (by decide) ?_
  refine j_callI0 (pc := 24) C (rL_put C dX1_makePlain_24 q_164 (by omega) (Nat.le_of_ble_eq_true rfl) ⟨Nat.le_of_ble_eq_true rfl, Nat.le_of_ble_eq_true rfl⟩) ⟨Nat.le_of_ble_eq_true rfl, Nat.le_of_ble_eq_true rfl⟩ (fun r7 T6 => ?_)
  refine j_pop (pc := 27) C dX1_makePlain_27 rfl ?_
  exact j_vret C dX1_makePlain_28 rfl (Nat.le_of_ble_eq_true rfl) (Nat.le_of_ble_eq_true rfl)
theorem cL_makePlain {l : Launch} {G : Gc} (hfl : l.stackTraces = false) (hW : Wok G wL 4)    (S : St) : Ct l yX1_makePlain (Cond.code yX1_makePlain cX1_makePlain 1 none :: tblG) 2 0 0 G wL 4 [.ref (gA G 0)] S (fL_makePlain  S) := ct_of (own := RX1) hfl (by decide +kernel) rfl hW (Nat.le_of_ble_eq_true rfl) (fun E hE C => by subst hE; exact bL_makePlain C    S)
theorem rL_makePlain {E : Ec} {G : Gc} {nL mc ms : Nat} {own : String} {cc : ByteArray} {L : Nat} {ret : Option FieldType} {k n pc ix : Nat} {loc : List (Nat × Value)} {rest : List Value}   {S : St}  (C : JC E (VL G nL mc ms own) cc L ret) (hd : decode cc pc = .ok (.invokevirtual ix, 3)) (hq : Cond.methodLink own ix yX1_makePlain ∈ tblG) (hL : 2 + 1 ≤ L) (hW : (rest.map fun v => v.category).sum ≤ 8) (hf : k + 0 ≤ mc ∧ n + 0 ≤ ms) : Rn E (VL G nL mc ms own) k n 0 0 pc loc (.ref (gA G 0) :: rest) rest S (fL_makePlain  S) := rn_V (ci := 1) 0 (V := VL G nL mc ms own) (As := []) (Cq := (RX1, TX1, 4)) (cL_makePlain C.flags C.wok   S) knX1_makePlain ⟨q_166, q_167⟩ rfl rfl C hd hq hL rfl rfl hW hf

