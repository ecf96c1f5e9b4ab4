/-! the start: what the tables and the Statement give -/
theorem str_of {args : Array Value} {s : State} {tm : Term} {byt : List Int32} {A : Nat → Prop} (hN : byt.length < 2 ^ 31) (hex : (Cond.exactly tm "java/lang/String").before args s = true) (hco : (Cond.eq (.field tm "java/lang/String" "coder" "B") (.int 0)).before args s = true)
    (har : (Cond.arrayOf (.field tm "java/lang/String" "value" "[B") .byte).before args s = true) (hle : (Cond.eq (.length (.field tm "java/lang/String" "value" "[B")) (.int (Int32.ofNat byt.length))).before args s = true)
    (hel : ∀ j : Nat, j < byt.length → (Cond.eq (.elem (.field tm "java/lang/String" "value" "[B") (.int (Int32.ofNat j))) (.int (byt.getD j 0))).before args s = true) (hA : ∀ a : Nat, a < s.heap.size → ¬ A a) :
    ∃ q : Nat × Nat, tm.eval args s none [] s = some (.ref q.1) ∧ va_O "java/lang/String" q.1 A s s.heap ∧ va_OF "java/lang/String" "coder" "B" (.int 0) q.1 A s s.heap ∧ va_OF "java/lang/String" "value" "[B" (.ref q.2) q.1 A s s.heap ∧ va_T .byte q.2 byt.length (fun j => .int (byt.getD j 0)) A s s.heap := by
  obtain ⟨a, c, cA, kA, q1, q2, q3, q4, q5, q6, -⟩ := Cond.exactly_spec (args := args) (first := s) (o := none) (s := s) (idx := []) (t := tm) (cls := "java/lang/String") hex
  obtain ⟨t, ht, hT⟩ := va_Tof (f := fun j => .int (byt.getD j 0)) (A := A) hN har (va_eqt hle) (fun j hj => va_eqt (hel j hj)) hA
  exact ⟨(a, t), q1, ⟨cA, q3, q5, by rw [q6]; exact q2, hA a (Array.getElem?_eq_some_iff.mp q3).1⟩, vk_OFof q1 (va_eqt hco) hA, vk_OFof q1 ht hA, hT⟩
def skC (q : String × Nat × String × List Int32) : List Cond := [Cond.exactly (.string q.1 q.2.1) "java/lang/String", Cond.eq (.field (.string q.1 q.2.1) "java/lang/String" "coder" "B") (.int 0), Cond.arrayOf (.field (.string q.1 q.2.1) "java/lang/String" "value" "[B") .byte, Cond.eq (.length (.field (.string q.1 q.2.1) "java/lang/String" "value" "[B")) (.int (Int32.ofNat q.2.2.2.length))] ++ (List.range q.2.2.2.length).map (fun j => Cond.eq (.elem (.field (.string q.1 q.2.1) "java/lang/String" "value" "[B") (.int (Int32.ofNat j))) (.int (q.2.2.2.getD j 0)))
def flatN : List Cond := flatC (Jvm.Cond.and given_1 narrow_1)
theorem sk_of {q : String × Nat × String × List Int32} (o n : Nat) (h : (flatN.drop o).take n = skC q) : ∀ w ∈ skC q, w ∈ flatN := fun w hw => List.mem_of_mem_drop (List.mem_of_mem_take (by rw [h]; exact hw))
theorem tb_of {w : Cond} (i : Nat) (h : lw_tbl[i]? = some w) : w ∈ lw_tbl := List.mem_of_getElem? h
theorem sk_i0 : ∀ w ∈ skC ("PaidByHeart", 382, "an argument that is none such", [97, 110, 32, 97, 114, 103, 117, 109, 101, 110, 116, 32, 116, 104, 97, 116, 32, 105, 115, 32, 110, 111, 110, 101, 32, 115, 117, 99, 104]), w ∈ flatN := sk_of 35 33 (by decide +kernel)
theorem sk_r0 : Cond.stringRef "PaidByHeart" 382 "an argument that is none such" ∈ lw_tbl := tb_of 588 (by decide +kernel)
theorem sk_i1 : ∀ w ∈ skC ("PaidByHeart$Valley", 70, "poem", [112, 111, 101, 109]), w ∈ flatN := sk_of 68 8 (by decide +kernel)
theorem sk_r1 : Cond.stringRef "PaidByHeart$Valley" 70 "poem" ∈ lw_tbl := tb_of 639 (by decide +kernel)
theorem sk_i2 : ∀ w ∈ skC ("PaidByHeart$Valley", 84, "man", [109, 97, 110]), w ∈ flatN := sk_of 76 7 (by decide +kernel)
theorem sk_r2 : Cond.stringRef "PaidByHeart$Valley" 84 "man" ∈ lw_tbl := tb_of 708 (by decide +kernel)
theorem sk_i3 : ∀ w ∈ skC ("PaidByHeart$Valley", 89, "debt", [100, 101, 98, 116]), w ∈ flatN := sk_of 83 8 (by decide +kernel)
theorem sk_r3 : Cond.stringRef "PaidByHeart$Valley" 89 "debt" ∈ lw_tbl := tb_of 713 (by decide +kernel)
theorem sk_i4 : ∀ w ∈ skC ("PaidByHeart$Valley", 94, "fade", [102, 97, 100, 101]), w ∈ flatN := sk_of 91 8 (by decide +kernel)
theorem sk_r4 : Cond.stringRef "PaidByHeart$Valley" 94 "fade" ∈ lw_tbl := tb_of 718 (by decide +kernel)
theorem sk_i5 : ∀ w ∈ skC ("PaidByHeart$Law", 84, "least", [108, 101, 97, 115, 116]), w ∈ flatN := sk_of 99 9 (by decide +kernel)
theorem sk_r5 : Cond.stringRef "PaidByHeart$Law" 84 "least" ∈ lw_tbl := tb_of 780 (by decide +kernel)
theorem sk_i6 : ∀ w ∈ skC ("PaidByHeart$Law", 94, "most", [109, 111, 115, 116]), w ∈ flatN := sk_of 108 8 (by decide +kernel)
theorem sk_r6 : Cond.stringRef "PaidByHeart$Law" 94 "most" ∈ lw_tbl := tb_of 787 (by decide +kernel)
theorem sk_i7 : ∀ w ∈ skC ("PaidByHeart$Law", 103, "lines", [108, 105, 110, 101, 115]), w ∈ flatN := sk_of 116 9 (by decide +kernel)
theorem sk_r7 : Cond.stringRef "PaidByHeart$Law" 103 "lines" ∈ lw_tbl := tb_of 791 (by decide +kernel)
theorem sk_i8 : ∀ w ∈ skC ("PaidByHeart$Law", 105, "hard", [104, 97, 114, 100]), w ∈ flatN := sk_of 125 8 (by decide +kernel)
theorem sk_r8 : Cond.stringRef "PaidByHeart$Law" 105 "hard" ∈ lw_tbl := tb_of 792 (by decide +kernel)
theorem sk_i9 : ∀ w ∈ skC ("PaidByHeart$Law", 107, "known", [107, 110, 111, 119, 110]), w ∈ flatN := sk_of 133 9 (by decide +kernel)
theorem sk_r9 : Cond.stringRef "PaidByHeart$Law" 107 "known" ∈ lw_tbl := tb_of 793 (by decide +kernel)
theorem sk_i10 : ∀ w ∈ skC ("PaidByHeart$Law", 109, "room", [114, 111, 111, 109]), w ∈ flatN := sk_of 142 8 (by decide +kernel)
theorem sk_r10 : Cond.stringRef "PaidByHeart$Law" 109 "room" ∈ lw_tbl := tb_of 794 (by decide +kernel)
theorem sk_i11 : ∀ w ∈ skC ("PaidByHeart$Law", 111, "age", [97, 103, 101]), w ∈ flatN := sk_of 150 7 (by decide +kernel)
theorem sk_r11 : Cond.stringRef "PaidByHeart$Law" 111 "age" ∈ lw_tbl := tb_of 795 (by decide +kernel)
theorem sk_i12 : ∀ w ∈ skC ("PaidByHeart$Law", 113, "lessons", [108, 101, 115, 115, 111, 110, 115]), w ∈ flatN := sk_of 157 11 (by decide +kernel)
theorem sk_r12 : Cond.stringRef "PaidByHeart$Law" 113 "lessons" ∈ lw_tbl := tb_of 796 (by decide +kernel)
theorem sk_i13 : ∀ w ∈ skC ("PaidByHeart$Law", 115, "week", [119, 101, 101, 107]), w ∈ flatN := sk_of 168 8 (by decide +kernel)
theorem sk_r13 : Cond.stringRef "PaidByHeart$Law" 115 "week" ∈ lw_tbl := tb_of 797 (by decide +kernel)
theorem sk_i14 : ∀ w ∈ skC ("PaidByHeart$Law", 117, "man", [109, 97, 110]), w ∈ flatN := sk_of 176 7 (by decide +kernel)
theorem sk_r14 : Cond.stringRef "PaidByHeart$Law" 117 "man" ∈ lw_tbl := tb_of 798 (by decide +kernel)
theorem sk_i15 : ∀ w ∈ skC ("PaidByHeart$Work", 55, "learn", [108, 101, 97, 114, 110]), w ∈ flatN := sk_of 184 9 (by decide +kernel)
theorem sk_r15 : Cond.stringRef "PaidByHeart$Work" 55 "learn" ∈ lw_tbl := tb_of 831 (by decide +kernel)
theorem sk_i16 : ∀ w ∈ skC ("PaidByHeart$Work", 73, "forget", [102, 111, 114, 103, 101, 116]), w ∈ flatN := sk_of 193 10 (by decide +kernel)
theorem sk_r16 : Cond.stringRef "PaidByHeart$Work" 73 "forget" ∈ lw_tbl := tb_of 842 (by decide +kernel)
theorem sk_i17 : ∀ w ∈ skC ("PaidByHeart$Work", 75, "say", [115, 97, 121]), w ∈ flatN := sk_of 203 7 (by decide +kernel)
theorem sk_r17 : Cond.stringRef "PaidByHeart$Work" 75 "say" ∈ lw_tbl := tb_of 843 (by decide +kernel)
theorem sk_i18 : ∀ w ∈ skC ("PaidByHeart$Work", 91, "duet", [100, 117, 101, 116]), w ∈ flatN := sk_of 210 8 (by decide +kernel)
theorem sk_r18 : Cond.stringRef "PaidByHeart$Work" 91 "duet" ∈ lw_tbl := tb_of 844 (by decide +kernel)
theorem sk_i19 : ∀ w ∈ skC ("PaidByHeart$Work", 93, "week", [119, 101, 101, 107]), w ∈ flatN := sk_of 218 8 (by decide +kernel)
theorem sk_r19 : Cond.stringRef "PaidByHeart$Work" 93 "week" ∈ lw_tbl := tb_of 845 (by decide +kernel)
theorem sk_i20 : ∀ w ∈ skC ("PaidByHeart$Work", 95, "again", [97, 103, 97, 105, 110]), w ∈ flatN := sk_of 227 9 (by decide +kernel)
theorem sk_r20 : Cond.stringRef "PaidByHeart$Work" 95 "again" ∈ lw_tbl := tb_of 846 (by decide +kernel)
theorem sk_i21 : ∀ w ∈ skC ("PaidByHeart", 392, "no such poem, man or debt", [110, 111, 32, 115, 117, 99, 104, 32, 112, 111, 101, 109, 44, 32, 109, 97, 110, 32, 111, 114, 32, 100, 101, 98, 116]), w ∈ flatN := sk_of 236 29 (by decide +kernel)
theorem sk_r21 : Cond.stringRef "PaidByHeart" 392 "no such poem, man or debt" ∈ lw_tbl := tb_of 1041 (by decide +kernel)
theorem sk_i22 : ∀ w ∈ skC ("PaidByHeartModel", 188, "poem", [112, 111, 101, 109]), w ∈ flatN := sk_of 265 8 (by decide +kernel)
theorem sk_r22 : Cond.stringRef "PaidByHeartModel" 188 "poem" ∈ lw_tbl := tb_of 1610 (by decide +kernel)
theorem sk_i23 : ∀ w ∈ skC ("PaidByHeartModel", 193, "man", [109, 97, 110]), w ∈ flatN := sk_of 274 7 (by decide +kernel)
theorem sk_r23 : Cond.stringRef "PaidByHeartModel" 193 "man" ∈ lw_tbl := tb_of 1616 (by decide +kernel)
theorem sk_i24 : ∀ w ∈ skC ("PaidByHeartModel", 194, "debt", [100, 101, 98, 116]), w ∈ flatN := sk_of 283 8 (by decide +kernel)
theorem sk_r24 : Cond.stringRef "PaidByHeartModel" 194 "debt" ∈ lw_tbl := tb_of 1617 (by decide +kernel)
theorem sk_i25 : ∀ w ∈ skC ("PaidByHeartModel", 195, "fade", [102, 97, 100, 101]), w ∈ flatN := sk_of 292 8 (by decide +kernel)
theorem sk_r25 : Cond.stringRef "PaidByHeartModel" 195 "fade" ∈ lw_tbl := tb_of 1618 (by decide +kernel)
theorem sk_i26 : ∀ w ∈ skC ("PaidByHeartModel", 269, "least", [108, 101, 97, 115, 116]), w ∈ flatN := sk_of 301 9 (by decide +kernel)
theorem sk_r26 : Cond.stringRef "PaidByHeartModel" 269 "least" ∈ lw_tbl := tb_of 1674 (by decide +kernel)
theorem sk_i27 : ∀ w ∈ skC ("PaidByHeartModel", 274, "most", [109, 111, 115, 116]), w ∈ flatN := sk_of 311 8 (by decide +kernel)
theorem sk_r27 : Cond.stringRef "PaidByHeartModel" 274 "most" ∈ lw_tbl := tb_of 1679 (by decide +kernel)
theorem sk_i28 : ∀ w ∈ skC ("PaidByHeartModel", 251, "lessons", [108, 101, 115, 115, 111, 110, 115]), w ∈ flatN := sk_of 320 11 (by decide +kernel)
theorem sk_r28 : Cond.stringRef "PaidByHeartModel" 251 "lessons" ∈ lw_tbl := tb_of 1684 (by decide +kernel)
theorem sk_i29 : ∀ w ∈ skC ("PaidByHeartModel", 257, "lines", [108, 105, 110, 101, 115]), w ∈ flatN := sk_of 332 9 (by decide +kernel)
theorem sk_r29 : Cond.stringRef "PaidByHeartModel" 257 "lines" ∈ lw_tbl := tb_of 1689 (by decide +kernel)
theorem sk_i30 : ∀ w ∈ skC ("PaidByHeartModel", 259, "hard", [104, 97, 114, 100]), w ∈ flatN := sk_of 342 8 (by decide +kernel)
theorem sk_r30 : Cond.stringRef "PaidByHeartModel" 259 "hard" ∈ lw_tbl := tb_of 1690 (by decide +kernel)
theorem sk_i31 : ∀ w ∈ skC ("PaidByHeartModel", 261, "known", [107, 110, 111, 119, 110]), w ∈ flatN := sk_of 351 9 (by decide +kernel)
theorem sk_r31 : Cond.stringRef "PaidByHeartModel" 261 "known" ∈ lw_tbl := tb_of 1691 (by decide +kernel)
theorem sk_i32 : ∀ w ∈ skC ("PaidByHeartModel", 263, "room", [114, 111, 111, 109]), w ∈ flatN := sk_of 361 8 (by decide +kernel)
theorem sk_r32 : Cond.stringRef "PaidByHeartModel" 263 "room" ∈ lw_tbl := tb_of 1692 (by decide +kernel)
theorem sk_i33 : ∀ w ∈ skC ("PaidByHeartModel", 265, "age", [97, 103, 101]), w ∈ flatN := sk_of 370 7 (by decide +kernel)
theorem sk_r33 : Cond.stringRef "PaidByHeartModel" 265 "age" ∈ lw_tbl := tb_of 1693 (by decide +kernel)
theorem sk_i34 : ∀ w ∈ skC ("PaidByHeartModel", 267, "week", [119, 101, 101, 107]), w ∈ flatN := sk_of 378 8 (by decide +kernel)
theorem sk_r34 : Cond.stringRef "PaidByHeartModel" 267 "week" ∈ lw_tbl := tb_of 1694 (by decide +kernel)
theorem sk_i35 : ∀ w ∈ skC ("PaidByHeartModel", 289, "learn", [108, 101, 97, 114, 110]), w ∈ flatN := sk_of 388 9 (by decide +kernel)
theorem sk_r35 : Cond.stringRef "PaidByHeartModel" 289 "learn" ∈ lw_tbl := tb_of 1706 (by decide +kernel)
theorem sk_i36 : ∀ w ∈ skC ("PaidByHeartModel", 291, "forget", [102, 111, 114, 103, 101, 116]), w ∈ flatN := sk_of 398 10 (by decide +kernel)
theorem sk_r36 : Cond.stringRef "PaidByHeartModel" 291 "forget" ∈ lw_tbl := tb_of 1707 (by decide +kernel)
theorem sk_i37 : ∀ w ∈ skC ("PaidByHeartModel", 293, "say", [115, 97, 121]), w ∈ flatN := sk_of 409 7 (by decide +kernel)
theorem sk_r37 : Cond.stringRef "PaidByHeartModel" 293 "say" ∈ lw_tbl := tb_of 1708 (by decide +kernel)
theorem sk_i38 : ∀ w ∈ skC ("PaidByHeartModel", 295, "duet", [100, 117, 101, 116]), w ∈ flatN := sk_of 417 8 (by decide +kernel)
theorem sk_r38 : Cond.stringRef "PaidByHeartModel" 295 "duet" ∈ lw_tbl := tb_of 1709 (by decide +kernel)
theorem sk_i39 : ∀ w ∈ skC ("PaidByHeartModel", 297, "again", [97, 103, 97, 105, 110]), w ∈ flatN := sk_of 426 9 (by decide +kernel)
theorem sk_r39 : Cond.stringRef "PaidByHeartModel" 297 "again" ∈ lw_tbl := tb_of 1710 (by decide +kernel)
theorem sk_in : ∀ q ∈ skT, ∀ w ∈ skC q, w ∈ flatN := List.forall_mem_cons.mpr ⟨sk_i0, List.forall_mem_cons.mpr ⟨sk_i1, List.forall_mem_cons.mpr ⟨sk_i2, List.forall_mem_cons.mpr ⟨sk_i3, List.forall_mem_cons.mpr ⟨sk_i4, List.forall_mem_cons.mpr ⟨sk_i5, List.forall_mem_cons.mpr ⟨sk_i6, List.forall_mem_cons.mpr ⟨sk_i7, List.forall_mem_cons.mpr ⟨sk_i8, List.forall_mem_cons.mpr ⟨sk_i9, List.forall_mem_cons.mpr ⟨sk_i10, List.forall_mem_cons.mpr ⟨sk_i11, List.forall_mem_cons.mpr ⟨sk_i12, List.forall_mem_cons.mpr ⟨sk_i13, List.forall_mem_cons.mpr ⟨sk_i14, List.forall_mem_cons.mpr ⟨sk_i15, List.forall_mem_cons.mpr ⟨sk_i16, List.forall_mem_cons.mpr ⟨sk_i17, List.forall_mem_cons.mpr ⟨sk_i18, List.forall_mem_cons.mpr ⟨sk_i19, List.forall_mem_cons.mpr ⟨sk_i20, List.forall_mem_cons.mpr ⟨sk_i21, List.forall_mem_cons.mpr ⟨sk_i22, List.forall_mem_cons.mpr ⟨sk_i23, List.forall_mem_cons.mpr ⟨sk_i24, List.forall_mem_cons.mpr ⟨sk_i25, List.forall_mem_cons.mpr ⟨sk_i26, List.forall_mem_cons.mpr ⟨sk_i27, List.forall_mem_cons.mpr ⟨sk_i28, List.forall_mem_cons.mpr ⟨sk_i29, List.forall_mem_cons.mpr ⟨sk_i30, List.forall_mem_cons.mpr ⟨sk_i31, List.forall_mem_cons.mpr ⟨sk_i32, List.forall_mem_cons.mpr ⟨sk_i33, List.forall_mem_cons.mpr ⟨sk_i34, List.forall_mem_cons.mpr ⟨sk_i35, List.forall_mem_cons.mpr ⟨sk_i36, List.forall_mem_cons.mpr ⟨sk_i37, List.forall_mem_cons.mpr ⟨sk_i38, List.forall_mem_cons.mpr ⟨sk_i39, fun _ h => absurd h List.not_mem_nil⟩⟩⟩⟩⟩⟩⟩⟩⟩⟩⟩⟩⟩⟩⟩⟩⟩⟩⟩⟩⟩⟩⟩⟩⟩⟩⟩⟩⟩⟩⟩⟩⟩⟩⟩⟩⟩⟩⟩⟩
theorem sk_ref : ∀ q ∈ skT, Cond.stringRef q.1 q.2.1 q.2.2.1 ∈ lw_tbl := List.forall_mem_cons.mpr ⟨sk_r0, List.forall_mem_cons.mpr ⟨sk_r1, List.forall_mem_cons.mpr ⟨sk_r2, List.forall_mem_cons.mpr ⟨sk_r3, List.forall_mem_cons.mpr ⟨sk_r4, List.forall_mem_cons.mpr ⟨sk_r5, List.forall_mem_cons.mpr ⟨sk_r6, List.forall_mem_cons.mpr ⟨sk_r7, List.forall_mem_cons.mpr ⟨sk_r8, List.forall_mem_cons.mpr ⟨sk_r9, List.forall_mem_cons.mpr ⟨sk_r10, List.forall_mem_cons.mpr ⟨sk_r11, List.forall_mem_cons.mpr ⟨sk_r12, List.forall_mem_cons.mpr ⟨sk_r13, List.forall_mem_cons.mpr ⟨sk_r14, List.forall_mem_cons.mpr ⟨sk_r15, List.forall_mem_cons.mpr ⟨sk_r16, List.forall_mem_cons.mpr ⟨sk_r17, List.forall_mem_cons.mpr ⟨sk_r18, List.forall_mem_cons.mpr ⟨sk_r19, List.forall_mem_cons.mpr ⟨sk_r20, List.forall_mem_cons.mpr ⟨sk_r21, List.forall_mem_cons.mpr ⟨sk_r22, List.forall_mem_cons.mpr ⟨sk_r23, List.forall_mem_cons.mpr ⟨sk_r24, List.forall_mem_cons.mpr ⟨sk_r25, List.forall_mem_cons.mpr ⟨sk_r26, List.forall_mem_cons.mpr ⟨sk_r27, List.forall_mem_cons.mpr ⟨sk_r28, List.forall_mem_cons.mpr ⟨sk_r29, List.forall_mem_cons.mpr ⟨sk_r30, List.forall_mem_cons.mpr ⟨sk_r31, List.forall_mem_cons.mpr ⟨sk_r32, List.forall_mem_cons.mpr ⟨sk_r33, List.forall_mem_cons.mpr ⟨sk_r34, List.forall_mem_cons.mpr ⟨sk_r35, List.forall_mem_cons.mpr ⟨sk_r36, List.forall_mem_cons.mpr ⟨sk_r37, List.forall_mem_cons.mpr ⟨sk_r38, List.forall_mem_cons.mpr ⟨sk_r39, fun _ h => absurd h List.not_mem_nil⟩⟩⟩⟩⟩⟩⟩⟩⟩⟩⟩⟩⟩⟩⟩⟩⟩⟩⟩⟩⟩⟩⟩⟩⟩⟩⟩⟩⟩⟩⟩⟩⟩⟩⟩⟩⟩⟩⟩⟩
theorem sk_len : (skT.all fun q => decide (q.2.2.2.length < 2 ^ 31)) = true := by decide +kernel
theorem st_w0 : Cond.laysStatic "java/lang/String" "COMPACT_STRINGS" "Z" ∈ lw_tbl := tb_of 653 (by decide +kernel)
theorem st_w1 : Cond.initialized "java/lang/String" ∈ lw_tbl := tb_of 126 (by decide +kernel)
theorem st_w2 : Cond.eq (.static "java/lang/String" "COMPACT_STRINGS" "Z") (.int 1) ∈ flatN := List.mem_of_getElem? (i := 6) (by decide +kernel)
theorem st_w3 : Cond.laysStatic "jdk/internal/util/Preconditions" "SIOOBE_FORMATTER" "Ljava/util/function/BiFunction;" ∈ lw_tbl := tb_of 669 (by decide +kernel)
theorem st_w4 : Cond.initialized "jdk/internal/util/Preconditions" ∈ lw_tbl := tb_of 128 (by decide +kernel)
theorem st_w5 : Cond.isRef (.static "jdk/internal/util/Preconditions" "SIOOBE_FORMATTER" "Ljava/util/function/BiFunction;") ∈ flatN := List.mem_of_getElem? (i := 7) (by decide +kernel)
theorem st_w6 : Cond.laysStatic Bundle.tN "UNASSIGNED_STACK" Bundle.steD ∈ lw_tbl := tb_of 575 (by decide +kernel)
theorem st_w7 : Cond.initialized Bundle.tN ∈ lw_tbl := tb_of 122 (by decide +kernel)
theorem st_w8 : Cond.isRef (.static Bundle.tN "UNASSIGNED_STACK" Bundle.steD) ∈ flatN := List.mem_of_getElem? (i := 4) (by decide +kernel)
theorem st_w9 : Cond.laysStatic Bundle.tN "SUPPRESSED_SENTINEL" Bundle.listD ∈ lw_tbl := tb_of 577 (by decide +kernel)
theorem st_w10 : Cond.isRef (.static Bundle.tN "SUPPRESSED_SENTINEL" Bundle.listD) ∈ flatN := List.mem_of_getElem? (i := 5) (by decide +kernel)
theorem st_x0 : Cond.declares (Bundle.initS "java/lang/RuntimeException") ∈ lw_tbl := tb_of 552 (by decide +kernel)
theorem st_x1 : Cond.declares (Bundle.initS "java/lang/Exception") ∈ lw_tbl := tb_of 554 (by decide +kernel)
theorem st_x2 : Cond.declares (Bundle.initS Bundle.tN) ∈ lw_tbl := tb_of 556 (by decide +kernel)
theorem st_w11 : ∀ y ∈ xDecl, Cond.declares y ∈ lw_tbl := List.forall_mem_cons.mpr ⟨st_x0, List.forall_mem_cons.mpr ⟨st_x1, List.forall_mem_cons.mpr ⟨st_x2, fun _ h => absurd h List.not_mem_nil⟩⟩⟩
theorem st_w12 : Cond.not (.castable "java/lang/IllegalArgumentException" "java/util/NoSuchElementException") ∈ flatN := List.mem_of_getElem? (i := 34) (by decide +kernel)
theorem st_n0 : Cond.methodLinkNest "PaidByHeart" 9 yX7_init "PaidByHeart" ∈ lw_tbl := tb_of 143 (by decide +kernel)
theorem st_n1 : Cond.methodLinkNest "PaidByHeart" 20 yX6_init "PaidByHeart" ∈ lw_tbl := tb_of 265 (by decide +kernel)
theorem st_n2 : Cond.methodLinkNest "PaidByHeart" 43 yX0_init "PaidByHeart" ∈ lw_tbl := tb_of 303 (by decide +kernel)
theorem st_n3 : Cond.methodLinkNest "PaidByHeart" 53 yX8_init "PaidByHeart" ∈ lw_tbl := tb_of 323 (by decide +kernel)
theorem st_n4 : Cond.methodLinkNest "PaidByHeart" 64 yX4_init "PaidByHeart" ∈ lw_tbl := tb_of 354 (by decide +kernel)
theorem st_d0 : Cond.methodLinkNest "PaidByHeart" 143 yX8_doSteps "PaidByHeart" ∈ lw_tbl := tb_of 857 (by decide +kernel)
theorem st_w13 : ∀ q ∈ nstL, Cond.methodLinkNest q.1 q.2.1 q.2.2.1 q.2.2.2 ∈ lw_tbl := List.forall_mem_cons.mpr ⟨st_n0, List.forall_mem_cons.mpr ⟨st_n1, List.forall_mem_cons.mpr ⟨st_n2, List.forall_mem_cons.mpr ⟨st_n3, List.forall_mem_cons.mpr ⟨st_n4, fun _ h => absurd h List.not_mem_nil⟩⟩⟩⟩⟩
theorem start_ex {args : Array Value} {s : State} {A : Nat → Prop} (hts : ∀ w ∈ lw_tbl, w.before args s = true) (hgv : (Jvm.Cond.and given_1 narrow_1).before args s = true) (hA : ∀ a : Nat, a < s.heap.size → ¬ A a) : ∃ ad : (Nat → Nat) × (Nat → Nat), ∀ (D : va_G) (cI cJ : ClassId) (f : Nat → Nat), ex (D, cI, cJ, f, ad) A s s.heap := by
  have hfl : ∀ w ∈ flatN, w.before args s = true := flat_of_before _ hgv
  have h0 : ∀ i : Nat, ∃ q : Nat × Nat, ∀ e, skT[i]? = some e → vk_R e.1 e.2.1 e.2.2.1 q.1 s ∧ va_O "java/lang/String" q.1 A s s.heap ∧ va_OF "java/lang/String" "coder" "B" (.int 0) q.1 A s s.heap ∧ va_OF "java/lang/String" "value" "[B" (.ref q.2) q.1 A s s.heap ∧ va_T .byte q.2 e.2.2.2.length (fun j => .int (e.2.2.2.getD j 0)) A s s.heap := by
    intro i
    cases hi : skT[i]? with
    | none => exact ⟨(0, 0), fun e h => by cases h⟩
    | some e =>
      have hm := List.mem_of_getElem? hi
      have hc : ∀ w ∈ skC e, w.before args s = true := fun w hw => hfl w (sk_in e hm w hw)
      obtain ⟨q, h1, h2, h3, h4, h5⟩ := str_of (tm := .string e.1 e.2.1) (byt := e.2.2.2) (A := A) (of_decide_eq_true (List.all_eq_true.mp sk_len e hm)) (hc _ (by simp [skC])) (hc _ (by simp [skC])) (hc _ (by simp [skC])) (hc _ (by simp [skC]))
        (fun j hj => hc _ (List.mem_append_right _ (List.mem_map.mpr ⟨j, List.mem_range.mpr hj, rfl⟩))) hA
      exact ⟨q, fun e2 h => by cases h; exact ⟨vk_R.of (hts _ (sk_ref e hm)) h1, h2, h3, h4, h5⟩⟩
  obtain ⟨ad, had⟩ := Classical.axiomOfChoice h0
  refine ⟨(fun i => (ad i).1, fun i => (ad i).2), fun D cI cJ f => ⟨fun i q hq => had i q hq, va_Zof (hts _ st_w0) (hts _ st_w1) (va_eqt (hfl _ st_w2)) hA, va_Zqof (hts _ st_w3) (hts _ st_w4) (hfl _ st_w5) hA, vx_Zqof (hts _ st_w6) (hts _ st_w7) (hfl _ st_w8) hA, vx_Zqof (hts _ st_w9) (hts _ st_w7) (hfl _ st_w10) hA, fun y hy => va_Nw.of rfl (hts _ (st_w11 y hy)), va_Nw.of rfl (hts _ st_d0)⟩⟩
theorem va_disj {A : Nat → Prop} {ws w1 w2 : va_W} (hD : va_D A ws) (is js : List Nat) (h1 : is.map (fun i => ws[i]?) = w1.map some) (h2 : js.map (fun i => ws[i]?) = w2.map some) (hd : ∀ i ∈ is, i ∉ js) : ∀ (i j : Nat) (p q : Nat × va_E), w1[i]? = some p → w2[j]? = some q → p.1 ≠ q.1 := by
  intro i j p q hp hq e
  have key : ∀ (ks : List Nat) (w : va_W), ks.map (fun i => ws[i]?) = w.map some → ∀ (i : Nat) (p : Nat × va_E), w[i]? = some p → ∃ k, k ∈ ks ∧ ws[k]? = some p := by
    intro ks w h i p hp
    have a1 : (ks.map (fun i => ws[i]?))[i]? = some (some p) := by rw [h, List.getElem?_map, hp]; rfl
    rw [List.getElem?_map] at a1
    cases hk : ks[i]? with
    | none => rw [hk] at a1; cases a1
    | some k => rw [hk] at a1; exact ⟨k, List.mem_of_getElem? hk, Option.some.inj a1⟩
  obtain ⟨i1, m1, e1⟩ := key is w1 h1 i p hp
  obtain ⟨j1, m2, e2⟩ := key js w2 h2 j q hq
  have := hD.1 i1 j1 p q e1 e2 e
  subst this
  exact hd _ m1 m2
theorem flags_ok {l : Launch} (h : l.flags = flags0) : l.stackTraces = false := by
  unfold Launch.stackTraces
  rw [h]
  decide +kernel
theorem arr_of {args : Array Value} {s : State} {ty : FieldType} (h : (Cond.arrayClass ty).before args s = true) : ∃ cA : ClassId, ArrOfT s cA ty ∧ s.vm.findClass ("[" ++ ty.toString) = some cA := by
  obtain ⟨cA, kA, comp, hfind, hk, hkind⟩ := Cond.arrayClass_spec h
  exact ⟨cA, fun n z => ⟨fun k h => (by cases h), kA, hk, comp, hkind⟩, hfind⟩
