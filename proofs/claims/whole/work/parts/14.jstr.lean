theorem knJ0_length_8abf5 : Kn yJ0_length_8abf5 cJ0_length_8abf5 1 (some .int) 0 := ⟨q_9, q_10, by decide +kernel, by decide⟩
theorem knJ0_coder_7d493 : Kn yJ0_coder_7d493 cJ0_coder_7d493 1 (some .byte) 0 := ⟨q_13, q_10, by decide +kernel, by decide⟩
theorem knJ0_charAt_5068e : Kn yJ0_charAt_5068e cJ0_charAt_5068e 2 (some .char) 1 := ⟨q_16, q_10, by decide +kernel, by decide⟩
theorem knJ0_isLatin1_aae02 : Kn yJ0_isLatin1_aae02 cJ0_isLatin1_aae02 1 (some .boolean) 0 := ⟨q_19, q_10, by decide +kernel, by decide⟩
theorem knJ0_checkIndex_df160 : Kn yJ0_checkIndex_df160 cJ0_checkIndex_df160 2 none 2 := ⟨q_22, q_10, by decide +kernel, by decide⟩
theorem knJ1_charAt_3b067 : Kn yJ1_charAt_3b067 cJ1_charAt_3b067 2 (some .char) 2 := ⟨q_24, q_25, by decide +kernel, by decide⟩
theorem knJ3_checkIndex_8e157 : Kn yJ3_checkIndex_8e157 cJ3_checkIndex_8e157 3 (some .int) 3 := ⟨q_27, q_28, by decide +kernel, by decide⟩
theorem dJ0_length_8abf5_0 : decode cJ0_length_8abf5 0 = .ok (.aload_n 0, 1) := by decide +kernel
theorem dJ0_length_8abf5_1 : decode cJ0_length_8abf5 1 = .ok (.getfield 9, 3) := by decide +kernel
theorem dJ0_length_8abf5_4 : decode cJ0_length_8abf5 4 = .ok (.arraylength, 1) := by decide +kernel
theorem dJ0_length_8abf5_5 : decode cJ0_length_8abf5 5 = .ok (.aload_n 0, 1) := by decide +kernel
theorem dJ0_length_8abf5_6 : decode cJ0_length_8abf5 6 = .ok (.invokevirtual 335, 3) := by decide +kernel
theorem dJ0_length_8abf5_9 : decode cJ0_length_8abf5 9 = .ok (.ishr, 1) := by decide +kernel
theorem dJ0_length_8abf5_10 : decode cJ0_length_8abf5 10 = .ok (.ireturn, 1) := by decide +kernel
theorem dJ0_coder_7d493_0 : decode cJ0_coder_7d493 0 = .ok (.getstatic 38, 3) := by decide +kernel
theorem dJ0_coder_7d493_3 : decode cJ0_coder_7d493 3 = .ok (.ifCond .eq 10, 3) := by decide +kernel
theorem dJ0_coder_7d493_6 : decode cJ0_coder_7d493 6 = .ok (.aload_n 0, 1) := by decide +kernel
theorem dJ0_coder_7d493_7 : decode cJ0_coder_7d493 7 = .ok (.getfield 15, 3) := by decide +kernel
theorem dJ0_coder_7d493_10 : decode cJ0_coder_7d493 10 = .ok (.goto 4, 3) := by decide +kernel
theorem dJ0_coder_7d493_14 : decode cJ0_coder_7d493 14 = .ok (.ireturn, 1) := by decide +kernel
theorem dJ0_charAt_5068e_0 : decode cJ0_charAt_5068e 0 = .ok (.aload_n 0, 1) := by decide +kernel
theorem dJ0_charAt_5068e_1 : decode cJ0_charAt_5068e 1 = .ok (.invokevirtual 492, 3) := by decide +kernel
theorem dJ0_charAt_5068e_4 : decode cJ0_charAt_5068e 4 = .ok (.ifCond .eq 12, 3) := by decide +kernel
theorem dJ0_charAt_5068e_7 : decode cJ0_charAt_5068e 7 = .ok (.aload_n 0, 1) := by decide +kernel
theorem dJ0_charAt_5068e_8 : decode cJ0_charAt_5068e 8 = .ok (.getfield 9, 3) := by decide +kernel
theorem dJ0_charAt_5068e_11 : decode cJ0_charAt_5068e 11 = .ok (.iload_n 1, 1) := by decide +kernel
theorem dJ0_charAt_5068e_12 : decode cJ0_charAt_5068e 12 = .ok (.invokestatic 495, 3) := by decide +kernel
theorem dJ0_charAt_5068e_15 : decode cJ0_charAt_5068e 15 = .ok (.ireturn, 1) := by decide +kernel
theorem dJ0_isLatin1_aae02_0 : decode cJ0_isLatin1_aae02 0 = .ok (.getstatic 38, 3) := by decide +kernel
theorem dJ0_isLatin1_aae02_3 : decode cJ0_isLatin1_aae02 3 = .ok (.ifCond .eq 14, 3) := by decide +kernel
theorem dJ0_isLatin1_aae02_6 : decode cJ0_isLatin1_aae02 6 = .ok (.aload_n 0, 1) := by decide +kernel
theorem dJ0_isLatin1_aae02_7 : decode cJ0_isLatin1_aae02 7 = .ok (.getfield 15, 3) := by decide +kernel
theorem dJ0_isLatin1_aae02_10 : decode cJ0_isLatin1_aae02 10 = .ok (.ifCond .ne 7, 3) := by decide +kernel
theorem dJ0_isLatin1_aae02_13 : decode cJ0_isLatin1_aae02 13 = .ok (.iconst 1, 1) := by decide +kernel
theorem dJ0_isLatin1_aae02_14 : decode cJ0_isLatin1_aae02 14 = .ok (.goto 4, 3) := by decide +kernel
theorem dJ0_isLatin1_aae02_18 : decode cJ0_isLatin1_aae02 18 = .ok (.ireturn, 1) := by decide +kernel
theorem dJ0_checkIndex_df160_0 : decode cJ0_checkIndex_df160 0 = .ok (.iload_n 0, 1) := by decide +kernel
theorem dJ0_checkIndex_df160_1 : decode cJ0_checkIndex_df160 1 = .ok (.iload_n 1, 1) := by decide +kernel
theorem dJ0_checkIndex_df160_2 : decode cJ0_checkIndex_df160 2 = .ok (.getstatic 1053, 3) := by decide +kernel
theorem dJ0_checkIndex_df160_5 : decode cJ0_checkIndex_df160 5 = .ok (.invokestatic 1059, 3) := by decide +kernel
theorem dJ0_checkIndex_df160_8 : decode cJ0_checkIndex_df160 8 = .ok (.pop, 1) := by decide +kernel
theorem dJ0_checkIndex_df160_9 : decode cJ0_checkIndex_df160 9 = .ok (.return_, 1) := by decide +kernel
theorem dJ1_charAt_3b067_0 : decode cJ1_charAt_3b067 0 = .ok (.iload_n 1, 1) := by decide +kernel
theorem dJ1_charAt_3b067_1 : decode cJ1_charAt_3b067 1 = .ok (.aload_n 0, 1) := by decide +kernel
theorem dJ1_charAt_3b067_2 : decode cJ1_charAt_3b067 2 = .ok (.arraylength, 1) := by decide +kernel
theorem dJ1_charAt_3b067_3 : decode cJ1_charAt_3b067 3 = .ok (.invokestatic 9, 3) := by decide +kernel
theorem dJ1_charAt_3b067_6 : decode cJ1_charAt_3b067 6 = .ok (.aload_n 0, 1) := by decide +kernel
theorem dJ1_charAt_3b067_7 : decode cJ1_charAt_3b067 7 = .ok (.iload_n 1, 1) := by decide +kernel
theorem dJ1_charAt_3b067_8 : decode cJ1_charAt_3b067 8 = .ok (.baload, 1) := by decide +kernel
theorem dJ1_charAt_3b067_9 : decode cJ1_charAt_3b067 9 = .ok (.sipush 255, 3) := by decide +kernel
theorem dJ1_charAt_3b067_12 : decode cJ1_charAt_3b067 12 = .ok (.iand, 1) := by decide +kernel
theorem dJ1_charAt_3b067_13 : decode cJ1_charAt_3b067 13 = .ok (.i2c, 1) := by decide +kernel
theorem dJ1_charAt_3b067_14 : decode cJ1_charAt_3b067 14 = .ok (.ireturn, 1) := by decide +kernel
theorem dJ3_checkIndex_8e157_0 : decode cJ3_checkIndex_8e157 0 = .ok (.iload_n 0, 1) := by decide +kernel
theorem dJ3_checkIndex_8e157_1 : decode cJ3_checkIndex_8e157 1 = .ok (.ifCond .lt 8, 3) := by decide +kernel
theorem dJ3_checkIndex_8e157_4 : decode cJ3_checkIndex_8e157 4 = .ok (.iload_n 0, 1) := by decide +kernel
theorem dJ3_checkIndex_8e157_5 : decode cJ3_checkIndex_8e157 5 = .ok (.iload_n 1, 1) := by decide +kernel
theorem dJ3_checkIndex_8e157_6 : decode cJ3_checkIndex_8e157 6 = .ok (.if_icmp .lt 10, 3) := by decide +kernel
theorem dJ3_checkIndex_8e157_16 : decode cJ3_checkIndex_8e157 16 = .ok (.iload_n 0, 1) := by decide +kernel
theorem dJ3_checkIndex_8e157_17 : decode cJ3_checkIndex_8e157 17 = .ok (.ireturn, 1) := by decide +kernel
section JSTR
variable {E : Ec} {V : Vc} {cc : ByteArray} {L : Nat} {ret : Option FieldType} {k n pc ix : Nat} {loc : List (Nat × Value)} {st : List Value} {S : St} {o : Oz}
/-- rows for the cells of string constants, which never change -/
theorem ex_at {G : Gc} {A : Nat → Prop} {U : State} {H : Heap} (h : ex G A U H) {si : Nat} (hs : si < 40) : va_O "java/lang/String" (gK G si) A U H ∧ va_OF "java/lang/String" "coder" "B" (.int 0) (gK G si) A U H ∧ va_OF "java/lang/String" "value" "[B" (.ref (G.2.2.2.2.2 si)) (gK G si) A U H ∧ va_T .byte (G.2.2.2.2.2 si) (skN si) (fun j => .int ((skBs si).getD j 0)) A U H := by
  have hl : si < skT.length := hs
  have h1 := (h.1 si _ (List.getElem?_eq_getElem hl)).2
  have e : skT[si] = skT.getD si ("", 0, "", []) := by simp [List.getD_eq_getElem?_getD, List.getElem?_eq_getElem hl]
  rw [e] at h1
  exact h1
theorem j_getO {o9 nm d : String} {q : Nat} {v : Value} (C : JC E V cc L ret) (hE : va_OF o9 nm d v q (vA E V) (eS E) (eS E).heap) (hd : decode cc pc = .ok (.getfield ix, 3)) (hq : Cond.fieldLink V.2.2.2.2.2.2 ix o9 nm d ∈ tblG) (kk : J E V k n (pc + 3) loc (v :: st) S o) : J E V k n pc loc (.ref q :: st) S o := fun r S' ho ls H locs hl hP hS =>
  vk_getf C.1 C.2.1 hE hS C.2.2.2.1 (C.2.2.2.2.1 _ hq) (fun _ h => h) hd (kk r S' ho ls H locs hl hP hS)
theorem j_getSt {o9 nm d : String} {v : Value} (C : JC E V cc L ret) (hE : va_Z o9 nm d v (vA E V) (eS E) (eS E).heap) (hd : decode cc pc = .ok (.getstatic ix, 3)) (hq : Cond.fieldLink V.2.2.2.2.2.2 ix o9 nm d ∈ tblG) (kk : J E V k n (pc + 3) loc (v :: st) S o) : J E V k n pc loc st S o := fun r S' ho ls H locs hl hP hS =>
  va_gets C.1 C.2.1 hE hS C.2.2.2.1 (C.2.2.2.2.1 _ hq) (fun _ h => h) hd (kk r S' ho ls H locs hl hP hS)
theorem j_alenT {ty : FieldType} {t m : Nat} {f : Nat → Value} (C : JC E V cc L ret) (hT : va_T ty t m f (vA E V) (eS E) (eS E).heap) (hd : decode cc pc = .ok (.arraylength, 1)) (kk : J E V k n (pc + 1) loc (.int (nI m) :: st) S o) : J E V k n pc loc (.ref t :: st) S o := fun r S' ho ls H locs hl hP hS =>
  va_tlen C.1 C.2.1 hT hS rfl hd (kk r S' ho ls H locs hl hP hS)
theorem j_baldT {t m : Nat} {f : Nat → Int32} {i : Int32} (C : JC E V cc L ret) (hT : va_T .byte t m (fun j => .int (f j)) (vA E V) (eS E) (eS E).heap) (hg : ib i m = true) (hd : decode cc pc = .ok (.baload, 1)) (kk : J E V k n (pc + 1) loc (.int (f i.toNatClampNeg) :: st) S o) : J E V k n pc loc (.int i :: .ref t :: st) S o := fun r S' ho ls H locs hl hP hS =>
  va_tb C.1 C.2.1 hT hS (ib_in hg) rfl hd (kk r S' ho ls H locs hl hP hS)
theorem j_i2c {x v : Int32} (C : JC E V cc L ret) (hd : decode cc pc = .ok (.i2c, 1)) (hv : (x.toUInt32 % 65536).toInt32 = v) (kk : J E V k n (pc + 1) loc (.int v :: st) S o) : J E V k n pc loc (.int x :: st) S o := fun r S' ho ls H locs hl hP hS =>
  lv_i2c C.1 C.2.1 hd hv (kk r S' ho ls H locs hl hP hS)
theorem j_nret {v : Int32} {ty : FieldType} (C : JC E V cc L ret) (hd : decode cc pc = .ok (.ireturn, 1)) (hr : ret = some ty) (hn : narrow ty (.int v) = .int v) (h1 : k ≤ V.2.2.2.2.1) (h2 : n ≤ V.2.2.2.2.2.1) : J E V k n pc loc [.int v] S (some (rI v, S)) := by
  intro r S' ho ls H locs hl hP hS
  cases ho
  exact W.widen h1 h2 (vx_ret (W.zret (ty := ty) C.1 C.2.1 (C.rty.trans hr) hn (fun t ht hW => ⟨⟨_, rfl, rfl, by rw [ht]; exact hP⟩, hS.F ht⟩) hS.2.2 hd C.locks))
theorem j_ldcS {q : String × Nat × String × List Int32} (si : Nat) (C : JC E V cc L ret) (hd : decode cc pc = .ok (.ldc ix, 2)) (hs : skT[si]? = some q) (h1 : q.1 = V.2.2.2.2.2.2) (h2 : q.2.1 = ix) (kk : J E V k n (pc + 2) loc (.ref (gK V.1 si) :: st) S o) : J E V k n pc loc st S o := fun r S' ho ls H locs hl hP hS => by
  have h := (C.ex.1 si q hs).1
  rw [h1, h2] at h
  exact va_ldcS C.1 C.2.1 C.2.2.2.1 h hd (kk r S' ho ls H locs hl hP hS)
theorem j_ldcSW {q : String × Nat × String × List Int32} (si : Nat) (C : JC E V cc L ret) (hd : decode cc pc = .ok (.ldc_w ix, 3)) (hs : skT[si]? = some q) (h1 : q.1 = V.2.2.2.2.2.2) (h2 : q.2.1 = ix) (kk : J E V k n (pc + 3) loc (.ref (gK V.1 si) :: st) S o) : J E V k n pc loc st S o := fun r S' ho ls H locs hl hP hS => by
  have h := (C.ex.1 si q hs).1
  rw [h1, h2] at h
  intro T hT X
  obtain ⟨t, a1, b1⟩ := kk r S' ho ls H locs hl hP hS T hT X
  exact ⟨t, X.ldcStringW C.1 C.2.2.2.1 (text := q.2.2.1) (index := ix) (a := gK V.1 si) h.1 h.2 (g := F0 E.2.2.2.2.2.1 pc ls st) rfl (by rw [C.2.1]; exact hd) t a1, b1⟩
/-- a call on a string constant -/
theorem rn_K {y : MethodName} {bytes : ByteArray} {maxL m L' si : Nat} {rt : Option FieldType} {As st0 rest : List Value} (hM : Ct E.2.1 y (Cond.code y bytes maxL rt :: tblG) L' 0 0 V.1 V.2.1 V.2.2.1 (.ref (gK V.1 si) :: As) S o) (hK : Kn y bytes maxL rt m) (hi : Cond.instanceMethod y ∈ tblG ∧ Cond.selects "java/lang/String" y y ∈ tblG) (hs : si < 40)
    (C : JC E V cc L ret) (hd : decode cc pc = .ok (.invokevirtual ix, 3)) (hq : Cond.methodLink V.2.2.2.2.2.2 ix y ∈ tblG) (hL : L' + 1 ≤ L) (hn : As.length = m) (hst : st0 = As.reverse ++ .ref (gK V.1 si) :: rest) (hW : (rest.map fun v => v.category).sum ≤ 8) (hf : k + 0 ≤ V.2.2.2.2.1 ∧ n + 0 ≤ V.2.2.2.2.2.1) : Rn E V k n 0 0 pc loc st0 rest S o := by
  intro r S' ho ls H locs hl hP hS
  have hr : ∃ cell : Cell, H[gK V.1 si]? = some cell ∧ cell.vm.isStatics = false ∧ (eS E).vm.findClass "java/lang/String" = some cell.cls := by
    obtain ⟨cell, h1, h2, h3, -⟩ := (ex_at C.ex hs).1.kept hS.2.1
    exact ⟨cell, h1, h2, h3⟩
  exact ⟨_, vx_runV (C := "java/lang/String") (As := As) (rest := rest) ⟨C.1, C.2.1, C.2.2.1, C.2.2.2.1, C.2.2.2.2.1⟩ (hM r S' ho H.size) ⟨cb_of C hK hq hL, C.2.2.2.2.1 _ hi.1, C.2.2.2.2.1 _ hi.2⟩ ⟨pcw_blind, hr, pcw_of C hP hS _⟩ rfl hn hl.1 hst (lv_room hW) hd (by rw [C.room]; exact hf)⟩
theorem c_coder {l : Launch} {G : Gc} {w : Gc → St → va_W} {N : Nat} (hfl : l.stackTraces = false) (hW : Wok G w N) {si : Nat} (hs : si < 40) (S : St) : Ct l yJ0_coder_7d493 (Cond.code yJ0_coder_7d493 cJ0_coder_7d493 1 (some .byte) :: tblG) 1 0 0 G w N [.ref (gK G si)] S (some (rI 0, S)) := ct_of (own := RJ0) hfl (by decide +kernel) rfl hW (Nat.le_of_ble_eq_true rfl) (fun E hE C => by
  refine j_getSt (pc := 0) C C.ex.2.1 dJ0_coder_7d493_0 q_0 ?_
  refine j_if_eqF (pc := 3) 13 C dJ0_coder_7d493_3 (by decide) (by decide) ?_
  refine j_aload_n (pc := 6) 0 C dJ0_coder_7d493_6 rfl rfl ?_
  refine j_getO (pc := 7) C (ex_at C.ex hs).2.1 dJ0_coder_7d493_7 q_1 ?_
  refine j_goto (pc := 10) 14 C dJ0_coder_7d493_10 (by decide) ?_
  exact j_nret C dJ0_coder_7d493_14 rfl rfl (Nat.le_of_ble_eq_true rfl) (Nat.le_of_ble_eq_true rfl))
theorem c_isLatin1 {l : Launch} {G : Gc} {w : Gc → St → va_W} {N : Nat} (hfl : l.stackTraces = false) (hW : Wok G w N) {si : Nat} (hs : si < 40) (S : St) : Ct l yJ0_isLatin1_aae02 (Cond.code yJ0_isLatin1_aae02 cJ0_isLatin1_aae02 1 (some .boolean) :: tblG) 1 0 0 G w N [.ref (gK G si)] S (some (rI 1, S)) := ct_of (own := RJ0) hfl (by decide +kernel) rfl hW (Nat.le_of_ble_eq_true rfl) (fun E hE C => by
  refine j_getSt (pc := 0) C C.ex.2.1 dJ0_isLatin1_aae02_0 q_0 ?_
  refine j_if_eqF (pc := 3) 17 C dJ0_isLatin1_aae02_3 (by decide) (by decide) ?_
  refine j_aload_n (pc := 6) 0 C dJ0_isLatin1_aae02_6 rfl rfl ?_
  refine j_getO (pc := 7) C (ex_at C.ex hs).2.1 dJ0_isLatin1_aae02_7 q_1 ?_
  refine j_if_neF (pc := 10) 17 C dJ0_isLatin1_aae02_10 (by decide) rfl ?_
  refine j_iconst (pc := 13) 1 C dJ0_isLatin1_aae02_13 (by decide) ?_
  refine j_goto (pc := 14) 18 C dJ0_isLatin1_aae02_14 (by decide) ?_
  exact j_zretc C dJ0_isLatin1_aae02_18 rfl (Nat.le_of_ble_eq_true rfl) (Nat.le_of_ble_eq_true rfl) rfl)
theorem c_length {l : Launch} {G : Gc} {w : Gc → St → va_W} {N : Nat} (hfl : l.stackTraces = false) (hW : Wok G w N) {si : Nat} (hs : si < 40) (S : St) : Ct l yJ0_length_8abf5 (Cond.code yJ0_length_8abf5 cJ0_length_8abf5 1 (some .int) :: tblG) 2 0 0 G w N [.ref (gK G si)] S (some (rI (nI (skN si)), S)) := ct_of (own := RJ0) hfl (by decide +kernel) rfl hW (Nat.le_of_ble_eq_true rfl) (fun E hE C => by
  subst hE
  refine j_aload_n (pc := 0) 0 C dJ0_length_8abf5_0 rfl rfl ?_
  refine j_getO (pc := 1) C (ex_at C.ex hs).2.2.1 dJ0_length_8abf5_1 q_2 ?_
  refine j_alenT (pc := 4) C (ex_at C.ex hs).2.2.2 dJ0_length_8abf5_4 ?_
  refine j_aload_n (pc := 5) 0 C dJ0_length_8abf5_5 rfl rfl ?_
  refine j_eq (o1 := obI (some (rI 0, S)) fun r T => some (rI (nI (skN si) >>> (r &&& 31)), T)) (by show _ = some (rI (nI (skN si) >>> ((0 : Int32) &&& 31)), S); rw [show nI (skN si) >>> ((0 : Int32) &&& 31) = nI (skN si) by simp]) ?_
  refine j_callI (pc := 6) (rest := [.int (nI (skN si))]) C (rn_K (As := []) (c_coder C.flags C.wok hs S) knJ0_coder_7d493 ⟨q_14, q_15⟩ hs C dJ0_length_8abf5_6 q_4 (by omega) rfl rfl (Nat.le_of_ble_eq_true rfl) ⟨(Nat.le_of_ble_eq_true rfl), (Nat.le_of_ble_eq_true rfl)⟩) ⟨(Nat.le_of_ble_eq_true rfl), (Nat.le_of_ble_eq_true rfl)⟩ (fun r T => ?_)
  refine j_ishr (pc := 9) C dJ0_length_8abf5_9 ?_
  exact j_iret C dJ0_length_8abf5_10 rfl (Nat.le_of_ble_eq_true rfl) (Nat.le_of_ble_eq_true rfl))
theorem c_preCheck {l : Launch} {G : Gc} {w : Gc → St → va_W} {N : Nat} (hfl : l.stackTraces = false) (hW : Wok G w N) {i m : Int32} {v : Value} (hv : v = .null ∨ ∃ q : Nat, v = .ref q) (hi : ¬ i < 0) (hm : i < m) (S : St) : Ct l yJ3_checkIndex_8e157 (Cond.code yJ3_checkIndex_8e157 cJ3_checkIndex_8e157 3 (some .int) :: tblG) 1 0 0 G w N [.int i, .int m, v] S (some (rI i, S)) := ct_of (own := RJ3) hfl (by decide +kernel) rfl hW (by rcases hv with rfl | ⟨q, rfl⟩ <;> exact (Nat.le_of_ble_eq_true rfl)) (fun E hE C => by
  refine j_iload_n (pc := 0) 0 C dJ3_checkIndex_8e157_0 rfl rfl ?_
  refine (fun kk r S9 ho ls H locs hl hP hS => lv_if_lt (tgt := 9) (pc := 1) C.1 C.2.1 dJ3_checkIndex_8e157_1 (by decide) (fun h => absurd h hi) (fun _ => kk r S9 ho ls H locs hl hP hS) : J E _ 0 0 (1 + 3) _ _ S _ → J E _ 0 0 1 _ _ S _) ?_
  refine j_iload_n (pc := 4) 0 C dJ3_checkIndex_8e157_4 rfl rfl ?_
  refine j_iload_n (pc := 5) 1 C dJ3_checkIndex_8e157_5 rfl rfl ?_
  refine (fun kk r S9 ho ls H locs hl hP hS => lv_icmp_lt (tgt := 16) (pc := 6) C.1 C.2.1 dJ3_checkIndex_8e157_6 (by decide) (fun _ => kk r S9 ho ls H locs hl hP hS) (fun h => absurd hm h) : J E _ 0 0 16 _ _ S _ → J E _ 0 0 6 _ _ S _) ?_
  refine j_iload_n (pc := 16) 0 C dJ3_checkIndex_8e157_16 rfl rfl ?_
  exact j_iret C dJ3_checkIndex_8e157_17 rfl (Nat.le_of_ble_eq_true rfl) (Nat.le_of_ble_eq_true rfl))
theorem c_check {l : Launch} {G : Gc} {w : Gc → St → va_W} {N : Nat} (hfl : l.stackTraces = false) (hW : Wok G w N) {i m : Int32} (hi : ¬ i < 0) (hm : i < m) (S : St) : Ct l yJ0_checkIndex_df160 (Cond.code yJ0_checkIndex_df160 cJ0_checkIndex_df160 2 none :: tblG) 2 0 0 G w N [.int i, .int m] S (some (rV, S)) := ct_of (own := RJ0) hfl (by decide +kernel) rfl hW (Nat.le_of_ble_eq_true rfl) (fun E hE C => by
  subst hE
  refine j_iload_n (pc := 0) 0 C dJ0_checkIndex_df160_0 rfl rfl ?_
  refine j_iload_n (pc := 1) 1 C dJ0_checkIndex_df160_1 rfl rfl ?_
  refine j_eq (o1 := obI (some (rI i, S)) fun _ T => some (rV, T)) rfl ?_
  have go : ∀ v : Value, (v = .null ∨ ∃ q : Nat, v = .ref q) → J E (G, w, N, 2, 0, 0, RJ0) 0 0 5 (lv_args 0 [.int i, .int m]) [v, .int m, .int i] S (obI (some (rI i, S)) fun _ T => some (rV, T)) := fun v hv => by
    refine j_callI (pc := 5) (rest := []) C (rn_S (As := [.int i, .int m, v]) (c_preCheck C.flags C.wok hv hi hm S) knJ3_checkIndex_8e157 q_29 C dJ0_checkIndex_df160_5 q_8 (by omega) rfl rfl (Nat.le_of_ble_eq_true rfl) ⟨(Nat.le_of_ble_eq_true rfl), (Nat.le_of_ble_eq_true rfl)⟩) ⟨(Nat.le_of_ble_eq_true rfl), (Nat.le_of_ble_eq_true rfl)⟩ (fun r T => ?_)
    refine j_pop (pc := 8) C dJ0_checkIndex_df160_8 rfl ?_
    exact j_vret C dJ0_checkIndex_df160_9 rfl (Nat.le_of_ble_eq_true rfl) (Nat.le_of_ble_eq_true rfl)
  rcases C.ex.2.2.1 with hz | ⟨t, hz⟩
  · exact j_getSt (pc := 2) C hz dJ0_checkIndex_df160_2 q_3 (go .null (Or.inl rfl))
  · exact j_getSt (pc := 2) C hz dJ0_checkIndex_df160_2 q_3 (go (.ref t) (Or.inr ⟨t, rfl⟩)))
theorem ib_lt {i : Int32} {m : Nat} (h : ib i m = true) (hm : m < 2 ^ 31) : ¬ i < 0 ∧ i < nI m := by
  obtain ⟨j, hj, rfl⟩ := vp_in_of (ib_in h) hm
  exact ⟨nI_pos (by omega), nI_lt hj hm⟩
theorem skN_lt (si : Nat) (hs : si < 40) : skN si < 2 ^ 31 := co_dec (N := 40) (P := fun i => skN i < 2 ^ 31) (by decide +kernel) hs
theorem skB_ok (si : Nat) (hs : si < 40) : ∀ j, j < skN si → ((((skBs si).getD j 0) &&& 255).toUInt32 % 65536).toInt32 = (skBs si).getD j 0 := co_dec (N := 40) (P := fun i => ∀ j, j < skN i → ((((skBs i).getD j 0) &&& 255).toUInt32 % 65536).toInt32 = (skBs i).getD j 0) (by decide +kernel) hs
theorem skB_ch (si : Nat) (hs : si < 40) : ∀ j, j < skN si → ((skBs si).getD j 0).toUInt32.toUInt16.toUInt32.toInt32 = (skBs si).getD j 0 := co_dec (N := 40) (P := fun i => ∀ j, j < skN i → ((skBs i).getD j 0).toUInt32.toUInt16.toUInt32.toInt32 = (skBs i).getD j 0) (by decide +kernel) hs
theorem ib_clamp {i : Int32} {m : Nat} (h : ib i m = true) : i.toNatClampNeg < m := by
  have h1 := ib_in h
  simp only [vp_in, not_or] at h1
  omega
theorem c_charL1 {l : Launch} {G : Gc} {w : Gc → St → va_W} {N : Nat} (hfl : l.stackTraces = false) (hW : Wok G w N) {si : Nat} (hs : si < 40) {i : Int32} (hg : ib i (skN si) = true) (S : St) : Ct l yJ1_charAt_3b067 (Cond.code yJ1_charAt_3b067 cJ1_charAt_3b067 2 (some .char) :: tblG) 3 0 0 G w N [.ref (G.2.2.2.2.2 si), .int i] S (some (rI (skB si i), S)) := ct_of (own := RJ1) hfl (by decide +kernel) rfl hW (Nat.le_of_ble_eq_true rfl) (fun E hE C => by
  subst hE
  obtain ⟨h1, h2⟩ := ib_lt hg (skN_lt si hs)
  have hj := ib_clamp hg
  refine j_iload_n (pc := 0) 1 C dJ1_charAt_3b067_0 rfl rfl ?_
  refine j_aload_n (pc := 1) 0 C dJ1_charAt_3b067_1 rfl rfl ?_
  refine j_alenT (pc := 2) C (ex_at C.ex hs).2.2.2 dJ1_charAt_3b067_2 ?_
  refine j_eq (o1 := obV (some (rV, S)) fun T => some (rI (skB si i), T)) rfl ?_
  refine j_callv (pc := 3) (rest := []) C (rn_S (As := [.int i, .int (nI (skN si))]) (c_check C.flags C.wok h1 h2 S) knJ0_checkIndex_df160 q_23 C dJ1_charAt_3b067_3 q_7 (by omega) rfl rfl (Nat.le_of_ble_eq_true rfl) ⟨(Nat.le_of_ble_eq_true rfl), (Nat.le_of_ble_eq_true rfl)⟩) ⟨(Nat.le_of_ble_eq_true rfl), (Nat.le_of_ble_eq_true rfl)⟩ (fun T => ?_)
  refine j_aload_n (pc := 6) 0 C dJ1_charAt_3b067_6 rfl rfl ?_
  refine j_iload_n (pc := 7) 1 C dJ1_charAt_3b067_7 rfl rfl ?_
  refine j_baldT (pc := 8) C (ex_at C.ex hs).2.2.2 hg dJ1_charAt_3b067_8 ?_
  refine j_sipush (pc := 9) 255 C dJ1_charAt_3b067_9 (by decide) ?_
  refine j_iand (pc := 12) C dJ1_charAt_3b067_12 ?_
  refine j_i2c (pc := 13) C dJ1_charAt_3b067_13 (skB_ok si hs _ hj) ?_
  exact j_nret C dJ1_charAt_3b067_14 rfl (by show Value.int _ = _; rw [skB_ch si hs _ hj]) (Nat.le_of_ble_eq_true rfl) (Nat.le_of_ble_eq_true rfl))
theorem c_charAt {l : Launch} {G : Gc} {w : Gc → St → va_W} {N : Nat} (hfl : l.stackTraces = false) (hW : Wok G w N) {si : Nat} (hs : si < 40) {i : Int32} (hg : ib i (skN si) = true) (S : St) : Ct l yJ0_charAt_5068e (Cond.code yJ0_charAt_5068e cJ0_charAt_5068e 2 (some .char) :: tblG) 4 0 0 G w N [.ref (gK G si), .int i] S (some (rI (skB si i), S)) := ct_of (own := RJ0) hfl (by decide +kernel) rfl hW (Nat.le_of_ble_eq_true rfl) (fun E hE C => by
  subst hE
  have hj := ib_clamp hg
  refine j_aload_n (pc := 0) 0 C dJ0_charAt_5068e_0 rfl rfl ?_
  refine j_eq (o1 := obI (some (rI 1, S)) fun r T => if r = 0 then none else obI (some (rI (skB si i), T)) fun v T2 => gd (decide (v = skB si i)) (some (rI v, T2))) (by show _ = gd (decide (skB si i = skB si i)) (some (rI (skB si i), S)); rw [decide_eq_true rfl]; rfl) ?_
  refine j_callI (pc := 1) (rest := []) C (rn_K (As := []) (c_isLatin1 C.flags C.wok hs S) knJ0_isLatin1_aae02 ⟨q_20, q_21⟩ hs C dJ0_charAt_5068e_1 q_5 (by omega) rfl rfl (Nat.le_of_ble_eq_true rfl) ⟨(Nat.le_of_ble_eq_true rfl), (Nat.le_of_ble_eq_true rfl)⟩) ⟨(Nat.le_of_ble_eq_true rfl), (Nat.le_of_ble_eq_true rfl)⟩ (fun r T => ?_)
  refine j_if_eq (pc := 4) 16 C dJ0_charAt_5068e_4 (by decide) j_none ?_
  refine j_aload_n (pc := 7) 0 C dJ0_charAt_5068e_7 rfl rfl ?_
  refine j_getO (pc := 8) C (ex_at C.ex hs).2.2.1 dJ0_charAt_5068e_8 q_2 ?_
  refine j_iload_n (pc := 11) 1 C dJ0_charAt_5068e_11 rfl rfl ?_
  refine j_callI (pc := 12) (rest := []) C (rn_S (As := [.ref (G.2.2.2.2.2 si), .int i]) (c_charL1 C.flags C.wok hs hg T) knJ1_charAt_3b067 q_26 C dJ0_charAt_5068e_12 q_6 (by omega) rfl rfl (Nat.le_of_ble_eq_true rfl) ⟨(Nat.le_of_ble_eq_true rfl), (Nat.le_of_ble_eq_true rfl)⟩) ⟨(Nat.le_of_ble_eq_true rfl), (Nat.le_of_ble_eq_true rfl)⟩ (fun v T2 => ?_)
  intro r9 S9 h9
  by_cases e : v = skB si i
  · subst e
    rw [decide_eq_true rfl] at h9
    exact j_nret C dJ0_charAt_5068e_15 rfl (by show Value.int _ = _; rw [show skB si i = (skBs si).getD i.toNatClampNeg 0 from rfl, skB_ch si hs _ hj]) (Nat.le_of_ble_eq_true rfl) (Nat.le_of_ble_eq_true rfl) r9 S9 h9
  · rw [decide_eq_false e] at h9; cases h9)
theorem j_slen {si : Nat} (C : JC E V cc L ret) (hd : decode cc pc = .ok (.invokevirtual ix, 3)) (hq : Cond.methodLink V.2.2.2.2.2.2 ix yJ0_length_8abf5 ∈ tblG) (hs : si < 40) (hL : 2 + 1 ≤ L) (h1 : k ≤ V.2.2.2.2.1) (h2 : n ≤ V.2.2.2.2.2.1) (hW : (st.map fun v => v.category).sum ≤ 8) (kk : J E V k n (pc + 3) loc (.int (nI (skN si)) :: st) S o) : J E V k n pc loc (.ref (gK V.1 si) :: st) S o := by
  intro r S9 ho ls H locs hl hP hS
  obtain ⟨a, hrun⟩ := rn_K (As := []) (rest := st) (c_length C.flags C.wok hs S) knJ0_length_8abf5 ⟨q_11, q_12⟩ hs C hd hq hL rfl rfl hW ⟨h1, h2⟩ _ _ rfl ls H locs hl hP hS
  exact j_after C hl hS hrun (fun ov g1 H1 locs1 hP1 hS1 => by cases g1; exact kk r S9 ho ls H1 locs1 hl hP1 hS1) (fun j h => by cases h)
theorem j_schar {si : Nat} {i : Int32} (C : JC E V cc L ret) (hd : decode cc pc = .ok (.invokevirtual ix, 3)) (hq : Cond.methodLink V.2.2.2.2.2.2 ix yJ0_charAt_5068e ∈ tblG) (hs : si < 40) (hL : 4 + 1 ≤ L) (h1 : k ≤ V.2.2.2.2.1) (h2 : n ≤ V.2.2.2.2.2.1) (hW : (st.map fun v => v.category).sum ≤ 8) (kk : J E V k n (pc + 3) loc (.int (skB si i) :: st) S o) : J E V k n pc loc (.int i :: .ref (gK V.1 si) :: st) S (gd (ib i (skN si)) o) := by
  intro r S9 ho ls H locs hl hP hS
  cases hg : ib i (skN si) with
  | false => rw [hg] at ho; cases ho
  | true =>
    rw [hg] at ho
    obtain ⟨a, hrun⟩ := rn_K (As := [.int i]) (rest := st) (c_charAt C.flags C.wok hs hg S) knJ0_charAt_5068e ⟨q_17, q_18⟩ hs C hd hq hL rfl rfl hW ⟨h1, h2⟩ _ _ rfl ls H locs hl hP hS
    exact j_after C hl hS hrun (fun ov g1 H1 locs1 hP1 hS1 => by cases g1; exact kk r S9 ho ls H1 locs1 hl hP1 hS1) (fun j h => by cases h)
end JSTR
