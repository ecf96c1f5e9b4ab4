theorem knX5_lessonsOf : Kn yX5_lessonsOf cX5_lessonsOf 2 (some .int) 1 := ⟨q_534, q_174, by decide +kernel, by decide⟩
theorem bC_State_lessonsOf_9 {E : Ec} {G : Gc}    (C : JC E (VC G 2 0 0 RX5) cX5_lessonsOf 1 (some .int))    (x1 : Int32) (S : St) : J E (VC G 2 0 0 RX5) 0 0 0 [(0, .ref (gA G 9)), (1, .int x1)] [] S (fC_State_lessonsOf_9  x1 S) := by
  unfold fC_State_lessonsOf_9
  refine j_aload_n (pc := 0) 0 C dX5_lessonsOf_0 rfl rfl ?_
  refine gC_9_0 (pc := 1) C dX5_lessonsOf_1 q_172 ?_
  refine j_bipush (pc := 4) 48 C dX5_lessonsOf_4 (by decide) ?_
  refine j_iload_n (pc := 6) 1 C dX5_lessonsOf_6 rfl rfl ?_
  refine j_iadd (pc := 7) C dX5_lessonsOf_7 ?_
  refine aC_46 (pc := 8) C dX5_lessonsOf_8 ?_
  exact j_iret C dX5_lessonsOf_9 rfl (Nat.le_of_ble_eq_true rfl) (Nat.le_of_ble_eq_true rfl)
theorem cC_State_lessonsOf_9 {l : Launch} {G : Gc} (hfl : l.stackTraces = false) (hW : Wok G wC 54)   (x1 : Int32) (S : St) : Ct l yX5_lessonsOf (Cond.code yX5_lessonsOf cX5_lessonsOf 2 (some .int) :: tblG) 1 0 0 G wC 54 [.ref (gA G 9), .int x1] S (fC_State_lessonsOf_9 x1 S) := ct_of (own := RX5) hfl (by decide +kernel) rfl hW (Nat.le_of_ble_eq_true rfl) (fun E hE C => by subst hE; exact bC_State_lessonsOf_9 C   x1 S)
theorem rC_State_lessonsOf_9 {E : Ec} {G : Gc} {nL mc ms : Nat} {own : String} {cc : ByteArray} {L : Nat} {ret : Option FieldType} {k n pc ix : Nat} {loc : List (Nat × Value)} {rest : List Value}  {x1 : Int32} {S : St}  (C : JC E (VC G nL mc ms own) cc L ret) (hd : decode cc pc = .ok (.invokevirtual ix, 3)) (hq : Cond.methodLink own ix yX5_lessonsOf ∈ tblG) (hL : 1 + 1 ≤ L) (hW : (rest.map fun v => v.category).sum ≤ 8) (hf : k + 0 ≤ mc ∧ n + 0 ≤ ms) : Rn E (VC G nL mc ms own) k n 0 0 pc loc (.int x1 :: .ref (gA G 9) :: rest) rest S (fC_State_lessonsOf_9 x1 S) := rn_V (ci := 5) 9 (V := VC G nL mc ms own) (As := [.int x1]) (Cq := (RX5, TX5, 3)) (cC_State_lessonsOf_9 C.flags C.wok  x1 S) knX5_lessonsOf ⟨q_535, q_536⟩ rfl rfl C hd hq hL rfl rfl hW hf

theorem knX5_weekLessonsOf : Kn yX5_weekLessonsOf cX5_weekLessonsOf 2 (some .int) 1 := ⟨q_538, q_174, by decide +kernel, by decide⟩
theorem bC_State_weekLessonsOf_9 {E : Ec} {G : Gc}    (C : JC E (VC G 2 0 0 RX5) cX5_weekLessonsOf 1 (some .int))    (x1 : Int32) (S : St) : J E (VC G 2 0 0 RX5) 0 0 0 [(0, .ref (gA G 9)), (1, .int x1)] [] S (fC_State_weekLessonsOf_9  x1 S) := by
  unfold fC_State_weekLessonsOf_9
  refine j_aload_n (pc := 0) 0 C dX5_weekLessonsOf_0 rfl rfl ?_
  refine gC_9_0 (pc := 1) C dX5_weekLessonsOf_1 q_172 ?_
  refine j_bipush (pc := 4) 54 C dX5_weekLessonsOf_4 (by decide) ?_
  refine j_iload_n (pc := 6) 1 C dX5_weekLessonsOf_6 rfl rfl ?_
  refine j_iadd (pc := 7) C dX5_weekLessonsOf_7 ?_
  refine aC_46 (pc := 8) C dX5_weekLessonsOf_8 ?_
  exact j_iret C dX5_weekLessonsOf_9 rfl (Nat.le_of_ble_eq_true rfl) (Nat.le_of_ble_eq_true rfl)
theorem cC_State_weekLessonsOf_9 {l : Launch} {G : Gc} (hfl : l.stackTraces = false) (hW : Wok G wC 54)   (x1 : Int32) (S : St) : Ct l yX5_weekLessonsOf (Cond.code yX5_weekLessonsOf cX5_weekLessonsOf 2 (some .int) :: tblG) 1 0 0 G wC 54 [.ref (gA G 9), .int x1] S (fC_State_weekLessonsOf_9 x1 S) := ct_of (own := RX5) hfl (by decide +kernel) rfl hW (Nat.le_of_ble_eq_true rfl) (fun E hE C => by subst hE; exact bC_State_weekLessonsOf_9 C   x1 S)
theorem rC_State_weekLessonsOf_9 {E : Ec} {G : Gc} {nL mc ms : Nat} {own : String} {cc : ByteArray} {L : Nat} {ret : Option FieldType} {k n pc ix : Nat} {loc : List (Nat × Value)} {rest : List Value}  {x1 : Int32} {S : St}  (C : JC E (VC G nL mc ms own) cc L ret) (hd : decode cc pc = .ok (.invokevirtual ix, 3)) (hq : Cond.methodLink own ix yX5_weekLessonsOf ∈ tblG) (hL : 1 + 1 ≤ L) (hW : (rest.map fun v => v.category).sum ≤ 8) (hf : k + 0 ≤ mc ∧ n + 0 ≤ ms) : Rn E (VC G nL mc ms own) k n 0 0 pc loc (.int x1 :: .ref (gA G 9) :: rest) rest S (fC_State_weekLessonsOf_9 x1 S) := rn_V (ci := 5) 9 (V := VC G nL mc ms own) (As := [.int x1]) (Cq := (RX5, TX5, 3)) (cC_State_weekLessonsOf_9 C.flags C.wok  x1 S) knX5_weekLessonsOf ⟨q_539, q_540⟩ rfl rfl C hd hq hL rfl rfl hW hf

theorem knX5_slipsOf : Kn yX5_slipsOf cX5_slipsOf 2 (some .int) 1 := ⟨q_542, q_174, by decide +kernel, by decide⟩
theorem bC_State_slipsOf_9 {E : Ec} {G : Gc}    (C : JC E (VC G 2 0 0 RX5) cX5_slipsOf 1 (some .int))    (x1 : Int32) (S : St) : J E (VC G 2 0 0 RX5) 0 0 0 [(0, .ref (gA G 9)), (1, .int x1)] [] S (fC_State_slipsOf_9  x1 S) := by
  unfold fC_State_slipsOf_9
  refine j_aload_n (pc := 0) 0 C dX5_slipsOf_0 rfl rfl ?_
  refine gC_9_0 (pc := 1) C dX5_slipsOf_1 q_172 ?_
  refine j_bipush (pc := 4) 60 C dX5_slipsOf_4 (by decide) ?_
  refine j_iload_n (pc := 6) 1 C dX5_slipsOf_6 rfl rfl ?_
  refine j_iadd (pc := 7) C dX5_slipsOf_7 ?_
  refine aC_46 (pc := 8) C dX5_slipsOf_8 ?_
  exact j_iret C dX5_slipsOf_9 rfl (Nat.le_of_ble_eq_true rfl) (Nat.le_of_ble_eq_true rfl)
theorem cC_State_slipsOf_9 {l : Launch} {G : Gc} (hfl : l.stackTraces = false) (hW : Wok G wC 54)   (x1 : Int32) (S : St) : Ct l yX5_slipsOf (Cond.code yX5_slipsOf cX5_slipsOf 2 (some .int) :: tblG) 1 0 0 G wC 54 [.ref (gA G 9), .int x1] S (fC_State_slipsOf_9 x1 S) := ct_of (own := RX5) hfl (by decide +kernel) rfl hW (Nat.le_of_ble_eq_true rfl) (fun E hE C => by subst hE; exact bC_State_slipsOf_9 C   x1 S)
theorem rC_State_slipsOf_9 {E : Ec} {G : Gc} {nL mc ms : Nat} {own : String} {cc : ByteArray} {L : Nat} {ret : Option FieldType} {k n pc ix : Nat} {loc : List (Nat × Value)} {rest : List Value}  {x1 : Int32} {S : St}  (C : JC E (VC G nL mc ms own) cc L ret) (hd : decode cc pc = .ok (.invokevirtual ix, 3)) (hq : Cond.methodLink own ix yX5_slipsOf ∈ tblG) (hL : 1 + 1 ≤ L) (hW : (rest.map fun v => v.category).sum ≤ 8) (hf : k + 0 ≤ mc ∧ n + 0 ≤ ms) : Rn E (VC G nL mc ms own) k n 0 0 pc loc (.int x1 :: .ref (gA G 9) :: rest) rest S (fC_State_slipsOf_9 x1 S) := rn_V (ci := 5) 9 (V := VC G nL mc ms own) (As := [.int x1]) (Cq := (RX5, TX5, 3)) (cC_State_slipsOf_9 C.flags C.wok  x1 S) knX5_slipsOf ⟨q_543, q_544⟩ rfl rfl C hd hq hL rfl rfl hW hf

theorem knX7_debtsOfMan : Kn yX7_debtsOfMan cX7_debtsOfMan 4 (some .int) 1 := ⟨q_546, q_112, by decide +kernel, by decide⟩
theorem bC_Valley_debtsOfMan_2_4 {E : Ec} {G : Gc}    (C : JC E (VC G 4 0 0 RX7) cX7_debtsOfMan 1 (some .int))    : ∀ (n : Nat) (x1 : Int32) (x2 : Int32) (x3 : Int32) (S : St), J E (VC G 4 0 0 RX7) 0 0 4 [(0, .ref (gA G 2)), (1, .int x1), (2, .int x2), (3, .int x3)] [] S (fC_Valley_debtsOfMan_2_4  n x1 x2 x3 S) := by
  intro n
  induction n with
  | zero => intro x1 x2 x3 S; rw [fC_Valley_debtsOfMan_2_4]; exact j_none
  | succ n ih =>
    intro x1 x2 x3 S
    rw [fC_Valley_debtsOfMan_2_4]
    refine j_iload_n (pc := 4) 3 C dX7_debtsOfMan_4 rfl rfl ?_
    refine j_aload_n (pc := 5) 0 C dX7_debtsOfMan_5 rfl rfl ?_
    refine gC_2_2 (pc := 6) C dX7_debtsOfMan_6 q_76 ?_
    refine j_icmp_ge (pc := 9) 34 C dX7_debtsOfMan_9 (by decide) ?_ ?_
    ·
      refine j_iload_n (pc := 34) 2 C dX7_debtsOfMan_34 rfl rfl ?_
      exact j_iret C dX7_debtsOfMan_35 rfl (Nat.le_of_ble_eq_true rfl) (Nat.le_of_ble_eq_true rfl)
    ·
      refine j_aload_n (pc := 12) 0 C dX7_debtsOfMan_12 rfl rfl ?_
      refine gC_2_8 (pc := 13) C dX7_debtsOfMan_13 q_116 ?_
      refine j_iload_n (pc := 16) 3 C dX7_debtsOfMan_16 rfl rfl ?_
      refine aC_19 (pc := 17) C dX7_debtsOfMan_17 ?_
      refine j_iload_n (pc := 18) 1 C dX7_debtsOfMan_18 rfl rfl ?_
      refine j_icmp_ne (pc := 19) 28 C dX7_debtsOfMan_19 (by decide) ?_ ?_
      ·
        refine j_iinc (pc := 28) 3 (x3 + 1) [(3, .int (x3 + 1)), (0, .ref (gA G 2)), (1, .int x1), (2, .int x2)] C dX7_debtsOfMan_28 rfl rfl (Nat.le_of_ble_eq_true rfl) rfl ?_
        refine j_goto (pc := 31) 4 C dX7_debtsOfMan_31 (by decide) ?_
        refine j_sub [1, 2, 3, 0] rfl ?_
        exact ih x1 x2 (x3 + 1) S
      ·
        refine j_iload_n (pc := 22) 2 C dX7_debtsOfMan_22 rfl rfl ?_
        refine j_iconst (pc := 23) 1 C dX7_debtsOfMan_23 (by decide) ?_
        refine j_iload_n (pc := 24) 3 C dX7_debtsOfMan_24 rfl rfl ?_
        refine j_ishl (pc := 25) C dX7_debtsOfMan_25 ?_
        refine j_ior (pc := 26) C dX7_debtsOfMan_26 ?_
        refine j_nxI (fun v1 => ?_)
        refine j_istore_n (pc := 27) [(2, .int v1), (0, .ref (gA G 2)), (1, .int x1), (3, .int x3)] C dX7_debtsOfMan_27 rfl (Nat.le_of_ble_eq_true rfl) rfl ?_
        refine j_iinc (pc := 28) 3 (x3 + 1) [(3, .int (x3 + 1)), (2, .int v1), (0, .ref (gA G 2)), (1, .int x1)] C dX7_debtsOfMan_28 rfl rfl (Nat.le_of_ble_eq_true rfl) rfl ?_
        refine j_goto (pc := 31) 4 C dX7_debtsOfMan_31 (by decide) ?_
        refine j_sub [2, 3, 1, 0] rfl ?_
        exact ih x1 v1 (x3 + 1) S
theorem bC_Valley_debtsOfMan_2 {E : Ec} {G : Gc}    (C : JC E (VC G 4 0 0 RX7) cX7_debtsOfMan 1 (some .int))    (x1 : Int32) (S : St) : J E (VC G 4 0 0 RX7) 0 0 0 [(0, .ref (gA G 2)), (1, .int x1)] [] S (fC_Valley_debtsOfMan_2  x1 S) := by
  unfold fC_Valley_debtsOfMan_2
  refine j_iconst (pc := 0) 0 C dX7_debtsOfMan_0 (by decide) ?_
  refine j_istore_n (pc := 1) [(2, .int 0), (0, .ref (gA G 2)), (1, .int x1)] C dX7_debtsOfMan_1 rfl (Nat.le_of_ble_eq_true rfl) rfl ?_
  refine j_iconst (pc := 2) 0 C dX7_debtsOfMan_2 (by decide) ?_
  refine j_istore_n (pc := 3) [(3, .int 0), (2, .int 0), (0, .ref (gA G 2)), (1, .int x1)] C dX7_debtsOfMan_3 rfl (Nat.le_of_ble_eq_true rfl) rfl ?_
  refine j_sub [2, 3, 1, 0] rfl ?_
  exact bC_Valley_debtsOfMan_2_4 C  FU x1 0 0 S
theorem cC_Valley_debtsOfMan_2 {l : Launch} {G : Gc} (hfl : l.stackTraces = false) (hW : Wok G wC 54)   (x1 : Int32) (S : St) : Ct l yX7_debtsOfMan (Cond.code yX7_debtsOfMan cX7_debtsOfMan 4 (some .int) :: tblG) 1 0 0 G wC 54 [.ref (gA G 2), .int x1] S (fC_Valley_debtsOfMan_2 x1 S) := ct_of (own := RX7) hfl (by decide +kernel) rfl hW (Nat.le_of_ble_eq_true rfl) (fun E hE C => by subst hE; exact bC_Valley_debtsOfMan_2 C   x1 S)
theorem rC_Valley_debtsOfMan_2 {E : Ec} {G : Gc} {nL mc ms : Nat} {own : String} {cc : ByteArray} {L : Nat} {ret : Option FieldType} {k n pc ix : Nat} {loc : List (Nat × Value)} {rest : List Value}  {x1 : Int32} {S : St}  (C : JC E (VC G nL mc ms own) cc L ret) (hd : decode cc pc = .ok (.invokevirtual ix, 3)) (hq : Cond.methodLink own ix yX7_debtsOfMan ∈ tblG) (hL : 1 + 1 ≤ L) (hW : (rest.map fun v => v.category).sum ≤ 8) (hf : k + 0 ≤ mc ∧ n + 0 ≤ ms) : Rn E (VC G nL mc ms own) k n 0 0 pc loc (.int x1 :: .ref (gA G 2) :: rest) rest S (fC_Valley_debtsOfMan_2 x1 S) := rn_V (ci := 7) 2 (V := VC G nL mc ms own) (As := [.int x1]) (Cq := (RX7, TX7, 12)) (cC_Valley_debtsOfMan_2 C.flags C.wok  x1 S) knX7_debtsOfMan ⟨q_547, q_548⟩ rfl rfl C hd hq hL rfl rfl hW hf

theorem knX5_freshBitsOf : Kn yX5_freshBitsOf cX5_freshBitsOf 2 (some .int) 1 := ⟨q_550, q_174, by decide +kernel, by decide⟩
theorem bC_State_freshBitsOf_9 {E : Ec} {G : Gc}    (C : JC E (VC G 2 0 0 RX5) cX5_freshBitsOf 1 (some .int))    (x1 : Int32) (S : St) : J E (VC G 2 0 0 RX5) 0 0 0 [(0, .ref (gA G 9)), (1, .int x1)] [] S (fC_State_freshBitsOf_9  x1 S) := by
  unfold fC_State_freshBitsOf_9
  refine j_aload_n (pc := 0) 0 C dX5_freshBitsOf_0 rfl rfl ?_
  refine gC_9_0 (pc := 1) C dX5_freshBitsOf_1 q_172 ?_
  refine j_bipush (pc := 4) 66 C dX5_freshBitsOf_4 (by decide) ?_
  refine j_iload_n (pc := 6) 1 C dX5_freshBitsOf_6 rfl rfl ?_
  refine j_iadd (pc := 7) C dX5_freshBitsOf_7 ?_
  refine aC_46 (pc := 8) C dX5_freshBitsOf_8 ?_
  exact j_iret C dX5_freshBitsOf_9 rfl (Nat.le_of_ble_eq_true rfl) (Nat.le_of_ble_eq_true rfl)
theorem cC_State_freshBitsOf_9 {l : Launch} {G : Gc} (hfl : l.stackTraces = false) (hW : Wok G wC 54)   (x1 : Int32) (S : St) : Ct l yX5_freshBitsOf (Cond.code yX5_freshBitsOf cX5_freshBitsOf 2 (some .int) :: tblG) 1 0 0 G wC 54 [.ref (gA G 9), .int x1] S (fC_State_freshBitsOf_9 x1 S) := ct_of (own := RX5) hfl (by decide +kernel) rfl hW (Nat.le_of_ble_eq_true rfl) (fun E hE C => by subst hE; exact bC_State_freshBitsOf_9 C   x1 S)
theorem rC_State_freshBitsOf_9 {E : Ec} {G : Gc} {nL mc ms : Nat} {own : String} {cc : ByteArray} {L : Nat} {ret : Option FieldType} {k n pc ix : Nat} {loc : List (Nat × Value)} {rest : List Value}  {x1 : Int32} {S : St}  (C : JC E (VC G nL mc ms own) cc L ret) (hd : decode cc pc = .ok (.invokevirtual ix, 3)) (hq : Cond.methodLink own ix yX5_freshBitsOf ∈ tblG) (hL : 1 + 1 ≤ L) (hW : (rest.map fun v => v.category).sum ≤ 8) (hf : k + 0 ≤ mc ∧ n + 0 ≤ ms) : Rn E (VC G nL mc ms own) k n 0 0 pc loc (.int x1 :: .ref (gA G 9) :: rest) rest S (fC_State_freshBitsOf_9 x1 S) := rn_V (ci := 5) 9 (V := VC G nL mc ms own) (As := [.int x1]) (Cq := (RX5, TX5, 3)) (cC_State_freshBitsOf_9 C.flags C.wok  x1 S) knX5_freshBitsOf ⟨q_551, q_552⟩ rfl rfl C hd hq hL rfl rfl hW hf

theorem knX9_man : Kn yX9_man cX9_man 3 (some .int) 2 := ⟨q_554, q_40, by decide +kernel, by decide⟩
theorem bC_Main_man {E : Ec} {G : Gc}    (C : JC E (VC G 3 2 12 RX9) cX9_man 8 (some .int))    (x1 : Int32) (x2 : Int32) (S : St) : J E (VC G 3 2 12 RX9) 0 0 0 [(0, .ref (gA G 0)), (1, .int x1), (2, .int x2)] [] S (fC_Main_man  x1 x2 S) := by
  unfold fC_Main_man
  refine j_aload_n (pc := 0) 0 C dX9_man_0 rfl rfl ?_
  refine j_iload_n (pc := 1) 1 C dX9_man_1 rfl rfl ?_
  refine j_callv (pc := 2) C (rC_Main_needMan C dX9_man_2 q_529 (by omega) (Nat.le_of_ble_eq_true rfl) ⟨Nat.le_of_ble_eq_true rfl, Nat.le_of_ble_eq_true rfl⟩) ⟨Nat.le_of_ble_eq_true rfl, Nat.le_of_ble_eq_true rfl⟩ (fun T1 => ?_)
  refine j_iload_n (pc := 5) 2 C dX9_man_5 rfl rfl ?_
  refine j_tswC (pc := 6) (off := 50) 56 0 C dX9_man_6 (by decide) (by decide) (by decide) (by decide) ?_ (fun h6_0 => ?_)
  ·
    refine j_aload_n (pc := 56) 0 C dX9_man_56 rfl rfl ?_
    refine gC_0_1 (pc := 57) C dX9_man_57 q_148 ?_
    refine gC_2_6 (pc := 60) C dX9_man_60 q_530 ?_
    refine j_iload_n (pc := 63) 1 C dX9_man_63 rfl rfl ?_
    refine aC_17 (pc := 64) C dX9_man_64 ?_
    exact j_iret C dX9_man_65 rfl (Nat.le_of_ble_eq_true rfl) (Nat.le_of_ble_eq_true rfl)
  refine j_tswC (pc := 6) (off := 60) 66 1 C dX9_man_6 (by decide) (by decide) (by decide) (by decide) ?_ (fun h6_1 => ?_)
  ·
    refine j_aload_n (pc := 66) 0 C dX9_man_66 rfl rfl ?_
    refine gC_0_8 (pc := 67) C dX9_man_67 q_171 ?_
    refine j_iload_n (pc := 70) 1 C dX9_man_70 rfl rfl ?_
    refine j_callI0 (pc := 71) C (rC_State_ageOf_9 C dX9_man_71 q_531 (by omega) (Nat.le_of_ble_eq_true rfl) ⟨Nat.le_of_ble_eq_true rfl, Nat.le_of_ble_eq_true rfl⟩) ⟨Nat.le_of_ble_eq_true rfl, Nat.le_of_ble_eq_true rfl⟩ (fun r4 T3 => ?_)
    exact j_iret C dX9_man_74 rfl (Nat.le_of_ble_eq_true rfl) (Nat.le_of_ble_eq_true rfl)
  refine j_tswC (pc := 6) (off := 69) 75 2 C dX9_man_6 (by decide) (by decide) (by decide) (by decide) ?_ (fun h6_2 => ?_)
  ·
    refine j_aload_n (pc := 75) 0 C dX9_man_75 rfl rfl ?_
    refine gC_0_8 (pc := 76) C dX9_man_76 q_171 ?_
    refine j_iload_n (pc := 79) 1 C dX9_man_79 rfl rfl ?_
    refine j_callI0 (pc := 80) C (rC_State_roomOf_9 C dX9_man_80 q_532 (by omega) (Nat.le_of_ble_eq_true rfl) ⟨Nat.le_of_ble_eq_true rfl, Nat.le_of_ble_eq_true rfl⟩) ⟨Nat.le_of_ble_eq_true rfl, Nat.le_of_ble_eq_true rfl⟩ (fun r6 T5 => ?_)
    exact j_iret C dX9_man_83 rfl (Nat.le_of_ble_eq_true rfl) (Nat.le_of_ble_eq_true rfl)
  refine j_tswC (pc := 6) (off := 78) 84 3 C dX9_man_6 (by decide) (by decide) (by decide) (by decide) ?_ (fun h6_3 => ?_)
  ·
    refine j_aload_n (pc := 84) 0 C dX9_man_84 rfl rfl ?_
    refine gC_0_8 (pc := 85) C dX9_man_85 q_171 ?_
    refine j_iload_n (pc := 88) 1 C dX9_man_88 rfl rfl ?_
    refine j_callI0 (pc := 89) C (rC_State_linesOf_9 C dX9_man_89 q_533 (by omega) (Nat.le_of_ble_eq_true rfl) ⟨Nat.le_of_ble_eq_true rfl, Nat.le_of_ble_eq_true rfl⟩) ⟨Nat.le_of_ble_eq_true rfl, Nat.le_of_ble_eq_true rfl⟩ (fun r8 T7 => ?_)
    exact j_iret C dX9_man_92 rfl (Nat.le_of_ble_eq_true rfl) (Nat.le_of_ble_eq_true rfl)
  refine j_tswC (pc := 6) (off := 87) 93 4 C dX9_man_6 (by decide) (by decide) (by decide) (by decide) ?_ (fun h6_4 => ?_)
  ·
    refine j_aload_n (pc := 93) 0 C dX9_man_93 rfl rfl ?_
    refine gC_0_8 (pc := 94) C dX9_man_94 q_171 ?_
    refine j_iload_n (pc := 97) 1 C dX9_man_97 rfl rfl ?_
    refine j_callI0 (pc := 98) C (rC_State_lessonsOf_9 C dX9_man_98 q_537 (by omega) (Nat.le_of_ble_eq_true rfl) ⟨Nat.le_of_ble_eq_true rfl, Nat.le_of_ble_eq_true rfl⟩) ⟨Nat.le_of_ble_eq_true rfl, Nat.le_of_ble_eq_true rfl⟩ (fun r10 T9 => ?_)
    exact j_iret C dX9_man_101 rfl (Nat.le_of_ble_eq_true rfl) (Nat.le_of_ble_eq_true rfl)
  refine j_tswC (pc := 6) (off := 96) 102 5 C dX9_man_6 (by decide) (by decide) (by decide) (by decide) ?_ (fun h6_5 => ?_)
  ·
    refine j_aload_n (pc := 102) 0 C dX9_man_102 rfl rfl ?_
    refine gC_0_8 (pc := 103) C dX9_man_103 q_171 ?_
    refine j_iload_n (pc := 106) 1 C dX9_man_106 rfl rfl ?_
    refine j_callI0 (pc := 107) C (rC_State_weekLessonsOf_9 C dX9_man_107 q_541 (by omega) (Nat.le_of_ble_eq_true rfl) ⟨Nat.le_of_ble_eq_true rfl, Nat.le_of_ble_eq_true rfl⟩) ⟨Nat.le_of_ble_eq_true rfl, Nat.le_of_ble_eq_true rfl⟩ (fun r12 T11 => ?_)
    exact j_iret C dX9_man_110 rfl (Nat.le_of_ble_eq_true rfl) (Nat.le_of_ble_eq_true rfl)
  refine j_tswC (pc := 6) (off := 105) 111 6 C dX9_man_6 (by decide) (by decide) (by decide) (by decide) ?_ (fun h6_6 => ?_)
  ·
    refine j_aload_n (pc := 111) 0 C dX9_man_111 rfl rfl ?_
    refine gC_0_8 (pc := 112) C dX9_man_112 q_171 ?_
    refine j_iload_n (pc := 115) 1 C dX9_man_115 rfl rfl ?_
    refine j_callI0 (pc := 116) C (rC_State_slipsOf_9 C dX9_man_116 q_545 (by omega) (Nat.le_of_ble_eq_true rfl) ⟨Nat.le_of_ble_eq_true rfl, Nat.le_of_ble_eq_true rfl⟩) ⟨Nat.le_of_ble_eq_true rfl, Nat.le_of_ble_eq_true rfl⟩ (fun r14 T13 => ?_)
    exact j_iret C dX9_man_119 rfl (Nat.le_of_ble_eq_true rfl) (Nat.le_of_ble_eq_true rfl)
  refine j_tswC (pc := 6) (off := 114) 120 7 C dX9_man_6 (by decide) (by decide) (by decide) (by decide) ?_ (fun h6_7 => ?_)
  ·
    refine j_aload_n (pc := 120) 0 C dX9_man_120 rfl rfl ?_
    refine gC_0_1 (pc := 121) C dX9_man_121 q_148 ?_
    refine j_iload_n (pc := 124) 1 C dX9_man_124 rfl rfl ?_
    refine j_callI0 (pc := 125) C (rC_Valley_debtsOfMan_2 C dX9_man_125 q_549 (by omega) (Nat.le_of_ble_eq_true rfl) ⟨Nat.le_of_ble_eq_true rfl, Nat.le_of_ble_eq_true rfl⟩) ⟨Nat.le_of_ble_eq_true rfl, Nat.le_of_ble_eq_true rfl⟩ (fun r16 T15 => ?_)
    refine j_aload_n (pc := 128) 0 C dX9_man_128 rfl rfl ?_
    refine gC_0_8 (pc := 129) C dX9_man_129 q_171 ?_
    refine j_callI0 (pc := 132) C (rC_State_paidBits_9 C dX9_man_132 q_475 (by omega) (Nat.le_of_ble_eq_true rfl) ⟨Nat.le_of_ble_eq_true rfl, Nat.le_of_ble_eq_true rfl⟩) ⟨Nat.le_of_ble_eq_true rfl, Nat.le_of_ble_eq_true rfl⟩ (fun r18 T17 => ?_)
    refine j_iconst (pc := 135) (-1) C dX9_man_135 (by decide) ?_
    refine j_ixor (pc := 136) C dX9_man_136 ?_
    refine j_iand (pc := 137) C dX9_man_137 ?_
    exact j_iret C dX9_man_138 rfl (Nat.le_of_ble_eq_true rfl) (Nat.le_of_ble_eq_true rfl)
  refine j_tswC (pc := 6) (off := 133) 139 8 C dX9_man_6 (by decide) (by decide) (by decide) (by decide) ?_ (fun h6_8 => ?_)
  ·
    refine j_aload_n (pc := 139) 0 C dX9_man_139 rfl rfl ?_
    refine gC_0_8 (pc := 140) C dX9_man_140 q_171 ?_
    refine j_iload_n (pc := 143) 1 C dX9_man_143 rfl rfl ?_
    refine j_callI0 (pc := 144) C (rC_State_freshBitsOf_9 C dX9_man_144 q_553 (by omega) (Nat.le_of_ble_eq_true rfl) ⟨Nat.le_of_ble_eq_true rfl, Nat.le_of_ble_eq_true rfl⟩) ⟨Nat.le_of_ble_eq_true rfl, Nat.le_of_ble_eq_true rfl⟩ (fun r20 T19 => ?_)
    exact j_iret C dX9_man_147 rfl (Nat.le_of_ble_eq_true rfl) (Nat.le_of_ble_eq_true rfl)
  refine j_tswD (pc := 6) 148 C dX9_man_6 (by have := ne_i (z := 0) h6_0 (by decide); have := ne_i (z := 1) h6_1 (by decide); have := ne_i (z := 2) h6_2 (by decide); have := ne_i (z := 3) h6_3 (by decide); have := ne_i (z := 4) h6_4 (by decide); have := ne_i (z := 5) h6_5 (by decide); have := ne_i (z := 6) h6_6 (by decide); have := ne_i (z := 7) h6_7 (by decide); have := ne_i (z := 8) h6_8 (by decide); omega) (by decide) ?_
  refine j_aload_n (pc := 148) 0 C dX9_man_148 rfl rfl ?_
  refine j_callI (pc := 149) C (rC_Main_refuseArgument C dX9_man_149 q_56 (by omega) (Nat.le_of_ble_eq_true rfl) ⟨Nat.le_of_ble_eq_true rfl, Nat.le_of_ble_eq_true rfl⟩) ⟨Nat.le_of_ble_eq_true rfl, Nat.le_of_ble_eq_true rfl⟩ (fun r22 T21 => ?_)
  exact j_iret C dX9_man_152 rfl (Nat.le_of_ble_eq_true rfl) (Nat.le_of_ble_eq_true rfl)
theorem cC_Main_man {l : Launch} {G : Gc} (hfl : l.stackTraces = false) (hW : Wok G wC 54)   (x1 : Int32) (x2 : Int32) (S : St) : Ct l yX9_man (Cond.code yX9_man cX9_man 3 (some .int) :: tblG) 8 2 12 G wC 54 [.ref (gA G 0), .int x1, .int x2] S (fC_Main_man x1 x2 S) := ct_of (own := RX9) hfl (by decide +kernel) rfl hW (Nat.le_of_ble_eq_true rfl) (fun E hE C => by subst hE; exact bC_Main_man C   x1 x2 S)
theorem rC_Main_man {E : Ec} {G : Gc} {nL mc ms : Nat} {own : String} {cc : ByteArray} {L : Nat} {ret : Option FieldType} {k n pc ix : Nat} {loc : List (Nat × Value)} {rest : List Value}  {x1 : Int32} {x2 : Int32} {S : St}  (C : JC E (VC G nL mc ms own) cc L ret) (hd : decode cc pc = .ok (.invokevirtual ix, 3)) (hq : Cond.methodLink own ix yX9_man ∈ tblG) (hL : 8 + 1 ≤ L) (hW : (rest.map fun v => v.category).sum ≤ 8) (hf : k + 2 ≤ mc ∧ n + 12 ≤ ms) : Rn E (VC G nL mc ms own) k n 2 12 pc loc (.int x2 :: .int x1 :: .ref (gA G 0) :: rest) rest S (fC_Main_man x1 x2 S) := rn_V (ci := 9) 0 (V := VC G nL mc ms own) (As := [.int x1, .int x2]) (Cq := (RX9, TX9, 15)) (cC_Main_man C.flags C.wok  x1 x2 S) knX9_man ⟨q_555, q_556⟩ rfl rfl C hd hq hL rfl rfl hW hf

theorem knX9_needDebt : Kn yX9_needDebt cX9_needDebt 2 none 1 := ⟨q_557, q_40, by decide +kernel, by decide⟩
theorem bC_Main_needDebt {E : Ec} {G : Gc}    (C : JC E (VC G 2 1 6 RX9) cX9_needDebt 7 none)    (x1 : Int32) (S : St) : J E (VC G 2 1 6 RX9) 0 0 0 [(0, .ref (gA G 0)), (1, .int x1)] [] S (fC_Main_needDebt  x1 S) := by
  unfold fC_Main_needDebt
  refine j_aload_n (pc := 0) 0 C dX9_needDebt_0 rfl rfl ?_
  refine j_iload_n (pc := 1) 1 C dX9_needDebt_1 rfl rfl ?_
  refine j_aload_n (pc := 2) 0 C dX9_needDebt_2 rfl rfl ?_
  refine gC_0_1 (pc := 3) C dX9_needDebt_3 q_148 ?_
  refine gC_2_2 (pc := 6) C dX9_needDebt_6 q_187 ?_
  refine j_callv (pc := 9) C (rC_Main_needElement C dX9_needDebt_9 q_504 (by omega) (Nat.le_of_ble_eq_true rfl) ⟨Nat.le_of_ble_eq_true rfl, Nat.le_of_ble_eq_true rfl⟩) ⟨Nat.le_of_ble_eq_true rfl, Nat.le_of_ble_eq_true rfl⟩ (fun T1 => ?_)
  exact j_vret C dX9_needDebt_12 rfl (Nat.le_of_ble_eq_true rfl) (Nat.le_of_ble_eq_true rfl)
theorem cC_Main_needDebt {l : Launch} {G : Gc} (hfl : l.stackTraces = false) (hW : Wok G wC 54)   (x1 : Int32) (S : St) : Ct l yX9_needDebt (Cond.code yX9_needDebt cX9_needDebt 2 none :: tblG) 7 1 6 G wC 54 [.ref (gA G 0), .int x1] S (fC_Main_needDebt x1 S) := ct_of (own := RX9) hfl (by decide +kernel) rfl hW (Nat.le_of_ble_eq_true rfl) (fun E hE C => by subst hE; exact bC_Main_needDebt C   x1 S)
theorem rC_Main_needDebt {E : Ec} {G : Gc} {nL mc ms : Nat} {own : String} {cc : ByteArray} {L : Nat} {ret : Option FieldType} {k n pc ix : Nat} {loc : List (Nat × Value)} {rest : List Value}  {x1 : Int32} {S : St}  (C : JC E (VC G nL mc ms own) cc L ret) (hd : decode cc pc = .ok (.invokevirtual ix, 3)) (hq : Cond.methodLink own ix yX9_needDebt ∈ tblG) (hL : 7 + 1 ≤ L) (hW : (rest.map fun v => v.category).sum ≤ 8) (hf : k + 1 ≤ mc ∧ n + 6 ≤ ms) : Rn E (VC G nL mc ms own) k n 1 6 pc loc (.int x1 :: .ref (gA G 0) :: rest) rest S (fC_Main_needDebt x1 S) := rn_V (ci := 9) 0 (V := VC G nL mc ms own) (As := [.int x1]) (Cq := (RX9, TX9, 15)) (cC_Main_needDebt C.flags C.wok  x1 S) knX9_needDebt ⟨q_558, q_559⟩ rfl rfl C hd hq hL rfl rfl hW hf

theorem knX5_needOf : Kn yX5_needOf cX5_needOf 6 (some .int) 1 := ⟨q_567, q_174, by decide +kernel, by decide⟩
theorem bC_State_needOf_9 {E : Ec} {G : Gc}    (C : JC E (VC G 6 0 0 RX5) cX5_needOf 4 (some .int))    (x1 : Int32) (S : St) : J E (VC G 6 0 0 RX5) 0 0 0 [(0, .ref (gA G 9)), (1, .int x1)] [] S (fC_State_needOf_9  x1 S) := by
  unfold fC_State_needOf_9
  refine j_aload_n (pc := 0) 0 C dX5_needOf_0 rfl rfl ?_
  refine gC_9_1 (pc := 1) C dX5_needOf_1 q_301 ?_
  refine gC_2_8 (pc := 4) C dX5_needOf_4 q_368 ?_
  refine j_iload_n (pc := 7) 1 C dX5_needOf_7 rfl rfl ?_
  refine aC_19 (pc := 8) C dX5_needOf_8 ?_
  refine j_nxI (fun v1 => ?_)
  refine j_istore_n (pc := 9) [(2, .int v1), (0, .ref (gA G 9)), (1, .int x1)] C dX5_needOf_9 rfl (Nat.le_of_ble_eq_true rfl) rfl ?_
  refine j_aload_n (pc := 10) 1 C dX5_needOf_10 rfl rfl ?_
  refine gC_9_1 (pc := 11) C dX5_needOf_11 q_301 ?_
  refine gC_2_9 (pc := 14) C dX5_needOf_14 q_369 ?_
  refine j_iload_n (pc := 17) 2 C dX5_needOf_17 rfl rfl ?_
  refine aC_20 (pc := 18) C dX5_needOf_18 ?_
  refine j_nxI (fun v2 => ?_)
  refine j_istore_n (pc := 19) [(3, .int v2), (2, .int v1), (0, .ref (gA G 9)), (1, .int x1)] C dX5_needOf_19 rfl (Nat.le_of_ble_eq_true rfl) rfl ?_
  refine j_aload_n (pc := 20) 2 C dX5_needOf_20 rfl rfl ?_
  refine gC_9_1 (pc := 21) C dX5_needOf_21 q_301 ?_
  refine gC_2_4 (pc := 24) C dX5_needOf_24 q_325 ?_
  refine j_iload_n (pc := 27) 0 C dX5_needOf_27 rfl rfl ?_
  refine aC_15 (pc := 28) C dX5_needOf_28 ?_
  refine j_aload_n (pc := 29) 2 C dX5_needOf_29 rfl rfl ?_
  refine gC_9_0 (pc := 30) C dX5_needOf_30 q_172 ?_
  refine j_iload_n (pc := 33) 1 C dX5_needOf_33 rfl rfl ?_
  refine j_iload_n (pc := 34) 0 C dX5_needOf_34 rfl rfl ?_
  refine j_callI0 (pc := 35) C (rC_State_place C dX5_needOf_35 q_315 (by omega) (Nat.le_of_ble_eq_true rfl) ⟨Nat.le_of_ble_eq_true rfl, Nat.le_of_ble_eq_true rfl⟩) ⟨Nat.le_of_ble_eq_true rfl, Nat.le_of_ble_eq_true rfl⟩ (fun r4 T3 => ?_)
  refine aC_46 (pc := 38) C dX5_needOf_38 ?_
  refine j_isub (pc := 39) C dX5_needOf_39 ?_
  refine j_nxI (fun v5 => ?_)
  refine j_istore (pc := 40) [(4, .int v5), (3, .int v2), (2, .int v1), (0, .ref (gA G 9)), (1, .int x1)] C dX5_needOf_40 (Nat.le_of_ble_eq_true rfl) rfl ?_
  refine j_iload (pc := 42) 0 C dX5_needOf_42 rfl ?_
  refine j_if_gt (pc := 44) 49 C dX5_needOf_44 (by decide) ?_ ?_
  ·
    refine j_aload_n (pc := 49) 3 C dX5_needOf_49 rfl rfl ?_
    refine j_iload_n (pc := 50) 2 C dX5_needOf_50 rfl rfl ?_
    refine j_iload_n (pc := 51) 1 C dX5_needOf_51 rfl rfl ?_
    refine j_aload_n (pc := 52) 3 C dX5_needOf_52 rfl rfl ?_
    refine j_iload_n (pc := 53) 2 C dX5_needOf_53 rfl rfl ?_
    refine j_callI0 (pc := 54) C (rC_State_roomOf_9 C dX5_needOf_54 q_323 (by omega) (Nat.le_of_ble_eq_true rfl) ⟨Nat.le_of_ble_eq_true rfl, Nat.le_of_ble_eq_true rfl⟩) ⟨Nat.le_of_ble_eq_true rfl, Nat.le_of_ble_eq_true rfl⟩ (fun r7 T6 => ?_)
    refine j_callI0 (pc := 57) C (rC_State_learnable_9 C dX5_needOf_57 q_351 (by omega) (Nat.le_of_ble_eq_true rfl) ⟨Nat.le_of_ble_eq_true rfl, Nat.le_of_ble_eq_true rfl⟩) ⟨Nat.le_of_ble_eq_true rfl, Nat.le_of_ble_eq_true rfl⟩ (fun r9 T8 => ?_)
    refine j_istore (pc := 60) [(5, .int r9), (4, .int v5), (3, .int v2), (2, .int v1), (0, .ref (gA G 9)), (1, .int x1)] C dX5_needOf_60 (Nat.le_of_ble_eq_true rfl) rfl ?_
    refine j_iload (pc := 62) 0 C dX5_needOf_62 rfl ?_
    refine j_if_gt (pc := 64) 72 C dX5_needOf_64 (by decide) ?_ ?_
    ·
      refine j_iload (pc := 72) 1 C dX5_needOf_72 rfl ?_
      refine j_iload (pc := 74) 0 C dX5_needOf_74 rfl ?_
      refine j_iadd (pc := 76) C dX5_needOf_76 ?_
      refine j_iconst (pc := 77) 1 C dX5_needOf_77 (by decide) ?_
      refine j_isub (pc := 78) C dX5_needOf_78 ?_
      refine j_iload (pc := 79) 0 C dX5_needOf_79 rfl ?_
      refine j_idiv (pc := 81) C dX5_needOf_81 ?_
      exact j_iret C dX5_needOf_82 rfl (Nat.le_of_ble_eq_true rfl) (Nat.le_of_ble_eq_true rfl)
    ·
      refine j_bipush (pc := 67) 41 C dX5_needOf_67 (by decide) ?_
      refine j_goto (pc := 69) 82 C dX5_needOf_69 (by decide) ?_
      exact j_iret C dX5_needOf_82 rfl (Nat.le_of_ble_eq_true rfl) (Nat.le_of_ble_eq_true rfl)
  ·
    refine j_iconst (pc := 47) 0 C dX5_needOf_47 (by decide) ?_
    exact j_iret C dX5_needOf_48 rfl (Nat.le_of_ble_eq_true rfl) (Nat.le_of_ble_eq_true rfl)
theorem cC_State_needOf_9 {l : Launch} {G : Gc} (hfl : l.stackTraces = false) (hW : Wok G wC 54)   (x1 : Int32) (S : St) : Ct l yX5_needOf (Cond.code yX5_needOf cX5_needOf 6 (some .int) :: tblG) 4 0 0 G wC 54 [.ref (gA G 9), .int x1] S (fC_State_needOf_9 x1 S) := ct_of (own := RX5) hfl (by decide +kernel) rfl hW (Nat.le_of_ble_eq_true rfl) (fun E hE C => by subst hE; exact bC_State_needOf_9 C   x1 S)
theorem rC_State_needOf_9 {E : Ec} {G : Gc} {nL mc ms : Nat} {own : String} {cc : ByteArray} {L : Nat} {ret : Option FieldType} {k n pc ix : Nat} {loc : List (Nat × Value)} {rest : List Value}  {x1 : Int32} {S : St}  (C : JC E (VC G nL mc ms own) cc L ret) (hd : decode cc pc = .ok (.invokevirtual ix, 3)) (hq : Cond.methodLink own ix yX5_needOf ∈ tblG) (hL : 4 + 1 ≤ L) (hW : (rest.map fun v => v.category).sum ≤ 8) (hf : k + 0 ≤ mc ∧ n + 0 ≤ ms) : Rn E (VC G nL mc ms own) k n 0 0 pc loc (.int x1 :: .ref (gA G 9) :: rest) rest S (fC_State_needOf_9 x1 S) := rn_V (ci := 5) 9 (V := VC G nL mc ms own) (As := [.int x1]) (Cq := (RX5, TX5, 3)) (cC_State_needOf_9 C.flags C.wok  x1 S) knX5_needOf ⟨q_568, q_569⟩ rfl rfl C hd hq hL rfl rfl hW hf

theorem knX9_debt : Kn yX9_debt cX9_debt 3 (some .int) 2 := ⟨q_571, q_40, by decide +kernel, by decide⟩
theorem bC_Main_debt {E : Ec} {G : Gc}    (C : JC E (VC G 3 2 12 RX9) cX9_debt 8 (some .int))    (x1 : Int32) (x2 : Int32) (S : St) : J E (VC G 3 2 12 RX9) 0 0 0 [(0, .ref (gA G 0)), (1, .int x1), (2, .int x2)] [] S (fC_Main_debt  x1 x2 S) := by
  unfold fC_Main_debt
  refine j_aload_n (pc := 0) 0 C dX9_debt_0 rfl rfl ?_
  refine j_iload_n (pc := 1) 1 C dX9_debt_1 rfl rfl ?_
  refine j_callv (pc := 2) C (rC_Main_needDebt C dX9_debt_2 q_560 (by omega) (Nat.le_of_ble_eq_true rfl) ⟨Nat.le_of_ble_eq_true rfl, Nat.le_of_ble_eq_true rfl⟩) ⟨Nat.le_of_ble_eq_true rfl, Nat.le_of_ble_eq_true rfl⟩ (fun T1 => ?_)
  refine j_iload_n (pc := 5) 2 C dX9_debt_5 rfl rfl ?_
  refine j_tswC (pc := 6) (off := 42) 48 0 C dX9_debt_6 (by decide) (by decide) (by decide) (by decide) ?_ (fun h6_0 => ?_)
  ·
    refine j_aload_n (pc := 48) 0 C dX9_debt_48 rfl rfl ?_
    refine gC_0_1 (pc := 49) C dX9_debt_49 q_148 ?_
    refine gC_2_8 (pc := 52) C dX9_debt_52 q_561 ?_
    refine j_iload_n (pc := 55) 1 C dX9_debt_55 rfl rfl ?_
    refine aC_19 (pc := 56) C dX9_debt_56 ?_
    exact j_iret C dX9_debt_57 rfl (Nat.le_of_ble_eq_true rfl) (Nat.le_of_ble_eq_true rfl)
  refine j_tswC (pc := 6) (off := 52) 58 1 C dX9_debt_6 (by decide) (by decide) (by decide) (by decide) ?_ (fun h6_1 => ?_)
  ·
    refine j_aload_n (pc := 58) 0 C dX9_debt_58 rfl rfl ?_
    refine gC_0_1 (pc := 59) C dX9_debt_59 q_148 ?_
    refine gC_2_9 (pc := 62) C dX9_debt_62 q_562 ?_
    refine j_iload_n (pc := 65) 1 C dX9_debt_65 rfl rfl ?_
    refine aC_20 (pc := 66) C dX9_debt_66 ?_
    exact j_iret C dX9_debt_67 rfl (Nat.le_of_ble_eq_true rfl) (Nat.le_of_ble_eq_true rfl)
  refine j_tswC (pc := 6) (off := 62) 68 2 C dX9_debt_6 (by decide) (by decide) (by decide) (by decide) ?_ (fun h6_2 => ?_)
  ·
    refine j_aload_n (pc := 68) 0 C dX9_debt_68 rfl rfl ?_
    refine gC_0_1 (pc := 69) C dX9_debt_69 q_148 ?_
    refine gC_2_10 (pc := 72) C dX9_debt_72 q_563 ?_
    refine j_iload_n (pc := 75) 1 C dX9_debt_75 rfl rfl ?_
    refine aC_21 (pc := 76) C dX9_debt_76 ?_
    exact j_iret C dX9_debt_77 rfl (Nat.le_of_ble_eq_true rfl) (Nat.le_of_ble_eq_true rfl)
  refine j_tswC (pc := 6) (off := 72) 78 3 C dX9_debt_6 (by decide) (by decide) (by decide) (by decide) ?_ (fun h6_3 => ?_)
  ·
    refine j_aload_n (pc := 78) 0 C dX9_debt_78 rfl rfl ?_
    refine gC_0_1 (pc := 79) C dX9_debt_79 q_148 ?_
    refine gC_2_11 (pc := 82) C dX9_debt_82 q_564 ?_
    refine j_iload_n (pc := 85) 1 C dX9_debt_85 rfl rfl ?_
    refine aC_22 (pc := 86) C dX9_debt_86 ?_
    exact j_iret C dX9_debt_87 rfl (Nat.le_of_ble_eq_true rfl) (Nat.le_of_ble_eq_true rfl)
  refine j_tswC (pc := 6) (off := 82) 88 4 C dX9_debt_6 (by decide) (by decide) (by decide) (by decide) ?_ (fun h6_4 => ?_)
  ·
    refine j_aload_n (pc := 88) 0 C dX9_debt_88 rfl rfl ?_
    refine gC_0_8 (pc := 89) C dX9_debt_89 q_171 ?_
    refine j_iload_n (pc := 92) 1 C dX9_debt_92 rfl rfl ?_
    refine j_callI0 (pc := 93) C (rC_State_isPaid_9 C dX9_debt_93 q_565 (by omega) (Nat.le_of_ble_eq_true rfl) ⟨Nat.le_of_ble_eq_true rfl, Nat.le_of_ble_eq_true rfl⟩) ⟨Nat.le_of_ble_eq_true rfl, Nat.le_of_ble_eq_true rfl⟩ (fun r4 T3 => ?_)
    refine j_if_eq (pc := 96) 103 C dX9_debt_96 (by decide) ?_ ?_
    ·
      refine j_iconst (pc := 103) 0 C dX9_debt_103 (by decide) ?_
      exact j_iret C dX9_debt_104 rfl (Nat.le_of_ble_eq_true rfl) (Nat.le_of_ble_eq_true rfl)
    ·
      refine j_iconst (pc := 99) 1 C dX9_debt_99 (by decide) ?_
      refine j_goto (pc := 100) 104 C dX9_debt_100 (by decide) ?_
      exact j_iret C dX9_debt_104 rfl (Nat.le_of_ble_eq_true rfl) (Nat.le_of_ble_eq_true rfl)
  refine j_tswC (pc := 6) (off := 99) 105 5 C dX9_debt_6 (by decide) (by decide) (by decide) (by decide) ?_ (fun h6_5 => ?_)
  ·
    refine j_aload_n (pc := 105) 0 C dX9_debt_105 rfl rfl ?_
    refine gC_0_8 (pc := 106) C dX9_debt_106 q_171 ?_
    refine j_iload_n (pc := 109) 1 C dX9_debt_109 rfl rfl ?_
    refine j_callI0 (pc := 110) C (rC_State_isWellKnown_9 C dX9_debt_110 q_566 (by omega) (Nat.le_of_ble_eq_true rfl) ⟨Nat.le_of_ble_eq_true rfl, Nat.le_of_ble_eq_true rfl⟩) ⟨Nat.le_of_ble_eq_true rfl, Nat.le_of_ble_eq_true rfl⟩ (fun r6 T5 => ?_)
    refine j_if_eq (pc := 113) 120 C dX9_debt_113 (by decide) ?_ ?_
    ·
      refine j_iconst (pc := 120) 0 C dX9_debt_120 (by decide) ?_
      exact j_iret C dX9_debt_121 rfl (Nat.le_of_ble_eq_true rfl) (Nat.le_of_ble_eq_true rfl)
    ·
      refine j_iconst (pc := 116) 1 C dX9_debt_116 (by decide) ?_
      refine j_goto (pc := 117) 121 C dX9_debt_117 (by decide) ?_
      exact j_iret C dX9_debt_121 rfl (Nat.le_of_ble_eq_true rfl) (Nat.le_of_ble_eq_true rfl)
  refine j_tswC (pc := 6) (off := 116) 122 6 C dX9_debt_6 (by decide) (by decide) (by decide) (by decide) ?_ (fun h6_6 => ?_)
  ·
    refine j_aload_n (pc := 122) 0 C dX9_debt_122 rfl rfl ?_
    refine gC_0_8 (pc := 123) C dX9_debt_123 q_171 ?_
    refine j_iload_n (pc := 126) 1 C dX9_debt_126 rfl rfl ?_
    refine j_callI0 (pc := 127) C (rC_State_isPaid_9 C dX9_debt_127 q_565 (by omega) (Nat.le_of_ble_eq_true rfl) ⟨Nat.le_of_ble_eq_true rfl, Nat.le_of_ble_eq_true rfl⟩) ⟨Nat.le_of_ble_eq_true rfl, Nat.le_of_ble_eq_true rfl⟩ (fun r8 T7 => ?_)
    refine j_if_eq (pc := 130) 137 C dX9_debt_130 (by decide) ?_ ?_
    ·
      refine j_aload_n (pc := 137) 0 C dX9_debt_137 rfl rfl ?_
      refine gC_0_8 (pc := 138) C dX9_debt_138 q_171 ?_
      refine j_iload_n (pc := 141) 1 C dX9_debt_141 rfl rfl ?_
      refine j_callI0 (pc := 142) C (rC_State_needOf_9 C dX9_debt_142 q_570 (by omega) (Nat.le_of_ble_eq_true rfl) ⟨Nat.le_of_ble_eq_true rfl, Nat.le_of_ble_eq_true rfl⟩) ⟨Nat.le_of_ble_eq_true rfl, Nat.le_of_ble_eq_true rfl⟩ (fun r10 T9 => ?_)
      exact j_iret C dX9_debt_145 rfl (Nat.le_of_ble_eq_true rfl) (Nat.le_of_ble_eq_true rfl)
    ·
      refine j_iconst (pc := 133) 0 C dX9_debt_133 (by decide) ?_
      refine j_goto (pc := 134) 145 C dX9_debt_134 (by decide) ?_
      exact j_iret C dX9_debt_145 rfl (Nat.le_of_ble_eq_true rfl) (Nat.le_of_ble_eq_true rfl)
  refine j_tswD (pc := 6) 146 C dX9_debt_6 (by have := ne_i (z := 0) h6_0 (by decide); have := ne_i (z := 1) h6_1 (by decide); have := ne_i (z := 2) h6_2 (by decide); have := ne_i (z := 3) h6_3 (by decide); have := ne_i (z := 4) h6_4 (by decide); have := ne_i (z := 5) h6_5 (by decide); have := ne_i (z := 6) h6_6 (by decide); omega) (by decide) ?_
  refine j_aload_n (pc := 146) 0 C dX9_debt_146 rfl rfl ?_
  refine j_callI (pc := 147) C (rC_Main_refuseArgument C dX9_debt_147 q_56 (by omega) (Nat.le_of_ble_eq_true rfl) ⟨Nat.le_of_ble_eq_true rfl, Nat.le_of_ble_eq_true rfl⟩) ⟨Nat.le_of_ble_eq_true rfl, Nat.le_of_ble_eq_true rfl⟩ (fun r12 T11 => ?_)
  exact j_iret C dX9_debt_150 rfl (Nat.le_of_ble_eq_true rfl) (Nat.le_of_ble_eq_true rfl)
theorem cC_Main_debt {l : Launch} {G : Gc} (hfl : l.stackTraces = false) (hW : Wok G wC 54)   (x1 : Int32) (x2 : Int32) (S : St) : Ct l yX9_debt (Cond.code yX9_debt cX9_debt 3 (some .int) :: tblG) 8 2 12 G wC 54 [.ref (gA G 0), .int x1, .int x2] S (fC_Main_debt x1 x2 S) := ct_of (own := RX9) hfl (by decide +kernel) rfl hW (Nat.le_of_ble_eq_true rfl) (fun E hE C => by subst hE; exact bC_Main_debt C   x1 x2 S)
theorem rC_Main_debt {E : Ec} {G : Gc} {nL mc ms : Nat} {own : String} {cc : ByteArray} {L : Nat} {ret : Option FieldType} {k n pc ix : Nat} {loc : List (Nat × Value)} {rest : List Value}  {x1 : Int32} {x2 : Int32} {S : St}  (C : JC E (VC G nL mc ms own) cc L ret) (hd : decode cc pc = .ok (.invokevirtual ix, 3)) (hq : Cond.methodLink own ix yX9_debt ∈ tblG) (hL : 8 + 1 ≤ L) (hW : (rest.map fun v => v.category).sum ≤ 8) (hf : k + 2 ≤ mc ∧ n + 12 ≤ ms) : Rn E (VC G nL mc ms own) k n 2 12 pc loc (.int x2 :: .int x1 :: .ref (gA G 0) :: rest) rest S (fC_Main_debt x1 x2 S) := rn_V (ci := 9) 0 (V := VC G nL mc ms own) (As := [.int x1, .int x2]) (Cq := (RX9, TX9, 15)) (cC_Main_debt C.flags C.wok  x1 x2 S) knX9_debt ⟨q_572, q_573⟩ rfl rfl C hd hq hL rfl rfl hW hf

theorem knX5_linesKnown : Kn yX5_linesKnown cX5_linesKnown 3 (some .int) 2 := ⟨q_574, q_174, by decide +kernel, by decide⟩
theorem bC_State_linesKnown_9 {E : Ec} {G : Gc}    (C : JC E (VC G 3 0 0 RX5) cX5_linesKnown 2 (some .int))    (x1 : Int32) (x2 : Int32) (S : St) : J E (VC G 3 0 0 RX5) 0 0 0 [(0, .ref (gA G 9)), (1, .int x1), (2, .int x2)] [] S (fC_State_linesKnown_9  x1 x2 S) := by
  unfold fC_State_linesKnown_9
  refine j_aload_n (pc := 0) 0 C dX5_linesKnown_0 rfl rfl ?_
  refine gC_9_0 (pc := 1) C dX5_linesKnown_1 q_172 ?_
  refine j_iload_n (pc := 4) 1 C dX5_linesKnown_4 rfl rfl ?_
  refine j_iload_n (pc := 5) 2 C dX5_linesKnown_5 rfl rfl ?_
  refine j_callI0 (pc := 6) C (rC_State_place C dX5_linesKnown_6 q_315 (by omega) (Nat.le_of_ble_eq_true rfl) ⟨Nat.le_of_ble_eq_true rfl, Nat.le_of_ble_eq_true rfl⟩) ⟨Nat.le_of_ble_eq_true rfl, Nat.le_of_ble_eq_true rfl⟩ (fun r2 T1 => ?_)
  refine aC_46 (pc := 9) C dX5_linesKnown_9 ?_
  exact j_iret C dX5_linesKnown_10 rfl (Nat.le_of_ble_eq_true rfl) (Nat.le_of_ble_eq_true rfl)
theorem cC_State_linesKnown_9 {l : Launch} {G : Gc} (hfl : l.stackTraces = false) (hW : Wok G wC 54)   (x1 : Int32) (x2 : Int32) (S : St) : Ct l yX5_linesKnown (Cond.code yX5_linesKnown cX5_linesKnown 3 (some .int) :: tblG) 2 0 0 G wC 54 [.ref (gA G 9), .int x1, .int x2] S (fC_State_linesKnown_9 x1 x2 S) := ct_of (own := RX5) hfl (by decide +kernel) rfl hW (Nat.le_of_ble_eq_true rfl) (fun E hE C => by subst hE; exact bC_State_linesKnown_9 C   x1 x2 S)
theorem rC_State_linesKnown_9 {E : Ec} {G : Gc} {nL mc ms : Nat} {own : String} {cc : ByteArray} {L : Nat} {ret : Option FieldType} {k n pc ix : Nat} {loc : List (Nat × Value)} {rest : List Value}  {x1 : Int32} {x2 : Int32} {S : St}  (C : JC E (VC G nL mc ms own) cc L ret) (hd : decode cc pc = .ok (.invokevirtual ix, 3)) (hq : Cond.methodLink own ix yX5_linesKnown ∈ tblG) (hL : 2 + 1 ≤ L) (hW : (rest.map fun v => v.category).sum ≤ 8) (hf : k + 0 ≤ mc ∧ n + 0 ≤ ms) : Rn E (VC G nL mc ms own) k n 0 0 pc loc (.int x2 :: .int x1 :: .ref (gA G 9) :: rest) rest S (fC_State_linesKnown_9 x1 x2 S) := rn_V (ci := 5) 9 (V := VC G nL mc ms own) (As := [.int x1, .int x2]) (Cq := (RX5, TX5, 3)) (cC_State_linesKnown_9 C.flags C.wok  x1 x2 S) knX5_linesKnown ⟨q_575, q_576⟩ rfl rfl C hd hq hL rfl rfl hW hf

theorem knX9_knows : Kn yX9_knows cX9_knows 3 (some .int) 2 := ⟨q_578, q_40, by decide +kernel, by decide⟩
theorem bC_Main_knows {E : Ec} {G : Gc}    (C : JC E (VC G 3 2 12 RX9) cX9_knows 8 (some .int))    (x1 : Int32) (x2 : Int32) (S : St) : J E (VC G 3 2 12 RX9) 0 0 0 [(0, .ref (gA G 0)), (1, .int x1), (2, .int x2)] [] S (fC_Main_knows  x1 x2 S) := by
  unfold fC_Main_knows
  refine j_aload_n (pc := 0) 0 C dX9_knows_0 rfl rfl ?_
  refine j_iload_n (pc := 1) 1 C dX9_knows_1 rfl rfl ?_
  refine j_callv (pc := 2) C (rC_Main_needMan C dX9_knows_2 q_529 (by omega) (Nat.le_of_ble_eq_true rfl) ⟨Nat.le_of_ble_eq_true rfl, Nat.le_of_ble_eq_true rfl⟩) ⟨Nat.le_of_ble_eq_true rfl, Nat.le_of_ble_eq_true rfl⟩ (fun T1 => ?_)
  refine j_aload_n (pc := 5) 0 C dX9_knows_5 rfl rfl ?_
  refine j_iload_n (pc := 6) 2 C dX9_knows_6 rfl rfl ?_
  refine j_callv (pc := 7) C (rC_Main_needPoem C dX9_knows_7 q_508 (by omega) (Nat.le_of_ble_eq_true rfl) ⟨Nat.le_of_ble_eq_true rfl, Nat.le_of_ble_eq_true rfl⟩) ⟨Nat.le_of_ble_eq_true rfl, Nat.le_of_ble_eq_true rfl⟩ (fun T3 => ?_)
  refine j_aload_n (pc := 10) 0 C dX9_knows_10 rfl rfl ?_
  refine gC_0_8 (pc := 11) C dX9_knows_11 q_171 ?_
  refine j_iload_n (pc := 14) 1 C dX9_knows_14 rfl rfl ?_
  refine j_iload_n (pc := 15) 2 C dX9_knows_15 rfl rfl ?_
  refine j_callI0 (pc := 16) C (rC_State_linesKnown_9 C dX9_knows_16 q_577 (by omega) (Nat.le_of_ble_eq_true rfl) ⟨Nat.le_of_ble_eq_true rfl, Nat.le_of_ble_eq_true rfl⟩) ⟨Nat.le_of_ble_eq_true rfl, Nat.le_of_ble_eq_true rfl⟩ (fun r6 T5 => ?_)
  exact j_iret C dX9_knows_19 rfl (Nat.le_of_ble_eq_true rfl) (Nat.le_of_ble_eq_true rfl)
theorem cC_Main_knows {l : Launch} {G : Gc} (hfl : l.stackTraces = false) (hW : Wok G wC 54)   (x1 : Int32) (x2 : Int32) (S : St) : Ct l yX9_knows (Cond.code yX9_knows cX9_knows 3 (some .int) :: tblG) 8 2 12 G wC 54 [.ref (gA G 0), .int x1, .int x2] S (fC_Main_knows x1 x2 S) := ct_of (own := RX9) hfl (by decide +kernel) rfl hW (Nat.le_of_ble_eq_true rfl) (fun E hE C => by subst hE; exact bC_Main_knows C   x1 x2 S)
theorem rC_Main_knows {E : Ec} {G : Gc} {nL mc ms : Nat} {own : String} {cc : ByteArray} {L : Nat} {ret : Option FieldType} {k n pc ix : Nat} {loc : List (Nat × Value)} {rest : List Value}  {x1 : Int32} {x2 : Int32} {S : St}  (C : JC E (VC G nL mc ms own) cc L ret) (hd : decode cc pc = .ok (.invokevirtual ix, 3)) (hq : Cond.methodLink own ix yX9_knows ∈ tblG) (hL : 8 + 1 ≤ L) (hW : (rest.map fun v => v.category).sum ≤ 8) (hf : k + 2 ≤ mc ∧ n + 12 ≤ ms) : Rn E (VC G nL mc ms own) k n 2 12 pc loc (.int x2 :: .int x1 :: .ref (gA G 0) :: rest) rest S (fC_Main_knows x1 x2 S) := rn_V (ci := 9) 0 (V := VC G nL mc ms own) (As := [.int x1, .int x2]) (Cq := (RX9, TX9, 15)) (cC_Main_knows C.flags C.wok  x1 x2 S) knX9_knows ⟨q_579, q_580⟩ rfl rfl C hd hq hL rfl rfl hW hf

theorem knX9_learns : Kn yX9_learns cX9_learns 3 (some .int) 2 := ⟨q_582, q_40, by decide +kernel, by decide⟩
theorem bC_Main_learns {E : Ec} {G : Gc}    (C : JC E (VC G 3 2 12 RX9) cX9_learns 8 (some .int))    (x1 : Int32) (x2 : Int32) (S : St) : J E (VC G 3 2 12 RX9) 0 0 0 [(0, .ref (gA G 0)), (1, .int x1), (2, .int x2)] [] S (fC_Main_learns  x1 x2 S) := by
  unfold fC_Main_learns
  refine j_aload_n (pc := 0) 0 C dX9_learns_0 rfl rfl ?_
  refine j_iload_n (pc := 1) 1 C dX9_learns_1 rfl rfl ?_
  refine j_callv (pc := 2) C (rC_Main_needMan C dX9_learns_2 q_529 (by omega) (Nat.le_of_ble_eq_true rfl) ⟨Nat.le_of_ble_eq_true rfl, Nat.le_of_ble_eq_true rfl⟩) ⟨Nat.le_of_ble_eq_true rfl, Nat.le_of_ble_eq_true rfl⟩ (fun T1 => ?_)
  refine j_aload_n (pc := 5) 0 C dX9_learns_5 rfl rfl ?_
  refine j_iload_n (pc := 6) 2 C dX9_learns_6 rfl rfl ?_
  refine j_callv (pc := 7) C (rC_Main_needPoem C dX9_learns_7 q_508 (by omega) (Nat.le_of_ble_eq_true rfl) ⟨Nat.le_of_ble_eq_true rfl, Nat.le_of_ble_eq_true rfl⟩) ⟨Nat.le_of_ble_eq_true rfl, Nat.le_of_ble_eq_true rfl⟩ (fun T3 => ?_)
  refine j_aload_n (pc := 10) 0 C dX9_learns_10 rfl rfl ?_
  refine gC_0_8 (pc := 11) C dX9_learns_11 q_171 ?_
  refine j_iload_n (pc := 14) 1 C dX9_learns_14 rfl rfl ?_
  refine j_iload_n (pc := 15) 2 C dX9_learns_15 rfl rfl ?_
  refine j_aload_n (pc := 16) 0 C dX9_learns_16 rfl rfl ?_
  refine gC_0_8 (pc := 17) C dX9_learns_17 q_171 ?_
  refine j_iload_n (pc := 20) 1 C dX9_learns_20 rfl rfl ?_
  refine j_callI0 (pc := 21) C (rC_State_roomOf_9 C dX9_learns_21 q_532 (by omega) (Nat.le_of_ble_eq_true rfl) ⟨Nat.le_of_ble_eq_true rfl, Nat.le_of_ble_eq_true rfl⟩) ⟨Nat.le_of_ble_eq_true rfl, Nat.le_of_ble_eq_true rfl⟩ (fun r6 T5 => ?_)
  refine j_callI0 (pc := 24) C (rC_State_learnable_9 C dX9_learns_24 q_581 (by omega) (Nat.le_of_ble_eq_true rfl) ⟨Nat.le_of_ble_eq_true rfl, Nat.le_of_ble_eq_true rfl⟩) ⟨Nat.le_of_ble_eq_true rfl, Nat.le_of_ble_eq_true rfl⟩ (fun r8 T7 => ?_)
  exact j_iret C dX9_learns_27 rfl (Nat.le_of_ble_eq_true rfl) (Nat.le_of_ble_eq_true rfl)
theorem cC_Main_learns {l : Launch} {G : Gc} (hfl : l.stackTraces = false) (hW : Wok G wC 54)   (x1 : Int32) (x2 : Int32) (S : St) : Ct l yX9_learns (Cond.code yX9_learns cX9_learns 3 (some .int) :: tblG) 8 2 12 G wC 54 [.ref (gA G 0), .int x1, .int x2] S (fC_Main_learns x1 x2 S) := ct_of (own := RX9) hfl (by decide +kernel) rfl hW (Nat.le_of_ble_eq_true rfl) (fun E hE C => by subst hE; exact bC_Main_learns C   x1 x2 S)
theorem rC_Main_learns {E : Ec} {G : Gc} {nL mc ms : Nat} {own : String} {cc : ByteArray} {L : Nat} {ret : Option FieldType} {k n pc ix : Nat} {loc : List (Nat × Value)} {rest : List Value}  {x1 : Int32} {x2 : Int32} {S : St}  (C : JC E (VC G nL mc ms own) cc L ret) (hd : decode cc pc = .ok (.invokevirtual ix, 3)) (hq : Cond.methodLink own ix yX9_learns ∈ tblG) (hL : 8 + 1 ≤ L) (hW : (rest.map fun v => v.category).sum ≤ 8) (hf : k + 2 ≤ mc ∧ n + 12 ≤ ms) : Rn E (VC G nL mc ms own) k n 2 12 pc loc (.int x2 :: .int x1 :: .ref (gA G 0) :: rest) rest S (fC_Main_learns x1 x2 S) := rn_V (ci := 9) 0 (V := VC G nL mc ms own) (As := [.int x1, .int x2]) (Cq := (RX9, TX9, 15)) (cC_Main_learns C.flags C.wok  x1 x2 S) knX9_learns ⟨q_583, q_584⟩ rfl rfl C hd hq hL rfl rfl hW hf

theorem knX9_would : Kn yX9_would cX9_would 9 (some .int) 8 := ⟨q_588, q_40, by decide +kernel, by decide⟩
theorem bC_Main_would_112 {E : Ec} {G : Gc}    (C : JC E (VC G 9 3 18 RX9) cX9_would 8 (some .int))    (x1 : Int32) (x2 : Int32) (x3 : Int32) (x4 : Int32) (x5 : Int32) (x6 : Int32) (x7 : Int32) (x8 : Int32) (s0 : Int32) (S : St) : J E (VC G 9 3 18 RX9) 2 12 112 [(0, .ref (gA G 0)), (1, .int x1), (2, .int x2), (3, .int x3), (4, .int x4), (5, .int x5), (6, .int x6), (7, .int x7), (8, .int x8)] [.int s0, .ref (gA G 0)] S (fC_Main_would_112  x1 x2 x3 x4 x5 x6 x7 x8 s0 S) := by
  unfold fC_Main_would_112
  refine j_callv (pc := 112) C (rC_Main_need C dX9_would_112 q_60 (by omega) (Nat.le_of_ble_eq_true rfl) ⟨Nat.le_of_ble_eq_true rfl, Nat.le_of_ble_eq_true rfl⟩) ⟨Nat.le_of_ble_eq_true rfl, Nat.le_of_ble_eq_true rfl⟩ (fun T1 => ?_)
  refine j_aload_n (pc := 115) 0 C dX9_would_115 rfl rfl ?_
  refine gC_0_3 (pc := 116) C dX9_would_116 q_157 ?_
  refine j_iload_n (pc := 119) 1 C dX9_would_119 rfl rfl ?_
  refine j_iload_n (pc := 120) 2 C dX9_would_120 rfl rfl ?_
  refine j_iload_n (pc := 121) 3 C dX9_would_121 rfl rfl ?_
  refine j_callv0 (pc := 122) C (rC_Law_tellPoem_4 C dX9_would_122 q_585 (by omega) (Nat.le_of_ble_eq_true rfl) ⟨Nat.le_of_ble_eq_true rfl, Nat.le_of_ble_eq_true rfl⟩) ⟨Nat.le_of_ble_eq_true rfl, Nat.le_of_ble_eq_true rfl⟩ (fun T3 => ?_)
  refine j_aload_n (pc := 125) 0 C dX9_would_125 rfl rfl ?_
  refine gC_0_3 (pc := 126) C dX9_would_126 q_157 ?_
  refine j_iload (pc := 129) 4 C dX9_would_129 rfl ?_
  refine j_iload (pc := 131) 5 C dX9_would_131 rfl ?_
  refine j_iload (pc := 133) 6 C dX9_would_133 rfl ?_
  refine j_iload (pc := 135) 7 C dX9_would_135 rfl ?_
  refine j_iload (pc := 137) 8 C dX9_would_137 rfl ?_
  refine j_callv0 (pc := 139) C (rC_Law_tellMan_4 C dX9_would_139 q_586 (by omega) (Nat.le_of_ble_eq_true rfl) ⟨Nat.le_of_ble_eq_true rfl, Nat.le_of_ble_eq_true rfl⟩) ⟨Nat.le_of_ble_eq_true rfl, Nat.le_of_ble_eq_true rfl⟩ (fun T5 => ?_)
  refine j_aload_n (pc := 142) 0 C dX9_would_142 rfl rfl ?_
  refine gC_0_3 (pc := 143) C dX9_would_143 q_157 ?_
  refine j_callI0 (pc := 146) C (rC_Law_outcome_4 C dX9_would_146 q_587 (by omega) (Nat.le_of_ble_eq_true rfl) ⟨Nat.le_of_ble_eq_true rfl, Nat.le_of_ble_eq_true rfl⟩) ⟨Nat.le_of_ble_eq_true rfl, Nat.le_of_ble_eq_true rfl⟩ (fun r8 T7 => ?_)
  exact j_iret C dX9_would_149 rfl (Nat.le_of_ble_eq_true rfl) (Nat.le_of_ble_eq_true rfl)
theorem bC_Main_would_111 {E : Ec} {G : Gc}    (C : JC E (VC G 9 3 18 RX9) cX9_would 8 (some .int))    (x1 : Int32) (x2 : Int32) (x3 : Int32) (x4 : Int32) (x5 : Int32) (x6 : Int32) (x7 : Int32) (x8 : Int32) (S : St) : J E (VC G 9 3 18 RX9) 2 12 111 [(0, .ref (gA G 0)), (1, .int x1), (2, .int x2), (3, .int x3), (4, .int x4), (5, .int x5), (6, .int x6), (7, .int x7), (8, .int x8)] [.ref (gA G 0)] S (fC_Main_would_111  x1 x2 x3 x4 x5 x6 x7 x8 S) := by
  unfold fC_Main_would_111
  refine j_iconst (pc := 111) 0 C dX9_would_111 (by decide) ?_
  exact bC_Main_would_112 C  x1 x2 x3 x4 x5 x6 x7 x8 0 S
theorem bC_Main_would_81 {E : Ec} {G : Gc}    (C : JC E (VC G 9 3 18 RX9) cX9_would 8 (some .int))    (x1 : Int32) (x2 : Int32) (x3 : Int32) (x4 : Int32) (x5 : Int32) (x6 : Int32) (x7 : Int32) (x8 : Int32) (s0 : Int32) (S : St) : J E (VC G 9 3 18 RX9) 1 6 81 [(0, .ref (gA G 0)), (1, .int x1), (2, .int x2), (3, .int x3), (4, .int x4), (5, .int x5), (6, .int x6), (7, .int x7), (8, .int x8)] [.int s0, .ref (gA G 0)] S (fC_Main_would_81  x1 x2 x3 x4 x5 x6 x7 x8 s0 S) := by
  unfold fC_Main_would_81
  refine j_callv (pc := 81) C (rC_Main_need C dX9_would_81 q_60 (by omega) (Nat.le_of_ble_eq_true rfl) ⟨Nat.le_of_ble_eq_true rfl, Nat.le_of_ble_eq_true rfl⟩) ⟨Nat.le_of_ble_eq_true rfl, Nat.le_of_ble_eq_true rfl⟩ (fun T1 => ?_)
  refine j_aload_n (pc := 84) 0 C dX9_would_84 rfl rfl ?_
  refine j_iload (pc := 85) 7 C dX9_would_85 rfl ?_
  refine j_iconst (pc := 87) 0 C dX9_would_87 (by decide) ?_
  refine j_sipush (pc := 88) 400 C dX9_would_88 (by decide) ?_
  refine j_callI0 (pc := 91) C (rC_Main_isWithin C dX9_would_91 q_49 (by omega) (Nat.le_of_ble_eq_true rfl) ⟨Nat.le_of_ble_eq_true rfl, Nat.le_of_ble_eq_true rfl⟩) ⟨Nat.le_of_ble_eq_true rfl, Nat.le_of_ble_eq_true rfl⟩ (fun r4 T3 => ?_)
  refine j_if_eq (pc := 94) 111 C dX9_would_94 (by decide) ?_ ?_
  ·
    exact bC_Main_would_111 C  x1 x2 x3 x4 x5 x6 x7 x8 T3
  ·
    refine j_iload (pc := 97) 8 C dX9_would_97 rfl ?_
    refine j_iconst (pc := 99) 0 C dX9_would_99 (by decide) ?_
    refine j_iconst (pc := 100) 5 C dX9_would_100 (by decide) ?_
    refine j_callI0 (pc := 101) C (rC_Main_isWithin C dX9_would_101 q_49 (by omega) (Nat.le_of_ble_eq_true rfl) ⟨Nat.le_of_ble_eq_true rfl, Nat.le_of_ble_eq_true rfl⟩) ⟨Nat.le_of_ble_eq_true rfl, Nat.le_of_ble_eq_true rfl⟩ (fun r6 T5 => ?_)
    refine j_if_eq (pc := 104) 111 C dX9_would_104 (by decide) ?_ ?_
    ·
      exact bC_Main_would_111 C  x1 x2 x3 x4 x5 x6 x7 x8 T5
    ·
      refine j_iconst (pc := 107) 1 C dX9_would_107 (by decide) ?_
      refine j_goto (pc := 108) 112 C dX9_would_108 (by decide) ?_
      exact bC_Main_would_112 C  x1 x2 x3 x4 x5 x6 x7 x8 1 T5
theorem bC_Main_would_80 {E : Ec} {G : Gc}    (C : JC E (VC G 9 3 18 RX9) cX9_would 8 (some .int))    (x1 : Int32) (x2 : Int32) (x3 : Int32) (x4 : Int32) (x5 : Int32) (x6 : Int32) (x7 : Int32) (x8 : Int32) (S : St) : J E (VC G 9 3 18 RX9) 1 6 80 [(0, .ref (gA G 0)), (1, .int x1), (2, .int x2), (3, .int x3), (4, .int x4), (5, .int x5), (6, .int x6), (7, .int x7), (8, .int x8)] [.ref (gA G 0)] S (fC_Main_would_80  x1 x2 x3 x4 x5 x6 x7 x8 S) := by
  unfold fC_Main_would_80
  refine j_iconst (pc := 80) 0 C dX9_would_80 (by decide) ?_
  exact bC_Main_would_81 C  x1 x2 x3 x4 x5 x6 x7 x8 0 S
theorem bC_Main_would_36 {E : Ec} {G : Gc}    (C : JC E (VC G 9 3 18 RX9) cX9_would 8 (some .int))    (x1 : Int32) (x2 : Int32) (x3 : Int32) (x4 : Int32) (x5 : Int32) (x6 : Int32) (x7 : Int32) (x8 : Int32) (s0 : Int32) (S : St) : J E (VC G 9 3 18 RX9) 0 0 36 [(0, .ref (gA G 0)), (1, .int x1), (2, .int x2), (3, .int x3), (4, .int x4), (5, .int x5), (6, .int x6), (7, .int x7), (8, .int x8)] [.int s0, .ref (gA G 0)] S (fC_Main_would_36  x1 x2 x3 x4 x5 x6 x7 x8 s0 S) := by
  unfold fC_Main_would_36
  refine j_callv (pc := 36) C (rC_Main_need C dX9_would_36 q_60 (by omega) (Nat.le_of_ble_eq_true rfl) ⟨Nat.le_of_ble_eq_true rfl, Nat.le_of_ble_eq_true rfl⟩) ⟨Nat.le_of_ble_eq_true rfl, Nat.le_of_ble_eq_true rfl⟩ (fun T1 => ?_)
  refine j_aload_n (pc := 39) 0 C dX9_would_39 rfl rfl ?_
  refine j_iload (pc := 40) 4 C dX9_would_40 rfl ?_
  refine j_iconst (pc := 42) 0 C dX9_would_42 (by decide) ?_
  refine j_bipush (pc := 43) 99 C dX9_would_43 (by decide) ?_
  refine j_callI0 (pc := 45) C (rC_Main_isWithin C dX9_would_45 q_49 (by omega) (Nat.le_of_ble_eq_true rfl) ⟨Nat.le_of_ble_eq_true rfl, Nat.le_of_ble_eq_true rfl⟩) ⟨Nat.le_of_ble_eq_true rfl, Nat.le_of_ble_eq_true rfl⟩ (fun r4 T3 => ?_)
  refine j_if_eq (pc := 48) 80 C dX9_would_48 (by decide) ?_ ?_
  ·
    exact bC_Main_would_80 C  x1 x2 x3 x4 x5 x6 x7 x8 T3
  ·
    refine j_iload (pc := 51) 5 C dX9_would_51 rfl ?_
    refine j_bipush (pc := 53) 10 C dX9_would_53 (by decide) ?_
    refine j_sipush (pc := 55) 150 C dX9_would_55 (by decide) ?_
    refine j_callI0 (pc := 58) C (rC_Main_isWithin C dX9_would_58 q_49 (by omega) (Nat.le_of_ble_eq_true rfl) ⟨Nat.le_of_ble_eq_true rfl, Nat.le_of_ble_eq_true rfl⟩) ⟨Nat.le_of_ble_eq_true rfl, Nat.le_of_ble_eq_true rfl⟩ (fun r6 T5 => ?_)
    refine j_if_eq (pc := 61) 80 C dX9_would_61 (by decide) ?_ ?_
    ·
      exact bC_Main_would_80 C  x1 x2 x3 x4 x5 x6 x7 x8 T5
    ·
      refine j_iload (pc := 64) 6 C dX9_would_64 rfl ?_
      refine j_iconst (pc := 66) 0 C dX9_would_66 (by decide) ?_
      refine j_sipush (pc := 67) 999 C dX9_would_67 (by decide) ?_
      refine j_callI0 (pc := 70) C (rC_Main_isWithin C dX9_would_70 q_49 (by omega) (Nat.le_of_ble_eq_true rfl) ⟨Nat.le_of_ble_eq_true rfl, Nat.le_of_ble_eq_true rfl⟩) ⟨Nat.le_of_ble_eq_true rfl, Nat.le_of_ble_eq_true rfl⟩ (fun r8 T7 => ?_)
      refine j_if_eq (pc := 73) 80 C dX9_would_73 (by decide) ?_ ?_
      ·
        exact bC_Main_would_80 C  x1 x2 x3 x4 x5 x6 x7 x8 T7
      ·
        refine j_iconst (pc := 76) 1 C dX9_would_76 (by decide) ?_
        refine j_goto (pc := 77) 81 C dX9_would_77 (by decide) ?_
        exact bC_Main_would_81 C  x1 x2 x3 x4 x5 x6 x7 x8 1 T7
theorem bC_Main_would_35 {E : Ec} {G : Gc}    (C : JC E (VC G 9 3 18 RX9) cX9_would 8 (some .int))    (x1 : Int32) (x2 : Int32) (x3 : Int32) (x4 : Int32) (x5 : Int32) (x6 : Int32) (x7 : Int32) (x8 : Int32) (S : St) : J E (VC G 9 3 18 RX9) 0 0 35 [(0, .ref (gA G 0)), (1, .int x1), (2, .int x2), (3, .int x3), (4, .int x4), (5, .int x5), (6, .int x6), (7, .int x7), (8, .int x8)] [.ref (gA G 0)] S (fC_Main_would_35  x1 x2 x3 x4 x5 x6 x7 x8 S) := by
  unfold fC_Main_would_35
  refine j_iconst (pc := 35) 0 C dX9_would_35 (by decide) ?_
  exact bC_Main_would_36 C  x1 x2 x3 x4 x5 x6 x7 x8 0 S
theorem bC_Main_would {E : Ec} {G : Gc}    (C : JC E (VC G 9 3 18 RX9) cX9_would 8 (some .int))    (x1 : Int32) (x2 : Int32) (x3 : Int32) (x4 : Int32) (x5 : Int32) (x6 : Int32) (x7 : Int32) (x8 : Int32) (S : St) : J E (VC G 9 3 18 RX9) 0 0 0 [(0, .ref (gA G 0)), (1, .int x1), (2, .int x2), (3, .int x3), (4, .int x4), (5, .int x5), (6, .int x6), (7, .int x7), (8, .int x8)] [] S (fC_Main_would  x1 x2 x3 x4 x5 x6 x7 x8 S) := by
  unfold fC_Main_would
  refine j_aload_n (pc := 0) 0 C dX9_would_0 rfl rfl ?_
  refine j_iload_n (pc := 1) 1 C dX9_would_1 rfl rfl ?_
  refine j_iconst (pc := 2) 1 C dX9_would_2 (by decide) ?_
  refine j_bipush (pc := 3) 40 C dX9_would_3 (by decide) ?_
  refine j_callI0 (pc := 5) C (rC_Main_isWithin C dX9_would_5 q_49 (by omega) (Nat.le_of_ble_eq_true rfl) ⟨Nat.le_of_ble_eq_true rfl, Nat.le_of_ble_eq_true rfl⟩) ⟨Nat.le_of_ble_eq_true rfl, Nat.le_of_ble_eq_true rfl⟩ (fun r2 T1 => ?_)
  refine j_if_eq (pc := 8) 35 C dX9_would_8 (by decide) ?_ ?_
  ·
    exact bC_Main_would_35 C  x1 x2 x3 x4 x5 x6 x7 x8 T1
  ·
    refine j_iload_n (pc := 11) 2 C dX9_would_11 rfl rfl ?_
    refine j_iconst (pc := 12) 0 C dX9_would_12 (by decide) ?_
    refine j_bipush (pc := 13) 9 C dX9_would_13 (by decide) ?_
    refine j_callI0 (pc := 15) C (rC_Main_isWithin C dX9_would_15 q_49 (by omega) (Nat.le_of_ble_eq_true rfl) ⟨Nat.le_of_ble_eq_true rfl, Nat.le_of_ble_eq_true rfl⟩) ⟨Nat.le_of_ble_eq_true rfl, Nat.le_of_ble_eq_true rfl⟩ (fun r4 T3 => ?_)
    refine j_if_eq (pc := 18) 35 C dX9_would_18 (by decide) ?_ ?_
    ·
      exact bC_Main_would_35 C  x1 x2 x3 x4 x5 x6 x7 x8 T3
    ·
      refine j_iload_n (pc := 21) 3 C dX9_would_21 rfl rfl ?_
      refine j_iconst (pc := 22) 0 C dX9_would_22 (by decide) ?_
      refine j_bipush (pc := 23) 40 C dX9_would_23 (by decide) ?_
      refine j_callI0 (pc := 25) C (rC_Main_isWithin C dX9_would_25 q_49 (by omega) (Nat.le_of_ble_eq_true rfl) ⟨Nat.le_of_ble_eq_true rfl, Nat.le_of_ble_eq_true rfl⟩) ⟨Nat.le_of_ble_eq_true rfl, Nat.le_of_ble_eq_true rfl⟩ (fun r6 T5 => ?_)
      refine j_if_eq (pc := 28) 35 C dX9_would_28 (by decide) ?_ ?_
      ·
        exact bC_Main_would_35 C  x1 x2 x3 x4 x5 x6 x7 x8 T5
      ·
        refine j_iconst (pc := 31) 1 C dX9_would_31 (by decide) ?_
        refine j_goto (pc := 32) 36 C dX9_would_32 (by decide) ?_
        exact bC_Main_would_36 C  x1 x2 x3 x4 x5 x6 x7 x8 1 T5
theorem cC_Main_would {l : Launch} {G : Gc} (hfl : l.stackTraces = false) (hW : Wok G wC 54)   (x1 : Int32) (x2 : Int32) (x3 : Int32) (x4 : Int32) (x5 : Int32) (x6 : Int32) (x7 : Int32) (x8 : Int32) (S : St) : Ct l yX9_would (Cond.code yX9_would cX9_would 9 (some .int) :: tblG) 8 3 18 G wC 54 [.ref (gA G 0), .int x1, .int x2, .int x3, .int x4, .int x5, .int x6, .int x7, .int x8] S (fC_Main_would x1 x2 x3 x4 x5 x6 x7 x8 S) := ct_of (own := RX9) hfl (by decide +kernel) rfl hW (Nat.le_of_ble_eq_true rfl) (fun E hE C => by subst hE; exact bC_Main_would C   x1 x2 x3 x4 x5 x6 x7 x8 S)
theorem rC_Main_would {E : Ec} {G : Gc} {nL mc ms : Nat} {own : String} {cc : ByteArray} {L : Nat} {ret : Option FieldType} {k n pc ix : Nat} {loc : List (Nat × Value)} {rest : List Value}  {x1 : Int32} {x2 : Int32} {x3 : Int32} {x4 : Int32} {x5 : Int32} {x6 : Int32} {x7 : Int32} {x8 : Int32} {S : St}  (C : JC E (VC G nL mc ms own) cc L ret) (hd : decode cc pc = .ok (.invokevirtual ix, 3)) (hq : Cond.methodLink own ix yX9_would ∈ tblG) (hL : 8 + 1 ≤ L) (hW : (rest.map fun v => v.category).sum ≤ 8) (hf : k + 3 ≤ mc ∧ n + 18 ≤ ms) : Rn E (VC G nL mc ms own) k n 3 18 pc loc (.int x8 :: .int x7 :: .int x6 :: .int x5 :: .int x4 :: .int x3 :: .int x2 :: .int x1 :: .ref (gA G 0) :: rest) rest S (fC_Main_would x1 x2 x3 x4 x5 x6 x7 x8 S) := rn_V (ci := 9) 0 (V := VC G nL mc ms own) (As := [.int x1, .int x2, .int x3, .int x4, .int x5, .int x6, .int x7, .int x8]) (Cq := (RX9, TX9, 15)) (cC_Main_would C.flags C.wok  x1 x2 x3 x4 x5 x6 x7 x8 S) knX9_would ⟨q_589, q_590⟩ rfl rfl C hd hq hL rfl rfl hW hf

theorem knX5_copyFrom : Kn yX5_copyFrom cX5_copyFrom 2 none 1 := ⟨q_595, q_174, by decide +kernel, by decide⟩
theorem bC_State_copyFrom_13 {E : Ec} {G : Gc}    (C : JC E (VC G 2 0 0 RX5) cX5_copyFrom 1 none)     (S : St) : J E (VC G 2 0 0 RX5) 0 0 0 [(0, .ref (gA G 13)), (1, .ref (gA G 9))] [] S (fC_State_copyFrom_13   S) := by
  unfold fC_State_copyFrom_13
  refine j_aload_n (pc := 0) 1 C dX5_copyFrom_0 rfl rfl ?_
  refine gC_9_0 (pc := 1) C dX5_copyFrom_1 q_172 ?_
  refine j_iconst (pc := 4) 0 C dX5_copyFrom_4 (by decide) ?_
  refine j_aload_n (pc := 5) 0 C dX5_copyFrom_5 rfl rfl ?_
  refine gC_13_0 (pc := 6) C dX5_copyFrom_6 q_172 ?_
  refine j_iconst (pc := 9) 0 C dX5_copyFrom_9 (by decide) ?_
  refine j_bipush (pc := 10) 74 C dX5_copyFrom_10 (by decide) ?_
  refine j_copy (pc := 12) (V := VC G 2 _ _ RX5) (sC S 46 52 0 0 74) 46 52 rfl rfl rfl C dX5_copyFrom_12 q_594 q_150 q_151 q_152 (by omega) (Nat.le_of_ble_eq_true rfl) ?_
  refine j_nxS (fun T1 => ?_)
  exact j_vret C dX5_copyFrom_15 rfl (Nat.le_of_ble_eq_true rfl) (Nat.le_of_ble_eq_true rfl)
theorem cC_State_copyFrom_13 {l : Launch} {G : Gc} (hfl : l.stackTraces = false) (hW : Wok G wC 54)    (S : St) : Ct l yX5_copyFrom (Cond.code yX5_copyFrom cX5_copyFrom 2 none :: tblG) 1 0 0 G wC 54 [.ref (gA G 13), .ref (gA G 9)] S (fC_State_copyFrom_13  S) := ct_of (own := RX5) hfl (by decide +kernel) rfl hW (Nat.le_of_ble_eq_true rfl) (fun E hE C => by subst hE; exact bC_State_copyFrom_13 C    S)
theorem rC_State_copyFrom_13 {E : Ec} {G : Gc} {nL mc ms : Nat} {own : String} {cc : ByteArray} {L : Nat} {ret : Option FieldType} {k n pc ix : Nat} {loc : List (Nat × Value)} {rest : List Value}   {S : St}  (C : JC E (VC G nL mc ms own) cc L ret) (hd : decode cc pc = .ok (.invokevirtual ix, 3)) (hq : Cond.methodLink own ix yX5_copyFrom ∈ tblG) (hL : 1 + 1 ≤ L) (hW : (rest.map fun v => v.category).sum ≤ 8) (hf : k + 0 ≤ mc ∧ n + 0 ≤ ms) : Rn E (VC G nL mc ms own) k n 0 0 pc loc (.ref (gA G 9) :: .ref (gA G 13) :: rest) rest S (fC_State_copyFrom_13  S) := rn_V (ci := 5) 13 (V := VC G nL mc ms own) (As := [.ref (gA G 9)]) (Cq := (RX5, TX5, 3)) (cC_State_copyFrom_13 C.flags C.wok   S) knX5_copyFrom ⟨q_596, q_597⟩ rfl rfl C hd hq hL rfl rfl hW hf

theorem bC_State_ageOf_13 {E : Ec} {G : Gc}    (C : JC E (VC G 2 0 0 RX5) cX5_ageOf 1 (some .int))    (x1 : Int32) (S : St) : J E (VC G 2 0 0 RX5) 0 0 0 [(0, .ref (gA G 13)), (1, .int x1)] [] S (fC_State_ageOf_13  x1 S) := by
  unfold fC_State_ageOf_13
  refine j_aload_n (pc := 0) 0 C dX5_ageOf_0 rfl rfl ?_
  refine gC_13_1 (pc := 1) C dX5_ageOf_1 q_301 ?_
  refine gC_2_7 (pc := 4) C dX5_ageOf_4 q_302 ?_
  refine j_iload_n (pc := 7) 1 C dX5_ageOf_7 rfl rfl ?_
  refine aC_18 (pc := 8) C dX5_ageOf_8 ?_
  refine j_aload_n (pc := 9) 0 C dX5_ageOf_9 rfl rfl ?_
  refine gC_13_0 (pc := 10) C dX5_ageOf_10 q_172 ?_
  refine j_bipush (pc := 13) 73 C dX5_ageOf_13 (by decide) ?_
  refine acC_52 (pc := 15) C dX5_ageOf_15 rfl ?_
  refine j_bipush (pc := 16) 10 C dX5_ageOf_16 (by decide) ?_
  refine j_idivc (pc := 18) C dX5_ageOf_18 rfl ?_
  refine j_iadd (pc := 19) C dX5_ageOf_19 ?_
  exact j_iret C dX5_ageOf_20 rfl (Nat.le_of_ble_eq_true rfl) (Nat.le_of_ble_eq_true rfl)
theorem cC_State_ageOf_13 {l : Launch} {G : Gc} (hfl : l.stackTraces = false) (hW : Wok G wC 54)   (x1 : Int32) (S : St) : Ct l yX5_ageOf (Cond.code yX5_ageOf cX5_ageOf 2 (some .int) :: tblG) 1 0 0 G wC 54 [.ref (gA G 13), .int x1] S (fC_State_ageOf_13 x1 S) := ct_of (own := RX5) hfl (by decide +kernel) rfl hW (Nat.le_of_ble_eq_true rfl) (fun E hE C => by subst hE; exact bC_State_ageOf_13 C   x1 S)
theorem rC_State_ageOf_13 {E : Ec} {G : Gc} {nL mc ms : Nat} {own : String} {cc : ByteArray} {L : Nat} {ret : Option FieldType} {k n pc ix : Nat} {loc : List (Nat × Value)} {rest : List Value}  {x1 : Int32} {S : St}  (C : JC E (VC G nL mc ms own) cc L ret) (hd : decode cc pc = .ok (.invokevirtual ix, 3)) (hq : Cond.methodLink own ix yX5_ageOf ∈ tblG) (hL : 1 + 1 ≤ L) (hW : (rest.map fun v => v.category).sum ≤ 8) (hf : k + 0 ≤ mc ∧ n + 0 ≤ ms) : Rn E (VC G nL mc ms own) k n 0 0 pc loc (.int x1 :: .ref (gA G 13) :: rest) rest S (fC_State_ageOf_13 x1 S) := rn_V (ci := 5) 13 (V := VC G nL mc ms own) (As := [.int x1]) (Cq := (RX5, TX5, 3)) (cC_State_ageOf_13 C.flags C.wok  x1 S) knX5_ageOf ⟨q_333, q_334⟩ rfl rfl C hd hq hL rfl rfl hW hf

theorem bC_State_lose_13_34 {E : Ec} {G : Gc}    (C : JC E (VC G 5 0 0 RX5) cX5_lose 2 none)    (s0 : Int32) (s1 : Int32) (S : St) : J E (VC G 5 0 0 RX5) 0 0 34 [] [.int s0, .int s1, .ref (gA G 52)] S (fC_State_lose_13_34  s0 s1 S) := by
  unfold fC_State_lose_13_34
  refine sC_52 (pc := 34) C dX5_lose_34 ?_
  refine j_nxS (fun T1 => ?_)
  exact j_vret C dX5_lose_35 rfl (Nat.le_of_ble_eq_true rfl) (Nat.le_of_ble_eq_true rfl)
theorem bC_State_lose_13 {E : Ec} {G : Gc}    (C : JC E (VC G 5 0 0 RX5) cX5_lose 2 none)    (x1 : Int32) (x2 : Int32) (x3 : Int32) (S : St) : J E (VC G 5 0 0 RX5) 0 0 0 [(0, .ref (gA G 13)), (1, .int x1), (2, .int x2), (3, .int x3)] [] S (fC_State_lose_13  x1 x2 x3 S) := by
  unfold fC_State_lose_13
  refine j_aload_n (pc := 0) 0 C dX5_lose_0 rfl rfl ?_
  refine gC_13_0 (pc := 1) C dX5_lose_1 q_172 ?_
  refine j_iload_n (pc := 4) 1 C dX5_lose_4 rfl rfl ?_
  refine j_iload_n (pc := 5) 2 C dX5_lose_5 rfl rfl ?_
  refine j_callI0 (pc := 6) C (rC_State_place C dX5_lose_6 q_315 (by omega) (Nat.le_of_ble_eq_true rfl) ⟨Nat.le_of_ble_eq_true rfl, Nat.le_of_ble_eq_true rfl⟩) ⟨Nat.le_of_ble_eq_true rfl, Nat.le_of_ble_eq_true rfl⟩ (fun r2 T1 => ?_)
  refine aC_52 (pc := 9) C dX5_lose_9 ?_
  refine j_iload_n (pc := 10) 3 C dX5_lose_10 rfl rfl ?_
  refine j_isub (pc := 11) C dX5_lose_11 ?_
  refine j_nxI (fun v3 => ?_)
  refine j_istore (pc := 12) [(4, .int v3), (0, .ref (gA G 13)), (1, .int x1), (2, .int x2), (3, .int x3)] C dX5_lose_12 (Nat.le_of_ble_eq_true rfl) rfl ?_
  refine j_aload_n (pc := 14) 1 C dX5_lose_14 rfl rfl ?_
  refine gC_13_0 (pc := 15) C dX5_lose_15 q_172 ?_
  refine j_iload_n (pc := 18) 2 C dX5_lose_18 rfl rfl ?_
  refine j_iload_n (pc := 19) 3 C dX5_lose_19 rfl rfl ?_
  refine j_callI0 (pc := 20) C (rC_State_place C dX5_lose_20 q_315 (by omega) (Nat.le_of_ble_eq_true rfl) ⟨Nat.le_of_ble_eq_true rfl, Nat.le_of_ble_eq_true rfl⟩) ⟨Nat.le_of_ble_eq_true rfl, Nat.le_of_ble_eq_true rfl⟩ (fun r5 T4 => ?_)
  refine j_iload (pc := 23) 0 C dX5_lose_23 rfl ?_
  refine j_if_ge (pc := 25) 32 C dX5_lose_25 (by decide) ?_ ?_
  ·
    refine j_iload (pc := 32) 0 C dX5_lose_32 rfl ?_
    refine j_sub [] rfl ?_
    exact bC_State_lose_13_34 C  v3 r5 T4
  ·
    refine j_iconst (pc := 28) 0 C dX5_lose_28 (by decide) ?_
    refine j_goto (pc := 29) 34 C dX5_lose_29 (by decide) ?_
    refine j_sub [] rfl ?_
    exact bC_State_lose_13_34 C  0 r5 T4
theorem cC_State_lose_13 {l : Launch} {G : Gc} (hfl : l.stackTraces = false) (hW : Wok G wC 54)   (x1 : Int32) (x2 : Int32) (x3 : Int32) (S : St) : Ct l yX5_lose (Cond.code yX5_lose cX5_lose 5 none :: tblG) 2 0 0 G wC 54 [.ref (gA G 13), .int x1, .int x2, .int x3] S (fC_State_lose_13 x1 x2 x3 S) := ct_of (own := RX5) hfl (by decide +kernel) rfl hW (Nat.le_of_ble_eq_true rfl) (fun E hE C => by subst hE; exact bC_State_lose_13 C   x1 x2 x3 S)
theorem rC_State_lose_13 {E : Ec} {G : Gc} {nL mc ms : Nat} {own : String} {cc : ByteArray} {L : Nat} {ret : Option FieldType} {k n pc ix : Nat} {loc : List (Nat × Value)} {rest : List Value}  {x1 : Int32} {x2 : Int32} {x3 : Int32} {S : St}  (C : JC E (VC G nL mc ms own) cc L ret) (hd : decode cc pc = .ok (.invokevirtual ix, 3)) (hq : Cond.methodLink own ix yX5_lose ∈ tblG) (hL : 2 + 1 ≤ L) (hW : (rest.map fun v => v.category).sum ≤ 8) (hf : k + 0 ≤ mc ∧ n + 0 ≤ ms) : Rn E (VC G nL mc ms own) k n 0 0 pc loc (.int x3 :: .int x2 :: .int x1 :: .ref (gA G 13) :: rest) rest S (fC_State_lose_13 x1 x2 x3 S) := rn_V (ci := 5) 13 (V := VC G nL mc ms own) (As := [.int x1, .int x2, .int x3]) (Cq := (RX5, TX5, 3)) (cC_State_lose_13 C.flags C.wok  x1 x2 x3 S) knX5_lose ⟨q_376, q_377⟩ rfl rfl C hd hq hL rfl rfl hW hf

theorem bC_State_endWeek_13_84 {E : Ec} {G : Gc}   {K33 : Int32 → Int32 → Int32 → St → Oz} (C : JC E (VC G 9 0 0 RX5) cX5_endWeek 3 none)   (hK33 : ∀ (x2 : Int32) (x3 : Int32) (x4 : Int32) (S : St), J E (VC G 9 0 0 RX5) 0 0 33 [(0, .ref (gA G 13)), (2, .int x2), (3, .int x3), (4, .int x4)] [] S (K33 x2 x3 x4 S)) : ∀ (n : Nat) (x2 : Int32) (x3 : Int32) (x4 : Int32) (x5 : Int32) (x6 : Int32) (x7 : Int32) (x8 : Int32) (S : St), J E (VC G 9 0 0 RX5) 0 0 84 [(0, .ref (gA G 13)), (2, .int x2), (3, .int x3), (4, .int x4), (5, .int x5), (6, .int x6), (7, .int x7), (8, .int x8)] [] S (fC_State_endWeek_13_84 K33 n x2 x3 x4 x5 x6 x7 x8 S) := by
  intro n
  induction n with
  | zero => intro x2 x3 x4 x5 x6 x7 x8 S; rw [fC_State_endWeek_13_84]; exact j_none
  | succ n ih =>
    intro x2 x3 x4 x5 x6 x7 x8 S
    rw [fC_State_endWeek_13_84]
    refine j_iload (pc := 84) 7 C dX5_endWeek_84 rfl ?_
    refine j_aload_n (pc := 86) 0 C dX5_endWeek_86 rfl rfl ?_
    refine gC_13_1 (pc := 87) C dX5_endWeek_87 q_301 ?_
    refine gC_2_0 (pc := 90) C dX5_endWeek_90 q_312 ?_
    refine j_icmp_ge (pc := 93) 161 C dX5_endWeek_93 (by decide) ?_ ?_
    ·
      refine j_aload_n (pc := 161) 0 C dX5_endWeek_161 rfl rfl ?_
      refine gC_13_0 (pc := 162) C dX5_endWeek_162 q_172 ?_
      refine j_bipush (pc := 165) 66 C dX5_endWeek_165 (by decide) ?_
      refine j_iload (pc := 167) 3 C dX5_endWeek_167 rfl ?_
      refine j_iadd (pc := 169) C dX5_endWeek_169 ?_
      refine j_iconst (pc := 170) 0 C dX5_endWeek_170 (by decide) ?_
      refine sC_52 (pc := 171) C dX5_endWeek_171 ?_
      refine j_nxS (fun T1 => ?_)
      refine j_aload_n (pc := 172) 0 C dX5_endWeek_172 rfl rfl ?_
      refine gC_13_0 (pc := 173) C dX5_endWeek_173 q_172 ?_
      refine j_bipush (pc := 176) 54 C dX5_endWeek_176 (by decide) ?_
      refine j_iload (pc := 178) 3 C dX5_endWeek_178 rfl ?_
      refine j_iadd (pc := 180) C dX5_endWeek_180 ?_
      refine j_iconst (pc := 181) 0 C dX5_endWeek_181 (by decide) ?_
      refine sC_52 (pc := 182) C dX5_endWeek_182 ?_
      refine j_nxS (fun T2 => ?_)
      refine j_iinc (pc := 183) 3 (x4 + 1) [(4, .int (x4 + 1)), (0, .ref (gA G 13)), (2, .int x2), (3, .int x3), (5, .int x5), (6, .int x6), (7, .int x7), (8, .int x8)] C dX5_endWeek_183 rfl rfl (Nat.le_of_ble_eq_true rfl) rfl ?_
      refine j_goto (pc := 186) 33 C dX5_endWeek_186 (by decide) ?_
      refine j_sub [1, 2, 3, 0] rfl ?_
      exact hK33 x2 x3 (x4 + 1) T2
    ·
      refine j_aload_n (pc := 96) 0 C dX5_endWeek_96 rfl rfl ?_
      refine gC_13_0 (pc := 97) C dX5_endWeek_97 q_172 ?_
      refine j_iload (pc := 100) 5 C dX5_endWeek_100 rfl ?_
      refine j_iload (pc := 102) 7 C dX5_endWeek_102 rfl ?_
      refine j_iadd (pc := 104) C dX5_endWeek_104 ?_
      refine aC_52 (pc := 105) C dX5_endWeek_105 ?_
      refine j_if_le (pc := 106) 155 C dX5_endWeek_106 (by decide) ?_ ?_
      ·
        refine j_iinc (pc := 155) 7 (x8 + 1) [(8, .int (x8 + 1)), (0, .ref (gA G 13)), (2, .int x2), (3, .int x3), (4, .int x4), (5, .int x5), (6, .int x6), (7, .int x7)] C dX5_endWeek_155 rfl rfl (Nat.le_of_ble_eq_true rfl) rfl ?_
        refine j_goto (pc := 158) 84 C dX5_endWeek_158 (by decide) ?_
        refine j_sub [1, 2, 3, 4, 5, 6, 7, 0] rfl ?_
        exact ih x2 x3 x4 x5 x6 x7 (x8 + 1) S
      ·
        refine j_iload (pc := 109) 4 C dX5_endWeek_109 rfl ?_
        refine j_if_eq (pc := 111) 128 C dX5_endWeek_111 (by decide) ?_ ?_
        ·
          refine j_iload (pc := 128) 6 C dX5_endWeek_128 rfl ?_
          refine j_iload (pc := 130) 7 C dX5_endWeek_130 rfl ?_
          refine j_ishr (pc := 132) C dX5_endWeek_132 ?_
          refine j_iconst (pc := 133) 1 C dX5_endWeek_133 (by decide) ?_
          refine j_iand (pc := 134) C dX5_endWeek_134 ?_
          refine j_if_ne (pc := 135) 155 C dX5_endWeek_135 (by decide) ?_ ?_
          ·
            refine j_iinc (pc := 155) 7 (x8 + 1) [(8, .int (x8 + 1)), (0, .ref (gA G 13)), (2, .int x2), (3, .int x3), (4, .int x4), (5, .int x5), (6, .int x6), (7, .int x7)] C dX5_endWeek_155 rfl rfl (Nat.le_of_ble_eq_true rfl) rfl ?_
            refine j_goto (pc := 158) 84 C dX5_endWeek_158 (by decide) ?_
            refine j_sub [1, 2, 3, 4, 5, 6, 7, 0] rfl ?_
            exact ih x2 x3 x4 x5 x6 x7 (x8 + 1) S
          ·
            refine j_aload_n (pc := 138) 0 C dX5_endWeek_138 rfl rfl ?_
            refine j_iload (pc := 139) 3 C dX5_endWeek_139 rfl ?_
            refine j_iload (pc := 141) 7 C dX5_endWeek_141 rfl ?_
            refine j_aload_n (pc := 143) 0 C dX5_endWeek_143 rfl rfl ?_
            refine gC_13_1 (pc := 144) C dX5_endWeek_144 q_301 ?_
            refine j_iload (pc := 147) 7 C dX5_endWeek_147 rfl ?_
            refine j_callI0 (pc := 149) C (rC_Valley_fadedLines_2 C dX5_endWeek_149 q_399 (by omega) (Nat.le_of_ble_eq_true rfl) ⟨Nat.le_of_ble_eq_true rfl, Nat.le_of_ble_eq_true rfl⟩) ⟨Nat.le_of_ble_eq_true rfl, Nat.le_of_ble_eq_true rfl⟩ (fun r4 T3 => ?_)
            refine j_callv0 (pc := 152) C (rC_State_lose_13 C dX5_endWeek_152 q_378 (by omega) (Nat.le_of_ble_eq_true rfl) ⟨Nat.le_of_ble_eq_true rfl, Nat.le_of_ble_eq_true rfl⟩) ⟨Nat.le_of_ble_eq_true rfl, Nat.le_of_ble_eq_true rfl⟩ (fun T5 => ?_)
            refine j_iinc (pc := 155) 7 (x8 + 1) [(8, .int (x8 + 1)), (0, .ref (gA G 13)), (2, .int x2), (3, .int x3), (4, .int x4), (5, .int x5), (6, .int x6), (7, .int x7)] C dX5_endWeek_155 rfl rfl (Nat.le_of_ble_eq_true rfl) rfl ?_
            refine j_goto (pc := 158) 84 C dX5_endWeek_158 (by decide) ?_
            refine j_sub [1, 2, 3, 4, 5, 6, 7, 0] rfl ?_
            exact ih x2 x3 x4 x5 x6 x7 (x8 + 1) T5
        ·
          refine j_aload_n (pc := 114) 0 C dX5_endWeek_114 rfl rfl ?_
          refine gC_13_0 (pc := 115) C dX5_endWeek_115 q_172 ?_
          refine j_iload (pc := 118) 5 C dX5_endWeek_118 rfl ?_
          refine j_iload (pc := 120) 7 C dX5_endWeek_120 rfl ?_
          refine j_iadd (pc := 122) C dX5_endWeek_122 ?_
          refine j_iconst (pc := 123) 0 C dX5_endWeek_123 (by decide) ?_
          refine sC_52 (pc := 124) C dX5_endWeek_124 ?_
          refine j_nxS (fun T7 => ?_)
          refine j_goto (pc := 125) 155 C dX5_endWeek_125 (by decide) ?_
          refine j_iinc (pc := 155) 7 (x8 + 1) [(8, .int (x8 + 1)), (0, .ref (gA G 13)), (2, .int x2), (3, .int x3), (4, .int x4), (5, .int x5), (6, .int x6), (7, .int x7)] C dX5_endWeek_155 rfl rfl (Nat.le_of_ble_eq_true rfl) rfl ?_
          refine j_goto (pc := 158) 84 C dX5_endWeek_158 (by decide) ?_
          refine j_sub [1, 2, 3, 4, 5, 6, 7, 0] rfl ?_
          exact ih x2 x3 x4 x5 x6 x7 (x8 + 1) T7
theorem bC_State_endWeek_13_59 {E : Ec} {G : Gc}   {K33 : Int32 → Int32 → Int32 → St → Oz} (C : JC E (VC G 9 0 0 RX5) cX5_endWeek 3 none)   (hK33 : ∀ (x2 : Int32) (x3 : Int32) (x4 : Int32) (S : St), J E (VC G 9 0 0 RX5) 0 0 33 [(0, .ref (gA G 13)), (2, .int x2), (3, .int x3), (4, .int x4)] [] S (K33 x2 x3 x4 S)) (x2 : Int32) (x3 : Int32) (x4 : Int32) (s0 : Int32) (S : St) : J E (VC G 9 0 0 RX5) 0 0 59 [(0, .ref (gA G 13)), (2, .int x2), (3, .int x3), (4, .int x4)] [.int s0] S (fC_State_endWeek_13_59 K33 x2 x3 x4 s0 S) := by
  unfold fC_State_endWeek_13_59
  refine j_istore (pc := 59) [(5, .int s0), (0, .ref (gA G 13)), (2, .int x2), (3, .int x3), (4, .int x4)] C dX5_endWeek_59 (Nat.le_of_ble_eq_true rfl) rfl ?_
  refine j_iload (pc := 61) 4 C dX5_endWeek_61 rfl ?_
  refine j_iconst (pc := 63) 0 C dX5_endWeek_63 (by decide) ?_
  refine j_callI0 (pc := 64) C (rC_State_place C dX5_endWeek_64 q_315 (by omega) (Nat.le_of_ble_eq_true rfl) ⟨Nat.le_of_ble_eq_true rfl, Nat.le_of_ble_eq_true rfl⟩) ⟨Nat.le_of_ble_eq_true rfl, Nat.le_of_ble_eq_true rfl⟩ (fun r2 T1 => ?_)
  refine j_istore (pc := 67) [(6, .int r2), (5, .int s0), (0, .ref (gA G 13)), (2, .int x2), (3, .int x3), (4, .int x4)] C dX5_endWeek_67 (Nat.le_of_ble_eq_true rfl) rfl ?_
  refine j_aload_n (pc := 69) 2 C dX5_endWeek_69 rfl rfl ?_
  refine gC_13_0 (pc := 70) C dX5_endWeek_70 q_172 ?_
  refine j_bipush (pc := 73) 66 C dX5_endWeek_73 (by decide) ?_
  refine j_iload (pc := 75) 5 C dX5_endWeek_75 rfl ?_
  refine j_iadd (pc := 77) C dX5_endWeek_77 ?_
  refine aC_52 (pc := 78) C dX5_endWeek_78 ?_
  refine j_nxI (fun v3 => ?_)
  refine j_istore (pc := 79) [(7, .int v3), (6, .int r2), (5, .int s0), (0, .ref (gA G 13)), (2, .int x2), (3, .int x3), (4, .int x4)] C dX5_endWeek_79 (Nat.le_of_ble_eq_true rfl) rfl ?_
  refine j_iconst (pc := 81) 0 C dX5_endWeek_81 (by decide) ?_
  refine j_istore (pc := 82) [(8, .int 0), (7, .int v3), (6, .int r2), (5, .int s0), (0, .ref (gA G 13)), (2, .int x2), (3, .int x3), (4, .int x4)] C dX5_endWeek_82 (Nat.le_of_ble_eq_true rfl) rfl ?_
  refine j_sub [4, 5, 6, 7, 3, 2, 1, 0] rfl ?_
  exact bC_State_endWeek_13_84 C hK33 FU x2 x3 x4 s0 r2 v3 0 T1
theorem bC_State_endWeek_13_58 {E : Ec} {G : Gc}   {K33 : Int32 → Int32 → Int32 → St → Oz} (C : JC E (VC G 9 0 0 RX5) cX5_endWeek 3 none)   (hK33 : ∀ (x2 : Int32) (x3 : Int32) (x4 : Int32) (S : St), J E (VC G 9 0 0 RX5) 0 0 33 [(0, .ref (gA G 13)), (2, .int x2), (3, .int x3), (4, .int x4)] [] S (K33 x2 x3 x4 S)) (x2 : Int32) (x3 : Int32) (x4 : Int32) (S : St) : J E (VC G 9 0 0 RX5) 0 0 58 [(0, .ref (gA G 13)), (2, .int x2), (3, .int x3), (4, .int x4)] [] S (fC_State_endWeek_13_58 K33 x2 x3 x4 S) := by
  unfold fC_State_endWeek_13_58
  refine j_iconst (pc := 58) 0 C dX5_endWeek_58 (by decide) ?_
  exact bC_State_endWeek_13_59 C hK33 x2 x3 x4 0 S
theorem bC_State_endWeek_13_33 {E : Ec} {G : Gc}    (C : JC E (VC G 9 0 0 RX5) cX5_endWeek 3 none)    : ∀ (n : Nat) (x2 : Int32) (x3 : Int32) (x4 : Int32) (S : St), J E (VC G 9 0 0 RX5) 0 0 33 [(0, .ref (gA G 13)), (2, .int x2), (3, .int x3), (4, .int x4)] [] S (fC_State_endWeek_13_33  n x2 x3 x4 S) := by
  intro n
  induction n with
  | zero => intro x2 x3 x4 S; rw [fC_State_endWeek_13_33]; exact j_none
  | succ n ih =>
    intro x2 x3 x4 S
    rw [fC_State_endWeek_13_33]
    refine j_iload (pc := 33) 3 C dX5_endWeek_33 rfl ?_
    refine j_iload_n (pc := 35) 1 C dX5_endWeek_35 rfl rfl ?_
    refine j_icmp_ge (pc := 36) 189 C dX5_endWeek_36 (by decide) ?_ ?_
    ·
      exact j_vret C dX5_endWeek_189 rfl (Nat.le_of_ble_eq_true rfl) (Nat.le_of_ble_eq_true rfl)
    ·
      refine j_iload_n (pc := 39) 2 C dX5_endWeek_39 rfl rfl ?_
      refine j_if_eq (pc := 40) 58 C dX5_endWeek_40 (by decide) ?_ ?_
      ·
        exact bC_State_endWeek_13_58 C ih x2 x3 x4 S
      ·
        refine j_aload_n (pc := 43) 0 C dX5_endWeek_43 rfl rfl ?_
        refine j_iload (pc := 44) 3 C dX5_endWeek_44 rfl ?_
        refine j_callI0 (pc := 46) C (rC_State_ageOf_13 C dX5_endWeek_46 q_335 (by omega) (Nat.le_of_ble_eq_true rfl) ⟨Nat.le_of_ble_eq_true rfl, Nat.le_of_ble_eq_true rfl⟩) ⟨Nat.le_of_ble_eq_true rfl, Nat.le_of_ble_eq_true rfl⟩ (fun r2 T1 => ?_)
        refine j_bipush (pc := 49) 60 C dX5_endWeek_49 (by decide) ?_
        refine j_icmp_ne (pc := 51) 58 C dX5_endWeek_51 (by decide) ?_ ?_
        ·
          exact bC_State_endWeek_13_58 C ih x2 x3 x4 T1
        ·
          refine j_iconst (pc := 54) 1 C dX5_endWeek_54 (by decide) ?_
          refine j_goto (pc := 55) 59 C dX5_endWeek_55 (by decide) ?_
          exact bC_State_endWeek_13_59 C ih x2 x3 x4 1 T1
theorem bC_State_endWeek_13 {E : Ec} {G : Gc}    (C : JC E (VC G 9 0 0 RX5) cX5_endWeek 3 none)    (x1 : Int32) (x2 : Int32) (S : St) : J E (VC G 9 0 0 RX5) 0 0 0 [(0, .ref (gA G 13)), (1, .int x1), (2, .int x2)] [] S (fC_State_endWeek_13  x1 x2 S) := by
  unfold fC_State_endWeek_13
  refine j_aload_n (pc := 0) 0 C dX5_endWeek_0 rfl rfl ?_
  refine gC_13_0 (pc := 1) C dX5_endWeek_1 q_172 ?_
  refine j_bipush (pc := 4) 73 C dX5_endWeek_4 (by decide) ?_
  refine j_dup2 (pc := 6) C dX5_endWeek_6 rfl rfl ?_
  refine acC_52 (pc := 7) C dX5_endWeek_7 rfl ?_
  refine j_iconst (pc := 8) 1 C dX5_endWeek_8 (by decide) ?_
  refine j_iadd (pc := 9) C dX5_endWeek_9 ?_
  refine scC_52 (pc := 10) C dX5_endWeek_10 rfl ?_
  refine j_nxS (fun T1 => ?_)
  refine j_aload_n (pc := 11) 0 C dX5_endWeek_11 rfl rfl ?_
  refine gC_13_0 (pc := 12) C dX5_endWeek_12 q_172 ?_
  refine j_bipush (pc := 15) 73 C dX5_endWeek_15 (by decide) ?_
  refine acC_52 (pc := 17) C dX5_endWeek_17 rfl ?_
  refine j_bipush (pc := 18) 10 C dX5_endWeek_18 (by decide) ?_
  refine j_iremc (pc := 20) C dX5_endWeek_20 rfl ?_
  refine j_if_ne (pc := 21) 28 C dX5_endWeek_21 (by decide) ?_ ?_
  ·
    refine j_iconst (pc := 28) 0 C dX5_endWeek_28 (by decide) ?_
    refine j_istore_n (pc := 29) [(3, .int 0), (0, .ref (gA G 13)), (1, .int x1), (2, .int x2)] C dX5_endWeek_29 rfl (Nat.le_of_ble_eq_true rfl) rfl ?_
    refine j_iload_n (pc := 30) 2 C dX5_endWeek_30 rfl rfl ?_
    refine j_istore (pc := 31) [(4, .int x1), (3, .int 0), (0, .ref (gA G 13)), (1, .int x1), (2, .int x2)] C dX5_endWeek_31 (Nat.le_of_ble_eq_true rfl) rfl ?_
    refine j_sub [2, 4, 1, 0] rfl ?_
    exact bC_State_endWeek_13_33 C  FU x2 0 x1 T1
  ·
    refine j_iconst (pc := 24) 1 C dX5_endWeek_24 (by decide) ?_
    refine j_goto (pc := 25) 29 C dX5_endWeek_25 (by decide) ?_
    refine j_istore_n (pc := 29) [(3, .int 1), (0, .ref (gA G 13)), (1, .int x1), (2, .int x2)] C dX5_endWeek_29 rfl (Nat.le_of_ble_eq_true rfl) rfl ?_
    refine j_iload_n (pc := 30) 2 C dX5_endWeek_30 rfl rfl ?_
    refine j_istore (pc := 31) [(4, .int x1), (3, .int 1), (0, .ref (gA G 13)), (1, .int x1), (2, .int x2)] C dX5_endWeek_31 (Nat.le_of_ble_eq_true rfl) rfl ?_
    refine j_sub [2, 4, 1, 0] rfl ?_
    exact bC_State_endWeek_13_33 C  FU x2 1 x1 T1
theorem cC_State_endWeek_13 {l : Launch} {G : Gc} (hfl : l.stackTraces = false) (hW : Wok G wC 54)   (x1 : Int32) (x2 : Int32) (S : St) : Ct l yX5_endWeek (Cond.code yX5_endWeek cX5_endWeek 9 none :: tblG) 3 0 0 G wC 54 [.ref (gA G 13), .int x1, .int x2] S (fC_State_endWeek_13 x1 x2 S) := ct_of (own := RX5) hfl (by decide +kernel) rfl hW (Nat.le_of_ble_eq_true rfl) (fun E hE C => by subst hE; exact bC_State_endWeek_13 C   x1 x2 S)
theorem rC_State_endWeek_13 {E : Ec} {G : Gc} {nL mc ms : Nat} {own : String} {cc : ByteArray} {L : Nat} {ret : Option FieldType} {k n pc ix : Nat} {loc : List (Nat × Value)} {rest : List Value}  {x1 : Int32} {x2 : Int32} {S : St}  (C : JC E (VC G nL mc ms own) cc L ret) (hd : decode cc pc = .ok (.invokevirtual ix, 3)) (hq : Cond.methodLink own ix yX5_endWeek ∈ tblG) (hL : 3 + 1 ≤ L) (hW : (rest.map fun v => v.category).sum ≤ 8) (hf : k + 0 ≤ mc ∧ n + 0 ≤ ms) : Rn E (VC G nL mc ms own) k n 0 0 pc loc (.int x2 :: .int x1 :: .ref (gA G 13) :: rest) rest S (fC_State_endWeek_13 x1 x2 S) := rn_V (ci := 5) 13 (V := VC G nL mc ms own) (As := [.int x1, .int x2]) (Cq := (RX5, TX5, 3)) (cC_State_endWeek_13 C.flags C.wok  x1 x2 S) knX5_endWeek ⟨q_401, q_402⟩ rfl rfl C hd hq hL rfl rfl hW hf

theorem knX2_afterWeeks : Kn yX2_afterWeeks cX2_afterWeeks 3 (some (.object "PaidByHeart$State")) 1 := ⟨q_602, q_603, by decide +kernel, by decide⟩
theorem bC_Outlook_afterWeeks_13 {E : Ec} {G : Gc}    (C : JC E (VC G 3 0 0 RX2) cX2_afterWeeks 4 (some (.object "PaidByHeart$State")))    : ∀ (n : Nat) (x1 : Int32) (x2 : Int32) (S : St), J E (VC G 3 0 0 RX2) 0 0 13 [(0, .ref (gA G 11)), (1, .int x1), (2, .int x2)] [] S (fC_Outlook_afterWeeks_13  n x1 x2 S) := by
  intro n
  induction n with
  | zero => intro x1 x2 S; rw [fC_Outlook_afterWeeks_13]; exact j_none
  | succ n ih =>
    intro x1 x2 S
    rw [fC_Outlook_afterWeeks_13]
    refine j_iload_n (pc := 13) 2 C dX2_afterWeeks_13 rfl rfl ?_
    refine j_iload_n (pc := 14) 1 C dX2_afterWeeks_14 rfl rfl ?_
    refine j_icmp_ge (pc := 15) 39 C dX2_afterWeeks_15 (by decide) ?_ ?_
    ·
      refine j_aload_n (pc := 39) 0 C dX2_afterWeeks_39 rfl rfl ?_
      refine gC_11_2 (pc := 40) C dX2_afterWeeks_40 q_592 ?_
      exact j_aret C dX2_afterWeeks_43 rfl (Nat.le_of_ble_eq_true rfl) (Nat.le_of_ble_eq_true rfl)
    ·
      refine j_aload_n (pc := 18) 0 C dX2_afterWeeks_18 rfl rfl ?_
      refine gC_11_2 (pc := 19) C dX2_afterWeeks_19 q_592 ?_
      refine j_iconst (pc := 22) 0 C dX2_afterWeeks_22 (by decide) ?_
      refine j_aload_n (pc := 23) 0 C dX2_afterWeeks_23 rfl rfl ?_
      refine gC_11_0 (pc := 24) C dX2_afterWeeks_24 q_599 ?_
      refine gC_2_1 (pc := 27) C dX2_afterWeeks_27 q_600 ?_
      refine j_callv0 (pc := 30) C (rC_State_endWeek_13 C dX2_afterWeeks_30 q_601 (by omega) (Nat.le_of_ble_eq_true rfl) ⟨Nat.le_of_ble_eq_true rfl, Nat.le_of_ble_eq_true rfl⟩) ⟨Nat.le_of_ble_eq_true rfl, Nat.le_of_ble_eq_true rfl⟩ (fun T1 => ?_)
      refine j_iinc (pc := 33) 2 (x2 + 1) [(2, .int (x2 + 1)), (0, .ref (gA G 11)), (1, .int x1)] C dX2_afterWeeks_33 rfl rfl (Nat.le_of_ble_eq_true rfl) rfl ?_
      refine j_goto (pc := 36) 13 C dX2_afterWeeks_36 (by decide) ?_
      refine j_sub [1, 2, 0] rfl ?_
      exact ih x1 (x2 + 1) T1
theorem bC_Outlook_afterWeeks {E : Ec} {G : Gc}    (C : JC E (VC G 3 0 0 RX2) cX2_afterWeeks 4 (some (.object "PaidByHeart$State")))    (x1 : Int32) (S : St) : J E (VC G 3 0 0 RX2) 0 0 0 [(0, .ref (gA G 11)), (1, .int x1)] [] S (fC_Outlook_afterWeeks  x1 S) := by
  unfold fC_Outlook_afterWeeks
  refine j_aload_n (pc := 0) 0 C dX2_afterWeeks_0 rfl rfl ?_
  refine gC_11_2 (pc := 1) C dX2_afterWeeks_1 q_592 ?_
  refine j_aload_n (pc := 4) 0 C dX2_afterWeeks_4 rfl rfl ?_
  refine gC_11_1 (pc := 5) C dX2_afterWeeks_5 q_593 ?_
  refine j_callv0 (pc := 8) C (rC_State_copyFrom_13 C dX2_afterWeeks_8 q_598 (by omega) (Nat.le_of_ble_eq_true rfl) ⟨Nat.le_of_ble_eq_true rfl, Nat.le_of_ble_eq_true rfl⟩) ⟨Nat.le_of_ble_eq_true rfl, Nat.le_of_ble_eq_true rfl⟩ (fun T1 => ?_)
  refine j_iconst (pc := 11) 0 C dX2_afterWeeks_11 (by decide) ?_
  refine j_istore_n (pc := 12) [(2, .int 0), (0, .ref (gA G 11)), (1, .int x1)] C dX2_afterWeeks_12 rfl (Nat.le_of_ble_eq_true rfl) rfl ?_
  refine j_sub [1, 2, 0] rfl ?_
  exact bC_Outlook_afterWeeks_13 C  FU x1 0 T1
theorem cC_Outlook_afterWeeks {l : Launch} {G : Gc} (hfl : l.stackTraces = false) (hW : Wok G wC 54)   (x1 : Int32) (S : St) : Ct l yX2_afterWeeks (Cond.code yX2_afterWeeks cX2_afterWeeks 3 (some (.object "PaidByHeart$State")) :: tblG) 4 0 0 G wC 54 [.ref (gA G 11), .int x1] S (fC_Outlook_afterWeeks x1 S) := ct_of (own := RX2) hfl (by decide +kernel) rfl hW (Nat.le_of_ble_eq_true rfl) (fun E hE C => by subst hE; exact bC_Outlook_afterWeeks C   x1 S)
theorem rC_Outlook_afterWeeks {E : Ec} {G : Gc} {nL mc ms : Nat} {own : String} {cc : ByteArray} {L : Nat} {ret : Option FieldType} {k n pc ix : Nat} {loc : List (Nat × Value)} {rest : List Value}  {x1 : Int32} {S : St}  (C : JC E (VC G nL mc ms own) cc L ret) (hd : decode cc pc = .ok (.invokevirtual ix, 3)) (hq : Cond.methodLink own ix yX2_afterWeeks ∈ tblG) (hL : 4 + 1 ≤ L) (hW : (rest.map fun v => v.category).sum ≤ 8) (hf : k + 0 ≤ mc ∧ n + 0 ≤ ms) : Rn E (VC G nL mc ms own) k n 0 0 pc loc (.int x1 :: .ref (gA G 11) :: rest) rest S (fC_Outlook_afterWeeks x1 S) := rn_V (ci := 2) 11 (V := VC G nL mc ms own) (As := [.int x1]) (Cq := (RX2, TX2, 4)) (cC_Outlook_afterWeeks C.flags C.wok  x1 S) knX2_afterWeeks ⟨q_604, q_605⟩ rfl rfl C hd hq hL rfl rfl hW hf

theorem bC_State_linesOf_13_4 {E : Ec} {G : Gc}    (C : JC E (VC G 4 0 0 RX5) cX5_linesOf 2 (some .int))    : ∀ (n : Nat) (x1 : Int32) (x2 : Int32) (x3 : Int32) (S : St), J E (VC G 4 0 0 RX5) 0 0 4 [(0, .ref (gA G 13)), (1, .int x1), (2, .int x2), (3, .int x3)] [] S (fC_State_linesOf_13_4  n x1 x2 x3 S) := by
  intro n
  induction n with
  | zero => intro x1 x2 x3 S; rw [fC_State_linesOf_13_4]; exact j_none
  | succ n ih =>
    intro x1 x2 x3 S
    rw [fC_State_linesOf_13_4]
    refine j_iload_n (pc := 4) 3 C dX5_linesOf_4 rfl rfl ?_
    refine j_aload_n (pc := 5) 0 C dX5_linesOf_5 rfl rfl ?_
    refine gC_13_1 (pc := 6) C dX5_linesOf_6 q_301 ?_
    refine gC_2_0 (pc := 9) C dX5_linesOf_9 q_312 ?_
    refine j_icmp_ge (pc := 12) 34 C dX5_linesOf_12 (by decide) ?_ ?_
    ·
      refine j_iload_n (pc := 34) 2 C dX5_linesOf_34 rfl rfl ?_
      exact j_iret C dX5_linesOf_35 rfl (Nat.le_of_ble_eq_true rfl) (Nat.le_of_ble_eq_true rfl)
    ·
      refine j_iload_n (pc := 15) 2 C dX5_linesOf_15 rfl rfl ?_
      refine j_aload_n (pc := 16) 0 C dX5_linesOf_16 rfl rfl ?_
      refine gC_13_0 (pc := 17) C dX5_linesOf_17 q_172 ?_
      refine j_iload_n (pc := 20) 1 C dX5_linesOf_20 rfl rfl ?_
      refine j_iload_n (pc := 21) 3 C dX5_linesOf_21 rfl rfl ?_
      refine j_callI0 (pc := 22) C (rC_State_place C dX5_linesOf_22 q_315 (by omega) (Nat.le_of_ble_eq_true rfl) ⟨Nat.le_of_ble_eq_true rfl, Nat.le_of_ble_eq_true rfl⟩) ⟨Nat.le_of_ble_eq_true rfl, Nat.le_of_ble_eq_true rfl⟩ (fun r2 T1 => ?_)
      refine aC_52 (pc := 25) C dX5_linesOf_25 ?_
      refine j_iadd (pc := 26) C dX5_linesOf_26 ?_
      refine j_nxI (fun v3 => ?_)
      refine j_istore_n (pc := 27) [(2, .int v3), (0, .ref (gA G 13)), (1, .int x1), (3, .int x3)] C dX5_linesOf_27 rfl (Nat.le_of_ble_eq_true rfl) rfl ?_
      refine j_iinc (pc := 28) 3 (x3 + 1) [(3, .int (x3 + 1)), (2, .int v3), (0, .ref (gA G 13)), (1, .int x1)] C dX5_linesOf_28 rfl rfl (Nat.le_of_ble_eq_true rfl) rfl ?_
      refine j_goto (pc := 31) 4 C dX5_linesOf_31 (by decide) ?_
      refine j_sub [2, 3, 1, 0] rfl ?_
      exact ih x1 v3 (x3 + 1) T1
theorem bC_State_linesOf_13 {E : Ec} {G : Gc}    (C : JC E (VC G 4 0 0 RX5) cX5_linesOf 2 (some .int))    (x1 : Int32) (S : St) : J E (VC G 4 0 0 RX5) 0 0 0 [(0, .ref (gA G 13)), (1, .int x1)] [] S (fC_State_linesOf_13  x1 S) := by
  unfold fC_State_linesOf_13
  refine j_iconst (pc := 0) 0 C dX5_linesOf_0 (by decide) ?_
  refine j_istore_n (pc := 1) [(2, .int 0), (0, .ref (gA G 13)), (1, .int x1)] C dX5_linesOf_1 rfl (Nat.le_of_ble_eq_true rfl) rfl ?_
  refine j_iconst (pc := 2) 0 C dX5_linesOf_2 (by decide) ?_
  refine j_istore_n (pc := 3) [(3, .int 0), (2, .int 0), (0, .ref (gA G 13)), (1, .int x1)] C dX5_linesOf_3 rfl (Nat.le_of_ble_eq_true rfl) rfl ?_
  refine j_sub [2, 3, 1, 0] rfl ?_
  exact bC_State_linesOf_13_4 C  FU x1 0 0 S
theorem cC_State_linesOf_13 {l : Launch} {G : Gc} (hfl : l.stackTraces = false) (hW : Wok G wC 54)   (x1 : Int32) (S : St) : Ct l yX5_linesOf (Cond.code yX5_linesOf cX5_linesOf 4 (some .int) :: tblG) 2 0 0 G wC 54 [.ref (gA G 13), .int x1] S (fC_State_linesOf_13 x1 S) := ct_of (own := RX5) hfl (by decide +kernel) rfl hW (Nat.le_of_ble_eq_true rfl) (fun E hE C => by subst hE; exact bC_State_linesOf_13 C   x1 S)
theorem rC_State_linesOf_13 {E : Ec} {G : Gc} {nL mc ms : Nat} {own : String} {cc : ByteArray} {L : Nat} {ret : Option FieldType} {k n pc ix : Nat} {loc : List (Nat × Value)} {rest : List Value}  {x1 : Int32} {S : St}  (C : JC E (VC G nL mc ms own) cc L ret) (hd : decode cc pc = .ok (.invokevirtual ix, 3)) (hq : Cond.methodLink own ix yX5_linesOf ∈ tblG) (hL : 2 + 1 ≤ L) (hW : (rest.map fun v => v.category).sum ≤ 8) (hf : k + 0 ≤ mc ∧ n + 0 ≤ ms) : Rn E (VC G nL mc ms own) k n 0 0 pc loc (.int x1 :: .ref (gA G 13) :: rest) rest S (fC_State_linesOf_13 x1 S) := rn_V (ci := 5) 13 (V := VC G nL mc ms own) (As := [.int x1]) (Cq := (RX5, TX5, 3)) (cC_State_linesOf_13 C.flags C.wok  x1 S) knX5_linesOf ⟨q_317, q_318⟩ rfl rfl C hd hq hL rfl rfl hW hf

theorem bC_State_everyLine_13_4 {E : Ec} {G : Gc}    (C : JC E (VC G 3 0 0 RX5) cX5_everyLine 3 (some .int))    : ∀ (n : Nat) (x1 : Int32) (x2 : Int32) (S : St), J E (VC G 3 0 0 RX5) 0 0 4 [(0, .ref (gA G 13)), (1, .int x1), (2, .int x2)] [] S (fC_State_everyLine_13_4  n x1 x2 S) := by
  intro n
  induction n with
  | zero => intro x1 x2 S; rw [fC_State_everyLine_13_4]; exact j_none
  | succ n ih =>
    intro x1 x2 S
    rw [fC_State_everyLine_13_4]
    refine j_iload_n (pc := 4) 2 C dX5_everyLine_4 rfl rfl ?_
    refine j_aload_n (pc := 5) 0 C dX5_everyLine_5 rfl rfl ?_
    refine gC_13_1 (pc := 6) C dX5_everyLine_6 q_301 ?_
    refine gC_2_1 (pc := 9) C dX5_everyLine_9 q_395 ?_
    refine j_icmp_ge (pc := 12) 29 C dX5_everyLine_12 (by decide) ?_ ?_
    ·
      refine j_iload_n (pc := 29) 1 C dX5_everyLine_29 rfl rfl ?_
      exact j_iret C dX5_everyLine_30 rfl (Nat.le_of_ble_eq_true rfl) (Nat.le_of_ble_eq_true rfl)
    ·
      refine j_iload_n (pc := 15) 1 C dX5_everyLine_15 rfl rfl ?_
      refine j_aload_n (pc := 16) 0 C dX5_everyLine_16 rfl rfl ?_
      refine j_iload_n (pc := 17) 2 C dX5_everyLine_17 rfl rfl ?_
      refine j_callI0 (pc := 18) C (rC_State_linesOf_13 C dX5_everyLine_18 q_319 (by omega) (Nat.le_of_ble_eq_true rfl) ⟨Nat.le_of_ble_eq_true rfl, Nat.le_of_ble_eq_true rfl⟩) ⟨Nat.le_of_ble_eq_true rfl, Nat.le_of_ble_eq_true rfl⟩ (fun r2 T1 => ?_)
      refine j_iadd (pc := 21) C dX5_everyLine_21 ?_
      refine j_nxI (fun v3 => ?_)
      refine j_istore_n (pc := 22) [(1, .int v3), (0, .ref (gA G 13)), (2, .int x2)] C dX5_everyLine_22 rfl (Nat.le_of_ble_eq_true rfl) rfl ?_
      refine j_iinc (pc := 23) 2 (x2 + 1) [(2, .int (x2 + 1)), (1, .int v3), (0, .ref (gA G 13))] C dX5_everyLine_23 rfl rfl (Nat.le_of_ble_eq_true rfl) rfl ?_
      refine j_goto (pc := 26) 4 C dX5_everyLine_26 (by decide) ?_
      refine j_sub [2, 1, 0] rfl ?_
      exact ih v3 (x2 + 1) T1
theorem bC_State_everyLine_13 {E : Ec} {G : Gc}    (C : JC E (VC G 3 0 0 RX5) cX5_everyLine 3 (some .int))     (S : St) : J E (VC G 3 0 0 RX5) 0 0 0 [(0, .ref (gA G 13))] [] S (fC_State_everyLine_13   S) := by
  unfold fC_State_everyLine_13
  refine j_iconst (pc := 0) 0 C dX5_everyLine_0 (by decide) ?_
  refine j_istore_n (pc := 1) [(1, .int 0), (0, .ref (gA G 13))] C dX5_everyLine_1 rfl (Nat.le_of_ble_eq_true rfl) rfl ?_
  refine j_iconst (pc := 2) 0 C dX5_everyLine_2 (by decide) ?_
  refine j_istore_n (pc := 3) [(2, .int 0), (1, .int 0), (0, .ref (gA G 13))] C dX5_everyLine_3 rfl (Nat.le_of_ble_eq_true rfl) rfl ?_
  refine j_sub [2, 1, 0] rfl ?_
  exact bC_State_everyLine_13_4 C  FU 0 0 S
theorem cC_State_everyLine_13 {l : Launch} {G : Gc} (hfl : l.stackTraces = false) (hW : Wok G wC 54)    (S : St) : Ct l yX5_everyLine (Cond.code yX5_everyLine cX5_everyLine 3 (some .int) :: tblG) 3 0 0 G wC 54 [.ref (gA G 13)] S (fC_State_everyLine_13  S) := ct_of (own := RX5) hfl (by decide +kernel) rfl hW (Nat.le_of_ble_eq_true rfl) (fun E hE C => by subst hE; exact bC_State_everyLine_13 C    S)
theorem rC_State_everyLine_13 {E : Ec} {G : Gc} {nL mc ms : Nat} {own : String} {cc : ByteArray} {L : Nat} {ret : Option FieldType} {k n pc ix : Nat} {loc : List (Nat × Value)} {rest : List Value}   {S : St}  (C : JC E (VC G nL mc ms own) cc L ret) (hd : decode cc pc = .ok (.invokevirtual ix, 3)) (hq : Cond.methodLink own ix yX5_everyLine ∈ tblG) (hL : 3 + 1 ≤ L) (hW : (rest.map fun v => v.category).sum ≤ 8) (hf : k + 0 ≤ mc ∧ n + 0 ≤ ms) : Rn E (VC G nL mc ms own) k n 0 0 pc loc (.ref (gA G 13) :: rest) rest S (fC_State_everyLine_13  S) := rn_V (ci := 5) 13 (V := VC G nL mc ms own) (As := []) (Cq := (RX5, TX5, 3)) (cC_State_everyLine_13 C.flags C.wok   S) knX5_everyLine ⟨q_491, q_492⟩ rfl rfl C hd hq hL rfl rfl hW hf

theorem bC_State_isPaid_13 {E : Ec} {G : Gc}    (C : JC E (VC G 2 0 0 RX5) cX5_isPaid 1 (some .boolean))    (x1 : Int32) (S : St) : J E (VC G 2 0 0 RX5) 0 0 0 [(0, .ref (gA G 13)), (1, .int x1)] [] S (fC_State_isPaid_13  x1 S) := by
  unfold fC_State_isPaid_13
  refine j_aload_n (pc := 0) 0 C dX5_isPaid_0 rfl rfl ?_
  refine gC_13_0 (pc := 1) C dX5_isPaid_1 q_172 ?_
  refine j_bipush (pc := 4) 72 C dX5_isPaid_4 (by decide) ?_
  refine acC_52 (pc := 6) C dX5_isPaid_6 rfl ?_
  refine j_iload_n (pc := 7) 1 C dX5_isPaid_7 rfl rfl ?_
  refine j_ishr (pc := 8) C dX5_isPaid_8 ?_
  refine j_iconst (pc := 9) 1 C dX5_isPaid_9 (by decide) ?_
  refine j_iand (pc := 10) C dX5_isPaid_10 ?_
  refine j_iconst (pc := 11) 1 C dX5_isPaid_11 (by decide) ?_
  refine j_icmp_ne (pc := 12) 19 C dX5_isPaid_12 (by decide) ?_ ?_
  ·
    refine j_iconst (pc := 19) 0 C dX5_isPaid_19 (by decide) ?_
    exact j_zretc C dX5_isPaid_20 rfl (Nat.le_of_ble_eq_true rfl) (Nat.le_of_ble_eq_true rfl) rfl
  ·
    refine j_iconst (pc := 15) 1 C dX5_isPaid_15 (by decide) ?_
    refine j_goto (pc := 16) 20 C dX5_isPaid_16 (by decide) ?_
    exact j_zretc C dX5_isPaid_20 rfl (Nat.le_of_ble_eq_true rfl) (Nat.le_of_ble_eq_true rfl) rfl
theorem cC_State_isPaid_13 {l : Launch} {G : Gc} (hfl : l.stackTraces = false) (hW : Wok G wC 54)   (x1 : Int32) (S : St) : Ct l yX5_isPaid (Cond.code yX5_isPaid cX5_isPaid 2 (some .boolean) :: tblG) 1 0 0 G wC 54 [.ref (gA G 13), .int x1] S (fC_State_isPaid_13 x1 S) := ct_of (own := RX5) hfl (by decide +kernel) rfl hW (Nat.le_of_ble_eq_true rfl) (fun E hE C => by subst hE; exact bC_State_isPaid_13 C   x1 S)
theorem rC_State_isPaid_13 {E : Ec} {G : Gc} {nL mc ms : Nat} {own : String} {cc : ByteArray} {L : Nat} {ret : Option FieldType} {k n pc ix : Nat} {loc : List (Nat × Value)} {rest : List Value}  {x1 : Int32} {S : St}  (C : JC E (VC G nL mc ms own) cc L ret) (hd : decode cc pc = .ok (.invokevirtual ix, 3)) (hq : Cond.methodLink own ix yX5_isPaid ∈ tblG) (hL : 1 + 1 ≤ L) (hW : (rest.map fun v => v.category).sum ≤ 8) (hf : k + 0 ≤ mc ∧ n + 0 ≤ ms) : Rn E (VC G nL mc ms own) k n 0 0 pc loc (.int x1 :: .ref (gA G 13) :: rest) rest S (fC_State_isPaid_13 x1 S) := rn_V (ci := 5) 13 (V := VC G nL mc ms own) (As := [.int x1]) (Cq := (RX5, TX5, 3)) (cC_State_isPaid_13 C.flags C.wok  x1 S) knX5_isPaid ⟨q_365, q_366⟩ rfl rfl C hd hq hL rfl rfl hW hf

theorem bC_State_lateBits_13_4 {E : Ec} {G : Gc}    (C : JC E (VC G 3 0 0 RX5) cX5_lateBits 2 (some .int))    : ∀ (n : Nat) (x1 : Int32) (x2 : Int32) (S : St), J E (VC G 3 0 0 RX5) 0 0 4 [(0, .ref (gA G 13)), (1, .int x1), (2, .int x2)] [] S (fC_State_lateBits_13_4  n x1 x2 S) := by
  intro n
  induction n with
  | zero => intro x1 x2 S; rw [fC_State_lateBits_13_4]; exact j_none
  | succ n ih =>
    intro x1 x2 S
    rw [fC_State_lateBits_13_4]
    refine j_iload_n (pc := 4) 2 C dX5_lateBits_4 rfl rfl ?_
    refine j_aload_n (pc := 5) 0 C dX5_lateBits_5 rfl rfl ?_
    refine gC_13_1 (pc := 6) C dX5_lateBits_6 q_301 ?_
    refine gC_2_2 (pc := 9) C dX5_lateBits_9 q_476 ?_
    refine j_icmp_ge (pc := 12) 54 C dX5_lateBits_12 (by decide) ?_ ?_
    ·
      refine j_iload_n (pc := 54) 1 C dX5_lateBits_54 rfl rfl ?_
      exact j_iret C dX5_lateBits_55 rfl (Nat.le_of_ble_eq_true rfl) (Nat.le_of_ble_eq_true rfl)
    ·
      refine j_aload_n (pc := 15) 0 C dX5_lateBits_15 rfl rfl ?_
      refine j_iload_n (pc := 16) 2 C dX5_lateBits_16 rfl rfl ?_
      refine j_callI0 (pc := 17) C (rC_State_isPaid_13 C dX5_lateBits_17 q_367 (by omega) (Nat.le_of_ble_eq_true rfl) ⟨Nat.le_of_ble_eq_true rfl, Nat.le_of_ble_eq_true rfl⟩) ⟨Nat.le_of_ble_eq_true rfl, Nat.le_of_ble_eq_true rfl⟩ (fun r2 T1 => ?_)
      refine j_if_ne (pc := 20) 48 C dX5_lateBits_20 (by decide) ?_ ?_
      ·
        refine j_iinc (pc := 48) 2 (x2 + 1) [(2, .int (x2 + 1)), (0, .ref (gA G 13)), (1, .int x1)] C dX5_lateBits_48 rfl rfl (Nat.le_of_ble_eq_true rfl) rfl ?_
        refine j_goto (pc := 51) 4 C dX5_lateBits_51 (by decide) ?_
        refine j_sub [1, 2, 0] rfl ?_
        exact ih x1 (x2 + 1) T1
      ·
        refine j_aload_n (pc := 23) 0 C dX5_lateBits_23 rfl rfl ?_
        refine gC_13_0 (pc := 24) C dX5_lateBits_24 q_172 ?_
        refine j_bipush (pc := 27) 73 C dX5_lateBits_27 (by decide) ?_
        refine acC_52 (pc := 29) C dX5_lateBits_29 rfl ?_
        refine j_aload_n (pc := 30) 0 C dX5_lateBits_30 rfl rfl ?_
        refine gC_13_1 (pc := 31) C dX5_lateBits_31 q_301 ?_
        refine gC_2_11 (pc := 34) C dX5_lateBits_34 q_477 ?_
        refine j_iload_n (pc := 37) 2 C dX5_lateBits_37 rfl rfl ?_
        refine aC_22 (pc := 38) C dX5_lateBits_38 ?_
        refine j_icmp_le (pc := 39) 48 C dX5_lateBits_39 (by decide) ?_ ?_
        ·
          refine j_iinc (pc := 48) 2 (x2 + 1) [(2, .int (x2 + 1)), (0, .ref (gA G 13)), (1, .int x1)] C dX5_lateBits_48 rfl rfl (Nat.le_of_ble_eq_true rfl) rfl ?_
          refine j_goto (pc := 51) 4 C dX5_lateBits_51 (by decide) ?_
          refine j_sub [1, 2, 0] rfl ?_
          exact ih x1 (x2 + 1) T1
        ·
          refine j_iload_n (pc := 42) 1 C dX5_lateBits_42 rfl rfl ?_
          refine j_iconst (pc := 43) 1 C dX5_lateBits_43 (by decide) ?_
          refine j_iload_n (pc := 44) 2 C dX5_lateBits_44 rfl rfl ?_
          refine j_ishl (pc := 45) C dX5_lateBits_45 ?_
          refine j_ior (pc := 46) C dX5_lateBits_46 ?_
          refine j_nxI (fun v3 => ?_)
          refine j_istore_n (pc := 47) [(1, .int v3), (0, .ref (gA G 13)), (2, .int x2)] C dX5_lateBits_47 rfl (Nat.le_of_ble_eq_true rfl) rfl ?_
          refine j_iinc (pc := 48) 2 (x2 + 1) [(2, .int (x2 + 1)), (1, .int v3), (0, .ref (gA G 13))] C dX5_lateBits_48 rfl rfl (Nat.le_of_ble_eq_true rfl) rfl ?_
          refine j_goto (pc := 51) 4 C dX5_lateBits_51 (by decide) ?_
          refine j_sub [2, 1, 0] rfl ?_
          exact ih v3 (x2 + 1) T1
theorem bC_State_lateBits_13 {E : Ec} {G : Gc}    (C : JC E (VC G 3 0 0 RX5) cX5_lateBits 2 (some .int))     (S : St) : J E (VC G 3 0 0 RX5) 0 0 0 [(0, .ref (gA G 13))] [] S (fC_State_lateBits_13   S) := by
  unfold fC_State_lateBits_13
  refine j_iconst (pc := 0) 0 C dX5_lateBits_0 (by decide) ?_
  refine j_istore_n (pc := 1) [(1, .int 0), (0, .ref (gA G 13))] C dX5_lateBits_1 rfl (Nat.le_of_ble_eq_true rfl) rfl ?_
  refine j_iconst (pc := 2) 0 C dX5_lateBits_2 (by decide) ?_
  refine j_istore_n (pc := 3) [(2, .int 0), (1, .int 0), (0, .ref (gA G 13))] C dX5_lateBits_3 rfl (Nat.le_of_ble_eq_true rfl) rfl ?_
  refine j_sub [2, 1, 0] rfl ?_
  exact bC_State_lateBits_13_4 C  FU 0 0 S
theorem cC_State_lateBits_13 {l : Launch} {G : Gc} (hfl : l.stackTraces = false) (hW : Wok G wC 54)    (S : St) : Ct l yX5_lateBits (Cond.code yX5_lateBits cX5_lateBits 3 (some .int) :: tblG) 2 0 0 G wC 54 [.ref (gA G 13)] S (fC_State_lateBits_13  S) := ct_of (own := RX5) hfl (by decide +kernel) rfl hW (Nat.le_of_ble_eq_true rfl) (fun E hE C => by subst hE; exact bC_State_lateBits_13 C    S)
theorem rC_State_lateBits_13 {E : Ec} {G : Gc} {nL mc ms : Nat} {own : String} {cc : ByteArray} {L : Nat} {ret : Option FieldType} {k n pc ix : Nat} {loc : List (Nat × Value)} {rest : List Value}   {S : St}  (C : JC E (VC G nL mc ms own) cc L ret) (hd : decode cc pc = .ok (.invokevirtual ix, 3)) (hq : Cond.methodLink own ix yX5_lateBits ∈ tblG) (hL : 2 + 1 ≤ L) (hW : (rest.map fun v => v.category).sum ≤ 8) (hf : k + 0 ≤ mc ∧ n + 0 ≤ ms) : Rn E (VC G nL mc ms own) k n 0 0 pc loc (.ref (gA G 13) :: rest) rest S (fC_State_lateBits_13  S) := rn_V (ci := 5) 13 (V := VC G nL mc ms own) (As := []) (Cq := (RX5, TX5, 3)) (cC_State_lateBits_13 C.flags C.wok   S) knX5_lateBits ⟨q_479, q_480⟩ rfl rfl C hd hq hL rfl rfl hW hf

theorem bC_State_isOld_13 {E : Ec} {G : Gc}    (C : JC E (VC G 3 0 0 RX5) cX5_isOld 1 (some .boolean))    (x1 : Int32) (S : St) : J E (VC G 3 0 0 RX5) 0 0 0 [(0, .ref (gA G 13)), (1, .int x1)] [] S (fC_State_isOld_13  x1 S) := by
  unfold fC_State_isOld_13
  refine j_aload_n (pc := 0) 0 C dX5_isOld_0 rfl rfl ?_
  refine gC_13_1 (pc := 1) C dX5_isOld_1 q_301 ?_
  refine gC_2_7 (pc := 4) C dX5_isOld_4 q_302 ?_
  refine j_iload_n (pc := 7) 1 C dX5_isOld_7 rfl rfl ?_
  refine aC_18 (pc := 8) C dX5_isOld_8 ?_
  refine j_nxI (fun v1 => ?_)
  refine j_istore_n (pc := 9) [(2, .int v1), (0, .ref (gA G 13)), (1, .int x1)] C dX5_isOld_9 rfl (Nat.le_of_ble_eq_true rfl) rfl ?_
  refine j_iload_n (pc := 10) 0 C dX5_isOld_10 rfl rfl ?_
  refine j_bipush (pc := 11) 60 C dX5_isOld_11 (by decide) ?_
  refine j_icmp_ge (pc := 13) 37 C dX5_isOld_13 (by decide) ?_ ?_
  ·
    refine j_iconst (pc := 37) 0 C dX5_isOld_37 (by decide) ?_
    exact j_zretc C dX5_isOld_38 rfl (Nat.le_of_ble_eq_true rfl) (Nat.le_of_ble_eq_true rfl) rfl
  ·
    refine j_iload_n (pc := 16) 0 C dX5_isOld_16 rfl rfl ?_
    refine j_aload_n (pc := 17) 1 C dX5_isOld_17 rfl rfl ?_
    refine gC_13_0 (pc := 18) C dX5_isOld_18 q_172 ?_
    refine j_bipush (pc := 21) 73 C dX5_isOld_21 (by decide) ?_
    refine acC_52 (pc := 23) C dX5_isOld_23 rfl ?_
    refine j_bipush (pc := 24) 10 C dX5_isOld_24 (by decide) ?_
    refine j_idivc (pc := 26) C dX5_isOld_26 rfl ?_
    refine j_iadd (pc := 27) C dX5_isOld_27 ?_
    refine j_bipush (pc := 28) 60 C dX5_isOld_28 (by decide) ?_
    refine j_icmp_lt (pc := 30) 37 C dX5_isOld_30 (by decide) ?_ ?_
    ·
      refine j_iconst (pc := 37) 0 C dX5_isOld_37 (by decide) ?_
      exact j_zretc C dX5_isOld_38 rfl (Nat.le_of_ble_eq_true rfl) (Nat.le_of_ble_eq_true rfl) rfl
    ·
      refine j_iconst (pc := 33) 1 C dX5_isOld_33 (by decide) ?_
      refine j_goto (pc := 34) 38 C dX5_isOld_34 (by decide) ?_
      exact j_zretc C dX5_isOld_38 rfl (Nat.le_of_ble_eq_true rfl) (Nat.le_of_ble_eq_true rfl) rfl
theorem cC_State_isOld_13 {l : Launch} {G : Gc} (hfl : l.stackTraces = false) (hW : Wok G wC 54)   (x1 : Int32) (S : St) : Ct l yX5_isOld (Cond.code yX5_isOld cX5_isOld 3 (some .boolean) :: tblG) 1 0 0 G wC 54 [.ref (gA G 13), .int x1] S (fC_State_isOld_13 x1 S) := ct_of (own := RX5) hfl (by decide +kernel) rfl hW (Nat.le_of_ble_eq_true rfl) (fun E hE C => by subst hE; exact bC_State_isOld_13 C   x1 S)
theorem rC_State_isOld_13 {E : Ec} {G : Gc} {nL mc ms : Nat} {own : String} {cc : ByteArray} {L : Nat} {ret : Option FieldType} {k n pc ix : Nat} {loc : List (Nat × Value)} {rest : List Value}  {x1 : Int32} {S : St}  (C : JC E (VC G nL mc ms own) cc L ret) (hd : decode cc pc = .ok (.invokevirtual ix, 3)) (hq : Cond.methodLink own ix yX5_isOld ∈ tblG) (hL : 1 + 1 ≤ L) (hW : (rest.map fun v => v.category).sum ≤ 8) (hf : k + 0 ≤ mc ∧ n + 0 ≤ ms) : Rn E (VC G nL mc ms own) k n 0 0 pc loc (.int x1 :: .ref (gA G 13) :: rest) rest S (fC_State_isOld_13 x1 S) := rn_V (ci := 5) 13 (V := VC G nL mc ms own) (As := [.int x1]) (Cq := (RX5, TX5, 3)) (cC_State_isOld_13 C.flags C.wok  x1 S) knX5_isOld ⟨q_304, q_305⟩ rfl rfl C hd hq hL rfl rfl hW hf

theorem bC_State_oldBits_13_4 {E : Ec} {G : Gc}    (C : JC E (VC G 3 0 0 RX5) cX5_oldBits 2 (some .int))    : ∀ (n : Nat) (x1 : Int32) (x2 : Int32) (S : St), J E (VC G 3 0 0 RX5) 0 0 4 [(0, .ref (gA G 13)), (1, .int x1), (2, .int x2)] [] S (fC_State_oldBits_13_4  n x1 x2 S) := by
  intro n
  induction n with
  | zero => intro x1 x2 S; rw [fC_State_oldBits_13_4]; exact j_none
  | succ n ih =>
    intro x1 x2 S
    rw [fC_State_oldBits_13_4]
    refine j_iload_n (pc := 4) 2 C dX5_oldBits_4 rfl rfl ?_
    refine j_aload_n (pc := 5) 0 C dX5_oldBits_5 rfl rfl ?_
    refine gC_13_1 (pc := 6) C dX5_oldBits_6 q_301 ?_
    refine gC_2_1 (pc := 9) C dX5_oldBits_9 q_395 ?_
    refine j_icmp_ge (pc := 12) 35 C dX5_oldBits_12 (by decide) ?_ ?_
    ·
      refine j_iload_n (pc := 35) 1 C dX5_oldBits_35 rfl rfl ?_
      exact j_iret C dX5_oldBits_36 rfl (Nat.le_of_ble_eq_true rfl) (Nat.le_of_ble_eq_true rfl)
    ·
      refine j_aload_n (pc := 15) 0 C dX5_oldBits_15 rfl rfl ?_
      refine j_iload_n (pc := 16) 2 C dX5_oldBits_16 rfl rfl ?_
      refine j_callI0 (pc := 17) C (rC_State_isOld_13 C dX5_oldBits_17 q_306 (by omega) (Nat.le_of_ble_eq_true rfl) ⟨Nat.le_of_ble_eq_true rfl, Nat.le_of_ble_eq_true rfl⟩) ⟨Nat.le_of_ble_eq_true rfl, Nat.le_of_ble_eq_true rfl⟩ (fun r2 T1 => ?_)
      refine j_if_eq (pc := 20) 29 C dX5_oldBits_20 (by decide) ?_ ?_
      ·
        refine j_iinc (pc := 29) 2 (x2 + 1) [(2, .int (x2 + 1)), (0, .ref (gA G 13)), (1, .int x1)] C dX5_oldBits_29 rfl rfl (Nat.le_of_ble_eq_true rfl) rfl ?_
        refine j_goto (pc := 32) 4 C dX5_oldBits_32 (by decide) ?_
        refine j_sub [1, 2, 0] rfl ?_
        exact ih x1 (x2 + 1) T1
      ·
        refine j_iload_n (pc := 23) 1 C dX5_oldBits_23 rfl rfl ?_
        refine j_iconst (pc := 24) 1 C dX5_oldBits_24 (by decide) ?_
        refine j_iload_n (pc := 25) 2 C dX5_oldBits_25 rfl rfl ?_
        refine j_ishl (pc := 26) C dX5_oldBits_26 ?_
        refine j_ior (pc := 27) C dX5_oldBits_27 ?_
        refine j_nxI (fun v3 => ?_)
        refine j_istore_n (pc := 28) [(1, .int v3), (0, .ref (gA G 13)), (2, .int x2)] C dX5_oldBits_28 rfl (Nat.le_of_ble_eq_true rfl) rfl ?_
        refine j_iinc (pc := 29) 2 (x2 + 1) [(2, .int (x2 + 1)), (1, .int v3), (0, .ref (gA G 13))] C dX5_oldBits_29 rfl rfl (Nat.le_of_ble_eq_true rfl) rfl ?_
        refine j_goto (pc := 32) 4 C dX5_oldBits_32 (by decide) ?_
        refine j_sub [2, 1, 0] rfl ?_
        exact ih v3 (x2 + 1) T1
theorem bC_State_oldBits_13 {E : Ec} {G : Gc}    (C : JC E (VC G 3 0 0 RX5) cX5_oldBits 2 (some .int))     (S : St) : J E (VC G 3 0 0 RX5) 0 0 0 [(0, .ref (gA G 13))] [] S (fC_State_oldBits_13   S) := by
  unfold fC_State_oldBits_13
  refine j_iconst (pc := 0) 0 C dX5_oldBits_0 (by decide) ?_
  refine j_istore_n (pc := 1) [(1, .int 0), (0, .ref (gA G 13))] C dX5_oldBits_1 rfl (Nat.le_of_ble_eq_true rfl) rfl ?_
  refine j_iconst (pc := 2) 0 C dX5_oldBits_2 (by decide) ?_
  refine j_istore_n (pc := 3) [(2, .int 0), (1, .int 0), (0, .ref (gA G 13))] C dX5_oldBits_3 rfl (Nat.le_of_ble_eq_true rfl) rfl ?_
  refine j_sub [2, 1, 0] rfl ?_
  exact bC_State_oldBits_13_4 C  FU 0 0 S
theorem cC_State_oldBits_13 {l : Launch} {G : Gc} (hfl : l.stackTraces = false) (hW : Wok G wC 54)    (S : St) : Ct l yX5_oldBits (Cond.code yX5_oldBits cX5_oldBits 3 (some .int) :: tblG) 2 0 0 G wC 54 [.ref (gA G 13)] S (fC_State_oldBits_13  S) := ct_of (own := RX5) hfl (by decide +kernel) rfl hW (Nat.le_of_ble_eq_true rfl) (fun E hE C => by subst hE; exact bC_State_oldBits_13 C    S)
theorem rC_State_oldBits_13 {E : Ec} {G : Gc} {nL mc ms : Nat} {own : String} {cc : ByteArray} {L : Nat} {ret : Option FieldType} {k n pc ix : Nat} {loc : List (Nat × Value)} {rest : List Value}   {S : St}  (C : JC E (VC G nL mc ms own) cc L ret) (hd : decode cc pc = .ok (.invokevirtual ix, 3)) (hq : Cond.methodLink own ix yX5_oldBits ∈ tblG) (hL : 2 + 1 ≤ L) (hW : (rest.map fun v => v.category).sum ≤ 8) (hf : k + 0 ≤ mc ∧ n + 0 ≤ ms) : Rn E (VC G nL mc ms own) k n 0 0 pc loc (.ref (gA G 13) :: rest) rest S (fC_State_oldBits_13  S) := rn_V (ci := 5) 13 (V := VC G nL mc ms own) (As := []) (Cq := (RX5, TX5, 3)) (cC_State_oldBits_13 C.flags C.wok   S) knX5_oldBits ⟨q_483, q_484⟩ rfl rfl C hd hq hL rfl rfl hW hf

theorem knX9_ahead : Kn yX9_ahead cX9_ahead 4 (some .int) 2 := ⟨q_607, q_40, by decide +kernel, by decide⟩
theorem bC_Main_ahead_25 {E : Ec} {G : Gc}    (C : JC E (VC G 4 1 6 RX9) cX9_ahead 8 (some .int))    (x1 : Int32) (x2 : Int32) (s0 : Int32) (S : St) : J E (VC G 4 1 6 RX9) 0 0 25 [(0, .ref (gA G 0)), (1, .int x1), (2, .int x2)] [.int s0, .ref (gA G 0)] S (fC_Main_ahead_25  x1 x2 s0 S) := by
  unfold fC_Main_ahead_25
  refine j_callv (pc := 25) C (rC_Main_need C dX9_ahead_25 q_60 (by omega) (Nat.le_of_ble_eq_true rfl) ⟨Nat.le_of_ble_eq_true rfl, Nat.le_of_ble_eq_true rfl⟩) ⟨Nat.le_of_ble_eq_true rfl, Nat.le_of_ble_eq_true rfl⟩ (fun T1 => ?_)
  refine j_aload_n (pc := 28) 0 C dX9_ahead_28 rfl rfl ?_
  refine gC_0_10 (pc := 29) C dX9_ahead_29 q_591 ?_
  refine j_iload_n (pc := 32) 1 C dX9_ahead_32 rfl rfl ?_
  refine j_callR0 (pc := 33) C (rC_Outlook_afterWeeks C dX9_ahead_33 q_606 (by omega) (Nat.le_of_ble_eq_true rfl) ⟨Nat.le_of_ble_eq_true rfl, Nat.le_of_ble_eq_true rfl⟩) ⟨Nat.le_of_ble_eq_true rfl, Nat.le_of_ble_eq_true rfl⟩ (fun T3 => ?_)
  refine j_astore_n (pc := 36) [(3, .ref (gA G 13)), (0, .ref (gA G 0)), (1, .int x1), (2, .int x2)] C dX9_ahead_36 rfl (Nat.le_of_ble_eq_true rfl) rfl ?_
  refine j_iload_n (pc := 37) 3 C dX9_ahead_37 rfl rfl ?_
  refine j_lswC (pc := 38) (off := 26) 64 0 C dX9_ahead_38 (by decide) (by decide) (by decide) ?_ (fun h38_0 => ?_)
  ·
    refine j_aload_n (pc := 64) 0 C dX9_ahead_64 rfl rfl ?_
    refine j_callI0 (pc := 65) C (rC_State_everyLine_13 C dX9_ahead_65 q_493 (by omega) (Nat.le_of_ble_eq_true rfl) ⟨Nat.le_of_ble_eq_true rfl, Nat.le_of_ble_eq_true rfl⟩) ⟨Nat.le_of_ble_eq_true rfl, Nat.le_of_ble_eq_true rfl⟩ (fun r6 T5 => ?_)
    exact j_iret C dX9_ahead_68 rfl (Nat.le_of_ble_eq_true rfl) (Nat.le_of_ble_eq_true rfl)
  refine j_lswC (pc := 38) (off := 31) 69 1 C dX9_ahead_38 (by decide) (by decide) (by decide) ?_ (fun h38_1 => ?_)
  ·
    refine j_aload_n (pc := 69) 0 C dX9_ahead_69 rfl rfl ?_
    refine j_callI0 (pc := 70) C (rC_State_lateBits_13 C dX9_ahead_70 q_481 (by omega) (Nat.le_of_ble_eq_true rfl) ⟨Nat.le_of_ble_eq_true rfl, Nat.le_of_ble_eq_true rfl⟩) ⟨Nat.le_of_ble_eq_true rfl, Nat.le_of_ble_eq_true rfl⟩ (fun r8 T7 => ?_)
    exact j_iret C dX9_ahead_73 rfl (Nat.le_of_ble_eq_true rfl) (Nat.le_of_ble_eq_true rfl)
  refine j_lswD (pc := 38) 74 C dX9_ahead_38 (by decide) (by have g0 := ne_i (z := 0) h38_0 (by decide); have g1 := ne_i (z := 1) h38_1 (by decide); simp [Op.lookupswitch.offset, g0, Ne.symm g0, g1, Ne.symm g1]) (by decide) ?_
  refine j_aload_n (pc := 74) 0 C dX9_ahead_74 rfl rfl ?_
  refine j_callI0 (pc := 75) C (rC_State_oldBits_13 C dX9_ahead_75 q_485 (by omega) (Nat.le_of_ble_eq_true rfl) ⟨Nat.le_of_ble_eq_true rfl, Nat.le_of_ble_eq_true rfl⟩) ⟨Nat.le_of_ble_eq_true rfl, Nat.le_of_ble_eq_true rfl⟩ (fun r10 T9 => ?_)
  exact j_iret C dX9_ahead_78 rfl (Nat.le_of_ble_eq_true rfl) (Nat.le_of_ble_eq_true rfl)
theorem bC_Main_ahead_24 {E : Ec} {G : Gc}    (C : JC E (VC G 4 1 6 RX9) cX9_ahead 8 (some .int))    (x1 : Int32) (x2 : Int32) (S : St) : J E (VC G 4 1 6 RX9) 0 0 24 [(0, .ref (gA G 0)), (1, .int x1), (2, .int x2)] [.ref (gA G 0)] S (fC_Main_ahead_24  x1 x2 S) := by
  unfold fC_Main_ahead_24
  refine j_iconst (pc := 24) 0 C dX9_ahead_24 (by decide) ?_
  exact bC_Main_ahead_25 C  x1 x2 0 S
theorem bC_Main_ahead {E : Ec} {G : Gc}    (C : JC E (VC G 4 1 6 RX9) cX9_ahead 8 (some .int))    (x1 : Int32) (x2 : Int32) (S : St) : J E (VC G 4 1 6 RX9) 0 0 0 [(0, .ref (gA G 0)), (1, .int x1), (2, .int x2)] [] S (fC_Main_ahead  x1 x2 S) := by
  unfold fC_Main_ahead
  refine j_aload_n (pc := 0) 0 C dX9_ahead_0 rfl rfl ?_
  refine j_iload_n (pc := 1) 1 C dX9_ahead_1 rfl rfl ?_
  refine j_iconst (pc := 2) 0 C dX9_ahead_2 (by decide) ?_
  refine j_bipush (pc := 3) 99 C dX9_ahead_3 (by decide) ?_
  refine j_callI0 (pc := 5) C (rC_Main_isWithin C dX9_ahead_5 q_49 (by omega) (Nat.le_of_ble_eq_true rfl) ⟨Nat.le_of_ble_eq_true rfl, Nat.le_of_ble_eq_true rfl⟩) ⟨Nat.le_of_ble_eq_true rfl, Nat.le_of_ble_eq_true rfl⟩ (fun r2 T1 => ?_)
  refine j_if_eq (pc := 8) 24 C dX9_ahead_8 (by decide) ?_ ?_
  ·
    exact bC_Main_ahead_24 C  x1 x2 T1
  ·
    refine j_iload_n (pc := 11) 2 C dX9_ahead_11 rfl rfl ?_
    refine j_iconst (pc := 12) 0 C dX9_ahead_12 (by decide) ?_
    refine j_iconst (pc := 13) 2 C dX9_ahead_13 (by decide) ?_
    refine j_callI0 (pc := 14) C (rC_Main_isWithin C dX9_ahead_14 q_49 (by omega) (Nat.le_of_ble_eq_true rfl) ⟨Nat.le_of_ble_eq_true rfl, Nat.le_of_ble_eq_true rfl⟩) ⟨Nat.le_of_ble_eq_true rfl, Nat.le_of_ble_eq_true rfl⟩ (fun r4 T3 => ?_)
    refine j_if_eq (pc := 17) 24 C dX9_ahead_17 (by decide) ?_ ?_
    ·
      exact bC_Main_ahead_24 C  x1 x2 T3
    ·
      refine j_iconst (pc := 20) 1 C dX9_ahead_20 (by decide) ?_
      refine j_goto (pc := 21) 25 C dX9_ahead_21 (by decide) ?_
      exact bC_Main_ahead_25 C  x1 x2 1 T3
theorem cC_Main_ahead {l : Launch} {G : Gc} (hfl : l.stackTraces = false) (hW : Wok G wC 54)   (x1 : Int32) (x2 : Int32) (S : St) : Ct l yX9_ahead (Cond.code yX9_ahead cX9_ahead 4 (some .int) :: tblG) 8 1 6 G wC 54 [.ref (gA G 0), .int x1, .int x2] S (fC_Main_ahead x1 x2 S) := ct_of (own := RX9) hfl (by decide +kernel) rfl hW (Nat.le_of_ble_eq_true rfl) (fun E hE C => by subst hE; exact bC_Main_ahead C   x1 x2 S)
theorem rC_Main_ahead {E : Ec} {G : Gc} {nL mc ms : Nat} {own : String} {cc : ByteArray} {L : Nat} {ret : Option FieldType} {k n pc ix : Nat} {loc : List (Nat × Value)} {rest : List Value}  {x1 : Int32} {x2 : Int32} {S : St}  (C : JC E (VC G nL mc ms own) cc L ret) (hd : decode cc pc = .ok (.invokevirtual ix, 3)) (hq : Cond.methodLink own ix yX9_ahead ∈ tblG) (hL : 8 + 1 ≤ L) (hW : (rest.map fun v => v.category).sum ≤ 8) (hf : k + 1 ≤ mc ∧ n + 6 ≤ ms) : Rn E (VC G nL mc ms own) k n 1 6 pc loc (.int x2 :: .int x1 :: .ref (gA G 0) :: rest) rest S (fC_Main_ahead x1 x2 S) := rn_V (ci := 9) 0 (V := VC G nL mc ms own) (As := [.int x1, .int x2]) (Cq := (RX9, TX9, 15)) (cC_Main_ahead C.flags C.wok  x1 x2 S) knX9_ahead ⟨q_608, q_609⟩ rfl rfl C hd hq hL rfl rfl hW hf

theorem bC_State_knowsAll_13 {E : Ec} {G : Gc}    (C : JC E (VC G 3 0 0 RX5) cX5_knowsAll 2 (some .boolean))    (x1 : Int32) (x2 : Int32) (S : St) : J E (VC G 3 0 0 RX5) 0 0 0 [(0, .ref (gA G 13)), (1, .int x1), (2, .int x2)] [] S (fC_State_knowsAll_13  x1 x2 S) := by
  unfold fC_State_knowsAll_13
  refine j_aload_n (pc := 0) 0 C dX5_knowsAll_0 rfl rfl ?_
  refine gC_13_0 (pc := 1) C dX5_knowsAll_1 q_172 ?_
  refine j_iload_n (pc := 4) 1 C dX5_knowsAll_4 rfl rfl ?_
  refine j_iload_n (pc := 5) 2 C dX5_knowsAll_5 rfl rfl ?_
  refine j_callI0 (pc := 6) C (rC_State_place C dX5_knowsAll_6 q_315 (by omega) (Nat.le_of_ble_eq_true rfl) ⟨Nat.le_of_ble_eq_true rfl, Nat.le_of_ble_eq_true rfl⟩) ⟨Nat.le_of_ble_eq_true rfl, Nat.le_of_ble_eq_true rfl⟩ (fun r2 T1 => ?_)
  refine aC_52 (pc := 9) C dX5_knowsAll_9 ?_
  refine j_aload_n (pc := 10) 0 C dX5_knowsAll_10 rfl rfl ?_
  refine gC_13_1 (pc := 11) C dX5_knowsAll_11 q_301 ?_
  refine gC_2_4 (pc := 14) C dX5_knowsAll_14 q_325 ?_
  refine j_iload_n (pc := 17) 2 C dX5_knowsAll_17 rfl rfl ?_
  refine aC_15 (pc := 18) C dX5_knowsAll_18 ?_
  refine j_icmp_lt (pc := 19) 26 C dX5_knowsAll_19 (by decide) ?_ ?_
  ·
    refine j_iconst (pc := 26) 0 C dX5_knowsAll_26 (by decide) ?_
    exact j_zretc C dX5_knowsAll_27 rfl (Nat.le_of_ble_eq_true rfl) (Nat.le_of_ble_eq_true rfl) rfl
  ·
    refine j_iconst (pc := 22) 1 C dX5_knowsAll_22 (by decide) ?_
    refine j_goto (pc := 23) 27 C dX5_knowsAll_23 (by decide) ?_
    exact j_zretc C dX5_knowsAll_27 rfl (Nat.le_of_ble_eq_true rfl) (Nat.le_of_ble_eq_true rfl) rfl
theorem cC_State_knowsAll_13 {l : Launch} {G : Gc} (hfl : l.stackTraces = false) (hW : Wok G wC 54)   (x1 : Int32) (x2 : Int32) (S : St) : Ct l yX5_knowsAll (Cond.code yX5_knowsAll cX5_knowsAll 3 (some .boolean) :: tblG) 2 0 0 G wC 54 [.ref (gA G 13), .int x1, .int x2] S (fC_State_knowsAll_13 x1 x2 S) := ct_of (own := RX5) hfl (by decide +kernel) rfl hW (Nat.le_of_ble_eq_true rfl) (fun E hE C => by subst hE; exact bC_State_knowsAll_13 C   x1 x2 S)
theorem rC_State_knowsAll_13 {E : Ec} {G : Gc} {nL mc ms : Nat} {own : String} {cc : ByteArray} {L : Nat} {ret : Option FieldType} {k n pc ix : Nat} {loc : List (Nat × Value)} {rest : List Value}  {x1 : Int32} {x2 : Int32} {S : St}  (C : JC E (VC G nL mc ms own) cc L ret) (hd : decode cc pc = .ok (.invokevirtual ix, 3)) (hq : Cond.methodLink own ix yX5_knowsAll ∈ tblG) (hL : 2 + 1 ≤ L) (hW : (rest.map fun v => v.category).sum ≤ 8) (hf : k + 0 ≤ mc ∧ n + 0 ≤ ms) : Rn E (VC G nL mc ms own) k n 0 0 pc loc (.int x2 :: .int x1 :: .ref (gA G 13) :: rest) rest S (fC_State_knowsAll_13 x1 x2 S) := rn_V (ci := 5) 13 (V := VC G nL mc ms own) (As := [.int x1, .int x2]) (Cq := (RX5, TX5, 3)) (cC_State_knowsAll_13 C.flags C.wok  x1 x2 S) knX5_knowsAll ⟨q_512, q_513⟩ rfl rfl C hd hq hL rfl rfl hW hf

theorem bC_State_memoryOf_13 {E : Ec} {G : Gc}    (C : JC E (VC G 2 0 0 RX5) cX5_memoryOf 2 (some .int))    (x1 : Int32) (S : St) : J E (VC G 2 0 0 RX5) 0 0 0 [(0, .ref (gA G 13)), (1, .int x1)] [] S (fC_State_memoryOf_13  x1 S) := by
  unfold fC_State_memoryOf_13
  refine j_aload_n (pc := 0) 0 C dX5_memoryOf_0 rfl rfl ?_
  refine j_iload_n (pc := 1) 1 C dX5_memoryOf_1 rfl rfl ?_
  refine j_callI0 (pc := 2) C (rC_State_isOld_13 C dX5_memoryOf_2 q_306 (by omega) (Nat.le_of_ble_eq_true rfl) ⟨Nat.le_of_ble_eq_true rfl, Nat.le_of_ble_eq_true rfl⟩) ⟨Nat.le_of_ble_eq_true rfl, Nat.le_of_ble_eq_true rfl⟩ (fun r2 T1 => ?_)
  refine j_if_eq (pc := 5) 22 C dX5_memoryOf_5 (by decide) ?_ ?_
  ·
    refine j_aload_n (pc := 22) 0 C dX5_memoryOf_22 rfl rfl ?_
    refine gC_13_1 (pc := 23) C dX5_memoryOf_23 q_301 ?_
    refine gC_2_6 (pc := 26) C dX5_memoryOf_26 q_307 ?_
    refine j_iload_n (pc := 29) 1 C dX5_memoryOf_29 rfl rfl ?_
    refine aC_17 (pc := 30) C dX5_memoryOf_30 ?_
    exact j_iret C dX5_memoryOf_31 rfl (Nat.le_of_ble_eq_true rfl) (Nat.le_of_ble_eq_true rfl)
  ·
    refine j_aload_n (pc := 8) 0 C dX5_memoryOf_8 rfl rfl ?_
    refine gC_13_1 (pc := 9) C dX5_memoryOf_9 q_301 ?_
    refine gC_2_6 (pc := 12) C dX5_memoryOf_12 q_307 ?_
    refine j_iload_n (pc := 15) 1 C dX5_memoryOf_15 rfl rfl ?_
    refine aC_17 (pc := 16) C dX5_memoryOf_16 ?_
    refine j_iconst (pc := 17) 2 C dX5_memoryOf_17 (by decide) ?_
    refine j_idivc (pc := 18) C dX5_memoryOf_18 rfl ?_
    refine j_goto (pc := 19) 31 C dX5_memoryOf_19 (by decide) ?_
    exact j_iret C dX5_memoryOf_31 rfl (Nat.le_of_ble_eq_true rfl) (Nat.le_of_ble_eq_true rfl)
theorem cC_State_memoryOf_13 {l : Launch} {G : Gc} (hfl : l.stackTraces = false) (hW : Wok G wC 54)   (x1 : Int32) (S : St) : Ct l yX5_memoryOf (Cond.code yX5_memoryOf cX5_memoryOf 2 (some .int) :: tblG) 2 0 0 G wC 54 [.ref (gA G 13), .int x1] S (fC_State_memoryOf_13 x1 S) := ct_of (own := RX5) hfl (by decide +kernel) rfl hW (Nat.le_of_ble_eq_true rfl) (fun E hE C => by subst hE; exact bC_State_memoryOf_13 C   x1 S)
theorem rC_State_memoryOf_13 {E : Ec} {G : Gc} {nL mc ms : Nat} {own : String} {cc : ByteArray} {L : Nat} {ret : Option FieldType} {k n pc ix : Nat} {loc : List (Nat × Value)} {rest : List Value}  {x1 : Int32} {S : St}  (C : JC E (VC G nL mc ms own) cc L ret) (hd : decode cc pc = .ok (.invokevirtual ix, 3)) (hq : Cond.methodLink own ix yX5_memoryOf ∈ tblG) (hL : 2 + 1 ≤ L) (hW : (rest.map fun v => v.category).sum ≤ 8) (hf : k + 0 ≤ mc ∧ n + 0 ≤ ms) : Rn E (VC G nL mc ms own) k n 0 0 pc loc (.int x1 :: .ref (gA G 13) :: rest) rest S (fC_State_memoryOf_13 x1 S) := rn_V (ci := 5) 13 (V := VC G nL mc ms own) (As := [.int x1]) (Cq := (RX5, TX5, 3)) (cC_State_memoryOf_13 C.flags C.wok  x1 S) knX5_memoryOf ⟨q_309, q_310⟩ rfl rfl C hd hq hL rfl rfl hW hf

theorem bC_State_roomOf_13 {E : Ec} {G : Gc}    (C : JC E (VC G 3 0 0 RX5) cX5_roomOf 3 (some .int))    (x1 : Int32) (S : St) : J E (VC G 3 0 0 RX5) 0 0 0 [(0, .ref (gA G 13)), (1, .int x1)] [] S (fC_State_roomOf_13  x1 S) := by
  unfold fC_State_roomOf_13
  refine j_aload_n (pc := 0) 0 C dX5_roomOf_0 rfl rfl ?_
  refine j_iload_n (pc := 1) 1 C dX5_roomOf_1 rfl rfl ?_
  refine j_callI0 (pc := 2) C (rC_State_memoryOf_13 C dX5_roomOf_2 q_311 (by omega) (Nat.le_of_ble_eq_true rfl) ⟨Nat.le_of_ble_eq_true rfl, Nat.le_of_ble_eq_true rfl⟩) ⟨Nat.le_of_ble_eq_true rfl, Nat.le_of_ble_eq_true rfl⟩ (fun r2 T1 => ?_)
  refine j_aload_n (pc := 5) 0 C dX5_roomOf_5 rfl rfl ?_
  refine j_iload_n (pc := 6) 1 C dX5_roomOf_6 rfl rfl ?_
  refine j_callI0 (pc := 7) C (rC_State_linesOf_13 C dX5_roomOf_7 q_319 (by omega) (Nat.le_of_ble_eq_true rfl) ⟨Nat.le_of_ble_eq_true rfl, Nat.le_of_ble_eq_true rfl⟩) ⟨Nat.le_of_ble_eq_true rfl, Nat.le_of_ble_eq_true rfl⟩ (fun r4 T3 => ?_)
  refine j_isub (pc := 10) C dX5_roomOf_10 ?_
  refine j_nxI (fun v5 => ?_)
  refine j_istore_n (pc := 11) [(2, .int v5), (0, .ref (gA G 13)), (1, .int x1)] C dX5_roomOf_11 rfl (Nat.le_of_ble_eq_true rfl) rfl ?_
  refine j_iload_n (pc := 12) 0 C dX5_roomOf_12 rfl rfl ?_
  refine j_if_ge (pc := 13) 20 C dX5_roomOf_13 (by decide) ?_ ?_
  ·
    refine j_iload_n (pc := 20) 0 C dX5_roomOf_20 rfl rfl ?_
    exact j_iret C dX5_roomOf_21 rfl (Nat.le_of_ble_eq_true rfl) (Nat.le_of_ble_eq_true rfl)
  ·
    refine j_iconst (pc := 16) 0 C dX5_roomOf_16 (by decide) ?_
    refine j_goto (pc := 17) 21 C dX5_roomOf_17 (by decide) ?_
    exact j_iret C dX5_roomOf_21 rfl (Nat.le_of_ble_eq_true rfl) (Nat.le_of_ble_eq_true rfl)
theorem cC_State_roomOf_13 {l : Launch} {G : Gc} (hfl : l.stackTraces = false) (hW : Wok G wC 54)   (x1 : Int32) (S : St) : Ct l yX5_roomOf (Cond.code yX5_roomOf cX5_roomOf 3 (some .int) :: tblG) 3 0 0 G wC 54 [.ref (gA G 13), .int x1] S (fC_State_roomOf_13 x1 S) := ct_of (own := RX5) hfl (by decide +kernel) rfl hW (Nat.le_of_ble_eq_true rfl) (fun E hE C => by subst hE; exact bC_State_roomOf_13 C   x1 S)
theorem rC_State_roomOf_13 {E : Ec} {G : Gc} {nL mc ms : Nat} {own : String} {cc : ByteArray} {L : Nat} {ret : Option FieldType} {k n pc ix : Nat} {loc : List (Nat × Value)} {rest : List Value}  {x1 : Int32} {S : St}  (C : JC E (VC G nL mc ms own) cc L ret) (hd : decode cc pc = .ok (.invokevirtual ix, 3)) (hq : Cond.methodLink own ix yX5_roomOf ∈ tblG) (hL : 3 + 1 ≤ L) (hW : (rest.map fun v => v.category).sum ≤ 8) (hf : k + 0 ≤ mc ∧ n + 0 ≤ ms) : Rn E (VC G nL mc ms own) k n 0 0 pc loc (.int x1 :: .ref (gA G 13) :: rest) rest S (fC_State_roomOf_13 x1 S) := rn_V (ci := 5) 13 (V := VC G nL mc ms own) (As := [.int x1]) (Cq := (RX5, TX5, 3)) (cC_State_roomOf_13 C.flags C.wok  x1 S) knX5_roomOf ⟨q_321, q_322⟩ rfl rfl C hd hq hL rfl rfl hW hf

theorem bC_State_learnable_13 {E : Ec} {G : Gc}    (C : JC E (VC G 4 0 0 RX5) cX5_learnable 3 (some .int))    (x1 : Int32) (x2 : Int32) (x3 : Int32) (S : St) : J E (VC G 4 0 0 RX5) 0 0 0 [(0, .ref (gA G 13)), (1, .int x1), (2, .int x2), (3, .int x3)] [] S (fC_State_learnable_13  x1 x2 x3 S) := by
  unfold fC_State_learnable_13
  refine j_aload_n (pc := 0) 0 C dX5_learnable_0 rfl rfl ?_
  refine gC_13_2 (pc := 1) C dX5_learnable_1 q_324 ?_
  refine j_aload_n (pc := 4) 0 C dX5_learnable_4 rfl rfl ?_
  refine gC_13_1 (pc := 5) C dX5_learnable_5 q_301 ?_
  refine gC_2_4 (pc := 8) C dX5_learnable_8 q_325 ?_
  refine j_iload_n (pc := 11) 2 C dX5_learnable_11 rfl rfl ?_
  refine aC_15 (pc := 12) C dX5_learnable_12 ?_
  refine j_aload_n (pc := 13) 0 C dX5_learnable_13 rfl rfl ?_
  refine gC_13_1 (pc := 14) C dX5_learnable_14 q_301 ?_
  refine gC_2_5 (pc := 17) C dX5_learnable_17 q_326 ?_
  refine j_iload_n (pc := 20) 2 C dX5_learnable_20 rfl rfl ?_
  refine aC_16 (pc := 21) C dX5_learnable_21 ?_
  refine j_aload_n (pc := 22) 0 C dX5_learnable_22 rfl rfl ?_
  refine gC_13_0 (pc := 23) C dX5_learnable_23 q_172 ?_
  refine j_iload_n (pc := 26) 1 C dX5_learnable_26 rfl rfl ?_
  refine j_iload_n (pc := 27) 2 C dX5_learnable_27 rfl rfl ?_
  refine j_callI0 (pc := 28) C (rC_State_place C dX5_learnable_28 q_315 (by omega) (Nat.le_of_ble_eq_true rfl) ⟨Nat.le_of_ble_eq_true rfl, Nat.le_of_ble_eq_true rfl⟩) ⟨Nat.le_of_ble_eq_true rfl, Nat.le_of_ble_eq_true rfl⟩ (fun r2 T1 => ?_)
  refine aC_52 (pc := 31) C dX5_learnable_31 ?_
  refine j_callv0 (pc := 32) C (rC_Law_tellPoem_4 C dX5_learnable_32 q_331 (by omega) (Nat.le_of_ble_eq_true rfl) ⟨Nat.le_of_ble_eq_true rfl, Nat.le_of_ble_eq_true rfl⟩) ⟨Nat.le_of_ble_eq_true rfl, Nat.le_of_ble_eq_true rfl⟩ (fun T3 => ?_)
  refine j_aload_n (pc := 35) 0 C dX5_learnable_35 rfl rfl ?_
  refine gC_13_2 (pc := 36) C dX5_learnable_36 q_324 ?_
  refine j_iload_n (pc := 39) 3 C dX5_learnable_39 rfl rfl ?_
  refine j_aload_n (pc := 40) 0 C dX5_learnable_40 rfl rfl ?_
  refine j_iload_n (pc := 41) 1 C dX5_learnable_41 rfl rfl ?_
  refine j_callI0 (pc := 42) C (rC_State_ageOf_13 C dX5_learnable_42 q_335 (by omega) (Nat.le_of_ble_eq_true rfl) ⟨Nat.le_of_ble_eq_true rfl, Nat.le_of_ble_eq_true rfl⟩) ⟨Nat.le_of_ble_eq_true rfl, Nat.le_of_ble_eq_true rfl⟩ (fun r6 T5 => ?_)
  refine j_aload_n (pc := 45) 0 C dX5_learnable_45 rfl rfl ?_
  refine gC_13_0 (pc := 46) C dX5_learnable_46 q_172 ?_
  refine j_bipush (pc := 49) 48 C dX5_learnable_49 (by decide) ?_
  refine j_iload_n (pc := 51) 1 C dX5_learnable_51 rfl rfl ?_
  refine j_iadd (pc := 52) C dX5_learnable_52 ?_
  refine aC_52 (pc := 53) C dX5_learnable_53 ?_
  refine j_aload_n (pc := 54) 0 C dX5_learnable_54 rfl rfl ?_
  refine gC_13_0 (pc := 55) C dX5_learnable_55 q_172 ?_
  refine j_bipush (pc := 58) 73 C dX5_learnable_58 (by decide) ?_
  refine acC_52 (pc := 60) C dX5_learnable_60 rfl ?_
  refine j_iload_n (pc := 61) 1 C dX5_learnable_61 rfl rfl ?_
  refine j_callv0 (pc := 62) C (rC_Law_tellMan_4 C dX5_learnable_62 q_339 (by omega) (Nat.le_of_ble_eq_true rfl) ⟨Nat.le_of_ble_eq_true rfl, Nat.le_of_ble_eq_true rfl⟩) ⟨Nat.le_of_ble_eq_true rfl, Nat.le_of_ble_eq_true rfl⟩ (fun T7 => ?_)
  refine j_aload_n (pc := 65) 0 C dX5_learnable_65 rfl rfl ?_
  refine gC_13_2 (pc := 66) C dX5_learnable_66 q_324 ?_
  refine j_callI0 (pc := 69) C (rC_Law_outcome_4 C dX5_learnable_69 q_347 (by omega) (Nat.le_of_ble_eq_true rfl) ⟨Nat.le_of_ble_eq_true rfl, Nat.le_of_ble_eq_true rfl⟩) ⟨Nat.le_of_ble_eq_true rfl, Nat.le_of_ble_eq_true rfl⟩ (fun r10 T9 => ?_)
  exact j_iret C dX5_learnable_72 rfl (Nat.le_of_ble_eq_true rfl) (Nat.le_of_ble_eq_true rfl)
theorem cC_State_learnable_13 {l : Launch} {G : Gc} (hfl : l.stackTraces = false) (hW : Wok G wC 54)   (x1 : Int32) (x2 : Int32) (x3 : Int32) (S : St) : Ct l yX5_learnable (Cond.code yX5_learnable cX5_learnable 4 (some .int) :: tblG) 3 0 0 G wC 54 [.ref (gA G 13), .int x1, .int x2, .int x3] S (fC_State_learnable_13 x1 x2 x3 S) := ct_of (own := RX5) hfl (by decide +kernel) rfl hW (Nat.le_of_ble_eq_true rfl) (fun E hE C => by subst hE; exact bC_State_learnable_13 C   x1 x2 x3 S)
theorem rC_State_learnable_13 {E : Ec} {G : Gc} {nL mc ms : Nat} {own : String} {cc : ByteArray} {L : Nat} {ret : Option FieldType} {k n pc ix : Nat} {loc : List (Nat × Value)} {rest : List Value}  {x1 : Int32} {x2 : Int32} {x3 : Int32} {S : St}  (C : JC E (VC G nL mc ms own) cc L ret) (hd : decode cc pc = .ok (.invokevirtual ix, 3)) (hq : Cond.methodLink own ix yX5_learnable ∈ tblG) (hL : 3 + 1 ≤ L) (hW : (rest.map fun v => v.category).sum ≤ 8) (hf : k + 0 ≤ mc ∧ n + 0 ≤ ms) : Rn E (VC G nL mc ms own) k n 0 0 pc loc (.int x3 :: .int x2 :: .int x1 :: .ref (gA G 13) :: rest) rest S (fC_State_learnable_13 x1 x2 x3 S) := rn_V (ci := 5) 13 (V := VC G nL mc ms own) (As := [.int x1, .int x2, .int x3]) (Cq := (RX5, TX5, 3)) (cC_State_learnable_13 C.flags C.wok  x1 x2 x3 S) knX5_learnable ⟨q_349, q_350⟩ rfl rfl C hd hq hL rfl rfl hW hf

theorem bC_State_gainOf_13_49 {E : Ec} {G : Gc}    (C : JC E (VC G 6 0 0 RX5) cX5_gainOf 4 (some .int))    (x5 : Int32) (s0 : Int32) (S : St) : J E (VC G 6 0 0 RX5) 0 0 49 [(5, .int x5)] [.int s0] S (fC_State_gainOf_13_49  x5 s0 S) := by
  unfold fC_State_gainOf_13_49
  refine j_istore (pc := 49) [(4, .int s0), (5, .int x5)] C dX5_gainOf_49 (Nat.le_of_ble_eq_true rfl) rfl ?_
  refine j_iload (pc := 51) 0 C dX5_gainOf_51 rfl ?_
  refine j_iload (pc := 53) 1 C dX5_gainOf_53 rfl ?_
  refine j_icmp_ge (pc := 55) 63 C dX5_gainOf_55 (by decide) ?_ ?_
  ·
    refine j_iload (pc := 63) 1 C dX5_gainOf_63 rfl ?_
    exact j_iret C dX5_gainOf_65 rfl (Nat.le_of_ble_eq_true rfl) (Nat.le_of_ble_eq_true rfl)
  ·
    refine j_iload (pc := 58) 0 C dX5_gainOf_58 rfl ?_
    refine j_goto (pc := 60) 65 C dX5_gainOf_60 (by decide) ?_
    exact j_iret C dX5_gainOf_65 rfl (Nat.le_of_ble_eq_true rfl) (Nat.le_of_ble_eq_true rfl)
theorem bC_State_gainOf_13 {E : Ec} {G : Gc}    (C : JC E (VC G 6 0 0 RX5) cX5_gainOf 4 (some .int))    (x1 : Int32) (x2 : Int32) (S : St) : J E (VC G 6 0 0 RX5) 0 0 0 [(0, .ref (gA G 13)), (1, .int x1), (2, .int x2)] [] S (fC_State_gainOf_13  x1 x2 S) := by
  unfold fC_State_gainOf_13
  refine j_aload_n (pc := 0) 0 C dX5_gainOf_0 rfl rfl ?_
  refine j_iload_n (pc := 1) 1 C dX5_gainOf_1 rfl rfl ?_
  refine j_callI0 (pc := 2) C (rC_State_roomOf_13 C dX5_gainOf_2 q_323 (by omega) (Nat.le_of_ble_eq_true rfl) ⟨Nat.le_of_ble_eq_true rfl, Nat.le_of_ble_eq_true rfl⟩) ⟨Nat.le_of_ble_eq_true rfl, Nat.le_of_ble_eq_true rfl⟩ (fun r2 T1 => ?_)
  refine j_istore_n (pc := 5) [(3, .int r2), (0, .ref (gA G 13)), (1, .int x1), (2, .int x2)] C dX5_gainOf_5 rfl (Nat.le_of_ble_eq_true rfl) rfl ?_
  refine j_aload_n (pc := 6) 1 C dX5_gainOf_6 rfl rfl ?_
  refine j_iload_n (pc := 7) 2 C dX5_gainOf_7 rfl rfl ?_
  refine j_iload_n (pc := 8) 3 C dX5_gainOf_8 rfl rfl ?_
  refine j_iload_n (pc := 9) 0 C dX5_gainOf_9 rfl rfl ?_
  refine j_callI0 (pc := 10) C (rC_State_learnable_13 C dX5_gainOf_10 q_351 (by omega) (Nat.le_of_ble_eq_true rfl) ⟨Nat.le_of_ble_eq_true rfl, Nat.le_of_ble_eq_true rfl⟩) ⟨Nat.le_of_ble_eq_true rfl, Nat.le_of_ble_eq_true rfl⟩ (fun r4 T3 => ?_)
  refine j_istore (pc := 13) [(4, .int r4), (3, .int r2), (0, .ref (gA G 13)), (1, .int x1), (2, .int x2)] C dX5_gainOf_13 (Nat.le_of_ble_eq_true rfl) rfl ?_
  refine j_aload_n (pc := 15) 2 C dX5_gainOf_15 rfl rfl ?_
  refine gC_13_1 (pc := 16) C dX5_gainOf_16 q_301 ?_
  refine gC_2_4 (pc := 19) C dX5_gainOf_19 q_325 ?_
  refine j_iload_n (pc := 22) 4 C dX5_gainOf_22 rfl rfl ?_
  refine aC_15 (pc := 23) C dX5_gainOf_23 ?_
  refine j_aload_n (pc := 24) 2 C dX5_gainOf_24 rfl rfl ?_
  refine gC_13_0 (pc := 25) C dX5_gainOf_25 q_172 ?_
  refine j_iload_n (pc := 28) 3 C dX5_gainOf_28 rfl rfl ?_
  refine j_iload_n (pc := 29) 4 C dX5_gainOf_29 rfl rfl ?_
  refine j_callI0 (pc := 30) C (rC_State_place C dX5_gainOf_30 q_315 (by omega) (Nat.le_of_ble_eq_true rfl) ⟨Nat.le_of_ble_eq_true rfl, Nat.le_of_ble_eq_true rfl⟩) ⟨Nat.le_of_ble_eq_true rfl, Nat.le_of_ble_eq_true rfl⟩ (fun r6 T5 => ?_)
  refine aC_52 (pc := 33) C dX5_gainOf_33 ?_
  refine j_isub (pc := 34) C dX5_gainOf_34 ?_
  refine j_nxI (fun v7 => ?_)
  refine j_istore (pc := 35) [(5, .int v7), (4, .int r4), (3, .int r2), (0, .ref (gA G 13)), (1, .int x1), (2, .int x2)] C dX5_gainOf_35 (Nat.le_of_ble_eq_true rfl) rfl ?_
  refine j_iload (pc := 37) 1 C dX5_gainOf_37 rfl ?_
  refine j_iload_n (pc := 39) 2 C dX5_gainOf_39 rfl rfl ?_
  refine j_icmp_ge (pc := 40) 48 C dX5_gainOf_40 (by decide) ?_ ?_
  ·
    refine j_iload_n (pc := 48) 2 C dX5_gainOf_48 rfl rfl ?_
    refine j_sub [0] rfl ?_
    exact bC_State_gainOf_13_49 C  v7 r2 T5
  ·
    refine j_iload (pc := 43) 1 C dX5_gainOf_43 rfl ?_
    refine j_goto (pc := 45) 49 C dX5_gainOf_45 (by decide) ?_
    refine j_sub [0] rfl ?_
    exact bC_State_gainOf_13_49 C  v7 r4 T5
theorem cC_State_gainOf_13 {l : Launch} {G : Gc} (hfl : l.stackTraces = false) (hW : Wok G wC 54)   (x1 : Int32) (x2 : Int32) (S : St) : Ct l yX5_gainOf (Cond.code yX5_gainOf cX5_gainOf 6 (some .int) :: tblG) 4 0 0 G wC 54 [.ref (gA G 13), .int x1, .int x2] S (fC_State_gainOf_13 x1 x2 S) := ct_of (own := RX5) hfl (by decide +kernel) rfl hW (Nat.le_of_ble_eq_true rfl) (fun E hE C => by subst hE; exact bC_State_gainOf_13 C   x1 x2 S)
theorem rC_State_gainOf_13 {E : Ec} {G : Gc} {nL mc ms : Nat} {own : String} {cc : ByteArray} {L : Nat} {ret : Option FieldType} {k n pc ix : Nat} {loc : List (Nat × Value)} {rest : List Value}  {x1 : Int32} {x2 : Int32} {S : St}  (C : JC E (VC G nL mc ms own) cc L ret) (hd : decode cc pc = .ok (.invokevirtual ix, 3)) (hq : Cond.methodLink own ix yX5_gainOf ∈ tblG) (hL : 4 + 1 ≤ L) (hW : (rest.map fun v => v.category).sum ≤ 8) (hf : k + 0 ≤ mc ∧ n + 0 ≤ ms) : Rn E (VC G nL mc ms own) k n 0 0 pc loc (.int x2 :: .int x1 :: .ref (gA G 13) :: rest) rest S (fC_State_gainOf_13 x1 x2 S) := rn_V (ci := 5) 13 (V := VC G nL mc ms own) (As := [.int x1, .int x2]) (Cq := (RX5, TX5, 3)) (cC_State_gainOf_13 C.flags C.wok  x1 x2 S) knX5_gainOf ⟨q_353, q_354⟩ rfl rfl C hd hq hL rfl rfl hW hf

