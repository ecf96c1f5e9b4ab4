theorem knX6_put : Kn yX6_put cX6_put 3 none 1 := ⟨q_32, q_33, by decide +kernel, by decide⟩
def fC_Tape_put_3    : Nat → Int32 → Int32 → St → Oz
  | 0, _, _, _ => none
  | n + 1, x1, x2, S => if x2 < 0 then (some (rV, S)) else (if 600 ≤ (S.1 3) then (fC_Tape_put_3 n x1 (x2 + (-8)) S) else (gd (ib (S.1 3) 600) (nx (sA S 14 (S.1 3) ((((x1 : Int32).toUInt32 >>> ((x2 : Int32).toUInt32 &&& Int32.toUInt32 31)).toInt32) &&& 255)) fun T1 => (nx (sF T1 3 ((T1.1 3) + 1)) fun T2 => (fC_Tape_put_3 n x1 (x2 + (-8)) T2)))))
theorem bC_Tape_put_3 {E : Ec} {G : Gc}    (C : JC E (VC G 3 0 0 RX6) cX6_put 1 none)    : ∀ (n : Nat) (x1 : Int32) (x2 : Int32) (S : St), J E (VC G 3 0 0 RX6) 0 0 3 [(0, .ref (gA G 1)), (1, .int x1), (2, .int x2)] [] S (fC_Tape_put_3  n x1 x2 S) := by
  intro n
  induction n with
  | zero => intro x1 x2 S; rw [fC_Tape_put_3]; exact j_none
  | succ n ih =>
    intro x1 x2 S
    rw [fC_Tape_put_3]
    refine j_iload_n (pc := 3) 2 C dX6_put_3 rfl rfl ?_
    refine j_if_lt (pc := 4) 49 C dX6_put_4 (by decide) ?_ ?_
    ·
      exact j_vret C dX6_put_49 rfl (Nat.le_of_ble_eq_true rfl) (Nat.le_of_ble_eq_true rfl)
    ·
      refine j_aload_n (pc := 7) 0 C dX6_put_7 rfl rfl ?_
      refine gC_1_1 (pc := 8) C dX6_put_8 q_30 ?_
      refine j_sipush (pc := 11) 600 C dX6_put_11 (by decide) ?_
      refine j_icmp_ge (pc := 14) 43 C dX6_put_14 (by decide) ?_ ?_
      ·
        refine j_iinc (pc := 43) 2 (x2 + (-8)) [(2, .int (x2 + (-8))), (0, .ref (gA G 1)), (1, .int x1)] C dX6_put_43 rfl rfl (Nat.le_of_ble_eq_true rfl) rfl ?_
        refine j_goto (pc := 46) 3 C dX6_put_46 (by decide) ?_
        refine j_sub [1, 2, 0] rfl ?_
        exact ih x1 (x2 + (-8)) S
      ·
        refine j_aload_n (pc := 17) 0 C dX6_put_17 rfl rfl ?_
        refine gC_1_0 (pc := 18) C dX6_put_18 q_31 ?_
        refine j_aload_n (pc := 21) 0 C dX6_put_21 rfl rfl ?_
        refine gC_1_1 (pc := 22) C dX6_put_22 q_30 ?_
        refine j_iload_n (pc := 25) 1 C dX6_put_25 rfl rfl ?_
        refine j_iload_n (pc := 26) 2 C dX6_put_26 rfl rfl ?_
        refine j_iushr (pc := 27) C dX6_put_27 ?_
        refine j_sipush (pc := 28) 255 C dX6_put_28 (by decide) ?_
        refine j_iand (pc := 31) C dX6_put_31 ?_
        refine sC_14 (pc := 32) C dX6_put_32 ?_
        refine j_nxS (fun T1 => ?_)
        refine j_aload_n (pc := 33) 0 C dX6_put_33 rfl rfl ?_
        refine j_dup (pc := 34) C dX6_put_34 rfl ?_
        refine gC_1_1 (pc := 35) C dX6_put_35 q_30 ?_
        refine j_iconst (pc := 38) 1 C dX6_put_38 (by decide) ?_
        refine j_iadd (pc := 39) C dX6_put_39 ?_
        refine pC_1_1 (pc := 40) C dX6_put_40 q_30 ?_
        refine j_nxS (fun T2 => ?_)
        refine j_iinc (pc := 43) 2 (x2 + (-8)) [(2, .int (x2 + (-8))), (0, .ref (gA G 1)), (1, .int x1)] C dX6_put_43 rfl rfl (Nat.le_of_ble_eq_true rfl) rfl ?_
        refine j_goto (pc := 46) 3 C dX6_put_46 (by decide) ?_
        refine j_sub [1, 2, 0] rfl ?_
        exact ih x1 (x2 + (-8)) T2
def fC_Tape_put    (x1 : Int32) (S : St) : Oz := fC_Tape_put_3  FU x1 24 S
theorem bC_Tape_put {E : Ec} {G : Gc}    (C : JC E (VC G 3 0 0 RX6) cX6_put 1 none)    (x1 : Int32) (S : St) : J E (VC G 3 0 0 RX6) 0 0 0 [(0, .ref (gA G 1)), (1, .int x1)] [] S (fC_Tape_put  x1 S) := by
  unfold fC_Tape_put
  refine j_bipush (pc := 0) 24 C dX6_put_0 (by decide) ?_
  refine j_istore_n (pc := 2) [(2, .int 24), (0, .ref (gA G 1)), (1, .int x1)] C dX6_put_2 rfl (Nat.le_of_ble_eq_true rfl) rfl ?_
  refine j_sub [1, 2, 0] rfl ?_
  exact bC_Tape_put_3 C  FU x1 24 S
theorem cC_Tape_put {l : Launch} {G : Gc} (hfl : l.stackTraces = false) (hW : Wok G wC 54)   (x1 : Int32) (S : St) : Ct l yX6_put (Cond.code yX6_put cX6_put 3 none :: tblG) 1 0 0 G wC 54 [.ref (gA G 1), .int x1] S (fC_Tape_put x1 S) := ct_of (own := RX6) hfl (by decide +kernel) rfl hW (Nat.le_of_ble_eq_true rfl) (fun E hE C => by subst hE; exact bC_Tape_put C   x1 S)
theorem rC_Tape_put {E : Ec} {G : Gc} {nL mc ms : Nat} {own : String} {cc : ByteArray} {L : Nat} {ret : Option FieldType} {k n pc ix : Nat} {loc : List (Nat × Value)} {rest : List Value}  {x1 : Int32} {S : St}  (C : JC E (VC G nL mc ms own) cc L ret) (hd : decode cc pc = .ok (.invokevirtual ix, 3)) (hq : Cond.methodLink own ix yX6_put ∈ tblG) (hL : 1 + 1 ≤ L) (hW : (rest.map fun v => v.category).sum ≤ 8) (hf : k + 0 ≤ mc ∧ n + 0 ≤ ms) : Rn E (VC G nL mc ms own) k n 0 0 pc loc (.int x1 :: .ref (gA G 1) :: rest) rest S (fC_Tape_put x1 S) := rn_V (ci := 6) 1 (V := VC G nL mc ms own) (As := [.int x1]) (Cq := (RX6, TX6, 8)) (cC_Tape_put C.flags C.wok  x1 S) knX6_put ⟨q_34, q_35⟩ rfl rfl C hd hq hL rfl rfl hW hf

theorem knX5_place : Kn yX5_place cX5_place 2 (some .int) 2 := ⟨q_39, q_40, by decide +kernel, by decide⟩
def fC_State_place    (x0 : Int32) (x1 : Int32) (S : St) : Oz := some (rI ((0 + (x0 * 8)) + x1), S)
theorem bC_State_place {E : Ec} {G : Gc}    (C : JC E (VC G 2 0 0 RX5) cX5_place 1 (some .int))    (x0 : Int32) (x1 : Int32) (S : St) : J E (VC G 2 0 0 RX5) 0 0 0 [(0, .int x0), (1, .int x1)] [] S (fC_State_place  x0 x1 S) := by
  unfold fC_State_place
  refine j_iconst (pc := 0) 0 C dX5_place_0 (by decide) ?_
  refine j_iload_n (pc := 1) 0 C dX5_place_1 rfl rfl ?_
  refine j_bipush (pc := 2) 8 C dX5_place_2 (by decide) ?_
  refine j_imul (pc := 4) C dX5_place_4 ?_
  refine j_iadd (pc := 5) C dX5_place_5 ?_
  refine j_iload_n (pc := 6) 1 C dX5_place_6 rfl rfl ?_
  refine j_iadd (pc := 7) C dX5_place_7 ?_
  exact j_iret C dX5_place_8 rfl (Nat.le_of_ble_eq_true rfl) (Nat.le_of_ble_eq_true rfl)
theorem cC_State_place {l : Launch} {G : Gc} (hfl : l.stackTraces = false) (hW : Wok G wC 54)   (x0 : Int32) (x1 : Int32) (S : St) : Ct l yX5_place (Cond.code yX5_place cX5_place 2 (some .int) :: tblG) 1 0 0 G wC 54 [.int x0, .int x1] S (fC_State_place x0 x1 S) := ct_of (own := RX5) hfl (by decide +kernel) rfl hW (Nat.le_of_ble_eq_true rfl) (fun E hE C => by subst hE; exact bC_State_place C   x0 x1 S)
theorem rC_State_place {E : Ec} {G : Gc} {nL mc ms : Nat} {own : String} {cc : ByteArray} {L : Nat} {ret : Option FieldType} {k n pc ix : Nat} {loc : List (Nat × Value)} {rest : List Value}  {x0 : Int32} {x1 : Int32} {S : St}  (C : JC E (VC G nL mc ms own) cc L ret) (hd : decode cc pc = .ok (.invokestatic ix, 3)) (hq : Cond.methodLink own ix yX5_place ∈ tblG) (hL : 1 + 1 ≤ L) (hW : (rest.map fun v => v.category).sum ≤ 8) (hf : k + 0 ≤ mc ∧ n + 0 ≤ ms) : Rn E (VC G nL mc ms own) k n 0 0 pc loc (.int x1 :: .int x0 :: rest) rest S (fC_State_place x0 x1 S) := rn_S (V := VC G nL mc ms own) (As := [.int x0, .int x1]) (cC_State_place C.flags C.wok  x0 x1 S) knX5_place q_41  C hd hq hL rfl rfl hW hf

theorem knX5_linesOf : Kn yX5_linesOf cX5_linesOf 4 (some .int) 1 := ⟨q_43, q_40, by decide +kernel, by decide⟩
def fC_State_linesOf_9_4    : Nat → Int32 → Int32 → Int32 → St → Oz
  | 0, _, _, _, _ => none
  | n + 1, x1, x2, x3, S => if (S.1 10) ≤ x3 then (some (rI x2, S)) else (obI (fC_State_place x1 x3 S) fun r2 T1 => (gd (ib r2 74) (nx (x2 + (rA T1 46 r2)) fun v3 => (fC_State_linesOf_9_4 n x1 v3 (x3 + 1) T1))))
theorem bC_State_linesOf_9_4 {E : Ec} {G : Gc}    (C : JC E (VC G 4 0 0 RX5) cX5_linesOf 2 (some .int))    : ∀ (n : Nat) (x1 : Int32) (x2 : Int32) (x3 : Int32) (S : St), J E (VC G 4 0 0 RX5) 0 0 4 [(0, .ref (gA G 9)), (1, .int x1), (2, .int x2), (3, .int x3)] [] S (fC_State_linesOf_9_4  n x1 x2 x3 S) := by
  intro n
  induction n with
  | zero => intro x1 x2 x3 S; rw [fC_State_linesOf_9_4]; exact j_none
  | succ n ih =>
    intro x1 x2 x3 S
    rw [fC_State_linesOf_9_4]
    refine j_iload_n (pc := 4) 3 C dX5_linesOf_4 rfl rfl ?_
    refine j_aload_n (pc := 5) 0 C dX5_linesOf_5 rfl rfl ?_
    refine gC_9_1 (pc := 6) C dX5_linesOf_6 q_36 ?_
    refine gC_2_0 (pc := 9) C dX5_linesOf_9 q_37 ?_
    refine j_icmp_ge (pc := 12) 34 C dX5_linesOf_12 (by decide) ?_ ?_
    ·
      refine j_iload_n (pc := 34) 2 C dX5_linesOf_34 rfl rfl ?_
      exact j_iret C dX5_linesOf_35 rfl (Nat.le_of_ble_eq_true rfl) (Nat.le_of_ble_eq_true rfl)
    ·
      refine j_iload_n (pc := 15) 2 C dX5_linesOf_15 rfl rfl ?_
      refine j_aload_n (pc := 16) 0 C dX5_linesOf_16 rfl rfl ?_
      refine gC_9_0 (pc := 17) C dX5_linesOf_17 q_38 ?_
      refine j_iload_n (pc := 20) 1 C dX5_linesOf_20 rfl rfl ?_
      refine j_iload_n (pc := 21) 3 C dX5_linesOf_21 rfl rfl ?_
      refine j_callI0 (pc := 22) C (rC_State_place C dX5_linesOf_22 q_42 (by omega) (Nat.le_of_ble_eq_true rfl) ⟨Nat.le_of_ble_eq_true rfl, Nat.le_of_ble_eq_true rfl⟩) ⟨Nat.le_of_ble_eq_true rfl, Nat.le_of_ble_eq_true rfl⟩ (fun r2 T1 => ?_)
      refine aC_46 (pc := 25) C dX5_linesOf_25 ?_
      refine j_iadd (pc := 26) C dX5_linesOf_26 ?_
      refine j_nxI (fun v3 => ?_)
      refine j_istore_n (pc := 27) [(2, .int v3), (0, .ref (gA G 9)), (1, .int x1), (3, .int x3)] C dX5_linesOf_27 rfl (Nat.le_of_ble_eq_true rfl) rfl ?_
      refine j_iinc (pc := 28) 3 (x3 + 1) [(3, .int (x3 + 1)), (2, .int v3), (0, .ref (gA G 9)), (1, .int x1)] C dX5_linesOf_28 rfl rfl (Nat.le_of_ble_eq_true rfl) rfl ?_
      refine j_goto (pc := 31) 4 C dX5_linesOf_31 (by decide) ?_
      refine j_sub [2, 3, 1, 0] rfl ?_
      exact ih x1 v3 (x3 + 1) T1
def fC_State_linesOf_9    (x1 : Int32) (S : St) : Oz := fC_State_linesOf_9_4  FU x1 0 0 S
theorem bC_State_linesOf_9 {E : Ec} {G : Gc}    (C : JC E (VC G 4 0 0 RX5) cX5_linesOf 2 (some .int))    (x1 : Int32) (S : St) : J E (VC G 4 0 0 RX5) 0 0 0 [(0, .ref (gA G 9)), (1, .int x1)] [] S (fC_State_linesOf_9  x1 S) := by
  unfold fC_State_linesOf_9
  refine j_iconst (pc := 0) 0 C dX5_linesOf_0 (by decide) ?_
  refine j_istore_n (pc := 1) [(2, .int 0), (0, .ref (gA G 9)), (1, .int x1)] C dX5_linesOf_1 rfl (Nat.le_of_ble_eq_true rfl) rfl ?_
  refine j_iconst (pc := 2) 0 C dX5_linesOf_2 (by decide) ?_
  refine j_istore_n (pc := 3) [(3, .int 0), (2, .int 0), (0, .ref (gA G 9)), (1, .int x1)] C dX5_linesOf_3 rfl (Nat.le_of_ble_eq_true rfl) rfl ?_
  refine j_sub [2, 3, 1, 0] rfl ?_
  exact bC_State_linesOf_9_4 C  FU x1 0 0 S
theorem cC_State_linesOf_9 {l : Launch} {G : Gc} (hfl : l.stackTraces = false) (hW : Wok G wC 54)   (x1 : Int32) (S : St) : Ct l yX5_linesOf (Cond.code yX5_linesOf cX5_linesOf 4 (some .int) :: tblG) 2 0 0 G wC 54 [.ref (gA G 9), .int x1] S (fC_State_linesOf_9 x1 S) := ct_of (own := RX5) hfl (by decide +kernel) rfl hW (Nat.le_of_ble_eq_true rfl) (fun E hE C => by subst hE; exact bC_State_linesOf_9 C   x1 S)
theorem rC_State_linesOf_9 {E : Ec} {G : Gc} {nL mc ms : Nat} {own : String} {cc : ByteArray} {L : Nat} {ret : Option FieldType} {k n pc ix : Nat} {loc : List (Nat × Value)} {rest : List Value}  {x1 : Int32} {S : St}  (C : JC E (VC G nL mc ms own) cc L ret) (hd : decode cc pc = .ok (.invokevirtual ix, 3)) (hq : Cond.methodLink own ix yX5_linesOf ∈ tblG) (hL : 2 + 1 ≤ L) (hW : (rest.map fun v => v.category).sum ≤ 8) (hf : k + 0 ≤ mc ∧ n + 0 ≤ ms) : Rn E (VC G nL mc ms own) k n 0 0 pc loc (.int x1 :: .ref (gA G 9) :: rest) rest S (fC_State_linesOf_9 x1 S) := rn_V (ci := 5) 9 (V := VC G nL mc ms own) (As := [.int x1]) (Cq := (RX5, TX5, 3)) (cC_State_linesOf_9 C.flags C.wok  x1 S) knX5_linesOf ⟨q_44, q_45⟩ rfl rfl C hd hq hL rfl rfl hW hf

theorem knX9_refuseArgument : Kn yX9_refuseArgument cX9_refuseArgument 1 (some .int) 0 := ⟨q_49, q_50, by decide +kernel, by decide⟩
def fC_Main_refuseArgument     (S : St) : Oz := nx (sF S 2 ((S.1 2) + 1)) fun T1 => (some (rX 1, T1))
theorem bC_Main_refuseArgument {E : Ec} {G : Gc}    (C : JC E (VC G 1 1 6 RX9) cX9_refuseArgument 6 (some .int))     (S : St) : J E (VC G 1 1 6 RX9) 0 0 0 [(0, .ref (gA G 0))] [] S (fC_Main_refuseArgument   S) := by
  unfold fC_Main_refuseArgument
  refine j_aload_n (pc := 0) 0 C dX9_refuseArgument_0 rfl rfl ?_
  refine j_dup (pc := 1) C dX9_refuseArgument_1 rfl ?_
  refine gC_0_14 (pc := 2) C dX9_refuseArgument_2 q_46 ?_
  refine j_iconst (pc := 5) 1 C dX9_refuseArgument_5 (by decide) ?_
  refine j_iadd (pc := 6) C dX9_refuseArgument_6 ?_
  refine pC_0_14 (pc := 7) C dX9_refuseArgument_7 q_46 ?_
  refine j_nxS (fun T1 => ?_)
  exact j_throwSW (kx := 1) (si := 0) C (by decide +kernel) q_47 q_48 rfl rfl rfl hat_IAE hat_IAE2 dX9_refuseArgument_10 dX9_refuseArgument_13 dX9_refuseArgument_14 dX9_refuseArgument_17 dX9_refuseArgument_20 (by omega) (Nat.le_of_ble_eq_true rfl) (Nat.le_of_ble_eq_true rfl) (Nat.le_of_ble_eq_true rfl)
theorem cC_Main_refuseArgument {l : Launch} {G : Gc} (hfl : l.stackTraces = false) (hW : Wok G wC 54)    (S : St) : Ct l yX9_refuseArgument (Cond.code yX9_refuseArgument cX9_refuseArgument 1 (some .int) :: tblG) 6 1 6 G wC 54 [.ref (gA G 0)] S (fC_Main_refuseArgument  S) := ct_of (own := RX9) hfl (by decide +kernel) rfl hW (Nat.le_of_ble_eq_true rfl) (fun E hE C => by subst hE; exact bC_Main_refuseArgument C    S)
theorem rC_Main_refuseArgument {E : Ec} {G : Gc} {nL mc ms : Nat} {own : String} {cc : ByteArray} {L : Nat} {ret : Option FieldType} {k n pc ix : Nat} {loc : List (Nat × Value)} {rest : List Value}   {S : St}  (C : JC E (VC G nL mc ms own) cc L ret) (hd : decode cc pc = .ok (.invokevirtual ix, 3)) (hq : Cond.methodLink own ix yX9_refuseArgument ∈ tblG) (hL : 6 + 1 ≤ L) (hW : (rest.map fun v => v.category).sum ≤ 8) (hf : k + 1 ≤ mc ∧ n + 6 ≤ ms) : Rn E (VC G nL mc ms own) k n 1 6 pc loc (.ref (gA G 0) :: rest) rest S (fC_Main_refuseArgument  S) := rn_V (ci := 9) 0 (V := VC G nL mc ms own) (As := []) (Cq := (RX9, TX9, 15)) (cC_Main_refuseArgument C.flags C.wok   S) knX9_refuseArgument ⟨q_51, q_52⟩ rfl rfl C hd hq hL rfl rfl hW hf

theorem knX9_need : Kn yX9_need cX9_need 2 none 1 := ⟨q_54, q_50, by decide +kernel, by decide⟩
def fC_Main_need    (x1 : Int32) (S : St) : Oz := if x1 = 0 then (obI (fC_Main_refuseArgument S) fun r2 T1 => (some (rV, T1))) else (some (rV, S))
theorem bC_Main_need {E : Ec} {G : Gc}    (C : JC E (VC G 2 1 6 RX9) cX9_need 7 none)    (x1 : Int32) (S : St) : J E (VC G 2 1 6 RX9) 0 0 0 [(0, .ref (gA G 0)), (1, .int x1)] [] S (fC_Main_need  x1 S) := by
  unfold fC_Main_need
  refine j_iload_n (pc := 0) 1 C dX9_need_0 rfl rfl ?_
  refine j_if_ne (pc := 1) 9 C dX9_need_1 (by decide) ?_ ?_
  ·
    exact j_vret C dX9_need_9 rfl (Nat.le_of_ble_eq_true rfl) (Nat.le_of_ble_eq_true rfl)
  ·
    refine j_aload_n (pc := 4) 0 C dX9_need_4 rfl rfl ?_
    refine j_callI (pc := 5) C (rC_Main_refuseArgument C dX9_need_5 q_53 (by omega) (Nat.le_of_ble_eq_true rfl) ⟨Nat.le_of_ble_eq_true rfl, Nat.le_of_ble_eq_true rfl⟩) ⟨Nat.le_of_ble_eq_true rfl, Nat.le_of_ble_eq_true rfl⟩ (fun r2 T1 => ?_)
    refine j_pop (pc := 8) C dX9_need_8 rfl ?_
    exact j_vret C dX9_need_9 rfl (Nat.le_of_ble_eq_true rfl) (Nat.le_of_ble_eq_true rfl)
theorem cC_Main_need {l : Launch} {G : Gc} (hfl : l.stackTraces = false) (hW : Wok G wC 54)   (x1 : Int32) (S : St) : Ct l yX9_need (Cond.code yX9_need cX9_need 2 none :: tblG) 7 1 6 G wC 54 [.ref (gA G 0), .int x1] S (fC_Main_need x1 S) := ct_of (own := RX9) hfl (by decide +kernel) rfl hW (Nat.le_of_ble_eq_true rfl) (fun E hE C => by subst hE; exact bC_Main_need C   x1 S)
theorem rC_Main_need {E : Ec} {G : Gc} {nL mc ms : Nat} {own : String} {cc : ByteArray} {L : Nat} {ret : Option FieldType} {k n pc ix : Nat} {loc : List (Nat × Value)} {rest : List Value}  {x1 : Int32} {S : St}  (C : JC E (VC G nL mc ms own) cc L ret) (hd : decode cc pc = .ok (.invokevirtual ix, 3)) (hq : Cond.methodLink own ix yX9_need ∈ tblG) (hL : 7 + 1 ≤ L) (hW : (rest.map fun v => v.category).sum ≤ 8) (hf : k + 1 ≤ mc ∧ n + 6 ≤ ms) : Rn E (VC G nL mc ms own) k n 1 6 pc loc (.int x1 :: .ref (gA G 0) :: rest) rest S (fC_Main_need x1 S) := rn_V (ci := 9) 0 (V := VC G nL mc ms own) (As := [.int x1]) (Cq := (RX9, TX9, 15)) (cC_Main_need C.flags C.wok  x1 S) knX9_need ⟨q_55, q_56⟩ rfl rfl C hd hq hL rfl rfl hW hf

theorem knX6_isWord : Kn yX6_isWord cX6_isWord 3 (some .boolean) 1 := ⟨q_61, q_33, by decide +kernel, by decide⟩
def fC_Tape_isWord_20  (x1 : Nat)  : Nat → Int32 → St → Oz
  | 0, _, _ => none
  | n + 1, x2, S => if (nI (skN x1)) ≤ x2 then (some (rI 1, S)) else (gd (ib ((S.1 9) + x2) 600) (gd (ib x2 (skN x1)) (if (rA S 14 ((S.1 9) + x2)) = (skB x1 x2) then (fC_Tape_isWord_20 x1 n (x2 + 1) S) else (some (rI 0, S)))))
theorem bC_Tape_isWord_20 {E : Ec} {G : Gc}  {x1 : Nat}  (C : JC E (VC G 3 0 0 RX6) cX6_isWord 5 (some .boolean))  (hs_x1 : x1 < 40)  : ∀ (n : Nat) (x2 : Int32) (S : St), J E (VC G 3 0 0 RX6) 0 0 20 [(0, .ref (gA G 1)), (1, .ref (gK G x1)), (2, .int x2)] [] S (fC_Tape_isWord_20 x1 n x2 S) := by
  intro n
  induction n with
  | zero => intro x2 S; rw [fC_Tape_isWord_20]; exact j_none
  | succ n ih =>
    intro x2 S
    rw [fC_Tape_isWord_20]
    refine j_iload_n (pc := 20) 2 C dX6_isWord_20 rfl rfl ?_
    refine j_aload_n (pc := 21) 1 C dX6_isWord_21 rfl rfl ?_
    refine j_slen (pc := 22) C dX6_isWord_22 q_59 hs_x1 (by omega) (Nat.le_of_ble_eq_true rfl) (Nat.le_of_ble_eq_true rfl) (Nat.le_of_ble_eq_true rfl) ?_
    refine j_icmp_ge (pc := 25) 55 C dX6_isWord_25 (by decide) ?_ ?_
    ·
      refine j_iconst (pc := 55) 1 C dX6_isWord_55 (by decide) ?_
      exact j_zretc C dX6_isWord_56 rfl (Nat.le_of_ble_eq_true rfl) (Nat.le_of_ble_eq_true rfl) rfl
    ·
      refine j_aload_n (pc := 28) 0 C dX6_isWord_28 rfl rfl ?_
      refine gC_1_0 (pc := 29) C dX6_isWord_29 q_31 ?_
      refine j_aload_n (pc := 32) 0 C dX6_isWord_32 rfl rfl ?_
      refine gC_1_7 (pc := 33) C dX6_isWord_33 q_58 ?_
      refine j_iload_n (pc := 36) 2 C dX6_isWord_36 rfl rfl ?_
      refine j_iadd (pc := 37) C dX6_isWord_37 ?_
      refine aC_14 (pc := 38) C dX6_isWord_38 ?_
      refine j_aload_n (pc := 39) 1 C dX6_isWord_39 rfl rfl ?_
      refine j_iload_n (pc := 40) 2 C dX6_isWord_40 rfl rfl ?_
      refine j_schar (pc := 41) C dX6_isWord_41 q_60 hs_x1 (by omega) (Nat.le_of_ble_eq_true rfl) (Nat.le_of_ble_eq_true rfl) (Nat.le_of_ble_eq_true rfl) ?_
      refine j_icmp_eq (pc := 44) 49 C dX6_isWord_44 (by decide) ?_ ?_
      ·
        refine j_iinc (pc := 49) 2 (x2 + 1) [(2, .int (x2 + 1)), (0, .ref (gA G 1)), (1, .ref (gK G x1))] C dX6_isWord_49 rfl rfl (Nat.le_of_ble_eq_true rfl) rfl ?_
        refine j_goto (pc := 52) 20 C dX6_isWord_52 (by decide) ?_
        refine j_sub [1, 2, 0] rfl ?_
        exact ih (x2 + 1) S
      ·
        refine j_iconst (pc := 47) 0 C dX6_isWord_47 (by decide) ?_
        exact j_zretc C dX6_isWord_48 rfl (Nat.le_of_ble_eq_true rfl) (Nat.le_of_ble_eq_true rfl) rfl
def fC_Tape_isWord  (x1 : Nat)   (S : St) : Oz := if ((S.1 8) - (S.1 9)) = (nI (skN x1)) then (fC_Tape_isWord_20 x1 FU 0 S) else (some (rI 0, S))
theorem bC_Tape_isWord {E : Ec} {G : Gc}  {x1 : Nat}  (C : JC E (VC G 3 0 0 RX6) cX6_isWord 5 (some .boolean))  (hs_x1 : x1 < 40)   (S : St) : J E (VC G 3 0 0 RX6) 0 0 0 [(0, .ref (gA G 1)), (1, .ref (gK G x1))] [] S (fC_Tape_isWord x1  S) := by
  unfold fC_Tape_isWord
  refine j_aload_n (pc := 0) 0 C dX6_isWord_0 rfl rfl ?_
  refine gC_1_6 (pc := 1) C dX6_isWord_1 q_57 ?_
  refine j_aload_n (pc := 4) 0 C dX6_isWord_4 rfl rfl ?_
  refine gC_1_7 (pc := 5) C dX6_isWord_5 q_58 ?_
  refine j_isub (pc := 8) C dX6_isWord_8 ?_
  refine j_aload_n (pc := 9) 1 C dX6_isWord_9 rfl rfl ?_
  refine j_slen (pc := 10) C dX6_isWord_10 q_59 hs_x1 (by omega) (Nat.le_of_ble_eq_true rfl) (Nat.le_of_ble_eq_true rfl) (Nat.le_of_ble_eq_true rfl) ?_
  refine j_icmp_eq (pc := 13) 18 C dX6_isWord_13 (by decide) ?_ ?_
  ·
    refine j_iconst (pc := 18) 0 C dX6_isWord_18 (by decide) ?_
    refine j_istore_n (pc := 19) [(2, .int 0), (0, .ref (gA G 1)), (1, .ref (gK G x1))] C dX6_isWord_19 rfl (Nat.le_of_ble_eq_true rfl) rfl ?_
    refine j_sub [1, 2, 0] rfl ?_
    exact bC_Tape_isWord_20 C hs_x1 FU 0 S
  ·
    refine j_iconst (pc := 16) 0 C dX6_isWord_16 (by decide) ?_
    exact j_zretc C dX6_isWord_17 rfl (Nat.le_of_ble_eq_true rfl) (Nat.le_of_ble_eq_true rfl) rfl
theorem cC_Tape_isWord {l : Launch} {G : Gc} (hfl : l.stackTraces = false) (hW : Wok G wC 54) {x1 : Nat} (hs_x1 : x1 < 40)  (S : St) : Ct l yX6_isWord (Cond.code yX6_isWord cX6_isWord 3 (some .boolean) :: tblG) 5 0 0 G wC 54 [.ref (gA G 1), .ref (gK G x1)] S (fC_Tape_isWord x1 S) := ct_of (own := RX6) hfl (by decide +kernel) rfl hW (Nat.le_of_ble_eq_true rfl) (fun E hE C => by subst hE; exact bC_Tape_isWord C hs_x1   S)
theorem rC_Tape_isWord {E : Ec} {G : Gc} {nL mc ms : Nat} {own : String} {cc : ByteArray} {L : Nat} {ret : Option FieldType} {k n pc ix : Nat} {loc : List (Nat × Value)} {rest : List Value}  {x1 : Nat} {S : St} (hs_x1 : x1 < 40) (C : JC E (VC G nL mc ms own) cc L ret) (hd : decode cc pc = .ok (.invokevirtual ix, 3)) (hq : Cond.methodLink own ix yX6_isWord ∈ tblG) (hL : 5 + 1 ≤ L) (hW : (rest.map fun v => v.category).sum ≤ 8) (hf : k + 0 ≤ mc ∧ n + 0 ≤ ms) : Rn E (VC G nL mc ms own) k n 0 0 pc loc (.ref (gK G x1) :: .ref (gA G 1) :: rest) rest S (fC_Tape_isWord x1 S) := rn_V (ci := 6) 1 (V := VC G nL mc ms own) (As := [.ref (gK G x1)]) (Cq := (RX6, TX6, 8)) (cC_Tape_isWord C.flags C.wok hs_x1  S) knX6_isWord ⟨q_62, q_63⟩ rfl rfl C hd hq hL rfl rfl hW hf
