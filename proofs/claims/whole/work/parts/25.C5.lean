theorem bC_State_teach_13 {E : Ec} {G : Gc}    (C : JC E (VC G 4 0 0 RX5) cX5_teach 5 (some .boolean))    (x1 : Int32) (x2 : Int32) (S : St) : J E (VC G 4 0 0 RX5) 0 0 0 [(0, .ref (gA G 13)), (1, .int x1), (2, .int x2)] [] S (fC_State_teach_13  x1 x2 S) := by
  unfold fC_State_teach_13
  refine j_aload_n (pc := 0) 0 C dX5_teach_0 rfl rfl ?_
  refine j_iload_n (pc := 1) 1 C dX5_teach_1 rfl rfl ?_
  refine j_iload_n (pc := 2) 2 C dX5_teach_2 rfl rfl ?_
  refine j_callI0 (pc := 3) C (rC_State_gainOf_13 C dX5_teach_3 q_355 (by omega) (Nat.le_of_ble_eq_true rfl) ⟨Nat.le_of_ble_eq_true rfl, Nat.le_of_ble_eq_true rfl⟩) ⟨Nat.le_of_ble_eq_true rfl, Nat.le_of_ble_eq_true rfl⟩ (fun r2 T1 => ?_)
  refine j_istore_n (pc := 6) [(3, .int r2), (0, .ref (gA G 13)), (1, .int x1), (2, .int x2)] C dX5_teach_6 rfl (Nat.le_of_ble_eq_true rfl) rfl ?_
  refine j_iload_n (pc := 7) 0 C dX5_teach_7 rfl rfl ?_
  refine j_if_gt (pc := 8) 13 C dX5_teach_8 (by decide) ?_ ?_
  ·
    refine j_aload_n (pc := 13) 1 C dX5_teach_13 rfl rfl ?_
    refine gC_13_0 (pc := 14) C dX5_teach_14 q_172 ?_
    refine j_iload_n (pc := 17) 2 C dX5_teach_17 rfl rfl ?_
    refine j_iload_n (pc := 18) 3 C dX5_teach_18 rfl rfl ?_
    refine j_callI0 (pc := 19) C (rC_State_place C dX5_teach_19 q_315 (by omega) (Nat.le_of_ble_eq_true rfl) ⟨Nat.le_of_ble_eq_true rfl, Nat.le_of_ble_eq_true rfl⟩) ⟨Nat.le_of_ble_eq_true rfl, Nat.le_of_ble_eq_true rfl⟩ (fun r4 T3 => ?_)
    refine j_dup2 (pc := 22) C dX5_teach_22 rfl rfl ?_
    refine aC_52 (pc := 23) C dX5_teach_23 ?_
    refine j_iload_n (pc := 24) 0 C dX5_teach_24 rfl rfl ?_
    refine j_iadd (pc := 25) C dX5_teach_25 ?_
    refine sC_52 (pc := 26) C dX5_teach_26 ?_
    refine j_nxS (fun T5 => ?_)
    refine j_aload_n (pc := 27) 1 C dX5_teach_27 rfl rfl ?_
    refine gC_13_0 (pc := 28) C dX5_teach_28 q_172 ?_
    refine j_bipush (pc := 31) 48 C dX5_teach_31 (by decide) ?_
    refine j_iload_n (pc := 33) 2 C dX5_teach_33 rfl rfl ?_
    refine j_iadd (pc := 34) C dX5_teach_34 ?_
    refine j_dup2 (pc := 35) C dX5_teach_35 rfl rfl ?_
    refine aC_52 (pc := 36) C dX5_teach_36 ?_
    refine j_iconst (pc := 37) 1 C dX5_teach_37 (by decide) ?_
    refine j_iadd (pc := 38) C dX5_teach_38 ?_
    refine sC_52 (pc := 39) C dX5_teach_39 ?_
    refine j_nxS (fun T6 => ?_)
    refine j_aload_n (pc := 40) 1 C dX5_teach_40 rfl rfl ?_
    refine gC_13_0 (pc := 41) C dX5_teach_41 q_172 ?_
    refine j_bipush (pc := 44) 54 C dX5_teach_44 (by decide) ?_
    refine j_iload_n (pc := 46) 2 C dX5_teach_46 rfl rfl ?_
    refine j_iadd (pc := 47) C dX5_teach_47 ?_
    refine j_dup2 (pc := 48) C dX5_teach_48 rfl rfl ?_
    refine aC_52 (pc := 49) C dX5_teach_49 ?_
    refine j_iconst (pc := 50) 1 C dX5_teach_50 (by decide) ?_
    refine j_iadd (pc := 51) C dX5_teach_51 ?_
    refine sC_52 (pc := 52) C dX5_teach_52 ?_
    refine j_nxS (fun T7 => ?_)
    refine j_aload_n (pc := 53) 1 C dX5_teach_53 rfl rfl ?_
    refine gC_13_0 (pc := 54) C dX5_teach_54 q_172 ?_
    refine j_bipush (pc := 57) 66 C dX5_teach_57 (by decide) ?_
    refine j_iload_n (pc := 59) 2 C dX5_teach_59 rfl rfl ?_
    refine j_iadd (pc := 60) C dX5_teach_60 ?_
    refine j_dup2 (pc := 61) C dX5_teach_61 rfl rfl ?_
    refine aC_52 (pc := 62) C dX5_teach_62 ?_
    refine j_iconst (pc := 63) 1 C dX5_teach_63 (by decide) ?_
    refine j_iload_n (pc := 64) 3 C dX5_teach_64 rfl rfl ?_
    refine j_ishl (pc := 65) C dX5_teach_65 ?_
    refine j_ior (pc := 66) C dX5_teach_66 ?_
    refine sC_52 (pc := 67) C dX5_teach_67 ?_
    refine j_nxS (fun T8 => ?_)
    refine j_iconst (pc := 68) 1 C dX5_teach_68 (by decide) ?_
    exact j_zretc C dX5_teach_69 rfl (Nat.le_of_ble_eq_true rfl) (Nat.le_of_ble_eq_true rfl) rfl
  ·
    refine j_iconst (pc := 11) 0 C dX5_teach_11 (by decide) ?_
    exact j_zretc C dX5_teach_12 rfl (Nat.le_of_ble_eq_true rfl) (Nat.le_of_ble_eq_true rfl) rfl
theorem cC_State_teach_13 {l : Launch} {G : Gc} (hfl : l.stackTraces = false) (hW : Wok G wC 54)   (x1 : Int32) (x2 : Int32) (S : St) : Ct l yX5_teach (Cond.code yX5_teach cX5_teach 4 (some .boolean) :: tblG) 5 0 0 G wC 54 [.ref (gA G 13), .int x1, .int x2] S (fC_State_teach_13 x1 x2 S) := ct_of (own := RX5) hfl (by decide +kernel) rfl hW (Nat.le_of_ble_eq_true rfl) (fun E hE C => by subst hE; exact bC_State_teach_13 C   x1 x2 S)
theorem rC_State_teach_13 {E : Ec} {G : Gc} {nL mc ms : Nat} {own : String} {cc : ByteArray} {L : Nat} {ret : Option FieldType} {k n pc ix : Nat} {loc : List (Nat × Value)} {rest : List Value}  {x1 : Int32} {x2 : Int32} {S : St}  (C : JC E (VC G nL mc ms own) cc L ret) (hd : decode cc pc = .ok (.invokevirtual ix, 3)) (hq : Cond.methodLink own ix yX5_teach ∈ tblG) (hL : 5 + 1 ≤ L) (hW : (rest.map fun v => v.category).sum ≤ 8) (hf : k + 0 ≤ mc ∧ n + 0 ≤ ms) : Rn E (VC G nL mc ms own) k n 0 0 pc loc (.int x2 :: .int x1 :: .ref (gA G 13) :: rest) rest S (fC_State_teach_13 x1 x2 S) := rn_V (ci := 5) 13 (V := VC G nL mc ms own) (As := [.int x1, .int x2]) (Cq := (RX5, TX5, 3)) (cC_State_teach_13 C.flags C.wok  x1 x2 S) knX5_teach ⟨q_357, q_358⟩ rfl rfl C hd hq hL rfl rfl hW hf

theorem knX2_lessonsFor : Kn yX2_lessonsFor cX2_lessonsFor 4 (some .int) 2 := ⟨q_612, q_603, by decide +kernel, by decide⟩
theorem bC_Outlook_lessonsFor_48 {E : Ec} {G : Gc}   {K13 : Int32 → Int32 → Int32 → St → Oz} (C : JC E (VC G 4 0 0 RX2) cX2_lessonsFor 6 (some .int))   (hK13 : ∀ (x1 : Int32) (x2 : Int32) (x3 : Int32) (S : St), J E (VC G 4 0 0 RX2) 0 0 13 [(0, .ref (gA G 11)), (1, .int x1), (2, .int x2), (3, .int x3)] [] S (K13 x1 x2 x3 S)) (x1 : Int32) (x2 : Int32) (x3 : Int32) (S : St) : J E (VC G 4 0 0 RX2) 0 0 48 [(0, .ref (gA G 11)), (1, .int x1), (2, .int x2), (3, .int x3)] [] S (fC_Outlook_lessonsFor_48 K13 x1 x2 x3 S) := by
  unfold fC_Outlook_lessonsFor_48
  refine j_aload_n (pc := 48) 0 C dX2_lessonsFor_48 rfl rfl ?_
  refine gC_11_2 (pc := 49) C dX2_lessonsFor_49 q_592 ?_
  refine j_iload_n (pc := 52) 1 C dX2_lessonsFor_52 rfl rfl ?_
  refine j_iload_n (pc := 53) 2 C dX2_lessonsFor_53 rfl rfl ?_
  refine j_callI0 (pc := 54) C (rC_State_teach_13 C dX2_lessonsFor_54 q_611 (by omega) (Nat.le_of_ble_eq_true rfl) ⟨Nat.le_of_ble_eq_true rfl, Nat.le_of_ble_eq_true rfl⟩) ⟨Nat.le_of_ble_eq_true rfl, Nat.le_of_ble_eq_true rfl⟩ (fun r2 T1 => ?_)
  refine j_pop (pc := 57) C dX2_lessonsFor_57 rfl ?_
  refine j_iinc (pc := 58) 3 (x3 + 1) [(3, .int (x3 + 1)), (0, .ref (gA G 11)), (1, .int x1), (2, .int x2)] C dX2_lessonsFor_58 rfl rfl (Nat.le_of_ble_eq_true rfl) rfl ?_
  refine j_goto (pc := 61) 13 C dX2_lessonsFor_61 (by decide) ?_
  refine j_sub [1, 2, 3, 0] rfl ?_
  exact hK13 x1 x2 (x3 + 1) T1
theorem bC_Outlook_lessonsFor_13 {E : Ec} {G : Gc}    (C : JC E (VC G 4 0 0 RX2) cX2_lessonsFor 6 (some .int))    : ∀ (n : Nat) (x1 : Int32) (x2 : Int32) (x3 : Int32) (S : St), J E (VC G 4 0 0 RX2) 0 0 13 [(0, .ref (gA G 11)), (1, .int x1), (2, .int x2), (3, .int x3)] [] S (fC_Outlook_lessonsFor_13  n x1 x2 x3 S) := by
  intro n
  induction n with
  | zero => intro x1 x2 x3 S; rw [fC_Outlook_lessonsFor_13]; exact j_none
  | succ n ih =>
    intro x1 x2 x3 S
    rw [fC_Outlook_lessonsFor_13]
    refine j_iload_n (pc := 13) 3 C dX2_lessonsFor_13 rfl rfl ?_
    refine j_bipush (pc := 14) 40 C dX2_lessonsFor_14 (by decide) ?_
    refine j_icmp_gt (pc := 16) 64 C dX2_lessonsFor_16 (by decide) ?_ ?_
    ·
      refine j_bipush (pc := 64) 41 C dX2_lessonsFor_64 (by decide) ?_
      exact j_iret C dX2_lessonsFor_66 rfl (Nat.le_of_ble_eq_true rfl) (Nat.le_of_ble_eq_true rfl)
    ·
      refine j_aload_n (pc := 19) 0 C dX2_lessonsFor_19 rfl rfl ?_
      refine gC_11_2 (pc := 20) C dX2_lessonsFor_20 q_592 ?_
      refine j_iload_n (pc := 23) 1 C dX2_lessonsFor_23 rfl rfl ?_
      refine j_iload_n (pc := 24) 2 C dX2_lessonsFor_24 rfl rfl ?_
      refine j_callI0 (pc := 25) C (rC_State_knowsAll_13 C dX2_lessonsFor_25 q_610 (by omega) (Nat.le_of_ble_eq_true rfl) ⟨Nat.le_of_ble_eq_true rfl, Nat.le_of_ble_eq_true rfl⟩) ⟨Nat.le_of_ble_eq_true rfl, Nat.le_of_ble_eq_true rfl⟩ (fun r2 T1 => ?_)
      refine j_if_eq (pc := 28) 33 C dX2_lessonsFor_28 (by decide) ?_ ?_
      ·
        refine j_iload_n (pc := 33) 3 C dX2_lessonsFor_33 rfl rfl ?_
        refine j_if_le (pc := 34) 48 C dX2_lessonsFor_34 (by decide) ?_ ?_
        ·
          exact bC_Outlook_lessonsFor_48 C ih x1 x2 x3 T1
        ·
          refine j_aload_n (pc := 37) 0 C dX2_lessonsFor_37 rfl rfl ?_
          refine gC_11_2 (pc := 38) C dX2_lessonsFor_38 q_592 ?_
          refine j_iload_n (pc := 41) 1 C dX2_lessonsFor_41 rfl rfl ?_
          refine j_iload_n (pc := 42) 1 C dX2_lessonsFor_42 rfl rfl ?_
          refine j_iconst (pc := 43) 1 C dX2_lessonsFor_43 (by decide) ?_
          refine j_iadd (pc := 44) C dX2_lessonsFor_44 ?_
          refine j_callv0 (pc := 45) C (rC_State_endWeek_13 C dX2_lessonsFor_45 q_601 (by omega) (Nat.le_of_ble_eq_true rfl) ⟨Nat.le_of_ble_eq_true rfl, Nat.le_of_ble_eq_true rfl⟩) ⟨Nat.le_of_ble_eq_true rfl, Nat.le_of_ble_eq_true rfl⟩ (fun T3 => ?_)
          exact bC_Outlook_lessonsFor_48 C ih x1 x2 x3 T3
      ·
        refine j_iload_n (pc := 31) 3 C dX2_lessonsFor_31 rfl rfl ?_
        exact j_iret C dX2_lessonsFor_32 rfl (Nat.le_of_ble_eq_true rfl) (Nat.le_of_ble_eq_true rfl)
theorem bC_Outlook_lessonsFor {E : Ec} {G : Gc}    (C : JC E (VC G 4 0 0 RX2) cX2_lessonsFor 6 (some .int))    (x1 : Int32) (x2 : Int32) (S : St) : J E (VC G 4 0 0 RX2) 0 0 0 [(0, .ref (gA G 11)), (1, .int x1), (2, .int x2)] [] S (fC_Outlook_lessonsFor  x1 x2 S) := by
  unfold fC_Outlook_lessonsFor
  refine j_aload_n (pc := 0) 0 C dX2_lessonsFor_0 rfl rfl ?_
  refine gC_11_2 (pc := 1) C dX2_lessonsFor_1 q_592 ?_
  refine j_aload_n (pc := 4) 0 C dX2_lessonsFor_4 rfl rfl ?_
  refine gC_11_1 (pc := 5) C dX2_lessonsFor_5 q_593 ?_
  refine j_callv0 (pc := 8) C (rC_State_copyFrom_13 C dX2_lessonsFor_8 q_598 (by omega) (Nat.le_of_ble_eq_true rfl) ⟨Nat.le_of_ble_eq_true rfl, Nat.le_of_ble_eq_true rfl⟩) ⟨Nat.le_of_ble_eq_true rfl, Nat.le_of_ble_eq_true rfl⟩ (fun T1 => ?_)
  refine j_iconst (pc := 11) 0 C dX2_lessonsFor_11 (by decide) ?_
  refine j_istore_n (pc := 12) [(3, .int 0), (0, .ref (gA G 11)), (1, .int x1), (2, .int x2)] C dX2_lessonsFor_12 rfl (Nat.le_of_ble_eq_true rfl) rfl ?_
  refine j_sub [1, 2, 3, 0] rfl ?_
  exact bC_Outlook_lessonsFor_13 C  FU x1 x2 0 T1
theorem cC_Outlook_lessonsFor {l : Launch} {G : Gc} (hfl : l.stackTraces = false) (hW : Wok G wC 54)   (x1 : Int32) (x2 : Int32) (S : St) : Ct l yX2_lessonsFor (Cond.code yX2_lessonsFor cX2_lessonsFor 4 (some .int) :: tblG) 6 0 0 G wC 54 [.ref (gA G 11), .int x1, .int x2] S (fC_Outlook_lessonsFor x1 x2 S) := ct_of (own := RX2) hfl (by decide +kernel) rfl hW (Nat.le_of_ble_eq_true rfl) (fun E hE C => by subst hE; exact bC_Outlook_lessonsFor C   x1 x2 S)
theorem rC_Outlook_lessonsFor {E : Ec} {G : Gc} {nL mc ms : Nat} {own : String} {cc : ByteArray} {L : Nat} {ret : Option FieldType} {k n pc ix : Nat} {loc : List (Nat × Value)} {rest : List Value}  {x1 : Int32} {x2 : Int32} {S : St}  (C : JC E (VC G nL mc ms own) cc L ret) (hd : decode cc pc = .ok (.invokevirtual ix, 3)) (hq : Cond.methodLink own ix yX2_lessonsFor ∈ tblG) (hL : 6 + 1 ≤ L) (hW : (rest.map fun v => v.category).sum ≤ 8) (hf : k + 0 ≤ mc ∧ n + 0 ≤ ms) : Rn E (VC G nL mc ms own) k n 0 0 pc loc (.int x2 :: .int x1 :: .ref (gA G 11) :: rest) rest S (fC_Outlook_lessonsFor x1 x2 S) := rn_V (ci := 2) 11 (V := VC G nL mc ms own) (As := [.int x1, .int x2]) (Cq := (RX2, TX2, 4)) (cC_Outlook_lessonsFor C.flags C.wok  x1 x2 S) knX2_lessonsFor ⟨q_613, q_614⟩ rfl rfl C hd hq hL rfl rfl hW hf

theorem knX9_lessons : Kn yX9_lessons cX9_lessons 4 (some .int) 2 := ⟨q_616, q_40, by decide +kernel, by decide⟩
theorem bC_Main_lessons {E : Ec} {G : Gc}    (C : JC E (VC G 4 2 12 RX9) cX9_lessons 8 (some .int))    (x1 : Int32) (x2 : Int32) (S : St) : J E (VC G 4 2 12 RX9) 0 0 0 [(0, .ref (gA G 0)), (1, .int x1), (2, .int x2)] [] S (fC_Main_lessons  x1 x2 S) := by
  unfold fC_Main_lessons
  refine j_aload_n (pc := 0) 0 C dX9_lessons_0 rfl rfl ?_
  refine j_iload_n (pc := 1) 1 C dX9_lessons_1 rfl rfl ?_
  refine j_callv (pc := 2) C (rC_Main_needMan C dX9_lessons_2 q_529 (by omega) (Nat.le_of_ble_eq_true rfl) ⟨Nat.le_of_ble_eq_true rfl, Nat.le_of_ble_eq_true rfl⟩) ⟨Nat.le_of_ble_eq_true rfl, Nat.le_of_ble_eq_true rfl⟩ (fun T1 => ?_)
  refine j_aload_n (pc := 5) 0 C dX9_lessons_5 rfl rfl ?_
  refine j_iload_n (pc := 6) 2 C dX9_lessons_6 rfl rfl ?_
  refine j_callv (pc := 7) C (rC_Main_needPoem C dX9_lessons_7 q_508 (by omega) (Nat.le_of_ble_eq_true rfl) ⟨Nat.le_of_ble_eq_true rfl, Nat.le_of_ble_eq_true rfl⟩) ⟨Nat.le_of_ble_eq_true rfl, Nat.le_of_ble_eq_true rfl⟩ (fun T3 => ?_)
  refine j_aload_n (pc := 10) 0 C dX9_lessons_10 rfl rfl ?_
  refine gC_0_10 (pc := 11) C dX9_lessons_11 q_591 ?_
  refine j_iload_n (pc := 14) 1 C dX9_lessons_14 rfl rfl ?_
  refine j_iload_n (pc := 15) 2 C dX9_lessons_15 rfl rfl ?_
  refine j_callI0 (pc := 16) C (rC_Outlook_lessonsFor C dX9_lessons_16 q_615 (by omega) (Nat.le_of_ble_eq_true rfl) ⟨Nat.le_of_ble_eq_true rfl, Nat.le_of_ble_eq_true rfl⟩) ⟨Nat.le_of_ble_eq_true rfl, Nat.le_of_ble_eq_true rfl⟩ (fun r6 T5 => ?_)
  refine j_istore_n (pc := 19) [(3, .int r6), (0, .ref (gA G 0)), (1, .int x1), (2, .int x2)] C dX9_lessons_19 rfl (Nat.le_of_ble_eq_true rfl) rfl ?_
  refine j_iload_n (pc := 20) 0 C dX9_lessons_20 rfl rfl ?_
  refine j_bipush (pc := 21) 41 C dX9_lessons_21 (by decide) ?_
  refine j_icmp_ne (pc := 23) 30 C dX9_lessons_23 (by decide) ?_ ?_
  ·
    refine j_iload_n (pc := 30) 0 C dX9_lessons_30 rfl rfl ?_
    exact j_iret C dX9_lessons_31 rfl (Nat.le_of_ble_eq_true rfl) (Nat.le_of_ble_eq_true rfl)
  ·
    refine j_iconst (pc := 26) (-1) C dX9_lessons_26 (by decide) ?_
    refine j_goto (pc := 27) 31 C dX9_lessons_27 (by decide) ?_
    exact j_iret C dX9_lessons_31 rfl (Nat.le_of_ble_eq_true rfl) (Nat.le_of_ble_eq_true rfl)
theorem cC_Main_lessons {l : Launch} {G : Gc} (hfl : l.stackTraces = false) (hW : Wok G wC 54)   (x1 : Int32) (x2 : Int32) (S : St) : Ct l yX9_lessons (Cond.code yX9_lessons cX9_lessons 4 (some .int) :: tblG) 8 2 12 G wC 54 [.ref (gA G 0), .int x1, .int x2] S (fC_Main_lessons x1 x2 S) := ct_of (own := RX9) hfl (by decide +kernel) rfl hW (Nat.le_of_ble_eq_true rfl) (fun E hE C => by subst hE; exact bC_Main_lessons C   x1 x2 S)
theorem rC_Main_lessons {E : Ec} {G : Gc} {nL mc ms : Nat} {own : String} {cc : ByteArray} {L : Nat} {ret : Option FieldType} {k n pc ix : Nat} {loc : List (Nat × Value)} {rest : List Value}  {x1 : Int32} {x2 : Int32} {S : St}  (C : JC E (VC G nL mc ms own) cc L ret) (hd : decode cc pc = .ok (.invokevirtual ix, 3)) (hq : Cond.methodLink own ix yX9_lessons ∈ tblG) (hL : 8 + 1 ≤ L) (hW : (rest.map fun v => v.category).sum ≤ 8) (hf : k + 2 ≤ mc ∧ n + 12 ≤ ms) : Rn E (VC G nL mc ms own) k n 2 12 pc loc (.int x2 :: .int x1 :: .ref (gA G 0) :: rest) rest S (fC_Main_lessons x1 x2 S) := rn_V (ci := 9) 0 (V := VC G nL mc ms own) (As := [.int x1, .int x2]) (Cq := (RX9, TX9, 15)) (cC_Main_lessons C.flags C.wok  x1 x2 S) knX9_lessons ⟨q_617, q_618⟩ rfl rfl C hd hq hL rfl rfl hW hf

theorem knX3_sortByDue : Kn yX3_sortByDue cX3_sortByDue 4 none 1 := ⟨q_630, q_631, by decide +kernel, by decide⟩
theorem bC_PayChoice_sortByDue_98 {E : Ec} {G : Gc}   {K7 : Int32 → Int32 → St → Oz} (C : JC E (VC G 4 0 0 RX3) cX3_sortByDue 5 none)   (hK7 : ∀ (x1 : Int32) (x2 : Int32) (S : St), J E (VC G 4 0 0 RX3) 0 0 7 [(0, .ref (gA G 12)), (1, .int x1), (2, .int x2)] [] S (K7 x1 x2 S)) (x1 : Int32) (x2 : Int32) (x3 : Int32) (S : St) : J E (VC G 4 0 0 RX3) 0 0 98 [(0, .ref (gA G 12)), (1, .int x1), (2, .int x2), (3, .int x3)] [] S (fC_PayChoice_sortByDue_98 K7 x1 x2 x3 S) := by
  unfold fC_PayChoice_sortByDue_98
  refine j_aload_n (pc := 98) 0 C dX3_sortByDue_98 rfl rfl ?_
  refine gC_12_2 (pc := 99) C dX3_sortByDue_99 q_629 ?_
  refine j_iload_n (pc := 102) 3 C dX3_sortByDue_102 rfl rfl ?_
  refine j_iload_n (pc := 103) 2 C dX3_sortByDue_103 rfl rfl ?_
  refine sC_50 (pc := 104) C dX3_sortByDue_104 ?_
  refine j_nxS (fun T1 => ?_)
  refine j_aload_n (pc := 105) 0 C dX3_sortByDue_105 rfl rfl ?_
  refine j_dup (pc := 106) C dX3_sortByDue_106 rfl ?_
  refine gC_12_4 (pc := 107) C dX3_sortByDue_107 q_624 ?_
  refine j_iconst (pc := 110) 1 C dX3_sortByDue_110 (by decide) ?_
  refine j_iadd (pc := 111) C dX3_sortByDue_111 ?_
  refine pC_12_4 (pc := 112) C dX3_sortByDue_112 q_624 ?_
  refine j_nxS (fun T2 => ?_)
  refine j_iinc (pc := 115) 2 (x2 + 1) [(2, .int (x2 + 1)), (0, .ref (gA G 12)), (1, .int x1), (3, .int x3)] C dX3_sortByDue_115 rfl rfl (Nat.le_of_ble_eq_true rfl) rfl ?_
  refine j_goto (pc := 118) 7 C dX3_sortByDue_118 (by decide) ?_
  refine j_sub [1, 2, 0] rfl ?_
  exact hK7 x1 (x2 + 1) T2
theorem bC_PayChoice_sortByDue_46 {E : Ec} {G : Gc}   {K7 : Int32 → Int32 → St → Oz} (C : JC E (VC G 4 0 0 RX3) cX3_sortByDue 5 none)   (hK7 : ∀ (x1 : Int32) (x2 : Int32) (S : St), J E (VC G 4 0 0 RX3) 0 0 7 [(0, .ref (gA G 12)), (1, .int x1), (2, .int x2)] [] S (K7 x1 x2 S)) : ∀ (n : Nat) (x1 : Int32) (x2 : Int32) (x3 : Int32) (S : St), J E (VC G 4 0 0 RX3) 0 0 46 [(0, .ref (gA G 12)), (1, .int x1), (2, .int x2), (3, .int x3)] [] S (fC_PayChoice_sortByDue_46 K7 n x1 x2 x3 S) := by
  intro n
  induction n with
  | zero => intro x1 x2 x3 S; rw [fC_PayChoice_sortByDue_46]; exact j_none
  | succ n ih =>
    intro x1 x2 x3 S
    rw [fC_PayChoice_sortByDue_46]
    refine j_iload_n (pc := 46) 3 C dX3_sortByDue_46 rfl rfl ?_
    refine j_if_le (pc := 47) 98 C dX3_sortByDue_47 (by decide) ?_ ?_
    ·
      exact bC_PayChoice_sortByDue_98 C hK7 x1 x2 x3 S
    ·
      refine j_aload_n (pc := 50) 0 C dX3_sortByDue_50 rfl rfl ?_
      refine gC_12_0 (pc := 51) C dX3_sortByDue_51 q_620 ?_
      refine gC_2_11 (pc := 54) C dX3_sortByDue_54 q_628 ?_
      refine j_aload_n (pc := 57) 0 C dX3_sortByDue_57 rfl rfl ?_
      refine gC_12_2 (pc := 58) C dX3_sortByDue_58 q_629 ?_
      refine j_iload_n (pc := 61) 3 C dX3_sortByDue_61 rfl rfl ?_
      refine j_iconst (pc := 62) 1 C dX3_sortByDue_62 (by decide) ?_
      refine j_isub (pc := 63) C dX3_sortByDue_63 ?_
      refine aC_50 (pc := 64) C dX3_sortByDue_64 ?_
      refine aC_22 (pc := 65) C dX3_sortByDue_65 ?_
      refine j_aload_n (pc := 66) 0 C dX3_sortByDue_66 rfl rfl ?_
      refine gC_12_0 (pc := 67) C dX3_sortByDue_67 q_620 ?_
      refine gC_2_11 (pc := 70) C dX3_sortByDue_70 q_628 ?_
      refine j_iload_n (pc := 73) 2 C dX3_sortByDue_73 rfl rfl ?_
      refine aC_22 (pc := 74) C dX3_sortByDue_74 ?_
      refine j_icmp_le (pc := 75) 98 C dX3_sortByDue_75 (by decide) ?_ ?_
      ·
        exact bC_PayChoice_sortByDue_98 C hK7 x1 x2 x3 S
      ·
        refine j_aload_n (pc := 78) 0 C dX3_sortByDue_78 rfl rfl ?_
        refine gC_12_2 (pc := 79) C dX3_sortByDue_79 q_629 ?_
        refine j_iload_n (pc := 82) 3 C dX3_sortByDue_82 rfl rfl ?_
        refine j_aload_n (pc := 83) 0 C dX3_sortByDue_83 rfl rfl ?_
        refine gC_12_2 (pc := 84) C dX3_sortByDue_84 q_629 ?_
        refine j_iload_n (pc := 87) 3 C dX3_sortByDue_87 rfl rfl ?_
        refine j_iconst (pc := 88) 1 C dX3_sortByDue_88 (by decide) ?_
        refine j_isub (pc := 89) C dX3_sortByDue_89 ?_
        refine aC_50 (pc := 90) C dX3_sortByDue_90 ?_
        refine sC_50 (pc := 91) C dX3_sortByDue_91 ?_
        refine j_nxS (fun T1 => ?_)
        refine j_iinc (pc := 92) 3 (x3 + (-1)) [(3, .int (x3 + (-1))), (0, .ref (gA G 12)), (1, .int x1), (2, .int x2)] C dX3_sortByDue_92 rfl rfl (Nat.le_of_ble_eq_true rfl) rfl ?_
        refine j_goto (pc := 95) 46 C dX3_sortByDue_95 (by decide) ?_
        refine j_sub [1, 2, 3, 0] rfl ?_
        exact ih x1 x2 (x3 + (-1)) T1
theorem bC_PayChoice_sortByDue_7 {E : Ec} {G : Gc}    (C : JC E (VC G 4 0 0 RX3) cX3_sortByDue 5 none)    : ∀ (n : Nat) (x1 : Int32) (x2 : Int32) (S : St), J E (VC G 4 0 0 RX3) 0 0 7 [(0, .ref (gA G 12)), (1, .int x1), (2, .int x2)] [] S (fC_PayChoice_sortByDue_7  n x1 x2 S) := by
  intro n
  induction n with
  | zero => intro x1 x2 S; rw [fC_PayChoice_sortByDue_7]; exact j_none
  | succ n ih =>
    intro x1 x2 S
    rw [fC_PayChoice_sortByDue_7]
    refine j_iload_n (pc := 7) 2 C dX3_sortByDue_7 rfl rfl ?_
    refine j_aload_n (pc := 8) 0 C dX3_sortByDue_8 rfl rfl ?_
    refine gC_12_0 (pc := 9) C dX3_sortByDue_9 q_620 ?_
    refine gC_2_2 (pc := 12) C dX3_sortByDue_12 q_625 ?_
    refine j_icmp_ge (pc := 15) 121 C dX3_sortByDue_15 (by decide) ?_ ?_
    ·
      exact j_vret C dX3_sortByDue_121 rfl (Nat.le_of_ble_eq_true rfl) (Nat.le_of_ble_eq_true rfl)
    ·
      refine j_iload_n (pc := 18) 1 C dX3_sortByDue_18 rfl rfl ?_
      refine j_iload_n (pc := 19) 2 C dX3_sortByDue_19 rfl rfl ?_
      refine j_ishr (pc := 20) C dX3_sortByDue_20 ?_
      refine j_iconst (pc := 21) 1 C dX3_sortByDue_21 (by decide) ?_
      refine j_iand (pc := 22) C dX3_sortByDue_22 ?_
      refine j_iconst (pc := 23) 1 C dX3_sortByDue_23 (by decide) ?_
      refine j_icmp_ne (pc := 24) 115 C dX3_sortByDue_24 (by decide) ?_ ?_
      ·
        refine j_iinc (pc := 115) 2 (x2 + 1) [(2, .int (x2 + 1)), (0, .ref (gA G 12)), (1, .int x1)] C dX3_sortByDue_115 rfl rfl (Nat.le_of_ble_eq_true rfl) rfl ?_
        refine j_goto (pc := 118) 7 C dX3_sortByDue_118 (by decide) ?_
        refine j_sub [1, 2, 0] rfl ?_
        exact ih x1 (x2 + 1) S
      ·
        refine j_aload_n (pc := 27) 0 C dX3_sortByDue_27 rfl rfl ?_
        refine gC_12_3 (pc := 28) C dX3_sortByDue_28 q_626 ?_
        refine j_iload_n (pc := 31) 2 C dX3_sortByDue_31 rfl rfl ?_
        refine j_aload_n (pc := 32) 0 C dX3_sortByDue_32 rfl rfl ?_
        refine gC_12_1 (pc := 33) C dX3_sortByDue_33 q_622 ?_
        refine j_iload_n (pc := 36) 2 C dX3_sortByDue_36 rfl rfl ?_
        refine j_callI0 (pc := 37) C (rC_State_needOf_9 C dX3_sortByDue_37 q_627 (by omega) (Nat.le_of_ble_eq_true rfl) ⟨Nat.le_of_ble_eq_true rfl, Nat.le_of_ble_eq_true rfl⟩) ⟨Nat.le_of_ble_eq_true rfl, Nat.le_of_ble_eq_true rfl⟩ (fun r2 T1 => ?_)
        refine sC_51 (pc := 40) C dX3_sortByDue_40 ?_
        refine j_nxS (fun T3 => ?_)
        refine j_aload_n (pc := 41) 0 C dX3_sortByDue_41 rfl rfl ?_
        refine gC_12_4 (pc := 42) C dX3_sortByDue_42 q_624 ?_
        refine j_nxI (fun v4 => ?_)
        refine j_istore_n (pc := 45) [(3, .int v4), (0, .ref (gA G 12)), (1, .int x1), (2, .int x2)] C dX3_sortByDue_45 rfl (Nat.le_of_ble_eq_true rfl) rfl ?_
        refine j_sub [1, 2, 3, 0] rfl ?_
        exact bC_PayChoice_sortByDue_46 C ih FU x1 x2 v4 T3
theorem bC_PayChoice_sortByDue {E : Ec} {G : Gc}    (C : JC E (VC G 4 0 0 RX3) cX3_sortByDue 5 none)    (x1 : Int32) (S : St) : J E (VC G 4 0 0 RX3) 0 0 0 [(0, .ref (gA G 12)), (1, .int x1)] [] S (fC_PayChoice_sortByDue  x1 S) := by
  unfold fC_PayChoice_sortByDue
  refine j_aload_n (pc := 0) 0 C dX3_sortByDue_0 rfl rfl ?_
  refine j_iconst (pc := 1) 0 C dX3_sortByDue_1 (by decide) ?_
  refine pC_12_4 (pc := 2) C dX3_sortByDue_2 q_624 ?_
  refine j_nxS (fun T1 => ?_)
  refine j_iconst (pc := 5) 0 C dX3_sortByDue_5 (by decide) ?_
  refine j_istore_n (pc := 6) [(2, .int 0), (0, .ref (gA G 12)), (1, .int x1)] C dX3_sortByDue_6 rfl (Nat.le_of_ble_eq_true rfl) rfl ?_
  refine j_sub [1, 2, 0] rfl ?_
  exact bC_PayChoice_sortByDue_7 C  FU x1 0 T1
theorem cC_PayChoice_sortByDue {l : Launch} {G : Gc} (hfl : l.stackTraces = false) (hW : Wok G wC 54)   (x1 : Int32) (S : St) : Ct l yX3_sortByDue (Cond.code yX3_sortByDue cX3_sortByDue 4 none :: tblG) 5 0 0 G wC 54 [.ref (gA G 12), .int x1] S (fC_PayChoice_sortByDue x1 S) := ct_of (own := RX3) hfl (by decide +kernel) rfl hW (Nat.le_of_ble_eq_true rfl) (fun E hE C => by subst hE; exact bC_PayChoice_sortByDue C   x1 S)
theorem rC_PayChoice_sortByDue {E : Ec} {G : Gc} {nL mc ms : Nat} {own : String} {cc : ByteArray} {L : Nat} {ret : Option FieldType} {k n pc ix : Nat} {loc : List (Nat × Value)} {rest : List Value}  {x1 : Int32} {S : St}  (C : JC E (VC G nL mc ms own) cc L ret) (hd : decode cc pc = .ok (.invokevirtual ix, 3)) (hq : Cond.methodLink own ix yX3_sortByDue ∈ tblG) (hL : 5 + 1 ≤ L) (hW : (rest.map fun v => v.category).sum ≤ 8) (hf : k + 0 ≤ mc ∧ n + 0 ≤ ms) : Rn E (VC G nL mc ms own) k n 0 0 pc loc (.int x1 :: .ref (gA G 12) :: rest) rest S (fC_PayChoice_sortByDue x1 S) := rn_V (ci := 3) 12 (V := VC G nL mc ms own) (As := [.int x1]) (Cq := (RX3, TX3, 5)) (cC_PayChoice_sortByDue C.flags C.wok  x1 S) knX3_sortByDue ⟨q_632, q_633⟩ rfl rfl C hd hq hL rfl rfl hW hf

theorem knJ6_bitCount_0f7a4 : Kn yJ6_bitCount_0f7a4 cJ6_bitCount_0f7a4 1 (some .int) 1 := ⟨q_638, q_639, by decide +kernel, by decide⟩
theorem bC_Integer_bitCount {E : Ec} {G : Gc}    (C : JC E (VC G 1 0 0 RJ6) cJ6_bitCount_0f7a4 1 (some .int))    (x0 : Int32) (S : St) : J E (VC G 1 0 0 RJ6) 0 0 0 [(0, .int x0)] [] S (fC_Integer_bitCount  x0 S) := by
  unfold fC_Integer_bitCount
  refine j_iload_n (pc := 0) 0 C dJ6_bitCount_0f7a4_0 rfl rfl ?_
  refine j_iload_n (pc := 1) 0 C dJ6_bitCount_0f7a4_1 rfl rfl ?_
  refine j_iconst (pc := 2) 1 C dJ6_bitCount_0f7a4_2 (by decide) ?_
  refine j_iushr (pc := 3) C dJ6_bitCount_0f7a4_3 ?_
  refine j_ldcw (pc := 4) C dJ6_bitCount_0f7a4_4 q_635 ?_
  refine j_iand (pc := 7) C dJ6_bitCount_0f7a4_7 ?_
  refine j_isub (pc := 8) C dJ6_bitCount_0f7a4_8 ?_
  refine j_nxI (fun v1 => ?_)
  refine j_istore_n (pc := 9) [(0, .int v1)] C dJ6_bitCount_0f7a4_9 rfl (Nat.le_of_ble_eq_true rfl) rfl ?_
  refine j_iload_n (pc := 10) 0 C dJ6_bitCount_0f7a4_10 rfl rfl ?_
  refine j_ldcw (pc := 11) C dJ6_bitCount_0f7a4_11 q_636 ?_
  refine j_iand (pc := 14) C dJ6_bitCount_0f7a4_14 ?_
  refine j_iload_n (pc := 15) 0 C dJ6_bitCount_0f7a4_15 rfl rfl ?_
  refine j_iconst (pc := 16) 2 C dJ6_bitCount_0f7a4_16 (by decide) ?_
  refine j_iushr (pc := 17) C dJ6_bitCount_0f7a4_17 ?_
  refine j_ldcw (pc := 18) C dJ6_bitCount_0f7a4_18 q_636 ?_
  refine j_iand (pc := 21) C dJ6_bitCount_0f7a4_21 ?_
  refine j_iadd (pc := 22) C dJ6_bitCount_0f7a4_22 ?_
  refine j_nxI (fun v2 => ?_)
  refine j_istore_n (pc := 23) [(0, .int v2)] C dJ6_bitCount_0f7a4_23 rfl (Nat.le_of_ble_eq_true rfl) rfl ?_
  refine j_iload_n (pc := 24) 0 C dJ6_bitCount_0f7a4_24 rfl rfl ?_
  refine j_iload_n (pc := 25) 0 C dJ6_bitCount_0f7a4_25 rfl rfl ?_
  refine j_iconst (pc := 26) 4 C dJ6_bitCount_0f7a4_26 (by decide) ?_
  refine j_iushr (pc := 27) C dJ6_bitCount_0f7a4_27 ?_
  refine j_iadd (pc := 28) C dJ6_bitCount_0f7a4_28 ?_
  refine j_ldcw (pc := 29) C dJ6_bitCount_0f7a4_29 q_637 ?_
  refine j_iand (pc := 32) C dJ6_bitCount_0f7a4_32 ?_
  refine j_nxI (fun v3 => ?_)
  refine j_istore_n (pc := 33) [(0, .int v3)] C dJ6_bitCount_0f7a4_33 rfl (Nat.le_of_ble_eq_true rfl) rfl ?_
  refine j_iload_n (pc := 34) 0 C dJ6_bitCount_0f7a4_34 rfl rfl ?_
  refine j_iload_n (pc := 35) 0 C dJ6_bitCount_0f7a4_35 rfl rfl ?_
  refine j_bipush (pc := 36) 8 C dJ6_bitCount_0f7a4_36 (by decide) ?_
  refine j_iushr (pc := 38) C dJ6_bitCount_0f7a4_38 ?_
  refine j_iadd (pc := 39) C dJ6_bitCount_0f7a4_39 ?_
  refine j_nxI (fun v4 => ?_)
  refine j_istore_n (pc := 40) [(0, .int v4)] C dJ6_bitCount_0f7a4_40 rfl (Nat.le_of_ble_eq_true rfl) rfl ?_
  refine j_iload_n (pc := 41) 0 C dJ6_bitCount_0f7a4_41 rfl rfl ?_
  refine j_iload_n (pc := 42) 0 C dJ6_bitCount_0f7a4_42 rfl rfl ?_
  refine j_bipush (pc := 43) 16 C dJ6_bitCount_0f7a4_43 (by decide) ?_
  refine j_iushr (pc := 45) C dJ6_bitCount_0f7a4_45 ?_
  refine j_iadd (pc := 46) C dJ6_bitCount_0f7a4_46 ?_
  refine j_nxI (fun v5 => ?_)
  refine j_istore_n (pc := 47) [(0, .int v5)] C dJ6_bitCount_0f7a4_47 rfl (Nat.le_of_ble_eq_true rfl) rfl ?_
  refine j_iload_n (pc := 48) 0 C dJ6_bitCount_0f7a4_48 rfl rfl ?_
  refine j_bipush (pc := 49) 63 C dJ6_bitCount_0f7a4_49 (by decide) ?_
  refine j_iand (pc := 51) C dJ6_bitCount_0f7a4_51 ?_
  exact j_iret C dJ6_bitCount_0f7a4_52 rfl (Nat.le_of_ble_eq_true rfl) (Nat.le_of_ble_eq_true rfl)
theorem cC_Integer_bitCount {l : Launch} {G : Gc} (hfl : l.stackTraces = false) (hW : Wok G wC 54)   (x0 : Int32) (S : St) : Ct l yJ6_bitCount_0f7a4 (Cond.code yJ6_bitCount_0f7a4 cJ6_bitCount_0f7a4 1 (some .int) :: tblG) 1 0 0 G wC 54 [.int x0] S (fC_Integer_bitCount x0 S) := ct_of (own := RJ6) hfl (by decide +kernel) rfl hW (Nat.le_of_ble_eq_true rfl) (fun E hE C => by subst hE; exact bC_Integer_bitCount C   x0 S)
theorem rC_Integer_bitCount {E : Ec} {G : Gc} {nL mc ms : Nat} {own : String} {cc : ByteArray} {L : Nat} {ret : Option FieldType} {k n pc ix : Nat} {loc : List (Nat × Value)} {rest : List Value}  {x0 : Int32} {S : St}  (C : JC E (VC G nL mc ms own) cc L ret) (hd : decode cc pc = .ok (.invokestatic ix, 3)) (hq : Cond.methodLink own ix yJ6_bitCount_0f7a4 ∈ tblG) (hL : 1 + 1 ≤ L) (hW : (rest.map fun v => v.category).sum ≤ 8) (hf : k + 0 ≤ mc ∧ n + 0 ≤ ms) : Rn E (VC G nL mc ms own) k n 0 0 pc loc (.int x0 :: rest) rest S (fC_Integer_bitCount x0 S) := rn_S (V := VC G nL mc ms own) (As := [.int x0]) (cC_Integer_bitCount C.flags C.wok  x0 S) knJ6_bitCount_0f7a4 q_640  C hd hq hL rfl rfl hW hf

theorem knX3_linesOfEach : Kn yX3_linesOfEach cX3_linesOfEach 4 (some .int) 1 := ⟨q_644, q_631, by decide +kernel, by decide⟩
theorem bC_PayChoice_linesOfEach_4 {E : Ec} {G : Gc}    (C : JC E (VC G 4 0 0 RX3) cX3_linesOfEach 1 (some .int))    : ∀ (n : Nat) (x1 : Int32) (x2 : Int32) (x3 : Int32) (S : St), J E (VC G 4 0 0 RX3) 0 0 4 [(0, .ref (gA G 12)), (1, .int x1), (2, .int x2), (3, .int x3)] [] S (fC_PayChoice_linesOfEach_4  n x1 x2 x3 S) := by
  intro n
  induction n with
  | zero => intro x1 x2 x3 S; rw [fC_PayChoice_linesOfEach_4]; exact j_none
  | succ n ih =>
    intro x1 x2 x3 S
    rw [fC_PayChoice_linesOfEach_4]
    refine j_iload_n (pc := 4) 3 C dX3_linesOfEach_4 rfl rfl ?_
    refine j_aload_n (pc := 5) 0 C dX3_linesOfEach_5 rfl rfl ?_
    refine gC_12_4 (pc := 6) C dX3_linesOfEach_6 q_624 ?_
    refine j_icmp_ge (pc := 9) 57 C dX3_linesOfEach_9 (by decide) ?_ ?_
    ·
      refine j_iload_n (pc := 57) 2 C dX3_linesOfEach_57 rfl rfl ?_
      exact j_iret C dX3_linesOfEach_58 rfl (Nat.le_of_ble_eq_true rfl) (Nat.le_of_ble_eq_true rfl)
    ·
      refine j_iload_n (pc := 12) 1 C dX3_linesOfEach_12 rfl rfl ?_
      refine j_aload_n (pc := 13) 0 C dX3_linesOfEach_13 rfl rfl ?_
      refine gC_12_2 (pc := 14) C dX3_linesOfEach_14 q_629 ?_
      refine j_iload_n (pc := 17) 3 C dX3_linesOfEach_17 rfl rfl ?_
      refine aC_50 (pc := 18) C dX3_linesOfEach_18 ?_
      refine j_ishr (pc := 19) C dX3_linesOfEach_19 ?_
      refine j_iconst (pc := 20) 1 C dX3_linesOfEach_20 (by decide) ?_
      refine j_iand (pc := 21) C dX3_linesOfEach_21 ?_
      refine j_iconst (pc := 22) 1 C dX3_linesOfEach_22 (by decide) ?_
      refine j_icmp_ne (pc := 23) 51 C dX3_linesOfEach_23 (by decide) ?_ ?_
      ·
        refine j_iinc (pc := 51) 3 (x3 + 1) [(3, .int (x3 + 1)), (0, .ref (gA G 12)), (1, .int x1), (2, .int x2)] C dX3_linesOfEach_51 rfl rfl (Nat.le_of_ble_eq_true rfl) rfl ?_
        refine j_goto (pc := 54) 4 C dX3_linesOfEach_54 (by decide) ?_
        refine j_sub [1, 2, 3, 0] rfl ?_
        exact ih x1 x2 (x3 + 1) S
      ·
        refine j_iload_n (pc := 26) 2 C dX3_linesOfEach_26 rfl rfl ?_
        refine j_aload_n (pc := 27) 0 C dX3_linesOfEach_27 rfl rfl ?_
        refine gC_12_0 (pc := 28) C dX3_linesOfEach_28 q_620 ?_
        refine gC_2_4 (pc := 31) C dX3_linesOfEach_31 q_642 ?_
        refine j_aload_n (pc := 34) 0 C dX3_linesOfEach_34 rfl rfl ?_
        refine gC_12_0 (pc := 35) C dX3_linesOfEach_35 q_620 ?_
        refine gC_2_9 (pc := 38) C dX3_linesOfEach_38 q_643 ?_
        refine j_aload_n (pc := 41) 0 C dX3_linesOfEach_41 rfl rfl ?_
        refine gC_12_2 (pc := 42) C dX3_linesOfEach_42 q_629 ?_
        refine j_iload_n (pc := 45) 3 C dX3_linesOfEach_45 rfl rfl ?_
        refine aC_50 (pc := 46) C dX3_linesOfEach_46 ?_
        refine aC_20 (pc := 47) C dX3_linesOfEach_47 ?_
        refine aC_15 (pc := 48) C dX3_linesOfEach_48 ?_
        refine j_iadd (pc := 49) C dX3_linesOfEach_49 ?_
        refine j_nxI (fun v1 => ?_)
        refine j_istore_n (pc := 50) [(2, .int v1), (0, .ref (gA G 12)), (1, .int x1), (3, .int x3)] C dX3_linesOfEach_50 rfl (Nat.le_of_ble_eq_true rfl) rfl ?_
        refine j_iinc (pc := 51) 3 (x3 + 1) [(3, .int (x3 + 1)), (2, .int v1), (0, .ref (gA G 12)), (1, .int x1)] C dX3_linesOfEach_51 rfl rfl (Nat.le_of_ble_eq_true rfl) rfl ?_
        refine j_goto (pc := 54) 4 C dX3_linesOfEach_54 (by decide) ?_
        refine j_sub [2, 3, 1, 0] rfl ?_
        exact ih x1 v1 (x3 + 1) S
theorem bC_PayChoice_linesOfEach {E : Ec} {G : Gc}    (C : JC E (VC G 4 0 0 RX3) cX3_linesOfEach 1 (some .int))    (x1 : Int32) (S : St) : J E (VC G 4 0 0 RX3) 0 0 0 [(0, .ref (gA G 12)), (1, .int x1)] [] S (fC_PayChoice_linesOfEach  x1 S) := by
  unfold fC_PayChoice_linesOfEach
  refine j_iconst (pc := 0) 0 C dX3_linesOfEach_0 (by decide) ?_
  refine j_istore_n (pc := 1) [(2, .int 0), (0, .ref (gA G 12)), (1, .int x1)] C dX3_linesOfEach_1 rfl (Nat.le_of_ble_eq_true rfl) rfl ?_
  refine j_iconst (pc := 2) 0 C dX3_linesOfEach_2 (by decide) ?_
  refine j_istore_n (pc := 3) [(3, .int 0), (2, .int 0), (0, .ref (gA G 12)), (1, .int x1)] C dX3_linesOfEach_3 rfl (Nat.le_of_ble_eq_true rfl) rfl ?_
  refine j_sub [2, 3, 1, 0] rfl ?_
  exact bC_PayChoice_linesOfEach_4 C  FU x1 0 0 S
theorem cC_PayChoice_linesOfEach {l : Launch} {G : Gc} (hfl : l.stackTraces = false) (hW : Wok G wC 54)   (x1 : Int32) (S : St) : Ct l yX3_linesOfEach (Cond.code yX3_linesOfEach cX3_linesOfEach 4 (some .int) :: tblG) 1 0 0 G wC 54 [.ref (gA G 12), .int x1] S (fC_PayChoice_linesOfEach x1 S) := ct_of (own := RX3) hfl (by decide +kernel) rfl hW (Nat.le_of_ble_eq_true rfl) (fun E hE C => by subst hE; exact bC_PayChoice_linesOfEach C   x1 S)
theorem rC_PayChoice_linesOfEach {E : Ec} {G : Gc} {nL mc ms : Nat} {own : String} {cc : ByteArray} {L : Nat} {ret : Option FieldType} {k n pc ix : Nat} {loc : List (Nat × Value)} {rest : List Value}  {x1 : Int32} {S : St}  (C : JC E (VC G nL mc ms own) cc L ret) (hd : decode cc pc = .ok (.invokevirtual ix, 3)) (hq : Cond.methodLink own ix yX3_linesOfEach ∈ tblG) (hL : 1 + 1 ≤ L) (hW : (rest.map fun v => v.category).sum ≤ 8) (hf : k + 0 ≤ mc ∧ n + 0 ≤ ms) : Rn E (VC G nL mc ms own) k n 0 0 pc loc (.int x1 :: .ref (gA G 12) :: rest) rest S (fC_PayChoice_linesOfEach x1 S) := rn_V (ci := 3) 12 (V := VC G nL mc ms own) (As := [.int x1]) (Cq := (RX3, TX3, 5)) (cC_PayChoice_linesOfEach C.flags C.wok  x1 S) knX3_linesOfEach ⟨q_645, q_646⟩ rfl rfl C hd hq hL rfl rfl hW hf

theorem knX3_isBetter : Kn yX3_isBetter cX3_isBetter 4 (some .boolean) 2 := ⟨q_648, q_631, by decide +kernel, by decide⟩
theorem bC_PayChoice_isBetter {E : Ec} {G : Gc}    (C : JC E (VC G 4 0 0 RX3) cX3_isBetter 2 (some .boolean))    (x1 : Int32) (x2 : Int32) (S : St) : J E (VC G 4 0 0 RX3) 0 0 0 [(0, .ref (gA G 12)), (1, .int x1), (2, .int x2)] [] S (fC_PayChoice_isBetter  x1 x2 S) := by
  unfold fC_PayChoice_isBetter
  refine j_iload_n (pc := 0) 1 C dX3_isBetter_0 rfl rfl ?_
  refine j_callI0 (pc := 1) C (rC_Integer_bitCount C dX3_isBetter_1 q_641 (by omega) (Nat.le_of_ble_eq_true rfl) ⟨Nat.le_of_ble_eq_true rfl, Nat.le_of_ble_eq_true rfl⟩) ⟨Nat.le_of_ble_eq_true rfl, Nat.le_of_ble_eq_true rfl⟩ (fun r2 T1 => ?_)
  refine j_iload_n (pc := 4) 2 C dX3_isBetter_4 rfl rfl ?_
  refine j_callI0 (pc := 5) C (rC_Integer_bitCount C dX3_isBetter_5 q_641 (by omega) (Nat.le_of_ble_eq_true rfl) ⟨Nat.le_of_ble_eq_true rfl, Nat.le_of_ble_eq_true rfl⟩) ⟨Nat.le_of_ble_eq_true rfl, Nat.le_of_ble_eq_true rfl⟩ (fun r4 T3 => ?_)
  refine j_isub (pc := 8) C dX3_isBetter_8 ?_
  refine j_nxI (fun v5 => ?_)
  refine j_istore_n (pc := 9) [(3, .int v5), (0, .ref (gA G 12)), (1, .int x1), (2, .int x2)] C dX3_isBetter_9 rfl (Nat.le_of_ble_eq_true rfl) rfl ?_
  refine j_iload_n (pc := 10) 0 C dX3_isBetter_10 rfl rfl ?_
  refine j_if_gt (pc := 11) 31 C dX3_isBetter_11 (by decide) ?_ ?_
  ·
    refine j_iconst (pc := 31) 1 C dX3_isBetter_31 (by decide) ?_
    refine j_goto (pc := 32) 36 C dX3_isBetter_32 (by decide) ?_
    exact j_zretc C dX3_isBetter_36 rfl (Nat.le_of_ble_eq_true rfl) (Nat.le_of_ble_eq_true rfl) rfl
  ·
    refine j_iload_n (pc := 14) 0 C dX3_isBetter_14 rfl rfl ?_
    refine j_if_ne (pc := 15) 35 C dX3_isBetter_15 (by decide) ?_ ?_
    ·
      refine j_iconst (pc := 35) 0 C dX3_isBetter_35 (by decide) ?_
      exact j_zretc C dX3_isBetter_36 rfl (Nat.le_of_ble_eq_true rfl) (Nat.le_of_ble_eq_true rfl) rfl
    ·
      refine j_aload_n (pc := 18) 1 C dX3_isBetter_18 rfl rfl ?_
      refine j_iload_n (pc := 19) 2 C dX3_isBetter_19 rfl rfl ?_
      refine j_callI0 (pc := 20) C (rC_PayChoice_linesOfEach C dX3_isBetter_20 q_647 (by omega) (Nat.le_of_ble_eq_true rfl) ⟨Nat.le_of_ble_eq_true rfl, Nat.le_of_ble_eq_true rfl⟩) ⟨Nat.le_of_ble_eq_true rfl, Nat.le_of_ble_eq_true rfl⟩ (fun r7 T6 => ?_)
      refine j_aload_n (pc := 23) 1 C dX3_isBetter_23 rfl rfl ?_
      refine j_iload_n (pc := 24) 3 C dX3_isBetter_24 rfl rfl ?_
      refine j_callI0 (pc := 25) C (rC_PayChoice_linesOfEach C dX3_isBetter_25 q_647 (by omega) (Nat.le_of_ble_eq_true rfl) ⟨Nat.le_of_ble_eq_true rfl, Nat.le_of_ble_eq_true rfl⟩) ⟨Nat.le_of_ble_eq_true rfl, Nat.le_of_ble_eq_true rfl⟩ (fun r9 T8 => ?_)
      refine j_icmp_le (pc := 28) 35 C dX3_isBetter_28 (by decide) ?_ ?_
      ·
        refine j_iconst (pc := 35) 0 C dX3_isBetter_35 (by decide) ?_
        exact j_zretc C dX3_isBetter_36 rfl (Nat.le_of_ble_eq_true rfl) (Nat.le_of_ble_eq_true rfl) rfl
      ·
        refine j_iconst (pc := 31) 1 C dX3_isBetter_31 (by decide) ?_
        refine j_goto (pc := 32) 36 C dX3_isBetter_32 (by decide) ?_
        exact j_zretc C dX3_isBetter_36 rfl (Nat.le_of_ble_eq_true rfl) (Nat.le_of_ble_eq_true rfl) rfl
theorem cC_PayChoice_isBetter {l : Launch} {G : Gc} (hfl : l.stackTraces = false) (hW : Wok G wC 54)   (x1 : Int32) (x2 : Int32) (S : St) : Ct l yX3_isBetter (Cond.code yX3_isBetter cX3_isBetter 4 (some .boolean) :: tblG) 2 0 0 G wC 54 [.ref (gA G 12), .int x1, .int x2] S (fC_PayChoice_isBetter x1 x2 S) := ct_of (own := RX3) hfl (by decide +kernel) rfl hW (Nat.le_of_ble_eq_true rfl) (fun E hE C => by subst hE; exact bC_PayChoice_isBetter C   x1 x2 S)
theorem rC_PayChoice_isBetter {E : Ec} {G : Gc} {nL mc ms : Nat} {own : String} {cc : ByteArray} {L : Nat} {ret : Option FieldType} {k n pc ix : Nat} {loc : List (Nat × Value)} {rest : List Value}  {x1 : Int32} {x2 : Int32} {S : St}  (C : JC E (VC G nL mc ms own) cc L ret) (hd : decode cc pc = .ok (.invokevirtual ix, 3)) (hq : Cond.methodLink own ix yX3_isBetter ∈ tblG) (hL : 2 + 1 ≤ L) (hW : (rest.map fun v => v.category).sum ≤ 8) (hf : k + 0 ≤ mc ∧ n + 0 ≤ ms) : Rn E (VC G nL mc ms own) k n 0 0 pc loc (.int x2 :: .int x1 :: .ref (gA G 12) :: rest) rest S (fC_PayChoice_isBetter x1 x2 S) := rn_V (ci := 3) 12 (V := VC G nL mc ms own) (As := [.int x1, .int x2]) (Cq := (RX3, TX3, 5)) (cC_PayChoice_isBetter C.flags C.wok  x1 x2 S) knX3_isBetter ⟨q_649, q_650⟩ rfl rfl C hd hq hL rfl rfl hW hf

theorem knX3_hasMemory : Kn yX3_hasMemory cX3_hasMemory 7 (some .boolean) 2 := ⟨q_653, q_631, by decide +kernel, by decide⟩
theorem bC_PayChoice_hasMemory_8 {E : Ec} {G : Gc}    (C : JC E (VC G 7 0 0 RX3) cX3_hasMemory 3 (some .boolean))    : ∀ (n : Nat) (x1 : Int32) (x2 : Int32) (x3 : Int32) (x4 : Int32) (x5 : Int32) (S : St), J E (VC G 7 0 0 RX3) 0 0 8 [(0, .ref (gA G 12)), (1, .int x1), (2, .int x2), (3, .int x3), (4, .int x4), (5, .int x5)] [] S (fC_PayChoice_hasMemory_8  n x1 x2 x3 x4 x5 S) := by
  intro n
  induction n with
  | zero => intro x1 x2 x3 x4 x5 S; rw [fC_PayChoice_hasMemory_8]; exact j_none
  | succ n ih =>
    intro x1 x2 x3 x4 x5 S
    rw [fC_PayChoice_hasMemory_8]
    refine j_iload (pc := 8) 5 C dX3_hasMemory_8 rfl ?_
    refine j_aload_n (pc := 10) 0 C dX3_hasMemory_10 rfl rfl ?_
    refine gC_12_4 (pc := 11) C dX3_hasMemory_11 q_624 ?_
    refine j_icmp_ge (pc := 14) 87 C dX3_hasMemory_14 (by decide) ?_ ?_
    ·
      refine j_iload_n (pc := 87) 3 C dX3_hasMemory_87 rfl rfl ?_
      refine j_aload_n (pc := 88) 0 C dX3_hasMemory_88 rfl rfl ?_
      refine gC_12_1 (pc := 89) C dX3_hasMemory_89 q_622 ?_
      refine j_iload_n (pc := 92) 1 C dX3_hasMemory_92 rfl rfl ?_
      refine j_callI0 (pc := 93) C (rC_State_memoryOf_9 C dX3_hasMemory_93 q_652 (by omega) (Nat.le_of_ble_eq_true rfl) ⟨Nat.le_of_ble_eq_true rfl, Nat.le_of_ble_eq_true rfl⟩) ⟨Nat.le_of_ble_eq_true rfl, Nat.le_of_ble_eq_true rfl⟩ (fun r2 T1 => ?_)
      refine j_icmp_gt (pc := 96) 103 C dX3_hasMemory_96 (by decide) ?_ ?_
      ·
        refine j_iconst (pc := 103) 0 C dX3_hasMemory_103 (by decide) ?_
        exact j_zretc C dX3_hasMemory_104 rfl (Nat.le_of_ble_eq_true rfl) (Nat.le_of_ble_eq_true rfl) rfl
      ·
        refine j_iconst (pc := 99) 1 C dX3_hasMemory_99 (by decide) ?_
        refine j_goto (pc := 100) 104 C dX3_hasMemory_100 (by decide) ?_
        exact j_zretc C dX3_hasMemory_104 rfl (Nat.le_of_ble_eq_true rfl) (Nat.le_of_ble_eq_true rfl) rfl
    ·
      refine j_aload_n (pc := 17) 0 C dX3_hasMemory_17 rfl rfl ?_
      refine gC_12_0 (pc := 18) C dX3_hasMemory_18 q_620 ?_
      refine gC_2_9 (pc := 21) C dX3_hasMemory_21 q_643 ?_
      refine j_aload_n (pc := 24) 0 C dX3_hasMemory_24 rfl rfl ?_
      refine gC_12_2 (pc := 25) C dX3_hasMemory_25 q_629 ?_
      refine j_iload (pc := 28) 5 C dX3_hasMemory_28 rfl ?_
      refine aC_50 (pc := 30) C dX3_hasMemory_30 ?_
      refine aC_20 (pc := 31) C dX3_hasMemory_31 ?_
      refine j_nxI (fun v3 => ?_)
      refine j_istore (pc := 32) [(6, .int v3), (0, .ref (gA G 12)), (1, .int x1), (2, .int x2), (3, .int x3), (4, .int x4), (5, .int x5)] C dX3_hasMemory_32 (Nat.le_of_ble_eq_true rfl) rfl ?_
      refine j_iload_n (pc := 34) 3 C dX3_hasMemory_34 rfl rfl ?_
      refine j_aload_n (pc := 35) 1 C dX3_hasMemory_35 rfl rfl ?_
      refine gC_12_2 (pc := 36) C dX3_hasMemory_36 q_629 ?_
      refine j_iload (pc := 39) 6 C dX3_hasMemory_39 rfl ?_
      refine aC_50 (pc := 41) C dX3_hasMemory_41 ?_
      refine j_ishr (pc := 42) C dX3_hasMemory_42 ?_
      refine j_iconst (pc := 43) 1 C dX3_hasMemory_43 (by decide) ?_
      refine j_iand (pc := 44) C dX3_hasMemory_44 ?_
      refine j_iconst (pc := 45) 1 C dX3_hasMemory_45 (by decide) ?_
      refine j_icmp_ne (pc := 46) 81 C dX3_hasMemory_46 (by decide) ?_ ?_
      ·
        refine j_iinc (pc := 81) 6 (x5 + 1) [(5, .int (x5 + 1)), (6, .int v3), (0, .ref (gA G 12)), (1, .int x1), (2, .int x2), (3, .int x3), (4, .int x4)] C dX3_hasMemory_81 rfl rfl (Nat.le_of_ble_eq_true rfl) rfl ?_
        refine j_goto (pc := 84) 8 C dX3_hasMemory_84 (by decide) ?_
        refine j_sub [2, 3, 4, 5, 6, 0] rfl ?_
        exact ih x1 x2 x3 x4 (x5 + 1) S
      ·
        refine j_iload (pc := 49) 5 C dX3_hasMemory_49 rfl ?_
        refine j_iload (pc := 51) 0 C dX3_hasMemory_51 rfl ?_
        refine j_ishr (pc := 53) C dX3_hasMemory_53 ?_
        refine j_iconst (pc := 54) 1 C dX3_hasMemory_54 (by decide) ?_
        refine j_iand (pc := 55) C dX3_hasMemory_55 ?_
        refine j_if_ne (pc := 56) 81 C dX3_hasMemory_56 (by decide) ?_ ?_
        ·
          refine j_iinc (pc := 81) 6 (x5 + 1) [(5, .int (x5 + 1)), (6, .int v3), (0, .ref (gA G 12)), (1, .int x1), (2, .int x2), (3, .int x3), (4, .int x4)] C dX3_hasMemory_81 rfl rfl (Nat.le_of_ble_eq_true rfl) rfl ?_
          refine j_goto (pc := 84) 8 C dX3_hasMemory_84 (by decide) ?_
          refine j_sub [2, 3, 4, 5, 6, 0] rfl ?_
          exact ih x1 x2 x3 x4 (x5 + 1) S
        ·
          refine j_iload (pc := 59) 5 C dX3_hasMemory_59 rfl ?_
          refine j_iconst (pc := 61) 1 C dX3_hasMemory_61 (by decide) ?_
          refine j_iload (pc := 62) 0 C dX3_hasMemory_62 rfl ?_
          refine j_ishl (pc := 64) C dX3_hasMemory_64 ?_
          refine j_ior (pc := 65) C dX3_hasMemory_65 ?_
          refine j_nxI (fun v4 => ?_)
          refine j_istore (pc := 66) [(4, .int v4), (6, .int v3), (0, .ref (gA G 12)), (1, .int x1), (2, .int x2), (3, .int x3), (5, .int x5)] C dX3_hasMemory_66 (Nat.le_of_ble_eq_true rfl) rfl ?_
          refine j_iload_n (pc := 68) 5 C dX3_hasMemory_68 rfl rfl ?_
          refine j_aload_n (pc := 69) 2 C dX3_hasMemory_69 rfl rfl ?_
          refine gC_12_0 (pc := 70) C dX3_hasMemory_70 q_620 ?_
          refine gC_2_4 (pc := 73) C dX3_hasMemory_73 q_642 ?_
          refine j_iload (pc := 76) 1 C dX3_hasMemory_76 rfl ?_
          refine aC_15 (pc := 78) C dX3_hasMemory_78 ?_
          refine j_iadd (pc := 79) C dX3_hasMemory_79 ?_
          refine j_nxI (fun v5 => ?_)
          refine j_istore_n (pc := 80) [(3, .int v5), (4, .int v4), (6, .int v3), (0, .ref (gA G 12)), (1, .int x1), (2, .int x2), (5, .int x5)] C dX3_hasMemory_80 rfl (Nat.le_of_ble_eq_true rfl) rfl ?_
          refine j_iinc (pc := 81) 6 (x5 + 1) [(5, .int (x5 + 1)), (3, .int v5), (4, .int v4), (6, .int v3), (0, .ref (gA G 12)), (1, .int x1), (2, .int x2)] C dX3_hasMemory_81 rfl rfl (Nat.le_of_ble_eq_true rfl) rfl ?_
          refine j_goto (pc := 84) 8 C dX3_hasMemory_84 (by decide) ?_
          refine j_sub [4, 5, 6, 1, 2, 0] rfl ?_
          exact ih x1 x2 v5 v4 (x5 + 1) S
theorem bC_PayChoice_hasMemory {E : Ec} {G : Gc}    (C : JC E (VC G 7 0 0 RX3) cX3_hasMemory 3 (some .boolean))    (x1 : Int32) (x2 : Int32) (S : St) : J E (VC G 7 0 0 RX3) 0 0 0 [(0, .ref (gA G 12)), (1, .int x1), (2, .int x2)] [] S (fC_PayChoice_hasMemory  x1 x2 S) := by
  unfold fC_PayChoice_hasMemory
  refine j_iconst (pc := 0) 0 C dX3_hasMemory_0 (by decide) ?_
  refine j_istore_n (pc := 1) [(3, .int 0), (0, .ref (gA G 12)), (1, .int x1), (2, .int x2)] C dX3_hasMemory_1 rfl (Nat.le_of_ble_eq_true rfl) rfl ?_
  refine j_iconst (pc := 2) 0 C dX3_hasMemory_2 (by decide) ?_
  refine j_istore (pc := 3) [(4, .int 0), (3, .int 0), (0, .ref (gA G 12)), (1, .int x1), (2, .int x2)] C dX3_hasMemory_3 (Nat.le_of_ble_eq_true rfl) rfl ?_
  refine j_iconst (pc := 5) 0 C dX3_hasMemory_5 (by decide) ?_
  refine j_istore (pc := 6) [(5, .int 0), (4, .int 0), (3, .int 0), (0, .ref (gA G 12)), (1, .int x1), (2, .int x2)] C dX3_hasMemory_6 (Nat.le_of_ble_eq_true rfl) rfl ?_
  refine j_sub [3, 4, 5, 2, 1, 0] rfl ?_
  exact bC_PayChoice_hasMemory_8 C  FU x1 x2 0 0 0 S
theorem cC_PayChoice_hasMemory {l : Launch} {G : Gc} (hfl : l.stackTraces = false) (hW : Wok G wC 54)   (x1 : Int32) (x2 : Int32) (S : St) : Ct l yX3_hasMemory (Cond.code yX3_hasMemory cX3_hasMemory 7 (some .boolean) :: tblG) 3 0 0 G wC 54 [.ref (gA G 12), .int x1, .int x2] S (fC_PayChoice_hasMemory x1 x2 S) := ct_of (own := RX3) hfl (by decide +kernel) rfl hW (Nat.le_of_ble_eq_true rfl) (fun E hE C => by subst hE; exact bC_PayChoice_hasMemory C   x1 x2 S)
theorem rC_PayChoice_hasMemory {E : Ec} {G : Gc} {nL mc ms : Nat} {own : String} {cc : ByteArray} {L : Nat} {ret : Option FieldType} {k n pc ix : Nat} {loc : List (Nat × Value)} {rest : List Value}  {x1 : Int32} {x2 : Int32} {S : St}  (C : JC E (VC G nL mc ms own) cc L ret) (hd : decode cc pc = .ok (.invokevirtual ix, 3)) (hq : Cond.methodLink own ix yX3_hasMemory ∈ tblG) (hL : 3 + 1 ≤ L) (hW : (rest.map fun v => v.category).sum ≤ 8) (hf : k + 0 ≤ mc ∧ n + 0 ≤ ms) : Rn E (VC G nL mc ms own) k n 0 0 pc loc (.int x2 :: .int x1 :: .ref (gA G 12) :: rest) rest S (fC_PayChoice_hasMemory x1 x2 S) := rn_V (ci := 3) 12 (V := VC G nL mc ms own) (As := [.int x1, .int x2]) (Cq := (RX3, TX3, 5)) (cC_PayChoice_hasMemory C.flags C.wok  x1 x2 S) knX3_hasMemory ⟨q_654, q_655⟩ rfl rfl C hd hq hL rfl rfl hW hf

theorem knX3_isInTime : Kn yX3_isInTime cX3_isInTime 5 (some .boolean) 1 := ⟨q_658, q_631, by decide +kernel, by decide⟩
theorem bC_PayChoice_isInTime_4 {E : Ec} {G : Gc}    (C : JC E (VC G 5 0 0 RX3) cX3_isInTime 2 (some .boolean))    : ∀ (n : Nat) (x1 : Int32) (x2 : Int32) (x3 : Int32) (S : St), J E (VC G 5 0 0 RX3) 0 0 4 [(0, .ref (gA G 12)), (1, .int x1), (2, .int x2), (3, .int x3)] [] S (fC_PayChoice_isInTime_4  n x1 x2 x3 S) := by
  intro n
  induction n with
  | zero => intro x1 x2 x3 S; rw [fC_PayChoice_isInTime_4]; exact j_none
  | succ n ih =>
    intro x1 x2 x3 S
    rw [fC_PayChoice_isInTime_4]
    refine j_iload_n (pc := 4) 3 C dX3_isInTime_4 rfl rfl ?_
    refine j_aload_n (pc := 5) 0 C dX3_isInTime_5 rfl rfl ?_
    refine gC_12_4 (pc := 6) C dX3_isInTime_6 q_624 ?_
    refine j_icmp_ge (pc := 9) 70 C dX3_isInTime_9 (by decide) ?_ ?_
    ·
      refine j_iconst (pc := 70) 1 C dX3_isInTime_70 (by decide) ?_
      exact j_zretc C dX3_isInTime_71 rfl (Nat.le_of_ble_eq_true rfl) (Nat.le_of_ble_eq_true rfl) rfl
    ·
      refine j_aload_n (pc := 12) 0 C dX3_isInTime_12 rfl rfl ?_
      refine gC_12_2 (pc := 13) C dX3_isInTime_13 q_629 ?_
      refine j_iload_n (pc := 16) 3 C dX3_isInTime_16 rfl rfl ?_
      refine aC_50 (pc := 17) C dX3_isInTime_17 ?_
      refine j_nxI (fun v1 => ?_)
      refine j_istore (pc := 18) [(4, .int v1), (0, .ref (gA G 12)), (1, .int x1), (2, .int x2), (3, .int x3)] C dX3_isInTime_18 (Nat.le_of_ble_eq_true rfl) rfl ?_
      refine j_iload_n (pc := 20) 2 C dX3_isInTime_20 rfl rfl ?_
      refine j_iload (pc := 21) 0 C dX3_isInTime_21 rfl ?_
      refine j_ishr (pc := 23) C dX3_isInTime_23 ?_
      refine j_iconst (pc := 24) 1 C dX3_isInTime_24 (by decide) ?_
      refine j_iand (pc := 25) C dX3_isInTime_25 ?_
      refine j_iconst (pc := 26) 1 C dX3_isInTime_26 (by decide) ?_
      refine j_icmp_ne (pc := 27) 64 C dX3_isInTime_27 (by decide) ?_ ?_
      ·
        refine j_iinc (pc := 64) 4 (x3 + 1) [(3, .int (x3 + 1)), (4, .int v1), (0, .ref (gA G 12)), (1, .int x1), (2, .int x2)] C dX3_isInTime_64 rfl rfl (Nat.le_of_ble_eq_true rfl) rfl ?_
        refine j_goto (pc := 67) 4 C dX3_isInTime_67 (by decide) ?_
        refine j_sub [2, 3, 4, 0] rfl ?_
        exact ih x1 x2 (x3 + 1) S
      ·
        refine j_iload_n (pc := 30) 3 C dX3_isInTime_30 rfl rfl ?_
        refine j_aload_n (pc := 31) 1 C dX3_isInTime_31 rfl rfl ?_
        refine gC_12_3 (pc := 32) C dX3_isInTime_32 q_626 ?_
        refine j_iload (pc := 35) 0 C dX3_isInTime_35 rfl ?_
        refine aC_51 (pc := 37) C dX3_isInTime_37 ?_
        refine j_iadd (pc := 38) C dX3_isInTime_38 ?_
        refine j_nxI (fun v2 => ?_)
        refine j_istore_n (pc := 39) [(2, .int v2), (4, .int v1), (0, .ref (gA G 12)), (1, .int x1), (3, .int x3)] C dX3_isInTime_39 rfl (Nat.le_of_ble_eq_true rfl) rfl ?_
        refine j_iload_n (pc := 40) 0 C dX3_isInTime_40 rfl rfl ?_
        refine j_aload_n (pc := 41) 2 C dX3_isInTime_41 rfl rfl ?_
        refine gC_12_0 (pc := 42) C dX3_isInTime_42 q_620 ?_
        refine gC_2_11 (pc := 45) C dX3_isInTime_45 q_628 ?_
        refine j_iload (pc := 48) 1 C dX3_isInTime_48 rfl ?_
        refine aC_22 (pc := 50) C dX3_isInTime_50 ?_
        refine j_aload_n (pc := 51) 2 C dX3_isInTime_51 rfl rfl ?_
        refine gC_12_1 (pc := 52) C dX3_isInTime_52 q_622 ?_
        refine j_callI0 (pc := 55) C (rC_State_week_9 C dX3_isInTime_55 q_657 (by omega) (Nat.le_of_ble_eq_true rfl) ⟨Nat.le_of_ble_eq_true rfl, Nat.le_of_ble_eq_true rfl⟩) ⟨Nat.le_of_ble_eq_true rfl, Nat.le_of_ble_eq_true rfl⟩ (fun r4 T3 => ?_)
        refine j_isub (pc := 58) C dX3_isInTime_58 ?_
        refine j_icmp_le (pc := 59) 64 C dX3_isInTime_59 (by decide) ?_ ?_
        ·
          refine j_iinc (pc := 64) 4 (x3 + 1) [(3, .int (x3 + 1)), (2, .int v2), (4, .int v1), (0, .ref (gA G 12)), (1, .int x1)] C dX3_isInTime_64 rfl rfl (Nat.le_of_ble_eq_true rfl) rfl ?_
          refine j_goto (pc := 67) 4 C dX3_isInTime_67 (by decide) ?_
          refine j_sub [3, 4, 1, 0] rfl ?_
          exact ih x1 v2 (x3 + 1) T3
        ·
          refine j_iconst (pc := 62) 0 C dX3_isInTime_62 (by decide) ?_
          exact j_zretc C dX3_isInTime_63 rfl (Nat.le_of_ble_eq_true rfl) (Nat.le_of_ble_eq_true rfl) rfl
theorem bC_PayChoice_isInTime {E : Ec} {G : Gc}    (C : JC E (VC G 5 0 0 RX3) cX3_isInTime 2 (some .boolean))    (x1 : Int32) (S : St) : J E (VC G 5 0 0 RX3) 0 0 0 [(0, .ref (gA G 12)), (1, .int x1)] [] S (fC_PayChoice_isInTime  x1 S) := by
  unfold fC_PayChoice_isInTime
  refine j_iconst (pc := 0) 0 C dX3_isInTime_0 (by decide) ?_
  refine j_istore_n (pc := 1) [(2, .int 0), (0, .ref (gA G 12)), (1, .int x1)] C dX3_isInTime_1 rfl (Nat.le_of_ble_eq_true rfl) rfl ?_
  refine j_iconst (pc := 2) 0 C dX3_isInTime_2 (by decide) ?_
  refine j_istore_n (pc := 3) [(3, .int 0), (2, .int 0), (0, .ref (gA G 12)), (1, .int x1)] C dX3_isInTime_3 rfl (Nat.le_of_ble_eq_true rfl) rfl ?_
  refine j_sub [2, 3, 1, 0] rfl ?_
  exact bC_PayChoice_isInTime_4 C  FU x1 0 0 S
theorem cC_PayChoice_isInTime {l : Launch} {G : Gc} (hfl : l.stackTraces = false) (hW : Wok G wC 54)   (x1 : Int32) (S : St) : Ct l yX3_isInTime (Cond.code yX3_isInTime cX3_isInTime 5 (some .boolean) :: tblG) 2 0 0 G wC 54 [.ref (gA G 12), .int x1] S (fC_PayChoice_isInTime x1 S) := ct_of (own := RX3) hfl (by decide +kernel) rfl hW (Nat.le_of_ble_eq_true rfl) (fun E hE C => by subst hE; exact bC_PayChoice_isInTime C   x1 S)
theorem rC_PayChoice_isInTime {E : Ec} {G : Gc} {nL mc ms : Nat} {own : String} {cc : ByteArray} {L : Nat} {ret : Option FieldType} {k n pc ix : Nat} {loc : List (Nat × Value)} {rest : List Value}  {x1 : Int32} {S : St}  (C : JC E (VC G nL mc ms own) cc L ret) (hd : decode cc pc = .ok (.invokevirtual ix, 3)) (hq : Cond.methodLink own ix yX3_isInTime ∈ tblG) (hL : 2 + 1 ≤ L) (hW : (rest.map fun v => v.category).sum ≤ 8) (hf : k + 0 ≤ mc ∧ n + 0 ≤ ms) : Rn E (VC G nL mc ms own) k n 0 0 pc loc (.int x1 :: .ref (gA G 12) :: rest) rest S (fC_PayChoice_isInTime x1 S) := rn_V (ci := 3) 12 (V := VC G nL mc ms own) (As := [.int x1]) (Cq := (RX3, TX3, 5)) (cC_PayChoice_isInTime C.flags C.wok  x1 S) knX3_isInTime ⟨q_659, q_660⟩ rfl rfl C hd hq hL rfl rfl hW hf

theorem knX3_chosenFor : Kn yX3_chosenFor cX3_chosenFor 5 (some .int) 1 := ⟨q_662, q_631, by decide +kernel, by decide⟩
theorem bC_PayChoice_chosenFor_29 {E : Ec} {G : Gc}    (C : JC E (VC G 5 0 0 RX3) cX3_chosenFor 6 (some .int))    : ∀ (n : Nat) (x1 : Int32) (x2 : Int32) (x3 : Int32) (x4 : Int32) (S : St), J E (VC G 5 0 0 RX3) 0 0 29 [(0, .ref (gA G 12)), (1, .int x1), (2, .int x2), (3, .int x3), (4, .int x4)] [] S (fC_PayChoice_chosenFor_29  n x1 x2 x3 x4 S) := by
  intro n
  induction n with
  | zero => intro x1 x2 x3 x4 S; rw [fC_PayChoice_chosenFor_29]; exact j_none
  | succ n ih =>
    intro x1 x2 x3 x4 S
    rw [fC_PayChoice_chosenFor_29]
    refine j_iload (pc := 29) 4 C dX3_chosenFor_29 rfl ?_
    refine j_iload_n (pc := 31) 2 C dX3_chosenFor_31 rfl rfl ?_
    refine j_icmp_gt (pc := 32) 82 C dX3_chosenFor_32 (by decide) ?_ ?_
    ·
      refine j_iload_n (pc := 82) 3 C dX3_chosenFor_82 rfl rfl ?_
      exact j_iret C dX3_chosenFor_83 rfl (Nat.le_of_ble_eq_true rfl) (Nat.le_of_ble_eq_true rfl)
    ·
      refine j_iload (pc := 35) 4 C dX3_chosenFor_35 rfl ?_
      refine j_iload_n (pc := 37) 2 C dX3_chosenFor_37 rfl rfl ?_
      refine j_iconst (pc := 38) (-1) C dX3_chosenFor_38 (by decide) ?_
      refine j_ixor (pc := 39) C dX3_chosenFor_39 ?_
      refine j_iand (pc := 40) C dX3_chosenFor_40 ?_
      refine j_if_ne (pc := 41) 76 C dX3_chosenFor_41 (by decide) ?_ ?_
      ·
        refine j_iinc (pc := 76) 4 (x4 + 1) [(4, .int (x4 + 1)), (0, .ref (gA G 12)), (1, .int x1), (2, .int x2), (3, .int x3)] C dX3_chosenFor_76 rfl rfl (Nat.le_of_ble_eq_true rfl) rfl ?_
        refine j_goto (pc := 79) 29 C dX3_chosenFor_79 (by decide) ?_
        refine j_sub [1, 2, 3, 4, 0] rfl ?_
        exact ih x1 x2 x3 (x4 + 1) S
      ·
        refine j_aload_n (pc := 44) 0 C dX3_chosenFor_44 rfl rfl ?_
        refine j_iload (pc := 45) 4 C dX3_chosenFor_45 rfl ?_
        refine j_iload_n (pc := 47) 3 C dX3_chosenFor_47 rfl rfl ?_
        refine j_callI0 (pc := 48) C (rC_PayChoice_isBetter C dX3_chosenFor_48 q_651 (by omega) (Nat.le_of_ble_eq_true rfl) ⟨Nat.le_of_ble_eq_true rfl, Nat.le_of_ble_eq_true rfl⟩) ⟨Nat.le_of_ble_eq_true rfl, Nat.le_of_ble_eq_true rfl⟩ (fun r2 T1 => ?_)
        refine j_if_eq (pc := 51) 76 C dX3_chosenFor_51 (by decide) ?_ ?_
        ·
          refine j_iinc (pc := 76) 4 (x4 + 1) [(4, .int (x4 + 1)), (0, .ref (gA G 12)), (1, .int x1), (2, .int x2), (3, .int x3)] C dX3_chosenFor_76 rfl rfl (Nat.le_of_ble_eq_true rfl) rfl ?_
          refine j_goto (pc := 79) 29 C dX3_chosenFor_79 (by decide) ?_
          refine j_sub [1, 2, 3, 4, 0] rfl ?_
          exact ih x1 x2 x3 (x4 + 1) T1
        ·
          refine j_aload_n (pc := 54) 0 C dX3_chosenFor_54 rfl rfl ?_
          refine j_iload_n (pc := 55) 1 C dX3_chosenFor_55 rfl rfl ?_
          refine j_iload (pc := 56) 4 C dX3_chosenFor_56 rfl ?_
          refine j_callI0 (pc := 58) C (rC_PayChoice_hasMemory C dX3_chosenFor_58 q_656 (by omega) (Nat.le_of_ble_eq_true rfl) ⟨Nat.le_of_ble_eq_true rfl, Nat.le_of_ble_eq_true rfl⟩) ⟨Nat.le_of_ble_eq_true rfl, Nat.le_of_ble_eq_true rfl⟩ (fun r4 T3 => ?_)
          refine j_if_eq (pc := 61) 76 C dX3_chosenFor_61 (by decide) ?_ ?_
          ·
            refine j_iinc (pc := 76) 4 (x4 + 1) [(4, .int (x4 + 1)), (0, .ref (gA G 12)), (1, .int x1), (2, .int x2), (3, .int x3)] C dX3_chosenFor_76 rfl rfl (Nat.le_of_ble_eq_true rfl) rfl ?_
            refine j_goto (pc := 79) 29 C dX3_chosenFor_79 (by decide) ?_
            refine j_sub [1, 2, 3, 4, 0] rfl ?_
            exact ih x1 x2 x3 (x4 + 1) T3
          ·
            refine j_aload_n (pc := 64) 0 C dX3_chosenFor_64 rfl rfl ?_
            refine j_iload (pc := 65) 4 C dX3_chosenFor_65 rfl ?_
            refine j_callI0 (pc := 67) C (rC_PayChoice_isInTime C dX3_chosenFor_67 q_661 (by omega) (Nat.le_of_ble_eq_true rfl) ⟨Nat.le_of_ble_eq_true rfl, Nat.le_of_ble_eq_true rfl⟩) ⟨Nat.le_of_ble_eq_true rfl, Nat.le_of_ble_eq_true rfl⟩ (fun r6 T5 => ?_)
            refine j_if_eq (pc := 70) 76 C dX3_chosenFor_70 (by decide) ?_ ?_
            ·
              refine j_iinc (pc := 76) 4 (x4 + 1) [(4, .int (x4 + 1)), (0, .ref (gA G 12)), (1, .int x1), (2, .int x2), (3, .int x3)] C dX3_chosenFor_76 rfl rfl (Nat.le_of_ble_eq_true rfl) rfl ?_
              refine j_goto (pc := 79) 29 C dX3_chosenFor_79 (by decide) ?_
              refine j_sub [1, 2, 3, 4, 0] rfl ?_
              exact ih x1 x2 x3 (x4 + 1) T5
            ·
              refine j_iload (pc := 73) 4 C dX3_chosenFor_73 rfl ?_
              refine j_istore_n (pc := 75) [(3, .int x4), (0, .ref (gA G 12)), (1, .int x1), (2, .int x2), (4, .int x4)] C dX3_chosenFor_75 rfl (Nat.le_of_ble_eq_true rfl) rfl ?_
              refine j_iinc (pc := 76) 4 (x4 + 1) [(4, .int (x4 + 1)), (3, .int x4), (0, .ref (gA G 12)), (1, .int x1), (2, .int x2)] C dX3_chosenFor_76 rfl rfl (Nat.le_of_ble_eq_true rfl) rfl ?_
              refine j_goto (pc := 79) 29 C dX3_chosenFor_79 (by decide) ?_
              refine j_sub [2, 3, 4, 1, 0] rfl ?_
              exact ih x1 x2 x4 (x4 + 1) T5
theorem bC_PayChoice_chosenFor {E : Ec} {G : Gc}    (C : JC E (VC G 5 0 0 RX3) cX3_chosenFor 6 (some .int))    (x1 : Int32) (S : St) : J E (VC G 5 0 0 RX3) 0 0 0 [(0, .ref (gA G 12)), (1, .int x1)] [] S (fC_PayChoice_chosenFor  x1 S) := by
  unfold fC_PayChoice_chosenFor
  refine j_aload_n (pc := 0) 0 C dX3_chosenFor_0 rfl rfl ?_
  refine gC_12_0 (pc := 1) C dX3_chosenFor_1 q_620 ?_
  refine j_iload_n (pc := 4) 1 C dX3_chosenFor_4 rfl rfl ?_
  refine j_callI0 (pc := 5) C (rC_Valley_debtsOfMan_2 C dX3_chosenFor_5 q_621 (by omega) (Nat.le_of_ble_eq_true rfl) ⟨Nat.le_of_ble_eq_true rfl, Nat.le_of_ble_eq_true rfl⟩) ⟨Nat.le_of_ble_eq_true rfl, Nat.le_of_ble_eq_true rfl⟩ (fun r2 T1 => ?_)
  refine j_aload_n (pc := 8) 0 C dX3_chosenFor_8 rfl rfl ?_
  refine gC_12_1 (pc := 9) C dX3_chosenFor_9 q_622 ?_
  refine j_callI0 (pc := 12) C (rC_State_paidBits_9 C dX3_chosenFor_12 q_623 (by omega) (Nat.le_of_ble_eq_true rfl) ⟨Nat.le_of_ble_eq_true rfl, Nat.le_of_ble_eq_true rfl⟩) ⟨Nat.le_of_ble_eq_true rfl, Nat.le_of_ble_eq_true rfl⟩ (fun r4 T3 => ?_)
  refine j_iconst (pc := 15) (-1) C dX3_chosenFor_15 (by decide) ?_
  refine j_ixor (pc := 16) C dX3_chosenFor_16 ?_
  refine j_iand (pc := 17) C dX3_chosenFor_17 ?_
  refine j_nxI (fun v5 => ?_)
  refine j_istore_n (pc := 18) [(2, .int v5), (0, .ref (gA G 12)), (1, .int x1)] C dX3_chosenFor_18 rfl (Nat.le_of_ble_eq_true rfl) rfl ?_
  refine j_aload_n (pc := 19) 1 C dX3_chosenFor_19 rfl rfl ?_
  refine j_iload_n (pc := 20) 0 C dX3_chosenFor_20 rfl rfl ?_
  refine j_callv0 (pc := 21) C (rC_PayChoice_sortByDue C dX3_chosenFor_21 q_634 (by omega) (Nat.le_of_ble_eq_true rfl) ⟨Nat.le_of_ble_eq_true rfl, Nat.le_of_ble_eq_true rfl⟩) ⟨Nat.le_of_ble_eq_true rfl, Nat.le_of_ble_eq_true rfl⟩ (fun T6 => ?_)
  refine j_iconst (pc := 24) 0 C dX3_chosenFor_24 (by decide) ?_
  refine j_istore_n (pc := 25) [(3, .int 0), (2, .int v5), (0, .ref (gA G 12)), (1, .int x1)] C dX3_chosenFor_25 rfl (Nat.le_of_ble_eq_true rfl) rfl ?_
  refine j_iconst (pc := 26) 1 C dX3_chosenFor_26 (by decide) ?_
  refine j_istore (pc := 27) [(4, .int 1), (3, .int 0), (2, .int v5), (0, .ref (gA G 12)), (1, .int x1)] C dX3_chosenFor_27 (Nat.le_of_ble_eq_true rfl) rfl ?_
  refine j_sub [3, 4, 2, 1, 0] rfl ?_
  exact bC_PayChoice_chosenFor_29 C  FU x1 v5 0 1 T6
theorem cC_PayChoice_chosenFor {l : Launch} {G : Gc} (hfl : l.stackTraces = false) (hW : Wok G wC 54)   (x1 : Int32) (S : St) : Ct l yX3_chosenFor (Cond.code yX3_chosenFor cX3_chosenFor 5 (some .int) :: tblG) 6 0 0 G wC 54 [.ref (gA G 12), .int x1] S (fC_PayChoice_chosenFor x1 S) := ct_of (own := RX3) hfl (by decide +kernel) rfl hW (Nat.le_of_ble_eq_true rfl) (fun E hE C => by subst hE; exact bC_PayChoice_chosenFor C   x1 S)
theorem rC_PayChoice_chosenFor {E : Ec} {G : Gc} {nL mc ms : Nat} {own : String} {cc : ByteArray} {L : Nat} {ret : Option FieldType} {k n pc ix : Nat} {loc : List (Nat × Value)} {rest : List Value}  {x1 : Int32} {S : St}  (C : JC E (VC G nL mc ms own) cc L ret) (hd : decode cc pc = .ok (.invokevirtual ix, 3)) (hq : Cond.methodLink own ix yX3_chosenFor ∈ tblG) (hL : 6 + 1 ≤ L) (hW : (rest.map fun v => v.category).sum ≤ 8) (hf : k + 0 ≤ mc ∧ n + 0 ≤ ms) : Rn E (VC G nL mc ms own) k n 0 0 pc loc (.int x1 :: .ref (gA G 12) :: rest) rest S (fC_PayChoice_chosenFor x1 S) := rn_V (ci := 3) 12 (V := VC G nL mc ms own) (As := [.int x1]) (Cq := (RX3, TX3, 5)) (cC_PayChoice_chosenFor C.flags C.wok  x1 S) knX3_chosenFor ⟨q_663, q_664⟩ rfl rfl C hd hq hL rfl rfl hW hf

theorem knX9_pays : Kn yX9_pays cX9_pays 2 (some .int) 1 := ⟨q_666, q_40, by decide +kernel, by decide⟩
theorem bC_Main_pays {E : Ec} {G : Gc}    (C : JC E (VC G 2 1 6 RX9) cX9_pays 8 (some .int))    (x1 : Int32) (S : St) : J E (VC G 2 1 6 RX9) 0 0 0 [(0, .ref (gA G 0)), (1, .int x1)] [] S (fC_Main_pays  x1 S) := by
  unfold fC_Main_pays
  refine j_aload_n (pc := 0) 0 C dX9_pays_0 rfl rfl ?_
  refine j_iload_n (pc := 1) 1 C dX9_pays_1 rfl rfl ?_
  refine j_callv (pc := 2) C (rC_Main_needMan C dX9_pays_2 q_529 (by omega) (Nat.le_of_ble_eq_true rfl) ⟨Nat.le_of_ble_eq_true rfl, Nat.le_of_ble_eq_true rfl⟩) ⟨Nat.le_of_ble_eq_true rfl, Nat.le_of_ble_eq_true rfl⟩ (fun T1 => ?_)
  refine j_aload_n (pc := 5) 0 C dX9_pays_5 rfl rfl ?_
  refine gC_0_11 (pc := 6) C dX9_pays_6 q_619 ?_
  refine j_iload_n (pc := 9) 1 C dX9_pays_9 rfl rfl ?_
  refine j_callI0 (pc := 10) C (rC_PayChoice_chosenFor C dX9_pays_10 q_665 (by omega) (Nat.le_of_ble_eq_true rfl) ⟨Nat.le_of_ble_eq_true rfl, Nat.le_of_ble_eq_true rfl⟩) ⟨Nat.le_of_ble_eq_true rfl, Nat.le_of_ble_eq_true rfl⟩ (fun r4 T3 => ?_)
  exact j_iret C dX9_pays_13 rfl (Nat.le_of_ble_eq_true rfl) (Nat.le_of_ble_eq_true rfl)
theorem cC_Main_pays {l : Launch} {G : Gc} (hfl : l.stackTraces = false) (hW : Wok G wC 54)   (x1 : Int32) (S : St) : Ct l yX9_pays (Cond.code yX9_pays cX9_pays 2 (some .int) :: tblG) 8 1 6 G wC 54 [.ref (gA G 0), .int x1] S (fC_Main_pays x1 S) := ct_of (own := RX9) hfl (by decide +kernel) rfl hW (Nat.le_of_ble_eq_true rfl) (fun E hE C => by subst hE; exact bC_Main_pays C   x1 S)
theorem rC_Main_pays {E : Ec} {G : Gc} {nL mc ms : Nat} {own : String} {cc : ByteArray} {L : Nat} {ret : Option FieldType} {k n pc ix : Nat} {loc : List (Nat × Value)} {rest : List Value}  {x1 : Int32} {S : St}  (C : JC E (VC G nL mc ms own) cc L ret) (hd : decode cc pc = .ok (.invokevirtual ix, 3)) (hq : Cond.methodLink own ix yX9_pays ∈ tblG) (hL : 8 + 1 ≤ L) (hW : (rest.map fun v => v.category).sum ≤ 8) (hf : k + 1 ≤ mc ∧ n + 6 ≤ ms) : Rn E (VC G nL mc ms own) k n 1 6 pc loc (.int x1 :: .ref (gA G 0) :: rest) rest S (fC_Main_pays x1 S) := rn_V (ci := 9) 0 (V := VC G nL mc ms own) (As := [.int x1]) (Cq := (RX9, TX9, 15)) (cC_Main_pays C.flags C.wok  x1 S) knX9_pays ⟨q_667, q_668⟩ rfl rfl C hd hq hL rfl rfl hW hf

theorem knX2_hardestFor : Kn yX2_hardestFor cX2_hardestFor 6 (some .int) 1 := ⟨q_671, q_603, by decide +kernel, by decide⟩
theorem bC_Outlook_hardestFor_7 {E : Ec} {G : Gc}    (C : JC E (VC G 6 0 0 RX2) cX2_hardestFor 7 (some .int))    : ∀ (n : Nat) (x1 : Int32) (x2 : Int32) (x3 : Int32) (x4 : Int32) (S : St), J E (VC G 6 0 0 RX2) 0 0 7 [(0, .ref (gA G 11)), (1, .int x1), (2, .int x2), (3, .int x3), (4, .int x4)] [] S (fC_Outlook_hardestFor_7  n x1 x2 x3 x4 S) := by
  intro n
  induction n with
  | zero => intro x1 x2 x3 x4 S; rw [fC_Outlook_hardestFor_7]; exact j_none
  | succ n ih =>
    intro x1 x2 x3 x4 S
    rw [fC_Outlook_hardestFor_7]
    refine j_iload (pc := 7) 4 C dX2_hardestFor_7 rfl ?_
    refine j_aload_n (pc := 9) 0 C dX2_hardestFor_9 rfl rfl ?_
    refine gC_11_0 (pc := 10) C dX2_hardestFor_10 q_599 ?_
    refine gC_2_0 (pc := 13) C dX2_hardestFor_13 q_669 ?_
    refine j_icmp_ge (pc := 16) 46 C dX2_hardestFor_16 (by decide) ?_ ?_
    ·
      refine j_iload_n (pc := 46) 2 C dX2_hardestFor_46 rfl rfl ?_
      exact j_iret C dX2_hardestFor_47 rfl (Nat.le_of_ble_eq_true rfl) (Nat.le_of_ble_eq_true rfl)
    ·
      refine j_aload_n (pc := 19) 0 C dX2_hardestFor_19 rfl rfl ?_
      refine j_iload_n (pc := 20) 1 C dX2_hardestFor_20 rfl rfl ?_
      refine j_iload (pc := 21) 4 C dX2_hardestFor_21 rfl ?_
      refine j_callI0 (pc := 23) C (rC_Outlook_lessonsFor C dX2_hardestFor_23 q_670 (by omega) (Nat.le_of_ble_eq_true rfl) ⟨Nat.le_of_ble_eq_true rfl, Nat.le_of_ble_eq_true rfl⟩) ⟨Nat.le_of_ble_eq_true rfl, Nat.le_of_ble_eq_true rfl⟩ (fun r2 T1 => ?_)
      refine j_istore (pc := 26) [(5, .int r2), (0, .ref (gA G 11)), (1, .int x1), (2, .int x2), (3, .int x3), (4, .int x4)] C dX2_hardestFor_26 (Nat.le_of_ble_eq_true rfl) rfl ?_
      refine j_iload (pc := 28) 0 C dX2_hardestFor_28 rfl ?_
      refine j_iload_n (pc := 30) 4 C dX2_hardestFor_30 rfl rfl ?_
      refine j_icmp_le (pc := 31) 40 C dX2_hardestFor_31 (by decide) ?_ ?_
      ·
        refine j_iinc (pc := 40) 5 (x4 + 1) [(4, .int (x4 + 1)), (5, .int r2), (0, .ref (gA G 11)), (1, .int x1), (2, .int x2), (3, .int x3)] C dX2_hardestFor_40 rfl rfl (Nat.le_of_ble_eq_true rfl) rfl ?_
        refine j_goto (pc := 43) 7 C dX2_hardestFor_43 (by decide) ?_
        refine j_sub [2, 3, 4, 5, 0] rfl ?_
        exact ih x1 x2 x3 (x4 + 1) T1
      ·
        refine j_iload (pc := 34) 5 C dX2_hardestFor_34 rfl ?_
        refine j_istore_n (pc := 36) [(2, .int x4), (5, .int r2), (0, .ref (gA G 11)), (1, .int x1), (3, .int x3), (4, .int x4)] C dX2_hardestFor_36 rfl (Nat.le_of_ble_eq_true rfl) rfl ?_
        refine j_iload (pc := 37) 1 C dX2_hardestFor_37 rfl ?_
        refine j_istore_n (pc := 39) [(3, .int r2), (2, .int x4), (5, .int r2), (0, .ref (gA G 11)), (1, .int x1), (4, .int x4)] C dX2_hardestFor_39 rfl (Nat.le_of_ble_eq_true rfl) rfl ?_
        refine j_iinc (pc := 40) 5 (x4 + 1) [(4, .int (x4 + 1)), (3, .int r2), (2, .int x4), (5, .int r2), (0, .ref (gA G 11)), (1, .int x1)] C dX2_hardestFor_40 rfl rfl (Nat.le_of_ble_eq_true rfl) rfl ?_
        refine j_goto (pc := 43) 7 C dX2_hardestFor_43 (by decide) ?_
        refine j_sub [4, 5, 2, 1, 0] rfl ?_
        exact ih x1 x4 r2 (x4 + 1) T1
theorem bC_Outlook_hardestFor {E : Ec} {G : Gc}    (C : JC E (VC G 6 0 0 RX2) cX2_hardestFor 7 (some .int))    (x1 : Int32) (S : St) : J E (VC G 6 0 0 RX2) 0 0 0 [(0, .ref (gA G 11)), (1, .int x1)] [] S (fC_Outlook_hardestFor  x1 S) := by
  unfold fC_Outlook_hardestFor
  refine j_iconst (pc := 0) (-1) C dX2_hardestFor_0 (by decide) ?_
  refine j_istore_n (pc := 1) [(2, .int (-1)), (0, .ref (gA G 11)), (1, .int x1)] C dX2_hardestFor_1 rfl (Nat.le_of_ble_eq_true rfl) rfl ?_
  refine j_iconst (pc := 2) (-1) C dX2_hardestFor_2 (by decide) ?_
  refine j_istore_n (pc := 3) [(3, .int (-1)), (2, .int (-1)), (0, .ref (gA G 11)), (1, .int x1)] C dX2_hardestFor_3 rfl (Nat.le_of_ble_eq_true rfl) rfl ?_
  refine j_iconst (pc := 4) 0 C dX2_hardestFor_4 (by decide) ?_
  refine j_istore (pc := 5) [(4, .int 0), (3, .int (-1)), (2, .int (-1)), (0, .ref (gA G 11)), (1, .int x1)] C dX2_hardestFor_5 (Nat.le_of_ble_eq_true rfl) rfl ?_
  refine j_sub [3, 4, 2, 1, 0] rfl ?_
  exact bC_Outlook_hardestFor_7 C  FU x1 (-1) (-1) 0 S
theorem cC_Outlook_hardestFor {l : Launch} {G : Gc} (hfl : l.stackTraces = false) (hW : Wok G wC 54)   (x1 : Int32) (S : St) : Ct l yX2_hardestFor (Cond.code yX2_hardestFor cX2_hardestFor 6 (some .int) :: tblG) 7 0 0 G wC 54 [.ref (gA G 11), .int x1] S (fC_Outlook_hardestFor x1 S) := ct_of (own := RX2) hfl (by decide +kernel) rfl hW (Nat.le_of_ble_eq_true rfl) (fun E hE C => by subst hE; exact bC_Outlook_hardestFor C   x1 S)
theorem rC_Outlook_hardestFor {E : Ec} {G : Gc} {nL mc ms : Nat} {own : String} {cc : ByteArray} {L : Nat} {ret : Option FieldType} {k n pc ix : Nat} {loc : List (Nat × Value)} {rest : List Value}  {x1 : Int32} {S : St}  (C : JC E (VC G nL mc ms own) cc L ret) (hd : decode cc pc = .ok (.invokevirtual ix, 3)) (hq : Cond.methodLink own ix yX2_hardestFor ∈ tblG) (hL : 7 + 1 ≤ L) (hW : (rest.map fun v => v.category).sum ≤ 8) (hf : k + 0 ≤ mc ∧ n + 0 ≤ ms) : Rn E (VC G nL mc ms own) k n 0 0 pc loc (.int x1 :: .ref (gA G 11) :: rest) rest S (fC_Outlook_hardestFor x1 S) := rn_V (ci := 2) 11 (V := VC G nL mc ms own) (As := [.int x1]) (Cq := (RX2, TX2, 4)) (cC_Outlook_hardestFor C.flags C.wok  x1 S) knX2_hardestFor ⟨q_672, q_673⟩ rfl rfl C hd hq hL rfl rfl hW hf

theorem knX9_hardest : Kn yX9_hardest cX9_hardest 2 (some .int) 1 := ⟨q_675, q_40, by decide +kernel, by decide⟩
theorem bC_Main_hardest {E : Ec} {G : Gc}    (C : JC E (VC G 2 1 6 RX9) cX9_hardest 8 (some .int))    (x1 : Int32) (S : St) : J E (VC G 2 1 6 RX9) 0 0 0 [(0, .ref (gA G 0)), (1, .int x1)] [] S (fC_Main_hardest  x1 S) := by
  unfold fC_Main_hardest
  refine j_aload_n (pc := 0) 0 C dX9_hardest_0 rfl rfl ?_
  refine j_iload_n (pc := 1) 1 C dX9_hardest_1 rfl rfl ?_
  refine j_callv (pc := 2) C (rC_Main_needMan C dX9_hardest_2 q_529 (by omega) (Nat.le_of_ble_eq_true rfl) ⟨Nat.le_of_ble_eq_true rfl, Nat.le_of_ble_eq_true rfl⟩) ⟨Nat.le_of_ble_eq_true rfl, Nat.le_of_ble_eq_true rfl⟩ (fun T1 => ?_)
  refine j_aload_n (pc := 5) 0 C dX9_hardest_5 rfl rfl ?_
  refine gC_0_10 (pc := 6) C dX9_hardest_6 q_591 ?_
  refine j_iload_n (pc := 9) 1 C dX9_hardest_9 rfl rfl ?_
  refine j_callI0 (pc := 10) C (rC_Outlook_hardestFor C dX9_hardest_10 q_674 (by omega) (Nat.le_of_ble_eq_true rfl) ⟨Nat.le_of_ble_eq_true rfl, Nat.le_of_ble_eq_true rfl⟩) ⟨Nat.le_of_ble_eq_true rfl, Nat.le_of_ble_eq_true rfl⟩ (fun r4 T3 => ?_)
  exact j_iret C dX9_hardest_13 rfl (Nat.le_of_ble_eq_true rfl) (Nat.le_of_ble_eq_true rfl)
theorem cC_Main_hardest {l : Launch} {G : Gc} (hfl : l.stackTraces = false) (hW : Wok G wC 54)   (x1 : Int32) (S : St) : Ct l yX9_hardest (Cond.code yX9_hardest cX9_hardest 2 (some .int) :: tblG) 8 1 6 G wC 54 [.ref (gA G 0), .int x1] S (fC_Main_hardest x1 S) := ct_of (own := RX9) hfl (by decide +kernel) rfl hW (Nat.le_of_ble_eq_true rfl) (fun E hE C => by subst hE; exact bC_Main_hardest C   x1 S)
theorem rC_Main_hardest {E : Ec} {G : Gc} {nL mc ms : Nat} {own : String} {cc : ByteArray} {L : Nat} {ret : Option FieldType} {k n pc ix : Nat} {loc : List (Nat × Value)} {rest : List Value}  {x1 : Int32} {S : St}  (C : JC E (VC G nL mc ms own) cc L ret) (hd : decode cc pc = .ok (.invokevirtual ix, 3)) (hq : Cond.methodLink own ix yX9_hardest ∈ tblG) (hL : 8 + 1 ≤ L) (hW : (rest.map fun v => v.category).sum ≤ 8) (hf : k + 1 ≤ mc ∧ n + 6 ≤ ms) : Rn E (VC G nL mc ms own) k n 1 6 pc loc (.int x1 :: .ref (gA G 0) :: rest) rest S (fC_Main_hardest x1 S) := rn_V (ci := 9) 0 (V := VC G nL mc ms own) (As := [.int x1]) (Cq := (RX9, TX9, 15)) (cC_Main_hardest C.flags C.wok  x1 S) knX9_hardest ⟨q_676, q_677⟩ rfl rfl C hd hq hL rfl rfl hW hf

theorem knX0_agrees : Kn yX0_agrees cX0_agrees 6 (some .boolean) 3 := ⟨q_680, q_438, by decide +kernel, by decide⟩
theorem bC_Book_agrees_6_65 {E : Ec} {G : Gc}   {K3 : Int32 → Int32 → Int32 → St → Oz} (C : JC E (VC G 6 0 0 RX0) cX0_agrees 5 (some .boolean))   (hK3 : ∀ (x2 : Int32) (x3 : Int32) (x4 : Int32) (S : St), J E (VC G 6 0 0 RX0) 0 0 3 [(0, .ref (gA G 6)), (1, .ref (gA G 9)), (2, .int x2), (3, .int x3), (4, .int x4)] [] S (K3 x2 x3 x4 S)) (x2 : Int32) (x3 : Int32) (x4 : Int32) (x5 : Int32) (S : St) : J E (VC G 6 0 0 RX0) 0 0 65 [(0, .ref (gA G 6)), (1, .ref (gA G 9)), (2, .int x2), (3, .int x3), (4, .int x4), (5, .int x5)] [] S (fC_Book_agrees_6_65 K3 x2 x3 x4 x5 S) := by
  unfold fC_Book_agrees_6_65
  refine j_iload (pc := 65) 5 C dX0_agrees_65 rfl ?_
  refine j_aload_n (pc := 67) 0 C dX0_agrees_67 rfl rfl ?_
  refine gC_6_3 (pc := 68) C dX0_agrees_68 q_435 ?_
  refine j_iload (pc := 71) 4 C dX0_agrees_71 rfl ?_
  refine aC_39 (pc := 73) C dX0_agrees_73 ?_
  refine j_icmp_eq (pc := 74) 79 C dX0_agrees_74 (by decide) ?_ ?_
  ·
    refine j_iinc (pc := 79) 4 (x4 + 1) [(4, .int (x4 + 1)), (0, .ref (gA G 6)), (1, .ref (gA G 9)), (2, .int x2), (3, .int x3), (5, .int x5)] C dX0_agrees_79 rfl rfl (Nat.le_of_ble_eq_true rfl) rfl ?_
    refine j_goto (pc := 82) 3 C dX0_agrees_82 (by decide) ?_
    refine j_sub [1, 2, 3, 4, 0] rfl ?_
    exact hK3 x2 x3 (x4 + 1) S
  ·
    refine j_iconst (pc := 77) 0 C dX0_agrees_77 (by decide) ?_
    exact j_zretc C dX0_agrees_78 rfl (Nat.le_of_ble_eq_true rfl) (Nat.le_of_ble_eq_true rfl) rfl
theorem bC_Book_agrees_6_3 {E : Ec} {G : Gc}    (C : JC E (VC G 6 0 0 RX0) cX0_agrees 5 (some .boolean))    : ∀ (n : Nat) (x2 : Int32) (x3 : Int32) (x4 : Int32) (S : St), J E (VC G 6 0 0 RX0) 0 0 3 [(0, .ref (gA G 6)), (1, .ref (gA G 9)), (2, .int x2), (3, .int x3), (4, .int x4)] [] S (fC_Book_agrees_6_3  n x2 x3 x4 S) := by
  intro n
  induction n with
  | zero => intro x2 x3 x4 S; rw [fC_Book_agrees_6_3]; exact j_none
  | succ n ih =>
    intro x2 x3 x4 S
    rw [fC_Book_agrees_6_3]
    refine j_iload (pc := 3) 4 C dX0_agrees_3 rfl ?_
    refine j_aload_n (pc := 5) 0 C dX0_agrees_5 rfl rfl ?_
    refine gC_6_0 (pc := 6) C dX0_agrees_6 q_426 ?_
    refine j_icmp_ge (pc := 9) 85 C dX0_agrees_9 (by decide) ?_ ?_
    ·
      refine j_iconst (pc := 85) 1 C dX0_agrees_85 (by decide) ?_
      exact j_zretc C dX0_agrees_86 rfl (Nat.le_of_ble_eq_true rfl) (Nat.le_of_ble_eq_true rfl) rfl
    ·
      refine j_aload_n (pc := 12) 1 C dX0_agrees_12 rfl rfl ?_
      refine j_aload_n (pc := 13) 0 C dX0_agrees_13 rfl rfl ?_
      refine gC_6_1 (pc := 14) C dX0_agrees_14 q_431 ?_
      refine j_iload (pc := 17) 4 C dX0_agrees_17 rfl ?_
      refine aC_37 (pc := 19) C dX0_agrees_19 ?_
      refine j_aload_n (pc := 20) 0 C dX0_agrees_20 rfl rfl ?_
      refine gC_6_2 (pc := 21) C dX0_agrees_21 q_434 ?_
      refine j_iload (pc := 24) 4 C dX0_agrees_24 rfl ?_
      refine aC_38 (pc := 26) C dX0_agrees_26 ?_
      refine j_callI0 (pc := 27) C (rC_State_linesKnown_9 C dX0_agrees_27 q_678 (by omega) (Nat.le_of_ble_eq_true rfl) ⟨Nat.le_of_ble_eq_true rfl, Nat.le_of_ble_eq_true rfl⟩) ⟨Nat.le_of_ble_eq_true rfl, Nat.le_of_ble_eq_true rfl⟩ (fun r2 T1 => ?_)
      refine j_istore (pc := 30) [(5, .int r2), (0, .ref (gA G 6)), (1, .ref (gA G 9)), (2, .int x2), (3, .int x3), (4, .int x4)] C dX0_agrees_30 (Nat.le_of_ble_eq_true rfl) rfl ?_
      refine j_aload_n (pc := 32) 1 C dX0_agrees_32 rfl rfl ?_
      refine gC_6_1 (pc := 33) C dX0_agrees_33 q_431 ?_
      refine j_iload (pc := 36) 5 C dX0_agrees_36 rfl ?_
      refine aC_37 (pc := 38) C dX0_agrees_38 ?_
      refine j_iload_n (pc := 39) 3 C dX0_agrees_39 rfl rfl ?_
      refine j_icmp_ne (pc := 40) 65 C dX0_agrees_40 (by decide) ?_ ?_
      ·
        refine j_sub [1, 2, 3, 4, 5, 0] rfl ?_
        exact bC_Book_agrees_6_65 C ih x2 x3 x4 r2 T1
      ·
        refine j_aload_n (pc := 43) 1 C dX0_agrees_43 rfl rfl ?_
        refine gC_6_2 (pc := 44) C dX0_agrees_44 q_434 ?_
        refine j_iload (pc := 47) 5 C dX0_agrees_47 rfl ?_
        refine aC_38 (pc := 49) C dX0_agrees_49 ?_
        refine j_iload_n (pc := 50) 4 C dX0_agrees_50 rfl rfl ?_
        refine j_icmp_ne (pc := 51) 65 C dX0_agrees_51 (by decide) ?_ ?_
        ·
          refine j_sub [1, 2, 3, 4, 5, 0] rfl ?_
          exact bC_Book_agrees_6_65 C ih x2 x3 x4 r2 T1
        ·
          refine j_iload (pc := 54) 0 C dX0_agrees_54 rfl ?_
          refine j_aload_n (pc := 56) 2 C dX0_agrees_56 rfl rfl ?_
          refine j_iload_n (pc := 57) 3 C dX0_agrees_57 rfl rfl ?_
          refine j_iload_n (pc := 58) 4 C dX0_agrees_58 rfl rfl ?_
          refine j_callI0 (pc := 59) C (rC_State_gainOf_9 C dX0_agrees_59 q_679 (by omega) (Nat.le_of_ble_eq_true rfl) ⟨Nat.le_of_ble_eq_true rfl, Nat.le_of_ble_eq_true rfl⟩) ⟨Nat.le_of_ble_eq_true rfl, Nat.le_of_ble_eq_true rfl⟩ (fun r4 T3 => ?_)
          refine j_iadd (pc := 62) C dX0_agrees_62 ?_
          refine j_nxI (fun v5 => ?_)
          refine j_istore (pc := 63) [(5, .int v5), (0, .ref (gA G 6)), (1, .ref (gA G 9)), (2, .int x2), (3, .int x3), (4, .int x4)] C dX0_agrees_63 (Nat.le_of_ble_eq_true rfl) rfl ?_
          refine j_sub [1, 2, 3, 4, 5, 0] rfl ?_
          exact bC_Book_agrees_6_65 C ih x2 x3 x4 v5 T3
theorem bC_Book_agrees_6 {E : Ec} {G : Gc}    (C : JC E (VC G 6 0 0 RX0) cX0_agrees 5 (some .boolean))    (x2 : Int32) (x3 : Int32) (S : St) : J E (VC G 6 0 0 RX0) 0 0 0 [(0, .ref (gA G 6)), (1, .ref (gA G 9)), (2, .int x2), (3, .int x3)] [] S (fC_Book_agrees_6  x2 x3 S) := by
  unfold fC_Book_agrees_6
  refine j_iconst (pc := 0) 0 C dX0_agrees_0 (by decide) ?_
  refine j_istore (pc := 1) [(4, .int 0), (0, .ref (gA G 6)), (1, .ref (gA G 9)), (2, .int x2), (3, .int x3)] C dX0_agrees_1 (Nat.le_of_ble_eq_true rfl) rfl ?_
  refine j_sub [1, 2, 3, 4, 0] rfl ?_
  exact bC_Book_agrees_6_3 C  FU x2 x3 0 S
theorem cC_Book_agrees_6 {l : Launch} {G : Gc} (hfl : l.stackTraces = false) (hW : Wok G wC 54)   (x2 : Int32) (x3 : Int32) (S : St) : Ct l yX0_agrees (Cond.code yX0_agrees cX0_agrees 6 (some .boolean) :: tblG) 5 0 0 G wC 54 [.ref (gA G 6), .ref (gA G 9), .int x2, .int x3] S (fC_Book_agrees_6 x2 x3 S) := ct_of (own := RX0) hfl (by decide +kernel) rfl hW (Nat.le_of_ble_eq_true rfl) (fun E hE C => by subst hE; exact bC_Book_agrees_6 C   x2 x3 S)
theorem rC_Book_agrees_6 {E : Ec} {G : Gc} {nL mc ms : Nat} {own : String} {cc : ByteArray} {L : Nat} {ret : Option FieldType} {k n pc ix : Nat} {loc : List (Nat × Value)} {rest : List Value}  {x2 : Int32} {x3 : Int32} {S : St}  (C : JC E (VC G nL mc ms own) cc L ret) (hd : decode cc pc = .ok (.invokevirtual ix, 3)) (hq : Cond.methodLink own ix yX0_agrees ∈ tblG) (hL : 5 + 1 ≤ L) (hW : (rest.map fun v => v.category).sum ≤ 8) (hf : k + 0 ≤ mc ∧ n + 0 ≤ ms) : Rn E (VC G nL mc ms own) k n 0 0 pc loc (.int x3 :: .int x2 :: .ref (gA G 9) :: .ref (gA G 6) :: rest) rest S (fC_Book_agrees_6 x2 x3 S) := rn_V (ci := 0) 6 (V := VC G nL mc ms own) (As := [.ref (gA G 9), .int x2, .int x3]) (Cq := (RX0, TX0, 4)) (cC_Book_agrees_6 C.flags C.wok  x2 x3 S) knX0_agrees ⟨q_681, q_682⟩ rfl rfl C hd hq hL rfl rfl hW hf

theorem knX9_fits : Kn yX9_fits cX9_fits 6 (some .int) 1 := ⟨q_684, q_40, by decide +kernel, by decide⟩
theorem bC_Main_fits_32 {E : Ec} {G : Gc}   {K17 : Int32 → Int32 → Int32 → Int32 → St → Oz} (C : JC E (VC G 6 1 6 RX9) cX9_fits 8 (some .int))   (hK17 : ∀ (x1 : Int32) (x2 : Int32) (x3 : Int32) (x4 : Int32) (S : St), J E (VC G 6 1 6 RX9) 1 6 17 [(0, .ref (gA G 0)), (1, .int x1), (2, .int x2), (3, .int x3), (4, .int x4)] [] S (K17 x1 x2 x3 x4 S)) : ∀ (n : Nat) (x1 : Int32) (x2 : Int32) (x3 : Int32) (x4 : Int32) (x5 : Int32) (S : St), J E (VC G 6 1 6 RX9) 1 6 32 [(0, .ref (gA G 0)), (1, .int x1), (2, .int x2), (3, .int x3), (4, .int x4), (5, .int x5)] [] S (fC_Main_fits_32 K17 n x1 x2 x3 x4 x5 S) := by
  intro n
  induction n with
  | zero => intro x1 x2 x3 x4 x5 S; rw [fC_Main_fits_32]; exact j_none
  | succ n ih =>
    intro x1 x2 x3 x4 x5 S
    rw [fC_Main_fits_32]
    refine j_iload (pc := 32) 5 C dX9_fits_32 rfl ?_
    refine j_aload_n (pc := 34) 0 C dX9_fits_34 rfl rfl ?_
    refine gC_0_1 (pc := 35) C dX9_fits_35 q_148 ?_
    refine gC_2_0 (pc := 38) C dX9_fits_38 q_466 ?_
    refine j_icmp_ge (pc := 41) 89 C dX9_fits_41 (by decide) ?_ ?_
    ·
      refine j_iinc (pc := 89) 4 (x4 + 1) [(4, .int (x4 + 1)), (0, .ref (gA G 0)), (1, .int x1), (2, .int x2), (3, .int x3), (5, .int x5)] C dX9_fits_89 rfl rfl (Nat.le_of_ble_eq_true rfl) rfl ?_
      refine j_goto (pc := 92) 17 C dX9_fits_92 (by decide) ?_
      refine j_sub [1, 2, 3, 4, 0] rfl ?_
      exact hK17 x1 x2 x3 (x4 + 1) S
    ·
      refine j_aload_n (pc := 44) 0 C dX9_fits_44 rfl rfl ?_
      refine gC_0_5 (pc := 45) C dX9_fits_45 q_169 ?_
      refine j_aload_n (pc := 48) 0 C dX9_fits_48 rfl rfl ?_
      refine gC_0_8 (pc := 49) C dX9_fits_49 q_171 ?_
      refine j_iload (pc := 52) 4 C dX9_fits_52 rfl ?_
      refine j_iload (pc := 54) 5 C dX9_fits_54 rfl ?_
      refine j_callI0 (pc := 56) C (rC_Book_agrees_6 C dX9_fits_56 q_683 (by omega) (Nat.le_of_ble_eq_true rfl) ⟨Nat.le_of_ble_eq_true rfl, Nat.le_of_ble_eq_true rfl⟩) ⟨Nat.le_of_ble_eq_true rfl, Nat.le_of_ble_eq_true rfl⟩ (fun r2 T1 => ?_)
      refine j_if_eq (pc := 59) 83 C dX9_fits_59 (by decide) ?_ ?_
      ·
        refine j_iinc (pc := 83) 5 (x5 + 1) [(5, .int (x5 + 1)), (0, .ref (gA G 0)), (1, .int x1), (2, .int x2), (3, .int x3), (4, .int x4)] C dX9_fits_83 rfl rfl (Nat.le_of_ble_eq_true rfl) rfl ?_
        refine j_goto (pc := 86) 32 C dX9_fits_86 (by decide) ?_
        refine j_sub [1, 2, 3, 4, 5, 0] rfl ?_
        exact ih x1 x2 x3 x4 (x5 + 1) T1
      ·
        refine j_iinc (pc := 62) 2 (x2 + 1) [(2, .int (x2 + 1)), (0, .ref (gA G 0)), (1, .int x1), (3, .int x3), (4, .int x4), (5, .int x5)] C dX9_fits_62 rfl rfl (Nat.le_of_ble_eq_true rfl) rfl ?_
        refine j_iload_n (pc := 65) 3 C dX9_fits_65 rfl rfl ?_
        refine j_iconst (pc := 66) (-1) C dX9_fits_66 (by decide) ?_
        refine j_icmp_ne (pc := 67) 81 C dX9_fits_67 (by decide) ?_ ?_
        ·
          refine j_iload_n (pc := 81) 3 C dX9_fits_81 rfl rfl ?_
          refine j_istore_n (pc := 82) [(3, .int x3), (2, .int (x2 + 1)), (0, .ref (gA G 0)), (1, .int x1), (4, .int x4), (5, .int x5)] C dX9_fits_82 rfl (Nat.le_of_ble_eq_true rfl) rfl ?_
          refine j_iinc (pc := 83) 5 (x5 + 1) [(5, .int (x5 + 1)), (3, .int x3), (2, .int (x2 + 1)), (0, .ref (gA G 0)), (1, .int x1), (4, .int x4)] C dX9_fits_83 rfl rfl (Nat.le_of_ble_eq_true rfl) rfl ?_
          refine j_goto (pc := 86) 32 C dX9_fits_86 (by decide) ?_
          refine j_sub [3, 4, 2, 1, 5, 0] rfl ?_
          exact ih x1 (x2 + 1) x3 x4 (x5 + 1) T1
        ·
          refine j_bipush (pc := 70) 10 C dX9_fits_70 (by decide) ?_
          refine j_iload (pc := 72) 4 C dX9_fits_72 rfl ?_
          refine j_imul (pc := 74) C dX9_fits_74 ?_
          refine j_iload (pc := 75) 5 C dX9_fits_75 rfl ?_
          refine j_iadd (pc := 77) C dX9_fits_77 ?_
          refine j_goto (pc := 78) 82 C dX9_fits_78 (by decide) ?_
          refine j_nxI (fun v3 => ?_)
          refine j_istore_n (pc := 82) [(3, .int v3), (2, .int (x2 + 1)), (0, .ref (gA G 0)), (1, .int x1), (4, .int x4), (5, .int x5)] C dX9_fits_82 rfl (Nat.le_of_ble_eq_true rfl) rfl ?_
          refine j_iinc (pc := 83) 5 (x5 + 1) [(5, .int (x5 + 1)), (3, .int v3), (2, .int (x2 + 1)), (0, .ref (gA G 0)), (1, .int x1), (4, .int x4)] C dX9_fits_83 rfl rfl (Nat.le_of_ble_eq_true rfl) rfl ?_
          refine j_goto (pc := 86) 32 C dX9_fits_86 (by decide) ?_
          refine j_sub [3, 4, 2, 1, 5, 0] rfl ?_
          exact ih x1 (x2 + 1) v3 x4 (x5 + 1) T1
theorem bC_Main_fits_17 {E : Ec} {G : Gc}    (C : JC E (VC G 6 1 6 RX9) cX9_fits 8 (some .int))    : ∀ (n : Nat) (x1 : Int32) (x2 : Int32) (x3 : Int32) (x4 : Int32) (S : St), J E (VC G 6 1 6 RX9) 1 6 17 [(0, .ref (gA G 0)), (1, .int x1), (2, .int x2), (3, .int x3), (4, .int x4)] [] S (fC_Main_fits_17  n x1 x2 x3 x4 S) := by
  intro n
  induction n with
  | zero => intro x1 x2 x3 x4 S; rw [fC_Main_fits_17]; exact j_none
  | succ n ih =>
    intro x1 x2 x3 x4 S
    rw [fC_Main_fits_17]
    refine j_iload (pc := 17) 4 C dX9_fits_17 rfl ?_
    refine j_aload_n (pc := 19) 0 C dX9_fits_19 rfl rfl ?_
    refine gC_0_1 (pc := 20) C dX9_fits_20 q_148 ?_
    refine gC_2_1 (pc := 23) C dX9_fits_23 q_467 ?_
    refine j_icmp_ge (pc := 26) 95 C dX9_fits_26 (by decide) ?_ ?_
    ·
      refine j_iload_n (pc := 95) 1 C dX9_fits_95 rfl rfl ?_
      refine j_if_ne (pc := 96) 103 C dX9_fits_96 (by decide) ?_ ?_
      ·
        refine j_iload_n (pc := 103) 3 C dX9_fits_103 rfl rfl ?_
        exact j_iret C dX9_fits_104 rfl (Nat.le_of_ble_eq_true rfl) (Nat.le_of_ble_eq_true rfl)
      ·
        refine j_iload_n (pc := 99) 2 C dX9_fits_99 rfl rfl ?_
        refine j_goto (pc := 100) 104 C dX9_fits_100 (by decide) ?_
        exact j_iret C dX9_fits_104 rfl (Nat.le_of_ble_eq_true rfl) (Nat.le_of_ble_eq_true rfl)
    ·
      refine j_iconst (pc := 29) 0 C dX9_fits_29 (by decide) ?_
      refine j_istore (pc := 30) [(5, .int 0), (0, .ref (gA G 0)), (1, .int x1), (2, .int x2), (3, .int x3), (4, .int x4)] C dX9_fits_30 (Nat.le_of_ble_eq_true rfl) rfl ?_
      refine j_sub [1, 2, 3, 4, 5, 0] rfl ?_
      exact bC_Main_fits_32 C ih FU x1 x2 x3 x4 0 S
theorem bC_Main_fits {E : Ec} {G : Gc}    (C : JC E (VC G 6 1 6 RX9) cX9_fits 8 (some .int))    (x1 : Int32) (S : St) : J E (VC G 6 1 6 RX9) 0 0 0 [(0, .ref (gA G 0)), (1, .int x1)] [] S (fC_Main_fits  x1 S) := by
  unfold fC_Main_fits
  refine j_aload_n (pc := 0) 0 C dX9_fits_0 rfl rfl ?_
  refine j_iload_n (pc := 1) 1 C dX9_fits_1 rfl rfl ?_
  refine j_iconst (pc := 2) 0 C dX9_fits_2 (by decide) ?_
  refine j_iconst (pc := 3) 1 C dX9_fits_3 (by decide) ?_
  refine j_callI0 (pc := 4) C (rC_Main_isWithin C dX9_fits_4 q_49 (by omega) (Nat.le_of_ble_eq_true rfl) ⟨Nat.le_of_ble_eq_true rfl, Nat.le_of_ble_eq_true rfl⟩) ⟨Nat.le_of_ble_eq_true rfl, Nat.le_of_ble_eq_true rfl⟩ (fun r2 T1 => ?_)
  refine j_callv (pc := 7) C (rC_Main_need C dX9_fits_7 q_60 (by omega) (Nat.le_of_ble_eq_true rfl) ⟨Nat.le_of_ble_eq_true rfl, Nat.le_of_ble_eq_true rfl⟩) ⟨Nat.le_of_ble_eq_true rfl, Nat.le_of_ble_eq_true rfl⟩ (fun T3 => ?_)
  refine j_iconst (pc := 10) 0 C dX9_fits_10 (by decide) ?_
  refine j_istore_n (pc := 11) [(2, .int 0), (0, .ref (gA G 0)), (1, .int x1)] C dX9_fits_11 rfl (Nat.le_of_ble_eq_true rfl) rfl ?_
  refine j_iconst (pc := 12) (-1) C dX9_fits_12 (by decide) ?_
  refine j_istore_n (pc := 13) [(3, .int (-1)), (2, .int 0), (0, .ref (gA G 0)), (1, .int x1)] C dX9_fits_13 rfl (Nat.le_of_ble_eq_true rfl) rfl ?_
  refine j_iconst (pc := 14) 0 C dX9_fits_14 (by decide) ?_
  refine j_istore (pc := 15) [(4, .int 0), (3, .int (-1)), (2, .int 0), (0, .ref (gA G 0)), (1, .int x1)] C dX9_fits_15 (Nat.le_of_ble_eq_true rfl) rfl ?_
  refine j_sub [3, 4, 2, 1, 0] rfl ?_
  exact bC_Main_fits_17 C  FU x1 0 (-1) 0 T3
theorem cC_Main_fits {l : Launch} {G : Gc} (hfl : l.stackTraces = false) (hW : Wok G wC 54)   (x1 : Int32) (S : St) : Ct l yX9_fits (Cond.code yX9_fits cX9_fits 6 (some .int) :: tblG) 8 1 6 G wC 54 [.ref (gA G 0), .int x1] S (fC_Main_fits x1 S) := ct_of (own := RX9) hfl (by decide +kernel) rfl hW (Nat.le_of_ble_eq_true rfl) (fun E hE C => by subst hE; exact bC_Main_fits C   x1 S)
theorem rC_Main_fits {E : Ec} {G : Gc} {nL mc ms : Nat} {own : String} {cc : ByteArray} {L : Nat} {ret : Option FieldType} {k n pc ix : Nat} {loc : List (Nat × Value)} {rest : List Value}  {x1 : Int32} {S : St}  (C : JC E (VC G nL mc ms own) cc L ret) (hd : decode cc pc = .ok (.invokevirtual ix, 3)) (hq : Cond.methodLink own ix yX9_fits ∈ tblG) (hL : 8 + 1 ≤ L) (hW : (rest.map fun v => v.category).sum ≤ 8) (hf : k + 1 ≤ mc ∧ n + 6 ≤ ms) : Rn E (VC G nL mc ms own) k n 1 6 pc loc (.int x1 :: .ref (gA G 0) :: rest) rest S (fC_Main_fits x1 S) := rn_V (ci := 9) 0 (V := VC G nL mc ms own) (As := [.int x1]) (Cq := (RX9, TX9, 15)) (cC_Main_fits C.flags C.wok  x1 S) knX9_fits ⟨q_685, q_686⟩ rfl rfl C hd hq hL rfl rfl hW hf

theorem knX9_pairsThatFit : Kn yX9_pairsThatFit cX9_pairsThatFit 4 (some .int) 0 := ⟨q_687, q_40, by decide +kernel, by decide⟩
theorem bC_Main_pairsThatFit_17 {E : Ec} {G : Gc}   {K4 : Int32 → Int32 → St → Oz} (C : JC E (VC G 4 0 0 RX9) cX9_pairsThatFit 6 (some .int))   (hK4 : ∀ (x1 : Int32) (x2 : Int32) (S : St), J E (VC G 4 0 0 RX9) 0 0 4 [(0, .ref (gA G 0)), (1, .int x1), (2, .int x2)] [] S (K4 x1 x2 S)) : ∀ (n : Nat) (x1 : Int32) (x2 : Int32) (x3 : Int32) (S : St), J E (VC G 4 0 0 RX9) 0 0 17 [(0, .ref (gA G 0)), (1, .int x1), (2, .int x2), (3, .int x3)] [] S (fC_Main_pairsThatFit_17 K4 n x1 x2 x3 S) := by
  intro n
  induction n with
  | zero => intro x1 x2 x3 S; rw [fC_Main_pairsThatFit_17]; exact j_none
  | succ n ih =>
    intro x1 x2 x3 S
    rw [fC_Main_pairsThatFit_17]
    refine j_iload_n (pc := 17) 3 C dX9_pairsThatFit_17 rfl rfl ?_
    refine j_aload_n (pc := 18) 0 C dX9_pairsThatFit_18 rfl rfl ?_
    refine gC_0_1 (pc := 19) C dX9_pairsThatFit_19 q_148 ?_
    refine gC_2_0 (pc := 22) C dX9_pairsThatFit_22 q_466 ?_
    refine j_icmp_ge (pc := 25) 58 C dX9_pairsThatFit_25 (by decide) ?_ ?_
    ·
      refine j_iinc (pc := 58) 2 (x2 + 1) [(2, .int (x2 + 1)), (0, .ref (gA G 0)), (1, .int x1), (3, .int x3)] C dX9_pairsThatFit_58 rfl rfl (Nat.le_of_ble_eq_true rfl) rfl ?_
      refine j_goto (pc := 61) 4 C dX9_pairsThatFit_61 (by decide) ?_
      refine j_sub [1, 2, 0] rfl ?_
      exact hK4 x1 (x2 + 1) S
    ·
      refine j_iload_n (pc := 28) 1 C dX9_pairsThatFit_28 rfl rfl ?_
      refine j_aload_n (pc := 29) 0 C dX9_pairsThatFit_29 rfl rfl ?_
      refine gC_0_5 (pc := 30) C dX9_pairsThatFit_30 q_169 ?_
      refine j_aload_n (pc := 33) 0 C dX9_pairsThatFit_33 rfl rfl ?_
      refine gC_0_8 (pc := 34) C dX9_pairsThatFit_34 q_171 ?_
      refine j_iload_n (pc := 37) 2 C dX9_pairsThatFit_37 rfl rfl ?_
      refine j_iload_n (pc := 38) 3 C dX9_pairsThatFit_38 rfl rfl ?_
      refine j_callI0 (pc := 39) C (rC_Book_agrees_6 C dX9_pairsThatFit_39 q_683 (by omega) (Nat.le_of_ble_eq_true rfl) ⟨Nat.le_of_ble_eq_true rfl, Nat.le_of_ble_eq_true rfl⟩) ⟨Nat.le_of_ble_eq_true rfl, Nat.le_of_ble_eq_true rfl⟩ (fun r2 T1 => ?_)
      refine j_if_eq (pc := 42) 49 C dX9_pairsThatFit_42 (by decide) ?_ ?_
      ·
        refine j_iconst (pc := 49) 0 C dX9_pairsThatFit_49 (by decide) ?_
        refine j_iadd (pc := 50) C dX9_pairsThatFit_50 ?_
        refine j_nxI (fun v3 => ?_)
        refine j_istore_n (pc := 51) [(1, .int v3), (0, .ref (gA G 0)), (2, .int x2), (3, .int x3)] C dX9_pairsThatFit_51 rfl (Nat.le_of_ble_eq_true rfl) rfl ?_
        refine j_iinc (pc := 52) 3 (x3 + 1) [(3, .int (x3 + 1)), (1, .int v3), (0, .ref (gA G 0)), (2, .int x2)] C dX9_pairsThatFit_52 rfl rfl (Nat.le_of_ble_eq_true rfl) rfl ?_
        refine j_goto (pc := 55) 17 C dX9_pairsThatFit_55 (by decide) ?_
        refine j_sub [2, 1, 3, 0] rfl ?_
        exact ih v3 x2 (x3 + 1) T1
      ·
        refine j_iconst (pc := 45) 1 C dX9_pairsThatFit_45 (by decide) ?_
        refine j_goto (pc := 46) 50 C dX9_pairsThatFit_46 (by decide) ?_
        refine j_iadd (pc := 50) C dX9_pairsThatFit_50 ?_
        refine j_nxI (fun v4 => ?_)
        refine j_istore_n (pc := 51) [(1, .int v4), (0, .ref (gA G 0)), (2, .int x2), (3, .int x3)] C dX9_pairsThatFit_51 rfl (Nat.le_of_ble_eq_true rfl) rfl ?_
        refine j_iinc (pc := 52) 3 (x3 + 1) [(3, .int (x3 + 1)), (1, .int v4), (0, .ref (gA G 0)), (2, .int x2)] C dX9_pairsThatFit_52 rfl rfl (Nat.le_of_ble_eq_true rfl) rfl ?_
        refine j_goto (pc := 55) 17 C dX9_pairsThatFit_55 (by decide) ?_
        refine j_sub [2, 1, 3, 0] rfl ?_
        exact ih v4 x2 (x3 + 1) T1
theorem bC_Main_pairsThatFit_4 {E : Ec} {G : Gc}    (C : JC E (VC G 4 0 0 RX9) cX9_pairsThatFit 6 (some .int))    : ∀ (n : Nat) (x1 : Int32) (x2 : Int32) (S : St), J E (VC G 4 0 0 RX9) 0 0 4 [(0, .ref (gA G 0)), (1, .int x1), (2, .int x2)] [] S (fC_Main_pairsThatFit_4  n x1 x2 S) := by
  intro n
  induction n with
  | zero => intro x1 x2 S; rw [fC_Main_pairsThatFit_4]; exact j_none
  | succ n ih =>
    intro x1 x2 S
    rw [fC_Main_pairsThatFit_4]
    refine j_iload_n (pc := 4) 2 C dX9_pairsThatFit_4 rfl rfl ?_
    refine j_aload_n (pc := 5) 0 C dX9_pairsThatFit_5 rfl rfl ?_
    refine gC_0_1 (pc := 6) C dX9_pairsThatFit_6 q_148 ?_
    refine gC_2_1 (pc := 9) C dX9_pairsThatFit_9 q_467 ?_
    refine j_icmp_ge (pc := 12) 64 C dX9_pairsThatFit_12 (by decide) ?_ ?_
    ·
      refine j_iload_n (pc := 64) 1 C dX9_pairsThatFit_64 rfl rfl ?_
      exact j_iret C dX9_pairsThatFit_65 rfl (Nat.le_of_ble_eq_true rfl) (Nat.le_of_ble_eq_true rfl)
    ·
      refine j_iconst (pc := 15) 0 C dX9_pairsThatFit_15 (by decide) ?_
      refine j_istore_n (pc := 16) [(3, .int 0), (0, .ref (gA G 0)), (1, .int x1), (2, .int x2)] C dX9_pairsThatFit_16 rfl (Nat.le_of_ble_eq_true rfl) rfl ?_
      refine j_sub [1, 2, 3, 0] rfl ?_
      exact bC_Main_pairsThatFit_17 C ih FU x1 x2 0 S
theorem bC_Main_pairsThatFit {E : Ec} {G : Gc}    (C : JC E (VC G 4 0 0 RX9) cX9_pairsThatFit 6 (some .int))     (S : St) : J E (VC G 4 0 0 RX9) 0 0 0 [(0, .ref (gA G 0))] [] S (fC_Main_pairsThatFit   S) := by
  unfold fC_Main_pairsThatFit
  refine j_iconst (pc := 0) 0 C dX9_pairsThatFit_0 (by decide) ?_
  refine j_istore_n (pc := 1) [(1, .int 0), (0, .ref (gA G 0))] C dX9_pairsThatFit_1 rfl (Nat.le_of_ble_eq_true rfl) rfl ?_
  refine j_iconst (pc := 2) 0 C dX9_pairsThatFit_2 (by decide) ?_
  refine j_istore_n (pc := 3) [(2, .int 0), (1, .int 0), (0, .ref (gA G 0))] C dX9_pairsThatFit_3 rfl (Nat.le_of_ble_eq_true rfl) rfl ?_
  refine j_sub [2, 1, 0] rfl ?_
  exact bC_Main_pairsThatFit_4 C  FU 0 0 S
theorem cC_Main_pairsThatFit {l : Launch} {G : Gc} (hfl : l.stackTraces = false) (hW : Wok G wC 54)    (S : St) : Ct l yX9_pairsThatFit (Cond.code yX9_pairsThatFit cX9_pairsThatFit 4 (some .int) :: tblG) 6 0 0 G wC 54 [.ref (gA G 0)] S (fC_Main_pairsThatFit  S) := ct_of (own := RX9) hfl (by decide +kernel) rfl hW (Nat.le_of_ble_eq_true rfl) (fun E hE C => by subst hE; exact bC_Main_pairsThatFit C    S)
theorem rC_Main_pairsThatFit {E : Ec} {G : Gc} {nL mc ms : Nat} {own : String} {cc : ByteArray} {L : Nat} {ret : Option FieldType} {k n pc ix : Nat} {loc : List (Nat × Value)} {rest : List Value}   {S : St}  (C : JC E (VC G nL mc ms own) cc L ret) (hd : decode cc pc = .ok (.invokevirtual ix, 3)) (hq : Cond.methodLink own ix yX9_pairsThatFit ∈ tblG) (hL : 6 + 1 ≤ L) (hW : (rest.map fun v => v.category).sum ≤ 8) (hf : k + 0 ≤ mc ∧ n + 0 ≤ ms) : Rn E (VC G nL mc ms own) k n 0 0 pc loc (.ref (gA G 0) :: rest) rest S (fC_Main_pairsThatFit  S) := rn_V (ci := 9) 0 (V := VC G nL mc ms own) (As := []) (Cq := (RX9, TX9, 15)) (cC_Main_pairsThatFit C.flags C.wok   S) knX9_pairsThatFit ⟨q_688, q_689⟩ rfl rfl C hd hq hL rfl rfl hW hf

theorem knX0_tells : Kn yX0_tells cX0_tells 4 (some .boolean) 2 := ⟨q_691, q_438, by decide +kernel, by decide⟩
theorem bC_Book_tells_6_2 {E : Ec} {G : Gc}    (C : JC E (VC G 4 0 0 RX0) cX0_tells 1 (some .boolean))    : ∀ (n : Nat) (x1 : Int32) (x2 : Int32) (x3 : Int32) (S : St), J E (VC G 4 0 0 RX0) 0 0 2 [(0, .ref (gA G 6)), (1, .int x1), (2, .int x2), (3, .int x3)] [] S (fC_Book_tells_6_2  n x1 x2 x3 S) := by
  intro n
  induction n with
  | zero => intro x1 x2 x3 S; rw [fC_Book_tells_6_2]; exact j_none
  | succ n ih =>
    intro x1 x2 x3 S
    rw [fC_Book_tells_6_2]
    refine j_iload_n (pc := 2) 3 C dX0_tells_2 rfl rfl ?_
    refine j_aload_n (pc := 3) 0 C dX0_tells_3 rfl rfl ?_
    refine gC_6_0 (pc := 4) C dX0_tells_4 q_426 ?_
    refine j_icmp_ge (pc := 7) 38 C dX0_tells_7 (by decide) ?_ ?_
    ·
      refine j_iconst (pc := 38) 0 C dX0_tells_38 (by decide) ?_
      exact j_zretc C dX0_tells_39 rfl (Nat.le_of_ble_eq_true rfl) (Nat.le_of_ble_eq_true rfl) rfl
    ·
      refine j_aload_n (pc := 10) 0 C dX0_tells_10 rfl rfl ?_
      refine gC_6_1 (pc := 11) C dX0_tells_11 q_431 ?_
      refine j_iload_n (pc := 14) 3 C dX0_tells_14 rfl rfl ?_
      refine aC_37 (pc := 15) C dX0_tells_15 ?_
      refine j_iload_n (pc := 16) 1 C dX0_tells_16 rfl rfl ?_
      refine j_icmp_ne (pc := 17) 32 C dX0_tells_17 (by decide) ?_ ?_
      ·
        refine j_iinc (pc := 32) 3 (x3 + 1) [(3, .int (x3 + 1)), (0, .ref (gA G 6)), (1, .int x1), (2, .int x2)] C dX0_tells_32 rfl rfl (Nat.le_of_ble_eq_true rfl) rfl ?_
        refine j_goto (pc := 35) 2 C dX0_tells_35 (by decide) ?_
        refine j_sub [1, 2, 3, 0] rfl ?_
        exact ih x1 x2 (x3 + 1) S
      ·
        refine j_aload_n (pc := 20) 0 C dX0_tells_20 rfl rfl ?_
        refine gC_6_2 (pc := 21) C dX0_tells_21 q_434 ?_
        refine j_iload_n (pc := 24) 3 C dX0_tells_24 rfl rfl ?_
        refine aC_38 (pc := 25) C dX0_tells_25 ?_
        refine j_iload_n (pc := 26) 2 C dX0_tells_26 rfl rfl ?_
        refine j_icmp_ne (pc := 27) 32 C dX0_tells_27 (by decide) ?_ ?_
        ·
          refine j_iinc (pc := 32) 3 (x3 + 1) [(3, .int (x3 + 1)), (0, .ref (gA G 6)), (1, .int x1), (2, .int x2)] C dX0_tells_32 rfl rfl (Nat.le_of_ble_eq_true rfl) rfl ?_
          refine j_goto (pc := 35) 2 C dX0_tells_35 (by decide) ?_
          refine j_sub [1, 2, 3, 0] rfl ?_
          exact ih x1 x2 (x3 + 1) S
        ·
          refine j_iconst (pc := 30) 1 C dX0_tells_30 (by decide) ?_
          exact j_zretc C dX0_tells_31 rfl (Nat.le_of_ble_eq_true rfl) (Nat.le_of_ble_eq_true rfl) rfl
theorem bC_Book_tells_6 {E : Ec} {G : Gc}    (C : JC E (VC G 4 0 0 RX0) cX0_tells 1 (some .boolean))    (x1 : Int32) (x2 : Int32) (S : St) : J E (VC G 4 0 0 RX0) 0 0 0 [(0, .ref (gA G 6)), (1, .int x1), (2, .int x2)] [] S (fC_Book_tells_6  x1 x2 S) := by
  unfold fC_Book_tells_6
  refine j_iconst (pc := 0) 0 C dX0_tells_0 (by decide) ?_
  refine j_istore_n (pc := 1) [(3, .int 0), (0, .ref (gA G 6)), (1, .int x1), (2, .int x2)] C dX0_tells_1 rfl (Nat.le_of_ble_eq_true rfl) rfl ?_
  refine j_sub [1, 2, 3, 0] rfl ?_
  exact bC_Book_tells_6_2 C  FU x1 x2 0 S
theorem cC_Book_tells_6 {l : Launch} {G : Gc} (hfl : l.stackTraces = false) (hW : Wok G wC 54)   (x1 : Int32) (x2 : Int32) (S : St) : Ct l yX0_tells (Cond.code yX0_tells cX0_tells 4 (some .boolean) :: tblG) 1 0 0 G wC 54 [.ref (gA G 6), .int x1, .int x2] S (fC_Book_tells_6 x1 x2 S) := ct_of (own := RX0) hfl (by decide +kernel) rfl hW (Nat.le_of_ble_eq_true rfl) (fun E hE C => by subst hE; exact bC_Book_tells_6 C   x1 x2 S)
theorem rC_Book_tells_6 {E : Ec} {G : Gc} {nL mc ms : Nat} {own : String} {cc : ByteArray} {L : Nat} {ret : Option FieldType} {k n pc ix : Nat} {loc : List (Nat × Value)} {rest : List Value}  {x1 : Int32} {x2 : Int32} {S : St}  (C : JC E (VC G nL mc ms own) cc L ret) (hd : decode cc pc = .ok (.invokevirtual ix, 3)) (hq : Cond.methodLink own ix yX0_tells ∈ tblG) (hL : 1 + 1 ≤ L) (hW : (rest.map fun v => v.category).sum ≤ 8) (hf : k + 0 ≤ mc ∧ n + 0 ≤ ms) : Rn E (VC G nL mc ms own) k n 0 0 pc loc (.int x2 :: .int x1 :: .ref (gA G 6) :: rest) rest S (fC_Book_tells_6 x1 x2 S) := rn_V (ci := 0) 6 (V := VC G nL mc ms own) (As := [.int x1, .int x2]) (Cq := (RX0, TX0, 4)) (cC_Book_tells_6 C.flags C.wok  x1 x2 S) knX0_tells ⟨q_692, q_693⟩ rfl rfl C hd hq hL rfl rfl hW hf

theorem knX9_leftAtWorst : Kn yX9_leftAtWorst cX9_leftAtWorst 4 (some .int) 3 := ⟨q_699, q_40, by decide +kernel, by decide⟩
theorem bC_Main_leftAtWorst {E : Ec} {G : Gc}    (C : JC E (VC G 4 0 0 RX9) cX9_leftAtWorst 6 (some .int))    (x1 : Int32) (x2 : Int32) (x3 : Int32) (S : St) : J E (VC G 4 0 0 RX9) 0 0 0 [(0, .ref (gA G 0)), (1, .int x1), (2, .int x2), (3, .int x3)] [] S (fC_Main_leftAtWorst  x1 x2 x3 S) := by
  unfold fC_Main_leftAtWorst
  refine j_aload_n (pc := 0) 0 C dX9_leftAtWorst_0 rfl rfl ?_
  refine gC_0_8 (pc := 1) C dX9_leftAtWorst_1 q_171 ?_
  refine j_iload_n (pc := 4) 1 C dX9_leftAtWorst_4 rfl rfl ?_
  refine j_iload_n (pc := 5) 2 C dX9_leftAtWorst_5 rfl rfl ?_
  refine j_callI0 (pc := 6) C (rC_State_gainOf_9 C dX9_leftAtWorst_6 q_695 (by omega) (Nat.le_of_ble_eq_true rfl) ⟨Nat.le_of_ble_eq_true rfl, Nat.le_of_ble_eq_true rfl⟩) ⟨Nat.le_of_ble_eq_true rfl, Nat.le_of_ble_eq_true rfl⟩ (fun r2 T1 => ?_)
  refine j_if_le (pc := 9) 36 C dX9_leftAtWorst_9 (by decide) ?_ ?_
  ·
    refine j_iload_n (pc := 36) 3 C dX9_leftAtWorst_36 rfl rfl ?_
    exact j_iret C dX9_leftAtWorst_37 rfl (Nat.le_of_ble_eq_true rfl) (Nat.le_of_ble_eq_true rfl)
  ·
    refine j_aload_n (pc := 12) 0 C dX9_leftAtWorst_12 rfl rfl ?_
    refine gC_0_5 (pc := 13) C dX9_leftAtWorst_13 q_169 ?_
    refine j_aload_n (pc := 16) 0 C dX9_leftAtWorst_16 rfl rfl ?_
    refine gC_0_8 (pc := 17) C dX9_leftAtWorst_17 q_171 ?_
    refine j_iload_n (pc := 20) 1 C dX9_leftAtWorst_20 rfl rfl ?_
    refine j_iload_n (pc := 21) 2 C dX9_leftAtWorst_21 rfl rfl ?_
    refine j_callI0 (pc := 22) C (rC_Book_agrees_6 C dX9_leftAtWorst_22 q_683 (by omega) (Nat.le_of_ble_eq_true rfl) ⟨Nat.le_of_ble_eq_true rfl, Nat.le_of_ble_eq_true rfl⟩) ⟨Nat.le_of_ble_eq_true rfl, Nat.le_of_ble_eq_true rfl⟩ (fun r4 T3 => ?_)
    refine j_if_eq (pc := 25) 36 C dX9_leftAtWorst_25 (by decide) ?_ ?_
    ·
      refine j_iload_n (pc := 36) 3 C dX9_leftAtWorst_36 rfl rfl ?_
      exact j_iret C dX9_leftAtWorst_37 rfl (Nat.le_of_ble_eq_true rfl) (Nat.le_of_ble_eq_true rfl)
    ·
      refine j_iload_n (pc := 28) 3 C dX9_leftAtWorst_28 rfl rfl ?_
      refine j_iconst (pc := 29) 1 C dX9_leftAtWorst_29 (by decide) ?_
      refine j_isub (pc := 30) C dX9_leftAtWorst_30 ?_
      refine j_iconst (pc := 31) 1 C dX9_leftAtWorst_31 (by decide) ?_
      refine j_mmax (pc := 32) C dX9_leftAtWorst_32 q_696 q_697 q_45 q_698 (by omega) (Nat.le_of_ble_eq_true rfl) (Nat.le_of_ble_eq_true rfl) (Nat.le_of_ble_eq_true rfl) ?_
      exact j_iret C dX9_leftAtWorst_35 rfl (Nat.le_of_ble_eq_true rfl) (Nat.le_of_ble_eq_true rfl)
theorem cC_Main_leftAtWorst {l : Launch} {G : Gc} (hfl : l.stackTraces = false) (hW : Wok G wC 54)   (x1 : Int32) (x2 : Int32) (x3 : Int32) (S : St) : Ct l yX9_leftAtWorst (Cond.code yX9_leftAtWorst cX9_leftAtWorst 4 (some .int) :: tblG) 6 0 0 G wC 54 [.ref (gA G 0), .int x1, .int x2, .int x3] S (fC_Main_leftAtWorst x1 x2 x3 S) := ct_of (own := RX9) hfl (by decide +kernel) rfl hW (Nat.le_of_ble_eq_true rfl) (fun E hE C => by subst hE; exact bC_Main_leftAtWorst C   x1 x2 x3 S)
theorem rC_Main_leftAtWorst {E : Ec} {G : Gc} {nL mc ms : Nat} {own : String} {cc : ByteArray} {L : Nat} {ret : Option FieldType} {k n pc ix : Nat} {loc : List (Nat × Value)} {rest : List Value}  {x1 : Int32} {x2 : Int32} {x3 : Int32} {S : St}  (C : JC E (VC G nL mc ms own) cc L ret) (hd : decode cc pc = .ok (.invokevirtual ix, 3)) (hq : Cond.methodLink own ix yX9_leftAtWorst ∈ tblG) (hL : 6 + 1 ≤ L) (hW : (rest.map fun v => v.category).sum ≤ 8) (hf : k + 0 ≤ mc ∧ n + 0 ≤ ms) : Rn E (VC G nL mc ms own) k n 0 0 pc loc (.int x3 :: .int x2 :: .int x1 :: .ref (gA G 0) :: rest) rest S (fC_Main_leftAtWorst x1 x2 x3 S) := rn_V (ci := 9) 0 (V := VC G nL mc ms own) (As := [.int x1, .int x2, .int x3]) (Cq := (RX9, TX9, 15)) (cC_Main_leftAtWorst C.flags C.wok  x1 x2 x3 S) knX9_leftAtWorst ⟨q_700, q_701⟩ rfl rfl C hd hq hL rfl rfl hW hf

theorem knX9_look : Kn yX9_look cX9_look 8 (some .int) 1 := ⟨q_703, q_40, by decide +kernel, by decide⟩
theorem bC_Main_look_87 {E : Ec} {G : Gc}   {K23 : Int32 → Int32 → Int32 → Int32 → Int32 → St → Oz} {K38 : Int32 → Int32 → Int32 → Int32 → Int32 → Int32 → St → Oz} (C : JC E (VC G 8 1 6 RX9) cX9_look 8 (some .int))   (hK23 : ∀ (x1 : Int32) (x2 : Int32) (x3 : Int32) (x4 : Int32) (x5 : Int32) (S : St), J E (VC G 8 1 6 RX9) 1 6 23 [(0, .ref (gA G 0)), (1, .int x1), (2, .int x2), (3, .int x3), (4, .int x4), (5, .int x5)] [] S (K23 x1 x2 x3 x4 x5 S)) (hK38 : ∀ (x1 : Int32) (x2 : Int32) (x3 : Int32) (x4 : Int32) (x5 : Int32) (x6 : Int32) (S : St), J E (VC G 8 1 6 RX9) 1 6 38 [(0, .ref (gA G 0)), (1, .int x1), (2, .int x2), (3, .int x3), (4, .int x4), (5, .int x5), (6, .int x6)] [] S (K38 x1 x2 x3 x4 x5 x6 S)) (x1 : Int32) (x2 : Int32) (x5 : Int32) (x6 : Int32) (x7 : Int32) (S : St) : J E (VC G 8 1 6 RX9) 1 6 87 [(0, .ref (gA G 0)), (1, .int x1), (2, .int x2), (5, .int x5), (6, .int x6), (7, .int x7)] [] S (fC_Main_look_87 K23 K38 x1 x2 x5 x6 x7 S) := by
  unfold fC_Main_look_87
  refine j_bipush (pc := 87) 10 C dX9_look_87 (by decide) ?_
  refine j_iload (pc := 89) 3 C dX9_look_89 rfl ?_
  refine j_imul (pc := 91) C dX9_look_91 ?_
  refine j_iload (pc := 92) 4 C dX9_look_92 rfl ?_
  refine j_iadd (pc := 94) C dX9_look_94 ?_
  refine j_nxI (fun v1 => ?_)
  refine j_istore_n (pc := 95) [(3, .int v1), (0, .ref (gA G 0)), (1, .int x1), (2, .int x2), (5, .int x5), (6, .int x6), (7, .int x7)] C dX9_look_95 rfl (Nat.le_of_ble_eq_true rfl) rfl ?_
  refine j_iload (pc := 96) 6 C dX9_look_96 rfl ?_
  refine j_istore (pc := 98) [(4, .int x7), (3, .int v1), (0, .ref (gA G 0)), (1, .int x1), (2, .int x2), (5, .int x5), (6, .int x6), (7, .int x7)] C dX9_look_98 (Nat.le_of_ble_eq_true rfl) rfl ?_
  refine j_iinc (pc := 100) 6 (x6 + 1) [(6, .int (x6 + 1)), (4, .int x7), (3, .int v1), (0, .ref (gA G 0)), (1, .int x1), (2, .int x2), (5, .int x5), (7, .int x7)] C dX9_look_100 rfl rfl (Nat.le_of_ble_eq_true rfl) rfl ?_
  refine j_goto (pc := 103) 38 C dX9_look_103 (by decide) ?_
  refine j_sub [3, 4, 5, 2, 1, 6, 0] rfl ?_
  exact hK38 x1 x2 v1 x7 x5 (x6 + 1) S
theorem bC_Main_look_38 {E : Ec} {G : Gc}   {K23 : Int32 → Int32 → Int32 → Int32 → Int32 → St → Oz} (C : JC E (VC G 8 1 6 RX9) cX9_look 8 (some .int))   (hK23 : ∀ (x1 : Int32) (x2 : Int32) (x3 : Int32) (x4 : Int32) (x5 : Int32) (S : St), J E (VC G 8 1 6 RX9) 1 6 23 [(0, .ref (gA G 0)), (1, .int x1), (2, .int x2), (3, .int x3), (4, .int x4), (5, .int x5)] [] S (K23 x1 x2 x3 x4 x5 S)) : ∀ (n : Nat) (x1 : Int32) (x2 : Int32) (x3 : Int32) (x4 : Int32) (x5 : Int32) (x6 : Int32) (S : St), J E (VC G 8 1 6 RX9) 1 6 38 [(0, .ref (gA G 0)), (1, .int x1), (2, .int x2), (3, .int x3), (4, .int x4), (5, .int x5), (6, .int x6)] [] S (fC_Main_look_38 K23 n x1 x2 x3 x4 x5 x6 S) := by
  intro n
  induction n with
  | zero => intro x1 x2 x3 x4 x5 x6 S; rw [fC_Main_look_38]; exact j_none
  | succ n ih =>
    intro x1 x2 x3 x4 x5 x6 S
    rw [fC_Main_look_38]
    refine j_iload (pc := 38) 6 C dX9_look_38 rfl ?_
    refine j_aload_n (pc := 40) 0 C dX9_look_40 rfl rfl ?_
    refine gC_0_1 (pc := 41) C dX9_look_41 q_148 ?_
    refine gC_2_0 (pc := 44) C dX9_look_44 q_466 ?_
    refine j_icmp_ge (pc := 47) 106 C dX9_look_47 (by decide) ?_ ?_
    ·
      refine j_iinc (pc := 106) 5 (x5 + 1) [(5, .int (x5 + 1)), (0, .ref (gA G 0)), (1, .int x1), (2, .int x2), (3, .int x3), (4, .int x4), (6, .int x6)] C dX9_look_106 rfl rfl (Nat.le_of_ble_eq_true rfl) rfl ?_
      refine j_goto (pc := 109) 23 C dX9_look_109 (by decide) ?_
      refine j_sub [1, 2, 3, 4, 5, 0] rfl ?_
      exact hK23 x1 x2 x3 x4 (x5 + 1) S
    ·
      refine j_aload_n (pc := 50) 0 C dX9_look_50 rfl rfl ?_
      refine gC_0_5 (pc := 51) C dX9_look_51 q_169 ?_
      refine j_iload (pc := 54) 5 C dX9_look_54 rfl ?_
      refine j_iload (pc := 56) 6 C dX9_look_56 rfl ?_
      refine j_callI0 (pc := 58) C (rC_Book_tells_6 C dX9_look_58 q_694 (by omega) (Nat.le_of_ble_eq_true rfl) ⟨Nat.le_of_ble_eq_true rfl, Nat.le_of_ble_eq_true rfl⟩) ⟨Nat.le_of_ble_eq_true rfl, Nat.le_of_ble_eq_true rfl⟩ (fun r2 T1 => ?_)
      refine j_if_ne (pc := 61) 100 C dX9_look_61 (by decide) ?_ ?_
      ·
        refine j_iinc (pc := 100) 6 (x6 + 1) [(6, .int (x6 + 1)), (0, .ref (gA G 0)), (1, .int x1), (2, .int x2), (3, .int x3), (4, .int x4), (5, .int x5)] C dX9_look_100 rfl rfl (Nat.le_of_ble_eq_true rfl) rfl ?_
        refine j_goto (pc := 103) 38 C dX9_look_103 (by decide) ?_
        refine j_sub [1, 2, 3, 4, 5, 6, 0] rfl ?_
        exact ih x1 x2 x3 x4 x5 (x6 + 1) T1
      ·
        refine j_aload_n (pc := 64) 0 C dX9_look_64 rfl rfl ?_
        refine j_iload (pc := 65) 5 C dX9_look_65 rfl ?_
        refine j_iload (pc := 67) 6 C dX9_look_67 rfl ?_
        refine j_iload_n (pc := 69) 2 C dX9_look_69 rfl rfl ?_
        refine j_callI0 (pc := 70) C (rC_Main_leftAtWorst C dX9_look_70 q_702 (by omega) (Nat.le_of_ble_eq_true rfl) ⟨Nat.le_of_ble_eq_true rfl, Nat.le_of_ble_eq_true rfl⟩) ⟨Nat.le_of_ble_eq_true rfl, Nat.le_of_ble_eq_true rfl⟩ (fun r4 T3 => ?_)
        refine j_istore (pc := 73) [(7, .int r4), (0, .ref (gA G 0)), (1, .int x1), (2, .int x2), (3, .int x3), (4, .int x4), (5, .int x5), (6, .int x6)] C dX9_look_73 (Nat.le_of_ble_eq_true rfl) rfl ?_
        refine j_iload_n (pc := 75) 4 C dX9_look_75 rfl rfl ?_
        refine j_iconst (pc := 76) (-1) C dX9_look_76 (by decide) ?_
        refine j_icmp_eq (pc := 77) 87 C dX9_look_77 (by decide) ?_ ?_
        ·
          refine j_sub [1, 2, 3, 6, 7, 0] rfl ?_
          exact bC_Main_look_87 C hK23 ih x1 x2 x5 x6 r4 T3
        ·
          refine j_iload (pc := 80) 0 C dX9_look_80 rfl ?_
          refine j_iload (pc := 82) 5 C dX9_look_82 rfl ?_
          refine j_icmp_ge (pc := 84) 100 C dX9_look_84 (by decide) ?_ ?_
          ·
            refine j_iinc (pc := 100) 7 (x6 + 1) [(6, .int (x6 + 1)), (7, .int r4), (0, .ref (gA G 0)), (1, .int x1), (2, .int x2), (3, .int x3), (4, .int x4), (5, .int x5)] C dX9_look_100 rfl rfl (Nat.le_of_ble_eq_true rfl) rfl ?_
            refine j_goto (pc := 103) 38 C dX9_look_103 (by decide) ?_
            refine j_sub [2, 3, 4, 5, 6, 7, 0] rfl ?_
            exact ih x1 x2 x3 x4 x5 (x6 + 1) T3
          ·
            refine j_sub [1, 2, 3, 6, 7, 0] rfl ?_
            exact bC_Main_look_87 C hK23 ih x1 x2 x5 x6 r4 T3
theorem bC_Main_look_23 {E : Ec} {G : Gc}    (C : JC E (VC G 8 1 6 RX9) cX9_look 8 (some .int))    : ∀ (n : Nat) (x1 : Int32) (x2 : Int32) (x3 : Int32) (x4 : Int32) (x5 : Int32) (S : St), J E (VC G 8 1 6 RX9) 1 6 23 [(0, .ref (gA G 0)), (1, .int x1), (2, .int x2), (3, .int x3), (4, .int x4), (5, .int x5)] [] S (fC_Main_look_23  n x1 x2 x3 x4 x5 S) := by
  intro n
  induction n with
  | zero => intro x1 x2 x3 x4 x5 S; rw [fC_Main_look_23]; exact j_none
  | succ n ih =>
    intro x1 x2 x3 x4 x5 S
    rw [fC_Main_look_23]
    refine j_iload (pc := 23) 5 C dX9_look_23 rfl ?_
    refine j_aload_n (pc := 25) 0 C dX9_look_25 rfl rfl ?_
    refine gC_0_1 (pc := 26) C dX9_look_26 q_148 ?_
    refine gC_2_1 (pc := 29) C dX9_look_29 q_467 ?_
    refine j_icmp_ge (pc := 32) 112 C dX9_look_32 (by decide) ?_ ?_
    ·
      refine j_iload_n (pc := 112) 1 C dX9_look_112 rfl rfl ?_
      refine j_if_ne (pc := 113) 120 C dX9_look_113 (by decide) ?_ ?_
      ·
        refine j_iload (pc := 120) 4 C dX9_look_120 rfl ?_
        exact j_iret C dX9_look_122 rfl (Nat.le_of_ble_eq_true rfl) (Nat.le_of_ble_eq_true rfl)
      ·
        refine j_iload_n (pc := 116) 3 C dX9_look_116 rfl rfl ?_
        refine j_goto (pc := 117) 122 C dX9_look_117 (by decide) ?_
        exact j_iret C dX9_look_122 rfl (Nat.le_of_ble_eq_true rfl) (Nat.le_of_ble_eq_true rfl)
    ·
      refine j_iconst (pc := 35) 0 C dX9_look_35 (by decide) ?_
      refine j_istore (pc := 36) [(6, .int 0), (0, .ref (gA G 0)), (1, .int x1), (2, .int x2), (3, .int x3), (4, .int x4), (5, .int x5)] C dX9_look_36 (Nat.le_of_ble_eq_true rfl) rfl ?_
      refine j_sub [1, 2, 3, 4, 5, 6, 0] rfl ?_
      exact bC_Main_look_38 C ih FU x1 x2 x3 x4 x5 0 S
theorem bC_Main_look {E : Ec} {G : Gc}    (C : JC E (VC G 8 1 6 RX9) cX9_look 8 (some .int))    (x1 : Int32) (S : St) : J E (VC G 8 1 6 RX9) 0 0 0 [(0, .ref (gA G 0)), (1, .int x1)] [] S (fC_Main_look  x1 S) := by
  unfold fC_Main_look
  refine j_aload_n (pc := 0) 0 C dX9_look_0 rfl rfl ?_
  refine j_iload_n (pc := 1) 1 C dX9_look_1 rfl rfl ?_
  refine j_iconst (pc := 2) 0 C dX9_look_2 (by decide) ?_
  refine j_iconst (pc := 3) 1 C dX9_look_3 (by decide) ?_
  refine j_callI0 (pc := 4) C (rC_Main_isWithin C dX9_look_4 q_49 (by omega) (Nat.le_of_ble_eq_true rfl) ⟨Nat.le_of_ble_eq_true rfl, Nat.le_of_ble_eq_true rfl⟩) ⟨Nat.le_of_ble_eq_true rfl, Nat.le_of_ble_eq_true rfl⟩ (fun r2 T1 => ?_)
  refine j_callv (pc := 7) C (rC_Main_need C dX9_look_7 q_60 (by omega) (Nat.le_of_ble_eq_true rfl) ⟨Nat.le_of_ble_eq_true rfl, Nat.le_of_ble_eq_true rfl⟩) ⟨Nat.le_of_ble_eq_true rfl, Nat.le_of_ble_eq_true rfl⟩ (fun T3 => ?_)
  refine j_aload_n (pc := 10) 0 C dX9_look_10 rfl rfl ?_
  refine j_callI0 (pc := 11) C (rC_Main_pairsThatFit C dX9_look_11 q_690 (by omega) (Nat.le_of_ble_eq_true rfl) ⟨Nat.le_of_ble_eq_true rfl, Nat.le_of_ble_eq_true rfl⟩) ⟨Nat.le_of_ble_eq_true rfl, Nat.le_of_ble_eq_true rfl⟩ (fun r6 T5 => ?_)
  refine j_istore_n (pc := 14) [(2, .int r6), (0, .ref (gA G 0)), (1, .int x1)] C dX9_look_14 rfl (Nat.le_of_ble_eq_true rfl) rfl ?_
  refine j_iconst (pc := 15) (-1) C dX9_look_15 (by decide) ?_
  refine j_istore_n (pc := 16) [(3, .int (-1)), (2, .int r6), (0, .ref (gA G 0)), (1, .int x1)] C dX9_look_16 rfl (Nat.le_of_ble_eq_true rfl) rfl ?_
  refine j_iconst (pc := 17) (-1) C dX9_look_17 (by decide) ?_
  refine j_istore (pc := 18) [(4, .int (-1)), (3, .int (-1)), (2, .int r6), (0, .ref (gA G 0)), (1, .int x1)] C dX9_look_18 (Nat.le_of_ble_eq_true rfl) rfl ?_
  refine j_iconst (pc := 20) 0 C dX9_look_20 (by decide) ?_
  refine j_istore (pc := 21) [(5, .int 0), (4, .int (-1)), (3, .int (-1)), (2, .int r6), (0, .ref (gA G 0)), (1, .int x1)] C dX9_look_21 (Nat.le_of_ble_eq_true rfl) rfl ?_
  refine j_sub [4, 5, 3, 2, 1, 0] rfl ?_
  exact bC_Main_look_23 C  FU x1 r6 (-1) (-1) 0 T5
theorem cC_Main_look {l : Launch} {G : Gc} (hfl : l.stackTraces = false) (hW : Wok G wC 54)   (x1 : Int32) (S : St) : Ct l yX9_look (Cond.code yX9_look cX9_look 8 (some .int) :: tblG) 8 1 6 G wC 54 [.ref (gA G 0), .int x1] S (fC_Main_look x1 S) := ct_of (own := RX9) hfl (by decide +kernel) rfl hW (Nat.le_of_ble_eq_true rfl) (fun E hE C => by subst hE; exact bC_Main_look C   x1 S)
theorem rC_Main_look {E : Ec} {G : Gc} {nL mc ms : Nat} {own : String} {cc : ByteArray} {L : Nat} {ret : Option FieldType} {k n pc ix : Nat} {loc : List (Nat × Value)} {rest : List Value}  {x1 : Int32} {S : St}  (C : JC E (VC G nL mc ms own) cc L ret) (hd : decode cc pc = .ok (.invokevirtual ix, 3)) (hq : Cond.methodLink own ix yX9_look ∈ tblG) (hL : 8 + 1 ≤ L) (hW : (rest.map fun v => v.category).sum ≤ 8) (hf : k + 1 ≤ mc ∧ n + 6 ≤ ms) : Rn E (VC G nL mc ms own) k n 1 6 pc loc (.int x1 :: .ref (gA G 0) :: rest) rest S (fC_Main_look x1 S) := rn_V (ci := 9) 0 (V := VC G nL mc ms own) (As := [.int x1]) (Cq := (RX9, TX9, 15)) (cC_Main_look C.flags C.wok  x1 S) knX9_look ⟨q_704, q_705⟩ rfl rfl C hd hq hL rfl rfl hW hf

theorem knX9_power : Kn yX9_power cX9_power 5 (some .long) 2 := ⟨q_706, q_40, by decide +kernel, by decide⟩
theorem bC_Main_power_5 {E : Ec} {G : Gc}    (C : JC E (VC G 5 0 0 RX9) cX9_power 1 (some .long))    : ∀ (n : Nat) (x0 : Int32) (x1 : Int32) (x2 : Int64) (x4 : Int32) (S : St), J E (VC G 5 0 0 RX9) 0 0 5 [(0, .int x0), (1, .int x1), (2, .long x2), (4, .int x4)] [] S (fC_Main_power_5  n x0 x1 x2 x4 S) := by
  intro n
  induction n with
  | zero => intro x0 x1 x2 x4 S; rw [fC_Main_power_5]; exact j_none
  | succ n ih =>
    intro x0 x1 x2 x4 S
    rw [fC_Main_power_5]
    refine j_iload (pc := 5) 3 C dX9_power_5 rfl ?_
    refine j_iload_n (pc := 7) 1 C dX9_power_7 rfl rfl ?_
    refine j_icmp_ge (pc := 8) 22 C dX9_power_8 (by decide) ?_ ?_
    ·
      refine j_lload_n (pc := 22) 2 C dX9_power_22 rfl rfl ?_
      exact j_lret C dX9_power_23 rfl (Nat.le_of_ble_eq_true rfl) (Nat.le_of_ble_eq_true rfl)
    ·
      refine j_lload_n (pc := 11) 2 C dX9_power_11 rfl rfl ?_
      refine j_iload_n (pc := 12) 0 C dX9_power_12 rfl rfl ?_
      refine j_i2l (pc := 13) C dX9_power_13 ?_
      refine j_lmul (pc := 14) C dX9_power_14 ?_
      refine j_nxL (fun v1 => ?_)
      refine j_lstore_n (pc := 15) [(2, .long v1), (0, .int x0), (1, .int x1), (4, .int x4)] C dX9_power_15 rfl (Nat.le_of_ble_eq_true rfl) rfl ?_
      refine j_iinc (pc := 16) 3 (x4 + 1) [(4, .int (x4 + 1)), (2, .long v1), (0, .int x0), (1, .int x1)] C dX9_power_16 rfl rfl (Nat.le_of_ble_eq_true rfl) rfl ?_
      refine j_goto (pc := 19) 5 C dX9_power_19 (by decide) ?_
      refine j_sub [2, 3, 1, 0] rfl ?_
      exact ih x0 x1 v1 (x4 + 1) S
theorem bC_Main_power {E : Ec} {G : Gc}    (C : JC E (VC G 5 0 0 RX9) cX9_power 1 (some .long))    (x0 : Int32) (x1 : Int32) (S : St) : J E (VC G 5 0 0 RX9) 0 0 0 [(0, .int x0), (1, .int x1)] [] S (fC_Main_power  x0 x1 S) := by
  unfold fC_Main_power
  refine j_lconst (pc := 0) 1 C dX9_power_0 (by decide) ?_
  refine j_lstore_n (pc := 1) [(2, .long 1), (0, .int x0), (1, .int x1)] C dX9_power_1 rfl (Nat.le_of_ble_eq_true rfl) rfl ?_
  refine j_iconst (pc := 2) 0 C dX9_power_2 (by decide) ?_
  refine j_istore (pc := 3) [(4, .int 0), (2, .long 1), (0, .int x0), (1, .int x1)] C dX9_power_3 (Nat.le_of_ble_eq_true rfl) rfl ?_
  refine j_sub [2, 3, 1, 0] rfl ?_
  exact bC_Main_power_5 C  FU x0 x1 1 0 S
theorem cC_Main_power {l : Launch} {G : Gc} (hfl : l.stackTraces = false) (hW : Wok G wC 54)   (x0 : Int32) (x1 : Int32) (S : St) : Ct l yX9_power (Cond.code yX9_power cX9_power 5 (some .long) :: tblG) 1 0 0 G wC 54 [.int x0, .int x1] S (fC_Main_power x0 x1 S) := ct_of (own := RX9) hfl (by decide +kernel) rfl hW (Nat.le_of_ble_eq_true rfl) (fun E hE C => by subst hE; exact bC_Main_power C   x0 x1 S)
theorem rC_Main_power {E : Ec} {G : Gc} {nL mc ms : Nat} {own : String} {cc : ByteArray} {L : Nat} {ret : Option FieldType} {k n pc ix : Nat} {loc : List (Nat × Value)} {rest : List Value}  {x0 : Int32} {x1 : Int32} {S : St}  (C : JC E (VC G nL mc ms own) cc L ret) (hd : decode cc pc = .ok (.invokestatic ix, 3)) (hq : Cond.methodLink own ix yX9_power ∈ tblG) (hL : 1 + 1 ≤ L) (hW : (rest.map fun v => v.category).sum ≤ 8) (hf : k + 0 ≤ mc ∧ n + 0 ≤ ms) : Rn E (VC G nL mc ms own) k n 0 0 pc loc (.int x1 :: .int x0 :: rest) rest S (fC_Main_power x0 x1 S) := rn_S (V := VC G nL mc ms own) (As := [.int x0, .int x1]) (cC_Main_power C.flags C.wok  x0 x1 S) knX9_power q_707  C hd hq hL rfl rfl hW hf

theorem knX9_choices : Kn yX9_choices cX9_choices 5 (some .long) 2 := ⟨q_709, q_40, by decide +kernel, by decide⟩
theorem bC_Main_choices_5 {E : Ec} {G : Gc}    (C : JC E (VC G 5 0 0 RX9) cX9_choices 1 (some .long))    : ∀ (n : Nat) (x0 : Int32) (x1 : Int32) (x2 : Int64) (x4 : Int32) (S : St), J E (VC G 5 0 0 RX9) 0 0 5 [(0, .int x0), (1, .int x1), (2, .long x2), (4, .int x4)] [] S (fC_Main_choices_5  n x0 x1 x2 x4 S) := by
  intro n
  induction n with
  | zero => intro x0 x1 x2 x4 S; rw [fC_Main_choices_5]; exact j_none
  | succ n ih =>
    intro x0 x1 x2 x4 S
    rw [fC_Main_choices_5]
    refine j_iload (pc := 5) 3 C dX9_choices_5 rfl ?_
    refine j_iload_n (pc := 7) 1 C dX9_choices_7 rfl rfl ?_
    refine j_icmp_gt (pc := 8) 31 C dX9_choices_8 (by decide) ?_ ?_
    ·
      refine j_lload_n (pc := 31) 2 C dX9_choices_31 rfl rfl ?_
      exact j_lret C dX9_choices_32 rfl (Nat.le_of_ble_eq_true rfl) (Nat.le_of_ble_eq_true rfl)
    ·
      refine j_lload_n (pc := 11) 2 C dX9_choices_11 rfl rfl ?_
      refine j_iload_n (pc := 12) 0 C dX9_choices_12 rfl rfl ?_
      refine j_iload_n (pc := 13) 1 C dX9_choices_13 rfl rfl ?_
      refine j_isub (pc := 14) C dX9_choices_14 ?_
      refine j_iload (pc := 15) 3 C dX9_choices_15 rfl ?_
      refine j_iadd (pc := 17) C dX9_choices_17 ?_
      refine j_i2l (pc := 18) C dX9_choices_18 ?_
      refine j_lmul (pc := 19) C dX9_choices_19 ?_
      refine j_iload (pc := 20) 3 C dX9_choices_20 rfl ?_
      refine j_i2l (pc := 22) C dX9_choices_22 ?_
      refine j_ldiv (pc := 23) C dX9_choices_23 ?_
      refine j_nxL (fun v1 => ?_)
      refine j_lstore_n (pc := 24) [(2, .long v1), (0, .int x0), (1, .int x1), (4, .int x4)] C dX9_choices_24 rfl (Nat.le_of_ble_eq_true rfl) rfl ?_
      refine j_iinc (pc := 25) 3 (x4 + 1) [(4, .int (x4 + 1)), (2, .long v1), (0, .int x0), (1, .int x1)] C dX9_choices_25 rfl rfl (Nat.le_of_ble_eq_true rfl) rfl ?_
      refine j_goto (pc := 28) 5 C dX9_choices_28 (by decide) ?_
      refine j_sub [2, 3, 1, 0] rfl ?_
      exact ih x0 x1 v1 (x4 + 1) S
theorem bC_Main_choices {E : Ec} {G : Gc}    (C : JC E (VC G 5 0 0 RX9) cX9_choices 1 (some .long))    (x0 : Int32) (x1 : Int32) (S : St) : J E (VC G 5 0 0 RX9) 0 0 0 [(0, .int x0), (1, .int x1)] [] S (fC_Main_choices  x0 x1 S) := by
  unfold fC_Main_choices
  refine j_lconst (pc := 0) 1 C dX9_choices_0 (by decide) ?_
  refine j_lstore_n (pc := 1) [(2, .long 1), (0, .int x0), (1, .int x1)] C dX9_choices_1 rfl (Nat.le_of_ble_eq_true rfl) rfl ?_
  refine j_iconst (pc := 2) 1 C dX9_choices_2 (by decide) ?_
  refine j_istore (pc := 3) [(4, .int 1), (2, .long 1), (0, .int x0), (1, .int x1)] C dX9_choices_3 (Nat.le_of_ble_eq_true rfl) rfl ?_
  refine j_sub [2, 3, 1, 0] rfl ?_
  exact bC_Main_choices_5 C  FU x0 x1 1 1 S
theorem cC_Main_choices {l : Launch} {G : Gc} (hfl : l.stackTraces = false) (hW : Wok G wC 54)   (x0 : Int32) (x1 : Int32) (S : St) : Ct l yX9_choices (Cond.code yX9_choices cX9_choices 5 (some .long) :: tblG) 1 0 0 G wC 54 [.int x0, .int x1] S (fC_Main_choices x0 x1 S) := ct_of (own := RX9) hfl (by decide +kernel) rfl hW (Nat.le_of_ble_eq_true rfl) (fun E hE C => by subst hE; exact bC_Main_choices C   x0 x1 S)
theorem rC_Main_choices {E : Ec} {G : Gc} {nL mc ms : Nat} {own : String} {cc : ByteArray} {L : Nat} {ret : Option FieldType} {k n pc ix : Nat} {loc : List (Nat × Value)} {rest : List Value}  {x0 : Int32} {x1 : Int32} {S : St}  (C : JC E (VC G nL mc ms own) cc L ret) (hd : decode cc pc = .ok (.invokestatic ix, 3)) (hq : Cond.methodLink own ix yX9_choices ∈ tblG) (hL : 1 + 1 ≤ L) (hW : (rest.map fun v => v.category).sum ≤ 8) (hf : k + 0 ≤ mc ∧ n + 0 ≤ ms) : Rn E (VC G nL mc ms own) k n 0 0 pc loc (.int x1 :: .int x0 :: rest) rest S (fC_Main_choices x0 x1 S) := rn_S (V := VC G nL mc ms own) (As := [.int x0, .int x1]) (cC_Main_choices C.flags C.wok  x0 x1 S) knX9_choices q_710  C hd hq hL rfl rfl hW hf

