theorem knX10_would : Kn yX10_would cX10_would 9 (some .int) 8 := ⟨q_1145, q_815, by decide +kernel, by decide⟩
theorem bR_would_99 {E : Ec} {G : Gc}    (C : JC E (VR G 9 0 0 RX10) cX10_would 5 (some .int))    (x1 : Int32) (x2 : Int32) (x3 : Int32) (x4 : Int32) (x5 : Int32) (x6 : Int32) (x7 : Int32) (x8 : Int32) (s0 : Int32) (S : St) : J E (VR G 9 0 0 RX10) 0 0 99 [(0, .ref (gA G 0)), (1, .int x1), (2, .int x2), (3, .int x3), (4, .int x4), (5, .int x5), (6, .int x6), (7, .int x7), (8, .int x8)] [.int s0, .ref (gA G 0)] S (fR_would_99  x1 x2 x3 x4 x5 x6 x7 x8 s0 S) := by
  unfold fR_would_99
  refine j_iconst (pc := 99) 1 C dX10_would_99 (by decide) ?_
  refine j_iconst (pc := 100) 1 C dX10_would_100 (by decide) ?_
  refine j_callI0 (pc := 101) C (rR_may C dX10_would_101 q_822 (by omega) (Nat.le_of_ble_eq_true rfl) ⟨Nat.le_of_ble_eq_true rfl, Nat.le_of_ble_eq_true rfl⟩) ⟨Nat.le_of_ble_eq_true rfl, Nat.le_of_ble_eq_true rfl⟩ (fun r2 T1 => ?_)
  refine j_if_ne (pc := 104) 109 C dX10_would_104 (by decide) ?_ ?_
  ·
    refine j_aload_n (pc := 109) 0 C dX10_would_109 rfl rfl ?_
    refine j_iload_n (pc := 110) 1 C dX10_would_110 rfl rfl ?_
    refine j_iload_n (pc := 111) 2 C dX10_would_111 rfl rfl ?_
    refine j_iload_n (pc := 112) 3 C dX10_would_112 rfl rfl ?_
    refine j_iload (pc := 113) 4 C dX10_would_113 rfl ?_
    refine j_iload (pc := 115) 5 C dX10_would_115 rfl ?_
    refine j_iload (pc := 117) 6 C dX10_would_117 rfl ?_
    refine j_iload (pc := 119) 7 C dX10_would_119 rfl ?_
    refine j_iload (pc := 121) 8 C dX10_would_121 rfl ?_
    refine j_callI0 (pc := 123) C (rR_learnsOf C dX10_would_123 q_1056 (by omega) (Nat.le_of_ble_eq_true rfl) ⟨Nat.le_of_ble_eq_true rfl, Nat.le_of_ble_eq_true rfl⟩) ⟨Nat.le_of_ble_eq_true rfl, Nat.le_of_ble_eq_true rfl⟩ (fun r4 T3 => ?_)
    exact j_iret C dX10_would_126 rfl (Nat.le_of_ble_eq_true rfl) (Nat.le_of_ble_eq_true rfl)
  ·
    refine j_iconst (pc := 107) 0 C dX10_would_107 (by decide) ?_
    exact j_iret C dX10_would_108 rfl (Nat.le_of_ble_eq_true rfl) (Nat.le_of_ble_eq_true rfl)
theorem bR_would_98 {E : Ec} {G : Gc}    (C : JC E (VR G 9 0 0 RX10) cX10_would 5 (some .int))    (x1 : Int32) (x2 : Int32) (x3 : Int32) (x4 : Int32) (x5 : Int32) (x6 : Int32) (x7 : Int32) (x8 : Int32) (S : St) : J E (VR G 9 0 0 RX10) 0 0 98 [(0, .ref (gA G 0)), (1, .int x1), (2, .int x2), (3, .int x3), (4, .int x4), (5, .int x5), (6, .int x6), (7, .int x7), (8, .int x8)] [.ref (gA G 0)] S (fR_would_98  x1 x2 x3 x4 x5 x6 x7 x8 S) := by
  unfold fR_would_98
  refine j_iconst (pc := 98) 0 C dX10_would_98 (by decide) ?_
  exact bR_would_99 C  x1 x2 x3 x4 x5 x6 x7 x8 0 S
theorem bR_would {E : Ec} {G : Gc}    (C : JC E (VR G 9 0 0 RX10) cX10_would 5 (some .int))    (x1 : Int32) (x2 : Int32) (x3 : Int32) (x4 : Int32) (x5 : Int32) (x6 : Int32) (x7 : Int32) (x8 : Int32) (S : St) : J E (VR G 9 0 0 RX10) 0 0 0 [(0, .ref (gA G 0)), (1, .int x1), (2, .int x2), (3, .int x3), (4, .int x4), (5, .int x5), (6, .int x6), (7, .int x7), (8, .int x8)] [] S (fR_would  x1 x2 x3 x4 x5 x6 x7 x8 S) := by
  unfold fR_would
  refine j_aload_n (pc := 0) 0 C dX10_would_0 rfl rfl ?_
  refine j_iconst (pc := 1) 0 C dX10_would_1 (by decide) ?_
  refine pR_0_0 (pc := 2) C dX10_would_2 q_811 ?_
  refine j_nxS (fun T1 => ?_)
  refine j_aload_n (pc := 5) 0 C dX10_would_5 rfl rfl ?_
  refine j_iload_n (pc := 6) 1 C dX10_would_6 rfl rfl ?_
  refine j_iconst (pc := 7) 1 C dX10_would_7 (by decide) ?_
  refine j_bipush (pc := 8) 40 C dX10_would_8 (by decide) ?_
  refine j_callI0 (pc := 10) C (rR_within C dX10_would_10 q_1094 (by omega) (Nat.le_of_ble_eq_true rfl) ⟨Nat.le_of_ble_eq_true rfl, Nat.le_of_ble_eq_true rfl⟩) ⟨Nat.le_of_ble_eq_true rfl, Nat.le_of_ble_eq_true rfl⟩ (fun r3 T2 => ?_)
  refine j_if_eq (pc := 13) 98 C dX10_would_13 (by decide) ?_ ?_
  ·
    exact bR_would_98 C  x1 x2 x3 x4 x5 x6 x7 x8 T2
  ·
    refine j_iload_n (pc := 16) 2 C dX10_would_16 rfl rfl ?_
    refine j_iconst (pc := 17) 0 C dX10_would_17 (by decide) ?_
    refine j_bipush (pc := 18) 9 C dX10_would_18 (by decide) ?_
    refine j_callI0 (pc := 20) C (rR_within C dX10_would_20 q_1094 (by omega) (Nat.le_of_ble_eq_true rfl) ⟨Nat.le_of_ble_eq_true rfl, Nat.le_of_ble_eq_true rfl⟩) ⟨Nat.le_of_ble_eq_true rfl, Nat.le_of_ble_eq_true rfl⟩ (fun r5 T4 => ?_)
    refine j_if_eq (pc := 23) 98 C dX10_would_23 (by decide) ?_ ?_
    ·
      exact bR_would_98 C  x1 x2 x3 x4 x5 x6 x7 x8 T4
    ·
      refine j_iload_n (pc := 26) 3 C dX10_would_26 rfl rfl ?_
      refine j_iconst (pc := 27) 0 C dX10_would_27 (by decide) ?_
      refine j_bipush (pc := 28) 40 C dX10_would_28 (by decide) ?_
      refine j_callI0 (pc := 30) C (rR_within C dX10_would_30 q_1094 (by omega) (Nat.le_of_ble_eq_true rfl) ⟨Nat.le_of_ble_eq_true rfl, Nat.le_of_ble_eq_true rfl⟩) ⟨Nat.le_of_ble_eq_true rfl, Nat.le_of_ble_eq_true rfl⟩ (fun r7 T6 => ?_)
      refine j_if_eq (pc := 33) 98 C dX10_would_33 (by decide) ?_ ?_
      ·
        exact bR_would_98 C  x1 x2 x3 x4 x5 x6 x7 x8 T6
      ·
        refine j_iload (pc := 36) 4 C dX10_would_36 rfl ?_
        refine j_iconst (pc := 38) 0 C dX10_would_38 (by decide) ?_
        refine j_bipush (pc := 39) 99 C dX10_would_39 (by decide) ?_
        refine j_callI0 (pc := 41) C (rR_within C dX10_would_41 q_1094 (by omega) (Nat.le_of_ble_eq_true rfl) ⟨Nat.le_of_ble_eq_true rfl, Nat.le_of_ble_eq_true rfl⟩) ⟨Nat.le_of_ble_eq_true rfl, Nat.le_of_ble_eq_true rfl⟩ (fun r9 T8 => ?_)
        refine j_if_eq (pc := 44) 98 C dX10_would_44 (by decide) ?_ ?_
        ·
          exact bR_would_98 C  x1 x2 x3 x4 x5 x6 x7 x8 T8
        ·
          refine j_iload (pc := 47) 5 C dX10_would_47 rfl ?_
          refine j_bipush (pc := 49) 10 C dX10_would_49 (by decide) ?_
          refine j_sipush (pc := 51) 150 C dX10_would_51 (by decide) ?_
          refine j_callI0 (pc := 54) C (rR_within C dX10_would_54 q_1094 (by omega) (Nat.le_of_ble_eq_true rfl) ⟨Nat.le_of_ble_eq_true rfl, Nat.le_of_ble_eq_true rfl⟩) ⟨Nat.le_of_ble_eq_true rfl, Nat.le_of_ble_eq_true rfl⟩ (fun r11 T10 => ?_)
          refine j_if_eq (pc := 57) 98 C dX10_would_57 (by decide) ?_ ?_
          ·
            exact bR_would_98 C  x1 x2 x3 x4 x5 x6 x7 x8 T10
          ·
            refine j_iload (pc := 60) 6 C dX10_would_60 rfl ?_
            refine j_iconst (pc := 62) 0 C dX10_would_62 (by decide) ?_
            refine j_sipush (pc := 63) 999 C dX10_would_63 (by decide) ?_
            refine j_callI0 (pc := 66) C (rR_within C dX10_would_66 q_1094 (by omega) (Nat.le_of_ble_eq_true rfl) ⟨Nat.le_of_ble_eq_true rfl, Nat.le_of_ble_eq_true rfl⟩) ⟨Nat.le_of_ble_eq_true rfl, Nat.le_of_ble_eq_true rfl⟩ (fun r13 T12 => ?_)
            refine j_if_eq (pc := 69) 98 C dX10_would_69 (by decide) ?_ ?_
            ·
              exact bR_would_98 C  x1 x2 x3 x4 x5 x6 x7 x8 T12
            ·
              refine j_iload (pc := 72) 7 C dX10_would_72 rfl ?_
              refine j_iconst (pc := 74) 0 C dX10_would_74 (by decide) ?_
              refine j_sipush (pc := 75) 400 C dX10_would_75 (by decide) ?_
              refine j_callI0 (pc := 78) C (rR_within C dX10_would_78 q_1094 (by omega) (Nat.le_of_ble_eq_true rfl) ⟨Nat.le_of_ble_eq_true rfl, Nat.le_of_ble_eq_true rfl⟩) ⟨Nat.le_of_ble_eq_true rfl, Nat.le_of_ble_eq_true rfl⟩ (fun r15 T14 => ?_)
              refine j_if_eq (pc := 81) 98 C dX10_would_81 (by decide) ?_ ?_
              ·
                exact bR_would_98 C  x1 x2 x3 x4 x5 x6 x7 x8 T14
              ·
                refine j_iload (pc := 84) 8 C dX10_would_84 rfl ?_
                refine j_iconst (pc := 86) 0 C dX10_would_86 (by decide) ?_
                refine j_iconst (pc := 87) 5 C dX10_would_87 (by decide) ?_
                refine j_callI0 (pc := 88) C (rR_within C dX10_would_88 q_1094 (by omega) (Nat.le_of_ble_eq_true rfl) ⟨Nat.le_of_ble_eq_true rfl, Nat.le_of_ble_eq_true rfl⟩) ⟨Nat.le_of_ble_eq_true rfl, Nat.le_of_ble_eq_true rfl⟩ (fun r17 T16 => ?_)
                refine j_if_eq (pc := 91) 98 C dX10_would_91 (by decide) ?_ ?_
                ·
                  exact bR_would_98 C  x1 x2 x3 x4 x5 x6 x7 x8 T16
                ·
                  refine j_iconst (pc := 94) 1 C dX10_would_94 (by decide) ?_
                  refine j_goto (pc := 95) 99 C dX10_would_95 (by decide) ?_
                  exact bR_would_99 C  x1 x2 x3 x4 x5 x6 x7 x8 1 T16
theorem cR_would {l : Launch} {G : Gc} (hfl : l.stackTraces = false) (hW : Wok G wR 26)   (x1 : Int32) (x2 : Int32) (x3 : Int32) (x4 : Int32) (x5 : Int32) (x6 : Int32) (x7 : Int32) (x8 : Int32) (S : St) : Ct l yX10_would (Cond.code yX10_would cX10_would 9 (some .int) :: tblG) 5 0 0 G wR 26 [.ref (gA G 0), .int x1, .int x2, .int x3, .int x4, .int x5, .int x6, .int x7, .int x8] S (fR_would x1 x2 x3 x4 x5 x6 x7 x8 S) := ct_of (own := RX10) hfl (by decide +kernel) rfl hW (Nat.le_of_ble_eq_true rfl) (fun E hE C => by subst hE; exact bR_would C   x1 x2 x3 x4 x5 x6 x7 x8 S)
theorem rR_would {E : Ec} {G : Gc} {nL mc ms : Nat} {own : String} {cc : ByteArray} {L : Nat} {ret : Option FieldType} {k n pc ix : Nat} {loc : List (Nat × Value)} {rest : List Value}  {x1 : Int32} {x2 : Int32} {x3 : Int32} {x4 : Int32} {x5 : Int32} {x6 : Int32} {x7 : Int32} {x8 : Int32} {S : St}  (C : JC E (VR G nL mc ms own) cc L ret) (hd : decode cc pc = .ok (.invokevirtual ix, 3)) (hq : Cond.methodLink own ix yX10_would ∈ tblG) (hL : 5 + 1 ≤ L) (hW : (rest.map fun v => v.category).sum ≤ 8) (hf : k + 0 ≤ mc ∧ n + 0 ≤ ms) : Rn E (VR G nL mc ms own) k n 0 0 pc loc (.int x8 :: .int x7 :: .int x6 :: .int x5 :: .int x4 :: .int x3 :: .int x2 :: .int x1 :: .ref (gA G 0) :: rest) rest S (fR_would x1 x2 x3 x4 x5 x6 x7 x8 S) := rn_V (ci := 10) 0 (V := VR G nL mc ms own) (As := [.int x1, .int x2, .int x3, .int x4, .int x5, .int x6, .int x7, .int x8]) (Cq := (RX10, TX10, 53)) (cR_would C.flags C.wok  x1 x2 x3 x4 x5 x6 x7 x8 S) knX10_would ⟨q_1146, q_1147⟩ rfl rfl C hd hq hL rfl rfl hW hf

theorem knX10_ahead : Kn yX10_ahead cX10_ahead 4 (some .int) 2 := ⟨q_1148, q_815, by decide +kernel, by decide⟩
theorem bR_ahead_46 {E : Ec} {G : Gc}    (C : JC E (VR G 4 0 0 RX10) cX10_ahead 4 (some .int))    : ∀ (n : Nat) (x1 : Int32) (x2 : Int32) (x3 : Int32) (S : St), J E (VR G 4 0 0 RX10) 0 0 46 [(0, .ref (gA G 0)), (1, .int x1), (2, .int x2), (3, .int x3)] [] S (fR_ahead_46  n x1 x2 x3 S) := by
  intro n
  induction n with
  | zero => intro x1 x2 x3 S; rw [fR_ahead_46]; exact j_none
  | succ n ih =>
    intro x1 x2 x3 S
    rw [fR_ahead_46]
    refine j_iload_n (pc := 46) 3 C dX10_ahead_46 rfl rfl ?_
    refine j_iload_n (pc := 47) 1 C dX10_ahead_47 rfl rfl ?_
    refine j_icmp_ge (pc := 48) 61 C dX10_ahead_48 (by decide) ?_ ?_
    ·
      refine j_iload_n (pc := 61) 2 C dX10_ahead_61 rfl rfl ?_
      refine j_if_ne (pc := 62) 72 C dX10_ahead_62 (by decide) ?_ ?_
      ·
        refine j_iload_n (pc := 72) 2 C dX10_ahead_72 rfl rfl ?_
        refine j_iconst (pc := 73) 1 C dX10_ahead_73 (by decide) ?_
        refine j_icmp_ne (pc := 74) 84 C dX10_ahead_74 (by decide) ?_ ?_
        ·
          refine j_aload_n (pc := 84) 0 C dX10_ahead_84 rfl rfl ?_
          refine j_bipush (pc := 85) 54 C dX10_ahead_85 (by decide) ?_
          refine j_aload_n (pc := 87) 0 C dX10_ahead_87 rfl rfl ?_
          refine gR_0_21 (pc := 88) C dX10_ahead_88 q_881 ?_
          refine j_callI0 (pc := 91) C (rR_bitsOf C dX10_ahead_91 q_1102 (by omega) (Nat.le_of_ble_eq_true rfl) ⟨Nat.le_of_ble_eq_true rfl, Nat.le_of_ble_eq_true rfl⟩) ⟨Nat.le_of_ble_eq_true rfl, Nat.le_of_ble_eq_true rfl⟩ (fun r2 T1 => ?_)
          exact j_iret C dX10_ahead_94 rfl (Nat.le_of_ble_eq_true rfl) (Nat.le_of_ble_eq_true rfl)
        ·
          refine j_aload_n (pc := 77) 0 C dX10_ahead_77 rfl rfl ?_
          refine j_callI0 (pc := 78) C (rR_lateNow C dX10_ahead_78 q_1106 (by omega) (Nat.le_of_ble_eq_true rfl) ⟨Nat.le_of_ble_eq_true rfl, Nat.le_of_ble_eq_true rfl⟩) ⟨Nat.le_of_ble_eq_true rfl, Nat.le_of_ble_eq_true rfl⟩ (fun r4 T3 => ?_)
          refine j_goto (pc := 81) 94 C dX10_ahead_81 (by decide) ?_
          exact j_iret C dX10_ahead_94 rfl (Nat.le_of_ble_eq_true rfl) (Nat.le_of_ble_eq_true rfl)
      ·
        refine j_aload_n (pc := 65) 0 C dX10_ahead_65 rfl rfl ?_
        refine j_callI0 (pc := 66) C (rR_allLines C dX10_ahead_66 q_1098 (by omega) (Nat.le_of_ble_eq_true rfl) ⟨Nat.le_of_ble_eq_true rfl, Nat.le_of_ble_eq_true rfl⟩) ⟨Nat.le_of_ble_eq_true rfl, Nat.le_of_ble_eq_true rfl⟩ (fun r6 T5 => ?_)
        refine j_goto (pc := 69) 94 C dX10_ahead_69 (by decide) ?_
        exact j_iret C dX10_ahead_94 rfl (Nat.le_of_ble_eq_true rfl) (Nat.le_of_ble_eq_true rfl)
    ·
      refine j_aload_n (pc := 51) 0 C dX10_ahead_51 rfl rfl ?_
      refine j_callv0 (pc := 52) C (rR_passes C dX10_ahead_52 q_999 (by omega) (Nat.le_of_ble_eq_true rfl) ⟨Nat.le_of_ble_eq_true rfl, Nat.le_of_ble_eq_true rfl⟩) ⟨Nat.le_of_ble_eq_true rfl, Nat.le_of_ble_eq_true rfl⟩ (fun T7 => ?_)
      refine j_iinc (pc := 55) 3 (x3 + 1) [(3, .int (x3 + 1)), (0, .ref (gA G 0)), (1, .int x1), (2, .int x2)] C dX10_ahead_55 rfl rfl (Nat.le_of_ble_eq_true rfl) rfl ?_
      refine j_goto (pc := 58) 46 C dX10_ahead_58 (by decide) ?_
      refine j_sub [1, 2, 3, 0] rfl ?_
      exact ih x1 x2 (x3 + 1) T7
theorem bR_ahead_30 {E : Ec} {G : Gc}    (C : JC E (VR G 4 0 0 RX10) cX10_ahead 4 (some .int))    (x1 : Int32) (x2 : Int32) (s0 : Int32) (S : St) : J E (VR G 4 0 0 RX10) 0 0 30 [(0, .ref (gA G 0)), (1, .int x1), (2, .int x2)] [.int s0, .ref (gA G 0)] S (fR_ahead_30  x1 x2 s0 S) := by
  unfold fR_ahead_30
  refine j_iconst (pc := 30) 1 C dX10_ahead_30 (by decide) ?_
  refine j_iconst (pc := 31) 1 C dX10_ahead_31 (by decide) ?_
  refine j_callI0 (pc := 32) C (rR_may C dX10_ahead_32 q_822 (by omega) (Nat.le_of_ble_eq_true rfl) ⟨Nat.le_of_ble_eq_true rfl, Nat.le_of_ble_eq_true rfl⟩) ⟨Nat.le_of_ble_eq_true rfl, Nat.le_of_ble_eq_true rfl⟩ (fun r2 T1 => ?_)
  refine j_if_ne (pc := 35) 40 C dX10_ahead_35 (by decide) ?_ ?_
  ·
    refine j_aload_n (pc := 40) 0 C dX10_ahead_40 rfl rfl ?_
    refine j_callv0 (pc := 41) C (rR_take C dX10_ahead_41 q_984 (by omega) (Nat.le_of_ble_eq_true rfl) ⟨Nat.le_of_ble_eq_true rfl, Nat.le_of_ble_eq_true rfl⟩) ⟨Nat.le_of_ble_eq_true rfl, Nat.le_of_ble_eq_true rfl⟩ (fun T3 => ?_)
    refine j_iconst (pc := 44) 0 C dX10_ahead_44 (by decide) ?_
    refine j_istore_n (pc := 45) [(3, .int 0), (0, .ref (gA G 0)), (1, .int x1), (2, .int x2)] C dX10_ahead_45 rfl (Nat.le_of_ble_eq_true rfl) rfl ?_
    refine j_sub [1, 2, 3, 0] rfl ?_
    exact bR_ahead_46 C  FU x1 x2 0 T3
  ·
    refine j_iconst (pc := 38) 0 C dX10_ahead_38 (by decide) ?_
    exact j_iret C dX10_ahead_39 rfl (Nat.le_of_ble_eq_true rfl) (Nat.le_of_ble_eq_true rfl)
theorem bR_ahead_29 {E : Ec} {G : Gc}    (C : JC E (VR G 4 0 0 RX10) cX10_ahead 4 (some .int))    (x1 : Int32) (x2 : Int32) (S : St) : J E (VR G 4 0 0 RX10) 0 0 29 [(0, .ref (gA G 0)), (1, .int x1), (2, .int x2)] [.ref (gA G 0)] S (fR_ahead_29  x1 x2 S) := by
  unfold fR_ahead_29
  refine j_iconst (pc := 29) 0 C dX10_ahead_29 (by decide) ?_
  exact bR_ahead_30 C  x1 x2 0 S
theorem bR_ahead {E : Ec} {G : Gc}    (C : JC E (VR G 4 0 0 RX10) cX10_ahead 4 (some .int))    (x1 : Int32) (x2 : Int32) (S : St) : J E (VR G 4 0 0 RX10) 0 0 0 [(0, .ref (gA G 0)), (1, .int x1), (2, .int x2)] [] S (fR_ahead  x1 x2 S) := by
  unfold fR_ahead
  refine j_aload_n (pc := 0) 0 C dX10_ahead_0 rfl rfl ?_
  refine j_iconst (pc := 1) 0 C dX10_ahead_1 (by decide) ?_
  refine pR_0_0 (pc := 2) C dX10_ahead_2 q_811 ?_
  refine j_nxS (fun T1 => ?_)
  refine j_aload_n (pc := 5) 0 C dX10_ahead_5 rfl rfl ?_
  refine j_iload_n (pc := 6) 1 C dX10_ahead_6 rfl rfl ?_
  refine j_iconst (pc := 7) 0 C dX10_ahead_7 (by decide) ?_
  refine j_bipush (pc := 8) 99 C dX10_ahead_8 (by decide) ?_
  refine j_callI0 (pc := 10) C (rR_within C dX10_ahead_10 q_1094 (by omega) (Nat.le_of_ble_eq_true rfl) ⟨Nat.le_of_ble_eq_true rfl, Nat.le_of_ble_eq_true rfl⟩) ⟨Nat.le_of_ble_eq_true rfl, Nat.le_of_ble_eq_true rfl⟩ (fun r3 T2 => ?_)
  refine j_if_eq (pc := 13) 29 C dX10_ahead_13 (by decide) ?_ ?_
  ·
    exact bR_ahead_29 C  x1 x2 T2
  ·
    refine j_iload_n (pc := 16) 2 C dX10_ahead_16 rfl rfl ?_
    refine j_iconst (pc := 17) 0 C dX10_ahead_17 (by decide) ?_
    refine j_iconst (pc := 18) 2 C dX10_ahead_18 (by decide) ?_
    refine j_callI0 (pc := 19) C (rR_within C dX10_ahead_19 q_1094 (by omega) (Nat.le_of_ble_eq_true rfl) ⟨Nat.le_of_ble_eq_true rfl, Nat.le_of_ble_eq_true rfl⟩) ⟨Nat.le_of_ble_eq_true rfl, Nat.le_of_ble_eq_true rfl⟩ (fun r5 T4 => ?_)
    refine j_if_eq (pc := 22) 29 C dX10_ahead_22 (by decide) ?_ ?_
    ·
      exact bR_ahead_29 C  x1 x2 T4
    ·
      refine j_iconst (pc := 25) 1 C dX10_ahead_25 (by decide) ?_
      refine j_goto (pc := 26) 30 C dX10_ahead_26 (by decide) ?_
      exact bR_ahead_30 C  x1 x2 1 T4
theorem cR_ahead {l : Launch} {G : Gc} (hfl : l.stackTraces = false) (hW : Wok G wR 26)   (x1 : Int32) (x2 : Int32) (S : St) : Ct l yX10_ahead (Cond.code yX10_ahead cX10_ahead 4 (some .int) :: tblG) 4 0 0 G wR 26 [.ref (gA G 0), .int x1, .int x2] S (fR_ahead x1 x2 S) := ct_of (own := RX10) hfl (by decide +kernel) rfl hW (Nat.le_of_ble_eq_true rfl) (fun E hE C => by subst hE; exact bR_ahead C   x1 x2 S)
theorem rR_ahead {E : Ec} {G : Gc} {nL mc ms : Nat} {own : String} {cc : ByteArray} {L : Nat} {ret : Option FieldType} {k n pc ix : Nat} {loc : List (Nat × Value)} {rest : List Value}  {x1 : Int32} {x2 : Int32} {S : St}  (C : JC E (VR G nL mc ms own) cc L ret) (hd : decode cc pc = .ok (.invokevirtual ix, 3)) (hq : Cond.methodLink own ix yX10_ahead ∈ tblG) (hL : 4 + 1 ≤ L) (hW : (rest.map fun v => v.category).sum ≤ 8) (hf : k + 0 ≤ mc ∧ n + 0 ≤ ms) : Rn E (VR G nL mc ms own) k n 0 0 pc loc (.int x2 :: .int x1 :: .ref (gA G 0) :: rest) rest S (fR_ahead x1 x2 S) := rn_V (ci := 10) 0 (V := VR G nL mc ms own) (As := [.int x1, .int x2]) (Cq := (RX10, TX10, 53)) (cR_ahead C.flags C.wok  x1 x2 S) knX10_ahead ⟨q_1149, q_1150⟩ rfl rfl C hd hq hL rfl rfl hW hf

theorem knX10_lessonsTo : Kn yX10_lessonsTo cX10_lessonsTo 4 (some .int) 2 := ⟨q_1151, q_815, by decide +kernel, by decide⟩
theorem bR_lessonsTo_23 {E : Ec} {G : Gc}   {K6 : Int32 → Int32 → Int32 → St → Oz} (C : JC E (VR G 4 0 0 RX10) cX10_lessonsTo 8 (some .int))   (hK6 : ∀ (x1 : Int32) (x2 : Int32) (x3 : Int32) (S : St), J E (VR G 4 0 0 RX10) 0 0 6 [(0, .ref (gA G 0)), (1, .int x1), (2, .int x2), (3, .int x3)] [] S (K6 x1 x2 x3 S)) (x1 : Int32) (x2 : Int32) (x3 : Int32) (S : St) : J E (VR G 4 0 0 RX10) 0 0 23 [(0, .ref (gA G 0)), (1, .int x1), (2, .int x2), (3, .int x3)] [] S (fR_lessonsTo_23 K6 x1 x2 x3 S) := by
  unfold fR_lessonsTo_23
  refine j_aload_n (pc := 23) 0 C dX10_lessonsTo_23 rfl rfl ?_
  refine j_iload_n (pc := 24) 1 C dX10_lessonsTo_24 rfl rfl ?_
  refine j_iload_n (pc := 25) 2 C dX10_lessonsTo_25 rfl rfl ?_
  refine j_callI0 (pc := 26) C (rR_knownOf C dX10_lessonsTo_26 q_991 (by omega) (Nat.le_of_ble_eq_true rfl) ⟨Nat.le_of_ble_eq_true rfl, Nat.le_of_ble_eq_true rfl⟩) ⟨Nat.le_of_ble_eq_true rfl, Nat.le_of_ble_eq_true rfl⟩ (fun r2 T1 => ?_)
  refine j_aload_n (pc := 29) 0 C dX10_lessonsTo_29 rfl rfl ?_
  refine gR_0_13 (pc := 30) C dX10_lessonsTo_30 q_885 ?_
  refine j_iconst (pc := 33) 2 C dX10_lessonsTo_33 (by decide) ?_
  refine j_iload_n (pc := 34) 2 C dX10_lessonsTo_34 rfl rfl ?_
  refine j_imul (pc := 35) C dX10_lessonsTo_35 ?_
  refine aR_6 (pc := 36) C dX10_lessonsTo_36 ?_
  refine j_icmp_ne (pc := 37) 42 C dX10_lessonsTo_37 (by decide) ?_ ?_
  ·
    refine j_iload_n (pc := 42) 3 C dX10_lessonsTo_42 rfl rfl ?_
    refine j_if_le (pc := 43) 50 C dX10_lessonsTo_43 (by decide) ?_ ?_
    ·
      refine j_iinc (pc := 50) 3 (x3 + 1) [(3, .int (x3 + 1)), (0, .ref (gA G 0)), (1, .int x1), (2, .int x2)] C dX10_lessonsTo_50 rfl rfl (Nat.le_of_ble_eq_true rfl) rfl ?_
      refine j_goto (pc := 53) 6 C dX10_lessonsTo_53 (by decide) ?_
      refine j_sub [1, 2, 3, 0] rfl ?_
      exact hK6 x1 x2 (x3 + 1) T1
    ·
      refine j_aload_n (pc := 46) 0 C dX10_lessonsTo_46 rfl rfl ?_
      refine j_callv0 (pc := 47) C (rR_passes C dX10_lessonsTo_47 q_999 (by omega) (Nat.le_of_ble_eq_true rfl) ⟨Nat.le_of_ble_eq_true rfl, Nat.le_of_ble_eq_true rfl⟩) ⟨Nat.le_of_ble_eq_true rfl, Nat.le_of_ble_eq_true rfl⟩ (fun T3 => ?_)
      refine j_iinc (pc := 50) 3 (x3 + 1) [(3, .int (x3 + 1)), (0, .ref (gA G 0)), (1, .int x1), (2, .int x2)] C dX10_lessonsTo_50 rfl rfl (Nat.le_of_ble_eq_true rfl) rfl ?_
      refine j_goto (pc := 53) 6 C dX10_lessonsTo_53 (by decide) ?_
      refine j_sub [1, 2, 3, 0] rfl ?_
      exact hK6 x1 x2 (x3 + 1) T3
  ·
    refine j_iload_n (pc := 40) 3 C dX10_lessonsTo_40 rfl rfl ?_
    exact j_iret C dX10_lessonsTo_41 rfl (Nat.le_of_ble_eq_true rfl) (Nat.le_of_ble_eq_true rfl)
theorem bR_lessonsTo_6 {E : Ec} {G : Gc}    (C : JC E (VR G 4 0 0 RX10) cX10_lessonsTo 8 (some .int))    : ∀ (n : Nat) (x1 : Int32) (x2 : Int32) (x3 : Int32) (S : St), J E (VR G 4 0 0 RX10) 0 0 6 [(0, .ref (gA G 0)), (1, .int x1), (2, .int x2), (3, .int x3)] [] S (fR_lessonsTo_6  n x1 x2 x3 S) := by
  intro n
  induction n with
  | zero => intro x1 x2 x3 S; rw [fR_lessonsTo_6]; exact j_none
  | succ n ih =>
    intro x1 x2 x3 S
    rw [fR_lessonsTo_6]
    refine j_iload_n (pc := 6) 3 C dX10_lessonsTo_6 rfl rfl ?_
    refine j_bipush (pc := 7) 40 C dX10_lessonsTo_7 (by decide) ?_
    refine j_icmp_gt (pc := 9) 56 C dX10_lessonsTo_9 (by decide) ?_ ?_
    ·
      refine j_iconst (pc := 56) (-1) C dX10_lessonsTo_56 (by decide) ?_
      exact j_iret C dX10_lessonsTo_57 rfl (Nat.le_of_ble_eq_true rfl) (Nat.le_of_ble_eq_true rfl)
    ·
      refine j_iload_n (pc := 12) 3 C dX10_lessonsTo_12 rfl rfl ?_
      refine j_if_le (pc := 13) 23 C dX10_lessonsTo_13 (by decide) ?_ ?_
      ·
        exact bR_lessonsTo_23 C ih x1 x2 x3 S
      ·
        refine j_aload_n (pc := 16) 0 C dX10_lessonsTo_16 rfl rfl ?_
        refine j_iload_n (pc := 17) 1 C dX10_lessonsTo_17 rfl rfl ?_
        refine j_iload_n (pc := 18) 2 C dX10_lessonsTo_18 rfl rfl ?_
        refine j_callI0 (pc := 19) C (rR_isTaught C dX10_lessonsTo_19 q_1068 (by omega) (Nat.le_of_ble_eq_true rfl) ⟨Nat.le_of_ble_eq_true rfl, Nat.le_of_ble_eq_true rfl⟩) ⟨Nat.le_of_ble_eq_true rfl, Nat.le_of_ble_eq_true rfl⟩ (fun r2 T1 => ?_)
        refine j_pop (pc := 22) C dX10_lessonsTo_22 rfl ?_
        exact bR_lessonsTo_23 C ih x1 x2 x3 T1
theorem bR_lessonsTo {E : Ec} {G : Gc}    (C : JC E (VR G 4 0 0 RX10) cX10_lessonsTo 8 (some .int))    (x1 : Int32) (x2 : Int32) (S : St) : J E (VR G 4 0 0 RX10) 0 0 0 [(0, .ref (gA G 0)), (1, .int x1), (2, .int x2)] [] S (fR_lessonsTo  x1 x2 S) := by
  unfold fR_lessonsTo
  refine j_aload_n (pc := 0) 0 C dX10_lessonsTo_0 rfl rfl ?_
  refine j_callv0 (pc := 1) C (rR_take C dX10_lessonsTo_1 q_984 (by omega) (Nat.le_of_ble_eq_true rfl) ⟨Nat.le_of_ble_eq_true rfl, Nat.le_of_ble_eq_true rfl⟩) ⟨Nat.le_of_ble_eq_true rfl, Nat.le_of_ble_eq_true rfl⟩ (fun T1 => ?_)
  refine j_iconst (pc := 4) 0 C dX10_lessonsTo_4 (by decide) ?_
  refine j_istore_n (pc := 5) [(3, .int 0), (0, .ref (gA G 0)), (1, .int x1), (2, .int x2)] C dX10_lessonsTo_5 rfl (Nat.le_of_ble_eq_true rfl) rfl ?_
  refine j_sub [1, 2, 3, 0] rfl ?_
  exact bR_lessonsTo_6 C  FU x1 x2 0 T1
theorem cR_lessonsTo {l : Launch} {G : Gc} (hfl : l.stackTraces = false) (hW : Wok G wR 26)   (x1 : Int32) (x2 : Int32) (S : St) : Ct l yX10_lessonsTo (Cond.code yX10_lessonsTo cX10_lessonsTo 4 (some .int) :: tblG) 8 0 0 G wR 26 [.ref (gA G 0), .int x1, .int x2] S (fR_lessonsTo x1 x2 S) := ct_of (own := RX10) hfl (by decide +kernel) rfl hW (Nat.le_of_ble_eq_true rfl) (fun E hE C => by subst hE; exact bR_lessonsTo C   x1 x2 S)
theorem rR_lessonsTo {E : Ec} {G : Gc} {nL mc ms : Nat} {own : String} {cc : ByteArray} {L : Nat} {ret : Option FieldType} {k n pc ix : Nat} {loc : List (Nat × Value)} {rest : List Value}  {x1 : Int32} {x2 : Int32} {S : St}  (C : JC E (VR G nL mc ms own) cc L ret) (hd : decode cc pc = .ok (.invokevirtual ix, 3)) (hq : Cond.methodLink own ix yX10_lessonsTo ∈ tblG) (hL : 8 + 1 ≤ L) (hW : (rest.map fun v => v.category).sum ≤ 8) (hf : k + 0 ≤ mc ∧ n + 0 ≤ ms) : Rn E (VR G nL mc ms own) k n 0 0 pc loc (.int x2 :: .int x1 :: .ref (gA G 0) :: rest) rest S (fR_lessonsTo x1 x2 S) := rn_V (ci := 10) 0 (V := VR G nL mc ms own) (As := [.int x1, .int x2]) (Cq := (RX10, TX10, 53)) (cR_lessonsTo C.flags C.wok  x1 x2 S) knX10_lessonsTo ⟨q_1152, q_1153⟩ rfl rfl C hd hq hL rfl rfl hW hf

theorem knX10_lessons : Kn yX10_lessons cX10_lessons 3 (some .int) 2 := ⟨q_1155, q_815, by decide +kernel, by decide⟩
theorem bR_lessons {E : Ec} {G : Gc}    (C : JC E (VR G 3 0 0 RX10) cX10_lessons 9 (some .int))    (x1 : Int32) (x2 : Int32) (S : St) : J E (VR G 3 0 0 RX10) 0 0 0 [(0, .ref (gA G 0)), (1, .int x1), (2, .int x2)] [] S (fR_lessons  x1 x2 S) := by
  unfold fR_lessons
  refine j_aload_n (pc := 0) 0 C dX10_lessons_0 rfl rfl ?_
  refine j_iconst (pc := 1) 0 C dX10_lessons_1 (by decide) ?_
  refine pR_0_0 (pc := 2) C dX10_lessons_2 q_811 ?_
  refine j_nxS (fun T1 => ?_)
  refine j_aload_n (pc := 5) 0 C dX10_lessons_5 rfl rfl ?_
  refine j_iload_n (pc := 6) 1 C dX10_lessons_6 rfl rfl ?_
  refine j_iconst (pc := 7) 1 C dX10_lessons_7 (by decide) ?_
  refine j_callI0 (pc := 8) C (rR_isMan C dX10_lessons_8 q_1124 (by omega) (Nat.le_of_ble_eq_true rfl) ⟨Nat.le_of_ble_eq_true rfl, Nat.le_of_ble_eq_true rfl⟩) ⟨Nat.le_of_ble_eq_true rfl, Nat.le_of_ble_eq_true rfl⟩ (fun r3 T2 => ?_)
  refine j_if_eq (pc := 11) 32 C dX10_lessons_11 (by decide) ?_ ?_
  ·
    refine j_iconst (pc := 32) 0 C dX10_lessons_32 (by decide) ?_
    exact j_iret C dX10_lessons_33 rfl (Nat.le_of_ble_eq_true rfl) (Nat.le_of_ble_eq_true rfl)
  ·
    refine j_aload_n (pc := 14) 0 C dX10_lessons_14 rfl rfl ?_
    refine j_iload_n (pc := 15) 2 C dX10_lessons_15 rfl rfl ?_
    refine j_iconst (pc := 16) 1 C dX10_lessons_16 (by decide) ?_
    refine j_callI0 (pc := 17) C (rR_isPoem C dX10_lessons_17 q_1113 (by omega) (Nat.le_of_ble_eq_true rfl) ⟨Nat.le_of_ble_eq_true rfl, Nat.le_of_ble_eq_true rfl⟩) ⟨Nat.le_of_ble_eq_true rfl, Nat.le_of_ble_eq_true rfl⟩ (fun r5 T4 => ?_)
    refine j_if_eq (pc := 20) 32 C dX10_lessons_20 (by decide) ?_ ?_
    ·
      refine j_iconst (pc := 32) 0 C dX10_lessons_32 (by decide) ?_
      exact j_iret C dX10_lessons_33 rfl (Nat.le_of_ble_eq_true rfl) (Nat.le_of_ble_eq_true rfl)
    ·
      refine j_aload_n (pc := 23) 0 C dX10_lessons_23 rfl rfl ?_
      refine j_iload_n (pc := 24) 1 C dX10_lessons_24 rfl rfl ?_
      refine j_iload_n (pc := 25) 2 C dX10_lessons_25 rfl rfl ?_
      refine j_callI0 (pc := 26) C (rR_lessonsTo C dX10_lessons_26 q_1154 (by omega) (Nat.le_of_ble_eq_true rfl) ⟨Nat.le_of_ble_eq_true rfl, Nat.le_of_ble_eq_true rfl⟩) ⟨Nat.le_of_ble_eq_true rfl, Nat.le_of_ble_eq_true rfl⟩ (fun r7 T6 => ?_)
      refine j_goto (pc := 29) 33 C dX10_lessons_29 (by decide) ?_
      exact j_iret C dX10_lessons_33 rfl (Nat.le_of_ble_eq_true rfl) (Nat.le_of_ble_eq_true rfl)
theorem cR_lessons {l : Launch} {G : Gc} (hfl : l.stackTraces = false) (hW : Wok G wR 26)   (x1 : Int32) (x2 : Int32) (S : St) : Ct l yX10_lessons (Cond.code yX10_lessons cX10_lessons 3 (some .int) :: tblG) 9 0 0 G wR 26 [.ref (gA G 0), .int x1, .int x2] S (fR_lessons x1 x2 S) := ct_of (own := RX10) hfl (by decide +kernel) rfl hW (Nat.le_of_ble_eq_true rfl) (fun E hE C => by subst hE; exact bR_lessons C   x1 x2 S)
theorem rR_lessons {E : Ec} {G : Gc} {nL mc ms : Nat} {own : String} {cc : ByteArray} {L : Nat} {ret : Option FieldType} {k n pc ix : Nat} {loc : List (Nat × Value)} {rest : List Value}  {x1 : Int32} {x2 : Int32} {S : St}  (C : JC E (VR G nL mc ms own) cc L ret) (hd : decode cc pc = .ok (.invokevirtual ix, 3)) (hq : Cond.methodLink own ix yX10_lessons ∈ tblG) (hL : 9 + 1 ≤ L) (hW : (rest.map fun v => v.category).sum ≤ 8) (hf : k + 0 ≤ mc ∧ n + 0 ≤ ms) : Rn E (VR G nL mc ms own) k n 0 0 pc loc (.int x2 :: .int x1 :: .ref (gA G 0) :: rest) rest S (fR_lessons x1 x2 S) := rn_V (ci := 10) 0 (V := VR G nL mc ms own) (As := [.int x1, .int x2]) (Cq := (RX10, TX10, 53)) (cR_lessons C.flags C.wok  x1 x2 S) knX10_lessons ⟨q_1156, q_1157⟩ rfl rfl C hd hq hL rfl rfl hW hf

theorem knX10_laysDue : Kn yX10_laysDue cX10_laysDue 3 none 0 := ⟨q_1159, q_815, by decide +kernel, by decide⟩
theorem bR_laysDue_66 {E : Ec} {G : Gc}   {K2 : Int32 → St → Oz} (C : JC E (VR G 3 0 0 RX10) cX10_laysDue 1 none)   (hK2 : ∀ (x1 : Int32) (S : St), J E (VR G 3 0 0 RX10) 0 0 2 [(0, .ref (gA G 0)), (1, .int x1)] [] S (K2 x1 S)) (x1 : Int32) (x2 : Int32) (S : St) : J E (VR G 3 0 0 RX10) 0 0 66 [(0, .ref (gA G 0)), (1, .int x1), (2, .int x2)] [] S (fR_laysDue_66 K2 x1 x2 S) := by
  unfold fR_laysDue_66
  refine j_aload_n (pc := 66) 0 C dX10_laysDue_66 rfl rfl ?_
  refine gR_0_46 (pc := 67) C dX10_laysDue_67 q_1158 ?_
  refine j_iload_n (pc := 70) 2 C dX10_laysDue_70 rfl rfl ?_
  refine j_iload_n (pc := 71) 1 C dX10_laysDue_71 rfl rfl ?_
  refine sR_22 (pc := 72) C dX10_laysDue_72 ?_
  refine j_nxS (fun T1 => ?_)
  refine j_iinc (pc := 73) 1 (x1 + 1) [(1, .int (x1 + 1)), (0, .ref (gA G 0)), (2, .int x2)] C dX10_laysDue_73 rfl rfl (Nat.le_of_ble_eq_true rfl) rfl ?_
  refine j_goto (pc := 76) 2 C dX10_laysDue_76 (by decide) ?_
  refine j_sub [1, 0] rfl ?_
  exact hK2 (x1 + 1) T1
theorem bR_laysDue_12 {E : Ec} {G : Gc}   {K2 : Int32 → St → Oz} (C : JC E (VR G 3 0 0 RX10) cX10_laysDue 1 none)   (hK2 : ∀ (x1 : Int32) (S : St), J E (VR G 3 0 0 RX10) 0 0 2 [(0, .ref (gA G 0)), (1, .int x1)] [] S (K2 x1 S)) : ∀ (n : Nat) (x1 : Int32) (x2 : Int32) (S : St), J E (VR G 3 0 0 RX10) 0 0 12 [(0, .ref (gA G 0)), (1, .int x1), (2, .int x2)] [] S (fR_laysDue_12 K2 n x1 x2 S) := by
  intro n
  induction n with
  | zero => intro x1 x2 S; rw [fR_laysDue_12]; exact j_none
  | succ n ih =>
    intro x1 x2 S
    rw [fR_laysDue_12]
    refine j_iload_n (pc := 12) 2 C dX10_laysDue_12 rfl rfl ?_
    refine j_if_le (pc := 13) 66 C dX10_laysDue_13 (by decide) ?_ ?_
    ·
      exact bR_laysDue_66 C hK2 x1 x2 S
    ·
      refine j_aload_n (pc := 16) 0 C dX10_laysDue_16 rfl rfl ?_
      refine gR_0_15 (pc := 17) C dX10_laysDue_17 q_893 ?_
      refine j_iconst (pc := 20) 4 C dX10_laysDue_20 (by decide) ?_
      refine j_aload_n (pc := 21) 0 C dX10_laysDue_21 rfl rfl ?_
      refine gR_0_46 (pc := 22) C dX10_laysDue_22 q_1158 ?_
      refine j_iload_n (pc := 25) 2 C dX10_laysDue_25 rfl rfl ?_
      refine j_iconst (pc := 26) 1 C dX10_laysDue_26 (by decide) ?_
      refine j_isub (pc := 27) C dX10_laysDue_27 ?_
      refine aR_22 (pc := 28) C dX10_laysDue_28 ?_
      refine j_imul (pc := 29) C dX10_laysDue_29 ?_
      refine j_iconst (pc := 30) 3 C dX10_laysDue_30 (by decide) ?_
      refine j_iadd (pc := 31) C dX10_laysDue_31 ?_
      refine aR_8 (pc := 32) C dX10_laysDue_32 ?_
      refine j_aload_n (pc := 33) 0 C dX10_laysDue_33 rfl rfl ?_
      refine gR_0_15 (pc := 34) C dX10_laysDue_34 q_893 ?_
      refine j_iconst (pc := 37) 4 C dX10_laysDue_37 (by decide) ?_
      refine j_iload_n (pc := 38) 1 C dX10_laysDue_38 rfl rfl ?_
      refine j_imul (pc := 39) C dX10_laysDue_39 ?_
      refine j_iconst (pc := 40) 3 C dX10_laysDue_40 (by decide) ?_
      refine j_iadd (pc := 41) C dX10_laysDue_41 ?_
      refine aR_8 (pc := 42) C dX10_laysDue_42 ?_
      refine j_icmp_le (pc := 43) 66 C dX10_laysDue_43 (by decide) ?_ ?_
      ·
        exact bR_laysDue_66 C hK2 x1 x2 S
      ·
        refine j_aload_n (pc := 46) 0 C dX10_laysDue_46 rfl rfl ?_
        refine gR_0_46 (pc := 47) C dX10_laysDue_47 q_1158 ?_
        refine j_iload_n (pc := 50) 2 C dX10_laysDue_50 rfl rfl ?_
        refine j_aload_n (pc := 51) 0 C dX10_laysDue_51 rfl rfl ?_
        refine gR_0_46 (pc := 52) C dX10_laysDue_52 q_1158 ?_
        refine j_iload_n (pc := 55) 2 C dX10_laysDue_55 rfl rfl ?_
        refine j_iconst (pc := 56) 1 C dX10_laysDue_56 (by decide) ?_
        refine j_isub (pc := 57) C dX10_laysDue_57 ?_
        refine aR_22 (pc := 58) C dX10_laysDue_58 ?_
        refine sR_22 (pc := 59) C dX10_laysDue_59 ?_
        refine j_nxS (fun T1 => ?_)
        refine j_iinc (pc := 60) 2 (x2 + (-1)) [(2, .int (x2 + (-1))), (0, .ref (gA G 0)), (1, .int x1)] C dX10_laysDue_60 rfl rfl (Nat.le_of_ble_eq_true rfl) rfl ?_
        refine j_goto (pc := 63) 12 C dX10_laysDue_63 (by decide) ?_
        refine j_sub [1, 2, 0] rfl ?_
        exact ih x1 (x2 + (-1)) T1
theorem bR_laysDue_2 {E : Ec} {G : Gc}    (C : JC E (VR G 3 0 0 RX10) cX10_laysDue 1 none)    : ∀ (n : Nat) (x1 : Int32) (S : St), J E (VR G 3 0 0 RX10) 0 0 2 [(0, .ref (gA G 0)), (1, .int x1)] [] S (fR_laysDue_2  n x1 S) := by
  intro n
  induction n with
  | zero => intro x1 S; rw [fR_laysDue_2]; exact j_none
  | succ n ih =>
    intro x1 S
    rw [fR_laysDue_2]
    refine j_iload_n (pc := 2) 1 C dX10_laysDue_2 rfl rfl ?_
    refine j_aload_n (pc := 3) 0 C dX10_laysDue_3 rfl rfl ?_
    refine gR_0_22 (pc := 4) C dX10_laysDue_4 q_882 ?_
    refine j_icmp_ge (pc := 7) 79 C dX10_laysDue_7 (by decide) ?_ ?_
    ·
      exact j_vret C dX10_laysDue_79 rfl (Nat.le_of_ble_eq_true rfl) (Nat.le_of_ble_eq_true rfl)
    ·
      refine j_iload_n (pc := 10) 1 C dX10_laysDue_10 rfl rfl ?_
      refine j_istore_n (pc := 11) [(2, .int x1), (0, .ref (gA G 0)), (1, .int x1)] C dX10_laysDue_11 rfl (Nat.le_of_ble_eq_true rfl) rfl ?_
      refine j_sub [1, 2, 0] rfl ?_
      exact bR_laysDue_12 C ih FU x1 x1 S
theorem bR_laysDue {E : Ec} {G : Gc}    (C : JC E (VR G 3 0 0 RX10) cX10_laysDue 1 none)     (S : St) : J E (VR G 3 0 0 RX10) 0 0 0 [(0, .ref (gA G 0))] [] S (fR_laysDue   S) := by
  unfold fR_laysDue
  refine j_iconst (pc := 0) 0 C dX10_laysDue_0 (by decide) ?_
  refine j_istore_n (pc := 1) [(1, .int 0), (0, .ref (gA G 0))] C dX10_laysDue_1 rfl (Nat.le_of_ble_eq_true rfl) rfl ?_
  refine j_sub [1, 0] rfl ?_
  exact bR_laysDue_2 C  FU 0 S
theorem cR_laysDue {l : Launch} {G : Gc} (hfl : l.stackTraces = false) (hW : Wok G wR 26)    (S : St) : Ct l yX10_laysDue (Cond.code yX10_laysDue cX10_laysDue 3 none :: tblG) 1 0 0 G wR 26 [.ref (gA G 0)] S (fR_laysDue  S) := ct_of (own := RX10) hfl (by decide +kernel) rfl hW (Nat.le_of_ble_eq_true rfl) (fun E hE C => by subst hE; exact bR_laysDue C    S)
theorem rR_laysDue {E : Ec} {G : Gc} {nL mc ms : Nat} {own : String} {cc : ByteArray} {L : Nat} {ret : Option FieldType} {k n pc ix : Nat} {loc : List (Nat × Value)} {rest : List Value}   {S : St}  (C : JC E (VR G nL mc ms own) cc L ret) (hd : decode cc pc = .ok (.invokevirtual ix, 3)) (hq : Cond.methodLink own ix yX10_laysDue ∈ tblG) (hL : 1 + 1 ≤ L) (hW : (rest.map fun v => v.category).sum ≤ 8) (hf : k + 0 ≤ mc ∧ n + 0 ≤ ms) : Rn E (VR G nL mc ms own) k n 0 0 pc loc (.ref (gA G 0) :: rest) rest S (fR_laysDue  S) := rn_V (ci := 10) 0 (V := VR G nL mc ms own) (As := []) (Cq := (RX10, TX10, 53)) (cR_laysDue C.flags C.wok   S) knX10_laysDue ⟨q_1160, q_1161⟩ rfl rfl C hd hq hL rfl rfl hW hf

theorem knX10_ones : Kn yX10_ones cX10_ones 3 (some .int) 1 := ⟨q_1163, q_815, by decide +kernel, by decide⟩
theorem bR_ones_4 {E : Ec} {G : Gc}    (C : JC E (VR G 3 0 0 RX10) cX10_ones 1 (some .int))    : ∀ (n : Nat) (x0 : Int32) (x1 : Int32) (x2 : Int32) (S : St), J E (VR G 3 0 0 RX10) 0 0 4 [(0, .int x0), (1, .int x1), (2, .int x2)] [] S (fR_ones_4  n x0 x1 x2 S) := by
  intro n
  induction n with
  | zero => intro x0 x1 x2 S; rw [fR_ones_4]; exact j_none
  | succ n ih =>
    intro x0 x1 x2 S
    rw [fR_ones_4]
    refine j_iload_n (pc := 4) 2 C dX10_ones_4 rfl rfl ?_
    refine j_bipush (pc := 5) 10 C dX10_ones_5 (by decide) ?_
    refine j_icmp_ge (pc := 7) 24 C dX10_ones_7 (by decide) ?_ ?_
    ·
      refine j_iload_n (pc := 24) 1 C dX10_ones_24 rfl rfl ?_
      exact j_iret C dX10_ones_25 rfl (Nat.le_of_ble_eq_true rfl) (Nat.le_of_ble_eq_true rfl)
    ·
      refine j_iload_n (pc := 10) 1 C dX10_ones_10 rfl rfl ?_
      refine j_iload_n (pc := 11) 0 C dX10_ones_11 rfl rfl ?_
      refine j_iload_n (pc := 12) 2 C dX10_ones_12 rfl rfl ?_
      refine j_ishr (pc := 13) C dX10_ones_13 ?_
      refine j_iconst (pc := 14) 1 C dX10_ones_14 (by decide) ?_
      refine j_iand (pc := 15) C dX10_ones_15 ?_
      refine j_iadd (pc := 16) C dX10_ones_16 ?_
      refine j_nxI (fun v1 => ?_)
      refine j_istore_n (pc := 17) [(1, .int v1), (0, .int x0), (2, .int x2)] C dX10_ones_17 rfl (Nat.le_of_ble_eq_true rfl) rfl ?_
      refine j_iinc (pc := 18) 2 (x2 + 1) [(2, .int (x2 + 1)), (1, .int v1), (0, .int x0)] C dX10_ones_18 rfl rfl (Nat.le_of_ble_eq_true rfl) rfl ?_
      refine j_goto (pc := 21) 4 C dX10_ones_21 (by decide) ?_
      refine j_sub [2, 1, 0] rfl ?_
      exact ih x0 v1 (x2 + 1) S
theorem bR_ones {E : Ec} {G : Gc}    (C : JC E (VR G 3 0 0 RX10) cX10_ones 1 (some .int))    (x0 : Int32) (S : St) : J E (VR G 3 0 0 RX10) 0 0 0 [(0, .int x0)] [] S (fR_ones  x0 S) := by
  unfold fR_ones
  refine j_iconst (pc := 0) 0 C dX10_ones_0 (by decide) ?_
  refine j_istore_n (pc := 1) [(1, .int 0), (0, .int x0)] C dX10_ones_1 rfl (Nat.le_of_ble_eq_true rfl) rfl ?_
  refine j_iconst (pc := 2) 0 C dX10_ones_2 (by decide) ?_
  refine j_istore_n (pc := 3) [(2, .int 0), (1, .int 0), (0, .int x0)] C dX10_ones_3 rfl (Nat.le_of_ble_eq_true rfl) rfl ?_
  refine j_sub [2, 1, 0] rfl ?_
  exact bR_ones_4 C  FU x0 0 0 S
theorem cR_ones {l : Launch} {G : Gc} (hfl : l.stackTraces = false) (hW : Wok G wR 26)   (x0 : Int32) (S : St) : Ct l yX10_ones (Cond.code yX10_ones cX10_ones 3 (some .int) :: tblG) 1 0 0 G wR 26 [.int x0] S (fR_ones x0 S) := ct_of (own := RX10) hfl (by decide +kernel) rfl hW (Nat.le_of_ble_eq_true rfl) (fun E hE C => by subst hE; exact bR_ones C   x0 S)
theorem rR_ones {E : Ec} {G : Gc} {nL mc ms : Nat} {own : String} {cc : ByteArray} {L : Nat} {ret : Option FieldType} {k n pc ix : Nat} {loc : List (Nat × Value)} {rest : List Value}  {x0 : Int32} {S : St}  (C : JC E (VR G nL mc ms own) cc L ret) (hd : decode cc pc = .ok (.invokestatic ix, 3)) (hq : Cond.methodLink own ix yX10_ones ∈ tblG) (hL : 1 + 1 ≤ L) (hW : (rest.map fun v => v.category).sum ≤ 8) (hf : k + 0 ≤ mc ∧ n + 0 ≤ ms) : Rn E (VR G nL mc ms own) k n 0 0 pc loc (.int x0 :: rest) rest S (fR_ones x0 S) := rn_S (V := VR G nL mc ms own) (As := [.int x0]) (cR_ones C.flags C.wok  x0 S) knX10_ones q_1164  C hd hq hL rfl rfl hW hf

theorem knX10_isPayable : Kn yX10_isPayable cX10_isPayable 10 (some .boolean) 2 := ⟨q_1167, q_815, by decide +kernel, by decide⟩
theorem bR_isPayable_87 {E : Ec} {G : Gc}   {K19 : Int32 → Int32 → Int32 → Int32 → Int32 → Int32 → Int32 → St → Oz} (C : JC E (VR G 10 0 0 RX10) cX10_isPayable 7 (some .boolean))   (hK19 : ∀ (x1 : Int32) (x2 : Int32) (x3 : Int32) (x4 : Int32) (x5 : Int32) (x6 : Int32) (x7 : Int32) (S : St), J E (VR G 10 0 0 RX10) 0 0 19 [(0, .ref (gA G 0)), (1, .int x1), (2, .int x2), (3, .int x3), (4, .int x4), (5, .int x5), (6, .int x6), (7, .int x7)] [] S (K19 x1 x2 x3 x4 x5 x6 x7 S)) (x1 : Int32) (x2 : Int32) (x3 : Int32) (x4 : Int32) (x6 : Int32) (x7 : Int32) (x8 : Int32) (x9 : Int32) (s0 : Int32) (s1 : Int32) (S : St) : J E (VR G 10 0 0 RX10) 0 0 87 [(0, .ref (gA G 0)), (1, .int x1), (2, .int x2), (3, .int x3), (4, .int x4), (6, .int x6), (7, .int x7), (8, .int x8), (9, .int x9)] [.int s0, .int s1] S (fR_isPayable_87 K19 x1 x2 x3 x4 x6 x7 x8 x9 s0 s1 S) := by
  unfold fR_isPayable_87
  refine j_iadd (pc := 87) C dX10_isPayable_87 ?_
  refine j_nxI (fun v1 => ?_)
  refine j_istore (pc := 88) [(5, .int v1), (0, .ref (gA G 0)), (1, .int x1), (2, .int x2), (3, .int x3), (4, .int x4), (6, .int x6), (7, .int x7), (8, .int x8), (9, .int x9)] C dX10_isPayable_88 (Nat.le_of_ble_eq_true rfl) rfl ?_
  refine j_iload (pc := 90) 5 C dX10_isPayable_90 rfl ?_
  refine j_iconst (pc := 92) 1 C dX10_isPayable_92 (by decide) ?_
  refine j_iload (pc := 93) 9 C dX10_isPayable_93 rfl ?_
  refine j_ishl (pc := 95) C dX10_isPayable_95 ?_
  refine j_ior (pc := 96) C dX10_isPayable_96 ?_
  refine j_nxI (fun v2 => ?_)
  refine j_istore (pc := 97) [(4, .int v2), (5, .int v1), (0, .ref (gA G 0)), (1, .int x1), (2, .int x2), (3, .int x3), (6, .int x6), (7, .int x7), (8, .int x8), (9, .int x9)] C dX10_isPayable_97 (Nat.le_of_ble_eq_true rfl) rfl ?_
  refine j_aload_n (pc := 99) 2 C dX10_isPayable_99 rfl rfl ?_
  refine j_dup (pc := 100) C dX10_isPayable_100 rfl ?_
  refine gR_0_47 (pc := 101) C dX10_isPayable_101 q_1166 ?_
  refine j_aload_n (pc := 104) 2 C dX10_isPayable_104 rfl rfl ?_
  refine gR_0_13 (pc := 105) C dX10_isPayable_105 q_885 ?_
  refine j_iconst (pc := 108) 2 C dX10_isPayable_108 (by decide) ?_
  refine j_iload (pc := 109) 9 C dX10_isPayable_109 rfl ?_
  refine j_imul (pc := 111) C dX10_isPayable_111 ?_
  refine aR_6 (pc := 112) C dX10_isPayable_112 ?_
  refine j_iadd (pc := 113) C dX10_isPayable_113 ?_
  refine pR_0_47 (pc := 114) C dX10_isPayable_114 q_1166 ?_
  refine j_nxS (fun T3 => ?_)
  refine j_iload_n (pc := 117) 5 C dX10_isPayable_117 rfl rfl ?_
  refine j_aload_n (pc := 118) 2 C dX10_isPayable_118 rfl rfl ?_
  refine j_iload (pc := 119) 8 C dX10_isPayable_119 rfl ?_
  refine j_callI0 (pc := 121) C (rR_needOf C dX10_isPayable_121 q_1135 (by omega) (Nat.le_of_ble_eq_true rfl) ⟨Nat.le_of_ble_eq_true rfl, Nat.le_of_ble_eq_true rfl⟩) ⟨Nat.le_of_ble_eq_true rfl, Nat.le_of_ble_eq_true rfl⟩ (fun r5 T4 => ?_)
  refine j_iadd (pc := 124) C dX10_isPayable_124 ?_
  refine j_nxI (fun v6 => ?_)
  refine j_istore_n (pc := 125) [(3, .int v6), (4, .int v2), (5, .int v1), (0, .ref (gA G 0)), (1, .int x1), (2, .int x2), (6, .int x6), (7, .int x7), (8, .int x8), (9, .int x9)] C dX10_isPayable_125 rfl (Nat.le_of_ble_eq_true rfl) rfl ?_
  refine j_iload (pc := 126) 6 C dX10_isPayable_126 rfl ?_
  refine j_if_eq (pc := 128) 158 C dX10_isPayable_128 (by decide) ?_ ?_
  ·
    refine j_iconst (pc := 158) 0 C dX10_isPayable_158 (by decide) ?_
    refine j_istore (pc := 159) [(6, .int 0), (3, .int v6), (4, .int v2), (5, .int v1), (0, .ref (gA G 0)), (1, .int x1), (2, .int x2), (7, .int x7), (8, .int x8), (9, .int x9)] C dX10_isPayable_159 (Nat.le_of_ble_eq_true rfl) rfl ?_
    refine j_iinc (pc := 161) 7 (x7 + 1) [(7, .int (x7 + 1)), (6, .int 0), (3, .int v6), (4, .int v2), (5, .int v1), (0, .ref (gA G 0)), (1, .int x1), (2, .int x2), (8, .int x8), (9, .int x9)] C dX10_isPayable_161 rfl rfl (Nat.le_of_ble_eq_true rfl) rfl ?_
    refine j_goto (pc := 164) 19 C dX10_isPayable_164 (by decide) ?_
    refine j_sub [5, 6, 7, 2, 3, 4, 1, 0] rfl ?_
    exact hK19 x1 x2 v6 v2 v1 0 (x7 + 1) T4
  ·
    refine j_iload_n (pc := 131) 0 C dX10_isPayable_131 rfl rfl ?_
    refine j_aload_n (pc := 132) 3 C dX10_isPayable_132 rfl rfl ?_
    refine gR_0_15 (pc := 133) C dX10_isPayable_133 q_893 ?_
    refine j_iconst (pc := 136) 4 C dX10_isPayable_136 (by decide) ?_
    refine j_iload (pc := 137) 8 C dX10_isPayable_137 rfl ?_
    refine j_imul (pc := 139) C dX10_isPayable_139 ?_
    refine j_iconst (pc := 140) 3 C dX10_isPayable_140 (by decide) ?_
    refine j_iadd (pc := 141) C dX10_isPayable_141 ?_
    refine aR_8 (pc := 142) C dX10_isPayable_142 ?_
    refine j_aload_n (pc := 143) 3 C dX10_isPayable_143 rfl rfl ?_
    refine gR_0_41 (pc := 144) C dX10_isPayable_144 q_980 ?_
    refine j_bipush (pc := 147) 94 C dX10_isPayable_147 (by decide) ?_
    refine acR_18 (pc := 149) C dX10_isPayable_149 rfl ?_
    refine j_isub (pc := 150) C dX10_isPayable_150 ?_
    refine j_icmp_gt (pc := 151) 158 C dX10_isPayable_151 (by decide) ?_ ?_
    ·
      refine j_iconst (pc := 158) 0 C dX10_isPayable_158 (by decide) ?_
      refine j_istore (pc := 159) [(6, .int 0), (3, .int v6), (4, .int v2), (5, .int v1), (0, .ref (gA G 0)), (1, .int x1), (2, .int x2), (7, .int x7), (8, .int x8), (9, .int x9)] C dX10_isPayable_159 (Nat.le_of_ble_eq_true rfl) rfl ?_
      refine j_iinc (pc := 161) 7 (x7 + 1) [(7, .int (x7 + 1)), (6, .int 0), (3, .int v6), (4, .int v2), (5, .int v1), (0, .ref (gA G 0)), (1, .int x1), (2, .int x2), (8, .int x8), (9, .int x9)] C dX10_isPayable_161 rfl rfl (Nat.le_of_ble_eq_true rfl) rfl ?_
      refine j_goto (pc := 164) 19 C dX10_isPayable_164 (by decide) ?_
      refine j_sub [5, 6, 7, 2, 3, 4, 1, 0] rfl ?_
      exact hK19 x1 x2 v6 v2 v1 0 (x7 + 1) T4
    ·
      refine j_iconst (pc := 154) 1 C dX10_isPayable_154 (by decide) ?_
      refine j_goto (pc := 155) 159 C dX10_isPayable_155 (by decide) ?_
      refine j_istore (pc := 159) [(6, .int 1), (3, .int v6), (4, .int v2), (5, .int v1), (0, .ref (gA G 0)), (1, .int x1), (2, .int x2), (7, .int x7), (8, .int x8), (9, .int x9)] C dX10_isPayable_159 (Nat.le_of_ble_eq_true rfl) rfl ?_
      refine j_iinc (pc := 161) 7 (x7 + 1) [(7, .int (x7 + 1)), (6, .int 1), (3, .int v6), (4, .int v2), (5, .int v1), (0, .ref (gA G 0)), (1, .int x1), (2, .int x2), (8, .int x8), (9, .int x9)] C dX10_isPayable_161 rfl rfl (Nat.le_of_ble_eq_true rfl) rfl ?_
      refine j_goto (pc := 164) 19 C dX10_isPayable_164 (by decide) ?_
      refine j_sub [5, 6, 7, 2, 3, 4, 1, 0] rfl ?_
      exact hK19 x1 x2 v6 v2 v1 1 (x7 + 1) T4
theorem bR_isPayable_19 {E : Ec} {G : Gc}    (C : JC E (VR G 10 0 0 RX10) cX10_isPayable 7 (some .boolean))    : ∀ (n : Nat) (x1 : Int32) (x2 : Int32) (x3 : Int32) (x4 : Int32) (x5 : Int32) (x6 : Int32) (x7 : Int32) (S : St), J E (VR G 10 0 0 RX10) 0 0 19 [(0, .ref (gA G 0)), (1, .int x1), (2, .int x2), (3, .int x3), (4, .int x4), (5, .int x5), (6, .int x6), (7, .int x7)] [] S (fR_isPayable_19  n x1 x2 x3 x4 x5 x6 x7 S) := by
  intro n
  induction n with
  | zero => intro x1 x2 x3 x4 x5 x6 x7 S; rw [fR_isPayable_19]; exact j_none
  | succ n ih =>
    intro x1 x2 x3 x4 x5 x6 x7 S
    rw [fR_isPayable_19]
    refine j_iload (pc := 19) 7 C dX10_isPayable_19 rfl ?_
    refine j_aload_n (pc := 21) 0 C dX10_isPayable_21 rfl rfl ?_
    refine gR_0_22 (pc := 22) C dX10_isPayable_22 q_882 ?_
    refine j_icmp_ge (pc := 25) 167 C dX10_isPayable_25 (by decide) ?_ ?_
    ·
      refine j_iload (pc := 167) 6 C dX10_isPayable_167 rfl ?_
      refine j_if_eq (pc := 169) 186 C dX10_isPayable_169 (by decide) ?_ ?_
      ·
        refine j_iconst (pc := 186) 0 C dX10_isPayable_186 (by decide) ?_
        exact j_zretc C dX10_isPayable_187 rfl (Nat.le_of_ble_eq_true rfl) (Nat.le_of_ble_eq_true rfl) rfl
      ·
        refine j_iload (pc := 172) 5 C dX10_isPayable_172 rfl ?_
        refine j_aload_n (pc := 174) 0 C dX10_isPayable_174 rfl rfl ?_
        refine j_iload_n (pc := 175) 1 C dX10_isPayable_175 rfl rfl ?_
        refine j_callI0 (pc := 176) C (rR_memoryOf C dX10_isPayable_176 q_1027 (by omega) (Nat.le_of_ble_eq_true rfl) ⟨Nat.le_of_ble_eq_true rfl, Nat.le_of_ble_eq_true rfl⟩) ⟨Nat.le_of_ble_eq_true rfl, Nat.le_of_ble_eq_true rfl⟩ (fun r2 T1 => ?_)
        refine j_icmp_gt (pc := 179) 186 C dX10_isPayable_179 (by decide) ?_ ?_
        ·
          refine j_iconst (pc := 186) 0 C dX10_isPayable_186 (by decide) ?_
          exact j_zretc C dX10_isPayable_187 rfl (Nat.le_of_ble_eq_true rfl) (Nat.le_of_ble_eq_true rfl) rfl
        ·
          refine j_iconst (pc := 182) 1 C dX10_isPayable_182 (by decide) ?_
          refine j_goto (pc := 183) 187 C dX10_isPayable_183 (by decide) ?_
          exact j_zretc C dX10_isPayable_187 rfl (Nat.le_of_ble_eq_true rfl) (Nat.le_of_ble_eq_true rfl) rfl
    ·
      refine j_aload_n (pc := 28) 0 C dX10_isPayable_28 rfl rfl ?_
      refine gR_0_46 (pc := 29) C dX10_isPayable_29 q_1158 ?_
      refine j_iload (pc := 32) 7 C dX10_isPayable_32 rfl ?_
      refine aR_22 (pc := 34) C dX10_isPayable_34 ?_
      refine j_nxI (fun v3 => ?_)
      refine j_istore (pc := 35) [(8, .int v3), (0, .ref (gA G 0)), (1, .int x1), (2, .int x2), (3, .int x3), (4, .int x4), (5, .int x5), (6, .int x6), (7, .int x7)] C dX10_isPayable_35 (Nat.le_of_ble_eq_true rfl) rfl ?_
      refine j_iload_n (pc := 37) 3 C dX10_isPayable_37 rfl rfl ?_
      refine j_iload (pc := 38) 0 C dX10_isPayable_38 rfl ?_
      refine j_ishr (pc := 40) C dX10_isPayable_40 ?_
      refine j_iconst (pc := 41) 1 C dX10_isPayable_41 (by decide) ?_
      refine j_iand (pc := 42) C dX10_isPayable_42 ?_
      refine j_if_ne (pc := 43) 49 C dX10_isPayable_43 (by decide) ?_ ?_
      ·
        refine j_aload_n (pc := 49) 1 C dX10_isPayable_49 rfl rfl ?_
        refine gR_0_15 (pc := 50) C dX10_isPayable_50 q_893 ?_
        refine j_iconst (pc := 53) 4 C dX10_isPayable_53 (by decide) ?_
        refine j_iload (pc := 54) 0 C dX10_isPayable_54 rfl ?_
        refine j_imul (pc := 56) C dX10_isPayable_56 ?_
        refine j_iconst (pc := 57) 1 C dX10_isPayable_57 (by decide) ?_
        refine j_iadd (pc := 58) C dX10_isPayable_58 ?_
        refine aR_8 (pc := 59) C dX10_isPayable_59 ?_
        refine j_nxI (fun v4 => ?_)
        refine j_istore (pc := 60) [(9, .int v4), (8, .int v3), (0, .ref (gA G 0)), (1, .int x1), (2, .int x2), (3, .int x3), (4, .int x4), (5, .int x5), (6, .int x6), (7, .int x7)] C dX10_isPayable_60 (Nat.le_of_ble_eq_true rfl) rfl ?_
        refine j_iload (pc := 62) 7 C dX10_isPayable_62 rfl ?_
        refine j_iload (pc := 64) 6 C dX10_isPayable_64 rfl ?_
        refine j_iload (pc := 66) 0 C dX10_isPayable_66 rfl ?_
        refine j_ishr (pc := 68) C dX10_isPayable_68 ?_
        refine j_iconst (pc := 69) 1 C dX10_isPayable_69 (by decide) ?_
        refine j_iand (pc := 70) C dX10_isPayable_70 ?_
        refine j_if_ne (pc := 71) 86 C dX10_isPayable_71 (by decide) ?_ ?_
        ·
          refine j_iconst (pc := 86) 0 C dX10_isPayable_86 (by decide) ?_
          refine j_sub [2, 3, 4, 5, 6, 8, 9, 1, 0] rfl ?_
          exact bR_isPayable_87 C ih x1 x2 x3 x4 x6 x7 v3 v4 0 x5 S
        ·
          refine j_aload_n (pc := 74) 2 C dX10_isPayable_74 rfl rfl ?_
          refine gR_0_13 (pc := 75) C dX10_isPayable_75 q_885 ?_
          refine j_iconst (pc := 78) 2 C dX10_isPayable_78 (by decide) ?_
          refine j_iload (pc := 79) 0 C dX10_isPayable_79 rfl ?_
          refine j_imul (pc := 81) C dX10_isPayable_81 ?_
          refine aR_6 (pc := 82) C dX10_isPayable_82 ?_
          refine j_goto (pc := 83) 87 C dX10_isPayable_83 (by decide) ?_
          refine j_sub [2, 3, 4, 5, 6, 8, 9, 1, 0] rfl ?_
          exact bR_isPayable_87 C ih x1 x2 x3 x4 x6 x7 v3 v4 (rA S 6 (2 * v4)) x5 S
      ·
        refine j_goto (pc := 46) 161 C dX10_isPayable_46 (by decide) ?_
        refine j_iinc (pc := 161) 8 (x7 + 1) [(7, .int (x7 + 1)), (8, .int v3), (0, .ref (gA G 0)), (1, .int x1), (2, .int x2), (3, .int x3), (4, .int x4), (5, .int x5), (6, .int x6)] C dX10_isPayable_161 rfl rfl (Nat.le_of_ble_eq_true rfl) rfl ?_
        refine j_goto (pc := 164) 19 C dX10_isPayable_164 (by decide) ?_
        refine j_sub [2, 3, 4, 5, 6, 7, 8, 0] rfl ?_
        exact ih x1 x2 x3 x4 x5 x6 (x7 + 1) S
theorem bR_isPayable {E : Ec} {G : Gc}    (C : JC E (VR G 10 0 0 RX10) cX10_isPayable 7 (some .boolean))    (x1 : Int32) (x2 : Int32) (S : St) : J E (VR G 10 0 0 RX10) 0 0 0 [(0, .ref (gA G 0)), (1, .int x1), (2, .int x2)] [] S (fR_isPayable  x1 x2 S) := by
  unfold fR_isPayable
  refine j_iconst (pc := 0) 0 C dX10_isPayable_0 (by decide) ?_
  refine j_istore_n (pc := 1) [(3, .int 0), (0, .ref (gA G 0)), (1, .int x1), (2, .int x2)] C dX10_isPayable_1 rfl (Nat.le_of_ble_eq_true rfl) rfl ?_
  refine j_iconst (pc := 2) 0 C dX10_isPayable_2 (by decide) ?_
  refine j_istore (pc := 3) [(4, .int 0), (3, .int 0), (0, .ref (gA G 0)), (1, .int x1), (2, .int x2)] C dX10_isPayable_3 (Nat.le_of_ble_eq_true rfl) rfl ?_
  refine j_iconst (pc := 5) 0 C dX10_isPayable_5 (by decide) ?_
  refine j_istore (pc := 6) [(5, .int 0), (4, .int 0), (3, .int 0), (0, .ref (gA G 0)), (1, .int x1), (2, .int x2)] C dX10_isPayable_6 (Nat.le_of_ble_eq_true rfl) rfl ?_
  refine j_iconst (pc := 8) 1 C dX10_isPayable_8 (by decide) ?_
  refine j_istore (pc := 9) [(6, .int 1), (5, .int 0), (4, .int 0), (3, .int 0), (0, .ref (gA G 0)), (1, .int x1), (2, .int x2)] C dX10_isPayable_9 (Nat.le_of_ble_eq_true rfl) rfl ?_
  refine j_aload_n (pc := 11) 4 C dX10_isPayable_11 rfl rfl ?_
  refine j_iconst (pc := 12) 0 C dX10_isPayable_12 (by decide) ?_
  refine pR_0_47 (pc := 13) C dX10_isPayable_13 q_1166 ?_
  refine j_nxS (fun T1 => ?_)
  refine j_iconst (pc := 16) 0 C dX10_isPayable_16 (by decide) ?_
  refine j_istore (pc := 17) [(7, .int 0), (6, .int 1), (5, .int 0), (4, .int 0), (3, .int 0), (0, .ref (gA G 0)), (1, .int x1), (2, .int x2)] C dX10_isPayable_17 (Nat.le_of_ble_eq_true rfl) rfl ?_
  refine j_sub [5, 6, 7, 4, 3, 2, 1, 0] rfl ?_
  exact bR_isPayable_19 C  FU x1 x2 0 0 0 1 0 T1
theorem cR_isPayable {l : Launch} {G : Gc} (hfl : l.stackTraces = false) (hW : Wok G wR 26)   (x1 : Int32) (x2 : Int32) (S : St) : Ct l yX10_isPayable (Cond.code yX10_isPayable cX10_isPayable 10 (some .boolean) :: tblG) 7 0 0 G wR 26 [.ref (gA G 0), .int x1, .int x2] S (fR_isPayable x1 x2 S) := ct_of (own := RX10) hfl (by decide +kernel) rfl hW (Nat.le_of_ble_eq_true rfl) (fun E hE C => by subst hE; exact bR_isPayable C   x1 x2 S)
theorem rR_isPayable {E : Ec} {G : Gc} {nL mc ms : Nat} {own : String} {cc : ByteArray} {L : Nat} {ret : Option FieldType} {k n pc ix : Nat} {loc : List (Nat × Value)} {rest : List Value}  {x1 : Int32} {x2 : Int32} {S : St}  (C : JC E (VR G nL mc ms own) cc L ret) (hd : decode cc pc = .ok (.invokevirtual ix, 3)) (hq : Cond.methodLink own ix yX10_isPayable ∈ tblG) (hL : 7 + 1 ≤ L) (hW : (rest.map fun v => v.category).sum ≤ 8) (hf : k + 0 ≤ mc ∧ n + 0 ≤ ms) : Rn E (VR G nL mc ms own) k n 0 0 pc loc (.int x2 :: .int x1 :: .ref (gA G 0) :: rest) rest S (fR_isPayable x1 x2 S) := rn_V (ci := 10) 0 (V := VR G nL mc ms own) (As := [.int x1, .int x2]) (Cq := (RX10, TX10, 53)) (cR_isPayable C.flags C.wok  x1 x2 S) knX10_isPayable ⟨q_1168, q_1169⟩ rfl rfl C hd hq hL rfl rfl hW hf

theorem knX10_pays : Kn yX10_pays cX10_pays 6 (some .int) 1 := ⟨q_1171, q_815, by decide +kernel, by decide⟩
theorem bR_pays_103 {E : Ec} {G : Gc}   {K39 : Int32 → Int32 → Int32 → Int32 → Int32 → St → Oz} (C : JC E (VR G 6 0 0 RX10) cX10_pays 8 (some .int))   (hK39 : ∀ (x1 : Int32) (x2 : Int32) (x3 : Int32) (x4 : Int32) (x5 : Int32) (S : St), J E (VR G 6 0 0 RX10) 0 0 39 [(0, .ref (gA G 0)), (1, .int x1), (2, .int x2), (3, .int x3), (4, .int x4), (5, .int x5)] [] S (K39 x1 x2 x3 x4 x5 S)) (x1 : Int32) (x2 : Int32) (x5 : Int32) (S : St) : J E (VR G 6 0 0 RX10) 0 0 103 [(0, .ref (gA G 0)), (1, .int x1), (2, .int x2), (5, .int x5)] [] S (fR_pays_103 K39 x1 x2 x5 S) := by
  unfold fR_pays_103
  refine j_iload (pc := 103) 3 C dX10_pays_103 rfl ?_
  refine j_istore_n (pc := 105) [(3, .int x5), (0, .ref (gA G 0)), (1, .int x1), (2, .int x2), (5, .int x5)] C dX10_pays_105 rfl (Nat.le_of_ble_eq_true rfl) rfl ?_
  refine j_aload_n (pc := 106) 1 C dX10_pays_106 rfl rfl ?_
  refine gR_0_47 (pc := 107) C dX10_pays_107 q_1166 ?_
  refine j_nxI (fun v1 => ?_)
  refine j_istore (pc := 110) [(4, .int v1), (3, .int x5), (0, .ref (gA G 0)), (1, .int x1), (2, .int x2), (5, .int x5)] C dX10_pays_110 (Nat.le_of_ble_eq_true rfl) rfl ?_
  refine j_iinc (pc := 112) 5 (x5 + 1) [(5, .int (x5 + 1)), (4, .int v1), (3, .int x5), (0, .ref (gA G 0)), (1, .int x1), (2, .int x2)] C dX10_pays_112 rfl rfl (Nat.le_of_ble_eq_true rfl) rfl ?_
  refine j_goto (pc := 115) 39 C dX10_pays_115 (by decide) ?_
  refine j_sub [3, 4, 5, 2, 1, 0] rfl ?_
  exact hK39 x1 x2 x5 v1 (x5 + 1) S
theorem bR_pays_39 {E : Ec} {G : Gc}    (C : JC E (VR G 6 0 0 RX10) cX10_pays 8 (some .int))    : ∀ (n : Nat) (x1 : Int32) (x2 : Int32) (x3 : Int32) (x4 : Int32) (x5 : Int32) (S : St), J E (VR G 6 0 0 RX10) 0 0 39 [(0, .ref (gA G 0)), (1, .int x1), (2, .int x2), (3, .int x3), (4, .int x4), (5, .int x5)] [] S (fR_pays_39  n x1 x2 x3 x4 x5 S) := by
  intro n
  induction n with
  | zero => intro x1 x2 x3 x4 x5 S; rw [fR_pays_39]; exact j_none
  | succ n ih =>
    intro x1 x2 x3 x4 x5 S
    rw [fR_pays_39]
    refine j_iload (pc := 39) 5 C dX10_pays_39 rfl ?_
    refine j_iload_n (pc := 41) 2 C dX10_pays_41 rfl rfl ?_
    refine j_icmp_gt (pc := 42) 118 C dX10_pays_42 (by decide) ?_ ?_
    ·
      refine j_iload_n (pc := 118) 3 C dX10_pays_118 rfl rfl ?_
      exact j_iret C dX10_pays_119 rfl (Nat.le_of_ble_eq_true rfl) (Nat.le_of_ble_eq_true rfl)
    ·
      refine j_iload (pc := 45) 5 C dX10_pays_45 rfl ?_
      refine j_iload_n (pc := 47) 2 C dX10_pays_47 rfl rfl ?_
      refine j_iconst (pc := 48) (-1) C dX10_pays_48 (by decide) ?_
      refine j_ixor (pc := 49) C dX10_pays_49 ?_
      refine j_iand (pc := 50) C dX10_pays_50 ?_
      refine j_if_ne (pc := 51) 112 C dX10_pays_51 (by decide) ?_ ?_
      ·
        refine j_iinc (pc := 112) 5 (x5 + 1) [(5, .int (x5 + 1)), (0, .ref (gA G 0)), (1, .int x1), (2, .int x2), (3, .int x3), (4, .int x4)] C dX10_pays_112 rfl rfl (Nat.le_of_ble_eq_true rfl) rfl ?_
        refine j_goto (pc := 115) 39 C dX10_pays_115 (by decide) ?_
        refine j_sub [1, 2, 3, 4, 5, 0] rfl ?_
        exact ih x1 x2 x3 x4 (x5 + 1) S
      ·
        refine j_iload (pc := 54) 5 C dX10_pays_54 rfl ?_
        refine j_callI0 (pc := 56) C (rR_ones C dX10_pays_56 q_1165 (by omega) (Nat.le_of_ble_eq_true rfl) ⟨Nat.le_of_ble_eq_true rfl, Nat.le_of_ble_eq_true rfl⟩) ⟨Nat.le_of_ble_eq_true rfl, Nat.le_of_ble_eq_true rfl⟩ (fun r2 T1 => ?_)
        refine j_iload_n (pc := 59) 3 C dX10_pays_59 rfl rfl ?_
        refine j_callI0 (pc := 60) C (rR_ones C dX10_pays_60 q_1165 (by omega) (Nat.le_of_ble_eq_true rfl) ⟨Nat.le_of_ble_eq_true rfl, Nat.le_of_ble_eq_true rfl⟩) ⟨Nat.le_of_ble_eq_true rfl, Nat.le_of_ble_eq_true rfl⟩ (fun r4 T3 => ?_)
        refine j_icmp_lt (pc := 63) 112 C dX10_pays_63 (by decide) ?_ ?_
        ·
          refine j_iinc (pc := 112) 5 (x5 + 1) [(5, .int (x5 + 1)), (0, .ref (gA G 0)), (1, .int x1), (2, .int x2), (3, .int x3), (4, .int x4)] C dX10_pays_112 rfl rfl (Nat.le_of_ble_eq_true rfl) rfl ?_
          refine j_goto (pc := 115) 39 C dX10_pays_115 (by decide) ?_
          refine j_sub [1, 2, 3, 4, 5, 0] rfl ?_
          exact ih x1 x2 x3 x4 (x5 + 1) T3
        ·
          refine j_aload_n (pc := 66) 0 C dX10_pays_66 rfl rfl ?_
          refine j_iload_n (pc := 67) 1 C dX10_pays_67 rfl rfl ?_
          refine j_iload (pc := 68) 5 C dX10_pays_68 rfl ?_
          refine j_callI0 (pc := 70) C (rR_isPayable C dX10_pays_70 q_1170 (by omega) (Nat.le_of_ble_eq_true rfl) ⟨Nat.le_of_ble_eq_true rfl, Nat.le_of_ble_eq_true rfl⟩) ⟨Nat.le_of_ble_eq_true rfl, Nat.le_of_ble_eq_true rfl⟩ (fun r6 T5 => ?_)
          refine j_if_ne (pc := 73) 79 C dX10_pays_73 (by decide) ?_ ?_
          ·
            refine j_iload (pc := 79) 5 C dX10_pays_79 rfl ?_
            refine j_callI0 (pc := 81) C (rR_ones C dX10_pays_81 q_1165 (by omega) (Nat.le_of_ble_eq_true rfl) ⟨Nat.le_of_ble_eq_true rfl, Nat.le_of_ble_eq_true rfl⟩) ⟨Nat.le_of_ble_eq_true rfl, Nat.le_of_ble_eq_true rfl⟩ (fun r8 T7 => ?_)
            refine j_iload_n (pc := 84) 3 C dX10_pays_84 rfl rfl ?_
            refine j_callI0 (pc := 85) C (rR_ones C dX10_pays_85 q_1165 (by omega) (Nat.le_of_ble_eq_true rfl) ⟨Nat.le_of_ble_eq_true rfl, Nat.le_of_ble_eq_true rfl⟩) ⟨Nat.le_of_ble_eq_true rfl, Nat.le_of_ble_eq_true rfl⟩ (fun r10 T9 => ?_)
            refine j_icmp_ne (pc := 88) 103 C dX10_pays_88 (by decide) ?_ ?_
            ·
              refine j_sub [0, 1, 2, 5] rfl ?_
              exact bR_pays_103 C ih x1 x2 x5 T9
            ·
              refine j_aload_n (pc := 91) 0 C dX10_pays_91 rfl rfl ?_
              refine gR_0_47 (pc := 92) C dX10_pays_92 q_1166 ?_
              refine j_iload (pc := 95) 4 C dX10_pays_95 rfl ?_
              refine j_icmp_gt (pc := 97) 103 C dX10_pays_97 (by decide) ?_ ?_
              ·
                refine j_sub [0, 1, 2, 5] rfl ?_
                exact bR_pays_103 C ih x1 x2 x5 T9
              ·
                refine j_goto (pc := 100) 112 C dX10_pays_100 (by decide) ?_
                refine j_iinc (pc := 112) 5 (x5 + 1) [(5, .int (x5 + 1)), (0, .ref (gA G 0)), (1, .int x1), (2, .int x2), (3, .int x3), (4, .int x4)] C dX10_pays_112 rfl rfl (Nat.le_of_ble_eq_true rfl) rfl ?_
                refine j_goto (pc := 115) 39 C dX10_pays_115 (by decide) ?_
                refine j_sub [1, 2, 3, 4, 5, 0] rfl ?_
                exact ih x1 x2 x3 x4 (x5 + 1) T9
          ·
            refine j_goto (pc := 76) 112 C dX10_pays_76 (by decide) ?_
            refine j_iinc (pc := 112) 5 (x5 + 1) [(5, .int (x5 + 1)), (0, .ref (gA G 0)), (1, .int x1), (2, .int x2), (3, .int x3), (4, .int x4)] C dX10_pays_112 rfl rfl (Nat.le_of_ble_eq_true rfl) rfl ?_
            refine j_goto (pc := 115) 39 C dX10_pays_115 (by decide) ?_
            refine j_sub [1, 2, 3, 4, 5, 0] rfl ?_
            exact ih x1 x2 x3 x4 (x5 + 1) T5
theorem bR_pays {E : Ec} {G : Gc}    (C : JC E (VR G 6 0 0 RX10) cX10_pays 8 (some .int))    (x1 : Int32) (S : St) : J E (VR G 6 0 0 RX10) 0 0 0 [(0, .ref (gA G 0)), (1, .int x1)] [] S (fR_pays  x1 S) := by
  unfold fR_pays
  refine j_aload_n (pc := 0) 0 C dX10_pays_0 rfl rfl ?_
  refine j_iconst (pc := 1) 0 C dX10_pays_1 (by decide) ?_
  refine pR_0_0 (pc := 2) C dX10_pays_2 q_811 ?_
  refine j_nxS (fun T1 => ?_)
  refine j_aload_n (pc := 5) 0 C dX10_pays_5 rfl rfl ?_
  refine j_iload_n (pc := 6) 1 C dX10_pays_6 rfl rfl ?_
  refine j_iconst (pc := 7) 1 C dX10_pays_7 (by decide) ?_
  refine j_callI0 (pc := 8) C (rR_isMan C dX10_pays_8 q_1124 (by omega) (Nat.le_of_ble_eq_true rfl) ⟨Nat.le_of_ble_eq_true rfl, Nat.le_of_ble_eq_true rfl⟩) ⟨Nat.le_of_ble_eq_true rfl, Nat.le_of_ble_eq_true rfl⟩ (fun r3 T2 => ?_)
  refine j_if_ne (pc := 11) 16 C dX10_pays_11 (by decide) ?_ ?_
  ·
    refine j_aload_n (pc := 16) 0 C dX10_pays_16 rfl rfl ?_
    refine j_callv0 (pc := 17) C (rR_take C dX10_pays_17 q_984 (by omega) (Nat.le_of_ble_eq_true rfl) ⟨Nat.le_of_ble_eq_true rfl, Nat.le_of_ble_eq_true rfl⟩) ⟨Nat.le_of_ble_eq_true rfl, Nat.le_of_ble_eq_true rfl⟩ (fun T4 => ?_)
    refine j_aload_n (pc := 20) 0 C dX10_pays_20 rfl rfl ?_
    refine j_callv0 (pc := 21) C (rR_laysDue C dX10_pays_21 q_1162 (by omega) (Nat.le_of_ble_eq_true rfl) ⟨Nat.le_of_ble_eq_true rfl, Nat.le_of_ble_eq_true rfl⟩) ⟨Nat.le_of_ble_eq_true rfl, Nat.le_of_ble_eq_true rfl⟩ (fun T6 => ?_)
    refine j_aload_n (pc := 24) 0 C dX10_pays_24 rfl rfl ?_
    refine j_iconst (pc := 25) 0 C dX10_pays_25 (by decide) ?_
    refine j_iload_n (pc := 26) 1 C dX10_pays_26 rfl rfl ?_
    refine j_callI0 (pc := 27) C (rR_openBy C dX10_pays_27 q_1117 (by omega) (Nat.le_of_ble_eq_true rfl) ⟨Nat.le_of_ble_eq_true rfl, Nat.le_of_ble_eq_true rfl⟩) ⟨Nat.le_of_ble_eq_true rfl, Nat.le_of_ble_eq_true rfl⟩ (fun r9 T8 => ?_)
    refine j_istore_n (pc := 30) [(2, .int r9), (0, .ref (gA G 0)), (1, .int x1)] C dX10_pays_30 rfl (Nat.le_of_ble_eq_true rfl) rfl ?_
    refine j_iconst (pc := 31) 0 C dX10_pays_31 (by decide) ?_
    refine j_istore_n (pc := 32) [(3, .int 0), (2, .int r9), (0, .ref (gA G 0)), (1, .int x1)] C dX10_pays_32 rfl (Nat.le_of_ble_eq_true rfl) rfl ?_
    refine j_iconst (pc := 33) 0 C dX10_pays_33 (by decide) ?_
    refine j_istore (pc := 34) [(4, .int 0), (3, .int 0), (2, .int r9), (0, .ref (gA G 0)), (1, .int x1)] C dX10_pays_34 (Nat.le_of_ble_eq_true rfl) rfl ?_
    refine j_iconst (pc := 36) 1 C dX10_pays_36 (by decide) ?_
    refine j_istore (pc := 37) [(5, .int 1), (4, .int 0), (3, .int 0), (2, .int r9), (0, .ref (gA G 0)), (1, .int x1)] C dX10_pays_37 (Nat.le_of_ble_eq_true rfl) rfl ?_
    refine j_sub [4, 5, 3, 2, 1, 0] rfl ?_
    exact bR_pays_39 C  FU x1 r9 0 0 1 T8
  ·
    refine j_iconst (pc := 14) 0 C dX10_pays_14 (by decide) ?_
    exact j_iret C dX10_pays_15 rfl (Nat.le_of_ble_eq_true rfl) (Nat.le_of_ble_eq_true rfl)
theorem cR_pays {l : Launch} {G : Gc} (hfl : l.stackTraces = false) (hW : Wok G wR 26)   (x1 : Int32) (S : St) : Ct l yX10_pays (Cond.code yX10_pays cX10_pays 6 (some .int) :: tblG) 8 0 0 G wR 26 [.ref (gA G 0), .int x1] S (fR_pays x1 S) := ct_of (own := RX10) hfl (by decide +kernel) rfl hW (Nat.le_of_ble_eq_true rfl) (fun E hE C => by subst hE; exact bR_pays C   x1 S)
theorem rR_pays {E : Ec} {G : Gc} {nL mc ms : Nat} {own : String} {cc : ByteArray} {L : Nat} {ret : Option FieldType} {k n pc ix : Nat} {loc : List (Nat × Value)} {rest : List Value}  {x1 : Int32} {S : St}  (C : JC E (VR G nL mc ms own) cc L ret) (hd : decode cc pc = .ok (.invokevirtual ix, 3)) (hq : Cond.methodLink own ix yX10_pays ∈ tblG) (hL : 8 + 1 ≤ L) (hW : (rest.map fun v => v.category).sum ≤ 8) (hf : k + 0 ≤ mc ∧ n + 0 ≤ ms) : Rn E (VR G nL mc ms own) k n 0 0 pc loc (.int x1 :: .ref (gA G 0) :: rest) rest S (fR_pays x1 S) := rn_V (ci := 10) 0 (V := VR G nL mc ms own) (As := [.int x1]) (Cq := (RX10, TX10, 53)) (cR_pays C.flags C.wok  x1 S) knX10_pays ⟨q_1172, q_1173⟩ rfl rfl C hd hq hL rfl rfl hW hf

theorem knX10_hardest : Kn yX10_hardest cX10_hardest 6 (some .int) 1 := ⟨q_1174, q_815, by decide +kernel, by decide⟩
theorem bR_hardest_54 {E : Ec} {G : Gc}   {K23 : Int32 → Int32 → Int32 → Int32 → St → Oz} (C : JC E (VR G 6 0 0 RX10) cX10_hardest 9 (some .int))   (hK23 : ∀ (x1 : Int32) (x2 : Int32) (x3 : Int32) (x4 : Int32) (S : St), J E (VR G 6 0 0 RX10) 0 0 23 [(0, .ref (gA G 0)), (1, .int x1), (2, .int x2), (3, .int x3), (4, .int x4)] [] S (K23 x1 x2 x3 x4 S)) (x1 : Int32) (x2 : Int32) (x3 : Int32) (x4 : Int32) (s0 : Int32) (S : St) : J E (VR G 6 0 0 RX10) 0 0 54 [(0, .ref (gA G 0)), (1, .int x1), (2, .int x2), (3, .int x3), (4, .int x4)] [.int s0] S (fR_hardest_54 K23 x1 x2 x3 x4 s0 S) := by
  unfold fR_hardest_54
  refine j_istore (pc := 54) [(5, .int s0), (0, .ref (gA G 0)), (1, .int x1), (2, .int x2), (3, .int x3), (4, .int x4)] C dX10_hardest_54 (Nat.le_of_ble_eq_true rfl) rfl ?_
  refine j_iload (pc := 56) 0 C dX10_hardest_56 rfl ?_
  refine j_iload_n (pc := 58) 4 C dX10_hardest_58 rfl rfl ?_
  refine j_icmp_gt (pc := 59) 65 C dX10_hardest_59 (by decide) ?_ ?_
  ·
    refine j_iload (pc := 65) 5 C dX10_hardest_65 rfl ?_
    refine j_istore_n (pc := 67) [(2, .int x4), (5, .int s0), (0, .ref (gA G 0)), (1, .int x1), (3, .int x3), (4, .int x4)] C dX10_hardest_67 rfl (Nat.le_of_ble_eq_true rfl) rfl ?_
    refine j_iload (pc := 68) 1 C dX10_hardest_68 rfl ?_
    refine j_istore_n (pc := 70) [(3, .int s0), (2, .int x4), (5, .int s0), (0, .ref (gA G 0)), (1, .int x1), (4, .int x4)] C dX10_hardest_70 rfl (Nat.le_of_ble_eq_true rfl) rfl ?_
    refine j_iinc (pc := 71) 5 (x4 + 1) [(4, .int (x4 + 1)), (3, .int s0), (2, .int x4), (5, .int s0), (0, .ref (gA G 0)), (1, .int x1)] C dX10_hardest_71 rfl rfl (Nat.le_of_ble_eq_true rfl) rfl ?_
    refine j_goto (pc := 74) 23 C dX10_hardest_74 (by decide) ?_
    refine j_sub [4, 5, 2, 1, 0] rfl ?_
    exact hK23 x1 x4 s0 (x4 + 1) S
  ·
    refine j_goto (pc := 62) 71 C dX10_hardest_62 (by decide) ?_
    refine j_iinc (pc := 71) 5 (x4 + 1) [(4, .int (x4 + 1)), (5, .int s0), (0, .ref (gA G 0)), (1, .int x1), (2, .int x2), (3, .int x3)] C dX10_hardest_71 rfl rfl (Nat.le_of_ble_eq_true rfl) rfl ?_
    refine j_goto (pc := 74) 23 C dX10_hardest_74 (by decide) ?_
    refine j_sub [2, 3, 4, 5, 0] rfl ?_
    exact hK23 x1 x2 x3 (x4 + 1) S
theorem bR_hardest_23 {E : Ec} {G : Gc}    (C : JC E (VR G 6 0 0 RX10) cX10_hardest 9 (some .int))    : ∀ (n : Nat) (x1 : Int32) (x2 : Int32) (x3 : Int32) (x4 : Int32) (S : St), J E (VR G 6 0 0 RX10) 0 0 23 [(0, .ref (gA G 0)), (1, .int x1), (2, .int x2), (3, .int x3), (4, .int x4)] [] S (fR_hardest_23  n x1 x2 x3 x4 S) := by
  intro n
  induction n with
  | zero => intro x1 x2 x3 x4 S; rw [fR_hardest_23]; exact j_none
  | succ n ih =>
    intro x1 x2 x3 x4 S
    rw [fR_hardest_23]
    refine j_iload (pc := 23) 4 C dX10_hardest_23 rfl ?_
    refine j_aload_n (pc := 25) 0 C dX10_hardest_25 rfl rfl ?_
    refine gR_0_20 (pc := 26) C dX10_hardest_26 q_880 ?_
    refine j_icmp_ge (pc := 29) 77 C dX10_hardest_29 (by decide) ?_ ?_
    ·
      refine j_iload_n (pc := 77) 2 C dX10_hardest_77 rfl rfl ?_
      exact j_iret C dX10_hardest_78 rfl (Nat.le_of_ble_eq_true rfl) (Nat.le_of_ble_eq_true rfl)
    ·
      refine j_aload_n (pc := 32) 0 C dX10_hardest_32 rfl rfl ?_
      refine j_iload_n (pc := 33) 1 C dX10_hardest_33 rfl rfl ?_
      refine j_iload (pc := 34) 4 C dX10_hardest_34 rfl ?_
      refine j_callI0 (pc := 36) C (rR_lessonsTo C dX10_hardest_36 q_1154 (by omega) (Nat.le_of_ble_eq_true rfl) ⟨Nat.le_of_ble_eq_true rfl, Nat.le_of_ble_eq_true rfl⟩) ⟨Nat.le_of_ble_eq_true rfl, Nat.le_of_ble_eq_true rfl⟩ (fun r2 T1 => ?_)
      refine j_istore (pc := 39) [(5, .int r2), (0, .ref (gA G 0)), (1, .int x1), (2, .int x2), (3, .int x3), (4, .int x4)] C dX10_hardest_39 (Nat.le_of_ble_eq_true rfl) rfl ?_
      refine j_iload (pc := 41) 0 C dX10_hardest_41 rfl ?_
      refine j_iconst (pc := 43) (-1) C dX10_hardest_43 (by decide) ?_
      refine j_icmp_ne (pc := 44) 52 C dX10_hardest_44 (by decide) ?_ ?_
      ·
        refine j_iload (pc := 52) 0 C dX10_hardest_52 rfl ?_
        refine j_sub [1, 2, 3, 4, 5] rfl ?_
        exact bR_hardest_54 C ih x1 x2 x3 x4 r2 T1
      ·
        refine j_bipush (pc := 47) 41 C dX10_hardest_47 (by decide) ?_
        refine j_goto (pc := 49) 54 C dX10_hardest_49 (by decide) ?_
        refine j_sub [1, 2, 3, 4, 5] rfl ?_
        exact bR_hardest_54 C ih x1 x2 x3 x4 41 T1
theorem bR_hardest {E : Ec} {G : Gc}    (C : JC E (VR G 6 0 0 RX10) cX10_hardest 9 (some .int))    (x1 : Int32) (S : St) : J E (VR G 6 0 0 RX10) 0 0 0 [(0, .ref (gA G 0)), (1, .int x1)] [] S (fR_hardest  x1 S) := by
  unfold fR_hardest
  refine j_aload_n (pc := 0) 0 C dX10_hardest_0 rfl rfl ?_
  refine j_iconst (pc := 1) 0 C dX10_hardest_1 (by decide) ?_
  refine pR_0_0 (pc := 2) C dX10_hardest_2 q_811 ?_
  refine j_nxS (fun T1 => ?_)
  refine j_aload_n (pc := 5) 0 C dX10_hardest_5 rfl rfl ?_
  refine j_iload_n (pc := 6) 1 C dX10_hardest_6 rfl rfl ?_
  refine j_iconst (pc := 7) 1 C dX10_hardest_7 (by decide) ?_
  refine j_callI0 (pc := 8) C (rR_isMan C dX10_hardest_8 q_1124 (by omega) (Nat.le_of_ble_eq_true rfl) ⟨Nat.le_of_ble_eq_true rfl, Nat.le_of_ble_eq_true rfl⟩) ⟨Nat.le_of_ble_eq_true rfl, Nat.le_of_ble_eq_true rfl⟩ (fun r3 T2 => ?_)
  refine j_if_ne (pc := 11) 16 C dX10_hardest_11 (by decide) ?_ ?_
  ·
    refine j_iconst (pc := 16) (-1) C dX10_hardest_16 (by decide) ?_
    refine j_istore_n (pc := 17) [(2, .int (-1)), (0, .ref (gA G 0)), (1, .int x1)] C dX10_hardest_17 rfl (Nat.le_of_ble_eq_true rfl) rfl ?_
    refine j_iconst (pc := 18) (-1) C dX10_hardest_18 (by decide) ?_
    refine j_istore_n (pc := 19) [(3, .int (-1)), (2, .int (-1)), (0, .ref (gA G 0)), (1, .int x1)] C dX10_hardest_19 rfl (Nat.le_of_ble_eq_true rfl) rfl ?_
    refine j_iconst (pc := 20) 0 C dX10_hardest_20 (by decide) ?_
    refine j_istore (pc := 21) [(4, .int 0), (3, .int (-1)), (2, .int (-1)), (0, .ref (gA G 0)), (1, .int x1)] C dX10_hardest_21 (Nat.le_of_ble_eq_true rfl) rfl ?_
    refine j_sub [3, 4, 2, 1, 0] rfl ?_
    exact bR_hardest_23 C  FU x1 (-1) (-1) 0 T2
  ·
    refine j_iconst (pc := 14) 0 C dX10_hardest_14 (by decide) ?_
    exact j_iret C dX10_hardest_15 rfl (Nat.le_of_ble_eq_true rfl) (Nat.le_of_ble_eq_true rfl)
theorem cR_hardest {l : Launch} {G : Gc} (hfl : l.stackTraces = false) (hW : Wok G wR 26)   (x1 : Int32) (S : St) : Ct l yX10_hardest (Cond.code yX10_hardest cX10_hardest 6 (some .int) :: tblG) 9 0 0 G wR 26 [.ref (gA G 0), .int x1] S (fR_hardest x1 S) := ct_of (own := RX10) hfl (by decide +kernel) rfl hW (Nat.le_of_ble_eq_true rfl) (fun E hE C => by subst hE; exact bR_hardest C   x1 S)
theorem rR_hardest {E : Ec} {G : Gc} {nL mc ms : Nat} {own : String} {cc : ByteArray} {L : Nat} {ret : Option FieldType} {k n pc ix : Nat} {loc : List (Nat × Value)} {rest : List Value}  {x1 : Int32} {S : St}  (C : JC E (VR G nL mc ms own) cc L ret) (hd : decode cc pc = .ok (.invokevirtual ix, 3)) (hq : Cond.methodLink own ix yX10_hardest ∈ tblG) (hL : 9 + 1 ≤ L) (hW : (rest.map fun v => v.category).sum ≤ 8) (hf : k + 0 ≤ mc ∧ n + 0 ≤ ms) : Rn E (VR G nL mc ms own) k n 0 0 pc loc (.int x1 :: .ref (gA G 0) :: rest) rest S (fR_hardest x1 S) := rn_V (ci := 10) 0 (V := VR G nL mc ms own) (As := [.int x1]) (Cq := (RX10, TX10, 53)) (cR_hardest C.flags C.wok  x1 S) knX10_hardest ⟨q_1175, q_1176⟩ rfl rfl C hd hq hL rfl rfl hW hf

theorem knX10_knownThen : Kn yX10_knownThen cX10_knownThen 5 (some .int) 4 := ⟨q_1177, q_815, by decide +kernel, by decide⟩
theorem bR_knownThen {E : Ec} {G : Gc}    (C : JC E (VR G 5 0 0 RX10) cX10_knownThen 7 (some .int))    (x1 : Int32) (x2 : Int32) (x3 : Int32) (x4 : Int32) (S : St) : J E (VR G 5 0 0 RX10) 0 0 0 [(0, .ref (gA G 0)), (1, .int x1), (2, .int x2), (3, .int x3), (4, .int x4)] [] S (fR_knownThen  x1 x2 x3 x4 S) := by
  unfold fR_knownThen
  refine j_aload_n (pc := 0) 0 C dX10_knownThen_0 rfl rfl ?_
  refine j_iload_n (pc := 1) 1 C dX10_knownThen_1 rfl rfl ?_
  refine j_iload_n (pc := 2) 2 C dX10_knownThen_2 rfl rfl ?_
  refine j_callI0 (pc := 3) C (rR_knownOf C dX10_knownThen_3 q_991 (by omega) (Nat.le_of_ble_eq_true rfl) ⟨Nat.le_of_ble_eq_true rfl, Nat.le_of_ble_eq_true rfl⟩) ⟨Nat.le_of_ble_eq_true rfl, Nat.le_of_ble_eq_true rfl⟩ (fun r2 T1 => ?_)
  refine j_iload_n (pc := 6) 1 C dX10_knownThen_6 rfl rfl ?_
  refine j_iload_n (pc := 7) 3 C dX10_knownThen_7 rfl rfl ?_
  refine j_icmp_ne (pc := 8) 35 C dX10_knownThen_8 (by decide) ?_ ?_
  ·
    refine j_iconst (pc := 35) 0 C dX10_knownThen_35 (by decide) ?_
    refine j_iadd (pc := 36) C dX10_knownThen_36 ?_
    exact j_iret C dX10_knownThen_37 rfl (Nat.le_of_ble_eq_true rfl) (Nat.le_of_ble_eq_true rfl)
  ·
    refine j_iload_n (pc := 11) 2 C dX10_knownThen_11 rfl rfl ?_
    refine j_iload (pc := 12) 4 C dX10_knownThen_12 rfl ?_
    refine j_icmp_ne (pc := 14) 35 C dX10_knownThen_14 (by decide) ?_ ?_
    ·
      refine j_iconst (pc := 35) 0 C dX10_knownThen_35 (by decide) ?_
      refine j_iadd (pc := 36) C dX10_knownThen_36 ?_
      exact j_iret C dX10_knownThen_37 rfl (Nat.le_of_ble_eq_true rfl) (Nat.le_of_ble_eq_true rfl)
    ·
      refine j_aload_n (pc := 17) 0 C dX10_knownThen_17 rfl rfl ?_
      refine j_iload_n (pc := 18) 1 C dX10_knownThen_18 rfl rfl ?_
      refine j_iload_n (pc := 19) 2 C dX10_knownThen_19 rfl rfl ?_
      refine j_callI0 (pc := 20) C (rR_moreBy C dX10_knownThen_20 q_1064 (by omega) (Nat.le_of_ble_eq_true rfl) ⟨Nat.le_of_ble_eq_true rfl, Nat.le_of_ble_eq_true rfl⟩) ⟨Nat.le_of_ble_eq_true rfl, Nat.le_of_ble_eq_true rfl⟩ (fun r4 T3 => ?_)
      refine j_if_le (pc := 23) 35 C dX10_knownThen_23 (by decide) ?_ ?_
      ·
        refine j_iconst (pc := 35) 0 C dX10_knownThen_35 (by decide) ?_
        refine j_iadd (pc := 36) C dX10_knownThen_36 ?_
        exact j_iret C dX10_knownThen_37 rfl (Nat.le_of_ble_eq_true rfl) (Nat.le_of_ble_eq_true rfl)
      ·
        refine j_aload_n (pc := 26) 0 C dX10_knownThen_26 rfl rfl ?_
        refine j_iload_n (pc := 27) 1 C dX10_knownThen_27 rfl rfl ?_
        refine j_iload_n (pc := 28) 2 C dX10_knownThen_28 rfl rfl ?_
        refine j_callI0 (pc := 29) C (rR_moreBy C dX10_knownThen_29 q_1064 (by omega) (Nat.le_of_ble_eq_true rfl) ⟨Nat.le_of_ble_eq_true rfl, Nat.le_of_ble_eq_true rfl⟩) ⟨Nat.le_of_ble_eq_true rfl, Nat.le_of_ble_eq_true rfl⟩ (fun r6 T5 => ?_)
        refine j_goto (pc := 32) 36 C dX10_knownThen_32 (by decide) ?_
        refine j_iadd (pc := 36) C dX10_knownThen_36 ?_
        exact j_iret C dX10_knownThen_37 rfl (Nat.le_of_ble_eq_true rfl) (Nat.le_of_ble_eq_true rfl)
theorem cR_knownThen {l : Launch} {G : Gc} (hfl : l.stackTraces = false) (hW : Wok G wR 26)   (x1 : Int32) (x2 : Int32) (x3 : Int32) (x4 : Int32) (S : St) : Ct l yX10_knownThen (Cond.code yX10_knownThen cX10_knownThen 5 (some .int) :: tblG) 7 0 0 G wR 26 [.ref (gA G 0), .int x1, .int x2, .int x3, .int x4] S (fR_knownThen x1 x2 x3 x4 S) := ct_of (own := RX10) hfl (by decide +kernel) rfl hW (Nat.le_of_ble_eq_true rfl) (fun E hE C => by subst hE; exact bR_knownThen C   x1 x2 x3 x4 S)
theorem rR_knownThen {E : Ec} {G : Gc} {nL mc ms : Nat} {own : String} {cc : ByteArray} {L : Nat} {ret : Option FieldType} {k n pc ix : Nat} {loc : List (Nat × Value)} {rest : List Value}  {x1 : Int32} {x2 : Int32} {x3 : Int32} {x4 : Int32} {S : St}  (C : JC E (VR G nL mc ms own) cc L ret) (hd : decode cc pc = .ok (.invokevirtual ix, 3)) (hq : Cond.methodLink own ix yX10_knownThen ∈ tblG) (hL : 7 + 1 ≤ L) (hW : (rest.map fun v => v.category).sum ≤ 8) (hf : k + 0 ≤ mc ∧ n + 0 ≤ ms) : Rn E (VR G nL mc ms own) k n 0 0 pc loc (.int x4 :: .int x3 :: .int x2 :: .int x1 :: .ref (gA G 0) :: rest) rest S (fR_knownThen x1 x2 x3 x4 S) := rn_V (ci := 10) 0 (V := VR G nL mc ms own) (As := [.int x1, .int x2, .int x3, .int x4]) (Cq := (RX10, TX10, 53)) (cR_knownThen C.flags C.wok  x1 x2 x3 x4 S) knX10_knownThen ⟨q_1178, q_1179⟩ rfl rfl C hd hq hL rfl rfl hW hf

theorem knX10_isFit : Kn yX10_isFit cX10_isFit 5 (some .boolean) 2 := ⟨q_1181, q_815, by decide +kernel, by decide⟩
theorem bR_isFit_5 {E : Ec} {G : Gc}    (C : JC E (VR G 5 0 0 RX10) cX10_isFit 8 (some .boolean))    : ∀ (n : Nat) (x1 : Int32) (x2 : Int32) (x3 : Int32) (x4 : Int32) (S : St), J E (VR G 5 0 0 RX10) 0 0 5 [(0, .ref (gA G 0)), (1, .int x1), (2, .int x2), (3, .int x3), (4, .int x4)] [] S (fR_isFit_5  n x1 x2 x3 x4 S) := by
  intro n
  induction n with
  | zero => intro x1 x2 x3 x4 S; rw [fR_isFit_5]; exact j_none
  | succ n ih =>
    intro x1 x2 x3 x4 S
    rw [fR_isFit_5]
    refine j_iload (pc := 5) 4 C dX10_isFit_5 rfl ?_
    refine j_aload_n (pc := 7) 0 C dX10_isFit_7 rfl rfl ?_
    refine gR_0_45 (pc := 8) C dX10_isFit_8 q_895 ?_
    refine j_icmp_ge (pc := 11) 70 C dX10_isFit_11 (by decide) ?_ ?_
    ·
      refine j_iload_n (pc := 70) 3 C dX10_isFit_70 rfl rfl ?_
      exact j_zret C dX10_isFit_71 rfl (Nat.le_of_ble_eq_true rfl) (Nat.le_of_ble_eq_true rfl)
    ·
      refine j_iload_n (pc := 14) 3 C dX10_isFit_14 rfl rfl ?_
      refine j_if_eq (pc := 15) 62 C dX10_isFit_15 (by decide) ?_ ?_
      ·
        refine j_iconst (pc := 62) 0 C dX10_isFit_62 (by decide) ?_
        refine j_istore_n (pc := 63) [(3, .int 0), (0, .ref (gA G 0)), (1, .int x1), (2, .int x2), (4, .int x4)] C dX10_isFit_63 rfl (Nat.le_of_ble_eq_true rfl) rfl ?_
        refine j_iinc (pc := 64) 4 (x4 + 1) [(4, .int (x4 + 1)), (3, .int 0), (0, .ref (gA G 0)), (1, .int x1), (2, .int x2)] C dX10_isFit_64 rfl rfl (Nat.le_of_ble_eq_true rfl) rfl ?_
        refine j_goto (pc := 67) 5 C dX10_isFit_67 (by decide) ?_
        refine j_sub [2, 3, 4, 1, 0] rfl ?_
        exact ih x1 x2 0 (x4 + 1) S
      ·
        refine j_aload_n (pc := 18) 0 C dX10_isFit_18 rfl rfl ?_
        refine j_aload_n (pc := 19) 0 C dX10_isFit_19 rfl rfl ?_
        refine gR_0_44 (pc := 20) C dX10_isFit_20 q_1082 ?_
        refine j_iconst (pc := 23) 3 C dX10_isFit_23 (by decide) ?_
        refine j_iload (pc := 24) 4 C dX10_isFit_24 rfl ?_
        refine j_imul (pc := 26) C dX10_isFit_26 ?_
        refine aR_21 (pc := 27) C dX10_isFit_27 ?_
        refine j_aload_n (pc := 28) 0 C dX10_isFit_28 rfl rfl ?_
        refine gR_0_44 (pc := 29) C dX10_isFit_29 q_1082 ?_
        refine j_iconst (pc := 32) 3 C dX10_isFit_32 (by decide) ?_
        refine j_iload (pc := 33) 4 C dX10_isFit_33 rfl ?_
        refine j_imul (pc := 35) C dX10_isFit_35 ?_
        refine j_iconst (pc := 36) 1 C dX10_isFit_36 (by decide) ?_
        refine j_iadd (pc := 37) C dX10_isFit_37 ?_
        refine aR_21 (pc := 38) C dX10_isFit_38 ?_
        refine j_iload_n (pc := 39) 1 C dX10_isFit_39 rfl rfl ?_
        refine j_iload_n (pc := 40) 2 C dX10_isFit_40 rfl rfl ?_
        refine j_callI0 (pc := 41) C (rR_knownThen C dX10_isFit_41 q_1180 (by omega) (Nat.le_of_ble_eq_true rfl) ⟨Nat.le_of_ble_eq_true rfl, Nat.le_of_ble_eq_true rfl⟩) ⟨Nat.le_of_ble_eq_true rfl, Nat.le_of_ble_eq_true rfl⟩ (fun r2 T1 => ?_)
        refine j_aload_n (pc := 44) 0 C dX10_isFit_44 rfl rfl ?_
        refine gR_0_44 (pc := 45) C dX10_isFit_45 q_1082 ?_
        refine j_iconst (pc := 48) 3 C dX10_isFit_48 (by decide) ?_
        refine j_iload (pc := 49) 4 C dX10_isFit_49 rfl ?_
        refine j_imul (pc := 51) C dX10_isFit_51 ?_
        refine j_iconst (pc := 52) 2 C dX10_isFit_52 (by decide) ?_
        refine j_iadd (pc := 53) C dX10_isFit_53 ?_
        refine aR_21 (pc := 54) C dX10_isFit_54 ?_
        refine j_icmp_ne (pc := 55) 62 C dX10_isFit_55 (by decide) ?_ ?_
        ·
          refine j_iconst (pc := 62) 0 C dX10_isFit_62 (by decide) ?_
          refine j_istore_n (pc := 63) [(3, .int 0), (0, .ref (gA G 0)), (1, .int x1), (2, .int x2), (4, .int x4)] C dX10_isFit_63 rfl (Nat.le_of_ble_eq_true rfl) rfl ?_
          refine j_iinc (pc := 64) 4 (x4 + 1) [(4, .int (x4 + 1)), (3, .int 0), (0, .ref (gA G 0)), (1, .int x1), (2, .int x2)] C dX10_isFit_64 rfl rfl (Nat.le_of_ble_eq_true rfl) rfl ?_
          refine j_goto (pc := 67) 5 C dX10_isFit_67 (by decide) ?_
          refine j_sub [2, 3, 4, 1, 0] rfl ?_
          exact ih x1 x2 0 (x4 + 1) T1
        ·
          refine j_iconst (pc := 58) 1 C dX10_isFit_58 (by decide) ?_
          refine j_goto (pc := 59) 63 C dX10_isFit_59 (by decide) ?_
          refine j_istore_n (pc := 63) [(3, .int 1), (0, .ref (gA G 0)), (1, .int x1), (2, .int x2), (4, .int x4)] C dX10_isFit_63 rfl (Nat.le_of_ble_eq_true rfl) rfl ?_
          refine j_iinc (pc := 64) 4 (x4 + 1) [(4, .int (x4 + 1)), (3, .int 1), (0, .ref (gA G 0)), (1, .int x1), (2, .int x2)] C dX10_isFit_64 rfl rfl (Nat.le_of_ble_eq_true rfl) rfl ?_
          refine j_goto (pc := 67) 5 C dX10_isFit_67 (by decide) ?_
          refine j_sub [2, 3, 4, 1, 0] rfl ?_
          exact ih x1 x2 1 (x4 + 1) T1
theorem bR_isFit {E : Ec} {G : Gc}    (C : JC E (VR G 5 0 0 RX10) cX10_isFit 8 (some .boolean))    (x1 : Int32) (x2 : Int32) (S : St) : J E (VR G 5 0 0 RX10) 0 0 0 [(0, .ref (gA G 0)), (1, .int x1), (2, .int x2)] [] S (fR_isFit  x1 x2 S) := by
  unfold fR_isFit
  refine j_iconst (pc := 0) 1 C dX10_isFit_0 (by decide) ?_
  refine j_istore_n (pc := 1) [(3, .int 1), (0, .ref (gA G 0)), (1, .int x1), (2, .int x2)] C dX10_isFit_1 rfl (Nat.le_of_ble_eq_true rfl) rfl ?_
  refine j_iconst (pc := 2) 0 C dX10_isFit_2 (by decide) ?_
  refine j_istore (pc := 3) [(4, .int 0), (3, .int 1), (0, .ref (gA G 0)), (1, .int x1), (2, .int x2)] C dX10_isFit_3 (Nat.le_of_ble_eq_true rfl) rfl ?_
  refine j_sub [2, 3, 4, 1, 0] rfl ?_
  exact bR_isFit_5 C  FU x1 x2 1 0 S
theorem cR_isFit {l : Launch} {G : Gc} (hfl : l.stackTraces = false) (hW : Wok G wR 26)   (x1 : Int32) (x2 : Int32) (S : St) : Ct l yX10_isFit (Cond.code yX10_isFit cX10_isFit 5 (some .boolean) :: tblG) 8 0 0 G wR 26 [.ref (gA G 0), .int x1, .int x2] S (fR_isFit x1 x2 S) := ct_of (own := RX10) hfl (by decide +kernel) rfl hW (Nat.le_of_ble_eq_true rfl) (fun E hE C => by subst hE; exact bR_isFit C   x1 x2 S)
theorem rR_isFit {E : Ec} {G : Gc} {nL mc ms : Nat} {own : String} {cc : ByteArray} {L : Nat} {ret : Option FieldType} {k n pc ix : Nat} {loc : List (Nat × Value)} {rest : List Value}  {x1 : Int32} {x2 : Int32} {S : St}  (C : JC E (VR G nL mc ms own) cc L ret) (hd : decode cc pc = .ok (.invokevirtual ix, 3)) (hq : Cond.methodLink own ix yX10_isFit ∈ tblG) (hL : 8 + 1 ≤ L) (hW : (rest.map fun v => v.category).sum ≤ 8) (hf : k + 0 ≤ mc ∧ n + 0 ≤ ms) : Rn E (VR G nL mc ms own) k n 0 0 pc loc (.int x2 :: .int x1 :: .ref (gA G 0) :: rest) rest S (fR_isFit x1 x2 S) := rn_V (ci := 10) 0 (V := VR G nL mc ms own) (As := [.int x1, .int x2]) (Cq := (RX10, TX10, 53)) (cR_isFit C.flags C.wok  x1 x2 S) knX10_isFit ⟨q_1182, q_1183⟩ rfl rfl C hd hq hL rfl rfl hW hf

theorem knX10_fits : Kn yX10_fits cX10_fits 6 (some .int) 1 := ⟨q_1185, q_815, by decide +kernel, by decide⟩
theorem bR_fits_45 {E : Ec} {G : Gc}   {K33 : Int32 → Int32 → Int32 → Int32 → St → Oz} (C : JC E (VR G 6 0 0 RX10) cX10_fits 9 (some .int))   (hK33 : ∀ (x1 : Int32) (x2 : Int32) (x3 : Int32) (x4 : Int32) (S : St), J E (VR G 6 0 0 RX10) 0 0 33 [(0, .ref (gA G 0)), (1, .int x1), (2, .int x2), (3, .int x3), (4, .int x4)] [] S (K33 x1 x2 x3 x4 S)) : ∀ (n : Nat) (x1 : Int32) (x2 : Int32) (x3 : Int32) (x4 : Int32) (x5 : Int32) (S : St), J E (VR G 6 0 0 RX10) 0 0 45 [(0, .ref (gA G 0)), (1, .int x1), (2, .int x2), (3, .int x3), (4, .int x4), (5, .int x5)] [] S (fR_fits_45 K33 n x1 x2 x3 x4 x5 S) := by
  intro n
  induction n with
  | zero => intro x1 x2 x3 x4 x5 S; rw [fR_fits_45]; exact j_none
  | succ n ih =>
    intro x1 x2 x3 x4 x5 S
    rw [fR_fits_45]
    refine j_iload (pc := 45) 5 C dX10_fits_45 rfl ?_
    refine j_aload_n (pc := 47) 0 C dX10_fits_47 rfl rfl ?_
    refine gR_0_20 (pc := 48) C dX10_fits_48 q_880 ?_
    refine j_icmp_ge (pc := 51) 95 C dX10_fits_51 (by decide) ?_ ?_
    ·
      refine j_iinc (pc := 95) 4 (x4 + 1) [(4, .int (x4 + 1)), (0, .ref (gA G 0)), (1, .int x1), (2, .int x2), (3, .int x3), (5, .int x5)] C dX10_fits_95 rfl rfl (Nat.le_of_ble_eq_true rfl) rfl ?_
      refine j_goto (pc := 98) 33 C dX10_fits_98 (by decide) ?_
      refine j_sub [1, 2, 3, 4, 0] rfl ?_
      exact hK33 x1 x2 x3 (x4 + 1) S
    ·
      refine j_aload_n (pc := 54) 0 C dX10_fits_54 rfl rfl ?_
      refine j_iload (pc := 55) 4 C dX10_fits_55 rfl ?_
      refine j_iload (pc := 57) 5 C dX10_fits_57 rfl ?_
      refine j_callI0 (pc := 59) C (rR_isFit C dX10_fits_59 q_1184 (by omega) (Nat.le_of_ble_eq_true rfl) ⟨Nat.le_of_ble_eq_true rfl, Nat.le_of_ble_eq_true rfl⟩) ⟨Nat.le_of_ble_eq_true rfl, Nat.le_of_ble_eq_true rfl⟩ (fun r2 T1 => ?_)
      refine j_if_ne (pc := 62) 68 C dX10_fits_62 (by decide) ?_ ?_
      ·
        refine j_iinc (pc := 68) 2 (x2 + 1) [(2, .int (x2 + 1)), (0, .ref (gA G 0)), (1, .int x1), (3, .int x3), (4, .int x4), (5, .int x5)] C dX10_fits_68 rfl rfl (Nat.le_of_ble_eq_true rfl) rfl ?_
        refine j_iload_n (pc := 71) 3 C dX10_fits_71 rfl rfl ?_
        refine j_iconst (pc := 72) (-1) C dX10_fits_72 (by decide) ?_
        refine j_icmp_ne (pc := 73) 87 C dX10_fits_73 (by decide) ?_ ?_
        ·
          refine j_iload_n (pc := 87) 3 C dX10_fits_87 rfl rfl ?_
          refine j_istore_n (pc := 88) [(3, .int x3), (2, .int (x2 + 1)), (0, .ref (gA G 0)), (1, .int x1), (4, .int x4), (5, .int x5)] C dX10_fits_88 rfl (Nat.le_of_ble_eq_true rfl) rfl ?_
          refine j_iinc (pc := 89) 5 (x5 + 1) [(5, .int (x5 + 1)), (3, .int x3), (2, .int (x2 + 1)), (0, .ref (gA G 0)), (1, .int x1), (4, .int x4)] C dX10_fits_89 rfl rfl (Nat.le_of_ble_eq_true rfl) rfl ?_
          refine j_goto (pc := 92) 45 C dX10_fits_92 (by decide) ?_
          refine j_sub [3, 4, 2, 1, 5, 0] rfl ?_
          exact ih x1 (x2 + 1) x3 x4 (x5 + 1) T1
        ·
          refine j_bipush (pc := 76) 10 C dX10_fits_76 (by decide) ?_
          refine j_iload (pc := 78) 4 C dX10_fits_78 rfl ?_
          refine j_imul (pc := 80) C dX10_fits_80 ?_
          refine j_iload (pc := 81) 5 C dX10_fits_81 rfl ?_
          refine j_iadd (pc := 83) C dX10_fits_83 ?_
          refine j_goto (pc := 84) 88 C dX10_fits_84 (by decide) ?_
          refine j_nxI (fun v3 => ?_)
          refine j_istore_n (pc := 88) [(3, .int v3), (2, .int (x2 + 1)), (0, .ref (gA G 0)), (1, .int x1), (4, .int x4), (5, .int x5)] C dX10_fits_88 rfl (Nat.le_of_ble_eq_true rfl) rfl ?_
          refine j_iinc (pc := 89) 5 (x5 + 1) [(5, .int (x5 + 1)), (3, .int v3), (2, .int (x2 + 1)), (0, .ref (gA G 0)), (1, .int x1), (4, .int x4)] C dX10_fits_89 rfl rfl (Nat.le_of_ble_eq_true rfl) rfl ?_
          refine j_goto (pc := 92) 45 C dX10_fits_92 (by decide) ?_
          refine j_sub [3, 4, 2, 1, 5, 0] rfl ?_
          exact ih x1 (x2 + 1) v3 x4 (x5 + 1) T1
      ·
        refine j_goto (pc := 65) 89 C dX10_fits_65 (by decide) ?_
        refine j_iinc (pc := 89) 5 (x5 + 1) [(5, .int (x5 + 1)), (0, .ref (gA G 0)), (1, .int x1), (2, .int x2), (3, .int x3), (4, .int x4)] C dX10_fits_89 rfl rfl (Nat.le_of_ble_eq_true rfl) rfl ?_
        refine j_goto (pc := 92) 45 C dX10_fits_92 (by decide) ?_
        refine j_sub [1, 2, 3, 4, 5, 0] rfl ?_
        exact ih x1 x2 x3 x4 (x5 + 1) T1
theorem bR_fits_33 {E : Ec} {G : Gc}    (C : JC E (VR G 6 0 0 RX10) cX10_fits 9 (some .int))    : ∀ (n : Nat) (x1 : Int32) (x2 : Int32) (x3 : Int32) (x4 : Int32) (S : St), J E (VR G 6 0 0 RX10) 0 0 33 [(0, .ref (gA G 0)), (1, .int x1), (2, .int x2), (3, .int x3), (4, .int x4)] [] S (fR_fits_33  n x1 x2 x3 x4 S) := by
  intro n
  induction n with
  | zero => intro x1 x2 x3 x4 S; rw [fR_fits_33]; exact j_none
  | succ n ih =>
    intro x1 x2 x3 x4 S
    rw [fR_fits_33]
    refine j_iload (pc := 33) 4 C dX10_fits_33 rfl ?_
    refine j_aload_n (pc := 35) 0 C dX10_fits_35 rfl rfl ?_
    refine gR_0_21 (pc := 36) C dX10_fits_36 q_881 ?_
    refine j_icmp_ge (pc := 39) 101 C dX10_fits_39 (by decide) ?_ ?_
    ·
      refine j_iload_n (pc := 101) 1 C dX10_fits_101 rfl rfl ?_
      refine j_if_ne (pc := 102) 109 C dX10_fits_102 (by decide) ?_ ?_
      ·
        refine j_iload_n (pc := 109) 3 C dX10_fits_109 rfl rfl ?_
        exact j_iret C dX10_fits_110 rfl (Nat.le_of_ble_eq_true rfl) (Nat.le_of_ble_eq_true rfl)
      ·
        refine j_iload_n (pc := 105) 2 C dX10_fits_105 rfl rfl ?_
        refine j_goto (pc := 106) 110 C dX10_fits_106 (by decide) ?_
        exact j_iret C dX10_fits_110 rfl (Nat.le_of_ble_eq_true rfl) (Nat.le_of_ble_eq_true rfl)
    ·
      refine j_iconst (pc := 42) 0 C dX10_fits_42 (by decide) ?_
      refine j_istore (pc := 43) [(5, .int 0), (0, .ref (gA G 0)), (1, .int x1), (2, .int x2), (3, .int x3), (4, .int x4)] C dX10_fits_43 (Nat.le_of_ble_eq_true rfl) rfl ?_
      refine j_sub [1, 2, 3, 4, 5, 0] rfl ?_
      exact bR_fits_45 C ih FU x1 x2 x3 x4 0 S
theorem bR_fits {E : Ec} {G : Gc}    (C : JC E (VR G 6 0 0 RX10) cX10_fits 9 (some .int))    (x1 : Int32) (S : St) : J E (VR G 6 0 0 RX10) 0 0 0 [(0, .ref (gA G 0)), (1, .int x1)] [] S (fR_fits  x1 S) := by
  unfold fR_fits
  refine j_aload_n (pc := 0) 0 C dX10_fits_0 rfl rfl ?_
  refine j_iconst (pc := 1) 0 C dX10_fits_1 (by decide) ?_
  refine pR_0_0 (pc := 2) C dX10_fits_2 q_811 ?_
  refine j_nxS (fun T1 => ?_)
  refine j_aload_n (pc := 5) 0 C dX10_fits_5 rfl rfl ?_
  refine j_iload_n (pc := 6) 1 C dX10_fits_6 rfl rfl ?_
  refine j_iconst (pc := 7) 0 C dX10_fits_7 (by decide) ?_
  refine j_iconst (pc := 8) 1 C dX10_fits_8 (by decide) ?_
  refine j_callI0 (pc := 9) C (rR_within C dX10_fits_9 q_1094 (by omega) (Nat.le_of_ble_eq_true rfl) ⟨Nat.le_of_ble_eq_true rfl, Nat.le_of_ble_eq_true rfl⟩) ⟨Nat.le_of_ble_eq_true rfl, Nat.le_of_ble_eq_true rfl⟩ (fun r3 T2 => ?_)
  refine j_iconst (pc := 12) 1 C dX10_fits_12 (by decide) ?_
  refine j_iconst (pc := 13) 1 C dX10_fits_13 (by decide) ?_
  refine j_callI0 (pc := 14) C (rR_may C dX10_fits_14 q_822 (by omega) (Nat.le_of_ble_eq_true rfl) ⟨Nat.le_of_ble_eq_true rfl, Nat.le_of_ble_eq_true rfl⟩) ⟨Nat.le_of_ble_eq_true rfl, Nat.le_of_ble_eq_true rfl⟩ (fun r5 T4 => ?_)
  refine j_if_ne (pc := 17) 22 C dX10_fits_17 (by decide) ?_ ?_
  ·
    refine j_aload_n (pc := 22) 0 C dX10_fits_22 rfl rfl ?_
    refine j_callv0 (pc := 23) C (rR_take C dX10_fits_23 q_984 (by omega) (Nat.le_of_ble_eq_true rfl) ⟨Nat.le_of_ble_eq_true rfl, Nat.le_of_ble_eq_true rfl⟩) ⟨Nat.le_of_ble_eq_true rfl, Nat.le_of_ble_eq_true rfl⟩ (fun T6 => ?_)
    refine j_iconst (pc := 26) 0 C dX10_fits_26 (by decide) ?_
    refine j_istore_n (pc := 27) [(2, .int 0), (0, .ref (gA G 0)), (1, .int x1)] C dX10_fits_27 rfl (Nat.le_of_ble_eq_true rfl) rfl ?_
    refine j_iconst (pc := 28) (-1) C dX10_fits_28 (by decide) ?_
    refine j_istore_n (pc := 29) [(3, .int (-1)), (2, .int 0), (0, .ref (gA G 0)), (1, .int x1)] C dX10_fits_29 rfl (Nat.le_of_ble_eq_true rfl) rfl ?_
    refine j_iconst (pc := 30) 0 C dX10_fits_30 (by decide) ?_
    refine j_istore (pc := 31) [(4, .int 0), (3, .int (-1)), (2, .int 0), (0, .ref (gA G 0)), (1, .int x1)] C dX10_fits_31 (Nat.le_of_ble_eq_true rfl) rfl ?_
    refine j_sub [3, 4, 2, 1, 0] rfl ?_
    exact bR_fits_33 C  FU x1 0 (-1) 0 T6
  ·
    refine j_iconst (pc := 20) 0 C dX10_fits_20 (by decide) ?_
    exact j_iret C dX10_fits_21 rfl (Nat.le_of_ble_eq_true rfl) (Nat.le_of_ble_eq_true rfl)
theorem cR_fits {l : Launch} {G : Gc} (hfl : l.stackTraces = false) (hW : Wok G wR 26)   (x1 : Int32) (S : St) : Ct l yX10_fits (Cond.code yX10_fits cX10_fits 6 (some .int) :: tblG) 9 0 0 G wR 26 [.ref (gA G 0), .int x1] S (fR_fits x1 S) := ct_of (own := RX10) hfl (by decide +kernel) rfl hW (Nat.le_of_ble_eq_true rfl) (fun E hE C => by subst hE; exact bR_fits C   x1 S)
theorem rR_fits {E : Ec} {G : Gc} {nL mc ms : Nat} {own : String} {cc : ByteArray} {L : Nat} {ret : Option FieldType} {k n pc ix : Nat} {loc : List (Nat × Value)} {rest : List Value}  {x1 : Int32} {S : St}  (C : JC E (VR G nL mc ms own) cc L ret) (hd : decode cc pc = .ok (.invokevirtual ix, 3)) (hq : Cond.methodLink own ix yX10_fits ∈ tblG) (hL : 9 + 1 ≤ L) (hW : (rest.map fun v => v.category).sum ≤ 8) (hf : k + 0 ≤ mc ∧ n + 0 ≤ ms) : Rn E (VR G nL mc ms own) k n 0 0 pc loc (.int x1 :: .ref (gA G 0) :: rest) rest S (fR_fits x1 S) := rn_V (ci := 10) 0 (V := VR G nL mc ms own) (As := [.int x1]) (Cq := (RX10, TX10, 53)) (cR_fits C.flags C.wok  x1 S) knX10_fits ⟨q_1186, q_1187⟩ rfl rfl C hd hq hL rfl rfl hW hf

theorem knX10_isWritten : Kn yX10_isWritten cX10_isWritten 4 (some .boolean) 2 := ⟨q_1188, q_815, by decide +kernel, by decide⟩
theorem bR_isWritten_2 {E : Ec} {G : Gc}    (C : JC E (VR G 4 0 0 RX10) cX10_isWritten 1 (some .boolean))    : ∀ (n : Nat) (x1 : Int32) (x2 : Int32) (x3 : Int32) (S : St), J E (VR G 4 0 0 RX10) 0 0 2 [(0, .ref (gA G 0)), (1, .int x1), (2, .int x2), (3, .int x3)] [] S (fR_isWritten_2  n x1 x2 x3 S) := by
  intro n
  induction n with
  | zero => intro x1 x2 x3 S; rw [fR_isWritten_2]; exact j_none
  | succ n ih =>
    intro x1 x2 x3 S
    rw [fR_isWritten_2]
    refine j_iload_n (pc := 2) 3 C dX10_isWritten_2 rfl rfl ?_
    refine j_aload_n (pc := 3) 0 C dX10_isWritten_3 rfl rfl ?_
    refine gR_0_45 (pc := 4) C dX10_isWritten_4 q_895 ?_
    refine j_icmp_ge (pc := 7) 44 C dX10_isWritten_7 (by decide) ?_ ?_
    ·
      refine j_iconst (pc := 44) 0 C dX10_isWritten_44 (by decide) ?_
      exact j_zretc C dX10_isWritten_45 rfl (Nat.le_of_ble_eq_true rfl) (Nat.le_of_ble_eq_true rfl) rfl
    ·
      refine j_aload_n (pc := 10) 0 C dX10_isWritten_10 rfl rfl ?_
      refine gR_0_44 (pc := 11) C dX10_isWritten_11 q_1082 ?_
      refine j_iconst (pc := 14) 3 C dX10_isWritten_14 (by decide) ?_
      refine j_iload_n (pc := 15) 3 C dX10_isWritten_15 rfl rfl ?_
      refine j_imul (pc := 16) C dX10_isWritten_16 ?_
      refine aR_21 (pc := 17) C dX10_isWritten_17 ?_
      refine j_iload_n (pc := 18) 1 C dX10_isWritten_18 rfl rfl ?_
      refine j_icmp_ne (pc := 19) 38 C dX10_isWritten_19 (by decide) ?_ ?_
      ·
        refine j_iinc (pc := 38) 3 (x3 + 1) [(3, .int (x3 + 1)), (0, .ref (gA G 0)), (1, .int x1), (2, .int x2)] C dX10_isWritten_38 rfl rfl (Nat.le_of_ble_eq_true rfl) rfl ?_
        refine j_goto (pc := 41) 2 C dX10_isWritten_41 (by decide) ?_
        refine j_sub [1, 2, 3, 0] rfl ?_
        exact ih x1 x2 (x3 + 1) S
      ·
        refine j_aload_n (pc := 22) 0 C dX10_isWritten_22 rfl rfl ?_
        refine gR_0_44 (pc := 23) C dX10_isWritten_23 q_1082 ?_
        refine j_iconst (pc := 26) 3 C dX10_isWritten_26 (by decide) ?_
        refine j_iload_n (pc := 27) 3 C dX10_isWritten_27 rfl rfl ?_
        refine j_imul (pc := 28) C dX10_isWritten_28 ?_
        refine j_iconst (pc := 29) 1 C dX10_isWritten_29 (by decide) ?_
        refine j_iadd (pc := 30) C dX10_isWritten_30 ?_
        refine aR_21 (pc := 31) C dX10_isWritten_31 ?_
        refine j_iload_n (pc := 32) 2 C dX10_isWritten_32 rfl rfl ?_
        refine j_icmp_ne (pc := 33) 38 C dX10_isWritten_33 (by decide) ?_ ?_
        ·
          refine j_iinc (pc := 38) 3 (x3 + 1) [(3, .int (x3 + 1)), (0, .ref (gA G 0)), (1, .int x1), (2, .int x2)] C dX10_isWritten_38 rfl rfl (Nat.le_of_ble_eq_true rfl) rfl ?_
          refine j_goto (pc := 41) 2 C dX10_isWritten_41 (by decide) ?_
          refine j_sub [1, 2, 3, 0] rfl ?_
          exact ih x1 x2 (x3 + 1) S
        ·
          refine j_iconst (pc := 36) 1 C dX10_isWritten_36 (by decide) ?_
          exact j_zretc C dX10_isWritten_37 rfl (Nat.le_of_ble_eq_true rfl) (Nat.le_of_ble_eq_true rfl) rfl
theorem bR_isWritten {E : Ec} {G : Gc}    (C : JC E (VR G 4 0 0 RX10) cX10_isWritten 1 (some .boolean))    (x1 : Int32) (x2 : Int32) (S : St) : J E (VR G 4 0 0 RX10) 0 0 0 [(0, .ref (gA G 0)), (1, .int x1), (2, .int x2)] [] S (fR_isWritten  x1 x2 S) := by
  unfold fR_isWritten
  refine j_iconst (pc := 0) 0 C dX10_isWritten_0 (by decide) ?_
  refine j_istore_n (pc := 1) [(3, .int 0), (0, .ref (gA G 0)), (1, .int x1), (2, .int x2)] C dX10_isWritten_1 rfl (Nat.le_of_ble_eq_true rfl) rfl ?_
  refine j_sub [1, 2, 3, 0] rfl ?_
  exact bR_isWritten_2 C  FU x1 x2 0 S
theorem cR_isWritten {l : Launch} {G : Gc} (hfl : l.stackTraces = false) (hW : Wok G wR 26)   (x1 : Int32) (x2 : Int32) (S : St) : Ct l yX10_isWritten (Cond.code yX10_isWritten cX10_isWritten 4 (some .boolean) :: tblG) 1 0 0 G wR 26 [.ref (gA G 0), .int x1, .int x2] S (fR_isWritten x1 x2 S) := ct_of (own := RX10) hfl (by decide +kernel) rfl hW (Nat.le_of_ble_eq_true rfl) (fun E hE C => by subst hE; exact bR_isWritten C   x1 x2 S)
theorem rR_isWritten {E : Ec} {G : Gc} {nL mc ms : Nat} {own : String} {cc : ByteArray} {L : Nat} {ret : Option FieldType} {k n pc ix : Nat} {loc : List (Nat × Value)} {rest : List Value}  {x1 : Int32} {x2 : Int32} {S : St}  (C : JC E (VR G nL mc ms own) cc L ret) (hd : decode cc pc = .ok (.invokevirtual ix, 3)) (hq : Cond.methodLink own ix yX10_isWritten ∈ tblG) (hL : 1 + 1 ≤ L) (hW : (rest.map fun v => v.category).sum ≤ 8) (hf : k + 0 ≤ mc ∧ n + 0 ≤ ms) : Rn E (VR G nL mc ms own) k n 0 0 pc loc (.int x2 :: .int x1 :: .ref (gA G 0) :: rest) rest S (fR_isWritten x1 x2 S) := rn_V (ci := 10) 0 (V := VR G nL mc ms own) (As := [.int x1, .int x2]) (Cq := (RX10, TX10, 53)) (cR_isWritten C.flags C.wok  x1 x2 S) knX10_isWritten ⟨q_1189, q_1190⟩ rfl rfl C hd hq hL rfl rfl hW hf

theorem knX10_worstOf : Kn yX10_worstOf cX10_worstOf 7 (some .int) 2 := ⟨q_1193, q_815, by decide +kernel, by decide⟩
theorem bR_worstOf_38 {E : Ec} {G : Gc}   {K26 : Int32 → Int32 → Int32 → Int32 → St → Oz} (C : JC E (VR G 7 0 0 RX10) cX10_worstOf 9 (some .int))   (hK26 : ∀ (x1 : Int32) (x2 : Int32) (x3 : Int32) (x4 : Int32) (S : St), J E (VR G 7 0 0 RX10) 0 0 26 [(0, .ref (gA G 0)), (1, .int x1), (2, .int x2), (3, .int x3), (4, .int x4)] [] S (K26 x1 x2 x3 x4 S)) : ∀ (n : Nat) (x1 : Int32) (x2 : Int32) (x3 : Int32) (x4 : Int32) (x5 : Int32) (S : St), J E (VR G 7 0 0 RX10) 0 0 38 [(0, .ref (gA G 0)), (1, .int x1), (2, .int x2), (3, .int x3), (4, .int x4), (5, .int x5)] [] S (fR_worstOf_38 K26 n x1 x2 x3 x4 x5 S) := by
  intro n
  induction n with
  | zero => intro x1 x2 x3 x4 x5 S; rw [fR_worstOf_38]; exact j_none
  | succ n ih =>
    intro x1 x2 x3 x4 x5 S
    rw [fR_worstOf_38]
    refine j_iload (pc := 38) 5 C dX10_worstOf_38 rfl ?_
    refine j_aload_n (pc := 40) 0 C dX10_worstOf_40 rfl rfl ?_
    refine gR_0_20 (pc := 41) C dX10_worstOf_41 q_880 ?_
    refine j_icmp_ge (pc := 44) 113 C dX10_worstOf_44 (by decide) ?_ ?_
    ·
      refine j_iinc (pc := 113) 4 (x4 + 1) [(4, .int (x4 + 1)), (0, .ref (gA G 0)), (1, .int x1), (2, .int x2), (3, .int x3), (5, .int x5)] C dX10_worstOf_113 rfl rfl (Nat.le_of_ble_eq_true rfl) rfl ?_
      refine j_goto (pc := 116) 26 C dX10_worstOf_116 (by decide) ?_
      refine j_sub [1, 2, 3, 4, 0] rfl ?_
      exact hK26 x1 x2 x3 (x4 + 1) S
    ·
      refine j_aload_n (pc := 47) 0 C dX10_worstOf_47 rfl rfl ?_
      refine j_iload (pc := 48) 4 C dX10_worstOf_48 rfl ?_
      refine j_iload (pc := 50) 5 C dX10_worstOf_50 rfl ?_
      refine j_callI0 (pc := 52) C (rR_isFit C dX10_worstOf_52 q_1184 (by omega) (Nat.le_of_ble_eq_true rfl) ⟨Nat.le_of_ble_eq_true rfl, Nat.le_of_ble_eq_true rfl⟩) ⟨Nat.le_of_ble_eq_true rfl, Nat.le_of_ble_eq_true rfl⟩ (fun r2 T1 => ?_)
      refine j_if_ne (pc := 55) 61 C dX10_worstOf_55 (by decide) ?_ ?_
      ·
        refine j_aload_n (pc := 61) 0 C dX10_worstOf_61 rfl rfl ?_
        refine j_iload_n (pc := 62) 1 C dX10_worstOf_62 rfl rfl ?_
        refine j_iload_n (pc := 63) 2 C dX10_worstOf_63 rfl rfl ?_
        refine j_iload (pc := 64) 4 C dX10_worstOf_64 rfl ?_
        refine j_iload (pc := 66) 5 C dX10_worstOf_66 rfl ?_
        refine j_callI0 (pc := 68) C (rR_knownThen C dX10_worstOf_68 q_1180 (by omega) (Nat.le_of_ble_eq_true rfl) ⟨Nat.le_of_ble_eq_true rfl, Nat.le_of_ble_eq_true rfl⟩) ⟨Nat.le_of_ble_eq_true rfl, Nat.le_of_ble_eq_true rfl⟩ (fun r4 T3 => ?_)
        refine j_istore (pc := 71) [(6, .int r4), (0, .ref (gA G 0)), (1, .int x1), (2, .int x2), (3, .int x3), (4, .int x4), (5, .int x5)] C dX10_worstOf_71 (Nat.le_of_ble_eq_true rfl) rfl ?_
        refine j_aload_n (pc := 73) 1 C dX10_worstOf_73 rfl rfl ?_
        refine gR_0_48 (pc := 74) C dX10_worstOf_74 q_1192 ?_
        refine j_iload (pc := 77) 0 C dX10_worstOf_77 rfl ?_
        refine j_dup2 (pc := 79) C dX10_worstOf_79 rfl rfl ?_
        refine aR_23 (pc := 80) C dX10_worstOf_80 ?_
        refine j_iconst (pc := 81) 1 C dX10_worstOf_81 (by decide) ?_
        refine j_iadd (pc := 82) C dX10_worstOf_82 ?_
        refine sR_23 (pc := 83) C dX10_worstOf_83 ?_
        refine j_nxS (fun T5 => ?_)
        refine j_aload_n (pc := 84) 1 C dX10_worstOf_84 rfl rfl ?_
        refine gR_0_48 (pc := 85) C dX10_worstOf_85 q_1192 ?_
        refine j_iload (pc := 88) 0 C dX10_worstOf_88 rfl ?_
        refine aR_23 (pc := 90) C dX10_worstOf_90 ?_
        refine j_iload_n (pc := 91) 4 C dX10_worstOf_91 rfl rfl ?_
        refine j_icmp_le (pc := 92) 105 C dX10_worstOf_92 (by decide) ?_ ?_
        ·
          refine j_iload_n (pc := 105) 4 C dX10_worstOf_105 rfl rfl ?_
          refine j_istore_n (pc := 106) [(3, .int x3), (6, .int r4), (0, .ref (gA G 0)), (1, .int x1), (2, .int x2), (4, .int x4), (5, .int x5)] C dX10_worstOf_106 rfl (Nat.le_of_ble_eq_true rfl) rfl ?_
          refine j_iinc (pc := 107) 6 (x5 + 1) [(5, .int (x5 + 1)), (3, .int x3), (6, .int r4), (0, .ref (gA G 0)), (1, .int x1), (2, .int x2), (4, .int x4)] C dX10_worstOf_107 rfl rfl (Nat.le_of_ble_eq_true rfl) rfl ?_
          refine j_goto (pc := 110) 38 C dX10_worstOf_110 (by decide) ?_
          refine j_sub [3, 4, 5, 1, 6, 0] rfl ?_
          exact ih x1 x2 x3 x4 (x5 + 1) T5
        ·
          refine j_aload_n (pc := 95) 1 C dX10_worstOf_95 rfl rfl ?_
          refine gR_0_48 (pc := 96) C dX10_worstOf_96 q_1192 ?_
          refine j_iload (pc := 99) 0 C dX10_worstOf_99 rfl ?_
          refine aR_23 (pc := 101) C dX10_worstOf_101 ?_
          refine j_goto (pc := 102) 106 C dX10_worstOf_102 (by decide) ?_
          refine j_nxI (fun v6 => ?_)
          refine j_istore_n (pc := 106) [(3, .int v6), (6, .int r4), (0, .ref (gA G 0)), (1, .int x1), (2, .int x2), (4, .int x4), (5, .int x5)] C dX10_worstOf_106 rfl (Nat.le_of_ble_eq_true rfl) rfl ?_
          refine j_iinc (pc := 107) 6 (x5 + 1) [(5, .int (x5 + 1)), (3, .int v6), (6, .int r4), (0, .ref (gA G 0)), (1, .int x1), (2, .int x2), (4, .int x4)] C dX10_worstOf_107 rfl rfl (Nat.le_of_ble_eq_true rfl) rfl ?_
          refine j_goto (pc := 110) 38 C dX10_worstOf_110 (by decide) ?_
          refine j_sub [3, 4, 5, 1, 6, 0] rfl ?_
          exact ih x1 x2 v6 x4 (x5 + 1) T5
      ·
        refine j_goto (pc := 58) 107 C dX10_worstOf_58 (by decide) ?_
        refine j_iinc (pc := 107) 5 (x5 + 1) [(5, .int (x5 + 1)), (0, .ref (gA G 0)), (1, .int x1), (2, .int x2), (3, .int x3), (4, .int x4)] C dX10_worstOf_107 rfl rfl (Nat.le_of_ble_eq_true rfl) rfl ?_
        refine j_goto (pc := 110) 38 C dX10_worstOf_110 (by decide) ?_
        refine j_sub [1, 2, 3, 4, 5, 0] rfl ?_
        exact ih x1 x2 x3 x4 (x5 + 1) T1
theorem bR_worstOf_26 {E : Ec} {G : Gc}    (C : JC E (VR G 7 0 0 RX10) cX10_worstOf 9 (some .int))    : ∀ (n : Nat) (x1 : Int32) (x2 : Int32) (x3 : Int32) (x4 : Int32) (S : St), J E (VR G 7 0 0 RX10) 0 0 26 [(0, .ref (gA G 0)), (1, .int x1), (2, .int x2), (3, .int x3), (4, .int x4)] [] S (fR_worstOf_26  n x1 x2 x3 x4 S) := by
  intro n
  induction n with
  | zero => intro x1 x2 x3 x4 S; rw [fR_worstOf_26]; exact j_none
  | succ n ih =>
    intro x1 x2 x3 x4 S
    rw [fR_worstOf_26]
    refine j_iload (pc := 26) 4 C dX10_worstOf_26 rfl ?_
    refine j_aload_n (pc := 28) 0 C dX10_worstOf_28 rfl rfl ?_
    refine gR_0_21 (pc := 29) C dX10_worstOf_29 q_881 ?_
    refine j_icmp_ge (pc := 32) 119 C dX10_worstOf_32 (by decide) ?_ ?_
    ·
      refine j_iload_n (pc := 119) 3 C dX10_worstOf_119 rfl rfl ?_
      exact j_iret C dX10_worstOf_120 rfl (Nat.le_of_ble_eq_true rfl) (Nat.le_of_ble_eq_true rfl)
    ·
      refine j_iconst (pc := 35) 0 C dX10_worstOf_35 (by decide) ?_
      refine j_istore (pc := 36) [(5, .int 0), (0, .ref (gA G 0)), (1, .int x1), (2, .int x2), (3, .int x3), (4, .int x4)] C dX10_worstOf_36 (Nat.le_of_ble_eq_true rfl) rfl ?_
      refine j_sub [1, 2, 3, 4, 5, 0] rfl ?_
      exact bR_worstOf_38 C ih FU x1 x2 x3 x4 0 S
theorem bR_worstOf_2 {E : Ec} {G : Gc}    (C : JC E (VR G 7 0 0 RX10) cX10_worstOf 9 (some .int))    : ∀ (n : Nat) (x1 : Int32) (x2 : Int32) (x3 : Int32) (S : St), J E (VR G 7 0 0 RX10) 0 0 2 [(0, .ref (gA G 0)), (1, .int x1), (2, .int x2), (3, .int x3)] [] S (fR_worstOf_2  n x1 x2 x3 S) := by
  intro n
  induction n with
  | zero => intro x1 x2 x3 S; rw [fR_worstOf_2]; exact j_none
  | succ n ih =>
    intro x1 x2 x3 S
    rw [fR_worstOf_2]
    refine j_iload_n (pc := 2) 3 C dX10_worstOf_2 rfl rfl ?_
    refine j_bipush (pc := 3) 40 C dX10_worstOf_3 (by decide) ?_
    refine j_icmp_gt (pc := 5) 21 C dX10_worstOf_5 (by decide) ?_ ?_
    ·
      refine j_iconst (pc := 21) 0 C dX10_worstOf_21 (by decide) ?_
      refine j_istore_n (pc := 22) [(3, .int 0), (0, .ref (gA G 0)), (1, .int x1), (2, .int x2)] C dX10_worstOf_22 rfl (Nat.le_of_ble_eq_true rfl) rfl ?_
      refine j_iconst (pc := 23) 0 C dX10_worstOf_23 (by decide) ?_
      refine j_istore (pc := 24) [(4, .int 0), (3, .int 0), (0, .ref (gA G 0)), (1, .int x1), (2, .int x2)] C dX10_worstOf_24 (Nat.le_of_ble_eq_true rfl) rfl ?_
      refine j_sub [2, 3, 4, 1, 0] rfl ?_
      exact bR_worstOf_26 C  FU x1 x2 0 0 S
    ·
      refine j_aload_n (pc := 8) 0 C dX10_worstOf_8 rfl rfl ?_
      refine gR_0_48 (pc := 9) C dX10_worstOf_9 q_1192 ?_
      refine j_iload_n (pc := 12) 3 C dX10_worstOf_12 rfl rfl ?_
      refine j_iconst (pc := 13) 0 C dX10_worstOf_13 (by decide) ?_
      refine sR_23 (pc := 14) C dX10_worstOf_14 ?_
      refine j_nxS (fun T1 => ?_)
      refine j_iinc (pc := 15) 3 (x3 + 1) [(3, .int (x3 + 1)), (0, .ref (gA G 0)), (1, .int x1), (2, .int x2)] C dX10_worstOf_15 rfl rfl (Nat.le_of_ble_eq_true rfl) rfl ?_
      refine j_goto (pc := 18) 2 C dX10_worstOf_18 (by decide) ?_
      refine j_sub [1, 2, 3, 0] rfl ?_
      exact ih x1 x2 (x3 + 1) T1
theorem bR_worstOf {E : Ec} {G : Gc}    (C : JC E (VR G 7 0 0 RX10) cX10_worstOf 9 (some .int))    (x1 : Int32) (x2 : Int32) (S : St) : J E (VR G 7 0 0 RX10) 0 0 0 [(0, .ref (gA G 0)), (1, .int x1), (2, .int x2)] [] S (fR_worstOf  x1 x2 S) := by
  unfold fR_worstOf
  refine j_iconst (pc := 0) 0 C dX10_worstOf_0 (by decide) ?_
  refine j_istore_n (pc := 1) [(3, .int 0), (0, .ref (gA G 0)), (1, .int x1), (2, .int x2)] C dX10_worstOf_1 rfl (Nat.le_of_ble_eq_true rfl) rfl ?_
  refine j_sub [1, 2, 3, 0] rfl ?_
  exact bR_worstOf_2 C  FU x1 x2 0 S
theorem cR_worstOf {l : Launch} {G : Gc} (hfl : l.stackTraces = false) (hW : Wok G wR 26)   (x1 : Int32) (x2 : Int32) (S : St) : Ct l yX10_worstOf (Cond.code yX10_worstOf cX10_worstOf 7 (some .int) :: tblG) 9 0 0 G wR 26 [.ref (gA G 0), .int x1, .int x2] S (fR_worstOf x1 x2 S) := ct_of (own := RX10) hfl (by decide +kernel) rfl hW (Nat.le_of_ble_eq_true rfl) (fun E hE C => by subst hE; exact bR_worstOf C   x1 x2 S)
theorem rR_worstOf {E : Ec} {G : Gc} {nL mc ms : Nat} {own : String} {cc : ByteArray} {L : Nat} {ret : Option FieldType} {k n pc ix : Nat} {loc : List (Nat × Value)} {rest : List Value}  {x1 : Int32} {x2 : Int32} {S : St}  (C : JC E (VR G nL mc ms own) cc L ret) (hd : decode cc pc = .ok (.invokevirtual ix, 3)) (hq : Cond.methodLink own ix yX10_worstOf ∈ tblG) (hL : 9 + 1 ≤ L) (hW : (rest.map fun v => v.category).sum ≤ 8) (hf : k + 0 ≤ mc ∧ n + 0 ≤ ms) : Rn E (VR G nL mc ms own) k n 0 0 pc loc (.int x2 :: .int x1 :: .ref (gA G 0) :: rest) rest S (fR_worstOf x1 x2 S) := rn_V (ci := 10) 0 (V := VR G nL mc ms own) (As := [.int x1, .int x2]) (Cq := (RX10, TX10, 53)) (cR_worstOf C.flags C.wok  x1 x2 S) knX10_worstOf ⟨q_1194, q_1195⟩ rfl rfl C hd hq hL rfl rfl hW hf

theorem knX10_look : Kn yX10_look cX10_look 7 (some .int) 1 := ⟨q_1197, q_815, by decide +kernel, by decide⟩
theorem bR_look_99 {E : Ec} {G : Gc}   {K33 : Int32 → Int32 → Int32 → Int32 → St → Oz} {K45 : Int32 → Int32 → Int32 → Int32 → Int32 → St → Oz} (C : JC E (VR G 7 0 0 RX10) cX10_look 10 (some .int))   (hK33 : ∀ (x1 : Int32) (x2 : Int32) (x3 : Int32) (x4 : Int32) (S : St), J E (VR G 7 0 0 RX10) 0 0 33 [(0, .ref (gA G 0)), (1, .int x1), (2, .int x2), (3, .int x3), (4, .int x4)] [] S (K33 x1 x2 x3 x4 S)) (hK45 : ∀ (x1 : Int32) (x2 : Int32) (x3 : Int32) (x4 : Int32) (x5 : Int32) (S : St), J E (VR G 7 0 0 RX10) 0 0 45 [(0, .ref (gA G 0)), (1, .int x1), (2, .int x2), (3, .int x3), (4, .int x4), (5, .int x5)] [] S (K45 x1 x2 x3 x4 x5 S)) (x1 : Int32) (x4 : Int32) (x5 : Int32) (x6 : Int32) (S : St) : J E (VR G 7 0 0 RX10) 0 0 99 [(0, .ref (gA G 0)), (1, .int x1), (4, .int x4), (5, .int x5), (6, .int x6)] [] S (fR_look_99 K33 K45 x1 x4 x5 x6 S) := by
  unfold fR_look_99
  refine j_bipush (pc := 99) 10 C dX10_look_99 (by decide) ?_
  refine j_iload (pc := 101) 2 C dX10_look_101 rfl ?_
  refine j_imul (pc := 103) C dX10_look_103 ?_
  refine j_iload (pc := 104) 3 C dX10_look_104 rfl ?_
  refine j_iadd (pc := 106) C dX10_look_106 ?_
  refine j_nxI (fun v1 => ?_)
  refine j_istore_n (pc := 107) [(2, .int v1), (0, .ref (gA G 0)), (1, .int x1), (4, .int x4), (5, .int x5), (6, .int x6)] C dX10_look_107 rfl (Nat.le_of_ble_eq_true rfl) rfl ?_
  refine j_iload (pc := 108) 5 C dX10_look_108 rfl ?_
  refine j_istore_n (pc := 110) [(3, .int x6), (2, .int v1), (0, .ref (gA G 0)), (1, .int x1), (4, .int x4), (5, .int x5), (6, .int x6)] C dX10_look_110 rfl (Nat.le_of_ble_eq_true rfl) rfl ?_
  refine j_iinc (pc := 111) 5 (x5 + 1) [(5, .int (x5 + 1)), (3, .int x6), (2, .int v1), (0, .ref (gA G 0)), (1, .int x1), (4, .int x4), (6, .int x6)] C dX10_look_111 rfl rfl (Nat.le_of_ble_eq_true rfl) rfl ?_
  refine j_goto (pc := 114) 45 C dX10_look_114 (by decide) ?_
  refine j_sub [3, 4, 2, 1, 5, 0] rfl ?_
  exact hK45 x1 v1 x6 x4 (x5 + 1) S
theorem bR_look_77 {E : Ec} {G : Gc}   {K33 : Int32 → Int32 → Int32 → Int32 → St → Oz} {K45 : Int32 → Int32 → Int32 → Int32 → Int32 → St → Oz} (C : JC E (VR G 7 0 0 RX10) cX10_look 10 (some .int))   (hK33 : ∀ (x1 : Int32) (x2 : Int32) (x3 : Int32) (x4 : Int32) (S : St), J E (VR G 7 0 0 RX10) 0 0 33 [(0, .ref (gA G 0)), (1, .int x1), (2, .int x2), (3, .int x3), (4, .int x4)] [] S (K33 x1 x2 x3 x4 S)) (hK45 : ∀ (x1 : Int32) (x2 : Int32) (x3 : Int32) (x4 : Int32) (x5 : Int32) (S : St), J E (VR G 7 0 0 RX10) 0 0 45 [(0, .ref (gA G 0)), (1, .int x1), (2, .int x2), (3, .int x3), (4, .int x4), (5, .int x5)] [] S (K45 x1 x2 x3 x4 x5 S)) (x1 : Int32) (x2 : Int32) (x3 : Int32) (x4 : Int32) (x5 : Int32) (s0 : Int32) (S : St) : J E (VR G 7 0 0 RX10) 0 0 77 [(0, .ref (gA G 0)), (1, .int x1), (2, .int x2), (3, .int x3), (4, .int x4), (5, .int x5)] [.int s0] S (fR_look_77 K33 K45 x1 x2 x3 x4 x5 s0 S) := by
  unfold fR_look_77
  refine j_istore (pc := 77) [(6, .int s0), (0, .ref (gA G 0)), (1, .int x1), (2, .int x2), (3, .int x3), (4, .int x4), (5, .int x5)] C dX10_look_77 (Nat.le_of_ble_eq_true rfl) rfl ?_
  refine j_iload (pc := 79) 0 C dX10_look_79 rfl ?_
  refine j_iconst (pc := 81) (-1) C dX10_look_81 (by decide) ?_
  refine j_icmp_eq (pc := 82) 111 C dX10_look_82 (by decide) ?_ ?_
  ·
    refine j_iinc (pc := 111) 6 (x5 + 1) [(5, .int (x5 + 1)), (6, .int s0), (0, .ref (gA G 0)), (1, .int x1), (2, .int x2), (3, .int x3), (4, .int x4)] C dX10_look_111 rfl rfl (Nat.le_of_ble_eq_true rfl) rfl ?_
    refine j_goto (pc := 114) 45 C dX10_look_114 (by decide) ?_
    refine j_sub [2, 3, 4, 5, 6, 0] rfl ?_
    exact hK45 x1 x2 x3 x4 (x5 + 1) S
  ·
    refine j_iload_n (pc := 85) 3 C dX10_look_85 rfl rfl ?_
    refine j_iconst (pc := 86) (-1) C dX10_look_86 (by decide) ?_
    refine j_icmp_eq (pc := 87) 99 C dX10_look_87 (by decide) ?_ ?_
    ·
      refine j_sub [1, 2, 5, 6, 0] rfl ?_
      exact bR_look_99 C hK33 hK45 x1 x4 x5 s0 S
    ·
      refine j_iload (pc := 90) 0 C dX10_look_90 rfl ?_
      refine j_iload_n (pc := 92) 4 C dX10_look_92 rfl rfl ?_
      refine j_icmp_lt (pc := 93) 99 C dX10_look_93 (by decide) ?_ ?_
      ·
        refine j_sub [1, 2, 5, 6, 0] rfl ?_
        exact bR_look_99 C hK33 hK45 x1 x4 x5 s0 S
      ·
        refine j_goto (pc := 96) 111 C dX10_look_96 (by decide) ?_
        refine j_iinc (pc := 111) 6 (x5 + 1) [(5, .int (x5 + 1)), (6, .int s0), (0, .ref (gA G 0)), (1, .int x1), (2, .int x2), (3, .int x3), (4, .int x4)] C dX10_look_111 rfl rfl (Nat.le_of_ble_eq_true rfl) rfl ?_
        refine j_goto (pc := 114) 45 C dX10_look_114 (by decide) ?_
        refine j_sub [2, 3, 4, 5, 6, 0] rfl ?_
        exact hK45 x1 x2 x3 x4 (x5 + 1) S
theorem bR_look_45 {E : Ec} {G : Gc}   {K33 : Int32 → Int32 → Int32 → Int32 → St → Oz} (C : JC E (VR G 7 0 0 RX10) cX10_look 10 (some .int))   (hK33 : ∀ (x1 : Int32) (x2 : Int32) (x3 : Int32) (x4 : Int32) (S : St), J E (VR G 7 0 0 RX10) 0 0 33 [(0, .ref (gA G 0)), (1, .int x1), (2, .int x2), (3, .int x3), (4, .int x4)] [] S (K33 x1 x2 x3 x4 S)) : ∀ (n : Nat) (x1 : Int32) (x2 : Int32) (x3 : Int32) (x4 : Int32) (x5 : Int32) (S : St), J E (VR G 7 0 0 RX10) 0 0 45 [(0, .ref (gA G 0)), (1, .int x1), (2, .int x2), (3, .int x3), (4, .int x4), (5, .int x5)] [] S (fR_look_45 K33 n x1 x2 x3 x4 x5 S) := by
  intro n
  induction n with
  | zero => intro x1 x2 x3 x4 x5 S; rw [fR_look_45]; exact j_none
  | succ n ih =>
    intro x1 x2 x3 x4 x5 S
    rw [fR_look_45]
    refine j_iload (pc := 45) 5 C dX10_look_45 rfl ?_
    refine j_aload_n (pc := 47) 0 C dX10_look_47 rfl rfl ?_
    refine gR_0_20 (pc := 48) C dX10_look_48 q_880 ?_
    refine j_icmp_ge (pc := 51) 117 C dX10_look_51 (by decide) ?_ ?_
    ·
      refine j_iinc (pc := 117) 4 (x4 + 1) [(4, .int (x4 + 1)), (0, .ref (gA G 0)), (1, .int x1), (2, .int x2), (3, .int x3), (5, .int x5)] C dX10_look_117 rfl rfl (Nat.le_of_ble_eq_true rfl) rfl ?_
      refine j_goto (pc := 120) 33 C dX10_look_120 (by decide) ?_
      refine j_sub [1, 2, 3, 4, 0] rfl ?_
      exact hK33 x1 x2 x3 (x4 + 1) S
    ·
      refine j_aload_n (pc := 54) 0 C dX10_look_54 rfl rfl ?_
      refine j_iload (pc := 55) 4 C dX10_look_55 rfl ?_
      refine j_iload (pc := 57) 5 C dX10_look_57 rfl ?_
      refine j_callI0 (pc := 59) C (rR_isWritten C dX10_look_59 q_1191 (by omega) (Nat.le_of_ble_eq_true rfl) ⟨Nat.le_of_ble_eq_true rfl, Nat.le_of_ble_eq_true rfl⟩) ⟨Nat.le_of_ble_eq_true rfl, Nat.le_of_ble_eq_true rfl⟩ (fun r2 T1 => ?_)
      refine j_if_eq (pc := 62) 69 C dX10_look_62 (by decide) ?_ ?_
      ·
        refine j_aload_n (pc := 69) 0 C dX10_look_69 rfl rfl ?_
        refine j_iload (pc := 70) 4 C dX10_look_70 rfl ?_
        refine j_iload (pc := 72) 5 C dX10_look_72 rfl ?_
        refine j_callI0 (pc := 74) C (rR_worstOf C dX10_look_74 q_1196 (by omega) (Nat.le_of_ble_eq_true rfl) ⟨Nat.le_of_ble_eq_true rfl, Nat.le_of_ble_eq_true rfl⟩) ⟨Nat.le_of_ble_eq_true rfl, Nat.le_of_ble_eq_true rfl⟩ (fun r4 T3 => ?_)
        exact bR_look_77 C hK33 ih x1 x2 x3 x4 x5 r4 T3
      ·
        refine j_iconst (pc := 65) (-1) C dX10_look_65 (by decide) ?_
        refine j_goto (pc := 66) 77 C dX10_look_66 (by decide) ?_
        exact bR_look_77 C hK33 ih x1 x2 x3 x4 x5 (-1) T1
theorem bR_look_33 {E : Ec} {G : Gc}    (C : JC E (VR G 7 0 0 RX10) cX10_look 10 (some .int))    : ∀ (n : Nat) (x1 : Int32) (x2 : Int32) (x3 : Int32) (x4 : Int32) (S : St), J E (VR G 7 0 0 RX10) 0 0 33 [(0, .ref (gA G 0)), (1, .int x1), (2, .int x2), (3, .int x3), (4, .int x4)] [] S (fR_look_33  n x1 x2 x3 x4 S) := by
  intro n
  induction n with
  | zero => intro x1 x2 x3 x4 S; rw [fR_look_33]; exact j_none
  | succ n ih =>
    intro x1 x2 x3 x4 S
    rw [fR_look_33]
    refine j_iload (pc := 33) 4 C dX10_look_33 rfl ?_
    refine j_aload_n (pc := 35) 0 C dX10_look_35 rfl rfl ?_
    refine gR_0_21 (pc := 36) C dX10_look_36 q_881 ?_
    refine j_icmp_ge (pc := 39) 123 C dX10_look_39 (by decide) ?_ ?_
    ·
      refine j_iload_n (pc := 123) 1 C dX10_look_123 rfl rfl ?_
      refine j_if_ne (pc := 124) 131 C dX10_look_124 (by decide) ?_ ?_
      ·
        refine j_iload_n (pc := 131) 3 C dX10_look_131 rfl rfl ?_
        exact j_iret C dX10_look_132 rfl (Nat.le_of_ble_eq_true rfl) (Nat.le_of_ble_eq_true rfl)
      ·
        refine j_iload_n (pc := 127) 2 C dX10_look_127 rfl rfl ?_
        refine j_goto (pc := 128) 132 C dX10_look_128 (by decide) ?_
        exact j_iret C dX10_look_132 rfl (Nat.le_of_ble_eq_true rfl) (Nat.le_of_ble_eq_true rfl)
    ·
      refine j_iconst (pc := 42) 0 C dX10_look_42 (by decide) ?_
      refine j_istore (pc := 43) [(5, .int 0), (0, .ref (gA G 0)), (1, .int x1), (2, .int x2), (3, .int x3), (4, .int x4)] C dX10_look_43 (Nat.le_of_ble_eq_true rfl) rfl ?_
      refine j_sub [1, 2, 3, 4, 5, 0] rfl ?_
      exact bR_look_45 C ih FU x1 x2 x3 x4 0 S
theorem bR_look {E : Ec} {G : Gc}    (C : JC E (VR G 7 0 0 RX10) cX10_look 10 (some .int))    (x1 : Int32) (S : St) : J E (VR G 7 0 0 RX10) 0 0 0 [(0, .ref (gA G 0)), (1, .int x1)] [] S (fR_look  x1 S) := by
  unfold fR_look
  refine j_aload_n (pc := 0) 0 C dX10_look_0 rfl rfl ?_
  refine j_iconst (pc := 1) 0 C dX10_look_1 (by decide) ?_
  refine pR_0_0 (pc := 2) C dX10_look_2 q_811 ?_
  refine j_nxS (fun T1 => ?_)
  refine j_aload_n (pc := 5) 0 C dX10_look_5 rfl rfl ?_
  refine j_iload_n (pc := 6) 1 C dX10_look_6 rfl rfl ?_
  refine j_iconst (pc := 7) 0 C dX10_look_7 (by decide) ?_
  refine j_iconst (pc := 8) 1 C dX10_look_8 (by decide) ?_
  refine j_callI0 (pc := 9) C (rR_within C dX10_look_9 q_1094 (by omega) (Nat.le_of_ble_eq_true rfl) ⟨Nat.le_of_ble_eq_true rfl, Nat.le_of_ble_eq_true rfl⟩) ⟨Nat.le_of_ble_eq_true rfl, Nat.le_of_ble_eq_true rfl⟩ (fun r3 T2 => ?_)
  refine j_iconst (pc := 12) 1 C dX10_look_12 (by decide) ?_
  refine j_iconst (pc := 13) 1 C dX10_look_13 (by decide) ?_
  refine j_callI0 (pc := 14) C (rR_may C dX10_look_14 q_822 (by omega) (Nat.le_of_ble_eq_true rfl) ⟨Nat.le_of_ble_eq_true rfl, Nat.le_of_ble_eq_true rfl⟩) ⟨Nat.le_of_ble_eq_true rfl, Nat.le_of_ble_eq_true rfl⟩ (fun r5 T4 => ?_)
  refine j_if_ne (pc := 17) 22 C dX10_look_17 (by decide) ?_ ?_
  ·
    refine j_aload_n (pc := 22) 0 C dX10_look_22 rfl rfl ?_
    refine j_callv0 (pc := 23) C (rR_take C dX10_look_23 q_984 (by omega) (Nat.le_of_ble_eq_true rfl) ⟨Nat.le_of_ble_eq_true rfl, Nat.le_of_ble_eq_true rfl⟩) ⟨Nat.le_of_ble_eq_true rfl, Nat.le_of_ble_eq_true rfl⟩ (fun T6 => ?_)
    refine j_iconst (pc := 26) (-1) C dX10_look_26 (by decide) ?_
    refine j_istore_n (pc := 27) [(2, .int (-1)), (0, .ref (gA G 0)), (1, .int x1)] C dX10_look_27 rfl (Nat.le_of_ble_eq_true rfl) rfl ?_
    refine j_iconst (pc := 28) (-1) C dX10_look_28 (by decide) ?_
    refine j_istore_n (pc := 29) [(3, .int (-1)), (2, .int (-1)), (0, .ref (gA G 0)), (1, .int x1)] C dX10_look_29 rfl (Nat.le_of_ble_eq_true rfl) rfl ?_
    refine j_iconst (pc := 30) 0 C dX10_look_30 (by decide) ?_
    refine j_istore (pc := 31) [(4, .int 0), (3, .int (-1)), (2, .int (-1)), (0, .ref (gA G 0)), (1, .int x1)] C dX10_look_31 (Nat.le_of_ble_eq_true rfl) rfl ?_
    refine j_sub [3, 4, 2, 1, 0] rfl ?_
    exact bR_look_33 C  FU x1 (-1) (-1) 0 T6
  ·
    refine j_iconst (pc := 20) 0 C dX10_look_20 (by decide) ?_
    exact j_iret C dX10_look_21 rfl (Nat.le_of_ble_eq_true rfl) (Nat.le_of_ble_eq_true rfl)
theorem cR_look {l : Launch} {G : Gc} (hfl : l.stackTraces = false) (hW : Wok G wR 26)   (x1 : Int32) (S : St) : Ct l yX10_look (Cond.code yX10_look cX10_look 7 (some .int) :: tblG) 10 0 0 G wR 26 [.ref (gA G 0), .int x1] S (fR_look x1 S) := ct_of (own := RX10) hfl (by decide +kernel) rfl hW (Nat.le_of_ble_eq_true rfl) (fun E hE C => by subst hE; exact bR_look C   x1 S)
theorem rR_look {E : Ec} {G : Gc} {nL mc ms : Nat} {own : String} {cc : ByteArray} {L : Nat} {ret : Option FieldType} {k n pc ix : Nat} {loc : List (Nat × Value)} {rest : List Value}  {x1 : Int32} {S : St}  (C : JC E (VR G nL mc ms own) cc L ret) (hd : decode cc pc = .ok (.invokevirtual ix, 3)) (hq : Cond.methodLink own ix yX10_look ∈ tblG) (hL : 10 + 1 ≤ L) (hW : (rest.map fun v => v.category).sum ≤ 8) (hf : k + 0 ≤ mc ∧ n + 0 ≤ ms) : Rn E (VR G nL mc ms own) k n 0 0 pc loc (.int x1 :: .ref (gA G 0) :: rest) rest S (fR_look x1 S) := rn_V (ci := 10) 0 (V := VR G nL mc ms own) (As := [.int x1]) (Cq := (RX10, TX10, 53)) (cR_look C.flags C.wok  x1 S) knX10_look ⟨q_1198, q_1199⟩ rfl rfl C hd hq hL rfl rfl hW hf

theorem knX10_least : Kn yX10_least cX10_least 11 (some .long) 3 := ⟨q_1201, q_815, by decide +kernel, by decide⟩
theorem bR_least_6 {E : Ec} {G : Gc}    (C : JC E (VR G 11 0 0 RX10) cX10_least 1 (some .long))    : ∀ (n : Nat) (x0 : Int64) (x2 : Int64) (x4 : Int32) (x5 : Int64) (x7 : Int64) (S : St), J E (VR G 11 0 0 RX10) 0 0 6 [(0, .long x0), (2, .long x2), (4, .int x4), (5, .long x5), (7, .long x7)] [] S (fR_least_6  n x0 x2 x4 x5 x7 S) := by
  intro n
  induction n with
  | zero => intro x0 x2 x4 x5 x7 S; rw [fR_least_6]; exact j_none
  | succ n ih =>
    intro x0 x2 x4 x5 x7 S
    rw [fR_least_6]
    refine j_lload (pc := 6) 4 C dX10_least_6 rfl ?_
    refine j_lconst (pc := 8) 0 C dX10_least_8 (by decide) ?_
    refine j_lcmp (pc := 9) C dX10_least_9 ?_
    refine j_if_eq (pc := 10) 31 C dX10_least_10 (by decide) ?_ ?_
    ·
      refine j_iload (pc := 31) 2 C dX10_least_31 rfl ?_
      refine j_if_ne (pc := 33) 40 C dX10_least_33 (by decide) ?_ ?_
      ·
        refine j_lload_n (pc := 40) 1 C dX10_least_40 rfl rfl ?_
        refine j_lload (pc := 41) 3 C dX10_least_41 rfl ?_
        refine j_ldiv (pc := 43) C dX10_least_43 ?_
        exact j_lret C dX10_least_44 rfl (Nat.le_of_ble_eq_true rfl) (Nat.le_of_ble_eq_true rfl)
      ·
        refine j_lload_n (pc := 36) 0 C dX10_least_36 rfl rfl ?_
        refine j_goto (pc := 37) 41 C dX10_least_37 (by decide) ?_
        refine j_lload (pc := 41) 3 C dX10_least_41 rfl ?_
        refine j_ldiv (pc := 43) C dX10_least_43 ?_
        exact j_lret C dX10_least_44 rfl (Nat.le_of_ble_eq_true rfl) (Nat.le_of_ble_eq_true rfl)
    ·
      refine j_lload (pc := 13) 3 C dX10_least_13 rfl ?_
      refine j_lload (pc := 15) 4 C dX10_least_15 rfl ?_
      refine j_lrem (pc := 17) C dX10_least_17 ?_
      refine j_nxL (fun v1 => ?_)
      refine j_lstore (pc := 18) [(9, .long v1), (0, .long x0), (2, .long x2), (4, .int x4), (5, .long x5), (7, .long x7)] C dX10_least_18 (Nat.le_of_ble_eq_true rfl) rfl ?_
      refine j_lload (pc := 20) 5 C dX10_least_20 rfl ?_
      refine j_lstore (pc := 22) [(5, .long x7), (9, .long v1), (0, .long x0), (2, .long x2), (4, .int x4), (7, .long x7)] C dX10_least_22 (Nat.le_of_ble_eq_true rfl) rfl ?_
      refine j_lload (pc := 24) 1 C dX10_least_24 rfl ?_
      refine j_lstore (pc := 26) [(7, .long v1), (5, .long x7), (9, .long v1), (0, .long x0), (2, .long x2), (4, .int x4)] C dX10_least_26 (Nat.le_of_ble_eq_true rfl) rfl ?_
      refine j_goto (pc := 28) 6 C dX10_least_28 (by decide) ?_
      refine j_sub [3, 4, 5, 1, 0] rfl ?_
      exact ih x0 x2 x4 x7 v1 S
theorem bR_least {E : Ec} {G : Gc}    (C : JC E (VR G 11 0 0 RX10) cX10_least 1 (some .long))    (x0 : Int64) (x2 : Int64) (x4 : Int32) (S : St) : J E (VR G 11 0 0 RX10) 0 0 0 [(0, .long x0), (2, .long x2), (4, .int x4)] [] S (fR_least  x0 x2 x4 S) := by
  unfold fR_least
  refine j_lload_n (pc := 0) 0 C dX10_least_0 rfl rfl ?_
  refine j_lstore (pc := 1) [(5, .long x0), (0, .long x0), (2, .long x2), (4, .int x4)] C dX10_least_1 (Nat.le_of_ble_eq_true rfl) rfl ?_
  refine j_lload_n (pc := 3) 2 C dX10_least_3 rfl rfl ?_
  refine j_lstore (pc := 4) [(7, .long x2), (5, .long x0), (0, .long x0), (2, .long x2), (4, .int x4)] C dX10_least_4 (Nat.le_of_ble_eq_true rfl) rfl ?_
  refine j_sub [2, 3, 4, 1, 0] rfl ?_
  exact bR_least_6 C  FU x0 x2 x4 x0 x2 S
theorem cR_least {l : Launch} {G : Gc} (hfl : l.stackTraces = false) (hW : Wok G wR 26)   (x0 : Int64) (x2 : Int64) (x4 : Int32) (S : St) : Ct l yX10_least (Cond.code yX10_least cX10_least 11 (some .long) :: tblG) 1 0 0 G wR 26 [.long x0, .long x2, .int x4] S (fR_least x0 x2 x4 S) := ct_of (own := RX10) hfl (by decide +kernel) rfl hW (Nat.le_of_ble_eq_true rfl) (fun E hE C => by subst hE; exact bR_least C   x0 x2 x4 S)
theorem rR_least {E : Ec} {G : Gc} {nL mc ms : Nat} {own : String} {cc : ByteArray} {L : Nat} {ret : Option FieldType} {k n pc ix : Nat} {loc : List (Nat × Value)} {rest : List Value}  {x0 : Int64} {x2 : Int64} {x4 : Int32} {S : St}  (C : JC E (VR G nL mc ms own) cc L ret) (hd : decode cc pc = .ok (.invokestatic ix, 3)) (hq : Cond.methodLink own ix yX10_least ∈ tblG) (hL : 1 + 1 ≤ L) (hW : (rest.map fun v => v.category).sum ≤ 8) (hf : k + 0 ≤ mc ∧ n + 0 ≤ ms) : Rn E (VR G nL mc ms own) k n 0 0 pc loc (.int x4 :: .long x2 :: .long x0 :: rest) rest S (fR_least x0 x2 x4 S) := rn_S (V := VR G nL mc ms own) (As := [.long x0, .long x2, .int x4]) (cR_least C.flags C.wok  x0 x2 x4 S) knX10_least q_1202  C hd hq hL rfl rfl hW hf

