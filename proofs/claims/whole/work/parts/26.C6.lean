theorem knX9_kept : Kn yX9_kept cX9_kept 10 (some .long) 4 := ⟨q_713, q_40, by decide +kernel, by decide⟩
theorem bC_Main_kept_149 {E : Ec} {G : Gc}    (C : JC E (VC G 10 1 6 RX9) cX9_kept 8 (some .long))    (x4 : Int32) (x5 : Int64) (x7 : Int64) (S : St) : J E (VC G 10 1 6 RX9) 1 6 149 [(4, .int x4), (5, .long x5), (7, .long x7)] [] S (fC_Main_kept_149  x4 x5 x7 S) := by
  unfold fC_Main_kept_149
  refine j_iload (pc := 149) 0 C dX9_kept_149 rfl ?_
  refine j_if_ne (pc := 151) 159 C dX9_kept_151 (by decide) ?_ ?_
  ·
    refine j_lload (pc := 159) 2 C dX9_kept_159 rfl ?_
    exact j_lret C dX9_kept_161 rfl (Nat.le_of_ble_eq_true rfl) (Nat.le_of_ble_eq_true rfl)
  ·
    refine j_lload (pc := 154) 1 C dX9_kept_154 rfl ?_
    refine j_goto (pc := 156) 161 C dX9_kept_156 (by decide) ?_
    exact j_lret C dX9_kept_161 rfl (Nat.le_of_ble_eq_true rfl) (Nat.le_of_ble_eq_true rfl)
theorem bC_Main_kept_108 {E : Ec} {G : Gc}    (C : JC E (VC G 10 1 6 RX9) cX9_kept 8 (some .long))    : ∀ (n : Nat) (x1 : Int32) (x4 : Int32) (x5 : Int64) (x7 : Int64) (x9 : Int32) (S : St), J E (VC G 10 1 6 RX9) 1 6 108 [(1, .int x1), (4, .int x4), (5, .long x5), (7, .long x7), (9, .int x9)] [] S (fC_Main_kept_108  n x1 x4 x5 x7 x9 S) := by
  intro n
  induction n with
  | zero => intro x1 x4 x5 x7 x9 S; rw [fC_Main_kept_108]; exact j_none
  | succ n ih =>
    intro x1 x4 x5 x7 x9 S
    rw [fC_Main_kept_108]
    refine j_iload (pc := 108) 4 C dX9_kept_108 rfl ?_
    refine j_iconst (pc := 110) 4 C dX9_kept_110 (by decide) ?_
    refine j_iload_n (pc := 111) 0 C dX9_kept_111 rfl rfl ?_
    refine j_imul (pc := 112) C dX9_kept_112 ?_
    refine j_icmp_ge (pc := 113) 149 C dX9_kept_113 (by decide) ?_ ?_
    ·
      refine j_sub [1, 2, 3] rfl ?_
      exact bC_Main_kept_149 C  x4 x5 x7 S
    ·
      refine j_lload (pc := 116) 2 C dX9_kept_116 rfl ?_
      refine j_ldc2 (pc := 118) C dX9_kept_118 q_712 ?_
      refine j_lremc (pc := 121) C dX9_kept_121 rfl ?_
      refine j_lconst (pc := 122) 0 C dX9_kept_122 (by decide) ?_
      refine j_lcmp (pc := 123) C dX9_kept_123 ?_
      refine j_if_ne (pc := 124) 149 C dX9_kept_124 (by decide) ?_ ?_
      ·
        refine j_sub [1, 2, 3] rfl ?_
        exact bC_Main_kept_149 C  x4 x5 x7 S
      ·
        refine j_lload (pc := 127) 2 C dX9_kept_127 rfl ?_
        refine j_ldc2 (pc := 129) C dX9_kept_129 q_712 ?_
        refine j_ldivc (pc := 132) C dX9_kept_132 rfl ?_
        refine j_nxL (fun v1 => ?_)
        refine j_lstore (pc := 133) [(5, .long v1), (1, .int x1), (4, .int x4), (7, .long x7), (9, .int x9)] C dX9_kept_133 (Nat.le_of_ble_eq_true rfl) rfl ?_
        refine j_lload (pc := 135) 3 C dX9_kept_135 rfl ?_
        refine j_ldc2 (pc := 137) C dX9_kept_137 q_712 ?_
        refine j_ldivc (pc := 140) C dX9_kept_140 rfl ?_
        refine j_nxL (fun v2 => ?_)
        refine j_lstore (pc := 141) [(7, .long v2), (5, .long v1), (1, .int x1), (4, .int x4), (9, .int x9)] C dX9_kept_141 (Nat.le_of_ble_eq_true rfl) rfl ?_
        refine j_iinc (pc := 143) 4 (x9 + 1) [(9, .int (x9 + 1)), (7, .long v2), (5, .long v1), (1, .int x1), (4, .int x4)] C dX9_kept_143 rfl rfl (Nat.le_of_ble_eq_true rfl) rfl ?_
        refine j_goto (pc := 146) 108 C dX9_kept_146 (by decide) ?_
        refine j_sub [3, 4, 2, 1, 0] rfl ?_
        exact ih x1 x4 v1 v2 (x9 + 1) S
theorem bC_Main_kept_55 {E : Ec} {G : Gc}    (C : JC E (VC G 10 1 6 RX9) cX9_kept 8 (some .long))    : ∀ (n : Nat) (x1 : Int32) (x3 : Int32) (x4 : Int32) (x5 : Int64) (x7 : Int32) (S : St), J E (VC G 10 1 6 RX9) 1 6 55 [(1, .int x1), (3, .int x3), (4, .int x4), (5, .long x5), (7, .int x7)] [] S (fC_Main_kept_55  n x1 x3 x4 x5 x7 S) := by
  intro n
  induction n with
  | zero => intro x1 x3 x4 x5 x7 S; rw [fC_Main_kept_55]; exact j_none
  | succ n ih =>
    intro x1 x3 x4 x5 x7 S
    rw [fC_Main_kept_55]
    refine j_iload (pc := 55) 4 C dX9_kept_55 rfl ?_
    refine j_iload_n (pc := 57) 0 C dX9_kept_57 rfl rfl ?_
    refine j_icmp_gt (pc := 58) 97 C dX9_kept_58 (by decide) ?_ ?_
    ·
      refine j_bipush (pc := 97) 16 C dX9_kept_97 (by decide) ?_
      refine j_iload_n (pc := 99) 0 C dX9_kept_99 rfl rfl ?_
      refine j_callL0 (pc := 100) C (rC_Main_power C dX9_kept_100 q_708 (by omega) (Nat.le_of_ble_eq_true rfl) ⟨Nat.le_of_ble_eq_true rfl, Nat.le_of_ble_eq_true rfl⟩) ⟨Nat.le_of_ble_eq_true rfl, Nat.le_of_ble_eq_true rfl⟩ (fun r2 T1 => ?_)
      refine j_lstore (pc := 103) [(7, .long r2), (1, .int x1), (3, .int x3), (4, .int x4), (5, .long x5)] C dX9_kept_103 (Nat.le_of_ble_eq_true rfl) rfl ?_
      refine j_iconst (pc := 105) 0 C dX9_kept_105 (by decide) ?_
      refine j_istore (pc := 106) [(9, .int 0), (7, .long r2), (1, .int x1), (3, .int x3), (4, .int x4), (5, .long x5)] C dX9_kept_106 (Nat.le_of_ble_eq_true rfl) rfl ?_
      refine j_sub [2, 4, 5, 1, 0] rfl ?_
      exact bC_Main_kept_108 C  FU x1 x4 x5 r2 0 T1
    ·
      refine j_lload (pc := 61) 3 C dX9_kept_61 rfl ?_
      refine j_iload_n (pc := 63) 0 C dX9_kept_63 rfl rfl ?_
      refine j_iload (pc := 64) 4 C dX9_kept_64 rfl ?_
      refine j_callL0 (pc := 66) C (rC_Main_choices C dX9_kept_66 q_711 (by omega) (Nat.le_of_ble_eq_true rfl) ⟨Nat.le_of_ble_eq_true rfl, Nat.le_of_ble_eq_true rfl⟩) ⟨Nat.le_of_ble_eq_true rfl, Nat.le_of_ble_eq_true rfl⟩ (fun r4 T3 => ?_)
      refine j_bipush (pc := 69) 16 C dX9_kept_69 (by decide) ?_
      refine j_iload_n (pc := 71) 1 C dX9_kept_71 rfl rfl ?_
      refine j_isub (pc := 72) C dX9_kept_72 ?_
      refine j_iload (pc := 73) 4 C dX9_kept_73 rfl ?_
      refine j_callL0 (pc := 75) C (rC_Main_power C dX9_kept_75 q_708 (by omega) (Nat.le_of_ble_eq_true rfl) ⟨Nat.le_of_ble_eq_true rfl, Nat.le_of_ble_eq_true rfl⟩) ⟨Nat.le_of_ble_eq_true rfl, Nat.le_of_ble_eq_true rfl⟩ (fun r6 T5 => ?_)
      refine j_lmul (pc := 78) C dX9_kept_78 ?_
      refine j_iload_n (pc := 79) 1 C dX9_kept_79 rfl rfl ?_
      refine j_iload_n (pc := 80) 0 C dX9_kept_80 rfl rfl ?_
      refine j_iload (pc := 81) 4 C dX9_kept_81 rfl ?_
      refine j_isub (pc := 83) C dX9_kept_83 ?_
      refine j_callL0 (pc := 84) C (rC_Main_power C dX9_kept_84 q_708 (by omega) (Nat.le_of_ble_eq_true rfl) ⟨Nat.le_of_ble_eq_true rfl, Nat.le_of_ble_eq_true rfl⟩) ⟨Nat.le_of_ble_eq_true rfl, Nat.le_of_ble_eq_true rfl⟩ (fun r8 T7 => ?_)
      refine j_lmul (pc := 87) C dX9_kept_87 ?_
      refine j_ladd (pc := 88) C dX9_kept_88 ?_
      refine j_nxL (fun v9 => ?_)
      refine j_lstore (pc := 89) [(5, .long v9), (1, .int x1), (3, .int x3), (4, .int x4), (7, .int x7)] C dX9_kept_89 (Nat.le_of_ble_eq_true rfl) rfl ?_
      refine j_iinc (pc := 91) 4 (x7 + 1) [(7, .int (x7 + 1)), (5, .long v9), (1, .int x1), (3, .int x3), (4, .int x4)] C dX9_kept_91 rfl rfl (Nat.le_of_ble_eq_true rfl) rfl ?_
      refine j_goto (pc := 94) 55 C dX9_kept_94 (by decide) ?_
      refine j_sub [2, 3, 4, 1, 0] rfl ?_
      exact ih x1 x3 x4 v9 (x7 + 1) T7
theorem bC_Main_kept_46 {E : Ec} {G : Gc}    (C : JC E (VC G 10 1 6 RX9) cX9_kept 8 (some .long))    (x1 : Int32) (x2 : Int32) (x3 : Int32) (x4 : Int32) (s0 : Int32) (S : St) : J E (VC G 10 1 6 RX9) 0 0 46 [(1, .int x1), (2, .int x2), (3, .int x3), (4, .int x4)] [.int s0, .ref (gA G 0)] S (fC_Main_kept_46  x1 x2 x3 x4 s0 S) := by
  unfold fC_Main_kept_46
  refine j_callv (pc := 46) C (rC_Main_need C dX9_kept_46 q_60 (by omega) (Nat.le_of_ble_eq_true rfl) ⟨Nat.le_of_ble_eq_true rfl, Nat.le_of_ble_eq_true rfl⟩) ⟨Nat.le_of_ble_eq_true rfl, Nat.le_of_ble_eq_true rfl⟩ (fun T1 => ?_)
  refine j_lconst (pc := 49) 0 C dX9_kept_49 (by decide) ?_
  refine j_lstore (pc := 50) [(5, .long 0), (1, .int x1), (2, .int x2), (3, .int x3), (4, .int x4)] C dX9_kept_50 (Nat.le_of_ble_eq_true rfl) rfl ?_
  refine j_iload_n (pc := 52) 2 C dX9_kept_52 rfl rfl ?_
  refine j_istore (pc := 53) [(7, .int x2), (5, .long 0), (1, .int x1), (2, .int x2), (3, .int x3), (4, .int x4)] C dX9_kept_53 (Nat.le_of_ble_eq_true rfl) rfl ?_
  refine j_sub [2, 4, 5, 1, 0] rfl ?_
  exact bC_Main_kept_55 C  FU x1 x3 x4 0 x2 T1
theorem bC_Main_kept_45 {E : Ec} {G : Gc}    (C : JC E (VC G 10 1 6 RX9) cX9_kept 8 (some .long))    (x1 : Int32) (x2 : Int32) (x3 : Int32) (x4 : Int32) (S : St) : J E (VC G 10 1 6 RX9) 0 0 45 [(1, .int x1), (2, .int x2), (3, .int x3), (4, .int x4)] [.ref (gA G 0)] S (fC_Main_kept_45  x1 x2 x3 x4 S) := by
  unfold fC_Main_kept_45
  refine j_iconst (pc := 45) 0 C dX9_kept_45 (by decide) ?_
  exact bC_Main_kept_46 C  x1 x2 x3 x4 0 S
theorem bC_Main_kept {E : Ec} {G : Gc}    (C : JC E (VC G 10 1 6 RX9) cX9_kept 8 (some .long))    (x1 : Int32) (x2 : Int32) (x3 : Int32) (x4 : Int32) (S : St) : J E (VC G 10 1 6 RX9) 0 0 0 [(0, .ref (gA G 0)), (1, .int x1), (2, .int x2), (3, .int x3), (4, .int x4)] [] S (fC_Main_kept  x1 x2 x3 x4 S) := by
  unfold fC_Main_kept
  refine j_aload_n (pc := 0) 0 C dX9_kept_0 rfl rfl ?_
  refine j_iload_n (pc := 1) 1 C dX9_kept_1 rfl rfl ?_
  refine j_iconst (pc := 2) 0 C dX9_kept_2 (by decide) ?_
  refine j_bipush (pc := 3) 12 C dX9_kept_3 (by decide) ?_
  refine j_callI0 (pc := 5) C (rC_Main_isWithin C dX9_kept_5 q_49 (by omega) (Nat.le_of_ble_eq_true rfl) ⟨Nat.le_of_ble_eq_true rfl, Nat.le_of_ble_eq_true rfl⟩) ⟨Nat.le_of_ble_eq_true rfl, Nat.le_of_ble_eq_true rfl⟩ (fun r2 T1 => ?_)
  refine j_if_eq (pc := 8) 45 C dX9_kept_8 (by decide) ?_ ?_
  ·
    refine j_sub [1, 2, 3, 4] rfl ?_
    exact bC_Main_kept_45 C  x1 x2 x3 x4 T1
  ·
    refine j_iload_n (pc := 11) 2 C dX9_kept_11 rfl rfl ?_
    refine j_iconst (pc := 12) 0 C dX9_kept_12 (by decide) ?_
    refine j_bipush (pc := 13) 13 C dX9_kept_13 (by decide) ?_
    refine j_callI0 (pc := 15) C (rC_Main_isWithin C dX9_kept_15 q_49 (by omega) (Nat.le_of_ble_eq_true rfl) ⟨Nat.le_of_ble_eq_true rfl, Nat.le_of_ble_eq_true rfl⟩) ⟨Nat.le_of_ble_eq_true rfl, Nat.le_of_ble_eq_true rfl⟩ (fun r4 T3 => ?_)
    refine j_if_eq (pc := 18) 45 C dX9_kept_18 (by decide) ?_ ?_
    ·
      refine j_sub [1, 2, 3, 4] rfl ?_
      exact bC_Main_kept_45 C  x1 x2 x3 x4 T3
    ·
      refine j_iload_n (pc := 21) 3 C dX9_kept_21 rfl rfl ?_
      refine j_iconst (pc := 22) 0 C dX9_kept_22 (by decide) ?_
      refine j_bipush (pc := 23) 16 C dX9_kept_23 (by decide) ?_
      refine j_callI0 (pc := 25) C (rC_Main_isWithin C dX9_kept_25 q_49 (by omega) (Nat.le_of_ble_eq_true rfl) ⟨Nat.le_of_ble_eq_true rfl, Nat.le_of_ble_eq_true rfl⟩) ⟨Nat.le_of_ble_eq_true rfl, Nat.le_of_ble_eq_true rfl⟩ (fun r6 T5 => ?_)
      refine j_if_eq (pc := 28) 45 C dX9_kept_28 (by decide) ?_ ?_
      ·
        refine j_sub [1, 2, 3, 4] rfl ?_
        exact bC_Main_kept_45 C  x1 x2 x3 x4 T5
      ·
        refine j_iload (pc := 31) 4 C dX9_kept_31 rfl ?_
        refine j_iconst (pc := 33) 0 C dX9_kept_33 (by decide) ?_
        refine j_iconst (pc := 34) 1 C dX9_kept_34 (by decide) ?_
        refine j_callI0 (pc := 35) C (rC_Main_isWithin C dX9_kept_35 q_49 (by omega) (Nat.le_of_ble_eq_true rfl) ⟨Nat.le_of_ble_eq_true rfl, Nat.le_of_ble_eq_true rfl⟩) ⟨Nat.le_of_ble_eq_true rfl, Nat.le_of_ble_eq_true rfl⟩ (fun r8 T7 => ?_)
        refine j_if_eq (pc := 38) 45 C dX9_kept_38 (by decide) ?_ ?_
        ·
          refine j_sub [1, 2, 3, 4] rfl ?_
          exact bC_Main_kept_45 C  x1 x2 x3 x4 T7
        ·
          refine j_iconst (pc := 41) 1 C dX9_kept_41 (by decide) ?_
          refine j_goto (pc := 42) 46 C dX9_kept_42 (by decide) ?_
          refine j_sub [1, 2, 3, 4] rfl ?_
          exact bC_Main_kept_46 C  x1 x2 x3 x4 1 T7
theorem cC_Main_kept {l : Launch} {G : Gc} (hfl : l.stackTraces = false) (hW : Wok G wC 54)   (x1 : Int32) (x2 : Int32) (x3 : Int32) (x4 : Int32) (S : St) : Ct l yX9_kept (Cond.code yX9_kept cX9_kept 10 (some .long) :: tblG) 8 1 6 G wC 54 [.ref (gA G 0), .int x1, .int x2, .int x3, .int x4] S (fC_Main_kept x1 x2 x3 x4 S) := ct_of (own := RX9) hfl (by decide +kernel) rfl hW (Nat.le_of_ble_eq_true rfl) (fun E hE C => by subst hE; exact bC_Main_kept C   x1 x2 x3 x4 S)
theorem rC_Main_kept {E : Ec} {G : Gc} {nL mc ms : Nat} {own : String} {cc : ByteArray} {L : Nat} {ret : Option FieldType} {k n pc ix : Nat} {loc : List (Nat × Value)} {rest : List Value}  {x1 : Int32} {x2 : Int32} {x3 : Int32} {x4 : Int32} {S : St}  (C : JC E (VC G nL mc ms own) cc L ret) (hd : decode cc pc = .ok (.invokevirtual ix, 3)) (hq : Cond.methodLink own ix yX9_kept ∈ tblG) (hL : 8 + 1 ≤ L) (hW : (rest.map fun v => v.category).sum ≤ 8) (hf : k + 1 ≤ mc ∧ n + 6 ≤ ms) : Rn E (VC G nL mc ms own) k n 1 6 pc loc (.int x4 :: .int x3 :: .int x2 :: .int x1 :: .ref (gA G 0) :: rest) rest S (fC_Main_kept x1 x2 x3 x4 S) := rn_V (ci := 9) 0 (V := VC G nL mc ms own) (As := [.int x1, .int x2, .int x3, .int x4]) (Cq := (RX9, TX9, 15)) (cC_Main_kept C.flags C.wok  x1 x2 x3 x4 S) knX9_kept ⟨q_714, q_715⟩ rfl rfl C hd hq hL rfl rfl hW hf

theorem knX9_fairShare : Kn yX9_fairShare cX9_fairShare 4 (some .int) 4 := ⟨q_716, q_40, by decide +kernel, by decide⟩
theorem bC_Main_fairShare {E : Ec} {G : Gc}    (C : JC E (VC G 4 0 0 RX9) cX9_fairShare 1 (some .int))    (x0 : Int32) (x1 : Int32) (x2 : Int32) (x3 : Int32) (S : St) : J E (VC G 4 0 0 RX9) 0 0 0 [(0, .int x0), (1, .int x1), (2, .int x2), (3, .int x3)] [] S (fC_Main_fairShare  x0 x1 x2 x3 S) := by
  unfold fC_Main_fairShare
  refine j_iload_n (pc := 0) 1 C dX9_fairShare_0 rfl rfl ?_
  refine j_iconst (pc := 1) 1 C dX9_fairShare_1 (by decide) ?_
  refine j_icmp_ne (pc := 2) 7 C dX9_fairShare_2 (by decide) ?_ ?_
  ·
    refine j_iload_n (pc := 7) 0 C dX9_fairShare_7 rfl rfl ?_
    refine j_if_ne (pc := 8) 15 C dX9_fairShare_8 (by decide) ?_ ?_
    ·
      refine j_iload_n (pc := 15) 3 C dX9_fairShare_15 rfl rfl ?_
      exact j_iret C dX9_fairShare_16 rfl (Nat.le_of_ble_eq_true rfl) (Nat.le_of_ble_eq_true rfl)
    ·
      refine j_iload_n (pc := 11) 2 C dX9_fairShare_11 rfl rfl ?_
      refine j_goto (pc := 12) 16 C dX9_fairShare_12 (by decide) ?_
      exact j_iret C dX9_fairShare_16 rfl (Nat.le_of_ble_eq_true rfl) (Nat.le_of_ble_eq_true rfl)
  ·
    refine j_iconst (pc := 5) 0 C dX9_fairShare_5 (by decide) ?_
    exact j_iret C dX9_fairShare_6 rfl (Nat.le_of_ble_eq_true rfl) (Nat.le_of_ble_eq_true rfl)
theorem cC_Main_fairShare {l : Launch} {G : Gc} (hfl : l.stackTraces = false) (hW : Wok G wC 54)   (x0 : Int32) (x1 : Int32) (x2 : Int32) (x3 : Int32) (S : St) : Ct l yX9_fairShare (Cond.code yX9_fairShare cX9_fairShare 4 (some .int) :: tblG) 1 0 0 G wC 54 [.int x0, .int x1, .int x2, .int x3] S (fC_Main_fairShare x0 x1 x2 x3 S) := ct_of (own := RX9) hfl (by decide +kernel) rfl hW (Nat.le_of_ble_eq_true rfl) (fun E hE C => by subst hE; exact bC_Main_fairShare C   x0 x1 x2 x3 S)
theorem rC_Main_fairShare {E : Ec} {G : Gc} {nL mc ms : Nat} {own : String} {cc : ByteArray} {L : Nat} {ret : Option FieldType} {k n pc ix : Nat} {loc : List (Nat × Value)} {rest : List Value}  {x0 : Int32} {x1 : Int32} {x2 : Int32} {x3 : Int32} {S : St}  (C : JC E (VC G nL mc ms own) cc L ret) (hd : decode cc pc = .ok (.invokestatic ix, 3)) (hq : Cond.methodLink own ix yX9_fairShare ∈ tblG) (hL : 1 + 1 ≤ L) (hW : (rest.map fun v => v.category).sum ≤ 8) (hf : k + 0 ≤ mc ∧ n + 0 ≤ ms) : Rn E (VC G nL mc ms own) k n 0 0 pc loc (.int x3 :: .int x2 :: .int x1 :: .int x0 :: rest) rest S (fC_Main_fairShare x0 x1 x2 x3 S) := rn_S (V := VC G nL mc ms own) (As := [.int x0, .int x1, .int x2, .int x3]) (cC_Main_fairShare C.flags C.wok  x0 x1 x2 x3 S) knX9_fairShare q_717  C hd hq hL rfl rfl hW hf

theorem knX9_fair : Kn yX9_fair cX9_fair 11 (some .int) 3 := ⟨q_719, q_40, by decide +kernel, by decide⟩
theorem bC_Main_fair_59 {E : Ec} {G : Gc}   {K50 : Int32 → Int32 → Int32 → Int32 → Int32 → Int32 → Int32 → St → Oz} (C : JC E (VC G 11 1 6 RX9) cX9_fair 8 (some .int))   (hK50 : ∀ (x1 : Int32) (x2 : Int32) (x3 : Int32) (x4 : Int32) (x5 : Int32) (x6 : Int32) (x7 : Int32) (S : St), J E (VC G 11 1 6 RX9) 1 6 50 [(1, .int x1), (2, .int x2), (3, .int x3), (4, .int x4), (5, .int x5), (6, .int x6), (7, .int x7)] [] S (K50 x1 x2 x3 x4 x5 x6 x7 S)) : ∀ (n : Nat) (x1 : Int32) (x2 : Int32) (x3 : Int32) (x4 : Int32) (x5 : Int32) (x6 : Int32) (x7 : Int32) (x8 : Int32) (S : St), J E (VC G 11 1 6 RX9) 1 6 59 [(1, .int x1), (2, .int x2), (3, .int x3), (4, .int x4), (5, .int x5), (6, .int x6), (7, .int x7), (8, .int x8)] [] S (fC_Main_fair_59 K50 n x1 x2 x3 x4 x5 x6 x7 x8 S) := by
  intro n
  induction n with
  | zero => intro x1 x2 x3 x4 x5 x6 x7 x8 S; rw [fC_Main_fair_59]; exact j_none
  | succ n ih =>
    intro x1 x2 x3 x4 x5 x6 x7 x8 S
    rw [fC_Main_fair_59]
    refine j_iload (pc := 59) 7 C dX9_fair_59 rfl ?_
    refine j_iconst (pc := 61) 1 C dX9_fair_61 (by decide) ?_
    refine j_icmp_gt (pc := 62) 151 C dX9_fair_62 (by decide) ?_ ?_
    ·
      refine j_iinc (pc := 151) 6 (x7 + 1) [(7, .int (x7 + 1)), (1, .int x1), (2, .int x2), (3, .int x3), (4, .int x4), (5, .int x5), (6, .int x6), (8, .int x8)] C dX9_fair_151 rfl rfl (Nat.le_of_ble_eq_true rfl) rfl ?_
      refine j_goto (pc := 154) 50 C dX9_fair_154 (by decide) ?_
      refine j_sub [1, 2, 3, 4, 5, 6, 0] rfl ?_
      exact hK50 x1 x2 x3 x4 x5 x6 (x7 + 1) S
    ·
      refine j_iload (pc := 65) 6 C dX9_fair_65 rfl ?_
      refine j_iload (pc := 67) 7 C dX9_fair_67 rfl ?_
      refine j_iload_n (pc := 69) 0 C dX9_fair_69 rfl rfl ?_
      refine j_iload_n (pc := 70) 1 C dX9_fair_70 rfl rfl ?_
      refine j_callI0 (pc := 71) C (rC_Main_fairShare C dX9_fair_71 q_718 (by omega) (Nat.le_of_ble_eq_true rfl) ⟨Nat.le_of_ble_eq_true rfl, Nat.le_of_ble_eq_true rfl⟩) ⟨Nat.le_of_ble_eq_true rfl, Nat.le_of_ble_eq_true rfl⟩ (fun r2 T1 => ?_)
      refine j_istore (pc := 74) [(9, .int r2), (1, .int x1), (2, .int x2), (3, .int x3), (4, .int x4), (5, .int x5), (6, .int x6), (7, .int x7), (8, .int x8)] C dX9_fair_74 (Nat.le_of_ble_eq_true rfl) rfl ?_
      refine j_iload (pc := 76) 8 C dX9_fair_76 rfl ?_
      refine j_iload (pc := 78) 7 C dX9_fair_78 rfl ?_
      refine j_iload_n (pc := 80) 1 C dX9_fair_80 rfl rfl ?_
      refine j_iload_n (pc := 81) 2 C dX9_fair_81 rfl rfl ?_
      refine j_callI0 (pc := 82) C (rC_Main_fairShare C dX9_fair_82 q_718 (by omega) (Nat.le_of_ble_eq_true rfl) ⟨Nat.le_of_ble_eq_true rfl, Nat.le_of_ble_eq_true rfl⟩) ⟨Nat.le_of_ble_eq_true rfl, Nat.le_of_ble_eq_true rfl⟩ (fun r4 T3 => ?_)
      refine j_istore (pc := 85) [(10, .int r4), (9, .int r2), (1, .int x1), (2, .int x2), (3, .int x3), (4, .int x4), (5, .int x5), (6, .int x6), (7, .int x7), (8, .int x8)] C dX9_fair_85 (Nat.le_of_ble_eq_true rfl) rfl ?_
      refine j_iconst (pc := 87) 1 C dX9_fair_87 (by decide) ?_
      refine j_iload (pc := 88) 8 C dX9_fair_88 rfl ?_
      refine j_isub (pc := 90) C dX9_fair_90 ?_
      refine j_iload (pc := 91) 9 C dX9_fair_91 rfl ?_
      refine j_iload_n (pc := 93) 2 C dX9_fair_93 rfl rfl ?_
      refine j_iload_n (pc := 94) 3 C dX9_fair_94 rfl rfl ?_
      refine j_callI0 (pc := 95) C (rC_Main_fairShare C dX9_fair_95 q_718 (by omega) (Nat.le_of_ble_eq_true rfl) ⟨Nat.le_of_ble_eq_true rfl, Nat.le_of_ble_eq_true rfl⟩) ⟨Nat.le_of_ble_eq_true rfl, Nat.le_of_ble_eq_true rfl⟩ (fun r6 T5 => ?_)
      refine j_iload (pc := 98) 1 C dX9_fair_98 rfl ?_
      refine j_icmp_gt (pc := 100) 145 C dX9_fair_100 (by decide) ?_ ?_
      ·
        refine j_iinc (pc := 145) 9 (x8 + 1) [(8, .int (x8 + 1)), (10, .int r4), (9, .int r2), (1, .int x1), (2, .int x2), (3, .int x3), (4, .int x4), (5, .int x5), (6, .int x6), (7, .int x7)] C dX9_fair_145 rfl rfl (Nat.le_of_ble_eq_true rfl) rfl ?_
        refine j_goto (pc := 148) 59 C dX9_fair_148 (by decide) ?_
        refine j_sub [3, 4, 5, 6, 7, 8, 9, 0] rfl ?_
        exact ih x1 x2 x3 x4 x5 x6 x7 (x8 + 1) T5
      ·
        refine j_iconst (pc := 103) 1 C dX9_fair_103 (by decide) ?_
        refine j_iload (pc := 104) 9 C dX9_fair_104 rfl ?_
        refine j_isub (pc := 106) C dX9_fair_106 ?_
        refine j_iload (pc := 107) 8 C dX9_fair_107 rfl ?_
        refine j_iload_n (pc := 109) 2 C dX9_fair_109 rfl rfl ?_
        refine j_iload_n (pc := 110) 3 C dX9_fair_110 rfl rfl ?_
        refine j_callI0 (pc := 111) C (rC_Main_fairShare C dX9_fair_111 q_718 (by omega) (Nat.le_of_ble_eq_true rfl) ⟨Nat.le_of_ble_eq_true rfl, Nat.le_of_ble_eq_true rfl⟩) ⟨Nat.le_of_ble_eq_true rfl, Nat.le_of_ble_eq_true rfl⟩ (fun r8 T7 => ?_)
        refine j_iload (pc := 114) 0 C dX9_fair_114 rfl ?_
        refine j_icmp_gt (pc := 116) 145 C dX9_fair_116 (by decide) ?_ ?_
        ·
          refine j_iinc (pc := 145) 9 (x8 + 1) [(8, .int (x8 + 1)), (10, .int r4), (9, .int r2), (1, .int x1), (2, .int x2), (3, .int x3), (4, .int x4), (5, .int x5), (6, .int x6), (7, .int x7)] C dX9_fair_145 rfl rfl (Nat.le_of_ble_eq_true rfl) rfl ?_
          refine j_goto (pc := 148) 59 C dX9_fair_148 (by decide) ?_
          refine j_sub [3, 4, 5, 6, 7, 8, 9, 0] rfl ?_
          exact ih x1 x2 x3 x4 x5 x6 x7 (x8 + 1) T7
        ·
          refine j_iinc (pc := 119) 5 (x4 + 1) [(4, .int (x4 + 1)), (10, .int r4), (9, .int r2), (1, .int x1), (2, .int x2), (3, .int x3), (5, .int x5), (6, .int x6), (7, .int x7), (8, .int x8)] C dX9_fair_119 rfl rfl (Nat.le_of_ble_eq_true rfl) rfl ?_
          refine j_iload (pc := 122) 6 C dX9_fair_122 rfl ?_
          refine j_iconst (pc := 124) (-1) C dX9_fair_124 (by decide) ?_
          refine j_icmp_ne (pc := 125) 145 C dX9_fair_125 (by decide) ?_ ?_
          ·
            refine j_iinc (pc := 145) 9 (x8 + 1) [(8, .int (x8 + 1)), (4, .int (x4 + 1)), (10, .int r4), (9, .int r2), (1, .int x1), (2, .int x2), (3, .int x3), (5, .int x5), (6, .int x6), (7, .int x7)] C dX9_fair_145 rfl rfl (Nat.le_of_ble_eq_true rfl) rfl ?_
            refine j_goto (pc := 148) 59 C dX9_fair_148 (by decide) ?_
            refine j_sub [4, 5, 6, 1, 7, 8, 9, 0] rfl ?_
            exact ih x1 x2 x3 (x4 + 1) x5 x6 x7 (x8 + 1) T7
          ·
            refine j_bipush (pc := 128) 10 C dX9_fair_128 (by decide) ?_
            refine j_iload (pc := 130) 8 C dX9_fair_130 rfl ?_
            refine j_imul (pc := 132) C dX9_fair_132 ?_
            refine j_iload (pc := 133) 9 C dX9_fair_133 rfl ?_
            refine j_iadd (pc := 135) C dX9_fair_135 ?_
            refine j_nxI (fun v9 => ?_)
            refine j_istore (pc := 136) [(5, .int v9), (4, .int (x4 + 1)), (10, .int r4), (9, .int r2), (1, .int x1), (2, .int x2), (3, .int x3), (6, .int x6), (7, .int x7), (8, .int x8)] C dX9_fair_136 (Nat.le_of_ble_eq_true rfl) rfl ?_
            refine j_iload (pc := 138) 3 C dX9_fair_138 rfl ?_
            refine j_iload (pc := 140) 2 C dX9_fair_140 rfl ?_
            refine j_iadd (pc := 142) C dX9_fair_142 ?_
            refine j_nxI (fun v10 => ?_)
            refine j_istore (pc := 143) [(6, .int v10), (5, .int v9), (4, .int (x4 + 1)), (10, .int r4), (9, .int r2), (1, .int x1), (2, .int x2), (3, .int x3), (7, .int x7), (8, .int x8)] C dX9_fair_143 (Nat.le_of_ble_eq_true rfl) rfl ?_
            refine j_iinc (pc := 145) 9 (x8 + 1) [(8, .int (x8 + 1)), (6, .int v10), (5, .int v9), (4, .int (x4 + 1)), (10, .int r4), (9, .int r2), (1, .int x1), (2, .int x2), (3, .int x3), (7, .int x7)] C dX9_fair_145 rfl rfl (Nat.le_of_ble_eq_true rfl) rfl ?_
            refine j_goto (pc := 148) 59 C dX9_fair_148 (by decide) ?_
            refine j_sub [6, 7, 8, 3, 2, 1, 9, 0] rfl ?_
            exact ih x1 x2 x3 (x4 + 1) v9 v10 x7 (x8 + 1) T7
theorem bC_Main_fair_50 {E : Ec} {G : Gc}    (C : JC E (VC G 11 1 6 RX9) cX9_fair 8 (some .int))    : ∀ (n : Nat) (x1 : Int32) (x2 : Int32) (x3 : Int32) (x4 : Int32) (x5 : Int32) (x6 : Int32) (x7 : Int32) (S : St), J E (VC G 11 1 6 RX9) 1 6 50 [(1, .int x1), (2, .int x2), (3, .int x3), (4, .int x4), (5, .int x5), (6, .int x6), (7, .int x7)] [] S (fC_Main_fair_50  n x1 x2 x3 x4 x5 x6 x7 S) := by
  intro n
  induction n with
  | zero => intro x1 x2 x3 x4 x5 x6 x7 S; rw [fC_Main_fair_50]; exact j_none
  | succ n ih =>
    intro x1 x2 x3 x4 x5 x6 x7 S
    rw [fC_Main_fair_50]
    refine j_iload (pc := 50) 6 C dX9_fair_50 rfl ?_
    refine j_iconst (pc := 52) 1 C dX9_fair_52 (by decide) ?_
    refine j_icmp_gt (pc := 53) 157 C dX9_fair_53 (by decide) ?_ ?_
    ·
      refine j_iload_n (pc := 157) 2 C dX9_fair_157 rfl rfl ?_
      refine j_lswC (pc := 158) (off := 26) 184 0 C dX9_fair_158 (by decide) (by decide) (by decide) ?_ (fun h158_0 => ?_)
      ·
        refine j_iload (pc := 184) 3 C dX9_fair_184 rfl ?_
        exact j_iret C dX9_fair_186 rfl (Nat.le_of_ble_eq_true rfl) (Nat.le_of_ble_eq_true rfl)
      refine j_lswC (pc := 158) (off := 29) 187 1 C dX9_fair_158 (by decide) (by decide) (by decide) ?_ (fun h158_1 => ?_)
      ·
        refine j_iload (pc := 187) 4 C dX9_fair_187 rfl ?_
        exact j_iret C dX9_fair_189 rfl (Nat.le_of_ble_eq_true rfl) (Nat.le_of_ble_eq_true rfl)
      refine j_lswD (pc := 158) 190 C dX9_fair_158 (by decide) (by have g0 := ne_i (z := 0) h158_0 (by decide); have g1 := ne_i (z := 1) h158_1 (by decide); simp [Op.lookupswitch.offset, g0, Ne.symm g0, g1, Ne.symm g1]) (by decide) ?_
      refine j_iload (pc := 190) 5 C dX9_fair_190 rfl ?_
      exact j_iret C dX9_fair_192 rfl (Nat.le_of_ble_eq_true rfl) (Nat.le_of_ble_eq_true rfl)
    ·
      refine j_iconst (pc := 56) 0 C dX9_fair_56 (by decide) ?_
      refine j_istore (pc := 57) [(8, .int 0), (1, .int x1), (2, .int x2), (3, .int x3), (4, .int x4), (5, .int x5), (6, .int x6), (7, .int x7)] C dX9_fair_57 (Nat.le_of_ble_eq_true rfl) rfl ?_
      refine j_sub [1, 2, 3, 4, 5, 6, 7, 0] rfl ?_
      exact bC_Main_fair_59 C ih FU x1 x2 x3 x4 x5 x6 x7 0 S
theorem bC_Main_fair_35 {E : Ec} {G : Gc}    (C : JC E (VC G 11 1 6 RX9) cX9_fair 8 (some .int))    (x1 : Int32) (x2 : Int32) (x3 : Int32) (s0 : Int32) (S : St) : J E (VC G 11 1 6 RX9) 0 0 35 [(1, .int x1), (2, .int x2), (3, .int x3)] [.int s0, .ref (gA G 0)] S (fC_Main_fair_35  x1 x2 x3 s0 S) := by
  unfold fC_Main_fair_35
  refine j_callv (pc := 35) C (rC_Main_need C dX9_fair_35 q_60 (by omega) (Nat.le_of_ble_eq_true rfl) ⟨Nat.le_of_ble_eq_true rfl, Nat.le_of_ble_eq_true rfl⟩) ⟨Nat.le_of_ble_eq_true rfl, Nat.le_of_ble_eq_true rfl⟩ (fun T1 => ?_)
  refine j_iconst (pc := 38) 0 C dX9_fair_38 (by decide) ?_
  refine j_istore (pc := 39) [(4, .int 0), (1, .int x1), (2, .int x2), (3, .int x3)] C dX9_fair_39 (Nat.le_of_ble_eq_true rfl) rfl ?_
  refine j_iconst (pc := 41) (-1) C dX9_fair_41 (by decide) ?_
  refine j_istore (pc := 42) [(5, .int (-1)), (4, .int 0), (1, .int x1), (2, .int x2), (3, .int x3)] C dX9_fair_42 (Nat.le_of_ble_eq_true rfl) rfl ?_
  refine j_iconst (pc := 44) 0 C dX9_fair_44 (by decide) ?_
  refine j_istore (pc := 45) [(6, .int 0), (5, .int (-1)), (4, .int 0), (1, .int x1), (2, .int x2), (3, .int x3)] C dX9_fair_45 (Nat.le_of_ble_eq_true rfl) rfl ?_
  refine j_iconst (pc := 47) 0 C dX9_fair_47 (by decide) ?_
  refine j_istore (pc := 48) [(7, .int 0), (6, .int 0), (5, .int (-1)), (4, .int 0), (1, .int x1), (2, .int x2), (3, .int x3)] C dX9_fair_48 (Nat.le_of_ble_eq_true rfl) rfl ?_
  refine j_sub [4, 5, 6, 3, 2, 1, 0] rfl ?_
  exact bC_Main_fair_50 C  FU x1 x2 x3 0 (-1) 0 0 T1
theorem bC_Main_fair_34 {E : Ec} {G : Gc}    (C : JC E (VC G 11 1 6 RX9) cX9_fair 8 (some .int))    (x1 : Int32) (x2 : Int32) (x3 : Int32) (S : St) : J E (VC G 11 1 6 RX9) 0 0 34 [(1, .int x1), (2, .int x2), (3, .int x3)] [.ref (gA G 0)] S (fC_Main_fair_34  x1 x2 x3 S) := by
  unfold fC_Main_fair_34
  refine j_iconst (pc := 34) 0 C dX9_fair_34 (by decide) ?_
  exact bC_Main_fair_35 C  x1 x2 x3 0 S
theorem bC_Main_fair {E : Ec} {G : Gc}    (C : JC E (VC G 11 1 6 RX9) cX9_fair 8 (some .int))    (x1 : Int32) (x2 : Int32) (x3 : Int32) (S : St) : J E (VC G 11 1 6 RX9) 0 0 0 [(0, .ref (gA G 0)), (1, .int x1), (2, .int x2), (3, .int x3)] [] S (fC_Main_fair  x1 x2 x3 S) := by
  unfold fC_Main_fair
  refine j_aload_n (pc := 0) 0 C dX9_fair_0 rfl rfl ?_
  refine j_iload_n (pc := 1) 1 C dX9_fair_1 rfl rfl ?_
  refine j_iconst (pc := 2) 0 C dX9_fair_2 (by decide) ?_
  refine j_bipush (pc := 3) 99 C dX9_fair_3 (by decide) ?_
  refine j_callI0 (pc := 5) C (rC_Main_isWithin C dX9_fair_5 q_49 (by omega) (Nat.le_of_ble_eq_true rfl) ⟨Nat.le_of_ble_eq_true rfl, Nat.le_of_ble_eq_true rfl⟩) ⟨Nat.le_of_ble_eq_true rfl, Nat.le_of_ble_eq_true rfl⟩ (fun r2 T1 => ?_)
  refine j_if_eq (pc := 8) 34 C dX9_fair_8 (by decide) ?_ ?_
  ·
    refine j_sub [1, 2, 3] rfl ?_
    exact bC_Main_fair_34 C  x1 x2 x3 T1
  ·
    refine j_iload_n (pc := 11) 2 C dX9_fair_11 rfl rfl ?_
    refine j_iconst (pc := 12) 0 C dX9_fair_12 (by decide) ?_
    refine j_bipush (pc := 13) 99 C dX9_fair_13 (by decide) ?_
    refine j_callI0 (pc := 15) C (rC_Main_isWithin C dX9_fair_15 q_49 (by omega) (Nat.le_of_ble_eq_true rfl) ⟨Nat.le_of_ble_eq_true rfl, Nat.le_of_ble_eq_true rfl⟩) ⟨Nat.le_of_ble_eq_true rfl, Nat.le_of_ble_eq_true rfl⟩ (fun r4 T3 => ?_)
    refine j_if_eq (pc := 18) 34 C dX9_fair_18 (by decide) ?_ ?_
    ·
      refine j_sub [1, 2, 3] rfl ?_
      exact bC_Main_fair_34 C  x1 x2 x3 T3
    ·
      refine j_iload_n (pc := 21) 3 C dX9_fair_21 rfl rfl ?_
      refine j_iconst (pc := 22) 0 C dX9_fair_22 (by decide) ?_
      refine j_iconst (pc := 23) 2 C dX9_fair_23 (by decide) ?_
      refine j_callI0 (pc := 24) C (rC_Main_isWithin C dX9_fair_24 q_49 (by omega) (Nat.le_of_ble_eq_true rfl) ⟨Nat.le_of_ble_eq_true rfl, Nat.le_of_ble_eq_true rfl⟩) ⟨Nat.le_of_ble_eq_true rfl, Nat.le_of_ble_eq_true rfl⟩ (fun r6 T5 => ?_)
      refine j_if_eq (pc := 27) 34 C dX9_fair_27 (by decide) ?_ ?_
      ·
        refine j_sub [1, 2, 3] rfl ?_
        exact bC_Main_fair_34 C  x1 x2 x3 T5
      ·
        refine j_iconst (pc := 30) 1 C dX9_fair_30 (by decide) ?_
        refine j_goto (pc := 31) 35 C dX9_fair_31 (by decide) ?_
        refine j_sub [1, 2, 3] rfl ?_
        exact bC_Main_fair_35 C  x1 x2 x3 1 T5
theorem cC_Main_fair {l : Launch} {G : Gc} (hfl : l.stackTraces = false) (hW : Wok G wC 54)   (x1 : Int32) (x2 : Int32) (x3 : Int32) (S : St) : Ct l yX9_fair (Cond.code yX9_fair cX9_fair 11 (some .int) :: tblG) 8 1 6 G wC 54 [.ref (gA G 0), .int x1, .int x2, .int x3] S (fC_Main_fair x1 x2 x3 S) := ct_of (own := RX9) hfl (by decide +kernel) rfl hW (Nat.le_of_ble_eq_true rfl) (fun E hE C => by subst hE; exact bC_Main_fair C   x1 x2 x3 S)
theorem rC_Main_fair {E : Ec} {G : Gc} {nL mc ms : Nat} {own : String} {cc : ByteArray} {L : Nat} {ret : Option FieldType} {k n pc ix : Nat} {loc : List (Nat × Value)} {rest : List Value}  {x1 : Int32} {x2 : Int32} {x3 : Int32} {S : St}  (C : JC E (VC G nL mc ms own) cc L ret) (hd : decode cc pc = .ok (.invokevirtual ix, 3)) (hq : Cond.methodLink own ix yX9_fair ∈ tblG) (hL : 8 + 1 ≤ L) (hW : (rest.map fun v => v.category).sum ≤ 8) (hf : k + 1 ≤ mc ∧ n + 6 ≤ ms) : Rn E (VC G nL mc ms own) k n 1 6 pc loc (.int x3 :: .int x2 :: .int x1 :: .ref (gA G 0) :: rest) rest S (fC_Main_fair x1 x2 x3 S) := rn_V (ci := 9) 0 (V := VC G nL mc ms own) (As := [.int x1, .int x2, .int x3]) (Cq := (RX9, TX9, 15)) (cC_Main_fair C.flags C.wok  x1 x2 x3 S) knX9_fair ⟨q_720, q_721⟩ rfl rfl C hd hq hL rfl rfl hW hf

theorem knX7_areMen : Kn yX7_areMen cX7_areMen 2 (some .boolean) 1 := ⟨q_722, q_112, by decide +kernel, by decide⟩
theorem bC_Valley_areMen_2 {E : Ec} {G : Gc}    (C : JC E (VC G 2 0 0 RX7) cX7_areMen 1 (some .boolean))    (x1 : Int32) (S : St) : J E (VC G 2 0 0 RX7) 0 0 0 [(0, .ref (gA G 2)), (1, .int x1)] [] S (fC_Valley_areMen_2  x1 S) := by
  unfold fC_Valley_areMen_2
  refine j_iload_n (pc := 0) 1 C dX7_areMen_0 rfl rfl ?_
  refine j_aload_n (pc := 1) 0 C dX7_areMen_1 rfl rfl ?_
  refine gC_2_1 (pc := 2) C dX7_areMen_2 q_75 ?_
  refine j_iushr (pc := 5) C dX7_areMen_5 ?_
  refine j_if_ne (pc := 6) 13 C dX7_areMen_6 (by decide) ?_ ?_
  ·
    refine j_iconst (pc := 13) 0 C dX7_areMen_13 (by decide) ?_
    exact j_zretc C dX7_areMen_14 rfl (Nat.le_of_ble_eq_true rfl) (Nat.le_of_ble_eq_true rfl) rfl
  ·
    refine j_iconst (pc := 9) 1 C dX7_areMen_9 (by decide) ?_
    refine j_goto (pc := 10) 14 C dX7_areMen_10 (by decide) ?_
    exact j_zretc C dX7_areMen_14 rfl (Nat.le_of_ble_eq_true rfl) (Nat.le_of_ble_eq_true rfl) rfl
theorem cC_Valley_areMen_2 {l : Launch} {G : Gc} (hfl : l.stackTraces = false) (hW : Wok G wC 54)   (x1 : Int32) (S : St) : Ct l yX7_areMen (Cond.code yX7_areMen cX7_areMen 2 (some .boolean) :: tblG) 1 0 0 G wC 54 [.ref (gA G 2), .int x1] S (fC_Valley_areMen_2 x1 S) := ct_of (own := RX7) hfl (by decide +kernel) rfl hW (Nat.le_of_ble_eq_true rfl) (fun E hE C => by subst hE; exact bC_Valley_areMen_2 C   x1 S)
theorem rC_Valley_areMen_2 {E : Ec} {G : Gc} {nL mc ms : Nat} {own : String} {cc : ByteArray} {L : Nat} {ret : Option FieldType} {k n pc ix : Nat} {loc : List (Nat × Value)} {rest : List Value}  {x1 : Int32} {S : St}  (C : JC E (VC G nL mc ms own) cc L ret) (hd : decode cc pc = .ok (.invokevirtual ix, 3)) (hq : Cond.methodLink own ix yX7_areMen ∈ tblG) (hL : 1 + 1 ≤ L) (hW : (rest.map fun v => v.category).sum ≤ 8) (hf : k + 0 ≤ mc ∧ n + 0 ≤ ms) : Rn E (VC G nL mc ms own) k n 0 0 pc loc (.int x1 :: .ref (gA G 2) :: rest) rest S (fC_Valley_areMen_2 x1 S) := rn_V (ci := 7) 2 (V := VC G nL mc ms own) (As := [.int x1]) (Cq := (RX7, TX7, 12)) (cC_Valley_areMen_2 C.flags C.wok  x1 S) knX7_areMen ⟨q_723, q_724⟩ rfl rfl C hd hq hL rfl rfl hW hf

theorem knX9_candlesGiven : Kn yX9_candlesGiven cX9_candlesGiven 5 (some .int) 2 := ⟨q_726, q_40, by decide +kernel, by decide⟩
theorem bC_Main_candlesGiven_5 {E : Ec} {G : Gc}    (C : JC E (VC G 5 0 0 RX9) cX9_candlesGiven 3 (some .int))    : ∀ (n : Nat) (x1 : Int32) (x2 : Int32) (x3 : Int32) (x4 : Int32) (S : St), J E (VC G 5 0 0 RX9) 0 0 5 [(0, .ref (gA G 0)), (1, .int x1), (2, .int x2), (3, .int x3), (4, .int x4)] [] S (fC_Main_candlesGiven_5  n x1 x2 x3 x4 S) := by
  intro n
  induction n with
  | zero => intro x1 x2 x3 x4 S; rw [fC_Main_candlesGiven_5]; exact j_none
  | succ n ih =>
    intro x1 x2 x3 x4 S
    rw [fC_Main_candlesGiven_5]
    refine j_iload (pc := 5) 4 C dX9_candlesGiven_5 rfl ?_
    refine j_aload_n (pc := 7) 0 C dX9_candlesGiven_7 rfl rfl ?_
    refine gC_0_1 (pc := 8) C dX9_candlesGiven_8 q_148 ?_
    refine gC_2_1 (pc := 11) C dX9_candlesGiven_11 q_467 ?_
    refine j_icmp_ge (pc := 14) 49 C dX9_candlesGiven_14 (by decide) ?_ ?_
    ·
      refine j_iload_n (pc := 49) 3 C dX9_candlesGiven_49 rfl rfl ?_
      exact j_iret C dX9_candlesGiven_50 rfl (Nat.le_of_ble_eq_true rfl) (Nat.le_of_ble_eq_true rfl)
    ·
      refine j_iload_n (pc := 17) 1 C dX9_candlesGiven_17 rfl rfl ?_
      refine j_iload (pc := 18) 4 C dX9_candlesGiven_18 rfl ?_
      refine j_ishr (pc := 20) C dX9_candlesGiven_20 ?_
      refine j_iconst (pc := 21) 1 C dX9_candlesGiven_21 (by decide) ?_
      refine j_iand (pc := 22) C dX9_candlesGiven_22 ?_
      refine j_iconst (pc := 23) 1 C dX9_candlesGiven_23 (by decide) ?_
      refine j_icmp_ne (pc := 24) 43 C dX9_candlesGiven_24 (by decide) ?_ ?_
      ·
        refine j_iinc (pc := 43) 4 (x4 + 1) [(4, .int (x4 + 1)), (0, .ref (gA G 0)), (1, .int x1), (2, .int x2), (3, .int x3)] C dX9_candlesGiven_43 rfl rfl (Nat.le_of_ble_eq_true rfl) rfl ?_
        refine j_goto (pc := 46) 5 C dX9_candlesGiven_46 (by decide) ?_
        refine j_sub [1, 2, 3, 4, 0] rfl ?_
        exact ih x1 x2 x3 (x4 + 1) S
      ·
        refine j_iload_n (pc := 27) 3 C dX9_candlesGiven_27 rfl rfl ?_
        refine j_aload_n (pc := 28) 0 C dX9_candlesGiven_28 rfl rfl ?_
        refine gC_0_8 (pc := 29) C dX9_candlesGiven_29 q_171 ?_
        refine j_iload (pc := 32) 4 C dX9_candlesGiven_32 rfl ?_
        refine j_callI0 (pc := 34) C (rC_State_linesOf_9 C dX9_candlesGiven_34 q_533 (by omega) (Nat.le_of_ble_eq_true rfl) ⟨Nat.le_of_ble_eq_true rfl, Nat.le_of_ble_eq_true rfl⟩) ⟨Nat.le_of_ble_eq_true rfl, Nat.le_of_ble_eq_true rfl⟩ (fun r2 T1 => ?_)
        refine j_iload_n (pc := 37) 2 C dX9_candlesGiven_37 rfl rfl ?_
        refine j_mmin (pc := 38) C dX9_candlesGiven_38 q_43 q_44 q_45 q_46 (by omega) (Nat.le_of_ble_eq_true rfl) (Nat.le_of_ble_eq_true rfl) (Nat.le_of_ble_eq_true rfl) ?_
        refine j_iadd (pc := 41) C dX9_candlesGiven_41 ?_
        refine j_nxI (fun v3 => ?_)
        refine j_istore_n (pc := 42) [(3, .int v3), (0, .ref (gA G 0)), (1, .int x1), (2, .int x2), (4, .int x4)] C dX9_candlesGiven_42 rfl (Nat.le_of_ble_eq_true rfl) rfl ?_
        refine j_iinc (pc := 43) 4 (x4 + 1) [(4, .int (x4 + 1)), (3, .int v3), (0, .ref (gA G 0)), (1, .int x1), (2, .int x2)] C dX9_candlesGiven_43 rfl rfl (Nat.le_of_ble_eq_true rfl) rfl ?_
        refine j_goto (pc := 46) 5 C dX9_candlesGiven_46 (by decide) ?_
        refine j_sub [2, 3, 4, 1, 0] rfl ?_
        exact ih x1 x2 v3 (x4 + 1) T1
theorem bC_Main_candlesGiven {E : Ec} {G : Gc}    (C : JC E (VC G 5 0 0 RX9) cX9_candlesGiven 3 (some .int))    (x1 : Int32) (x2 : Int32) (S : St) : J E (VC G 5 0 0 RX9) 0 0 0 [(0, .ref (gA G 0)), (1, .int x1), (2, .int x2)] [] S (fC_Main_candlesGiven  x1 x2 S) := by
  unfold fC_Main_candlesGiven
  refine j_iconst (pc := 0) 0 C dX9_candlesGiven_0 (by decide) ?_
  refine j_istore_n (pc := 1) [(3, .int 0), (0, .ref (gA G 0)), (1, .int x1), (2, .int x2)] C dX9_candlesGiven_1 rfl (Nat.le_of_ble_eq_true rfl) rfl ?_
  refine j_iconst (pc := 2) 0 C dX9_candlesGiven_2 (by decide) ?_
  refine j_istore (pc := 3) [(4, .int 0), (3, .int 0), (0, .ref (gA G 0)), (1, .int x1), (2, .int x2)] C dX9_candlesGiven_3 (Nat.le_of_ble_eq_true rfl) rfl ?_
  refine j_sub [2, 3, 4, 1, 0] rfl ?_
  exact bC_Main_candlesGiven_5 C  FU x1 x2 0 0 S
theorem cC_Main_candlesGiven {l : Launch} {G : Gc} (hfl : l.stackTraces = false) (hW : Wok G wC 54)   (x1 : Int32) (x2 : Int32) (S : St) : Ct l yX9_candlesGiven (Cond.code yX9_candlesGiven cX9_candlesGiven 5 (some .int) :: tblG) 3 0 0 G wC 54 [.ref (gA G 0), .int x1, .int x2] S (fC_Main_candlesGiven x1 x2 S) := ct_of (own := RX9) hfl (by decide +kernel) rfl hW (Nat.le_of_ble_eq_true rfl) (fun E hE C => by subst hE; exact bC_Main_candlesGiven C   x1 x2 S)
theorem rC_Main_candlesGiven {E : Ec} {G : Gc} {nL mc ms : Nat} {own : String} {cc : ByteArray} {L : Nat} {ret : Option FieldType} {k n pc ix : Nat} {loc : List (Nat × Value)} {rest : List Value}  {x1 : Int32} {x2 : Int32} {S : St}  (C : JC E (VC G nL mc ms own) cc L ret) (hd : decode cc pc = .ok (.invokevirtual ix, 3)) (hq : Cond.methodLink own ix yX9_candlesGiven ∈ tblG) (hL : 3 + 1 ≤ L) (hW : (rest.map fun v => v.category).sum ≤ 8) (hf : k + 0 ≤ mc ∧ n + 0 ≤ ms) : Rn E (VC G nL mc ms own) k n 0 0 pc loc (.int x2 :: .int x1 :: .ref (gA G 0) :: rest) rest S (fC_Main_candlesGiven x1 x2 S) := rn_V (ci := 9) 0 (V := VC G nL mc ms own) (As := [.int x1, .int x2]) (Cq := (RX9, TX9, 15)) (cC_Main_candlesGiven C.flags C.wok  x1 x2 S) knX9_candlesGiven ⟨q_727, q_728⟩ rfl rfl C hd hq hL rfl rfl hW hf

theorem knX9_candles : Kn yX9_candles cX9_candles 5 (some .int) 3 := ⟨q_730, q_40, by decide +kernel, by decide⟩
theorem bC_Main_candles_72 {E : Ec} {G : Gc}    (C : JC E (VC G 5 2 12 RX9) cX9_candles 8 (some .int))    (x1 : Int32) (x4 : Int32) (S : St) : J E (VC G 5 2 12 RX9) 2 12 72 [(0, .ref (gA G 0)), (1, .int x1), (4, .int x4)] [] S (fC_Main_candles_72  x1 x4 S) := by
  unfold fC_Main_candles_72
  refine j_aload_n (pc := 72) 0 C dX9_candles_72 rfl rfl ?_
  refine gC_0_8 (pc := 73) C dX9_candles_73 q_171 ?_
  refine j_iload_n (pc := 76) 1 C dX9_candles_76 rfl rfl ?_
  refine j_callI0 (pc := 77) C (rC_State_linesOf_9 C dX9_candles_77 q_533 (by omega) (Nat.le_of_ble_eq_true rfl) ⟨Nat.le_of_ble_eq_true rfl, Nat.le_of_ble_eq_true rfl⟩) ⟨Nat.le_of_ble_eq_true rfl, Nat.le_of_ble_eq_true rfl⟩ (fun r2 T1 => ?_)
  refine j_iload (pc := 80) 2 C dX9_candles_80 rfl ?_
  refine j_mmin (pc := 82) C dX9_candles_82 q_43 q_44 q_45 q_46 (by omega) (Nat.le_of_ble_eq_true rfl) (Nat.le_of_ble_eq_true rfl) (Nat.le_of_ble_eq_true rfl) ?_
  exact j_iret C dX9_candles_85 rfl (Nat.le_of_ble_eq_true rfl) (Nat.le_of_ble_eq_true rfl)
theorem bC_Main_candles_50 {E : Ec} {G : Gc}    (C : JC E (VC G 5 2 12 RX9) cX9_candles 8 (some .int))    : ∀ (n : Nat) (x1 : Int32) (x2 : Int32) (x3 : Int32) (x4 : Int32) (S : St), J E (VC G 5 2 12 RX9) 2 12 50 [(0, .ref (gA G 0)), (1, .int x1), (2, .int x2), (3, .int x3), (4, .int x4)] [] S (fC_Main_candles_50  n x1 x2 x3 x4 S) := by
  intro n
  induction n with
  | zero => intro x1 x2 x3 x4 S; rw [fC_Main_candles_50]; exact j_none
  | succ n ih =>
    intro x1 x2 x3 x4 S
    rw [fC_Main_candles_50]
    refine j_iload (pc := 50) 4 C dX9_candles_50 rfl ?_
    refine j_if_le (pc := 52) 72 C dX9_candles_52 (by decide) ?_ ?_
    ·
      refine j_sub [0, 1, 4] rfl ?_
      exact bC_Main_candles_72 C  x1 x4 S
    ·
      refine j_aload_n (pc := 55) 0 C dX9_candles_55 rfl rfl ?_
      refine j_iload_n (pc := 56) 2 C dX9_candles_56 rfl rfl ?_
      refine j_iload (pc := 57) 4 C dX9_candles_57 rfl ?_
      refine j_callI0 (pc := 59) C (rC_Main_candlesGiven C dX9_candles_59 q_729 (by omega) (Nat.le_of_ble_eq_true rfl) ⟨Nat.le_of_ble_eq_true rfl, Nat.le_of_ble_eq_true rfl⟩) ⟨Nat.le_of_ble_eq_true rfl, Nat.le_of_ble_eq_true rfl⟩ (fun r2 T1 => ?_)
      refine j_iload_n (pc := 62) 3 C dX9_candles_62 rfl rfl ?_
      refine j_icmp_le (pc := 63) 72 C dX9_candles_63 (by decide) ?_ ?_
      ·
        refine j_sub [0, 1, 4] rfl ?_
        exact bC_Main_candles_72 C  x1 x4 T1
      ·
        refine j_iinc (pc := 66) 4 (x4 + (-1)) [(4, .int (x4 + (-1))), (0, .ref (gA G 0)), (1, .int x1), (2, .int x2), (3, .int x3)] C dX9_candles_66 rfl rfl (Nat.le_of_ble_eq_true rfl) rfl ?_
        refine j_goto (pc := 69) 50 C dX9_candles_69 (by decide) ?_
        refine j_sub [1, 2, 3, 4, 0] rfl ?_
        exact ih x1 x2 x3 (x4 + (-1)) T1
theorem bC_Main_candles_33 {E : Ec} {G : Gc}    (C : JC E (VC G 5 2 12 RX9) cX9_candles 8 (some .int))    (x1 : Int32) (x2 : Int32) (x3 : Int32) (s0 : Int32) (S : St) : J E (VC G 5 2 12 RX9) 1 6 33 [(0, .ref (gA G 0)), (1, .int x1), (2, .int x2), (3, .int x3)] [.int s0, .ref (gA G 0)] S (fC_Main_candles_33  x1 x2 x3 s0 S) := by
  unfold fC_Main_candles_33
  refine j_callv (pc := 33) C (rC_Main_need C dX9_candles_33 q_60 (by omega) (Nat.le_of_ble_eq_true rfl) ⟨Nat.le_of_ble_eq_true rfl, Nat.le_of_ble_eq_true rfl⟩) ⟨Nat.le_of_ble_eq_true rfl, Nat.le_of_ble_eq_true rfl⟩ (fun T1 => ?_)
  refine j_iload_n (pc := 36) 2 C dX9_candles_36 rfl rfl ?_
  refine j_iload_n (pc := 37) 1 C dX9_candles_37 rfl rfl ?_
  refine j_ishr (pc := 38) C dX9_candles_38 ?_
  refine j_iconst (pc := 39) 1 C dX9_candles_39 (by decide) ?_
  refine j_iand (pc := 40) C dX9_candles_40 ?_
  refine j_if_ne (pc := 41) 46 C dX9_candles_41 (by decide) ?_ ?_
  ·
    refine j_bipush (pc := 46) 99 C dX9_candles_46 (by decide) ?_
    refine j_istore (pc := 48) [(4, .int 99), (0, .ref (gA G 0)), (1, .int x1), (2, .int x2), (3, .int x3)] C dX9_candles_48 (Nat.le_of_ble_eq_true rfl) rfl ?_
    refine j_sub [1, 2, 3, 4, 0] rfl ?_
    exact bC_Main_candles_50 C  FU x1 x2 x3 99 T1
  ·
    refine j_iconst (pc := 44) 0 C dX9_candles_44 (by decide) ?_
    exact j_iret C dX9_candles_45 rfl (Nat.le_of_ble_eq_true rfl) (Nat.le_of_ble_eq_true rfl)
theorem bC_Main_candles_32 {E : Ec} {G : Gc}    (C : JC E (VC G 5 2 12 RX9) cX9_candles 8 (some .int))    (x1 : Int32) (x2 : Int32) (x3 : Int32) (S : St) : J E (VC G 5 2 12 RX9) 1 6 32 [(0, .ref (gA G 0)), (1, .int x1), (2, .int x2), (3, .int x3)] [.ref (gA G 0)] S (fC_Main_candles_32  x1 x2 x3 S) := by
  unfold fC_Main_candles_32
  refine j_iconst (pc := 32) 0 C dX9_candles_32 (by decide) ?_
  exact bC_Main_candles_33 C  x1 x2 x3 0 S
theorem bC_Main_candles {E : Ec} {G : Gc}    (C : JC E (VC G 5 2 12 RX9) cX9_candles 8 (some .int))    (x1 : Int32) (x2 : Int32) (x3 : Int32) (S : St) : J E (VC G 5 2 12 RX9) 0 0 0 [(0, .ref (gA G 0)), (1, .int x1), (2, .int x2), (3, .int x3)] [] S (fC_Main_candles  x1 x2 x3 S) := by
  unfold fC_Main_candles
  refine j_aload_n (pc := 0) 0 C dX9_candles_0 rfl rfl ?_
  refine j_iload_n (pc := 1) 1 C dX9_candles_1 rfl rfl ?_
  refine j_callv (pc := 2) C (rC_Main_needMan C dX9_candles_2 q_529 (by omega) (Nat.le_of_ble_eq_true rfl) ⟨Nat.le_of_ble_eq_true rfl, Nat.le_of_ble_eq_true rfl⟩) ⟨Nat.le_of_ble_eq_true rfl, Nat.le_of_ble_eq_true rfl⟩ (fun T1 => ?_)
  refine j_aload_n (pc := 5) 0 C dX9_candles_5 rfl rfl ?_
  refine j_aload_n (pc := 6) 0 C dX9_candles_6 rfl rfl ?_
  refine gC_0_1 (pc := 7) C dX9_candles_7 q_148 ?_
  refine j_iload_n (pc := 10) 2 C dX9_candles_10 rfl rfl ?_
  refine j_callI0 (pc := 11) C (rC_Valley_areMen_2 C dX9_candles_11 q_725 (by omega) (Nat.le_of_ble_eq_true rfl) ⟨Nat.le_of_ble_eq_true rfl, Nat.le_of_ble_eq_true rfl⟩) ⟨Nat.le_of_ble_eq_true rfl, Nat.le_of_ble_eq_true rfl⟩ (fun r4 T3 => ?_)
  refine j_if_eq (pc := 14) 32 C dX9_candles_14 (by decide) ?_ ?_
  ·
    exact bC_Main_candles_32 C  x1 x2 x3 T3
  ·
    refine j_iload_n (pc := 17) 3 C dX9_candles_17 rfl rfl ?_
    refine j_iconst (pc := 18) 0 C dX9_candles_18 (by decide) ?_
    refine j_sipush (pc := 19) 999 C dX9_candles_19 (by decide) ?_
    refine j_callI0 (pc := 22) C (rC_Main_isWithin C dX9_candles_22 q_49 (by omega) (Nat.le_of_ble_eq_true rfl) ⟨Nat.le_of_ble_eq_true rfl, Nat.le_of_ble_eq_true rfl⟩) ⟨Nat.le_of_ble_eq_true rfl, Nat.le_of_ble_eq_true rfl⟩ (fun r6 T5 => ?_)
    refine j_if_eq (pc := 25) 32 C dX9_candles_25 (by decide) ?_ ?_
    ·
      exact bC_Main_candles_32 C  x1 x2 x3 T5
    ·
      refine j_iconst (pc := 28) 1 C dX9_candles_28 (by decide) ?_
      refine j_goto (pc := 29) 33 C dX9_candles_29 (by decide) ?_
      exact bC_Main_candles_33 C  x1 x2 x3 1 T5
theorem cC_Main_candles {l : Launch} {G : Gc} (hfl : l.stackTraces = false) (hW : Wok G wC 54)   (x1 : Int32) (x2 : Int32) (x3 : Int32) (S : St) : Ct l yX9_candles (Cond.code yX9_candles cX9_candles 5 (some .int) :: tblG) 8 2 12 G wC 54 [.ref (gA G 0), .int x1, .int x2, .int x3] S (fC_Main_candles x1 x2 x3 S) := ct_of (own := RX9) hfl (by decide +kernel) rfl hW (Nat.le_of_ble_eq_true rfl) (fun E hE C => by subst hE; exact bC_Main_candles C   x1 x2 x3 S)
theorem rC_Main_candles {E : Ec} {G : Gc} {nL mc ms : Nat} {own : String} {cc : ByteArray} {L : Nat} {ret : Option FieldType} {k n pc ix : Nat} {loc : List (Nat × Value)} {rest : List Value}  {x1 : Int32} {x2 : Int32} {x3 : Int32} {S : St}  (C : JC E (VC G nL mc ms own) cc L ret) (hd : decode cc pc = .ok (.invokevirtual ix, 3)) (hq : Cond.methodLink own ix yX9_candles ∈ tblG) (hL : 8 + 1 ≤ L) (hW : (rest.map fun v => v.category).sum ≤ 8) (hf : k + 2 ≤ mc ∧ n + 12 ≤ ms) : Rn E (VC G nL mc ms own) k n 2 12 pc loc (.int x3 :: .int x2 :: .int x1 :: .ref (gA G 0) :: rest) rest S (fC_Main_candles x1 x2 x3 S) := rn_V (ci := 9) 0 (V := VC G nL mc ms own) (As := [.int x1, .int x2, .int x3]) (Cq := (RX9, TX9, 15)) (cC_Main_candles C.flags C.wok  x1 x2 x3 S) knX9_candles ⟨q_731, q_732⟩ rfl rfl C hd hq hL rfl rfl hW hf

theorem knX9_fullest : Kn yX9_fullest cX9_fullest 6 (some .int) 1 := ⟨q_733, q_40, by decide +kernel, by decide⟩
theorem bC_Main_fullest_17 {E : Ec} {G : Gc}    (C : JC E (VC G 6 1 6 RX9) cX9_fullest 8 (some .int))    : ∀ (n : Nat) (x1 : Int32) (x2 : Int32) (x3 : Int32) (x4 : Int32) (S : St), J E (VC G 6 1 6 RX9) 1 6 17 [(0, .ref (gA G 0)), (1, .int x1), (2, .int x2), (3, .int x3), (4, .int x4)] [] S (fC_Main_fullest_17  n x1 x2 x3 x4 S) := by
  intro n
  induction n with
  | zero => intro x1 x2 x3 x4 S; rw [fC_Main_fullest_17]; exact j_none
  | succ n ih =>
    intro x1 x2 x3 x4 S
    rw [fC_Main_fullest_17]
    refine j_iload (pc := 17) 4 C dX9_fullest_17 rfl ?_
    refine j_aload_n (pc := 19) 0 C dX9_fullest_19 rfl rfl ?_
    refine gC_0_1 (pc := 20) C dX9_fullest_20 q_148 ?_
    refine gC_2_1 (pc := 23) C dX9_fullest_23 q_467 ?_
    refine j_icmp_ge (pc := 26) 58 C dX9_fullest_26 (by decide) ?_ ?_
    ·
      refine j_iload_n (pc := 58) 1 C dX9_fullest_58 rfl rfl ?_
      refine j_if_ne (pc := 59) 66 C dX9_fullest_59 (by decide) ?_ ?_
      ·
        refine j_iload_n (pc := 66) 3 C dX9_fullest_66 rfl rfl ?_
        exact j_iret C dX9_fullest_67 rfl (Nat.le_of_ble_eq_true rfl) (Nat.le_of_ble_eq_true rfl)
      ·
        refine j_iload_n (pc := 62) 2 C dX9_fullest_62 rfl rfl ?_
        refine j_goto (pc := 63) 67 C dX9_fullest_63 (by decide) ?_
        exact j_iret C dX9_fullest_67 rfl (Nat.le_of_ble_eq_true rfl) (Nat.le_of_ble_eq_true rfl)
    ·
      refine j_aload_n (pc := 29) 0 C dX9_fullest_29 rfl rfl ?_
      refine gC_0_8 (pc := 30) C dX9_fullest_30 q_171 ?_
      refine j_iload (pc := 33) 4 C dX9_fullest_33 rfl ?_
      refine j_callI0 (pc := 35) C (rC_State_linesOf_9 C dX9_fullest_35 q_533 (by omega) (Nat.le_of_ble_eq_true rfl) ⟨Nat.le_of_ble_eq_true rfl, Nat.le_of_ble_eq_true rfl⟩) ⟨Nat.le_of_ble_eq_true rfl, Nat.le_of_ble_eq_true rfl⟩ (fun r2 T1 => ?_)
      refine j_istore (pc := 38) [(5, .int r2), (0, .ref (gA G 0)), (1, .int x1), (2, .int x2), (3, .int x3), (4, .int x4)] C dX9_fullest_38 (Nat.le_of_ble_eq_true rfl) rfl ?_
      refine j_iload (pc := 40) 0 C dX9_fullest_40 rfl ?_
      refine j_iload_n (pc := 42) 4 C dX9_fullest_42 rfl rfl ?_
      refine j_icmp_le (pc := 43) 52 C dX9_fullest_43 (by decide) ?_ ?_
      ·
        refine j_iinc (pc := 52) 5 (x4 + 1) [(4, .int (x4 + 1)), (5, .int r2), (0, .ref (gA G 0)), (1, .int x1), (2, .int x2), (3, .int x3)] C dX9_fullest_52 rfl rfl (Nat.le_of_ble_eq_true rfl) rfl ?_
        refine j_goto (pc := 55) 17 C dX9_fullest_55 (by decide) ?_
        refine j_sub [2, 3, 4, 5, 0] rfl ?_
        exact ih x1 x2 x3 (x4 + 1) T1
      ·
        refine j_iload (pc := 46) 5 C dX9_fullest_46 rfl ?_
        refine j_istore_n (pc := 48) [(2, .int x4), (5, .int r2), (0, .ref (gA G 0)), (1, .int x1), (3, .int x3), (4, .int x4)] C dX9_fullest_48 rfl (Nat.le_of_ble_eq_true rfl) rfl ?_
        refine j_iload (pc := 49) 1 C dX9_fullest_49 rfl ?_
        refine j_istore_n (pc := 51) [(3, .int r2), (2, .int x4), (5, .int r2), (0, .ref (gA G 0)), (1, .int x1), (4, .int x4)] C dX9_fullest_51 rfl (Nat.le_of_ble_eq_true rfl) rfl ?_
        refine j_iinc (pc := 52) 5 (x4 + 1) [(4, .int (x4 + 1)), (3, .int r2), (2, .int x4), (5, .int r2), (0, .ref (gA G 0)), (1, .int x1)] C dX9_fullest_52 rfl rfl (Nat.le_of_ble_eq_true rfl) rfl ?_
        refine j_goto (pc := 55) 17 C dX9_fullest_55 (by decide) ?_
        refine j_sub [4, 5, 2, 1, 0] rfl ?_
        exact ih x1 x4 r2 (x4 + 1) T1
theorem bC_Main_fullest {E : Ec} {G : Gc}    (C : JC E (VC G 6 1 6 RX9) cX9_fullest 8 (some .int))    (x1 : Int32) (S : St) : J E (VC G 6 1 6 RX9) 0 0 0 [(0, .ref (gA G 0)), (1, .int x1)] [] S (fC_Main_fullest  x1 S) := by
  unfold fC_Main_fullest
  refine j_aload_n (pc := 0) 0 C dX9_fullest_0 rfl rfl ?_
  refine j_iload_n (pc := 1) 1 C dX9_fullest_1 rfl rfl ?_
  refine j_iconst (pc := 2) 0 C dX9_fullest_2 (by decide) ?_
  refine j_iconst (pc := 3) 1 C dX9_fullest_3 (by decide) ?_
  refine j_callI0 (pc := 4) C (rC_Main_isWithin C dX9_fullest_4 q_49 (by omega) (Nat.le_of_ble_eq_true rfl) ⟨Nat.le_of_ble_eq_true rfl, Nat.le_of_ble_eq_true rfl⟩) ⟨Nat.le_of_ble_eq_true rfl, Nat.le_of_ble_eq_true rfl⟩ (fun r2 T1 => ?_)
  refine j_callv (pc := 7) C (rC_Main_need C dX9_fullest_7 q_60 (by omega) (Nat.le_of_ble_eq_true rfl) ⟨Nat.le_of_ble_eq_true rfl, Nat.le_of_ble_eq_true rfl⟩) ⟨Nat.le_of_ble_eq_true rfl, Nat.le_of_ble_eq_true rfl⟩ (fun T3 => ?_)
  refine j_iconst (pc := 10) (-1) C dX9_fullest_10 (by decide) ?_
  refine j_istore_n (pc := 11) [(2, .int (-1)), (0, .ref (gA G 0)), (1, .int x1)] C dX9_fullest_11 rfl (Nat.le_of_ble_eq_true rfl) rfl ?_
  refine j_iconst (pc := 12) (-1) C dX9_fullest_12 (by decide) ?_
  refine j_istore_n (pc := 13) [(3, .int (-1)), (2, .int (-1)), (0, .ref (gA G 0)), (1, .int x1)] C dX9_fullest_13 rfl (Nat.le_of_ble_eq_true rfl) rfl ?_
  refine j_iconst (pc := 14) 0 C dX9_fullest_14 (by decide) ?_
  refine j_istore (pc := 15) [(4, .int 0), (3, .int (-1)), (2, .int (-1)), (0, .ref (gA G 0)), (1, .int x1)] C dX9_fullest_15 (Nat.le_of_ble_eq_true rfl) rfl ?_
  refine j_sub [3, 4, 2, 1, 0] rfl ?_
  exact bC_Main_fullest_17 C  FU x1 (-1) (-1) 0 T3
theorem cC_Main_fullest {l : Launch} {G : Gc} (hfl : l.stackTraces = false) (hW : Wok G wC 54)   (x1 : Int32) (S : St) : Ct l yX9_fullest (Cond.code yX9_fullest cX9_fullest 6 (some .int) :: tblG) 8 1 6 G wC 54 [.ref (gA G 0), .int x1] S (fC_Main_fullest x1 S) := ct_of (own := RX9) hfl (by decide +kernel) rfl hW (Nat.le_of_ble_eq_true rfl) (fun E hE C => by subst hE; exact bC_Main_fullest C   x1 S)
theorem rC_Main_fullest {E : Ec} {G : Gc} {nL mc ms : Nat} {own : String} {cc : ByteArray} {L : Nat} {ret : Option FieldType} {k n pc ix : Nat} {loc : List (Nat × Value)} {rest : List Value}  {x1 : Int32} {S : St}  (C : JC E (VC G nL mc ms own) cc L ret) (hd : decode cc pc = .ok (.invokevirtual ix, 3)) (hq : Cond.methodLink own ix yX9_fullest ∈ tblG) (hL : 8 + 1 ≤ L) (hW : (rest.map fun v => v.category).sum ≤ 8) (hf : k + 1 ≤ mc ∧ n + 6 ≤ ms) : Rn E (VC G nL mc ms own) k n 1 6 pc loc (.int x1 :: .ref (gA G 0) :: rest) rest S (fC_Main_fullest x1 S) := rn_V (ci := 9) 0 (V := VC G nL mc ms own) (As := [.int x1]) (Cq := (RX9, TX9, 15)) (cC_Main_fullest C.flags C.wok  x1 S) knX9_fullest ⟨q_734, q_735⟩ rfl rfl C hd hq hL rfl rfl hW hf

theorem knX9_free : Kn yX9_free cX9_free 4 (some .int) 0 := ⟨q_736, q_40, by decide +kernel, by decide⟩
theorem bC_Main_free_14 {E : Ec} {G : Gc}    (C : JC E (VC G 4 0 0 RX9) cX9_free 2 (some .int))    : ∀ (n : Nat) (x1 : Int32) (x2 : Int32) (x3 : Int32) (S : St), J E (VC G 4 0 0 RX9) 0 0 14 [(0, .ref (gA G 0)), (1, .int x1), (2, .int x2), (3, .int x3)] [] S (fC_Main_free_14  n x1 x2 x3 S) := by
  intro n
  induction n with
  | zero => intro x1 x2 x3 S; rw [fC_Main_free_14]; exact j_none
  | succ n ih =>
    intro x1 x2 x3 S
    rw [fC_Main_free_14]
    refine j_iload_n (pc := 14) 3 C dX9_free_14 rfl rfl ?_
    refine j_aload_n (pc := 15) 0 C dX9_free_15 rfl rfl ?_
    refine gC_0_1 (pc := 16) C dX9_free_16 q_148 ?_
    refine gC_2_1 (pc := 19) C dX9_free_19 q_467 ?_
    refine j_icmp_ge (pc := 22) 50 C dX9_free_22 (by decide) ?_ ?_
    ·
      refine j_iload_n (pc := 50) 2 C dX9_free_50 rfl rfl ?_
      exact j_iret C dX9_free_51 rfl (Nat.le_of_ble_eq_true rfl) (Nat.le_of_ble_eq_true rfl)
    ·
      refine j_aload_n (pc := 25) 0 C dX9_free_25 rfl rfl ?_
      refine gC_0_1 (pc := 26) C dX9_free_26 q_148 ?_
      refine j_iload_n (pc := 29) 3 C dX9_free_29 rfl rfl ?_
      refine j_callI0 (pc := 30) C (rC_Valley_debtsOfMan_2 C dX9_free_30 q_549 (by omega) (Nat.le_of_ble_eq_true rfl) ⟨Nat.le_of_ble_eq_true rfl, Nat.le_of_ble_eq_true rfl⟩) ⟨Nat.le_of_ble_eq_true rfl, Nat.le_of_ble_eq_true rfl⟩ (fun r2 T1 => ?_)
      refine j_iload_n (pc := 33) 1 C dX9_free_33 rfl rfl ?_
      refine j_iand (pc := 34) C dX9_free_34 ?_
      refine j_if_ne (pc := 35) 44 C dX9_free_35 (by decide) ?_ ?_
      ·
        refine j_iinc (pc := 44) 3 (x3 + 1) [(3, .int (x3 + 1)), (0, .ref (gA G 0)), (1, .int x1), (2, .int x2)] C dX9_free_44 rfl rfl (Nat.le_of_ble_eq_true rfl) rfl ?_
        refine j_goto (pc := 47) 14 C dX9_free_47 (by decide) ?_
        refine j_sub [1, 2, 3, 0] rfl ?_
        exact ih x1 x2 (x3 + 1) T1
      ·
        refine j_iload_n (pc := 38) 2 C dX9_free_38 rfl rfl ?_
        refine j_iconst (pc := 39) 1 C dX9_free_39 (by decide) ?_
        refine j_iload_n (pc := 40) 3 C dX9_free_40 rfl rfl ?_
        refine j_ishl (pc := 41) C dX9_free_41 ?_
        refine j_ior (pc := 42) C dX9_free_42 ?_
        refine j_nxI (fun v3 => ?_)
        refine j_istore_n (pc := 43) [(2, .int v3), (0, .ref (gA G 0)), (1, .int x1), (3, .int x3)] C dX9_free_43 rfl (Nat.le_of_ble_eq_true rfl) rfl ?_
        refine j_iinc (pc := 44) 3 (x3 + 1) [(3, .int (x3 + 1)), (2, .int v3), (0, .ref (gA G 0)), (1, .int x1)] C dX9_free_44 rfl rfl (Nat.le_of_ble_eq_true rfl) rfl ?_
        refine j_goto (pc := 47) 14 C dX9_free_47 (by decide) ?_
        refine j_sub [2, 3, 1, 0] rfl ?_
        exact ih x1 v3 (x3 + 1) T1
theorem bC_Main_free {E : Ec} {G : Gc}    (C : JC E (VC G 4 0 0 RX9) cX9_free 2 (some .int))     (S : St) : J E (VC G 4 0 0 RX9) 0 0 0 [(0, .ref (gA G 0))] [] S (fC_Main_free   S) := by
  unfold fC_Main_free
  refine j_aload_n (pc := 0) 0 C dX9_free_0 rfl rfl ?_
  refine gC_0_8 (pc := 1) C dX9_free_1 q_171 ?_
  refine j_callI0 (pc := 4) C (rC_State_paidBits_9 C dX9_free_4 q_475 (by omega) (Nat.le_of_ble_eq_true rfl) ⟨Nat.le_of_ble_eq_true rfl, Nat.le_of_ble_eq_true rfl⟩) ⟨Nat.le_of_ble_eq_true rfl, Nat.le_of_ble_eq_true rfl⟩ (fun r2 T1 => ?_)
  refine j_iconst (pc := 7) (-1) C dX9_free_7 (by decide) ?_
  refine j_ixor (pc := 8) C dX9_free_8 ?_
  refine j_nxI (fun v3 => ?_)
  refine j_istore_n (pc := 9) [(1, .int v3), (0, .ref (gA G 0))] C dX9_free_9 rfl (Nat.le_of_ble_eq_true rfl) rfl ?_
  refine j_iconst (pc := 10) 0 C dX9_free_10 (by decide) ?_
  refine j_istore_n (pc := 11) [(2, .int 0), (1, .int v3), (0, .ref (gA G 0))] C dX9_free_11 rfl (Nat.le_of_ble_eq_true rfl) rfl ?_
  refine j_iconst (pc := 12) 0 C dX9_free_12 (by decide) ?_
  refine j_istore_n (pc := 13) [(3, .int 0), (2, .int 0), (1, .int v3), (0, .ref (gA G 0))] C dX9_free_13 rfl (Nat.le_of_ble_eq_true rfl) rfl ?_
  refine j_sub [3, 2, 1, 0] rfl ?_
  exact bC_Main_free_14 C  FU v3 0 0 T1
theorem cC_Main_free {l : Launch} {G : Gc} (hfl : l.stackTraces = false) (hW : Wok G wC 54)    (S : St) : Ct l yX9_free (Cond.code yX9_free cX9_free 4 (some .int) :: tblG) 2 0 0 G wC 54 [.ref (gA G 0)] S (fC_Main_free  S) := ct_of (own := RX9) hfl (by decide +kernel) rfl hW (Nat.le_of_ble_eq_true rfl) (fun E hE C => by subst hE; exact bC_Main_free C    S)
theorem rC_Main_free {E : Ec} {G : Gc} {nL mc ms : Nat} {own : String} {cc : ByteArray} {L : Nat} {ret : Option FieldType} {k n pc ix : Nat} {loc : List (Nat × Value)} {rest : List Value}   {S : St}  (C : JC E (VC G nL mc ms own) cc L ret) (hd : decode cc pc = .ok (.invokevirtual ix, 3)) (hq : Cond.methodLink own ix yX9_free ∈ tblG) (hL : 2 + 1 ≤ L) (hW : (rest.map fun v => v.category).sum ≤ 8) (hf : k + 0 ≤ mc ∧ n + 0 ≤ ms) : Rn E (VC G nL mc ms own) k n 0 0 pc loc (.ref (gA G 0) :: rest) rest S (fC_Main_free  S) := rn_V (ci := 9) 0 (V := VC G nL mc ms own) (As := []) (Cq := (RX9, TX9, 15)) (cC_Main_free C.flags C.wok   S) knX9_free ⟨q_737, q_738⟩ rfl rfl C hd hq hL rfl rfl hW hf

theorem knX9_partners : Kn yX9_partners cX9_partners 4 (some .int) 1 := ⟨q_740, q_40, by decide +kernel, by decide⟩
theorem bC_Main_partners_22 {E : Ec} {G : Gc}    (C : JC E (VC G 4 1 6 RX9) cX9_partners 8 (some .int))    : ∀ (n : Nat) (x1 : Int32) (x2 : Int32) (x3 : Int32) (S : St), J E (VC G 4 1 6 RX9) 1 6 22 [(0, .ref (gA G 0)), (1, .int x1), (2, .int x2), (3, .int x3)] [] S (fC_Main_partners_22  n x1 x2 x3 S) := by
  intro n
  induction n with
  | zero => intro x1 x2 x3 S; rw [fC_Main_partners_22]; exact j_none
  | succ n ih =>
    intro x1 x2 x3 S
    rw [fC_Main_partners_22]
    refine j_iload_n (pc := 22) 3 C dX9_partners_22 rfl rfl ?_
    refine j_aload_n (pc := 23) 0 C dX9_partners_23 rfl rfl ?_
    refine gC_0_1 (pc := 24) C dX9_partners_24 q_148 ?_
    refine gC_2_1 (pc := 27) C dX9_partners_27 q_467 ?_
    refine j_icmp_ge (pc := 30) 70 C dX9_partners_30 (by decide) ?_ ?_
    ·
      refine j_iload_n (pc := 70) 2 C dX9_partners_70 rfl rfl ?_
      exact j_iret C dX9_partners_71 rfl (Nat.le_of_ble_eq_true rfl) (Nat.le_of_ble_eq_true rfl)
    ·
      refine j_iload_n (pc := 33) 3 C dX9_partners_33 rfl rfl ?_
      refine j_aload_n (pc := 34) 0 C dX9_partners_34 rfl rfl ?_
      refine gC_0_1 (pc := 35) C dX9_partners_35 q_148 ?_
      refine gC_2_8 (pc := 38) C dX9_partners_38 q_561 ?_
      refine j_iload_n (pc := 41) 1 C dX9_partners_41 rfl rfl ?_
      refine aC_19 (pc := 42) C dX9_partners_42 ?_
      refine j_icmp_eq (pc := 43) 64 C dX9_partners_43 (by decide) ?_ ?_
      ·
        refine j_iinc (pc := 64) 3 (x3 + 1) [(3, .int (x3 + 1)), (0, .ref (gA G 0)), (1, .int x1), (2, .int x2)] C dX9_partners_64 rfl rfl (Nat.le_of_ble_eq_true rfl) rfl ?_
        refine j_goto (pc := 67) 22 C dX9_partners_67 (by decide) ?_
        refine j_sub [1, 2, 3, 0] rfl ?_
        exact ih x1 x2 (x3 + 1) S
      ·
        refine j_aload_n (pc := 46) 0 C dX9_partners_46 rfl rfl ?_
        refine gC_0_8 (pc := 47) C dX9_partners_47 q_171 ?_
        refine j_iload_n (pc := 50) 1 C dX9_partners_50 rfl rfl ?_
        refine j_iload_n (pc := 51) 3 C dX9_partners_51 rfl rfl ?_
        refine j_callI0 (pc := 52) C (rC_State_isSungBy_9 C dX9_partners_52 q_739 (by omega) (Nat.le_of_ble_eq_true rfl) ⟨Nat.le_of_ble_eq_true rfl, Nat.le_of_ble_eq_true rfl⟩) ⟨Nat.le_of_ble_eq_true rfl, Nat.le_of_ble_eq_true rfl⟩ (fun r2 T1 => ?_)
        refine j_if_eq (pc := 55) 64 C dX9_partners_55 (by decide) ?_ ?_
        ·
          refine j_iinc (pc := 64) 3 (x3 + 1) [(3, .int (x3 + 1)), (0, .ref (gA G 0)), (1, .int x1), (2, .int x2)] C dX9_partners_64 rfl rfl (Nat.le_of_ble_eq_true rfl) rfl ?_
          refine j_goto (pc := 67) 22 C dX9_partners_67 (by decide) ?_
          refine j_sub [1, 2, 3, 0] rfl ?_
          exact ih x1 x2 (x3 + 1) T1
        ·
          refine j_iload_n (pc := 58) 2 C dX9_partners_58 rfl rfl ?_
          refine j_iconst (pc := 59) 1 C dX9_partners_59 (by decide) ?_
          refine j_iload_n (pc := 60) 3 C dX9_partners_60 rfl rfl ?_
          refine j_ishl (pc := 61) C dX9_partners_61 ?_
          refine j_ior (pc := 62) C dX9_partners_62 ?_
          refine j_nxI (fun v3 => ?_)
          refine j_istore_n (pc := 63) [(2, .int v3), (0, .ref (gA G 0)), (1, .int x1), (3, .int x3)] C dX9_partners_63 rfl (Nat.le_of_ble_eq_true rfl) rfl ?_
          refine j_iinc (pc := 64) 3 (x3 + 1) [(3, .int (x3 + 1)), (2, .int v3), (0, .ref (gA G 0)), (1, .int x1)] C dX9_partners_64 rfl rfl (Nat.le_of_ble_eq_true rfl) rfl ?_
          refine j_goto (pc := 67) 22 C dX9_partners_67 (by decide) ?_
          refine j_sub [2, 3, 1, 0] rfl ?_
          exact ih x1 v3 (x3 + 1) T1
theorem bC_Main_partners {E : Ec} {G : Gc}    (C : JC E (VC G 4 1 6 RX9) cX9_partners 8 (some .int))    (x1 : Int32) (S : St) : J E (VC G 4 1 6 RX9) 0 0 0 [(0, .ref (gA G 0)), (1, .int x1)] [] S (fC_Main_partners  x1 S) := by
  unfold fC_Main_partners
  refine j_aload_n (pc := 0) 0 C dX9_partners_0 rfl rfl ?_
  refine j_iload_n (pc := 1) 1 C dX9_partners_1 rfl rfl ?_
  refine j_callv (pc := 2) C (rC_Main_needDebt C dX9_partners_2 q_560 (by omega) (Nat.le_of_ble_eq_true rfl) ⟨Nat.le_of_ble_eq_true rfl, Nat.le_of_ble_eq_true rfl⟩) ⟨Nat.le_of_ble_eq_true rfl, Nat.le_of_ble_eq_true rfl⟩ (fun T1 => ?_)
  refine j_aload_n (pc := 5) 0 C dX9_partners_5 rfl rfl ?_
  refine gC_0_8 (pc := 6) C dX9_partners_6 q_171 ?_
  refine j_iload_n (pc := 9) 1 C dX9_partners_9 rfl rfl ?_
  refine j_callI0 (pc := 10) C (rC_State_isPaid_9 C dX9_partners_10 q_565 (by omega) (Nat.le_of_ble_eq_true rfl) ⟨Nat.le_of_ble_eq_true rfl, Nat.le_of_ble_eq_true rfl⟩) ⟨Nat.le_of_ble_eq_true rfl, Nat.le_of_ble_eq_true rfl⟩ (fun r4 T3 => ?_)
  refine j_if_eq (pc := 13) 18 C dX9_partners_13 (by decide) ?_ ?_
  ·
    refine j_iconst (pc := 18) 0 C dX9_partners_18 (by decide) ?_
    refine j_istore_n (pc := 19) [(2, .int 0), (0, .ref (gA G 0)), (1, .int x1)] C dX9_partners_19 rfl (Nat.le_of_ble_eq_true rfl) rfl ?_
    refine j_iconst (pc := 20) 0 C dX9_partners_20 (by decide) ?_
    refine j_istore_n (pc := 21) [(3, .int 0), (2, .int 0), (0, .ref (gA G 0)), (1, .int x1)] C dX9_partners_21 rfl (Nat.le_of_ble_eq_true rfl) rfl ?_
    refine j_sub [2, 3, 1, 0] rfl ?_
    exact bC_Main_partners_22 C  FU x1 0 0 T3
  ·
    refine j_iconst (pc := 16) 0 C dX9_partners_16 (by decide) ?_
    exact j_iret C dX9_partners_17 rfl (Nat.le_of_ble_eq_true rfl) (Nat.le_of_ble_eq_true rfl)
theorem cC_Main_partners {l : Launch} {G : Gc} (hfl : l.stackTraces = false) (hW : Wok G wC 54)   (x1 : Int32) (S : St) : Ct l yX9_partners (Cond.code yX9_partners cX9_partners 4 (some .int) :: tblG) 8 1 6 G wC 54 [.ref (gA G 0), .int x1] S (fC_Main_partners x1 S) := ct_of (own := RX9) hfl (by decide +kernel) rfl hW (Nat.le_of_ble_eq_true rfl) (fun E hE C => by subst hE; exact bC_Main_partners C   x1 S)
theorem rC_Main_partners {E : Ec} {G : Gc} {nL mc ms : Nat} {own : String} {cc : ByteArray} {L : Nat} {ret : Option FieldType} {k n pc ix : Nat} {loc : List (Nat × Value)} {rest : List Value}  {x1 : Int32} {S : St}  (C : JC E (VC G nL mc ms own) cc L ret) (hd : decode cc pc = .ok (.invokevirtual ix, 3)) (hq : Cond.methodLink own ix yX9_partners ∈ tblG) (hL : 8 + 1 ≤ L) (hW : (rest.map fun v => v.category).sum ≤ 8) (hf : k + 1 ≤ mc ∧ n + 6 ≤ ms) : Rn E (VC G nL mc ms own) k n 1 6 pc loc (.int x1 :: .ref (gA G 0) :: rest) rest S (fC_Main_partners x1 S) := rn_V (ci := 9) 0 (V := VC G nL mc ms own) (As := [.int x1]) (Cq := (RX9, TX9, 15)) (cC_Main_partners C.flags C.wok  x1 S) knX9_partners ⟨q_741, q_742⟩ rfl rfl C hd hq hL rfl rfl hW hf

theorem bC_State_linesKnown_13 {E : Ec} {G : Gc}    (C : JC E (VC G 3 0 0 RX5) cX5_linesKnown 2 (some .int))    (x1 : Int32) (x2 : Int32) (S : St) : J E (VC G 3 0 0 RX5) 0 0 0 [(0, .ref (gA G 13)), (1, .int x1), (2, .int x2)] [] S (fC_State_linesKnown_13  x1 x2 S) := by
  unfold fC_State_linesKnown_13
  refine j_aload_n (pc := 0) 0 C dX5_linesKnown_0 rfl rfl ?_
  refine gC_13_0 (pc := 1) C dX5_linesKnown_1 q_172 ?_
  refine j_iload_n (pc := 4) 1 C dX5_linesKnown_4 rfl rfl ?_
  refine j_iload_n (pc := 5) 2 C dX5_linesKnown_5 rfl rfl ?_
  refine j_callI0 (pc := 6) C (rC_State_place C dX5_linesKnown_6 q_315 (by omega) (Nat.le_of_ble_eq_true rfl) ⟨Nat.le_of_ble_eq_true rfl, Nat.le_of_ble_eq_true rfl⟩) ⟨Nat.le_of_ble_eq_true rfl, Nat.le_of_ble_eq_true rfl⟩ (fun r2 T1 => ?_)
  refine aC_52 (pc := 9) C dX5_linesKnown_9 ?_
  exact j_iret C dX5_linesKnown_10 rfl (Nat.le_of_ble_eq_true rfl) (Nat.le_of_ble_eq_true rfl)
theorem cC_State_linesKnown_13 {l : Launch} {G : Gc} (hfl : l.stackTraces = false) (hW : Wok G wC 54)   (x1 : Int32) (x2 : Int32) (S : St) : Ct l yX5_linesKnown (Cond.code yX5_linesKnown cX5_linesKnown 3 (some .int) :: tblG) 2 0 0 G wC 54 [.ref (gA G 13), .int x1, .int x2] S (fC_State_linesKnown_13 x1 x2 S) := ct_of (own := RX5) hfl (by decide +kernel) rfl hW (Nat.le_of_ble_eq_true rfl) (fun E hE C => by subst hE; exact bC_State_linesKnown_13 C   x1 x2 S)
theorem rC_State_linesKnown_13 {E : Ec} {G : Gc} {nL mc ms : Nat} {own : String} {cc : ByteArray} {L : Nat} {ret : Option FieldType} {k n pc ix : Nat} {loc : List (Nat × Value)} {rest : List Value}  {x1 : Int32} {x2 : Int32} {S : St}  (C : JC E (VC G nL mc ms own) cc L ret) (hd : decode cc pc = .ok (.invokevirtual ix, 3)) (hq : Cond.methodLink own ix yX5_linesKnown ∈ tblG) (hL : 2 + 1 ≤ L) (hW : (rest.map fun v => v.category).sum ≤ 8) (hf : k + 0 ≤ mc ∧ n + 0 ≤ ms) : Rn E (VC G nL mc ms own) k n 0 0 pc loc (.int x2 :: .int x1 :: .ref (gA G 13) :: rest) rest S (fC_State_linesKnown_13 x1 x2 S) := rn_V (ci := 5) 13 (V := VC G nL mc ms own) (As := [.int x1, .int x2]) (Cq := (RX5, TX5, 3)) (cC_State_linesKnown_13 C.flags C.wok  x1 x2 S) knX5_linesKnown ⟨q_575, q_576⟩ rfl rfl C hd hq hL rfl rfl hW hf

theorem knX9_fades : Kn yX9_fades cX9_fades 3 (some .int) 2 := ⟨q_743, q_40, by decide +kernel, by decide⟩
theorem bC_Main_fades {E : Ec} {G : Gc}    (C : JC E (VC G 3 2 12 RX9) cX9_fades 8 (some .int))    (x1 : Int32) (x2 : Int32) (S : St) : J E (VC G 3 2 12 RX9) 0 0 0 [(0, .ref (gA G 0)), (1, .int x1), (2, .int x2)] [] S (fC_Main_fades  x1 x2 S) := by
  unfold fC_Main_fades
  refine j_aload_n (pc := 0) 0 C dX9_fades_0 rfl rfl ?_
  refine j_iload_n (pc := 1) 1 C dX9_fades_1 rfl rfl ?_
  refine j_callv (pc := 2) C (rC_Main_needMan C dX9_fades_2 q_529 (by omega) (Nat.le_of_ble_eq_true rfl) ⟨Nat.le_of_ble_eq_true rfl, Nat.le_of_ble_eq_true rfl⟩) ⟨Nat.le_of_ble_eq_true rfl, Nat.le_of_ble_eq_true rfl⟩ (fun T1 => ?_)
  refine j_aload_n (pc := 5) 0 C dX9_fades_5 rfl rfl ?_
  refine j_iload_n (pc := 6) 2 C dX9_fades_6 rfl rfl ?_
  refine j_callv (pc := 7) C (rC_Main_needPoem C dX9_fades_7 q_508 (by omega) (Nat.le_of_ble_eq_true rfl) ⟨Nat.le_of_ble_eq_true rfl, Nat.le_of_ble_eq_true rfl⟩) ⟨Nat.le_of_ble_eq_true rfl, Nat.le_of_ble_eq_true rfl⟩ (fun T3 => ?_)
  refine j_aload_n (pc := 10) 0 C dX9_fades_10 rfl rfl ?_
  refine gC_0_8 (pc := 11) C dX9_fades_11 q_171 ?_
  refine j_iload_n (pc := 14) 1 C dX9_fades_14 rfl rfl ?_
  refine j_iload_n (pc := 15) 2 C dX9_fades_15 rfl rfl ?_
  refine j_callI0 (pc := 16) C (rC_State_linesKnown_9 C dX9_fades_16 q_577 (by omega) (Nat.le_of_ble_eq_true rfl) ⟨Nat.le_of_ble_eq_true rfl, Nat.le_of_ble_eq_true rfl⟩) ⟨Nat.le_of_ble_eq_true rfl, Nat.le_of_ble_eq_true rfl⟩ (fun r6 T5 => ?_)
  refine j_aload_n (pc := 19) 0 C dX9_fades_19 rfl rfl ?_
  refine gC_0_10 (pc := 20) C dX9_fades_20 q_591 ?_
  refine j_iconst (pc := 23) 1 C dX9_fades_23 (by decide) ?_
  refine j_callR0 (pc := 24) C (rC_Outlook_afterWeeks C dX9_fades_24 q_606 (by omega) (Nat.le_of_ble_eq_true rfl) ⟨Nat.le_of_ble_eq_true rfl, Nat.le_of_ble_eq_true rfl⟩) ⟨Nat.le_of_ble_eq_true rfl, Nat.le_of_ble_eq_true rfl⟩ (fun T7 => ?_)
  refine j_iload_n (pc := 27) 1 C dX9_fades_27 rfl rfl ?_
  refine j_iload_n (pc := 28) 2 C dX9_fades_28 rfl rfl ?_
  refine j_callI0 (pc := 29) C (rC_State_linesKnown_13 C dX9_fades_29 q_577 (by omega) (Nat.le_of_ble_eq_true rfl) ⟨Nat.le_of_ble_eq_true rfl, Nat.le_of_ble_eq_true rfl⟩) ⟨Nat.le_of_ble_eq_true rfl, Nat.le_of_ble_eq_true rfl⟩ (fun r10 T9 => ?_)
  refine j_isub (pc := 32) C dX9_fades_32 ?_
  exact j_iret C dX9_fades_33 rfl (Nat.le_of_ble_eq_true rfl) (Nat.le_of_ble_eq_true rfl)
theorem cC_Main_fades {l : Launch} {G : Gc} (hfl : l.stackTraces = false) (hW : Wok G wC 54)   (x1 : Int32) (x2 : Int32) (S : St) : Ct l yX9_fades (Cond.code yX9_fades cX9_fades 3 (some .int) :: tblG) 8 2 12 G wC 54 [.ref (gA G 0), .int x1, .int x2] S (fC_Main_fades x1 x2 S) := ct_of (own := RX9) hfl (by decide +kernel) rfl hW (Nat.le_of_ble_eq_true rfl) (fun E hE C => by subst hE; exact bC_Main_fades C   x1 x2 S)
theorem rC_Main_fades {E : Ec} {G : Gc} {nL mc ms : Nat} {own : String} {cc : ByteArray} {L : Nat} {ret : Option FieldType} {k n pc ix : Nat} {loc : List (Nat × Value)} {rest : List Value}  {x1 : Int32} {x2 : Int32} {S : St}  (C : JC E (VC G nL mc ms own) cc L ret) (hd : decode cc pc = .ok (.invokevirtual ix, 3)) (hq : Cond.methodLink own ix yX9_fades ∈ tblG) (hL : 8 + 1 ≤ L) (hW : (rest.map fun v => v.category).sum ≤ 8) (hf : k + 2 ≤ mc ∧ n + 12 ≤ ms) : Rn E (VC G nL mc ms own) k n 2 12 pc loc (.int x2 :: .int x1 :: .ref (gA G 0) :: rest) rest S (fC_Main_fades x1 x2 S) := rn_V (ci := 9) 0 (V := VC G nL mc ms own) (As := [.int x1, .int x2]) (Cq := (RX9, TX9, 15)) (cC_Main_fades C.flags C.wok  x1 x2 S) knX9_fades ⟨q_744, q_745⟩ rfl rfl C hd hq hL rfl rfl hW hf

theorem knX9_next : Kn yX9_next cX9_next 5 (some .int) 1 := ⟨q_746, q_40, by decide +kernel, by decide⟩
theorem bC_Main_next_60 {E : Ec} {G : Gc}   {K17 : Int32 → Int32 → Int32 → Int32 → St → Oz} (C : JC E (VC G 5 1 6 RX9) cX9_next 8 (some .int))   (hK17 : ∀ (x1 : Int32) (x2 : Int32) (x3 : Int32) (x4 : Int32) (S : St), J E (VC G 5 1 6 RX9) 1 6 17 [(0, .ref (gA G 0)), (1, .int x1), (2, .int x2), (3, .int x3), (4, .int x4)] [] S (K17 x1 x2 x3 x4 S)) (x1 : Int32) (x4 : Int32) (S : St) : J E (VC G 5 1 6 RX9) 1 6 60 [(0, .ref (gA G 0)), (1, .int x1), (4, .int x4)] [] S (fC_Main_next_60 K17 x1 x4 S) := by
  unfold fC_Main_next_60
  refine j_iload (pc := 60) 2 C dX9_next_60 rfl ?_
  refine j_istore_n (pc := 62) [(2, .int x4), (0, .ref (gA G 0)), (1, .int x1), (4, .int x4)] C dX9_next_62 rfl (Nat.le_of_ble_eq_true rfl) rfl ?_
  refine j_aload_n (pc := 63) 1 C dX9_next_63 rfl rfl ?_
  refine gC_0_1 (pc := 64) C dX9_next_64 q_148 ?_
  refine gC_2_11 (pc := 67) C dX9_next_67 q_564 ?_
  refine j_iload (pc := 70) 3 C dX9_next_70 rfl ?_
  refine aC_22 (pc := 72) C dX9_next_72 ?_
  refine j_nxI (fun v1 => ?_)
  refine j_istore_n (pc := 73) [(3, .int v1), (2, .int x4), (0, .ref (gA G 0)), (1, .int x1), (4, .int x4)] C dX9_next_73 rfl (Nat.le_of_ble_eq_true rfl) rfl ?_
  refine j_iinc (pc := 74) 4 (x4 + 1) [(4, .int (x4 + 1)), (3, .int v1), (2, .int x4), (0, .ref (gA G 0)), (1, .int x1)] C dX9_next_74 rfl rfl (Nat.le_of_ble_eq_true rfl) rfl ?_
  refine j_goto (pc := 77) 17 C dX9_next_77 (by decide) ?_
  refine j_sub [3, 4, 2, 1, 0] rfl ?_
  exact hK17 x1 x4 v1 (x4 + 1) S
theorem bC_Main_next_17 {E : Ec} {G : Gc}    (C : JC E (VC G 5 1 6 RX9) cX9_next 8 (some .int))    : ∀ (n : Nat) (x1 : Int32) (x2 : Int32) (x3 : Int32) (x4 : Int32) (S : St), J E (VC G 5 1 6 RX9) 1 6 17 [(0, .ref (gA G 0)), (1, .int x1), (2, .int x2), (3, .int x3), (4, .int x4)] [] S (fC_Main_next_17  n x1 x2 x3 x4 S) := by
  intro n
  induction n with
  | zero => intro x1 x2 x3 x4 S; rw [fC_Main_next_17]; exact j_none
  | succ n ih =>
    intro x1 x2 x3 x4 S
    rw [fC_Main_next_17]
    refine j_iload (pc := 17) 4 C dX9_next_17 rfl ?_
    refine j_aload_n (pc := 19) 0 C dX9_next_19 rfl rfl ?_
    refine gC_0_1 (pc := 20) C dX9_next_20 q_148 ?_
    refine gC_2_2 (pc := 23) C dX9_next_23 q_187 ?_
    refine j_icmp_ge (pc := 26) 80 C dX9_next_26 (by decide) ?_ ?_
    ·
      refine j_iload_n (pc := 80) 1 C dX9_next_80 rfl rfl ?_
      refine j_if_ne (pc := 81) 88 C dX9_next_81 (by decide) ?_ ?_
      ·
        refine j_iload_n (pc := 88) 3 C dX9_next_88 rfl rfl ?_
        exact j_iret C dX9_next_89 rfl (Nat.le_of_ble_eq_true rfl) (Nat.le_of_ble_eq_true rfl)
      ·
        refine j_iload_n (pc := 84) 2 C dX9_next_84 rfl rfl ?_
        refine j_goto (pc := 85) 89 C dX9_next_85 (by decide) ?_
        exact j_iret C dX9_next_89 rfl (Nat.le_of_ble_eq_true rfl) (Nat.le_of_ble_eq_true rfl)
    ·
      refine j_aload_n (pc := 29) 0 C dX9_next_29 rfl rfl ?_
      refine gC_0_8 (pc := 30) C dX9_next_30 q_171 ?_
      refine j_iload (pc := 33) 4 C dX9_next_33 rfl ?_
      refine j_callI0 (pc := 35) C (rC_State_isPaid_9 C dX9_next_35 q_565 (by omega) (Nat.le_of_ble_eq_true rfl) ⟨Nat.le_of_ble_eq_true rfl, Nat.le_of_ble_eq_true rfl⟩) ⟨Nat.le_of_ble_eq_true rfl, Nat.le_of_ble_eq_true rfl⟩ (fun r2 T1 => ?_)
      refine j_if_ne (pc := 38) 74 C dX9_next_38 (by decide) ?_ ?_
      ·
        refine j_iinc (pc := 74) 4 (x4 + 1) [(4, .int (x4 + 1)), (0, .ref (gA G 0)), (1, .int x1), (2, .int x2), (3, .int x3)] C dX9_next_74 rfl rfl (Nat.le_of_ble_eq_true rfl) rfl ?_
        refine j_goto (pc := 77) 17 C dX9_next_77 (by decide) ?_
        refine j_sub [1, 2, 3, 4, 0] rfl ?_
        exact ih x1 x2 x3 (x4 + 1) T1
      ·
        refine j_iload_n (pc := 41) 2 C dX9_next_41 rfl rfl ?_
        refine j_iconst (pc := 42) (-1) C dX9_next_42 (by decide) ?_
        refine j_icmp_eq (pc := 43) 60 C dX9_next_43 (by decide) ?_ ?_
        ·
          refine j_sub [0, 1, 4] rfl ?_
          exact bC_Main_next_60 C ih x1 x4 T1
        ·
          refine j_aload_n (pc := 46) 0 C dX9_next_46 rfl rfl ?_
          refine gC_0_1 (pc := 47) C dX9_next_47 q_148 ?_
          refine gC_2_11 (pc := 50) C dX9_next_50 q_564 ?_
          refine j_iload (pc := 53) 4 C dX9_next_53 rfl ?_
          refine aC_22 (pc := 55) C dX9_next_55 ?_
          refine j_iload_n (pc := 56) 3 C dX9_next_56 rfl rfl ?_
          refine j_icmp_ge (pc := 57) 74 C dX9_next_57 (by decide) ?_ ?_
          ·
            refine j_iinc (pc := 74) 4 (x4 + 1) [(4, .int (x4 + 1)), (0, .ref (gA G 0)), (1, .int x1), (2, .int x2), (3, .int x3)] C dX9_next_74 rfl rfl (Nat.le_of_ble_eq_true rfl) rfl ?_
            refine j_goto (pc := 77) 17 C dX9_next_77 (by decide) ?_
            refine j_sub [1, 2, 3, 4, 0] rfl ?_
            exact ih x1 x2 x3 (x4 + 1) T1
          ·
            refine j_sub [0, 1, 4] rfl ?_
            exact bC_Main_next_60 C ih x1 x4 T1
theorem bC_Main_next {E : Ec} {G : Gc}    (C : JC E (VC G 5 1 6 RX9) cX9_next 8 (some .int))    (x1 : Int32) (S : St) : J E (VC G 5 1 6 RX9) 0 0 0 [(0, .ref (gA G 0)), (1, .int x1)] [] S (fC_Main_next  x1 S) := by
  unfold fC_Main_next
  refine j_aload_n (pc := 0) 0 C dX9_next_0 rfl rfl ?_
  refine j_iload_n (pc := 1) 1 C dX9_next_1 rfl rfl ?_
  refine j_iconst (pc := 2) 0 C dX9_next_2 (by decide) ?_
  refine j_iconst (pc := 3) 1 C dX9_next_3 (by decide) ?_
  refine j_callI0 (pc := 4) C (rC_Main_isWithin C dX9_next_4 q_49 (by omega) (Nat.le_of_ble_eq_true rfl) ⟨Nat.le_of_ble_eq_true rfl, Nat.le_of_ble_eq_true rfl⟩) ⟨Nat.le_of_ble_eq_true rfl, Nat.le_of_ble_eq_true rfl⟩ (fun r2 T1 => ?_)
  refine j_callv (pc := 7) C (rC_Main_need C dX9_next_7 q_60 (by omega) (Nat.le_of_ble_eq_true rfl) ⟨Nat.le_of_ble_eq_true rfl, Nat.le_of_ble_eq_true rfl⟩) ⟨Nat.le_of_ble_eq_true rfl, Nat.le_of_ble_eq_true rfl⟩ (fun T3 => ?_)
  refine j_iconst (pc := 10) (-1) C dX9_next_10 (by decide) ?_
  refine j_istore_n (pc := 11) [(2, .int (-1)), (0, .ref (gA G 0)), (1, .int x1)] C dX9_next_11 rfl (Nat.le_of_ble_eq_true rfl) rfl ?_
  refine j_iconst (pc := 12) (-1) C dX9_next_12 (by decide) ?_
  refine j_istore_n (pc := 13) [(3, .int (-1)), (2, .int (-1)), (0, .ref (gA G 0)), (1, .int x1)] C dX9_next_13 rfl (Nat.le_of_ble_eq_true rfl) rfl ?_
  refine j_iconst (pc := 14) 0 C dX9_next_14 (by decide) ?_
  refine j_istore (pc := 15) [(4, .int 0), (3, .int (-1)), (2, .int (-1)), (0, .ref (gA G 0)), (1, .int x1)] C dX9_next_15 (Nat.le_of_ble_eq_true rfl) rfl ?_
  refine j_sub [3, 4, 2, 1, 0] rfl ?_
  exact bC_Main_next_17 C  FU x1 (-1) (-1) 0 T3
theorem cC_Main_next {l : Launch} {G : Gc} (hfl : l.stackTraces = false) (hW : Wok G wC 54)   (x1 : Int32) (S : St) : Ct l yX9_next (Cond.code yX9_next cX9_next 5 (some .int) :: tblG) 8 1 6 G wC 54 [.ref (gA G 0), .int x1] S (fC_Main_next x1 S) := ct_of (own := RX9) hfl (by decide +kernel) rfl hW (Nat.le_of_ble_eq_true rfl) (fun E hE C => by subst hE; exact bC_Main_next C   x1 S)
theorem rC_Main_next {E : Ec} {G : Gc} {nL mc ms : Nat} {own : String} {cc : ByteArray} {L : Nat} {ret : Option FieldType} {k n pc ix : Nat} {loc : List (Nat × Value)} {rest : List Value}  {x1 : Int32} {S : St}  (C : JC E (VC G nL mc ms own) cc L ret) (hd : decode cc pc = .ok (.invokevirtual ix, 3)) (hq : Cond.methodLink own ix yX9_next ∈ tblG) (hL : 8 + 1 ≤ L) (hW : (rest.map fun v => v.category).sum ≤ 8) (hf : k + 1 ≤ mc ∧ n + 6 ≤ ms) : Rn E (VC G nL mc ms own) k n 1 6 pc loc (.int x1 :: .ref (gA G 0) :: rest) rest S (fC_Main_next x1 S) := rn_V (ci := 9) 0 (V := VC G nL mc ms own) (As := [.int x1]) (Cq := (RX9, TX9, 15)) (cC_Main_next C.flags C.wok  x1 S) knX9_next ⟨q_747, q_748⟩ rfl rfl C hd hq hL rfl rfl hW hf

theorem knX9_gains : Kn yX9_gains cX9_gains 3 (some .int) 2 := ⟨q_749, q_40, by decide +kernel, by decide⟩
theorem bC_Main_gains {E : Ec} {G : Gc}    (C : JC E (VC G 3 2 12 RX9) cX9_gains 8 (some .int))    (x1 : Int32) (x2 : Int32) (S : St) : J E (VC G 3 2 12 RX9) 0 0 0 [(0, .ref (gA G 0)), (1, .int x1), (2, .int x2)] [] S (fC_Main_gains  x1 x2 S) := by
  unfold fC_Main_gains
  refine j_aload_n (pc := 0) 0 C dX9_gains_0 rfl rfl ?_
  refine j_iload_n (pc := 1) 1 C dX9_gains_1 rfl rfl ?_
  refine j_callv (pc := 2) C (rC_Main_needMan C dX9_gains_2 q_529 (by omega) (Nat.le_of_ble_eq_true rfl) ⟨Nat.le_of_ble_eq_true rfl, Nat.le_of_ble_eq_true rfl⟩) ⟨Nat.le_of_ble_eq_true rfl, Nat.le_of_ble_eq_true rfl⟩ (fun T1 => ?_)
  refine j_aload_n (pc := 5) 0 C dX9_gains_5 rfl rfl ?_
  refine j_iload_n (pc := 6) 2 C dX9_gains_6 rfl rfl ?_
  refine j_callv (pc := 7) C (rC_Main_needPoem C dX9_gains_7 q_508 (by omega) (Nat.le_of_ble_eq_true rfl) ⟨Nat.le_of_ble_eq_true rfl, Nat.le_of_ble_eq_true rfl⟩) ⟨Nat.le_of_ble_eq_true rfl, Nat.le_of_ble_eq_true rfl⟩ (fun T3 => ?_)
  refine j_aload_n (pc := 10) 0 C dX9_gains_10 rfl rfl ?_
  refine gC_0_8 (pc := 11) C dX9_gains_11 q_171 ?_
  refine j_iload_n (pc := 14) 1 C dX9_gains_14 rfl rfl ?_
  refine j_iload_n (pc := 15) 2 C dX9_gains_15 rfl rfl ?_
  refine j_callI0 (pc := 16) C (rC_State_gainOf_9 C dX9_gains_16 q_695 (by omega) (Nat.le_of_ble_eq_true rfl) ⟨Nat.le_of_ble_eq_true rfl, Nat.le_of_ble_eq_true rfl⟩) ⟨Nat.le_of_ble_eq_true rfl, Nat.le_of_ble_eq_true rfl⟩ (fun r6 T5 => ?_)
  exact j_iret C dX9_gains_19 rfl (Nat.le_of_ble_eq_true rfl) (Nat.le_of_ble_eq_true rfl)
theorem cC_Main_gains {l : Launch} {G : Gc} (hfl : l.stackTraces = false) (hW : Wok G wC 54)   (x1 : Int32) (x2 : Int32) (S : St) : Ct l yX9_gains (Cond.code yX9_gains cX9_gains 3 (some .int) :: tblG) 8 2 12 G wC 54 [.ref (gA G 0), .int x1, .int x2] S (fC_Main_gains x1 x2 S) := ct_of (own := RX9) hfl (by decide +kernel) rfl hW (Nat.le_of_ble_eq_true rfl) (fun E hE C => by subst hE; exact bC_Main_gains C   x1 x2 S)
theorem rC_Main_gains {E : Ec} {G : Gc} {nL mc ms : Nat} {own : String} {cc : ByteArray} {L : Nat} {ret : Option FieldType} {k n pc ix : Nat} {loc : List (Nat × Value)} {rest : List Value}  {x1 : Int32} {x2 : Int32} {S : St}  (C : JC E (VC G nL mc ms own) cc L ret) (hd : decode cc pc = .ok (.invokevirtual ix, 3)) (hq : Cond.methodLink own ix yX9_gains ∈ tblG) (hL : 8 + 1 ≤ L) (hW : (rest.map fun v => v.category).sum ≤ 8) (hf : k + 2 ≤ mc ∧ n + 12 ≤ ms) : Rn E (VC G nL mc ms own) k n 2 12 pc loc (.int x2 :: .int x1 :: .ref (gA G 0) :: rest) rest S (fC_Main_gains x1 x2 S) := rn_V (ci := 9) 0 (V := VC G nL mc ms own) (As := [.int x1, .int x2]) (Cq := (RX9, TX9, 15)) (cC_Main_gains C.flags C.wok  x1 x2 S) knX9_gains ⟨q_750, q_751⟩ rfl rfl C hd hq hL rfl rfl hW hf

theorem knX9_closest : Kn yX9_closest cX9_closest 7 (some .int) 2 := ⟨q_752, q_40, by decide +kernel, by decide⟩
theorem bC_Main_closest_84 {E : Ec} {G : Gc}   {K23 : Int32 → Int32 → Int32 → Int32 → Int32 → St → Oz} (C : JC E (VC G 7 2 12 RX9) cX9_closest 8 (some .int))   (hK23 : ∀ (x1 : Int32) (x2 : Int32) (x3 : Int32) (x4 : Int32) (x5 : Int32) (S : St), J E (VC G 7 2 12 RX9) 2 12 23 [(0, .ref (gA G 0)), (1, .int x1), (2, .int x2), (3, .int x3), (4, .int x4), (5, .int x5)] [] S (K23 x1 x2 x3 x4 x5 S)) (x1 : Int32) (x2 : Int32) (x5 : Int32) (x6 : Int32) (S : St) : J E (VC G 7 2 12 RX9) 2 12 84 [(0, .ref (gA G 0)), (1, .int x1), (2, .int x2), (5, .int x5), (6, .int x6)] [] S (fC_Main_closest_84 K23 x1 x2 x5 x6 S) := by
  unfold fC_Main_closest_84
  refine j_iload (pc := 84) 3 C dX9_closest_84 rfl ?_
  refine j_istore_n (pc := 86) [(3, .int x5), (0, .ref (gA G 0)), (1, .int x1), (2, .int x2), (5, .int x5), (6, .int x6)] C dX9_closest_86 rfl (Nat.le_of_ble_eq_true rfl) rfl ?_
  refine j_iload (pc := 87) 5 C dX9_closest_87 rfl ?_
  refine j_istore (pc := 89) [(4, .int x6), (3, .int x5), (0, .ref (gA G 0)), (1, .int x1), (2, .int x2), (5, .int x5), (6, .int x6)] C dX9_closest_89 (Nat.le_of_ble_eq_true rfl) rfl ?_
  refine j_iinc (pc := 91) 5 (x5 + 1) [(5, .int (x5 + 1)), (4, .int x6), (3, .int x5), (0, .ref (gA G 0)), (1, .int x1), (2, .int x2), (6, .int x6)] C dX9_closest_91 rfl rfl (Nat.le_of_ble_eq_true rfl) rfl ?_
  refine j_goto (pc := 94) 23 C dX9_closest_94 (by decide) ?_
  refine j_sub [3, 4, 5, 2, 1, 0] rfl ?_
  exact hK23 x1 x2 x5 x6 (x5 + 1) S
theorem bC_Main_closest_23 {E : Ec} {G : Gc}    (C : JC E (VC G 7 2 12 RX9) cX9_closest 8 (some .int))    : ∀ (n : Nat) (x1 : Int32) (x2 : Int32) (x3 : Int32) (x4 : Int32) (x5 : Int32) (S : St), J E (VC G 7 2 12 RX9) 2 12 23 [(0, .ref (gA G 0)), (1, .int x1), (2, .int x2), (3, .int x3), (4, .int x4), (5, .int x5)] [] S (fC_Main_closest_23  n x1 x2 x3 x4 x5 S) := by
  intro n
  induction n with
  | zero => intro x1 x2 x3 x4 x5 S; rw [fC_Main_closest_23]; exact j_none
  | succ n ih =>
    intro x1 x2 x3 x4 x5 S
    rw [fC_Main_closest_23]
    refine j_iload (pc := 23) 5 C dX9_closest_23 rfl ?_
    refine j_aload_n (pc := 25) 0 C dX9_closest_25 rfl rfl ?_
    refine gC_0_1 (pc := 26) C dX9_closest_26 q_148 ?_
    refine gC_2_2 (pc := 29) C dX9_closest_29 q_187 ?_
    refine j_icmp_ge (pc := 32) 97 C dX9_closest_32 (by decide) ?_ ?_
    ·
      refine j_iload_n (pc := 97) 2 C dX9_closest_97 rfl rfl ?_
      refine j_if_ne (pc := 98) 105 C dX9_closest_98 (by decide) ?_ ?_
      ·
        refine j_iload (pc := 105) 4 C dX9_closest_105 rfl ?_
        exact j_iret C dX9_closest_107 rfl (Nat.le_of_ble_eq_true rfl) (Nat.le_of_ble_eq_true rfl)
      ·
        refine j_iload_n (pc := 101) 3 C dX9_closest_101 rfl rfl ?_
        refine j_goto (pc := 102) 107 C dX9_closest_102 (by decide) ?_
        exact j_iret C dX9_closest_107 rfl (Nat.le_of_ble_eq_true rfl) (Nat.le_of_ble_eq_true rfl)
    ·
      refine j_aload_n (pc := 35) 0 C dX9_closest_35 rfl rfl ?_
      refine gC_0_1 (pc := 36) C dX9_closest_36 q_148 ?_
      refine gC_2_8 (pc := 39) C dX9_closest_39 q_561 ?_
      refine j_iload (pc := 42) 5 C dX9_closest_42 rfl ?_
      refine aC_19 (pc := 44) C dX9_closest_44 ?_
      refine j_iload_n (pc := 45) 1 C dX9_closest_45 rfl rfl ?_
      refine j_icmp_ne (pc := 46) 91 C dX9_closest_46 (by decide) ?_ ?_
      ·
        refine j_iinc (pc := 91) 5 (x5 + 1) [(5, .int (x5 + 1)), (0, .ref (gA G 0)), (1, .int x1), (2, .int x2), (3, .int x3), (4, .int x4)] C dX9_closest_91 rfl rfl (Nat.le_of_ble_eq_true rfl) rfl ?_
        refine j_goto (pc := 94) 23 C dX9_closest_94 (by decide) ?_
        refine j_sub [1, 2, 3, 4, 5, 0] rfl ?_
        exact ih x1 x2 x3 x4 (x5 + 1) S
      ·
        refine j_aload_n (pc := 49) 0 C dX9_closest_49 rfl rfl ?_
        refine gC_0_8 (pc := 50) C dX9_closest_50 q_171 ?_
        refine j_iload (pc := 53) 5 C dX9_closest_53 rfl ?_
        refine j_callI0 (pc := 55) C (rC_State_isPaid_9 C dX9_closest_55 q_565 (by omega) (Nat.le_of_ble_eq_true rfl) ⟨Nat.le_of_ble_eq_true rfl, Nat.le_of_ble_eq_true rfl⟩) ⟨Nat.le_of_ble_eq_true rfl, Nat.le_of_ble_eq_true rfl⟩ (fun r2 T1 => ?_)
        refine j_if_ne (pc := 58) 91 C dX9_closest_58 (by decide) ?_ ?_
        ·
          refine j_iinc (pc := 91) 5 (x5 + 1) [(5, .int (x5 + 1)), (0, .ref (gA G 0)), (1, .int x1), (2, .int x2), (3, .int x3), (4, .int x4)] C dX9_closest_91 rfl rfl (Nat.le_of_ble_eq_true rfl) rfl ?_
          refine j_goto (pc := 94) 23 C dX9_closest_94 (by decide) ?_
          refine j_sub [1, 2, 3, 4, 5, 0] rfl ?_
          exact ih x1 x2 x3 x4 (x5 + 1) T1
        ·
          refine j_aload_n (pc := 61) 0 C dX9_closest_61 rfl rfl ?_
          refine gC_0_8 (pc := 62) C dX9_closest_62 q_171 ?_
          refine j_iload (pc := 65) 5 C dX9_closest_65 rfl ?_
          refine j_callI0 (pc := 67) C (rC_State_needOf_9 C dX9_closest_67 q_570 (by omega) (Nat.le_of_ble_eq_true rfl) ⟨Nat.le_of_ble_eq_true rfl, Nat.le_of_ble_eq_true rfl⟩) ⟨Nat.le_of_ble_eq_true rfl, Nat.le_of_ble_eq_true rfl⟩ (fun r4 T3 => ?_)
          refine j_istore (pc := 70) [(6, .int r4), (0, .ref (gA G 0)), (1, .int x1), (2, .int x2), (3, .int x3), (4, .int x4), (5, .int x5)] C dX9_closest_70 (Nat.le_of_ble_eq_true rfl) rfl ?_
          refine j_iload_n (pc := 72) 4 C dX9_closest_72 rfl rfl ?_
          refine j_iconst (pc := 73) (-1) C dX9_closest_73 (by decide) ?_
          refine j_icmp_eq (pc := 74) 84 C dX9_closest_74 (by decide) ?_ ?_
          ·
            refine j_sub [1, 2, 3, 6, 0] rfl ?_
            exact bC_Main_closest_84 C ih x1 x2 x5 r4 T3
          ·
            refine j_iload (pc := 77) 0 C dX9_closest_77 rfl ?_
            refine j_iload (pc := 79) 5 C dX9_closest_79 rfl ?_
            refine j_icmp_ge (pc := 81) 91 C dX9_closest_81 (by decide) ?_ ?_
            ·
              refine j_iinc (pc := 91) 6 (x5 + 1) [(5, .int (x5 + 1)), (6, .int r4), (0, .ref (gA G 0)), (1, .int x1), (2, .int x2), (3, .int x3), (4, .int x4)] C dX9_closest_91 rfl rfl (Nat.le_of_ble_eq_true rfl) rfl ?_
              refine j_goto (pc := 94) 23 C dX9_closest_94 (by decide) ?_
              refine j_sub [2, 3, 4, 5, 6, 0] rfl ?_
              exact ih x1 x2 x3 x4 (x5 + 1) T3
            ·
              refine j_sub [1, 2, 3, 6, 0] rfl ?_
              exact bC_Main_closest_84 C ih x1 x2 x5 r4 T3
theorem bC_Main_closest {E : Ec} {G : Gc}    (C : JC E (VC G 7 2 12 RX9) cX9_closest 8 (some .int))    (x1 : Int32) (x2 : Int32) (S : St) : J E (VC G 7 2 12 RX9) 0 0 0 [(0, .ref (gA G 0)), (1, .int x1), (2, .int x2)] [] S (fC_Main_closest  x1 x2 S) := by
  unfold fC_Main_closest
  refine j_aload_n (pc := 0) 0 C dX9_closest_0 rfl rfl ?_
  refine j_iload_n (pc := 1) 1 C dX9_closest_1 rfl rfl ?_
  refine j_callv (pc := 2) C (rC_Main_needMan C dX9_closest_2 q_529 (by omega) (Nat.le_of_ble_eq_true rfl) ⟨Nat.le_of_ble_eq_true rfl, Nat.le_of_ble_eq_true rfl⟩) ⟨Nat.le_of_ble_eq_true rfl, Nat.le_of_ble_eq_true rfl⟩ (fun T1 => ?_)
  refine j_aload_n (pc := 5) 0 C dX9_closest_5 rfl rfl ?_
  refine j_iload_n (pc := 6) 2 C dX9_closest_6 rfl rfl ?_
  refine j_iconst (pc := 7) 0 C dX9_closest_7 (by decide) ?_
  refine j_iconst (pc := 8) 1 C dX9_closest_8 (by decide) ?_
  refine j_callI0 (pc := 9) C (rC_Main_isWithin C dX9_closest_9 q_49 (by omega) (Nat.le_of_ble_eq_true rfl) ⟨Nat.le_of_ble_eq_true rfl, Nat.le_of_ble_eq_true rfl⟩) ⟨Nat.le_of_ble_eq_true rfl, Nat.le_of_ble_eq_true rfl⟩ (fun r4 T3 => ?_)
  refine j_callv (pc := 12) C (rC_Main_need C dX9_closest_12 q_60 (by omega) (Nat.le_of_ble_eq_true rfl) ⟨Nat.le_of_ble_eq_true rfl, Nat.le_of_ble_eq_true rfl⟩) ⟨Nat.le_of_ble_eq_true rfl, Nat.le_of_ble_eq_true rfl⟩ (fun T5 => ?_)
  refine j_iconst (pc := 15) (-1) C dX9_closest_15 (by decide) ?_
  refine j_istore_n (pc := 16) [(3, .int (-1)), (0, .ref (gA G 0)), (1, .int x1), (2, .int x2)] C dX9_closest_16 rfl (Nat.le_of_ble_eq_true rfl) rfl ?_
  refine j_iconst (pc := 17) (-1) C dX9_closest_17 (by decide) ?_
  refine j_istore (pc := 18) [(4, .int (-1)), (3, .int (-1)), (0, .ref (gA G 0)), (1, .int x1), (2, .int x2)] C dX9_closest_18 (Nat.le_of_ble_eq_true rfl) rfl ?_
  refine j_iconst (pc := 20) 0 C dX9_closest_20 (by decide) ?_
  refine j_istore (pc := 21) [(5, .int 0), (4, .int (-1)), (3, .int (-1)), (0, .ref (gA G 0)), (1, .int x1), (2, .int x2)] C dX9_closest_21 (Nat.le_of_ble_eq_true rfl) rfl ?_
  refine j_sub [3, 4, 5, 2, 1, 0] rfl ?_
  exact bC_Main_closest_23 C  FU x1 x2 (-1) (-1) 0 T5
theorem cC_Main_closest {l : Launch} {G : Gc} (hfl : l.stackTraces = false) (hW : Wok G wC 54)   (x1 : Int32) (x2 : Int32) (S : St) : Ct l yX9_closest (Cond.code yX9_closest cX9_closest 7 (some .int) :: tblG) 8 2 12 G wC 54 [.ref (gA G 0), .int x1, .int x2] S (fC_Main_closest x1 x2 S) := ct_of (own := RX9) hfl (by decide +kernel) rfl hW (Nat.le_of_ble_eq_true rfl) (fun E hE C => by subst hE; exact bC_Main_closest C   x1 x2 S)
theorem rC_Main_closest {E : Ec} {G : Gc} {nL mc ms : Nat} {own : String} {cc : ByteArray} {L : Nat} {ret : Option FieldType} {k n pc ix : Nat} {loc : List (Nat × Value)} {rest : List Value}  {x1 : Int32} {x2 : Int32} {S : St}  (C : JC E (VC G nL mc ms own) cc L ret) (hd : decode cc pc = .ok (.invokevirtual ix, 3)) (hq : Cond.methodLink own ix yX9_closest ∈ tblG) (hL : 8 + 1 ≤ L) (hW : (rest.map fun v => v.category).sum ≤ 8) (hf : k + 2 ≤ mc ∧ n + 12 ≤ ms) : Rn E (VC G nL mc ms own) k n 2 12 pc loc (.int x2 :: .int x1 :: .ref (gA G 0) :: rest) rest S (fC_Main_closest x1 x2 S) := rn_V (ci := 9) 0 (V := VC G nL mc ms own) (As := [.int x1, .int x2]) (Cq := (RX9, TX9, 15)) (cC_Main_closest C.flags C.wok  x1 x2 S) knX9_closest ⟨q_753, q_754⟩ rfl rfl C hd hq hL rfl rfl hW hf

theorem knX9_best : Kn yX9_best cX9_best 7 (some .int) 2 := ⟨q_755, q_40, by decide +kernel, by decide⟩
theorem bC_Main_best_23 {E : Ec} {G : Gc}    (C : JC E (VC G 7 2 12 RX9) cX9_best 8 (some .int))    : ∀ (n : Nat) (x1 : Int32) (x2 : Int32) (x3 : Int32) (x4 : Int32) (x5 : Int32) (S : St), J E (VC G 7 2 12 RX9) 2 12 23 [(0, .ref (gA G 0)), (1, .int x1), (2, .int x2), (3, .int x3), (4, .int x4), (5, .int x5)] [] S (fC_Main_best_23  n x1 x2 x3 x4 x5 S) := by
  intro n
  induction n with
  | zero => intro x1 x2 x3 x4 x5 S; rw [fC_Main_best_23]; exact j_none
  | succ n ih =>
    intro x1 x2 x3 x4 x5 S
    rw [fC_Main_best_23]
    refine j_iload (pc := 23) 5 C dX9_best_23 rfl ?_
    refine j_aload_n (pc := 25) 0 C dX9_best_25 rfl rfl ?_
    refine gC_0_1 (pc := 26) C dX9_best_26 q_148 ?_
    refine gC_2_1 (pc := 29) C dX9_best_29 q_467 ?_
    refine j_icmp_ge (pc := 32) 67 C dX9_best_32 (by decide) ?_ ?_
    ·
      refine j_iload_n (pc := 67) 3 C dX9_best_67 rfl rfl ?_
      refine j_iconst (pc := 68) (-1) C dX9_best_68 (by decide) ?_
      refine j_icmp_ne (pc := 69) 74 C dX9_best_69 (by decide) ?_ ?_
      ·
        refine j_iload_n (pc := 74) 2 C dX9_best_74 rfl rfl ?_
        refine j_if_ne (pc := 75) 82 C dX9_best_75 (by decide) ?_ ?_
        ·
          refine j_iload (pc := 82) 4 C dX9_best_82 rfl ?_
          exact j_iret C dX9_best_84 rfl (Nat.le_of_ble_eq_true rfl) (Nat.le_of_ble_eq_true rfl)
        ·
          refine j_iload_n (pc := 78) 3 C dX9_best_78 rfl rfl ?_
          refine j_goto (pc := 79) 84 C dX9_best_79 (by decide) ?_
          exact j_iret C dX9_best_84 rfl (Nat.le_of_ble_eq_true rfl) (Nat.le_of_ble_eq_true rfl)
      ·
        refine j_iconst (pc := 72) (-1) C dX9_best_72 (by decide) ?_
        exact j_iret C dX9_best_73 rfl (Nat.le_of_ble_eq_true rfl) (Nat.le_of_ble_eq_true rfl)
    ·
      refine j_aload_n (pc := 35) 0 C dX9_best_35 rfl rfl ?_
      refine gC_0_8 (pc := 36) C dX9_best_36 q_171 ?_
      refine j_iload (pc := 39) 5 C dX9_best_39 rfl ?_
      refine j_iload_n (pc := 41) 1 C dX9_best_41 rfl rfl ?_
      refine j_callI0 (pc := 42) C (rC_State_linesKnown_9 C dX9_best_42 q_577 (by omega) (Nat.le_of_ble_eq_true rfl) ⟨Nat.le_of_ble_eq_true rfl, Nat.le_of_ble_eq_true rfl⟩) ⟨Nat.le_of_ble_eq_true rfl, Nat.le_of_ble_eq_true rfl⟩ (fun r2 T1 => ?_)
      refine j_istore (pc := 45) [(6, .int r2), (0, .ref (gA G 0)), (1, .int x1), (2, .int x2), (3, .int x3), (4, .int x4), (5, .int x5)] C dX9_best_45 (Nat.le_of_ble_eq_true rfl) rfl ?_
      refine j_iload (pc := 47) 0 C dX9_best_47 rfl ?_
      refine j_iload (pc := 49) 5 C dX9_best_49 rfl ?_
      refine j_icmp_le (pc := 51) 61 C dX9_best_51 (by decide) ?_ ?_
      ·
        refine j_iinc (pc := 61) 6 (x5 + 1) [(5, .int (x5 + 1)), (6, .int r2), (0, .ref (gA G 0)), (1, .int x1), (2, .int x2), (3, .int x3), (4, .int x4)] C dX9_best_61 rfl rfl (Nat.le_of_ble_eq_true rfl) rfl ?_
        refine j_goto (pc := 64) 23 C dX9_best_64 (by decide) ?_
        refine j_sub [2, 3, 4, 5, 6, 0] rfl ?_
        exact ih x1 x2 x3 x4 (x5 + 1) T1
      ·
        refine j_iload (pc := 54) 6 C dX9_best_54 rfl ?_
        refine j_istore_n (pc := 56) [(3, .int x5), (6, .int r2), (0, .ref (gA G 0)), (1, .int x1), (2, .int x2), (4, .int x4), (5, .int x5)] C dX9_best_56 rfl (Nat.le_of_ble_eq_true rfl) rfl ?_
        refine j_iload (pc := 57) 1 C dX9_best_57 rfl ?_
        refine j_istore (pc := 59) [(4, .int r2), (3, .int x5), (6, .int r2), (0, .ref (gA G 0)), (1, .int x1), (2, .int x2), (5, .int x5)] C dX9_best_59 (Nat.le_of_ble_eq_true rfl) rfl ?_
        refine j_iinc (pc := 61) 6 (x5 + 1) [(5, .int (x5 + 1)), (4, .int r2), (3, .int x5), (6, .int r2), (0, .ref (gA G 0)), (1, .int x1), (2, .int x2)] C dX9_best_61 rfl rfl (Nat.le_of_ble_eq_true rfl) rfl ?_
        refine j_goto (pc := 64) 23 C dX9_best_64 (by decide) ?_
        refine j_sub [4, 5, 6, 2, 1, 0] rfl ?_
        exact ih x1 x2 x5 r2 (x5 + 1) T1
theorem bC_Main_best {E : Ec} {G : Gc}    (C : JC E (VC G 7 2 12 RX9) cX9_best 8 (some .int))    (x1 : Int32) (x2 : Int32) (S : St) : J E (VC G 7 2 12 RX9) 0 0 0 [(0, .ref (gA G 0)), (1, .int x1), (2, .int x2)] [] S (fC_Main_best  x1 x2 S) := by
  unfold fC_Main_best
  refine j_aload_n (pc := 0) 0 C dX9_best_0 rfl rfl ?_
  refine j_iload_n (pc := 1) 1 C dX9_best_1 rfl rfl ?_
  refine j_callv (pc := 2) C (rC_Main_needPoem C dX9_best_2 q_508 (by omega) (Nat.le_of_ble_eq_true rfl) ⟨Nat.le_of_ble_eq_true rfl, Nat.le_of_ble_eq_true rfl⟩) ⟨Nat.le_of_ble_eq_true rfl, Nat.le_of_ble_eq_true rfl⟩ (fun T1 => ?_)
  refine j_aload_n (pc := 5) 0 C dX9_best_5 rfl rfl ?_
  refine j_iload_n (pc := 6) 2 C dX9_best_6 rfl rfl ?_
  refine j_iconst (pc := 7) 0 C dX9_best_7 (by decide) ?_
  refine j_iconst (pc := 8) 1 C dX9_best_8 (by decide) ?_
  refine j_callI0 (pc := 9) C (rC_Main_isWithin C dX9_best_9 q_49 (by omega) (Nat.le_of_ble_eq_true rfl) ⟨Nat.le_of_ble_eq_true rfl, Nat.le_of_ble_eq_true rfl⟩) ⟨Nat.le_of_ble_eq_true rfl, Nat.le_of_ble_eq_true rfl⟩ (fun r4 T3 => ?_)
  refine j_callv (pc := 12) C (rC_Main_need C dX9_best_12 q_60 (by omega) (Nat.le_of_ble_eq_true rfl) ⟨Nat.le_of_ble_eq_true rfl, Nat.le_of_ble_eq_true rfl⟩) ⟨Nat.le_of_ble_eq_true rfl, Nat.le_of_ble_eq_true rfl⟩ (fun T5 => ?_)
  refine j_iconst (pc := 15) (-1) C dX9_best_15 (by decide) ?_
  refine j_istore_n (pc := 16) [(3, .int (-1)), (0, .ref (gA G 0)), (1, .int x1), (2, .int x2)] C dX9_best_16 rfl (Nat.le_of_ble_eq_true rfl) rfl ?_
  refine j_iconst (pc := 17) 0 C dX9_best_17 (by decide) ?_
  refine j_istore (pc := 18) [(4, .int 0), (3, .int (-1)), (0, .ref (gA G 0)), (1, .int x1), (2, .int x2)] C dX9_best_18 (Nat.le_of_ble_eq_true rfl) rfl ?_
  refine j_iconst (pc := 20) 0 C dX9_best_20 (by decide) ?_
  refine j_istore (pc := 21) [(5, .int 0), (4, .int 0), (3, .int (-1)), (0, .ref (gA G 0)), (1, .int x1), (2, .int x2)] C dX9_best_21 (Nat.le_of_ble_eq_true rfl) rfl ?_
  refine j_sub [3, 4, 5, 2, 1, 0] rfl ?_
  exact bC_Main_best_23 C  FU x1 x2 (-1) 0 0 T5
theorem cC_Main_best {l : Launch} {G : Gc} (hfl : l.stackTraces = false) (hW : Wok G wC 54)   (x1 : Int32) (x2 : Int32) (S : St) : Ct l yX9_best (Cond.code yX9_best cX9_best 7 (some .int) :: tblG) 8 2 12 G wC 54 [.ref (gA G 0), .int x1, .int x2] S (fC_Main_best x1 x2 S) := ct_of (own := RX9) hfl (by decide +kernel) rfl hW (Nat.le_of_ble_eq_true rfl) (fun E hE C => by subst hE; exact bC_Main_best C   x1 x2 S)
theorem rC_Main_best {E : Ec} {G : Gc} {nL mc ms : Nat} {own : String} {cc : ByteArray} {L : Nat} {ret : Option FieldType} {k n pc ix : Nat} {loc : List (Nat × Value)} {rest : List Value}  {x1 : Int32} {x2 : Int32} {S : St}  (C : JC E (VC G nL mc ms own) cc L ret) (hd : decode cc pc = .ok (.invokevirtual ix, 3)) (hq : Cond.methodLink own ix yX9_best ∈ tblG) (hL : 8 + 1 ≤ L) (hW : (rest.map fun v => v.category).sum ≤ 8) (hf : k + 2 ≤ mc ∧ n + 12 ≤ ms) : Rn E (VC G nL mc ms own) k n 2 12 pc loc (.int x2 :: .int x1 :: .ref (gA G 0) :: rest) rest S (fC_Main_best x1 x2 S) := rn_V (ci := 9) 0 (V := VC G nL mc ms own) (As := [.int x1, .int x2]) (Cq := (RX9, TX9, 15)) (cC_Main_best C.flags C.wok  x1 x2 S) knX9_best ⟨q_756, q_757⟩ rfl rfl C hd hq hL rfl rfl hW hf

theorem knX9_chorus : Kn yX9_chorus cX9_chorus 5 (some .int) 2 := ⟨q_758, q_40, by decide +kernel, by decide⟩
theorem bC_Main_chorus_22 {E : Ec} {G : Gc}    (C : JC E (VC G 5 2 12 RX9) cX9_chorus 8 (some .int))    : ∀ (n : Nat) (x1 : Int32) (x2 : Int32) (x3 : Int32) (x4 : Int32) (S : St), J E (VC G 5 2 12 RX9) 2 12 22 [(0, .ref (gA G 0)), (1, .int x1), (2, .int x2), (3, .int x3), (4, .int x4)] [] S (fC_Main_chorus_22  n x1 x2 x3 x4 S) := by
  intro n
  induction n with
  | zero => intro x1 x2 x3 x4 S; rw [fC_Main_chorus_22]; exact j_none
  | succ n ih =>
    intro x1 x2 x3 x4 S
    rw [fC_Main_chorus_22]
    refine j_iload (pc := 22) 4 C dX9_chorus_22 rfl ?_
    refine j_aload_n (pc := 24) 0 C dX9_chorus_24 rfl rfl ?_
    refine gC_0_1 (pc := 25) C dX9_chorus_25 q_148 ?_
    refine gC_2_1 (pc := 28) C dX9_chorus_28 q_467 ?_
    refine j_icmp_ge (pc := 31) 63 C dX9_chorus_31 (by decide) ?_ ?_
    ·
      refine j_iload_n (pc := 63) 3 C dX9_chorus_63 rfl rfl ?_
      refine j_aload_n (pc := 64) 0 C dX9_chorus_64 rfl rfl ?_
      refine gC_0_1 (pc := 65) C dX9_chorus_65 q_148 ?_
      refine gC_2_4 (pc := 68) C dX9_chorus_68 q_509 ?_
      refine j_iload_n (pc := 71) 1 C dX9_chorus_71 rfl rfl ?_
      refine aC_15 (pc := 72) C dX9_chorus_72 ?_
      refine j_mmin (pc := 73) C dX9_chorus_73 q_43 q_44 q_45 q_46 (by omega) (Nat.le_of_ble_eq_true rfl) (Nat.le_of_ble_eq_true rfl) (Nat.le_of_ble_eq_true rfl) ?_
      exact j_iret C dX9_chorus_76 rfl (Nat.le_of_ble_eq_true rfl) (Nat.le_of_ble_eq_true rfl)
    ·
      refine j_iload_n (pc := 34) 2 C dX9_chorus_34 rfl rfl ?_
      refine j_iload (pc := 35) 4 C dX9_chorus_35 rfl ?_
      refine j_ishr (pc := 37) C dX9_chorus_37 ?_
      refine j_iconst (pc := 38) 1 C dX9_chorus_38 (by decide) ?_
      refine j_iand (pc := 39) C dX9_chorus_39 ?_
      refine j_iconst (pc := 40) 1 C dX9_chorus_40 (by decide) ?_
      refine j_icmp_ne (pc := 41) 57 C dX9_chorus_41 (by decide) ?_ ?_
      ·
        refine j_iinc (pc := 57) 4 (x4 + 1) [(4, .int (x4 + 1)), (0, .ref (gA G 0)), (1, .int x1), (2, .int x2), (3, .int x3)] C dX9_chorus_57 rfl rfl (Nat.le_of_ble_eq_true rfl) rfl ?_
        refine j_goto (pc := 60) 22 C dX9_chorus_60 (by decide) ?_
        refine j_sub [1, 2, 3, 4, 0] rfl ?_
        exact ih x1 x2 x3 (x4 + 1) S
      ·
        refine j_iload_n (pc := 44) 3 C dX9_chorus_44 rfl rfl ?_
        refine j_aload_n (pc := 45) 0 C dX9_chorus_45 rfl rfl ?_
        refine gC_0_8 (pc := 46) C dX9_chorus_46 q_171 ?_
        refine j_iload (pc := 49) 4 C dX9_chorus_49 rfl ?_
        refine j_iload_n (pc := 51) 1 C dX9_chorus_51 rfl rfl ?_
        refine j_callI0 (pc := 52) C (rC_State_linesKnown_9 C dX9_chorus_52 q_577 (by omega) (Nat.le_of_ble_eq_true rfl) ⟨Nat.le_of_ble_eq_true rfl, Nat.le_of_ble_eq_true rfl⟩) ⟨Nat.le_of_ble_eq_true rfl, Nat.le_of_ble_eq_true rfl⟩ (fun r2 T1 => ?_)
        refine j_iadd (pc := 55) C dX9_chorus_55 ?_
        refine j_nxI (fun v3 => ?_)
        refine j_istore_n (pc := 56) [(3, .int v3), (0, .ref (gA G 0)), (1, .int x1), (2, .int x2), (4, .int x4)] C dX9_chorus_56 rfl (Nat.le_of_ble_eq_true rfl) rfl ?_
        refine j_iinc (pc := 57) 4 (x4 + 1) [(4, .int (x4 + 1)), (3, .int v3), (0, .ref (gA G 0)), (1, .int x1), (2, .int x2)] C dX9_chorus_57 rfl rfl (Nat.le_of_ble_eq_true rfl) rfl ?_
        refine j_goto (pc := 60) 22 C dX9_chorus_60 (by decide) ?_
        refine j_sub [2, 3, 4, 1, 0] rfl ?_
        exact ih x1 x2 v3 (x4 + 1) T1
theorem bC_Main_chorus {E : Ec} {G : Gc}    (C : JC E (VC G 5 2 12 RX9) cX9_chorus 8 (some .int))    (x1 : Int32) (x2 : Int32) (S : St) : J E (VC G 5 2 12 RX9) 0 0 0 [(0, .ref (gA G 0)), (1, .int x1), (2, .int x2)] [] S (fC_Main_chorus  x1 x2 S) := by
  unfold fC_Main_chorus
  refine j_aload_n (pc := 0) 0 C dX9_chorus_0 rfl rfl ?_
  refine j_iload_n (pc := 1) 1 C dX9_chorus_1 rfl rfl ?_
  refine j_callv (pc := 2) C (rC_Main_needPoem C dX9_chorus_2 q_508 (by omega) (Nat.le_of_ble_eq_true rfl) ⟨Nat.le_of_ble_eq_true rfl, Nat.le_of_ble_eq_true rfl⟩) ⟨Nat.le_of_ble_eq_true rfl, Nat.le_of_ble_eq_true rfl⟩ (fun T1 => ?_)
  refine j_aload_n (pc := 5) 0 C dX9_chorus_5 rfl rfl ?_
  refine j_aload_n (pc := 6) 0 C dX9_chorus_6 rfl rfl ?_
  refine gC_0_1 (pc := 7) C dX9_chorus_7 q_148 ?_
  refine j_iload_n (pc := 10) 2 C dX9_chorus_10 rfl rfl ?_
  refine j_callI0 (pc := 11) C (rC_Valley_areMen_2 C dX9_chorus_11 q_725 (by omega) (Nat.le_of_ble_eq_true rfl) ⟨Nat.le_of_ble_eq_true rfl, Nat.le_of_ble_eq_true rfl⟩) ⟨Nat.le_of_ble_eq_true rfl, Nat.le_of_ble_eq_true rfl⟩ (fun r4 T3 => ?_)
  refine j_callv (pc := 14) C (rC_Main_need C dX9_chorus_14 q_60 (by omega) (Nat.le_of_ble_eq_true rfl) ⟨Nat.le_of_ble_eq_true rfl, Nat.le_of_ble_eq_true rfl⟩) ⟨Nat.le_of_ble_eq_true rfl, Nat.le_of_ble_eq_true rfl⟩ (fun T5 => ?_)
  refine j_iconst (pc := 17) 0 C dX9_chorus_17 (by decide) ?_
  refine j_istore_n (pc := 18) [(3, .int 0), (0, .ref (gA G 0)), (1, .int x1), (2, .int x2)] C dX9_chorus_18 rfl (Nat.le_of_ble_eq_true rfl) rfl ?_
  refine j_iconst (pc := 19) 0 C dX9_chorus_19 (by decide) ?_
  refine j_istore (pc := 20) [(4, .int 0), (3, .int 0), (0, .ref (gA G 0)), (1, .int x1), (2, .int x2)] C dX9_chorus_20 (Nat.le_of_ble_eq_true rfl) rfl ?_
  refine j_sub [2, 3, 4, 1, 0] rfl ?_
  exact bC_Main_chorus_22 C  FU x1 x2 0 0 T5
theorem cC_Main_chorus {l : Launch} {G : Gc} (hfl : l.stackTraces = false) (hW : Wok G wC 54)   (x1 : Int32) (x2 : Int32) (S : St) : Ct l yX9_chorus (Cond.code yX9_chorus cX9_chorus 5 (some .int) :: tblG) 8 2 12 G wC 54 [.ref (gA G 0), .int x1, .int x2] S (fC_Main_chorus x1 x2 S) := ct_of (own := RX9) hfl (by decide +kernel) rfl hW (Nat.le_of_ble_eq_true rfl) (fun E hE C => by subst hE; exact bC_Main_chorus C   x1 x2 S)
theorem rC_Main_chorus {E : Ec} {G : Gc} {nL mc ms : Nat} {own : String} {cc : ByteArray} {L : Nat} {ret : Option FieldType} {k n pc ix : Nat} {loc : List (Nat × Value)} {rest : List Value}  {x1 : Int32} {x2 : Int32} {S : St}  (C : JC E (VC G nL mc ms own) cc L ret) (hd : decode cc pc = .ok (.invokevirtual ix, 3)) (hq : Cond.methodLink own ix yX9_chorus ∈ tblG) (hL : 8 + 1 ≤ L) (hW : (rest.map fun v => v.category).sum ≤ 8) (hf : k + 2 ≤ mc ∧ n + 12 ≤ ms) : Rn E (VC G nL mc ms own) k n 2 12 pc loc (.int x2 :: .int x1 :: .ref (gA G 0) :: rest) rest S (fC_Main_chorus x1 x2 S) := rn_V (ci := 9) 0 (V := VC G nL mc ms own) (As := [.int x1, .int x2]) (Cq := (RX9, TX9, 15)) (cC_Main_chorus C.flags C.wok  x1 x2 S) knX9_chorus ⟨q_759, q_760⟩ rfl rfl C hd hq hL rfl rfl hW hf

theorem knX2_draw : Kn yX2_draw cX2_draw 3 (some .int) 1 := ⟨q_763, q_603, by decide +kernel, by decide⟩
theorem bC_Outlook_draw {E : Ec} {G : Gc}    (C : JC E (VC G 3 0 0 RX2) cX2_draw 1 (some .int))    (x1 : Int32) (S : St) : J E (VC G 3 0 0 RX2) 0 0 0 [(0, .ref (gA G 11)), (1, .int x1)] [] S (fC_Outlook_draw  x1 S) := by
  unfold fC_Outlook_draw
  refine j_aload_n (pc := 0) 0 C dX2_draw_0 rfl rfl ?_
  refine j_aload_n (pc := 1) 0 C dX2_draw_1 rfl rfl ?_
  refine gC_11_3 (pc := 2) C dX2_draw_2 q_761 ?_
  refine j_ldc (pc := 5) C dX2_draw_5 q_762 ?_
  refine j_imul (pc := 7) C dX2_draw_7 ?_
  refine j_sipush (pc := 8) 12345 C dX2_draw_8 (by decide) ?_
  refine j_iadd (pc := 11) C dX2_draw_11 ?_
  refine pC_11_3 (pc := 12) C dX2_draw_12 q_761 ?_
  refine j_nxS (fun T1 => ?_)
  refine j_aload_n (pc := 15) 0 C dX2_draw_15 rfl rfl ?_
  refine gC_11_3 (pc := 16) C dX2_draw_16 q_761 ?_
  refine j_bipush (pc := 19) 16 C dX2_draw_19 (by decide) ?_
  refine j_iushr (pc := 21) C dX2_draw_21 ?_
  refine j_sipush (pc := 22) 32767 C dX2_draw_22 (by decide) ?_
  refine j_iand (pc := 25) C dX2_draw_25 ?_
  refine j_nxI (fun v2 => ?_)
  refine j_istore_n (pc := 26) [(2, .int v2), (0, .ref (gA G 11)), (1, .int x1)] C dX2_draw_26 rfl (Nat.le_of_ble_eq_true rfl) rfl ?_
  refine j_iload_n (pc := 27) 2 C dX2_draw_27 rfl rfl ?_
  refine j_if_gt (pc := 28) 35 C dX2_draw_28 (by decide) ?_ ?_
  ·
    refine j_iload_n (pc := 35) 0 C dX2_draw_35 rfl rfl ?_
    refine j_iload_n (pc := 36) 2 C dX2_draw_36 rfl rfl ?_
    refine j_irem (pc := 37) C dX2_draw_37 ?_
    exact j_iret C dX2_draw_38 rfl (Nat.le_of_ble_eq_true rfl) (Nat.le_of_ble_eq_true rfl)
  ·
    refine j_iconst (pc := 31) 0 C dX2_draw_31 (by decide) ?_
    refine j_goto (pc := 32) 38 C dX2_draw_32 (by decide) ?_
    exact j_iret C dX2_draw_38 rfl (Nat.le_of_ble_eq_true rfl) (Nat.le_of_ble_eq_true rfl)
theorem cC_Outlook_draw {l : Launch} {G : Gc} (hfl : l.stackTraces = false) (hW : Wok G wC 54)   (x1 : Int32) (S : St) : Ct l yX2_draw (Cond.code yX2_draw cX2_draw 3 (some .int) :: tblG) 1 0 0 G wC 54 [.ref (gA G 11), .int x1] S (fC_Outlook_draw x1 S) := ct_of (own := RX2) hfl (by decide +kernel) rfl hW (Nat.le_of_ble_eq_true rfl) (fun E hE C => by subst hE; exact bC_Outlook_draw C   x1 S)
theorem rC_Outlook_draw {E : Ec} {G : Gc} {nL mc ms : Nat} {own : String} {cc : ByteArray} {L : Nat} {ret : Option FieldType} {k n pc ix : Nat} {loc : List (Nat × Value)} {rest : List Value}  {x1 : Int32} {S : St}  (C : JC E (VC G nL mc ms own) cc L ret) (hd : decode cc pc = .ok (.invokevirtual ix, 3)) (hq : Cond.methodLink own ix yX2_draw ∈ tblG) (hL : 1 + 1 ≤ L) (hW : (rest.map fun v => v.category).sum ≤ 8) (hf : k + 0 ≤ mc ∧ n + 0 ≤ ms) : Rn E (VC G nL mc ms own) k n 0 0 pc loc (.int x1 :: .ref (gA G 11) :: rest) rest S (fC_Outlook_draw x1 S) := rn_V (ci := 2) 11 (V := VC G nL mc ms own) (As := [.int x1]) (Cq := (RX2, TX2, 4)) (cC_Outlook_draw C.flags C.wok  x1 S) knX2_draw ⟨q_764, q_765⟩ rfl rfl C hd hq hL rfl rfl hW hf

theorem bC_State_isWellKnown_13_65 {E : Ec} {G : Gc}    (C : JC E (VC G 7 0 0 RX5) cX5_isWellKnown 2 (some .boolean))    (x1 : Int32) (x2 : Int32) (x4 : Int32) (x5 : Int32) (s0 : Int32) (S : St) : J E (VC G 7 0 0 RX5) 0 0 65 [(0, .ref (gA G 13)), (1, .int x1), (2, .int x2), (4, .int x4), (5, .int x5)] [.int s0] S (fC_State_isWellKnown_13_65  x1 x2 x4 x5 s0 S) := by
  unfold fC_State_isWellKnown_13_65
  refine j_istore (pc := 65) [(6, .int s0), (0, .ref (gA G 13)), (1, .int x1), (2, .int x2), (4, .int x4), (5, .int x5)] C dX5_isWellKnown_65 (Nat.le_of_ble_eq_true rfl) rfl ?_
  refine j_aload_n (pc := 67) 1 C dX5_isWellKnown_67 rfl rfl ?_
  refine gC_13_1 (pc := 68) C dX5_isWellKnown_68 q_301 ?_
  refine gC_2_10 (pc := 71) C dX5_isWellKnown_71 q_370 ?_
  refine j_iload_n (pc := 74) 2 C dX5_isWellKnown_74 rfl rfl ?_
  refine aC_21 (pc := 75) C dX5_isWellKnown_75 ?_
  refine j_nxI (fun v1 => ?_)
  refine j_lswC (pc := 76) (off := 28) 104 0 C dX5_isWellKnown_76 (by decide) (by decide) (by decide) ?_ (fun h76_0 => ?_)
  ·
    refine j_iload (pc := 104) 4 C dX5_isWellKnown_104 rfl ?_
    refine j_iload (pc := 106) 5 C dX5_isWellKnown_106 rfl ?_
    refine j_icmp_lt (pc := 108) 115 C dX5_isWellKnown_108 (by decide) ?_ ?_
    ·
      refine j_iconst (pc := 115) 0 C dX5_isWellKnown_115 (by decide) ?_
      exact j_zretc C dX5_isWellKnown_116 rfl (Nat.le_of_ble_eq_true rfl) (Nat.le_of_ble_eq_true rfl) rfl
    ·
      refine j_iconst (pc := 111) 1 C dX5_isWellKnown_111 (by decide) ?_
      refine j_goto (pc := 112) 116 C dX5_isWellKnown_112 (by decide) ?_
      exact j_zretc C dX5_isWellKnown_116 rfl (Nat.le_of_ble_eq_true rfl) (Nat.le_of_ble_eq_true rfl) rfl
  refine j_lswC (pc := 76) (off := 41) 117 2 C dX5_isWellKnown_76 (by decide) (by decide) (by decide) ?_ (fun h76_2 => ?_)
  ·
    refine j_iload (pc := 117) 4 C dX5_isWellKnown_117 rfl ?_
    refine j_iload (pc := 119) 5 C dX5_isWellKnown_119 rfl ?_
    refine j_icmp_lt (pc := 121) 140 C dX5_isWellKnown_121 (by decide) ?_ ?_
    ·
      refine j_iconst (pc := 140) 0 C dX5_isWellKnown_140 (by decide) ?_
      exact j_zretc C dX5_isWellKnown_141 rfl (Nat.le_of_ble_eq_true rfl) (Nat.le_of_ble_eq_true rfl) rfl
    ·
      refine j_aload_n (pc := 124) 1 C dX5_isWellKnown_124 rfl rfl ?_
      refine gC_13_0 (pc := 125) C dX5_isWellKnown_125 q_172 ?_
      refine j_bipush (pc := 128) 54 C dX5_isWellKnown_128 (by decide) ?_
      refine j_iload_n (pc := 130) 3 C dX5_isWellKnown_130 rfl rfl ?_
      refine j_iadd (pc := 131) C dX5_isWellKnown_131 ?_
      refine aC_52 (pc := 132) C dX5_isWellKnown_132 ?_
      refine j_if_le (pc := 133) 140 C dX5_isWellKnown_133 (by decide) ?_ ?_
      ·
        refine j_iconst (pc := 140) 0 C dX5_isWellKnown_140 (by decide) ?_
        exact j_zretc C dX5_isWellKnown_141 rfl (Nat.le_of_ble_eq_true rfl) (Nat.le_of_ble_eq_true rfl) rfl
      ·
        refine j_iconst (pc := 136) 1 C dX5_isWellKnown_136 (by decide) ?_
        refine j_goto (pc := 137) 141 C dX5_isWellKnown_137 (by decide) ?_
        exact j_zretc C dX5_isWellKnown_141 rfl (Nat.le_of_ble_eq_true rfl) (Nat.le_of_ble_eq_true rfl) rfl
  refine j_lswD (pc := 76) 142 C dX5_isWellKnown_76 (by decide) (by have g0 := ne_i (z := 0) h76_0 (by decide); have g2 := ne_i (z := 2) h76_2 (by decide); simp [Op.lookupswitch.offset, g0, Ne.symm g0, g2, Ne.symm g2]) (by decide) ?_
  refine j_iload (pc := 142) 4 C dX5_isWellKnown_142 rfl ?_
  refine j_iload (pc := 144) 0 C dX5_isWellKnown_144 rfl ?_
  refine j_icmp_lt (pc := 146) 153 C dX5_isWellKnown_146 (by decide) ?_ ?_
  ·
    refine j_iconst (pc := 153) 0 C dX5_isWellKnown_153 (by decide) ?_
    exact j_zretc C dX5_isWellKnown_154 rfl (Nat.le_of_ble_eq_true rfl) (Nat.le_of_ble_eq_true rfl) rfl
  ·
    refine j_iconst (pc := 149) 1 C dX5_isWellKnown_149 (by decide) ?_
    refine j_goto (pc := 150) 154 C dX5_isWellKnown_150 (by decide) ?_
    exact j_zretc C dX5_isWellKnown_154 rfl (Nat.le_of_ble_eq_true rfl) (Nat.le_of_ble_eq_true rfl) rfl
theorem bC_State_isWellKnown_13 {E : Ec} {G : Gc}    (C : JC E (VC G 7 0 0 RX5) cX5_isWellKnown 2 (some .boolean))    (x1 : Int32) (S : St) : J E (VC G 7 0 0 RX5) 0 0 0 [(0, .ref (gA G 13)), (1, .int x1)] [] S (fC_State_isWellKnown_13  x1 S) := by
  unfold fC_State_isWellKnown_13
  refine j_aload_n (pc := 0) 0 C dX5_isWellKnown_0 rfl rfl ?_
  refine gC_13_1 (pc := 1) C dX5_isWellKnown_1 q_301 ?_
  refine gC_2_8 (pc := 4) C dX5_isWellKnown_4 q_368 ?_
  refine j_iload_n (pc := 7) 1 C dX5_isWellKnown_7 rfl rfl ?_
  refine aC_19 (pc := 8) C dX5_isWellKnown_8 ?_
  refine j_nxI (fun v1 => ?_)
  refine j_istore_n (pc := 9) [(2, .int v1), (0, .ref (gA G 13)), (1, .int x1)] C dX5_isWellKnown_9 rfl (Nat.le_of_ble_eq_true rfl) rfl ?_
  refine j_aload_n (pc := 10) 1 C dX5_isWellKnown_10 rfl rfl ?_
  refine gC_13_1 (pc := 11) C dX5_isWellKnown_11 q_301 ?_
  refine gC_2_9 (pc := 14) C dX5_isWellKnown_14 q_369 ?_
  refine j_iload_n (pc := 17) 2 C dX5_isWellKnown_17 rfl rfl ?_
  refine aC_20 (pc := 18) C dX5_isWellKnown_18 ?_
  refine j_nxI (fun v2 => ?_)
  refine j_istore_n (pc := 19) [(3, .int v2), (2, .int v1), (0, .ref (gA G 13)), (1, .int x1)] C dX5_isWellKnown_19 rfl (Nat.le_of_ble_eq_true rfl) rfl ?_
  refine j_aload_n (pc := 20) 2 C dX5_isWellKnown_20 rfl rfl ?_
  refine gC_13_0 (pc := 21) C dX5_isWellKnown_21 q_172 ?_
  refine j_iload_n (pc := 24) 1 C dX5_isWellKnown_24 rfl rfl ?_
  refine j_iload_n (pc := 25) 0 C dX5_isWellKnown_25 rfl rfl ?_
  refine j_callI0 (pc := 26) C (rC_State_place C dX5_isWellKnown_26 q_315 (by omega) (Nat.le_of_ble_eq_true rfl) ⟨Nat.le_of_ble_eq_true rfl, Nat.le_of_ble_eq_true rfl⟩) ⟨Nat.le_of_ble_eq_true rfl, Nat.le_of_ble_eq_true rfl⟩ (fun r4 T3 => ?_)
  refine aC_52 (pc := 29) C dX5_isWellKnown_29 ?_
  refine j_nxI (fun v5 => ?_)
  refine j_istore (pc := 30) [(4, .int v5), (3, .int v2), (2, .int v1), (0, .ref (gA G 13)), (1, .int x1)] C dX5_isWellKnown_30 (Nat.le_of_ble_eq_true rfl) rfl ?_
  refine j_aload_n (pc := 32) 3 C dX5_isWellKnown_32 rfl rfl ?_
  refine gC_13_1 (pc := 33) C dX5_isWellKnown_33 q_301 ?_
  refine gC_2_4 (pc := 36) C dX5_isWellKnown_36 q_325 ?_
  refine j_iload_n (pc := 39) 1 C dX5_isWellKnown_39 rfl rfl ?_
  refine aC_15 (pc := 40) C dX5_isWellKnown_40 ?_
  refine j_nxI (fun v6 => ?_)
  refine j_istore (pc := 41) [(5, .int v6), (4, .int v5), (3, .int v2), (2, .int v1), (0, .ref (gA G 13)), (1, .int x1)] C dX5_isWellKnown_41 (Nat.le_of_ble_eq_true rfl) rfl ?_
  refine j_iload (pc := 43) 0 C dX5_isWellKnown_43 rfl ?_
  refine j_iconst (pc := 45) 2 C dX5_isWellKnown_45 (by decide) ?_
  refine j_idivc (pc := 46) C dX5_isWellKnown_46 rfl ?_
  refine j_iconst (pc := 47) 1 C dX5_isWellKnown_47 (by decide) ?_
  refine j_iadd (pc := 48) C dX5_isWellKnown_48 ?_
  refine j_iload (pc := 49) 0 C dX5_isWellKnown_49 rfl ?_
  refine j_icmp_ge (pc := 51) 63 C dX5_isWellKnown_51 (by decide) ?_ ?_
  ·
    refine j_iload (pc := 63) 0 C dX5_isWellKnown_63 rfl ?_
    refine j_sub [4, 5, 3, 1, 0] rfl ?_
    exact bC_State_isWellKnown_13_65 C  x1 v1 v5 v6 v6 T3
  ·
    refine j_iload (pc := 54) 0 C dX5_isWellKnown_54 rfl ?_
    refine j_iconst (pc := 56) 2 C dX5_isWellKnown_56 (by decide) ?_
    refine j_idivc (pc := 57) C dX5_isWellKnown_57 rfl ?_
    refine j_iconst (pc := 58) 1 C dX5_isWellKnown_58 (by decide) ?_
    refine j_iadd (pc := 59) C dX5_isWellKnown_59 ?_
    refine j_goto (pc := 60) 65 C dX5_isWellKnown_60 (by decide) ?_
    refine j_sub [4, 5, 3, 1, 0] rfl ?_
    exact bC_State_isWellKnown_13_65 C  x1 v1 v5 v6 ((v6 / 2) + 1) T3
theorem cC_State_isWellKnown_13 {l : Launch} {G : Gc} (hfl : l.stackTraces = false) (hW : Wok G wC 54)   (x1 : Int32) (S : St) : Ct l yX5_isWellKnown (Cond.code yX5_isWellKnown cX5_isWellKnown 7 (some .boolean) :: tblG) 2 0 0 G wC 54 [.ref (gA G 13), .int x1] S (fC_State_isWellKnown_13 x1 S) := ct_of (own := RX5) hfl (by decide +kernel) rfl hW (Nat.le_of_ble_eq_true rfl) (fun E hE C => by subst hE; exact bC_State_isWellKnown_13 C   x1 S)
theorem rC_State_isWellKnown_13 {E : Ec} {G : Gc} {nL mc ms : Nat} {own : String} {cc : ByteArray} {L : Nat} {ret : Option FieldType} {k n pc ix : Nat} {loc : List (Nat × Value)} {rest : List Value}  {x1 : Int32} {S : St}  (C : JC E (VC G nL mc ms own) cc L ret) (hd : decode cc pc = .ok (.invokevirtual ix, 3)) (hq : Cond.methodLink own ix yX5_isWellKnown ∈ tblG) (hL : 2 + 1 ≤ L) (hW : (rest.map fun v => v.category).sum ≤ 8) (hf : k + 0 ≤ mc ∧ n + 0 ≤ ms) : Rn E (VC G nL mc ms own) k n 0 0 pc loc (.int x1 :: .ref (gA G 13) :: rest) rest S (fC_State_isWellKnown_13 x1 S) := rn_V (ci := 5) 13 (V := VC G nL mc ms own) (As := [.int x1]) (Cq := (RX5, TX5, 3)) (cC_State_isWellKnown_13 C.flags C.wok  x1 S) knX5_isWellKnown ⟨q_372, q_373⟩ rfl rfl C hd hq hL rfl rfl hW hf

theorem bC_State_slip_13 {E : Ec} {G : Gc}    (C : JC E (VC G 3 0 0 RX5) cX5_slip 3 none)    (x1 : Int32) (x2 : Int32) (S : St) : J E (VC G 3 0 0 RX5) 0 0 0 [(0, .ref (gA G 13)), (1, .int x1), (2, .int x2)] [] S (fC_State_slip_13  x1 x2 S) := by
  unfold fC_State_slip_13
  refine j_aload_n (pc := 0) 0 C dX5_slip_0 rfl rfl ?_
  refine j_iload_n (pc := 1) 1 C dX5_slip_1 rfl rfl ?_
  refine j_iload_n (pc := 2) 2 C dX5_slip_2 rfl rfl ?_
  refine j_iconst (pc := 3) 4 C dX5_slip_3 (by decide) ?_
  refine j_callv0 (pc := 4) C (rC_State_lose_13 C dX5_slip_4 q_378 (by omega) (Nat.le_of_ble_eq_true rfl) ⟨Nat.le_of_ble_eq_true rfl, Nat.le_of_ble_eq_true rfl⟩) ⟨Nat.le_of_ble_eq_true rfl, Nat.le_of_ble_eq_true rfl⟩ (fun T1 => ?_)
  refine j_aload_n (pc := 7) 0 C dX5_slip_7 rfl rfl ?_
  refine gC_13_0 (pc := 8) C dX5_slip_8 q_172 ?_
  refine j_bipush (pc := 11) 60 C dX5_slip_11 (by decide) ?_
  refine j_iload_n (pc := 13) 1 C dX5_slip_13 rfl rfl ?_
  refine j_iadd (pc := 14) C dX5_slip_14 ?_
  refine j_dup2 (pc := 15) C dX5_slip_15 rfl rfl ?_
  refine aC_52 (pc := 16) C dX5_slip_16 ?_
  refine j_iconst (pc := 17) 1 C dX5_slip_17 (by decide) ?_
  refine j_iadd (pc := 18) C dX5_slip_18 ?_
  refine sC_52 (pc := 19) C dX5_slip_19 ?_
  refine j_nxS (fun T3 => ?_)
  exact j_vret C dX5_slip_20 rfl (Nat.le_of_ble_eq_true rfl) (Nat.le_of_ble_eq_true rfl)
theorem cC_State_slip_13 {l : Launch} {G : Gc} (hfl : l.stackTraces = false) (hW : Wok G wC 54)   (x1 : Int32) (x2 : Int32) (S : St) : Ct l yX5_slip (Cond.code yX5_slip cX5_slip 3 none :: tblG) 3 0 0 G wC 54 [.ref (gA G 13), .int x1, .int x2] S (fC_State_slip_13 x1 x2 S) := ct_of (own := RX5) hfl (by decide +kernel) rfl hW (Nat.le_of_ble_eq_true rfl) (fun E hE C => by subst hE; exact bC_State_slip_13 C   x1 x2 S)
theorem rC_State_slip_13 {E : Ec} {G : Gc} {nL mc ms : Nat} {own : String} {cc : ByteArray} {L : Nat} {ret : Option FieldType} {k n pc ix : Nat} {loc : List (Nat × Value)} {rest : List Value}  {x1 : Int32} {x2 : Int32} {S : St}  (C : JC E (VC G nL mc ms own) cc L ret) (hd : decode cc pc = .ok (.invokevirtual ix, 3)) (hq : Cond.methodLink own ix yX5_slip ∈ tblG) (hL : 3 + 1 ≤ L) (hW : (rest.map fun v => v.category).sum ≤ 8) (hf : k + 0 ≤ mc ∧ n + 0 ≤ ms) : Rn E (VC G nL mc ms own) k n 0 0 pc loc (.int x2 :: .int x1 :: .ref (gA G 13) :: rest) rest S (fC_State_slip_13 x1 x2 S) := rn_V (ci := 5) 13 (V := VC G nL mc ms own) (As := [.int x1, .int x2]) (Cq := (RX5, TX5, 3)) (cC_State_slip_13 C.flags C.wok  x1 x2 S) knX5_slip ⟨q_380, q_381⟩ rfl rfl C hd hq hL rfl rfl hW hf

theorem bC_State_sayAlone_13 {E : Ec} {G : Gc}    (C : JC E (VC G 2 0 0 RX5) cX5_sayAlone 4 (some .boolean))    (x1 : Int32) (S : St) : J E (VC G 2 0 0 RX5) 0 0 0 [(0, .ref (gA G 13)), (1, .int x1)] [] S (fC_State_sayAlone_13  x1 S) := by
  unfold fC_State_sayAlone_13
  refine j_aload_n (pc := 0) 0 C dX5_sayAlone_0 rfl rfl ?_
  refine j_iload_n (pc := 1) 1 C dX5_sayAlone_1 rfl rfl ?_
  refine j_callI0 (pc := 2) C (rC_State_isPaid_13 C dX5_sayAlone_2 q_367 (by omega) (Nat.le_of_ble_eq_true rfl) ⟨Nat.le_of_ble_eq_true rfl, Nat.le_of_ble_eq_true rfl⟩) ⟨Nat.le_of_ble_eq_true rfl, Nat.le_of_ble_eq_true rfl⟩ (fun r2 T1 => ?_)
  refine j_if_eq (pc := 5) 10 C dX5_sayAlone_5 (by decide) ?_ ?_
  ·
    refine j_aload_n (pc := 10) 0 C dX5_sayAlone_10 rfl rfl ?_
    refine j_iload_n (pc := 11) 1 C dX5_sayAlone_11 rfl rfl ?_
    refine j_callI0 (pc := 12) C (rC_State_isWellKnown_13 C dX5_sayAlone_12 q_374 (by omega) (Nat.le_of_ble_eq_true rfl) ⟨Nat.le_of_ble_eq_true rfl, Nat.le_of_ble_eq_true rfl⟩) ⟨Nat.le_of_ble_eq_true rfl, Nat.le_of_ble_eq_true rfl⟩ (fun r4 T3 => ?_)
    refine j_if_eq (pc := 15) 34 C dX5_sayAlone_15 (by decide) ?_ ?_
    ·
      refine j_aload_n (pc := 34) 0 C dX5_sayAlone_34 rfl rfl ?_
      refine j_aload_n (pc := 35) 0 C dX5_sayAlone_35 rfl rfl ?_
      refine gC_13_1 (pc := 36) C dX5_sayAlone_36 q_301 ?_
      refine gC_2_8 (pc := 39) C dX5_sayAlone_39 q_368 ?_
      refine j_iload_n (pc := 42) 1 C dX5_sayAlone_42 rfl rfl ?_
      refine aC_19 (pc := 43) C dX5_sayAlone_43 ?_
      refine j_aload_n (pc := 44) 0 C dX5_sayAlone_44 rfl rfl ?_
      refine gC_13_1 (pc := 45) C dX5_sayAlone_45 q_301 ?_
      refine gC_2_9 (pc := 48) C dX5_sayAlone_48 q_369 ?_
      refine j_iload_n (pc := 51) 1 C dX5_sayAlone_51 rfl rfl ?_
      refine aC_20 (pc := 52) C dX5_sayAlone_52 ?_
      refine j_callv0 (pc := 53) C (rC_State_slip_13 C dX5_sayAlone_53 q_382 (by omega) (Nat.le_of_ble_eq_true rfl) ⟨Nat.le_of_ble_eq_true rfl, Nat.le_of_ble_eq_true rfl⟩) ⟨Nat.le_of_ble_eq_true rfl, Nat.le_of_ble_eq_true rfl⟩ (fun T5 => ?_)
      refine j_iconst (pc := 56) 1 C dX5_sayAlone_56 (by decide) ?_
      exact j_zretc C dX5_sayAlone_57 rfl (Nat.le_of_ble_eq_true rfl) (Nat.le_of_ble_eq_true rfl) rfl
    ·
      refine j_aload_n (pc := 18) 0 C dX5_sayAlone_18 rfl rfl ?_
      refine gC_13_0 (pc := 19) C dX5_sayAlone_19 q_172 ?_
      refine j_bipush (pc := 22) 72 C dX5_sayAlone_22 (by decide) ?_
      refine j_dup2 (pc := 24) C dX5_sayAlone_24 rfl rfl ?_
      refine acC_52 (pc := 25) C dX5_sayAlone_25 rfl ?_
      refine j_iconst (pc := 26) 1 C dX5_sayAlone_26 (by decide) ?_
      refine j_iload_n (pc := 27) 1 C dX5_sayAlone_27 rfl rfl ?_
      refine j_ishl (pc := 28) C dX5_sayAlone_28 ?_
      refine j_ior (pc := 29) C dX5_sayAlone_29 ?_
      refine scC_52 (pc := 30) C dX5_sayAlone_30 rfl ?_
      refine j_nxS (fun T7 => ?_)
      refine j_goto (pc := 31) 56 C dX5_sayAlone_31 (by decide) ?_
      refine j_iconst (pc := 56) 1 C dX5_sayAlone_56 (by decide) ?_
      exact j_zretc C dX5_sayAlone_57 rfl (Nat.le_of_ble_eq_true rfl) (Nat.le_of_ble_eq_true rfl) rfl
  ·
    refine j_iconst (pc := 8) 0 C dX5_sayAlone_8 (by decide) ?_
    exact j_zretc C dX5_sayAlone_9 rfl (Nat.le_of_ble_eq_true rfl) (Nat.le_of_ble_eq_true rfl) rfl
theorem cC_State_sayAlone_13 {l : Launch} {G : Gc} (hfl : l.stackTraces = false) (hW : Wok G wC 54)   (x1 : Int32) (S : St) : Ct l yX5_sayAlone (Cond.code yX5_sayAlone cX5_sayAlone 2 (some .boolean) :: tblG) 4 0 0 G wC 54 [.ref (gA G 13), .int x1] S (fC_State_sayAlone_13 x1 S) := ct_of (own := RX5) hfl (by decide +kernel) rfl hW (Nat.le_of_ble_eq_true rfl) (fun E hE C => by subst hE; exact bC_State_sayAlone_13 C   x1 S)
theorem rC_State_sayAlone_13 {E : Ec} {G : Gc} {nL mc ms : Nat} {own : String} {cc : ByteArray} {L : Nat} {ret : Option FieldType} {k n pc ix : Nat} {loc : List (Nat × Value)} {rest : List Value}  {x1 : Int32} {S : St}  (C : JC E (VC G nL mc ms own) cc L ret) (hd : decode cc pc = .ok (.invokevirtual ix, 3)) (hq : Cond.methodLink own ix yX5_sayAlone ∈ tblG) (hL : 4 + 1 ≤ L) (hW : (rest.map fun v => v.category).sum ≤ 8) (hf : k + 0 ≤ mc ∧ n + 0 ≤ ms) : Rn E (VC G nL mc ms own) k n 0 0 pc loc (.int x1 :: .ref (gA G 13) :: rest) rest S (fC_State_sayAlone_13 x1 S) := rn_V (ci := 5) 13 (V := VC G nL mc ms own) (As := [.int x1]) (Cq := (RX5, TX5, 3)) (cC_State_sayAlone_13 C.flags C.wok  x1 S) knX5_sayAlone ⟨q_384, q_385⟩ rfl rfl C hd hq hL rfl rfl hW hf

theorem knX2_liveWeek : Kn yX2_liveWeek cX2_liveWeek 4 none 1 := ⟨q_769, q_603, by decide +kernel, by decide⟩
theorem bC_Outlook_liveWeek {E : Ec} {G : Gc}    (C : JC E (VC G 4 0 0 RX2) cX2_liveWeek 6 none)    (x1 : Int32) (S : St) : J E (VC G 4 0 0 RX2) 0 0 0 [(0, .ref (gA G 11)), (1, .int x1)] [] S (fC_Outlook_liveWeek  x1 S) := by
  unfold fC_Outlook_liveWeek
  refine j_aload_n (pc := 0) 0 C dX2_liveWeek_0 rfl rfl ?_
  refine j_aload_n (pc := 1) 0 C dX2_liveWeek_1 rfl rfl ?_
  refine gC_11_0 (pc := 2) C dX2_liveWeek_2 q_599 ?_
  refine gC_2_1 (pc := 5) C dX2_liveWeek_5 q_600 ?_
  refine j_callI0 (pc := 8) C (rC_Outlook_draw C dX2_liveWeek_8 q_766 (by omega) (Nat.le_of_ble_eq_true rfl) ⟨Nat.le_of_ble_eq_true rfl, Nat.le_of_ble_eq_true rfl⟩) ⟨Nat.le_of_ble_eq_true rfl, Nat.le_of_ble_eq_true rfl⟩ (fun r2 T1 => ?_)
  refine j_istore_n (pc := 11) [(2, .int r2), (0, .ref (gA G 11)), (1, .int x1)] C dX2_liveWeek_11 rfl (Nat.le_of_ble_eq_true rfl) rfl ?_
  refine j_aload_n (pc := 12) 1 C dX2_liveWeek_12 rfl rfl ?_
  refine j_aload_n (pc := 13) 1 C dX2_liveWeek_13 rfl rfl ?_
  refine gC_11_0 (pc := 14) C dX2_liveWeek_14 q_599 ?_
  refine gC_2_0 (pc := 17) C dX2_liveWeek_17 q_669 ?_
  refine j_callI0 (pc := 20) C (rC_Outlook_draw C dX2_liveWeek_20 q_766 (by omega) (Nat.le_of_ble_eq_true rfl) ⟨Nat.le_of_ble_eq_true rfl, Nat.le_of_ble_eq_true rfl⟩) ⟨Nat.le_of_ble_eq_true rfl, Nat.le_of_ble_eq_true rfl⟩ (fun r4 T3 => ?_)
  refine j_istore_n (pc := 23) [(3, .int r4), (2, .int r2), (0, .ref (gA G 11)), (1, .int x1)] C dX2_liveWeek_23 rfl (Nat.le_of_ble_eq_true rfl) rfl ?_
  refine j_aload_n (pc := 24) 2 C dX2_liveWeek_24 rfl rfl ?_
  refine gC_11_2 (pc := 25) C dX2_liveWeek_25 q_592 ?_
  refine j_iload_n (pc := 28) 1 C dX2_liveWeek_28 rfl rfl ?_
  refine j_iload_n (pc := 29) 0 C dX2_liveWeek_29 rfl rfl ?_
  refine j_callI0 (pc := 30) C (rC_State_teach_13 C dX2_liveWeek_30 q_611 (by omega) (Nat.le_of_ble_eq_true rfl) ⟨Nat.le_of_ble_eq_true rfl, Nat.le_of_ble_eq_true rfl⟩) ⟨Nat.le_of_ble_eq_true rfl, Nat.le_of_ble_eq_true rfl⟩ (fun r6 T5 => ?_)
  refine j_pop (pc := 33) C dX2_liveWeek_33 rfl ?_
  refine j_aload_n (pc := 34) 2 C dX2_liveWeek_34 rfl rfl ?_
  refine j_bipush (pc := 35) 16 C dX2_liveWeek_35 (by decide) ?_
  refine j_callI0 (pc := 37) C (rC_Outlook_draw C dX2_liveWeek_37 q_766 (by omega) (Nat.le_of_ble_eq_true rfl) ⟨Nat.le_of_ble_eq_true rfl, Nat.le_of_ble_eq_true rfl⟩) ⟨Nat.le_of_ble_eq_true rfl, Nat.le_of_ble_eq_true rfl⟩ (fun r8 T7 => ?_)
  refine j_iload_n (pc := 40) 3 C dX2_liveWeek_40 rfl rfl ?_
  refine j_icmp_ge (pc := 41) 73 C dX2_liveWeek_41 (by decide) ?_ ?_
  ·
    exact j_vret C dX2_liveWeek_73 rfl (Nat.le_of_ble_eq_true rfl) (Nat.le_of_ble_eq_true rfl)
  ·
    refine j_aload_n (pc := 44) 2 C dX2_liveWeek_44 rfl rfl ?_
    refine gC_11_0 (pc := 45) C dX2_liveWeek_45 q_599 ?_
    refine gC_2_2 (pc := 48) C dX2_liveWeek_48 q_767 ?_
    refine j_if_le (pc := 51) 73 C dX2_liveWeek_51 (by decide) ?_ ?_
    ·
      exact j_vret C dX2_liveWeek_73 rfl (Nat.le_of_ble_eq_true rfl) (Nat.le_of_ble_eq_true rfl)
    ·
      refine j_aload_n (pc := 54) 2 C dX2_liveWeek_54 rfl rfl ?_
      refine gC_11_2 (pc := 55) C dX2_liveWeek_55 q_592 ?_
      refine j_aload_n (pc := 58) 2 C dX2_liveWeek_58 rfl rfl ?_
      refine j_aload_n (pc := 59) 2 C dX2_liveWeek_59 rfl rfl ?_
      refine gC_11_0 (pc := 60) C dX2_liveWeek_60 q_599 ?_
      refine gC_2_2 (pc := 63) C dX2_liveWeek_63 q_767 ?_
      refine j_callI0 (pc := 66) C (rC_Outlook_draw C dX2_liveWeek_66 q_766 (by omega) (Nat.le_of_ble_eq_true rfl) ⟨Nat.le_of_ble_eq_true rfl, Nat.le_of_ble_eq_true rfl⟩) ⟨Nat.le_of_ble_eq_true rfl, Nat.le_of_ble_eq_true rfl⟩ (fun r10 T9 => ?_)
      refine j_callI0 (pc := 69) C (rC_State_sayAlone_13 C dX2_liveWeek_69 q_768 (by omega) (Nat.le_of_ble_eq_true rfl) ⟨Nat.le_of_ble_eq_true rfl, Nat.le_of_ble_eq_true rfl⟩) ⟨Nat.le_of_ble_eq_true rfl, Nat.le_of_ble_eq_true rfl⟩ (fun r12 T11 => ?_)
      refine j_pop (pc := 72) C dX2_liveWeek_72 rfl ?_
      exact j_vret C dX2_liveWeek_73 rfl (Nat.le_of_ble_eq_true rfl) (Nat.le_of_ble_eq_true rfl)
theorem cC_Outlook_liveWeek {l : Launch} {G : Gc} (hfl : l.stackTraces = false) (hW : Wok G wC 54)   (x1 : Int32) (S : St) : Ct l yX2_liveWeek (Cond.code yX2_liveWeek cX2_liveWeek 4 none :: tblG) 6 0 0 G wC 54 [.ref (gA G 11), .int x1] S (fC_Outlook_liveWeek x1 S) := ct_of (own := RX2) hfl (by decide +kernel) rfl hW (Nat.le_of_ble_eq_true rfl) (fun E hE C => by subst hE; exact bC_Outlook_liveWeek C   x1 S)
theorem rC_Outlook_liveWeek {E : Ec} {G : Gc} {nL mc ms : Nat} {own : String} {cc : ByteArray} {L : Nat} {ret : Option FieldType} {k n pc ix : Nat} {loc : List (Nat × Value)} {rest : List Value}  {x1 : Int32} {S : St}  (C : JC E (VC G nL mc ms own) cc L ret) (hd : decode cc pc = .ok (.invokevirtual ix, 3)) (hq : Cond.methodLink own ix yX2_liveWeek ∈ tblG) (hL : 6 + 1 ≤ L) (hW : (rest.map fun v => v.category).sum ≤ 8) (hf : k + 0 ≤ mc ∧ n + 0 ≤ ms) : Rn E (VC G nL mc ms own) k n 0 0 pc loc (.int x1 :: .ref (gA G 11) :: rest) rest S (fC_Outlook_liveWeek x1 S) := rn_V (ci := 2) 11 (V := VC G nL mc ms own) (As := [.int x1]) (Cq := (RX2, TX2, 4)) (cC_Outlook_liveWeek C.flags C.wok  x1 S) knX2_liveWeek ⟨q_770, q_771⟩ rfl rfl C hd hq hL rfl rfl hW hf

theorem knX2_afterSeason : Kn yX2_afterSeason cX2_afterSeason 5 (some (.object "PaidByHeart$State")) 3 := ⟨q_773, q_603, by decide +kernel, by decide⟩
theorem bC_Outlook_afterSeason_50 {E : Ec} {G : Gc}   {K19 : Int32 → Int32 → Int32 → St → Oz} (C : JC E (VC G 5 0 0 RX2) cX2_afterSeason 7 (some (.object "PaidByHeart$State")))   (hK19 : ∀ (x2 : Int32) (x3 : Int32) (x4 : Int32) (S : St), J E (VC G 5 0 0 RX2) 0 0 19 [(0, .ref (gA G 11)), (2, .int x2), (3, .int x3), (4, .int x4)] [] S (K19 x2 x3 x4 S)) (x2 : Int32) (x3 : Int32) (x4 : Int32) (S : St) : J E (VC G 5 0 0 RX2) 0 0 50 [(0, .ref (gA G 11)), (2, .int x2), (3, .int x3), (4, .int x4)] [] S (fC_Outlook_afterSeason_50 K19 x2 x3 x4 S) := by
  unfold fC_Outlook_afterSeason_50
  refine j_aload_n (pc := 50) 0 C dX2_afterSeason_50 rfl rfl ?_
  refine gC_11_2 (pc := 51) C dX2_afterSeason_51 q_592 ?_
  refine j_iconst (pc := 54) 0 C dX2_afterSeason_54 (by decide) ?_
  refine j_aload_n (pc := 55) 0 C dX2_afterSeason_55 rfl rfl ?_
  refine gC_11_0 (pc := 56) C dX2_afterSeason_56 q_599 ?_
  refine gC_2_1 (pc := 59) C dX2_afterSeason_59 q_600 ?_
  refine j_callv0 (pc := 62) C (rC_State_endWeek_13 C dX2_afterSeason_62 q_601 (by omega) (Nat.le_of_ble_eq_true rfl) ⟨Nat.le_of_ble_eq_true rfl, Nat.le_of_ble_eq_true rfl⟩) ⟨Nat.le_of_ble_eq_true rfl, Nat.le_of_ble_eq_true rfl⟩ (fun T1 => ?_)
  refine j_iinc (pc := 65) 3 (x4 + 1) [(4, .int (x4 + 1)), (0, .ref (gA G 11)), (2, .int x2), (3, .int x3)] C dX2_afterSeason_65 rfl rfl (Nat.le_of_ble_eq_true rfl) rfl ?_
  refine j_goto (pc := 68) 19 C dX2_afterSeason_68 (by decide) ?_
  refine j_sub [1, 2, 3, 0] rfl ?_
  exact hK19 x2 x3 (x4 + 1) T1
theorem bC_Outlook_afterSeason_19 {E : Ec} {G : Gc}    (C : JC E (VC G 5 0 0 RX2) cX2_afterSeason 7 (some (.object "PaidByHeart$State")))    : ∀ (n : Nat) (x2 : Int32) (x3 : Int32) (x4 : Int32) (S : St), J E (VC G 5 0 0 RX2) 0 0 19 [(0, .ref (gA G 11)), (2, .int x2), (3, .int x3), (4, .int x4)] [] S (fC_Outlook_afterSeason_19  n x2 x3 x4 S) := by
  intro n
  induction n with
  | zero => intro x2 x3 x4 S; rw [fC_Outlook_afterSeason_19]; exact j_none
  | succ n ih =>
    intro x2 x3 x4 S
    rw [fC_Outlook_afterSeason_19]
    refine j_iload (pc := 19) 3 C dX2_afterSeason_19 rfl ?_
    refine j_iload_n (pc := 21) 2 C dX2_afterSeason_21 rfl rfl ?_
    refine j_icmp_ge (pc := 22) 71 C dX2_afterSeason_22 (by decide) ?_ ?_
    ·
      refine j_aload_n (pc := 71) 0 C dX2_afterSeason_71 rfl rfl ?_
      refine gC_11_2 (pc := 72) C dX2_afterSeason_72 q_592 ?_
      exact j_aret C dX2_afterSeason_75 rfl (Nat.le_of_ble_eq_true rfl) (Nat.le_of_ble_eq_true rfl)
    ·
      refine j_aload_n (pc := 25) 0 C dX2_afterSeason_25 rfl rfl ?_
      refine gC_11_0 (pc := 26) C dX2_afterSeason_26 q_599 ?_
      refine gC_2_1 (pc := 29) C dX2_afterSeason_29 q_600 ?_
      refine j_if_le (pc := 32) 50 C dX2_afterSeason_32 (by decide) ?_ ?_
      ·
        exact bC_Outlook_afterSeason_50 C ih x2 x3 x4 S
      ·
        refine j_aload_n (pc := 35) 0 C dX2_afterSeason_35 rfl rfl ?_
        refine gC_11_0 (pc := 36) C dX2_afterSeason_36 q_599 ?_
        refine gC_2_0 (pc := 39) C dX2_afterSeason_39 q_669 ?_
        refine j_if_le (pc := 42) 50 C dX2_afterSeason_42 (by decide) ?_ ?_
        ·
          exact bC_Outlook_afterSeason_50 C ih x2 x3 x4 S
        ·
          refine j_aload_n (pc := 45) 0 C dX2_afterSeason_45 rfl rfl ?_
          refine j_iload_n (pc := 46) 1 C dX2_afterSeason_46 rfl rfl ?_
          refine j_callv0 (pc := 47) C (rC_Outlook_liveWeek C dX2_afterSeason_47 q_772 (by omega) (Nat.le_of_ble_eq_true rfl) ⟨Nat.le_of_ble_eq_true rfl, Nat.le_of_ble_eq_true rfl⟩) ⟨Nat.le_of_ble_eq_true rfl, Nat.le_of_ble_eq_true rfl⟩ (fun T1 => ?_)
          exact bC_Outlook_afterSeason_50 C ih x2 x3 x4 T1
theorem bC_Outlook_afterSeason {E : Ec} {G : Gc}    (C : JC E (VC G 5 0 0 RX2) cX2_afterSeason 7 (some (.object "PaidByHeart$State")))    (x1 : Int32) (x2 : Int32) (x3 : Int32) (S : St) : J E (VC G 5 0 0 RX2) 0 0 0 [(0, .ref (gA G 11)), (1, .int x1), (2, .int x2), (3, .int x3)] [] S (fC_Outlook_afterSeason  x1 x2 x3 S) := by
  unfold fC_Outlook_afterSeason
  refine j_aload_n (pc := 0) 0 C dX2_afterSeason_0 rfl rfl ?_
  refine gC_11_2 (pc := 1) C dX2_afterSeason_1 q_592 ?_
  refine j_aload_n (pc := 4) 0 C dX2_afterSeason_4 rfl rfl ?_
  refine gC_11_1 (pc := 5) C dX2_afterSeason_5 q_593 ?_
  refine j_callv0 (pc := 8) C (rC_State_copyFrom_13 C dX2_afterSeason_8 q_598 (by omega) (Nat.le_of_ble_eq_true rfl) ⟨Nat.le_of_ble_eq_true rfl, Nat.le_of_ble_eq_true rfl⟩) ⟨Nat.le_of_ble_eq_true rfl, Nat.le_of_ble_eq_true rfl⟩ (fun T1 => ?_)
  refine j_aload_n (pc := 11) 0 C dX2_afterSeason_11 rfl rfl ?_
  refine j_iload_n (pc := 12) 1 C dX2_afterSeason_12 rfl rfl ?_
  refine pC_11_3 (pc := 13) C dX2_afterSeason_13 q_761 ?_
  refine j_nxS (fun T3 => ?_)
  refine j_iconst (pc := 16) 0 C dX2_afterSeason_16 (by decide) ?_
  refine j_istore (pc := 17) [(4, .int 0), (0, .ref (gA G 11)), (1, .int x1), (2, .int x2), (3, .int x3)] C dX2_afterSeason_17 (Nat.le_of_ble_eq_true rfl) rfl ?_
  refine j_sub [1, 3, 4, 0] rfl ?_
  exact bC_Outlook_afterSeason_19 C  FU x2 x3 0 T3
theorem cC_Outlook_afterSeason {l : Launch} {G : Gc} (hfl : l.stackTraces = false) (hW : Wok G wC 54)   (x1 : Int32) (x2 : Int32) (x3 : Int32) (S : St) : Ct l yX2_afterSeason (Cond.code yX2_afterSeason cX2_afterSeason 5 (some (.object "PaidByHeart$State")) :: tblG) 7 0 0 G wC 54 [.ref (gA G 11), .int x1, .int x2, .int x3] S (fC_Outlook_afterSeason x1 x2 x3 S) := ct_of (own := RX2) hfl (by decide +kernel) rfl hW (Nat.le_of_ble_eq_true rfl) (fun E hE C => by subst hE; exact bC_Outlook_afterSeason C   x1 x2 x3 S)
theorem rC_Outlook_afterSeason {E : Ec} {G : Gc} {nL mc ms : Nat} {own : String} {cc : ByteArray} {L : Nat} {ret : Option FieldType} {k n pc ix : Nat} {loc : List (Nat × Value)} {rest : List Value}  {x1 : Int32} {x2 : Int32} {x3 : Int32} {S : St}  (C : JC E (VC G nL mc ms own) cc L ret) (hd : decode cc pc = .ok (.invokevirtual ix, 3)) (hq : Cond.methodLink own ix yX2_afterSeason ∈ tblG) (hL : 7 + 1 ≤ L) (hW : (rest.map fun v => v.category).sum ≤ 8) (hf : k + 0 ≤ mc ∧ n + 0 ≤ ms) : Rn E (VC G nL mc ms own) k n 0 0 pc loc (.int x3 :: .int x2 :: .int x1 :: .ref (gA G 11) :: rest) rest S (fC_Outlook_afterSeason x1 x2 x3 S) := rn_V (ci := 2) 11 (V := VC G nL mc ms own) (As := [.int x1, .int x2, .int x3]) (Cq := (RX2, TX2, 4)) (cC_Outlook_afterSeason C.flags C.wok  x1 x2 x3 S) knX2_afterSeason ⟨q_774, q_775⟩ rfl rfl C hd hq hL rfl rfl hW hf

