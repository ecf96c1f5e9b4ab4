theorem knX10_season : Kn yX10_season cX10_season 8 (some .int) 4 := ⟨q_1265, q_815, by decide +kernel, by decide⟩
theorem bR_season_96 {E : Ec} {G : Gc}    (C : JC E (VR G 8 0 0 RX10) cX10_season 9 (some .int))    : ∀ (n : Nat) (x5 : Int32) (x6 : Int32) (x7 : Int32) (S : St), J E (VR G 8 0 0 RX10) 0 0 96 [(0, .ref (gA G 0)), (5, .int x5), (6, .int x6), (7, .int x7)] [] S (fR_season_96  n x5 x6 x7 S) := by
  intro n
  induction n with
  | zero => intro x5 x6 x7 S; rw [fR_season_96]; exact j_none
  | succ n ih =>
    intro x5 x6 x7 S
    rw [fR_season_96]
    refine j_iload (pc := 96) 3 C dX10_season_96 rfl ?_
    refine j_aload_n (pc := 98) 0 C dX10_season_98 rfl rfl ?_
    refine gR_0_21 (pc := 99) C dX10_season_99 q_881 ?_
    refine j_icmp_ge (pc := 102) 137 C dX10_season_102 (by decide) ?_ ?_
    ·
      refine j_iload (pc := 137) 2 C dX10_season_137 rfl ?_
      exact j_iret C dX10_season_139 rfl (Nat.le_of_ble_eq_true rfl) (Nat.le_of_ble_eq_true rfl)
    ·
      refine j_iload (pc := 105) 2 C dX10_season_105 rfl ?_
      refine j_aload_n (pc := 107) 0 C dX10_season_107 rfl rfl ?_
      refine gR_0_41 (pc := 108) C dX10_season_108 q_980 ?_
      refine j_iload (pc := 111) 1 C dX10_season_111 rfl ?_
      refine j_iload (pc := 113) 3 C dX10_season_113 rfl ?_
      refine j_iadd (pc := 115) C dX10_season_115 ?_
      refine aR_18 (pc := 116) C dX10_season_116 ?_
      refine j_aload_n (pc := 117) 0 C dX10_season_117 rfl rfl ?_
      refine gR_0_40 (pc := 118) C dX10_season_118 q_899 ?_
      refine j_iload (pc := 121) 1 C dX10_season_121 rfl ?_
      refine j_iload (pc := 123) 3 C dX10_season_123 rfl ?_
      refine j_iadd (pc := 125) C dX10_season_125 ?_
      refine aR_17 (pc := 126) C dX10_season_126 ?_
      refine j_isub (pc := 127) C dX10_season_127 ?_
      refine j_iadd (pc := 128) C dX10_season_128 ?_
      refine j_nxI (fun v1 => ?_)
      refine j_istore (pc := 129) [(6, .int v1), (0, .ref (gA G 0)), (5, .int x5), (7, .int x7)] C dX10_season_129 (Nat.le_of_ble_eq_true rfl) rfl ?_
      refine j_iinc (pc := 131) 3 (x7 + 1) [(7, .int (x7 + 1)), (6, .int v1), (0, .ref (gA G 0)), (5, .int x5)] C dX10_season_131 rfl rfl (Nat.le_of_ble_eq_true rfl) rfl ?_
      refine j_goto (pc := 134) 96 C dX10_season_134 (by decide) ?_
      refine j_sub [2, 3, 1, 0] rfl ?_
      exact ih x5 v1 (x7 + 1) S
theorem bR_season_29 {E : Ec} {G : Gc}    (C : JC E (VR G 8 0 0 RX10) cX10_season 9 (some .int))    (x1 : Int32) (x2 : Int32) (x3 : Int32) (x4 : Int32) (s0 : Int32) (S : St) : J E (VR G 8 0 0 RX10) 0 0 29 [(0, .ref (gA G 0)), (1, .int x1), (2, .int x2), (3, .int x3), (4, .int x4)] [.int s0, .ref (gA G 0)] S (fR_season_29  x1 x2 x3 x4 s0 S) := by
  unfold fR_season_29
  refine j_iconst (pc := 29) 1 C dX10_season_29 (by decide) ?_
  refine j_iconst (pc := 30) 1 C dX10_season_30 (by decide) ?_
  refine j_callI0 (pc := 31) C (rR_may C dX10_season_31 q_822 (by omega) (Nat.le_of_ble_eq_true rfl) ⟨Nat.le_of_ble_eq_true rfl, Nat.le_of_ble_eq_true rfl⟩) ⟨Nat.le_of_ble_eq_true rfl, Nat.le_of_ble_eq_true rfl⟩ (fun r2 T1 => ?_)
  refine j_if_ne (pc := 34) 39 C dX10_season_34 (by decide) ?_ ?_
  ·
    refine j_aload_n (pc := 39) 0 C dX10_season_39 rfl rfl ?_
    refine j_iload_n (pc := 40) 1 C dX10_season_40 rfl rfl ?_
    refine j_iload_n (pc := 41) 2 C dX10_season_41 rfl rfl ?_
    refine j_iload_n (pc := 42) 3 C dX10_season_42 rfl rfl ?_
    refine j_callv0 (pc := 43) C (rR_seasonGoes C dX10_season_43 q_1264 (by omega) (Nat.le_of_ble_eq_true rfl) ⟨Nat.le_of_ble_eq_true rfl, Nat.le_of_ble_eq_true rfl⟩) ⟨Nat.le_of_ble_eq_true rfl, Nat.le_of_ble_eq_true rfl⟩ (fun T3 => ?_)
    refine j_iload (pc := 46) 4 C dX10_season_46 rfl ?_
    refine j_iconst (pc := 48) 2 C dX10_season_48 (by decide) ?_
    refine j_icmp_ge (pc := 49) 75 C dX10_season_49 (by decide) ?_ ?_
    ·
      refine j_iload (pc := 75) 4 C dX10_season_75 rfl ?_
      refine j_iconst (pc := 77) 2 C dX10_season_77 (by decide) ?_
      refine j_icmp_ne (pc := 78) 86 C dX10_season_78 (by decide) ?_ ?_
      ·
        refine j_bipush (pc := 86) 60 C dX10_season_86 (by decide) ?_
        refine j_istore (pc := 88) [(5, .int 60), (0, .ref (gA G 0)), (1, .int x1), (2, .int x2), (3, .int x3), (4, .int x4)] C dX10_season_88 (Nat.le_of_ble_eq_true rfl) rfl ?_
        refine j_iconst (pc := 90) 0 C dX10_season_90 (by decide) ?_
        refine j_istore (pc := 91) [(6, .int 0), (5, .int 60), (0, .ref (gA G 0)), (1, .int x1), (2, .int x2), (3, .int x3), (4, .int x4)] C dX10_season_91 (Nat.le_of_ble_eq_true rfl) rfl ?_
        refine j_iconst (pc := 93) 0 C dX10_season_93 (by decide) ?_
        refine j_istore (pc := 94) [(7, .int 0), (6, .int 0), (5, .int 60), (0, .ref (gA G 0)), (1, .int x1), (2, .int x2), (3, .int x3), (4, .int x4)] C dX10_season_94 (Nat.le_of_ble_eq_true rfl) rfl ?_
        refine j_sub [3, 2, 1, 0] rfl ?_
        exact bR_season_96 C  FU 60 0 0 T3
      ·
        refine j_bipush (pc := 81) 72 C dX10_season_81 (by decide) ?_
        refine j_goto (pc := 83) 88 C dX10_season_83 (by decide) ?_
        refine j_istore (pc := 88) [(5, .int 72), (0, .ref (gA G 0)), (1, .int x1), (2, .int x2), (3, .int x3), (4, .int x4)] C dX10_season_88 (Nat.le_of_ble_eq_true rfl) rfl ?_
        refine j_iconst (pc := 90) 0 C dX10_season_90 (by decide) ?_
        refine j_istore (pc := 91) [(6, .int 0), (5, .int 72), (0, .ref (gA G 0)), (1, .int x1), (2, .int x2), (3, .int x3), (4, .int x4)] C dX10_season_91 (Nat.le_of_ble_eq_true rfl) rfl ?_
        refine j_iconst (pc := 93) 0 C dX10_season_93 (by decide) ?_
        refine j_istore (pc := 94) [(7, .int 0), (6, .int 0), (5, .int 72), (0, .ref (gA G 0)), (1, .int x1), (2, .int x2), (3, .int x3), (4, .int x4)] C dX10_season_94 (Nat.le_of_ble_eq_true rfl) rfl ?_
        refine j_sub [3, 2, 1, 0] rfl ?_
        exact bR_season_96 C  FU 72 0 0 T3
    ·
      refine j_iload (pc := 52) 4 C dX10_season_52 rfl ?_
      refine j_if_ne (pc := 54) 70 C dX10_season_54 (by decide) ?_ ?_
      ·
        refine j_aload_n (pc := 70) 0 C dX10_season_70 rfl rfl ?_
        refine j_callI0 (pc := 71) C (rR_allLines C dX10_season_71 q_1098 (by omega) (Nat.le_of_ble_eq_true rfl) ⟨Nat.le_of_ble_eq_true rfl, Nat.le_of_ble_eq_true rfl⟩) ⟨Nat.le_of_ble_eq_true rfl, Nat.le_of_ble_eq_true rfl⟩ (fun r6 T5 => ?_)
        exact j_iret C dX10_season_74 rfl (Nat.le_of_ble_eq_true rfl) (Nat.le_of_ble_eq_true rfl)
      ·
        refine j_aload_n (pc := 57) 0 C dX10_season_57 rfl rfl ?_
        refine j_bipush (pc := 58) 84 C dX10_season_58 (by decide) ?_
        refine j_aload_n (pc := 60) 0 C dX10_season_60 rfl rfl ?_
        refine gR_0_22 (pc := 61) C dX10_season_61 q_882 ?_
        refine j_callI0 (pc := 64) C (rR_bitsOf C dX10_season_64 q_1102 (by omega) (Nat.le_of_ble_eq_true rfl) ⟨Nat.le_of_ble_eq_true rfl, Nat.le_of_ble_eq_true rfl⟩) ⟨Nat.le_of_ble_eq_true rfl, Nat.le_of_ble_eq_true rfl⟩ (fun r8 T7 => ?_)
        refine j_goto (pc := 67) 74 C dX10_season_67 (by decide) ?_
        exact j_iret C dX10_season_74 rfl (Nat.le_of_ble_eq_true rfl) (Nat.le_of_ble_eq_true rfl)
  ·
    refine j_iconst (pc := 37) 0 C dX10_season_37 (by decide) ?_
    exact j_iret C dX10_season_38 rfl (Nat.le_of_ble_eq_true rfl) (Nat.le_of_ble_eq_true rfl)
theorem bR_season_28 {E : Ec} {G : Gc}    (C : JC E (VR G 8 0 0 RX10) cX10_season 9 (some .int))    (x1 : Int32) (x2 : Int32) (x3 : Int32) (x4 : Int32) (S : St) : J E (VR G 8 0 0 RX10) 0 0 28 [(0, .ref (gA G 0)), (1, .int x1), (2, .int x2), (3, .int x3), (4, .int x4)] [.ref (gA G 0)] S (fR_season_28  x1 x2 x3 x4 S) := by
  unfold fR_season_28
  refine j_iconst (pc := 28) 0 C dX10_season_28 (by decide) ?_
  exact bR_season_29 C  x1 x2 x3 x4 0 S
theorem bR_season {E : Ec} {G : Gc}    (C : JC E (VR G 8 0 0 RX10) cX10_season 9 (some .int))    (x1 : Int32) (x2 : Int32) (x3 : Int32) (x4 : Int32) (S : St) : J E (VR G 8 0 0 RX10) 0 0 0 [(0, .ref (gA G 0)), (1, .int x1), (2, .int x2), (3, .int x3), (4, .int x4)] [] S (fR_season  x1 x2 x3 x4 S) := by
  unfold fR_season
  refine j_aload_n (pc := 0) 0 C dX10_season_0 rfl rfl ?_
  refine j_iconst (pc := 1) 0 C dX10_season_1 (by decide) ?_
  refine pR_0_0 (pc := 2) C dX10_season_2 q_811 ?_
  refine j_nxS (fun T1 => ?_)
  refine j_aload_n (pc := 5) 0 C dX10_season_5 rfl rfl ?_
  refine j_iload_n (pc := 6) 2 C dX10_season_6 rfl rfl ?_
  refine j_iload_n (pc := 7) 3 C dX10_season_7 rfl rfl ?_
  refine j_callI0 (pc := 8) C (rR_isSeason C dX10_season_8 q_1254 (by omega) (Nat.le_of_ble_eq_true rfl) ⟨Nat.le_of_ble_eq_true rfl, Nat.le_of_ble_eq_true rfl⟩) ⟨Nat.le_of_ble_eq_true rfl, Nat.le_of_ble_eq_true rfl⟩ (fun r3 T2 => ?_)
  refine j_if_eq (pc := 11) 28 C dX10_season_11 (by decide) ?_ ?_
  ·
    exact bR_season_28 C  x1 x2 x3 x4 T2
  ·
    refine j_iload (pc := 14) 4 C dX10_season_14 rfl ?_
    refine j_iconst (pc := 16) 0 C dX10_season_16 (by decide) ?_
    refine j_iconst (pc := 17) 3 C dX10_season_17 (by decide) ?_
    refine j_callI0 (pc := 18) C (rR_within C dX10_season_18 q_1094 (by omega) (Nat.le_of_ble_eq_true rfl) ⟨Nat.le_of_ble_eq_true rfl, Nat.le_of_ble_eq_true rfl⟩) ⟨Nat.le_of_ble_eq_true rfl, Nat.le_of_ble_eq_true rfl⟩ (fun r5 T4 => ?_)
    refine j_if_eq (pc := 21) 28 C dX10_season_21 (by decide) ?_ ?_
    ·
      exact bR_season_28 C  x1 x2 x3 x4 T4
    ·
      refine j_iconst (pc := 24) 1 C dX10_season_24 (by decide) ?_
      refine j_goto (pc := 25) 29 C dX10_season_25 (by decide) ?_
      exact bR_season_29 C  x1 x2 x3 x4 1 T4
theorem cR_season {l : Launch} {G : Gc} (hfl : l.stackTraces = false) (hW : Wok G wR 26)   (x1 : Int32) (x2 : Int32) (x3 : Int32) (x4 : Int32) (S : St) : Ct l yX10_season (Cond.code yX10_season cX10_season 8 (some .int) :: tblG) 9 0 0 G wR 26 [.ref (gA G 0), .int x1, .int x2, .int x3, .int x4] S (fR_season x1 x2 x3 x4 S) := ct_of (own := RX10) hfl (by decide +kernel) rfl hW (Nat.le_of_ble_eq_true rfl) (fun E hE C => by subst hE; exact bR_season C   x1 x2 x3 x4 S)
theorem rR_season {E : Ec} {G : Gc} {nL mc ms : Nat} {own : String} {cc : ByteArray} {L : Nat} {ret : Option FieldType} {k n pc ix : Nat} {loc : List (Nat × Value)} {rest : List Value}  {x1 : Int32} {x2 : Int32} {x3 : Int32} {x4 : Int32} {S : St}  (C : JC E (VR G nL mc ms own) cc L ret) (hd : decode cc pc = .ok (.invokevirtual ix, 3)) (hq : Cond.methodLink own ix yX10_season ∈ tblG) (hL : 9 + 1 ≤ L) (hW : (rest.map fun v => v.category).sum ≤ 8) (hf : k + 0 ≤ mc ∧ n + 0 ≤ ms) : Rn E (VR G nL mc ms own) k n 0 0 pc loc (.int x4 :: .int x3 :: .int x2 :: .int x1 :: .ref (gA G 0) :: rest) rest S (fR_season x1 x2 x3 x4 S) := rn_V (ci := 10) 0 (V := VR G nL mc ms own) (As := [.int x1, .int x2, .int x3, .int x4]) (Cq := (RX10, TX10, 53)) (cR_season C.flags C.wok  x1 x2 x3 x4 S) knX10_season ⟨q_1266, q_1267⟩ rfl rfl C hd hq hL rfl rfl hW hf

theorem knX10_span : Kn yX10_span cX10_span 12 (some .int) 6 := ⟨q_1268, q_815, by decide +kernel, by decide⟩
theorem bR_span_136 {E : Ec} {G : Gc}   {K77 : Int32 → Int32 → Int32 → Int32 → Int32 → Int32 → Int32 → Int32 → Int32 → Int32 → St → Oz} (C : JC E (VR G 12 0 0 RX10) cX10_span 9 (some .int))   (hK77 : ∀ (x1 : Int32) (x2 : Int32) (x3 : Int32) (x4 : Int32) (x5 : Int32) (x6 : Int32) (x7 : Int32) (x8 : Int32) (x9 : Int32) (x10 : Int32) (S : St), J E (VR G 12 0 0 RX10) 0 0 77 [(0, .ref (gA G 0)), (1, .int x1), (2, .int x2), (3, .int x3), (4, .int x4), (5, .int x5), (6, .int x6), (7, .int x7), (8, .int x8), (9, .int x9), (10, .int x10)] [] S (K77 x1 x2 x3 x4 x5 x6 x7 x8 x9 x10 S)) (x1 : Int32) (x2 : Int32) (x3 : Int32) (x4 : Int32) (x5 : Int32) (x6 : Int32) (x7 : Int32) (x9 : Int32) (x10 : Int32) (s0 : Int32) (S : St) : J E (VR G 12 0 0 RX10) 0 0 136 [(0, .ref (gA G 0)), (1, .int x1), (2, .int x2), (3, .int x3), (4, .int x4), (5, .int x5), (6, .int x6), (7, .int x7), (9, .int x9), (10, .int x10)] [.int s0] S (fR_span_136 K77 x1 x2 x3 x4 x5 x6 x7 x9 x10 s0 S) := by
  unfold fR_span_136
  refine j_istore (pc := 136) [(8, .int s0), (0, .ref (gA G 0)), (1, .int x1), (2, .int x2), (3, .int x3), (4, .int x4), (5, .int x5), (6, .int x6), (7, .int x7), (9, .int x9), (10, .int x10)] C dX10_span_136 (Nat.le_of_ble_eq_true rfl) rfl ?_
  refine j_iload (pc := 138) 9 C dX10_span_138 rfl ?_
  refine j_aload_n (pc := 140) 1 C dX10_span_140 rfl rfl ?_
  refine gR_0_41 (pc := 141) C dX10_span_141 q_980 ?_
  refine j_bipush (pc := 144) 84 C dX10_span_144 (by decide) ?_
  refine j_iload (pc := 146) 7 C dX10_span_146 rfl ?_
  refine j_iadd (pc := 148) C dX10_span_148 ?_
  refine aR_18 (pc := 149) C dX10_span_149 ?_
  refine j_iadd (pc := 150) C dX10_span_150 ?_
  refine j_nxI (fun v1 => ?_)
  refine j_istore (pc := 151) [(9, .int v1), (8, .int s0), (0, .ref (gA G 0)), (1, .int x1), (2, .int x2), (3, .int x3), (4, .int x4), (5, .int x5), (6, .int x6), (7, .int x7), (10, .int x10)] C dX10_span_151 (Nat.le_of_ble_eq_true rfl) rfl ?_
  refine j_iinc (pc := 153) 10 (x10 + 1) [(10, .int (x10 + 1)), (9, .int v1), (8, .int s0), (0, .ref (gA G 0)), (1, .int x1), (2, .int x2), (3, .int x3), (4, .int x4), (5, .int x5), (6, .int x6), (7, .int x7)] C dX10_span_153 rfl rfl (Nat.le_of_ble_eq_true rfl) rfl ?_
  refine j_goto (pc := 156) 77 C dX10_span_156 (by decide) ?_
  refine j_sub [3, 4, 5, 6, 7, 8, 9, 10, 2, 1, 0] rfl ?_
  exact hK77 x1 x2 x3 x4 x5 x6 x7 s0 v1 (x10 + 1) S
theorem bR_span_120 {E : Ec} {G : Gc}   {K77 : Int32 → Int32 → Int32 → Int32 → Int32 → Int32 → Int32 → Int32 → Int32 → Int32 → St → Oz} (C : JC E (VR G 12 0 0 RX10) cX10_span 9 (some .int))   (hK77 : ∀ (x1 : Int32) (x2 : Int32) (x3 : Int32) (x4 : Int32) (x5 : Int32) (x6 : Int32) (x7 : Int32) (x8 : Int32) (x9 : Int32) (x10 : Int32) (S : St), J E (VR G 12 0 0 RX10) 0 0 77 [(0, .ref (gA G 0)), (1, .int x1), (2, .int x2), (3, .int x3), (4, .int x4), (5, .int x5), (6, .int x6), (7, .int x7), (8, .int x8), (9, .int x9), (10, .int x10)] [] S (K77 x1 x2 x3 x4 x5 x6 x7 x8 x9 x10 S)) (x1 : Int32) (x2 : Int32) (x3 : Int32) (x4 : Int32) (x5 : Int32) (x6 : Int32) (x8 : Int32) (x9 : Int32) (x10 : Int32) (x11 : Int32) (s0 : Int32) (S : St) : J E (VR G 12 0 0 RX10) 0 0 120 [(0, .ref (gA G 0)), (1, .int x1), (2, .int x2), (3, .int x3), (4, .int x4), (5, .int x5), (6, .int x6), (8, .int x8), (9, .int x9), (10, .int x10), (11, .int x11)] [.int s0] S (fR_span_120 K77 x1 x2 x3 x4 x5 x6 x8 x9 x10 x11 s0 S) := by
  unfold fR_span_120
  refine j_istore (pc := 120) [(7, .int s0), (0, .ref (gA G 0)), (1, .int x1), (2, .int x2), (3, .int x3), (4, .int x4), (5, .int x5), (6, .int x6), (8, .int x8), (9, .int x9), (10, .int x10), (11, .int x11)] C dX10_span_120 (Nat.le_of_ble_eq_true rfl) rfl ?_
  refine j_iload (pc := 122) 11 C dX10_span_122 rfl ?_
  refine j_iload (pc := 124) 8 C dX10_span_124 rfl ?_
  refine j_icmp_le (pc := 126) 134 C dX10_span_126 (by decide) ?_ ?_
  ·
    refine j_iload (pc := 134) 8 C dX10_span_134 rfl ?_
    refine j_sub [1, 2, 3, 4, 5, 6, 7, 0, 9, 10] rfl ?_
    exact bR_span_136 C hK77 x1 x2 x3 x4 x5 x6 s0 x9 x10 x8 S
  ·
    refine j_iload (pc := 129) 11 C dX10_span_129 rfl ?_
    refine j_goto (pc := 131) 136 C dX10_span_131 (by decide) ?_
    refine j_sub [1, 2, 3, 4, 5, 6, 7, 0, 9, 10] rfl ?_
    exact bR_span_136 C hK77 x1 x2 x3 x4 x5 x6 s0 x9 x10 x11 S
theorem bR_span_113 {E : Ec} {G : Gc}   {K77 : Int32 → Int32 → Int32 → Int32 → Int32 → Int32 → Int32 → Int32 → Int32 → Int32 → St → Oz} (C : JC E (VR G 12 0 0 RX10) cX10_span 9 (some .int))   (hK77 : ∀ (x1 : Int32) (x2 : Int32) (x3 : Int32) (x4 : Int32) (x5 : Int32) (x6 : Int32) (x7 : Int32) (x8 : Int32) (x9 : Int32) (x10 : Int32) (S : St), J E (VR G 12 0 0 RX10) 0 0 77 [(0, .ref (gA G 0)), (1, .int x1), (2, .int x2), (3, .int x3), (4, .int x4), (5, .int x5), (6, .int x6), (7, .int x7), (8, .int x8), (9, .int x9), (10, .int x10)] [] S (K77 x1 x2 x3 x4 x5 x6 x7 x8 x9 x10 S)) (x1 : Int32) (x2 : Int32) (x3 : Int32) (x4 : Int32) (x5 : Int32) (x6 : Int32) (x8 : Int32) (x9 : Int32) (x10 : Int32) (x11 : Int32) (S : St) : J E (VR G 12 0 0 RX10) 0 0 113 [(0, .ref (gA G 0)), (1, .int x1), (2, .int x2), (3, .int x3), (4, .int x4), (5, .int x5), (6, .int x6), (8, .int x8), (9, .int x9), (10, .int x10), (11, .int x11)] [] S (fR_span_113 K77 x1 x2 x3 x4 x5 x6 x8 x9 x10 x11 S) := by
  unfold fR_span_113
  refine j_iload (pc := 113) 10 C dX10_span_113 rfl ?_
  refine j_goto (pc := 115) 120 C dX10_span_115 (by decide) ?_
  exact bR_span_120 C hK77 x1 x2 x3 x4 x5 x6 x8 x9 x10 x11 x11 S
theorem bR_span_77 {E : Ec} {G : Gc}    (C : JC E (VR G 12 0 0 RX10) cX10_span 9 (some .int))    : ∀ (n : Nat) (x1 : Int32) (x2 : Int32) (x3 : Int32) (x4 : Int32) (x5 : Int32) (x6 : Int32) (x7 : Int32) (x8 : Int32) (x9 : Int32) (x10 : Int32) (S : St), J E (VR G 12 0 0 RX10) 0 0 77 [(0, .ref (gA G 0)), (1, .int x1), (2, .int x2), (3, .int x3), (4, .int x4), (5, .int x5), (6, .int x6), (7, .int x7), (8, .int x8), (9, .int x9), (10, .int x10)] [] S (fR_span_77  n x1 x2 x3 x4 x5 x6 x7 x8 x9 x10 S) := by
  intro n
  induction n with
  | zero => intro x1 x2 x3 x4 x5 x6 x7 x8 x9 x10 S; rw [fR_span_77]; exact j_none
  | succ n ih =>
    intro x1 x2 x3 x4 x5 x6 x7 x8 x9 x10 S
    rw [fR_span_77]
    refine j_iload (pc := 77) 10 C dX10_span_77 rfl ?_
    refine j_iload_n (pc := 79) 2 C dX10_span_79 rfl rfl ?_
    refine j_icmp_ge (pc := 80) 159 C dX10_span_80 (by decide) ?_ ?_
    ·
      refine j_iload (pc := 159) 5 C dX10_span_159 rfl ?_
      refine j_if_ne (pc := 161) 169 C dX10_span_161 (by decide) ?_ ?_
      ·
        refine j_iload (pc := 169) 5 C dX10_span_169 rfl ?_
        refine j_iconst (pc := 171) 1 C dX10_span_171 (by decide) ?_
        refine j_icmp_ne (pc := 172) 180 C dX10_span_172 (by decide) ?_ ?_
        ·
          refine j_iload (pc := 180) 9 C dX10_span_180 rfl ?_
          exact j_iret C dX10_span_182 rfl (Nat.le_of_ble_eq_true rfl) (Nat.le_of_ble_eq_true rfl)
        ·
          refine j_iload (pc := 175) 8 C dX10_span_175 rfl ?_
          refine j_goto (pc := 177) 182 C dX10_span_177 (by decide) ?_
          exact j_iret C dX10_span_182 rfl (Nat.le_of_ble_eq_true rfl) (Nat.le_of_ble_eq_true rfl)
      ·
        refine j_iload (pc := 164) 7 C dX10_span_164 rfl ?_
        refine j_goto (pc := 166) 182 C dX10_span_166 (by decide) ?_
        exact j_iret C dX10_span_182 rfl (Nat.le_of_ble_eq_true rfl) (Nat.le_of_ble_eq_true rfl)
    ·
      refine j_aload_n (pc := 83) 0 C dX10_span_83 rfl rfl ?_
      refine j_iload_n (pc := 84) 1 C dX10_span_84 rfl rfl ?_
      refine j_iload (pc := 85) 10 C dX10_span_85 rfl ?_
      refine j_iadd (pc := 87) C dX10_span_87 ?_
      refine j_iload_n (pc := 88) 3 C dX10_span_88 rfl rfl ?_
      refine j_iload (pc := 89) 4 C dX10_span_89 rfl ?_
      refine j_callv0 (pc := 91) C (rR_seasonGoes C dX10_span_91 q_1264 (by omega) (Nat.le_of_ble_eq_true rfl) ⟨Nat.le_of_ble_eq_true rfl, Nat.le_of_ble_eq_true rfl⟩) ⟨Nat.le_of_ble_eq_true rfl, Nat.le_of_ble_eq_true rfl⟩ (fun T1 => ?_)
      refine j_aload_n (pc := 94) 0 C dX10_span_94 rfl rfl ?_
      refine j_callI0 (pc := 95) C (rR_allLines C dX10_span_95 q_1098 (by omega) (Nat.le_of_ble_eq_true rfl) ⟨Nat.le_of_ble_eq_true rfl, Nat.le_of_ble_eq_true rfl⟩) ⟨Nat.le_of_ble_eq_true rfl, Nat.le_of_ble_eq_true rfl⟩ (fun r4 T3 => ?_)
      refine j_istore (pc := 98) [(11, .int r4), (0, .ref (gA G 0)), (1, .int x1), (2, .int x2), (3, .int x3), (4, .int x4), (5, .int x5), (6, .int x6), (7, .int x7), (8, .int x8), (9, .int x9), (10, .int x10)] C dX10_span_98 (Nat.le_of_ble_eq_true rfl) rfl ?_
      refine j_iload (pc := 100) 8 C dX10_span_100 rfl ?_
      refine j_iconst (pc := 102) (-1) C dX10_span_102 (by decide) ?_
      refine j_icmp_eq (pc := 103) 113 C dX10_span_103 (by decide) ?_ ?_
      ·
        refine j_sub [1, 2, 3, 4, 5, 6, 7, 9, 10, 11, 0] rfl ?_
        exact bR_span_113 C ih x1 x2 x3 x4 x5 x6 x8 x9 x10 r4 T3
      ·
        refine j_iload (pc := 106) 0 C dX10_span_106 rfl ?_
        refine j_iload (pc := 108) 8 C dX10_span_108 rfl ?_
        refine j_icmp_ge (pc := 110) 118 C dX10_span_110 (by decide) ?_ ?_
        ·
          refine j_iload (pc := 118) 8 C dX10_span_118 rfl ?_
          refine j_sub [1, 2, 3, 4, 5, 6, 7, 9, 10, 11, 0] rfl ?_
          exact bR_span_120 C ih x1 x2 x3 x4 x5 x6 x8 x9 x10 r4 x7 T3
        ·
          refine j_sub [1, 2, 3, 4, 5, 6, 7, 9, 10, 11, 0] rfl ?_
          exact bR_span_113 C ih x1 x2 x3 x4 x5 x6 x8 x9 x10 r4 T3
theorem bR_span_55 {E : Ec} {G : Gc}    (C : JC E (VR G 12 0 0 RX10) cX10_span 9 (some .int))    (x1 : Int32) (x2 : Int32) (x3 : Int32) (x4 : Int32) (x5 : Int32) (x6 : Int32) (s0 : Int32) (S : St) : J E (VR G 12 0 0 RX10) 0 0 55 [(0, .ref (gA G 0)), (1, .int x1), (2, .int x2), (3, .int x3), (4, .int x4), (5, .int x5), (6, .int x6)] [.int s0, .ref (gA G 0)] S (fR_span_55  x1 x2 x3 x4 x5 x6 s0 S) := by
  unfold fR_span_55
  refine j_iconst (pc := 55) 1 C dX10_span_55 (by decide) ?_
  refine j_iconst (pc := 56) 1 C dX10_span_56 (by decide) ?_
  refine j_callI0 (pc := 57) C (rR_may C dX10_span_57 q_822 (by omega) (Nat.le_of_ble_eq_true rfl) ⟨Nat.le_of_ble_eq_true rfl, Nat.le_of_ble_eq_true rfl⟩) ⟨Nat.le_of_ble_eq_true rfl, Nat.le_of_ble_eq_true rfl⟩ (fun r2 T1 => ?_)
  refine j_if_ne (pc := 60) 65 C dX10_span_60 (by decide) ?_ ?_
  ·
    refine j_iconst (pc := 65) (-1) C dX10_span_65 (by decide) ?_
    refine j_istore (pc := 66) [(7, .int (-1)), (0, .ref (gA G 0)), (1, .int x1), (2, .int x2), (3, .int x3), (4, .int x4), (5, .int x5), (6, .int x6)] C dX10_span_66 (Nat.le_of_ble_eq_true rfl) rfl ?_
    refine j_iconst (pc := 68) 0 C dX10_span_68 (by decide) ?_
    refine j_istore (pc := 69) [(8, .int 0), (7, .int (-1)), (0, .ref (gA G 0)), (1, .int x1), (2, .int x2), (3, .int x3), (4, .int x4), (5, .int x5), (6, .int x6)] C dX10_span_69 (Nat.le_of_ble_eq_true rfl) rfl ?_
    refine j_iconst (pc := 71) 0 C dX10_span_71 (by decide) ?_
    refine j_istore (pc := 72) [(9, .int 0), (8, .int 0), (7, .int (-1)), (0, .ref (gA G 0)), (1, .int x1), (2, .int x2), (3, .int x3), (4, .int x4), (5, .int x5), (6, .int x6)] C dX10_span_72 (Nat.le_of_ble_eq_true rfl) rfl ?_
    refine j_iconst (pc := 74) 0 C dX10_span_74 (by decide) ?_
    refine j_istore (pc := 75) [(10, .int 0), (9, .int 0), (8, .int 0), (7, .int (-1)), (0, .ref (gA G 0)), (1, .int x1), (2, .int x2), (3, .int x3), (4, .int x4), (5, .int x5), (6, .int x6)] C dX10_span_75 (Nat.le_of_ble_eq_true rfl) rfl ?_
    refine j_sub [4, 5, 6, 7, 8, 9, 10, 3, 2, 1, 0] rfl ?_
    exact bR_span_77 C  FU x1 x2 x3 x4 x5 x6 (-1) 0 0 0 T1
  ·
    refine j_iconst (pc := 63) 0 C dX10_span_63 (by decide) ?_
    exact j_iret C dX10_span_64 rfl (Nat.le_of_ble_eq_true rfl) (Nat.le_of_ble_eq_true rfl)
theorem bR_span_54 {E : Ec} {G : Gc}    (C : JC E (VR G 12 0 0 RX10) cX10_span 9 (some .int))    (x1 : Int32) (x2 : Int32) (x3 : Int32) (x4 : Int32) (x5 : Int32) (x6 : Int32) (S : St) : J E (VR G 12 0 0 RX10) 0 0 54 [(0, .ref (gA G 0)), (1, .int x1), (2, .int x2), (3, .int x3), (4, .int x4), (5, .int x5), (6, .int x6)] [.ref (gA G 0)] S (fR_span_54  x1 x2 x3 x4 x5 x6 S) := by
  unfold fR_span_54
  refine j_iconst (pc := 54) 0 C dX10_span_54 (by decide) ?_
  exact bR_span_55 C  x1 x2 x3 x4 x5 x6 0 S
theorem bR_span {E : Ec} {G : Gc}    (C : JC E (VR G 12 0 0 RX10) cX10_span 9 (some .int))    (x1 : Int32) (x2 : Int32) (x3 : Int32) (x4 : Int32) (x5 : Int32) (x6 : Int32) (S : St) : J E (VR G 12 0 0 RX10) 0 0 0 [(0, .ref (gA G 0)), (1, .int x1), (2, .int x2), (3, .int x3), (4, .int x4), (5, .int x5), (6, .int x6)] [] S (fR_span  x1 x2 x3 x4 x5 x6 S) := by
  unfold fR_span
  refine j_aload_n (pc := 0) 0 C dX10_span_0 rfl rfl ?_
  refine j_iconst (pc := 1) 0 C dX10_span_1 (by decide) ?_
  refine pR_0_0 (pc := 2) C dX10_span_2 q_811 ?_
  refine j_nxS (fun T1 => ?_)
  refine j_aload_n (pc := 5) 0 C dX10_span_5 rfl rfl ?_
  refine j_iload_n (pc := 6) 2 C dX10_span_6 rfl rfl ?_
  refine j_iconst (pc := 7) 1 C dX10_span_7 (by decide) ?_
  refine j_bipush (pc := 8) 10 C dX10_span_8 (by decide) ?_
  refine j_callI0 (pc := 10) C (rR_within C dX10_span_10 q_1094 (by omega) (Nat.le_of_ble_eq_true rfl) ⟨Nat.le_of_ble_eq_true rfl, Nat.le_of_ble_eq_true rfl⟩) ⟨Nat.le_of_ble_eq_true rfl, Nat.le_of_ble_eq_true rfl⟩ (fun r3 T2 => ?_)
  refine j_if_eq (pc := 13) 54 C dX10_span_13 (by decide) ?_ ?_
  ·
    exact bR_span_54 C  x1 x2 x3 x4 x5 x6 T2
  ·
    refine j_iload_n (pc := 16) 3 C dX10_span_16 rfl rfl ?_
    refine j_iload (pc := 17) 4 C dX10_span_17 rfl ?_
    refine j_callI0 (pc := 19) C (rR_isSeason C dX10_span_19 q_1254 (by omega) (Nat.le_of_ble_eq_true rfl) ⟨Nat.le_of_ble_eq_true rfl, Nat.le_of_ble_eq_true rfl⟩) ⟨Nat.le_of_ble_eq_true rfl, Nat.le_of_ble_eq_true rfl⟩ (fun r5 T4 => ?_)
    refine j_if_eq (pc := 22) 54 C dX10_span_22 (by decide) ?_ ?_
    ·
      exact bR_span_54 C  x1 x2 x3 x4 x5 x6 T4
    ·
      refine j_iload (pc := 25) 5 C dX10_span_25 rfl ?_
      refine j_iconst (pc := 27) 0 C dX10_span_27 (by decide) ?_
      refine j_iconst (pc := 28) 2 C dX10_span_28 (by decide) ?_
      refine j_callI0 (pc := 29) C (rR_within C dX10_span_29 q_1094 (by omega) (Nat.le_of_ble_eq_true rfl) ⟨Nat.le_of_ble_eq_true rfl, Nat.le_of_ble_eq_true rfl⟩) ⟨Nat.le_of_ble_eq_true rfl, Nat.le_of_ble_eq_true rfl⟩ (fun r7 T6 => ?_)
      refine j_if_eq (pc := 32) 54 C dX10_span_32 (by decide) ?_ ?_
      ·
        exact bR_span_54 C  x1 x2 x3 x4 x5 x6 T6
      ·
        refine j_iload (pc := 35) 6 C dX10_span_35 rfl ?_
        refine j_iconst (pc := 37) 0 C dX10_span_37 (by decide) ?_
        refine j_aload_n (pc := 38) 0 C dX10_span_38 rfl rfl ?_
        refine gR_0_22 (pc := 39) C dX10_span_39 q_882 ?_
        refine j_iconst (pc := 42) 1 C dX10_span_42 (by decide) ?_
        refine j_isub (pc := 43) C dX10_span_43 ?_
        refine j_callI0 (pc := 44) C (rR_within C dX10_span_44 q_1094 (by omega) (Nat.le_of_ble_eq_true rfl) ⟨Nat.le_of_ble_eq_true rfl, Nat.le_of_ble_eq_true rfl⟩) ⟨Nat.le_of_ble_eq_true rfl, Nat.le_of_ble_eq_true rfl⟩ (fun r9 T8 => ?_)
        refine j_if_eq (pc := 47) 54 C dX10_span_47 (by decide) ?_ ?_
        ·
          exact bR_span_54 C  x1 x2 x3 x4 x5 x6 T8
        ·
          refine j_iconst (pc := 50) 1 C dX10_span_50 (by decide) ?_
          refine j_goto (pc := 51) 55 C dX10_span_51 (by decide) ?_
          exact bR_span_55 C  x1 x2 x3 x4 x5 x6 1 T8
theorem cR_span {l : Launch} {G : Gc} (hfl : l.stackTraces = false) (hW : Wok G wR 26)   (x1 : Int32) (x2 : Int32) (x3 : Int32) (x4 : Int32) (x5 : Int32) (x6 : Int32) (S : St) : Ct l yX10_span (Cond.code yX10_span cX10_span 12 (some .int) :: tblG) 9 0 0 G wR 26 [.ref (gA G 0), .int x1, .int x2, .int x3, .int x4, .int x5, .int x6] S (fR_span x1 x2 x3 x4 x5 x6 S) := ct_of (own := RX10) hfl (by decide +kernel) rfl hW (Nat.le_of_ble_eq_true rfl) (fun E hE C => by subst hE; exact bR_span C   x1 x2 x3 x4 x5 x6 S)
theorem rR_span {E : Ec} {G : Gc} {nL mc ms : Nat} {own : String} {cc : ByteArray} {L : Nat} {ret : Option FieldType} {k n pc ix : Nat} {loc : List (Nat × Value)} {rest : List Value}  {x1 : Int32} {x2 : Int32} {x3 : Int32} {x4 : Int32} {x5 : Int32} {x6 : Int32} {S : St}  (C : JC E (VR G nL mc ms own) cc L ret) (hd : decode cc pc = .ok (.invokevirtual ix, 3)) (hq : Cond.methodLink own ix yX10_span ∈ tblG) (hL : 9 + 1 ≤ L) (hW : (rest.map fun v => v.category).sum ≤ 8) (hf : k + 0 ≤ mc ∧ n + 0 ≤ ms) : Rn E (VR G nL mc ms own) k n 0 0 pc loc (.int x6 :: .int x5 :: .int x4 :: .int x3 :: .int x2 :: .int x1 :: .ref (gA G 0) :: rest) rest S (fR_span x1 x2 x3 x4 x5 x6 S) := rn_V (ci := 10) 0 (V := VR G nL mc ms own) (As := [.int x1, .int x2, .int x3, .int x4, .int x5, .int x6]) (Cq := (RX10, TX10, 53)) (cR_span C.flags C.wok  x1 x2 x3 x4 x5 x6 S) knX10_span ⟨q_1269, q_1270⟩ rfl rfl C hd hq hL rfl rfl hW hf

theorem knX10_keepsRow : Kn yX10_keepsRow cX10_keepsRow 6 (some .int) 4 := ⟨q_1272, q_815, by decide +kernel, by decide⟩
theorem bR_keepsRow_3 {E : Ec} {G : Gc}    (C : JC E (VR G 6 0 0 RX10) cX10_keepsRow 1 (some .int))    : ∀ (n : Nat) (x1 : Int32) (x3 : Int32) (x4 : Int32) (x5 : Int32) (S : St), J E (VR G 6 0 0 RX10) 0 0 3 [(0, .ref (gA G 0)), (1, .int x1), (2, .ref (gA G 17)), (3, .int x3), (4, .int x4), (5, .int x5)] [] S (fR_keepsRow_3  n x1 x3 x4 x5 S) := by
  intro n
  induction n with
  | zero => intro x1 x3 x4 x5 S; rw [fR_keepsRow_3]; exact j_none
  | succ n ih =>
    intro x1 x3 x4 x5 S
    rw [fR_keepsRow_3]
    refine j_iload (pc := 3) 5 C dX10_keepsRow_3 rfl ?_
    refine j_iload_n (pc := 5) 3 C dX10_keepsRow_5 rfl rfl ?_
    refine j_icmp_ge (pc := 6) 49 C dX10_keepsRow_6 (by decide) ?_ ?_
    ·
      refine j_iload_n (pc := 49) 1 C dX10_keepsRow_49 rfl rfl ?_
      refine j_iload_n (pc := 50) 3 C dX10_keepsRow_50 rfl rfl ?_
      refine j_iadd (pc := 51) C dX10_keepsRow_51 ?_
      exact j_iret C dX10_keepsRow_52 rfl (Nat.le_of_ble_eq_true rfl) (Nat.le_of_ble_eq_true rfl)
    ·
      refine j_iload (pc := 9) 4 C dX10_keepsRow_9 rfl ?_
      refine j_if_eq (pc := 11) 30 C dX10_keepsRow_11 (by decide) ?_ ?_
      ·
        refine j_aload_n (pc := 30) 2 C dX10_keepsRow_30 rfl rfl ?_
        refine j_iload (pc := 31) 5 C dX10_keepsRow_31 rfl ?_
        refine j_aload_n (pc := 33) 0 C dX10_keepsRow_33 rfl rfl ?_
        refine gR_0_51 (pc := 34) C dX10_keepsRow_34 q_1271 ?_
        refine j_iload_n (pc := 37) 1 C dX10_keepsRow_37 rfl rfl ?_
        refine j_iload (pc := 38) 5 C dX10_keepsRow_38 rfl ?_
        refine j_iadd (pc := 40) C dX10_keepsRow_40 ?_
        refine aR_25 (pc := 41) C dX10_keepsRow_41 ?_
        refine sR_17 (pc := 42) C dX10_keepsRow_42 ?_
        refine j_nxS (fun T1 => ?_)
        refine j_iinc (pc := 43) 5 (x5 + 1) [(5, .int (x5 + 1)), (0, .ref (gA G 0)), (1, .int x1), (2, .ref (gA G 17)), (3, .int x3), (4, .int x4)] C dX10_keepsRow_43 rfl rfl (Nat.le_of_ble_eq_true rfl) rfl ?_
        refine j_goto (pc := 46) 3 C dX10_keepsRow_46 (by decide) ?_
        refine j_sub [1, 2, 3, 4, 5, 0] rfl ?_
        exact ih x1 x3 x4 (x5 + 1) T1
      ·
        refine j_aload_n (pc := 14) 0 C dX10_keepsRow_14 rfl rfl ?_
        refine gR_0_51 (pc := 15) C dX10_keepsRow_15 q_1271 ?_
        refine j_iload_n (pc := 18) 1 C dX10_keepsRow_18 rfl rfl ?_
        refine j_iload (pc := 19) 5 C dX10_keepsRow_19 rfl ?_
        refine j_iadd (pc := 21) C dX10_keepsRow_21 ?_
        refine j_aload_n (pc := 22) 2 C dX10_keepsRow_22 rfl rfl ?_
        refine j_iload (pc := 23) 5 C dX10_keepsRow_23 rfl ?_
        refine aR_17 (pc := 25) C dX10_keepsRow_25 ?_
        refine sR_25 (pc := 26) C dX10_keepsRow_26 ?_
        refine j_nxS (fun T2 => ?_)
        refine j_goto (pc := 27) 43 C dX10_keepsRow_27 (by decide) ?_
        refine j_iinc (pc := 43) 5 (x5 + 1) [(5, .int (x5 + 1)), (0, .ref (gA G 0)), (1, .int x1), (2, .ref (gA G 17)), (3, .int x3), (4, .int x4)] C dX10_keepsRow_43 rfl rfl (Nat.le_of_ble_eq_true rfl) rfl ?_
        refine j_goto (pc := 46) 3 C dX10_keepsRow_46 (by decide) ?_
        refine j_sub [1, 2, 3, 4, 5, 0] rfl ?_
        exact ih x1 x3 x4 (x5 + 1) T2
theorem bR_keepsRow {E : Ec} {G : Gc}    (C : JC E (VR G 6 0 0 RX10) cX10_keepsRow 1 (some .int))    (x1 : Int32) (x3 : Int32) (x4 : Int32) (S : St) : J E (VR G 6 0 0 RX10) 0 0 0 [(0, .ref (gA G 0)), (1, .int x1), (2, .ref (gA G 17)), (3, .int x3), (4, .int x4)] [] S (fR_keepsRow  x1 x3 x4 S) := by
  unfold fR_keepsRow
  refine j_iconst (pc := 0) 0 C dX10_keepsRow_0 (by decide) ?_
  refine j_istore (pc := 1) [(5, .int 0), (0, .ref (gA G 0)), (1, .int x1), (2, .ref (gA G 17)), (3, .int x3), (4, .int x4)] C dX10_keepsRow_1 (Nat.le_of_ble_eq_true rfl) rfl ?_
  refine j_sub [1, 2, 3, 4, 5, 0] rfl ?_
  exact bR_keepsRow_3 C  FU x1 x3 x4 0 S
theorem cR_keepsRow {l : Launch} {G : Gc} (hfl : l.stackTraces = false) (hW : Wok G wR 26)   (x1 : Int32) (x3 : Int32) (x4 : Int32) (S : St) : Ct l yX10_keepsRow (Cond.code yX10_keepsRow cX10_keepsRow 6 (some .int) :: tblG) 1 0 0 G wR 26 [.ref (gA G 0), .int x1, .ref (gA G 17), .int x3, .int x4] S (fR_keepsRow x1 x3 x4 S) := ct_of (own := RX10) hfl (by decide +kernel) rfl hW (Nat.le_of_ble_eq_true rfl) (fun E hE C => by subst hE; exact bR_keepsRow C   x1 x3 x4 S)
theorem rR_keepsRow {E : Ec} {G : Gc} {nL mc ms : Nat} {own : String} {cc : ByteArray} {L : Nat} {ret : Option FieldType} {k n pc ix : Nat} {loc : List (Nat × Value)} {rest : List Value}  {x1 : Int32} {x3 : Int32} {x4 : Int32} {S : St}  (C : JC E (VR G nL mc ms own) cc L ret) (hd : decode cc pc = .ok (.invokevirtual ix, 3)) (hq : Cond.methodLink own ix yX10_keepsRow ∈ tblG) (hL : 1 + 1 ≤ L) (hW : (rest.map fun v => v.category).sum ≤ 8) (hf : k + 0 ≤ mc ∧ n + 0 ≤ ms) : Rn E (VR G nL mc ms own) k n 0 0 pc loc (.int x4 :: .int x3 :: .ref (gA G 17) :: .int x1 :: .ref (gA G 0) :: rest) rest S (fR_keepsRow x1 x3 x4 S) := rn_V (ci := 10) 0 (V := VR G nL mc ms own) (As := [.int x1, .ref (gA G 17), .int x3, .int x4]) (Cq := (RX10, TX10, 53)) (cR_keepsRow C.flags C.wok  x1 x3 x4 S) knX10_keepsRow ⟨q_1273, q_1274⟩ rfl rfl C hd hq hL rfl rfl hW hf

theorem bR_keepsRow_v339_3 {E : Ec} {G : Gc}    (C : JC E (VR G 6 0 0 RX10) cX10_keepsRow 1 (some .int))    : ∀ (n : Nat) (x1 : Int32) (x3 : Int32) (x4 : Int32) (x5 : Int32) (S : St), J E (VR G 6 0 0 RX10) 0 0 3 [(0, .ref (gA G 0)), (1, .int x1), (2, .ref (gA G 19)), (3, .int x3), (4, .int x4), (5, .int x5)] [] S (fR_keepsRow_v339_3  n x1 x3 x4 x5 S) := by
  intro n
  induction n with
  | zero => intro x1 x3 x4 x5 S; rw [fR_keepsRow_v339_3]; exact j_none
  | succ n ih =>
    intro x1 x3 x4 x5 S
    rw [fR_keepsRow_v339_3]
    refine j_iload (pc := 3) 5 C dX10_keepsRow_3 rfl ?_
    refine j_iload_n (pc := 5) 3 C dX10_keepsRow_5 rfl rfl ?_
    refine j_icmp_ge (pc := 6) 49 C dX10_keepsRow_6 (by decide) ?_ ?_
    ·
      refine j_iload_n (pc := 49) 1 C dX10_keepsRow_49 rfl rfl ?_
      refine j_iload_n (pc := 50) 3 C dX10_keepsRow_50 rfl rfl ?_
      refine j_iadd (pc := 51) C dX10_keepsRow_51 ?_
      exact j_iret C dX10_keepsRow_52 rfl (Nat.le_of_ble_eq_true rfl) (Nat.le_of_ble_eq_true rfl)
    ·
      refine j_iload (pc := 9) 4 C dX10_keepsRow_9 rfl ?_
      refine j_if_eq (pc := 11) 30 C dX10_keepsRow_11 (by decide) ?_ ?_
      ·
        refine j_aload_n (pc := 30) 2 C dX10_keepsRow_30 rfl rfl ?_
        refine j_iload (pc := 31) 5 C dX10_keepsRow_31 rfl ?_
        refine j_aload_n (pc := 33) 0 C dX10_keepsRow_33 rfl rfl ?_
        refine gR_0_51 (pc := 34) C dX10_keepsRow_34 q_1271 ?_
        refine j_iload_n (pc := 37) 1 C dX10_keepsRow_37 rfl rfl ?_
        refine j_iload (pc := 38) 5 C dX10_keepsRow_38 rfl ?_
        refine j_iadd (pc := 40) C dX10_keepsRow_40 ?_
        refine aR_25 (pc := 41) C dX10_keepsRow_41 ?_
        refine sR_19 (pc := 42) C dX10_keepsRow_42 ?_
        refine j_nxS (fun T1 => ?_)
        refine j_iinc (pc := 43) 5 (x5 + 1) [(5, .int (x5 + 1)), (0, .ref (gA G 0)), (1, .int x1), (2, .ref (gA G 19)), (3, .int x3), (4, .int x4)] C dX10_keepsRow_43 rfl rfl (Nat.le_of_ble_eq_true rfl) rfl ?_
        refine j_goto (pc := 46) 3 C dX10_keepsRow_46 (by decide) ?_
        refine j_sub [1, 2, 3, 4, 5, 0] rfl ?_
        exact ih x1 x3 x4 (x5 + 1) T1
      ·
        refine j_aload_n (pc := 14) 0 C dX10_keepsRow_14 rfl rfl ?_
        refine gR_0_51 (pc := 15) C dX10_keepsRow_15 q_1271 ?_
        refine j_iload_n (pc := 18) 1 C dX10_keepsRow_18 rfl rfl ?_
        refine j_iload (pc := 19) 5 C dX10_keepsRow_19 rfl ?_
        refine j_iadd (pc := 21) C dX10_keepsRow_21 ?_
        refine j_aload_n (pc := 22) 2 C dX10_keepsRow_22 rfl rfl ?_
        refine j_iload (pc := 23) 5 C dX10_keepsRow_23 rfl ?_
        refine aR_19 (pc := 25) C dX10_keepsRow_25 ?_
        refine sR_25 (pc := 26) C dX10_keepsRow_26 ?_
        refine j_nxS (fun T2 => ?_)
        refine j_goto (pc := 27) 43 C dX10_keepsRow_27 (by decide) ?_
        refine j_iinc (pc := 43) 5 (x5 + 1) [(5, .int (x5 + 1)), (0, .ref (gA G 0)), (1, .int x1), (2, .ref (gA G 19)), (3, .int x3), (4, .int x4)] C dX10_keepsRow_43 rfl rfl (Nat.le_of_ble_eq_true rfl) rfl ?_
        refine j_goto (pc := 46) 3 C dX10_keepsRow_46 (by decide) ?_
        refine j_sub [1, 2, 3, 4, 5, 0] rfl ?_
        exact ih x1 x3 x4 (x5 + 1) T2
theorem bR_keepsRow_v339 {E : Ec} {G : Gc}    (C : JC E (VR G 6 0 0 RX10) cX10_keepsRow 1 (some .int))    (x1 : Int32) (x3 : Int32) (x4 : Int32) (S : St) : J E (VR G 6 0 0 RX10) 0 0 0 [(0, .ref (gA G 0)), (1, .int x1), (2, .ref (gA G 19)), (3, .int x3), (4, .int x4)] [] S (fR_keepsRow_v339  x1 x3 x4 S) := by
  unfold fR_keepsRow_v339
  refine j_iconst (pc := 0) 0 C dX10_keepsRow_0 (by decide) ?_
  refine j_istore (pc := 1) [(5, .int 0), (0, .ref (gA G 0)), (1, .int x1), (2, .ref (gA G 19)), (3, .int x3), (4, .int x4)] C dX10_keepsRow_1 (Nat.le_of_ble_eq_true rfl) rfl ?_
  refine j_sub [1, 2, 3, 4, 5, 0] rfl ?_
  exact bR_keepsRow_v339_3 C  FU x1 x3 x4 0 S
theorem cR_keepsRow_v339 {l : Launch} {G : Gc} (hfl : l.stackTraces = false) (hW : Wok G wR 26)   (x1 : Int32) (x3 : Int32) (x4 : Int32) (S : St) : Ct l yX10_keepsRow (Cond.code yX10_keepsRow cX10_keepsRow 6 (some .int) :: tblG) 1 0 0 G wR 26 [.ref (gA G 0), .int x1, .ref (gA G 19), .int x3, .int x4] S (fR_keepsRow_v339 x1 x3 x4 S) := ct_of (own := RX10) hfl (by decide +kernel) rfl hW (Nat.le_of_ble_eq_true rfl) (fun E hE C => by subst hE; exact bR_keepsRow_v339 C   x1 x3 x4 S)
theorem rR_keepsRow_v339 {E : Ec} {G : Gc} {nL mc ms : Nat} {own : String} {cc : ByteArray} {L : Nat} {ret : Option FieldType} {k n pc ix : Nat} {loc : List (Nat × Value)} {rest : List Value}  {x1 : Int32} {x3 : Int32} {x4 : Int32} {S : St}  (C : JC E (VR G nL mc ms own) cc L ret) (hd : decode cc pc = .ok (.invokevirtual ix, 3)) (hq : Cond.methodLink own ix yX10_keepsRow ∈ tblG) (hL : 1 + 1 ≤ L) (hW : (rest.map fun v => v.category).sum ≤ 8) (hf : k + 0 ≤ mc ∧ n + 0 ≤ ms) : Rn E (VR G nL mc ms own) k n 0 0 pc loc (.int x4 :: .int x3 :: .ref (gA G 19) :: .int x1 :: .ref (gA G 0) :: rest) rest S (fR_keepsRow_v339 x1 x3 x4 S) := rn_V (ci := 10) 0 (V := VR G nL mc ms own) (As := [.int x1, .ref (gA G 19), .int x3, .int x4]) (Cq := (RX10, TX10, 53)) (cR_keepsRow_v339 C.flags C.wok  x1 x3 x4 S) knX10_keepsRow ⟨q_1273, q_1274⟩ rfl rfl C hd hq hL rfl rfl hW hf

theorem knX10_keepsAll : Kn yX10_keepsAll cX10_keepsAll 4 none 2 := ⟨q_1276, q_815, by decide +kernel, by decide⟩
theorem bR_keepsAll {E : Ec} {G : Gc}    (C : JC E (VR G 4 0 0 RX10) cX10_keepsAll 2 none)    (x1 : Int32) (x2 : Int32) (S : St) : J E (VR G 4 0 0 RX10) 0 0 0 [(0, .ref (gA G 0)), (1, .int x1), (2, .int x2)] [] S (fR_keepsAll  x1 x2 S) := by
  unfold fR_keepsAll
  refine j_aload_n (pc := 0) 0 C dX10_keepsAll_0 rfl rfl ?_
  refine j_sipush (pc := 1) 1616 C dX10_keepsAll_1 (by decide) ?_
  refine j_iload_n (pc := 4) 1 C dX10_keepsAll_4 rfl rfl ?_
  refine j_imul (pc := 5) C dX10_keepsAll_5 ?_
  refine j_aload_n (pc := 6) 0 C dX10_keepsAll_6 rfl rfl ?_
  refine gR_0_40 (pc := 7) C dX10_keepsAll_7 q_899 ?_
  refine j_bipush (pc := 10) 95 C dX10_keepsAll_10 (by decide) ?_
  refine j_iload_n (pc := 12) 2 C dX10_keepsAll_12 rfl rfl ?_
  refine j_callI0 (pc := 13) C (rR_keepsRow C dX10_keepsAll_13 q_1275 (by omega) (Nat.le_of_ble_eq_true rfl) ⟨Nat.le_of_ble_eq_true rfl, Nat.le_of_ble_eq_true rfl⟩) ⟨Nat.le_of_ble_eq_true rfl, Nat.le_of_ble_eq_true rfl⟩ (fun r2 T1 => ?_)
  refine j_istore_n (pc := 16) [(3, .int r2), (0, .ref (gA G 0)), (1, .int x1), (2, .int x2)] C dX10_keepsAll_16 rfl (Nat.le_of_ble_eq_true rfl) rfl ?_
  refine j_aload_n (pc := 17) 1 C dX10_keepsAll_17 rfl rfl ?_
  refine j_iload_n (pc := 18) 0 C dX10_keepsAll_18 rfl rfl ?_
  refine j_aload_n (pc := 19) 1 C dX10_keepsAll_19 rfl rfl ?_
  refine gR_0_42 (pc := 20) C dX10_keepsAll_20 q_1077 ?_
  refine j_sipush (pc := 23) 1520 C dX10_keepsAll_23 (by decide) ?_
  refine j_iload_n (pc := 26) 3 C dX10_keepsAll_26 rfl rfl ?_
  refine j_callI0 (pc := 27) C (rR_keepsRow_v339 C dX10_keepsAll_27 q_1275 (by omega) (Nat.le_of_ble_eq_true rfl) ⟨Nat.le_of_ble_eq_true rfl, Nat.le_of_ble_eq_true rfl⟩) ⟨Nat.le_of_ble_eq_true rfl, Nat.le_of_ble_eq_true rfl⟩ (fun r4 T3 => ?_)
  refine j_istore_n (pc := 30) [(3, .int r4), (0, .ref (gA G 0)), (1, .int x1), (2, .int x2)] C dX10_keepsAll_30 rfl (Nat.le_of_ble_eq_true rfl) rfl ?_
  refine j_iload_n (pc := 31) 3 C dX10_keepsAll_31 rfl rfl ?_
  refine j_if_eq (pc := 32) 48 C dX10_keepsAll_32 (by decide) ?_ ?_
  ·
    refine j_aload_n (pc := 48) 1 C dX10_keepsAll_48 rfl rfl ?_
    refine j_aload_n (pc := 49) 1 C dX10_keepsAll_49 rfl rfl ?_
    refine gR_0_51 (pc := 50) C dX10_keepsAll_50 q_1271 ?_
    refine j_iload_n (pc := 53) 0 C dX10_keepsAll_53 rfl rfl ?_
    refine aR_25 (pc := 54) C dX10_keepsAll_54 ?_
    refine pR_0_35 (pc := 55) C dX10_keepsAll_55 q_896 ?_
    refine j_nxS (fun T5 => ?_)
    exact j_vret C dX10_keepsAll_58 rfl (Nat.le_of_ble_eq_true rfl) (Nat.le_of_ble_eq_true rfl)
  ·
    refine j_aload_n (pc := 35) 1 C dX10_keepsAll_35 rfl rfl ?_
    refine gR_0_51 (pc := 36) C dX10_keepsAll_36 q_1271 ?_
    refine j_iload_n (pc := 39) 0 C dX10_keepsAll_39 rfl rfl ?_
    refine j_aload_n (pc := 40) 1 C dX10_keepsAll_40 rfl rfl ?_
    refine gR_0_35 (pc := 41) C dX10_keepsAll_41 q_896 ?_
    refine sR_25 (pc := 44) C dX10_keepsAll_44 ?_
    refine j_nxS (fun T6 => ?_)
    refine j_goto (pc := 45) 58 C dX10_keepsAll_45 (by decide) ?_
    exact j_vret C dX10_keepsAll_58 rfl (Nat.le_of_ble_eq_true rfl) (Nat.le_of_ble_eq_true rfl)
theorem cR_keepsAll {l : Launch} {G : Gc} (hfl : l.stackTraces = false) (hW : Wok G wR 26)   (x1 : Int32) (x2 : Int32) (S : St) : Ct l yX10_keepsAll (Cond.code yX10_keepsAll cX10_keepsAll 4 none :: tblG) 2 0 0 G wR 26 [.ref (gA G 0), .int x1, .int x2] S (fR_keepsAll x1 x2 S) := ct_of (own := RX10) hfl (by decide +kernel) rfl hW (Nat.le_of_ble_eq_true rfl) (fun E hE C => by subst hE; exact bR_keepsAll C   x1 x2 S)
theorem rR_keepsAll {E : Ec} {G : Gc} {nL mc ms : Nat} {own : String} {cc : ByteArray} {L : Nat} {ret : Option FieldType} {k n pc ix : Nat} {loc : List (Nat × Value)} {rest : List Value}  {x1 : Int32} {x2 : Int32} {S : St}  (C : JC E (VR G nL mc ms own) cc L ret) (hd : decode cc pc = .ok (.invokevirtual ix, 3)) (hq : Cond.methodLink own ix yX10_keepsAll ∈ tblG) (hL : 2 + 1 ≤ L) (hW : (rest.map fun v => v.category).sum ≤ 8) (hf : k + 0 ≤ mc ∧ n + 0 ≤ ms) : Rn E (VR G nL mc ms own) k n 0 0 pc loc (.int x2 :: .int x1 :: .ref (gA G 0) :: rest) rest S (fR_keepsAll x1 x2 S) := rn_V (ci := 10) 0 (V := VR G nL mc ms own) (As := [.int x1, .int x2]) (Cq := (RX10, TX10, 53)) (cR_keepsAll C.flags C.wok  x1 x2 S) knX10_keepsAll ⟨q_1277, q_1278⟩ rfl rfl C hd hq hL rfl rfl hW hf

theorem knX10_image : Kn yX10_image cX10_image 1 (some .int) 0 := ⟨q_1280, q_815, by decide +kernel, by decide⟩
theorem bR_image {E : Ec} {G : Gc}    (C : JC E (VR G 1 0 0 RX10) cX10_image 3 (some .int))     (S : St) : J E (VR G 1 0 0 RX10) 0 0 0 [(0, .ref (gA G 0))] [] S (fR_image   S) := by
  unfold fR_image
  refine j_aload_n (pc := 0) 0 C dX10_image_0 rfl rfl ?_
  refine j_iconst (pc := 1) 0 C dX10_image_1 (by decide) ?_
  refine pR_0_0 (pc := 2) C dX10_image_2 q_811 ?_
  refine j_nxS (fun T1 => ?_)
  refine j_aload_n (pc := 5) 0 C dX10_image_5 rfl rfl ?_
  refine gR_0_52 (pc := 6) C dX10_image_6 q_897 ?_
  refine j_iconst (pc := 9) 3 C dX10_image_9 (by decide) ?_
  refine j_icmp_ne (pc := 10) 15 C dX10_image_10 (by decide) ?_ ?_
  ·
    refine j_aload_n (pc := 15) 0 C dX10_image_15 rfl rfl ?_
    refine j_aload_n (pc := 16) 0 C dX10_image_16 rfl rfl ?_
    refine gR_0_52 (pc := 17) C dX10_image_17 q_897 ?_
    refine j_iconst (pc := 20) 1 C dX10_image_20 (by decide) ?_
    refine j_callv0 (pc := 21) C (rR_keepsAll C dX10_image_21 q_1279 (by omega) (Nat.le_of_ble_eq_true rfl) ⟨Nat.le_of_ble_eq_true rfl, Nat.le_of_ble_eq_true rfl⟩) ⟨Nat.le_of_ble_eq_true rfl, Nat.le_of_ble_eq_true rfl⟩ (fun T2 => ?_)
    refine j_aload_n (pc := 24) 0 C dX10_image_24 rfl rfl ?_
    refine j_dup (pc := 25) C dX10_image_25 rfl ?_
    refine gR_0_52 (pc := 26) C dX10_image_26 q_897 ?_
    refine j_iconst (pc := 29) 1 C dX10_image_29 (by decide) ?_
    refine j_iadd (pc := 30) C dX10_image_30 ?_
    refine pR_0_52 (pc := 31) C dX10_image_31 q_897 ?_
    refine j_nxS (fun T4 => ?_)
    refine j_aload_n (pc := 34) 0 C dX10_image_34 rfl rfl ?_
    refine gR_0_52 (pc := 35) C dX10_image_35 q_897 ?_
    exact j_iret C dX10_image_38 rfl (Nat.le_of_ble_eq_true rfl) (Nat.le_of_ble_eq_true rfl)
  ·
    refine j_iconst (pc := 13) (-1) C dX10_image_13 (by decide) ?_
    exact j_iret C dX10_image_14 rfl (Nat.le_of_ble_eq_true rfl) (Nat.le_of_ble_eq_true rfl)
theorem cR_image {l : Launch} {G : Gc} (hfl : l.stackTraces = false) (hW : Wok G wR 26)    (S : St) : Ct l yX10_image (Cond.code yX10_image cX10_image 1 (some .int) :: tblG) 3 0 0 G wR 26 [.ref (gA G 0)] S (fR_image  S) := ct_of (own := RX10) hfl (by decide +kernel) rfl hW (Nat.le_of_ble_eq_true rfl) (fun E hE C => by subst hE; exact bR_image C    S)
theorem rR_image {E : Ec} {G : Gc} {nL mc ms : Nat} {own : String} {cc : ByteArray} {L : Nat} {ret : Option FieldType} {k n pc ix : Nat} {loc : List (Nat × Value)} {rest : List Value}   {S : St}  (C : JC E (VR G nL mc ms own) cc L ret) (hd : decode cc pc = .ok (.invokevirtual ix, 3)) (hq : Cond.methodLink own ix yX10_image ∈ tblG) (hL : 3 + 1 ≤ L) (hW : (rest.map fun v => v.category).sum ≤ 8) (hf : k + 0 ≤ mc ∧ n + 0 ≤ ms) : Rn E (VR G nL mc ms own) k n 0 0 pc loc (.ref (gA G 0) :: rest) rest S (fR_image  S) := rn_V (ci := 10) 0 (V := VR G nL mc ms own) (As := []) (Cq := (RX10, TX10, 53)) (cR_image C.flags C.wok   S) knX10_image ⟨q_1281, q_1282⟩ rfl rfl C hd hq hL rfl rfl hW hf

theorem knX10_restore : Kn yX10_restore cX10_restore 1 (some .int) 0 := ⟨q_1283, q_815, by decide +kernel, by decide⟩
theorem bR_restore {E : Ec} {G : Gc}    (C : JC E (VR G 1 0 0 RX10) cX10_restore 3 (some .int))     (S : St) : J E (VR G 1 0 0 RX10) 0 0 0 [(0, .ref (gA G 0))] [] S (fR_restore   S) := by
  unfold fR_restore
  refine j_aload_n (pc := 0) 0 C dX10_restore_0 rfl rfl ?_
  refine j_iconst (pc := 1) 0 C dX10_restore_1 (by decide) ?_
  refine pR_0_0 (pc := 2) C dX10_restore_2 q_811 ?_
  refine j_nxS (fun T1 => ?_)
  refine j_aload_n (pc := 5) 0 C dX10_restore_5 rfl rfl ?_
  refine gR_0_52 (pc := 6) C dX10_restore_6 q_897 ?_
  refine j_if_ne (pc := 9) 14 C dX10_restore_9 (by decide) ?_ ?_
  ·
    refine j_aload_n (pc := 14) 0 C dX10_restore_14 rfl rfl ?_
    refine j_dup (pc := 15) C dX10_restore_15 rfl ?_
    refine gR_0_52 (pc := 16) C dX10_restore_16 q_897 ?_
    refine j_iconst (pc := 19) 1 C dX10_restore_19 (by decide) ?_
    refine j_isub (pc := 20) C dX10_restore_20 ?_
    refine pR_0_52 (pc := 21) C dX10_restore_21 q_897 ?_
    refine j_nxS (fun T2 => ?_)
    refine j_aload_n (pc := 24) 0 C dX10_restore_24 rfl rfl ?_
    refine j_aload_n (pc := 25) 0 C dX10_restore_25 rfl rfl ?_
    refine gR_0_52 (pc := 26) C dX10_restore_26 q_897 ?_
    refine j_iconst (pc := 29) 0 C dX10_restore_29 (by decide) ?_
    refine j_callv0 (pc := 30) C (rR_keepsAll C dX10_restore_30 q_1279 (by omega) (Nat.le_of_ble_eq_true rfl) ⟨Nat.le_of_ble_eq_true rfl, Nat.le_of_ble_eq_true rfl⟩) ⟨Nat.le_of_ble_eq_true rfl, Nat.le_of_ble_eq_true rfl⟩ (fun T3 => ?_)
    refine j_aload_n (pc := 33) 0 C dX10_restore_33 rfl rfl ?_
    refine j_iconst (pc := 34) 0 C dX10_restore_34 (by decide) ?_
    refine pR_0_36 (pc := 35) C dX10_restore_35 q_898 ?_
    refine j_nxS (fun T5 => ?_)
    refine j_aload_n (pc := 38) 0 C dX10_restore_38 rfl rfl ?_
    refine gR_0_52 (pc := 39) C dX10_restore_39 q_897 ?_
    exact j_iret C dX10_restore_42 rfl (Nat.le_of_ble_eq_true rfl) (Nat.le_of_ble_eq_true rfl)
  ·
    refine j_iconst (pc := 12) (-1) C dX10_restore_12 (by decide) ?_
    exact j_iret C dX10_restore_13 rfl (Nat.le_of_ble_eq_true rfl) (Nat.le_of_ble_eq_true rfl)
theorem cR_restore {l : Launch} {G : Gc} (hfl : l.stackTraces = false) (hW : Wok G wR 26)    (S : St) : Ct l yX10_restore (Cond.code yX10_restore cX10_restore 1 (some .int) :: tblG) 3 0 0 G wR 26 [.ref (gA G 0)] S (fR_restore  S) := ct_of (own := RX10) hfl (by decide +kernel) rfl hW (Nat.le_of_ble_eq_true rfl) (fun E hE C => by subst hE; exact bR_restore C    S)
theorem rR_restore {E : Ec} {G : Gc} {nL mc ms : Nat} {own : String} {cc : ByteArray} {L : Nat} {ret : Option FieldType} {k n pc ix : Nat} {loc : List (Nat × Value)} {rest : List Value}   {S : St}  (C : JC E (VR G nL mc ms own) cc L ret) (hd : decode cc pc = .ok (.invokevirtual ix, 3)) (hq : Cond.methodLink own ix yX10_restore ∈ tblG) (hL : 3 + 1 ≤ L) (hW : (rest.map fun v => v.category).sum ≤ 8) (hf : k + 0 ≤ mc ∧ n + 0 ≤ ms) : Rn E (VR G nL mc ms own) k n 0 0 pc loc (.ref (gA G 0) :: rest) rest S (fR_restore  S) := rn_V (ci := 10) 0 (V := VR G nL mc ms own) (As := []) (Cq := (RX10, TX10, 53)) (cR_restore C.flags C.wok   S) knX10_restore ⟨q_1284, q_1285⟩ rfl rfl C hd hq hL rfl rfl hW hf

theorem knX10_status : Kn yX10_status cX10_status 2 (some .int) 1 := ⟨q_1286, q_815, by decide +kernel, by decide⟩
theorem bR_status {E : Ec} {G : Gc}    (C : JC E (VR G 2 0 0 RX10) cX10_status 2 (some .int))    (x1 : Int32) (S : St) : J E (VR G 2 0 0 RX10) 0 0 0 [(0, .ref (gA G 0)), (1, .int x1)] [] S (fR_status  x1 S) := by
  unfold fR_status
  refine j_aload_n (pc := 0) 0 C dX10_status_0 rfl rfl ?_
  refine j_iconst (pc := 1) 0 C dX10_status_1 (by decide) ?_
  refine pR_0_0 (pc := 2) C dX10_status_2 q_811 ?_
  refine j_nxS (fun T1 => ?_)
  refine j_iload_n (pc := 5) 1 C dX10_status_5 rfl rfl ?_
  refine j_iconst (pc := 6) 0 C dX10_status_6 (by decide) ?_
  refine j_iconst (pc := 7) 1 C dX10_status_7 (by decide) ?_
  refine j_callI0 (pc := 8) C (rR_within C dX10_status_8 q_1094 (by omega) (Nat.le_of_ble_eq_true rfl) ⟨Nat.le_of_ble_eq_true rfl, Nat.le_of_ble_eq_true rfl⟩) ⟨Nat.le_of_ble_eq_true rfl, Nat.le_of_ble_eq_true rfl⟩ (fun r3 T2 => ?_)
  refine j_if_eq (pc := 11) 23 C dX10_status_11 (by decide) ?_ ?_
  ·
    refine j_iconst (pc := 23) (-1) C dX10_status_23 (by decide) ?_
    exact j_iret C dX10_status_24 rfl (Nat.le_of_ble_eq_true rfl) (Nat.le_of_ble_eq_true rfl)
  ·
    refine j_aload_n (pc := 14) 0 C dX10_status_14 rfl rfl ?_
    refine gR_0_1 (pc := 15) C dX10_status_15 q_818 ?_
    refine j_iload_n (pc := 18) 1 C dX10_status_18 rfl rfl ?_
    refine aR_1 (pc := 19) C dX10_status_19 ?_
    refine j_goto (pc := 20) 24 C dX10_status_20 (by decide) ?_
    exact j_iret C dX10_status_24 rfl (Nat.le_of_ble_eq_true rfl) (Nat.le_of_ble_eq_true rfl)
theorem cR_status {l : Launch} {G : Gc} (hfl : l.stackTraces = false) (hW : Wok G wR 26)   (x1 : Int32) (S : St) : Ct l yX10_status (Cond.code yX10_status cX10_status 2 (some .int) :: tblG) 2 0 0 G wR 26 [.ref (gA G 0), .int x1] S (fR_status x1 S) := ct_of (own := RX10) hfl (by decide +kernel) rfl hW (Nat.le_of_ble_eq_true rfl) (fun E hE C => by subst hE; exact bR_status C   x1 S)
theorem rR_status {E : Ec} {G : Gc} {nL mc ms : Nat} {own : String} {cc : ByteArray} {L : Nat} {ret : Option FieldType} {k n pc ix : Nat} {loc : List (Nat × Value)} {rest : List Value}  {x1 : Int32} {S : St}  (C : JC E (VR G nL mc ms own) cc L ret) (hd : decode cc pc = .ok (.invokevirtual ix, 3)) (hq : Cond.methodLink own ix yX10_status ∈ tblG) (hL : 2 + 1 ≤ L) (hW : (rest.map fun v => v.category).sum ≤ 8) (hf : k + 0 ≤ mc ∧ n + 0 ≤ ms) : Rn E (VR G nL mc ms own) k n 0 0 pc loc (.int x1 :: .ref (gA G 0) :: rest) rest S (fR_status x1 S) := rn_V (ci := 10) 0 (V := VR G nL mc ms own) (As := [.int x1]) (Cq := (RX10, TX10, 53)) (cR_status C.flags C.wok  x1 S) knX10_status ⟨q_1287, q_1288⟩ rfl rfl C hd hq hL rfl rfl hW hf

theorem knX10_count : Kn yX10_count cX10_count 2 (some .int) 1 := ⟨q_1289, q_815, by decide +kernel, by decide⟩
theorem bR_count {E : Ec} {G : Gc}    (C : JC E (VR G 2 0 0 RX10) cX10_count 1 (some .int))    (x1 : Int32) (S : St) : J E (VR G 2 0 0 RX10) 0 0 0 [(0, .ref (gA G 0)), (1, .int x1)] [] S (fR_count  x1 S) := by
  unfold fR_count
  refine j_aload_n (pc := 0) 0 C dX10_count_0 rfl rfl ?_
  refine j_iconst (pc := 1) 0 C dX10_count_1 (by decide) ?_
  refine pR_0_0 (pc := 2) C dX10_count_2 q_811 ?_
  refine j_nxS (fun T1 => ?_)
  refine j_iload_n (pc := 5) 1 C dX10_count_5 rfl rfl ?_
  refine j_if_ne (pc := 6) 16 C dX10_count_6 (by decide) ?_ ?_
  ·
    refine j_iload_n (pc := 16) 1 C dX10_count_16 rfl rfl ?_
    refine j_iconst (pc := 17) 1 C dX10_count_17 (by decide) ?_
    refine j_icmp_ne (pc := 18) 28 C dX10_count_18 (by decide) ?_ ?_
    ·
      refine j_iload_n (pc := 28) 1 C dX10_count_28 rfl rfl ?_
      refine j_iconst (pc := 29) 2 C dX10_count_29 (by decide) ?_
      refine j_icmp_ne (pc := 30) 40 C dX10_count_30 (by decide) ?_ ?_
      ·
        refine j_iconst (pc := 40) (-1) C dX10_count_40 (by decide) ?_
        exact j_iret C dX10_count_41 rfl (Nat.le_of_ble_eq_true rfl) (Nat.le_of_ble_eq_true rfl)
      ·
        refine j_aload_n (pc := 33) 0 C dX10_count_33 rfl rfl ?_
        refine gR_0_35 (pc := 34) C dX10_count_34 q_896 ?_
        refine j_goto (pc := 37) 41 C dX10_count_37 (by decide) ?_
        exact j_iret C dX10_count_41 rfl (Nat.le_of_ble_eq_true rfl) (Nat.le_of_ble_eq_true rfl)
    ·
      refine j_aload_n (pc := 21) 0 C dX10_count_21 rfl rfl ?_
      refine gR_0_2 (pc := 22) C dX10_count_22 q_812 ?_
      refine j_goto (pc := 25) 41 C dX10_count_25 (by decide) ?_
      exact j_iret C dX10_count_41 rfl (Nat.le_of_ble_eq_true rfl) (Nat.le_of_ble_eq_true rfl)
  ·
    refine j_aload_n (pc := 9) 0 C dX10_count_9 rfl rfl ?_
    refine gR_0_52 (pc := 10) C dX10_count_10 q_897 ?_
    refine j_goto (pc := 13) 41 C dX10_count_13 (by decide) ?_
    exact j_iret C dX10_count_41 rfl (Nat.le_of_ble_eq_true rfl) (Nat.le_of_ble_eq_true rfl)
theorem cR_count {l : Launch} {G : Gc} (hfl : l.stackTraces = false) (hW : Wok G wR 26)   (x1 : Int32) (S : St) : Ct l yX10_count (Cond.code yX10_count cX10_count 2 (some .int) :: tblG) 1 0 0 G wR 26 [.ref (gA G 0), .int x1] S (fR_count x1 S) := ct_of (own := RX10) hfl (by decide +kernel) rfl hW (Nat.le_of_ble_eq_true rfl) (fun E hE C => by subst hE; exact bR_count C   x1 S)
theorem rR_count {E : Ec} {G : Gc} {nL mc ms : Nat} {own : String} {cc : ByteArray} {L : Nat} {ret : Option FieldType} {k n pc ix : Nat} {loc : List (Nat × Value)} {rest : List Value}  {x1 : Int32} {S : St}  (C : JC E (VR G nL mc ms own) cc L ret) (hd : decode cc pc = .ok (.invokevirtual ix, 3)) (hq : Cond.methodLink own ix yX10_count ∈ tblG) (hL : 1 + 1 ≤ L) (hW : (rest.map fun v => v.category).sum ≤ 8) (hf : k + 0 ≤ mc ∧ n + 0 ≤ ms) : Rn E (VR G nL mc ms own) k n 0 0 pc loc (.int x1 :: .ref (gA G 0) :: rest) rest S (fR_count x1 S) := rn_V (ci := 10) 0 (V := VR G nL mc ms own) (As := [.int x1]) (Cq := (RX10, TX10, 53)) (cR_count C.flags C.wok  x1 S) knX10_count ⟨q_1290, q_1291⟩ rfl rfl C hd hq hL rfl rfl hW hf

theorem knX10_thrown : Kn yX10_thrown cX10_thrown 1 (some .int) 0 := ⟨q_1292, q_815, by decide +kernel, by decide⟩
theorem bR_thrown {E : Ec} {G : Gc}    (C : JC E (VR G 1 0 0 RX10) cX10_thrown 1 (some .int))     (S : St) : J E (VR G 1 0 0 RX10) 0 0 0 [(0, .ref (gA G 0))] [] S (fR_thrown   S) := by
  unfold fR_thrown
  refine j_aload_n (pc := 0) 0 C dX10_thrown_0 rfl rfl ?_
  refine gR_0_0 (pc := 1) C dX10_thrown_1 q_811 ?_
  exact j_iret C dX10_thrown_4 rfl (Nat.le_of_ble_eq_true rfl) (Nat.le_of_ble_eq_true rfl)
theorem cR_thrown {l : Launch} {G : Gc} (hfl : l.stackTraces = false) (hW : Wok G wR 26)    (S : St) : Ct l yX10_thrown (Cond.code yX10_thrown cX10_thrown 1 (some .int) :: tblG) 1 0 0 G wR 26 [.ref (gA G 0)] S (fR_thrown  S) := ct_of (own := RX10) hfl (by decide +kernel) rfl hW (Nat.le_of_ble_eq_true rfl) (fun E hE C => by subst hE; exact bR_thrown C    S)
theorem rR_thrown {E : Ec} {G : Gc} {nL mc ms : Nat} {own : String} {cc : ByteArray} {L : Nat} {ret : Option FieldType} {k n pc ix : Nat} {loc : List (Nat × Value)} {rest : List Value}   {S : St}  (C : JC E (VR G nL mc ms own) cc L ret) (hd : decode cc pc = .ok (.invokevirtual ix, 3)) (hq : Cond.methodLink own ix yX10_thrown ∈ tblG) (hL : 1 + 1 ≤ L) (hW : (rest.map fun v => v.category).sum ≤ 8) (hf : k + 0 ≤ mc ∧ n + 0 ≤ ms) : Rn E (VR G nL mc ms own) k n 0 0 pc loc (.ref (gA G 0) :: rest) rest S (fR_thrown  S) := rn_V (ci := 10) 0 (V := VR G nL mc ms own) (As := []) (Cq := (RX10, TX10, 53)) (cR_thrown C.flags C.wok   S) knX10_thrown ⟨q_1293, q_1294⟩ rfl rfl C hd hq hL rfl rfl hW hf

