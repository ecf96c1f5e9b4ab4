theorem knX5_sayWith : Kn yX5_sayWith cX5_sayWith 3 (some .boolean) 2 := ⟨q_391, q_174, by decide +kernel, by decide⟩
theorem bC_State_sayWith_9 {E : Ec} {G : Gc}    (C : JC E (VC G 3 0 0 RX5) cX5_sayWith 4 (some .boolean))    (x1 : Int32) (x2 : Int32) (S : St) : J E (VC G 3 0 0 RX5) 0 0 0 [(0, .ref (gA G 9)), (1, .int x1), (2, .int x2)] [] S (fC_State_sayWith_9  x1 x2 S) := by
  unfold fC_State_sayWith_9
  refine j_aload_n (pc := 0) 0 C dX5_sayWith_0 rfl rfl ?_
  refine j_iload_n (pc := 1) 1 C dX5_sayWith_1 rfl rfl ?_
  refine j_callI0 (pc := 2) C (rC_State_isPaid_9 C dX5_sayWith_2 q_367 (by omega) (Nat.le_of_ble_eq_true rfl) ⟨Nat.le_of_ble_eq_true rfl, Nat.le_of_ble_eq_true rfl⟩) ⟨Nat.le_of_ble_eq_true rfl, Nat.le_of_ble_eq_true rfl⟩ (fun r2 T1 => ?_)
  refine j_if_ne (pc := 5) 21 C dX5_sayWith_5 (by decide) ?_ ?_
  ·
    refine j_iconst (pc := 21) 0 C dX5_sayWith_21 (by decide) ?_
    exact j_zretc C dX5_sayWith_22 rfl (Nat.le_of_ble_eq_true rfl) (Nat.le_of_ble_eq_true rfl) rfl
  ·
    refine j_iload_n (pc := 8) 2 C dX5_sayWith_8 rfl rfl ?_
    refine j_aload_n (pc := 9) 0 C dX5_sayWith_9 rfl rfl ?_
    refine gC_9_1 (pc := 10) C dX5_sayWith_10 q_301 ?_
    refine gC_2_8 (pc := 13) C dX5_sayWith_13 q_368 ?_
    refine j_iload_n (pc := 16) 1 C dX5_sayWith_16 rfl rfl ?_
    refine aC_19 (pc := 17) C dX5_sayWith_17 ?_
    refine j_icmp_ne (pc := 18) 23 C dX5_sayWith_18 (by decide) ?_ ?_
    ·
      refine j_aload_n (pc := 23) 0 C dX5_sayWith_23 rfl rfl ?_
      refine j_iload_n (pc := 24) 1 C dX5_sayWith_24 rfl rfl ?_
      refine j_iload_n (pc := 25) 2 C dX5_sayWith_25 rfl rfl ?_
      refine j_callI0 (pc := 26) C (rC_State_isSungBy_9 C dX5_sayWith_26 q_390 (by omega) (Nat.le_of_ble_eq_true rfl) ⟨Nat.le_of_ble_eq_true rfl, Nat.le_of_ble_eq_true rfl⟩) ⟨Nat.le_of_ble_eq_true rfl, Nat.le_of_ble_eq_true rfl⟩ (fun r4 T3 => ?_)
      refine j_if_eq (pc := 29) 48 C dX5_sayWith_29 (by decide) ?_ ?_
      ·
        refine j_aload_n (pc := 48) 0 C dX5_sayWith_48 rfl rfl ?_
        refine j_aload_n (pc := 49) 0 C dX5_sayWith_49 rfl rfl ?_
        refine gC_9_1 (pc := 50) C dX5_sayWith_50 q_301 ?_
        refine gC_2_8 (pc := 53) C dX5_sayWith_53 q_368 ?_
        refine j_iload_n (pc := 56) 1 C dX5_sayWith_56 rfl rfl ?_
        refine aC_19 (pc := 57) C dX5_sayWith_57 ?_
        refine j_aload_n (pc := 58) 0 C dX5_sayWith_58 rfl rfl ?_
        refine gC_9_1 (pc := 59) C dX5_sayWith_59 q_301 ?_
        refine gC_2_9 (pc := 62) C dX5_sayWith_62 q_369 ?_
        refine j_iload_n (pc := 65) 1 C dX5_sayWith_65 rfl rfl ?_
        refine aC_20 (pc := 66) C dX5_sayWith_66 ?_
        refine j_callv0 (pc := 67) C (rC_State_slip_9 C dX5_sayWith_67 q_382 (by omega) (Nat.le_of_ble_eq_true rfl) ⟨Nat.le_of_ble_eq_true rfl, Nat.le_of_ble_eq_true rfl⟩) ⟨Nat.le_of_ble_eq_true rfl, Nat.le_of_ble_eq_true rfl⟩ (fun T5 => ?_)
        refine j_aload_n (pc := 70) 0 C dX5_sayWith_70 rfl rfl ?_
        refine j_iload_n (pc := 71) 2 C dX5_sayWith_71 rfl rfl ?_
        refine j_aload_n (pc := 72) 0 C dX5_sayWith_72 rfl rfl ?_
        refine gC_9_1 (pc := 73) C dX5_sayWith_73 q_301 ?_
        refine gC_2_9 (pc := 76) C dX5_sayWith_76 q_369 ?_
        refine j_iload_n (pc := 79) 1 C dX5_sayWith_79 rfl rfl ?_
        refine aC_20 (pc := 80) C dX5_sayWith_80 ?_
        refine j_callv0 (pc := 81) C (rC_State_slip_9 C dX5_sayWith_81 q_382 (by omega) (Nat.le_of_ble_eq_true rfl) ⟨Nat.le_of_ble_eq_true rfl, Nat.le_of_ble_eq_true rfl⟩) ⟨Nat.le_of_ble_eq_true rfl, Nat.le_of_ble_eq_true rfl⟩ (fun T7 => ?_)
        refine j_iconst (pc := 84) 1 C dX5_sayWith_84 (by decide) ?_
        exact j_zretc C dX5_sayWith_85 rfl (Nat.le_of_ble_eq_true rfl) (Nat.le_of_ble_eq_true rfl) rfl
      ·
        refine j_aload_n (pc := 32) 0 C dX5_sayWith_32 rfl rfl ?_
        refine gC_9_0 (pc := 33) C dX5_sayWith_33 q_172 ?_
        refine j_bipush (pc := 36) 72 C dX5_sayWith_36 (by decide) ?_
        refine j_dup2 (pc := 38) C dX5_sayWith_38 rfl rfl ?_
        refine acC_46 (pc := 39) C dX5_sayWith_39 rfl ?_
        refine j_iconst (pc := 40) 1 C dX5_sayWith_40 (by decide) ?_
        refine j_iload_n (pc := 41) 1 C dX5_sayWith_41 rfl rfl ?_
        refine j_ishl (pc := 42) C dX5_sayWith_42 ?_
        refine j_ior (pc := 43) C dX5_sayWith_43 ?_
        refine scC_46 (pc := 44) C dX5_sayWith_44 rfl ?_
        refine j_nxS (fun T9 => ?_)
        refine j_goto (pc := 45) 84 C dX5_sayWith_45 (by decide) ?_
        refine j_iconst (pc := 84) 1 C dX5_sayWith_84 (by decide) ?_
        exact j_zretc C dX5_sayWith_85 rfl (Nat.le_of_ble_eq_true rfl) (Nat.le_of_ble_eq_true rfl) rfl
    ·
      refine j_iconst (pc := 21) 0 C dX5_sayWith_21 (by decide) ?_
      exact j_zretc C dX5_sayWith_22 rfl (Nat.le_of_ble_eq_true rfl) (Nat.le_of_ble_eq_true rfl) rfl
theorem cC_State_sayWith_9 {l : Launch} {G : Gc} (hfl : l.stackTraces = false) (hW : Wok G wC 54)   (x1 : Int32) (x2 : Int32) (S : St) : Ct l yX5_sayWith (Cond.code yX5_sayWith cX5_sayWith 3 (some .boolean) :: tblG) 4 0 0 G wC 54 [.ref (gA G 9), .int x1, .int x2] S (fC_State_sayWith_9 x1 x2 S) := ct_of (own := RX5) hfl (by decide +kernel) rfl hW (Nat.le_of_ble_eq_true rfl) (fun E hE C => by subst hE; exact bC_State_sayWith_9 C   x1 x2 S)
theorem rC_State_sayWith_9 {E : Ec} {G : Gc} {nL mc ms : Nat} {own : String} {cc : ByteArray} {L : Nat} {ret : Option FieldType} {k n pc ix : Nat} {loc : List (Nat × Value)} {rest : List Value}  {x1 : Int32} {x2 : Int32} {S : St}  (C : JC E (VC G nL mc ms own) cc L ret) (hd : decode cc pc = .ok (.invokevirtual ix, 3)) (hq : Cond.methodLink own ix yX5_sayWith ∈ tblG) (hL : 4 + 1 ≤ L) (hW : (rest.map fun v => v.category).sum ≤ 8) (hf : k + 0 ≤ mc ∧ n + 0 ≤ ms) : Rn E (VC G nL mc ms own) k n 0 0 pc loc (.int x2 :: .int x1 :: .ref (gA G 9) :: rest) rest S (fC_State_sayWith_9 x1 x2 S) := rn_V (ci := 5) 9 (V := VC G nL mc ms own) (As := [.int x1, .int x2]) (Cq := (RX5, TX5, 3)) (cC_State_sayWith_9 C.flags C.wok  x1 x2 S) knX5_sayWith ⟨q_392, q_393⟩ rfl rfl C hd hq hL rfl rfl hW hf

theorem knX7_fadedLines : Kn yX7_fadedLines cX7_fadedLines 2 (some .int) 1 := ⟨q_396, q_112, by decide +kernel, by decide⟩
theorem bC_Valley_fadedLines_2 {E : Ec} {G : Gc}    (C : JC E (VC G 2 0 0 RX7) cX7_fadedLines 1 (some .int))    (x1 : Int32) (S : St) : J E (VC G 2 0 0 RX7) 0 0 0 [(0, .ref (gA G 2)), (1, .int x1)] [] S (fC_Valley_fadedLines_2  x1 S) := by
  unfold fC_Valley_fadedLines_2
  refine j_aload_n (pc := 0) 0 C dX7_fadedLines_0 rfl rfl ?_
  refine gC_2_3 (pc := 1) C dX7_fadedLines_1 q_77 ?_
  refine j_if_ne (pc := 4) 11 C dX7_fadedLines_4 (by decide) ?_ ?_
  ·
    refine j_aload_n (pc := 11) 0 C dX7_fadedLines_11 rfl rfl ?_
    refine gC_2_5 (pc := 12) C dX7_fadedLines_12 q_131 ?_
    refine j_iload_n (pc := 15) 1 C dX7_fadedLines_15 rfl rfl ?_
    refine aC_16 (pc := 16) C dX7_fadedLines_16 ?_
    refine j_aload_n (pc := 17) 0 C dX7_fadedLines_17 rfl rfl ?_
    refine gC_2_3 (pc := 18) C dX7_fadedLines_18 q_77 ?_
    refine j_idiv (pc := 21) C dX7_fadedLines_21 ?_
    exact j_iret C dX7_fadedLines_22 rfl (Nat.le_of_ble_eq_true rfl) (Nat.le_of_ble_eq_true rfl)
  ·
    refine j_iconst (pc := 7) 0 C dX7_fadedLines_7 (by decide) ?_
    refine j_goto (pc := 8) 22 C dX7_fadedLines_8 (by decide) ?_
    exact j_iret C dX7_fadedLines_22 rfl (Nat.le_of_ble_eq_true rfl) (Nat.le_of_ble_eq_true rfl)
theorem cC_Valley_fadedLines_2 {l : Launch} {G : Gc} (hfl : l.stackTraces = false) (hW : Wok G wC 54)   (x1 : Int32) (S : St) : Ct l yX7_fadedLines (Cond.code yX7_fadedLines cX7_fadedLines 2 (some .int) :: tblG) 1 0 0 G wC 54 [.ref (gA G 2), .int x1] S (fC_Valley_fadedLines_2 x1 S) := ct_of (own := RX7) hfl (by decide +kernel) rfl hW (Nat.le_of_ble_eq_true rfl) (fun E hE C => by subst hE; exact bC_Valley_fadedLines_2 C   x1 S)
theorem rC_Valley_fadedLines_2 {E : Ec} {G : Gc} {nL mc ms : Nat} {own : String} {cc : ByteArray} {L : Nat} {ret : Option FieldType} {k n pc ix : Nat} {loc : List (Nat × Value)} {rest : List Value}  {x1 : Int32} {S : St}  (C : JC E (VC G nL mc ms own) cc L ret) (hd : decode cc pc = .ok (.invokevirtual ix, 3)) (hq : Cond.methodLink own ix yX7_fadedLines ∈ tblG) (hL : 1 + 1 ≤ L) (hW : (rest.map fun v => v.category).sum ≤ 8) (hf : k + 0 ≤ mc ∧ n + 0 ≤ ms) : Rn E (VC G nL mc ms own) k n 0 0 pc loc (.int x1 :: .ref (gA G 2) :: rest) rest S (fC_Valley_fadedLines_2 x1 S) := rn_V (ci := 7) 2 (V := VC G nL mc ms own) (As := [.int x1]) (Cq := (RX7, TX7, 12)) (cC_Valley_fadedLines_2 C.flags C.wok  x1 S) knX7_fadedLines ⟨q_397, q_398⟩ rfl rfl C hd hq hL rfl rfl hW hf

theorem knX5_endWeek : Kn yX5_endWeek cX5_endWeek 9 none 2 := ⟨q_400, q_174, by decide +kernel, by decide⟩
theorem bC_State_endWeek_9_84 {E : Ec} {G : Gc}   {K33 : Int32 → Int32 → Int32 → St → Oz} (C : JC E (VC G 9 0 0 RX5) cX5_endWeek 3 none)   (hK33 : ∀ (x2 : Int32) (x3 : Int32) (x4 : Int32) (S : St), J E (VC G 9 0 0 RX5) 0 0 33 [(0, .ref (gA G 9)), (2, .int x2), (3, .int x3), (4, .int x4)] [] S (K33 x2 x3 x4 S)) : ∀ (n : Nat) (x2 : Int32) (x3 : Int32) (x4 : Int32) (x5 : Int32) (x6 : Int32) (x7 : Int32) (x8 : Int32) (S : St), J E (VC G 9 0 0 RX5) 0 0 84 [(0, .ref (gA G 9)), (2, .int x2), (3, .int x3), (4, .int x4), (5, .int x5), (6, .int x6), (7, .int x7), (8, .int x8)] [] S (fC_State_endWeek_9_84 K33 n x2 x3 x4 x5 x6 x7 x8 S) := by
  intro n
  induction n with
  | zero => intro x2 x3 x4 x5 x6 x7 x8 S; rw [fC_State_endWeek_9_84]; exact j_none
  | succ n ih =>
    intro x2 x3 x4 x5 x6 x7 x8 S
    rw [fC_State_endWeek_9_84]
    refine j_iload (pc := 84) 7 C dX5_endWeek_84 rfl ?_
    refine j_aload_n (pc := 86) 0 C dX5_endWeek_86 rfl rfl ?_
    refine gC_9_1 (pc := 87) C dX5_endWeek_87 q_301 ?_
    refine gC_2_0 (pc := 90) C dX5_endWeek_90 q_312 ?_
    refine j_icmp_ge (pc := 93) 161 C dX5_endWeek_93 (by decide) ?_ ?_
    ·
      refine j_aload_n (pc := 161) 0 C dX5_endWeek_161 rfl rfl ?_
      refine gC_9_0 (pc := 162) C dX5_endWeek_162 q_172 ?_
      refine j_bipush (pc := 165) 66 C dX5_endWeek_165 (by decide) ?_
      refine j_iload (pc := 167) 3 C dX5_endWeek_167 rfl ?_
      refine j_iadd (pc := 169) C dX5_endWeek_169 ?_
      refine j_iconst (pc := 170) 0 C dX5_endWeek_170 (by decide) ?_
      refine sC_46 (pc := 171) C dX5_endWeek_171 ?_
      refine j_nxS (fun T1 => ?_)
      refine j_aload_n (pc := 172) 0 C dX5_endWeek_172 rfl rfl ?_
      refine gC_9_0 (pc := 173) C dX5_endWeek_173 q_172 ?_
      refine j_bipush (pc := 176) 54 C dX5_endWeek_176 (by decide) ?_
      refine j_iload (pc := 178) 3 C dX5_endWeek_178 rfl ?_
      refine j_iadd (pc := 180) C dX5_endWeek_180 ?_
      refine j_iconst (pc := 181) 0 C dX5_endWeek_181 (by decide) ?_
      refine sC_46 (pc := 182) C dX5_endWeek_182 ?_
      refine j_nxS (fun T2 => ?_)
      refine j_iinc (pc := 183) 3 (x4 + 1) [(4, .int (x4 + 1)), (0, .ref (gA G 9)), (2, .int x2), (3, .int x3), (5, .int x5), (6, .int x6), (7, .int x7), (8, .int x8)] C dX5_endWeek_183 rfl rfl (Nat.le_of_ble_eq_true rfl) rfl ?_
      refine j_goto (pc := 186) 33 C dX5_endWeek_186 (by decide) ?_
      refine j_sub [1, 2, 3, 0] rfl ?_
      exact hK33 x2 x3 (x4 + 1) T2
    ·
      refine j_aload_n (pc := 96) 0 C dX5_endWeek_96 rfl rfl ?_
      refine gC_9_0 (pc := 97) C dX5_endWeek_97 q_172 ?_
      refine j_iload (pc := 100) 5 C dX5_endWeek_100 rfl ?_
      refine j_iload (pc := 102) 7 C dX5_endWeek_102 rfl ?_
      refine j_iadd (pc := 104) C dX5_endWeek_104 ?_
      refine aC_46 (pc := 105) C dX5_endWeek_105 ?_
      refine j_if_le (pc := 106) 155 C dX5_endWeek_106 (by decide) ?_ ?_
      ·
        refine j_iinc (pc := 155) 7 (x8 + 1) [(8, .int (x8 + 1)), (0, .ref (gA G 9)), (2, .int x2), (3, .int x3), (4, .int x4), (5, .int x5), (6, .int x6), (7, .int x7)] C dX5_endWeek_155 rfl rfl (Nat.le_of_ble_eq_true rfl) rfl ?_
        refine j_goto (pc := 158) 84 C dX5_endWeek_158 (by decide) ?_
        refine j_sub [1, 2, 3, 4, 5, 6, 7, 0] rfl ?_
        exact ih x2 x3 x4 x5 x6 x7 (x8 + 1) S
      ·
        refine j_iload (pc := 109) 4 C dX5_endWeek_109 rfl ?_
        refine j_if_eq (pc := 111) 128 C dX5_endWeek_111 (by decide) ?_ ?_
        ·
          refine j_iload (pc := 128) 6 C dX5_endWeek_128 rfl ?_
          refine j_iload (pc := 130) 7 C dX5_endWeek_130 rfl ?_
          refine j_ishr (pc := 132) C dX5_endWeek_132 ?_
          refine j_iconst (pc := 133) 1 C dX5_endWeek_133 (by decide) ?_
          refine j_iand (pc := 134) C dX5_endWeek_134 ?_
          refine j_if_ne (pc := 135) 155 C dX5_endWeek_135 (by decide) ?_ ?_
          ·
            refine j_iinc (pc := 155) 7 (x8 + 1) [(8, .int (x8 + 1)), (0, .ref (gA G 9)), (2, .int x2), (3, .int x3), (4, .int x4), (5, .int x5), (6, .int x6), (7, .int x7)] C dX5_endWeek_155 rfl rfl (Nat.le_of_ble_eq_true rfl) rfl ?_
            refine j_goto (pc := 158) 84 C dX5_endWeek_158 (by decide) ?_
            refine j_sub [1, 2, 3, 4, 5, 6, 7, 0] rfl ?_
            exact ih x2 x3 x4 x5 x6 x7 (x8 + 1) S
          ·
            refine j_aload_n (pc := 138) 0 C dX5_endWeek_138 rfl rfl ?_
            refine j_iload (pc := 139) 3 C dX5_endWeek_139 rfl ?_
            refine j_iload (pc := 141) 7 C dX5_endWeek_141 rfl ?_
            refine j_aload_n (pc := 143) 0 C dX5_endWeek_143 rfl rfl ?_
            refine gC_9_1 (pc := 144) C dX5_endWeek_144 q_301 ?_
            refine j_iload (pc := 147) 7 C dX5_endWeek_147 rfl ?_
            refine j_callI0 (pc := 149) C (rC_Valley_fadedLines_2 C dX5_endWeek_149 q_399 (by omega) (Nat.le_of_ble_eq_true rfl) ⟨Nat.le_of_ble_eq_true rfl, Nat.le_of_ble_eq_true rfl⟩) ⟨Nat.le_of_ble_eq_true rfl, Nat.le_of_ble_eq_true rfl⟩ (fun r4 T3 => ?_)
            refine j_callv0 (pc := 152) C (rC_State_lose_9 C dX5_endWeek_152 q_378 (by omega) (Nat.le_of_ble_eq_true rfl) ⟨Nat.le_of_ble_eq_true rfl, Nat.le_of_ble_eq_true rfl⟩) ⟨Nat.le_of_ble_eq_true rfl, Nat.le_of_ble_eq_true rfl⟩ (fun T5 => ?_)
            refine j_iinc (pc := 155) 7 (x8 + 1) [(8, .int (x8 + 1)), (0, .ref (gA G 9)), (2, .int x2), (3, .int x3), (4, .int x4), (5, .int x5), (6, .int x6), (7, .int x7)] C dX5_endWeek_155 rfl rfl (Nat.le_of_ble_eq_true rfl) rfl ?_
            refine j_goto (pc := 158) 84 C dX5_endWeek_158 (by decide) ?_
            refine j_sub [1, 2, 3, 4, 5, 6, 7, 0] rfl ?_
            exact ih x2 x3 x4 x5 x6 x7 (x8 + 1) T5
        ·
          refine j_aload_n (pc := 114) 0 C dX5_endWeek_114 rfl rfl ?_
          refine gC_9_0 (pc := 115) C dX5_endWeek_115 q_172 ?_
          refine j_iload (pc := 118) 5 C dX5_endWeek_118 rfl ?_
          refine j_iload (pc := 120) 7 C dX5_endWeek_120 rfl ?_
          refine j_iadd (pc := 122) C dX5_endWeek_122 ?_
          refine j_iconst (pc := 123) 0 C dX5_endWeek_123 (by decide) ?_
          refine sC_46 (pc := 124) C dX5_endWeek_124 ?_
          refine j_nxS (fun T7 => ?_)
          refine j_goto (pc := 125) 155 C dX5_endWeek_125 (by decide) ?_
          refine j_iinc (pc := 155) 7 (x8 + 1) [(8, .int (x8 + 1)), (0, .ref (gA G 9)), (2, .int x2), (3, .int x3), (4, .int x4), (5, .int x5), (6, .int x6), (7, .int x7)] C dX5_endWeek_155 rfl rfl (Nat.le_of_ble_eq_true rfl) rfl ?_
          refine j_goto (pc := 158) 84 C dX5_endWeek_158 (by decide) ?_
          refine j_sub [1, 2, 3, 4, 5, 6, 7, 0] rfl ?_
          exact ih x2 x3 x4 x5 x6 x7 (x8 + 1) T7
theorem bC_State_endWeek_9_59 {E : Ec} {G : Gc}   {K33 : Int32 → Int32 → Int32 → St → Oz} (C : JC E (VC G 9 0 0 RX5) cX5_endWeek 3 none)   (hK33 : ∀ (x2 : Int32) (x3 : Int32) (x4 : Int32) (S : St), J E (VC G 9 0 0 RX5) 0 0 33 [(0, .ref (gA G 9)), (2, .int x2), (3, .int x3), (4, .int x4)] [] S (K33 x2 x3 x4 S)) (x2 : Int32) (x3 : Int32) (x4 : Int32) (s0 : Int32) (S : St) : J E (VC G 9 0 0 RX5) 0 0 59 [(0, .ref (gA G 9)), (2, .int x2), (3, .int x3), (4, .int x4)] [.int s0] S (fC_State_endWeek_9_59 K33 x2 x3 x4 s0 S) := by
  unfold fC_State_endWeek_9_59
  refine j_istore (pc := 59) [(5, .int s0), (0, .ref (gA G 9)), (2, .int x2), (3, .int x3), (4, .int x4)] C dX5_endWeek_59 (Nat.le_of_ble_eq_true rfl) rfl ?_
  refine j_iload (pc := 61) 4 C dX5_endWeek_61 rfl ?_
  refine j_iconst (pc := 63) 0 C dX5_endWeek_63 (by decide) ?_
  refine j_callI0 (pc := 64) C (rC_State_place C dX5_endWeek_64 q_315 (by omega) (Nat.le_of_ble_eq_true rfl) ⟨Nat.le_of_ble_eq_true rfl, Nat.le_of_ble_eq_true rfl⟩) ⟨Nat.le_of_ble_eq_true rfl, Nat.le_of_ble_eq_true rfl⟩ (fun r2 T1 => ?_)
  refine j_istore (pc := 67) [(6, .int r2), (5, .int s0), (0, .ref (gA G 9)), (2, .int x2), (3, .int x3), (4, .int x4)] C dX5_endWeek_67 (Nat.le_of_ble_eq_true rfl) rfl ?_
  refine j_aload_n (pc := 69) 2 C dX5_endWeek_69 rfl rfl ?_
  refine gC_9_0 (pc := 70) C dX5_endWeek_70 q_172 ?_
  refine j_bipush (pc := 73) 66 C dX5_endWeek_73 (by decide) ?_
  refine j_iload (pc := 75) 5 C dX5_endWeek_75 rfl ?_
  refine j_iadd (pc := 77) C dX5_endWeek_77 ?_
  refine aC_46 (pc := 78) C dX5_endWeek_78 ?_
  refine j_nxI (fun v3 => ?_)
  refine j_istore (pc := 79) [(7, .int v3), (6, .int r2), (5, .int s0), (0, .ref (gA G 9)), (2, .int x2), (3, .int x3), (4, .int x4)] C dX5_endWeek_79 (Nat.le_of_ble_eq_true rfl) rfl ?_
  refine j_iconst (pc := 81) 0 C dX5_endWeek_81 (by decide) ?_
  refine j_istore (pc := 82) [(8, .int 0), (7, .int v3), (6, .int r2), (5, .int s0), (0, .ref (gA G 9)), (2, .int x2), (3, .int x3), (4, .int x4)] C dX5_endWeek_82 (Nat.le_of_ble_eq_true rfl) rfl ?_
  refine j_sub [4, 5, 6, 7, 3, 2, 1, 0] rfl ?_
  exact bC_State_endWeek_9_84 C hK33 FU x2 x3 x4 s0 r2 v3 0 T1
theorem bC_State_endWeek_9_58 {E : Ec} {G : Gc}   {K33 : Int32 → Int32 → Int32 → St → Oz} (C : JC E (VC G 9 0 0 RX5) cX5_endWeek 3 none)   (hK33 : ∀ (x2 : Int32) (x3 : Int32) (x4 : Int32) (S : St), J E (VC G 9 0 0 RX5) 0 0 33 [(0, .ref (gA G 9)), (2, .int x2), (3, .int x3), (4, .int x4)] [] S (K33 x2 x3 x4 S)) (x2 : Int32) (x3 : Int32) (x4 : Int32) (S : St) : J E (VC G 9 0 0 RX5) 0 0 58 [(0, .ref (gA G 9)), (2, .int x2), (3, .int x3), (4, .int x4)] [] S (fC_State_endWeek_9_58 K33 x2 x3 x4 S) := by
  unfold fC_State_endWeek_9_58
  refine j_iconst (pc := 58) 0 C dX5_endWeek_58 (by decide) ?_
  exact bC_State_endWeek_9_59 C hK33 x2 x3 x4 0 S
theorem bC_State_endWeek_9_33 {E : Ec} {G : Gc}    (C : JC E (VC G 9 0 0 RX5) cX5_endWeek 3 none)    : ∀ (n : Nat) (x2 : Int32) (x3 : Int32) (x4 : Int32) (S : St), J E (VC G 9 0 0 RX5) 0 0 33 [(0, .ref (gA G 9)), (2, .int x2), (3, .int x3), (4, .int x4)] [] S (fC_State_endWeek_9_33  n x2 x3 x4 S) := by
  intro n
  induction n with
  | zero => intro x2 x3 x4 S; rw [fC_State_endWeek_9_33]; exact j_none
  | succ n ih =>
    intro x2 x3 x4 S
    rw [fC_State_endWeek_9_33]
    refine j_iload (pc := 33) 3 C dX5_endWeek_33 rfl ?_
    refine j_iload_n (pc := 35) 1 C dX5_endWeek_35 rfl rfl ?_
    refine j_icmp_ge (pc := 36) 189 C dX5_endWeek_36 (by decide) ?_ ?_
    ·
      exact j_vret C dX5_endWeek_189 rfl (Nat.le_of_ble_eq_true rfl) (Nat.le_of_ble_eq_true rfl)
    ·
      refine j_iload_n (pc := 39) 2 C dX5_endWeek_39 rfl rfl ?_
      refine j_if_eq (pc := 40) 58 C dX5_endWeek_40 (by decide) ?_ ?_
      ·
        exact bC_State_endWeek_9_58 C ih x2 x3 x4 S
      ·
        refine j_aload_n (pc := 43) 0 C dX5_endWeek_43 rfl rfl ?_
        refine j_iload (pc := 44) 3 C dX5_endWeek_44 rfl ?_
        refine j_callI0 (pc := 46) C (rC_State_ageOf_9 C dX5_endWeek_46 q_335 (by omega) (Nat.le_of_ble_eq_true rfl) ⟨Nat.le_of_ble_eq_true rfl, Nat.le_of_ble_eq_true rfl⟩) ⟨Nat.le_of_ble_eq_true rfl, Nat.le_of_ble_eq_true rfl⟩ (fun r2 T1 => ?_)
        refine j_bipush (pc := 49) 60 C dX5_endWeek_49 (by decide) ?_
        refine j_icmp_ne (pc := 51) 58 C dX5_endWeek_51 (by decide) ?_ ?_
        ·
          exact bC_State_endWeek_9_58 C ih x2 x3 x4 T1
        ·
          refine j_iconst (pc := 54) 1 C dX5_endWeek_54 (by decide) ?_
          refine j_goto (pc := 55) 59 C dX5_endWeek_55 (by decide) ?_
          exact bC_State_endWeek_9_59 C ih x2 x3 x4 1 T1
theorem bC_State_endWeek_9 {E : Ec} {G : Gc}    (C : JC E (VC G 9 0 0 RX5) cX5_endWeek 3 none)    (x1 : Int32) (x2 : Int32) (S : St) : J E (VC G 9 0 0 RX5) 0 0 0 [(0, .ref (gA G 9)), (1, .int x1), (2, .int x2)] [] S (fC_State_endWeek_9  x1 x2 S) := by
  unfold fC_State_endWeek_9
  refine j_aload_n (pc := 0) 0 C dX5_endWeek_0 rfl rfl ?_
  refine gC_9_0 (pc := 1) C dX5_endWeek_1 q_172 ?_
  refine j_bipush (pc := 4) 73 C dX5_endWeek_4 (by decide) ?_
  refine j_dup2 (pc := 6) C dX5_endWeek_6 rfl rfl ?_
  refine acC_46 (pc := 7) C dX5_endWeek_7 rfl ?_
  refine j_iconst (pc := 8) 1 C dX5_endWeek_8 (by decide) ?_
  refine j_iadd (pc := 9) C dX5_endWeek_9 ?_
  refine scC_46 (pc := 10) C dX5_endWeek_10 rfl ?_
  refine j_nxS (fun T1 => ?_)
  refine j_aload_n (pc := 11) 0 C dX5_endWeek_11 rfl rfl ?_
  refine gC_9_0 (pc := 12) C dX5_endWeek_12 q_172 ?_
  refine j_bipush (pc := 15) 73 C dX5_endWeek_15 (by decide) ?_
  refine acC_46 (pc := 17) C dX5_endWeek_17 rfl ?_
  refine j_bipush (pc := 18) 10 C dX5_endWeek_18 (by decide) ?_
  refine j_iremc (pc := 20) C dX5_endWeek_20 rfl ?_
  refine j_if_ne (pc := 21) 28 C dX5_endWeek_21 (by decide) ?_ ?_
  ·
    refine j_iconst (pc := 28) 0 C dX5_endWeek_28 (by decide) ?_
    refine j_istore_n (pc := 29) [(3, .int 0), (0, .ref (gA G 9)), (1, .int x1), (2, .int x2)] C dX5_endWeek_29 rfl (Nat.le_of_ble_eq_true rfl) rfl ?_
    refine j_iload_n (pc := 30) 2 C dX5_endWeek_30 rfl rfl ?_
    refine j_istore (pc := 31) [(4, .int x1), (3, .int 0), (0, .ref (gA G 9)), (1, .int x1), (2, .int x2)] C dX5_endWeek_31 (Nat.le_of_ble_eq_true rfl) rfl ?_
    refine j_sub [2, 4, 1, 0] rfl ?_
    exact bC_State_endWeek_9_33 C  FU x2 0 x1 T1
  ·
    refine j_iconst (pc := 24) 1 C dX5_endWeek_24 (by decide) ?_
    refine j_goto (pc := 25) 29 C dX5_endWeek_25 (by decide) ?_
    refine j_istore_n (pc := 29) [(3, .int 1), (0, .ref (gA G 9)), (1, .int x1), (2, .int x2)] C dX5_endWeek_29 rfl (Nat.le_of_ble_eq_true rfl) rfl ?_
    refine j_iload_n (pc := 30) 2 C dX5_endWeek_30 rfl rfl ?_
    refine j_istore (pc := 31) [(4, .int x1), (3, .int 1), (0, .ref (gA G 9)), (1, .int x1), (2, .int x2)] C dX5_endWeek_31 (Nat.le_of_ble_eq_true rfl) rfl ?_
    refine j_sub [2, 4, 1, 0] rfl ?_
    exact bC_State_endWeek_9_33 C  FU x2 1 x1 T1
theorem cC_State_endWeek_9 {l : Launch} {G : Gc} (hfl : l.stackTraces = false) (hW : Wok G wC 54)   (x1 : Int32) (x2 : Int32) (S : St) : Ct l yX5_endWeek (Cond.code yX5_endWeek cX5_endWeek 9 none :: tblG) 3 0 0 G wC 54 [.ref (gA G 9), .int x1, .int x2] S (fC_State_endWeek_9 x1 x2 S) := ct_of (own := RX5) hfl (by decide +kernel) rfl hW (Nat.le_of_ble_eq_true rfl) (fun E hE C => by subst hE; exact bC_State_endWeek_9 C   x1 x2 S)
theorem rC_State_endWeek_9 {E : Ec} {G : Gc} {nL mc ms : Nat} {own : String} {cc : ByteArray} {L : Nat} {ret : Option FieldType} {k n pc ix : Nat} {loc : List (Nat × Value)} {rest : List Value}  {x1 : Int32} {x2 : Int32} {S : St}  (C : JC E (VC G nL mc ms own) cc L ret) (hd : decode cc pc = .ok (.invokevirtual ix, 3)) (hq : Cond.methodLink own ix yX5_endWeek ∈ tblG) (hL : 3 + 1 ≤ L) (hW : (rest.map fun v => v.category).sum ≤ 8) (hf : k + 0 ≤ mc ∧ n + 0 ≤ ms) : Rn E (VC G nL mc ms own) k n 0 0 pc loc (.int x2 :: .int x1 :: .ref (gA G 9) :: rest) rest S (fC_State_endWeek_9 x1 x2 S) := rn_V (ci := 5) 9 (V := VC G nL mc ms own) (As := [.int x1, .int x2]) (Cq := (RX5, TX5, 3)) (cC_State_endWeek_9 C.flags C.wok  x1 x2 S) knX5_endWeek ⟨q_401, q_402⟩ rfl rfl C hd hq hL rfl rfl hW hf

theorem knX5_endWeekOfWork : Kn yX5_endWeekOfWork cX5_endWeekOfWork 1 (some .boolean) 0 := ⟨q_404, q_174, by decide +kernel, by decide⟩
theorem bC_State_endWeekOfWork_9 {E : Ec} {G : Gc}    (C : JC E (VC G 1 0 0 RX5) cX5_endWeekOfWork 4 (some .boolean))     (S : St) : J E (VC G 1 0 0 RX5) 0 0 0 [(0, .ref (gA G 9))] [] S (fC_State_endWeekOfWork_9   S) := by
  unfold fC_State_endWeekOfWork_9
  refine j_aload_n (pc := 0) 0 C dX5_endWeekOfWork_0 rfl rfl ?_
  refine gC_9_0 (pc := 1) C dX5_endWeekOfWork_1 q_172 ?_
  refine j_bipush (pc := 4) 73 C dX5_endWeekOfWork_4 (by decide) ?_
  refine acC_46 (pc := 6) C dX5_endWeekOfWork_6 rfl ?_
  refine j_sipush (pc := 7) 400 C dX5_endWeekOfWork_7 (by decide) ?_
  refine j_icmp_lt (pc := 10) 15 C dX5_endWeekOfWork_10 (by decide) ?_ ?_
  ·
    refine j_aload_n (pc := 15) 0 C dX5_endWeekOfWork_15 rfl rfl ?_
    refine j_iconst (pc := 16) 0 C dX5_endWeekOfWork_16 (by decide) ?_
    refine j_aload_n (pc := 17) 0 C dX5_endWeekOfWork_17 rfl rfl ?_
    refine gC_9_1 (pc := 18) C dX5_endWeekOfWork_18 q_301 ?_
    refine gC_2_1 (pc := 21) C dX5_endWeekOfWork_21 q_395 ?_
    refine j_callv0 (pc := 24) C (rC_State_endWeek_9 C dX5_endWeekOfWork_24 q_403 (by omega) (Nat.le_of_ble_eq_true rfl) ⟨Nat.le_of_ble_eq_true rfl, Nat.le_of_ble_eq_true rfl⟩) ⟨Nat.le_of_ble_eq_true rfl, Nat.le_of_ble_eq_true rfl⟩ (fun T1 => ?_)
    refine j_iconst (pc := 27) 1 C dX5_endWeekOfWork_27 (by decide) ?_
    exact j_zretc C dX5_endWeekOfWork_28 rfl (Nat.le_of_ble_eq_true rfl) (Nat.le_of_ble_eq_true rfl) rfl
  ·
    refine j_iconst (pc := 13) 0 C dX5_endWeekOfWork_13 (by decide) ?_
    exact j_zretc C dX5_endWeekOfWork_14 rfl (Nat.le_of_ble_eq_true rfl) (Nat.le_of_ble_eq_true rfl) rfl
theorem cC_State_endWeekOfWork_9 {l : Launch} {G : Gc} (hfl : l.stackTraces = false) (hW : Wok G wC 54)    (S : St) : Ct l yX5_endWeekOfWork (Cond.code yX5_endWeekOfWork cX5_endWeekOfWork 1 (some .boolean) :: tblG) 4 0 0 G wC 54 [.ref (gA G 9)] S (fC_State_endWeekOfWork_9  S) := ct_of (own := RX5) hfl (by decide +kernel) rfl hW (Nat.le_of_ble_eq_true rfl) (fun E hE C => by subst hE; exact bC_State_endWeekOfWork_9 C    S)
theorem rC_State_endWeekOfWork_9 {E : Ec} {G : Gc} {nL mc ms : Nat} {own : String} {cc : ByteArray} {L : Nat} {ret : Option FieldType} {k n pc ix : Nat} {loc : List (Nat × Value)} {rest : List Value}   {S : St}  (C : JC E (VC G nL mc ms own) cc L ret) (hd : decode cc pc = .ok (.invokevirtual ix, 3)) (hq : Cond.methodLink own ix yX5_endWeekOfWork ∈ tblG) (hL : 4 + 1 ≤ L) (hW : (rest.map fun v => v.category).sum ≤ 8) (hf : k + 0 ≤ mc ∧ n + 0 ≤ ms) : Rn E (VC G nL mc ms own) k n 0 0 pc loc (.ref (gA G 9) :: rest) rest S (fC_State_endWeekOfWork_9  S) := rn_V (ci := 5) 9 (V := VC G nL mc ms own) (As := []) (Cq := (RX5, TX5, 3)) (cC_State_endWeekOfWork_9 C.flags C.wok   S) knX5_endWeekOfWork ⟨q_405, q_406⟩ rfl rfl C hd hq hL rfl rfl hW hf

theorem knX8_doStep : Kn yX8_doStep cX8_doStep 5 (some .boolean) 2 := ⟨q_408, q_265, by decide +kernel, by decide⟩
theorem bC_Work_doStep {E : Ec} {G : Gc}    (C : JC E (VC G 5 0 0 RX8) cX8_doStep 6 (some .boolean))    (x2 : Int32) (S : St) : J E (VC G 5 0 0 RX8) 0 0 0 [(0, .ref (gA G 8)), (1, .ref (gA G 9)), (2, .int x2)] [] S (fC_Work_doStep  x2 S) := by
  unfold fC_Work_doStep
  refine j_aload_n (pc := 0) 0 C dX8_doStep_0 rfl rfl ?_
  refine gC_8_1 (pc := 1) C dX8_doStep_1 q_262 ?_
  refine j_iload_n (pc := 4) 2 C dX8_doStep_4 rfl rfl ?_
  refine aC_44 (pc := 5) C dX8_doStep_5 ?_
  refine j_nxI (fun v1 => ?_)
  refine j_istore_n (pc := 6) [(3, .int v1), (0, .ref (gA G 8)), (1, .ref (gA G 9)), (2, .int x2)] C dX8_doStep_6 rfl (Nat.le_of_ble_eq_true rfl) rfl ?_
  refine j_aload_n (pc := 7) 1 C dX8_doStep_7 rfl rfl ?_
  refine gC_8_2 (pc := 8) C dX8_doStep_8 q_263 ?_
  refine j_iload_n (pc := 11) 3 C dX8_doStep_11 rfl rfl ?_
  refine aC_45 (pc := 12) C dX8_doStep_12 ?_
  refine j_nxI (fun v2 => ?_)
  refine j_istore (pc := 13) [(4, .int v2), (3, .int v1), (0, .ref (gA G 8)), (1, .ref (gA G 9)), (2, .int x2)] C dX8_doStep_13 (Nat.le_of_ble_eq_true rfl) rfl ?_
  refine j_aload_n (pc := 15) 2 C dX8_doStep_15 rfl rfl ?_
  refine gC_8_0 (pc := 16) C dX8_doStep_16 q_261 ?_
  refine j_iload_n (pc := 19) 4 C dX8_doStep_19 rfl rfl ?_
  refine aC_43 (pc := 20) C dX8_doStep_20 ?_
  refine j_nxI (fun v3 => ?_)
  refine j_tswC (pc := 21) (off := 31) 52 0 C dX8_doStep_21 (by decide) (by decide) (by decide) (by decide) ?_ (fun h21_0 => ?_)
  ·
    refine j_aload_n (pc := 52) 3 C dX8_doStep_52 rfl rfl ?_
    refine j_iload_n (pc := 53) 1 C dX8_doStep_53 rfl rfl ?_
    refine j_iload (pc := 54) 0 C dX8_doStep_54 rfl ?_
    refine j_callI0 (pc := 56) C (rC_State_teach_9 C dX8_doStep_56 q_359 (by omega) (Nat.le_of_ble_eq_true rfl) ⟨Nat.le_of_ble_eq_true rfl, Nat.le_of_ble_eq_true rfl⟩) ⟨Nat.le_of_ble_eq_true rfl, Nat.le_of_ble_eq_true rfl⟩ (fun r5 T4 => ?_)
    exact j_zret C dX8_doStep_59 rfl (Nat.le_of_ble_eq_true rfl) (Nat.le_of_ble_eq_true rfl)
  refine j_tswC (pc := 21) (off := 39) 60 1 C dX8_doStep_21 (by decide) (by decide) (by decide) (by decide) ?_ (fun h21_1 => ?_)
  ·
    refine j_aload_n (pc := 60) 3 C dX8_doStep_60 rfl rfl ?_
    refine j_iload_n (pc := 61) 1 C dX8_doStep_61 rfl rfl ?_
    refine j_iload (pc := 62) 0 C dX8_doStep_62 rfl ?_
    refine j_callI0 (pc := 64) C (rC_State_letGo_9 C dX8_doStep_64 q_363 (by omega) (Nat.le_of_ble_eq_true rfl) ⟨Nat.le_of_ble_eq_true rfl, Nat.le_of_ble_eq_true rfl⟩) ⟨Nat.le_of_ble_eq_true rfl, Nat.le_of_ble_eq_true rfl⟩ (fun r7 T6 => ?_)
    exact j_zret C dX8_doStep_67 rfl (Nat.le_of_ble_eq_true rfl) (Nat.le_of_ble_eq_true rfl)
  refine j_tswC (pc := 21) (off := 47) 68 2 C dX8_doStep_21 (by decide) (by decide) (by decide) (by decide) ?_ (fun h21_2 => ?_)
  ·
    refine j_aload_n (pc := 68) 3 C dX8_doStep_68 rfl rfl ?_
    refine j_iload_n (pc := 69) 1 C dX8_doStep_69 rfl rfl ?_
    refine j_callI0 (pc := 70) C (rC_State_sayAlone_9 C dX8_doStep_70 q_386 (by omega) (Nat.le_of_ble_eq_true rfl) ⟨Nat.le_of_ble_eq_true rfl, Nat.le_of_ble_eq_true rfl⟩) ⟨Nat.le_of_ble_eq_true rfl, Nat.le_of_ble_eq_true rfl⟩ (fun r9 T8 => ?_)
    exact j_zret C dX8_doStep_73 rfl (Nat.le_of_ble_eq_true rfl) (Nat.le_of_ble_eq_true rfl)
  refine j_tswC (pc := 21) (off := 53) 74 3 C dX8_doStep_21 (by decide) (by decide) (by decide) (by decide) ?_ (fun h21_3 => ?_)
  ·
    refine j_aload_n (pc := 74) 3 C dX8_doStep_74 rfl rfl ?_
    refine j_iload_n (pc := 75) 1 C dX8_doStep_75 rfl rfl ?_
    refine j_iload (pc := 76) 0 C dX8_doStep_76 rfl ?_
    refine j_callI0 (pc := 78) C (rC_State_sayWith_9 C dX8_doStep_78 q_394 (by omega) (Nat.le_of_ble_eq_true rfl) ⟨Nat.le_of_ble_eq_true rfl, Nat.le_of_ble_eq_true rfl⟩) ⟨Nat.le_of_ble_eq_true rfl, Nat.le_of_ble_eq_true rfl⟩ (fun r11 T10 => ?_)
    exact j_zret C dX8_doStep_81 rfl (Nat.le_of_ble_eq_true rfl) (Nat.le_of_ble_eq_true rfl)
  refine j_tswD (pc := 21) 82 C dX8_doStep_21 (by have := ne_i (z := 0) h21_0 (by decide); have := ne_i (z := 1) h21_1 (by decide); have := ne_i (z := 2) h21_2 (by decide); have := ne_i (z := 3) h21_3 (by decide); omega) (by decide) ?_
  refine j_aload_n (pc := 82) 3 C dX8_doStep_82 rfl rfl ?_
  refine j_callI0 (pc := 83) C (rC_State_endWeekOfWork_9 C dX8_doStep_83 q_407 (by omega) (Nat.le_of_ble_eq_true rfl) ⟨Nat.le_of_ble_eq_true rfl, Nat.le_of_ble_eq_true rfl⟩) ⟨Nat.le_of_ble_eq_true rfl, Nat.le_of_ble_eq_true rfl⟩ (fun r13 T12 => ?_)
  exact j_zret C dX8_doStep_86 rfl (Nat.le_of_ble_eq_true rfl) (Nat.le_of_ble_eq_true rfl)
theorem cC_Work_doStep {l : Launch} {G : Gc} (hfl : l.stackTraces = false) (hW : Wok G wC 54)   (x2 : Int32) (S : St) : Ct l yX8_doStep (Cond.code yX8_doStep cX8_doStep 5 (some .boolean) :: tblG) 6 0 0 G wC 54 [.ref (gA G 8), .ref (gA G 9), .int x2] S (fC_Work_doStep x2 S) := ct_of (own := RX8) hfl (by decide +kernel) rfl hW (Nat.le_of_ble_eq_true rfl) (fun E hE C => by subst hE; exact bC_Work_doStep C   x2 S)
theorem rC_Work_doStep {E : Ec} {G : Gc} {nL mc ms : Nat} {own : String} {cc : ByteArray} {L : Nat} {ret : Option FieldType} {k n pc ix : Nat} {loc : List (Nat × Value)} {rest : List Value}  {x2 : Int32} {S : St}  (C : JC E (VC G nL mc ms own) cc L ret) (hd : decode cc pc = .ok (.invokevirtual ix, 3)) (hq : Cond.methodLink own ix yX8_doStep ∈ tblG) (hL : 6 + 1 ≤ L) (hW : (rest.map fun v => v.category).sum ≤ 8) (hf : k + 0 ≤ mc ∧ n + 0 ≤ ms) : Rn E (VC G nL mc ms own) k n 0 0 pc loc (.int x2 :: .ref (gA G 9) :: .ref (gA G 8) :: rest) rest S (fC_Work_doStep x2 S) := rn_V (ci := 8) 8 (V := VC G nL mc ms own) (As := [.ref (gA G 9), .int x2]) (Cq := (RX8, TX8, 7)) (cC_Work_doStep C.flags C.wok  x2 S) knX8_doStep ⟨q_409, q_410⟩ rfl rfl C hd hq hL rfl rfl hW hf

theorem knX8_doSteps : Kn yX8_doSteps cX8_doSteps 7 none 4 := ⟨q_417, q_265, by decide +kernel, by decide⟩
theorem rgC_Work_doSteps {E : Ec} {G : Gc} {nL mc ms : Nat} {own : String} {cc : ByteArray} {L : Nat} {ret : Option FieldType} {k n pc ix : Nat} {loc : List (Nat × Value)} {rest : List Value} {rc : Int32 → Int32 → Int32 → St → Oz} {x : Nat} {x2 : Int32} {x3 : Int32} {x4 : Int32} {S : St} (hrc : ∀ (x2 : Int32) (x3 : Int32) (x4 : Int32) (S : St), Ct E.2.1 yX8_doSteps (Cond.code yX8_doSteps cX8_doSteps 7 none :: tblG) x 0 0 G wC 54 [.ref (gA G 8), .ref (gA G 9), .int x2, .int x3, .int x4] S (rc x2 x3 x4 S)) (C : JC E (VC G nL mc ms own) cc L ret) (hd : decode cc pc = .ok (.invokevirtual ix, 3)) (hq : Cond.methodLink own ix yX8_doSteps ∈ tblG) (hL : x + 1 ≤ L) (hW : (rest.map fun v => v.category).sum ≤ 8) (hf : k + 0 ≤ mc ∧ n + 0 ≤ ms) : Rn E (VC G nL mc ms own) k n 0 0 pc loc (.int x4 :: .int x3 :: .int x2 :: .ref (gA G 9) :: .ref (gA G 8) :: rest) rest S (rc x2 x3 x4 S) := rn_V (V := VC G nL mc ms own) (ci := 8) 8 (As := [.ref (gA G 9), .int x2, .int x3, .int x4]) (Cq := (RX8, TX8, 7)) (hrc x2 x3 x4 S) knX8_doSteps ⟨q_418, q_419⟩ rfl rfl C hd hq hL rfl rfl hW hf

theorem knX8_doAgain : Kn yX8_doAgain cX8_doAgain 5 none 3 := ⟨q_413, q_265, by decide +kernel, by decide⟩
theorem bC_Work_doAgain_10 {E : Ec} {G : Gc} {rc : Int32 → Int32 → Int32 → St → Oz} {x : Nat}   (C : JC E (VC G 5 0 0 RX8) cX8_doAgain (x + 1) none) (hx : 7 ≤ x) (hrc : ∀ (x2 : Int32) (x3 : Int32) (x4 : Int32) (S : St), Ct E.2.1 yX8_doSteps (Cond.code yX8_doSteps cX8_doSteps 7 none :: tblG) x 0 0 G wC 54 [.ref (gA G 8), .ref (gA G 9), .int x2, .int x3, .int x4] S (rc x2 x3 x4 S))   : ∀ (n : Nat) (x2 : Int32) (x3 : Int32) (x4 : Int32) (S : St), J E (VC G 5 0 0 RX8) 0 0 10 [(0, .ref (gA G 8)), (1, .ref (gA G 9)), (2, .int x2), (3, .int x3), (4, .int x4)] [] S (fC_Work_doAgain_10 rc n x2 x3 x4 S) := by
  intro n
  induction n with
  | zero => intro x2 x3 x4 S; rw [fC_Work_doAgain_10]; exact j_none
  | succ n ih =>
    intro x2 x3 x4 S
    rw [fC_Work_doAgain_10]
    refine j_iload (pc := 10) 4 C dX8_doAgain_10 rfl ?_
    refine j_aload_n (pc := 12) 0 C dX8_doAgain_12 rfl rfl ?_
    refine gC_8_1 (pc := 13) C dX8_doAgain_13 q_262 ?_
    refine j_iload_n (pc := 16) 2 C dX8_doAgain_16 rfl rfl ?_
    refine aC_44 (pc := 17) C dX8_doAgain_17 ?_
    refine j_icmp_ge (pc := 18) 54 C dX8_doAgain_18 (by decide) ?_ ?_
    ·
      exact j_vret C dX8_doAgain_54 rfl (Nat.le_of_ble_eq_true rfl) (Nat.le_of_ble_eq_true rfl)
    ·
      refine j_aload_n (pc := 21) 0 C dX8_doAgain_21 rfl rfl ?_
      refine gC_8_4 (pc := 22) C dX8_doAgain_22 q_251 ?_
      refine j_sipush (pc := 25) 200 C dX8_doAgain_25 (by decide) ?_
      refine j_icmp_ge (pc := 28) 54 C dX8_doAgain_28 (by decide) ?_ ?_
      ·
        exact j_vret C dX8_doAgain_54 rfl (Nat.le_of_ble_eq_true rfl) (Nat.le_of_ble_eq_true rfl)
      ·
        refine j_aload_n (pc := 31) 0 C dX8_doAgain_31 rfl rfl ?_
        refine j_aload_n (pc := 32) 1 C dX8_doAgain_32 rfl rfl ?_
        refine j_iload_n (pc := 33) 2 C dX8_doAgain_33 rfl rfl ?_
        refine j_iconst (pc := 34) 1 C dX8_doAgain_34 (by decide) ?_
        refine j_iadd (pc := 35) C dX8_doAgain_35 ?_
        refine j_aload_n (pc := 36) 0 C dX8_doAgain_36 rfl rfl ?_
        refine gC_8_2 (pc := 37) C dX8_doAgain_37 q_263 ?_
        refine j_iload_n (pc := 40) 2 C dX8_doAgain_40 rfl rfl ?_
        refine aC_45 (pc := 41) C dX8_doAgain_41 ?_
        refine j_iload_n (pc := 42) 3 C dX8_doAgain_42 rfl rfl ?_
        refine j_iconst (pc := 43) 1 C dX8_doAgain_43 (by decide) ?_
        refine j_iadd (pc := 44) C dX8_doAgain_44 ?_
        refine j_callv0 (pc := 45) C (rgC_Work_doSteps hrc C dX8_doAgain_45 q_412 (by omega) (Nat.le_of_ble_eq_true rfl) ⟨Nat.le_of_ble_eq_true rfl, Nat.le_of_ble_eq_true rfl⟩) ⟨Nat.le_of_ble_eq_true rfl, Nat.le_of_ble_eq_true rfl⟩ (fun T1 => ?_)
        refine j_iinc (pc := 48) 4 (x4 + 1) [(4, .int (x4 + 1)), (0, .ref (gA G 8)), (1, .ref (gA G 9)), (2, .int x2), (3, .int x3)] C dX8_doAgain_48 rfl rfl (Nat.le_of_ble_eq_true rfl) rfl ?_
        refine j_goto (pc := 51) 10 C dX8_doAgain_51 (by decide) ?_
        refine j_sub [1, 2, 3, 4, 0] rfl ?_
        exact ih x2 x3 (x4 + 1) T1
theorem bC_Work_doAgain {E : Ec} {G : Gc} {rc : Int32 → Int32 → Int32 → St → Oz} {x : Nat}   (C : JC E (VC G 5 0 0 RX8) cX8_doAgain (x + 1) none) (hx : 7 ≤ x) (hrc : ∀ (x2 : Int32) (x3 : Int32) (x4 : Int32) (S : St), Ct E.2.1 yX8_doSteps (Cond.code yX8_doSteps cX8_doSteps 7 none :: tblG) x 0 0 G wC 54 [.ref (gA G 8), .ref (gA G 9), .int x2, .int x3, .int x4] S (rc x2 x3 x4 S))   (x2 : Int32) (x3 : Int32) (S : St) : J E (VC G 5 0 0 RX8) 0 0 0 [(0, .ref (gA G 8)), (1, .ref (gA G 9)), (2, .int x2), (3, .int x3)] [] S (fC_Work_doAgain rc x2 x3 S) := by
  unfold fC_Work_doAgain
  refine j_iload_n (pc := 0) 3 C dX8_doAgain_0 rfl rfl ?_
  refine j_bipush (pc := 1) 6 C dX8_doAgain_1 (by decide) ?_
  refine j_icmp_lt (pc := 3) 7 C dX8_doAgain_3 (by decide) ?_ ?_
  ·
    refine j_iconst (pc := 7) 0 C dX8_doAgain_7 (by decide) ?_
    refine j_istore (pc := 8) [(4, .int 0), (0, .ref (gA G 8)), (1, .ref (gA G 9)), (2, .int x2), (3, .int x3)] C dX8_doAgain_8 (Nat.le_of_ble_eq_true rfl) rfl ?_
    refine j_sub [1, 2, 3, 4, 0] rfl ?_
    exact bC_Work_doAgain_10 C hx hrc FU x2 x3 0 S
  ·
    exact j_vret C dX8_doAgain_6 rfl (Nat.le_of_ble_eq_true rfl) (Nat.le_of_ble_eq_true rfl)
theorem cC_Work_doAgain {l : Launch} {G : Gc} (hfl : l.stackTraces = false) (hW : Wok G wC 54) {rc : Int32 → Int32 → Int32 → St → Oz} {x : Nat} (hx : 7 ≤ x) (hrc : ∀ (x2 : Int32) (x3 : Int32) (x4 : Int32) (S : St), Ct l yX8_doSteps (Cond.code yX8_doSteps cX8_doSteps 7 none :: tblG) x 0 0 G wC 54 [.ref (gA G 8), .ref (gA G 9), .int x2, .int x3, .int x4] S (rc x2 x3 x4 S)) (x2 : Int32) (x3 : Int32) (S : St) : Ct l yX8_doAgain (Cond.code yX8_doAgain cX8_doAgain 5 none :: tblG) (x + 1) 0 0 G wC 54 [.ref (gA G 8), .ref (gA G 9), .int x2, .int x3] S (fC_Work_doAgain rc x2 x3 S) := ct_of (own := RX8) hfl (by decide +kernel) rfl hW (Nat.le_of_ble_eq_true rfl) (fun E hE C => by subst hE; exact bC_Work_doAgain C hx hrc  x2 x3 S)
theorem rC_Work_doAgain {E : Ec} {G : Gc} {nL mc ms : Nat} {own : String} {cc : ByteArray} {L : Nat} {ret : Option FieldType} {k n pc ix : Nat} {loc : List (Nat × Value)} {rest : List Value} {rc : Int32 → Int32 → Int32 → St → Oz} {x : Nat} {x2 : Int32} {x3 : Int32} {S : St} (hx : 7 ≤ x) (hrc : ∀ (x2 : Int32) (x3 : Int32) (x4 : Int32) (S : St), Ct E.2.1 yX8_doSteps (Cond.code yX8_doSteps cX8_doSteps 7 none :: tblG) x 0 0 G wC 54 [.ref (gA G 8), .ref (gA G 9), .int x2, .int x3, .int x4] S (rc x2 x3 x4 S)) (C : JC E (VC G nL mc ms own) cc L ret) (hd : decode cc pc = .ok (.invokevirtual ix, 3)) (hq : Cond.methodLink own ix yX8_doAgain ∈ tblG) (hL : (x + 1) + 1 ≤ L) (hW : (rest.map fun v => v.category).sum ≤ 8) (hf : k + 0 ≤ mc ∧ n + 0 ≤ ms) : Rn E (VC G nL mc ms own) k n 0 0 pc loc (.int x3 :: .int x2 :: .ref (gA G 9) :: .ref (gA G 8) :: rest) rest S (fC_Work_doAgain rc x2 x3 S) := rn_V (ci := 8) 8 (V := VC G nL mc ms own) (As := [.ref (gA G 9), .int x2, .int x3]) (Cq := (RX8, TX8, 7)) (cC_Work_doAgain C.flags C.wok hx hrc x2 x3 S) knX8_doAgain ⟨q_414, q_415⟩ rfl rfl C hd hq hL rfl rfl hW hf

theorem bC_Work_doSteps_6 {E : Ec} {G : Gc} {rc : Int32 → Int32 → Int32 → St → Oz} {x : Nat}   (C : JC E (VC G 7 0 0 RX8) cX8_doSteps (x + 2) none) (hx : 7 ≤ x) (hrc : ∀ (x2 : Int32) (x3 : Int32) (x4 : Int32) (S : St), Ct E.2.1 yX8_doSteps (Cond.code yX8_doSteps cX8_doSteps 7 none :: tblG) x 0 0 G wC 54 [.ref (gA G 8), .ref (gA G 9), .int x2, .int x3, .int x4] S (rc x2 x3 x4 S))   : ∀ (n : Nat) (x3 : Int32) (x4 : Int32) (x5 : Int32) (x6 : Int32) (S : St), J E (VC G 7 0 0 RX8) 0 0 6 [(0, .ref (gA G 8)), (1, .ref (gA G 9)), (3, .int x3), (4, .int x4), (5, .int x5), (6, .int x6)] [] S (fC_Work_doSteps_6 rc n x3 x4 x5 x6 S) := by
  intro n
  induction n with
  | zero => intro x3 x4 x5 x6 S; rw [fC_Work_doSteps_6]; exact j_none
  | succ n ih =>
    intro x3 x4 x5 x6 S
    rw [fC_Work_doSteps_6]
    refine j_iload (pc := 6) 5 C dX8_doSteps_6 rfl ?_
    refine j_iload_n (pc := 8) 2 C dX8_doSteps_8 rfl rfl ?_
    refine j_icmp_ge (pc := 9) 113 C dX8_doSteps_9 (by decide) ?_ ?_
    ·
      exact j_vret C dX8_doSteps_113 rfl (Nat.le_of_ble_eq_true rfl) (Nat.le_of_ble_eq_true rfl)
    ·
      refine j_iload (pc := 12) 5 C dX8_doSteps_12 rfl ?_
      refine j_iload (pc := 14) 4 C dX8_doSteps_14 rfl ?_
      refine j_icmp_lt (pc := 16) 107 C dX8_doSteps_16 (by decide) ?_ ?_
      ·
        refine j_iinc (pc := 107) 5 (x6 + 1) [(6, .int (x6 + 1)), (0, .ref (gA G 8)), (1, .ref (gA G 9)), (3, .int x3), (4, .int x4), (5, .int x5)] C dX8_doSteps_107 rfl rfl (Nat.le_of_ble_eq_true rfl) rfl ?_
        refine j_goto (pc := 110) 6 C dX8_doSteps_110 (by decide) ?_
        refine j_sub [1, 2, 3, 4, 5, 0] rfl ?_
        exact ih x3 x4 x5 (x6 + 1) S
      ·
        refine j_aload_n (pc := 19) 0 C dX8_doSteps_19 rfl rfl ?_
        refine gC_8_4 (pc := 20) C dX8_doSteps_20 q_251 ?_
        refine j_sipush (pc := 23) 200 C dX8_doSteps_23 (by decide) ?_
        refine j_icmp_lt (pc := 26) 32 C dX8_doSteps_26 (by decide) ?_ ?_
        ·
          refine j_aload_n (pc := 32) 0 C dX8_doSteps_32 rfl rfl ?_
          refine j_dup (pc := 33) C dX8_doSteps_33 rfl ?_
          refine gC_8_4 (pc := 34) C dX8_doSteps_34 q_251 ?_
          refine j_iconst (pc := 37) 1 C dX8_doSteps_37 (by decide) ?_
          refine j_iadd (pc := 38) C dX8_doSteps_38 ?_
          refine pC_8_4 (pc := 39) C dX8_doSteps_39 q_251 ?_
          refine j_nxS (fun T1 => ?_)
          refine j_aload_n (pc := 42) 0 C dX8_doSteps_42 rfl rfl ?_
          refine gC_8_0 (pc := 43) C dX8_doSteps_43 q_261 ?_
          refine j_iload (pc := 46) 5 C dX8_doSteps_46 rfl ?_
          refine aC_43 (pc := 48) C dX8_doSteps_48 ?_
          refine j_iconst (pc := 49) 5 C dX8_doSteps_49 (by decide) ?_
          refine j_icmp_ne (pc := 50) 74 C dX8_doSteps_50 (by decide) ?_ ?_
          ·
            refine j_aload_n (pc := 74) 0 C dX8_doSteps_74 rfl rfl ?_
            refine j_aload_n (pc := 75) 1 C dX8_doSteps_75 rfl rfl ?_
            refine j_iload (pc := 76) 5 C dX8_doSteps_76 rfl ?_
            refine j_callI0 (pc := 78) C (rC_Work_doStep C dX8_doSteps_78 q_411 (by omega) (Nat.le_of_ble_eq_true rfl) ⟨Nat.le_of_ble_eq_true rfl, Nat.le_of_ble_eq_true rfl⟩) ⟨Nat.le_of_ble_eq_true rfl, Nat.le_of_ble_eq_true rfl⟩ (fun r3 T2 => ?_)
            refine j_if_eq (pc := 81) 97 C dX8_doSteps_81 (by decide) ?_ ?_
            ·
              refine j_aload_n (pc := 97) 0 C dX8_doSteps_97 rfl rfl ?_
              refine j_dup (pc := 98) C dX8_doSteps_98 rfl ?_
              refine gC_8_6 (pc := 99) C dX8_doSteps_99 q_253 ?_
              refine j_iconst (pc := 102) 1 C dX8_doSteps_102 (by decide) ?_
              refine j_iadd (pc := 103) C dX8_doSteps_103 ?_
              refine pC_8_6 (pc := 104) C dX8_doSteps_104 q_253 ?_
              refine j_nxS (fun T4 => ?_)
              refine j_iinc (pc := 107) 5 (x6 + 1) [(6, .int (x6 + 1)), (0, .ref (gA G 8)), (1, .ref (gA G 9)), (3, .int x3), (4, .int x4), (5, .int x5)] C dX8_doSteps_107 rfl rfl (Nat.le_of_ble_eq_true rfl) rfl ?_
              refine j_goto (pc := 110) 6 C dX8_doSteps_110 (by decide) ?_
              refine j_sub [1, 2, 3, 4, 5, 0] rfl ?_
              exact ih x3 x4 x5 (x6 + 1) T4
            ·
              refine j_aload_n (pc := 84) 0 C dX8_doSteps_84 rfl rfl ?_
              refine j_dup (pc := 85) C dX8_doSteps_85 rfl ?_
              refine gC_8_5 (pc := 86) C dX8_doSteps_86 q_252 ?_
              refine j_iconst (pc := 89) 1 C dX8_doSteps_89 (by decide) ?_
              refine j_iadd (pc := 90) C dX8_doSteps_90 ?_
              refine pC_8_5 (pc := 91) C dX8_doSteps_91 q_252 ?_
              refine j_nxS (fun T5 => ?_)
              refine j_goto (pc := 94) 107 C dX8_doSteps_94 (by decide) ?_
              refine j_iinc (pc := 107) 5 (x6 + 1) [(6, .int (x6 + 1)), (0, .ref (gA G 8)), (1, .ref (gA G 9)), (3, .int x3), (4, .int x4), (5, .int x5)] C dX8_doSteps_107 rfl rfl (Nat.le_of_ble_eq_true rfl) rfl ?_
              refine j_goto (pc := 110) 6 C dX8_doSteps_110 (by decide) ?_
              refine j_sub [1, 2, 3, 4, 5, 0] rfl ?_
              exact ih x3 x4 x5 (x6 + 1) T5
          ·
            refine j_aload_n (pc := 53) 0 C dX8_doSteps_53 rfl rfl ?_
            refine gC_8_2 (pc := 54) C dX8_doSteps_54 q_263 ?_
            refine j_iload (pc := 57) 5 C dX8_doSteps_57 rfl ?_
            refine aC_45 (pc := 59) C dX8_doSteps_59 ?_
            refine j_nxI (fun v6 => ?_)
            refine j_istore (pc := 60) [(5, .int v6), (0, .ref (gA G 8)), (1, .ref (gA G 9)), (3, .int x3), (4, .int x4), (6, .int x6)] C dX8_doSteps_60 (Nat.le_of_ble_eq_true rfl) rfl ?_
            refine j_aload_n (pc := 62) 1 C dX8_doSteps_62 rfl rfl ?_
            refine j_aload_n (pc := 63) 2 C dX8_doSteps_63 rfl rfl ?_
            refine j_iload (pc := 64) 5 C dX8_doSteps_64 rfl ?_
            refine j_iload (pc := 66) 4 C dX8_doSteps_66 rfl ?_
            refine j_callv0 (pc := 68) C (rC_Work_doAgain hx hrc C dX8_doSteps_68 q_416 (by omega) (Nat.le_of_ble_eq_true rfl) ⟨Nat.le_of_ble_eq_true rfl, Nat.le_of_ble_eq_true rfl⟩) ⟨Nat.le_of_ble_eq_true rfl, Nat.le_of_ble_eq_true rfl⟩ (fun T7 => ?_)
            refine j_goto (pc := 71) 107 C dX8_doSteps_71 (by decide) ?_
            refine j_iinc (pc := 107) 5 (x6 + 1) [(6, .int (x6 + 1)), (5, .int v6), (0, .ref (gA G 8)), (1, .ref (gA G 9)), (3, .int x3), (4, .int x4)] C dX8_doSteps_107 rfl rfl (Nat.le_of_ble_eq_true rfl) rfl ?_
            refine j_goto (pc := 110) 6 C dX8_doSteps_110 (by decide) ?_
            refine j_sub [2, 3, 4, 5, 1, 0] rfl ?_
            exact ih x3 x4 v6 (x6 + 1) T7
        ·
          refine j_goto (pc := 29) 107 C dX8_doSteps_29 (by decide) ?_
          refine j_iinc (pc := 107) 5 (x6 + 1) [(6, .int (x6 + 1)), (0, .ref (gA G 8)), (1, .ref (gA G 9)), (3, .int x3), (4, .int x4), (5, .int x5)] C dX8_doSteps_107 rfl rfl (Nat.le_of_ble_eq_true rfl) rfl ?_
          refine j_goto (pc := 110) 6 C dX8_doSteps_110 (by decide) ?_
          refine j_sub [1, 2, 3, 4, 5, 0] rfl ?_
          exact ih x3 x4 x5 (x6 + 1) S
theorem bC_Work_doSteps_B {E : Ec} {G : Gc} {rc : Int32 → Int32 → Int32 → St → Oz} {x : Nat}   (C : JC E (VC G 7 0 0 RX8) cX8_doSteps (x + 2) none) (hx : 7 ≤ x) (hrc : ∀ (x2 : Int32) (x3 : Int32) (x4 : Int32) (S : St), Ct E.2.1 yX8_doSteps (Cond.code yX8_doSteps cX8_doSteps 7 none :: tblG) x 0 0 G wC 54 [.ref (gA G 8), .ref (gA G 9), .int x2, .int x3, .int x4] S (rc x2 x3 x4 S))   (x2 : Int32) (x3 : Int32) (x4 : Int32) (S : St) : J E (VC G 7 0 0 RX8) 0 0 0 [(0, .ref (gA G 8)), (1, .ref (gA G 9)), (2, .int x2), (3, .int x3), (4, .int x4)] [] S (fC_Work_doSteps_B rc x2 x3 x4 S) := by
  unfold fC_Work_doSteps_B
  refine j_iload_n (pc := 0) 2 C dX8_doSteps_0 rfl rfl ?_
  refine j_istore (pc := 1) [(5, .int x2), (0, .ref (gA G 8)), (1, .ref (gA G 9)), (2, .int x2), (3, .int x3), (4, .int x4)] C dX8_doSteps_1 (Nat.le_of_ble_eq_true rfl) rfl ?_
  refine j_iload_n (pc := 3) 3 C dX8_doSteps_3 rfl rfl ?_
  refine j_istore (pc := 4) [(6, .int x2), (5, .int x2), (0, .ref (gA G 8)), (1, .ref (gA G 9)), (2, .int x2), (3, .int x3), (4, .int x4)] C dX8_doSteps_4 (Nat.le_of_ble_eq_true rfl) rfl ?_
  refine j_sub [2, 3, 5, 6, 1, 0] rfl ?_
  exact bC_Work_doSteps_6 C hx hrc FU x3 x4 x2 x2 S
theorem cC_Work_doSteps_B {l : Launch} {G : Gc} (hfl : l.stackTraces = false) (hW : Wok G wC 54) {rc : Int32 → Int32 → Int32 → St → Oz} {x : Nat} (hx : 7 ≤ x) (hrc : ∀ (x2 : Int32) (x3 : Int32) (x4 : Int32) (S : St), Ct l yX8_doSteps (Cond.code yX8_doSteps cX8_doSteps 7 none :: tblG) x 0 0 G wC 54 [.ref (gA G 8), .ref (gA G 9), .int x2, .int x3, .int x4] S (rc x2 x3 x4 S)) (x2 : Int32) (x3 : Int32) (x4 : Int32) (S : St) : Ct l yX8_doSteps (Cond.code yX8_doSteps cX8_doSteps 7 none :: tblG) (x + 2) 0 0 G wC 54 [.ref (gA G 8), .ref (gA G 9), .int x2, .int x3, .int x4] S (fC_Work_doSteps_B rc x2 x3 x4 S) := ct_of (own := RX8) hfl (by decide +kernel) rfl hW (Nat.le_of_ble_eq_true rfl) (fun E hE C => by subst hE; exact bC_Work_doSteps_B C hx hrc  x2 x3 x4 S)
theorem cC_Work_doSteps {l : Launch} {G : Gc} (hfl : l.stackTraces = false) (hW : Wok G wC 54) : ∀ (d : Nat) (x2 : Int32) (x3 : Int32) (x4 : Int32) (S : St), Ct l yX8_doSteps (Cond.code yX8_doSteps cX8_doSteps 7 none :: tblG) (7 + 2 * d) 0 0 G wC 54 [.ref (gA G 8), .ref (gA G 9), .int x2, .int x3, .int x4] S (fC_Work_doSteps d x2 x3 x4 S) := by
  intro d
  induction d with
  | zero => intro x2 x3 x4 S r S2 h; rw [fC_Work_doSteps] at h; cases h
  | succ d ih =>
    intro x2 x3 x4 S
    rw [fC_Work_doSteps]
    have h := cC_Work_doSteps_B hfl hW (x := 7 + 2 * d) (by omega) ih x2 x3 x4 S
    rw [Nat.add_assoc] at h
    exact h
theorem rC_Work_doSteps {E : Ec} {G : Gc} {nL mc ms : Nat} {own : String} {cc : ByteArray} {L : Nat} {ret : Option FieldType} {k n pc ix : Nat} {loc : List (Nat × Value)} {rest : List Value}  {x2 : Int32} {x3 : Int32} {x4 : Int32} {S : St}  (C : JC E (VC G nL mc ms own) cc L ret) (hd : decode cc pc = .ok (.invokevirtual ix, 3)) (hq : Cond.methodLink own ix yX8_doSteps ∈ tblG) (hL : 31 + 1 ≤ L) (hW : (rest.map fun v => v.category).sum ≤ 8) (hf : k + 0 ≤ mc ∧ n + 0 ≤ ms) : Rn E (VC G nL mc ms own) k n 0 0 pc loc (.int x4 :: .int x3 :: .int x2 :: .ref (gA G 9) :: .ref (gA G 8) :: rest) rest S (fC_Work_doSteps 12 x2 x3 x4 S) := rn_V (ci := 8) 8 (V := VC G nL mc ms own) (As := [.ref (gA G 9), .int x2, .int x3, .int x4]) (Cq := (RX8, TX8, 7)) (cC_Work_doSteps C.flags C.wok 12 x2 x3 x4 S) knX8_doSteps ⟨q_418, q_419⟩ rfl rfl C hd hq hL rfl rfl hW hf
theorem rNC_Work_doSteps {E : Ec} {G : Gc} {nL mc ms : Nat} {own : String} {cc : ByteArray} {L : Nat} {ret : Option FieldType} {k n pc ix : Nat} {loc : List (Nat × Value)} {rest : List Value} {host : String}  {x2 : Int32} {x3 : Int32} {x4 : Int32} {S : St}  (C : JC E (VC G nL mc ms own) cc L ret) (hd : decode cc pc = .ok (.invokevirtual ix, 3)) (hq : va_Nw (.methodLinkNest own ix yX8_doSteps host) (eS E)) (hL : 31 + 1 ≤ L) (hW : (rest.map fun v => v.category).sum ≤ 8) (hf : k + 0 ≤ mc ∧ n + 0 ≤ ms) : Rn E (VC G nL mc ms own) k n 0 0 pc loc (.int x4 :: .int x3 :: .int x2 :: .ref (gA G 9) :: .ref (gA G 8) :: rest) rest S (fC_Work_doSteps 12 x2 x3 x4 S) := rn_VN (ci := 8) 8 (V := VC G nL mc ms own) (As := [.ref (gA G 9), .int x2, .int x3, .int x4]) (Cq := (RX8, TX8, 7)) (cC_Work_doSteps C.flags C.wok 12 x2 x3 x4 S) knX8_doSteps ⟨q_418, q_419⟩ rfl rfl C hd hq hL rfl rfl hW hf

theorem knX9_work : Kn yX9_work cX9_work 2 (some .int) 1 := ⟨q_422, q_40, by decide +kernel, by decide⟩
theorem bC_Main_work {E : Ec} {G : Gc}    (C : JC E (VC G 2 1 6 RX9) cX9_work 44 (some .int))    (x1 : Int32) (S : St) : J E (VC G 2 1 6 RX9) 0 0 0 [(0, .ref (gA G 0)), (1, .int x1)] [] S (fC_Main_work  x1 S) := by
  unfold fC_Main_work
  refine j_aload_n (pc := 0) 0 C dX9_work_0 rfl rfl ?_
  refine j_iload_n (pc := 1) 1 C dX9_work_1 rfl rfl ?_
  refine j_sipush (pc := 2) 150 C dX9_work_2 (by decide) ?_
  refine j_callv (pc := 5) C (rC_Main_openText C dX9_work_5 q_72 (by omega) (Nat.le_of_ble_eq_true rfl) ⟨Nat.le_of_ble_eq_true rfl, Nat.le_of_ble_eq_true rfl⟩) ⟨Nat.le_of_ble_eq_true rfl, Nat.le_of_ble_eq_true rfl⟩ (fun T1 => ?_)
  refine j_aload_n (pc := 8) 0 C dX9_work_8 rfl rfl ?_
  refine gC_0_9 (pc := 9) C dX9_work_9 q_178 ?_
  refine gC_10_0 (pc := 12) C dX9_work_12 q_248 ?_
  refine j_bipush (pc := 15) 16 C dX9_work_15 (by decide) ?_
  refine j_icmp_lt (pc := 17) 23 C dX9_work_17 (by decide) ?_ ?_
  ·
    refine j_aload_n (pc := 23) 0 C dX9_work_23 rfl rfl ?_
    refine gC_0_7 (pc := 24) C dX9_work_24 q_249 ?_
    refine j_aload_n (pc := 27) 0 C dX9_work_27 rfl rfl ?_
    refine gC_0_0 (pc := 28) C dX9_work_28 q_30 ?_
    refine j_aload_n (pc := 31) 0 C dX9_work_31 rfl rfl ?_
    refine gC_0_1 (pc := 32) C dX9_work_32 q_148 ?_
    refine j_callI0 (pc := 35) C (rC_Work_readFrom C dX9_work_35 q_292 (by omega) (Nat.le_of_ble_eq_true rfl) ⟨Nat.le_of_ble_eq_true rfl, Nat.le_of_ble_eq_true rfl⟩) ⟨Nat.le_of_ble_eq_true rfl, Nat.le_of_ble_eq_true rfl⟩ (fun r4 T3 => ?_)
    refine j_if_ne (pc := 38) 52 C dX9_work_38 (by decide) ?_ ?_
    ·
      refine j_aload_n (pc := 52) 0 C dX9_work_52 rfl rfl ?_
      refine gC_0_9 (pc := 53) C dX9_work_53 q_178 ?_
      refine j_aload_n (pc := 56) 0 C dX9_work_56 rfl rfl ?_
      refine gC_0_8 (pc := 57) C dX9_work_57 q_171 ?_
      refine j_callI0 (pc := 60) C (rC_Shelf_pushWork C dX9_work_60 q_299 (by omega) (Nat.le_of_ble_eq_true rfl) ⟨Nat.le_of_ble_eq_true rfl, Nat.le_of_ble_eq_true rfl⟩) ⟨Nat.le_of_ble_eq_true rfl, Nat.le_of_ble_eq_true rfl⟩ (fun r6 T5 => ?_)
      refine j_pop (pc := 63) C dX9_work_63 rfl ?_
      refine j_aload_n (pc := 64) 0 C dX9_work_64 rfl rfl ?_
      refine gC_0_7 (pc := 65) C dX9_work_65 q_249 ?_
      refine j_aload_n (pc := 68) 0 C dX9_work_68 rfl rfl ?_
      refine gC_0_8 (pc := 69) C dX9_work_69 q_171 ?_
      refine j_iconst (pc := 72) 0 C dX9_work_72 (by decide) ?_
      refine j_aload_n (pc := 73) 0 C dX9_work_73 rfl rfl ?_
      refine gC_0_7 (pc := 74) C dX9_work_74 q_249 ?_
      refine gC_8_3 (pc := 77) C dX9_work_77 q_300 ?_
      refine j_iconst (pc := 80) 0 C dX9_work_80 (by decide) ?_
      refine j_callv0 (pc := 81) C (rNC_Work_doSteps C dX9_work_81 C.ex.2.2.2.2.2.2 (by omega) (Nat.le_of_ble_eq_true rfl) ⟨Nat.le_of_ble_eq_true rfl, Nat.le_of_ble_eq_true rfl⟩) ⟨Nat.le_of_ble_eq_true rfl, Nat.le_of_ble_eq_true rfl⟩ (fun T7 => ?_)
      refine j_aload_n (pc := 84) 0 C dX9_work_84 rfl rfl ?_
      refine j_aload_n (pc := 85) 0 C dX9_work_85 rfl rfl ?_
      refine gC_0_7 (pc := 86) C dX9_work_86 q_249 ?_
      refine gC_8_6 (pc := 89) C dX9_work_89 q_420 ?_
      refine pC_0_12 (pc := 92) C dX9_work_92 q_186 ?_
      refine j_nxS (fun T9 => ?_)
      refine j_aload_n (pc := 95) 0 C dX9_work_95 rfl rfl ?_
      refine gC_0_7 (pc := 96) C dX9_work_96 q_249 ?_
      refine gC_8_5 (pc := 99) C dX9_work_99 q_421 ?_
      exact j_iret C dX9_work_102 rfl (Nat.le_of_ble_eq_true rfl) (Nat.le_of_ble_eq_true rfl)
    ·
      refine j_aload_n (pc := 41) 0 C dX9_work_41 rfl rfl ?_
      refine gC_0_0 (pc := 42) C dX9_work_42 q_30 ?_
      refine gC_1_2 (pc := 45) C dX9_work_45 q_188 ?_
      refine j_bipush (pc := 48) 10 C dX9_work_48 (by decide) ?_
      refine j_isub (pc := 50) C dX9_work_50 ?_
      exact j_iret C dX9_work_51 rfl (Nat.le_of_ble_eq_true rfl) (Nat.le_of_ble_eq_true rfl)
  ·
    refine j_bipush (pc := 20) (-20) C dX9_work_20 (by decide) ?_
    exact j_iret C dX9_work_22 rfl (Nat.le_of_ble_eq_true rfl) (Nat.le_of_ble_eq_true rfl)
theorem cC_Main_work {l : Launch} {G : Gc} (hfl : l.stackTraces = false) (hW : Wok G wC 54)   (x1 : Int32) (S : St) : Ct l yX9_work (Cond.code yX9_work cX9_work 2 (some .int) :: tblG) 44 1 6 G wC 54 [.ref (gA G 0), .int x1] S (fC_Main_work x1 S) := ct_of (own := RX9) hfl (by decide +kernel) rfl hW (Nat.le_of_ble_eq_true rfl) (fun E hE C => by subst hE; exact bC_Main_work C   x1 S)
theorem rC_Main_work {E : Ec} {G : Gc} {nL mc ms : Nat} {own : String} {cc : ByteArray} {L : Nat} {ret : Option FieldType} {k n pc ix : Nat} {loc : List (Nat × Value)} {rest : List Value}  {x1 : Int32} {S : St}  (C : JC E (VC G nL mc ms own) cc L ret) (hd : decode cc pc = .ok (.invokevirtual ix, 3)) (hq : Cond.methodLink own ix yX9_work ∈ tblG) (hL : 44 + 1 ≤ L) (hW : (rest.map fun v => v.category).sum ≤ 8) (hf : k + 1 ≤ mc ∧ n + 6 ≤ ms) : Rn E (VC G nL mc ms own) k n 1 6 pc loc (.int x1 :: .ref (gA G 0) :: rest) rest S (fC_Main_work x1 S) := rn_V (ci := 9) 0 (V := VC G nL mc ms own) (As := [.int x1]) (Cq := (RX9, TX9, 15)) (cC_Main_work C.flags C.wok  x1 S) knX9_work ⟨q_423, q_424⟩ rfl rfl C hd hq hL rfl rfl hW hf

theorem knX0_readLine : Kn yX0_readLine cX0_readLine 4 (some .boolean) 2 := ⟨q_437, q_438, by decide +kernel, by decide⟩
theorem bC_Book_readLine_7 {E : Ec} {G : Gc}    (C : JC E (VC G 4 0 0 RX0) cX0_readLine 3 (some .boolean))     (S : St) : J E (VC G 4 0 0 RX0) 0 0 0 [(0, .ref (gA G 7)), (1, .ref (gA G 1)), (2, .ref (gA G 2))] [] S (fC_Book_readLine_7   S) := by
  unfold fC_Book_readLine_7
  refine j_aload_n (pc := 0) 1 C dX0_readLine_0 rfl rfl ?_
  refine j_callI0 (pc := 1) C (rC_Tape_place C dX0_readLine_1 q_428 (by omega) (Nat.le_of_ble_eq_true rfl) ⟨Nat.le_of_ble_eq_true rfl, Nat.le_of_ble_eq_true rfl⟩) ⟨Nat.le_of_ble_eq_true rfl, Nat.le_of_ble_eq_true rfl⟩ (fun r2 T1 => ?_)
  refine j_istore_n (pc := 4) [(3, .int r2), (0, .ref (gA G 7)), (1, .ref (gA G 1)), (2, .ref (gA G 2))] C dX0_readLine_4 rfl (Nat.le_of_ble_eq_true rfl) rfl ?_
  refine j_aload_n (pc := 5) 2 C dX0_readLine_5 rfl rfl ?_
  refine j_iconst (pc := 6) 0 C dX0_readLine_6 (by decide) ?_
  refine j_aload_n (pc := 7) 3 C dX0_readLine_7 rfl rfl ?_
  refine gC_2_1 (pc := 8) C dX0_readLine_8 q_429 ?_
  refine j_iconst (pc := 11) 1 C dX0_readLine_11 (by decide) ?_
  refine j_isub (pc := 12) C dX0_readLine_12 ?_
  refine j_callI0 (pc := 13) C (rC_Tape_needsNumber C dX0_readLine_13 q_430 (by omega) (Nat.le_of_ble_eq_true rfl) ⟨Nat.le_of_ble_eq_true rfl, Nat.le_of_ble_eq_true rfl⟩) ⟨Nat.le_of_ble_eq_true rfl, Nat.le_of_ble_eq_true rfl⟩ (fun r4 T3 => ?_)
  refine j_if_ne (pc := 16) 21 C dX0_readLine_16 (by decide) ?_ ?_
  ·
    refine j_aload_n (pc := 21) 1 C dX0_readLine_21 rfl rfl ?_
    refine gC_7_0 (pc := 22) C dX0_readLine_22 q_426 ?_
    refine j_bipush (pc := 25) 6 C dX0_readLine_25 (by decide) ?_
    refine j_icmp_lt (pc := 27) 37 C dX0_readLine_27 (by decide) ?_ ?_
    ·
      refine j_aload_n (pc := 37) 1 C dX0_readLine_37 rfl rfl ?_
      refine gC_7_1 (pc := 38) C dX0_readLine_38 q_431 ?_
      refine j_aload_n (pc := 41) 1 C dX0_readLine_41 rfl rfl ?_
      refine gC_7_0 (pc := 42) C dX0_readLine_42 q_426 ?_
      refine j_aload_n (pc := 45) 2 C dX0_readLine_45 rfl rfl ?_
      refine gC_1_4 (pc := 46) C dX0_readLine_46 q_432 ?_
      refine sC_40 (pc := 49) C dX0_readLine_49 ?_
      refine j_nxS (fun T5 => ?_)
      refine j_aload_n (pc := 50) 2 C dX0_readLine_50 rfl rfl ?_
      refine j_iconst (pc := 51) 0 C dX0_readLine_51 (by decide) ?_
      refine j_aload_n (pc := 52) 3 C dX0_readLine_52 rfl rfl ?_
      refine gC_2_0 (pc := 53) C dX0_readLine_53 q_433 ?_
      refine j_iconst (pc := 56) 1 C dX0_readLine_56 (by decide) ?_
      refine j_isub (pc := 57) C dX0_readLine_57 ?_
      refine j_callI0 (pc := 58) C (rC_Tape_needsNumber C dX0_readLine_58 q_430 (by omega) (Nat.le_of_ble_eq_true rfl) ⟨Nat.le_of_ble_eq_true rfl, Nat.le_of_ble_eq_true rfl⟩) ⟨Nat.le_of_ble_eq_true rfl, Nat.le_of_ble_eq_true rfl⟩ (fun r7 T6 => ?_)
      refine j_if_ne (pc := 61) 66 C dX0_readLine_61 (by decide) ?_ ?_
      ·
        refine j_aload_n (pc := 66) 1 C dX0_readLine_66 rfl rfl ?_
        refine gC_7_2 (pc := 67) C dX0_readLine_67 q_434 ?_
        refine j_aload_n (pc := 70) 1 C dX0_readLine_70 rfl rfl ?_
        refine gC_7_0 (pc := 71) C dX0_readLine_71 q_426 ?_
        refine j_aload_n (pc := 74) 2 C dX0_readLine_74 rfl rfl ?_
        refine gC_1_4 (pc := 75) C dX0_readLine_75 q_432 ?_
        refine sC_41 (pc := 78) C dX0_readLine_78 ?_
        refine j_nxS (fun T8 => ?_)
        refine j_aload_n (pc := 79) 2 C dX0_readLine_79 rfl rfl ?_
        refine j_iconst (pc := 80) 0 C dX0_readLine_80 (by decide) ?_
        refine j_bipush (pc := 81) 99 C dX0_readLine_81 (by decide) ?_
        refine j_callI0 (pc := 83) C (rC_Tape_needsNumber C dX0_readLine_83 q_430 (by omega) (Nat.le_of_ble_eq_true rfl) ⟨Nat.le_of_ble_eq_true rfl, Nat.le_of_ble_eq_true rfl⟩) ⟨Nat.le_of_ble_eq_true rfl, Nat.le_of_ble_eq_true rfl⟩ (fun r10 T9 => ?_)
        refine j_if_ne (pc := 86) 91 C dX0_readLine_86 (by decide) ?_ ?_
        ·
          refine j_aload_n (pc := 91) 1 C dX0_readLine_91 rfl rfl ?_
          refine gC_7_3 (pc := 92) C dX0_readLine_92 q_435 ?_
          refine j_aload_n (pc := 95) 1 C dX0_readLine_95 rfl rfl ?_
          refine gC_7_0 (pc := 96) C dX0_readLine_96 q_426 ?_
          refine j_aload_n (pc := 99) 2 C dX0_readLine_99 rfl rfl ?_
          refine gC_1_4 (pc := 100) C dX0_readLine_100 q_432 ?_
          refine sC_42 (pc := 103) C dX0_readLine_103 ?_
          refine j_nxS (fun T11 => ?_)
          refine j_aload_n (pc := 104) 1 C dX0_readLine_104 rfl rfl ?_
          refine j_dup (pc := 105) C dX0_readLine_105 rfl ?_
          refine gC_7_0 (pc := 106) C dX0_readLine_106 q_426 ?_
          refine j_iconst (pc := 109) 1 C dX0_readLine_109 (by decide) ?_
          refine j_iadd (pc := 110) C dX0_readLine_110 ?_
          refine pC_7_0 (pc := 111) C dX0_readLine_111 q_426 ?_
          refine j_nxS (fun T12 => ?_)
          refine j_iconst (pc := 114) 1 C dX0_readLine_114 (by decide) ?_
          exact j_zretc C dX0_readLine_115 rfl (Nat.le_of_ble_eq_true rfl) (Nat.le_of_ble_eq_true rfl) rfl
        ·
          refine j_iconst (pc := 89) 0 C dX0_readLine_89 (by decide) ?_
          exact j_zretc C dX0_readLine_90 rfl (Nat.le_of_ble_eq_true rfl) (Nat.le_of_ble_eq_true rfl) rfl
      ·
        refine j_iconst (pc := 64) 0 C dX0_readLine_64 (by decide) ?_
        exact j_zretc C dX0_readLine_65 rfl (Nat.le_of_ble_eq_true rfl) (Nat.le_of_ble_eq_true rfl) rfl
    ·
      refine j_aload_n (pc := 30) 2 C dX0_readLine_30 rfl rfl ?_
      refine j_iload_n (pc := 31) 0 C dX0_readLine_31 rfl rfl ?_
      refine j_iconst (pc := 32) 3 C dX0_readLine_32 (by decide) ?_
      refine j_callI0 (pc := 33) C (rC_Tape_refuse C dX0_readLine_33 q_436 (by omega) (Nat.le_of_ble_eq_true rfl) ⟨Nat.le_of_ble_eq_true rfl, Nat.le_of_ble_eq_true rfl⟩) ⟨Nat.le_of_ble_eq_true rfl, Nat.le_of_ble_eq_true rfl⟩ (fun r14 T13 => ?_)
      exact j_zret C dX0_readLine_36 rfl (Nat.le_of_ble_eq_true rfl) (Nat.le_of_ble_eq_true rfl)
  ·
    refine j_iconst (pc := 19) 0 C dX0_readLine_19 (by decide) ?_
    exact j_zretc C dX0_readLine_20 rfl (Nat.le_of_ble_eq_true rfl) (Nat.le_of_ble_eq_true rfl) rfl
theorem cC_Book_readLine_7 {l : Launch} {G : Gc} (hfl : l.stackTraces = false) (hW : Wok G wC 54)    (S : St) : Ct l yX0_readLine (Cond.code yX0_readLine cX0_readLine 4 (some .boolean) :: tblG) 3 0 0 G wC 54 [.ref (gA G 7), .ref (gA G 1), .ref (gA G 2)] S (fC_Book_readLine_7  S) := ct_of (own := RX0) hfl (by decide +kernel) rfl hW (Nat.le_of_ble_eq_true rfl) (fun E hE C => by subst hE; exact bC_Book_readLine_7 C    S)
theorem rC_Book_readLine_7 {E : Ec} {G : Gc} {nL mc ms : Nat} {own : String} {cc : ByteArray} {L : Nat} {ret : Option FieldType} {k n pc ix : Nat} {loc : List (Nat × Value)} {rest : List Value}   {S : St}  (C : JC E (VC G nL mc ms own) cc L ret) (hd : decode cc pc = .ok (.invokevirtual ix, 3)) (hq : Cond.methodLink own ix yX0_readLine ∈ tblG) (hL : 3 + 1 ≤ L) (hW : (rest.map fun v => v.category).sum ≤ 8) (hf : k + 0 ≤ mc ∧ n + 0 ≤ ms) : Rn E (VC G nL mc ms own) k n 0 0 pc loc (.ref (gA G 2) :: .ref (gA G 1) :: .ref (gA G 7) :: rest) rest S (fC_Book_readLine_7  S) := rn_V (ci := 0) 7 (V := VC G nL mc ms own) (As := [.ref (gA G 1), .ref (gA G 2)]) (Cq := (RX0, TX0, 4)) (cC_Book_readLine_7 C.flags C.wok   S) knX0_readLine ⟨q_439, q_440⟩ rfl rfl C hd hq hL rfl rfl hW hf

theorem knX0_readFrom : Kn yX0_readFrom cX0_readFrom 4 (some .boolean) 2 := ⟨q_443, q_438, by decide +kernel, by decide⟩
theorem bC_Book_readFrom_7_7 {E : Ec} {G : Gc}    (C : JC E (VC G 4 0 0 RX0) cX0_readFrom 4 (some .boolean))    : ∀ (n : Nat) (x3 : Int32) (S : St), J E (VC G 4 0 0 RX0) 0 0 7 [(0, .ref (gA G 7)), (1, .ref (gA G 1)), (2, .ref (gA G 2)), (3, .int x3)] [] S (fC_Book_readFrom_7_7  n x3 S) := by
  intro n
  induction n with
  | zero => intro x3 S; rw [fC_Book_readFrom_7_7]; exact j_none
  | succ n ih =>
    intro x3 S
    rw [fC_Book_readFrom_7_7]
    refine j_iload_n (pc := 7) 3 C dX0_readFrom_7 rfl rfl ?_
    refine j_bipush (pc := 8) 6 C dX0_readFrom_8 (by decide) ?_
    refine j_icmp_gt (pc := 10) 48 C dX0_readFrom_10 (by decide) ?_ ?_
    ·
      refine j_iconst (pc := 48) 0 C dX0_readFrom_48 (by decide) ?_
      exact j_zretc C dX0_readFrom_49 rfl (Nat.le_of_ble_eq_true rfl) (Nat.le_of_ble_eq_true rfl) rfl
    ·
      refine j_aload_n (pc := 13) 1 C dX0_readFrom_13 rfl rfl ?_
      refine j_callI0 (pc := 14) C (rC_Tape_ended C dX0_readFrom_14 q_427 (by omega) (Nat.le_of_ble_eq_true rfl) ⟨Nat.le_of_ble_eq_true rfl, Nat.le_of_ble_eq_true rfl⟩) ⟨Nat.le_of_ble_eq_true rfl, Nat.le_of_ble_eq_true rfl⟩ (fun r2 T1 => ?_)
      refine j_if_eq (pc := 17) 22 C dX0_readFrom_17 (by decide) ?_ ?_
      ·
        refine j_aload_n (pc := 22) 0 C dX0_readFrom_22 rfl rfl ?_
        refine j_aload_n (pc := 23) 1 C dX0_readFrom_23 rfl rfl ?_
        refine j_aload_n (pc := 24) 2 C dX0_readFrom_24 rfl rfl ?_
        refine j_callI0 (pc := 25) C (rC_Book_readLine_7 C dX0_readFrom_25 q_441 (by omega) (Nat.le_of_ble_eq_true rfl) ⟨Nat.le_of_ble_eq_true rfl, Nat.le_of_ble_eq_true rfl⟩) ⟨Nat.le_of_ble_eq_true rfl, Nat.le_of_ble_eq_true rfl⟩ (fun r4 T3 => ?_)
        refine j_if_eq (pc := 28) 40 C dX0_readFrom_28 (by decide) ?_ ?_
        ·
          refine j_iconst (pc := 40) 0 C dX0_readFrom_40 (by decide) ?_
          exact j_zretc C dX0_readFrom_41 rfl (Nat.le_of_ble_eq_true rfl) (Nat.le_of_ble_eq_true rfl) rfl
        ·
          refine j_aload_n (pc := 31) 1 C dX0_readFrom_31 rfl rfl ?_
          refine j_bipush (pc := 32) 59 C dX0_readFrom_32 (by decide) ?_
          refine j_callI0 (pc := 34) C (rC_Tape_needs C dX0_readFrom_34 q_442 (by omega) (Nat.le_of_ble_eq_true rfl) ⟨Nat.le_of_ble_eq_true rfl, Nat.le_of_ble_eq_true rfl⟩) ⟨Nat.le_of_ble_eq_true rfl, Nat.le_of_ble_eq_true rfl⟩ (fun r6 T5 => ?_)
          refine j_if_ne (pc := 37) 42 C dX0_readFrom_37 (by decide) ?_ ?_
          ·
            refine j_iinc (pc := 42) 3 (x3 + 1) [(3, .int (x3 + 1)), (0, .ref (gA G 7)), (1, .ref (gA G 1)), (2, .ref (gA G 2))] C dX0_readFrom_42 rfl rfl (Nat.le_of_ble_eq_true rfl) rfl ?_
            refine j_goto (pc := 45) 7 C dX0_readFrom_45 (by decide) ?_
            refine j_sub [1, 2, 3, 0] rfl ?_
            exact ih (x3 + 1) T5
          ·
            refine j_iconst (pc := 40) 0 C dX0_readFrom_40 (by decide) ?_
            exact j_zretc C dX0_readFrom_41 rfl (Nat.le_of_ble_eq_true rfl) (Nat.le_of_ble_eq_true rfl) rfl
      ·
        refine j_iconst (pc := 20) 1 C dX0_readFrom_20 (by decide) ?_
        exact j_zretc C dX0_readFrom_21 rfl (Nat.le_of_ble_eq_true rfl) (Nat.le_of_ble_eq_true rfl) rfl
theorem bC_Book_readFrom_7 {E : Ec} {G : Gc}    (C : JC E (VC G 4 0 0 RX0) cX0_readFrom 4 (some .boolean))     (S : St) : J E (VC G 4 0 0 RX0) 0 0 0 [(0, .ref (gA G 7)), (1, .ref (gA G 1)), (2, .ref (gA G 2))] [] S (fC_Book_readFrom_7   S) := by
  unfold fC_Book_readFrom_7
  refine j_aload_n (pc := 0) 0 C dX0_readFrom_0 rfl rfl ?_
  refine j_iconst (pc := 1) 0 C dX0_readFrom_1 (by decide) ?_
  refine pC_7_0 (pc := 2) C dX0_readFrom_2 q_426 ?_
  refine j_nxS (fun T1 => ?_)
  refine j_iconst (pc := 5) 0 C dX0_readFrom_5 (by decide) ?_
  refine j_istore_n (pc := 6) [(3, .int 0), (0, .ref (gA G 7)), (1, .ref (gA G 1)), (2, .ref (gA G 2))] C dX0_readFrom_6 rfl (Nat.le_of_ble_eq_true rfl) rfl ?_
  refine j_sub [1, 2, 3, 0] rfl ?_
  exact bC_Book_readFrom_7_7 C  FU 0 T1
theorem cC_Book_readFrom_7 {l : Launch} {G : Gc} (hfl : l.stackTraces = false) (hW : Wok G wC 54)    (S : St) : Ct l yX0_readFrom (Cond.code yX0_readFrom cX0_readFrom 4 (some .boolean) :: tblG) 4 0 0 G wC 54 [.ref (gA G 7), .ref (gA G 1), .ref (gA G 2)] S (fC_Book_readFrom_7  S) := ct_of (own := RX0) hfl (by decide +kernel) rfl hW (Nat.le_of_ble_eq_true rfl) (fun E hE C => by subst hE; exact bC_Book_readFrom_7 C    S)
theorem rC_Book_readFrom_7 {E : Ec} {G : Gc} {nL mc ms : Nat} {own : String} {cc : ByteArray} {L : Nat} {ret : Option FieldType} {k n pc ix : Nat} {loc : List (Nat × Value)} {rest : List Value}   {S : St}  (C : JC E (VC G nL mc ms own) cc L ret) (hd : decode cc pc = .ok (.invokevirtual ix, 3)) (hq : Cond.methodLink own ix yX0_readFrom ∈ tblG) (hL : 4 + 1 ≤ L) (hW : (rest.map fun v => v.category).sum ≤ 8) (hf : k + 0 ≤ mc ∧ n + 0 ≤ ms) : Rn E (VC G nL mc ms own) k n 0 0 pc loc (.ref (gA G 2) :: .ref (gA G 1) :: .ref (gA G 7) :: rest) rest S (fC_Book_readFrom_7  S) := rn_V (ci := 0) 7 (V := VC G nL mc ms own) (As := [.ref (gA G 1), .ref (gA G 2)]) (Cq := (RX0, TX0, 4)) (cC_Book_readFrom_7 C.flags C.wok   S) knX0_readFrom ⟨q_444, q_445⟩ rfl rfl C hd hq hL rfl rfl hW hf

theorem knX0_copyFrom : Kn yX0_copyFrom cX0_copyFrom 2 none 1 := ⟨q_448, q_438, by decide +kernel, by decide⟩
theorem bC_Book_copyFrom_6 {E : Ec} {G : Gc}    (C : JC E (VC G 2 0 0 RX0) cX0_copyFrom 1 none)     (S : St) : J E (VC G 2 0 0 RX0) 0 0 0 [(0, .ref (gA G 6)), (1, .ref (gA G 7))] [] S (fC_Book_copyFrom_6   S) := by
  unfold fC_Book_copyFrom_6
  refine j_aload_n (pc := 0) 0 C dX0_copyFrom_0 rfl rfl ?_
  refine j_aload_n (pc := 1) 1 C dX0_copyFrom_1 rfl rfl ?_
  refine gC_7_0 (pc := 2) C dX0_copyFrom_2 q_426 ?_
  refine pC_6_0 (pc := 5) C dX0_copyFrom_5 q_426 ?_
  refine j_nxS (fun T1 => ?_)
  refine j_aload_n (pc := 8) 1 C dX0_copyFrom_8 rfl rfl ?_
  refine gC_7_1 (pc := 9) C dX0_copyFrom_9 q_431 ?_
  refine j_iconst (pc := 12) 0 C dX0_copyFrom_12 (by decide) ?_
  refine j_aload_n (pc := 13) 0 C dX0_copyFrom_13 rfl rfl ?_
  refine gC_6_1 (pc := 14) C dX0_copyFrom_14 q_431 ?_
  refine j_iconst (pc := 17) 0 C dX0_copyFrom_17 (by decide) ?_
  refine j_bipush (pc := 18) 6 C dX0_copyFrom_18 (by decide) ?_
  refine j_copy (pc := 20) (V := VC G 2 _ _ RX0) (sC T1 40 37 0 0 6) 40 37 rfl rfl rfl C dX0_copyFrom_20 q_447 q_150 q_151 q_152 (by omega) (Nat.le_of_ble_eq_true rfl) ?_
  refine j_nxS (fun T2 => ?_)
  refine j_aload_n (pc := 23) 1 C dX0_copyFrom_23 rfl rfl ?_
  refine gC_7_2 (pc := 24) C dX0_copyFrom_24 q_434 ?_
  refine j_iconst (pc := 27) 0 C dX0_copyFrom_27 (by decide) ?_
  refine j_aload_n (pc := 28) 0 C dX0_copyFrom_28 rfl rfl ?_
  refine gC_6_2 (pc := 29) C dX0_copyFrom_29 q_434 ?_
  refine j_iconst (pc := 32) 0 C dX0_copyFrom_32 (by decide) ?_
  refine j_bipush (pc := 33) 6 C dX0_copyFrom_33 (by decide) ?_
  refine j_copy (pc := 35) (V := VC G 2 _ _ RX0) (sC T2 41 38 0 0 6) 41 38 rfl rfl rfl C dX0_copyFrom_35 q_447 q_150 q_151 q_152 (by omega) (Nat.le_of_ble_eq_true rfl) ?_
  refine j_nxS (fun T3 => ?_)
  refine j_aload_n (pc := 38) 1 C dX0_copyFrom_38 rfl rfl ?_
  refine gC_7_3 (pc := 39) C dX0_copyFrom_39 q_435 ?_
  refine j_iconst (pc := 42) 0 C dX0_copyFrom_42 (by decide) ?_
  refine j_aload_n (pc := 43) 0 C dX0_copyFrom_43 rfl rfl ?_
  refine gC_6_3 (pc := 44) C dX0_copyFrom_44 q_435 ?_
  refine j_iconst (pc := 47) 0 C dX0_copyFrom_47 (by decide) ?_
  refine j_bipush (pc := 48) 6 C dX0_copyFrom_48 (by decide) ?_
  refine j_copy (pc := 50) (V := VC G 2 _ _ RX0) (sC T3 42 39 0 0 6) 42 39 rfl rfl rfl C dX0_copyFrom_50 q_447 q_150 q_151 q_152 (by omega) (Nat.le_of_ble_eq_true rfl) ?_
  refine j_nxS (fun T4 => ?_)
  exact j_vret C dX0_copyFrom_53 rfl (Nat.le_of_ble_eq_true rfl) (Nat.le_of_ble_eq_true rfl)
theorem cC_Book_copyFrom_6 {l : Launch} {G : Gc} (hfl : l.stackTraces = false) (hW : Wok G wC 54)    (S : St) : Ct l yX0_copyFrom (Cond.code yX0_copyFrom cX0_copyFrom 2 none :: tblG) 1 0 0 G wC 54 [.ref (gA G 6), .ref (gA G 7)] S (fC_Book_copyFrom_6  S) := ct_of (own := RX0) hfl (by decide +kernel) rfl hW (Nat.le_of_ble_eq_true rfl) (fun E hE C => by subst hE; exact bC_Book_copyFrom_6 C    S)
theorem rC_Book_copyFrom_6 {E : Ec} {G : Gc} {nL mc ms : Nat} {own : String} {cc : ByteArray} {L : Nat} {ret : Option FieldType} {k n pc ix : Nat} {loc : List (Nat × Value)} {rest : List Value}   {S : St}  (C : JC E (VC G nL mc ms own) cc L ret) (hd : decode cc pc = .ok (.invokevirtual ix, 3)) (hq : Cond.methodLink own ix yX0_copyFrom ∈ tblG) (hL : 1 + 1 ≤ L) (hW : (rest.map fun v => v.category).sum ≤ 8) (hf : k + 0 ≤ mc ∧ n + 0 ≤ ms) : Rn E (VC G nL mc ms own) k n 0 0 pc loc (.ref (gA G 7) :: .ref (gA G 6) :: rest) rest S (fC_Book_copyFrom_6  S) := rn_V (ci := 0) 6 (V := VC G nL mc ms own) (As := [.ref (gA G 7)]) (Cq := (RX0, TX0, 4)) (cC_Book_copyFrom_6 C.flags C.wok   S) knX0_copyFrom ⟨q_449, q_450⟩ rfl rfl C hd hq hL rfl rfl hW hf

theorem knX9_book : Kn yX9_book cX9_book 2 (some .int) 1 := ⟨q_452, q_40, by decide +kernel, by decide⟩
theorem bC_Main_book {E : Ec} {G : Gc}    (C : JC E (VC G 2 1 6 RX9) cX9_book 9 (some .int))    (x1 : Int32) (S : St) : J E (VC G 2 1 6 RX9) 0 0 0 [(0, .ref (gA G 0)), (1, .int x1)] [] S (fC_Main_book  x1 S) := by
  unfold fC_Main_book
  refine j_aload_n (pc := 0) 0 C dX9_book_0 rfl rfl ?_
  refine j_iload_n (pc := 1) 1 C dX9_book_1 rfl rfl ?_
  refine j_bipush (pc := 2) 60 C dX9_book_2 (by decide) ?_
  refine j_callv (pc := 4) C (rC_Main_openText C dX9_book_4 q_72 (by omega) (Nat.le_of_ble_eq_true rfl) ⟨Nat.le_of_ble_eq_true rfl, Nat.le_of_ble_eq_true rfl⟩) ⟨Nat.le_of_ble_eq_true rfl, Nat.le_of_ble_eq_true rfl⟩ (fun T1 => ?_)
  refine j_aload_n (pc := 7) 0 C dX9_book_7 rfl rfl ?_
  refine gC_0_6 (pc := 8) C dX9_book_8 q_425 ?_
  refine j_aload_n (pc := 11) 0 C dX9_book_11 rfl rfl ?_
  refine gC_0_0 (pc := 12) C dX9_book_12 q_30 ?_
  refine j_aload_n (pc := 15) 0 C dX9_book_15 rfl rfl ?_
  refine gC_0_1 (pc := 16) C dX9_book_16 q_148 ?_
  refine j_callI0 (pc := 19) C (rC_Book_readFrom_7 C dX9_book_19 q_446 (by omega) (Nat.le_of_ble_eq_true rfl) ⟨Nat.le_of_ble_eq_true rfl, Nat.le_of_ble_eq_true rfl⟩) ⟨Nat.le_of_ble_eq_true rfl, Nat.le_of_ble_eq_true rfl⟩ (fun r4 T3 => ?_)
  refine j_if_ne (pc := 22) 36 C dX9_book_22 (by decide) ?_ ?_
  ·
    refine j_aload_n (pc := 36) 0 C dX9_book_36 rfl rfl ?_
    refine gC_0_5 (pc := 37) C dX9_book_37 q_169 ?_
    refine j_aload_n (pc := 40) 0 C dX9_book_40 rfl rfl ?_
    refine gC_0_6 (pc := 41) C dX9_book_41 q_425 ?_
    refine j_callv0 (pc := 44) C (rC_Book_copyFrom_6 C dX9_book_44 q_451 (by omega) (Nat.le_of_ble_eq_true rfl) ⟨Nat.le_of_ble_eq_true rfl, Nat.le_of_ble_eq_true rfl⟩) ⟨Nat.le_of_ble_eq_true rfl, Nat.le_of_ble_eq_true rfl⟩ (fun T5 => ?_)
    refine j_aload_n (pc := 47) 0 C dX9_book_47 rfl rfl ?_
    refine gC_0_5 (pc := 48) C dX9_book_48 q_169 ?_
    refine gC_6_0 (pc := 51) C dX9_book_51 q_170 ?_
    exact j_iret C dX9_book_54 rfl (Nat.le_of_ble_eq_true rfl) (Nat.le_of_ble_eq_true rfl)
  ·
    refine j_aload_n (pc := 25) 0 C dX9_book_25 rfl rfl ?_
    refine gC_0_0 (pc := 26) C dX9_book_26 q_30 ?_
    refine gC_1_2 (pc := 29) C dX9_book_29 q_188 ?_
    refine j_bipush (pc := 32) 10 C dX9_book_32 (by decide) ?_
    refine j_isub (pc := 34) C dX9_book_34 ?_
    exact j_iret C dX9_book_35 rfl (Nat.le_of_ble_eq_true rfl) (Nat.le_of_ble_eq_true rfl)
theorem cC_Main_book {l : Launch} {G : Gc} (hfl : l.stackTraces = false) (hW : Wok G wC 54)   (x1 : Int32) (S : St) : Ct l yX9_book (Cond.code yX9_book cX9_book 2 (some .int) :: tblG) 9 1 6 G wC 54 [.ref (gA G 0), .int x1] S (fC_Main_book x1 S) := ct_of (own := RX9) hfl (by decide +kernel) rfl hW (Nat.le_of_ble_eq_true rfl) (fun E hE C => by subst hE; exact bC_Main_book C   x1 S)
theorem rC_Main_book {E : Ec} {G : Gc} {nL mc ms : Nat} {own : String} {cc : ByteArray} {L : Nat} {ret : Option FieldType} {k n pc ix : Nat} {loc : List (Nat × Value)} {rest : List Value}  {x1 : Int32} {S : St}  (C : JC E (VC G nL mc ms own) cc L ret) (hd : decode cc pc = .ok (.invokevirtual ix, 3)) (hq : Cond.methodLink own ix yX9_book ∈ tblG) (hL : 9 + 1 ≤ L) (hW : (rest.map fun v => v.category).sum ≤ 8) (hf : k + 1 ≤ mc ∧ n + 6 ≤ ms) : Rn E (VC G nL mc ms own) k n 1 6 pc loc (.int x1 :: .ref (gA G 0) :: rest) rest S (fC_Main_book x1 S) := rn_V (ci := 9) 0 (V := VC G nL mc ms own) (As := [.int x1]) (Cq := (RX9, TX9, 15)) (cC_Main_book C.flags C.wok  x1 S) knX9_book ⟨q_453, q_454⟩ rfl rfl C hd hq hL rfl rfl hW hf

theorem knX9_fault : Kn yX9_fault cX9_fault 1 (some .int) 0 := ⟨q_456, q_40, by decide +kernel, by decide⟩
theorem bC_Main_fault {E : Ec} {G : Gc}    (C : JC E (VC G 1 0 0 RX9) cX9_fault 1 (some .int))     (S : St) : J E (VC G 1 0 0 RX9) 0 0 0 [(0, .ref (gA G 0))] [] S (fC_Main_fault   S) := by
  unfold fC_Main_fault
  refine j_aload_n (pc := 0) 0 C dX9_fault_0 rfl rfl ?_
  refine gC_0_0 (pc := 1) C dX9_fault_1 q_30 ?_
  refine gC_1_3 (pc := 4) C dX9_fault_4 q_455 ?_
  exact j_iret C dX9_fault_7 rfl (Nat.le_of_ble_eq_true rfl) (Nat.le_of_ble_eq_true rfl)
theorem cC_Main_fault {l : Launch} {G : Gc} (hfl : l.stackTraces = false) (hW : Wok G wC 54)    (S : St) : Ct l yX9_fault (Cond.code yX9_fault cX9_fault 1 (some .int) :: tblG) 1 0 0 G wC 54 [.ref (gA G 0)] S (fC_Main_fault  S) := ct_of (own := RX9) hfl (by decide +kernel) rfl hW (Nat.le_of_ble_eq_true rfl) (fun E hE C => by subst hE; exact bC_Main_fault C    S)
theorem rC_Main_fault {E : Ec} {G : Gc} {nL mc ms : Nat} {own : String} {cc : ByteArray} {L : Nat} {ret : Option FieldType} {k n pc ix : Nat} {loc : List (Nat × Value)} {rest : List Value}   {S : St}  (C : JC E (VC G nL mc ms own) cc L ret) (hd : decode cc pc = .ok (.invokevirtual ix, 3)) (hq : Cond.methodLink own ix yX9_fault ∈ tblG) (hL : 1 + 1 ≤ L) (hW : (rest.map fun v => v.category).sum ≤ 8) (hf : k + 0 ≤ mc ∧ n + 0 ≤ ms) : Rn E (VC G nL mc ms own) k n 0 0 pc loc (.ref (gA G 0) :: rest) rest S (fC_Main_fault  S) := rn_V (ci := 9) 0 (V := VC G nL mc ms own) (As := []) (Cq := (RX9, TX9, 15)) (cC_Main_fault C.flags C.wok   S) knX9_fault ⟨q_457, q_458⟩ rfl rfl C hd hq hL rfl rfl hW hf

theorem knX4_popWork : Kn yX4_popWork cX4_popWork 2 (some .boolean) 1 := ⟨q_459, q_182, by decide +kernel, by decide⟩
theorem bC_Shelf_popWork {E : Ec} {G : Gc}    (C : JC E (VC G 2 0 0 RX4) cX4_popWork 1 (some .boolean))     (S : St) : J E (VC G 2 0 0 RX4) 0 0 0 [(0, .ref (gA G 10)), (1, .ref (gA G 9))] [] S (fC_Shelf_popWork   S) := by
  unfold fC_Shelf_popWork
  refine j_aload_n (pc := 0) 0 C dX4_popWork_0 rfl rfl ?_
  refine gC_10_0 (pc := 1) C dX4_popWork_1 q_179 ?_
  refine j_if_gt (pc := 4) 9 C dX4_popWork_4 (by decide) ?_ ?_
  ·
    refine j_aload_n (pc := 9) 0 C dX4_popWork_9 rfl rfl ?_
    refine j_dup (pc := 10) C dX4_popWork_10 rfl ?_
    refine gC_10_0 (pc := 11) C dX4_popWork_11 q_179 ?_
    refine j_iconst (pc := 14) 1 C dX4_popWork_14 (by decide) ?_
    refine j_isub (pc := 15) C dX4_popWork_15 ?_
    refine pC_10_0 (pc := 16) C dX4_popWork_16 q_179 ?_
    refine j_nxS (fun T1 => ?_)
    refine j_aload_n (pc := 19) 0 C dX4_popWork_19 rfl rfl ?_
    refine gC_10_2 (pc := 20) C dX4_popWork_20 q_294 ?_
    refine j_aload_n (pc := 23) 0 C dX4_popWork_23 rfl rfl ?_
    refine gC_10_0 (pc := 24) C dX4_popWork_24 q_179 ?_
    refine j_bipush (pc := 27) 74 C dX4_popWork_27 (by decide) ?_
    refine j_imul (pc := 29) C dX4_popWork_29 ?_
    refine j_aload_n (pc := 30) 1 C dX4_popWork_30 rfl rfl ?_
    refine gC_9_0 (pc := 31) C dX4_popWork_31 q_293 ?_
    refine j_iconst (pc := 34) 0 C dX4_popWork_34 (by decide) ?_
    refine j_bipush (pc := 35) 74 C dX4_popWork_35 (by decide) ?_
    refine j_copy (pc := 37) (V := VC G 2 _ _ RX4) (sC T1 47 46 ((T1.1 26) * 74) 0 74) 47 46 rfl rfl rfl C dX4_popWork_37 q_295 q_150 q_151 q_152 (by omega) (Nat.le_of_ble_eq_true rfl) ?_
    refine j_nxS (fun T2 => ?_)
    refine j_iconst (pc := 40) 1 C dX4_popWork_40 (by decide) ?_
    exact j_zretc C dX4_popWork_41 rfl (Nat.le_of_ble_eq_true rfl) (Nat.le_of_ble_eq_true rfl) rfl
  ·
    refine j_iconst (pc := 7) 0 C dX4_popWork_7 (by decide) ?_
    exact j_zretc C dX4_popWork_8 rfl (Nat.le_of_ble_eq_true rfl) (Nat.le_of_ble_eq_true rfl) rfl
theorem cC_Shelf_popWork {l : Launch} {G : Gc} (hfl : l.stackTraces = false) (hW : Wok G wC 54)    (S : St) : Ct l yX4_popWork (Cond.code yX4_popWork cX4_popWork 2 (some .boolean) :: tblG) 1 0 0 G wC 54 [.ref (gA G 10), .ref (gA G 9)] S (fC_Shelf_popWork  S) := ct_of (own := RX4) hfl (by decide +kernel) rfl hW (Nat.le_of_ble_eq_true rfl) (fun E hE C => by subst hE; exact bC_Shelf_popWork C    S)
theorem rC_Shelf_popWork {E : Ec} {G : Gc} {nL mc ms : Nat} {own : String} {cc : ByteArray} {L : Nat} {ret : Option FieldType} {k n pc ix : Nat} {loc : List (Nat × Value)} {rest : List Value}   {S : St}  (C : JC E (VC G nL mc ms own) cc L ret) (hd : decode cc pc = .ok (.invokevirtual ix, 3)) (hq : Cond.methodLink own ix yX4_popWork ∈ tblG) (hL : 1 + 1 ≤ L) (hW : (rest.map fun v => v.category).sum ≤ 8) (hf : k + 0 ≤ mc ∧ n + 0 ≤ ms) : Rn E (VC G nL mc ms own) k n 0 0 pc loc (.ref (gA G 9) :: .ref (gA G 10) :: rest) rest S (fC_Shelf_popWork  S) := rn_V (ci := 4) 10 (V := VC G nL mc ms own) (As := [.ref (gA G 9)]) (Cq := (RX4, TX4, 5)) (cC_Shelf_popWork C.flags C.wok   S) knX4_popWork ⟨q_460, q_461⟩ rfl rfl C hd hq hL rfl rfl hW hf

theorem knX9_undo : Kn yX9_undo cX9_undo 1 (some .int) 0 := ⟨q_463, q_40, by decide +kernel, by decide⟩
theorem bC_Main_undo {E : Ec} {G : Gc}    (C : JC E (VC G 1 0 0 RX9) cX9_undo 2 (some .int))     (S : St) : J E (VC G 1 0 0 RX9) 0 0 0 [(0, .ref (gA G 0))] [] S (fC_Main_undo   S) := by
  unfold fC_Main_undo
  refine j_aload_n (pc := 0) 0 C dX9_undo_0 rfl rfl ?_
  refine gC_0_9 (pc := 1) C dX9_undo_1 q_178 ?_
  refine j_aload_n (pc := 4) 0 C dX9_undo_4 rfl rfl ?_
  refine gC_0_8 (pc := 5) C dX9_undo_5 q_171 ?_
  refine j_callI0 (pc := 8) C (rC_Shelf_popWork C dX9_undo_8 q_462 (by omega) (Nat.le_of_ble_eq_true rfl) ⟨Nat.le_of_ble_eq_true rfl, Nat.le_of_ble_eq_true rfl⟩) ⟨Nat.le_of_ble_eq_true rfl, Nat.le_of_ble_eq_true rfl⟩ (fun r2 T1 => ?_)
  refine j_if_ne (pc := 11) 16 C dX9_undo_11 (by decide) ?_ ?_
  ·
    refine j_aload_n (pc := 16) 0 C dX9_undo_16 rfl rfl ?_
    refine j_iconst (pc := 17) 0 C dX9_undo_17 (by decide) ?_
    refine pC_0_12 (pc := 18) C dX9_undo_18 q_186 ?_
    refine j_nxS (fun T3 => ?_)
    refine j_aload_n (pc := 21) 0 C dX9_undo_21 rfl rfl ?_
    refine gC_0_9 (pc := 22) C dX9_undo_22 q_178 ?_
    refine gC_10_0 (pc := 25) C dX9_undo_25 q_248 ?_
    exact j_iret C dX9_undo_28 rfl (Nat.le_of_ble_eq_true rfl) (Nat.le_of_ble_eq_true rfl)
  ·
    refine j_iconst (pc := 14) (-1) C dX9_undo_14 (by decide) ?_
    exact j_iret C dX9_undo_15 rfl (Nat.le_of_ble_eq_true rfl) (Nat.le_of_ble_eq_true rfl)
theorem cC_Main_undo {l : Launch} {G : Gc} (hfl : l.stackTraces = false) (hW : Wok G wC 54)    (S : St) : Ct l yX9_undo (Cond.code yX9_undo cX9_undo 1 (some .int) :: tblG) 2 0 0 G wC 54 [.ref (gA G 0)] S (fC_Main_undo  S) := ct_of (own := RX9) hfl (by decide +kernel) rfl hW (Nat.le_of_ble_eq_true rfl) (fun E hE C => by subst hE; exact bC_Main_undo C    S)
theorem rC_Main_undo {E : Ec} {G : Gc} {nL mc ms : Nat} {own : String} {cc : ByteArray} {L : Nat} {ret : Option FieldType} {k n pc ix : Nat} {loc : List (Nat × Value)} {rest : List Value}   {S : St}  (C : JC E (VC G nL mc ms own) cc L ret) (hd : decode cc pc = .ok (.invokevirtual ix, 3)) (hq : Cond.methodLink own ix yX9_undo ∈ tblG) (hL : 2 + 1 ≤ L) (hW : (rest.map fun v => v.category).sum ≤ 8) (hf : k + 0 ≤ mc ∧ n + 0 ≤ ms) : Rn E (VC G nL mc ms own) k n 0 0 pc loc (.ref (gA G 0) :: rest) rest S (fC_Main_undo  S) := rn_V (ci := 9) 0 (V := VC G nL mc ms own) (As := []) (Cq := (RX9, TX9, 15)) (cC_Main_undo C.flags C.wok   S) knX9_undo ⟨q_464, q_465⟩ rfl rfl C hd hq hL rfl rfl hW hf

theorem knX5_week : Kn yX5_week cX5_week 1 (some .int) 0 := ⟨q_468, q_174, by decide +kernel, by decide⟩
theorem bC_State_week_9 {E : Ec} {G : Gc}    (C : JC E (VC G 1 0 0 RX5) cX5_week 1 (some .int))     (S : St) : J E (VC G 1 0 0 RX5) 0 0 0 [(0, .ref (gA G 9))] [] S (fC_State_week_9   S) := by
  unfold fC_State_week_9
  refine j_aload_n (pc := 0) 0 C dX5_week_0 rfl rfl ?_
  refine gC_9_0 (pc := 1) C dX5_week_1 q_172 ?_
  refine j_bipush (pc := 4) 73 C dX5_week_4 (by decide) ?_
  refine acC_46 (pc := 6) C dX5_week_6 rfl ?_
  exact j_iret C dX5_week_7 rfl (Nat.le_of_ble_eq_true rfl) (Nat.le_of_ble_eq_true rfl)
theorem cC_State_week_9 {l : Launch} {G : Gc} (hfl : l.stackTraces = false) (hW : Wok G wC 54)    (S : St) : Ct l yX5_week (Cond.code yX5_week cX5_week 1 (some .int) :: tblG) 1 0 0 G wC 54 [.ref (gA G 9)] S (fC_State_week_9  S) := ct_of (own := RX5) hfl (by decide +kernel) rfl hW (Nat.le_of_ble_eq_true rfl) (fun E hE C => by subst hE; exact bC_State_week_9 C    S)
theorem rC_State_week_9 {E : Ec} {G : Gc} {nL mc ms : Nat} {own : String} {cc : ByteArray} {L : Nat} {ret : Option FieldType} {k n pc ix : Nat} {loc : List (Nat × Value)} {rest : List Value}   {S : St}  (C : JC E (VC G nL mc ms own) cc L ret) (hd : decode cc pc = .ok (.invokevirtual ix, 3)) (hq : Cond.methodLink own ix yX5_week ∈ tblG) (hL : 1 + 1 ≤ L) (hW : (rest.map fun v => v.category).sum ≤ 8) (hf : k + 0 ≤ mc ∧ n + 0 ≤ ms) : Rn E (VC G nL mc ms own) k n 0 0 pc loc (.ref (gA G 9) :: rest) rest S (fC_State_week_9  S) := rn_V (ci := 5) 9 (V := VC G nL mc ms own) (As := []) (Cq := (RX5, TX5, 3)) (cC_State_week_9 C.flags C.wok   S) knX5_week ⟨q_469, q_470⟩ rfl rfl C hd hq hL rfl rfl hW hf

theorem knX5_paidBits : Kn yX5_paidBits cX5_paidBits 1 (some .int) 0 := ⟨q_472, q_174, by decide +kernel, by decide⟩
theorem bC_State_paidBits_9 {E : Ec} {G : Gc}    (C : JC E (VC G 1 0 0 RX5) cX5_paidBits 1 (some .int))     (S : St) : J E (VC G 1 0 0 RX5) 0 0 0 [(0, .ref (gA G 9))] [] S (fC_State_paidBits_9   S) := by
  unfold fC_State_paidBits_9
  refine j_aload_n (pc := 0) 0 C dX5_paidBits_0 rfl rfl ?_
  refine gC_9_0 (pc := 1) C dX5_paidBits_1 q_172 ?_
  refine j_bipush (pc := 4) 72 C dX5_paidBits_4 (by decide) ?_
  refine acC_46 (pc := 6) C dX5_paidBits_6 rfl ?_
  exact j_iret C dX5_paidBits_7 rfl (Nat.le_of_ble_eq_true rfl) (Nat.le_of_ble_eq_true rfl)
theorem cC_State_paidBits_9 {l : Launch} {G : Gc} (hfl : l.stackTraces = false) (hW : Wok G wC 54)    (S : St) : Ct l yX5_paidBits (Cond.code yX5_paidBits cX5_paidBits 1 (some .int) :: tblG) 1 0 0 G wC 54 [.ref (gA G 9)] S (fC_State_paidBits_9  S) := ct_of (own := RX5) hfl (by decide +kernel) rfl hW (Nat.le_of_ble_eq_true rfl) (fun E hE C => by subst hE; exact bC_State_paidBits_9 C    S)
theorem rC_State_paidBits_9 {E : Ec} {G : Gc} {nL mc ms : Nat} {own : String} {cc : ByteArray} {L : Nat} {ret : Option FieldType} {k n pc ix : Nat} {loc : List (Nat × Value)} {rest : List Value}   {S : St}  (C : JC E (VC G nL mc ms own) cc L ret) (hd : decode cc pc = .ok (.invokevirtual ix, 3)) (hq : Cond.methodLink own ix yX5_paidBits ∈ tblG) (hL : 1 + 1 ≤ L) (hW : (rest.map fun v => v.category).sum ≤ 8) (hf : k + 0 ≤ mc ∧ n + 0 ≤ ms) : Rn E (VC G nL mc ms own) k n 0 0 pc loc (.ref (gA G 9) :: rest) rest S (fC_State_paidBits_9  S) := rn_V (ci := 5) 9 (V := VC G nL mc ms own) (As := []) (Cq := (RX5, TX5, 3)) (cC_State_paidBits_9 C.flags C.wok   S) knX5_paidBits ⟨q_473, q_474⟩ rfl rfl C hd hq hL rfl rfl hW hf

theorem knX5_lateBits : Kn yX5_lateBits cX5_lateBits 3 (some .int) 0 := ⟨q_478, q_174, by decide +kernel, by decide⟩
theorem bC_State_lateBits_9_4 {E : Ec} {G : Gc}    (C : JC E (VC G 3 0 0 RX5) cX5_lateBits 2 (some .int))    : ∀ (n : Nat) (x1 : Int32) (x2 : Int32) (S : St), J E (VC G 3 0 0 RX5) 0 0 4 [(0, .ref (gA G 9)), (1, .int x1), (2, .int x2)] [] S (fC_State_lateBits_9_4  n x1 x2 S) := by
  intro n
  induction n with
  | zero => intro x1 x2 S; rw [fC_State_lateBits_9_4]; exact j_none
  | succ n ih =>
    intro x1 x2 S
    rw [fC_State_lateBits_9_4]
    refine j_iload_n (pc := 4) 2 C dX5_lateBits_4 rfl rfl ?_
    refine j_aload_n (pc := 5) 0 C dX5_lateBits_5 rfl rfl ?_
    refine gC_9_1 (pc := 6) C dX5_lateBits_6 q_301 ?_
    refine gC_2_2 (pc := 9) C dX5_lateBits_9 q_476 ?_
    refine j_icmp_ge (pc := 12) 54 C dX5_lateBits_12 (by decide) ?_ ?_
    ·
      refine j_iload_n (pc := 54) 1 C dX5_lateBits_54 rfl rfl ?_
      exact j_iret C dX5_lateBits_55 rfl (Nat.le_of_ble_eq_true rfl) (Nat.le_of_ble_eq_true rfl)
    ·
      refine j_aload_n (pc := 15) 0 C dX5_lateBits_15 rfl rfl ?_
      refine j_iload_n (pc := 16) 2 C dX5_lateBits_16 rfl rfl ?_
      refine j_callI0 (pc := 17) C (rC_State_isPaid_9 C dX5_lateBits_17 q_367 (by omega) (Nat.le_of_ble_eq_true rfl) ⟨Nat.le_of_ble_eq_true rfl, Nat.le_of_ble_eq_true rfl⟩) ⟨Nat.le_of_ble_eq_true rfl, Nat.le_of_ble_eq_true rfl⟩ (fun r2 T1 => ?_)
      refine j_if_ne (pc := 20) 48 C dX5_lateBits_20 (by decide) ?_ ?_
      ·
        refine j_iinc (pc := 48) 2 (x2 + 1) [(2, .int (x2 + 1)), (0, .ref (gA G 9)), (1, .int x1)] C dX5_lateBits_48 rfl rfl (Nat.le_of_ble_eq_true rfl) rfl ?_
        refine j_goto (pc := 51) 4 C dX5_lateBits_51 (by decide) ?_
        refine j_sub [1, 2, 0] rfl ?_
        exact ih x1 (x2 + 1) T1
      ·
        refine j_aload_n (pc := 23) 0 C dX5_lateBits_23 rfl rfl ?_
        refine gC_9_0 (pc := 24) C dX5_lateBits_24 q_172 ?_
        refine j_bipush (pc := 27) 73 C dX5_lateBits_27 (by decide) ?_
        refine acC_46 (pc := 29) C dX5_lateBits_29 rfl ?_
        refine j_aload_n (pc := 30) 0 C dX5_lateBits_30 rfl rfl ?_
        refine gC_9_1 (pc := 31) C dX5_lateBits_31 q_301 ?_
        refine gC_2_11 (pc := 34) C dX5_lateBits_34 q_477 ?_
        refine j_iload_n (pc := 37) 2 C dX5_lateBits_37 rfl rfl ?_
        refine aC_22 (pc := 38) C dX5_lateBits_38 ?_
        refine j_icmp_le (pc := 39) 48 C dX5_lateBits_39 (by decide) ?_ ?_
        ·
          refine j_iinc (pc := 48) 2 (x2 + 1) [(2, .int (x2 + 1)), (0, .ref (gA G 9)), (1, .int x1)] C dX5_lateBits_48 rfl rfl (Nat.le_of_ble_eq_true rfl) rfl ?_
          refine j_goto (pc := 51) 4 C dX5_lateBits_51 (by decide) ?_
          refine j_sub [1, 2, 0] rfl ?_
          exact ih x1 (x2 + 1) T1
        ·
          refine j_iload_n (pc := 42) 1 C dX5_lateBits_42 rfl rfl ?_
          refine j_iconst (pc := 43) 1 C dX5_lateBits_43 (by decide) ?_
          refine j_iload_n (pc := 44) 2 C dX5_lateBits_44 rfl rfl ?_
          refine j_ishl (pc := 45) C dX5_lateBits_45 ?_
          refine j_ior (pc := 46) C dX5_lateBits_46 ?_
          refine j_nxI (fun v3 => ?_)
          refine j_istore_n (pc := 47) [(1, .int v3), (0, .ref (gA G 9)), (2, .int x2)] C dX5_lateBits_47 rfl (Nat.le_of_ble_eq_true rfl) rfl ?_
          refine j_iinc (pc := 48) 2 (x2 + 1) [(2, .int (x2 + 1)), (1, .int v3), (0, .ref (gA G 9))] C dX5_lateBits_48 rfl rfl (Nat.le_of_ble_eq_true rfl) rfl ?_
          refine j_goto (pc := 51) 4 C dX5_lateBits_51 (by decide) ?_
          refine j_sub [2, 1, 0] rfl ?_
          exact ih v3 (x2 + 1) T1
theorem bC_State_lateBits_9 {E : Ec} {G : Gc}    (C : JC E (VC G 3 0 0 RX5) cX5_lateBits 2 (some .int))     (S : St) : J E (VC G 3 0 0 RX5) 0 0 0 [(0, .ref (gA G 9))] [] S (fC_State_lateBits_9   S) := by
  unfold fC_State_lateBits_9
  refine j_iconst (pc := 0) 0 C dX5_lateBits_0 (by decide) ?_
  refine j_istore_n (pc := 1) [(1, .int 0), (0, .ref (gA G 9))] C dX5_lateBits_1 rfl (Nat.le_of_ble_eq_true rfl) rfl ?_
  refine j_iconst (pc := 2) 0 C dX5_lateBits_2 (by decide) ?_
  refine j_istore_n (pc := 3) [(2, .int 0), (1, .int 0), (0, .ref (gA G 9))] C dX5_lateBits_3 rfl (Nat.le_of_ble_eq_true rfl) rfl ?_
  refine j_sub [2, 1, 0] rfl ?_
  exact bC_State_lateBits_9_4 C  FU 0 0 S
theorem cC_State_lateBits_9 {l : Launch} {G : Gc} (hfl : l.stackTraces = false) (hW : Wok G wC 54)    (S : St) : Ct l yX5_lateBits (Cond.code yX5_lateBits cX5_lateBits 3 (some .int) :: tblG) 2 0 0 G wC 54 [.ref (gA G 9)] S (fC_State_lateBits_9  S) := ct_of (own := RX5) hfl (by decide +kernel) rfl hW (Nat.le_of_ble_eq_true rfl) (fun E hE C => by subst hE; exact bC_State_lateBits_9 C    S)
theorem rC_State_lateBits_9 {E : Ec} {G : Gc} {nL mc ms : Nat} {own : String} {cc : ByteArray} {L : Nat} {ret : Option FieldType} {k n pc ix : Nat} {loc : List (Nat × Value)} {rest : List Value}   {S : St}  (C : JC E (VC G nL mc ms own) cc L ret) (hd : decode cc pc = .ok (.invokevirtual ix, 3)) (hq : Cond.methodLink own ix yX5_lateBits ∈ tblG) (hL : 2 + 1 ≤ L) (hW : (rest.map fun v => v.category).sum ≤ 8) (hf : k + 0 ≤ mc ∧ n + 0 ≤ ms) : Rn E (VC G nL mc ms own) k n 0 0 pc loc (.ref (gA G 9) :: rest) rest S (fC_State_lateBits_9  S) := rn_V (ci := 5) 9 (V := VC G nL mc ms own) (As := []) (Cq := (RX5, TX5, 3)) (cC_State_lateBits_9 C.flags C.wok   S) knX5_lateBits ⟨q_479, q_480⟩ rfl rfl C hd hq hL rfl rfl hW hf

theorem knX5_oldBits : Kn yX5_oldBits cX5_oldBits 3 (some .int) 0 := ⟨q_482, q_174, by decide +kernel, by decide⟩
theorem bC_State_oldBits_9_4 {E : Ec} {G : Gc}    (C : JC E (VC G 3 0 0 RX5) cX5_oldBits 2 (some .int))    : ∀ (n : Nat) (x1 : Int32) (x2 : Int32) (S : St), J E (VC G 3 0 0 RX5) 0 0 4 [(0, .ref (gA G 9)), (1, .int x1), (2, .int x2)] [] S (fC_State_oldBits_9_4  n x1 x2 S) := by
  intro n
  induction n with
  | zero => intro x1 x2 S; rw [fC_State_oldBits_9_4]; exact j_none
  | succ n ih =>
    intro x1 x2 S
    rw [fC_State_oldBits_9_4]
    refine j_iload_n (pc := 4) 2 C dX5_oldBits_4 rfl rfl ?_
    refine j_aload_n (pc := 5) 0 C dX5_oldBits_5 rfl rfl ?_
    refine gC_9_1 (pc := 6) C dX5_oldBits_6 q_301 ?_
    refine gC_2_1 (pc := 9) C dX5_oldBits_9 q_395 ?_
    refine j_icmp_ge (pc := 12) 35 C dX5_oldBits_12 (by decide) ?_ ?_
    ·
      refine j_iload_n (pc := 35) 1 C dX5_oldBits_35 rfl rfl ?_
      exact j_iret C dX5_oldBits_36 rfl (Nat.le_of_ble_eq_true rfl) (Nat.le_of_ble_eq_true rfl)
    ·
      refine j_aload_n (pc := 15) 0 C dX5_oldBits_15 rfl rfl ?_
      refine j_iload_n (pc := 16) 2 C dX5_oldBits_16 rfl rfl ?_
      refine j_callI0 (pc := 17) C (rC_State_isOld_9 C dX5_oldBits_17 q_306 (by omega) (Nat.le_of_ble_eq_true rfl) ⟨Nat.le_of_ble_eq_true rfl, Nat.le_of_ble_eq_true rfl⟩) ⟨Nat.le_of_ble_eq_true rfl, Nat.le_of_ble_eq_true rfl⟩ (fun r2 T1 => ?_)
      refine j_if_eq (pc := 20) 29 C dX5_oldBits_20 (by decide) ?_ ?_
      ·
        refine j_iinc (pc := 29) 2 (x2 + 1) [(2, .int (x2 + 1)), (0, .ref (gA G 9)), (1, .int x1)] C dX5_oldBits_29 rfl rfl (Nat.le_of_ble_eq_true rfl) rfl ?_
        refine j_goto (pc := 32) 4 C dX5_oldBits_32 (by decide) ?_
        refine j_sub [1, 2, 0] rfl ?_
        exact ih x1 (x2 + 1) T1
      ·
        refine j_iload_n (pc := 23) 1 C dX5_oldBits_23 rfl rfl ?_
        refine j_iconst (pc := 24) 1 C dX5_oldBits_24 (by decide) ?_
        refine j_iload_n (pc := 25) 2 C dX5_oldBits_25 rfl rfl ?_
        refine j_ishl (pc := 26) C dX5_oldBits_26 ?_
        refine j_ior (pc := 27) C dX5_oldBits_27 ?_
        refine j_nxI (fun v3 => ?_)
        refine j_istore_n (pc := 28) [(1, .int v3), (0, .ref (gA G 9)), (2, .int x2)] C dX5_oldBits_28 rfl (Nat.le_of_ble_eq_true rfl) rfl ?_
        refine j_iinc (pc := 29) 2 (x2 + 1) [(2, .int (x2 + 1)), (1, .int v3), (0, .ref (gA G 9))] C dX5_oldBits_29 rfl rfl (Nat.le_of_ble_eq_true rfl) rfl ?_
        refine j_goto (pc := 32) 4 C dX5_oldBits_32 (by decide) ?_
        refine j_sub [2, 1, 0] rfl ?_
        exact ih v3 (x2 + 1) T1
theorem bC_State_oldBits_9 {E : Ec} {G : Gc}    (C : JC E (VC G 3 0 0 RX5) cX5_oldBits 2 (some .int))     (S : St) : J E (VC G 3 0 0 RX5) 0 0 0 [(0, .ref (gA G 9))] [] S (fC_State_oldBits_9   S) := by
  unfold fC_State_oldBits_9
  refine j_iconst (pc := 0) 0 C dX5_oldBits_0 (by decide) ?_
  refine j_istore_n (pc := 1) [(1, .int 0), (0, .ref (gA G 9))] C dX5_oldBits_1 rfl (Nat.le_of_ble_eq_true rfl) rfl ?_
  refine j_iconst (pc := 2) 0 C dX5_oldBits_2 (by decide) ?_
  refine j_istore_n (pc := 3) [(2, .int 0), (1, .int 0), (0, .ref (gA G 9))] C dX5_oldBits_3 rfl (Nat.le_of_ble_eq_true rfl) rfl ?_
  refine j_sub [2, 1, 0] rfl ?_
  exact bC_State_oldBits_9_4 C  FU 0 0 S
theorem cC_State_oldBits_9 {l : Launch} {G : Gc} (hfl : l.stackTraces = false) (hW : Wok G wC 54)    (S : St) : Ct l yX5_oldBits (Cond.code yX5_oldBits cX5_oldBits 3 (some .int) :: tblG) 2 0 0 G wC 54 [.ref (gA G 9)] S (fC_State_oldBits_9  S) := ct_of (own := RX5) hfl (by decide +kernel) rfl hW (Nat.le_of_ble_eq_true rfl) (fun E hE C => by subst hE; exact bC_State_oldBits_9 C    S)
theorem rC_State_oldBits_9 {E : Ec} {G : Gc} {nL mc ms : Nat} {own : String} {cc : ByteArray} {L : Nat} {ret : Option FieldType} {k n pc ix : Nat} {loc : List (Nat × Value)} {rest : List Value}   {S : St}  (C : JC E (VC G nL mc ms own) cc L ret) (hd : decode cc pc = .ok (.invokevirtual ix, 3)) (hq : Cond.methodLink own ix yX5_oldBits ∈ tblG) (hL : 2 + 1 ≤ L) (hW : (rest.map fun v => v.category).sum ≤ 8) (hf : k + 0 ≤ mc ∧ n + 0 ≤ ms) : Rn E (VC G nL mc ms own) k n 0 0 pc loc (.ref (gA G 9) :: rest) rest S (fC_State_oldBits_9  S) := rn_V (ci := 5) 9 (V := VC G nL mc ms own) (As := []) (Cq := (RX5, TX5, 3)) (cC_State_oldBits_9 C.flags C.wok   S) knX5_oldBits ⟨q_483, q_484⟩ rfl rfl C hd hq hL rfl rfl hW hf

theorem knX5_allSlips : Kn yX5_allSlips cX5_allSlips 3 (some .int) 0 := ⟨q_486, q_174, by decide +kernel, by decide⟩
theorem bC_State_allSlips_9_4 {E : Ec} {G : Gc}    (C : JC E (VC G 3 0 0 RX5) cX5_allSlips 1 (some .int))    : ∀ (n : Nat) (x1 : Int32) (x2 : Int32) (S : St), J E (VC G 3 0 0 RX5) 0 0 4 [(0, .ref (gA G 9)), (1, .int x1), (2, .int x2)] [] S (fC_State_allSlips_9_4  n x1 x2 S) := by
  intro n
  induction n with
  | zero => intro x1 x2 S; rw [fC_State_allSlips_9_4]; exact j_none
  | succ n ih =>
    intro x1 x2 S
    rw [fC_State_allSlips_9_4]
    refine j_iload_n (pc := 4) 2 C dX5_allSlips_4 rfl rfl ?_
    refine j_aload_n (pc := 5) 0 C dX5_allSlips_5 rfl rfl ?_
    refine gC_9_1 (pc := 6) C dX5_allSlips_6 q_301 ?_
    refine gC_2_1 (pc := 9) C dX5_allSlips_9 q_395 ?_
    refine j_icmp_ge (pc := 12) 33 C dX5_allSlips_12 (by decide) ?_ ?_
    ·
      refine j_iload_n (pc := 33) 1 C dX5_allSlips_33 rfl rfl ?_
      exact j_iret C dX5_allSlips_34 rfl (Nat.le_of_ble_eq_true rfl) (Nat.le_of_ble_eq_true rfl)
    ·
      refine j_iload_n (pc := 15) 1 C dX5_allSlips_15 rfl rfl ?_
      refine j_aload_n (pc := 16) 0 C dX5_allSlips_16 rfl rfl ?_
      refine gC_9_0 (pc := 17) C dX5_allSlips_17 q_172 ?_
      refine j_bipush (pc := 20) 60 C dX5_allSlips_20 (by decide) ?_
      refine j_iload_n (pc := 22) 2 C dX5_allSlips_22 rfl rfl ?_
      refine j_iadd (pc := 23) C dX5_allSlips_23 ?_
      refine aC_46 (pc := 24) C dX5_allSlips_24 ?_
      refine j_iadd (pc := 25) C dX5_allSlips_25 ?_
      refine j_nxI (fun v1 => ?_)
      refine j_istore_n (pc := 26) [(1, .int v1), (0, .ref (gA G 9)), (2, .int x2)] C dX5_allSlips_26 rfl (Nat.le_of_ble_eq_true rfl) rfl ?_
      refine j_iinc (pc := 27) 2 (x2 + 1) [(2, .int (x2 + 1)), (1, .int v1), (0, .ref (gA G 9))] C dX5_allSlips_27 rfl rfl (Nat.le_of_ble_eq_true rfl) rfl ?_
      refine j_goto (pc := 30) 4 C dX5_allSlips_30 (by decide) ?_
      refine j_sub [2, 1, 0] rfl ?_
      exact ih v1 (x2 + 1) S
theorem bC_State_allSlips_9 {E : Ec} {G : Gc}    (C : JC E (VC G 3 0 0 RX5) cX5_allSlips 1 (some .int))     (S : St) : J E (VC G 3 0 0 RX5) 0 0 0 [(0, .ref (gA G 9))] [] S (fC_State_allSlips_9   S) := by
  unfold fC_State_allSlips_9
  refine j_iconst (pc := 0) 0 C dX5_allSlips_0 (by decide) ?_
  refine j_istore_n (pc := 1) [(1, .int 0), (0, .ref (gA G 9))] C dX5_allSlips_1 rfl (Nat.le_of_ble_eq_true rfl) rfl ?_
  refine j_iconst (pc := 2) 0 C dX5_allSlips_2 (by decide) ?_
  refine j_istore_n (pc := 3) [(2, .int 0), (1, .int 0), (0, .ref (gA G 9))] C dX5_allSlips_3 rfl (Nat.le_of_ble_eq_true rfl) rfl ?_
  refine j_sub [2, 1, 0] rfl ?_
  exact bC_State_allSlips_9_4 C  FU 0 0 S
theorem cC_State_allSlips_9 {l : Launch} {G : Gc} (hfl : l.stackTraces = false) (hW : Wok G wC 54)    (S : St) : Ct l yX5_allSlips (Cond.code yX5_allSlips cX5_allSlips 3 (some .int) :: tblG) 1 0 0 G wC 54 [.ref (gA G 9)] S (fC_State_allSlips_9  S) := ct_of (own := RX5) hfl (by decide +kernel) rfl hW (Nat.le_of_ble_eq_true rfl) (fun E hE C => by subst hE; exact bC_State_allSlips_9 C    S)
theorem rC_State_allSlips_9 {E : Ec} {G : Gc} {nL mc ms : Nat} {own : String} {cc : ByteArray} {L : Nat} {ret : Option FieldType} {k n pc ix : Nat} {loc : List (Nat × Value)} {rest : List Value}   {S : St}  (C : JC E (VC G nL mc ms own) cc L ret) (hd : decode cc pc = .ok (.invokevirtual ix, 3)) (hq : Cond.methodLink own ix yX5_allSlips ∈ tblG) (hL : 1 + 1 ≤ L) (hW : (rest.map fun v => v.category).sum ≤ 8) (hf : k + 0 ≤ mc ∧ n + 0 ≤ ms) : Rn E (VC G nL mc ms own) k n 0 0 pc loc (.ref (gA G 9) :: rest) rest S (fC_State_allSlips_9  S) := rn_V (ci := 5) 9 (V := VC G nL mc ms own) (As := []) (Cq := (RX5, TX5, 3)) (cC_State_allSlips_9 C.flags C.wok   S) knX5_allSlips ⟨q_487, q_488⟩ rfl rfl C hd hq hL rfl rfl hW hf

theorem knX5_everyLine : Kn yX5_everyLine cX5_everyLine 3 (some .int) 0 := ⟨q_490, q_174, by decide +kernel, by decide⟩
theorem bC_State_everyLine_9_4 {E : Ec} {G : Gc}    (C : JC E (VC G 3 0 0 RX5) cX5_everyLine 3 (some .int))    : ∀ (n : Nat) (x1 : Int32) (x2 : Int32) (S : St), J E (VC G 3 0 0 RX5) 0 0 4 [(0, .ref (gA G 9)), (1, .int x1), (2, .int x2)] [] S (fC_State_everyLine_9_4  n x1 x2 S) := by
  intro n
  induction n with
  | zero => intro x1 x2 S; rw [fC_State_everyLine_9_4]; exact j_none
  | succ n ih =>
    intro x1 x2 S
    rw [fC_State_everyLine_9_4]
    refine j_iload_n (pc := 4) 2 C dX5_everyLine_4 rfl rfl ?_
    refine j_aload_n (pc := 5) 0 C dX5_everyLine_5 rfl rfl ?_
    refine gC_9_1 (pc := 6) C dX5_everyLine_6 q_301 ?_
    refine gC_2_1 (pc := 9) C dX5_everyLine_9 q_395 ?_
    refine j_icmp_ge (pc := 12) 29 C dX5_everyLine_12 (by decide) ?_ ?_
    ·
      refine j_iload_n (pc := 29) 1 C dX5_everyLine_29 rfl rfl ?_
      exact j_iret C dX5_everyLine_30 rfl (Nat.le_of_ble_eq_true rfl) (Nat.le_of_ble_eq_true rfl)
    ·
      refine j_iload_n (pc := 15) 1 C dX5_everyLine_15 rfl rfl ?_
      refine j_aload_n (pc := 16) 0 C dX5_everyLine_16 rfl rfl ?_
      refine j_iload_n (pc := 17) 2 C dX5_everyLine_17 rfl rfl ?_
      refine j_callI0 (pc := 18) C (rC_State_linesOf_9 C dX5_everyLine_18 q_319 (by omega) (Nat.le_of_ble_eq_true rfl) ⟨Nat.le_of_ble_eq_true rfl, Nat.le_of_ble_eq_true rfl⟩) ⟨Nat.le_of_ble_eq_true rfl, Nat.le_of_ble_eq_true rfl⟩ (fun r2 T1 => ?_)
      refine j_iadd (pc := 21) C dX5_everyLine_21 ?_
      refine j_nxI (fun v3 => ?_)
      refine j_istore_n (pc := 22) [(1, .int v3), (0, .ref (gA G 9)), (2, .int x2)] C dX5_everyLine_22 rfl (Nat.le_of_ble_eq_true rfl) rfl ?_
      refine j_iinc (pc := 23) 2 (x2 + 1) [(2, .int (x2 + 1)), (1, .int v3), (0, .ref (gA G 9))] C dX5_everyLine_23 rfl rfl (Nat.le_of_ble_eq_true rfl) rfl ?_
      refine j_goto (pc := 26) 4 C dX5_everyLine_26 (by decide) ?_
      refine j_sub [2, 1, 0] rfl ?_
      exact ih v3 (x2 + 1) T1
theorem bC_State_everyLine_9 {E : Ec} {G : Gc}    (C : JC E (VC G 3 0 0 RX5) cX5_everyLine 3 (some .int))     (S : St) : J E (VC G 3 0 0 RX5) 0 0 0 [(0, .ref (gA G 9))] [] S (fC_State_everyLine_9   S) := by
  unfold fC_State_everyLine_9
  refine j_iconst (pc := 0) 0 C dX5_everyLine_0 (by decide) ?_
  refine j_istore_n (pc := 1) [(1, .int 0), (0, .ref (gA G 9))] C dX5_everyLine_1 rfl (Nat.le_of_ble_eq_true rfl) rfl ?_
  refine j_iconst (pc := 2) 0 C dX5_everyLine_2 (by decide) ?_
  refine j_istore_n (pc := 3) [(2, .int 0), (1, .int 0), (0, .ref (gA G 9))] C dX5_everyLine_3 rfl (Nat.le_of_ble_eq_true rfl) rfl ?_
  refine j_sub [2, 1, 0] rfl ?_
  exact bC_State_everyLine_9_4 C  FU 0 0 S
theorem cC_State_everyLine_9 {l : Launch} {G : Gc} (hfl : l.stackTraces = false) (hW : Wok G wC 54)    (S : St) : Ct l yX5_everyLine (Cond.code yX5_everyLine cX5_everyLine 3 (some .int) :: tblG) 3 0 0 G wC 54 [.ref (gA G 9)] S (fC_State_everyLine_9  S) := ct_of (own := RX5) hfl (by decide +kernel) rfl hW (Nat.le_of_ble_eq_true rfl) (fun E hE C => by subst hE; exact bC_State_everyLine_9 C    S)
theorem rC_State_everyLine_9 {E : Ec} {G : Gc} {nL mc ms : Nat} {own : String} {cc : ByteArray} {L : Nat} {ret : Option FieldType} {k n pc ix : Nat} {loc : List (Nat × Value)} {rest : List Value}   {S : St}  (C : JC E (VC G nL mc ms own) cc L ret) (hd : decode cc pc = .ok (.invokevirtual ix, 3)) (hq : Cond.methodLink own ix yX5_everyLine ∈ tblG) (hL : 3 + 1 ≤ L) (hW : (rest.map fun v => v.category).sum ≤ 8) (hf : k + 0 ≤ mc ∧ n + 0 ≤ ms) : Rn E (VC G nL mc ms own) k n 0 0 pc loc (.ref (gA G 9) :: rest) rest S (fC_State_everyLine_9  S) := rn_V (ci := 5) 9 (V := VC G nL mc ms own) (As := []) (Cq := (RX5, TX5, 3)) (cC_State_everyLine_9 C.flags C.wok   S) knX5_everyLine ⟨q_491, q_492⟩ rfl rfl C hd hq hL rfl rfl hW hf

theorem knX9_told : Kn yX9_told cX9_told 2 (some .int) 1 := ⟨q_495, q_40, by decide +kernel, by decide⟩
theorem bC_Main_told {E : Ec} {G : Gc}    (C : JC E (VC G 2 1 6 RX9) cX9_told 7 (some .int))    (x1 : Int32) (S : St) : J E (VC G 2 1 6 RX9) 0 0 0 [(0, .ref (gA G 0)), (1, .int x1)] [] S (fC_Main_told  x1 S) := by
  unfold fC_Main_told
  refine j_iload_n (pc := 0) 1 C dX9_told_0 rfl rfl ?_
  refine j_tswC (pc := 1) (off := 63) 64 0 C dX9_told_1 (by decide) (by decide) (by decide) (by decide) ?_ (fun h1_0 => ?_)
  ·
    refine j_aload_n (pc := 64) 0 C dX9_told_64 rfl rfl ?_
    refine gC_0_1 (pc := 65) C dX9_told_65 q_148 ?_
    refine gC_2_0 (pc := 68) C dX9_told_68 q_466 ?_
    exact j_iret C dX9_told_71 rfl (Nat.le_of_ble_eq_true rfl) (Nat.le_of_ble_eq_true rfl)
  refine j_tswC (pc := 1) (off := 71) 72 1 C dX9_told_1 (by decide) (by decide) (by decide) (by decide) ?_ (fun h1_1 => ?_)
  ·
    refine j_aload_n (pc := 72) 0 C dX9_told_72 rfl rfl ?_
    refine gC_0_1 (pc := 73) C dX9_told_73 q_148 ?_
    refine gC_2_1 (pc := 76) C dX9_told_76 q_467 ?_
    exact j_iret C dX9_told_79 rfl (Nat.le_of_ble_eq_true rfl) (Nat.le_of_ble_eq_true rfl)
  refine j_tswC (pc := 1) (off := 79) 80 2 C dX9_told_1 (by decide) (by decide) (by decide) (by decide) ?_ (fun h1_2 => ?_)
  ·
    refine j_aload_n (pc := 80) 0 C dX9_told_80 rfl rfl ?_
    refine gC_0_1 (pc := 81) C dX9_told_81 q_148 ?_
    refine gC_2_2 (pc := 84) C dX9_told_84 q_187 ?_
    exact j_iret C dX9_told_87 rfl (Nat.le_of_ble_eq_true rfl) (Nat.le_of_ble_eq_true rfl)
  refine j_tswC (pc := 1) (off := 87) 88 3 C dX9_told_1 (by decide) (by decide) (by decide) (by decide) ?_ (fun h1_3 => ?_)
  ·
    refine j_aload_n (pc := 88) 0 C dX9_told_88 rfl rfl ?_
    refine gC_0_8 (pc := 89) C dX9_told_89 q_171 ?_
    refine j_callI0 (pc := 92) C (rC_State_week_9 C dX9_told_92 q_471 (by omega) (Nat.le_of_ble_eq_true rfl) ⟨Nat.le_of_ble_eq_true rfl, Nat.le_of_ble_eq_true rfl⟩) ⟨Nat.le_of_ble_eq_true rfl, Nat.le_of_ble_eq_true rfl⟩ (fun r2 T1 => ?_)
    exact j_iret C dX9_told_95 rfl (Nat.le_of_ble_eq_true rfl) (Nat.le_of_ble_eq_true rfl)
  refine j_tswC (pc := 1) (off := 95) 96 4 C dX9_told_1 (by decide) (by decide) (by decide) (by decide) ?_ (fun h1_4 => ?_)
  ·
    refine j_aload_n (pc := 96) 0 C dX9_told_96 rfl rfl ?_
    refine gC_0_8 (pc := 97) C dX9_told_97 q_171 ?_
    refine j_callI0 (pc := 100) C (rC_State_paidBits_9 C dX9_told_100 q_475 (by omega) (Nat.le_of_ble_eq_true rfl) ⟨Nat.le_of_ble_eq_true rfl, Nat.le_of_ble_eq_true rfl⟩) ⟨Nat.le_of_ble_eq_true rfl, Nat.le_of_ble_eq_true rfl⟩ (fun r4 T3 => ?_)
    exact j_iret C dX9_told_103 rfl (Nat.le_of_ble_eq_true rfl) (Nat.le_of_ble_eq_true rfl)
  refine j_tswC (pc := 1) (off := 103) 104 5 C dX9_told_1 (by decide) (by decide) (by decide) (by decide) ?_ (fun h1_5 => ?_)
  ·
    refine j_aload_n (pc := 104) 0 C dX9_told_104 rfl rfl ?_
    refine gC_0_8 (pc := 105) C dX9_told_105 q_171 ?_
    refine j_callI0 (pc := 108) C (rC_State_lateBits_9 C dX9_told_108 q_481 (by omega) (Nat.le_of_ble_eq_true rfl) ⟨Nat.le_of_ble_eq_true rfl, Nat.le_of_ble_eq_true rfl⟩) ⟨Nat.le_of_ble_eq_true rfl, Nat.le_of_ble_eq_true rfl⟩ (fun r6 T5 => ?_)
    exact j_iret C dX9_told_111 rfl (Nat.le_of_ble_eq_true rfl) (Nat.le_of_ble_eq_true rfl)
  refine j_tswC (pc := 1) (off := 111) 112 6 C dX9_told_1 (by decide) (by decide) (by decide) (by decide) ?_ (fun h1_6 => ?_)
  ·
    refine j_aload_n (pc := 112) 0 C dX9_told_112 rfl rfl ?_
    refine gC_0_8 (pc := 113) C dX9_told_113 q_171 ?_
    refine j_callI0 (pc := 116) C (rC_State_oldBits_9 C dX9_told_116 q_485 (by omega) (Nat.le_of_ble_eq_true rfl) ⟨Nat.le_of_ble_eq_true rfl, Nat.le_of_ble_eq_true rfl⟩) ⟨Nat.le_of_ble_eq_true rfl, Nat.le_of_ble_eq_true rfl⟩ (fun r8 T7 => ?_)
    exact j_iret C dX9_told_119 rfl (Nat.le_of_ble_eq_true rfl) (Nat.le_of_ble_eq_true rfl)
  refine j_tswC (pc := 1) (off := 119) 120 7 C dX9_told_1 (by decide) (by decide) (by decide) (by decide) ?_ (fun h1_7 => ?_)
  ·
    refine j_aload_n (pc := 120) 0 C dX9_told_120 rfl rfl ?_
    refine gC_0_8 (pc := 121) C dX9_told_121 q_171 ?_
    refine j_callI0 (pc := 124) C (rC_State_allSlips_9 C dX9_told_124 q_489 (by omega) (Nat.le_of_ble_eq_true rfl) ⟨Nat.le_of_ble_eq_true rfl, Nat.le_of_ble_eq_true rfl⟩) ⟨Nat.le_of_ble_eq_true rfl, Nat.le_of_ble_eq_true rfl⟩ (fun r10 T9 => ?_)
    exact j_iret C dX9_told_127 rfl (Nat.le_of_ble_eq_true rfl) (Nat.le_of_ble_eq_true rfl)
  refine j_tswC (pc := 1) (off := 127) 128 8 C dX9_told_1 (by decide) (by decide) (by decide) (by decide) ?_ (fun h1_8 => ?_)
  ·
    refine j_aload_n (pc := 128) 0 C dX9_told_128 rfl rfl ?_
    refine gC_0_8 (pc := 129) C dX9_told_129 q_171 ?_
    refine j_callI0 (pc := 132) C (rC_State_everyLine_9 C dX9_told_132 q_493 (by omega) (Nat.le_of_ble_eq_true rfl) ⟨Nat.le_of_ble_eq_true rfl, Nat.le_of_ble_eq_true rfl⟩) ⟨Nat.le_of_ble_eq_true rfl, Nat.le_of_ble_eq_true rfl⟩ (fun r12 T11 => ?_)
    exact j_iret C dX9_told_135 rfl (Nat.le_of_ble_eq_true rfl) (Nat.le_of_ble_eq_true rfl)
  refine j_tswC (pc := 1) (off := 135) 136 9 C dX9_told_1 (by decide) (by decide) (by decide) (by decide) ?_ (fun h1_9 => ?_)
  ·
    refine j_aload_n (pc := 136) 0 C dX9_told_136 rfl rfl ?_
    refine gC_0_5 (pc := 137) C dX9_told_137 q_169 ?_
    refine gC_6_0 (pc := 140) C dX9_told_140 q_170 ?_
    exact j_iret C dX9_told_143 rfl (Nat.le_of_ble_eq_true rfl) (Nat.le_of_ble_eq_true rfl)
  refine j_tswC (pc := 1) (off := 143) 144 10 C dX9_told_1 (by decide) (by decide) (by decide) (by decide) ?_ (fun h1_10 => ?_)
  ·
    refine j_aload_n (pc := 144) 0 C dX9_told_144 rfl rfl ?_
    refine gC_0_12 (pc := 145) C dX9_told_145 q_186 ?_
    exact j_iret C dX9_told_148 rfl (Nat.le_of_ble_eq_true rfl) (Nat.le_of_ble_eq_true rfl)
  refine j_tswC (pc := 1) (off := 148) 149 11 C dX9_told_1 (by decide) (by decide) (by decide) (by decide) ?_ (fun h1_11 => ?_)
  ·
    refine j_aload_n (pc := 149) 0 C dX9_told_149 rfl rfl ?_
    refine gC_0_1 (pc := 150) C dX9_told_150 q_148 ?_
    refine gC_2_3 (pc := 153) C dX9_told_153 q_494 ?_
    exact j_iret C dX9_told_156 rfl (Nat.le_of_ble_eq_true rfl) (Nat.le_of_ble_eq_true rfl)
  refine j_tswD (pc := 1) 157 C dX9_told_1 (by have := ne_i (z := 0) h1_0 (by decide); have := ne_i (z := 1) h1_1 (by decide); have := ne_i (z := 2) h1_2 (by decide); have := ne_i (z := 3) h1_3 (by decide); have := ne_i (z := 4) h1_4 (by decide); have := ne_i (z := 5) h1_5 (by decide); have := ne_i (z := 6) h1_6 (by decide); have := ne_i (z := 7) h1_7 (by decide); have := ne_i (z := 8) h1_8 (by decide); have := ne_i (z := 9) h1_9 (by decide); have := ne_i (z := 10) h1_10 (by decide); have := ne_i (z := 11) h1_11 (by decide); omega) (by decide) ?_
  refine j_aload_n (pc := 157) 0 C dX9_told_157 rfl rfl ?_
  refine j_callI (pc := 158) C (rC_Main_refuseArgument C dX9_told_158 q_56 (by omega) (Nat.le_of_ble_eq_true rfl) ⟨Nat.le_of_ble_eq_true rfl, Nat.le_of_ble_eq_true rfl⟩) ⟨Nat.le_of_ble_eq_true rfl, Nat.le_of_ble_eq_true rfl⟩ (fun r14 T13 => ?_)
  exact j_iret C dX9_told_161 rfl (Nat.le_of_ble_eq_true rfl) (Nat.le_of_ble_eq_true rfl)
theorem cC_Main_told {l : Launch} {G : Gc} (hfl : l.stackTraces = false) (hW : Wok G wC 54)   (x1 : Int32) (S : St) : Ct l yX9_told (Cond.code yX9_told cX9_told 2 (some .int) :: tblG) 7 1 6 G wC 54 [.ref (gA G 0), .int x1] S (fC_Main_told x1 S) := ct_of (own := RX9) hfl (by decide +kernel) rfl hW (Nat.le_of_ble_eq_true rfl) (fun E hE C => by subst hE; exact bC_Main_told C   x1 S)
theorem rC_Main_told {E : Ec} {G : Gc} {nL mc ms : Nat} {own : String} {cc : ByteArray} {L : Nat} {ret : Option FieldType} {k n pc ix : Nat} {loc : List (Nat × Value)} {rest : List Value}  {x1 : Int32} {S : St}  (C : JC E (VC G nL mc ms own) cc L ret) (hd : decode cc pc = .ok (.invokevirtual ix, 3)) (hq : Cond.methodLink own ix yX9_told ∈ tblG) (hL : 7 + 1 ≤ L) (hW : (rest.map fun v => v.category).sum ≤ 8) (hf : k + 1 ≤ mc ∧ n + 6 ≤ ms) : Rn E (VC G nL mc ms own) k n 1 6 pc loc (.int x1 :: .ref (gA G 0) :: rest) rest S (fC_Main_told x1 S) := rn_V (ci := 9) 0 (V := VC G nL mc ms own) (As := [.int x1]) (Cq := (RX9, TX9, 15)) (cC_Main_told C.flags C.wok  x1 S) knX9_told ⟨q_496, q_497⟩ rfl rfl C hd hq hL rfl rfl hW hf

theorem knX9_needElement : Kn yX9_needElement cX9_needElement 3 none 2 := ⟨q_501, q_40, by decide +kernel, by decide⟩
theorem bC_Main_needElement_9 {E : Ec} {G : Gc}    (C : JC E (VC G 3 1 6 RX9) cX9_needElement 6 none)     (S : St) : J E (VC G 3 1 6 RX9) 0 0 9 [(0, .ref (gA G 0))] [] S (fC_Main_needElement_9   S) := by
  unfold fC_Main_needElement_9
  refine j_aload_n (pc := 9) 0 C dX9_needElement_9 rfl rfl ?_
  refine j_dup (pc := 10) C dX9_needElement_10 rfl ?_
  refine gC_0_13 (pc := 11) C dX9_needElement_11 q_498 ?_
  refine j_iconst (pc := 14) 1 C dX9_needElement_14 (by decide) ?_
  refine j_iadd (pc := 15) C dX9_needElement_15 ?_
  refine pC_0_13 (pc := 16) C dX9_needElement_16 q_498 ?_
  refine j_nxS (fun T1 => ?_)
  exact j_throwN (kx := 0) (si := 21) C (by decide +kernel) q_499 q_500 rfl rfl rfl hat_NSE hat_NSE2 dX9_needElement_19 dX9_needElement_22 dX9_needElement_23 dX9_needElement_26 dX9_needElement_29 (by omega) (Nat.le_of_ble_eq_true rfl) (Nat.le_of_ble_eq_true rfl) (Nat.le_of_ble_eq_true rfl)
theorem bC_Main_needElement {E : Ec} {G : Gc}    (C : JC E (VC G 3 1 6 RX9) cX9_needElement 6 none)    (x1 : Int32) (x2 : Int32) (S : St) : J E (VC G 3 1 6 RX9) 0 0 0 [(0, .ref (gA G 0)), (1, .int x1), (2, .int x2)] [] S (fC_Main_needElement  x1 x2 S) := by
  unfold fC_Main_needElement
  refine j_iload_n (pc := 0) 1 C dX9_needElement_0 rfl rfl ?_
  refine j_if_lt (pc := 1) 9 C dX9_needElement_1 (by decide) ?_ ?_
  ·
    refine j_sub [0] rfl ?_
    exact bC_Main_needElement_9 C   S
  ·
    refine j_iload_n (pc := 4) 1 C dX9_needElement_4 rfl rfl ?_
    refine j_iload_n (pc := 5) 2 C dX9_needElement_5 rfl rfl ?_
    refine j_icmp_lt (pc := 6) 30 C dX9_needElement_6 (by decide) ?_ ?_
    ·
      exact j_vret C dX9_needElement_30 rfl (Nat.le_of_ble_eq_true rfl) (Nat.le_of_ble_eq_true rfl)
    ·
      refine j_sub [0] rfl ?_
      exact bC_Main_needElement_9 C   S
theorem cC_Main_needElement {l : Launch} {G : Gc} (hfl : l.stackTraces = false) (hW : Wok G wC 54)   (x1 : Int32) (x2 : Int32) (S : St) : Ct l yX9_needElement (Cond.code yX9_needElement cX9_needElement 3 none :: tblG) 6 1 6 G wC 54 [.ref (gA G 0), .int x1, .int x2] S (fC_Main_needElement x1 x2 S) := ct_of (own := RX9) hfl (by decide +kernel) rfl hW (Nat.le_of_ble_eq_true rfl) (fun E hE C => by subst hE; exact bC_Main_needElement C   x1 x2 S)
theorem rC_Main_needElement {E : Ec} {G : Gc} {nL mc ms : Nat} {own : String} {cc : ByteArray} {L : Nat} {ret : Option FieldType} {k n pc ix : Nat} {loc : List (Nat × Value)} {rest : List Value}  {x1 : Int32} {x2 : Int32} {S : St}  (C : JC E (VC G nL mc ms own) cc L ret) (hd : decode cc pc = .ok (.invokevirtual ix, 3)) (hq : Cond.methodLink own ix yX9_needElement ∈ tblG) (hL : 6 + 1 ≤ L) (hW : (rest.map fun v => v.category).sum ≤ 8) (hf : k + 1 ≤ mc ∧ n + 6 ≤ ms) : Rn E (VC G nL mc ms own) k n 1 6 pc loc (.int x2 :: .int x1 :: .ref (gA G 0) :: rest) rest S (fC_Main_needElement x1 x2 S) := rn_V (ci := 9) 0 (V := VC G nL mc ms own) (As := [.int x1, .int x2]) (Cq := (RX9, TX9, 15)) (cC_Main_needElement C.flags C.wok  x1 x2 S) knX9_needElement ⟨q_502, q_503⟩ rfl rfl C hd hq hL rfl rfl hW hf

theorem knX9_needPoem : Kn yX9_needPoem cX9_needPoem 2 none 1 := ⟨q_505, q_40, by decide +kernel, by decide⟩
theorem bC_Main_needPoem {E : Ec} {G : Gc}    (C : JC E (VC G 2 1 6 RX9) cX9_needPoem 7 none)    (x1 : Int32) (S : St) : J E (VC G 2 1 6 RX9) 0 0 0 [(0, .ref (gA G 0)), (1, .int x1)] [] S (fC_Main_needPoem  x1 S) := by
  unfold fC_Main_needPoem
  refine j_aload_n (pc := 0) 0 C dX9_needPoem_0 rfl rfl ?_
  refine j_iload_n (pc := 1) 1 C dX9_needPoem_1 rfl rfl ?_
  refine j_aload_n (pc := 2) 0 C dX9_needPoem_2 rfl rfl ?_
  refine gC_0_1 (pc := 3) C dX9_needPoem_3 q_148 ?_
  refine gC_2_0 (pc := 6) C dX9_needPoem_6 q_466 ?_
  refine j_callv (pc := 9) C (rC_Main_needElement C dX9_needPoem_9 q_504 (by omega) (Nat.le_of_ble_eq_true rfl) ⟨Nat.le_of_ble_eq_true rfl, Nat.le_of_ble_eq_true rfl⟩) ⟨Nat.le_of_ble_eq_true rfl, Nat.le_of_ble_eq_true rfl⟩ (fun T1 => ?_)
  exact j_vret C dX9_needPoem_12 rfl (Nat.le_of_ble_eq_true rfl) (Nat.le_of_ble_eq_true rfl)
theorem cC_Main_needPoem {l : Launch} {G : Gc} (hfl : l.stackTraces = false) (hW : Wok G wC 54)   (x1 : Int32) (S : St) : Ct l yX9_needPoem (Cond.code yX9_needPoem cX9_needPoem 2 none :: tblG) 7 1 6 G wC 54 [.ref (gA G 0), .int x1] S (fC_Main_needPoem x1 S) := ct_of (own := RX9) hfl (by decide +kernel) rfl hW (Nat.le_of_ble_eq_true rfl) (fun E hE C => by subst hE; exact bC_Main_needPoem C   x1 S)
theorem rC_Main_needPoem {E : Ec} {G : Gc} {nL mc ms : Nat} {own : String} {cc : ByteArray} {L : Nat} {ret : Option FieldType} {k n pc ix : Nat} {loc : List (Nat × Value)} {rest : List Value}  {x1 : Int32} {S : St}  (C : JC E (VC G nL mc ms own) cc L ret) (hd : decode cc pc = .ok (.invokevirtual ix, 3)) (hq : Cond.methodLink own ix yX9_needPoem ∈ tblG) (hL : 7 + 1 ≤ L) (hW : (rest.map fun v => v.category).sum ≤ 8) (hf : k + 1 ≤ mc ∧ n + 6 ≤ ms) : Rn E (VC G nL mc ms own) k n 1 6 pc loc (.int x1 :: .ref (gA G 0) :: rest) rest S (fC_Main_needPoem x1 S) := rn_V (ci := 9) 0 (V := VC G nL mc ms own) (As := [.int x1]) (Cq := (RX9, TX9, 15)) (cC_Main_needPoem C.flags C.wok  x1 S) knX9_needPoem ⟨q_506, q_507⟩ rfl rfl C hd hq hL rfl rfl hW hf

theorem knX5_knowsAll : Kn yX5_knowsAll cX5_knowsAll 3 (some .boolean) 2 := ⟨q_511, q_174, by decide +kernel, by decide⟩
theorem bC_State_knowsAll_9 {E : Ec} {G : Gc}    (C : JC E (VC G 3 0 0 RX5) cX5_knowsAll 2 (some .boolean))    (x1 : Int32) (x2 : Int32) (S : St) : J E (VC G 3 0 0 RX5) 0 0 0 [(0, .ref (gA G 9)), (1, .int x1), (2, .int x2)] [] S (fC_State_knowsAll_9  x1 x2 S) := by
  unfold fC_State_knowsAll_9
  refine j_aload_n (pc := 0) 0 C dX5_knowsAll_0 rfl rfl ?_
  refine gC_9_0 (pc := 1) C dX5_knowsAll_1 q_172 ?_
  refine j_iload_n (pc := 4) 1 C dX5_knowsAll_4 rfl rfl ?_
  refine j_iload_n (pc := 5) 2 C dX5_knowsAll_5 rfl rfl ?_
  refine j_callI0 (pc := 6) C (rC_State_place C dX5_knowsAll_6 q_315 (by omega) (Nat.le_of_ble_eq_true rfl) ⟨Nat.le_of_ble_eq_true rfl, Nat.le_of_ble_eq_true rfl⟩) ⟨Nat.le_of_ble_eq_true rfl, Nat.le_of_ble_eq_true rfl⟩ (fun r2 T1 => ?_)
  refine aC_46 (pc := 9) C dX5_knowsAll_9 ?_
  refine j_aload_n (pc := 10) 0 C dX5_knowsAll_10 rfl rfl ?_
  refine gC_9_1 (pc := 11) C dX5_knowsAll_11 q_301 ?_
  refine gC_2_4 (pc := 14) C dX5_knowsAll_14 q_325 ?_
  refine j_iload_n (pc := 17) 2 C dX5_knowsAll_17 rfl rfl ?_
  refine aC_15 (pc := 18) C dX5_knowsAll_18 ?_
  refine j_icmp_lt (pc := 19) 26 C dX5_knowsAll_19 (by decide) ?_ ?_
  ·
    refine j_iconst (pc := 26) 0 C dX5_knowsAll_26 (by decide) ?_
    exact j_zretc C dX5_knowsAll_27 rfl (Nat.le_of_ble_eq_true rfl) (Nat.le_of_ble_eq_true rfl) rfl
  ·
    refine j_iconst (pc := 22) 1 C dX5_knowsAll_22 (by decide) ?_
    refine j_goto (pc := 23) 27 C dX5_knowsAll_23 (by decide) ?_
    exact j_zretc C dX5_knowsAll_27 rfl (Nat.le_of_ble_eq_true rfl) (Nat.le_of_ble_eq_true rfl) rfl
theorem cC_State_knowsAll_9 {l : Launch} {G : Gc} (hfl : l.stackTraces = false) (hW : Wok G wC 54)   (x1 : Int32) (x2 : Int32) (S : St) : Ct l yX5_knowsAll (Cond.code yX5_knowsAll cX5_knowsAll 3 (some .boolean) :: tblG) 2 0 0 G wC 54 [.ref (gA G 9), .int x1, .int x2] S (fC_State_knowsAll_9 x1 x2 S) := ct_of (own := RX5) hfl (by decide +kernel) rfl hW (Nat.le_of_ble_eq_true rfl) (fun E hE C => by subst hE; exact bC_State_knowsAll_9 C   x1 x2 S)
theorem rC_State_knowsAll_9 {E : Ec} {G : Gc} {nL mc ms : Nat} {own : String} {cc : ByteArray} {L : Nat} {ret : Option FieldType} {k n pc ix : Nat} {loc : List (Nat × Value)} {rest : List Value}  {x1 : Int32} {x2 : Int32} {S : St}  (C : JC E (VC G nL mc ms own) cc L ret) (hd : decode cc pc = .ok (.invokevirtual ix, 3)) (hq : Cond.methodLink own ix yX5_knowsAll ∈ tblG) (hL : 2 + 1 ≤ L) (hW : (rest.map fun v => v.category).sum ≤ 8) (hf : k + 0 ≤ mc ∧ n + 0 ≤ ms) : Rn E (VC G nL mc ms own) k n 0 0 pc loc (.int x2 :: .int x1 :: .ref (gA G 9) :: rest) rest S (fC_State_knowsAll_9 x1 x2 S) := rn_V (ci := 5) 9 (V := VC G nL mc ms own) (As := [.int x1, .int x2]) (Cq := (RX5, TX5, 3)) (cC_State_knowsAll_9 C.flags C.wok  x1 x2 S) knX5_knowsAll ⟨q_512, q_513⟩ rfl rfl C hd hq hL rfl rfl hW hf

theorem knX5_whoKnowAll : Kn yX5_whoKnowAll cX5_whoKnowAll 4 (some .int) 1 := ⟨q_515, q_174, by decide +kernel, by decide⟩
theorem bC_State_whoKnowAll_9_4 {E : Ec} {G : Gc}    (C : JC E (VC G 4 0 0 RX5) cX5_whoKnowAll 3 (some .int))    : ∀ (n : Nat) (x1 : Int32) (x2 : Int32) (x3 : Int32) (S : St), J E (VC G 4 0 0 RX5) 0 0 4 [(0, .ref (gA G 9)), (1, .int x1), (2, .int x2), (3, .int x3)] [] S (fC_State_whoKnowAll_9_4  n x1 x2 x3 S) := by
  intro n
  induction n with
  | zero => intro x1 x2 x3 S; rw [fC_State_whoKnowAll_9_4]; exact j_none
  | succ n ih =>
    intro x1 x2 x3 S
    rw [fC_State_whoKnowAll_9_4]
    refine j_iload_n (pc := 4) 3 C dX5_whoKnowAll_4 rfl rfl ?_
    refine j_aload_n (pc := 5) 0 C dX5_whoKnowAll_5 rfl rfl ?_
    refine gC_9_1 (pc := 6) C dX5_whoKnowAll_6 q_301 ?_
    refine gC_2_1 (pc := 9) C dX5_whoKnowAll_9 q_395 ?_
    refine j_icmp_ge (pc := 12) 36 C dX5_whoKnowAll_12 (by decide) ?_ ?_
    ·
      refine j_iload_n (pc := 36) 2 C dX5_whoKnowAll_36 rfl rfl ?_
      exact j_iret C dX5_whoKnowAll_37 rfl (Nat.le_of_ble_eq_true rfl) (Nat.le_of_ble_eq_true rfl)
    ·
      refine j_aload_n (pc := 15) 0 C dX5_whoKnowAll_15 rfl rfl ?_
      refine j_iload_n (pc := 16) 3 C dX5_whoKnowAll_16 rfl rfl ?_
      refine j_iload_n (pc := 17) 1 C dX5_whoKnowAll_17 rfl rfl ?_
      refine j_callI0 (pc := 18) C (rC_State_knowsAll_9 C dX5_whoKnowAll_18 q_514 (by omega) (Nat.le_of_ble_eq_true rfl) ⟨Nat.le_of_ble_eq_true rfl, Nat.le_of_ble_eq_true rfl⟩) ⟨Nat.le_of_ble_eq_true rfl, Nat.le_of_ble_eq_true rfl⟩ (fun r2 T1 => ?_)
      refine j_if_eq (pc := 21) 30 C dX5_whoKnowAll_21 (by decide) ?_ ?_
      ·
        refine j_iinc (pc := 30) 3 (x3 + 1) [(3, .int (x3 + 1)), (0, .ref (gA G 9)), (1, .int x1), (2, .int x2)] C dX5_whoKnowAll_30 rfl rfl (Nat.le_of_ble_eq_true rfl) rfl ?_
        refine j_goto (pc := 33) 4 C dX5_whoKnowAll_33 (by decide) ?_
        refine j_sub [1, 2, 3, 0] rfl ?_
        exact ih x1 x2 (x3 + 1) T1
      ·
        refine j_iload_n (pc := 24) 2 C dX5_whoKnowAll_24 rfl rfl ?_
        refine j_iconst (pc := 25) 1 C dX5_whoKnowAll_25 (by decide) ?_
        refine j_iload_n (pc := 26) 3 C dX5_whoKnowAll_26 rfl rfl ?_
        refine j_ishl (pc := 27) C dX5_whoKnowAll_27 ?_
        refine j_ior (pc := 28) C dX5_whoKnowAll_28 ?_
        refine j_nxI (fun v3 => ?_)
        refine j_istore_n (pc := 29) [(2, .int v3), (0, .ref (gA G 9)), (1, .int x1), (3, .int x3)] C dX5_whoKnowAll_29 rfl (Nat.le_of_ble_eq_true rfl) rfl ?_
        refine j_iinc (pc := 30) 3 (x3 + 1) [(3, .int (x3 + 1)), (2, .int v3), (0, .ref (gA G 9)), (1, .int x1)] C dX5_whoKnowAll_30 rfl rfl (Nat.le_of_ble_eq_true rfl) rfl ?_
        refine j_goto (pc := 33) 4 C dX5_whoKnowAll_33 (by decide) ?_
        refine j_sub [2, 3, 1, 0] rfl ?_
        exact ih x1 v3 (x3 + 1) T1
theorem bC_State_whoKnowAll_9 {E : Ec} {G : Gc}    (C : JC E (VC G 4 0 0 RX5) cX5_whoKnowAll 3 (some .int))    (x1 : Int32) (S : St) : J E (VC G 4 0 0 RX5) 0 0 0 [(0, .ref (gA G 9)), (1, .int x1)] [] S (fC_State_whoKnowAll_9  x1 S) := by
  unfold fC_State_whoKnowAll_9
  refine j_iconst (pc := 0) 0 C dX5_whoKnowAll_0 (by decide) ?_
  refine j_istore_n (pc := 1) [(2, .int 0), (0, .ref (gA G 9)), (1, .int x1)] C dX5_whoKnowAll_1 rfl (Nat.le_of_ble_eq_true rfl) rfl ?_
  refine j_iconst (pc := 2) 0 C dX5_whoKnowAll_2 (by decide) ?_
  refine j_istore_n (pc := 3) [(3, .int 0), (2, .int 0), (0, .ref (gA G 9)), (1, .int x1)] C dX5_whoKnowAll_3 rfl (Nat.le_of_ble_eq_true rfl) rfl ?_
  refine j_sub [2, 3, 1, 0] rfl ?_
  exact bC_State_whoKnowAll_9_4 C  FU x1 0 0 S
theorem cC_State_whoKnowAll_9 {l : Launch} {G : Gc} (hfl : l.stackTraces = false) (hW : Wok G wC 54)   (x1 : Int32) (S : St) : Ct l yX5_whoKnowAll (Cond.code yX5_whoKnowAll cX5_whoKnowAll 4 (some .int) :: tblG) 3 0 0 G wC 54 [.ref (gA G 9), .int x1] S (fC_State_whoKnowAll_9 x1 S) := ct_of (own := RX5) hfl (by decide +kernel) rfl hW (Nat.le_of_ble_eq_true rfl) (fun E hE C => by subst hE; exact bC_State_whoKnowAll_9 C   x1 S)
theorem rC_State_whoKnowAll_9 {E : Ec} {G : Gc} {nL mc ms : Nat} {own : String} {cc : ByteArray} {L : Nat} {ret : Option FieldType} {k n pc ix : Nat} {loc : List (Nat × Value)} {rest : List Value}  {x1 : Int32} {S : St}  (C : JC E (VC G nL mc ms own) cc L ret) (hd : decode cc pc = .ok (.invokevirtual ix, 3)) (hq : Cond.methodLink own ix yX5_whoKnowAll ∈ tblG) (hL : 3 + 1 ≤ L) (hW : (rest.map fun v => v.category).sum ≤ 8) (hf : k + 0 ≤ mc ∧ n + 0 ≤ ms) : Rn E (VC G nL mc ms own) k n 0 0 pc loc (.int x1 :: .ref (gA G 9) :: rest) rest S (fC_State_whoKnowAll_9 x1 S) := rn_V (ci := 5) 9 (V := VC G nL mc ms own) (As := [.int x1]) (Cq := (RX5, TX5, 3)) (cC_State_whoKnowAll_9 C.flags C.wok  x1 S) knX5_whoKnowAll ⟨q_516, q_517⟩ rfl rfl C hd hq hL rfl rfl hW hf

theorem knX7_debtsByPoem : Kn yX7_debtsByPoem cX7_debtsByPoem 4 (some .int) 1 := ⟨q_519, q_112, by decide +kernel, by decide⟩
theorem bC_Valley_debtsByPoem_2_4 {E : Ec} {G : Gc}    (C : JC E (VC G 4 0 0 RX7) cX7_debtsByPoem 1 (some .int))    : ∀ (n : Nat) (x1 : Int32) (x2 : Int32) (x3 : Int32) (S : St), J E (VC G 4 0 0 RX7) 0 0 4 [(0, .ref (gA G 2)), (1, .int x1), (2, .int x2), (3, .int x3)] [] S (fC_Valley_debtsByPoem_2_4  n x1 x2 x3 S) := by
  intro n
  induction n with
  | zero => intro x1 x2 x3 S; rw [fC_Valley_debtsByPoem_2_4]; exact j_none
  | succ n ih =>
    intro x1 x2 x3 S
    rw [fC_Valley_debtsByPoem_2_4]
    refine j_iload_n (pc := 4) 3 C dX7_debtsByPoem_4 rfl rfl ?_
    refine j_aload_n (pc := 5) 0 C dX7_debtsByPoem_5 rfl rfl ?_
    refine gC_2_2 (pc := 6) C dX7_debtsByPoem_6 q_76 ?_
    refine j_icmp_ge (pc := 9) 34 C dX7_debtsByPoem_9 (by decide) ?_ ?_
    ·
      refine j_iload_n (pc := 34) 2 C dX7_debtsByPoem_34 rfl rfl ?_
      exact j_iret C dX7_debtsByPoem_35 rfl (Nat.le_of_ble_eq_true rfl) (Nat.le_of_ble_eq_true rfl)
    ·
      refine j_aload_n (pc := 12) 0 C dX7_debtsByPoem_12 rfl rfl ?_
      refine gC_2_9 (pc := 13) C dX7_debtsByPoem_13 q_117 ?_
      refine j_iload_n (pc := 16) 3 C dX7_debtsByPoem_16 rfl rfl ?_
      refine aC_20 (pc := 17) C dX7_debtsByPoem_17 ?_
      refine j_iload_n (pc := 18) 1 C dX7_debtsByPoem_18 rfl rfl ?_
      refine j_icmp_ne (pc := 19) 28 C dX7_debtsByPoem_19 (by decide) ?_ ?_
      ·
        refine j_iinc (pc := 28) 3 (x3 + 1) [(3, .int (x3 + 1)), (0, .ref (gA G 2)), (1, .int x1), (2, .int x2)] C dX7_debtsByPoem_28 rfl rfl (Nat.le_of_ble_eq_true rfl) rfl ?_
        refine j_goto (pc := 31) 4 C dX7_debtsByPoem_31 (by decide) ?_
        refine j_sub [1, 2, 3, 0] rfl ?_
        exact ih x1 x2 (x3 + 1) S
      ·
        refine j_iload_n (pc := 22) 2 C dX7_debtsByPoem_22 rfl rfl ?_
        refine j_iconst (pc := 23) 1 C dX7_debtsByPoem_23 (by decide) ?_
        refine j_iload_n (pc := 24) 3 C dX7_debtsByPoem_24 rfl rfl ?_
        refine j_ishl (pc := 25) C dX7_debtsByPoem_25 ?_
        refine j_ior (pc := 26) C dX7_debtsByPoem_26 ?_
        refine j_nxI (fun v1 => ?_)
        refine j_istore_n (pc := 27) [(2, .int v1), (0, .ref (gA G 2)), (1, .int x1), (3, .int x3)] C dX7_debtsByPoem_27 rfl (Nat.le_of_ble_eq_true rfl) rfl ?_
        refine j_iinc (pc := 28) 3 (x3 + 1) [(3, .int (x3 + 1)), (2, .int v1), (0, .ref (gA G 2)), (1, .int x1)] C dX7_debtsByPoem_28 rfl rfl (Nat.le_of_ble_eq_true rfl) rfl ?_
        refine j_goto (pc := 31) 4 C dX7_debtsByPoem_31 (by decide) ?_
        refine j_sub [2, 3, 1, 0] rfl ?_
        exact ih x1 v1 (x3 + 1) S
theorem bC_Valley_debtsByPoem_2 {E : Ec} {G : Gc}    (C : JC E (VC G 4 0 0 RX7) cX7_debtsByPoem 1 (some .int))    (x1 : Int32) (S : St) : J E (VC G 4 0 0 RX7) 0 0 0 [(0, .ref (gA G 2)), (1, .int x1)] [] S (fC_Valley_debtsByPoem_2  x1 S) := by
  unfold fC_Valley_debtsByPoem_2
  refine j_iconst (pc := 0) 0 C dX7_debtsByPoem_0 (by decide) ?_
  refine j_istore_n (pc := 1) [(2, .int 0), (0, .ref (gA G 2)), (1, .int x1)] C dX7_debtsByPoem_1 rfl (Nat.le_of_ble_eq_true rfl) rfl ?_
  refine j_iconst (pc := 2) 0 C dX7_debtsByPoem_2 (by decide) ?_
  refine j_istore_n (pc := 3) [(3, .int 0), (2, .int 0), (0, .ref (gA G 2)), (1, .int x1)] C dX7_debtsByPoem_3 rfl (Nat.le_of_ble_eq_true rfl) rfl ?_
  refine j_sub [2, 3, 1, 0] rfl ?_
  exact bC_Valley_debtsByPoem_2_4 C  FU x1 0 0 S
theorem cC_Valley_debtsByPoem_2 {l : Launch} {G : Gc} (hfl : l.stackTraces = false) (hW : Wok G wC 54)   (x1 : Int32) (S : St) : Ct l yX7_debtsByPoem (Cond.code yX7_debtsByPoem cX7_debtsByPoem 4 (some .int) :: tblG) 1 0 0 G wC 54 [.ref (gA G 2), .int x1] S (fC_Valley_debtsByPoem_2 x1 S) := ct_of (own := RX7) hfl (by decide +kernel) rfl hW (Nat.le_of_ble_eq_true rfl) (fun E hE C => by subst hE; exact bC_Valley_debtsByPoem_2 C   x1 S)
theorem rC_Valley_debtsByPoem_2 {E : Ec} {G : Gc} {nL mc ms : Nat} {own : String} {cc : ByteArray} {L : Nat} {ret : Option FieldType} {k n pc ix : Nat} {loc : List (Nat × Value)} {rest : List Value}  {x1 : Int32} {S : St}  (C : JC E (VC G nL mc ms own) cc L ret) (hd : decode cc pc = .ok (.invokevirtual ix, 3)) (hq : Cond.methodLink own ix yX7_debtsByPoem ∈ tblG) (hL : 1 + 1 ≤ L) (hW : (rest.map fun v => v.category).sum ≤ 8) (hf : k + 0 ≤ mc ∧ n + 0 ≤ ms) : Rn E (VC G nL mc ms own) k n 0 0 pc loc (.int x1 :: .ref (gA G 2) :: rest) rest S (fC_Valley_debtsByPoem_2 x1 S) := rn_V (ci := 7) 2 (V := VC G nL mc ms own) (As := [.int x1]) (Cq := (RX7, TX7, 12)) (cC_Valley_debtsByPoem_2 C.flags C.wok  x1 S) knX7_debtsByPoem ⟨q_520, q_521⟩ rfl rfl C hd hq hL rfl rfl hW hf

theorem knX9_poem : Kn yX9_poem cX9_poem 3 (some .int) 2 := ⟨q_523, q_40, by decide +kernel, by decide⟩
theorem bC_Main_poem {E : Ec} {G : Gc}    (C : JC E (VC G 3 2 12 RX9) cX9_poem 8 (some .int))    (x1 : Int32) (x2 : Int32) (S : St) : J E (VC G 3 2 12 RX9) 0 0 0 [(0, .ref (gA G 0)), (1, .int x1), (2, .int x2)] [] S (fC_Main_poem  x1 x2 S) := by
  unfold fC_Main_poem
  refine j_aload_n (pc := 0) 0 C dX9_poem_0 rfl rfl ?_
  refine j_iload_n (pc := 1) 1 C dX9_poem_1 rfl rfl ?_
  refine j_callv (pc := 2) C (rC_Main_needPoem C dX9_poem_2 q_508 (by omega) (Nat.le_of_ble_eq_true rfl) ⟨Nat.le_of_ble_eq_true rfl, Nat.le_of_ble_eq_true rfl⟩) ⟨Nat.le_of_ble_eq_true rfl, Nat.le_of_ble_eq_true rfl⟩ (fun T1 => ?_)
  refine j_iload_n (pc := 5) 2 C dX9_poem_5 rfl rfl ?_
  refine j_tswC (pc := 6) (off := 30) 36 0 C dX9_poem_6 (by decide) (by decide) (by decide) (by decide) ?_ (fun h6_0 => ?_)
  ·
    refine j_aload_n (pc := 36) 0 C dX9_poem_36 rfl rfl ?_
    refine gC_0_1 (pc := 37) C dX9_poem_37 q_148 ?_
    refine gC_2_4 (pc := 40) C dX9_poem_40 q_509 ?_
    refine j_iload_n (pc := 43) 1 C dX9_poem_43 rfl rfl ?_
    refine aC_15 (pc := 44) C dX9_poem_44 ?_
    exact j_iret C dX9_poem_45 rfl (Nat.le_of_ble_eq_true rfl) (Nat.le_of_ble_eq_true rfl)
  refine j_tswC (pc := 6) (off := 40) 46 1 C dX9_poem_6 (by decide) (by decide) (by decide) (by decide) ?_ (fun h6_1 => ?_)
  ·
    refine j_aload_n (pc := 46) 0 C dX9_poem_46 rfl rfl ?_
    refine gC_0_1 (pc := 47) C dX9_poem_47 q_148 ?_
    refine gC_2_5 (pc := 50) C dX9_poem_50 q_510 ?_
    refine j_iload_n (pc := 53) 1 C dX9_poem_53 rfl rfl ?_
    refine aC_16 (pc := 54) C dX9_poem_54 ?_
    exact j_iret C dX9_poem_55 rfl (Nat.le_of_ble_eq_true rfl) (Nat.le_of_ble_eq_true rfl)
  refine j_tswC (pc := 6) (off := 50) 56 2 C dX9_poem_6 (by decide) (by decide) (by decide) (by decide) ?_ (fun h6_2 => ?_)
  ·
    refine j_aload_n (pc := 56) 0 C dX9_poem_56 rfl rfl ?_
    refine gC_0_8 (pc := 57) C dX9_poem_57 q_171 ?_
    refine j_iload_n (pc := 60) 1 C dX9_poem_60 rfl rfl ?_
    refine j_callI0 (pc := 61) C (rC_State_whoKnowAll_9 C dX9_poem_61 q_518 (by omega) (Nat.le_of_ble_eq_true rfl) ⟨Nat.le_of_ble_eq_true rfl, Nat.le_of_ble_eq_true rfl⟩) ⟨Nat.le_of_ble_eq_true rfl, Nat.le_of_ble_eq_true rfl⟩ (fun r4 T3 => ?_)
    exact j_iret C dX9_poem_64 rfl (Nat.le_of_ble_eq_true rfl) (Nat.le_of_ble_eq_true rfl)
  refine j_tswC (pc := 6) (off := 59) 65 3 C dX9_poem_6 (by decide) (by decide) (by decide) (by decide) ?_ (fun h6_3 => ?_)
  ·
    refine j_aload_n (pc := 65) 0 C dX9_poem_65 rfl rfl ?_
    refine gC_0_1 (pc := 66) C dX9_poem_66 q_148 ?_
    refine j_iload_n (pc := 69) 1 C dX9_poem_69 rfl rfl ?_
    refine j_callI0 (pc := 70) C (rC_Valley_debtsByPoem_2 C dX9_poem_70 q_522 (by omega) (Nat.le_of_ble_eq_true rfl) ⟨Nat.le_of_ble_eq_true rfl, Nat.le_of_ble_eq_true rfl⟩) ⟨Nat.le_of_ble_eq_true rfl, Nat.le_of_ble_eq_true rfl⟩ (fun r6 T5 => ?_)
    refine j_aload_n (pc := 73) 0 C dX9_poem_73 rfl rfl ?_
    refine gC_0_8 (pc := 74) C dX9_poem_74 q_171 ?_
    refine j_callI0 (pc := 77) C (rC_State_paidBits_9 C dX9_poem_77 q_475 (by omega) (Nat.le_of_ble_eq_true rfl) ⟨Nat.le_of_ble_eq_true rfl, Nat.le_of_ble_eq_true rfl⟩) ⟨Nat.le_of_ble_eq_true rfl, Nat.le_of_ble_eq_true rfl⟩ (fun r8 T7 => ?_)
    refine j_iconst (pc := 80) (-1) C dX9_poem_80 (by decide) ?_
    refine j_ixor (pc := 81) C dX9_poem_81 ?_
    refine j_iand (pc := 82) C dX9_poem_82 ?_
    exact j_iret C dX9_poem_83 rfl (Nat.le_of_ble_eq_true rfl) (Nat.le_of_ble_eq_true rfl)
  refine j_tswD (pc := 6) 84 C dX9_poem_6 (by have := ne_i (z := 0) h6_0 (by decide); have := ne_i (z := 1) h6_1 (by decide); have := ne_i (z := 2) h6_2 (by decide); have := ne_i (z := 3) h6_3 (by decide); omega) (by decide) ?_
  refine j_aload_n (pc := 84) 0 C dX9_poem_84 rfl rfl ?_
  refine j_callI (pc := 85) C (rC_Main_refuseArgument C dX9_poem_85 q_56 (by omega) (Nat.le_of_ble_eq_true rfl) ⟨Nat.le_of_ble_eq_true rfl, Nat.le_of_ble_eq_true rfl⟩) ⟨Nat.le_of_ble_eq_true rfl, Nat.le_of_ble_eq_true rfl⟩ (fun r10 T9 => ?_)
  exact j_iret C dX9_poem_88 rfl (Nat.le_of_ble_eq_true rfl) (Nat.le_of_ble_eq_true rfl)
theorem cC_Main_poem {l : Launch} {G : Gc} (hfl : l.stackTraces = false) (hW : Wok G wC 54)   (x1 : Int32) (x2 : Int32) (S : St) : Ct l yX9_poem (Cond.code yX9_poem cX9_poem 3 (some .int) :: tblG) 8 2 12 G wC 54 [.ref (gA G 0), .int x1, .int x2] S (fC_Main_poem x1 x2 S) := ct_of (own := RX9) hfl (by decide +kernel) rfl hW (Nat.le_of_ble_eq_true rfl) (fun E hE C => by subst hE; exact bC_Main_poem C   x1 x2 S)
theorem rC_Main_poem {E : Ec} {G : Gc} {nL mc ms : Nat} {own : String} {cc : ByteArray} {L : Nat} {ret : Option FieldType} {k n pc ix : Nat} {loc : List (Nat × Value)} {rest : List Value}  {x1 : Int32} {x2 : Int32} {S : St}  (C : JC E (VC G nL mc ms own) cc L ret) (hd : decode cc pc = .ok (.invokevirtual ix, 3)) (hq : Cond.methodLink own ix yX9_poem ∈ tblG) (hL : 8 + 1 ≤ L) (hW : (rest.map fun v => v.category).sum ≤ 8) (hf : k + 2 ≤ mc ∧ n + 12 ≤ ms) : Rn E (VC G nL mc ms own) k n 2 12 pc loc (.int x2 :: .int x1 :: .ref (gA G 0) :: rest) rest S (fC_Main_poem x1 x2 S) := rn_V (ci := 9) 0 (V := VC G nL mc ms own) (As := [.int x1, .int x2]) (Cq := (RX9, TX9, 15)) (cC_Main_poem C.flags C.wok  x1 x2 S) knX9_poem ⟨q_524, q_525⟩ rfl rfl C hd hq hL rfl rfl hW hf

theorem knX9_needMan : Kn yX9_needMan cX9_needMan 2 none 1 := ⟨q_526, q_40, by decide +kernel, by decide⟩
theorem bC_Main_needMan {E : Ec} {G : Gc}    (C : JC E (VC G 2 1 6 RX9) cX9_needMan 7 none)    (x1 : Int32) (S : St) : J E (VC G 2 1 6 RX9) 0 0 0 [(0, .ref (gA G 0)), (1, .int x1)] [] S (fC_Main_needMan  x1 S) := by
  unfold fC_Main_needMan
  refine j_aload_n (pc := 0) 0 C dX9_needMan_0 rfl rfl ?_
  refine j_iload_n (pc := 1) 1 C dX9_needMan_1 rfl rfl ?_
  refine j_aload_n (pc := 2) 0 C dX9_needMan_2 rfl rfl ?_
  refine gC_0_1 (pc := 3) C dX9_needMan_3 q_148 ?_
  refine gC_2_1 (pc := 6) C dX9_needMan_6 q_467 ?_
  refine j_callv (pc := 9) C (rC_Main_needElement C dX9_needMan_9 q_504 (by omega) (Nat.le_of_ble_eq_true rfl) ⟨Nat.le_of_ble_eq_true rfl, Nat.le_of_ble_eq_true rfl⟩) ⟨Nat.le_of_ble_eq_true rfl, Nat.le_of_ble_eq_true rfl⟩ (fun T1 => ?_)
  exact j_vret C dX9_needMan_12 rfl (Nat.le_of_ble_eq_true rfl) (Nat.le_of_ble_eq_true rfl)
theorem cC_Main_needMan {l : Launch} {G : Gc} (hfl : l.stackTraces = false) (hW : Wok G wC 54)   (x1 : Int32) (S : St) : Ct l yX9_needMan (Cond.code yX9_needMan cX9_needMan 2 none :: tblG) 7 1 6 G wC 54 [.ref (gA G 0), .int x1] S (fC_Main_needMan x1 S) := ct_of (own := RX9) hfl (by decide +kernel) rfl hW (Nat.le_of_ble_eq_true rfl) (fun E hE C => by subst hE; exact bC_Main_needMan C   x1 S)
theorem rC_Main_needMan {E : Ec} {G : Gc} {nL mc ms : Nat} {own : String} {cc : ByteArray} {L : Nat} {ret : Option FieldType} {k n pc ix : Nat} {loc : List (Nat × Value)} {rest : List Value}  {x1 : Int32} {S : St}  (C : JC E (VC G nL mc ms own) cc L ret) (hd : decode cc pc = .ok (.invokevirtual ix, 3)) (hq : Cond.methodLink own ix yX9_needMan ∈ tblG) (hL : 7 + 1 ≤ L) (hW : (rest.map fun v => v.category).sum ≤ 8) (hf : k + 1 ≤ mc ∧ n + 6 ≤ ms) : Rn E (VC G nL mc ms own) k n 1 6 pc loc (.int x1 :: .ref (gA G 0) :: rest) rest S (fC_Main_needMan x1 S) := rn_V (ci := 9) 0 (V := VC G nL mc ms own) (As := [.int x1]) (Cq := (RX9, TX9, 15)) (cC_Main_needMan C.flags C.wok  x1 S) knX9_needMan ⟨q_527, q_528⟩ rfl rfl C hd hq hL rfl rfl hW hf

