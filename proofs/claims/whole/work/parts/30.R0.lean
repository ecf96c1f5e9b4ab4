theorem knX10_feed : Kn yX10_feed cX10_feed 8 (some .int) 5 := ⟨q_814, q_815, by decide +kernel, by decide⟩
theorem bR_feed_76 {E : Ec} {G : Gc}   {K23 : Int32 → Int32 → Int32 → Int32 → Int32 → Int32 → St → Oz} (C : JC E (VR G 8 0 0 RX10) cX10_feed 1 (some .int))   (hK23 : ∀ (x1 : Int32) (x2 : Int32) (x3 : Int32) (x4 : Int32) (x5 : Int32) (x6 : Int32) (S : St), J E (VR G 8 0 0 RX10) 0 0 23 [(0, .ref (gA G 0)), (1, .int x1), (2, .int x2), (3, .int x3), (4, .int x4), (5, .int x5), (6, .int x6)] [] S (K23 x1 x2 x3 x4 x5 x6 S)) (x1 : Int32) (x2 : Int32) (x3 : Int32) (x4 : Int32) (x5 : Int32) (x6 : Int32) (s0 : Int32) (S : St) : J E (VR G 8 0 0 RX10) 0 0 76 [(0, .ref (gA G 0)), (1, .int x1), (2, .int x2), (3, .int x3), (4, .int x4), (5, .int x5), (6, .int x6)] [.int s0] S (fR_feed_76 K23 x1 x2 x3 x4 x5 x6 s0 S) := by
  unfold fR_feed_76
  refine j_istore (pc := 76) [(7, .int s0), (0, .ref (gA G 0)), (1, .int x1), (2, .int x2), (3, .int x3), (4, .int x4), (5, .int x5), (6, .int x6)] C dX10_feed_76 (Nat.le_of_ble_eq_true rfl) rfl ?_
  refine j_aload_n (pc := 78) 1 C dX10_feed_78 rfl rfl ?_
  refine gR_0_9 (pc := 79) C dX10_feed_79 q_813 ?_
  refine j_aload_n (pc := 82) 1 C dX10_feed_82 rfl rfl ?_
  refine gR_0_2 (pc := 83) C dX10_feed_83 q_812 ?_
  refine j_iload (pc := 86) 0 C dX10_feed_86 rfl ?_
  refine j_bipush (pc := 88) 24 C dX10_feed_88 (by decide) ?_
  refine j_bipush (pc := 90) 8 C dX10_feed_90 (by decide) ?_
  refine j_iload (pc := 92) 7 C dX10_feed_92 rfl ?_
  refine j_iconst (pc := 94) 4 C dX10_feed_94 (by decide) ?_
  refine j_iremc (pc := 95) C dX10_feed_95 rfl ?_
  refine j_imul (pc := 96) C dX10_feed_96 ?_
  refine j_isub (pc := 97) C dX10_feed_97 ?_
  refine j_ishr (pc := 98) C dX10_feed_98 ?_
  refine j_sipush (pc := 99) 255 C dX10_feed_99 (by decide) ?_
  refine j_iand (pc := 102) C dX10_feed_102 ?_
  refine sR_2 (pc := 103) C dX10_feed_103 ?_
  refine j_nxS (fun T1 => ?_)
  refine j_aload_n (pc := 104) 1 C dX10_feed_104 rfl rfl ?_
  refine j_dup (pc := 105) C dX10_feed_105 rfl ?_
  refine gR_0_2 (pc := 106) C dX10_feed_106 q_812 ?_
  refine j_iconst (pc := 109) 1 C dX10_feed_109 (by decide) ?_
  refine j_iadd (pc := 110) C dX10_feed_110 ?_
  refine pR_0_2 (pc := 111) C dX10_feed_111 q_812 ?_
  refine j_nxS (fun T2 => ?_)
  refine j_iinc (pc := 114) 7 (x6 + 1) [(6, .int (x6 + 1)), (7, .int s0), (0, .ref (gA G 0)), (1, .int x1), (2, .int x2), (3, .int x3), (4, .int x4), (5, .int x5)] C dX10_feed_114 rfl rfl (Nat.le_of_ble_eq_true rfl) rfl ?_
  refine j_goto (pc := 117) 23 C dX10_feed_117 (by decide) ?_
  refine j_sub [2, 3, 4, 5, 6, 7, 0] rfl ?_
  exact hK23 x1 x2 x3 x4 x5 (x6 + 1) T2
theorem bR_feed_23 {E : Ec} {G : Gc}    (C : JC E (VR G 8 0 0 RX10) cX10_feed 1 (some .int))    : ∀ (n : Nat) (x1 : Int32) (x2 : Int32) (x3 : Int32) (x4 : Int32) (x5 : Int32) (x6 : Int32) (S : St), J E (VR G 8 0 0 RX10) 0 0 23 [(0, .ref (gA G 0)), (1, .int x1), (2, .int x2), (3, .int x3), (4, .int x4), (5, .int x5), (6, .int x6)] [] S (fR_feed_23  n x1 x2 x3 x4 x5 x6 S) := by
  intro n
  induction n with
  | zero => intro x1 x2 x3 x4 x5 x6 S; rw [fR_feed_23]; exact j_none
  | succ n ih =>
    intro x1 x2 x3 x4 x5 x6 S
    rw [fR_feed_23]
    refine j_iload (pc := 23) 6 C dX10_feed_23 rfl ?_
    refine j_bipush (pc := 25) 20 C dX10_feed_25 (by decide) ?_
    refine j_icmp_ge (pc := 27) 120 C dX10_feed_27 (by decide) ?_ ?_
    ·
      refine j_aload_n (pc := 120) 0 C dX10_feed_120 rfl rfl ?_
      refine gR_0_2 (pc := 121) C dX10_feed_121 q_812 ?_
      exact j_iret C dX10_feed_124 rfl (Nat.le_of_ble_eq_true rfl) (Nat.le_of_ble_eq_true rfl)
    ·
      refine j_iload (pc := 30) 6 C dX10_feed_30 rfl ?_
      refine j_iconst (pc := 32) 4 C dX10_feed_32 (by decide) ?_
      refine j_icmp_ge (pc := 33) 40 C dX10_feed_33 (by decide) ?_ ?_
      ·
        refine j_iload (pc := 40) 6 C dX10_feed_40 rfl ?_
        refine j_bipush (pc := 42) 8 C dX10_feed_42 (by decide) ?_
        refine j_icmp_ge (pc := 44) 51 C dX10_feed_44 (by decide) ?_ ?_
        ·
          refine j_iload (pc := 51) 6 C dX10_feed_51 rfl ?_
          refine j_bipush (pc := 53) 12 C dX10_feed_53 (by decide) ?_
          refine j_icmp_ge (pc := 55) 62 C dX10_feed_55 (by decide) ?_ ?_
          ·
            refine j_iload (pc := 62) 6 C dX10_feed_62 rfl ?_
            refine j_bipush (pc := 64) 16 C dX10_feed_64 (by decide) ?_
            refine j_icmp_ge (pc := 66) 74 C dX10_feed_66 (by decide) ?_ ?_
            ·
              refine j_iload (pc := 74) 5 C dX10_feed_74 rfl ?_
              exact bR_feed_76 C ih x1 x2 x3 x4 x5 x6 x5 S
            ·
              refine j_iload (pc := 69) 4 C dX10_feed_69 rfl ?_
              refine j_goto (pc := 71) 76 C dX10_feed_71 (by decide) ?_
              exact bR_feed_76 C ih x1 x2 x3 x4 x5 x6 x4 S
          ·
            refine j_iload_n (pc := 58) 3 C dX10_feed_58 rfl rfl ?_
            refine j_goto (pc := 59) 76 C dX10_feed_59 (by decide) ?_
            exact bR_feed_76 C ih x1 x2 x3 x4 x5 x6 x3 S
        ·
          refine j_iload_n (pc := 47) 2 C dX10_feed_47 rfl rfl ?_
          refine j_goto (pc := 48) 76 C dX10_feed_48 (by decide) ?_
          exact bR_feed_76 C ih x1 x2 x3 x4 x5 x6 x2 S
      ·
        refine j_iload_n (pc := 36) 1 C dX10_feed_36 rfl rfl ?_
        refine j_goto (pc := 37) 76 C dX10_feed_37 (by decide) ?_
        exact bR_feed_76 C ih x1 x2 x3 x4 x5 x6 x1 S
theorem bR_feed {E : Ec} {G : Gc}    (C : JC E (VR G 8 0 0 RX10) cX10_feed 1 (some .int))    (x1 : Int32) (x2 : Int32) (x3 : Int32) (x4 : Int32) (x5 : Int32) (S : St) : J E (VR G 8 0 0 RX10) 0 0 0 [(0, .ref (gA G 0)), (1, .int x1), (2, .int x2), (3, .int x3), (4, .int x4), (5, .int x5)] [] S (fR_feed  x1 x2 x3 x4 x5 S) := by
  unfold fR_feed
  refine j_aload_n (pc := 0) 0 C dX10_feed_0 rfl rfl ?_
  refine j_iconst (pc := 1) 0 C dX10_feed_1 (by decide) ?_
  refine pR_0_0 (pc := 2) C dX10_feed_2 q_811 ?_
  refine j_nxS (fun T1 => ?_)
  refine j_aload_n (pc := 5) 0 C dX10_feed_5 rfl rfl ?_
  refine gR_0_2 (pc := 6) C dX10_feed_6 q_812 ?_
  refine j_bipush (pc := 9) 20 C dX10_feed_9 (by decide) ?_
  refine j_iadd (pc := 11) C dX10_feed_11 ?_
  refine j_sipush (pc := 12) 600 C dX10_feed_12 (by decide) ?_
  refine j_icmp_le (pc := 15) 20 C dX10_feed_15 (by decide) ?_ ?_
  ·
    refine j_iconst (pc := 20) 0 C dX10_feed_20 (by decide) ?_
    refine j_istore (pc := 21) [(6, .int 0), (0, .ref (gA G 0)), (1, .int x1), (2, .int x2), (3, .int x3), (4, .int x4), (5, .int x5)] C dX10_feed_21 (Nat.le_of_ble_eq_true rfl) rfl ?_
    refine j_sub [1, 2, 3, 4, 5, 6, 0] rfl ?_
    exact bR_feed_23 C  FU x1 x2 x3 x4 x5 0 T1
  ·
    refine j_iconst (pc := 18) (-1) C dX10_feed_18 (by decide) ?_
    exact j_iret C dX10_feed_19 rfl (Nat.le_of_ble_eq_true rfl) (Nat.le_of_ble_eq_true rfl)
theorem cR_feed {l : Launch} {G : Gc} (hfl : l.stackTraces = false) (hW : Wok G wR 26)   (x1 : Int32) (x2 : Int32) (x3 : Int32) (x4 : Int32) (x5 : Int32) (S : St) : Ct l yX10_feed (Cond.code yX10_feed cX10_feed 8 (some .int) :: tblG) 1 0 0 G wR 26 [.ref (gA G 0), .int x1, .int x2, .int x3, .int x4, .int x5] S (fR_feed x1 x2 x3 x4 x5 S) := ct_of (own := RX10) hfl (by decide +kernel) rfl hW (Nat.le_of_ble_eq_true rfl) (fun E hE C => by subst hE; exact bR_feed C   x1 x2 x3 x4 x5 S)
theorem rR_feed {E : Ec} {G : Gc} {nL mc ms : Nat} {own : String} {cc : ByteArray} {L : Nat} {ret : Option FieldType} {k n pc ix : Nat} {loc : List (Nat × Value)} {rest : List Value}  {x1 : Int32} {x2 : Int32} {x3 : Int32} {x4 : Int32} {x5 : Int32} {S : St}  (C : JC E (VR G nL mc ms own) cc L ret) (hd : decode cc pc = .ok (.invokevirtual ix, 3)) (hq : Cond.methodLink own ix yX10_feed ∈ tblG) (hL : 1 + 1 ≤ L) (hW : (rest.map fun v => v.category).sum ≤ 8) (hf : k + 0 ≤ mc ∧ n + 0 ≤ ms) : Rn E (VR G nL mc ms own) k n 0 0 pc loc (.int x5 :: .int x4 :: .int x3 :: .int x2 :: .int x1 :: .ref (gA G 0) :: rest) rest S (fR_feed x1 x2 x3 x4 x5 S) := rn_V (ci := 10) 0 (V := VR G nL mc ms own) (As := [.int x1, .int x2, .int x3, .int x4, .int x5]) (Cq := (RX10, TX10, 53)) (cR_feed C.flags C.wok  x1 x2 x3 x4 x5 S) knX10_feed ⟨q_816, q_817⟩ rfl rfl C hd hq hL rfl rfl hW hf

theorem knX10_may : Kn yX10_may cX10_may 4 (some .boolean) 3 := ⟨q_819, q_815, by decide +kernel, by decide⟩
theorem bR_may_26 {E : Ec} {G : Gc}    (C : JC E (VR G 4 0 0 RX10) cX10_may 1 (some .boolean))     (S : St) : J E (VR G 4 0 0 RX10) 0 0 26 [(0, .ref (gA G 0))] [] S (fR_may_26   S) := by
  unfold fR_may_26
  refine j_aload_n (pc := 26) 0 C dX10_may_26 rfl rfl ?_
  refine gR_0_0 (pc := 27) C dX10_may_27 q_811 ?_
  refine j_if_ne (pc := 30) 37 C dX10_may_30 (by decide) ?_ ?_
  ·
    refine j_iconst (pc := 37) 0 C dX10_may_37 (by decide) ?_
    exact j_zretc C dX10_may_38 rfl (Nat.le_of_ble_eq_true rfl) (Nat.le_of_ble_eq_true rfl) rfl
  ·
    refine j_iconst (pc := 33) 1 C dX10_may_33 (by decide) ?_
    refine j_goto (pc := 34) 38 C dX10_may_34 (by decide) ?_
    exact j_zretc C dX10_may_38 rfl (Nat.le_of_ble_eq_true rfl) (Nat.le_of_ble_eq_true rfl) rfl
theorem bR_may {E : Ec} {G : Gc}    (C : JC E (VR G 4 0 0 RX10) cX10_may 1 (some .boolean))    (x1 : Int32) (x2 : Int32) (x3 : Int32) (S : St) : J E (VR G 4 0 0 RX10) 0 0 0 [(0, .ref (gA G 0)), (1, .int x1), (2, .int x2), (3, .int x3)] [] S (fR_may  x1 x2 x3 S) := by
  unfold fR_may
  refine j_iload_n (pc := 0) 1 C dX10_may_0 rfl rfl ?_
  refine j_if_ne (pc := 1) 26 C dX10_may_1 (by decide) ?_ ?_
  ·
    refine j_sub [0] rfl ?_
    exact bR_may_26 C   S
  ·
    refine j_aload_n (pc := 4) 0 C dX10_may_4 rfl rfl ?_
    refine gR_0_0 (pc := 5) C dX10_may_5 q_811 ?_
    refine j_if_ne (pc := 8) 26 C dX10_may_8 (by decide) ?_ ?_
    ·
      refine j_sub [0] rfl ?_
      exact bR_may_26 C   S
    ·
      refine j_aload_n (pc := 11) 0 C dX10_may_11 rfl rfl ?_
      refine j_iload_n (pc := 12) 2 C dX10_may_12 rfl rfl ?_
      refine pR_0_0 (pc := 13) C dX10_may_13 q_811 ?_
      refine j_nxS (fun T1 => ?_)
      refine j_aload_n (pc := 16) 0 C dX10_may_16 rfl rfl ?_
      refine gR_0_1 (pc := 17) C dX10_may_17 q_818 ?_
      refine j_iload_n (pc := 20) 3 C dX10_may_20 rfl rfl ?_
      refine j_dup2 (pc := 21) C dX10_may_21 rfl rfl ?_
      refine aR_1 (pc := 22) C dX10_may_22 ?_
      refine j_iconst (pc := 23) 1 C dX10_may_23 (by decide) ?_
      refine j_iadd (pc := 24) C dX10_may_24 ?_
      refine sR_1 (pc := 25) C dX10_may_25 ?_
      refine j_nxS (fun T2 => ?_)
      refine j_sub [0] rfl ?_
      exact bR_may_26 C   T2
theorem cR_may {l : Launch} {G : Gc} (hfl : l.stackTraces = false) (hW : Wok G wR 26)   (x1 : Int32) (x2 : Int32) (x3 : Int32) (S : St) : Ct l yX10_may (Cond.code yX10_may cX10_may 4 (some .boolean) :: tblG) 1 0 0 G wR 26 [.ref (gA G 0), .int x1, .int x2, .int x3] S (fR_may x1 x2 x3 S) := ct_of (own := RX10) hfl (by decide +kernel) rfl hW (Nat.le_of_ble_eq_true rfl) (fun E hE C => by subst hE; exact bR_may C   x1 x2 x3 S)
theorem rR_may {E : Ec} {G : Gc} {nL mc ms : Nat} {own : String} {cc : ByteArray} {L : Nat} {ret : Option FieldType} {k n pc ix : Nat} {loc : List (Nat × Value)} {rest : List Value}  {x1 : Int32} {x2 : Int32} {x3 : Int32} {S : St}  (C : JC E (VR G nL mc ms own) cc L ret) (hd : decode cc pc = .ok (.invokevirtual ix, 3)) (hq : Cond.methodLink own ix yX10_may ∈ tblG) (hL : 1 + 1 ≤ L) (hW : (rest.map fun v => v.category).sum ≤ 8) (hf : k + 0 ≤ mc ∧ n + 0 ≤ ms) : Rn E (VR G nL mc ms own) k n 0 0 pc loc (.int x3 :: .int x2 :: .int x1 :: .ref (gA G 0) :: rest) rest S (fR_may x1 x2 x3 S) := rn_V (ci := 10) 0 (V := VR G nL mc ms own) (As := [.int x1, .int x2, .int x3]) (Cq := (RX10, TX10, 53)) (cR_may C.flags C.wok  x1 x2 x3 S) knX10_may ⟨q_820, q_821⟩ rfl rfl C hd hq hL rfl rfl hW hf

theorem knX10_begins : Kn yX10_begins cX10_begins 2 none 1 := ⟨q_828, q_815, by decide +kernel, by decide⟩
theorem bR_begins {E : Ec} {G : Gc}    (C : JC E (VR G 2 0 0 RX10) cX10_begins 1 none)    (x1 : Int32) (S : St) : J E (VR G 2 0 0 RX10) 0 0 0 [(0, .ref (gA G 0)), (1, .int x1)] [] S (fR_begins  x1 S) := by
  unfold fR_begins
  refine j_aload_n (pc := 0) 0 C dX10_begins_0 rfl rfl ?_
  refine j_iconst (pc := 1) 0 C dX10_begins_1 (by decide) ?_
  refine pR_0_2 (pc := 2) C dX10_begins_2 q_812 ?_
  refine j_nxS (fun T1 => ?_)
  refine j_aload_n (pc := 5) 0 C dX10_begins_5 rfl rfl ?_
  refine j_iconst (pc := 6) (-1) C dX10_begins_6 (by decide) ?_
  refine pR_0_8 (pc := 7) C dX10_begins_7 q_823 ?_
  refine j_nxS (fun T2 => ?_)
  refine j_aload_n (pc := 10) 0 C dX10_begins_10 rfl rfl ?_
  refine j_iload_n (pc := 11) 1 C dX10_begins_11 rfl rfl ?_
  refine pR_0_3 (pc := 12) C dX10_begins_12 q_824 ?_
  refine j_nxS (fun T3 => ?_)
  refine j_aload_n (pc := 15) 0 C dX10_begins_15 rfl rfl ?_
  refine j_iconst (pc := 16) 0 C dX10_begins_16 (by decide) ?_
  refine pR_0_4 (pc := 17) C dX10_begins_17 q_825 ?_
  refine j_nxS (fun T4 => ?_)
  refine j_aload_n (pc := 20) 0 C dX10_begins_20 rfl rfl ?_
  refine j_iconst (pc := 21) (-1) C dX10_begins_21 (by decide) ?_
  refine pR_0_5 (pc := 22) C dX10_begins_22 q_826 ?_
  refine j_nxS (fun T5 => ?_)
  refine j_aload_n (pc := 25) 0 C dX10_begins_25 rfl rfl ?_
  refine j_iconst (pc := 26) 0 C dX10_begins_26 (by decide) ?_
  refine pR_0_7 (pc := 27) C dX10_begins_27 q_827 ?_
  refine j_nxS (fun T6 => ?_)
  exact j_vret C dX10_begins_30 rfl (Nat.le_of_ble_eq_true rfl) (Nat.le_of_ble_eq_true rfl)
theorem cR_begins {l : Launch} {G : Gc} (hfl : l.stackTraces = false) (hW : Wok G wR 26)   (x1 : Int32) (S : St) : Ct l yX10_begins (Cond.code yX10_begins cX10_begins 2 none :: tblG) 1 0 0 G wR 26 [.ref (gA G 0), .int x1] S (fR_begins x1 S) := ct_of (own := RX10) hfl (by decide +kernel) rfl hW (Nat.le_of_ble_eq_true rfl) (fun E hE C => by subst hE; exact bR_begins C   x1 S)
theorem rR_begins {E : Ec} {G : Gc} {nL mc ms : Nat} {own : String} {cc : ByteArray} {L : Nat} {ret : Option FieldType} {k n pc ix : Nat} {loc : List (Nat × Value)} {rest : List Value}  {x1 : Int32} {S : St}  (C : JC E (VR G nL mc ms own) cc L ret) (hd : decode cc pc = .ok (.invokevirtual ix, 3)) (hq : Cond.methodLink own ix yX10_begins ∈ tblG) (hL : 1 + 1 ≤ L) (hW : (rest.map fun v => v.category).sum ≤ 8) (hf : k + 0 ≤ mc ∧ n + 0 ≤ ms) : Rn E (VR G nL mc ms own) k n 0 0 pc loc (.int x1 :: .ref (gA G 0) :: rest) rest S (fR_begins x1 S) := rn_V (ci := 10) 0 (V := VR G nL mc ms own) (As := [.int x1]) (Cq := (RX10, TX10, 53)) (cR_begins C.flags C.wok  x1 S) knX10_begins ⟨q_829, q_830⟩ rfl rfl C hd hq hL rfl rfl hW hf

theorem knX10_clears : Kn yX10_clears cX10_clears 1 none 0 := ⟨q_836, q_815, by decide +kernel, by decide⟩
theorem bR_clears {E : Ec} {G : Gc}    (C : JC E (VR G 1 0 0 RX10) cX10_clears 1 none)     (S : St) : J E (VR G 1 0 0 RX10) 0 0 0 [(0, .ref (gA G 0))] [] S (fR_clears   S) := by
  unfold fR_clears
  refine j_aload_n (pc := 0) 0 C dX10_clears_0 rfl rfl ?_
  refine j_iconst (pc := 1) 0 C dX10_clears_1 (by decide) ?_
  refine pR_0_16 (pc := 2) C dX10_clears_2 q_832 ?_
  refine j_nxS (fun T1 => ?_)
  refine j_aload_n (pc := 5) 0 C dX10_clears_5 rfl rfl ?_
  refine j_iconst (pc := 6) 0 C dX10_clears_6 (by decide) ?_
  refine pR_0_17 (pc := 7) C dX10_clears_7 q_833 ?_
  refine j_nxS (fun T2 => ?_)
  refine j_aload_n (pc := 10) 0 C dX10_clears_10 rfl rfl ?_
  refine j_iconst (pc := 11) 0 C dX10_clears_11 (by decide) ?_
  refine pR_0_18 (pc := 12) C dX10_clears_12 q_834 ?_
  refine j_nxS (fun T3 => ?_)
  refine j_aload_n (pc := 15) 0 C dX10_clears_15 rfl rfl ?_
  refine j_iconst (pc := 16) 3 C dX10_clears_16 (by decide) ?_
  refine pR_0_19 (pc := 17) C dX10_clears_17 q_835 ?_
  refine j_nxS (fun T4 => ?_)
  exact j_vret C dX10_clears_20 rfl (Nat.le_of_ble_eq_true rfl) (Nat.le_of_ble_eq_true rfl)
theorem cR_clears {l : Launch} {G : Gc} (hfl : l.stackTraces = false) (hW : Wok G wR 26)    (S : St) : Ct l yX10_clears (Cond.code yX10_clears cX10_clears 1 none :: tblG) 1 0 0 G wR 26 [.ref (gA G 0)] S (fR_clears  S) := ct_of (own := RX10) hfl (by decide +kernel) rfl hW (Nat.le_of_ble_eq_true rfl) (fun E hE C => by subst hE; exact bR_clears C    S)
theorem rR_clears {E : Ec} {G : Gc} {nL mc ms : Nat} {own : String} {cc : ByteArray} {L : Nat} {ret : Option FieldType} {k n pc ix : Nat} {loc : List (Nat × Value)} {rest : List Value}   {S : St}  (C : JC E (VR G nL mc ms own) cc L ret) (hd : decode cc pc = .ok (.invokevirtual ix, 3)) (hq : Cond.methodLink own ix yX10_clears ∈ tblG) (hL : 1 + 1 ≤ L) (hW : (rest.map fun v => v.category).sum ≤ 8) (hf : k + 0 ≤ mc ∧ n + 0 ≤ ms) : Rn E (VR G nL mc ms own) k n 0 0 pc loc (.ref (gA G 0) :: rest) rest S (fR_clears  S) := rn_V (ci := 10) 0 (V := VR G nL mc ms own) (As := []) (Cq := (RX10, TX10, 53)) (cR_clears C.flags C.wok   S) knX10_clears ⟨q_837, q_838⟩ rfl rfl C hd hq hL rfl rfl hW hf

theorem knX10_fine : Kn yX10_fine cX10_fine 1 (some .boolean) 0 := ⟨q_840, q_815, by decide +kernel, by decide⟩
theorem bR_fine {E : Ec} {G : Gc}    (C : JC E (VR G 1 0 0 RX10) cX10_fine 1 (some .boolean))     (S : St) : J E (VR G 1 0 0 RX10) 0 0 0 [(0, .ref (gA G 0))] [] S (fR_fine   S) := by
  unfold fR_fine
  refine j_aload_n (pc := 0) 0 C dX10_fine_0 rfl rfl ?_
  refine gR_0_5 (pc := 1) C dX10_fine_1 q_826 ?_
  refine j_iconst (pc := 4) (-1) C dX10_fine_4 (by decide) ?_
  refine j_icmp_ne (pc := 5) 12 C dX10_fine_5 (by decide) ?_ ?_
  ·
    refine j_iconst (pc := 12) 0 C dX10_fine_12 (by decide) ?_
    exact j_zretc C dX10_fine_13 rfl (Nat.le_of_ble_eq_true rfl) (Nat.le_of_ble_eq_true rfl) rfl
  ·
    refine j_iconst (pc := 8) 1 C dX10_fine_8 (by decide) ?_
    refine j_goto (pc := 9) 13 C dX10_fine_9 (by decide) ?_
    exact j_zretc C dX10_fine_13 rfl (Nat.le_of_ble_eq_true rfl) (Nat.le_of_ble_eq_true rfl) rfl
theorem cR_fine {l : Launch} {G : Gc} (hfl : l.stackTraces = false) (hW : Wok G wR 26)    (S : St) : Ct l yX10_fine (Cond.code yX10_fine cX10_fine 1 (some .boolean) :: tblG) 1 0 0 G wR 26 [.ref (gA G 0)] S (fR_fine  S) := ct_of (own := RX10) hfl (by decide +kernel) rfl hW (Nat.le_of_ble_eq_true rfl) (fun E hE C => by subst hE; exact bR_fine C    S)
theorem rR_fine {E : Ec} {G : Gc} {nL mc ms : Nat} {own : String} {cc : ByteArray} {L : Nat} {ret : Option FieldType} {k n pc ix : Nat} {loc : List (Nat × Value)} {rest : List Value}   {S : St}  (C : JC E (VR G nL mc ms own) cc L ret) (hd : decode cc pc = .ok (.invokevirtual ix, 3)) (hq : Cond.methodLink own ix yX10_fine ∈ tblG) (hL : 1 + 1 ≤ L) (hW : (rest.map fun v => v.category).sum ≤ 8) (hf : k + 0 ≤ mc ∧ n + 0 ≤ ms) : Rn E (VR G nL mc ms own) k n 0 0 pc loc (.ref (gA G 0) :: rest) rest S (fR_fine  S) := rn_V (ci := 10) 0 (V := VR G nL mc ms own) (As := []) (Cq := (RX10, TX10, 53)) (cR_fine C.flags C.wok   S) knX10_fine ⟨q_841, q_842⟩ rfl rfl C hd hq hL rfl rfl hW hf

theorem knX10_here : Kn yX10_here cX10_here 1 (some .int) 0 := ⟨q_844, q_815, by decide +kernel, by decide⟩
theorem bR_here_38 {E : Ec} {G : Gc}    (C : JC E (VR G 1 0 0 RX10) cX10_here 1 (some .int))     (S : St) : J E (VR G 1 0 0 RX10) 0 0 38 [(0, .ref (gA G 0))] [] S (fR_here_38   S) := by
  unfold fR_here_38
  refine j_aload_n (pc := 38) 0 C dX10_here_38 rfl rfl ?_
  refine gR_0_4 (pc := 39) C dX10_here_39 q_825 ?_
  refine j_aload_n (pc := 42) 0 C dX10_here_42 rfl rfl ?_
  refine gR_0_3 (pc := 43) C dX10_here_43 q_824 ?_
  refine j_icmp_ge (pc := 46) 61 C dX10_here_46 (by decide) ?_ ?_
  ·
    refine j_iconst (pc := 61) 0 C dX10_here_61 (by decide) ?_
    exact j_iret C dX10_here_62 rfl (Nat.le_of_ble_eq_true rfl) (Nat.le_of_ble_eq_true rfl)
  ·
    refine j_aload_n (pc := 49) 0 C dX10_here_49 rfl rfl ?_
    refine gR_0_9 (pc := 50) C dX10_here_50 q_813 ?_
    refine j_aload_n (pc := 53) 0 C dX10_here_53 rfl rfl ?_
    refine gR_0_4 (pc := 54) C dX10_here_54 q_825 ?_
    refine aR_2 (pc := 57) C dX10_here_57 ?_
    refine j_goto (pc := 58) 62 C dX10_here_58 (by decide) ?_
    exact j_iret C dX10_here_62 rfl (Nat.le_of_ble_eq_true rfl) (Nat.le_of_ble_eq_true rfl)
theorem bR_here_0 {E : Ec} {G : Gc}    (C : JC E (VR G 1 0 0 RX10) cX10_here 1 (some .int))    : ∀ (n : Nat)  (S : St), J E (VR G 1 0 0 RX10) 0 0 0 [(0, .ref (gA G 0))] [] S (fR_here_0  n  S) := by
  intro n
  induction n with
  | zero => intro  S; rw [fR_here_0]; exact j_none
  | succ n ih =>
    intro  S
    rw [fR_here_0]
    refine j_aload_n (pc := 0) 0 C dX10_here_0 rfl rfl ?_
    refine gR_0_4 (pc := 1) C dX10_here_1 q_825 ?_
    refine j_aload_n (pc := 4) 0 C dX10_here_4 rfl rfl ?_
    refine gR_0_3 (pc := 5) C dX10_here_5 q_824 ?_
    refine j_icmp_ge (pc := 8) 38 C dX10_here_8 (by decide) ?_ ?_
    ·
      exact bR_here_38 C   S
    ·
      refine j_aload_n (pc := 11) 0 C dX10_here_11 rfl rfl ?_
      refine gR_0_9 (pc := 12) C dX10_here_12 q_813 ?_
      refine j_aload_n (pc := 15) 0 C dX10_here_15 rfl rfl ?_
      refine gR_0_4 (pc := 16) C dX10_here_16 q_825 ?_
      refine aR_2 (pc := 19) C dX10_here_19 ?_
      refine j_bipush (pc := 20) 32 C dX10_here_20 (by decide) ?_
      refine j_icmp_ne (pc := 22) 38 C dX10_here_22 (by decide) ?_ ?_
      ·
        exact bR_here_38 C   S
      ·
        refine j_aload_n (pc := 25) 0 C dX10_here_25 rfl rfl ?_
        refine j_dup (pc := 26) C dX10_here_26 rfl ?_
        refine gR_0_4 (pc := 27) C dX10_here_27 q_825 ?_
        refine j_iconst (pc := 30) 1 C dX10_here_30 (by decide) ?_
        refine j_iadd (pc := 31) C dX10_here_31 ?_
        refine pR_0_4 (pc := 32) C dX10_here_32 q_825 ?_
        refine j_nxS (fun T1 => ?_)
        refine j_goto (pc := 35) 0 C dX10_here_35 (by decide) ?_
        exact ih  T1
theorem cR_here {l : Launch} {G : Gc} (hfl : l.stackTraces = false) (hW : Wok G wR 26)    (S : St) : Ct l yX10_here (Cond.code yX10_here cX10_here 1 (some .int) :: tblG) 1 0 0 G wR 26 [.ref (gA G 0)] S (fR_here  S) := ct_of (own := RX10) hfl (by decide +kernel) rfl hW (Nat.le_of_ble_eq_true rfl) (fun E hE C => by subst hE; exact bR_here_0 C  FU  S)
theorem rR_here {E : Ec} {G : Gc} {nL mc ms : Nat} {own : String} {cc : ByteArray} {L : Nat} {ret : Option FieldType} {k n pc ix : Nat} {loc : List (Nat × Value)} {rest : List Value}   {S : St}  (C : JC E (VR G nL mc ms own) cc L ret) (hd : decode cc pc = .ok (.invokevirtual ix, 3)) (hq : Cond.methodLink own ix yX10_here ∈ tblG) (hL : 1 + 1 ≤ L) (hW : (rest.map fun v => v.category).sum ≤ 8) (hf : k + 0 ≤ mc ∧ n + 0 ≤ ms) : Rn E (VR G nL mc ms own) k n 0 0 pc loc (.ref (gA G 0) :: rest) rest S (fR_here  S) := rn_V (ci := 10) 0 (V := VR G nL mc ms own) (As := []) (Cq := (RX10, TX10, 53)) (cR_here C.flags C.wok   S) knX10_here ⟨q_845, q_846⟩ rfl rfl C hd hq hL rfl rfl hW hf

theorem knX10_isMore : Kn yX10_isMore cX10_isMore 1 (some .boolean) 0 := ⟨q_848, q_815, by decide +kernel, by decide⟩
theorem bR_isMore {E : Ec} {G : Gc}    (C : JC E (VR G 1 0 0 RX10) cX10_isMore 2 (some .boolean))     (S : St) : J E (VR G 1 0 0 RX10) 0 0 0 [(0, .ref (gA G 0))] [] S (fR_isMore   S) := by
  unfold fR_isMore
  refine j_aload_n (pc := 0) 0 C dX10_isMore_0 rfl rfl ?_
  refine j_callI0 (pc := 1) C (rR_here C dX10_isMore_1 q_847 (by omega) (Nat.le_of_ble_eq_true rfl) ⟨Nat.le_of_ble_eq_true rfl, Nat.le_of_ble_eq_true rfl⟩) ⟨Nat.le_of_ble_eq_true rfl, Nat.le_of_ble_eq_true rfl⟩ (fun r2 T1 => ?_)
  refine j_pop (pc := 4) C dX10_isMore_4 rfl ?_
  refine j_aload_n (pc := 5) 0 C dX10_isMore_5 rfl rfl ?_
  refine gR_0_4 (pc := 6) C dX10_isMore_6 q_825 ?_
  refine j_aload_n (pc := 9) 0 C dX10_isMore_9 rfl rfl ?_
  refine gR_0_3 (pc := 10) C dX10_isMore_10 q_824 ?_
  refine j_icmp_ge (pc := 13) 20 C dX10_isMore_13 (by decide) ?_ ?_
  ·
    refine j_iconst (pc := 20) 0 C dX10_isMore_20 (by decide) ?_
    exact j_zretc C dX10_isMore_21 rfl (Nat.le_of_ble_eq_true rfl) (Nat.le_of_ble_eq_true rfl) rfl
  ·
    refine j_iconst (pc := 16) 1 C dX10_isMore_16 (by decide) ?_
    refine j_goto (pc := 17) 21 C dX10_isMore_17 (by decide) ?_
    exact j_zretc C dX10_isMore_21 rfl (Nat.le_of_ble_eq_true rfl) (Nat.le_of_ble_eq_true rfl) rfl
theorem cR_isMore {l : Launch} {G : Gc} (hfl : l.stackTraces = false) (hW : Wok G wR 26)    (S : St) : Ct l yX10_isMore (Cond.code yX10_isMore cX10_isMore 1 (some .boolean) :: tblG) 2 0 0 G wR 26 [.ref (gA G 0)] S (fR_isMore  S) := ct_of (own := RX10) hfl (by decide +kernel) rfl hW (Nat.le_of_ble_eq_true rfl) (fun E hE C => by subst hE; exact bR_isMore C    S)
theorem rR_isMore {E : Ec} {G : Gc} {nL mc ms : Nat} {own : String} {cc : ByteArray} {L : Nat} {ret : Option FieldType} {k n pc ix : Nat} {loc : List (Nat × Value)} {rest : List Value}   {S : St}  (C : JC E (VR G nL mc ms own) cc L ret) (hd : decode cc pc = .ok (.invokevirtual ix, 3)) (hq : Cond.methodLink own ix yX10_isMore ∈ tblG) (hL : 2 + 1 ≤ L) (hW : (rest.map fun v => v.category).sum ≤ 8) (hf : k + 0 ≤ mc ∧ n + 0 ≤ ms) : Rn E (VR G nL mc ms own) k n 0 0 pc loc (.ref (gA G 0) :: rest) rest S (fR_isMore  S) := rn_V (ci := 10) 0 (V := VR G nL mc ms own) (As := []) (Cq := (RX10, TX10, 53)) (cR_isMore C.flags C.wok   S) knX10_isMore ⟨q_849, q_850⟩ rfl rfl C hd hq hL rfl rfl hW hf

theorem knX10_isSmall : Kn yX10_isSmall cX10_isSmall 1 (some .boolean) 1 := ⟨q_852, q_815, by decide +kernel, by decide⟩
theorem bR_isSmall {E : Ec} {G : Gc}    (C : JC E (VR G 1 0 0 RX10) cX10_isSmall 1 (some .boolean))    (x0 : Int32) (S : St) : J E (VR G 1 0 0 RX10) 0 0 0 [(0, .int x0)] [] S (fR_isSmall  x0 S) := by
  unfold fR_isSmall
  refine j_iload_n (pc := 0) 0 C dX10_isSmall_0 rfl rfl ?_
  refine j_bipush (pc := 1) 97 C dX10_isSmall_1 (by decide) ?_
  refine j_icmp_lt (pc := 3) 16 C dX10_isSmall_3 (by decide) ?_ ?_
  ·
    refine j_iconst (pc := 16) 0 C dX10_isSmall_16 (by decide) ?_
    exact j_zretc C dX10_isSmall_17 rfl (Nat.le_of_ble_eq_true rfl) (Nat.le_of_ble_eq_true rfl) rfl
  ·
    refine j_iload_n (pc := 6) 0 C dX10_isSmall_6 rfl rfl ?_
    refine j_bipush (pc := 7) 122 C dX10_isSmall_7 (by decide) ?_
    refine j_icmp_gt (pc := 9) 16 C dX10_isSmall_9 (by decide) ?_ ?_
    ·
      refine j_iconst (pc := 16) 0 C dX10_isSmall_16 (by decide) ?_
      exact j_zretc C dX10_isSmall_17 rfl (Nat.le_of_ble_eq_true rfl) (Nat.le_of_ble_eq_true rfl) rfl
    ·
      refine j_iconst (pc := 12) 1 C dX10_isSmall_12 (by decide) ?_
      refine j_goto (pc := 13) 17 C dX10_isSmall_13 (by decide) ?_
      exact j_zretc C dX10_isSmall_17 rfl (Nat.le_of_ble_eq_true rfl) (Nat.le_of_ble_eq_true rfl) rfl
theorem cR_isSmall {l : Launch} {G : Gc} (hfl : l.stackTraces = false) (hW : Wok G wR 26)   (x0 : Int32) (S : St) : Ct l yX10_isSmall (Cond.code yX10_isSmall cX10_isSmall 1 (some .boolean) :: tblG) 1 0 0 G wR 26 [.int x0] S (fR_isSmall x0 S) := ct_of (own := RX10) hfl (by decide +kernel) rfl hW (Nat.le_of_ble_eq_true rfl) (fun E hE C => by subst hE; exact bR_isSmall C   x0 S)
theorem rR_isSmall {E : Ec} {G : Gc} {nL mc ms : Nat} {own : String} {cc : ByteArray} {L : Nat} {ret : Option FieldType} {k n pc ix : Nat} {loc : List (Nat × Value)} {rest : List Value}  {x0 : Int32} {S : St}  (C : JC E (VR G nL mc ms own) cc L ret) (hd : decode cc pc = .ok (.invokestatic ix, 3)) (hq : Cond.methodLink own ix yX10_isSmall ∈ tblG) (hL : 1 + 1 ≤ L) (hW : (rest.map fun v => v.category).sum ≤ 8) (hf : k + 0 ≤ mc ∧ n + 0 ≤ ms) : Rn E (VR G nL mc ms own) k n 0 0 pc loc (.int x0 :: rest) rest S (fR_isSmall x0 S) := rn_S (V := VR G nL mc ms own) (As := [.int x0]) (cR_isSmall C.flags C.wok  x0 S) knX10_isSmall q_853  C hd hq hL rfl rfl hW hf

theorem knX10_word : Kn yX10_word cX10_word 4 (some .int) 0 := ⟨q_855, q_815, by decide +kernel, by decide⟩
theorem bR_word_67 {E : Ec} {G : Gc}    (C : JC E (VR G 4 0 0 RX10) cX10_word 2 (some .int))    (x1 : Int32) (x2 : Int32) (S : St) : J E (VR G 4 0 0 RX10) 0 0 67 [(1, .int x1), (2, .int x2)] [] S (fR_word_67  x1 x2 S) := by
  unfold fR_word_67
  refine j_iload_n (pc := 67) 1 C dX10_word_67 rfl rfl ?_
  refine j_bipush (pc := 68) 6 C dX10_word_68 (by decide) ?_
  refine j_icmp_le (pc := 70) 77 C dX10_word_70 (by decide) ?_ ?_
  ·
    refine j_iload_n (pc := 77) 0 C dX10_word_77 rfl rfl ?_
    exact j_iret C dX10_word_78 rfl (Nat.le_of_ble_eq_true rfl) (Nat.le_of_ble_eq_true rfl)
  ·
    refine j_iconst (pc := 73) 0 C dX10_word_73 (by decide) ?_
    refine j_goto (pc := 74) 78 C dX10_word_74 (by decide) ?_
    exact j_iret C dX10_word_78 rfl (Nat.le_of_ble_eq_true rfl) (Nat.le_of_ble_eq_true rfl)
theorem bR_word_14 {E : Ec} {G : Gc}    (C : JC E (VR G 4 0 0 RX10) cX10_word 2 (some .int))    : ∀ (n : Nat) (x1 : Int32) (x2 : Int32) (x3 : Int32) (S : St), J E (VR G 4 0 0 RX10) 0 0 14 [(0, .ref (gA G 0)), (1, .int x1), (2, .int x2), (3, .int x3)] [] S (fR_word_14  n x1 x2 x3 S) := by
  intro n
  induction n with
  | zero => intro x1 x2 x3 S; rw [fR_word_14]; exact j_none
  | succ n ih =>
    intro x1 x2 x3 S
    rw [fR_word_14]
    refine j_iload_n (pc := 14) 3 C dX10_word_14 rfl rfl ?_
    refine j_aload_n (pc := 15) 0 C dX10_word_15 rfl rfl ?_
    refine gR_0_3 (pc := 16) C dX10_word_16 q_824 ?_
    refine j_icmp_ge (pc := 19) 67 C dX10_word_19 (by decide) ?_ ?_
    ·
      refine j_sub [1, 2] rfl ?_
      exact bR_word_67 C  x1 x2 S
    ·
      refine j_aload_n (pc := 22) 0 C dX10_word_22 rfl rfl ?_
      refine gR_0_9 (pc := 23) C dX10_word_23 q_813 ?_
      refine j_iload_n (pc := 26) 3 C dX10_word_26 rfl rfl ?_
      refine aR_2 (pc := 27) C dX10_word_27 ?_
      refine j_callI0 (pc := 28) C (rR_isSmall C dX10_word_28 q_854 (by omega) (Nat.le_of_ble_eq_true rfl) ⟨Nat.le_of_ble_eq_true rfl, Nat.le_of_ble_eq_true rfl⟩) ⟨Nat.le_of_ble_eq_true rfl, Nat.le_of_ble_eq_true rfl⟩ (fun r2 T1 => ?_)
      refine j_if_eq (pc := 31) 67 C dX10_word_31 (by decide) ?_ ?_
      ·
        refine j_sub [1, 2] rfl ?_
        exact bR_word_67 C  x1 x2 T1
      ·
        refine j_iload_n (pc := 34) 2 C dX10_word_34 rfl rfl ?_
        refine j_bipush (pc := 35) 6 C dX10_word_35 (by decide) ?_
        refine j_icmp_ge (pc := 37) 56 C dX10_word_37 (by decide) ?_ ?_
        ·
          refine j_iconst (pc := 56) 0 C dX10_word_56 (by decide) ?_
          refine j_istore_n (pc := 57) [(1, .int 0), (0, .ref (gA G 0)), (2, .int x2), (3, .int x3)] C dX10_word_57 rfl (Nat.le_of_ble_eq_true rfl) rfl ?_
          refine j_iinc (pc := 58) 2 (x2 + 1) [(2, .int (x2 + 1)), (1, .int 0), (0, .ref (gA G 0)), (3, .int x3)] C dX10_word_58 rfl rfl (Nat.le_of_ble_eq_true rfl) rfl ?_
          refine j_iinc (pc := 61) 3 (x3 + 1) [(3, .int (x3 + 1)), (2, .int (x2 + 1)), (1, .int 0), (0, .ref (gA G 0))] C dX10_word_61 rfl rfl (Nat.le_of_ble_eq_true rfl) rfl ?_
          refine j_goto (pc := 64) 14 C dX10_word_64 (by decide) ?_
          refine j_sub [3, 2, 1, 0] rfl ?_
          exact ih 0 (x2 + 1) (x3 + 1) T1
        ·
          refine j_iload_n (pc := 40) 1 C dX10_word_40 rfl rfl ?_
          refine j_iconst (pc := 41) 5 C dX10_word_41 (by decide) ?_
          refine j_ishl (pc := 42) C dX10_word_42 ?_
          refine j_aload_n (pc := 43) 0 C dX10_word_43 rfl rfl ?_
          refine gR_0_9 (pc := 44) C dX10_word_44 q_813 ?_
          refine j_iload_n (pc := 47) 3 C dX10_word_47 rfl rfl ?_
          refine aR_2 (pc := 48) C dX10_word_48 ?_
          refine j_bipush (pc := 49) 96 C dX10_word_49 (by decide) ?_
          refine j_isub (pc := 51) C dX10_word_51 ?_
          refine j_ior (pc := 52) C dX10_word_52 ?_
          refine j_goto (pc := 53) 57 C dX10_word_53 (by decide) ?_
          refine j_nxI (fun v3 => ?_)
          refine j_istore_n (pc := 57) [(1, .int v3), (0, .ref (gA G 0)), (2, .int x2), (3, .int x3)] C dX10_word_57 rfl (Nat.le_of_ble_eq_true rfl) rfl ?_
          refine j_iinc (pc := 58) 2 (x2 + 1) [(2, .int (x2 + 1)), (1, .int v3), (0, .ref (gA G 0)), (3, .int x3)] C dX10_word_58 rfl rfl (Nat.le_of_ble_eq_true rfl) rfl ?_
          refine j_iinc (pc := 61) 3 (x3 + 1) [(3, .int (x3 + 1)), (2, .int (x2 + 1)), (1, .int v3), (0, .ref (gA G 0))] C dX10_word_61 rfl rfl (Nat.le_of_ble_eq_true rfl) rfl ?_
          refine j_goto (pc := 64) 14 C dX10_word_64 (by decide) ?_
          refine j_sub [3, 2, 1, 0] rfl ?_
          exact ih v3 (x2 + 1) (x3 + 1) T1
theorem bR_word {E : Ec} {G : Gc}    (C : JC E (VR G 4 0 0 RX10) cX10_word 2 (some .int))     (S : St) : J E (VR G 4 0 0 RX10) 0 0 0 [(0, .ref (gA G 0))] [] S (fR_word   S) := by
  unfold fR_word
  refine j_aload_n (pc := 0) 0 C dX10_word_0 rfl rfl ?_
  refine j_callI0 (pc := 1) C (rR_here C dX10_word_1 q_847 (by omega) (Nat.le_of_ble_eq_true rfl) ⟨Nat.le_of_ble_eq_true rfl, Nat.le_of_ble_eq_true rfl⟩) ⟨Nat.le_of_ble_eq_true rfl, Nat.le_of_ble_eq_true rfl⟩ (fun r2 T1 => ?_)
  refine j_pop (pc := 4) C dX10_word_4 rfl ?_
  refine j_iconst (pc := 5) 0 C dX10_word_5 (by decide) ?_
  refine j_istore_n (pc := 6) [(1, .int 0), (0, .ref (gA G 0))] C dX10_word_6 rfl (Nat.le_of_ble_eq_true rfl) rfl ?_
  refine j_iconst (pc := 7) 0 C dX10_word_7 (by decide) ?_
  refine j_istore_n (pc := 8) [(2, .int 0), (1, .int 0), (0, .ref (gA G 0))] C dX10_word_8 rfl (Nat.le_of_ble_eq_true rfl) rfl ?_
  refine j_aload_n (pc := 9) 2 C dX10_word_9 rfl rfl ?_
  refine gR_0_4 (pc := 10) C dX10_word_10 q_825 ?_
  refine j_nxI (fun v3 => ?_)
  refine j_istore_n (pc := 13) [(3, .int v3), (2, .int 0), (1, .int 0), (0, .ref (gA G 0))] C dX10_word_13 rfl (Nat.le_of_ble_eq_true rfl) rfl ?_
  refine j_sub [3, 2, 1, 0] rfl ?_
  exact bR_word_14 C  FU 0 0 v3 T1
theorem cR_word {l : Launch} {G : Gc} (hfl : l.stackTraces = false) (hW : Wok G wR 26)    (S : St) : Ct l yX10_word (Cond.code yX10_word cX10_word 4 (some .int) :: tblG) 2 0 0 G wR 26 [.ref (gA G 0)] S (fR_word  S) := ct_of (own := RX10) hfl (by decide +kernel) rfl hW (Nat.le_of_ble_eq_true rfl) (fun E hE C => by subst hE; exact bR_word C    S)
theorem rR_word {E : Ec} {G : Gc} {nL mc ms : Nat} {own : String} {cc : ByteArray} {L : Nat} {ret : Option FieldType} {k n pc ix : Nat} {loc : List (Nat × Value)} {rest : List Value}   {S : St}  (C : JC E (VR G nL mc ms own) cc L ret) (hd : decode cc pc = .ok (.invokevirtual ix, 3)) (hq : Cond.methodLink own ix yX10_word ∈ tblG) (hL : 2 + 1 ≤ L) (hW : (rest.map fun v => v.category).sum ≤ 8) (hf : k + 0 ≤ mc ∧ n + 0 ≤ ms) : Rn E (VR G nL mc ms own) k n 0 0 pc loc (.ref (gA G 0) :: rest) rest S (fR_word  S) := rn_V (ci := 10) 0 (V := VR G nL mc ms own) (As := []) (Cq := (RX10, TX10, 53)) (cR_word C.flags C.wok   S) knX10_word ⟨q_856, q_857⟩ rfl rfl C hd hq hL rfl rfl hW hf

theorem knX10_of : Kn yX10_of cX10_of 3 (some .int) 1 := ⟨q_861, q_815, by decide +kernel, by decide⟩
theorem bR_of_4 {E : Ec} {G : Gc}  {x0 : Nat}  (C : JC E (VR G 3 0 0 RX10) cX10_of 5 (some .int))  (hs_x0 : x0 < 40)  : ∀ (n : Nat) (x1 : Int32) (x2 : Int32) (S : St), J E (VR G 3 0 0 RX10) 0 0 4 [(0, .ref (gK G x0)), (1, .int x1), (2, .int x2)] [] S (fR_of_4 x0 n x1 x2 S) := by
  intro n
  induction n with
  | zero => intro x1 x2 S; rw [fR_of_4]; exact j_none
  | succ n ih =>
    intro x1 x2 S
    rw [fR_of_4]
    refine j_iload_n (pc := 4) 2 C dX10_of_4 rfl rfl ?_
    refine j_aload_n (pc := 5) 0 C dX10_of_5 rfl rfl ?_
    refine j_slen (pc := 6) C dX10_of_6 q_859 hs_x0 (by omega) (Nat.le_of_ble_eq_true rfl) (Nat.le_of_ble_eq_true rfl) (Nat.le_of_ble_eq_true rfl) ?_
    refine j_icmp_ge (pc := 9) 31 C dX10_of_9 (by decide) ?_ ?_
    ·
      refine j_iload_n (pc := 31) 1 C dX10_of_31 rfl rfl ?_
      exact j_iret C dX10_of_32 rfl (Nat.le_of_ble_eq_true rfl) (Nat.le_of_ble_eq_true rfl)
    ·
      refine j_iload_n (pc := 12) 1 C dX10_of_12 rfl rfl ?_
      refine j_iconst (pc := 13) 5 C dX10_of_13 (by decide) ?_
      refine j_ishl (pc := 14) C dX10_of_14 ?_
      refine j_aload_n (pc := 15) 0 C dX10_of_15 rfl rfl ?_
      refine j_iload_n (pc := 16) 2 C dX10_of_16 rfl rfl ?_
      refine j_schar (pc := 17) C dX10_of_17 q_860 hs_x0 (by omega) (Nat.le_of_ble_eq_true rfl) (Nat.le_of_ble_eq_true rfl) (Nat.le_of_ble_eq_true rfl) ?_
      refine j_bipush (pc := 20) 96 C dX10_of_20 (by decide) ?_
      refine j_isub (pc := 22) C dX10_of_22 ?_
      refine j_ior (pc := 23) C dX10_of_23 ?_
      refine j_nxI (fun v5 => ?_)
      refine j_istore_n (pc := 24) [(1, .int v5), (0, .ref (gK G x0)), (2, .int x2)] C dX10_of_24 rfl (Nat.le_of_ble_eq_true rfl) rfl ?_
      refine j_iinc (pc := 25) 2 (x2 + 1) [(2, .int (x2 + 1)), (1, .int v5), (0, .ref (gK G x0))] C dX10_of_25 rfl rfl (Nat.le_of_ble_eq_true rfl) rfl ?_
      refine j_goto (pc := 28) 4 C dX10_of_28 (by decide) ?_
      refine j_sub [2, 1, 0] rfl ?_
      exact ih v5 (x2 + 1) S
theorem bR_of {E : Ec} {G : Gc}  {x0 : Nat}  (C : JC E (VR G 3 0 0 RX10) cX10_of 5 (some .int))  (hs_x0 : x0 < 40)   (S : St) : J E (VR G 3 0 0 RX10) 0 0 0 [(0, .ref (gK G x0))] [] S (fR_of x0  S) := by
  unfold fR_of
  refine j_iconst (pc := 0) 0 C dX10_of_0 (by decide) ?_
  refine j_istore_n (pc := 1) [(1, .int 0), (0, .ref (gK G x0))] C dX10_of_1 rfl (Nat.le_of_ble_eq_true rfl) rfl ?_
  refine j_iconst (pc := 2) 0 C dX10_of_2 (by decide) ?_
  refine j_istore_n (pc := 3) [(2, .int 0), (1, .int 0), (0, .ref (gK G x0))] C dX10_of_3 rfl (Nat.le_of_ble_eq_true rfl) rfl ?_
  refine j_sub [2, 1, 0] rfl ?_
  exact bR_of_4 C hs_x0 FU 0 0 S
theorem cR_of {l : Launch} {G : Gc} (hfl : l.stackTraces = false) (hW : Wok G wR 26) {x0 : Nat} (hs_x0 : x0 < 40)  (S : St) : Ct l yX10_of (Cond.code yX10_of cX10_of 3 (some .int) :: tblG) 5 0 0 G wR 26 [.ref (gK G x0)] S (fR_of x0 S) := ct_of (own := RX10) hfl (by decide +kernel) rfl hW (Nat.le_of_ble_eq_true rfl) (fun E hE C => by subst hE; exact bR_of C hs_x0   S)
theorem rR_of {E : Ec} {G : Gc} {nL mc ms : Nat} {own : String} {cc : ByteArray} {L : Nat} {ret : Option FieldType} {k n pc ix : Nat} {loc : List (Nat × Value)} {rest : List Value}  {x0 : Nat} {S : St} (hs_x0 : x0 < 40) (C : JC E (VR G nL mc ms own) cc L ret) (hd : decode cc pc = .ok (.invokestatic ix, 3)) (hq : Cond.methodLink own ix yX10_of ∈ tblG) (hL : 5 + 1 ≤ L) (hW : (rest.map fun v => v.category).sum ≤ 8) (hf : k + 0 ≤ mc ∧ n + 0 ≤ ms) : Rn E (VR G nL mc ms own) k n 0 0 pc loc (.ref (gK G x0) :: rest) rest S (fR_of x0 S) := rn_S (V := VR G nL mc ms own) (As := [.ref (gK G x0)]) (cR_of C.flags C.wok hs_x0  S) knX10_of q_862  C hd hq hL rfl rfl hW hf

theorem bR_of_v212_4 {E : Ec} {G : Gc}  {x0 : Nat}  (C : JC E (VR G 3 0 0 RX10) cX10_of 5 (some .int))  (hs_x0 : x0 < 40)  : ∀ (n : Nat) (x1 : Int32) (x2 : Int32) (S : St), J E (VR G 3 0 0 RX10) 0 0 4 [(0, .ref (gK G x0)), (1, .int x1), (2, .int x2)] [] S (fR_of_v212_4 x0 n x1 x2 S) := by
  intro n
  induction n with
  | zero => intro x1 x2 S; rw [fR_of_v212_4]; exact j_none
  | succ n ih =>
    intro x1 x2 S
    rw [fR_of_v212_4]
    refine j_iload_n (pc := 4) 2 C dX10_of_4 rfl rfl ?_
    refine j_aload_n (pc := 5) 0 C dX10_of_5 rfl rfl ?_
    refine j_slen (pc := 6) C dX10_of_6 q_859 hs_x0 (by omega) (Nat.le_of_ble_eq_true rfl) (Nat.le_of_ble_eq_true rfl) (Nat.le_of_ble_eq_true rfl) ?_
    refine j_icmp_ge (pc := 9) 31 C dX10_of_9 (by decide) ?_ ?_
    ·
      refine j_iload_n (pc := 31) 1 C dX10_of_31 rfl rfl ?_
      exact j_iret C dX10_of_32 rfl (Nat.le_of_ble_eq_true rfl) (Nat.le_of_ble_eq_true rfl)
    ·
      refine j_iload_n (pc := 12) 1 C dX10_of_12 rfl rfl ?_
      refine j_iconst (pc := 13) 5 C dX10_of_13 (by decide) ?_
      refine j_ishl (pc := 14) C dX10_of_14 ?_
      refine j_aload_n (pc := 15) 0 C dX10_of_15 rfl rfl ?_
      refine j_iload_n (pc := 16) 2 C dX10_of_16 rfl rfl ?_
      refine j_schar (pc := 17) C dX10_of_17 q_860 hs_x0 (by omega) (Nat.le_of_ble_eq_true rfl) (Nat.le_of_ble_eq_true rfl) (Nat.le_of_ble_eq_true rfl) ?_
      refine j_bipush (pc := 20) 96 C dX10_of_20 (by decide) ?_
      refine j_isub (pc := 22) C dX10_of_22 ?_
      refine j_ior (pc := 23) C dX10_of_23 ?_
      refine j_nxI (fun v5 => ?_)
      refine j_istore_n (pc := 24) [(1, .int v5), (0, .ref (gK G x0)), (2, .int x2)] C dX10_of_24 rfl (Nat.le_of_ble_eq_true rfl) rfl ?_
      refine j_iinc (pc := 25) 2 (x2 + 1) [(2, .int (x2 + 1)), (1, .int v5), (0, .ref (gK G x0))] C dX10_of_25 rfl rfl (Nat.le_of_ble_eq_true rfl) rfl ?_
      refine j_goto (pc := 28) 4 C dX10_of_28 (by decide) ?_
      refine j_sub [2, 1, 0] rfl ?_
      exact ih v5 (x2 + 1) S
theorem bR_of_v212 {E : Ec} {G : Gc}  {x0 : Nat}  (C : JC E (VR G 3 0 0 RX10) cX10_of 5 (some .int))  (hs_x0 : x0 < 40)   (S : St) : J E (VR G 3 0 0 RX10) 0 0 0 [(0, .ref (gK G x0))] [] S (fR_of_v212 x0  S) := by
  unfold fR_of_v212
  refine j_iconst (pc := 0) 0 C dX10_of_0 (by decide) ?_
  refine j_istore_n (pc := 1) [(1, .int 0), (0, .ref (gK G x0))] C dX10_of_1 rfl (Nat.le_of_ble_eq_true rfl) rfl ?_
  refine j_iconst (pc := 2) 0 C dX10_of_2 (by decide) ?_
  refine j_istore_n (pc := 3) [(2, .int 0), (1, .int 0), (0, .ref (gK G x0))] C dX10_of_3 rfl (Nat.le_of_ble_eq_true rfl) rfl ?_
  refine j_sub [2, 1, 0] rfl ?_
  exact bR_of_v212_4 C hs_x0 FU 0 0 S
theorem cR_of_v212 {l : Launch} {G : Gc} (hfl : l.stackTraces = false) (hW : Wok G wR 26) {x0 : Nat} (hs_x0 : x0 < 40)  (S : St) : Ct l yX10_of (Cond.code yX10_of cX10_of 3 (some .int) :: tblG) 5 0 0 G wR 26 [.ref (gK G x0)] S (fR_of_v212 x0 S) := ct_of (own := RX10) hfl (by decide +kernel) rfl hW (Nat.le_of_ble_eq_true rfl) (fun E hE C => by subst hE; exact bR_of_v212 C hs_x0   S)
theorem rR_of_v212 {E : Ec} {G : Gc} {nL mc ms : Nat} {own : String} {cc : ByteArray} {L : Nat} {ret : Option FieldType} {k n pc ix : Nat} {loc : List (Nat × Value)} {rest : List Value}  {x0 : Nat} {S : St} (hs_x0 : x0 < 40) (C : JC E (VR G nL mc ms own) cc L ret) (hd : decode cc pc = .ok (.invokestatic ix, 3)) (hq : Cond.methodLink own ix yX10_of ∈ tblG) (hL : 5 + 1 ≤ L) (hW : (rest.map fun v => v.category).sum ≤ 8) (hf : k + 0 ≤ mc ∧ n + 0 ≤ ms) : Rn E (VR G nL mc ms own) k n 0 0 pc loc (.ref (gK G x0) :: rest) rest S (fR_of_v212 x0 S) := rn_S (V := VR G nL mc ms own) (As := [.ref (gK G x0)]) (cR_of_v212 C.flags C.wok hs_x0  S) knX10_of q_862  C hd hq hL rfl rfl hW hf

theorem bR_of_v213_4 {E : Ec} {G : Gc}  {x0 : Nat}  (C : JC E (VR G 3 0 0 RX10) cX10_of 5 (some .int))  (hs_x0 : x0 < 40)  : ∀ (n : Nat) (x1 : Int32) (x2 : Int32) (S : St), J E (VR G 3 0 0 RX10) 0 0 4 [(0, .ref (gK G x0)), (1, .int x1), (2, .int x2)] [] S (fR_of_v213_4 x0 n x1 x2 S) := by
  intro n
  induction n with
  | zero => intro x1 x2 S; rw [fR_of_v213_4]; exact j_none
  | succ n ih =>
    intro x1 x2 S
    rw [fR_of_v213_4]
    refine j_iload_n (pc := 4) 2 C dX10_of_4 rfl rfl ?_
    refine j_aload_n (pc := 5) 0 C dX10_of_5 rfl rfl ?_
    refine j_slen (pc := 6) C dX10_of_6 q_859 hs_x0 (by omega) (Nat.le_of_ble_eq_true rfl) (Nat.le_of_ble_eq_true rfl) (Nat.le_of_ble_eq_true rfl) ?_
    refine j_icmp_ge (pc := 9) 31 C dX10_of_9 (by decide) ?_ ?_
    ·
      refine j_iload_n (pc := 31) 1 C dX10_of_31 rfl rfl ?_
      exact j_iret C dX10_of_32 rfl (Nat.le_of_ble_eq_true rfl) (Nat.le_of_ble_eq_true rfl)
    ·
      refine j_iload_n (pc := 12) 1 C dX10_of_12 rfl rfl ?_
      refine j_iconst (pc := 13) 5 C dX10_of_13 (by decide) ?_
      refine j_ishl (pc := 14) C dX10_of_14 ?_
      refine j_aload_n (pc := 15) 0 C dX10_of_15 rfl rfl ?_
      refine j_iload_n (pc := 16) 2 C dX10_of_16 rfl rfl ?_
      refine j_schar (pc := 17) C dX10_of_17 q_860 hs_x0 (by omega) (Nat.le_of_ble_eq_true rfl) (Nat.le_of_ble_eq_true rfl) (Nat.le_of_ble_eq_true rfl) ?_
      refine j_bipush (pc := 20) 96 C dX10_of_20 (by decide) ?_
      refine j_isub (pc := 22) C dX10_of_22 ?_
      refine j_ior (pc := 23) C dX10_of_23 ?_
      refine j_nxI (fun v5 => ?_)
      refine j_istore_n (pc := 24) [(1, .int v5), (0, .ref (gK G x0)), (2, .int x2)] C dX10_of_24 rfl (Nat.le_of_ble_eq_true rfl) rfl ?_
      refine j_iinc (pc := 25) 2 (x2 + 1) [(2, .int (x2 + 1)), (1, .int v5), (0, .ref (gK G x0))] C dX10_of_25 rfl rfl (Nat.le_of_ble_eq_true rfl) rfl ?_
      refine j_goto (pc := 28) 4 C dX10_of_28 (by decide) ?_
      refine j_sub [2, 1, 0] rfl ?_
      exact ih v5 (x2 + 1) S
theorem bR_of_v213 {E : Ec} {G : Gc}  {x0 : Nat}  (C : JC E (VR G 3 0 0 RX10) cX10_of 5 (some .int))  (hs_x0 : x0 < 40)   (S : St) : J E (VR G 3 0 0 RX10) 0 0 0 [(0, .ref (gK G x0))] [] S (fR_of_v213 x0  S) := by
  unfold fR_of_v213
  refine j_iconst (pc := 0) 0 C dX10_of_0 (by decide) ?_
  refine j_istore_n (pc := 1) [(1, .int 0), (0, .ref (gK G x0))] C dX10_of_1 rfl (Nat.le_of_ble_eq_true rfl) rfl ?_
  refine j_iconst (pc := 2) 0 C dX10_of_2 (by decide) ?_
  refine j_istore_n (pc := 3) [(2, .int 0), (1, .int 0), (0, .ref (gK G x0))] C dX10_of_3 rfl (Nat.le_of_ble_eq_true rfl) rfl ?_
  refine j_sub [2, 1, 0] rfl ?_
  exact bR_of_v213_4 C hs_x0 FU 0 0 S
theorem cR_of_v213 {l : Launch} {G : Gc} (hfl : l.stackTraces = false) (hW : Wok G wR 26) {x0 : Nat} (hs_x0 : x0 < 40)  (S : St) : Ct l yX10_of (Cond.code yX10_of cX10_of 3 (some .int) :: tblG) 5 0 0 G wR 26 [.ref (gK G x0)] S (fR_of_v213 x0 S) := ct_of (own := RX10) hfl (by decide +kernel) rfl hW (Nat.le_of_ble_eq_true rfl) (fun E hE C => by subst hE; exact bR_of_v213 C hs_x0   S)
theorem rR_of_v213 {E : Ec} {G : Gc} {nL mc ms : Nat} {own : String} {cc : ByteArray} {L : Nat} {ret : Option FieldType} {k n pc ix : Nat} {loc : List (Nat × Value)} {rest : List Value}  {x0 : Nat} {S : St} (hs_x0 : x0 < 40) (C : JC E (VR G nL mc ms own) cc L ret) (hd : decode cc pc = .ok (.invokestatic ix, 3)) (hq : Cond.methodLink own ix yX10_of ∈ tblG) (hL : 5 + 1 ≤ L) (hW : (rest.map fun v => v.category).sum ≤ 8) (hf : k + 0 ≤ mc ∧ n + 0 ≤ ms) : Rn E (VR G nL mc ms own) k n 0 0 pc loc (.ref (gK G x0) :: rest) rest S (fR_of_v213 x0 S) := rn_S (V := VR G nL mc ms own) (As := [.ref (gK G x0)]) (cR_of_v213 C.flags C.wok hs_x0  S) knX10_of q_862  C hd hq hL rfl rfl hW hf

theorem bR_of_v214_4 {E : Ec} {G : Gc}  {x0 : Nat}  (C : JC E (VR G 3 0 0 RX10) cX10_of 5 (some .int))  (hs_x0 : x0 < 40)  : ∀ (n : Nat) (x1 : Int32) (x2 : Int32) (S : St), J E (VR G 3 0 0 RX10) 0 0 4 [(0, .ref (gK G x0)), (1, .int x1), (2, .int x2)] [] S (fR_of_v214_4 x0 n x1 x2 S) := by
  intro n
  induction n with
  | zero => intro x1 x2 S; rw [fR_of_v214_4]; exact j_none
  | succ n ih =>
    intro x1 x2 S
    rw [fR_of_v214_4]
    refine j_iload_n (pc := 4) 2 C dX10_of_4 rfl rfl ?_
    refine j_aload_n (pc := 5) 0 C dX10_of_5 rfl rfl ?_
    refine j_slen (pc := 6) C dX10_of_6 q_859 hs_x0 (by omega) (Nat.le_of_ble_eq_true rfl) (Nat.le_of_ble_eq_true rfl) (Nat.le_of_ble_eq_true rfl) ?_
    refine j_icmp_ge (pc := 9) 31 C dX10_of_9 (by decide) ?_ ?_
    ·
      refine j_iload_n (pc := 31) 1 C dX10_of_31 rfl rfl ?_
      exact j_iret C dX10_of_32 rfl (Nat.le_of_ble_eq_true rfl) (Nat.le_of_ble_eq_true rfl)
    ·
      refine j_iload_n (pc := 12) 1 C dX10_of_12 rfl rfl ?_
      refine j_iconst (pc := 13) 5 C dX10_of_13 (by decide) ?_
      refine j_ishl (pc := 14) C dX10_of_14 ?_
      refine j_aload_n (pc := 15) 0 C dX10_of_15 rfl rfl ?_
      refine j_iload_n (pc := 16) 2 C dX10_of_16 rfl rfl ?_
      refine j_schar (pc := 17) C dX10_of_17 q_860 hs_x0 (by omega) (Nat.le_of_ble_eq_true rfl) (Nat.le_of_ble_eq_true rfl) (Nat.le_of_ble_eq_true rfl) ?_
      refine j_bipush (pc := 20) 96 C dX10_of_20 (by decide) ?_
      refine j_isub (pc := 22) C dX10_of_22 ?_
      refine j_ior (pc := 23) C dX10_of_23 ?_
      refine j_nxI (fun v5 => ?_)
      refine j_istore_n (pc := 24) [(1, .int v5), (0, .ref (gK G x0)), (2, .int x2)] C dX10_of_24 rfl (Nat.le_of_ble_eq_true rfl) rfl ?_
      refine j_iinc (pc := 25) 2 (x2 + 1) [(2, .int (x2 + 1)), (1, .int v5), (0, .ref (gK G x0))] C dX10_of_25 rfl rfl (Nat.le_of_ble_eq_true rfl) rfl ?_
      refine j_goto (pc := 28) 4 C dX10_of_28 (by decide) ?_
      refine j_sub [2, 1, 0] rfl ?_
      exact ih v5 (x2 + 1) S
theorem bR_of_v214 {E : Ec} {G : Gc}  {x0 : Nat}  (C : JC E (VR G 3 0 0 RX10) cX10_of 5 (some .int))  (hs_x0 : x0 < 40)   (S : St) : J E (VR G 3 0 0 RX10) 0 0 0 [(0, .ref (gK G x0))] [] S (fR_of_v214 x0  S) := by
  unfold fR_of_v214
  refine j_iconst (pc := 0) 0 C dX10_of_0 (by decide) ?_
  refine j_istore_n (pc := 1) [(1, .int 0), (0, .ref (gK G x0))] C dX10_of_1 rfl (Nat.le_of_ble_eq_true rfl) rfl ?_
  refine j_iconst (pc := 2) 0 C dX10_of_2 (by decide) ?_
  refine j_istore_n (pc := 3) [(2, .int 0), (1, .int 0), (0, .ref (gK G x0))] C dX10_of_3 rfl (Nat.le_of_ble_eq_true rfl) rfl ?_
  refine j_sub [2, 1, 0] rfl ?_
  exact bR_of_v214_4 C hs_x0 FU 0 0 S
theorem cR_of_v214 {l : Launch} {G : Gc} (hfl : l.stackTraces = false) (hW : Wok G wR 26) {x0 : Nat} (hs_x0 : x0 < 40)  (S : St) : Ct l yX10_of (Cond.code yX10_of cX10_of 3 (some .int) :: tblG) 5 0 0 G wR 26 [.ref (gK G x0)] S (fR_of_v214 x0 S) := ct_of (own := RX10) hfl (by decide +kernel) rfl hW (Nat.le_of_ble_eq_true rfl) (fun E hE C => by subst hE; exact bR_of_v214 C hs_x0   S)
theorem rR_of_v214 {E : Ec} {G : Gc} {nL mc ms : Nat} {own : String} {cc : ByteArray} {L : Nat} {ret : Option FieldType} {k n pc ix : Nat} {loc : List (Nat × Value)} {rest : List Value}  {x0 : Nat} {S : St} (hs_x0 : x0 < 40) (C : JC E (VR G nL mc ms own) cc L ret) (hd : decode cc pc = .ok (.invokestatic ix, 3)) (hq : Cond.methodLink own ix yX10_of ∈ tblG) (hL : 5 + 1 ≤ L) (hW : (rest.map fun v => v.category).sum ≤ 8) (hf : k + 0 ≤ mc ∧ n + 0 ≤ ms) : Rn E (VR G nL mc ms own) k n 0 0 pc loc (.ref (gK G x0) :: rest) rest S (fR_of_v214 x0 S) := rn_S (V := VR G nL mc ms own) (As := [.ref (gK G x0)]) (cR_of_v214 C.flags C.wok hs_x0  S) knX10_of q_862  C hd hq hL rfl rfl hW hf

theorem knX10_isRow : Kn yX10_isRow cX10_isRow 1 (some .boolean) 1 := ⟨q_864, q_815, by decide +kernel, by decide⟩
theorem bR_isRow {E : Ec} {G : Gc}    (C : JC E (VR G 1 0 0 RX10) cX10_isRow 6 (some .boolean))    (x0 : Int32) (S : St) : J E (VR G 1 0 0 RX10) 0 0 0 [(0, .int x0)] [] S (fR_isRow  x0 S) := by
  unfold fR_isRow
  refine j_iload_n (pc := 0) 0 C dX10_isRow_0 rfl rfl ?_
  refine j_ldcS (pc := 1) 22 C dX10_isRow_1 rfl rfl rfl ?_
  refine j_callI0 (pc := 3) C (rR_of (by decide) C dX10_isRow_3 q_863 (by omega) (Nat.le_of_ble_eq_true rfl) ⟨Nat.le_of_ble_eq_true rfl, Nat.le_of_ble_eq_true rfl⟩) ⟨Nat.le_of_ble_eq_true rfl, Nat.le_of_ble_eq_true rfl⟩ (fun r2 T1 => ?_)
  refine j_icmp_eq (pc := 6) 36 C dX10_isRow_6 (by decide) ?_ ?_
  ·
    refine j_iconst (pc := 36) 1 C dX10_isRow_36 (by decide) ?_
    refine j_goto (pc := 37) 41 C dX10_isRow_37 (by decide) ?_
    exact j_zretc C dX10_isRow_41 rfl (Nat.le_of_ble_eq_true rfl) (Nat.le_of_ble_eq_true rfl) rfl
  ·
    refine j_iload_n (pc := 9) 0 C dX10_isRow_9 rfl rfl ?_
    refine j_ldcS (pc := 10) 23 C dX10_isRow_10 rfl rfl rfl ?_
    refine j_callI0 (pc := 12) C (rR_of_v212 (by decide) C dX10_isRow_12 q_863 (by omega) (Nat.le_of_ble_eq_true rfl) ⟨Nat.le_of_ble_eq_true rfl, Nat.le_of_ble_eq_true rfl⟩) ⟨Nat.le_of_ble_eq_true rfl, Nat.le_of_ble_eq_true rfl⟩ (fun r4 T3 => ?_)
    refine j_icmp_eq (pc := 15) 36 C dX10_isRow_15 (by decide) ?_ ?_
    ·
      refine j_iconst (pc := 36) 1 C dX10_isRow_36 (by decide) ?_
      refine j_goto (pc := 37) 41 C dX10_isRow_37 (by decide) ?_
      exact j_zretc C dX10_isRow_41 rfl (Nat.le_of_ble_eq_true rfl) (Nat.le_of_ble_eq_true rfl) rfl
    ·
      refine j_iload_n (pc := 18) 0 C dX10_isRow_18 rfl rfl ?_
      refine j_ldcS (pc := 19) 24 C dX10_isRow_19 rfl rfl rfl ?_
      refine j_callI0 (pc := 21) C (rR_of_v213 (by decide) C dX10_isRow_21 q_863 (by omega) (Nat.le_of_ble_eq_true rfl) ⟨Nat.le_of_ble_eq_true rfl, Nat.le_of_ble_eq_true rfl⟩) ⟨Nat.le_of_ble_eq_true rfl, Nat.le_of_ble_eq_true rfl⟩ (fun r6 T5 => ?_)
      refine j_icmp_eq (pc := 24) 36 C dX10_isRow_24 (by decide) ?_ ?_
      ·
        refine j_iconst (pc := 36) 1 C dX10_isRow_36 (by decide) ?_
        refine j_goto (pc := 37) 41 C dX10_isRow_37 (by decide) ?_
        exact j_zretc C dX10_isRow_41 rfl (Nat.le_of_ble_eq_true rfl) (Nat.le_of_ble_eq_true rfl) rfl
      ·
        refine j_iload_n (pc := 27) 0 C dX10_isRow_27 rfl rfl ?_
        refine j_ldcS (pc := 28) 25 C dX10_isRow_28 rfl rfl rfl ?_
        refine j_callI0 (pc := 30) C (rR_of_v214 (by decide) C dX10_isRow_30 q_863 (by omega) (Nat.le_of_ble_eq_true rfl) ⟨Nat.le_of_ble_eq_true rfl, Nat.le_of_ble_eq_true rfl⟩) ⟨Nat.le_of_ble_eq_true rfl, Nat.le_of_ble_eq_true rfl⟩ (fun r8 T7 => ?_)
        refine j_icmp_ne (pc := 33) 40 C dX10_isRow_33 (by decide) ?_ ?_
        ·
          refine j_iconst (pc := 40) 0 C dX10_isRow_40 (by decide) ?_
          exact j_zretc C dX10_isRow_41 rfl (Nat.le_of_ble_eq_true rfl) (Nat.le_of_ble_eq_true rfl) rfl
        ·
          refine j_iconst (pc := 36) 1 C dX10_isRow_36 (by decide) ?_
          refine j_goto (pc := 37) 41 C dX10_isRow_37 (by decide) ?_
          exact j_zretc C dX10_isRow_41 rfl (Nat.le_of_ble_eq_true rfl) (Nat.le_of_ble_eq_true rfl) rfl
theorem cR_isRow {l : Launch} {G : Gc} (hfl : l.stackTraces = false) (hW : Wok G wR 26)   (x0 : Int32) (S : St) : Ct l yX10_isRow (Cond.code yX10_isRow cX10_isRow 1 (some .boolean) :: tblG) 6 0 0 G wR 26 [.int x0] S (fR_isRow x0 S) := ct_of (own := RX10) hfl (by decide +kernel) rfl hW (Nat.le_of_ble_eq_true rfl) (fun E hE C => by subst hE; exact bR_isRow C   x0 S)
theorem rR_isRow {E : Ec} {G : Gc} {nL mc ms : Nat} {own : String} {cc : ByteArray} {L : Nat} {ret : Option FieldType} {k n pc ix : Nat} {loc : List (Nat × Value)} {rest : List Value}  {x0 : Int32} {S : St}  (C : JC E (VR G nL mc ms own) cc L ret) (hd : decode cc pc = .ok (.invokestatic ix, 3)) (hq : Cond.methodLink own ix yX10_isRow ∈ tblG) (hL : 6 + 1 ≤ L) (hW : (rest.map fun v => v.category).sum ≤ 8) (hf : k + 0 ≤ mc ∧ n + 0 ≤ ms) : Rn E (VR G nL mc ms own) k n 0 0 pc loc (.int x0 :: rest) rest S (fR_isRow x0 S) := rn_S (V := VR G nL mc ms own) (As := [.int x0]) (cR_isRow C.flags C.wok  x0 S) knX10_isRow q_865  C hd hq hL rfl rfl hW hf

theorem knX10_isFull : Kn yX10_isFull cX10_isFull 2 (some .boolean) 1 := ⟨q_867, q_815, by decide +kernel, by decide⟩
theorem bR_isFull {E : Ec} {G : Gc}    (C : JC E (VR G 2 0 0 RX10) cX10_isFull 6 (some .boolean))    (x1 : Int32) (S : St) : J E (VR G 2 0 0 RX10) 0 0 0 [(0, .ref (gA G 0)), (1, .int x1)] [] S (fR_isFull  x1 S) := by
  unfold fR_isFull
  refine j_iload_n (pc := 0) 1 C dX10_isFull_0 rfl rfl ?_
  refine j_ldcS (pc := 1) 22 C dX10_isFull_1 rfl rfl rfl ?_
  refine j_callI0 (pc := 3) C (rR_of (by decide) C dX10_isFull_3 q_863 (by omega) (Nat.le_of_ble_eq_true rfl) ⟨Nat.le_of_ble_eq_true rfl, Nat.le_of_ble_eq_true rfl⟩) ⟨Nat.le_of_ble_eq_true rfl, Nat.le_of_ble_eq_true rfl⟩ (fun r2 T1 => ?_)
  refine j_icmp_ne (pc := 6) 26 C dX10_isFull_6 (by decide) ?_ ?_
  ·
    refine j_iload_n (pc := 26) 1 C dX10_isFull_26 rfl rfl ?_
    refine j_ldcS (pc := 27) 23 C dX10_isFull_27 rfl rfl rfl ?_
    refine j_callI0 (pc := 29) C (rR_of_v212 (by decide) C dX10_isFull_29 q_863 (by omega) (Nat.le_of_ble_eq_true rfl) ⟨Nat.le_of_ble_eq_true rfl, Nat.le_of_ble_eq_true rfl⟩) ⟨Nat.le_of_ble_eq_true rfl, Nat.le_of_ble_eq_true rfl⟩ (fun r4 T3 => ?_)
    refine j_icmp_ne (pc := 32) 52 C dX10_isFull_32 (by decide) ?_ ?_
    ·
      refine j_iload_n (pc := 52) 1 C dX10_isFull_52 rfl rfl ?_
      refine j_ldcS (pc := 53) 24 C dX10_isFull_53 rfl rfl rfl ?_
      refine j_callI0 (pc := 55) C (rR_of_v213 (by decide) C dX10_isFull_55 q_863 (by omega) (Nat.le_of_ble_eq_true rfl) ⟨Nat.le_of_ble_eq_true rfl, Nat.le_of_ble_eq_true rfl⟩) ⟨Nat.le_of_ble_eq_true rfl, Nat.le_of_ble_eq_true rfl⟩ (fun r6 T5 => ?_)
      refine j_icmp_ne (pc := 58) 74 C dX10_isFull_58 (by decide) ?_ ?_
      ·
        refine j_iconst (pc := 74) 0 C dX10_isFull_74 (by decide) ?_
        exact j_zretc C dX10_isFull_75 rfl (Nat.le_of_ble_eq_true rfl) (Nat.le_of_ble_eq_true rfl) rfl
      ·
        refine j_aload_n (pc := 61) 0 C dX10_isFull_61 rfl rfl ?_
        refine gR_0_18 (pc := 62) C dX10_isFull_62 q_834 ?_
        refine j_bipush (pc := 65) 10 C dX10_isFull_65 (by decide) ?_
        refine j_icmp_ne (pc := 67) 74 C dX10_isFull_67 (by decide) ?_ ?_
        ·
          refine j_iconst (pc := 74) 0 C dX10_isFull_74 (by decide) ?_
          exact j_zretc C dX10_isFull_75 rfl (Nat.le_of_ble_eq_true rfl) (Nat.le_of_ble_eq_true rfl) rfl
        ·
          refine j_iconst (pc := 70) 1 C dX10_isFull_70 (by decide) ?_
          refine j_goto (pc := 71) 75 C dX10_isFull_71 (by decide) ?_
          exact j_zretc C dX10_isFull_75 rfl (Nat.le_of_ble_eq_true rfl) (Nat.le_of_ble_eq_true rfl) rfl
    ·
      refine j_aload_n (pc := 35) 0 C dX10_isFull_35 rfl rfl ?_
      refine gR_0_17 (pc := 36) C dX10_isFull_36 q_833 ?_
      refine j_bipush (pc := 39) 6 C dX10_isFull_39 (by decide) ?_
      refine j_icmp_ne (pc := 41) 48 C dX10_isFull_41 (by decide) ?_ ?_
      ·
        refine j_iconst (pc := 48) 0 C dX10_isFull_48 (by decide) ?_
        refine j_goto (pc := 49) 75 C dX10_isFull_49 (by decide) ?_
        exact j_zretc C dX10_isFull_75 rfl (Nat.le_of_ble_eq_true rfl) (Nat.le_of_ble_eq_true rfl) rfl
      ·
        refine j_iconst (pc := 44) 1 C dX10_isFull_44 (by decide) ?_
        refine j_goto (pc := 45) 75 C dX10_isFull_45 (by decide) ?_
        exact j_zretc C dX10_isFull_75 rfl (Nat.le_of_ble_eq_true rfl) (Nat.le_of_ble_eq_true rfl) rfl
  ·
    refine j_aload_n (pc := 9) 0 C dX10_isFull_9 rfl rfl ?_
    refine gR_0_16 (pc := 10) C dX10_isFull_10 q_832 ?_
    refine j_bipush (pc := 13) 8 C dX10_isFull_13 (by decide) ?_
    refine j_icmp_ne (pc := 15) 22 C dX10_isFull_15 (by decide) ?_ ?_
    ·
      refine j_iconst (pc := 22) 0 C dX10_isFull_22 (by decide) ?_
      refine j_goto (pc := 23) 75 C dX10_isFull_23 (by decide) ?_
      exact j_zretc C dX10_isFull_75 rfl (Nat.le_of_ble_eq_true rfl) (Nat.le_of_ble_eq_true rfl) rfl
    ·
      refine j_iconst (pc := 18) 1 C dX10_isFull_18 (by decide) ?_
      refine j_goto (pc := 19) 75 C dX10_isFull_19 (by decide) ?_
      exact j_zretc C dX10_isFull_75 rfl (Nat.le_of_ble_eq_true rfl) (Nat.le_of_ble_eq_true rfl) rfl
theorem cR_isFull {l : Launch} {G : Gc} (hfl : l.stackTraces = false) (hW : Wok G wR 26)   (x1 : Int32) (S : St) : Ct l yX10_isFull (Cond.code yX10_isFull cX10_isFull 2 (some .boolean) :: tblG) 6 0 0 G wR 26 [.ref (gA G 0), .int x1] S (fR_isFull x1 S) := ct_of (own := RX10) hfl (by decide +kernel) rfl hW (Nat.le_of_ble_eq_true rfl) (fun E hE C => by subst hE; exact bR_isFull C   x1 S)
theorem rR_isFull {E : Ec} {G : Gc} {nL mc ms : Nat} {own : String} {cc : ByteArray} {L : Nat} {ret : Option FieldType} {k n pc ix : Nat} {loc : List (Nat × Value)} {rest : List Value}  {x1 : Int32} {S : St}  (C : JC E (VR G nL mc ms own) cc L ret) (hd : decode cc pc = .ok (.invokevirtual ix, 3)) (hq : Cond.methodLink own ix yX10_isFull ∈ tblG) (hL : 6 + 1 ≤ L) (hW : (rest.map fun v => v.category).sum ≤ 8) (hf : k + 0 ≤ mc ∧ n + 0 ≤ ms) : Rn E (VR G nL mc ms own) k n 0 0 pc loc (.int x1 :: .ref (gA G 0) :: rest) rest S (fR_isFull x1 S) := rn_V (ci := 10) 0 (V := VR G nL mc ms own) (As := [.int x1]) (Cq := (RX10, TX10, 53)) (cR_isFull C.flags C.wok  x1 S) knX10_isFull ⟨q_868, q_869⟩ rfl rfl C hd hq hL rfl rfl hW hf

theorem knX10_wrong : Kn yX10_wrong cX10_wrong 3 none 2 := ⟨q_872, q_815, by decide +kernel, by decide⟩
theorem bR_wrong {E : Ec} {G : Gc}    (C : JC E (VR G 3 0 0 RX10) cX10_wrong 1 none)    (x1 : Int32) (x2 : Int32) (S : St) : J E (VR G 3 0 0 RX10) 0 0 0 [(0, .ref (gA G 0)), (1, .int x1), (2, .int x2)] [] S (fR_wrong  x1 x2 S) := by
  unfold fR_wrong
  refine j_aload_n (pc := 0) 0 C dX10_wrong_0 rfl rfl ?_
  refine gR_0_5 (pc := 1) C dX10_wrong_1 q_826 ?_
  refine j_iconst (pc := 4) (-1) C dX10_wrong_4 (by decide) ?_
  refine j_icmp_eq (pc := 5) 9 C dX10_wrong_5 (by decide) ?_ ?_
  ·
    refine j_aload_n (pc := 9) 0 C dX10_wrong_9 rfl rfl ?_
    refine j_iload_n (pc := 10) 2 C dX10_wrong_10 rfl rfl ?_
    refine pR_0_5 (pc := 11) C dX10_wrong_11 q_826 ?_
    refine j_nxS (fun T1 => ?_)
    refine j_aload_n (pc := 14) 0 C dX10_wrong_14 rfl rfl ?_
    refine j_iload_n (pc := 15) 1 C dX10_wrong_15 rfl rfl ?_
    refine pR_0_6 (pc := 16) C dX10_wrong_16 q_871 ?_
    refine j_nxS (fun T2 => ?_)
    exact j_vret C dX10_wrong_19 rfl (Nat.le_of_ble_eq_true rfl) (Nat.le_of_ble_eq_true rfl)
  ·
    exact j_vret C dX10_wrong_8 rfl (Nat.le_of_ble_eq_true rfl) (Nat.le_of_ble_eq_true rfl)
theorem cR_wrong {l : Launch} {G : Gc} (hfl : l.stackTraces = false) (hW : Wok G wR 26)   (x1 : Int32) (x2 : Int32) (S : St) : Ct l yX10_wrong (Cond.code yX10_wrong cX10_wrong 3 none :: tblG) 1 0 0 G wR 26 [.ref (gA G 0), .int x1, .int x2] S (fR_wrong x1 x2 S) := ct_of (own := RX10) hfl (by decide +kernel) rfl hW (Nat.le_of_ble_eq_true rfl) (fun E hE C => by subst hE; exact bR_wrong C   x1 x2 S)
theorem rR_wrong {E : Ec} {G : Gc} {nL mc ms : Nat} {own : String} {cc : ByteArray} {L : Nat} {ret : Option FieldType} {k n pc ix : Nat} {loc : List (Nat × Value)} {rest : List Value}  {x1 : Int32} {x2 : Int32} {S : St}  (C : JC E (VR G nL mc ms own) cc L ret) (hd : decode cc pc = .ok (.invokevirtual ix, 3)) (hq : Cond.methodLink own ix yX10_wrong ∈ tblG) (hL : 1 + 1 ≤ L) (hW : (rest.map fun v => v.category).sum ≤ 8) (hf : k + 0 ≤ mc ∧ n + 0 ≤ ms) : Rn E (VR G nL mc ms own) k n 0 0 pc loc (.int x2 :: .int x1 :: .ref (gA G 0) :: rest) rest S (fR_wrong x1 x2 S) := rn_V (ci := 10) 0 (V := VR G nL mc ms own) (As := [.int x1, .int x2]) (Cq := (RX10, TX10, 53)) (cR_wrong C.flags C.wok  x1 x2 S) knX10_wrong ⟨q_873, q_874⟩ rfl rfl C hd hq hL rfl rfl hW hf

theorem knX10_result : Kn yX10_result cX10_result 2 (some .int) 1 := ⟨q_876, q_815, by decide +kernel, by decide⟩
theorem bR_result {E : Ec} {G : Gc}    (C : JC E (VR G 2 0 0 RX10) cX10_result 2 (some .int))    (x1 : Int32) (S : St) : J E (VR G 2 0 0 RX10) 0 0 0 [(0, .ref (gA G 0)), (1, .int x1)] [] S (fR_result  x1 S) := by
  unfold fR_result
  refine j_aload_n (pc := 0) 0 C dX10_result_0 rfl rfl ?_
  refine j_aload_n (pc := 1) 0 C dX10_result_1 rfl rfl ?_
  refine gR_0_5 (pc := 2) C dX10_result_2 q_826 ?_
  refine pR_0_8 (pc := 5) C dX10_result_5 q_823 ?_
  refine j_nxS (fun T1 => ?_)
  refine j_aload_n (pc := 8) 0 C dX10_result_8 rfl rfl ?_
  refine j_callI0 (pc := 9) C (rR_fine C dX10_result_9 q_843 (by omega) (Nat.le_of_ble_eq_true rfl) ⟨Nat.le_of_ble_eq_true rfl, Nat.le_of_ble_eq_true rfl⟩) ⟨Nat.le_of_ble_eq_true rfl, Nat.le_of_ble_eq_true rfl⟩ (fun r3 T2 => ?_)
  refine j_if_eq (pc := 12) 19 C dX10_result_12 (by decide) ?_ ?_
  ·
    refine j_aload_n (pc := 19) 0 C dX10_result_19 rfl rfl ?_
    refine gR_0_6 (pc := 20) C dX10_result_20 q_871 ?_
    refine j_bipush (pc := 23) 10 C dX10_result_23 (by decide) ?_
    refine j_isub (pc := 25) C dX10_result_25 ?_
    exact j_iret C dX10_result_26 rfl (Nat.le_of_ble_eq_true rfl) (Nat.le_of_ble_eq_true rfl)
  ·
    refine j_iload_n (pc := 15) 1 C dX10_result_15 rfl rfl ?_
    refine j_goto (pc := 16) 26 C dX10_result_16 (by decide) ?_
    exact j_iret C dX10_result_26 rfl (Nat.le_of_ble_eq_true rfl) (Nat.le_of_ble_eq_true rfl)
theorem cR_result {l : Launch} {G : Gc} (hfl : l.stackTraces = false) (hW : Wok G wR 26)   (x1 : Int32) (S : St) : Ct l yX10_result (Cond.code yX10_result cX10_result 2 (some .int) :: tblG) 2 0 0 G wR 26 [.ref (gA G 0), .int x1] S (fR_result x1 S) := ct_of (own := RX10) hfl (by decide +kernel) rfl hW (Nat.le_of_ble_eq_true rfl) (fun E hE C => by subst hE; exact bR_result C   x1 S)
theorem rR_result {E : Ec} {G : Gc} {nL mc ms : Nat} {own : String} {cc : ByteArray} {L : Nat} {ret : Option FieldType} {k n pc ix : Nat} {loc : List (Nat × Value)} {rest : List Value}  {x1 : Int32} {S : St}  (C : JC E (VR G nL mc ms own) cc L ret) (hd : decode cc pc = .ok (.invokevirtual ix, 3)) (hq : Cond.methodLink own ix yX10_result ∈ tblG) (hL : 2 + 1 ≤ L) (hW : (rest.map fun v => v.category).sum ≤ 8) (hf : k + 0 ≤ mc ∧ n + 0 ≤ ms) : Rn E (VR G nL mc ms own) k n 0 0 pc loc (.int x1 :: .ref (gA G 0) :: rest) rest S (fR_result x1 S) := rn_V (ci := 10) 0 (V := VR G nL mc ms own) (As := [.int x1]) (Cq := (RX10, TX10, 53)) (cR_result C.flags C.wok  x1 S) knX10_result ⟨q_877, q_878⟩ rfl rfl C hd hq hL rfl rfl hW hf

theorem knX10_copies : Kn yX10_copies cX10_copies 5 none 3 := ⟨q_886, q_815, by decide +kernel, by decide⟩
theorem bR_copies_3 {E : Ec} {G : Gc}    (C : JC E (VR G 5 0 0 RX10) cX10_copies 1 none)    : ∀ (n : Nat) (x3 : Int32) (x4 : Int32) (S : St), J E (VR G 5 0 0 RX10) 0 0 3 [(1, .ref (gA G 3)), (2, .ref (gA G 6)), (3, .int x3), (4, .int x4)] [] S (fR_copies_3  n x3 x4 S) := by
  intro n
  induction n with
  | zero => intro x3 x4 S; rw [fR_copies_3]; exact j_none
  | succ n ih =>
    intro x3 x4 S
    rw [fR_copies_3]
    refine j_iload (pc := 3) 3 C dX10_copies_3 rfl ?_
    refine j_iload_n (pc := 5) 2 C dX10_copies_5 rfl rfl ?_
    refine j_icmp_ge (pc := 6) 23 C dX10_copies_6 (by decide) ?_ ?_
    ·
      exact j_vret C dX10_copies_23 rfl (Nat.le_of_ble_eq_true rfl) (Nat.le_of_ble_eq_true rfl)
    ·
      refine j_aload_n (pc := 9) 1 C dX10_copies_9 rfl rfl ?_
      refine j_iload (pc := 10) 3 C dX10_copies_10 rfl ?_
      refine j_aload_n (pc := 12) 0 C dX10_copies_12 rfl rfl ?_
      refine j_iload (pc := 13) 3 C dX10_copies_13 rfl ?_
      refine aR_3 (pc := 15) C dX10_copies_15 ?_
      refine sR_6 (pc := 16) C dX10_copies_16 ?_
      refine j_nxS (fun T1 => ?_)
      refine j_iinc (pc := 17) 3 (x4 + 1) [(4, .int (x4 + 1)), (1, .ref (gA G 3)), (2, .ref (gA G 6)), (3, .int x3)] C dX10_copies_17 rfl rfl (Nat.le_of_ble_eq_true rfl) rfl ?_
      refine j_goto (pc := 20) 3 C dX10_copies_20 (by decide) ?_
      refine j_sub [1, 2, 3, 0] rfl ?_
      exact ih x3 (x4 + 1) T1
theorem bR_copies {E : Ec} {G : Gc}    (C : JC E (VR G 5 0 0 RX10) cX10_copies 1 none)    (x3 : Int32) (S : St) : J E (VR G 5 0 0 RX10) 0 0 0 [(0, .ref (gA G 0)), (1, .ref (gA G 3)), (2, .ref (gA G 6)), (3, .int x3)] [] S (fR_copies  x3 S) := by
  unfold fR_copies
  refine j_iconst (pc := 0) 0 C dX10_copies_0 (by decide) ?_
  refine j_istore (pc := 1) [(4, .int 0), (0, .ref (gA G 0)), (1, .ref (gA G 3)), (2, .ref (gA G 6)), (3, .int x3)] C dX10_copies_1 (Nat.le_of_ble_eq_true rfl) rfl ?_
  refine j_sub [2, 3, 4, 0] rfl ?_
  exact bR_copies_3 C  FU x3 0 S
theorem cR_copies {l : Launch} {G : Gc} (hfl : l.stackTraces = false) (hW : Wok G wR 26)   (x3 : Int32) (S : St) : Ct l yX10_copies (Cond.code yX10_copies cX10_copies 5 none :: tblG) 1 0 0 G wR 26 [.ref (gA G 0), .ref (gA G 3), .ref (gA G 6), .int x3] S (fR_copies x3 S) := ct_of (own := RX10) hfl (by decide +kernel) rfl hW (Nat.le_of_ble_eq_true rfl) (fun E hE C => by subst hE; exact bR_copies C   x3 S)
theorem rR_copies {E : Ec} {G : Gc} {nL mc ms : Nat} {own : String} {cc : ByteArray} {L : Nat} {ret : Option FieldType} {k n pc ix : Nat} {loc : List (Nat × Value)} {rest : List Value}  {x3 : Int32} {S : St}  (C : JC E (VR G nL mc ms own) cc L ret) (hd : decode cc pc = .ok (.invokevirtual ix, 3)) (hq : Cond.methodLink own ix yX10_copies ∈ tblG) (hL : 1 + 1 ≤ L) (hW : (rest.map fun v => v.category).sum ≤ 8) (hf : k + 0 ≤ mc ∧ n + 0 ≤ ms) : Rn E (VR G nL mc ms own) k n 0 0 pc loc (.int x3 :: .ref (gA G 6) :: .ref (gA G 3) :: .ref (gA G 0) :: rest) rest S (fR_copies x3 S) := rn_V (ci := 10) 0 (V := VR G nL mc ms own) (As := [.ref (gA G 3), .ref (gA G 6), .int x3]) (Cq := (RX10, TX10, 53)) (cR_copies C.flags C.wok  x3 S) knX10_copies ⟨q_887, q_888⟩ rfl rfl C hd hq hL rfl rfl hW hf

theorem bR_copies_v220_3 {E : Ec} {G : Gc}    (C : JC E (VR G 5 0 0 RX10) cX10_copies 1 none)    : ∀ (n : Nat) (x3 : Int32) (x4 : Int32) (S : St), J E (VR G 5 0 0 RX10) 0 0 3 [(1, .ref (gA G 4)), (2, .ref (gA G 7)), (3, .int x3), (4, .int x4)] [] S (fR_copies_v220_3  n x3 x4 S) := by
  intro n
  induction n with
  | zero => intro x3 x4 S; rw [fR_copies_v220_3]; exact j_none
  | succ n ih =>
    intro x3 x4 S
    rw [fR_copies_v220_3]
    refine j_iload (pc := 3) 3 C dX10_copies_3 rfl ?_
    refine j_iload_n (pc := 5) 2 C dX10_copies_5 rfl rfl ?_
    refine j_icmp_ge (pc := 6) 23 C dX10_copies_6 (by decide) ?_ ?_
    ·
      exact j_vret C dX10_copies_23 rfl (Nat.le_of_ble_eq_true rfl) (Nat.le_of_ble_eq_true rfl)
    ·
      refine j_aload_n (pc := 9) 1 C dX10_copies_9 rfl rfl ?_
      refine j_iload (pc := 10) 3 C dX10_copies_10 rfl ?_
      refine j_aload_n (pc := 12) 0 C dX10_copies_12 rfl rfl ?_
      refine j_iload (pc := 13) 3 C dX10_copies_13 rfl ?_
      refine aR_4 (pc := 15) C dX10_copies_15 ?_
      refine sR_7 (pc := 16) C dX10_copies_16 ?_
      refine j_nxS (fun T1 => ?_)
      refine j_iinc (pc := 17) 3 (x4 + 1) [(4, .int (x4 + 1)), (1, .ref (gA G 4)), (2, .ref (gA G 7)), (3, .int x3)] C dX10_copies_17 rfl rfl (Nat.le_of_ble_eq_true rfl) rfl ?_
      refine j_goto (pc := 20) 3 C dX10_copies_20 (by decide) ?_
      refine j_sub [1, 2, 3, 0] rfl ?_
      exact ih x3 (x4 + 1) T1
theorem bR_copies_v220 {E : Ec} {G : Gc}    (C : JC E (VR G 5 0 0 RX10) cX10_copies 1 none)    (x3 : Int32) (S : St) : J E (VR G 5 0 0 RX10) 0 0 0 [(0, .ref (gA G 0)), (1, .ref (gA G 4)), (2, .ref (gA G 7)), (3, .int x3)] [] S (fR_copies_v220  x3 S) := by
  unfold fR_copies_v220
  refine j_iconst (pc := 0) 0 C dX10_copies_0 (by decide) ?_
  refine j_istore (pc := 1) [(4, .int 0), (0, .ref (gA G 0)), (1, .ref (gA G 4)), (2, .ref (gA G 7)), (3, .int x3)] C dX10_copies_1 (Nat.le_of_ble_eq_true rfl) rfl ?_
  refine j_sub [2, 3, 4, 0] rfl ?_
  exact bR_copies_v220_3 C  FU x3 0 S
theorem cR_copies_v220 {l : Launch} {G : Gc} (hfl : l.stackTraces = false) (hW : Wok G wR 26)   (x3 : Int32) (S : St) : Ct l yX10_copies (Cond.code yX10_copies cX10_copies 5 none :: tblG) 1 0 0 G wR 26 [.ref (gA G 0), .ref (gA G 4), .ref (gA G 7), .int x3] S (fR_copies_v220 x3 S) := ct_of (own := RX10) hfl (by decide +kernel) rfl hW (Nat.le_of_ble_eq_true rfl) (fun E hE C => by subst hE; exact bR_copies_v220 C   x3 S)
theorem rR_copies_v220 {E : Ec} {G : Gc} {nL mc ms : Nat} {own : String} {cc : ByteArray} {L : Nat} {ret : Option FieldType} {k n pc ix : Nat} {loc : List (Nat × Value)} {rest : List Value}  {x3 : Int32} {S : St}  (C : JC E (VR G nL mc ms own) cc L ret) (hd : decode cc pc = .ok (.invokevirtual ix, 3)) (hq : Cond.methodLink own ix yX10_copies ∈ tblG) (hL : 1 + 1 ≤ L) (hW : (rest.map fun v => v.category).sum ≤ 8) (hf : k + 0 ≤ mc ∧ n + 0 ≤ ms) : Rn E (VR G nL mc ms own) k n 0 0 pc loc (.int x3 :: .ref (gA G 7) :: .ref (gA G 4) :: .ref (gA G 0) :: rest) rest S (fR_copies_v220 x3 S) := rn_V (ci := 10) 0 (V := VR G nL mc ms own) (As := [.ref (gA G 4), .ref (gA G 7), .int x3]) (Cq := (RX10, TX10, 53)) (cR_copies_v220 C.flags C.wok  x3 S) knX10_copies ⟨q_887, q_888⟩ rfl rfl C hd hq hL rfl rfl hW hf

theorem bR_copies_v221_3 {E : Ec} {G : Gc}    (C : JC E (VR G 5 0 0 RX10) cX10_copies 1 none)    : ∀ (n : Nat) (x3 : Int32) (x4 : Int32) (S : St), J E (VR G 5 0 0 RX10) 0 0 3 [(1, .ref (gA G 5)), (2, .ref (gA G 8)), (3, .int x3), (4, .int x4)] [] S (fR_copies_v221_3  n x3 x4 S) := by
  intro n
  induction n with
  | zero => intro x3 x4 S; rw [fR_copies_v221_3]; exact j_none
  | succ n ih =>
    intro x3 x4 S
    rw [fR_copies_v221_3]
    refine j_iload (pc := 3) 3 C dX10_copies_3 rfl ?_
    refine j_iload_n (pc := 5) 2 C dX10_copies_5 rfl rfl ?_
    refine j_icmp_ge (pc := 6) 23 C dX10_copies_6 (by decide) ?_ ?_
    ·
      exact j_vret C dX10_copies_23 rfl (Nat.le_of_ble_eq_true rfl) (Nat.le_of_ble_eq_true rfl)
    ·
      refine j_aload_n (pc := 9) 1 C dX10_copies_9 rfl rfl ?_
      refine j_iload (pc := 10) 3 C dX10_copies_10 rfl ?_
      refine j_aload_n (pc := 12) 0 C dX10_copies_12 rfl rfl ?_
      refine j_iload (pc := 13) 3 C dX10_copies_13 rfl ?_
      refine aR_5 (pc := 15) C dX10_copies_15 ?_
      refine sR_8 (pc := 16) C dX10_copies_16 ?_
      refine j_nxS (fun T1 => ?_)
      refine j_iinc (pc := 17) 3 (x4 + 1) [(4, .int (x4 + 1)), (1, .ref (gA G 5)), (2, .ref (gA G 8)), (3, .int x3)] C dX10_copies_17 rfl rfl (Nat.le_of_ble_eq_true rfl) rfl ?_
      refine j_goto (pc := 20) 3 C dX10_copies_20 (by decide) ?_
      refine j_sub [1, 2, 3, 0] rfl ?_
      exact ih x3 (x4 + 1) T1
theorem bR_copies_v221 {E : Ec} {G : Gc}    (C : JC E (VR G 5 0 0 RX10) cX10_copies 1 none)    (x3 : Int32) (S : St) : J E (VR G 5 0 0 RX10) 0 0 0 [(0, .ref (gA G 0)), (1, .ref (gA G 5)), (2, .ref (gA G 8)), (3, .int x3)] [] S (fR_copies_v221  x3 S) := by
  unfold fR_copies_v221
  refine j_iconst (pc := 0) 0 C dX10_copies_0 (by decide) ?_
  refine j_istore (pc := 1) [(4, .int 0), (0, .ref (gA G 0)), (1, .ref (gA G 5)), (2, .ref (gA G 8)), (3, .int x3)] C dX10_copies_1 (Nat.le_of_ble_eq_true rfl) rfl ?_
  refine j_sub [2, 3, 4, 0] rfl ?_
  exact bR_copies_v221_3 C  FU x3 0 S
theorem cR_copies_v221 {l : Launch} {G : Gc} (hfl : l.stackTraces = false) (hW : Wok G wR 26)   (x3 : Int32) (S : St) : Ct l yX10_copies (Cond.code yX10_copies cX10_copies 5 none :: tblG) 1 0 0 G wR 26 [.ref (gA G 0), .ref (gA G 5), .ref (gA G 8), .int x3] S (fR_copies_v221 x3 S) := ct_of (own := RX10) hfl (by decide +kernel) rfl hW (Nat.le_of_ble_eq_true rfl) (fun E hE C => by subst hE; exact bR_copies_v221 C   x3 S)
theorem rR_copies_v221 {E : Ec} {G : Gc} {nL mc ms : Nat} {own : String} {cc : ByteArray} {L : Nat} {ret : Option FieldType} {k n pc ix : Nat} {loc : List (Nat × Value)} {rest : List Value}  {x3 : Int32} {S : St}  (C : JC E (VR G nL mc ms own) cc L ret) (hd : decode cc pc = .ok (.invokevirtual ix, 3)) (hq : Cond.methodLink own ix yX10_copies ∈ tblG) (hL : 1 + 1 ≤ L) (hW : (rest.map fun v => v.category).sum ≤ 8) (hf : k + 0 ≤ mc ∧ n + 0 ≤ ms) : Rn E (VR G nL mc ms own) k n 0 0 pc loc (.int x3 :: .ref (gA G 8) :: .ref (gA G 5) :: .ref (gA G 0) :: rest) rest S (fR_copies_v221 x3 S) := rn_V (ci := 10) 0 (V := VR G nL mc ms own) (As := [.ref (gA G 5), .ref (gA G 8), .int x3]) (Cq := (RX10, TX10, 53)) (cR_copies_v221 C.flags C.wok  x3 S) knX10_copies ⟨q_887, q_888⟩ rfl rfl C hd hq hL rfl rfl hW hf

theorem knX10_sets : Kn yX10_sets cX10_sets 2 none 0 := ⟨q_900, q_815, by decide +kernel, by decide⟩
theorem bR_sets_122 {E : Ec} {G : Gc}    (C : JC E (VR G 2 0 0 RX10) cX10_sets 2 none)    : ∀ (n : Nat) (x1 : Int32) (S : St), J E (VR G 2 0 0 RX10) 0 0 122 [(0, .ref (gA G 0)), (1, .int x1)] [] S (fR_sets_122  n x1 S) := by
  intro n
  induction n with
  | zero => intro x1 S; rw [fR_sets_122]; exact j_none
  | succ n ih =>
    intro x1 S
    rw [fR_sets_122]
    refine j_iload_n (pc := 122) 1 C dX10_sets_122 rfl rfl ?_
    refine j_aload_n (pc := 123) 0 C dX10_sets_123 rfl rfl ?_
    refine gR_0_21 (pc := 124) C dX10_sets_124 q_881 ?_
    refine j_icmp_ge (pc := 127) 155 C dX10_sets_127 (by decide) ?_ ?_
    ·
      exact j_vret C dX10_sets_155 rfl (Nat.le_of_ble_eq_true rfl) (Nat.le_of_ble_eq_true rfl)
    ·
      refine j_aload_n (pc := 130) 0 C dX10_sets_130 rfl rfl ?_
      refine gR_0_40 (pc := 131) C dX10_sets_131 q_899 ?_
      refine j_bipush (pc := 134) 48 C dX10_sets_134 (by decide) ?_
      refine j_iload_n (pc := 136) 1 C dX10_sets_136 rfl rfl ?_
      refine j_iadd (pc := 137) C dX10_sets_137 ?_
      refine j_aload_n (pc := 138) 0 C dX10_sets_138 rfl rfl ?_
      refine gR_0_14 (pc := 139) C dX10_sets_139 q_891 ?_
      refine j_iconst (pc := 142) 2 C dX10_sets_142 (by decide) ?_
      refine j_iload_n (pc := 143) 1 C dX10_sets_143 rfl rfl ?_
      refine j_imul (pc := 144) C dX10_sets_144 ?_
      refine j_iconst (pc := 145) 1 C dX10_sets_145 (by decide) ?_
      refine j_iadd (pc := 146) C dX10_sets_146 ?_
      refine aR_7 (pc := 147) C dX10_sets_147 ?_
      refine sR_17 (pc := 148) C dX10_sets_148 ?_
      refine j_nxS (fun T1 => ?_)
      refine j_iinc (pc := 149) 1 (x1 + 1) [(1, .int (x1 + 1)), (0, .ref (gA G 0))] C dX10_sets_149 rfl rfl (Nat.le_of_ble_eq_true rfl) rfl ?_
      refine j_goto (pc := 152) 122 C dX10_sets_152 (by decide) ?_
      refine j_sub [1, 0] rfl ?_
      exact ih (x1 + 1) T1
theorem bR_sets_101 {E : Ec} {G : Gc}    (C : JC E (VR G 2 0 0 RX10) cX10_sets 2 none)    : ∀ (n : Nat) (x1 : Int32) (S : St), J E (VR G 2 0 0 RX10) 0 0 101 [(0, .ref (gA G 0)), (1, .int x1)] [] S (fR_sets_101  n x1 S) := by
  intro n
  induction n with
  | zero => intro x1 S; rw [fR_sets_101]; exact j_none
  | succ n ih =>
    intro x1 S
    rw [fR_sets_101]
    refine j_iload_n (pc := 101) 1 C dX10_sets_101 rfl rfl ?_
    refine j_bipush (pc := 102) 95 C dX10_sets_102 (by decide) ?_
    refine j_icmp_ge (pc := 104) 120 C dX10_sets_104 (by decide) ?_ ?_
    ·
      refine j_iconst (pc := 120) 0 C dX10_sets_120 (by decide) ?_
      refine j_istore_n (pc := 121) [(1, .int 0), (0, .ref (gA G 0))] C dX10_sets_121 rfl (Nat.le_of_ble_eq_true rfl) rfl ?_
      refine j_sub [1, 0] rfl ?_
      exact bR_sets_122 C  FU 0 S
    ·
      refine j_aload_n (pc := 107) 0 C dX10_sets_107 rfl rfl ?_
      refine gR_0_40 (pc := 108) C dX10_sets_108 q_899 ?_
      refine j_iload_n (pc := 111) 1 C dX10_sets_111 rfl rfl ?_
      refine j_iconst (pc := 112) 0 C dX10_sets_112 (by decide) ?_
      refine sR_17 (pc := 113) C dX10_sets_113 ?_
      refine j_nxS (fun T1 => ?_)
      refine j_iinc (pc := 114) 1 (x1 + 1) [(1, .int (x1 + 1)), (0, .ref (gA G 0))] C dX10_sets_114 rfl rfl (Nat.le_of_ble_eq_true rfl) rfl ?_
      refine j_goto (pc := 117) 101 C dX10_sets_117 (by decide) ?_
      refine j_sub [1, 0] rfl ?_
      exact ih (x1 + 1) T1
theorem bR_sets {E : Ec} {G : Gc}    (C : JC E (VR G 2 0 0 RX10) cX10_sets 2 none)     (S : St) : J E (VR G 2 0 0 RX10) 0 0 0 [(0, .ref (gA G 0))] [] S (fR_sets   S) := by
  unfold fR_sets
  refine j_aload_n (pc := 0) 0 C dX10_sets_0 rfl rfl ?_
  refine j_aload_n (pc := 1) 0 C dX10_sets_1 rfl rfl ?_
  refine gR_0_16 (pc := 2) C dX10_sets_2 q_832 ?_
  refine pR_0_20 (pc := 5) C dX10_sets_5 q_880 ?_
  refine j_nxS (fun T1 => ?_)
  refine j_aload_n (pc := 8) 0 C dX10_sets_8 rfl rfl ?_
  refine j_aload_n (pc := 9) 0 C dX10_sets_9 rfl rfl ?_
  refine gR_0_17 (pc := 10) C dX10_sets_10 q_833 ?_
  refine pR_0_21 (pc := 13) C dX10_sets_13 q_881 ?_
  refine j_nxS (fun T2 => ?_)
  refine j_aload_n (pc := 16) 0 C dX10_sets_16 rfl rfl ?_
  refine j_aload_n (pc := 17) 0 C dX10_sets_17 rfl rfl ?_
  refine gR_0_18 (pc := 18) C dX10_sets_18 q_834 ?_
  refine pR_0_22 (pc := 21) C dX10_sets_21 q_882 ?_
  refine j_nxS (fun T3 => ?_)
  refine j_aload_n (pc := 24) 0 C dX10_sets_24 rfl rfl ?_
  refine j_aload_n (pc := 25) 0 C dX10_sets_25 rfl rfl ?_
  refine gR_0_19 (pc := 26) C dX10_sets_26 q_835 ?_
  refine pR_0_23 (pc := 29) C dX10_sets_29 q_883 ?_
  refine j_nxS (fun T4 => ?_)
  refine j_aload_n (pc := 32) 0 C dX10_sets_32 rfl rfl ?_
  refine j_aload_n (pc := 33) 0 C dX10_sets_33 rfl rfl ?_
  refine gR_0_10 (pc := 34) C dX10_sets_34 q_884 ?_
  refine j_aload_n (pc := 37) 0 C dX10_sets_37 rfl rfl ?_
  refine gR_0_13 (pc := 38) C dX10_sets_38 q_885 ?_
  refine j_bipush (pc := 41) 16 C dX10_sets_41 (by decide) ?_
  refine j_callv0 (pc := 43) C (rR_copies C dX10_sets_43 q_889 (by omega) (Nat.le_of_ble_eq_true rfl) ⟨Nat.le_of_ble_eq_true rfl, Nat.le_of_ble_eq_true rfl⟩) ⟨Nat.le_of_ble_eq_true rfl, Nat.le_of_ble_eq_true rfl⟩ (fun T5 => ?_)
  refine j_aload_n (pc := 46) 0 C dX10_sets_46 rfl rfl ?_
  refine j_aload_n (pc := 47) 0 C dX10_sets_47 rfl rfl ?_
  refine gR_0_11 (pc := 48) C dX10_sets_48 q_890 ?_
  refine j_aload_n (pc := 51) 0 C dX10_sets_51 rfl rfl ?_
  refine gR_0_14 (pc := 52) C dX10_sets_52 q_891 ?_
  refine j_bipush (pc := 55) 12 C dX10_sets_55 (by decide) ?_
  refine j_callv0 (pc := 57) C (rR_copies_v220 C dX10_sets_57 q_889 (by omega) (Nat.le_of_ble_eq_true rfl) ⟨Nat.le_of_ble_eq_true rfl, Nat.le_of_ble_eq_true rfl⟩) ⟨Nat.le_of_ble_eq_true rfl, Nat.le_of_ble_eq_true rfl⟩ (fun T7 => ?_)
  refine j_aload_n (pc := 60) 0 C dX10_sets_60 rfl rfl ?_
  refine j_aload_n (pc := 61) 0 C dX10_sets_61 rfl rfl ?_
  refine gR_0_12 (pc := 62) C dX10_sets_62 q_892 ?_
  refine j_aload_n (pc := 65) 0 C dX10_sets_65 rfl rfl ?_
  refine gR_0_15 (pc := 66) C dX10_sets_66 q_893 ?_
  refine j_bipush (pc := 69) 40 C dX10_sets_69 (by decide) ?_
  refine j_callv0 (pc := 71) C (rR_copies_v221 C dX10_sets_71 q_889 (by omega) (Nat.le_of_ble_eq_true rfl) ⟨Nat.le_of_ble_eq_true rfl, Nat.le_of_ble_eq_true rfl⟩) ⟨Nat.le_of_ble_eq_true rfl, Nat.le_of_ble_eq_true rfl⟩ (fun T9 => ?_)
  refine j_aload_n (pc := 74) 0 C dX10_sets_74 rfl rfl ?_
  refine j_iconst (pc := 75) 0 C dX10_sets_75 (by decide) ?_
  refine pR_0_30 (pc := 76) C dX10_sets_76 q_894 ?_
  refine j_nxS (fun T11 => ?_)
  refine j_aload_n (pc := 79) 0 C dX10_sets_79 rfl rfl ?_
  refine j_iconst (pc := 80) 0 C dX10_sets_80 (by decide) ?_
  refine pR_0_45 (pc := 81) C dX10_sets_81 q_895 ?_
  refine j_nxS (fun T12 => ?_)
  refine j_aload_n (pc := 84) 0 C dX10_sets_84 rfl rfl ?_
  refine j_iconst (pc := 85) 0 C dX10_sets_85 (by decide) ?_
  refine pR_0_35 (pc := 86) C dX10_sets_86 q_896 ?_
  refine j_nxS (fun T13 => ?_)
  refine j_aload_n (pc := 89) 0 C dX10_sets_89 rfl rfl ?_
  refine j_iconst (pc := 90) 0 C dX10_sets_90 (by decide) ?_
  refine pR_0_52 (pc := 91) C dX10_sets_91 q_897 ?_
  refine j_nxS (fun T14 => ?_)
  refine j_aload_n (pc := 94) 0 C dX10_sets_94 rfl rfl ?_
  refine j_iconst (pc := 95) 0 C dX10_sets_95 (by decide) ?_
  refine pR_0_36 (pc := 96) C dX10_sets_96 q_898 ?_
  refine j_nxS (fun T15 => ?_)
  refine j_iconst (pc := 99) 0 C dX10_sets_99 (by decide) ?_
  refine j_istore_n (pc := 100) [(1, .int 0), (0, .ref (gA G 0))] C dX10_sets_100 rfl (Nat.le_of_ble_eq_true rfl) rfl ?_
  refine j_sub [1, 0] rfl ?_
  exact bR_sets_101 C  FU 0 T15
theorem cR_sets {l : Launch} {G : Gc} (hfl : l.stackTraces = false) (hW : Wok G wR 26)    (S : St) : Ct l yX10_sets (Cond.code yX10_sets cX10_sets 2 none :: tblG) 2 0 0 G wR 26 [.ref (gA G 0)] S (fR_sets  S) := ct_of (own := RX10) hfl (by decide +kernel) rfl hW (Nat.le_of_ble_eq_true rfl) (fun E hE C => by subst hE; exact bR_sets C    S)
theorem rR_sets {E : Ec} {G : Gc} {nL mc ms : Nat} {own : String} {cc : ByteArray} {L : Nat} {ret : Option FieldType} {k n pc ix : Nat} {loc : List (Nat × Value)} {rest : List Value}   {S : St}  (C : JC E (VR G nL mc ms own) cc L ret) (hd : decode cc pc = .ok (.invokevirtual ix, 3)) (hq : Cond.methodLink own ix yX10_sets ∈ tblG) (hL : 2 + 1 ≤ L) (hW : (rest.map fun v => v.category).sum ≤ 8) (hf : k + 0 ≤ mc ∧ n + 0 ≤ ms) : Rn E (VR G nL mc ms own) k n 0 0 pc loc (.ref (gA G 0) :: rest) rest S (fR_sets  S) := rn_V (ci := 10) 0 (V := VR G nL mc ms own) (As := []) (Cq := (RX10, TX10, 53)) (cR_sets C.flags C.wok   S) knX10_sets ⟨q_901, q_902⟩ rfl rfl C hd hq hL rfl rfl hW hf

theorem knX10_pass : Kn yX10_pass cX10_pass 1 none 0 := ⟨q_904, q_815, by decide +kernel, by decide⟩
theorem bR_pass_0 {E : Ec} {G : Gc}    (C : JC E (VR G 1 0 0 RX10) cX10_pass 2 none)    : ∀ (n : Nat)  (S : St), J E (VR G 1 0 0 RX10) 0 0 0 [(0, .ref (gA G 0))] [] S (fR_pass_0  n  S) := by
  intro n
  induction n with
  | zero => intro  S; rw [fR_pass_0]; exact j_none
  | succ n ih =>
    intro  S
    rw [fR_pass_0]
    refine j_aload_n (pc := 0) 0 C dX10_pass_0 rfl rfl ?_
    refine gR_0_4 (pc := 1) C dX10_pass_1 q_825 ?_
    refine j_aload_n (pc := 4) 0 C dX10_pass_4 rfl rfl ?_
    refine gR_0_3 (pc := 5) C dX10_pass_5 q_824 ?_
    refine j_icmp_ge (pc := 8) 39 C dX10_pass_8 (by decide) ?_ ?_
    ·
      exact j_vret C dX10_pass_39 rfl (Nat.le_of_ble_eq_true rfl) (Nat.le_of_ble_eq_true rfl)
    ·
      refine j_aload_n (pc := 11) 0 C dX10_pass_11 rfl rfl ?_
      refine gR_0_9 (pc := 12) C dX10_pass_12 q_813 ?_
      refine j_aload_n (pc := 15) 0 C dX10_pass_15 rfl rfl ?_
      refine gR_0_4 (pc := 16) C dX10_pass_16 q_825 ?_
      refine aR_2 (pc := 19) C dX10_pass_19 ?_
      refine j_callI0 (pc := 20) C (rR_isSmall C dX10_pass_20 q_854 (by omega) (Nat.le_of_ble_eq_true rfl) ⟨Nat.le_of_ble_eq_true rfl, Nat.le_of_ble_eq_true rfl⟩) ⟨Nat.le_of_ble_eq_true rfl, Nat.le_of_ble_eq_true rfl⟩ (fun r2 T1 => ?_)
      refine j_if_eq (pc := 23) 39 C dX10_pass_23 (by decide) ?_ ?_
      ·
        exact j_vret C dX10_pass_39 rfl (Nat.le_of_ble_eq_true rfl) (Nat.le_of_ble_eq_true rfl)
      ·
        refine j_aload_n (pc := 26) 0 C dX10_pass_26 rfl rfl ?_
        refine j_dup (pc := 27) C dX10_pass_27 rfl ?_
        refine gR_0_4 (pc := 28) C dX10_pass_28 q_825 ?_
        refine j_iconst (pc := 31) 1 C dX10_pass_31 (by decide) ?_
        refine j_iadd (pc := 32) C dX10_pass_32 ?_
        refine pR_0_4 (pc := 33) C dX10_pass_33 q_825 ?_
        refine j_nxS (fun T3 => ?_)
        refine j_goto (pc := 36) 0 C dX10_pass_36 (by decide) ?_
        exact ih  T3
theorem cR_pass {l : Launch} {G : Gc} (hfl : l.stackTraces = false) (hW : Wok G wR 26)    (S : St) : Ct l yX10_pass (Cond.code yX10_pass cX10_pass 1 none :: tblG) 2 0 0 G wR 26 [.ref (gA G 0)] S (fR_pass  S) := ct_of (own := RX10) hfl (by decide +kernel) rfl hW (Nat.le_of_ble_eq_true rfl) (fun E hE C => by subst hE; exact bR_pass_0 C  FU  S)
theorem rR_pass {E : Ec} {G : Gc} {nL mc ms : Nat} {own : String} {cc : ByteArray} {L : Nat} {ret : Option FieldType} {k n pc ix : Nat} {loc : List (Nat × Value)} {rest : List Value}   {S : St}  (C : JC E (VR G nL mc ms own) cc L ret) (hd : decode cc pc = .ok (.invokevirtual ix, 3)) (hq : Cond.methodLink own ix yX10_pass ∈ tblG) (hL : 2 + 1 ≤ L) (hW : (rest.map fun v => v.category).sum ≤ 8) (hf : k + 0 ≤ mc ∧ n + 0 ≤ ms) : Rn E (VR G nL mc ms own) k n 0 0 pc loc (.ref (gA G 0) :: rest) rest S (fR_pass  S) := rn_V (ci := 10) 0 (V := VR G nL mc ms own) (As := []) (Cq := (RX10, TX10, 53)) (cR_pass C.flags C.wok   S) knX10_pass ⟨q_905, q_906⟩ rfl rfl C hd hq hL rfl rfl hW hf

theorem knX10_isDigit : Kn yX10_isDigit cX10_isDigit 1 (some .boolean) 1 := ⟨q_908, q_815, by decide +kernel, by decide⟩
theorem bR_isDigit {E : Ec} {G : Gc}    (C : JC E (VR G 1 0 0 RX10) cX10_isDigit 1 (some .boolean))    (x0 : Int32) (S : St) : J E (VR G 1 0 0 RX10) 0 0 0 [(0, .int x0)] [] S (fR_isDigit  x0 S) := by
  unfold fR_isDigit
  refine j_iload_n (pc := 0) 0 C dX10_isDigit_0 rfl rfl ?_
  refine j_bipush (pc := 1) 48 C dX10_isDigit_1 (by decide) ?_
  refine j_icmp_lt (pc := 3) 16 C dX10_isDigit_3 (by decide) ?_ ?_
  ·
    refine j_iconst (pc := 16) 0 C dX10_isDigit_16 (by decide) ?_
    exact j_zretc C dX10_isDigit_17 rfl (Nat.le_of_ble_eq_true rfl) (Nat.le_of_ble_eq_true rfl) rfl
  ·
    refine j_iload_n (pc := 6) 0 C dX10_isDigit_6 rfl rfl ?_
    refine j_bipush (pc := 7) 57 C dX10_isDigit_7 (by decide) ?_
    refine j_icmp_gt (pc := 9) 16 C dX10_isDigit_9 (by decide) ?_ ?_
    ·
      refine j_iconst (pc := 16) 0 C dX10_isDigit_16 (by decide) ?_
      exact j_zretc C dX10_isDigit_17 rfl (Nat.le_of_ble_eq_true rfl) (Nat.le_of_ble_eq_true rfl) rfl
    ·
      refine j_iconst (pc := 12) 1 C dX10_isDigit_12 (by decide) ?_
      refine j_goto (pc := 13) 17 C dX10_isDigit_13 (by decide) ?_
      exact j_zretc C dX10_isDigit_17 rfl (Nat.le_of_ble_eq_true rfl) (Nat.le_of_ble_eq_true rfl) rfl
theorem cR_isDigit {l : Launch} {G : Gc} (hfl : l.stackTraces = false) (hW : Wok G wR 26)   (x0 : Int32) (S : St) : Ct l yX10_isDigit (Cond.code yX10_isDigit cX10_isDigit 1 (some .boolean) :: tblG) 1 0 0 G wR 26 [.int x0] S (fR_isDigit x0 S) := ct_of (own := RX10) hfl (by decide +kernel) rfl hW (Nat.le_of_ble_eq_true rfl) (fun E hE C => by subst hE; exact bR_isDigit C   x0 S)
theorem rR_isDigit {E : Ec} {G : Gc} {nL mc ms : Nat} {own : String} {cc : ByteArray} {L : Nat} {ret : Option FieldType} {k n pc ix : Nat} {loc : List (Nat × Value)} {rest : List Value}  {x0 : Int32} {S : St}  (C : JC E (VR G nL mc ms own) cc L ret) (hd : decode cc pc = .ok (.invokestatic ix, 3)) (hq : Cond.methodLink own ix yX10_isDigit ∈ tblG) (hL : 1 + 1 ≤ L) (hW : (rest.map fun v => v.category).sum ≤ 8) (hf : k + 0 ≤ mc ∧ n + 0 ≤ ms) : Rn E (VR G nL mc ms own) k n 0 0 pc loc (.int x0 :: rest) rest S (fR_isDigit x0 S) := rn_S (V := VR G nL mc ms own) (As := [.int x0]) (cR_isDigit C.flags C.wok  x0 S) knX10_isDigit q_909  C hd hq hL rfl rfl hW hf

theorem knX10_readNumber : Kn yX10_readNumber cX10_readNumber 6 (some .int) 2 := ⟨q_911, q_815, by decide +kernel, by decide⟩
theorem bR_readNumber_126 {E : Ec} {G : Gc}    (C : JC E (VR G 6 0 0 RX10) cX10_readNumber 2 (some .int))    (x4 : Int32) (S : St) : J E (VR G 6 0 0 RX10) 0 0 126 [(0, .ref (gA G 0)), (4, .int x4)] [] S (fR_readNumber_126  x4 S) := by
  unfold fR_readNumber_126
  refine j_aload_n (pc := 126) 0 C dX10_readNumber_126 rfl rfl ?_
  refine j_iconst (pc := 127) 2 C dX10_readNumber_127 (by decide) ?_
  refine j_iload (pc := 128) 1 C dX10_readNumber_128 rfl ?_
  refine j_callv0 (pc := 130) C (rR_wrong C dX10_readNumber_130 q_875 (by omega) (Nat.le_of_ble_eq_true rfl) ⟨Nat.le_of_ble_eq_true rfl, Nat.le_of_ble_eq_true rfl⟩) ⟨Nat.le_of_ble_eq_true rfl, Nat.le_of_ble_eq_true rfl⟩ (fun T1 => ?_)
  refine j_iconst (pc := 133) 0 C dX10_readNumber_133 (by decide) ?_
  exact j_iret C dX10_readNumber_134 rfl (Nat.le_of_ble_eq_true rfl) (Nat.le_of_ble_eq_true rfl)
theorem bR_readNumber_114 {E : Ec} {G : Gc}    (C : JC E (VR G 6 0 0 RX10) cX10_readNumber 2 (some .int))    (x1 : Int32) (x2 : Int32) (x4 : Int32) (x5 : Int32) (S : St) : J E (VR G 6 0 0 RX10) 0 0 114 [(0, .ref (gA G 0)), (1, .int x1), (2, .int x2), (4, .int x4), (5, .int x5)] [] S (fR_readNumber_114  x1 x2 x4 x5 S) := by
  unfold fR_readNumber_114
  refine j_iload (pc := 114) 4 C dX10_readNumber_114 rfl ?_
  refine j_iload_n (pc := 116) 1 C dX10_readNumber_116 rfl rfl ?_
  refine j_icmp_lt (pc := 117) 126 C dX10_readNumber_117 (by decide) ?_ ?_
  ·
    refine j_sub [0, 3] rfl ?_
    exact bR_readNumber_126 C  x4 S
  ·
    refine j_iload (pc := 120) 4 C dX10_readNumber_120 rfl ?_
    refine j_iload_n (pc := 122) 2 C dX10_readNumber_122 rfl rfl ?_
    refine j_icmp_le (pc := 123) 135 C dX10_readNumber_123 (by decide) ?_ ?_
    ·
      refine j_iload (pc := 135) 4 C dX10_readNumber_135 rfl ?_
      exact j_iret C dX10_readNumber_137 rfl (Nat.le_of_ble_eq_true rfl) (Nat.le_of_ble_eq_true rfl)
    ·
      refine j_sub [0, 3] rfl ?_
      exact bR_readNumber_126 C  x4 S
theorem bR_readNumber_99 {E : Ec} {G : Gc}   {K41 : Int32 → Int32 → Int32 → Int32 → St → Oz} (C : JC E (VR G 6 0 0 RX10) cX10_readNumber 2 (some .int))   (hK41 : ∀ (x1 : Int32) (x2 : Int32) (x4 : Int32) (x5 : Int32) (S : St), J E (VR G 6 0 0 RX10) 0 0 41 [(0, .ref (gA G 0)), (1, .int x1), (2, .int x2), (4, .int x4), (5, .int x5)] [] S (K41 x1 x2 x4 x5 S)) (x1 : Int32) (x2 : Int32) (x4 : Int32) (s0 : Int32) (S : St) : J E (VR G 6 0 0 RX10) 0 0 99 [(0, .ref (gA G 0)), (1, .int x1), (2, .int x2), (4, .int x4)] [.int s0] S (fR_readNumber_99 K41 x1 x2 x4 s0 S) := by
  unfold fR_readNumber_99
  refine j_istore (pc := 99) [(5, .int s0), (0, .ref (gA G 0)), (1, .int x1), (2, .int x2), (4, .int x4)] C dX10_readNumber_99 (Nat.le_of_ble_eq_true rfl) rfl ?_
  refine j_aload_n (pc := 101) 1 C dX10_readNumber_101 rfl rfl ?_
  refine j_dup (pc := 102) C dX10_readNumber_102 rfl ?_
  refine gR_0_4 (pc := 103) C dX10_readNumber_103 q_825 ?_
  refine j_iconst (pc := 106) 1 C dX10_readNumber_106 (by decide) ?_
  refine j_iadd (pc := 107) C dX10_readNumber_107 ?_
  refine pR_0_4 (pc := 108) C dX10_readNumber_108 q_825 ?_
  refine j_nxS (fun T1 => ?_)
  refine j_goto (pc := 111) 41 C dX10_readNumber_111 (by decide) ?_
  refine j_sub [1, 2, 3, 4, 0] rfl ?_
  exact hK41 x1 x2 x4 s0 T1
theorem bR_readNumber_41 {E : Ec} {G : Gc}    (C : JC E (VR G 6 0 0 RX10) cX10_readNumber 2 (some .int))    : ∀ (n : Nat) (x1 : Int32) (x2 : Int32) (x4 : Int32) (x5 : Int32) (S : St), J E (VR G 6 0 0 RX10) 0 0 41 [(0, .ref (gA G 0)), (1, .int x1), (2, .int x2), (4, .int x4), (5, .int x5)] [] S (fR_readNumber_41  n x1 x2 x4 x5 S) := by
  intro n
  induction n with
  | zero => intro x1 x2 x4 x5 S; rw [fR_readNumber_41]; exact j_none
  | succ n ih =>
    intro x1 x2 x4 x5 S
    rw [fR_readNumber_41]
    refine j_aload_n (pc := 41) 0 C dX10_readNumber_41 rfl rfl ?_
    refine gR_0_4 (pc := 42) C dX10_readNumber_42 q_825 ?_
    refine j_aload_n (pc := 45) 0 C dX10_readNumber_45 rfl rfl ?_
    refine gR_0_3 (pc := 46) C dX10_readNumber_46 q_824 ?_
    refine j_icmp_ge (pc := 49) 114 C dX10_readNumber_49 (by decide) ?_ ?_
    ·
      exact bR_readNumber_114 C  x1 x2 x4 x5 S
    ·
      refine j_aload_n (pc := 52) 0 C dX10_readNumber_52 rfl rfl ?_
      refine gR_0_9 (pc := 53) C dX10_readNumber_53 q_813 ?_
      refine j_aload_n (pc := 56) 0 C dX10_readNumber_56 rfl rfl ?_
      refine gR_0_4 (pc := 57) C dX10_readNumber_57 q_825 ?_
      refine aR_2 (pc := 60) C dX10_readNumber_60 ?_
      refine j_callI0 (pc := 61) C (rR_isDigit C dX10_readNumber_61 q_910 (by omega) (Nat.le_of_ble_eq_true rfl) ⟨Nat.le_of_ble_eq_true rfl, Nat.le_of_ble_eq_true rfl⟩) ⟨Nat.le_of_ble_eq_true rfl, Nat.le_of_ble_eq_true rfl⟩ (fun r2 T1 => ?_)
      refine j_if_eq (pc := 64) 114 C dX10_readNumber_64 (by decide) ?_ ?_
      ·
        exact bR_readNumber_114 C  x1 x2 x4 x5 T1
      ·
        refine j_iload (pc := 67) 4 C dX10_readNumber_67 rfl ?_
        refine j_sipush (pc := 69) 9999 C dX10_readNumber_69 (by decide) ?_
        refine j_icmp_le (pc := 72) 81 C dX10_readNumber_72 (by decide) ?_ ?_
        ·
          refine j_bipush (pc := 81) 10 C dX10_readNumber_81 (by decide) ?_
          refine j_iload (pc := 83) 4 C dX10_readNumber_83 rfl ?_
          refine j_imul (pc := 85) C dX10_readNumber_85 ?_
          refine j_aload_n (pc := 86) 0 C dX10_readNumber_86 rfl rfl ?_
          refine gR_0_9 (pc := 87) C dX10_readNumber_87 q_813 ?_
          refine j_aload_n (pc := 90) 0 C dX10_readNumber_90 rfl rfl ?_
          refine gR_0_4 (pc := 91) C dX10_readNumber_91 q_825 ?_
          refine aR_2 (pc := 94) C dX10_readNumber_94 ?_
          refine j_iadd (pc := 95) C dX10_readNumber_95 ?_
          refine j_bipush (pc := 96) 48 C dX10_readNumber_96 (by decide) ?_
          refine j_isub (pc := 98) C dX10_readNumber_98 ?_
          refine j_sub [0, 1, 2, 3] rfl ?_
          exact bR_readNumber_99 C ih x1 x2 x4 (((10 * x5) + (rA T1 2 (T1.1 3))) - 48) T1
        ·
          refine j_sipush (pc := 75) 10000 C dX10_readNumber_75 (by decide) ?_
          refine j_goto (pc := 78) 99 C dX10_readNumber_78 (by decide) ?_
          refine j_sub [0, 1, 2, 3] rfl ?_
          exact bR_readNumber_99 C ih x1 x2 x4 10000 T1
theorem bR_readNumber {E : Ec} {G : Gc}    (C : JC E (VR G 6 0 0 RX10) cX10_readNumber 2 (some .int))    (x1 : Int32) (x2 : Int32) (S : St) : J E (VR G 6 0 0 RX10) 0 0 0 [(0, .ref (gA G 0)), (1, .int x1), (2, .int x2)] [] S (fR_readNumber  x1 x2 S) := by
  unfold fR_readNumber
  refine j_aload_n (pc := 0) 0 C dX10_readNumber_0 rfl rfl ?_
  refine j_callI0 (pc := 1) C (rR_fine C dX10_readNumber_1 q_843 (by omega) (Nat.le_of_ble_eq_true rfl) ⟨Nat.le_of_ble_eq_true rfl, Nat.le_of_ble_eq_true rfl⟩) ⟨Nat.le_of_ble_eq_true rfl, Nat.le_of_ble_eq_true rfl⟩ (fun r2 T1 => ?_)
  refine j_if_ne (pc := 4) 9 C dX10_readNumber_4 (by decide) ?_ ?_
  ·
    refine j_aload_n (pc := 9) 0 C dX10_readNumber_9 rfl rfl ?_
    refine j_callI0 (pc := 10) C (rR_here C dX10_readNumber_10 q_847 (by omega) (Nat.le_of_ble_eq_true rfl) ⟨Nat.le_of_ble_eq_true rfl, Nat.le_of_ble_eq_true rfl⟩) ⟨Nat.le_of_ble_eq_true rfl, Nat.le_of_ble_eq_true rfl⟩ (fun r4 T3 => ?_)
    refine j_istore_n (pc := 13) [(3, .int r4), (0, .ref (gA G 0)), (1, .int x1), (2, .int x2)] C dX10_readNumber_13 rfl (Nat.le_of_ble_eq_true rfl) rfl ?_
    refine j_aload_n (pc := 14) 1 C dX10_readNumber_14 rfl rfl ?_
    refine gR_0_4 (pc := 15) C dX10_readNumber_15 q_825 ?_
    refine j_nxI (fun v5 => ?_)
    refine j_istore (pc := 18) [(4, .int v5), (3, .int r4), (0, .ref (gA G 0)), (1, .int x1), (2, .int x2)] C dX10_readNumber_18 (Nat.le_of_ble_eq_true rfl) rfl ?_
    refine j_iconst (pc := 20) 0 C dX10_readNumber_20 (by decide) ?_
    refine j_istore (pc := 21) [(5, .int 0), (4, .int v5), (3, .int r4), (0, .ref (gA G 0)), (1, .int x1), (2, .int x2)] C dX10_readNumber_21 (Nat.le_of_ble_eq_true rfl) rfl ?_
    refine j_iload_n (pc := 23) 2 C dX10_readNumber_23 rfl rfl ?_
    refine j_callI0 (pc := 24) C (rR_isDigit C dX10_readNumber_24 q_910 (by omega) (Nat.le_of_ble_eq_true rfl) ⟨Nat.le_of_ble_eq_true rfl, Nat.le_of_ble_eq_true rfl⟩) ⟨Nat.le_of_ble_eq_true rfl, Nat.le_of_ble_eq_true rfl⟩ (fun r7 T6 => ?_)
    refine j_if_ne (pc := 27) 41 C dX10_readNumber_27 (by decide) ?_ ?_
    ·
      refine j_sub [3, 4, 5, 1, 0] rfl ?_
      exact bR_readNumber_41 C  FU x1 x2 v5 0 T6
    ·
      refine j_aload_n (pc := 30) 3 C dX10_readNumber_30 rfl rfl ?_
      refine j_iconst (pc := 31) 1 C dX10_readNumber_31 (by decide) ?_
      refine j_aload_n (pc := 32) 3 C dX10_readNumber_32 rfl rfl ?_
      refine gR_0_4 (pc := 33) C dX10_readNumber_33 q_825 ?_
      refine j_callv0 (pc := 36) C (rR_wrong C dX10_readNumber_36 q_875 (by omega) (Nat.le_of_ble_eq_true rfl) ⟨Nat.le_of_ble_eq_true rfl, Nat.le_of_ble_eq_true rfl⟩) ⟨Nat.le_of_ble_eq_true rfl, Nat.le_of_ble_eq_true rfl⟩ (fun T8 => ?_)
      refine j_iconst (pc := 39) 0 C dX10_readNumber_39 (by decide) ?_
      exact j_iret C dX10_readNumber_40 rfl (Nat.le_of_ble_eq_true rfl) (Nat.le_of_ble_eq_true rfl)
  ·
    refine j_iconst (pc := 7) 0 C dX10_readNumber_7 (by decide) ?_
    exact j_iret C dX10_readNumber_8 rfl (Nat.le_of_ble_eq_true rfl) (Nat.le_of_ble_eq_true rfl)
theorem cR_readNumber {l : Launch} {G : Gc} (hfl : l.stackTraces = false) (hW : Wok G wR 26)   (x1 : Int32) (x2 : Int32) (S : St) : Ct l yX10_readNumber (Cond.code yX10_readNumber cX10_readNumber 6 (some .int) :: tblG) 2 0 0 G wR 26 [.ref (gA G 0), .int x1, .int x2] S (fR_readNumber x1 x2 S) := ct_of (own := RX10) hfl (by decide +kernel) rfl hW (Nat.le_of_ble_eq_true rfl) (fun E hE C => by subst hE; exact bR_readNumber C   x1 x2 S)
theorem rR_readNumber {E : Ec} {G : Gc} {nL mc ms : Nat} {own : String} {cc : ByteArray} {L : Nat} {ret : Option FieldType} {k n pc ix : Nat} {loc : List (Nat × Value)} {rest : List Value}  {x1 : Int32} {x2 : Int32} {S : St}  (C : JC E (VR G nL mc ms own) cc L ret) (hd : decode cc pc = .ok (.invokevirtual ix, 3)) (hq : Cond.methodLink own ix yX10_readNumber ∈ tblG) (hL : 2 + 1 ≤ L) (hW : (rest.map fun v => v.category).sum ≤ 8) (hf : k + 0 ≤ mc ∧ n + 0 ≤ ms) : Rn E (VR G nL mc ms own) k n 0 0 pc loc (.int x2 :: .int x1 :: .ref (gA G 0) :: rest) rest S (fR_readNumber x1 x2 S) := rn_V (ci := 10) 0 (V := VR G nL mc ms own) (As := [.int x1, .int x2]) (Cq := (RX10, TX10, 53)) (cR_readNumber C.flags C.wok  x1 x2 S) knX10_readNumber ⟨q_912, q_913⟩ rfl rfl C hd hq hL rfl rfl hW hf

theorem knX10_readRow : Kn yX10_readRow cX10_readRow 2 none 1 := ⟨q_915, q_815, by decide +kernel, by decide⟩
theorem bR_readRow {E : Ec} {G : Gc}    (C : JC E (VR G 2 0 0 RX10) cX10_readRow 6 none)    (x1 : Int32) (S : St) : J E (VR G 2 0 0 RX10) 0 0 0 [(0, .ref (gA G 0)), (1, .int x1)] [] S (fR_readRow  x1 S) := by
  unfold fR_readRow
  refine j_iload_n (pc := 0) 1 C dX10_readRow_0 rfl rfl ?_
  refine j_ldcS (pc := 1) 22 C dX10_readRow_1 rfl rfl rfl ?_
  refine j_callI0 (pc := 3) C (rR_of (by decide) C dX10_readRow_3 q_863 (by omega) (Nat.le_of_ble_eq_true rfl) ⟨Nat.le_of_ble_eq_true rfl, Nat.le_of_ble_eq_true rfl⟩) ⟨Nat.le_of_ble_eq_true rfl, Nat.le_of_ble_eq_true rfl⟩ (fun r2 T1 => ?_)
  refine j_icmp_ne (pc := 6) 60 C dX10_readRow_6 (by decide) ?_ ?_
  ·
    refine j_iload_n (pc := 60) 1 C dX10_readRow_60 rfl rfl ?_
    refine j_ldcS (pc := 61) 23 C dX10_readRow_61 rfl rfl rfl ?_
    refine j_callI0 (pc := 63) C (rR_of_v212 (by decide) C dX10_readRow_63 q_863 (by omega) (Nat.le_of_ble_eq_true rfl) ⟨Nat.le_of_ble_eq_true rfl, Nat.le_of_ble_eq_true rfl⟩) ⟨Nat.le_of_ble_eq_true rfl, Nat.le_of_ble_eq_true rfl⟩ (fun r4 T3 => ?_)
    refine j_icmp_ne (pc := 66) 121 C dX10_readRow_66 (by decide) ?_ ?_
    ·
      refine j_iload_n (pc := 121) 1 C dX10_readRow_121 rfl rfl ?_
      refine j_ldcS (pc := 122) 24 C dX10_readRow_122 rfl rfl rfl ?_
      refine j_callI0 (pc := 124) C (rR_of_v213 (by decide) C dX10_readRow_124 q_863 (by omega) (Nat.le_of_ble_eq_true rfl) ⟨Nat.le_of_ble_eq_true rfl, Nat.le_of_ble_eq_true rfl⟩) ⟨Nat.le_of_ble_eq_true rfl, Nat.le_of_ble_eq_true rfl⟩ (fun r6 T5 => ?_)
      refine j_icmp_ne (pc := 127) 228 C dX10_readRow_127 (by decide) ?_ ?_
      ·
        refine j_aload_n (pc := 228) 0 C dX10_readRow_228 rfl rfl ?_
        refine j_aload_n (pc := 229) 0 C dX10_readRow_229 rfl rfl ?_
        refine j_iconst (pc := 230) 0 C dX10_readRow_230 (by decide) ?_
        refine j_bipush (pc := 231) 9 C dX10_readRow_231 (by decide) ?_
        refine j_callI0 (pc := 233) C (rR_readNumber C dX10_readRow_233 q_914 (by omega) (Nat.le_of_ble_eq_true rfl) ⟨Nat.le_of_ble_eq_true rfl, Nat.le_of_ble_eq_true rfl⟩) ⟨Nat.le_of_ble_eq_true rfl, Nat.le_of_ble_eq_true rfl⟩ (fun r8 T7 => ?_)
        refine pR_0_19 (pc := 236) C dX10_readRow_236 q_835 ?_
        refine j_nxS (fun T9 => ?_)
        exact j_vret C dX10_readRow_239 rfl (Nat.le_of_ble_eq_true rfl) (Nat.le_of_ble_eq_true rfl)
      ·
        refine j_aload_n (pc := 130) 0 C dX10_readRow_130 rfl rfl ?_
        refine gR_0_12 (pc := 131) C dX10_readRow_131 q_892 ?_
        refine j_iconst (pc := 134) 4 C dX10_readRow_134 (by decide) ?_
        refine j_aload_n (pc := 135) 0 C dX10_readRow_135 rfl rfl ?_
        refine gR_0_18 (pc := 136) C dX10_readRow_136 q_834 ?_
        refine j_imul (pc := 139) C dX10_readRow_139 ?_
        refine j_aload_n (pc := 140) 0 C dX10_readRow_140 rfl rfl ?_
        refine j_iconst (pc := 141) 0 C dX10_readRow_141 (by decide) ?_
        refine j_aload_n (pc := 142) 0 C dX10_readRow_142 rfl rfl ?_
        refine gR_0_17 (pc := 143) C dX10_readRow_143 q_833 ?_
        refine j_iconst (pc := 146) 1 C dX10_readRow_146 (by decide) ?_
        refine j_isub (pc := 147) C dX10_readRow_147 ?_
        refine j_callI0 (pc := 148) C (rR_readNumber C dX10_readRow_148 q_914 (by omega) (Nat.le_of_ble_eq_true rfl) ⟨Nat.le_of_ble_eq_true rfl, Nat.le_of_ble_eq_true rfl⟩) ⟨Nat.le_of_ble_eq_true rfl, Nat.le_of_ble_eq_true rfl⟩ (fun r11 T10 => ?_)
        refine sR_5 (pc := 151) C dX10_readRow_151 ?_
        refine j_nxS (fun T12 => ?_)
        refine j_aload_n (pc := 152) 0 C dX10_readRow_152 rfl rfl ?_
        refine gR_0_12 (pc := 153) C dX10_readRow_153 q_892 ?_
        refine j_iconst (pc := 156) 4 C dX10_readRow_156 (by decide) ?_
        refine j_aload_n (pc := 157) 0 C dX10_readRow_157 rfl rfl ?_
        refine gR_0_18 (pc := 158) C dX10_readRow_158 q_834 ?_
        refine j_imul (pc := 161) C dX10_readRow_161 ?_
        refine j_iconst (pc := 162) 1 C dX10_readRow_162 (by decide) ?_
        refine j_iadd (pc := 163) C dX10_readRow_163 ?_
        refine j_aload_n (pc := 164) 0 C dX10_readRow_164 rfl rfl ?_
        refine j_iconst (pc := 165) 0 C dX10_readRow_165 (by decide) ?_
        refine j_aload_n (pc := 166) 0 C dX10_readRow_166 rfl rfl ?_
        refine gR_0_16 (pc := 167) C dX10_readRow_167 q_832 ?_
        refine j_iconst (pc := 170) 1 C dX10_readRow_170 (by decide) ?_
        refine j_isub (pc := 171) C dX10_readRow_171 ?_
        refine j_callI0 (pc := 172) C (rR_readNumber C dX10_readRow_172 q_914 (by omega) (Nat.le_of_ble_eq_true rfl) ⟨Nat.le_of_ble_eq_true rfl, Nat.le_of_ble_eq_true rfl⟩) ⟨Nat.le_of_ble_eq_true rfl, Nat.le_of_ble_eq_true rfl⟩ (fun r14 T13 => ?_)
        refine sR_5 (pc := 175) C dX10_readRow_175 ?_
        refine j_nxS (fun T15 => ?_)
        refine j_aload_n (pc := 176) 0 C dX10_readRow_176 rfl rfl ?_
        refine gR_0_12 (pc := 177) C dX10_readRow_177 q_892 ?_
        refine j_iconst (pc := 180) 4 C dX10_readRow_180 (by decide) ?_
        refine j_aload_n (pc := 181) 0 C dX10_readRow_181 rfl rfl ?_
        refine gR_0_18 (pc := 182) C dX10_readRow_182 q_834 ?_
        refine j_imul (pc := 185) C dX10_readRow_185 ?_
        refine j_iconst (pc := 186) 2 C dX10_readRow_186 (by decide) ?_
        refine j_iadd (pc := 187) C dX10_readRow_187 ?_
        refine j_aload_n (pc := 188) 0 C dX10_readRow_188 rfl rfl ?_
        refine j_iconst (pc := 189) 0 C dX10_readRow_189 (by decide) ?_
        refine j_iconst (pc := 190) 3 C dX10_readRow_190 (by decide) ?_
        refine j_callI0 (pc := 191) C (rR_readNumber C dX10_readRow_191 q_914 (by omega) (Nat.le_of_ble_eq_true rfl) ⟨Nat.le_of_ble_eq_true rfl, Nat.le_of_ble_eq_true rfl⟩) ⟨Nat.le_of_ble_eq_true rfl, Nat.le_of_ble_eq_true rfl⟩ (fun r17 T16 => ?_)
        refine sR_5 (pc := 194) C dX10_readRow_194 ?_
        refine j_nxS (fun T18 => ?_)
        refine j_aload_n (pc := 195) 0 C dX10_readRow_195 rfl rfl ?_
        refine gR_0_12 (pc := 196) C dX10_readRow_196 q_892 ?_
        refine j_iconst (pc := 199) 4 C dX10_readRow_199 (by decide) ?_
        refine j_aload_n (pc := 200) 0 C dX10_readRow_200 rfl rfl ?_
        refine gR_0_18 (pc := 201) C dX10_readRow_201 q_834 ?_
        refine j_imul (pc := 204) C dX10_readRow_204 ?_
        refine j_iconst (pc := 205) 3 C dX10_readRow_205 (by decide) ?_
        refine j_iadd (pc := 206) C dX10_readRow_206 ?_
        refine j_aload_n (pc := 207) 0 C dX10_readRow_207 rfl rfl ?_
        refine j_iconst (pc := 208) 0 C dX10_readRow_208 (by decide) ?_
        refine j_bipush (pc := 209) 40 C dX10_readRow_209 (by decide) ?_
        refine j_callI0 (pc := 211) C (rR_readNumber C dX10_readRow_211 q_914 (by omega) (Nat.le_of_ble_eq_true rfl) ⟨Nat.le_of_ble_eq_true rfl, Nat.le_of_ble_eq_true rfl⟩) ⟨Nat.le_of_ble_eq_true rfl, Nat.le_of_ble_eq_true rfl⟩ (fun r20 T19 => ?_)
        refine sR_5 (pc := 214) C dX10_readRow_214 ?_
        refine j_nxS (fun T21 => ?_)
        refine j_aload_n (pc := 215) 0 C dX10_readRow_215 rfl rfl ?_
        refine j_dup (pc := 216) C dX10_readRow_216 rfl ?_
        refine gR_0_18 (pc := 217) C dX10_readRow_217 q_834 ?_
        refine j_iconst (pc := 220) 1 C dX10_readRow_220 (by decide) ?_
        refine j_iadd (pc := 221) C dX10_readRow_221 ?_
        refine pR_0_18 (pc := 222) C dX10_readRow_222 q_834 ?_
        refine j_nxS (fun T22 => ?_)
        refine j_goto (pc := 225) 239 C dX10_readRow_225 (by decide) ?_
        exact j_vret C dX10_readRow_239 rfl (Nat.le_of_ble_eq_true rfl) (Nat.le_of_ble_eq_true rfl)
    ·
      refine j_aload_n (pc := 69) 0 C dX10_readRow_69 rfl rfl ?_
      refine gR_0_11 (pc := 70) C dX10_readRow_70 q_890 ?_
      refine j_iconst (pc := 73) 2 C dX10_readRow_73 (by decide) ?_
      refine j_aload_n (pc := 74) 0 C dX10_readRow_74 rfl rfl ?_
      refine gR_0_17 (pc := 75) C dX10_readRow_75 q_833 ?_
      refine j_imul (pc := 78) C dX10_readRow_78 ?_
      refine j_aload_n (pc := 79) 0 C dX10_readRow_79 rfl rfl ?_
      refine j_iconst (pc := 80) 1 C dX10_readRow_80 (by decide) ?_
      refine j_bipush (pc := 81) 99 C dX10_readRow_81 (by decide) ?_
      refine j_callI0 (pc := 83) C (rR_readNumber C dX10_readRow_83 q_914 (by omega) (Nat.le_of_ble_eq_true rfl) ⟨Nat.le_of_ble_eq_true rfl, Nat.le_of_ble_eq_true rfl⟩) ⟨Nat.le_of_ble_eq_true rfl, Nat.le_of_ble_eq_true rfl⟩ (fun r24 T23 => ?_)
      refine sR_4 (pc := 86) C dX10_readRow_86 ?_
      refine j_nxS (fun T25 => ?_)
      refine j_aload_n (pc := 87) 0 C dX10_readRow_87 rfl rfl ?_
      refine gR_0_11 (pc := 88) C dX10_readRow_88 q_890 ?_
      refine j_iconst (pc := 91) 2 C dX10_readRow_91 (by decide) ?_
      refine j_aload_n (pc := 92) 0 C dX10_readRow_92 rfl rfl ?_
      refine gR_0_17 (pc := 93) C dX10_readRow_93 q_833 ?_
      refine j_imul (pc := 96) C dX10_readRow_96 ?_
      refine j_iconst (pc := 97) 1 C dX10_readRow_97 (by decide) ?_
      refine j_iadd (pc := 98) C dX10_readRow_98 ?_
      refine j_aload_n (pc := 99) 0 C dX10_readRow_99 rfl rfl ?_
      refine j_bipush (pc := 100) 10 C dX10_readRow_100 (by decide) ?_
      refine j_bipush (pc := 102) 70 C dX10_readRow_102 (by decide) ?_
      refine j_callI0 (pc := 104) C (rR_readNumber C dX10_readRow_104 q_914 (by omega) (Nat.le_of_ble_eq_true rfl) ⟨Nat.le_of_ble_eq_true rfl, Nat.le_of_ble_eq_true rfl⟩) ⟨Nat.le_of_ble_eq_true rfl, Nat.le_of_ble_eq_true rfl⟩ (fun r27 T26 => ?_)
      refine sR_4 (pc := 107) C dX10_readRow_107 ?_
      refine j_nxS (fun T28 => ?_)
      refine j_aload_n (pc := 108) 0 C dX10_readRow_108 rfl rfl ?_
      refine j_dup (pc := 109) C dX10_readRow_109 rfl ?_
      refine gR_0_17 (pc := 110) C dX10_readRow_110 q_833 ?_
      refine j_iconst (pc := 113) 1 C dX10_readRow_113 (by decide) ?_
      refine j_iadd (pc := 114) C dX10_readRow_114 ?_
      refine pR_0_17 (pc := 115) C dX10_readRow_115 q_833 ?_
      refine j_nxS (fun T29 => ?_)
      refine j_goto (pc := 118) 239 C dX10_readRow_118 (by decide) ?_
      exact j_vret C dX10_readRow_239 rfl (Nat.le_of_ble_eq_true rfl) (Nat.le_of_ble_eq_true rfl)
  ·
    refine j_aload_n (pc := 9) 0 C dX10_readRow_9 rfl rfl ?_
    refine gR_0_10 (pc := 10) C dX10_readRow_10 q_884 ?_
    refine j_iconst (pc := 13) 2 C dX10_readRow_13 (by decide) ?_
    refine j_aload_n (pc := 14) 0 C dX10_readRow_14 rfl rfl ?_
    refine gR_0_16 (pc := 15) C dX10_readRow_15 q_832 ?_
    refine j_imul (pc := 18) C dX10_readRow_18 ?_
    refine j_aload_n (pc := 19) 0 C dX10_readRow_19 rfl rfl ?_
    refine j_iconst (pc := 20) 1 C dX10_readRow_20 (by decide) ?_
    refine j_bipush (pc := 21) 40 C dX10_readRow_21 (by decide) ?_
    refine j_callI0 (pc := 23) C (rR_readNumber C dX10_readRow_23 q_914 (by omega) (Nat.le_of_ble_eq_true rfl) ⟨Nat.le_of_ble_eq_true rfl, Nat.le_of_ble_eq_true rfl⟩) ⟨Nat.le_of_ble_eq_true rfl, Nat.le_of_ble_eq_true rfl⟩ (fun r31 T30 => ?_)
    refine sR_3 (pc := 26) C dX10_readRow_26 ?_
    refine j_nxS (fun T32 => ?_)
    refine j_aload_n (pc := 27) 0 C dX10_readRow_27 rfl rfl ?_
    refine gR_0_10 (pc := 28) C dX10_readRow_28 q_884 ?_
    refine j_iconst (pc := 31) 2 C dX10_readRow_31 (by decide) ?_
    refine j_aload_n (pc := 32) 0 C dX10_readRow_32 rfl rfl ?_
    refine gR_0_16 (pc := 33) C dX10_readRow_33 q_832 ?_
    refine j_imul (pc := 36) C dX10_readRow_36 ?_
    refine j_iconst (pc := 37) 1 C dX10_readRow_37 (by decide) ?_
    refine j_iadd (pc := 38) C dX10_readRow_38 ?_
    refine j_aload_n (pc := 39) 0 C dX10_readRow_39 rfl rfl ?_
    refine j_iconst (pc := 40) 0 C dX10_readRow_40 (by decide) ?_
    refine j_bipush (pc := 41) 9 C dX10_readRow_41 (by decide) ?_
    refine j_callI0 (pc := 43) C (rR_readNumber C dX10_readRow_43 q_914 (by omega) (Nat.le_of_ble_eq_true rfl) ⟨Nat.le_of_ble_eq_true rfl, Nat.le_of_ble_eq_true rfl⟩) ⟨Nat.le_of_ble_eq_true rfl, Nat.le_of_ble_eq_true rfl⟩ (fun r34 T33 => ?_)
    refine sR_3 (pc := 46) C dX10_readRow_46 ?_
    refine j_nxS (fun T35 => ?_)
    refine j_aload_n (pc := 47) 0 C dX10_readRow_47 rfl rfl ?_
    refine j_dup (pc := 48) C dX10_readRow_48 rfl ?_
    refine gR_0_16 (pc := 49) C dX10_readRow_49 q_832 ?_
    refine j_iconst (pc := 52) 1 C dX10_readRow_52 (by decide) ?_
    refine j_iadd (pc := 53) C dX10_readRow_53 ?_
    refine pR_0_16 (pc := 54) C dX10_readRow_54 q_832 ?_
    refine j_nxS (fun T36 => ?_)
    refine j_goto (pc := 57) 239 C dX10_readRow_57 (by decide) ?_
    exact j_vret C dX10_readRow_239 rfl (Nat.le_of_ble_eq_true rfl) (Nat.le_of_ble_eq_true rfl)
theorem cR_readRow {l : Launch} {G : Gc} (hfl : l.stackTraces = false) (hW : Wok G wR 26)   (x1 : Int32) (S : St) : Ct l yX10_readRow (Cond.code yX10_readRow cX10_readRow 2 none :: tblG) 6 0 0 G wR 26 [.ref (gA G 0), .int x1] S (fR_readRow x1 S) := ct_of (own := RX10) hfl (by decide +kernel) rfl hW (Nat.le_of_ble_eq_true rfl) (fun E hE C => by subst hE; exact bR_readRow C   x1 S)
theorem rR_readRow {E : Ec} {G : Gc} {nL mc ms : Nat} {own : String} {cc : ByteArray} {L : Nat} {ret : Option FieldType} {k n pc ix : Nat} {loc : List (Nat × Value)} {rest : List Value}  {x1 : Int32} {S : St}  (C : JC E (VR G nL mc ms own) cc L ret) (hd : decode cc pc = .ok (.invokevirtual ix, 3)) (hq : Cond.methodLink own ix yX10_readRow ∈ tblG) (hL : 6 + 1 ≤ L) (hW : (rest.map fun v => v.category).sum ≤ 8) (hf : k + 0 ≤ mc ∧ n + 0 ≤ ms) : Rn E (VR G nL mc ms own) k n 0 0 pc loc (.int x1 :: .ref (gA G 0) :: rest) rest S (fR_readRow x1 S) := rn_V (ci := 10) 0 (V := VR G nL mc ms own) (As := [.int x1]) (Cq := (RX10, TX10, 53)) (cR_readRow C.flags C.wok  x1 S) knX10_readRow ⟨q_916, q_917⟩ rfl rfl C hd hq hL rfl rfl hW hf

theorem knX10_sign : Kn yX10_sign cX10_sign 2 none 1 := ⟨q_919, q_815, by decide +kernel, by decide⟩
theorem bR_sign_24 {E : Ec} {G : Gc}    (C : JC E (VR G 2 0 0 RX10) cX10_sign 2 none)     (S : St) : J E (VR G 2 0 0 RX10) 0 0 24 [(0, .ref (gA G 0))] [] S (fR_sign_24   S) := by
  unfold fR_sign_24
  refine j_aload_n (pc := 24) 0 C dX10_sign_24 rfl rfl ?_
  refine j_callI0 (pc := 25) C (rR_fine C dX10_sign_25 q_843 (by omega) (Nat.le_of_ble_eq_true rfl) ⟨Nat.le_of_ble_eq_true rfl, Nat.le_of_ble_eq_true rfl⟩) ⟨Nat.le_of_ble_eq_true rfl, Nat.le_of_ble_eq_true rfl⟩ (fun r2 T1 => ?_)
  refine j_if_eq (pc := 28) 41 C dX10_sign_28 (by decide) ?_ ?_
  ·
    exact j_vret C dX10_sign_41 rfl (Nat.le_of_ble_eq_true rfl) (Nat.le_of_ble_eq_true rfl)
  ·
    refine j_aload_n (pc := 31) 0 C dX10_sign_31 rfl rfl ?_
    refine j_dup (pc := 32) C dX10_sign_32 rfl ?_
    refine gR_0_4 (pc := 33) C dX10_sign_33 q_825 ?_
    refine j_iconst (pc := 36) 1 C dX10_sign_36 (by decide) ?_
    refine j_iadd (pc := 37) C dX10_sign_37 ?_
    refine pR_0_4 (pc := 38) C dX10_sign_38 q_825 ?_
    refine j_nxS (fun T3 => ?_)
    exact j_vret C dX10_sign_41 rfl (Nat.le_of_ble_eq_true rfl) (Nat.le_of_ble_eq_true rfl)
theorem bR_sign {E : Ec} {G : Gc}    (C : JC E (VR G 2 0 0 RX10) cX10_sign 2 none)    (x1 : Int32) (S : St) : J E (VR G 2 0 0 RX10) 0 0 0 [(0, .ref (gA G 0)), (1, .int x1)] [] S (fR_sign  x1 S) := by
  unfold fR_sign
  refine j_aload_n (pc := 0) 0 C dX10_sign_0 rfl rfl ?_
  refine j_callI0 (pc := 1) C (rR_fine C dX10_sign_1 q_843 (by omega) (Nat.le_of_ble_eq_true rfl) ⟨Nat.le_of_ble_eq_true rfl, Nat.le_of_ble_eq_true rfl⟩) ⟨Nat.le_of_ble_eq_true rfl, Nat.le_of_ble_eq_true rfl⟩ (fun r2 T1 => ?_)
  refine j_if_eq (pc := 4) 24 C dX10_sign_4 (by decide) ?_ ?_
  ·
    refine j_sub [0] rfl ?_
    exact bR_sign_24 C   T1
  ·
    refine j_aload_n (pc := 7) 0 C dX10_sign_7 rfl rfl ?_
    refine j_callI0 (pc := 8) C (rR_here C dX10_sign_8 q_847 (by omega) (Nat.le_of_ble_eq_true rfl) ⟨Nat.le_of_ble_eq_true rfl, Nat.le_of_ble_eq_true rfl⟩) ⟨Nat.le_of_ble_eq_true rfl, Nat.le_of_ble_eq_true rfl⟩ (fun r4 T3 => ?_)
    refine j_iload_n (pc := 11) 1 C dX10_sign_11 rfl rfl ?_
    refine j_icmp_eq (pc := 12) 24 C dX10_sign_12 (by decide) ?_ ?_
    ·
      refine j_sub [0] rfl ?_
      exact bR_sign_24 C   T3
    ·
      refine j_aload_n (pc := 15) 0 C dX10_sign_15 rfl rfl ?_
      refine j_iconst (pc := 16) 1 C dX10_sign_16 (by decide) ?_
      refine j_aload_n (pc := 17) 0 C dX10_sign_17 rfl rfl ?_
      refine gR_0_4 (pc := 18) C dX10_sign_18 q_825 ?_
      refine j_callv0 (pc := 21) C (rR_wrong C dX10_sign_21 q_875 (by omega) (Nat.le_of_ble_eq_true rfl) ⟨Nat.le_of_ble_eq_true rfl, Nat.le_of_ble_eq_true rfl⟩) ⟨Nat.le_of_ble_eq_true rfl, Nat.le_of_ble_eq_true rfl⟩ (fun T5 => ?_)
      refine j_sub [0] rfl ?_
      exact bR_sign_24 C   T5
theorem cR_sign {l : Launch} {G : Gc} (hfl : l.stackTraces = false) (hW : Wok G wR 26)   (x1 : Int32) (S : St) : Ct l yX10_sign (Cond.code yX10_sign cX10_sign 2 none :: tblG) 2 0 0 G wR 26 [.ref (gA G 0), .int x1] S (fR_sign x1 S) := ct_of (own := RX10) hfl (by decide +kernel) rfl hW (Nat.le_of_ble_eq_true rfl) (fun E hE C => by subst hE; exact bR_sign C   x1 S)
theorem rR_sign {E : Ec} {G : Gc} {nL mc ms : Nat} {own : String} {cc : ByteArray} {L : Nat} {ret : Option FieldType} {k n pc ix : Nat} {loc : List (Nat × Value)} {rest : List Value}  {x1 : Int32} {S : St}  (C : JC E (VR G nL mc ms own) cc L ret) (hd : decode cc pc = .ok (.invokevirtual ix, 3)) (hq : Cond.methodLink own ix yX10_sign ∈ tblG) (hL : 2 + 1 ≤ L) (hW : (rest.map fun v => v.category).sum ≤ 8) (hf : k + 0 ≤ mc ∧ n + 0 ≤ ms) : Rn E (VR G nL mc ms own) k n 0 0 pc loc (.int x1 :: .ref (gA G 0) :: rest) rest S (fR_sign x1 S) := rn_V (ci := 10) 0 (V := VR G nL mc ms own) (As := [.int x1]) (Cq := (RX10, TX10, 53)) (cR_sign C.flags C.wok  x1 S) knX10_sign ⟨q_920, q_921⟩ rfl rfl C hd hq hL rfl rfl hW hf

theorem knX10_valley : Kn yX10_valley cX10_valley 4 (some .int) 1 := ⟨q_923, q_815, by decide +kernel, by decide⟩
theorem bR_valley_136 {E : Ec} {G : Gc}    (C : JC E (VR G 4 0 0 RX10) cX10_valley 7 (some .int))     (S : St) : J E (VR G 4 0 0 RX10) 0 0 136 [(0, .ref (gA G 0))] [] S (fR_valley_136   S) := by
  unfold fR_valley_136
  refine j_aload_n (pc := 136) 0 C dX10_valley_136 rfl rfl ?_
  refine j_aload_n (pc := 137) 0 C dX10_valley_137 rfl rfl ?_
  refine gR_0_18 (pc := 138) C dX10_valley_138 q_834 ?_
  refine j_callI0 (pc := 141) C (rR_result C dX10_valley_141 q_879 (by omega) (Nat.le_of_ble_eq_true rfl) ⟨Nat.le_of_ble_eq_true rfl, Nat.le_of_ble_eq_true rfl⟩) ⟨Nat.le_of_ble_eq_true rfl, Nat.le_of_ble_eq_true rfl⟩ (fun r2 T1 => ?_)
  refine j_istore_n (pc := 144) [(3, .int r2), (0, .ref (gA G 0))] C dX10_valley_144 rfl (Nat.le_of_ble_eq_true rfl) rfl ?_
  refine j_aload_n (pc := 145) 1 C dX10_valley_145 rfl rfl ?_
  refine gR_0_5 (pc := 146) C dX10_valley_146 q_826 ?_
  refine j_iconst (pc := 149) (-1) C dX10_valley_149 (by decide) ?_
  refine j_icmp_ne (pc := 150) 157 C dX10_valley_150 (by decide) ?_ ?_
  ·
    refine j_iload_n (pc := 157) 0 C dX10_valley_157 rfl rfl ?_
    exact j_iret C dX10_valley_158 rfl (Nat.le_of_ble_eq_true rfl) (Nat.le_of_ble_eq_true rfl)
  ·
    refine j_aload_n (pc := 153) 1 C dX10_valley_153 rfl rfl ?_
    refine j_callv0 (pc := 154) C (rR_sets C dX10_valley_154 q_903 (by omega) (Nat.le_of_ble_eq_true rfl) ⟨Nat.le_of_ble_eq_true rfl, Nat.le_of_ble_eq_true rfl⟩) ⟨Nat.le_of_ble_eq_true rfl, Nat.le_of_ble_eq_true rfl⟩ (fun T3 => ?_)
    refine j_iload_n (pc := 157) 0 C dX10_valley_157 rfl rfl ?_
    exact j_iret C dX10_valley_158 rfl (Nat.le_of_ble_eq_true rfl) (Nat.le_of_ble_eq_true rfl)
theorem bR_valley_105 {E : Ec} {G : Gc}   {K44 : Int32 → St → Oz} (C : JC E (VR G 4 0 0 RX10) cX10_valley 7 (some .int))   (hK44 : ∀ (x2 : Int32) (S : St), J E (VR G 4 0 0 RX10) 0 0 44 [(0, .ref (gA G 0)), (2, .int x2)] [] S (K44 x2 S)) (x2 : Int32) (x3 : Int32) (S : St) : J E (VR G 4 0 0 RX10) 0 0 105 [(0, .ref (gA G 0)), (2, .int x2), (3, .int x3)] [] S (fR_valley_105 K44 x2 x3 S) := by
  unfold fR_valley_105
  refine j_aload_n (pc := 105) 0 C dX10_valley_105 rfl rfl ?_
  refine j_callI0 (pc := 106) C (rR_fine C dX10_valley_106 q_843 (by omega) (Nat.le_of_ble_eq_true rfl) ⟨Nat.le_of_ble_eq_true rfl, Nat.le_of_ble_eq_true rfl⟩) ⟨Nat.le_of_ble_eq_true rfl, Nat.le_of_ble_eq_true rfl⟩ (fun r2 T1 => ?_)
  refine j_if_ne (pc := 109) 115 C dX10_valley_109 (by decide) ?_ ?_
  ·
    refine j_aload_n (pc := 115) 0 C dX10_valley_115 rfl rfl ?_
    refine j_callv0 (pc := 116) C (rR_pass C dX10_valley_116 q_907 (by omega) (Nat.le_of_ble_eq_true rfl) ⟨Nat.le_of_ble_eq_true rfl, Nat.le_of_ble_eq_true rfl⟩) ⟨Nat.le_of_ble_eq_true rfl, Nat.le_of_ble_eq_true rfl⟩ (fun T3 => ?_)
    refine j_aload_n (pc := 119) 0 C dX10_valley_119 rfl rfl ?_
    refine j_iload_n (pc := 120) 2 C dX10_valley_120 rfl rfl ?_
    refine j_callv0 (pc := 121) C (rR_readRow C dX10_valley_121 q_918 (by omega) (Nat.le_of_ble_eq_true rfl) ⟨Nat.le_of_ble_eq_true rfl, Nat.le_of_ble_eq_true rfl⟩) ⟨Nat.le_of_ble_eq_true rfl, Nat.le_of_ble_eq_true rfl⟩ (fun T5 => ?_)
    refine j_aload_n (pc := 124) 0 C dX10_valley_124 rfl rfl ?_
    refine j_bipush (pc := 125) 59 C dX10_valley_125 (by decide) ?_
    refine j_callv0 (pc := 127) C (rR_sign C dX10_valley_127 q_922 (by omega) (Nat.le_of_ble_eq_true rfl) ⟨Nat.le_of_ble_eq_true rfl, Nat.le_of_ble_eq_true rfl⟩) ⟨Nat.le_of_ble_eq_true rfl, Nat.le_of_ble_eq_true rfl⟩ (fun T7 => ?_)
    refine j_iinc (pc := 130) 1 (x2 + 1) [(2, .int (x2 + 1)), (0, .ref (gA G 0)), (3, .int x3)] C dX10_valley_130 rfl rfl (Nat.le_of_ble_eq_true rfl) rfl ?_
    refine j_goto (pc := 133) 44 C dX10_valley_133 (by decide) ?_
    refine j_sub [1, 0] rfl ?_
    exact hK44 (x2 + 1) T7
  ·
    refine j_goto (pc := 112) 136 C dX10_valley_112 (by decide) ?_
    refine j_sub [0] rfl ?_
    exact bR_valley_136 C   T1
theorem bR_valley_96 {E : Ec} {G : Gc}   {K44 : Int32 → St → Oz} (C : JC E (VR G 4 0 0 RX10) cX10_valley 7 (some .int))   (hK44 : ∀ (x2 : Int32) (S : St), J E (VR G 4 0 0 RX10) 0 0 44 [(0, .ref (gA G 0)), (2, .int x2)] [] S (K44 x2 S)) (x2 : Int32) (x3 : Int32) (S : St) : J E (VR G 4 0 0 RX10) 0 0 96 [(0, .ref (gA G 0)), (2, .int x2), (3, .int x3)] [] S (fR_valley_96 K44 x2 x3 S) := by
  unfold fR_valley_96
  refine j_aload_n (pc := 96) 0 C dX10_valley_96 rfl rfl ?_
  refine j_iconst (pc := 97) 3 C dX10_valley_97 (by decide) ?_
  refine j_aload_n (pc := 98) 0 C dX10_valley_98 rfl rfl ?_
  refine gR_0_4 (pc := 99) C dX10_valley_99 q_825 ?_
  refine j_callv0 (pc := 102) C (rR_wrong C dX10_valley_102 q_875 (by omega) (Nat.le_of_ble_eq_true rfl) ⟨Nat.le_of_ble_eq_true rfl, Nat.le_of_ble_eq_true rfl⟩) ⟨Nat.le_of_ble_eq_true rfl, Nat.le_of_ble_eq_true rfl⟩ (fun T1 => ?_)
  exact bR_valley_105 C hK44 x2 x3 T1
theorem bR_valley_44 {E : Ec} {G : Gc}    (C : JC E (VR G 4 0 0 RX10) cX10_valley 7 (some .int))    : ∀ (n : Nat) (x2 : Int32) (S : St), J E (VR G 4 0 0 RX10) 0 0 44 [(0, .ref (gA G 0)), (2, .int x2)] [] S (fR_valley_44  n x2 S) := by
  intro n
  induction n with
  | zero => intro x2 S; rw [fR_valley_44]; exact j_none
  | succ n ih =>
    intro x2 S
    rw [fR_valley_44]
    refine j_aload_n (pc := 44) 0 C dX10_valley_44 rfl rfl ?_
    refine j_callI0 (pc := 45) C (rR_fine C dX10_valley_45 q_843 (by omega) (Nat.le_of_ble_eq_true rfl) ⟨Nat.le_of_ble_eq_true rfl, Nat.le_of_ble_eq_true rfl⟩) ⟨Nat.le_of_ble_eq_true rfl, Nat.le_of_ble_eq_true rfl⟩ (fun r2 T1 => ?_)
    refine j_if_eq (pc := 48) 136 C dX10_valley_48 (by decide) ?_ ?_
    ·
      refine j_sub [0] rfl ?_
      exact bR_valley_136 C   T1
    ·
      refine j_aload_n (pc := 51) 0 C dX10_valley_51 rfl rfl ?_
      refine j_callI0 (pc := 52) C (rR_isMore C dX10_valley_52 q_851 (by omega) (Nat.le_of_ble_eq_true rfl) ⟨Nat.le_of_ble_eq_true rfl, Nat.le_of_ble_eq_true rfl⟩) ⟨Nat.le_of_ble_eq_true rfl, Nat.le_of_ble_eq_true rfl⟩ (fun r4 T3 => ?_)
      refine j_if_eq (pc := 55) 136 C dX10_valley_55 (by decide) ?_ ?_
      ·
        refine j_sub [0] rfl ?_
        exact bR_valley_136 C   T3
      ·
        refine j_aload_n (pc := 58) 0 C dX10_valley_58 rfl rfl ?_
        refine j_callI0 (pc := 59) C (rR_word C dX10_valley_59 q_858 (by omega) (Nat.le_of_ble_eq_true rfl) ⟨Nat.le_of_ble_eq_true rfl, Nat.le_of_ble_eq_true rfl⟩) ⟨Nat.le_of_ble_eq_true rfl, Nat.le_of_ble_eq_true rfl⟩ (fun r6 T5 => ?_)
        refine j_istore_n (pc := 62) [(3, .int r6), (0, .ref (gA G 0)), (2, .int x2)] C dX10_valley_62 rfl (Nat.le_of_ble_eq_true rfl) rfl ?_
        refine j_iload_n (pc := 63) 0 C dX10_valley_63 rfl rfl ?_
        refine j_callI0 (pc := 64) C (rR_isRow C dX10_valley_64 q_866 (by omega) (Nat.le_of_ble_eq_true rfl) ⟨Nat.le_of_ble_eq_true rfl, Nat.le_of_ble_eq_true rfl⟩) ⟨Nat.le_of_ble_eq_true rfl, Nat.le_of_ble_eq_true rfl⟩ (fun r8 T7 => ?_)
        refine j_if_ne (pc := 67) 82 C dX10_valley_67 (by decide) ?_ ?_
        ·
          refine j_iload_n (pc := 82) 2 C dX10_valley_82 rfl rfl ?_
          refine j_bipush (pc := 83) 60 C dX10_valley_83 (by decide) ?_
          refine j_icmp_eq (pc := 85) 96 C dX10_valley_85 (by decide) ?_ ?_
          ·
            refine j_sub [1, 2, 0] rfl ?_
            exact bR_valley_96 C ih x2 r6 T7
          ·
            refine j_aload_n (pc := 88) 1 C dX10_valley_88 rfl rfl ?_
            refine j_iload_n (pc := 89) 0 C dX10_valley_89 rfl rfl ?_
            refine j_callI0 (pc := 90) C (rR_isFull C dX10_valley_90 q_870 (by omega) (Nat.le_of_ble_eq_true rfl) ⟨Nat.le_of_ble_eq_true rfl, Nat.le_of_ble_eq_true rfl⟩) ⟨Nat.le_of_ble_eq_true rfl, Nat.le_of_ble_eq_true rfl⟩ (fun r10 T9 => ?_)
            refine j_if_eq (pc := 93) 105 C dX10_valley_93 (by decide) ?_ ?_
            ·
              refine j_sub [1, 2, 0] rfl ?_
              exact bR_valley_105 C ih x2 r6 T9
            ·
              refine j_sub [1, 2, 0] rfl ?_
              exact bR_valley_96 C ih x2 r6 T9
        ·
          refine j_aload_n (pc := 70) 1 C dX10_valley_70 rfl rfl ?_
          refine j_iconst (pc := 71) 1 C dX10_valley_71 (by decide) ?_
          refine j_aload_n (pc := 72) 1 C dX10_valley_72 rfl rfl ?_
          refine gR_0_4 (pc := 73) C dX10_valley_73 q_825 ?_
          refine j_callv0 (pc := 76) C (rR_wrong C dX10_valley_76 q_875 (by omega) (Nat.le_of_ble_eq_true rfl) ⟨Nat.le_of_ble_eq_true rfl, Nat.le_of_ble_eq_true rfl⟩) ⟨Nat.le_of_ble_eq_true rfl, Nat.le_of_ble_eq_true rfl⟩ (fun T11 => ?_)
          refine j_goto (pc := 79) 105 C dX10_valley_79 (by decide) ?_
          refine j_sub [1, 2, 0] rfl ?_
          exact bR_valley_105 C ih x2 r6 T11
theorem bR_valley_23 {E : Ec} {G : Gc}    (C : JC E (VR G 4 0 0 RX10) cX10_valley 7 (some .int))    (x1 : Int32) (s0 : Int32) (S : St) : J E (VR G 4 0 0 RX10) 0 0 23 [(0, .ref (gA G 0)), (1, .int x1)] [.int s0, .ref (gA G 0)] S (fR_valley_23  x1 s0 S) := by
  unfold fR_valley_23
  refine j_iconst (pc := 23) 1 C dX10_valley_23 (by decide) ?_
  refine j_iconst (pc := 24) 1 C dX10_valley_24 (by decide) ?_
  refine j_callI0 (pc := 25) C (rR_may C dX10_valley_25 q_822 (by omega) (Nat.le_of_ble_eq_true rfl) ⟨Nat.le_of_ble_eq_true rfl, Nat.le_of_ble_eq_true rfl⟩) ⟨Nat.le_of_ble_eq_true rfl, Nat.le_of_ble_eq_true rfl⟩ (fun r2 T1 => ?_)
  refine j_if_ne (pc := 28) 33 C dX10_valley_28 (by decide) ?_ ?_
  ·
    refine j_aload_n (pc := 33) 0 C dX10_valley_33 rfl rfl ?_
    refine j_iload_n (pc := 34) 1 C dX10_valley_34 rfl rfl ?_
    refine j_callv0 (pc := 35) C (rR_begins C dX10_valley_35 q_831 (by omega) (Nat.le_of_ble_eq_true rfl) ⟨Nat.le_of_ble_eq_true rfl, Nat.le_of_ble_eq_true rfl⟩) ⟨Nat.le_of_ble_eq_true rfl, Nat.le_of_ble_eq_true rfl⟩ (fun T3 => ?_)
    refine j_aload_n (pc := 38) 0 C dX10_valley_38 rfl rfl ?_
    refine j_callv0 (pc := 39) C (rR_clears C dX10_valley_39 q_839 (by omega) (Nat.le_of_ble_eq_true rfl) ⟨Nat.le_of_ble_eq_true rfl, Nat.le_of_ble_eq_true rfl⟩) ⟨Nat.le_of_ble_eq_true rfl, Nat.le_of_ble_eq_true rfl⟩ (fun T5 => ?_)
    refine j_iconst (pc := 42) 0 C dX10_valley_42 (by decide) ?_
    refine j_istore_n (pc := 43) [(2, .int 0), (0, .ref (gA G 0)), (1, .int x1)] C dX10_valley_43 rfl (Nat.le_of_ble_eq_true rfl) rfl ?_
    refine j_sub [1, 0] rfl ?_
    exact bR_valley_44 C  FU 0 T5
  ·
    refine j_iconst (pc := 31) 0 C dX10_valley_31 (by decide) ?_
    exact j_iret C dX10_valley_32 rfl (Nat.le_of_ble_eq_true rfl) (Nat.le_of_ble_eq_true rfl)
theorem bR_valley_22 {E : Ec} {G : Gc}    (C : JC E (VR G 4 0 0 RX10) cX10_valley 7 (some .int))    (x1 : Int32) (S : St) : J E (VR G 4 0 0 RX10) 0 0 22 [(0, .ref (gA G 0)), (1, .int x1)] [.ref (gA G 0)] S (fR_valley_22  x1 S) := by
  unfold fR_valley_22
  refine j_iconst (pc := 22) 0 C dX10_valley_22 (by decide) ?_
  exact bR_valley_23 C  x1 0 S
theorem bR_valley {E : Ec} {G : Gc}    (C : JC E (VR G 4 0 0 RX10) cX10_valley 7 (some .int))    (x1 : Int32) (S : St) : J E (VR G 4 0 0 RX10) 0 0 0 [(0, .ref (gA G 0)), (1, .int x1)] [] S (fR_valley  x1 S) := by
  unfold fR_valley
  refine j_aload_n (pc := 0) 0 C dX10_valley_0 rfl rfl ?_
  refine j_iconst (pc := 1) 0 C dX10_valley_1 (by decide) ?_
  refine pR_0_0 (pc := 2) C dX10_valley_2 q_811 ?_
  refine j_nxS (fun T1 => ?_)
  refine j_aload_n (pc := 5) 0 C dX10_valley_5 rfl rfl ?_
  refine j_iload_n (pc := 6) 1 C dX10_valley_6 rfl rfl ?_
  refine j_if_lt (pc := 7) 22 C dX10_valley_7 (by decide) ?_ ?_
  ·
    exact bR_valley_22 C  x1 T1
  ·
    refine j_iload_n (pc := 10) 1 C dX10_valley_10 rfl rfl ?_
    refine j_aload_n (pc := 11) 0 C dX10_valley_11 rfl rfl ?_
    refine gR_0_2 (pc := 12) C dX10_valley_12 q_812 ?_
    refine j_icmp_gt (pc := 15) 22 C dX10_valley_15 (by decide) ?_ ?_
    ·
      exact bR_valley_22 C  x1 T1
    ·
      refine j_iconst (pc := 18) 1 C dX10_valley_18 (by decide) ?_
      refine j_goto (pc := 19) 23 C dX10_valley_19 (by decide) ?_
      exact bR_valley_23 C  x1 1 T1
theorem cR_valley {l : Launch} {G : Gc} (hfl : l.stackTraces = false) (hW : Wok G wR 26)   (x1 : Int32) (S : St) : Ct l yX10_valley (Cond.code yX10_valley cX10_valley 4 (some .int) :: tblG) 7 0 0 G wR 26 [.ref (gA G 0), .int x1] S (fR_valley x1 S) := ct_of (own := RX10) hfl (by decide +kernel) rfl hW (Nat.le_of_ble_eq_true rfl) (fun E hE C => by subst hE; exact bR_valley C   x1 S)
theorem rR_valley {E : Ec} {G : Gc} {nL mc ms : Nat} {own : String} {cc : ByteArray} {L : Nat} {ret : Option FieldType} {k n pc ix : Nat} {loc : List (Nat × Value)} {rest : List Value}  {x1 : Int32} {S : St}  (C : JC E (VR G nL mc ms own) cc L ret) (hd : decode cc pc = .ok (.invokevirtual ix, 3)) (hq : Cond.methodLink own ix yX10_valley ∈ tblG) (hL : 7 + 1 ≤ L) (hW : (rest.map fun v => v.category).sum ≤ 8) (hf : k + 0 ≤ mc ∧ n + 0 ≤ ms) : Rn E (VR G nL mc ms own) k n 0 0 pc loc (.int x1 :: .ref (gA G 0) :: rest) rest S (fR_valley x1 S) := rn_V (ci := 10) 0 (V := VR G nL mc ms own) (As := [.int x1]) (Cq := (RX10, TX10, 53)) (cR_valley C.flags C.wok  x1 S) knX10_valley ⟨q_924, q_925⟩ rfl rfl C hd hq hL rfl rfl hW hf

theorem bR_of_v231_4 {E : Ec} {G : Gc}  {x0 : Nat}  (C : JC E (VR G 3 0 0 RX10) cX10_of 5 (some .int))  (hs_x0 : x0 < 40)  : ∀ (n : Nat) (x1 : Int32) (x2 : Int32) (S : St), J E (VR G 3 0 0 RX10) 0 0 4 [(0, .ref (gK G x0)), (1, .int x1), (2, .int x2)] [] S (fR_of_v231_4 x0 n x1 x2 S) := by
  intro n
  induction n with
  | zero => intro x1 x2 S; rw [fR_of_v231_4]; exact j_none
  | succ n ih =>
    intro x1 x2 S
    rw [fR_of_v231_4]
    refine j_iload_n (pc := 4) 2 C dX10_of_4 rfl rfl ?_
    refine j_aload_n (pc := 5) 0 C dX10_of_5 rfl rfl ?_
    refine j_slen (pc := 6) C dX10_of_6 q_859 hs_x0 (by omega) (Nat.le_of_ble_eq_true rfl) (Nat.le_of_ble_eq_true rfl) (Nat.le_of_ble_eq_true rfl) ?_
    refine j_icmp_ge (pc := 9) 31 C dX10_of_9 (by decide) ?_ ?_
    ·
      refine j_iload_n (pc := 31) 1 C dX10_of_31 rfl rfl ?_
      exact j_iret C dX10_of_32 rfl (Nat.le_of_ble_eq_true rfl) (Nat.le_of_ble_eq_true rfl)
    ·
      refine j_iload_n (pc := 12) 1 C dX10_of_12 rfl rfl ?_
      refine j_iconst (pc := 13) 5 C dX10_of_13 (by decide) ?_
      refine j_ishl (pc := 14) C dX10_of_14 ?_
      refine j_aload_n (pc := 15) 0 C dX10_of_15 rfl rfl ?_
      refine j_iload_n (pc := 16) 2 C dX10_of_16 rfl rfl ?_
      refine j_schar (pc := 17) C dX10_of_17 q_860 hs_x0 (by omega) (Nat.le_of_ble_eq_true rfl) (Nat.le_of_ble_eq_true rfl) (Nat.le_of_ble_eq_true rfl) ?_
      refine j_bipush (pc := 20) 96 C dX10_of_20 (by decide) ?_
      refine j_isub (pc := 22) C dX10_of_22 ?_
      refine j_ior (pc := 23) C dX10_of_23 ?_
      refine j_nxI (fun v5 => ?_)
      refine j_istore_n (pc := 24) [(1, .int v5), (0, .ref (gK G x0)), (2, .int x2)] C dX10_of_24 rfl (Nat.le_of_ble_eq_true rfl) rfl ?_
      refine j_iinc (pc := 25) 2 (x2 + 1) [(2, .int (x2 + 1)), (1, .int v5), (0, .ref (gK G x0))] C dX10_of_25 rfl rfl (Nat.le_of_ble_eq_true rfl) rfl ?_
      refine j_goto (pc := 28) 4 C dX10_of_28 (by decide) ?_
      refine j_sub [2, 1, 0] rfl ?_
      exact ih v5 (x2 + 1) S
theorem bR_of_v231 {E : Ec} {G : Gc}  {x0 : Nat}  (C : JC E (VR G 3 0 0 RX10) cX10_of 5 (some .int))  (hs_x0 : x0 < 40)   (S : St) : J E (VR G 3 0 0 RX10) 0 0 0 [(0, .ref (gK G x0))] [] S (fR_of_v231 x0  S) := by
  unfold fR_of_v231
  refine j_iconst (pc := 0) 0 C dX10_of_0 (by decide) ?_
  refine j_istore_n (pc := 1) [(1, .int 0), (0, .ref (gK G x0))] C dX10_of_1 rfl (Nat.le_of_ble_eq_true rfl) rfl ?_
  refine j_iconst (pc := 2) 0 C dX10_of_2 (by decide) ?_
  refine j_istore_n (pc := 3) [(2, .int 0), (1, .int 0), (0, .ref (gK G x0))] C dX10_of_3 rfl (Nat.le_of_ble_eq_true rfl) rfl ?_
  refine j_sub [2, 1, 0] rfl ?_
  exact bR_of_v231_4 C hs_x0 FU 0 0 S
theorem cR_of_v231 {l : Launch} {G : Gc} (hfl : l.stackTraces = false) (hW : Wok G wR 26) {x0 : Nat} (hs_x0 : x0 < 40)  (S : St) : Ct l yX10_of (Cond.code yX10_of cX10_of 3 (some .int) :: tblG) 5 0 0 G wR 26 [.ref (gK G x0)] S (fR_of_v231 x0 S) := ct_of (own := RX10) hfl (by decide +kernel) rfl hW (Nat.le_of_ble_eq_true rfl) (fun E hE C => by subst hE; exact bR_of_v231 C hs_x0   S)
theorem rR_of_v231 {E : Ec} {G : Gc} {nL mc ms : Nat} {own : String} {cc : ByteArray} {L : Nat} {ret : Option FieldType} {k n pc ix : Nat} {loc : List (Nat × Value)} {rest : List Value}  {x0 : Nat} {S : St} (hs_x0 : x0 < 40) (C : JC E (VR G nL mc ms own) cc L ret) (hd : decode cc pc = .ok (.invokestatic ix, 3)) (hq : Cond.methodLink own ix yX10_of ∈ tblG) (hL : 5 + 1 ≤ L) (hW : (rest.map fun v => v.category).sum ≤ 8) (hf : k + 0 ≤ mc ∧ n + 0 ≤ ms) : Rn E (VR G nL mc ms own) k n 0 0 pc loc (.ref (gK G x0) :: rest) rest S (fR_of_v231 x0 S) := rn_S (V := VR G nL mc ms own) (As := [.ref (gK G x0)]) (cR_of_v231 C.flags C.wok hs_x0  S) knX10_of q_862  C hd hq hL rfl rfl hW hf

theorem bR_of_v232_4 {E : Ec} {G : Gc}  {x0 : Nat}  (C : JC E (VR G 3 0 0 RX10) cX10_of 5 (some .int))  (hs_x0 : x0 < 40)  : ∀ (n : Nat) (x1 : Int32) (x2 : Int32) (S : St), J E (VR G 3 0 0 RX10) 0 0 4 [(0, .ref (gK G x0)), (1, .int x1), (2, .int x2)] [] S (fR_of_v232_4 x0 n x1 x2 S) := by
  intro n
  induction n with
  | zero => intro x1 x2 S; rw [fR_of_v232_4]; exact j_none
  | succ n ih =>
    intro x1 x2 S
    rw [fR_of_v232_4]
    refine j_iload_n (pc := 4) 2 C dX10_of_4 rfl rfl ?_
    refine j_aload_n (pc := 5) 0 C dX10_of_5 rfl rfl ?_
    refine j_slen (pc := 6) C dX10_of_6 q_859 hs_x0 (by omega) (Nat.le_of_ble_eq_true rfl) (Nat.le_of_ble_eq_true rfl) (Nat.le_of_ble_eq_true rfl) ?_
    refine j_icmp_ge (pc := 9) 31 C dX10_of_9 (by decide) ?_ ?_
    ·
      refine j_iload_n (pc := 31) 1 C dX10_of_31 rfl rfl ?_
      exact j_iret C dX10_of_32 rfl (Nat.le_of_ble_eq_true rfl) (Nat.le_of_ble_eq_true rfl)
    ·
      refine j_iload_n (pc := 12) 1 C dX10_of_12 rfl rfl ?_
      refine j_iconst (pc := 13) 5 C dX10_of_13 (by decide) ?_
      refine j_ishl (pc := 14) C dX10_of_14 ?_
      refine j_aload_n (pc := 15) 0 C dX10_of_15 rfl rfl ?_
      refine j_iload_n (pc := 16) 2 C dX10_of_16 rfl rfl ?_
      refine j_schar (pc := 17) C dX10_of_17 q_860 hs_x0 (by omega) (Nat.le_of_ble_eq_true rfl) (Nat.le_of_ble_eq_true rfl) (Nat.le_of_ble_eq_true rfl) ?_
      refine j_bipush (pc := 20) 96 C dX10_of_20 (by decide) ?_
      refine j_isub (pc := 22) C dX10_of_22 ?_
      refine j_ior (pc := 23) C dX10_of_23 ?_
      refine j_nxI (fun v5 => ?_)
      refine j_istore_n (pc := 24) [(1, .int v5), (0, .ref (gK G x0)), (2, .int x2)] C dX10_of_24 rfl (Nat.le_of_ble_eq_true rfl) rfl ?_
      refine j_iinc (pc := 25) 2 (x2 + 1) [(2, .int (x2 + 1)), (1, .int v5), (0, .ref (gK G x0))] C dX10_of_25 rfl rfl (Nat.le_of_ble_eq_true rfl) rfl ?_
      refine j_goto (pc := 28) 4 C dX10_of_28 (by decide) ?_
      refine j_sub [2, 1, 0] rfl ?_
      exact ih v5 (x2 + 1) S
theorem bR_of_v232 {E : Ec} {G : Gc}  {x0 : Nat}  (C : JC E (VR G 3 0 0 RX10) cX10_of 5 (some .int))  (hs_x0 : x0 < 40)   (S : St) : J E (VR G 3 0 0 RX10) 0 0 0 [(0, .ref (gK G x0))] [] S (fR_of_v232 x0  S) := by
  unfold fR_of_v232
  refine j_iconst (pc := 0) 0 C dX10_of_0 (by decide) ?_
  refine j_istore_n (pc := 1) [(1, .int 0), (0, .ref (gK G x0))] C dX10_of_1 rfl (Nat.le_of_ble_eq_true rfl) rfl ?_
  refine j_iconst (pc := 2) 0 C dX10_of_2 (by decide) ?_
  refine j_istore_n (pc := 3) [(2, .int 0), (1, .int 0), (0, .ref (gK G x0))] C dX10_of_3 rfl (Nat.le_of_ble_eq_true rfl) rfl ?_
  refine j_sub [2, 1, 0] rfl ?_
  exact bR_of_v232_4 C hs_x0 FU 0 0 S
theorem cR_of_v232 {l : Launch} {G : Gc} (hfl : l.stackTraces = false) (hW : Wok G wR 26) {x0 : Nat} (hs_x0 : x0 < 40)  (S : St) : Ct l yX10_of (Cond.code yX10_of cX10_of 3 (some .int) :: tblG) 5 0 0 G wR 26 [.ref (gK G x0)] S (fR_of_v232 x0 S) := ct_of (own := RX10) hfl (by decide +kernel) rfl hW (Nat.le_of_ble_eq_true rfl) (fun E hE C => by subst hE; exact bR_of_v232 C hs_x0   S)
theorem rR_of_v232 {E : Ec} {G : Gc} {nL mc ms : Nat} {own : String} {cc : ByteArray} {L : Nat} {ret : Option FieldType} {k n pc ix : Nat} {loc : List (Nat × Value)} {rest : List Value}  {x0 : Nat} {S : St} (hs_x0 : x0 < 40) (C : JC E (VR G nL mc ms own) cc L ret) (hd : decode cc pc = .ok (.invokestatic ix, 3)) (hq : Cond.methodLink own ix yX10_of ∈ tblG) (hL : 5 + 1 ≤ L) (hW : (rest.map fun v => v.category).sum ≤ 8) (hf : k + 0 ≤ mc ∧ n + 0 ≤ ms) : Rn E (VR G nL mc ms own) k n 0 0 pc loc (.ref (gK G x0) :: rest) rest S (fR_of_v232 x0 S) := rn_S (V := VR G nL mc ms own) (As := [.ref (gK G x0)]) (cR_of_v232 C.flags C.wok hs_x0  S) knX10_of q_862  C hd hq hL rfl rfl hW hf

