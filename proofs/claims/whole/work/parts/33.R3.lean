theorem bR_goesSteps_50 {E : Ec} {G : Gc} {rc : Int32 → Int32 → St → Oz} {x : Nat}  {K2 : Int32 → Int32 → St → Oz} (C : JC E (VR G 6 0 0 RX10) cX10_goesSteps (x + 1) none) (hx : 9 ≤ x) (hrc : ∀ (x1 : Int32) (x2 : Int32) (S : St), Ct E.2.1 yX10_goesSteps (Cond.code yX10_goesSteps cX10_goesSteps 6 none :: tblG) x 0 0 G wR 26 [.ref (gA G 0), .int x1, .int x2] S (rc x1 x2 S))  (hK2 : ∀ (x2 : Int32) (x3 : Int32) (S : St), J E (VR G 6 0 0 RX10) 0 0 2 [(0, .ref (gA G 0)), (2, .int x2), (3, .int x3)] [] S (K2 x2 x3 S)) : ∀ (n : Nat) (x2 : Int32) (x3 : Int32) (x4 : Int32) (x5 : Int32) (S : St), J E (VR G 6 0 0 RX10) 0 0 50 [(0, .ref (gA G 0)), (2, .int x2), (3, .int x3), (4, .int x4), (5, .int x5)] [] S (fR_goesSteps_50 rc K2 n x2 x3 x4 x5 S) := by
  intro n
  induction n with
  | zero => intro x2 x3 x4 x5 S; rw [fR_goesSteps_50]; exact j_none
  | succ n ih =>
    intro x2 x3 x4 x5 S
    rw [fR_goesSteps_50]
    refine j_iload (pc := 50) 4 C dX10_goesSteps_50 rfl ?_
    refine j_aload_n (pc := 52) 0 C dX10_goesSteps_52 rfl rfl ?_
    refine gR_0_33 (pc := 53) C dX10_goesSteps_53 q_979 ?_
    refine j_iload_n (pc := 56) 2 C dX10_goesSteps_56 rfl rfl ?_
    refine j_iconst (pc := 57) 1 C dX10_goesSteps_57 (by decide) ?_
    refine j_iadd (pc := 58) C dX10_goesSteps_58 ?_
    refine aR_16 (pc := 59) C dX10_goesSteps_59 ?_
    refine j_icmp_ge (pc := 60) 88 C dX10_goesSteps_60 (by decide) ?_ ?_
    ·
      refine j_iload (pc := 88) 3 C dX10_goesSteps_88 rfl ?_
      refine j_istore_n (pc := 90) [(3, .int x4), (0, .ref (gA G 0)), (2, .int x2), (4, .int x4), (5, .int x5)] C dX10_goesSteps_90 rfl (Nat.le_of_ble_eq_true rfl) rfl ?_
      refine j_goto (pc := 91) 2 C dX10_goesSteps_91 (by decide) ?_
      refine j_sub [1, 2, 0] rfl ?_
      exact hK2 x2 x4 S
    ·
      refine j_aload_n (pc := 63) 0 C dX10_goesSteps_63 rfl rfl ?_
      refine gR_0_37 (pc := 64) C dX10_goesSteps_64 q_985 ?_
      refine j_sipush (pc := 67) 200 C dX10_goesSteps_67 (by decide) ?_
      refine j_icmp_ge (pc := 70) 88 C dX10_goesSteps_70 (by decide) ?_ ?_
      ·
        refine j_iload (pc := 88) 3 C dX10_goesSteps_88 rfl ?_
        refine j_istore_n (pc := 90) [(3, .int x4), (0, .ref (gA G 0)), (2, .int x2), (4, .int x4), (5, .int x5)] C dX10_goesSteps_90 rfl (Nat.le_of_ble_eq_true rfl) rfl ?_
        refine j_goto (pc := 91) 2 C dX10_goesSteps_91 (by decide) ?_
        refine j_sub [1, 2, 0] rfl ?_
        exact hK2 x2 x4 S
      ·
        refine j_aload_n (pc := 73) 0 C dX10_goesSteps_73 rfl rfl ?_
        refine j_iload_n (pc := 74) 2 C dX10_goesSteps_74 rfl rfl ?_
        refine j_iconst (pc := 75) 3 C dX10_goesSteps_75 (by decide) ?_
        refine j_iadd (pc := 76) C dX10_goesSteps_76 ?_
        refine j_iload (pc := 77) 3 C dX10_goesSteps_77 rfl ?_
        refine j_callv0 (pc := 79) C (rgR_goesSteps hrc C dX10_goesSteps_79 q_1073 (by omega) (Nat.le_of_ble_eq_true rfl) ⟨Nat.le_of_ble_eq_true rfl, Nat.le_of_ble_eq_true rfl⟩) ⟨Nat.le_of_ble_eq_true rfl, Nat.le_of_ble_eq_true rfl⟩ (fun T1 => ?_)
        refine j_iinc (pc := 82) 4 (x5 + 1) [(5, .int (x5 + 1)), (0, .ref (gA G 0)), (2, .int x2), (3, .int x3), (4, .int x4)] C dX10_goesSteps_82 rfl rfl (Nat.le_of_ble_eq_true rfl) rfl ?_
        refine j_goto (pc := 85) 50 C dX10_goesSteps_85 (by decide) ?_
        refine j_sub [1, 2, 3, 4, 0] rfl ?_
        exact ih x2 x3 x4 (x5 + 1) T1
theorem bR_goesSteps_2 {E : Ec} {G : Gc} {rc : Int32 → Int32 → St → Oz} {x : Nat}   (C : JC E (VR G 6 0 0 RX10) cX10_goesSteps (x + 1) none) (hx : 9 ≤ x) (hrc : ∀ (x1 : Int32) (x2 : Int32) (S : St), Ct E.2.1 yX10_goesSteps (Cond.code yX10_goesSteps cX10_goesSteps 6 none :: tblG) x 0 0 G wR 26 [.ref (gA G 0), .int x1, .int x2] S (rc x1 x2 S))   : ∀ (n : Nat) (x2 : Int32) (x3 : Int32) (S : St), J E (VR G 6 0 0 RX10) 0 0 2 [(0, .ref (gA G 0)), (2, .int x2), (3, .int x3)] [] S (fR_goesSteps_2 rc n x2 x3 S) := by
  intro n
  induction n with
  | zero => intro x2 x3 S; rw [fR_goesSteps_2]; exact j_none
  | succ n ih =>
    intro x2 x3 S
    rw [fR_goesSteps_2]
    refine j_iload_n (pc := 2) 2 C dX10_goesSteps_2 rfl rfl ?_
    refine j_iload_n (pc := 3) 1 C dX10_goesSteps_3 rfl rfl ?_
    refine j_icmp_ge (pc := 4) 152 C dX10_goesSteps_4 (by decide) ?_ ?_
    ·
      exact j_vret C dX10_goesSteps_152 rfl (Nat.le_of_ble_eq_true rfl) (Nat.le_of_ble_eq_true rfl)
    ·
      refine j_aload_n (pc := 7) 0 C dX10_goesSteps_7 rfl rfl ?_
      refine gR_0_37 (pc := 8) C dX10_goesSteps_8 q_985 ?_
      refine j_sipush (pc := 11) 200 C dX10_goesSteps_11 (by decide) ?_
      refine j_icmp_ge (pc := 14) 152 C dX10_goesSteps_14 (by decide) ?_ ?_
      ·
        exact j_vret C dX10_goesSteps_152 rfl (Nat.le_of_ble_eq_true rfl) (Nat.le_of_ble_eq_true rfl)
      ·
        refine j_aload_n (pc := 17) 0 C dX10_goesSteps_17 rfl rfl ?_
        refine j_dup (pc := 18) C dX10_goesSteps_18 rfl ?_
        refine gR_0_37 (pc := 19) C dX10_goesSteps_19 q_985 ?_
        refine j_iconst (pc := 22) 1 C dX10_goesSteps_22 (by decide) ?_
        refine j_iadd (pc := 23) C dX10_goesSteps_23 ?_
        refine pR_0_37 (pc := 24) C dX10_goesSteps_24 q_985 ?_
        refine j_nxS (fun T1 => ?_)
        refine j_aload_n (pc := 27) 0 C dX10_goesSteps_27 rfl rfl ?_
        refine gR_0_33 (pc := 28) C dX10_goesSteps_28 q_979 ?_
        refine j_iload_n (pc := 31) 2 C dX10_goesSteps_31 rfl rfl ?_
        refine aR_16 (pc := 32) C dX10_goesSteps_32 ?_
        refine j_iconst (pc := 33) 5 C dX10_goesSteps_33 (by decide) ?_
        refine j_icmp_ne (pc := 34) 94 C dX10_goesSteps_34 (by decide) ?_ ?_
        ·
          refine j_aload_n (pc := 94) 0 C dX10_goesSteps_94 rfl rfl ?_
          refine j_aload_n (pc := 95) 0 C dX10_goesSteps_95 rfl rfl ?_
          refine gR_0_33 (pc := 96) C dX10_goesSteps_96 q_979 ?_
          refine j_iload_n (pc := 99) 2 C dX10_goesSteps_99 rfl rfl ?_
          refine aR_16 (pc := 100) C dX10_goesSteps_100 ?_
          refine j_aload_n (pc := 101) 0 C dX10_goesSteps_101 rfl rfl ?_
          refine gR_0_33 (pc := 102) C dX10_goesSteps_102 q_979 ?_
          refine j_iload_n (pc := 105) 2 C dX10_goesSteps_105 rfl rfl ?_
          refine j_iconst (pc := 106) 1 C dX10_goesSteps_106 (by decide) ?_
          refine j_iadd (pc := 107) C dX10_goesSteps_107 ?_
          refine aR_16 (pc := 108) C dX10_goesSteps_108 ?_
          refine j_aload_n (pc := 109) 0 C dX10_goesSteps_109 rfl rfl ?_
          refine gR_0_33 (pc := 110) C dX10_goesSteps_110 q_979 ?_
          refine j_iload_n (pc := 113) 2 C dX10_goesSteps_113 rfl rfl ?_
          refine j_iconst (pc := 114) 2 C dX10_goesSteps_114 (by decide) ?_
          refine j_iadd (pc := 115) C dX10_goesSteps_115 ?_
          refine aR_16 (pc := 116) C dX10_goesSteps_116 ?_
          refine j_callI0 (pc := 117) C (rR_isDone C dX10_goesSteps_117 q_1072 (by omega) (Nat.le_of_ble_eq_true rfl) ⟨Nat.le_of_ble_eq_true rfl, Nat.le_of_ble_eq_true rfl⟩) ⟨Nat.le_of_ble_eq_true rfl, Nat.le_of_ble_eq_true rfl⟩ (fun r3 T2 => ?_)
          refine j_if_eq (pc := 120) 136 C dX10_goesSteps_120 (by decide) ?_ ?_
          ·
            refine j_aload_n (pc := 136) 0 C dX10_goesSteps_136 rfl rfl ?_
            refine j_dup (pc := 137) C dX10_goesSteps_137 rfl ?_
            refine gR_0_39 (pc := 138) C dX10_goesSteps_138 q_987 ?_
            refine j_iconst (pc := 141) 1 C dX10_goesSteps_141 (by decide) ?_
            refine j_iadd (pc := 142) C dX10_goesSteps_142 ?_
            refine pR_0_39 (pc := 143) C dX10_goesSteps_143 q_987 ?_
            refine j_nxS (fun T4 => ?_)
            refine j_iinc (pc := 146) 2 (x3 + 3) [(3, .int (x3 + 3)), (0, .ref (gA G 0)), (2, .int x2)] C dX10_goesSteps_146 rfl rfl (Nat.le_of_ble_eq_true rfl) rfl ?_
            refine j_goto (pc := 149) 2 C dX10_goesSteps_149 (by decide) ?_
            refine j_sub [1, 2, 0] rfl ?_
            exact ih x2 (x3 + 3) T4
          ·
            refine j_aload_n (pc := 123) 0 C dX10_goesSteps_123 rfl rfl ?_
            refine j_dup (pc := 124) C dX10_goesSteps_124 rfl ?_
            refine gR_0_38 (pc := 125) C dX10_goesSteps_125 q_986 ?_
            refine j_iconst (pc := 128) 1 C dX10_goesSteps_128 (by decide) ?_
            refine j_iadd (pc := 129) C dX10_goesSteps_129 ?_
            refine pR_0_38 (pc := 130) C dX10_goesSteps_130 q_986 ?_
            refine j_nxS (fun T5 => ?_)
            refine j_goto (pc := 133) 146 C dX10_goesSteps_133 (by decide) ?_
            refine j_iinc (pc := 146) 2 (x3 + 3) [(3, .int (x3 + 3)), (0, .ref (gA G 0)), (2, .int x2)] C dX10_goesSteps_146 rfl rfl (Nat.le_of_ble_eq_true rfl) rfl ?_
            refine j_goto (pc := 149) 2 C dX10_goesSteps_149 (by decide) ?_
            refine j_sub [1, 2, 0] rfl ?_
            exact ih x2 (x3 + 3) T5
        ·
          refine j_aload_n (pc := 37) 0 C dX10_goesSteps_37 rfl rfl ?_
          refine gR_0_33 (pc := 38) C dX10_goesSteps_38 q_979 ?_
          refine j_iload_n (pc := 41) 2 C dX10_goesSteps_41 rfl rfl ?_
          refine j_iconst (pc := 42) 2 C dX10_goesSteps_42 (by decide) ?_
          refine j_iadd (pc := 43) C dX10_goesSteps_43 ?_
          refine aR_16 (pc := 44) C dX10_goesSteps_44 ?_
          refine j_nxI (fun v6 => ?_)
          refine j_istore (pc := 45) [(4, .int v6), (0, .ref (gA G 0)), (2, .int x2), (3, .int x3)] C dX10_goesSteps_45 (Nat.le_of_ble_eq_true rfl) rfl ?_
          refine j_iconst (pc := 47) 0 C dX10_goesSteps_47 (by decide) ?_
          refine j_istore (pc := 48) [(5, .int 0), (4, .int v6), (0, .ref (gA G 0)), (2, .int x2), (3, .int x3)] C dX10_goesSteps_48 (Nat.le_of_ble_eq_true rfl) rfl ?_
          refine j_sub [2, 3, 4, 1, 0] rfl ?_
          exact bR_goesSteps_50 C hx hrc ih FU x2 x3 v6 0 T1
theorem bR_goesSteps_B {E : Ec} {G : Gc} {rc : Int32 → Int32 → St → Oz} {x : Nat}   (C : JC E (VR G 6 0 0 RX10) cX10_goesSteps (x + 1) none) (hx : 9 ≤ x) (hrc : ∀ (x1 : Int32) (x2 : Int32) (S : St), Ct E.2.1 yX10_goesSteps (Cond.code yX10_goesSteps cX10_goesSteps 6 none :: tblG) x 0 0 G wR 26 [.ref (gA G 0), .int x1, .int x2] S (rc x1 x2 S))   (x1 : Int32) (x2 : Int32) (S : St) : J E (VR G 6 0 0 RX10) 0 0 0 [(0, .ref (gA G 0)), (1, .int x1), (2, .int x2)] [] S (fR_goesSteps_B rc x1 x2 S) := by
  unfold fR_goesSteps_B
  refine j_iload_n (pc := 0) 1 C dX10_goesSteps_0 rfl rfl ?_
  refine j_istore_n (pc := 1) [(3, .int x1), (0, .ref (gA G 0)), (1, .int x1), (2, .int x2)] C dX10_goesSteps_1 rfl (Nat.le_of_ble_eq_true rfl) rfl ?_
  refine j_sub [1, 3, 0] rfl ?_
  exact bR_goesSteps_2 C hx hrc FU x2 x1 S
theorem cR_goesSteps_B {l : Launch} {G : Gc} (hfl : l.stackTraces = false) (hW : Wok G wR 26) {rc : Int32 → Int32 → St → Oz} {x : Nat} (hx : 9 ≤ x) (hrc : ∀ (x1 : Int32) (x2 : Int32) (S : St), Ct l yX10_goesSteps (Cond.code yX10_goesSteps cX10_goesSteps 6 none :: tblG) x 0 0 G wR 26 [.ref (gA G 0), .int x1, .int x2] S (rc x1 x2 S)) (x1 : Int32) (x2 : Int32) (S : St) : Ct l yX10_goesSteps (Cond.code yX10_goesSteps cX10_goesSteps 6 none :: tblG) (x + 1) 0 0 G wR 26 [.ref (gA G 0), .int x1, .int x2] S (fR_goesSteps_B rc x1 x2 S) := ct_of (own := RX10) hfl (by decide +kernel) rfl hW (Nat.le_of_ble_eq_true rfl) (fun E hE C => by subst hE; exact bR_goesSteps_B C hx hrc  x1 x2 S)
theorem cR_goesSteps {l : Launch} {G : Gc} (hfl : l.stackTraces = false) (hW : Wok G wR 26) : ∀ (d : Nat) (x1 : Int32) (x2 : Int32) (S : St), Ct l yX10_goesSteps (Cond.code yX10_goesSteps cX10_goesSteps 6 none :: tblG) (9 + 1 * d) 0 0 G wR 26 [.ref (gA G 0), .int x1, .int x2] S (fR_goesSteps d x1 x2 S) := by
  intro d
  induction d with
  | zero => intro x1 x2 S r S2 h; rw [fR_goesSteps] at h; cases h
  | succ d ih =>
    intro x1 x2 S
    rw [fR_goesSteps]
    have h := cR_goesSteps_B hfl hW (x := 9 + 1 * d) (by omega) ih x1 x2 S
    rw [Nat.add_assoc] at h
    exact h
theorem rR_goesSteps {E : Ec} {G : Gc} {nL mc ms : Nat} {own : String} {cc : ByteArray} {L : Nat} {ret : Option FieldType} {k n pc ix : Nat} {loc : List (Nat × Value)} {rest : List Value}  {x1 : Int32} {x2 : Int32} {S : St}  (C : JC E (VR G nL mc ms own) cc L ret) (hd : decode cc pc = .ok (.invokevirtual ix, 3)) (hq : Cond.methodLink own ix yX10_goesSteps ∈ tblG) (hL : 21 + 1 ≤ L) (hW : (rest.map fun v => v.category).sum ≤ 8) (hf : k + 0 ≤ mc ∧ n + 0 ≤ ms) : Rn E (VR G nL mc ms own) k n 0 0 pc loc (.int x2 :: .int x1 :: .ref (gA G 0) :: rest) rest S (fR_goesSteps 12 x1 x2 S) := rn_V (ci := 10) 0 (V := VR G nL mc ms own) (As := [.int x1, .int x2]) (Cq := (RX10, TX10, 53)) (cR_goesSteps C.flags C.wok 12 x1 x2 S) knX10_goesSteps ⟨q_1075, q_1076⟩ rfl rfl C hd hq hL rfl rfl hW hf

theorem bR_copies_v280_3 {E : Ec} {G : Gc}    (C : JC E (VR G 5 0 0 RX10) cX10_copies 1 none)    : ∀ (n : Nat) (x3 : Int32) (x4 : Int32) (S : St), J E (VR G 5 0 0 RX10) 0 0 3 [(1, .ref (gA G 18)), (2, .ref (gA G 17)), (3, .int x3), (4, .int x4)] [] S (fR_copies_v280_3  n x3 x4 S) := by
  intro n
  induction n with
  | zero => intro x3 x4 S; rw [fR_copies_v280_3]; exact j_none
  | succ n ih =>
    intro x3 x4 S
    rw [fR_copies_v280_3]
    refine j_iload (pc := 3) 3 C dX10_copies_3 rfl ?_
    refine j_iload_n (pc := 5) 2 C dX10_copies_5 rfl rfl ?_
    refine j_icmp_ge (pc := 6) 23 C dX10_copies_6 (by decide) ?_ ?_
    ·
      exact j_vret C dX10_copies_23 rfl (Nat.le_of_ble_eq_true rfl) (Nat.le_of_ble_eq_true rfl)
    ·
      refine j_aload_n (pc := 9) 1 C dX10_copies_9 rfl rfl ?_
      refine j_iload (pc := 10) 3 C dX10_copies_10 rfl ?_
      refine j_aload_n (pc := 12) 0 C dX10_copies_12 rfl rfl ?_
      refine j_iload (pc := 13) 3 C dX10_copies_13 rfl ?_
      refine aR_18 (pc := 15) C dX10_copies_15 ?_
      refine sR_17 (pc := 16) C dX10_copies_16 ?_
      refine j_nxS (fun T1 => ?_)
      refine j_iinc (pc := 17) 3 (x4 + 1) [(4, .int (x4 + 1)), (1, .ref (gA G 18)), (2, .ref (gA G 17)), (3, .int x3)] C dX10_copies_17 rfl rfl (Nat.le_of_ble_eq_true rfl) rfl ?_
      refine j_goto (pc := 20) 3 C dX10_copies_20 (by decide) ?_
      refine j_sub [1, 2, 3, 0] rfl ?_
      exact ih x3 (x4 + 1) T1
theorem bR_copies_v280 {E : Ec} {G : Gc}    (C : JC E (VR G 5 0 0 RX10) cX10_copies 1 none)    (x3 : Int32) (S : St) : J E (VR G 5 0 0 RX10) 0 0 0 [(0, .ref (gA G 0)), (1, .ref (gA G 18)), (2, .ref (gA G 17)), (3, .int x3)] [] S (fR_copies_v280  x3 S) := by
  unfold fR_copies_v280
  refine j_iconst (pc := 0) 0 C dX10_copies_0 (by decide) ?_
  refine j_istore (pc := 1) [(4, .int 0), (0, .ref (gA G 0)), (1, .ref (gA G 18)), (2, .ref (gA G 17)), (3, .int x3)] C dX10_copies_1 (Nat.le_of_ble_eq_true rfl) rfl ?_
  refine j_sub [2, 3, 4, 0] rfl ?_
  exact bR_copies_v280_3 C  FU x3 0 S
theorem cR_copies_v280 {l : Launch} {G : Gc} (hfl : l.stackTraces = false) (hW : Wok G wR 26)   (x3 : Int32) (S : St) : Ct l yX10_copies (Cond.code yX10_copies cX10_copies 5 none :: tblG) 1 0 0 G wR 26 [.ref (gA G 0), .ref (gA G 18), .ref (gA G 17), .int x3] S (fR_copies_v280 x3 S) := ct_of (own := RX10) hfl (by decide +kernel) rfl hW (Nat.le_of_ble_eq_true rfl) (fun E hE C => by subst hE; exact bR_copies_v280 C   x3 S)
theorem rR_copies_v280 {E : Ec} {G : Gc} {nL mc ms : Nat} {own : String} {cc : ByteArray} {L : Nat} {ret : Option FieldType} {k n pc ix : Nat} {loc : List (Nat × Value)} {rest : List Value}  {x3 : Int32} {S : St}  (C : JC E (VR G nL mc ms own) cc L ret) (hd : decode cc pc = .ok (.invokevirtual ix, 3)) (hq : Cond.methodLink own ix yX10_copies ∈ tblG) (hL : 1 + 1 ≤ L) (hW : (rest.map fun v => v.category).sum ≤ 8) (hf : k + 0 ≤ mc ∧ n + 0 ≤ ms) : Rn E (VR G nL mc ms own) k n 0 0 pc loc (.int x3 :: .ref (gA G 17) :: .ref (gA G 18) :: .ref (gA G 0) :: rest) rest S (fR_copies_v280 x3 S) := rn_V (ci := 10) 0 (V := VR G nL mc ms own) (As := [.ref (gA G 18), .ref (gA G 17), .int x3]) (Cq := (RX10, TX10, 53)) (cR_copies_v280 C.flags C.wok  x3 S) knX10_copies ⟨q_887, q_888⟩ rfl rfl C hd hq hL rfl rfl hW hf

theorem knX10_work : Kn yX10_work cX10_work 4 (some .int) 1 := ⟨q_1078, q_815, by decide +kernel, by decide⟩
theorem bR_work_123 {E : Ec} {G : Gc}    (C : JC E (VR G 4 0 0 RX10) cX10_work 22 (some .int))    : ∀ (n : Nat) (x3 : Int32) (S : St), J E (VR G 4 0 0 RX10) 0 0 123 [(0, .ref (gA G 0)), (3, .int x3)] [] S (fR_work_123  n x3 S) := by
  intro n
  induction n with
  | zero => intro x3 S; rw [fR_work_123]; exact j_none
  | succ n ih =>
    intro x3 S
    rw [fR_work_123]
    refine j_iload_n (pc := 123) 1 C dX10_work_123 rfl rfl ?_
    refine j_bipush (pc := 124) 95 C dX10_work_124 (by decide) ?_
    refine j_icmp_ge (pc := 126) 155 C dX10_work_126 (by decide) ?_ ?_
    ·
      refine j_aload_n (pc := 155) 0 C dX10_work_155 rfl rfl ?_
      refine j_dup (pc := 156) C dX10_work_156 rfl ?_
      refine gR_0_35 (pc := 157) C dX10_work_157 q_896 ?_
      refine j_iconst (pc := 160) 1 C dX10_work_160 (by decide) ?_
      refine j_iadd (pc := 161) C dX10_work_161 ?_
      refine pR_0_35 (pc := 162) C dX10_work_162 q_896 ?_
      refine j_nxS (fun T1 => ?_)
      refine j_aload_n (pc := 165) 0 C dX10_work_165 rfl rfl ?_
      refine j_callv0 (pc := 166) C (rR_take C dX10_work_166 q_984 (by omega) (Nat.le_of_ble_eq_true rfl) ⟨Nat.le_of_ble_eq_true rfl, Nat.le_of_ble_eq_true rfl⟩) ⟨Nat.le_of_ble_eq_true rfl, Nat.le_of_ble_eq_true rfl⟩ (fun T2 => ?_)
      refine j_aload_n (pc := 169) 0 C dX10_work_169 rfl rfl ?_
      refine j_iconst (pc := 170) 0 C dX10_work_170 (by decide) ?_
      refine pR_0_37 (pc := 171) C dX10_work_171 q_985 ?_
      refine j_nxS (fun T4 => ?_)
      refine j_aload_n (pc := 174) 0 C dX10_work_174 rfl rfl ?_
      refine j_iconst (pc := 175) 0 C dX10_work_175 (by decide) ?_
      refine pR_0_38 (pc := 176) C dX10_work_176 q_986 ?_
      refine j_nxS (fun T5 => ?_)
      refine j_aload_n (pc := 179) 0 C dX10_work_179 rfl rfl ?_
      refine j_iconst (pc := 180) 0 C dX10_work_180 (by decide) ?_
      refine pR_0_39 (pc := 181) C dX10_work_181 q_987 ?_
      refine j_nxS (fun T6 => ?_)
      refine j_aload_n (pc := 184) 0 C dX10_work_184 rfl rfl ?_
      refine j_iconst (pc := 185) 0 C dX10_work_185 (by decide) ?_
      refine j_aload_n (pc := 186) 0 C dX10_work_186 rfl rfl ?_
      refine gR_0_34 (pc := 187) C dX10_work_187 q_966 ?_
      refine j_callv0 (pc := 190) C (rR_goesSteps C dX10_work_190 q_1073 (by omega) (Nat.le_of_ble_eq_true rfl) ⟨Nat.le_of_ble_eq_true rfl, Nat.le_of_ble_eq_true rfl⟩) ⟨Nat.le_of_ble_eq_true rfl, Nat.le_of_ble_eq_true rfl⟩ (fun T7 => ?_)
      refine j_aload_n (pc := 193) 0 C dX10_work_193 rfl rfl ?_
      refine j_aload_n (pc := 194) 0 C dX10_work_194 rfl rfl ?_
      refine gR_0_41 (pc := 195) C dX10_work_195 q_980 ?_
      refine j_aload_n (pc := 198) 0 C dX10_work_198 rfl rfl ?_
      refine gR_0_40 (pc := 199) C dX10_work_199 q_899 ?_
      refine j_bipush (pc := 202) 95 C dX10_work_202 (by decide) ?_
      refine j_callv0 (pc := 204) C (rR_copies_v280 C dX10_work_204 q_889 (by omega) (Nat.le_of_ble_eq_true rfl) ⟨Nat.le_of_ble_eq_true rfl, Nat.le_of_ble_eq_true rfl⟩) ⟨Nat.le_of_ble_eq_true rfl, Nat.le_of_ble_eq_true rfl⟩ (fun T9 => ?_)
      refine j_aload_n (pc := 207) 0 C dX10_work_207 rfl rfl ?_
      refine j_aload_n (pc := 208) 0 C dX10_work_208 rfl rfl ?_
      refine gR_0_39 (pc := 209) C dX10_work_209 q_987 ?_
      refine pR_0_36 (pc := 212) C dX10_work_212 q_898 ?_
      refine j_nxS (fun T11 => ?_)
      refine j_aload_n (pc := 215) 0 C dX10_work_215 rfl rfl ?_
      refine gR_0_38 (pc := 216) C dX10_work_216 q_986 ?_
      exact j_iret C dX10_work_219 rfl (Nat.le_of_ble_eq_true rfl) (Nat.le_of_ble_eq_true rfl)
    ·
      refine j_aload_n (pc := 129) 0 C dX10_work_129 rfl rfl ?_
      refine gR_0_42 (pc := 130) C dX10_work_130 q_1077 ?_
      refine j_bipush (pc := 133) 95 C dX10_work_133 (by decide) ?_
      refine j_aload_n (pc := 135) 0 C dX10_work_135 rfl rfl ?_
      refine gR_0_35 (pc := 136) C dX10_work_136 q_896 ?_
      refine j_imul (pc := 139) C dX10_work_139 ?_
      refine j_iload_n (pc := 140) 1 C dX10_work_140 rfl rfl ?_
      refine j_iadd (pc := 141) C dX10_work_141 ?_
      refine j_aload_n (pc := 142) 0 C dX10_work_142 rfl rfl ?_
      refine gR_0_40 (pc := 143) C dX10_work_143 q_899 ?_
      refine j_iload_n (pc := 146) 1 C dX10_work_146 rfl rfl ?_
      refine aR_17 (pc := 147) C dX10_work_147 ?_
      refine sR_19 (pc := 148) C dX10_work_148 ?_
      refine j_nxS (fun T12 => ?_)
      refine j_iinc (pc := 149) 1 (x3 + 1) [(3, .int (x3 + 1)), (0, .ref (gA G 0))] C dX10_work_149 rfl rfl (Nat.le_of_ble_eq_true rfl) rfl ?_
      refine j_goto (pc := 152) 123 C dX10_work_152 (by decide) ?_
      refine j_sub [1, 0] rfl ?_
      exact ih (x3 + 1) T12
theorem bR_work_89 {E : Ec} {G : Gc}    (C : JC E (VR G 4 0 0 RX10) cX10_work 22 (some .int))     (S : St) : J E (VR G 4 0 0 RX10) 0 0 89 [(0, .ref (gA G 0))] [] S (fR_work_89   S) := by
  unfold fR_work_89
  refine j_aload_n (pc := 89) 0 C dX10_work_89 rfl rfl ?_
  refine j_iconst (pc := 90) 0 C dX10_work_90 (by decide) ?_
  refine j_callI0 (pc := 91) C (rR_result C dX10_work_91 q_879 (by omega) (Nat.le_of_ble_eq_true rfl) ⟨Nat.le_of_ble_eq_true rfl, Nat.le_of_ble_eq_true rfl⟩) ⟨Nat.le_of_ble_eq_true rfl, Nat.le_of_ble_eq_true rfl⟩ (fun r2 T1 => ?_)
  refine j_istore_n (pc := 94) [(2, .int r2), (0, .ref (gA G 0))] C dX10_work_94 rfl (Nat.le_of_ble_eq_true rfl) rfl ?_
  refine j_aload_n (pc := 95) 1 C dX10_work_95 rfl rfl ?_
  refine gR_0_5 (pc := 96) C dX10_work_96 q_826 ?_
  refine j_iconst (pc := 99) (-1) C dX10_work_99 (by decide) ?_
  refine j_icmp_eq (pc := 100) 105 C dX10_work_100 (by decide) ?_ ?_
  ·
    refine j_aload_n (pc := 105) 1 C dX10_work_105 rfl rfl ?_
    refine j_aload_n (pc := 106) 1 C dX10_work_106 rfl rfl ?_
    refine gR_0_32 (pc := 107) C dX10_work_107 q_970 ?_
    refine j_aload_n (pc := 110) 1 C dX10_work_110 rfl rfl ?_
    refine gR_0_33 (pc := 111) C dX10_work_111 q_979 ?_
    refine j_aload_n (pc := 114) 1 C dX10_work_114 rfl rfl ?_
    refine gR_0_34 (pc := 115) C dX10_work_115 q_966 ?_
    refine j_callv0 (pc := 118) C (rR_copies_v255 C dX10_work_118 q_889 (by omega) (Nat.le_of_ble_eq_true rfl) ⟨Nat.le_of_ble_eq_true rfl, Nat.le_of_ble_eq_true rfl⟩) ⟨Nat.le_of_ble_eq_true rfl, Nat.le_of_ble_eq_true rfl⟩ (fun T3 => ?_)
    refine j_iconst (pc := 121) 0 C dX10_work_121 (by decide) ?_
    refine j_istore_n (pc := 122) [(3, .int 0), (2, .int r2), (0, .ref (gA G 0))] C dX10_work_122 rfl (Nat.le_of_ble_eq_true rfl) rfl ?_
    refine j_sub [2, 0] rfl ?_
    exact bR_work_123 C  FU 0 T3
  ·
    refine j_iload_n (pc := 103) 0 C dX10_work_103 rfl rfl ?_
    exact j_iret C dX10_work_104 rfl (Nat.le_of_ble_eq_true rfl) (Nat.le_of_ble_eq_true rfl)
theorem bR_work_68 {E : Ec} {G : Gc}    (C : JC E (VR G 4 0 0 RX10) cX10_work 22 (some .int))    : ∀ (n : Nat)  (S : St), J E (VR G 4 0 0 RX10) 0 0 68 [(0, .ref (gA G 0))] [] S (fR_work_68  n  S) := by
  intro n
  induction n with
  | zero => intro  S; rw [fR_work_68]; exact j_none
  | succ n ih =>
    intro  S
    rw [fR_work_68]
    refine j_aload_n (pc := 68) 0 C dX10_work_68 rfl rfl ?_
    refine j_callI0 (pc := 69) C (rR_fine C dX10_work_69 q_843 (by omega) (Nat.le_of_ble_eq_true rfl) ⟨Nat.le_of_ble_eq_true rfl, Nat.le_of_ble_eq_true rfl⟩) ⟨Nat.le_of_ble_eq_true rfl, Nat.le_of_ble_eq_true rfl⟩ (fun r2 T1 => ?_)
    refine j_if_eq (pc := 72) 89 C dX10_work_72 (by decide) ?_ ?_
    ·
      exact bR_work_89 C   T1
    ·
      refine j_aload_n (pc := 75) 0 C dX10_work_75 rfl rfl ?_
      refine j_callI0 (pc := 76) C (rR_isMore C dX10_work_76 q_851 (by omega) (Nat.le_of_ble_eq_true rfl) ⟨Nat.le_of_ble_eq_true rfl, Nat.le_of_ble_eq_true rfl⟩) ⟨Nat.le_of_ble_eq_true rfl, Nat.le_of_ble_eq_true rfl⟩ (fun r4 T3 => ?_)
      refine j_if_eq (pc := 79) 89 C dX10_work_79 (by decide) ?_ ?_
      ·
        exact bR_work_89 C   T3
      ·
        refine j_aload_n (pc := 82) 0 C dX10_work_82 rfl rfl ?_
        refine j_callv0 (pc := 83) C (rR_readStep C dX10_work_83 q_975 (by omega) (Nat.le_of_ble_eq_true rfl) ⟨Nat.le_of_ble_eq_true rfl, Nat.le_of_ble_eq_true rfl⟩) ⟨Nat.le_of_ble_eq_true rfl, Nat.le_of_ble_eq_true rfl⟩ (fun T5 => ?_)
        refine j_goto (pc := 86) 68 C dX10_work_86 (by decide) ?_
        exact ih  T5
theorem bR_work_30 {E : Ec} {G : Gc}    (C : JC E (VR G 4 0 0 RX10) cX10_work 22 (some .int))    (x1 : Int32) (s0 : Int32) (S : St) : J E (VR G 4 0 0 RX10) 0 0 30 [(0, .ref (gA G 0)), (1, .int x1)] [.int s0, .ref (gA G 0)] S (fR_work_30  x1 s0 S) := by
  unfold fR_work_30
  refine j_iconst (pc := 30) 1 C dX10_work_30 (by decide) ?_
  refine j_iconst (pc := 31) 1 C dX10_work_31 (by decide) ?_
  refine j_callI0 (pc := 32) C (rR_may C dX10_work_32 q_822 (by omega) (Nat.le_of_ble_eq_true rfl) ⟨Nat.le_of_ble_eq_true rfl, Nat.le_of_ble_eq_true rfl⟩) ⟨Nat.le_of_ble_eq_true rfl, Nat.le_of_ble_eq_true rfl⟩ (fun r2 T1 => ?_)
  refine j_if_ne (pc := 35) 40 C dX10_work_35 (by decide) ?_ ?_
  ·
    refine j_aload_n (pc := 40) 0 C dX10_work_40 rfl rfl ?_
    refine j_iload_n (pc := 41) 1 C dX10_work_41 rfl rfl ?_
    refine j_callv0 (pc := 42) C (rR_begins C dX10_work_42 q_831 (by omega) (Nat.le_of_ble_eq_true rfl) ⟨Nat.le_of_ble_eq_true rfl, Nat.le_of_ble_eq_true rfl⟩) ⟨Nat.le_of_ble_eq_true rfl, Nat.le_of_ble_eq_true rfl⟩ (fun T3 => ?_)
    refine j_aload_n (pc := 45) 0 C dX10_work_45 rfl rfl ?_
    refine gR_0_35 (pc := 46) C dX10_work_46 q_896 ?_
    refine j_bipush (pc := 49) 16 C dX10_work_49 (by decide) ?_
    refine j_icmp_ne (pc := 51) 63 C dX10_work_51 (by decide) ?_ ?_
    ·
      refine j_aload_n (pc := 63) 0 C dX10_work_63 rfl rfl ?_
      refine j_iconst (pc := 64) 0 C dX10_work_64 (by decide) ?_
      refine pR_0_34 (pc := 65) C dX10_work_65 q_966 ?_
      refine j_nxS (fun T5 => ?_)
      refine j_sub [0] rfl ?_
      exact bR_work_68 C  FU  T5
    ·
      refine j_aload_n (pc := 54) 0 C dX10_work_54 rfl rfl ?_
      refine j_iconst (pc := 55) 0 C dX10_work_55 (by decide) ?_
      refine j_callI0 (pc := 56) C (rR_result C dX10_work_56 q_879 (by omega) (Nat.le_of_ble_eq_true rfl) ⟨Nat.le_of_ble_eq_true rfl, Nat.le_of_ble_eq_true rfl⟩) ⟨Nat.le_of_ble_eq_true rfl, Nat.le_of_ble_eq_true rfl⟩ (fun r7 T6 => ?_)
      refine j_pop (pc := 59) C dX10_work_59 rfl ?_
      refine j_bipush (pc := 60) (-20) C dX10_work_60 (by decide) ?_
      exact j_iret C dX10_work_62 rfl (Nat.le_of_ble_eq_true rfl) (Nat.le_of_ble_eq_true rfl)
  ·
    refine j_iconst (pc := 38) 0 C dX10_work_38 (by decide) ?_
    exact j_iret C dX10_work_39 rfl (Nat.le_of_ble_eq_true rfl) (Nat.le_of_ble_eq_true rfl)
theorem bR_work_29 {E : Ec} {G : Gc}    (C : JC E (VR G 4 0 0 RX10) cX10_work 22 (some .int))    (x1 : Int32) (S : St) : J E (VR G 4 0 0 RX10) 0 0 29 [(0, .ref (gA G 0)), (1, .int x1)] [.ref (gA G 0)] S (fR_work_29  x1 S) := by
  unfold fR_work_29
  refine j_iconst (pc := 29) 0 C dX10_work_29 (by decide) ?_
  exact bR_work_30 C  x1 0 S
theorem bR_work {E : Ec} {G : Gc}    (C : JC E (VR G 4 0 0 RX10) cX10_work 22 (some .int))    (x1 : Int32) (S : St) : J E (VR G 4 0 0 RX10) 0 0 0 [(0, .ref (gA G 0)), (1, .int x1)] [] S (fR_work  x1 S) := by
  unfold fR_work
  refine j_aload_n (pc := 0) 0 C dX10_work_0 rfl rfl ?_
  refine j_iconst (pc := 1) 0 C dX10_work_1 (by decide) ?_
  refine pR_0_0 (pc := 2) C dX10_work_2 q_811 ?_
  refine j_nxS (fun T1 => ?_)
  refine j_aload_n (pc := 5) 0 C dX10_work_5 rfl rfl ?_
  refine j_iload_n (pc := 6) 1 C dX10_work_6 rfl rfl ?_
  refine j_if_lt (pc := 7) 29 C dX10_work_7 (by decide) ?_ ?_
  ·
    exact bR_work_29 C  x1 T1
  ·
    refine j_iload_n (pc := 10) 1 C dX10_work_10 rfl rfl ?_
    refine j_aload_n (pc := 11) 0 C dX10_work_11 rfl rfl ?_
    refine gR_0_2 (pc := 12) C dX10_work_12 q_812 ?_
    refine j_icmp_gt (pc := 15) 29 C dX10_work_15 (by decide) ?_ ?_
    ·
      exact bR_work_29 C  x1 T1
    ·
      refine j_iload_n (pc := 18) 1 C dX10_work_18 rfl rfl ?_
      refine j_sipush (pc := 19) 150 C dX10_work_19 (by decide) ?_
      refine j_icmp_gt (pc := 22) 29 C dX10_work_22 (by decide) ?_ ?_
      ·
        exact bR_work_29 C  x1 T1
      ·
        refine j_iconst (pc := 25) 1 C dX10_work_25 (by decide) ?_
        refine j_goto (pc := 26) 30 C dX10_work_26 (by decide) ?_
        exact bR_work_30 C  x1 1 T1
theorem cR_work {l : Launch} {G : Gc} (hfl : l.stackTraces = false) (hW : Wok G wR 26)   (x1 : Int32) (S : St) : Ct l yX10_work (Cond.code yX10_work cX10_work 4 (some .int) :: tblG) 22 0 0 G wR 26 [.ref (gA G 0), .int x1] S (fR_work x1 S) := ct_of (own := RX10) hfl (by decide +kernel) rfl hW (Nat.le_of_ble_eq_true rfl) (fun E hE C => by subst hE; exact bR_work C   x1 S)
theorem rR_work {E : Ec} {G : Gc} {nL mc ms : Nat} {own : String} {cc : ByteArray} {L : Nat} {ret : Option FieldType} {k n pc ix : Nat} {loc : List (Nat × Value)} {rest : List Value}  {x1 : Int32} {S : St}  (C : JC E (VR G nL mc ms own) cc L ret) (hd : decode cc pc = .ok (.invokevirtual ix, 3)) (hq : Cond.methodLink own ix yX10_work ∈ tblG) (hL : 22 + 1 ≤ L) (hW : (rest.map fun v => v.category).sum ≤ 8) (hf : k + 0 ≤ mc ∧ n + 0 ≤ ms) : Rn E (VR G nL mc ms own) k n 0 0 pc loc (.int x1 :: .ref (gA G 0) :: rest) rest S (fR_work x1 S) := rn_V (ci := 10) 0 (V := VR G nL mc ms own) (As := [.int x1]) (Cq := (RX10, TX10, 53)) (cR_work C.flags C.wok  x1 S) knX10_work ⟨q_1079, q_1080⟩ rfl rfl C hd hq hL rfl rfl hW hf

theorem bR_copies_v282_3 {E : Ec} {G : Gc}    (C : JC E (VR G 5 0 0 RX10) cX10_copies 1 none)    : ∀ (n : Nat) (x3 : Int32) (x4 : Int32) (S : St), J E (VR G 5 0 0 RX10) 0 0 3 [(1, .ref (gA G 20)), (2, .ref (gA G 21)), (3, .int x3), (4, .int x4)] [] S (fR_copies_v282_3  n x3 x4 S) := by
  intro n
  induction n with
  | zero => intro x3 x4 S; rw [fR_copies_v282_3]; exact j_none
  | succ n ih =>
    intro x3 x4 S
    rw [fR_copies_v282_3]
    refine j_iload (pc := 3) 3 C dX10_copies_3 rfl ?_
    refine j_iload_n (pc := 5) 2 C dX10_copies_5 rfl rfl ?_
    refine j_icmp_ge (pc := 6) 23 C dX10_copies_6 (by decide) ?_ ?_
    ·
      exact j_vret C dX10_copies_23 rfl (Nat.le_of_ble_eq_true rfl) (Nat.le_of_ble_eq_true rfl)
    ·
      refine j_aload_n (pc := 9) 1 C dX10_copies_9 rfl rfl ?_
      refine j_iload (pc := 10) 3 C dX10_copies_10 rfl ?_
      refine j_aload_n (pc := 12) 0 C dX10_copies_12 rfl rfl ?_
      refine j_iload (pc := 13) 3 C dX10_copies_13 rfl ?_
      refine aR_20 (pc := 15) C dX10_copies_15 ?_
      refine sR_21 (pc := 16) C dX10_copies_16 ?_
      refine j_nxS (fun T1 => ?_)
      refine j_iinc (pc := 17) 3 (x4 + 1) [(4, .int (x4 + 1)), (1, .ref (gA G 20)), (2, .ref (gA G 21)), (3, .int x3)] C dX10_copies_17 rfl rfl (Nat.le_of_ble_eq_true rfl) rfl ?_
      refine j_goto (pc := 20) 3 C dX10_copies_20 (by decide) ?_
      refine j_sub [1, 2, 3, 0] rfl ?_
      exact ih x3 (x4 + 1) T1
theorem bR_copies_v282 {E : Ec} {G : Gc}    (C : JC E (VR G 5 0 0 RX10) cX10_copies 1 none)    (x3 : Int32) (S : St) : J E (VR G 5 0 0 RX10) 0 0 0 [(0, .ref (gA G 0)), (1, .ref (gA G 20)), (2, .ref (gA G 21)), (3, .int x3)] [] S (fR_copies_v282  x3 S) := by
  unfold fR_copies_v282
  refine j_iconst (pc := 0) 0 C dX10_copies_0 (by decide) ?_
  refine j_istore (pc := 1) [(4, .int 0), (0, .ref (gA G 0)), (1, .ref (gA G 20)), (2, .ref (gA G 21)), (3, .int x3)] C dX10_copies_1 (Nat.le_of_ble_eq_true rfl) rfl ?_
  refine j_sub [2, 3, 4, 0] rfl ?_
  exact bR_copies_v282_3 C  FU x3 0 S
theorem cR_copies_v282 {l : Launch} {G : Gc} (hfl : l.stackTraces = false) (hW : Wok G wR 26)   (x3 : Int32) (S : St) : Ct l yX10_copies (Cond.code yX10_copies cX10_copies 5 none :: tblG) 1 0 0 G wR 26 [.ref (gA G 0), .ref (gA G 20), .ref (gA G 21), .int x3] S (fR_copies_v282 x3 S) := ct_of (own := RX10) hfl (by decide +kernel) rfl hW (Nat.le_of_ble_eq_true rfl) (fun E hE C => by subst hE; exact bR_copies_v282 C   x3 S)
theorem rR_copies_v282 {E : Ec} {G : Gc} {nL mc ms : Nat} {own : String} {cc : ByteArray} {L : Nat} {ret : Option FieldType} {k n pc ix : Nat} {loc : List (Nat × Value)} {rest : List Value}  {x3 : Int32} {S : St}  (C : JC E (VR G nL mc ms own) cc L ret) (hd : decode cc pc = .ok (.invokevirtual ix, 3)) (hq : Cond.methodLink own ix yX10_copies ∈ tblG) (hL : 1 + 1 ≤ L) (hW : (rest.map fun v => v.category).sum ≤ 8) (hf : k + 0 ≤ mc ∧ n + 0 ≤ ms) : Rn E (VR G nL mc ms own) k n 0 0 pc loc (.int x3 :: .ref (gA G 21) :: .ref (gA G 20) :: .ref (gA G 0) :: rest) rest S (fR_copies_v282 x3 S) := rn_V (ci := 10) 0 (V := VR G nL mc ms own) (As := [.ref (gA G 20), .ref (gA G 21), .int x3]) (Cq := (RX10, TX10, 53)) (cR_copies_v282 C.flags C.wok  x3 S) knX10_copies ⟨q_887, q_888⟩ rfl rfl C hd hq hL rfl rfl hW hf

theorem knX10_book : Kn yX10_book cX10_book 7 (some .int) 1 := ⟨q_1083, q_815, by decide +kernel, by decide⟩
theorem bR_book_180 {E : Ec} {G : Gc}    (C : JC E (VR G 7 0 0 RX10) cX10_book 3 (some .int))    (x2 : Int32) (S : St) : J E (VR G 7 0 0 RX10) 0 0 180 [(0, .ref (gA G 0)), (2, .int x2)] [] S (fR_book_180  x2 S) := by
  unfold fR_book_180
  refine j_aload_n (pc := 180) 0 C dX10_book_180 rfl rfl ?_
  refine j_iload_n (pc := 181) 1 C dX10_book_181 rfl rfl ?_
  refine j_callI0 (pc := 182) C (rR_result C dX10_book_182 q_879 (by omega) (Nat.le_of_ble_eq_true rfl) ⟨Nat.le_of_ble_eq_true rfl, Nat.le_of_ble_eq_true rfl⟩) ⟨Nat.le_of_ble_eq_true rfl, Nat.le_of_ble_eq_true rfl⟩ (fun r2 T1 => ?_)
  refine j_istore_n (pc := 185) [(3, .int r2), (0, .ref (gA G 0)), (2, .int x2)] C dX10_book_185 rfl (Nat.le_of_ble_eq_true rfl) rfl ?_
  refine j_aload_n (pc := 186) 1 C dX10_book_186 rfl rfl ?_
  refine gR_0_5 (pc := 187) C dX10_book_187 q_826 ?_
  refine j_iconst (pc := 190) (-1) C dX10_book_190 (by decide) ?_
  refine j_icmp_eq (pc := 191) 196 C dX10_book_191 (by decide) ?_ ?_
  ·
    refine j_aload_n (pc := 196) 1 C dX10_book_196 rfl rfl ?_
    refine j_iload_n (pc := 197) 2 C dX10_book_197 rfl rfl ?_
    refine pR_0_45 (pc := 198) C dX10_book_198 q_895 ?_
    refine j_nxS (fun T3 => ?_)
    refine j_aload_n (pc := 201) 1 C dX10_book_201 rfl rfl ?_
    refine j_aload_n (pc := 202) 1 C dX10_book_202 rfl rfl ?_
    refine gR_0_43 (pc := 203) C dX10_book_203 q_1081 ?_
    refine j_aload_n (pc := 206) 1 C dX10_book_206 rfl rfl ?_
    refine gR_0_44 (pc := 207) C dX10_book_207 q_1082 ?_
    refine j_bipush (pc := 210) 18 C dX10_book_210 (by decide) ?_
    refine j_callv0 (pc := 212) C (rR_copies_v282 C dX10_book_212 q_889 (by omega) (Nat.le_of_ble_eq_true rfl) ⟨Nat.le_of_ble_eq_true rfl, Nat.le_of_ble_eq_true rfl⟩) ⟨Nat.le_of_ble_eq_true rfl, Nat.le_of_ble_eq_true rfl⟩ (fun T4 => ?_)
    refine j_iload_n (pc := 215) 0 C dX10_book_215 rfl rfl ?_
    exact j_iret C dX10_book_216 rfl (Nat.le_of_ble_eq_true rfl) (Nat.le_of_ble_eq_true rfl)
  ·
    refine j_iload_n (pc := 194) 0 C dX10_book_194 rfl rfl ?_
    exact j_iret C dX10_book_195 rfl (Nat.le_of_ble_eq_true rfl) (Nat.le_of_ble_eq_true rfl)
theorem bR_book_102 {E : Ec} {G : Gc}   {K46 : Int32 → St → Oz} (C : JC E (VR G 7 0 0 RX10) cX10_book 3 (some .int))   (hK46 : ∀ (x2 : Int32) (S : St), J E (VR G 7 0 0 RX10) 0 0 46 [(0, .ref (gA G 0)), (2, .int x2)] [] S (K46 x2 S)) (x2 : Int32) (x4 : Int32) (S : St) : J E (VR G 7 0 0 RX10) 0 0 102 [(0, .ref (gA G 0)), (2, .int x2), (4, .int x4)] [] S (fR_book_102 K46 x2 x4 S) := by
  unfold fR_book_102
  refine j_aload_n (pc := 102) 0 C dX10_book_102 rfl rfl ?_
  refine j_iconst (pc := 103) 0 C dX10_book_103 (by decide) ?_
  refine j_aload_n (pc := 104) 0 C dX10_book_104 rfl rfl ?_
  refine gR_0_20 (pc := 105) C dX10_book_105 q_880 ?_
  refine j_iconst (pc := 108) 1 C dX10_book_108 (by decide) ?_
  refine j_isub (pc := 109) C dX10_book_109 ?_
  refine j_callI0 (pc := 110) C (rR_readNumber C dX10_book_110 q_914 (by omega) (Nat.le_of_ble_eq_true rfl) ⟨Nat.le_of_ble_eq_true rfl, Nat.le_of_ble_eq_true rfl⟩) ⟨Nat.le_of_ble_eq_true rfl, Nat.le_of_ble_eq_true rfl⟩ (fun r2 T1 => ?_)
  refine j_istore (pc := 113) [(5, .int r2), (0, .ref (gA G 0)), (2, .int x2), (4, .int x4)] C dX10_book_113 (Nat.le_of_ble_eq_true rfl) rfl ?_
  refine j_aload_n (pc := 115) 1 C dX10_book_115 rfl rfl ?_
  refine j_iconst (pc := 116) 0 C dX10_book_116 (by decide) ?_
  refine j_bipush (pc := 117) 99 C dX10_book_117 (by decide) ?_
  refine j_callI0 (pc := 119) C (rR_readNumber C dX10_book_119 q_914 (by omega) (Nat.le_of_ble_eq_true rfl) ⟨Nat.le_of_ble_eq_true rfl, Nat.le_of_ble_eq_true rfl⟩) ⟨Nat.le_of_ble_eq_true rfl, Nat.le_of_ble_eq_true rfl⟩ (fun r4 T3 => ?_)
  refine j_istore (pc := 122) [(6, .int r4), (5, .int r2), (0, .ref (gA G 0)), (2, .int x2), (4, .int x4)] C dX10_book_122 (Nat.le_of_ble_eq_true rfl) rfl ?_
  refine j_aload_n (pc := 124) 2 C dX10_book_124 rfl rfl ?_
  refine j_bipush (pc := 125) 59 C dX10_book_125 (by decide) ?_
  refine j_callv0 (pc := 127) C (rR_sign C dX10_book_127 q_922 (by omega) (Nat.le_of_ble_eq_true rfl) ⟨Nat.le_of_ble_eq_true rfl, Nat.le_of_ble_eq_true rfl⟩) ⟨Nat.le_of_ble_eq_true rfl, Nat.le_of_ble_eq_true rfl⟩ (fun T5 => ?_)
  refine j_aload_n (pc := 130) 2 C dX10_book_130 rfl rfl ?_
  refine j_callI0 (pc := 131) C (rR_fine C dX10_book_131 q_843 (by omega) (Nat.le_of_ble_eq_true rfl) ⟨Nat.le_of_ble_eq_true rfl, Nat.le_of_ble_eq_true rfl⟩) ⟨Nat.le_of_ble_eq_true rfl, Nat.le_of_ble_eq_true rfl⟩ (fun r8 T7 => ?_)
  refine j_if_ne (pc := 134) 140 C dX10_book_134 (by decide) ?_ ?_
  ·
    refine j_aload_n (pc := 140) 2 C dX10_book_140 rfl rfl ?_
    refine gR_0_43 (pc := 141) C dX10_book_141 q_1081 ?_
    refine j_iconst (pc := 144) 3 C dX10_book_144 (by decide) ?_
    refine j_iload_n (pc := 145) 3 C dX10_book_145 rfl rfl ?_
    refine j_imul (pc := 146) C dX10_book_146 ?_
    refine j_iload (pc := 147) 4 C dX10_book_147 rfl ?_
    refine sR_20 (pc := 149) C dX10_book_149 ?_
    refine j_nxS (fun T9 => ?_)
    refine j_aload_n (pc := 150) 2 C dX10_book_150 rfl rfl ?_
    refine gR_0_43 (pc := 151) C dX10_book_151 q_1081 ?_
    refine j_iconst (pc := 154) 3 C dX10_book_154 (by decide) ?_
    refine j_iload_n (pc := 155) 3 C dX10_book_155 rfl rfl ?_
    refine j_imul (pc := 156) C dX10_book_156 ?_
    refine j_iconst (pc := 157) 1 C dX10_book_157 (by decide) ?_
    refine j_iadd (pc := 158) C dX10_book_158 ?_
    refine j_iload (pc := 159) 1 C dX10_book_159 rfl ?_
    refine sR_20 (pc := 161) C dX10_book_161 ?_
    refine j_nxS (fun T10 => ?_)
    refine j_aload_n (pc := 162) 2 C dX10_book_162 rfl rfl ?_
    refine gR_0_43 (pc := 163) C dX10_book_163 q_1081 ?_
    refine j_iconst (pc := 166) 3 C dX10_book_166 (by decide) ?_
    refine j_iload_n (pc := 167) 3 C dX10_book_167 rfl rfl ?_
    refine j_imul (pc := 168) C dX10_book_168 ?_
    refine j_iconst (pc := 169) 2 C dX10_book_169 (by decide) ?_
    refine j_iadd (pc := 170) C dX10_book_170 ?_
    refine j_iload (pc := 171) 0 C dX10_book_171 rfl ?_
    refine sR_20 (pc := 173) C dX10_book_173 ?_
    refine j_nxS (fun T11 => ?_)
    refine j_iinc (pc := 174) 3 (x2 + 1) [(2, .int (x2 + 1)), (6, .int r4), (5, .int r2), (0, .ref (gA G 0)), (4, .int x4)] C dX10_book_174 rfl rfl (Nat.le_of_ble_eq_true rfl) rfl ?_
    refine j_goto (pc := 177) 46 C dX10_book_177 (by decide) ?_
    refine j_sub [3, 0] rfl ?_
    exact hK46 (x2 + 1) T11
  ·
    refine j_goto (pc := 137) 180 C dX10_book_137 (by decide) ?_
    refine j_sub [2, 3] rfl ?_
    exact bR_book_180 C  x2 T7
theorem bR_book_46 {E : Ec} {G : Gc}    (C : JC E (VR G 7 0 0 RX10) cX10_book 3 (some .int))    : ∀ (n : Nat) (x2 : Int32) (S : St), J E (VR G 7 0 0 RX10) 0 0 46 [(0, .ref (gA G 0)), (2, .int x2)] [] S (fR_book_46  n x2 S) := by
  intro n
  induction n with
  | zero => intro x2 S; rw [fR_book_46]; exact j_none
  | succ n ih =>
    intro x2 S
    rw [fR_book_46]
    refine j_aload_n (pc := 46) 0 C dX10_book_46 rfl rfl ?_
    refine j_callI0 (pc := 47) C (rR_fine C dX10_book_47 q_843 (by omega) (Nat.le_of_ble_eq_true rfl) ⟨Nat.le_of_ble_eq_true rfl, Nat.le_of_ble_eq_true rfl⟩) ⟨Nat.le_of_ble_eq_true rfl, Nat.le_of_ble_eq_true rfl⟩ (fun r2 T1 => ?_)
    refine j_if_eq (pc := 50) 180 C dX10_book_50 (by decide) ?_ ?_
    ·
      exact bR_book_180 C  x2 T1
    ·
      refine j_aload_n (pc := 53) 0 C dX10_book_53 rfl rfl ?_
      refine j_callI0 (pc := 54) C (rR_isMore C dX10_book_54 q_851 (by omega) (Nat.le_of_ble_eq_true rfl) ⟨Nat.le_of_ble_eq_true rfl, Nat.le_of_ble_eq_true rfl⟩) ⟨Nat.le_of_ble_eq_true rfl, Nat.le_of_ble_eq_true rfl⟩ (fun r4 T3 => ?_)
      refine j_if_eq (pc := 57) 180 C dX10_book_57 (by decide) ?_ ?_
      ·
        exact bR_book_180 C  x2 T3
      ·
        refine j_aload_n (pc := 60) 0 C dX10_book_60 rfl rfl ?_
        refine j_callI0 (pc := 61) C (rR_here C dX10_book_61 q_847 (by omega) (Nat.le_of_ble_eq_true rfl) ⟨Nat.le_of_ble_eq_true rfl, Nat.le_of_ble_eq_true rfl⟩) ⟨Nat.le_of_ble_eq_true rfl, Nat.le_of_ble_eq_true rfl⟩ (fun r6 T5 => ?_)
        refine j_pop (pc := 64) C dX10_book_64 rfl ?_
        refine j_aload_n (pc := 65) 0 C dX10_book_65 rfl rfl ?_
        refine gR_0_4 (pc := 66) C dX10_book_66 q_825 ?_
        refine j_nxI (fun v7 => ?_)
        refine j_istore_n (pc := 69) [(3, .int v7), (0, .ref (gA G 0)), (2, .int x2)] C dX10_book_69 rfl (Nat.le_of_ble_eq_true rfl) rfl ?_
        refine j_aload_n (pc := 70) 1 C dX10_book_70 rfl rfl ?_
        refine j_iconst (pc := 71) 0 C dX10_book_71 (by decide) ?_
        refine j_aload_n (pc := 72) 1 C dX10_book_72 rfl rfl ?_
        refine gR_0_21 (pc := 73) C dX10_book_73 q_881 ?_
        refine j_iconst (pc := 76) 1 C dX10_book_76 (by decide) ?_
        refine j_isub (pc := 77) C dX10_book_77 ?_
        refine j_callI0 (pc := 78) C (rR_readNumber C dX10_book_78 q_914 (by omega) (Nat.le_of_ble_eq_true rfl) ⟨Nat.le_of_ble_eq_true rfl, Nat.le_of_ble_eq_true rfl⟩) ⟨Nat.le_of_ble_eq_true rfl, Nat.le_of_ble_eq_true rfl⟩ (fun r9 T8 => ?_)
        refine j_istore (pc := 81) [(4, .int r9), (3, .int v7), (0, .ref (gA G 0)), (2, .int x2)] C dX10_book_81 (Nat.le_of_ble_eq_true rfl) rfl ?_
        refine j_aload_n (pc := 83) 2 C dX10_book_83 rfl rfl ?_
        refine j_callI0 (pc := 84) C (rR_fine C dX10_book_84 q_843 (by omega) (Nat.le_of_ble_eq_true rfl) ⟨Nat.le_of_ble_eq_true rfl, Nat.le_of_ble_eq_true rfl⟩) ⟨Nat.le_of_ble_eq_true rfl, Nat.le_of_ble_eq_true rfl⟩ (fun r11 T10 => ?_)
        refine j_if_eq (pc := 87) 102 C dX10_book_87 (by decide) ?_ ?_
        ·
          refine j_sub [2, 3, 0] rfl ?_
          exact bR_book_102 C ih x2 r9 T10
        ·
          refine j_iload_n (pc := 90) 3 C dX10_book_90 rfl rfl ?_
          refine j_bipush (pc := 91) 6 C dX10_book_91 (by decide) ?_
          refine j_icmp_ne (pc := 93) 102 C dX10_book_93 (by decide) ?_ ?_
          ·
            refine j_sub [2, 3, 0] rfl ?_
            exact bR_book_102 C ih x2 r9 T10
          ·
            refine j_aload_n (pc := 96) 2 C dX10_book_96 rfl rfl ?_
            refine j_iconst (pc := 97) 3 C dX10_book_97 (by decide) ?_
            refine j_iload_n (pc := 98) 1 C dX10_book_98 rfl rfl ?_
            refine j_callv0 (pc := 99) C (rR_wrong C dX10_book_99 q_875 (by omega) (Nat.le_of_ble_eq_true rfl) ⟨Nat.le_of_ble_eq_true rfl, Nat.le_of_ble_eq_true rfl⟩) ⟨Nat.le_of_ble_eq_true rfl, Nat.le_of_ble_eq_true rfl⟩ (fun T12 => ?_)
            refine j_sub [2, 3, 0] rfl ?_
            exact bR_book_102 C ih x2 r9 T12
theorem bR_book_29 {E : Ec} {G : Gc}    (C : JC E (VR G 7 0 0 RX10) cX10_book 3 (some .int))    (x1 : Int32) (s0 : Int32) (S : St) : J E (VR G 7 0 0 RX10) 0 0 29 [(0, .ref (gA G 0)), (1, .int x1)] [.int s0, .ref (gA G 0)] S (fR_book_29  x1 s0 S) := by
  unfold fR_book_29
  refine j_iconst (pc := 29) 1 C dX10_book_29 (by decide) ?_
  refine j_iconst (pc := 30) 1 C dX10_book_30 (by decide) ?_
  refine j_callI0 (pc := 31) C (rR_may C dX10_book_31 q_822 (by omega) (Nat.le_of_ble_eq_true rfl) ⟨Nat.le_of_ble_eq_true rfl, Nat.le_of_ble_eq_true rfl⟩) ⟨Nat.le_of_ble_eq_true rfl, Nat.le_of_ble_eq_true rfl⟩ (fun r2 T1 => ?_)
  refine j_if_ne (pc := 34) 39 C dX10_book_34 (by decide) ?_ ?_
  ·
    refine j_aload_n (pc := 39) 0 C dX10_book_39 rfl rfl ?_
    refine j_iload_n (pc := 40) 1 C dX10_book_40 rfl rfl ?_
    refine j_callv0 (pc := 41) C (rR_begins C dX10_book_41 q_831 (by omega) (Nat.le_of_ble_eq_true rfl) ⟨Nat.le_of_ble_eq_true rfl, Nat.le_of_ble_eq_true rfl⟩) ⟨Nat.le_of_ble_eq_true rfl, Nat.le_of_ble_eq_true rfl⟩ (fun T3 => ?_)
    refine j_iconst (pc := 44) 0 C dX10_book_44 (by decide) ?_
    refine j_istore_n (pc := 45) [(2, .int 0), (0, .ref (gA G 0)), (1, .int x1)] C dX10_book_45 rfl (Nat.le_of_ble_eq_true rfl) rfl ?_
    refine j_sub [1, 0] rfl ?_
    exact bR_book_46 C  FU 0 T3
  ·
    refine j_iconst (pc := 37) 0 C dX10_book_37 (by decide) ?_
    exact j_iret C dX10_book_38 rfl (Nat.le_of_ble_eq_true rfl) (Nat.le_of_ble_eq_true rfl)
theorem bR_book_28 {E : Ec} {G : Gc}    (C : JC E (VR G 7 0 0 RX10) cX10_book 3 (some .int))    (x1 : Int32) (S : St) : J E (VR G 7 0 0 RX10) 0 0 28 [(0, .ref (gA G 0)), (1, .int x1)] [.ref (gA G 0)] S (fR_book_28  x1 S) := by
  unfold fR_book_28
  refine j_iconst (pc := 28) 0 C dX10_book_28 (by decide) ?_
  exact bR_book_29 C  x1 0 S
theorem bR_book {E : Ec} {G : Gc}    (C : JC E (VR G 7 0 0 RX10) cX10_book 3 (some .int))    (x1 : Int32) (S : St) : J E (VR G 7 0 0 RX10) 0 0 0 [(0, .ref (gA G 0)), (1, .int x1)] [] S (fR_book  x1 S) := by
  unfold fR_book
  refine j_aload_n (pc := 0) 0 C dX10_book_0 rfl rfl ?_
  refine j_iconst (pc := 1) 0 C dX10_book_1 (by decide) ?_
  refine pR_0_0 (pc := 2) C dX10_book_2 q_811 ?_
  refine j_nxS (fun T1 => ?_)
  refine j_aload_n (pc := 5) 0 C dX10_book_5 rfl rfl ?_
  refine j_iload_n (pc := 6) 1 C dX10_book_6 rfl rfl ?_
  refine j_if_lt (pc := 7) 28 C dX10_book_7 (by decide) ?_ ?_
  ·
    exact bR_book_28 C  x1 T1
  ·
    refine j_iload_n (pc := 10) 1 C dX10_book_10 rfl rfl ?_
    refine j_aload_n (pc := 11) 0 C dX10_book_11 rfl rfl ?_
    refine gR_0_2 (pc := 12) C dX10_book_12 q_812 ?_
    refine j_icmp_gt (pc := 15) 28 C dX10_book_15 (by decide) ?_ ?_
    ·
      exact bR_book_28 C  x1 T1
    ·
      refine j_iload_n (pc := 18) 1 C dX10_book_18 rfl rfl ?_
      refine j_bipush (pc := 19) 60 C dX10_book_19 (by decide) ?_
      refine j_icmp_gt (pc := 21) 28 C dX10_book_21 (by decide) ?_ ?_
      ·
        exact bR_book_28 C  x1 T1
      ·
        refine j_iconst (pc := 24) 1 C dX10_book_24 (by decide) ?_
        refine j_goto (pc := 25) 29 C dX10_book_25 (by decide) ?_
        exact bR_book_29 C  x1 1 T1
theorem cR_book {l : Launch} {G : Gc} (hfl : l.stackTraces = false) (hW : Wok G wR 26)   (x1 : Int32) (S : St) : Ct l yX10_book (Cond.code yX10_book cX10_book 7 (some .int) :: tblG) 3 0 0 G wR 26 [.ref (gA G 0), .int x1] S (fR_book x1 S) := ct_of (own := RX10) hfl (by decide +kernel) rfl hW (Nat.le_of_ble_eq_true rfl) (fun E hE C => by subst hE; exact bR_book C   x1 S)
theorem rR_book {E : Ec} {G : Gc} {nL mc ms : Nat} {own : String} {cc : ByteArray} {L : Nat} {ret : Option FieldType} {k n pc ix : Nat} {loc : List (Nat × Value)} {rest : List Value}  {x1 : Int32} {S : St}  (C : JC E (VR G nL mc ms own) cc L ret) (hd : decode cc pc = .ok (.invokevirtual ix, 3)) (hq : Cond.methodLink own ix yX10_book ∈ tblG) (hL : 3 + 1 ≤ L) (hW : (rest.map fun v => v.category).sum ≤ 8) (hf : k + 0 ≤ mc ∧ n + 0 ≤ ms) : Rn E (VR G nL mc ms own) k n 0 0 pc loc (.int x1 :: .ref (gA G 0) :: rest) rest S (fR_book x1 S) := rn_V (ci := 10) 0 (V := VR G nL mc ms own) (As := [.int x1]) (Cq := (RX10, TX10, 53)) (cR_book C.flags C.wok  x1 S) knX10_book ⟨q_1084, q_1085⟩ rfl rfl C hd hq hL rfl rfl hW hf

theorem knX10_fault : Kn yX10_fault cX10_fault 1 (some .int) 0 := ⟨q_1086, q_815, by decide +kernel, by decide⟩
theorem bR_fault {E : Ec} {G : Gc}    (C : JC E (VR G 1 0 0 RX10) cX10_fault 1 (some .int))     (S : St) : J E (VR G 1 0 0 RX10) 0 0 0 [(0, .ref (gA G 0))] [] S (fR_fault   S) := by
  unfold fR_fault
  refine j_aload_n (pc := 0) 0 C dX10_fault_0 rfl rfl ?_
  refine j_iconst (pc := 1) 0 C dX10_fault_1 (by decide) ?_
  refine pR_0_0 (pc := 2) C dX10_fault_2 q_811 ?_
  refine j_nxS (fun T1 => ?_)
  refine j_aload_n (pc := 5) 0 C dX10_fault_5 rfl rfl ?_
  refine gR_0_8 (pc := 6) C dX10_fault_6 q_823 ?_
  exact j_iret C dX10_fault_9 rfl (Nat.le_of_ble_eq_true rfl) (Nat.le_of_ble_eq_true rfl)
theorem cR_fault {l : Launch} {G : Gc} (hfl : l.stackTraces = false) (hW : Wok G wR 26)    (S : St) : Ct l yX10_fault (Cond.code yX10_fault cX10_fault 1 (some .int) :: tblG) 1 0 0 G wR 26 [.ref (gA G 0)] S (fR_fault  S) := ct_of (own := RX10) hfl (by decide +kernel) rfl hW (Nat.le_of_ble_eq_true rfl) (fun E hE C => by subst hE; exact bR_fault C    S)
theorem rR_fault {E : Ec} {G : Gc} {nL mc ms : Nat} {own : String} {cc : ByteArray} {L : Nat} {ret : Option FieldType} {k n pc ix : Nat} {loc : List (Nat × Value)} {rest : List Value}   {S : St}  (C : JC E (VR G nL mc ms own) cc L ret) (hd : decode cc pc = .ok (.invokevirtual ix, 3)) (hq : Cond.methodLink own ix yX10_fault ∈ tblG) (hL : 1 + 1 ≤ L) (hW : (rest.map fun v => v.category).sum ≤ 8) (hf : k + 0 ≤ mc ∧ n + 0 ≤ ms) : Rn E (VR G nL mc ms own) k n 0 0 pc loc (.ref (gA G 0) :: rest) rest S (fR_fault  S) := rn_V (ci := 10) 0 (V := VR G nL mc ms own) (As := []) (Cq := (RX10, TX10, 53)) (cR_fault C.flags C.wok   S) knX10_fault ⟨q_1087, q_1088⟩ rfl rfl C hd hq hL rfl rfl hW hf

theorem knX10_undo : Kn yX10_undo cX10_undo 2 (some .int) 0 := ⟨q_1089, q_815, by decide +kernel, by decide⟩
theorem bR_undo_26 {E : Ec} {G : Gc}    (C : JC E (VR G 2 0 0 RX10) cX10_undo 1 (some .int))    : ∀ (n : Nat) (x1 : Int32) (S : St), J E (VR G 2 0 0 RX10) 0 0 26 [(0, .ref (gA G 0)), (1, .int x1)] [] S (fR_undo_26  n x1 S) := by
  intro n
  induction n with
  | zero => intro x1 S; rw [fR_undo_26]; exact j_none
  | succ n ih =>
    intro x1 S
    rw [fR_undo_26]
    refine j_iload_n (pc := 26) 1 C dX10_undo_26 rfl rfl ?_
    refine j_bipush (pc := 27) 95 C dX10_undo_27 (by decide) ?_
    refine j_icmp_ge (pc := 29) 58 C dX10_undo_29 (by decide) ?_ ?_
    ·
      refine j_aload_n (pc := 58) 0 C dX10_undo_58 rfl rfl ?_
      refine j_iconst (pc := 59) 0 C dX10_undo_59 (by decide) ?_
      refine pR_0_36 (pc := 60) C dX10_undo_60 q_898 ?_
      refine j_nxS (fun T1 => ?_)
      refine j_aload_n (pc := 63) 0 C dX10_undo_63 rfl rfl ?_
      refine gR_0_35 (pc := 64) C dX10_undo_64 q_896 ?_
      exact j_iret C dX10_undo_67 rfl (Nat.le_of_ble_eq_true rfl) (Nat.le_of_ble_eq_true rfl)
    ·
      refine j_aload_n (pc := 32) 0 C dX10_undo_32 rfl rfl ?_
      refine gR_0_40 (pc := 33) C dX10_undo_33 q_899 ?_
      refine j_iload_n (pc := 36) 1 C dX10_undo_36 rfl rfl ?_
      refine j_aload_n (pc := 37) 0 C dX10_undo_37 rfl rfl ?_
      refine gR_0_42 (pc := 38) C dX10_undo_38 q_1077 ?_
      refine j_bipush (pc := 41) 95 C dX10_undo_41 (by decide) ?_
      refine j_aload_n (pc := 43) 0 C dX10_undo_43 rfl rfl ?_
      refine gR_0_35 (pc := 44) C dX10_undo_44 q_896 ?_
      refine j_imul (pc := 47) C dX10_undo_47 ?_
      refine j_iload_n (pc := 48) 1 C dX10_undo_48 rfl rfl ?_
      refine j_iadd (pc := 49) C dX10_undo_49 ?_
      refine aR_19 (pc := 50) C dX10_undo_50 ?_
      refine sR_17 (pc := 51) C dX10_undo_51 ?_
      refine j_nxS (fun T2 => ?_)
      refine j_iinc (pc := 52) 1 (x1 + 1) [(1, .int (x1 + 1)), (0, .ref (gA G 0))] C dX10_undo_52 rfl rfl (Nat.le_of_ble_eq_true rfl) rfl ?_
      refine j_goto (pc := 55) 26 C dX10_undo_55 (by decide) ?_
      refine j_sub [1, 0] rfl ?_
      exact ih (x1 + 1) T2
theorem bR_undo {E : Ec} {G : Gc}    (C : JC E (VR G 2 0 0 RX10) cX10_undo 1 (some .int))     (S : St) : J E (VR G 2 0 0 RX10) 0 0 0 [(0, .ref (gA G 0))] [] S (fR_undo   S) := by
  unfold fR_undo
  refine j_aload_n (pc := 0) 0 C dX10_undo_0 rfl rfl ?_
  refine j_iconst (pc := 1) 0 C dX10_undo_1 (by decide) ?_
  refine pR_0_0 (pc := 2) C dX10_undo_2 q_811 ?_
  refine j_nxS (fun T1 => ?_)
  refine j_aload_n (pc := 5) 0 C dX10_undo_5 rfl rfl ?_
  refine gR_0_35 (pc := 6) C dX10_undo_6 q_896 ?_
  refine j_if_ne (pc := 9) 14 C dX10_undo_9 (by decide) ?_ ?_
  ·
    refine j_aload_n (pc := 14) 0 C dX10_undo_14 rfl rfl ?_
    refine j_dup (pc := 15) C dX10_undo_15 rfl ?_
    refine gR_0_35 (pc := 16) C dX10_undo_16 q_896 ?_
    refine j_iconst (pc := 19) 1 C dX10_undo_19 (by decide) ?_
    refine j_isub (pc := 20) C dX10_undo_20 ?_
    refine pR_0_35 (pc := 21) C dX10_undo_21 q_896 ?_
    refine j_nxS (fun T2 => ?_)
    refine j_iconst (pc := 24) 0 C dX10_undo_24 (by decide) ?_
    refine j_istore_n (pc := 25) [(1, .int 0), (0, .ref (gA G 0))] C dX10_undo_25 rfl (Nat.le_of_ble_eq_true rfl) rfl ?_
    refine j_sub [1, 0] rfl ?_
    exact bR_undo_26 C  FU 0 T2
  ·
    refine j_iconst (pc := 12) (-1) C dX10_undo_12 (by decide) ?_
    exact j_iret C dX10_undo_13 rfl (Nat.le_of_ble_eq_true rfl) (Nat.le_of_ble_eq_true rfl)
theorem cR_undo {l : Launch} {G : Gc} (hfl : l.stackTraces = false) (hW : Wok G wR 26)    (S : St) : Ct l yX10_undo (Cond.code yX10_undo cX10_undo 2 (some .int) :: tblG) 1 0 0 G wR 26 [.ref (gA G 0)] S (fR_undo  S) := ct_of (own := RX10) hfl (by decide +kernel) rfl hW (Nat.le_of_ble_eq_true rfl) (fun E hE C => by subst hE; exact bR_undo C    S)
theorem rR_undo {E : Ec} {G : Gc} {nL mc ms : Nat} {own : String} {cc : ByteArray} {L : Nat} {ret : Option FieldType} {k n pc ix : Nat} {loc : List (Nat × Value)} {rest : List Value}   {S : St}  (C : JC E (VR G nL mc ms own) cc L ret) (hd : decode cc pc = .ok (.invokevirtual ix, 3)) (hq : Cond.methodLink own ix yX10_undo ∈ tblG) (hL : 1 + 1 ≤ L) (hW : (rest.map fun v => v.category).sum ≤ 8) (hf : k + 0 ≤ mc ∧ n + 0 ≤ ms) : Rn E (VR G nL mc ms own) k n 0 0 pc loc (.ref (gA G 0) :: rest) rest S (fR_undo  S) := rn_V (ci := 10) 0 (V := VR G nL mc ms own) (As := []) (Cq := (RX10, TX10, 53)) (cR_undo C.flags C.wok   S) knX10_undo ⟨q_1090, q_1091⟩ rfl rfl C hd hq hL rfl rfl hW hf

theorem knX10_within : Kn yX10_within cX10_within 3 (some .boolean) 3 := ⟨q_1092, q_815, by decide +kernel, by decide⟩
theorem bR_within {E : Ec} {G : Gc}    (C : JC E (VR G 3 0 0 RX10) cX10_within 1 (some .boolean))    (x0 : Int32) (x1 : Int32) (x2 : Int32) (S : St) : J E (VR G 3 0 0 RX10) 0 0 0 [(0, .int x0), (1, .int x1), (2, .int x2)] [] S (fR_within  x0 x1 x2 S) := by
  unfold fR_within
  refine j_iload_n (pc := 0) 0 C dX10_within_0 rfl rfl ?_
  refine j_iload_n (pc := 1) 1 C dX10_within_1 rfl rfl ?_
  refine j_icmp_lt (pc := 2) 14 C dX10_within_2 (by decide) ?_ ?_
  ·
    refine j_iconst (pc := 14) 0 C dX10_within_14 (by decide) ?_
    exact j_zretc C dX10_within_15 rfl (Nat.le_of_ble_eq_true rfl) (Nat.le_of_ble_eq_true rfl) rfl
  ·
    refine j_iload_n (pc := 5) 0 C dX10_within_5 rfl rfl ?_
    refine j_iload_n (pc := 6) 2 C dX10_within_6 rfl rfl ?_
    refine j_icmp_gt (pc := 7) 14 C dX10_within_7 (by decide) ?_ ?_
    ·
      refine j_iconst (pc := 14) 0 C dX10_within_14 (by decide) ?_
      exact j_zretc C dX10_within_15 rfl (Nat.le_of_ble_eq_true rfl) (Nat.le_of_ble_eq_true rfl) rfl
    ·
      refine j_iconst (pc := 10) 1 C dX10_within_10 (by decide) ?_
      refine j_goto (pc := 11) 15 C dX10_within_11 (by decide) ?_
      exact j_zretc C dX10_within_15 rfl (Nat.le_of_ble_eq_true rfl) (Nat.le_of_ble_eq_true rfl) rfl
theorem cR_within {l : Launch} {G : Gc} (hfl : l.stackTraces = false) (hW : Wok G wR 26)   (x0 : Int32) (x1 : Int32) (x2 : Int32) (S : St) : Ct l yX10_within (Cond.code yX10_within cX10_within 3 (some .boolean) :: tblG) 1 0 0 G wR 26 [.int x0, .int x1, .int x2] S (fR_within x0 x1 x2 S) := ct_of (own := RX10) hfl (by decide +kernel) rfl hW (Nat.le_of_ble_eq_true rfl) (fun E hE C => by subst hE; exact bR_within C   x0 x1 x2 S)
theorem rR_within {E : Ec} {G : Gc} {nL mc ms : Nat} {own : String} {cc : ByteArray} {L : Nat} {ret : Option FieldType} {k n pc ix : Nat} {loc : List (Nat × Value)} {rest : List Value}  {x0 : Int32} {x1 : Int32} {x2 : Int32} {S : St}  (C : JC E (VR G nL mc ms own) cc L ret) (hd : decode cc pc = .ok (.invokestatic ix, 3)) (hq : Cond.methodLink own ix yX10_within ∈ tblG) (hL : 1 + 1 ≤ L) (hW : (rest.map fun v => v.category).sum ≤ 8) (hf : k + 0 ≤ mc ∧ n + 0 ≤ ms) : Rn E (VR G nL mc ms own) k n 0 0 pc loc (.int x2 :: .int x1 :: .int x0 :: rest) rest S (fR_within x0 x1 x2 S) := rn_S (V := VR G nL mc ms own) (As := [.int x0, .int x1, .int x2]) (cR_within C.flags C.wok  x0 x1 x2 S) knX10_within q_1093  C hd hq hL rfl rfl hW hf

theorem knX10_allLines : Kn yX10_allLines cX10_allLines 3 (some .int) 0 := ⟨q_1095, q_815, by decide +kernel, by decide⟩
theorem bR_allLines_4 {E : Ec} {G : Gc}    (C : JC E (VR G 3 0 0 RX10) cX10_allLines 3 (some .int))    : ∀ (n : Nat) (x1 : Int32) (x2 : Int32) (S : St), J E (VR G 3 0 0 RX10) 0 0 4 [(0, .ref (gA G 0)), (1, .int x1), (2, .int x2)] [] S (fR_allLines_4  n x1 x2 S) := by
  intro n
  induction n with
  | zero => intro x1 x2 S; rw [fR_allLines_4]; exact j_none
  | succ n ih =>
    intro x1 x2 S
    rw [fR_allLines_4]
    refine j_iload_n (pc := 4) 2 C dX10_allLines_4 rfl rfl ?_
    refine j_aload_n (pc := 5) 0 C dX10_allLines_5 rfl rfl ?_
    refine gR_0_21 (pc := 6) C dX10_allLines_6 q_881 ?_
    refine j_icmp_ge (pc := 9) 26 C dX10_allLines_9 (by decide) ?_ ?_
    ·
      refine j_iload_n (pc := 26) 1 C dX10_allLines_26 rfl rfl ?_
      exact j_iret C dX10_allLines_27 rfl (Nat.le_of_ble_eq_true rfl) (Nat.le_of_ble_eq_true rfl)
    ·
      refine j_iload_n (pc := 12) 1 C dX10_allLines_12 rfl rfl ?_
      refine j_aload_n (pc := 13) 0 C dX10_allLines_13 rfl rfl ?_
      refine j_iload_n (pc := 14) 2 C dX10_allLines_14 rfl rfl ?_
      refine j_callI0 (pc := 15) C (rR_allOf C dX10_allLines_15 q_1035 (by omega) (Nat.le_of_ble_eq_true rfl) ⟨Nat.le_of_ble_eq_true rfl, Nat.le_of_ble_eq_true rfl⟩) ⟨Nat.le_of_ble_eq_true rfl, Nat.le_of_ble_eq_true rfl⟩ (fun r2 T1 => ?_)
      refine j_iadd (pc := 18) C dX10_allLines_18 ?_
      refine j_nxI (fun v3 => ?_)
      refine j_istore_n (pc := 19) [(1, .int v3), (0, .ref (gA G 0)), (2, .int x2)] C dX10_allLines_19 rfl (Nat.le_of_ble_eq_true rfl) rfl ?_
      refine j_iinc (pc := 20) 2 (x2 + 1) [(2, .int (x2 + 1)), (1, .int v3), (0, .ref (gA G 0))] C dX10_allLines_20 rfl rfl (Nat.le_of_ble_eq_true rfl) rfl ?_
      refine j_goto (pc := 23) 4 C dX10_allLines_23 (by decide) ?_
      refine j_sub [2, 1, 0] rfl ?_
      exact ih v3 (x2 + 1) T1
theorem bR_allLines {E : Ec} {G : Gc}    (C : JC E (VR G 3 0 0 RX10) cX10_allLines 3 (some .int))     (S : St) : J E (VR G 3 0 0 RX10) 0 0 0 [(0, .ref (gA G 0))] [] S (fR_allLines   S) := by
  unfold fR_allLines
  refine j_iconst (pc := 0) 0 C dX10_allLines_0 (by decide) ?_
  refine j_istore_n (pc := 1) [(1, .int 0), (0, .ref (gA G 0))] C dX10_allLines_1 rfl (Nat.le_of_ble_eq_true rfl) rfl ?_
  refine j_iconst (pc := 2) 0 C dX10_allLines_2 (by decide) ?_
  refine j_istore_n (pc := 3) [(2, .int 0), (1, .int 0), (0, .ref (gA G 0))] C dX10_allLines_3 rfl (Nat.le_of_ble_eq_true rfl) rfl ?_
  refine j_sub [2, 1, 0] rfl ?_
  exact bR_allLines_4 C  FU 0 0 S
theorem cR_allLines {l : Launch} {G : Gc} (hfl : l.stackTraces = false) (hW : Wok G wR 26)    (S : St) : Ct l yX10_allLines (Cond.code yX10_allLines cX10_allLines 3 (some .int) :: tblG) 3 0 0 G wR 26 [.ref (gA G 0)] S (fR_allLines  S) := ct_of (own := RX10) hfl (by decide +kernel) rfl hW (Nat.le_of_ble_eq_true rfl) (fun E hE C => by subst hE; exact bR_allLines C    S)
theorem rR_allLines {E : Ec} {G : Gc} {nL mc ms : Nat} {own : String} {cc : ByteArray} {L : Nat} {ret : Option FieldType} {k n pc ix : Nat} {loc : List (Nat × Value)} {rest : List Value}   {S : St}  (C : JC E (VR G nL mc ms own) cc L ret) (hd : decode cc pc = .ok (.invokevirtual ix, 3)) (hq : Cond.methodLink own ix yX10_allLines ∈ tblG) (hL : 3 + 1 ≤ L) (hW : (rest.map fun v => v.category).sum ≤ 8) (hf : k + 0 ≤ mc ∧ n + 0 ≤ ms) : Rn E (VR G nL mc ms own) k n 0 0 pc loc (.ref (gA G 0) :: rest) rest S (fR_allLines  S) := rn_V (ci := 10) 0 (V := VR G nL mc ms own) (As := []) (Cq := (RX10, TX10, 53)) (cR_allLines C.flags C.wok   S) knX10_allLines ⟨q_1096, q_1097⟩ rfl rfl C hd hq hL rfl rfl hW hf

theorem knX10_bitsOf : Kn yX10_bitsOf cX10_bitsOf 5 (some .int) 2 := ⟨q_1099, q_815, by decide +kernel, by decide⟩
theorem bR_bitsOf_5 {E : Ec} {G : Gc}    (C : JC E (VR G 5 0 0 RX10) cX10_bitsOf 1 (some .int))    : ∀ (n : Nat) (x1 : Int32) (x2 : Int32) (x3 : Int32) (x4 : Int32) (S : St), J E (VR G 5 0 0 RX10) 0 0 5 [(0, .ref (gA G 0)), (1, .int x1), (2, .int x2), (3, .int x3), (4, .int x4)] [] S (fR_bitsOf_5  n x1 x2 x3 x4 S) := by
  intro n
  induction n with
  | zero => intro x1 x2 x3 x4 S; rw [fR_bitsOf_5]; exact j_none
  | succ n ih =>
    intro x1 x2 x3 x4 S
    rw [fR_bitsOf_5]
    refine j_iload (pc := 5) 4 C dX10_bitsOf_5 rfl ?_
    refine j_iload_n (pc := 7) 2 C dX10_bitsOf_7 rfl rfl ?_
    refine j_icmp_ge (pc := 8) 32 C dX10_bitsOf_8 (by decide) ?_ ?_
    ·
      refine j_iload_n (pc := 32) 3 C dX10_bitsOf_32 rfl rfl ?_
      exact j_iret C dX10_bitsOf_33 rfl (Nat.le_of_ble_eq_true rfl) (Nat.le_of_ble_eq_true rfl)
    ·
      refine j_iload_n (pc := 11) 3 C dX10_bitsOf_11 rfl rfl ?_
      refine j_aload_n (pc := 12) 0 C dX10_bitsOf_12 rfl rfl ?_
      refine gR_0_41 (pc := 13) C dX10_bitsOf_13 q_980 ?_
      refine j_iload_n (pc := 16) 1 C dX10_bitsOf_16 rfl rfl ?_
      refine j_iload (pc := 17) 4 C dX10_bitsOf_17 rfl ?_
      refine j_iadd (pc := 19) C dX10_bitsOf_19 ?_
      refine aR_18 (pc := 20) C dX10_bitsOf_20 ?_
      refine j_iload (pc := 21) 4 C dX10_bitsOf_21 rfl ?_
      refine j_ishl (pc := 23) C dX10_bitsOf_23 ?_
      refine j_ior (pc := 24) C dX10_bitsOf_24 ?_
      refine j_nxI (fun v1 => ?_)
      refine j_istore_n (pc := 25) [(3, .int v1), (0, .ref (gA G 0)), (1, .int x1), (2, .int x2), (4, .int x4)] C dX10_bitsOf_25 rfl (Nat.le_of_ble_eq_true rfl) rfl ?_
      refine j_iinc (pc := 26) 4 (x4 + 1) [(4, .int (x4 + 1)), (3, .int v1), (0, .ref (gA G 0)), (1, .int x1), (2, .int x2)] C dX10_bitsOf_26 rfl rfl (Nat.le_of_ble_eq_true rfl) rfl ?_
      refine j_goto (pc := 29) 5 C dX10_bitsOf_29 (by decide) ?_
      refine j_sub [2, 3, 4, 1, 0] rfl ?_
      exact ih x1 x2 v1 (x4 + 1) S
theorem bR_bitsOf {E : Ec} {G : Gc}    (C : JC E (VR G 5 0 0 RX10) cX10_bitsOf 1 (some .int))    (x1 : Int32) (x2 : Int32) (S : St) : J E (VR G 5 0 0 RX10) 0 0 0 [(0, .ref (gA G 0)), (1, .int x1), (2, .int x2)] [] S (fR_bitsOf  x1 x2 S) := by
  unfold fR_bitsOf
  refine j_iconst (pc := 0) 0 C dX10_bitsOf_0 (by decide) ?_
  refine j_istore_n (pc := 1) [(3, .int 0), (0, .ref (gA G 0)), (1, .int x1), (2, .int x2)] C dX10_bitsOf_1 rfl (Nat.le_of_ble_eq_true rfl) rfl ?_
  refine j_iconst (pc := 2) 0 C dX10_bitsOf_2 (by decide) ?_
  refine j_istore (pc := 3) [(4, .int 0), (3, .int 0), (0, .ref (gA G 0)), (1, .int x1), (2, .int x2)] C dX10_bitsOf_3 (Nat.le_of_ble_eq_true rfl) rfl ?_
  refine j_sub [2, 3, 4, 1, 0] rfl ?_
  exact bR_bitsOf_5 C  FU x1 x2 0 0 S
theorem cR_bitsOf {l : Launch} {G : Gc} (hfl : l.stackTraces = false) (hW : Wok G wR 26)   (x1 : Int32) (x2 : Int32) (S : St) : Ct l yX10_bitsOf (Cond.code yX10_bitsOf cX10_bitsOf 5 (some .int) :: tblG) 1 0 0 G wR 26 [.ref (gA G 0), .int x1, .int x2] S (fR_bitsOf x1 x2 S) := ct_of (own := RX10) hfl (by decide +kernel) rfl hW (Nat.le_of_ble_eq_true rfl) (fun E hE C => by subst hE; exact bR_bitsOf C   x1 x2 S)
theorem rR_bitsOf {E : Ec} {G : Gc} {nL mc ms : Nat} {own : String} {cc : ByteArray} {L : Nat} {ret : Option FieldType} {k n pc ix : Nat} {loc : List (Nat × Value)} {rest : List Value}  {x1 : Int32} {x2 : Int32} {S : St}  (C : JC E (VR G nL mc ms own) cc L ret) (hd : decode cc pc = .ok (.invokevirtual ix, 3)) (hq : Cond.methodLink own ix yX10_bitsOf ∈ tblG) (hL : 1 + 1 ≤ L) (hW : (rest.map fun v => v.category).sum ≤ 8) (hf : k + 0 ≤ mc ∧ n + 0 ≤ ms) : Rn E (VR G nL mc ms own) k n 0 0 pc loc (.int x2 :: .int x1 :: .ref (gA G 0) :: rest) rest S (fR_bitsOf x1 x2 S) := rn_V (ci := 10) 0 (V := VR G nL mc ms own) (As := [.int x1, .int x2]) (Cq := (RX10, TX10, 53)) (cR_bitsOf C.flags C.wok  x1 x2 S) knX10_bitsOf ⟨q_1100, q_1101⟩ rfl rfl C hd hq hL rfl rfl hW hf

theorem knX10_lateNow : Kn yX10_lateNow cX10_lateNow 3 (some .int) 0 := ⟨q_1103, q_815, by decide +kernel, by decide⟩
theorem bR_lateNow_4 {E : Ec} {G : Gc}    (C : JC E (VR G 3 0 0 RX10) cX10_lateNow 1 (some .int))    : ∀ (n : Nat) (x1 : Int32) (x2 : Int32) (S : St), J E (VR G 3 0 0 RX10) 0 0 4 [(0, .ref (gA G 0)), (1, .int x1), (2, .int x2)] [] S (fR_lateNow_4  n x1 x2 S) := by
  intro n
  induction n with
  | zero => intro x1 x2 S; rw [fR_lateNow_4]; exact j_none
  | succ n ih =>
    intro x1 x2 S
    rw [fR_lateNow_4]
    refine j_iload_n (pc := 4) 2 C dX10_lateNow_4 rfl rfl ?_
    refine j_aload_n (pc := 5) 0 C dX10_lateNow_5 rfl rfl ?_
    refine gR_0_22 (pc := 6) C dX10_lateNow_6 q_882 ?_
    refine j_icmp_ge (pc := 9) 60 C dX10_lateNow_9 (by decide) ?_ ?_
    ·
      refine j_iload_n (pc := 60) 1 C dX10_lateNow_60 rfl rfl ?_
      exact j_iret C dX10_lateNow_61 rfl (Nat.le_of_ble_eq_true rfl) (Nat.le_of_ble_eq_true rfl)
    ·
      refine j_iload_n (pc := 12) 1 C dX10_lateNow_12 rfl rfl ?_
      refine j_aload_n (pc := 13) 0 C dX10_lateNow_13 rfl rfl ?_
      refine gR_0_41 (pc := 14) C dX10_lateNow_14 q_980 ?_
      refine j_bipush (pc := 17) 84 C dX10_lateNow_17 (by decide) ?_
      refine j_iload_n (pc := 19) 2 C dX10_lateNow_19 rfl rfl ?_
      refine j_iadd (pc := 20) C dX10_lateNow_20 ?_
      refine aR_18 (pc := 21) C dX10_lateNow_21 ?_
      refine j_if_ne (pc := 22) 51 C dX10_lateNow_22 (by decide) ?_ ?_
      ·
        refine j_iconst (pc := 51) 0 C dX10_lateNow_51 (by decide) ?_
        refine j_ior (pc := 52) C dX10_lateNow_52 ?_
        refine j_nxI (fun v1 => ?_)
        refine j_istore_n (pc := 53) [(1, .int v1), (0, .ref (gA G 0)), (2, .int x2)] C dX10_lateNow_53 rfl (Nat.le_of_ble_eq_true rfl) rfl ?_
        refine j_iinc (pc := 54) 2 (x2 + 1) [(2, .int (x2 + 1)), (1, .int v1), (0, .ref (gA G 0))] C dX10_lateNow_54 rfl rfl (Nat.le_of_ble_eq_true rfl) rfl ?_
        refine j_goto (pc := 57) 4 C dX10_lateNow_57 (by decide) ?_
        refine j_sub [2, 1, 0] rfl ?_
        exact ih v1 (x2 + 1) S
      ·
        refine j_aload_n (pc := 25) 0 C dX10_lateNow_25 rfl rfl ?_
        refine gR_0_41 (pc := 26) C dX10_lateNow_26 q_980 ?_
        refine j_bipush (pc := 29) 94 C dX10_lateNow_29 (by decide) ?_
        refine acR_18 (pc := 31) C dX10_lateNow_31 rfl ?_
        refine j_aload_n (pc := 32) 0 C dX10_lateNow_32 rfl rfl ?_
        refine gR_0_15 (pc := 33) C dX10_lateNow_33 q_893 ?_
        refine j_iconst (pc := 36) 4 C dX10_lateNow_36 (by decide) ?_
        refine j_iload_n (pc := 37) 2 C dX10_lateNow_37 rfl rfl ?_
        refine j_imul (pc := 38) C dX10_lateNow_38 ?_
        refine j_iconst (pc := 39) 3 C dX10_lateNow_39 (by decide) ?_
        refine j_iadd (pc := 40) C dX10_lateNow_40 ?_
        refine aR_8 (pc := 41) C dX10_lateNow_41 ?_
        refine j_icmp_le (pc := 42) 51 C dX10_lateNow_42 (by decide) ?_ ?_
        ·
          refine j_iconst (pc := 51) 0 C dX10_lateNow_51 (by decide) ?_
          refine j_ior (pc := 52) C dX10_lateNow_52 ?_
          refine j_nxI (fun v2 => ?_)
          refine j_istore_n (pc := 53) [(1, .int v2), (0, .ref (gA G 0)), (2, .int x2)] C dX10_lateNow_53 rfl (Nat.le_of_ble_eq_true rfl) rfl ?_
          refine j_iinc (pc := 54) 2 (x2 + 1) [(2, .int (x2 + 1)), (1, .int v2), (0, .ref (gA G 0))] C dX10_lateNow_54 rfl rfl (Nat.le_of_ble_eq_true rfl) rfl ?_
          refine j_goto (pc := 57) 4 C dX10_lateNow_57 (by decide) ?_
          refine j_sub [2, 1, 0] rfl ?_
          exact ih v2 (x2 + 1) S
        ·
          refine j_iconst (pc := 45) 1 C dX10_lateNow_45 (by decide) ?_
          refine j_iload_n (pc := 46) 2 C dX10_lateNow_46 rfl rfl ?_
          refine j_ishl (pc := 47) C dX10_lateNow_47 ?_
          refine j_goto (pc := 48) 52 C dX10_lateNow_48 (by decide) ?_
          refine j_ior (pc := 52) C dX10_lateNow_52 ?_
          refine j_nxI (fun v3 => ?_)
          refine j_istore_n (pc := 53) [(1, .int v3), (0, .ref (gA G 0)), (2, .int x2)] C dX10_lateNow_53 rfl (Nat.le_of_ble_eq_true rfl) rfl ?_
          refine j_iinc (pc := 54) 2 (x2 + 1) [(2, .int (x2 + 1)), (1, .int v3), (0, .ref (gA G 0))] C dX10_lateNow_54 rfl rfl (Nat.le_of_ble_eq_true rfl) rfl ?_
          refine j_goto (pc := 57) 4 C dX10_lateNow_57 (by decide) ?_
          refine j_sub [2, 1, 0] rfl ?_
          exact ih v3 (x2 + 1) S
theorem bR_lateNow {E : Ec} {G : Gc}    (C : JC E (VR G 3 0 0 RX10) cX10_lateNow 1 (some .int))     (S : St) : J E (VR G 3 0 0 RX10) 0 0 0 [(0, .ref (gA G 0))] [] S (fR_lateNow   S) := by
  unfold fR_lateNow
  refine j_iconst (pc := 0) 0 C dX10_lateNow_0 (by decide) ?_
  refine j_istore_n (pc := 1) [(1, .int 0), (0, .ref (gA G 0))] C dX10_lateNow_1 rfl (Nat.le_of_ble_eq_true rfl) rfl ?_
  refine j_iconst (pc := 2) 0 C dX10_lateNow_2 (by decide) ?_
  refine j_istore_n (pc := 3) [(2, .int 0), (1, .int 0), (0, .ref (gA G 0))] C dX10_lateNow_3 rfl (Nat.le_of_ble_eq_true rfl) rfl ?_
  refine j_sub [2, 1, 0] rfl ?_
  exact bR_lateNow_4 C  FU 0 0 S
theorem cR_lateNow {l : Launch} {G : Gc} (hfl : l.stackTraces = false) (hW : Wok G wR 26)    (S : St) : Ct l yX10_lateNow (Cond.code yX10_lateNow cX10_lateNow 3 (some .int) :: tblG) 1 0 0 G wR 26 [.ref (gA G 0)] S (fR_lateNow  S) := ct_of (own := RX10) hfl (by decide +kernel) rfl hW (Nat.le_of_ble_eq_true rfl) (fun E hE C => by subst hE; exact bR_lateNow C    S)
theorem rR_lateNow {E : Ec} {G : Gc} {nL mc ms : Nat} {own : String} {cc : ByteArray} {L : Nat} {ret : Option FieldType} {k n pc ix : Nat} {loc : List (Nat × Value)} {rest : List Value}   {S : St}  (C : JC E (VR G nL mc ms own) cc L ret) (hd : decode cc pc = .ok (.invokevirtual ix, 3)) (hq : Cond.methodLink own ix yX10_lateNow ∈ tblG) (hL : 1 + 1 ≤ L) (hW : (rest.map fun v => v.category).sum ≤ 8) (hf : k + 0 ≤ mc ∧ n + 0 ≤ ms) : Rn E (VR G nL mc ms own) k n 0 0 pc loc (.ref (gA G 0) :: rest) rest S (fR_lateNow  S) := rn_V (ci := 10) 0 (V := VR G nL mc ms own) (As := []) (Cq := (RX10, TX10, 53)) (cR_lateNow C.flags C.wok   S) knX10_lateNow ⟨q_1104, q_1105⟩ rfl rfl C hd hq hL rfl rfl hW hf

theorem knX10_told : Kn yX10_told cX10_told 2 (some .int) 1 := ⟨q_1107, q_815, by decide +kernel, by decide⟩
theorem bR_told {E : Ec} {G : Gc}    (C : JC E (VR G 2 0 0 RX10) cX10_told 4 (some .int))    (x1 : Int32) (S : St) : J E (VR G 2 0 0 RX10) 0 0 0 [(0, .ref (gA G 0)), (1, .int x1)] [] S (fR_told  x1 S) := by
  unfold fR_told
  refine j_aload_n (pc := 0) 0 C dX10_told_0 rfl rfl ?_
  refine j_iconst (pc := 1) 0 C dX10_told_1 (by decide) ?_
  refine pR_0_0 (pc := 2) C dX10_told_2 q_811 ?_
  refine j_nxS (fun T1 => ?_)
  refine j_aload_n (pc := 5) 0 C dX10_told_5 rfl rfl ?_
  refine j_iload_n (pc := 6) 1 C dX10_told_6 rfl rfl ?_
  refine j_iconst (pc := 7) 0 C dX10_told_7 (by decide) ?_
  refine j_bipush (pc := 8) 11 C dX10_told_8 (by decide) ?_
  refine j_callI0 (pc := 10) C (rR_within C dX10_told_10 q_1094 (by omega) (Nat.le_of_ble_eq_true rfl) ⟨Nat.le_of_ble_eq_true rfl, Nat.le_of_ble_eq_true rfl⟩) ⟨Nat.le_of_ble_eq_true rfl, Nat.le_of_ble_eq_true rfl⟩ (fun r3 T2 => ?_)
  refine j_iconst (pc := 13) 1 C dX10_told_13 (by decide) ?_
  refine j_iconst (pc := 14) 1 C dX10_told_14 (by decide) ?_
  refine j_callI0 (pc := 15) C (rR_may C dX10_told_15 q_822 (by omega) (Nat.le_of_ble_eq_true rfl) ⟨Nat.le_of_ble_eq_true rfl, Nat.le_of_ble_eq_true rfl⟩) ⟨Nat.le_of_ble_eq_true rfl, Nat.le_of_ble_eq_true rfl⟩ (fun r5 T4 => ?_)
  refine j_if_ne (pc := 18) 23 C dX10_told_18 (by decide) ?_ ?_
  ·
    refine j_aload_n (pc := 23) 0 C dX10_told_23 rfl rfl ?_
    refine j_callv0 (pc := 24) C (rR_take C dX10_told_24 q_984 (by omega) (Nat.le_of_ble_eq_true rfl) ⟨Nat.le_of_ble_eq_true rfl, Nat.le_of_ble_eq_true rfl⟩) ⟨Nat.le_of_ble_eq_true rfl, Nat.le_of_ble_eq_true rfl⟩ (fun T6 => ?_)
    refine j_iload_n (pc := 27) 1 C dX10_told_27 rfl rfl ?_
    refine j_iconst (pc := 28) 4 C dX10_told_28 (by decide) ?_
    refine j_icmp_ge (pc := 29) 75 C dX10_told_29 (by decide) ?_ ?_
    ·
      refine j_iload_n (pc := 75) 1 C dX10_told_75 rfl rfl ?_
      refine j_bipush (pc := 76) 7 C dX10_told_76 (by decide) ?_
      refine j_icmp_ge (pc := 78) 122 C dX10_told_78 (by decide) ?_ ?_
      ·
        refine j_iload_n (pc := 122) 1 C dX10_told_122 rfl rfl ?_
        refine j_bipush (pc := 123) 9 C dX10_told_123 (by decide) ?_
        refine j_icmp_ge (pc := 125) 152 C dX10_told_125 (by decide) ?_ ?_
        ·
          refine j_iload_n (pc := 152) 1 C dX10_told_152 rfl rfl ?_
          refine j_bipush (pc := 153) 9 C dX10_told_153 (by decide) ?_
          refine j_icmp_ne (pc := 155) 165 C dX10_told_155 (by decide) ?_ ?_
          ·
            refine j_iload_n (pc := 165) 1 C dX10_told_165 rfl rfl ?_
            refine j_bipush (pc := 166) 10 C dX10_told_166 (by decide) ?_
            refine j_icmp_ne (pc := 168) 178 C dX10_told_168 (by decide) ?_ ?_
            ·
              refine j_aload_n (pc := 178) 0 C dX10_told_178 rfl rfl ?_
              refine gR_0_23 (pc := 179) C dX10_told_179 q_883 ?_
              exact j_iret C dX10_told_182 rfl (Nat.le_of_ble_eq_true rfl) (Nat.le_of_ble_eq_true rfl)
            ·
              refine j_aload_n (pc := 171) 0 C dX10_told_171 rfl rfl ?_
              refine gR_0_36 (pc := 172) C dX10_told_172 q_898 ?_
              refine j_goto (pc := 175) 182 C dX10_told_175 (by decide) ?_
              exact j_iret C dX10_told_182 rfl (Nat.le_of_ble_eq_true rfl) (Nat.le_of_ble_eq_true rfl)
          ·
            refine j_aload_n (pc := 158) 0 C dX10_told_158 rfl rfl ?_
            refine gR_0_45 (pc := 159) C dX10_told_159 q_895 ?_
            refine j_goto (pc := 162) 182 C dX10_told_162 (by decide) ?_
            exact j_iret C dX10_told_182 rfl (Nat.le_of_ble_eq_true rfl) (Nat.le_of_ble_eq_true rfl)
        ·
          refine j_iload_n (pc := 128) 1 C dX10_told_128 rfl rfl ?_
          refine j_bipush (pc := 129) 7 C dX10_told_129 (by decide) ?_
          refine j_icmp_ne (pc := 131) 147 C dX10_told_131 (by decide) ?_ ?_
          ·
            refine j_aload_n (pc := 147) 0 C dX10_told_147 rfl rfl ?_
            refine j_callI0 (pc := 148) C (rR_allLines C dX10_told_148 q_1098 (by omega) (Nat.le_of_ble_eq_true rfl) ⟨Nat.le_of_ble_eq_true rfl, Nat.le_of_ble_eq_true rfl⟩) ⟨Nat.le_of_ble_eq_true rfl, Nat.le_of_ble_eq_true rfl⟩ (fun r9 T8 => ?_)
            exact j_iret C dX10_told_151 rfl (Nat.le_of_ble_eq_true rfl) (Nat.le_of_ble_eq_true rfl)
          ·
            refine j_aload_n (pc := 134) 0 C dX10_told_134 rfl rfl ?_
            refine j_bipush (pc := 135) 72 C dX10_told_135 (by decide) ?_
            refine j_aload_n (pc := 137) 0 C dX10_told_137 rfl rfl ?_
            refine gR_0_21 (pc := 138) C dX10_told_138 q_881 ?_
            refine j_callI0 (pc := 141) C (rR_sumOf C dX10_told_141 q_1031 (by omega) (Nat.le_of_ble_eq_true rfl) ⟨Nat.le_of_ble_eq_true rfl, Nat.le_of_ble_eq_true rfl⟩) ⟨Nat.le_of_ble_eq_true rfl, Nat.le_of_ble_eq_true rfl⟩ (fun r11 T10 => ?_)
            refine j_goto (pc := 144) 151 C dX10_told_144 (by decide) ?_
            exact j_iret C dX10_told_151 rfl (Nat.le_of_ble_eq_true rfl) (Nat.le_of_ble_eq_true rfl)
      ·
        refine j_iload_n (pc := 81) 1 C dX10_told_81 rfl rfl ?_
        refine j_iconst (pc := 82) 4 C dX10_told_82 (by decide) ?_
        refine j_icmp_ne (pc := 83) 99 C dX10_told_83 (by decide) ?_ ?_
        ·
          refine j_iload_n (pc := 99) 1 C dX10_told_99 rfl rfl ?_
          refine j_iconst (pc := 100) 5 C dX10_told_100 (by decide) ?_
          refine j_icmp_ne (pc := 101) 111 C dX10_told_101 (by decide) ?_ ?_
          ·
            refine j_aload_n (pc := 111) 0 C dX10_told_111 rfl rfl ?_
            refine j_bipush (pc := 112) 54 C dX10_told_112 (by decide) ?_
            refine j_aload_n (pc := 114) 0 C dX10_told_114 rfl rfl ?_
            refine gR_0_21 (pc := 115) C dX10_told_115 q_881 ?_
            refine j_callI0 (pc := 118) C (rR_bitsOf C dX10_told_118 q_1102 (by omega) (Nat.le_of_ble_eq_true rfl) ⟨Nat.le_of_ble_eq_true rfl, Nat.le_of_ble_eq_true rfl⟩) ⟨Nat.le_of_ble_eq_true rfl, Nat.le_of_ble_eq_true rfl⟩ (fun r13 T12 => ?_)
            exact j_iret C dX10_told_121 rfl (Nat.le_of_ble_eq_true rfl) (Nat.le_of_ble_eq_true rfl)
          ·
            refine j_aload_n (pc := 104) 0 C dX10_told_104 rfl rfl ?_
            refine j_callI0 (pc := 105) C (rR_lateNow C dX10_told_105 q_1106 (by omega) (Nat.le_of_ble_eq_true rfl) ⟨Nat.le_of_ble_eq_true rfl, Nat.le_of_ble_eq_true rfl⟩) ⟨Nat.le_of_ble_eq_true rfl, Nat.le_of_ble_eq_true rfl⟩ (fun r15 T14 => ?_)
            refine j_goto (pc := 108) 121 C dX10_told_108 (by decide) ?_
            exact j_iret C dX10_told_121 rfl (Nat.le_of_ble_eq_true rfl) (Nat.le_of_ble_eq_true rfl)
        ·
          refine j_aload_n (pc := 86) 0 C dX10_told_86 rfl rfl ?_
          refine j_bipush (pc := 87) 84 C dX10_told_87 (by decide) ?_
          refine j_aload_n (pc := 89) 0 C dX10_told_89 rfl rfl ?_
          refine gR_0_22 (pc := 90) C dX10_told_90 q_882 ?_
          refine j_callI0 (pc := 93) C (rR_bitsOf C dX10_told_93 q_1102 (by omega) (Nat.le_of_ble_eq_true rfl) ⟨Nat.le_of_ble_eq_true rfl, Nat.le_of_ble_eq_true rfl⟩) ⟨Nat.le_of_ble_eq_true rfl, Nat.le_of_ble_eq_true rfl⟩ (fun r17 T16 => ?_)
          refine j_goto (pc := 96) 121 C dX10_told_96 (by decide) ?_
          exact j_iret C dX10_told_121 rfl (Nat.le_of_ble_eq_true rfl) (Nat.le_of_ble_eq_true rfl)
    ·
      refine j_iload_n (pc := 32) 1 C dX10_told_32 rfl rfl ?_
      refine j_if_ne (pc := 33) 43 C dX10_told_33 (by decide) ?_ ?_
      ·
        refine j_iload_n (pc := 43) 1 C dX10_told_43 rfl rfl ?_
        refine j_iconst (pc := 44) 1 C dX10_told_44 (by decide) ?_
        refine j_icmp_ne (pc := 45) 55 C dX10_told_45 (by decide) ?_ ?_
        ·
          refine j_iload_n (pc := 55) 1 C dX10_told_55 rfl rfl ?_
          refine j_iconst (pc := 56) 2 C dX10_told_56 (by decide) ?_
          refine j_icmp_ne (pc := 57) 67 C dX10_told_57 (by decide) ?_ ?_
          ·
            refine j_aload_n (pc := 67) 0 C dX10_told_67 rfl rfl ?_
            refine gR_0_41 (pc := 68) C dX10_told_68 q_980 ?_
            refine j_bipush (pc := 71) 94 C dX10_told_71 (by decide) ?_
            refine acR_18 (pc := 73) C dX10_told_73 rfl ?_
            exact j_iret C dX10_told_74 rfl (Nat.le_of_ble_eq_true rfl) (Nat.le_of_ble_eq_true rfl)
          ·
            refine j_aload_n (pc := 60) 0 C dX10_told_60 rfl rfl ?_
            refine gR_0_22 (pc := 61) C dX10_told_61 q_882 ?_
            refine j_goto (pc := 64) 74 C dX10_told_64 (by decide) ?_
            exact j_iret C dX10_told_74 rfl (Nat.le_of_ble_eq_true rfl) (Nat.le_of_ble_eq_true rfl)
        ·
          refine j_aload_n (pc := 48) 0 C dX10_told_48 rfl rfl ?_
          refine gR_0_21 (pc := 49) C dX10_told_49 q_881 ?_
          refine j_goto (pc := 52) 74 C dX10_told_52 (by decide) ?_
          exact j_iret C dX10_told_74 rfl (Nat.le_of_ble_eq_true rfl) (Nat.le_of_ble_eq_true rfl)
      ·
        refine j_aload_n (pc := 36) 0 C dX10_told_36 rfl rfl ?_
        refine gR_0_20 (pc := 37) C dX10_told_37 q_880 ?_
        refine j_goto (pc := 40) 74 C dX10_told_40 (by decide) ?_
        exact j_iret C dX10_told_74 rfl (Nat.le_of_ble_eq_true rfl) (Nat.le_of_ble_eq_true rfl)
  ·
    refine j_iconst (pc := 21) 0 C dX10_told_21 (by decide) ?_
    exact j_iret C dX10_told_22 rfl (Nat.le_of_ble_eq_true rfl) (Nat.le_of_ble_eq_true rfl)
theorem cR_told {l : Launch} {G : Gc} (hfl : l.stackTraces = false) (hW : Wok G wR 26)   (x1 : Int32) (S : St) : Ct l yX10_told (Cond.code yX10_told cX10_told 2 (some .int) :: tblG) 4 0 0 G wR 26 [.ref (gA G 0), .int x1] S (fR_told x1 S) := ct_of (own := RX10) hfl (by decide +kernel) rfl hW (Nat.le_of_ble_eq_true rfl) (fun E hE C => by subst hE; exact bR_told C   x1 S)
theorem rR_told {E : Ec} {G : Gc} {nL mc ms : Nat} {own : String} {cc : ByteArray} {L : Nat} {ret : Option FieldType} {k n pc ix : Nat} {loc : List (Nat × Value)} {rest : List Value}  {x1 : Int32} {S : St}  (C : JC E (VR G nL mc ms own) cc L ret) (hd : decode cc pc = .ok (.invokevirtual ix, 3)) (hq : Cond.methodLink own ix yX10_told ∈ tblG) (hL : 4 + 1 ≤ L) (hW : (rest.map fun v => v.category).sum ≤ 8) (hf : k + 0 ≤ mc ∧ n + 0 ≤ ms) : Rn E (VR G nL mc ms own) k n 0 0 pc loc (.int x1 :: .ref (gA G 0) :: rest) rest S (fR_told x1 S) := rn_V (ci := 10) 0 (V := VR G nL mc ms own) (As := [.int x1]) (Cq := (RX10, TX10, 53)) (cR_told C.flags C.wok  x1 S) knX10_told ⟨q_1108, q_1109⟩ rfl rfl C hd hq hL rfl rfl hW hf

theorem knX10_isPoem : Kn yX10_isPoem cX10_isPoem 3 (some .boolean) 2 := ⟨q_1110, q_815, by decide +kernel, by decide⟩
theorem bR_isPoem {E : Ec} {G : Gc}    (C : JC E (VR G 3 0 0 RX10) cX10_isPoem 2 (some .boolean))    (x1 : Int32) (x2 : Int32) (S : St) : J E (VR G 3 0 0 RX10) 0 0 0 [(0, .ref (gA G 0)), (1, .int x1), (2, .int x2)] [] S (fR_isPoem  x1 x2 S) := by
  unfold fR_isPoem
  refine j_aload_n (pc := 0) 0 C dX10_isPoem_0 rfl rfl ?_
  refine j_iload_n (pc := 1) 1 C dX10_isPoem_1 rfl rfl ?_
  refine j_iconst (pc := 2) 0 C dX10_isPoem_2 (by decide) ?_
  refine j_aload_n (pc := 3) 0 C dX10_isPoem_3 rfl rfl ?_
  refine gR_0_20 (pc := 4) C dX10_isPoem_4 q_880 ?_
  refine j_iconst (pc := 7) 1 C dX10_isPoem_7 (by decide) ?_
  refine j_isub (pc := 8) C dX10_isPoem_8 ?_
  refine j_callI0 (pc := 9) C (rR_within C dX10_isPoem_9 q_1094 (by omega) (Nat.le_of_ble_eq_true rfl) ⟨Nat.le_of_ble_eq_true rfl, Nat.le_of_ble_eq_true rfl⟩) ⟨Nat.le_of_ble_eq_true rfl, Nat.le_of_ble_eq_true rfl⟩ (fun r2 T1 => ?_)
  refine j_iload_n (pc := 12) 2 C dX10_isPoem_12 rfl rfl ?_
  refine j_iconst (pc := 13) 0 C dX10_isPoem_13 (by decide) ?_
  refine j_callI0 (pc := 14) C (rR_may C dX10_isPoem_14 q_822 (by omega) (Nat.le_of_ble_eq_true rfl) ⟨Nat.le_of_ble_eq_true rfl, Nat.le_of_ble_eq_true rfl⟩) ⟨Nat.le_of_ble_eq_true rfl, Nat.le_of_ble_eq_true rfl⟩ (fun r4 T3 => ?_)
  exact j_zret C dX10_isPoem_17 rfl (Nat.le_of_ble_eq_true rfl) (Nat.le_of_ble_eq_true rfl)
theorem cR_isPoem {l : Launch} {G : Gc} (hfl : l.stackTraces = false) (hW : Wok G wR 26)   (x1 : Int32) (x2 : Int32) (S : St) : Ct l yX10_isPoem (Cond.code yX10_isPoem cX10_isPoem 3 (some .boolean) :: tblG) 2 0 0 G wR 26 [.ref (gA G 0), .int x1, .int x2] S (fR_isPoem x1 x2 S) := ct_of (own := RX10) hfl (by decide +kernel) rfl hW (Nat.le_of_ble_eq_true rfl) (fun E hE C => by subst hE; exact bR_isPoem C   x1 x2 S)
theorem rR_isPoem {E : Ec} {G : Gc} {nL mc ms : Nat} {own : String} {cc : ByteArray} {L : Nat} {ret : Option FieldType} {k n pc ix : Nat} {loc : List (Nat × Value)} {rest : List Value}  {x1 : Int32} {x2 : Int32} {S : St}  (C : JC E (VR G nL mc ms own) cc L ret) (hd : decode cc pc = .ok (.invokevirtual ix, 3)) (hq : Cond.methodLink own ix yX10_isPoem ∈ tblG) (hL : 2 + 1 ≤ L) (hW : (rest.map fun v => v.category).sum ≤ 8) (hf : k + 0 ≤ mc ∧ n + 0 ≤ ms) : Rn E (VR G nL mc ms own) k n 0 0 pc loc (.int x2 :: .int x1 :: .ref (gA G 0) :: rest) rest S (fR_isPoem x1 x2 S) := rn_V (ci := 10) 0 (V := VR G nL mc ms own) (As := [.int x1, .int x2]) (Cq := (RX10, TX10, 53)) (cR_isPoem C.flags C.wok  x1 x2 S) knX10_isPoem ⟨q_1111, q_1112⟩ rfl rfl C hd hq hL rfl rfl hW hf

theorem knX10_openBy : Kn yX10_openBy cX10_openBy 5 (some .int) 2 := ⟨q_1114, q_815, by decide +kernel, by decide⟩
theorem bR_openBy_5 {E : Ec} {G : Gc}    (C : JC E (VR G 5 0 0 RX10) cX10_openBy 1 (some .int))    : ∀ (n : Nat) (x1 : Int32) (x2 : Int32) (x3 : Int32) (x4 : Int32) (S : St), J E (VR G 5 0 0 RX10) 0 0 5 [(0, .ref (gA G 0)), (1, .int x1), (2, .int x2), (3, .int x3), (4, .int x4)] [] S (fR_openBy_5  n x1 x2 x3 x4 S) := by
  intro n
  induction n with
  | zero => intro x1 x2 x3 x4 S; rw [fR_openBy_5]; exact j_none
  | succ n ih =>
    intro x1 x2 x3 x4 S
    rw [fR_openBy_5]
    refine j_iload (pc := 5) 4 C dX10_openBy_5 rfl ?_
    refine j_aload_n (pc := 7) 0 C dX10_openBy_7 rfl rfl ?_
    refine gR_0_22 (pc := 8) C dX10_openBy_8 q_882 ?_
    refine j_icmp_ge (pc := 11) 59 C dX10_openBy_11 (by decide) ?_ ?_
    ·
      refine j_iload_n (pc := 59) 3 C dX10_openBy_59 rfl rfl ?_
      exact j_iret C dX10_openBy_60 rfl (Nat.le_of_ble_eq_true rfl) (Nat.le_of_ble_eq_true rfl)
    ·
      refine j_iload_n (pc := 14) 3 C dX10_openBy_14 rfl rfl ?_
      refine j_aload_n (pc := 15) 0 C dX10_openBy_15 rfl rfl ?_
      refine gR_0_41 (pc := 16) C dX10_openBy_16 q_980 ?_
      refine j_bipush (pc := 19) 84 C dX10_openBy_19 (by decide) ?_
      refine j_iload (pc := 21) 4 C dX10_openBy_21 rfl ?_
      refine j_iadd (pc := 23) C dX10_openBy_23 ?_
      refine aR_18 (pc := 24) C dX10_openBy_24 ?_
      refine j_if_ne (pc := 25) 50 C dX10_openBy_25 (by decide) ?_ ?_
      ·
        refine j_iconst (pc := 50) 0 C dX10_openBy_50 (by decide) ?_
        refine j_ior (pc := 51) C dX10_openBy_51 ?_
        refine j_nxI (fun v1 => ?_)
        refine j_istore_n (pc := 52) [(3, .int v1), (0, .ref (gA G 0)), (1, .int x1), (2, .int x2), (4, .int x4)] C dX10_openBy_52 rfl (Nat.le_of_ble_eq_true rfl) rfl ?_
        refine j_iinc (pc := 53) 4 (x4 + 1) [(4, .int (x4 + 1)), (3, .int v1), (0, .ref (gA G 0)), (1, .int x1), (2, .int x2)] C dX10_openBy_53 rfl rfl (Nat.le_of_ble_eq_true rfl) rfl ?_
        refine j_goto (pc := 56) 5 C dX10_openBy_56 (by decide) ?_
        refine j_sub [2, 3, 4, 1, 0] rfl ?_
        exact ih x1 x2 v1 (x4 + 1) S
      ·
        refine j_aload_n (pc := 28) 0 C dX10_openBy_28 rfl rfl ?_
        refine gR_0_15 (pc := 29) C dX10_openBy_29 q_893 ?_
        refine j_iconst (pc := 32) 4 C dX10_openBy_32 (by decide) ?_
        refine j_iload (pc := 33) 4 C dX10_openBy_33 rfl ?_
        refine j_imul (pc := 35) C dX10_openBy_35 ?_
        refine j_iload_n (pc := 36) 1 C dX10_openBy_36 rfl rfl ?_
        refine j_iadd (pc := 37) C dX10_openBy_37 ?_
        refine aR_8 (pc := 38) C dX10_openBy_38 ?_
        refine j_iload_n (pc := 39) 2 C dX10_openBy_39 rfl rfl ?_
        refine j_icmp_ne (pc := 40) 50 C dX10_openBy_40 (by decide) ?_ ?_
        ·
          refine j_iconst (pc := 50) 0 C dX10_openBy_50 (by decide) ?_
          refine j_ior (pc := 51) C dX10_openBy_51 ?_
          refine j_nxI (fun v2 => ?_)
          refine j_istore_n (pc := 52) [(3, .int v2), (0, .ref (gA G 0)), (1, .int x1), (2, .int x2), (4, .int x4)] C dX10_openBy_52 rfl (Nat.le_of_ble_eq_true rfl) rfl ?_
          refine j_iinc (pc := 53) 4 (x4 + 1) [(4, .int (x4 + 1)), (3, .int v2), (0, .ref (gA G 0)), (1, .int x1), (2, .int x2)] C dX10_openBy_53 rfl rfl (Nat.le_of_ble_eq_true rfl) rfl ?_
          refine j_goto (pc := 56) 5 C dX10_openBy_56 (by decide) ?_
          refine j_sub [2, 3, 4, 1, 0] rfl ?_
          exact ih x1 x2 v2 (x4 + 1) S
        ·
          refine j_iconst (pc := 43) 1 C dX10_openBy_43 (by decide) ?_
          refine j_iload (pc := 44) 4 C dX10_openBy_44 rfl ?_
          refine j_ishl (pc := 46) C dX10_openBy_46 ?_
          refine j_goto (pc := 47) 51 C dX10_openBy_47 (by decide) ?_
          refine j_ior (pc := 51) C dX10_openBy_51 ?_
          refine j_nxI (fun v3 => ?_)
          refine j_istore_n (pc := 52) [(3, .int v3), (0, .ref (gA G 0)), (1, .int x1), (2, .int x2), (4, .int x4)] C dX10_openBy_52 rfl (Nat.le_of_ble_eq_true rfl) rfl ?_
          refine j_iinc (pc := 53) 4 (x4 + 1) [(4, .int (x4 + 1)), (3, .int v3), (0, .ref (gA G 0)), (1, .int x1), (2, .int x2)] C dX10_openBy_53 rfl rfl (Nat.le_of_ble_eq_true rfl) rfl ?_
          refine j_goto (pc := 56) 5 C dX10_openBy_56 (by decide) ?_
          refine j_sub [2, 3, 4, 1, 0] rfl ?_
          exact ih x1 x2 v3 (x4 + 1) S
theorem bR_openBy {E : Ec} {G : Gc}    (C : JC E (VR G 5 0 0 RX10) cX10_openBy 1 (some .int))    (x1 : Int32) (x2 : Int32) (S : St) : J E (VR G 5 0 0 RX10) 0 0 0 [(0, .ref (gA G 0)), (1, .int x1), (2, .int x2)] [] S (fR_openBy  x1 x2 S) := by
  unfold fR_openBy
  refine j_iconst (pc := 0) 0 C dX10_openBy_0 (by decide) ?_
  refine j_istore_n (pc := 1) [(3, .int 0), (0, .ref (gA G 0)), (1, .int x1), (2, .int x2)] C dX10_openBy_1 rfl (Nat.le_of_ble_eq_true rfl) rfl ?_
  refine j_iconst (pc := 2) 0 C dX10_openBy_2 (by decide) ?_
  refine j_istore (pc := 3) [(4, .int 0), (3, .int 0), (0, .ref (gA G 0)), (1, .int x1), (2, .int x2)] C dX10_openBy_3 (Nat.le_of_ble_eq_true rfl) rfl ?_
  refine j_sub [2, 3, 4, 1, 0] rfl ?_
  exact bR_openBy_5 C  FU x1 x2 0 0 S
theorem cR_openBy {l : Launch} {G : Gc} (hfl : l.stackTraces = false) (hW : Wok G wR 26)   (x1 : Int32) (x2 : Int32) (S : St) : Ct l yX10_openBy (Cond.code yX10_openBy cX10_openBy 5 (some .int) :: tblG) 1 0 0 G wR 26 [.ref (gA G 0), .int x1, .int x2] S (fR_openBy x1 x2 S) := ct_of (own := RX10) hfl (by decide +kernel) rfl hW (Nat.le_of_ble_eq_true rfl) (fun E hE C => by subst hE; exact bR_openBy C   x1 x2 S)
theorem rR_openBy {E : Ec} {G : Gc} {nL mc ms : Nat} {own : String} {cc : ByteArray} {L : Nat} {ret : Option FieldType} {k n pc ix : Nat} {loc : List (Nat × Value)} {rest : List Value}  {x1 : Int32} {x2 : Int32} {S : St}  (C : JC E (VR G nL mc ms own) cc L ret) (hd : decode cc pc = .ok (.invokevirtual ix, 3)) (hq : Cond.methodLink own ix yX10_openBy ∈ tblG) (hL : 1 + 1 ≤ L) (hW : (rest.map fun v => v.category).sum ≤ 8) (hf : k + 0 ≤ mc ∧ n + 0 ≤ ms) : Rn E (VR G nL mc ms own) k n 0 0 pc loc (.int x2 :: .int x1 :: .ref (gA G 0) :: rest) rest S (fR_openBy x1 x2 S) := rn_V (ci := 10) 0 (V := VR G nL mc ms own) (As := [.int x1, .int x2]) (Cq := (RX10, TX10, 53)) (cR_openBy C.flags C.wok  x1 x2 S) knX10_openBy ⟨q_1115, q_1116⟩ rfl rfl C hd hq hL rfl rfl hW hf

theorem knX10_poem : Kn yX10_poem cX10_poem 5 (some .int) 2 := ⟨q_1118, q_815, by decide +kernel, by decide⟩
theorem bR_poem_68 {E : Ec} {G : Gc}    (C : JC E (VR G 5 0 0 RX10) cX10_poem 3 (some .int))    : ∀ (n : Nat) (x1 : Int32) (x3 : Int32) (x4 : Int32) (S : St), J E (VR G 5 0 0 RX10) 0 0 68 [(0, .ref (gA G 0)), (1, .int x1), (3, .int x3), (4, .int x4)] [] S (fR_poem_68  n x1 x3 x4 S) := by
  intro n
  induction n with
  | zero => intro x1 x3 x4 S; rw [fR_poem_68]; exact j_none
  | succ n ih =>
    intro x1 x3 x4 S
    rw [fR_poem_68]
    refine j_iload (pc := 68) 3 C dX10_poem_68 rfl ?_
    refine j_aload_n (pc := 70) 0 C dX10_poem_70 rfl rfl ?_
    refine gR_0_21 (pc := 71) C dX10_poem_71 q_881 ?_
    refine j_icmp_ge (pc := 74) 112 C dX10_poem_74 (by decide) ?_ ?_
    ·
      refine j_iload_n (pc := 112) 2 C dX10_poem_112 rfl rfl ?_
      exact j_iret C dX10_poem_113 rfl (Nat.le_of_ble_eq_true rfl) (Nat.le_of_ble_eq_true rfl)
    ·
      refine j_iload_n (pc := 77) 2 C dX10_poem_77 rfl rfl ?_
      refine j_aload_n (pc := 78) 0 C dX10_poem_78 rfl rfl ?_
      refine j_iload (pc := 79) 3 C dX10_poem_79 rfl ?_
      refine j_iload_n (pc := 81) 1 C dX10_poem_81 rfl rfl ?_
      refine j_callI0 (pc := 82) C (rR_knownOf C dX10_poem_82 q_991 (by omega) (Nat.le_of_ble_eq_true rfl) ⟨Nat.le_of_ble_eq_true rfl, Nat.le_of_ble_eq_true rfl⟩) ⟨Nat.le_of_ble_eq_true rfl, Nat.le_of_ble_eq_true rfl⟩ (fun r2 T1 => ?_)
      refine j_aload_n (pc := 85) 0 C dX10_poem_85 rfl rfl ?_
      refine gR_0_13 (pc := 86) C dX10_poem_86 q_885 ?_
      refine j_iconst (pc := 89) 2 C dX10_poem_89 (by decide) ?_
      refine j_iload_n (pc := 90) 1 C dX10_poem_90 rfl rfl ?_
      refine j_imul (pc := 91) C dX10_poem_91 ?_
      refine aR_6 (pc := 92) C dX10_poem_92 ?_
      refine j_icmp_ne (pc := 93) 103 C dX10_poem_93 (by decide) ?_ ?_
      ·
        refine j_iconst (pc := 103) 0 C dX10_poem_103 (by decide) ?_
        refine j_ior (pc := 104) C dX10_poem_104 ?_
        refine j_nxI (fun v3 => ?_)
        refine j_istore_n (pc := 105) [(3, .int v3), (0, .ref (gA G 0)), (1, .int x1), (4, .int x4)] C dX10_poem_105 rfl (Nat.le_of_ble_eq_true rfl) rfl ?_
        refine j_iinc (pc := 106) 3 (x4 + 1) [(4, .int (x4 + 1)), (3, .int v3), (0, .ref (gA G 0)), (1, .int x1)] C dX10_poem_106 rfl rfl (Nat.le_of_ble_eq_true rfl) rfl ?_
        refine j_goto (pc := 109) 68 C dX10_poem_109 (by decide) ?_
        refine j_sub [2, 3, 1, 0] rfl ?_
        exact ih x1 v3 (x4 + 1) T1
      ·
        refine j_iconst (pc := 96) 1 C dX10_poem_96 (by decide) ?_
        refine j_iload (pc := 97) 3 C dX10_poem_97 rfl ?_
        refine j_ishl (pc := 99) C dX10_poem_99 ?_
        refine j_goto (pc := 100) 104 C dX10_poem_100 (by decide) ?_
        refine j_ior (pc := 104) C dX10_poem_104 ?_
        refine j_nxI (fun v4 => ?_)
        refine j_istore_n (pc := 105) [(3, .int v4), (0, .ref (gA G 0)), (1, .int x1), (4, .int x4)] C dX10_poem_105 rfl (Nat.le_of_ble_eq_true rfl) rfl ?_
        refine j_iinc (pc := 106) 3 (x4 + 1) [(4, .int (x4 + 1)), (3, .int v4), (0, .ref (gA G 0)), (1, .int x1)] C dX10_poem_106 rfl rfl (Nat.le_of_ble_eq_true rfl) rfl ?_
        refine j_goto (pc := 109) 68 C dX10_poem_109 (by decide) ?_
        refine j_sub [2, 3, 1, 0] rfl ?_
        exact ih x1 v4 (x4 + 1) T1
theorem bR_poem {E : Ec} {G : Gc}    (C : JC E (VR G 5 0 0 RX10) cX10_poem 3 (some .int))    (x1 : Int32) (x2 : Int32) (S : St) : J E (VR G 5 0 0 RX10) 0 0 0 [(0, .ref (gA G 0)), (1, .int x1), (2, .int x2)] [] S (fR_poem  x1 x2 S) := by
  unfold fR_poem
  refine j_aload_n (pc := 0) 0 C dX10_poem_0 rfl rfl ?_
  refine j_iconst (pc := 1) 0 C dX10_poem_1 (by decide) ?_
  refine pR_0_0 (pc := 2) C dX10_poem_2 q_811 ?_
  refine j_nxS (fun T1 => ?_)
  refine j_aload_n (pc := 5) 0 C dX10_poem_5 rfl rfl ?_
  refine j_iload_n (pc := 6) 1 C dX10_poem_6 rfl rfl ?_
  refine j_iconst (pc := 7) 1 C dX10_poem_7 (by decide) ?_
  refine j_callI0 (pc := 8) C (rR_isPoem C dX10_poem_8 q_1113 (by omega) (Nat.le_of_ble_eq_true rfl) ⟨Nat.le_of_ble_eq_true rfl, Nat.le_of_ble_eq_true rfl⟩) ⟨Nat.le_of_ble_eq_true rfl, Nat.le_of_ble_eq_true rfl⟩ (fun r3 T2 => ?_)
  refine j_if_eq (pc := 11) 29 C dX10_poem_11 (by decide) ?_ ?_
  ·
    refine j_iconst (pc := 29) 0 C dX10_poem_29 (by decide) ?_
    exact j_iret C dX10_poem_30 rfl (Nat.le_of_ble_eq_true rfl) (Nat.le_of_ble_eq_true rfl)
  ·
    refine j_aload_n (pc := 14) 0 C dX10_poem_14 rfl rfl ?_
    refine j_iload_n (pc := 15) 2 C dX10_poem_15 rfl rfl ?_
    refine j_iconst (pc := 16) 0 C dX10_poem_16 (by decide) ?_
    refine j_iconst (pc := 17) 3 C dX10_poem_17 (by decide) ?_
    refine j_callI0 (pc := 18) C (rR_within C dX10_poem_18 q_1094 (by omega) (Nat.le_of_ble_eq_true rfl) ⟨Nat.le_of_ble_eq_true rfl, Nat.le_of_ble_eq_true rfl⟩) ⟨Nat.le_of_ble_eq_true rfl, Nat.le_of_ble_eq_true rfl⟩ (fun r5 T4 => ?_)
    refine j_iconst (pc := 21) 2 C dX10_poem_21 (by decide) ?_
    refine j_iconst (pc := 22) 1 C dX10_poem_22 (by decide) ?_
    refine j_callI0 (pc := 23) C (rR_may C dX10_poem_23 q_822 (by omega) (Nat.le_of_ble_eq_true rfl) ⟨Nat.le_of_ble_eq_true rfl, Nat.le_of_ble_eq_true rfl⟩) ⟨Nat.le_of_ble_eq_true rfl, Nat.le_of_ble_eq_true rfl⟩ (fun r7 T6 => ?_)
    refine j_if_ne (pc := 26) 31 C dX10_poem_26 (by decide) ?_ ?_
    ·
      refine j_aload_n (pc := 31) 0 C dX10_poem_31 rfl rfl ?_
      refine j_callv0 (pc := 32) C (rR_take C dX10_poem_32 q_984 (by omega) (Nat.le_of_ble_eq_true rfl) ⟨Nat.le_of_ble_eq_true rfl, Nat.le_of_ble_eq_true rfl⟩) ⟨Nat.le_of_ble_eq_true rfl, Nat.le_of_ble_eq_true rfl⟩ (fun T8 => ?_)
      refine j_iload_n (pc := 35) 2 C dX10_poem_35 rfl rfl ?_
      refine j_iconst (pc := 36) 2 C dX10_poem_36 (by decide) ?_
      refine j_icmp_ge (pc := 37) 51 C dX10_poem_37 (by decide) ?_ ?_
      ·
        refine j_iload_n (pc := 51) 2 C dX10_poem_51 rfl rfl ?_
        refine j_iconst (pc := 52) 3 C dX10_poem_52 (by decide) ?_
        refine j_icmp_ne (pc := 53) 63 C dX10_poem_53 (by decide) ?_ ?_
        ·
          refine j_iconst (pc := 63) 0 C dX10_poem_63 (by decide) ?_
          refine j_istore_n (pc := 64) [(3, .int 0), (0, .ref (gA G 0)), (1, .int x1), (2, .int x2)] C dX10_poem_64 rfl (Nat.le_of_ble_eq_true rfl) rfl ?_
          refine j_iconst (pc := 65) 0 C dX10_poem_65 (by decide) ?_
          refine j_istore (pc := 66) [(4, .int 0), (3, .int 0), (0, .ref (gA G 0)), (1, .int x1), (2, .int x2)] C dX10_poem_66 (Nat.le_of_ble_eq_true rfl) rfl ?_
          refine j_sub [2, 3, 1, 0] rfl ?_
          exact bR_poem_68 C  FU x1 0 0 T8
        ·
          refine j_aload_n (pc := 56) 0 C dX10_poem_56 rfl rfl ?_
          refine j_iconst (pc := 57) 1 C dX10_poem_57 (by decide) ?_
          refine j_iload_n (pc := 58) 1 C dX10_poem_58 rfl rfl ?_
          refine j_callI0 (pc := 59) C (rR_openBy C dX10_poem_59 q_1117 (by omega) (Nat.le_of_ble_eq_true rfl) ⟨Nat.le_of_ble_eq_true rfl, Nat.le_of_ble_eq_true rfl⟩) ⟨Nat.le_of_ble_eq_true rfl, Nat.le_of_ble_eq_true rfl⟩ (fun r11 T10 => ?_)
          exact j_iret C dX10_poem_62 rfl (Nat.le_of_ble_eq_true rfl) (Nat.le_of_ble_eq_true rfl)
      ·
        refine j_aload_n (pc := 40) 0 C dX10_poem_40 rfl rfl ?_
        refine gR_0_13 (pc := 41) C dX10_poem_41 q_885 ?_
        refine j_iconst (pc := 44) 2 C dX10_poem_44 (by decide) ?_
        refine j_iload_n (pc := 45) 1 C dX10_poem_45 rfl rfl ?_
        refine j_imul (pc := 46) C dX10_poem_46 ?_
        refine j_iload_n (pc := 47) 2 C dX10_poem_47 rfl rfl ?_
        refine j_iadd (pc := 48) C dX10_poem_48 ?_
        refine aR_6 (pc := 49) C dX10_poem_49 ?_
        exact j_iret C dX10_poem_50 rfl (Nat.le_of_ble_eq_true rfl) (Nat.le_of_ble_eq_true rfl)
    ·
      refine j_iconst (pc := 29) 0 C dX10_poem_29 (by decide) ?_
      exact j_iret C dX10_poem_30 rfl (Nat.le_of_ble_eq_true rfl) (Nat.le_of_ble_eq_true rfl)
theorem cR_poem {l : Launch} {G : Gc} (hfl : l.stackTraces = false) (hW : Wok G wR 26)   (x1 : Int32) (x2 : Int32) (S : St) : Ct l yX10_poem (Cond.code yX10_poem cX10_poem 5 (some .int) :: tblG) 3 0 0 G wR 26 [.ref (gA G 0), .int x1, .int x2] S (fR_poem x1 x2 S) := ct_of (own := RX10) hfl (by decide +kernel) rfl hW (Nat.le_of_ble_eq_true rfl) (fun E hE C => by subst hE; exact bR_poem C   x1 x2 S)
theorem rR_poem {E : Ec} {G : Gc} {nL mc ms : Nat} {own : String} {cc : ByteArray} {L : Nat} {ret : Option FieldType} {k n pc ix : Nat} {loc : List (Nat × Value)} {rest : List Value}  {x1 : Int32} {x2 : Int32} {S : St}  (C : JC E (VR G nL mc ms own) cc L ret) (hd : decode cc pc = .ok (.invokevirtual ix, 3)) (hq : Cond.methodLink own ix yX10_poem ∈ tblG) (hL : 3 + 1 ≤ L) (hW : (rest.map fun v => v.category).sum ≤ 8) (hf : k + 0 ≤ mc ∧ n + 0 ≤ ms) : Rn E (VR G nL mc ms own) k n 0 0 pc loc (.int x2 :: .int x1 :: .ref (gA G 0) :: rest) rest S (fR_poem x1 x2 S) := rn_V (ci := 10) 0 (V := VR G nL mc ms own) (As := [.int x1, .int x2]) (Cq := (RX10, TX10, 53)) (cR_poem C.flags C.wok  x1 x2 S) knX10_poem ⟨q_1119, q_1120⟩ rfl rfl C hd hq hL rfl rfl hW hf

theorem knX10_isMan : Kn yX10_isMan cX10_isMan 3 (some .boolean) 2 := ⟨q_1121, q_815, by decide +kernel, by decide⟩
theorem bR_isMan {E : Ec} {G : Gc}    (C : JC E (VR G 3 0 0 RX10) cX10_isMan 2 (some .boolean))    (x1 : Int32) (x2 : Int32) (S : St) : J E (VR G 3 0 0 RX10) 0 0 0 [(0, .ref (gA G 0)), (1, .int x1), (2, .int x2)] [] S (fR_isMan  x1 x2 S) := by
  unfold fR_isMan
  refine j_aload_n (pc := 0) 0 C dX10_isMan_0 rfl rfl ?_
  refine j_iload_n (pc := 1) 1 C dX10_isMan_1 rfl rfl ?_
  refine j_iconst (pc := 2) 0 C dX10_isMan_2 (by decide) ?_
  refine j_aload_n (pc := 3) 0 C dX10_isMan_3 rfl rfl ?_
  refine gR_0_21 (pc := 4) C dX10_isMan_4 q_881 ?_
  refine j_iconst (pc := 7) 1 C dX10_isMan_7 (by decide) ?_
  refine j_isub (pc := 8) C dX10_isMan_8 ?_
  refine j_callI0 (pc := 9) C (rR_within C dX10_isMan_9 q_1094 (by omega) (Nat.le_of_ble_eq_true rfl) ⟨Nat.le_of_ble_eq_true rfl, Nat.le_of_ble_eq_true rfl⟩) ⟨Nat.le_of_ble_eq_true rfl, Nat.le_of_ble_eq_true rfl⟩ (fun r2 T1 => ?_)
  refine j_iload_n (pc := 12) 2 C dX10_isMan_12 rfl rfl ?_
  refine j_iconst (pc := 13) 0 C dX10_isMan_13 (by decide) ?_
  refine j_callI0 (pc := 14) C (rR_may C dX10_isMan_14 q_822 (by omega) (Nat.le_of_ble_eq_true rfl) ⟨Nat.le_of_ble_eq_true rfl, Nat.le_of_ble_eq_true rfl⟩) ⟨Nat.le_of_ble_eq_true rfl, Nat.le_of_ble_eq_true rfl⟩ (fun r4 T3 => ?_)
  exact j_zret C dX10_isMan_17 rfl (Nat.le_of_ble_eq_true rfl) (Nat.le_of_ble_eq_true rfl)
theorem cR_isMan {l : Launch} {G : Gc} (hfl : l.stackTraces = false) (hW : Wok G wR 26)   (x1 : Int32) (x2 : Int32) (S : St) : Ct l yX10_isMan (Cond.code yX10_isMan cX10_isMan 3 (some .boolean) :: tblG) 2 0 0 G wR 26 [.ref (gA G 0), .int x1, .int x2] S (fR_isMan x1 x2 S) := ct_of (own := RX10) hfl (by decide +kernel) rfl hW (Nat.le_of_ble_eq_true rfl) (fun E hE C => by subst hE; exact bR_isMan C   x1 x2 S)
theorem rR_isMan {E : Ec} {G : Gc} {nL mc ms : Nat} {own : String} {cc : ByteArray} {L : Nat} {ret : Option FieldType} {k n pc ix : Nat} {loc : List (Nat × Value)} {rest : List Value}  {x1 : Int32} {x2 : Int32} {S : St}  (C : JC E (VR G nL mc ms own) cc L ret) (hd : decode cc pc = .ok (.invokevirtual ix, 3)) (hq : Cond.methodLink own ix yX10_isMan ∈ tblG) (hL : 2 + 1 ≤ L) (hW : (rest.map fun v => v.category).sum ≤ 8) (hf : k + 0 ≤ mc ∧ n + 0 ≤ ms) : Rn E (VR G nL mc ms own) k n 0 0 pc loc (.int x2 :: .int x1 :: .ref (gA G 0) :: rest) rest S (fR_isMan x1 x2 S) := rn_V (ci := 10) 0 (V := VR G nL mc ms own) (As := [.int x1, .int x2]) (Cq := (RX10, TX10, 53)) (cR_isMan C.flags C.wok  x1 x2 S) knX10_isMan ⟨q_1122, q_1123⟩ rfl rfl C hd hq hL rfl rfl hW hf

theorem knX10_man : Kn yX10_man cX10_man 3 (some .int) 2 := ⟨q_1125, q_815, by decide +kernel, by decide⟩
theorem bR_man {E : Ec} {G : Gc}    (C : JC E (VR G 3 0 0 RX10) cX10_man 4 (some .int))    (x1 : Int32) (x2 : Int32) (S : St) : J E (VR G 3 0 0 RX10) 0 0 0 [(0, .ref (gA G 0)), (1, .int x1), (2, .int x2)] [] S (fR_man  x1 x2 S) := by
  unfold fR_man
  refine j_aload_n (pc := 0) 0 C dX10_man_0 rfl rfl ?_
  refine j_iconst (pc := 1) 0 C dX10_man_1 (by decide) ?_
  refine pR_0_0 (pc := 2) C dX10_man_2 q_811 ?_
  refine j_nxS (fun T1 => ?_)
  refine j_aload_n (pc := 5) 0 C dX10_man_5 rfl rfl ?_
  refine j_iload_n (pc := 6) 1 C dX10_man_6 rfl rfl ?_
  refine j_iconst (pc := 7) 1 C dX10_man_7 (by decide) ?_
  refine j_callI0 (pc := 8) C (rR_isMan C dX10_man_8 q_1124 (by omega) (Nat.le_of_ble_eq_true rfl) ⟨Nat.le_of_ble_eq_true rfl, Nat.le_of_ble_eq_true rfl⟩) ⟨Nat.le_of_ble_eq_true rfl, Nat.le_of_ble_eq_true rfl⟩ (fun r3 T2 => ?_)
  refine j_if_eq (pc := 11) 30 C dX10_man_11 (by decide) ?_ ?_
  ·
    refine j_iconst (pc := 30) 0 C dX10_man_30 (by decide) ?_
    exact j_iret C dX10_man_31 rfl (Nat.le_of_ble_eq_true rfl) (Nat.le_of_ble_eq_true rfl)
  ·
    refine j_aload_n (pc := 14) 0 C dX10_man_14 rfl rfl ?_
    refine j_iload_n (pc := 15) 2 C dX10_man_15 rfl rfl ?_
    refine j_iconst (pc := 16) 0 C dX10_man_16 (by decide) ?_
    refine j_bipush (pc := 17) 8 C dX10_man_17 (by decide) ?_
    refine j_callI0 (pc := 19) C (rR_within C dX10_man_19 q_1094 (by omega) (Nat.le_of_ble_eq_true rfl) ⟨Nat.le_of_ble_eq_true rfl, Nat.le_of_ble_eq_true rfl⟩) ⟨Nat.le_of_ble_eq_true rfl, Nat.le_of_ble_eq_true rfl⟩ (fun r5 T4 => ?_)
    refine j_iconst (pc := 22) 2 C dX10_man_22 (by decide) ?_
    refine j_iconst (pc := 23) 1 C dX10_man_23 (by decide) ?_
    refine j_callI0 (pc := 24) C (rR_may C dX10_man_24 q_822 (by omega) (Nat.le_of_ble_eq_true rfl) ⟨Nat.le_of_ble_eq_true rfl, Nat.le_of_ble_eq_true rfl⟩) ⟨Nat.le_of_ble_eq_true rfl, Nat.le_of_ble_eq_true rfl⟩ (fun r7 T6 => ?_)
    refine j_if_ne (pc := 27) 32 C dX10_man_27 (by decide) ?_ ?_
    ·
      refine j_aload_n (pc := 32) 0 C dX10_man_32 rfl rfl ?_
      refine j_callv0 (pc := 33) C (rR_take C dX10_man_33 q_984 (by omega) (Nat.le_of_ble_eq_true rfl) ⟨Nat.le_of_ble_eq_true rfl, Nat.le_of_ble_eq_true rfl⟩) ⟨Nat.le_of_ble_eq_true rfl, Nat.le_of_ble_eq_true rfl⟩ (fun T8 => ?_)
      refine j_iload_n (pc := 36) 2 C dX10_man_36 rfl rfl ?_
      refine j_iconst (pc := 37) 4 C dX10_man_37 (by decide) ?_
      refine j_icmp_ge (pc := 38) 92 C dX10_man_38 (by decide) ?_ ?_
      ·
        refine j_iload_n (pc := 92) 2 C dX10_man_92 rfl rfl ?_
        refine j_bipush (pc := 93) 7 C dX10_man_93 (by decide) ?_
        refine j_icmp_ne (pc := 95) 105 C dX10_man_95 (by decide) ?_ ?_
        ·
          refine j_aload_n (pc := 105) 0 C dX10_man_105 rfl rfl ?_
          refine gR_0_41 (pc := 106) C dX10_man_106 q_980 ?_
          refine j_iload_n (pc := 109) 2 C dX10_man_109 rfl rfl ?_
          refine j_iconst (pc := 110) 4 C dX10_man_110 (by decide) ?_
          refine j_icmp_ne (pc := 111) 119 C dX10_man_111 (by decide) ?_ ?_
          ·
            refine j_iload_n (pc := 119) 2 C dX10_man_119 rfl rfl ?_
            refine j_iconst (pc := 120) 5 C dX10_man_120 (by decide) ?_
            refine j_icmp_ne (pc := 121) 129 C dX10_man_121 (by decide) ?_ ?_
            ·
              refine j_iload_n (pc := 129) 2 C dX10_man_129 rfl rfl ?_
              refine j_bipush (pc := 130) 6 C dX10_man_130 (by decide) ?_
              refine j_icmp_ne (pc := 132) 140 C dX10_man_132 (by decide) ?_ ?_
              ·
                refine j_bipush (pc := 140) 78 C dX10_man_140 (by decide) ?_
                refine j_iload_n (pc := 142) 1 C dX10_man_142 rfl rfl ?_
                refine j_iadd (pc := 143) C dX10_man_143 ?_
                refine aR_18 (pc := 144) C dX10_man_144 ?_
                exact j_iret C dX10_man_145 rfl (Nat.le_of_ble_eq_true rfl) (Nat.le_of_ble_eq_true rfl)
              ·
                refine j_bipush (pc := 135) 72 C dX10_man_135 (by decide) ?_
                refine j_goto (pc := 137) 142 C dX10_man_137 (by decide) ?_
                refine j_iload_n (pc := 142) 1 C dX10_man_142 rfl rfl ?_
                refine j_iadd (pc := 143) C dX10_man_143 ?_
                refine aR_18 (pc := 144) C dX10_man_144 ?_
                exact j_iret C dX10_man_145 rfl (Nat.le_of_ble_eq_true rfl) (Nat.le_of_ble_eq_true rfl)
            ·
              refine j_bipush (pc := 124) 66 C dX10_man_124 (by decide) ?_
              refine j_goto (pc := 126) 142 C dX10_man_126 (by decide) ?_
              refine j_iload_n (pc := 142) 1 C dX10_man_142 rfl rfl ?_
              refine j_iadd (pc := 143) C dX10_man_143 ?_
              refine aR_18 (pc := 144) C dX10_man_144 ?_
              exact j_iret C dX10_man_145 rfl (Nat.le_of_ble_eq_true rfl) (Nat.le_of_ble_eq_true rfl)
          ·
            refine j_bipush (pc := 114) 60 C dX10_man_114 (by decide) ?_
            refine j_goto (pc := 116) 142 C dX10_man_116 (by decide) ?_
            refine j_iload_n (pc := 142) 1 C dX10_man_142 rfl rfl ?_
            refine j_iadd (pc := 143) C dX10_man_143 ?_
            refine aR_18 (pc := 144) C dX10_man_144 ?_
            exact j_iret C dX10_man_145 rfl (Nat.le_of_ble_eq_true rfl) (Nat.le_of_ble_eq_true rfl)
        ·
          refine j_aload_n (pc := 98) 0 C dX10_man_98 rfl rfl ?_
          refine j_iconst (pc := 99) 0 C dX10_man_99 (by decide) ?_
          refine j_iload_n (pc := 100) 1 C dX10_man_100 rfl rfl ?_
          refine j_callI0 (pc := 101) C (rR_openBy C dX10_man_101 q_1117 (by omega) (Nat.le_of_ble_eq_true rfl) ⟨Nat.le_of_ble_eq_true rfl, Nat.le_of_ble_eq_true rfl⟩) ⟨Nat.le_of_ble_eq_true rfl, Nat.le_of_ble_eq_true rfl⟩ (fun r11 T10 => ?_)
          exact j_iret C dX10_man_104 rfl (Nat.le_of_ble_eq_true rfl) (Nat.le_of_ble_eq_true rfl)
      ·
        refine j_iload_n (pc := 41) 2 C dX10_man_41 rfl rfl ?_
        refine j_if_ne (pc := 42) 56 C dX10_man_42 (by decide) ?_ ?_
        ·
          refine j_iload_n (pc := 56) 2 C dX10_man_56 rfl rfl ?_
          refine j_iconst (pc := 57) 1 C dX10_man_57 (by decide) ?_
          refine j_icmp_ne (pc := 58) 73 C dX10_man_58 (by decide) ?_ ?_
          ·
            refine j_iload_n (pc := 73) 2 C dX10_man_73 rfl rfl ?_
            refine j_iconst (pc := 74) 2 C dX10_man_74 (by decide) ?_
            refine j_icmp_ne (pc := 75) 86 C dX10_man_75 (by decide) ?_ ?_
            ·
              refine j_aload_n (pc := 86) 0 C dX10_man_86 rfl rfl ?_
              refine j_iload_n (pc := 87) 1 C dX10_man_87 rfl rfl ?_
              refine j_callI0 (pc := 88) C (rR_allOf C dX10_man_88 q_1035 (by omega) (Nat.le_of_ble_eq_true rfl) ⟨Nat.le_of_ble_eq_true rfl, Nat.le_of_ble_eq_true rfl⟩) ⟨Nat.le_of_ble_eq_true rfl, Nat.le_of_ble_eq_true rfl⟩ (fun r13 T12 => ?_)
              exact j_iret C dX10_man_91 rfl (Nat.le_of_ble_eq_true rfl) (Nat.le_of_ble_eq_true rfl)
            ·
              refine j_aload_n (pc := 78) 0 C dX10_man_78 rfl rfl ?_
              refine j_iload_n (pc := 79) 1 C dX10_man_79 rfl rfl ?_
              refine j_callI0 (pc := 80) C (rR_roomOf C dX10_man_80 q_1039 (by omega) (Nat.le_of_ble_eq_true rfl) ⟨Nat.le_of_ble_eq_true rfl, Nat.le_of_ble_eq_true rfl⟩) ⟨Nat.le_of_ble_eq_true rfl, Nat.le_of_ble_eq_true rfl⟩ (fun r15 T14 => ?_)
              refine j_goto (pc := 83) 91 C dX10_man_83 (by decide) ?_
              exact j_iret C dX10_man_91 rfl (Nat.le_of_ble_eq_true rfl) (Nat.le_of_ble_eq_true rfl)
          ·
            refine j_aload_n (pc := 61) 0 C dX10_man_61 rfl rfl ?_
            refine gR_0_41 (pc := 62) C dX10_man_62 q_980 ?_
            refine j_bipush (pc := 65) 48 C dX10_man_65 (by decide) ?_
            refine j_iload_n (pc := 67) 1 C dX10_man_67 rfl rfl ?_
            refine j_iadd (pc := 68) C dX10_man_68 ?_
            refine aR_18 (pc := 69) C dX10_man_69 ?_
            refine j_goto (pc := 70) 91 C dX10_man_70 (by decide) ?_
            exact j_iret C dX10_man_91 rfl (Nat.le_of_ble_eq_true rfl) (Nat.le_of_ble_eq_true rfl)
        ·
          refine j_aload_n (pc := 45) 0 C dX10_man_45 rfl rfl ?_
          refine gR_0_14 (pc := 46) C dX10_man_46 q_891 ?_
          refine j_iconst (pc := 49) 2 C dX10_man_49 (by decide) ?_
          refine j_iload_n (pc := 50) 1 C dX10_man_50 rfl rfl ?_
          refine j_imul (pc := 51) C dX10_man_51 ?_
          refine aR_7 (pc := 52) C dX10_man_52 ?_
          refine j_goto (pc := 53) 91 C dX10_man_53 (by decide) ?_
          exact j_iret C dX10_man_91 rfl (Nat.le_of_ble_eq_true rfl) (Nat.le_of_ble_eq_true rfl)
    ·
      refine j_iconst (pc := 30) 0 C dX10_man_30 (by decide) ?_
      exact j_iret C dX10_man_31 rfl (Nat.le_of_ble_eq_true rfl) (Nat.le_of_ble_eq_true rfl)
theorem cR_man {l : Launch} {G : Gc} (hfl : l.stackTraces = false) (hW : Wok G wR 26)   (x1 : Int32) (x2 : Int32) (S : St) : Ct l yX10_man (Cond.code yX10_man cX10_man 3 (some .int) :: tblG) 4 0 0 G wR 26 [.ref (gA G 0), .int x1, .int x2] S (fR_man x1 x2 S) := ct_of (own := RX10) hfl (by decide +kernel) rfl hW (Nat.le_of_ble_eq_true rfl) (fun E hE C => by subst hE; exact bR_man C   x1 x2 S)
theorem rR_man {E : Ec} {G : Gc} {nL mc ms : Nat} {own : String} {cc : ByteArray} {L : Nat} {ret : Option FieldType} {k n pc ix : Nat} {loc : List (Nat × Value)} {rest : List Value}  {x1 : Int32} {x2 : Int32} {S : St}  (C : JC E (VR G nL mc ms own) cc L ret) (hd : decode cc pc = .ok (.invokevirtual ix, 3)) (hq : Cond.methodLink own ix yX10_man ∈ tblG) (hL : 4 + 1 ≤ L) (hW : (rest.map fun v => v.category).sum ≤ 8) (hf : k + 0 ≤ mc ∧ n + 0 ≤ ms) : Rn E (VR G nL mc ms own) k n 0 0 pc loc (.int x2 :: .int x1 :: .ref (gA G 0) :: rest) rest S (fR_man x1 x2 S) := rn_V (ci := 10) 0 (V := VR G nL mc ms own) (As := [.int x1, .int x2]) (Cq := (RX10, TX10, 53)) (cR_man C.flags C.wok  x1 x2 S) knX10_man ⟨q_1126, q_1127⟩ rfl rfl C hd hq hL rfl rfl hW hf

theorem knX10_isDebt : Kn yX10_isDebt cX10_isDebt 3 (some .boolean) 2 := ⟨q_1128, q_815, by decide +kernel, by decide⟩
theorem bR_isDebt {E : Ec} {G : Gc}    (C : JC E (VR G 3 0 0 RX10) cX10_isDebt 2 (some .boolean))    (x1 : Int32) (x2 : Int32) (S : St) : J E (VR G 3 0 0 RX10) 0 0 0 [(0, .ref (gA G 0)), (1, .int x1), (2, .int x2)] [] S (fR_isDebt  x1 x2 S) := by
  unfold fR_isDebt
  refine j_aload_n (pc := 0) 0 C dX10_isDebt_0 rfl rfl ?_
  refine j_iload_n (pc := 1) 1 C dX10_isDebt_1 rfl rfl ?_
  refine j_iconst (pc := 2) 0 C dX10_isDebt_2 (by decide) ?_
  refine j_aload_n (pc := 3) 0 C dX10_isDebt_3 rfl rfl ?_
  refine gR_0_22 (pc := 4) C dX10_isDebt_4 q_882 ?_
  refine j_iconst (pc := 7) 1 C dX10_isDebt_7 (by decide) ?_
  refine j_isub (pc := 8) C dX10_isDebt_8 ?_
  refine j_callI0 (pc := 9) C (rR_within C dX10_isDebt_9 q_1094 (by omega) (Nat.le_of_ble_eq_true rfl) ⟨Nat.le_of_ble_eq_true rfl, Nat.le_of_ble_eq_true rfl⟩) ⟨Nat.le_of_ble_eq_true rfl, Nat.le_of_ble_eq_true rfl⟩ (fun r2 T1 => ?_)
  refine j_iload_n (pc := 12) 2 C dX10_isDebt_12 rfl rfl ?_
  refine j_iconst (pc := 13) 0 C dX10_isDebt_13 (by decide) ?_
  refine j_callI0 (pc := 14) C (rR_may C dX10_isDebt_14 q_822 (by omega) (Nat.le_of_ble_eq_true rfl) ⟨Nat.le_of_ble_eq_true rfl, Nat.le_of_ble_eq_true rfl⟩) ⟨Nat.le_of_ble_eq_true rfl, Nat.le_of_ble_eq_true rfl⟩ (fun r4 T3 => ?_)
  exact j_zret C dX10_isDebt_17 rfl (Nat.le_of_ble_eq_true rfl) (Nat.le_of_ble_eq_true rfl)
theorem cR_isDebt {l : Launch} {G : Gc} (hfl : l.stackTraces = false) (hW : Wok G wR 26)   (x1 : Int32) (x2 : Int32) (S : St) : Ct l yX10_isDebt (Cond.code yX10_isDebt cX10_isDebt 3 (some .boolean) :: tblG) 2 0 0 G wR 26 [.ref (gA G 0), .int x1, .int x2] S (fR_isDebt x1 x2 S) := ct_of (own := RX10) hfl (by decide +kernel) rfl hW (Nat.le_of_ble_eq_true rfl) (fun E hE C => by subst hE; exact bR_isDebt C   x1 x2 S)
theorem rR_isDebt {E : Ec} {G : Gc} {nL mc ms : Nat} {own : String} {cc : ByteArray} {L : Nat} {ret : Option FieldType} {k n pc ix : Nat} {loc : List (Nat × Value)} {rest : List Value}  {x1 : Int32} {x2 : Int32} {S : St}  (C : JC E (VR G nL mc ms own) cc L ret) (hd : decode cc pc = .ok (.invokevirtual ix, 3)) (hq : Cond.methodLink own ix yX10_isDebt ∈ tblG) (hL : 2 + 1 ≤ L) (hW : (rest.map fun v => v.category).sum ≤ 8) (hf : k + 0 ≤ mc ∧ n + 0 ≤ ms) : Rn E (VR G nL mc ms own) k n 0 0 pc loc (.int x2 :: .int x1 :: .ref (gA G 0) :: rest) rest S (fR_isDebt x1 x2 S) := rn_V (ci := 10) 0 (V := VR G nL mc ms own) (As := [.int x1, .int x2]) (Cq := (RX10, TX10, 53)) (cR_isDebt C.flags C.wok  x1 x2 S) knX10_isDebt ⟨q_1129, q_1130⟩ rfl rfl C hd hq hL rfl rfl hW hf

theorem knX10_needOf : Kn yX10_needOf cX10_needOf 6 (some .int) 1 := ⟨q_1132, q_815, by decide +kernel, by decide⟩
theorem bR_needOf {E : Ec} {G : Gc}    (C : JC E (VR G 6 0 0 RX10) cX10_needOf 6 (some .int))    (x1 : Int32) (S : St) : J E (VR G 6 0 0 RX10) 0 0 0 [(0, .ref (gA G 0)), (1, .int x1)] [] S (fR_needOf  x1 S) := by
  unfold fR_needOf
  refine j_aload_n (pc := 0) 0 C dX10_needOf_0 rfl rfl ?_
  refine gR_0_15 (pc := 1) C dX10_needOf_1 q_893 ?_
  refine j_iconst (pc := 4) 4 C dX10_needOf_4 (by decide) ?_
  refine j_iload_n (pc := 5) 1 C dX10_needOf_5 rfl rfl ?_
  refine j_imul (pc := 6) C dX10_needOf_6 ?_
  refine aR_8 (pc := 7) C dX10_needOf_7 ?_
  refine j_nxI (fun v1 => ?_)
  refine j_istore_n (pc := 8) [(2, .int v1), (0, .ref (gA G 0)), (1, .int x1)] C dX10_needOf_8 rfl (Nat.le_of_ble_eq_true rfl) rfl ?_
  refine j_aload_n (pc := 9) 1 C dX10_needOf_9 rfl rfl ?_
  refine gR_0_15 (pc := 10) C dX10_needOf_10 q_893 ?_
  refine j_iconst (pc := 13) 4 C dX10_needOf_13 (by decide) ?_
  refine j_iload_n (pc := 14) 2 C dX10_needOf_14 rfl rfl ?_
  refine j_imul (pc := 15) C dX10_needOf_15 ?_
  refine j_iconst (pc := 16) 1 C dX10_needOf_16 (by decide) ?_
  refine j_iadd (pc := 17) C dX10_needOf_17 ?_
  refine aR_8 (pc := 18) C dX10_needOf_18 ?_
  refine j_nxI (fun v2 => ?_)
  refine j_istore_n (pc := 19) [(3, .int v2), (2, .int v1), (0, .ref (gA G 0)), (1, .int x1)] C dX10_needOf_19 rfl (Nat.le_of_ble_eq_true rfl) rfl ?_
  refine j_aload_n (pc := 20) 2 C dX10_needOf_20 rfl rfl ?_
  refine gR_0_13 (pc := 21) C dX10_needOf_21 q_885 ?_
  refine j_iconst (pc := 24) 2 C dX10_needOf_24 (by decide) ?_
  refine j_iload_n (pc := 25) 0 C dX10_needOf_25 rfl rfl ?_
  refine j_imul (pc := 26) C dX10_needOf_26 ?_
  refine aR_6 (pc := 27) C dX10_needOf_27 ?_
  refine j_aload_n (pc := 28) 2 C dX10_needOf_28 rfl rfl ?_
  refine j_iload_n (pc := 29) 1 C dX10_needOf_29 rfl rfl ?_
  refine j_iload_n (pc := 30) 0 C dX10_needOf_30 rfl rfl ?_
  refine j_callI0 (pc := 31) C (rR_knownOf C dX10_needOf_31 q_991 (by omega) (Nat.le_of_ble_eq_true rfl) ⟨Nat.le_of_ble_eq_true rfl, Nat.le_of_ble_eq_true rfl⟩) ⟨Nat.le_of_ble_eq_true rfl, Nat.le_of_ble_eq_true rfl⟩ (fun r4 T3 => ?_)
  refine j_isub (pc := 34) C dX10_needOf_34 ?_
  refine j_nxI (fun v5 => ?_)
  refine j_istore (pc := 35) [(4, .int v5), (3, .int v2), (2, .int v1), (0, .ref (gA G 0)), (1, .int x1)] C dX10_needOf_35 (Nat.le_of_ble_eq_true rfl) rfl ?_
  refine j_aload_n (pc := 37) 3 C dX10_needOf_37 rfl rfl ?_
  refine j_iload_n (pc := 38) 2 C dX10_needOf_38 rfl rfl ?_
  refine j_iload_n (pc := 39) 1 C dX10_needOf_39 rfl rfl ?_
  refine j_callI0 (pc := 40) C (rR_learnsBy C dX10_needOf_40 q_1060 (by omega) (Nat.le_of_ble_eq_true rfl) ⟨Nat.le_of_ble_eq_true rfl, Nat.le_of_ble_eq_true rfl⟩) ⟨Nat.le_of_ble_eq_true rfl, Nat.le_of_ble_eq_true rfl⟩ (fun r7 T6 => ?_)
  refine j_istore (pc := 43) [(5, .int r7), (4, .int v5), (3, .int v2), (2, .int v1), (0, .ref (gA G 0)), (1, .int x1)] C dX10_needOf_43 (Nat.le_of_ble_eq_true rfl) rfl ?_
  refine j_iload (pc := 45) 1 C dX10_needOf_45 rfl ?_
  refine j_if_ne (pc := 47) 54 C dX10_needOf_47 (by decide) ?_ ?_
  ·
    refine j_iload (pc := 54) 0 C dX10_needOf_54 rfl ?_
    refine j_if_ne (pc := 56) 64 C dX10_needOf_56 (by decide) ?_ ?_
    ·
      refine j_iload (pc := 64) 1 C dX10_needOf_64 rfl ?_
      refine j_iload (pc := 66) 0 C dX10_needOf_66 rfl ?_
      refine j_iadd (pc := 68) C dX10_needOf_68 ?_
      refine j_iconst (pc := 69) 1 C dX10_needOf_69 (by decide) ?_
      refine j_isub (pc := 70) C dX10_needOf_70 ?_
      refine j_iload (pc := 71) 0 C dX10_needOf_71 rfl ?_
      refine j_idiv (pc := 73) C dX10_needOf_73 ?_
      exact j_iret C dX10_needOf_74 rfl (Nat.le_of_ble_eq_true rfl) (Nat.le_of_ble_eq_true rfl)
    ·
      refine j_bipush (pc := 59) 41 C dX10_needOf_59 (by decide) ?_
      refine j_goto (pc := 61) 74 C dX10_needOf_61 (by decide) ?_
      exact j_iret C dX10_needOf_74 rfl (Nat.le_of_ble_eq_true rfl) (Nat.le_of_ble_eq_true rfl)
  ·
    refine j_iconst (pc := 50) 0 C dX10_needOf_50 (by decide) ?_
    refine j_goto (pc := 51) 74 C dX10_needOf_51 (by decide) ?_
    exact j_iret C dX10_needOf_74 rfl (Nat.le_of_ble_eq_true rfl) (Nat.le_of_ble_eq_true rfl)
theorem cR_needOf {l : Launch} {G : Gc} (hfl : l.stackTraces = false) (hW : Wok G wR 26)   (x1 : Int32) (S : St) : Ct l yX10_needOf (Cond.code yX10_needOf cX10_needOf 6 (some .int) :: tblG) 6 0 0 G wR 26 [.ref (gA G 0), .int x1] S (fR_needOf x1 S) := ct_of (own := RX10) hfl (by decide +kernel) rfl hW (Nat.le_of_ble_eq_true rfl) (fun E hE C => by subst hE; exact bR_needOf C   x1 S)
theorem rR_needOf {E : Ec} {G : Gc} {nL mc ms : Nat} {own : String} {cc : ByteArray} {L : Nat} {ret : Option FieldType} {k n pc ix : Nat} {loc : List (Nat × Value)} {rest : List Value}  {x1 : Int32} {S : St}  (C : JC E (VR G nL mc ms own) cc L ret) (hd : decode cc pc = .ok (.invokevirtual ix, 3)) (hq : Cond.methodLink own ix yX10_needOf ∈ tblG) (hL : 6 + 1 ≤ L) (hW : (rest.map fun v => v.category).sum ≤ 8) (hf : k + 0 ≤ mc ∧ n + 0 ≤ ms) : Rn E (VR G nL mc ms own) k n 0 0 pc loc (.int x1 :: .ref (gA G 0) :: rest) rest S (fR_needOf x1 S) := rn_V (ci := 10) 0 (V := VR G nL mc ms own) (As := [.int x1]) (Cq := (RX10, TX10, 53)) (cR_needOf C.flags C.wok  x1 S) knX10_needOf ⟨q_1133, q_1134⟩ rfl rfl C hd hq hL rfl rfl hW hf

theorem knX10_debt : Kn yX10_debt cX10_debt 3 (some .int) 2 := ⟨q_1136, q_815, by decide +kernel, by decide⟩
theorem bR_debt {E : Ec} {G : Gc}    (C : JC E (VR G 3 0 0 RX10) cX10_debt 7 (some .int))    (x1 : Int32) (x2 : Int32) (S : St) : J E (VR G 3 0 0 RX10) 0 0 0 [(0, .ref (gA G 0)), (1, .int x1), (2, .int x2)] [] S (fR_debt  x1 x2 S) := by
  unfold fR_debt
  refine j_aload_n (pc := 0) 0 C dX10_debt_0 rfl rfl ?_
  refine j_iconst (pc := 1) 0 C dX10_debt_1 (by decide) ?_
  refine pR_0_0 (pc := 2) C dX10_debt_2 q_811 ?_
  refine j_nxS (fun T1 => ?_)
  refine j_aload_n (pc := 5) 0 C dX10_debt_5 rfl rfl ?_
  refine j_iload_n (pc := 6) 1 C dX10_debt_6 rfl rfl ?_
  refine j_iconst (pc := 7) 1 C dX10_debt_7 (by decide) ?_
  refine j_callI0 (pc := 8) C (rR_isDebt C dX10_debt_8 q_1131 (by omega) (Nat.le_of_ble_eq_true rfl) ⟨Nat.le_of_ble_eq_true rfl, Nat.le_of_ble_eq_true rfl⟩) ⟨Nat.le_of_ble_eq_true rfl, Nat.le_of_ble_eq_true rfl⟩ (fun r3 T2 => ?_)
  refine j_if_eq (pc := 11) 30 C dX10_debt_11 (by decide) ?_ ?_
  ·
    refine j_iconst (pc := 30) 0 C dX10_debt_30 (by decide) ?_
    exact j_iret C dX10_debt_31 rfl (Nat.le_of_ble_eq_true rfl) (Nat.le_of_ble_eq_true rfl)
  ·
    refine j_aload_n (pc := 14) 0 C dX10_debt_14 rfl rfl ?_
    refine j_iload_n (pc := 15) 2 C dX10_debt_15 rfl rfl ?_
    refine j_iconst (pc := 16) 0 C dX10_debt_16 (by decide) ?_
    refine j_bipush (pc := 17) 6 C dX10_debt_17 (by decide) ?_
    refine j_callI0 (pc := 19) C (rR_within C dX10_debt_19 q_1094 (by omega) (Nat.le_of_ble_eq_true rfl) ⟨Nat.le_of_ble_eq_true rfl, Nat.le_of_ble_eq_true rfl⟩) ⟨Nat.le_of_ble_eq_true rfl, Nat.le_of_ble_eq_true rfl⟩ (fun r5 T4 => ?_)
    refine j_iconst (pc := 22) 2 C dX10_debt_22 (by decide) ?_
    refine j_iconst (pc := 23) 1 C dX10_debt_23 (by decide) ?_
    refine j_callI0 (pc := 24) C (rR_may C dX10_debt_24 q_822 (by omega) (Nat.le_of_ble_eq_true rfl) ⟨Nat.le_of_ble_eq_true rfl, Nat.le_of_ble_eq_true rfl⟩) ⟨Nat.le_of_ble_eq_true rfl, Nat.le_of_ble_eq_true rfl⟩ (fun r7 T6 => ?_)
    refine j_if_ne (pc := 27) 32 C dX10_debt_27 (by decide) ?_ ?_
    ·
      refine j_aload_n (pc := 32) 0 C dX10_debt_32 rfl rfl ?_
      refine j_callv0 (pc := 33) C (rR_take C dX10_debt_33 q_984 (by omega) (Nat.le_of_ble_eq_true rfl) ⟨Nat.le_of_ble_eq_true rfl, Nat.le_of_ble_eq_true rfl⟩) ⟨Nat.le_of_ble_eq_true rfl, Nat.le_of_ble_eq_true rfl⟩ (fun T8 => ?_)
      refine j_iload_n (pc := 36) 2 C dX10_debt_36 rfl rfl ?_
      refine j_iconst (pc := 37) 4 C dX10_debt_37 (by decide) ?_
      refine j_icmp_ge (pc := 38) 52 C dX10_debt_38 (by decide) ?_ ?_
      ·
        refine j_iload_n (pc := 52) 2 C dX10_debt_52 rfl rfl ?_
        refine j_bipush (pc := 53) 6 C dX10_debt_53 (by decide) ?_
        refine j_icmp_ge (pc := 55) 89 C dX10_debt_55 (by decide) ?_ ?_
        ·
          refine j_aload_n (pc := 89) 0 C dX10_debt_89 rfl rfl ?_
          refine gR_0_41 (pc := 90) C dX10_debt_90 q_980 ?_
          refine j_bipush (pc := 93) 84 C dX10_debt_93 (by decide) ?_
          refine j_iload_n (pc := 95) 1 C dX10_debt_95 rfl rfl ?_
          refine j_iadd (pc := 96) C dX10_debt_96 ?_
          refine aR_18 (pc := 97) C dX10_debt_97 ?_
          refine j_iconst (pc := 98) 1 C dX10_debt_98 (by decide) ?_
          refine j_icmp_ne (pc := 99) 106 C dX10_debt_99 (by decide) ?_ ?_
          ·
            refine j_aload_n (pc := 106) 0 C dX10_debt_106 rfl rfl ?_
            refine j_iload_n (pc := 107) 1 C dX10_debt_107 rfl rfl ?_
            refine j_callI0 (pc := 108) C (rR_needOf C dX10_debt_108 q_1135 (by omega) (Nat.le_of_ble_eq_true rfl) ⟨Nat.le_of_ble_eq_true rfl, Nat.le_of_ble_eq_true rfl⟩) ⟨Nat.le_of_ble_eq_true rfl, Nat.le_of_ble_eq_true rfl⟩ (fun r11 T10 => ?_)
            exact j_iret C dX10_debt_111 rfl (Nat.le_of_ble_eq_true rfl) (Nat.le_of_ble_eq_true rfl)
          ·
            refine j_iconst (pc := 102) 0 C dX10_debt_102 (by decide) ?_
            refine j_goto (pc := 103) 111 C dX10_debt_103 (by decide) ?_
            exact j_iret C dX10_debt_111 rfl (Nat.le_of_ble_eq_true rfl) (Nat.le_of_ble_eq_true rfl)
        ·
          refine j_iload_n (pc := 58) 2 C dX10_debt_58 rfl rfl ?_
          refine j_iconst (pc := 59) 4 C dX10_debt_59 (by decide) ?_
          refine j_icmp_ne (pc := 60) 75 C dX10_debt_60 (by decide) ?_ ?_
          ·
            refine j_aload_n (pc := 75) 0 C dX10_debt_75 rfl rfl ?_
            refine j_iload_n (pc := 76) 1 C dX10_debt_76 rfl rfl ?_
            refine j_callI0 (pc := 77) C (rR_isWell C dX10_debt_77 q_1015 (by omega) (Nat.le_of_ble_eq_true rfl) ⟨Nat.le_of_ble_eq_true rfl, Nat.le_of_ble_eq_true rfl⟩) ⟨Nat.le_of_ble_eq_true rfl, Nat.le_of_ble_eq_true rfl⟩ (fun r13 T12 => ?_)
            refine j_if_eq (pc := 80) 87 C dX10_debt_80 (by decide) ?_ ?_
            ·
              refine j_iconst (pc := 87) 0 C dX10_debt_87 (by decide) ?_
              exact j_iret C dX10_debt_88 rfl (Nat.le_of_ble_eq_true rfl) (Nat.le_of_ble_eq_true rfl)
            ·
              refine j_iconst (pc := 83) 1 C dX10_debt_83 (by decide) ?_
              refine j_goto (pc := 84) 88 C dX10_debt_84 (by decide) ?_
              exact j_iret C dX10_debt_88 rfl (Nat.le_of_ble_eq_true rfl) (Nat.le_of_ble_eq_true rfl)
          ·
            refine j_aload_n (pc := 63) 0 C dX10_debt_63 rfl rfl ?_
            refine gR_0_41 (pc := 64) C dX10_debt_64 q_980 ?_
            refine j_bipush (pc := 67) 84 C dX10_debt_67 (by decide) ?_
            refine j_iload_n (pc := 69) 1 C dX10_debt_69 rfl rfl ?_
            refine j_iadd (pc := 70) C dX10_debt_70 ?_
            refine aR_18 (pc := 71) C dX10_debt_71 ?_
            refine j_goto (pc := 72) 88 C dX10_debt_72 (by decide) ?_
            exact j_iret C dX10_debt_88 rfl (Nat.le_of_ble_eq_true rfl) (Nat.le_of_ble_eq_true rfl)
      ·
        refine j_aload_n (pc := 41) 0 C dX10_debt_41 rfl rfl ?_
        refine gR_0_15 (pc := 42) C dX10_debt_42 q_893 ?_
        refine j_iconst (pc := 45) 4 C dX10_debt_45 (by decide) ?_
        refine j_iload_n (pc := 46) 1 C dX10_debt_46 rfl rfl ?_
        refine j_imul (pc := 47) C dX10_debt_47 ?_
        refine j_iload_n (pc := 48) 2 C dX10_debt_48 rfl rfl ?_
        refine j_iadd (pc := 49) C dX10_debt_49 ?_
        refine aR_8 (pc := 50) C dX10_debt_50 ?_
        exact j_iret C dX10_debt_51 rfl (Nat.le_of_ble_eq_true rfl) (Nat.le_of_ble_eq_true rfl)
    ·
      refine j_iconst (pc := 30) 0 C dX10_debt_30 (by decide) ?_
      exact j_iret C dX10_debt_31 rfl (Nat.le_of_ble_eq_true rfl) (Nat.le_of_ble_eq_true rfl)
theorem cR_debt {l : Launch} {G : Gc} (hfl : l.stackTraces = false) (hW : Wok G wR 26)   (x1 : Int32) (x2 : Int32) (S : St) : Ct l yX10_debt (Cond.code yX10_debt cX10_debt 3 (some .int) :: tblG) 7 0 0 G wR 26 [.ref (gA G 0), .int x1, .int x2] S (fR_debt x1 x2 S) := ct_of (own := RX10) hfl (by decide +kernel) rfl hW (Nat.le_of_ble_eq_true rfl) (fun E hE C => by subst hE; exact bR_debt C   x1 x2 S)
theorem rR_debt {E : Ec} {G : Gc} {nL mc ms : Nat} {own : String} {cc : ByteArray} {L : Nat} {ret : Option FieldType} {k n pc ix : Nat} {loc : List (Nat × Value)} {rest : List Value}  {x1 : Int32} {x2 : Int32} {S : St}  (C : JC E (VR G nL mc ms own) cc L ret) (hd : decode cc pc = .ok (.invokevirtual ix, 3)) (hq : Cond.methodLink own ix yX10_debt ∈ tblG) (hL : 7 + 1 ≤ L) (hW : (rest.map fun v => v.category).sum ≤ 8) (hf : k + 0 ≤ mc ∧ n + 0 ≤ ms) : Rn E (VR G nL mc ms own) k n 0 0 pc loc (.int x2 :: .int x1 :: .ref (gA G 0) :: rest) rest S (fR_debt x1 x2 S) := rn_V (ci := 10) 0 (V := VR G nL mc ms own) (As := [.int x1, .int x2]) (Cq := (RX10, TX10, 53)) (cR_debt C.flags C.wok  x1 x2 S) knX10_debt ⟨q_1137, q_1138⟩ rfl rfl C hd hq hL rfl rfl hW hf

theorem knX10_knows : Kn yX10_knows cX10_knows 3 (some .int) 2 := ⟨q_1139, q_815, by decide +kernel, by decide⟩
theorem bR_knows {E : Ec} {G : Gc}    (C : JC E (VR G 3 0 0 RX10) cX10_knows 3 (some .int))    (x1 : Int32) (x2 : Int32) (S : St) : J E (VR G 3 0 0 RX10) 0 0 0 [(0, .ref (gA G 0)), (1, .int x1), (2, .int x2)] [] S (fR_knows  x1 x2 S) := by
  unfold fR_knows
  refine j_aload_n (pc := 0) 0 C dX10_knows_0 rfl rfl ?_
  refine j_iconst (pc := 1) 0 C dX10_knows_1 (by decide) ?_
  refine pR_0_0 (pc := 2) C dX10_knows_2 q_811 ?_
  refine j_nxS (fun T1 => ?_)
  refine j_aload_n (pc := 5) 0 C dX10_knows_5 rfl rfl ?_
  refine j_iload_n (pc := 6) 1 C dX10_knows_6 rfl rfl ?_
  refine j_iconst (pc := 7) 1 C dX10_knows_7 (by decide) ?_
  refine j_callI0 (pc := 8) C (rR_isMan C dX10_knows_8 q_1124 (by omega) (Nat.le_of_ble_eq_true rfl) ⟨Nat.le_of_ble_eq_true rfl, Nat.le_of_ble_eq_true rfl⟩) ⟨Nat.le_of_ble_eq_true rfl, Nat.le_of_ble_eq_true rfl⟩ (fun r3 T2 => ?_)
  refine j_if_eq (pc := 11) 39 C dX10_knows_11 (by decide) ?_ ?_
  ·
    refine j_iconst (pc := 39) 0 C dX10_knows_39 (by decide) ?_
    exact j_iret C dX10_knows_40 rfl (Nat.le_of_ble_eq_true rfl) (Nat.le_of_ble_eq_true rfl)
  ·
    refine j_aload_n (pc := 14) 0 C dX10_knows_14 rfl rfl ?_
    refine j_iload_n (pc := 15) 2 C dX10_knows_15 rfl rfl ?_
    refine j_iconst (pc := 16) 1 C dX10_knows_16 (by decide) ?_
    refine j_callI0 (pc := 17) C (rR_isPoem C dX10_knows_17 q_1113 (by omega) (Nat.le_of_ble_eq_true rfl) ⟨Nat.le_of_ble_eq_true rfl, Nat.le_of_ble_eq_true rfl⟩) ⟨Nat.le_of_ble_eq_true rfl, Nat.le_of_ble_eq_true rfl⟩ (fun r5 T4 => ?_)
    refine j_if_eq (pc := 20) 39 C dX10_knows_20 (by decide) ?_ ?_
    ·
      refine j_iconst (pc := 39) 0 C dX10_knows_39 (by decide) ?_
      exact j_iret C dX10_knows_40 rfl (Nat.le_of_ble_eq_true rfl) (Nat.le_of_ble_eq_true rfl)
    ·
      refine j_aload_n (pc := 23) 0 C dX10_knows_23 rfl rfl ?_
      refine gR_0_40 (pc := 24) C dX10_knows_24 q_899 ?_
      refine j_iconst (pc := 27) 0 C dX10_knows_27 (by decide) ?_
      refine j_bipush (pc := 28) 8 C dX10_knows_28 (by decide) ?_
      refine j_iload_n (pc := 30) 1 C dX10_knows_30 rfl rfl ?_
      refine j_imul (pc := 31) C dX10_knows_31 ?_
      refine j_iadd (pc := 32) C dX10_knows_32 ?_
      refine j_iload_n (pc := 33) 2 C dX10_knows_33 rfl rfl ?_
      refine j_iadd (pc := 34) C dX10_knows_34 ?_
      refine aR_17 (pc := 35) C dX10_knows_35 ?_
      refine j_goto (pc := 36) 40 C dX10_knows_36 (by decide) ?_
      exact j_iret C dX10_knows_40 rfl (Nat.le_of_ble_eq_true rfl) (Nat.le_of_ble_eq_true rfl)
theorem cR_knows {l : Launch} {G : Gc} (hfl : l.stackTraces = false) (hW : Wok G wR 26)   (x1 : Int32) (x2 : Int32) (S : St) : Ct l yX10_knows (Cond.code yX10_knows cX10_knows 3 (some .int) :: tblG) 3 0 0 G wR 26 [.ref (gA G 0), .int x1, .int x2] S (fR_knows x1 x2 S) := ct_of (own := RX10) hfl (by decide +kernel) rfl hW (Nat.le_of_ble_eq_true rfl) (fun E hE C => by subst hE; exact bR_knows C   x1 x2 S)
theorem rR_knows {E : Ec} {G : Gc} {nL mc ms : Nat} {own : String} {cc : ByteArray} {L : Nat} {ret : Option FieldType} {k n pc ix : Nat} {loc : List (Nat × Value)} {rest : List Value}  {x1 : Int32} {x2 : Int32} {S : St}  (C : JC E (VR G nL mc ms own) cc L ret) (hd : decode cc pc = .ok (.invokevirtual ix, 3)) (hq : Cond.methodLink own ix yX10_knows ∈ tblG) (hL : 3 + 1 ≤ L) (hW : (rest.map fun v => v.category).sum ≤ 8) (hf : k + 0 ≤ mc ∧ n + 0 ≤ ms) : Rn E (VR G nL mc ms own) k n 0 0 pc loc (.int x2 :: .int x1 :: .ref (gA G 0) :: rest) rest S (fR_knows x1 x2 S) := rn_V (ci := 10) 0 (V := VR G nL mc ms own) (As := [.int x1, .int x2]) (Cq := (RX10, TX10, 53)) (cR_knows C.flags C.wok  x1 x2 S) knX10_knows ⟨q_1140, q_1141⟩ rfl rfl C hd hq hL rfl rfl hW hf

theorem knX10_learns : Kn yX10_learns cX10_learns 3 (some .int) 2 := ⟨q_1142, q_815, by decide +kernel, by decide⟩
theorem bR_learns {E : Ec} {G : Gc}    (C : JC E (VR G 3 0 0 RX10) cX10_learns 6 (some .int))    (x1 : Int32) (x2 : Int32) (S : St) : J E (VR G 3 0 0 RX10) 0 0 0 [(0, .ref (gA G 0)), (1, .int x1), (2, .int x2)] [] S (fR_learns  x1 x2 S) := by
  unfold fR_learns
  refine j_aload_n (pc := 0) 0 C dX10_learns_0 rfl rfl ?_
  refine j_iconst (pc := 1) 0 C dX10_learns_1 (by decide) ?_
  refine pR_0_0 (pc := 2) C dX10_learns_2 q_811 ?_
  refine j_nxS (fun T1 => ?_)
  refine j_aload_n (pc := 5) 0 C dX10_learns_5 rfl rfl ?_
  refine j_iload_n (pc := 6) 1 C dX10_learns_6 rfl rfl ?_
  refine j_iconst (pc := 7) 1 C dX10_learns_7 (by decide) ?_
  refine j_callI0 (pc := 8) C (rR_isMan C dX10_learns_8 q_1124 (by omega) (Nat.le_of_ble_eq_true rfl) ⟨Nat.le_of_ble_eq_true rfl, Nat.le_of_ble_eq_true rfl⟩) ⟨Nat.le_of_ble_eq_true rfl, Nat.le_of_ble_eq_true rfl⟩ (fun r3 T2 => ?_)
  refine j_if_eq (pc := 11) 23 C dX10_learns_11 (by decide) ?_ ?_
  ·
    refine j_iconst (pc := 23) 0 C dX10_learns_23 (by decide) ?_
    exact j_iret C dX10_learns_24 rfl (Nat.le_of_ble_eq_true rfl) (Nat.le_of_ble_eq_true rfl)
  ·
    refine j_aload_n (pc := 14) 0 C dX10_learns_14 rfl rfl ?_
    refine j_iload_n (pc := 15) 2 C dX10_learns_15 rfl rfl ?_
    refine j_iconst (pc := 16) 1 C dX10_learns_16 (by decide) ?_
    refine j_callI0 (pc := 17) C (rR_isPoem C dX10_learns_17 q_1113 (by omega) (Nat.le_of_ble_eq_true rfl) ⟨Nat.le_of_ble_eq_true rfl, Nat.le_of_ble_eq_true rfl⟩) ⟨Nat.le_of_ble_eq_true rfl, Nat.le_of_ble_eq_true rfl⟩ (fun r5 T4 => ?_)
    refine j_if_ne (pc := 20) 25 C dX10_learns_20 (by decide) ?_ ?_
    ·
      refine j_aload_n (pc := 25) 0 C dX10_learns_25 rfl rfl ?_
      refine j_callv0 (pc := 26) C (rR_take C dX10_learns_26 q_984 (by omega) (Nat.le_of_ble_eq_true rfl) ⟨Nat.le_of_ble_eq_true rfl, Nat.le_of_ble_eq_true rfl⟩) ⟨Nat.le_of_ble_eq_true rfl, Nat.le_of_ble_eq_true rfl⟩ (fun T6 => ?_)
      refine j_aload_n (pc := 29) 0 C dX10_learns_29 rfl rfl ?_
      refine j_iload_n (pc := 30) 1 C dX10_learns_30 rfl rfl ?_
      refine j_iload_n (pc := 31) 2 C dX10_learns_31 rfl rfl ?_
      refine j_callI0 (pc := 32) C (rR_learnsBy C dX10_learns_32 q_1060 (by omega) (Nat.le_of_ble_eq_true rfl) ⟨Nat.le_of_ble_eq_true rfl, Nat.le_of_ble_eq_true rfl⟩) ⟨Nat.le_of_ble_eq_true rfl, Nat.le_of_ble_eq_true rfl⟩ (fun r9 T8 => ?_)
      exact j_iret C dX10_learns_35 rfl (Nat.le_of_ble_eq_true rfl) (Nat.le_of_ble_eq_true rfl)
    ·
      refine j_iconst (pc := 23) 0 C dX10_learns_23 (by decide) ?_
      exact j_iret C dX10_learns_24 rfl (Nat.le_of_ble_eq_true rfl) (Nat.le_of_ble_eq_true rfl)
theorem cR_learns {l : Launch} {G : Gc} (hfl : l.stackTraces = false) (hW : Wok G wR 26)   (x1 : Int32) (x2 : Int32) (S : St) : Ct l yX10_learns (Cond.code yX10_learns cX10_learns 3 (some .int) :: tblG) 6 0 0 G wR 26 [.ref (gA G 0), .int x1, .int x2] S (fR_learns x1 x2 S) := ct_of (own := RX10) hfl (by decide +kernel) rfl hW (Nat.le_of_ble_eq_true rfl) (fun E hE C => by subst hE; exact bR_learns C   x1 x2 S)
theorem rR_learns {E : Ec} {G : Gc} {nL mc ms : Nat} {own : String} {cc : ByteArray} {L : Nat} {ret : Option FieldType} {k n pc ix : Nat} {loc : List (Nat × Value)} {rest : List Value}  {x1 : Int32} {x2 : Int32} {S : St}  (C : JC E (VR G nL mc ms own) cc L ret) (hd : decode cc pc = .ok (.invokevirtual ix, 3)) (hq : Cond.methodLink own ix yX10_learns ∈ tblG) (hL : 6 + 1 ≤ L) (hW : (rest.map fun v => v.category).sum ≤ 8) (hf : k + 0 ≤ mc ∧ n + 0 ≤ ms) : Rn E (VR G nL mc ms own) k n 0 0 pc loc (.int x2 :: .int x1 :: .ref (gA G 0) :: rest) rest S (fR_learns x1 x2 S) := rn_V (ci := 10) 0 (V := VR G nL mc ms own) (As := [.int x1, .int x2]) (Cq := (RX10, TX10, 53)) (cR_learns C.flags C.wok  x1 x2 S) knX10_learns ⟨q_1143, q_1144⟩ rfl rfl C hd hq hL rfl rfl hW hf

