theorem knX10_standsHere : Kn yX10_standsHere cX10_standsHere 3 (some .boolean) 1 := ⟨q_927, q_815, by decide +kernel, by decide⟩
theorem bR_standsHere_7 {E : Ec} {G : Gc}  {x1 : Nat}  (C : JC E (VR G 3 0 0 RX10) cX10_standsHere 5 (some .boolean))  (hs_x1 : x1 < 40)  : ∀ (n : Nat) (x2 : Int32) (S : St), J E (VR G 3 0 0 RX10) 0 0 7 [(0, .ref (gA G 0)), (1, .ref (gK G x1)), (2, .int x2)] [] S (fR_standsHere_7 x1 n x2 S) := by
  intro n
  induction n with
  | zero => intro x2 S; rw [fR_standsHere_7]; exact j_none
  | succ n ih =>
    intro x2 S
    rw [fR_standsHere_7]
    refine j_iload_n (pc := 7) 2 C dX10_standsHere_7 rfl rfl ?_
    refine j_aload_n (pc := 8) 1 C dX10_standsHere_8 rfl rfl ?_
    refine j_slen (pc := 9) C dX10_standsHere_9 q_859 hs_x1 (by omega) (Nat.le_of_ble_eq_true rfl) (Nat.le_of_ble_eq_true rfl) (Nat.le_of_ble_eq_true rfl) ?_
    refine j_icmp_ge (pc := 12) 55 C dX10_standsHere_12 (by decide) ?_ ?_
    ·
      refine j_aload_n (pc := 55) 0 C dX10_standsHere_55 rfl rfl ?_
      refine gR_0_4 (pc := 56) C dX10_standsHere_56 q_825 ?_
      refine j_aload_n (pc := 59) 1 C dX10_standsHere_59 rfl rfl ?_
      refine j_slen (pc := 60) C dX10_standsHere_60 q_859 hs_x1 (by omega) (Nat.le_of_ble_eq_true rfl) (Nat.le_of_ble_eq_true rfl) (Nat.le_of_ble_eq_true rfl) ?_
      refine j_iadd (pc := 63) C dX10_standsHere_63 ?_
      refine j_aload_n (pc := 64) 0 C dX10_standsHere_64 rfl rfl ?_
      refine gR_0_3 (pc := 65) C dX10_standsHere_65 q_824 ?_
      refine j_icmp_ge (pc := 68) 91 C dX10_standsHere_68 (by decide) ?_ ?_
      ·
        refine j_iconst (pc := 91) 1 C dX10_standsHere_91 (by decide) ?_
        refine j_goto (pc := 92) 96 C dX10_standsHere_92 (by decide) ?_
        exact j_zretc C dX10_standsHere_96 rfl (Nat.le_of_ble_eq_true rfl) (Nat.le_of_ble_eq_true rfl) rfl
      ·
        refine j_aload_n (pc := 71) 0 C dX10_standsHere_71 rfl rfl ?_
        refine gR_0_9 (pc := 72) C dX10_standsHere_72 q_813 ?_
        refine j_aload_n (pc := 75) 0 C dX10_standsHere_75 rfl rfl ?_
        refine gR_0_4 (pc := 76) C dX10_standsHere_76 q_825 ?_
        refine j_aload_n (pc := 79) 1 C dX10_standsHere_79 rfl rfl ?_
        refine j_slen (pc := 80) C dX10_standsHere_80 q_859 hs_x1 (by omega) (Nat.le_of_ble_eq_true rfl) (Nat.le_of_ble_eq_true rfl) (Nat.le_of_ble_eq_true rfl) ?_
        refine j_iadd (pc := 83) C dX10_standsHere_83 ?_
        refine aR_2 (pc := 84) C dX10_standsHere_84 ?_
        refine j_callI0 (pc := 85) C (rR_isSmall C dX10_standsHere_85 q_854 (by omega) (Nat.le_of_ble_eq_true rfl) ⟨Nat.le_of_ble_eq_true rfl, Nat.le_of_ble_eq_true rfl⟩) ⟨Nat.le_of_ble_eq_true rfl, Nat.le_of_ble_eq_true rfl⟩ (fun r8 T7 => ?_)
        refine j_if_ne (pc := 88) 95 C dX10_standsHere_88 (by decide) ?_ ?_
        ·
          refine j_iconst (pc := 95) 0 C dX10_standsHere_95 (by decide) ?_
          exact j_zretc C dX10_standsHere_96 rfl (Nat.le_of_ble_eq_true rfl) (Nat.le_of_ble_eq_true rfl) rfl
        ·
          refine j_iconst (pc := 91) 1 C dX10_standsHere_91 (by decide) ?_
          refine j_goto (pc := 92) 96 C dX10_standsHere_92 (by decide) ?_
          exact j_zretc C dX10_standsHere_96 rfl (Nat.le_of_ble_eq_true rfl) (Nat.le_of_ble_eq_true rfl) rfl
    ·
      refine j_aload_n (pc := 15) 0 C dX10_standsHere_15 rfl rfl ?_
      refine gR_0_4 (pc := 16) C dX10_standsHere_16 q_825 ?_
      refine j_iload_n (pc := 19) 2 C dX10_standsHere_19 rfl rfl ?_
      refine j_iadd (pc := 20) C dX10_standsHere_20 ?_
      refine j_aload_n (pc := 21) 0 C dX10_standsHere_21 rfl rfl ?_
      refine gR_0_3 (pc := 22) C dX10_standsHere_22 q_824 ?_
      refine j_icmp_ge (pc := 25) 47 C dX10_standsHere_25 (by decide) ?_ ?_
      ·
        refine j_iconst (pc := 47) 0 C dX10_standsHere_47 (by decide) ?_
        exact j_zretc C dX10_standsHere_48 rfl (Nat.le_of_ble_eq_true rfl) (Nat.le_of_ble_eq_true rfl) rfl
      ·
        refine j_aload_n (pc := 28) 0 C dX10_standsHere_28 rfl rfl ?_
        refine gR_0_9 (pc := 29) C dX10_standsHere_29 q_813 ?_
        refine j_aload_n (pc := 32) 0 C dX10_standsHere_32 rfl rfl ?_
        refine gR_0_4 (pc := 33) C dX10_standsHere_33 q_825 ?_
        refine j_iload_n (pc := 36) 2 C dX10_standsHere_36 rfl rfl ?_
        refine j_iadd (pc := 37) C dX10_standsHere_37 ?_
        refine aR_2 (pc := 38) C dX10_standsHere_38 ?_
        refine j_aload_n (pc := 39) 1 C dX10_standsHere_39 rfl rfl ?_
        refine j_iload_n (pc := 40) 2 C dX10_standsHere_40 rfl rfl ?_
        refine j_schar (pc := 41) C dX10_standsHere_41 q_860 hs_x1 (by omega) (Nat.le_of_ble_eq_true rfl) (Nat.le_of_ble_eq_true rfl) (Nat.le_of_ble_eq_true rfl) ?_
        refine j_icmp_eq (pc := 44) 49 C dX10_standsHere_44 (by decide) ?_ ?_
        ·
          refine j_iinc (pc := 49) 2 (x2 + 1) [(2, .int (x2 + 1)), (0, .ref (gA G 0)), (1, .ref (gK G x1))] C dX10_standsHere_49 rfl rfl (Nat.le_of_ble_eq_true rfl) rfl ?_
          refine j_goto (pc := 52) 7 C dX10_standsHere_52 (by decide) ?_
          refine j_sub [1, 2, 0] rfl ?_
          exact ih (x2 + 1) S
        ·
          refine j_iconst (pc := 47) 0 C dX10_standsHere_47 (by decide) ?_
          exact j_zretc C dX10_standsHere_48 rfl (Nat.le_of_ble_eq_true rfl) (Nat.le_of_ble_eq_true rfl) rfl
theorem bR_standsHere {E : Ec} {G : Gc}  {x1 : Nat}  (C : JC E (VR G 3 0 0 RX10) cX10_standsHere 5 (some .boolean))  (hs_x1 : x1 < 40)   (S : St) : J E (VR G 3 0 0 RX10) 0 0 0 [(0, .ref (gA G 0)), (1, .ref (gK G x1))] [] S (fR_standsHere x1  S) := by
  unfold fR_standsHere
  refine j_aload_n (pc := 0) 0 C dX10_standsHere_0 rfl rfl ?_
  refine j_callI0 (pc := 1) C (rR_here C dX10_standsHere_1 q_847 (by omega) (Nat.le_of_ble_eq_true rfl) ⟨Nat.le_of_ble_eq_true rfl, Nat.le_of_ble_eq_true rfl⟩) ⟨Nat.le_of_ble_eq_true rfl, Nat.le_of_ble_eq_true rfl⟩ (fun r2 T1 => ?_)
  refine j_pop (pc := 4) C dX10_standsHere_4 rfl ?_
  refine j_iconst (pc := 5) 0 C dX10_standsHere_5 (by decide) ?_
  refine j_istore_n (pc := 6) [(2, .int 0), (0, .ref (gA G 0)), (1, .ref (gK G x1))] C dX10_standsHere_6 rfl (Nat.le_of_ble_eq_true rfl) rfl ?_
  refine j_sub [1, 2, 0] rfl ?_
  exact bR_standsHere_7 C hs_x1 FU 0 T1
theorem cR_standsHere {l : Launch} {G : Gc} (hfl : l.stackTraces = false) (hW : Wok G wR 26) {x1 : Nat} (hs_x1 : x1 < 40)  (S : St) : Ct l yX10_standsHere (Cond.code yX10_standsHere cX10_standsHere 3 (some .boolean) :: tblG) 5 0 0 G wR 26 [.ref (gA G 0), .ref (gK G x1)] S (fR_standsHere x1 S) := ct_of (own := RX10) hfl (by decide +kernel) rfl hW (Nat.le_of_ble_eq_true rfl) (fun E hE C => by subst hE; exact bR_standsHere C hs_x1   S)
theorem rR_standsHere {E : Ec} {G : Gc} {nL mc ms : Nat} {own : String} {cc : ByteArray} {L : Nat} {ret : Option FieldType} {k n pc ix : Nat} {loc : List (Nat × Value)} {rest : List Value}  {x1 : Nat} {S : St} (hs_x1 : x1 < 40) (C : JC E (VR G nL mc ms own) cc L ret) (hd : decode cc pc = .ok (.invokevirtual ix, 3)) (hq : Cond.methodLink own ix yX10_standsHere ∈ tblG) (hL : 5 + 1 ≤ L) (hW : (rest.map fun v => v.category).sum ≤ 8) (hf : k + 0 ≤ mc ∧ n + 0 ≤ ms) : Rn E (VR G nL mc ms own) k n 0 0 pc loc (.ref (gK G x1) :: .ref (gA G 0) :: rest) rest S (fR_standsHere x1 S) := rn_V (ci := 10) 0 (V := VR G nL mc ms own) (As := [.ref (gK G x1)]) (Cq := (RX10, TX10, 53)) (cR_standsHere C.flags C.wok hs_x1  S) knX10_standsHere ⟨q_928, q_929⟩ rfl rfl C hd hq hL rfl rfl hW hf

theorem bR_of_v235_4 {E : Ec} {G : Gc}  {x0 : Nat}  (C : JC E (VR G 3 0 0 RX10) cX10_of 5 (some .int))  (hs_x0 : x0 < 40)  : ∀ (n : Nat) (x1 : Int32) (x2 : Int32) (S : St), J E (VR G 3 0 0 RX10) 0 0 4 [(0, .ref (gK G x0)), (1, .int x1), (2, .int x2)] [] S (fR_of_v235_4 x0 n x1 x2 S) := by
  intro n
  induction n with
  | zero => intro x1 x2 S; rw [fR_of_v235_4]; exact j_none
  | succ n ih =>
    intro x1 x2 S
    rw [fR_of_v235_4]
    refine j_iload_n (pc := 4) 2 C dX10_of_4 rfl rfl ?_
    refine j_aload_n (pc := 5) 0 C dX10_of_5 rfl rfl ?_
    refine j_slen (pc := 6) C dX10_of_6 q_859 hs_x0 (by omega) (Nat.le_of_ble_eq_true rfl) (Nat.le_of_ble_eq_true rfl) (Nat.le_of_ble_eq_true rfl) ?_
    refine j_icmp_ge (pc := 9) 31 C dX10_of_9 (by decide) ?_ ?_
    ·
      refine j_iload_n (pc := 31) 1 C dX10_of_31 rfl rfl ?_
      exact j_iret C dX10_of_32 rfl (Nat.le_of_ble_eq_true rfl) (Nat.le_of_ble_eq_true rfl)
    ·
      refine j_iload_n (pc := 12) 1 C dX10_of_12 rfl rfl ?_
      refine j_iconst (pc := 13) 5 C dX10_of_13 (by decide) ?_
      refine j_ishl (pc := 14) C dX10_of_14 ?_
      refine j_aload_n (pc := 15) 0 C dX10_of_15 rfl rfl ?_
      refine j_iload_n (pc := 16) 2 C dX10_of_16 rfl rfl ?_
      refine j_schar (pc := 17) C dX10_of_17 q_860 hs_x0 (by omega) (Nat.le_of_ble_eq_true rfl) (Nat.le_of_ble_eq_true rfl) (Nat.le_of_ble_eq_true rfl) ?_
      refine j_bipush (pc := 20) 96 C dX10_of_20 (by decide) ?_
      refine j_isub (pc := 22) C dX10_of_22 ?_
      refine j_ior (pc := 23) C dX10_of_23 ?_
      refine j_nxI (fun v5 => ?_)
      refine j_istore_n (pc := 24) [(1, .int v5), (0, .ref (gK G x0)), (2, .int x2)] C dX10_of_24 rfl (Nat.le_of_ble_eq_true rfl) rfl ?_
      refine j_iinc (pc := 25) 2 (x2 + 1) [(2, .int (x2 + 1)), (1, .int v5), (0, .ref (gK G x0))] C dX10_of_25 rfl rfl (Nat.le_of_ble_eq_true rfl) rfl ?_
      refine j_goto (pc := 28) 4 C dX10_of_28 (by decide) ?_
      refine j_sub [2, 1, 0] rfl ?_
      exact ih v5 (x2 + 1) S
theorem bR_of_v235 {E : Ec} {G : Gc}  {x0 : Nat}  (C : JC E (VR G 3 0 0 RX10) cX10_of 5 (some .int))  (hs_x0 : x0 < 40)   (S : St) : J E (VR G 3 0 0 RX10) 0 0 0 [(0, .ref (gK G x0))] [] S (fR_of_v235 x0  S) := by
  unfold fR_of_v235
  refine j_iconst (pc := 0) 0 C dX10_of_0 (by decide) ?_
  refine j_istore_n (pc := 1) [(1, .int 0), (0, .ref (gK G x0))] C dX10_of_1 rfl (Nat.le_of_ble_eq_true rfl) rfl ?_
  refine j_iconst (pc := 2) 0 C dX10_of_2 (by decide) ?_
  refine j_istore_n (pc := 3) [(2, .int 0), (1, .int 0), (0, .ref (gK G x0))] C dX10_of_3 rfl (Nat.le_of_ble_eq_true rfl) rfl ?_
  refine j_sub [2, 1, 0] rfl ?_
  exact bR_of_v235_4 C hs_x0 FU 0 0 S
theorem cR_of_v235 {l : Launch} {G : Gc} (hfl : l.stackTraces = false) (hW : Wok G wR 26) {x0 : Nat} (hs_x0 : x0 < 40)  (S : St) : Ct l yX10_of (Cond.code yX10_of cX10_of 3 (some .int) :: tblG) 5 0 0 G wR 26 [.ref (gK G x0)] S (fR_of_v235 x0 S) := ct_of (own := RX10) hfl (by decide +kernel) rfl hW (Nat.le_of_ble_eq_true rfl) (fun E hE C => by subst hE; exact bR_of_v235 C hs_x0   S)
theorem rR_of_v235 {E : Ec} {G : Gc} {nL mc ms : Nat} {own : String} {cc : ByteArray} {L : Nat} {ret : Option FieldType} {k n pc ix : Nat} {loc : List (Nat × Value)} {rest : List Value}  {x0 : Nat} {S : St} (hs_x0 : x0 < 40) (C : JC E (VR G nL mc ms own) cc L ret) (hd : decode cc pc = .ok (.invokestatic ix, 3)) (hq : Cond.methodLink own ix yX10_of ∈ tblG) (hL : 5 + 1 ≤ L) (hW : (rest.map fun v => v.category).sum ≤ 8) (hf : k + 0 ≤ mc ∧ n + 0 ≤ ms) : Rn E (VR G nL mc ms own) k n 0 0 pc loc (.ref (gK G x0) :: rest) rest S (fR_of_v235 x0 S) := rn_S (V := VR G nL mc ms own) (As := [.ref (gK G x0)]) (cR_of_v235 C.flags C.wok hs_x0  S) knX10_of q_862  C hd hq hL rfl rfl hW hf

theorem bR_of_v236_4 {E : Ec} {G : Gc}  {x0 : Nat}  (C : JC E (VR G 3 0 0 RX10) cX10_of 5 (some .int))  (hs_x0 : x0 < 40)  : ∀ (n : Nat) (x1 : Int32) (x2 : Int32) (S : St), J E (VR G 3 0 0 RX10) 0 0 4 [(0, .ref (gK G x0)), (1, .int x1), (2, .int x2)] [] S (fR_of_v236_4 x0 n x1 x2 S) := by
  intro n
  induction n with
  | zero => intro x1 x2 S; rw [fR_of_v236_4]; exact j_none
  | succ n ih =>
    intro x1 x2 S
    rw [fR_of_v236_4]
    refine j_iload_n (pc := 4) 2 C dX10_of_4 rfl rfl ?_
    refine j_aload_n (pc := 5) 0 C dX10_of_5 rfl rfl ?_
    refine j_slen (pc := 6) C dX10_of_6 q_859 hs_x0 (by omega) (Nat.le_of_ble_eq_true rfl) (Nat.le_of_ble_eq_true rfl) (Nat.le_of_ble_eq_true rfl) ?_
    refine j_icmp_ge (pc := 9) 31 C dX10_of_9 (by decide) ?_ ?_
    ·
      refine j_iload_n (pc := 31) 1 C dX10_of_31 rfl rfl ?_
      exact j_iret C dX10_of_32 rfl (Nat.le_of_ble_eq_true rfl) (Nat.le_of_ble_eq_true rfl)
    ·
      refine j_iload_n (pc := 12) 1 C dX10_of_12 rfl rfl ?_
      refine j_iconst (pc := 13) 5 C dX10_of_13 (by decide) ?_
      refine j_ishl (pc := 14) C dX10_of_14 ?_
      refine j_aload_n (pc := 15) 0 C dX10_of_15 rfl rfl ?_
      refine j_iload_n (pc := 16) 2 C dX10_of_16 rfl rfl ?_
      refine j_schar (pc := 17) C dX10_of_17 q_860 hs_x0 (by omega) (Nat.le_of_ble_eq_true rfl) (Nat.le_of_ble_eq_true rfl) (Nat.le_of_ble_eq_true rfl) ?_
      refine j_bipush (pc := 20) 96 C dX10_of_20 (by decide) ?_
      refine j_isub (pc := 22) C dX10_of_22 ?_
      refine j_ior (pc := 23) C dX10_of_23 ?_
      refine j_nxI (fun v5 => ?_)
      refine j_istore_n (pc := 24) [(1, .int v5), (0, .ref (gK G x0)), (2, .int x2)] C dX10_of_24 rfl (Nat.le_of_ble_eq_true rfl) rfl ?_
      refine j_iinc (pc := 25) 2 (x2 + 1) [(2, .int (x2 + 1)), (1, .int v5), (0, .ref (gK G x0))] C dX10_of_25 rfl rfl (Nat.le_of_ble_eq_true rfl) rfl ?_
      refine j_goto (pc := 28) 4 C dX10_of_28 (by decide) ?_
      refine j_sub [2, 1, 0] rfl ?_
      exact ih v5 (x2 + 1) S
theorem bR_of_v236 {E : Ec} {G : Gc}  {x0 : Nat}  (C : JC E (VR G 3 0 0 RX10) cX10_of 5 (some .int))  (hs_x0 : x0 < 40)   (S : St) : J E (VR G 3 0 0 RX10) 0 0 0 [(0, .ref (gK G x0))] [] S (fR_of_v236 x0  S) := by
  unfold fR_of_v236
  refine j_iconst (pc := 0) 0 C dX10_of_0 (by decide) ?_
  refine j_istore_n (pc := 1) [(1, .int 0), (0, .ref (gK G x0))] C dX10_of_1 rfl (Nat.le_of_ble_eq_true rfl) rfl ?_
  refine j_iconst (pc := 2) 0 C dX10_of_2 (by decide) ?_
  refine j_istore_n (pc := 3) [(2, .int 0), (1, .int 0), (0, .ref (gK G x0))] C dX10_of_3 rfl (Nat.le_of_ble_eq_true rfl) rfl ?_
  refine j_sub [2, 1, 0] rfl ?_
  exact bR_of_v236_4 C hs_x0 FU 0 0 S
theorem cR_of_v236 {l : Launch} {G : Gc} (hfl : l.stackTraces = false) (hW : Wok G wR 26) {x0 : Nat} (hs_x0 : x0 < 40)  (S : St) : Ct l yX10_of (Cond.code yX10_of cX10_of 3 (some .int) :: tblG) 5 0 0 G wR 26 [.ref (gK G x0)] S (fR_of_v236 x0 S) := ct_of (own := RX10) hfl (by decide +kernel) rfl hW (Nat.le_of_ble_eq_true rfl) (fun E hE C => by subst hE; exact bR_of_v236 C hs_x0   S)
theorem rR_of_v236 {E : Ec} {G : Gc} {nL mc ms : Nat} {own : String} {cc : ByteArray} {L : Nat} {ret : Option FieldType} {k n pc ix : Nat} {loc : List (Nat × Value)} {rest : List Value}  {x0 : Nat} {S : St} (hs_x0 : x0 < 40) (C : JC E (VR G nL mc ms own) cc L ret) (hd : decode cc pc = .ok (.invokestatic ix, 3)) (hq : Cond.methodLink own ix yX10_of ∈ tblG) (hL : 5 + 1 ≤ L) (hW : (rest.map fun v => v.category).sum ≤ 8) (hf : k + 0 ≤ mc ∧ n + 0 ≤ ms) : Rn E (VR G nL mc ms own) k n 0 0 pc loc (.ref (gK G x0) :: rest) rest S (fR_of_v236 x0 S) := rn_S (V := VR G nL mc ms own) (As := [.ref (gK G x0)]) (cR_of_v236 C.flags C.wok hs_x0  S) knX10_of q_862  C hd hq hL rfl rfl hW hf

theorem bR_of_v237_4 {E : Ec} {G : Gc}  {x0 : Nat}  (C : JC E (VR G 3 0 0 RX10) cX10_of 5 (some .int))  (hs_x0 : x0 < 40)  : ∀ (n : Nat) (x1 : Int32) (x2 : Int32) (S : St), J E (VR G 3 0 0 RX10) 0 0 4 [(0, .ref (gK G x0)), (1, .int x1), (2, .int x2)] [] S (fR_of_v237_4 x0 n x1 x2 S) := by
  intro n
  induction n with
  | zero => intro x1 x2 S; rw [fR_of_v237_4]; exact j_none
  | succ n ih =>
    intro x1 x2 S
    rw [fR_of_v237_4]
    refine j_iload_n (pc := 4) 2 C dX10_of_4 rfl rfl ?_
    refine j_aload_n (pc := 5) 0 C dX10_of_5 rfl rfl ?_
    refine j_slen (pc := 6) C dX10_of_6 q_859 hs_x0 (by omega) (Nat.le_of_ble_eq_true rfl) (Nat.le_of_ble_eq_true rfl) (Nat.le_of_ble_eq_true rfl) ?_
    refine j_icmp_ge (pc := 9) 31 C dX10_of_9 (by decide) ?_ ?_
    ·
      refine j_iload_n (pc := 31) 1 C dX10_of_31 rfl rfl ?_
      exact j_iret C dX10_of_32 rfl (Nat.le_of_ble_eq_true rfl) (Nat.le_of_ble_eq_true rfl)
    ·
      refine j_iload_n (pc := 12) 1 C dX10_of_12 rfl rfl ?_
      refine j_iconst (pc := 13) 5 C dX10_of_13 (by decide) ?_
      refine j_ishl (pc := 14) C dX10_of_14 ?_
      refine j_aload_n (pc := 15) 0 C dX10_of_15 rfl rfl ?_
      refine j_iload_n (pc := 16) 2 C dX10_of_16 rfl rfl ?_
      refine j_schar (pc := 17) C dX10_of_17 q_860 hs_x0 (by omega) (Nat.le_of_ble_eq_true rfl) (Nat.le_of_ble_eq_true rfl) (Nat.le_of_ble_eq_true rfl) ?_
      refine j_bipush (pc := 20) 96 C dX10_of_20 (by decide) ?_
      refine j_isub (pc := 22) C dX10_of_22 ?_
      refine j_ior (pc := 23) C dX10_of_23 ?_
      refine j_nxI (fun v5 => ?_)
      refine j_istore_n (pc := 24) [(1, .int v5), (0, .ref (gK G x0)), (2, .int x2)] C dX10_of_24 rfl (Nat.le_of_ble_eq_true rfl) rfl ?_
      refine j_iinc (pc := 25) 2 (x2 + 1) [(2, .int (x2 + 1)), (1, .int v5), (0, .ref (gK G x0))] C dX10_of_25 rfl rfl (Nat.le_of_ble_eq_true rfl) rfl ?_
      refine j_goto (pc := 28) 4 C dX10_of_28 (by decide) ?_
      refine j_sub [2, 1, 0] rfl ?_
      exact ih v5 (x2 + 1) S
theorem bR_of_v237 {E : Ec} {G : Gc}  {x0 : Nat}  (C : JC E (VR G 3 0 0 RX10) cX10_of 5 (some .int))  (hs_x0 : x0 < 40)   (S : St) : J E (VR G 3 0 0 RX10) 0 0 0 [(0, .ref (gK G x0))] [] S (fR_of_v237 x0  S) := by
  unfold fR_of_v237
  refine j_iconst (pc := 0) 0 C dX10_of_0 (by decide) ?_
  refine j_istore_n (pc := 1) [(1, .int 0), (0, .ref (gK G x0))] C dX10_of_1 rfl (Nat.le_of_ble_eq_true rfl) rfl ?_
  refine j_iconst (pc := 2) 0 C dX10_of_2 (by decide) ?_
  refine j_istore_n (pc := 3) [(2, .int 0), (1, .int 0), (0, .ref (gK G x0))] C dX10_of_3 rfl (Nat.le_of_ble_eq_true rfl) rfl ?_
  refine j_sub [2, 1, 0] rfl ?_
  exact bR_of_v237_4 C hs_x0 FU 0 0 S
theorem cR_of_v237 {l : Launch} {G : Gc} (hfl : l.stackTraces = false) (hW : Wok G wR 26) {x0 : Nat} (hs_x0 : x0 < 40)  (S : St) : Ct l yX10_of (Cond.code yX10_of cX10_of 3 (some .int) :: tblG) 5 0 0 G wR 26 [.ref (gK G x0)] S (fR_of_v237 x0 S) := ct_of (own := RX10) hfl (by decide +kernel) rfl hW (Nat.le_of_ble_eq_true rfl) (fun E hE C => by subst hE; exact bR_of_v237 C hs_x0   S)
theorem rR_of_v237 {E : Ec} {G : Gc} {nL mc ms : Nat} {own : String} {cc : ByteArray} {L : Nat} {ret : Option FieldType} {k n pc ix : Nat} {loc : List (Nat × Value)} {rest : List Value}  {x0 : Nat} {S : St} (hs_x0 : x0 < 40) (C : JC E (VR G nL mc ms own) cc L ret) (hd : decode cc pc = .ok (.invokestatic ix, 3)) (hq : Cond.methodLink own ix yX10_of ∈ tblG) (hL : 5 + 1 ≤ L) (hW : (rest.map fun v => v.category).sum ≤ 8) (hf : k + 0 ≤ mc ∧ n + 0 ≤ ms) : Rn E (VR G nL mc ms own) k n 0 0 pc loc (.ref (gK G x0) :: rest) rest S (fR_of_v237 x0 S) := rn_S (V := VR G nL mc ms own) (As := [.ref (gK G x0)]) (cR_of_v237 C.flags C.wok hs_x0  S) knX10_of q_862  C hd hq hL rfl rfl hW hf

theorem bR_of_v238_4 {E : Ec} {G : Gc}  {x0 : Nat}  (C : JC E (VR G 3 0 0 RX10) cX10_of 5 (some .int))  (hs_x0 : x0 < 40)  : ∀ (n : Nat) (x1 : Int32) (x2 : Int32) (S : St), J E (VR G 3 0 0 RX10) 0 0 4 [(0, .ref (gK G x0)), (1, .int x1), (2, .int x2)] [] S (fR_of_v238_4 x0 n x1 x2 S) := by
  intro n
  induction n with
  | zero => intro x1 x2 S; rw [fR_of_v238_4]; exact j_none
  | succ n ih =>
    intro x1 x2 S
    rw [fR_of_v238_4]
    refine j_iload_n (pc := 4) 2 C dX10_of_4 rfl rfl ?_
    refine j_aload_n (pc := 5) 0 C dX10_of_5 rfl rfl ?_
    refine j_slen (pc := 6) C dX10_of_6 q_859 hs_x0 (by omega) (Nat.le_of_ble_eq_true rfl) (Nat.le_of_ble_eq_true rfl) (Nat.le_of_ble_eq_true rfl) ?_
    refine j_icmp_ge (pc := 9) 31 C dX10_of_9 (by decide) ?_ ?_
    ·
      refine j_iload_n (pc := 31) 1 C dX10_of_31 rfl rfl ?_
      exact j_iret C dX10_of_32 rfl (Nat.le_of_ble_eq_true rfl) (Nat.le_of_ble_eq_true rfl)
    ·
      refine j_iload_n (pc := 12) 1 C dX10_of_12 rfl rfl ?_
      refine j_iconst (pc := 13) 5 C dX10_of_13 (by decide) ?_
      refine j_ishl (pc := 14) C dX10_of_14 ?_
      refine j_aload_n (pc := 15) 0 C dX10_of_15 rfl rfl ?_
      refine j_iload_n (pc := 16) 2 C dX10_of_16 rfl rfl ?_
      refine j_schar (pc := 17) C dX10_of_17 q_860 hs_x0 (by omega) (Nat.le_of_ble_eq_true rfl) (Nat.le_of_ble_eq_true rfl) (Nat.le_of_ble_eq_true rfl) ?_
      refine j_bipush (pc := 20) 96 C dX10_of_20 (by decide) ?_
      refine j_isub (pc := 22) C dX10_of_22 ?_
      refine j_ior (pc := 23) C dX10_of_23 ?_
      refine j_nxI (fun v5 => ?_)
      refine j_istore_n (pc := 24) [(1, .int v5), (0, .ref (gK G x0)), (2, .int x2)] C dX10_of_24 rfl (Nat.le_of_ble_eq_true rfl) rfl ?_
      refine j_iinc (pc := 25) 2 (x2 + 1) [(2, .int (x2 + 1)), (1, .int v5), (0, .ref (gK G x0))] C dX10_of_25 rfl rfl (Nat.le_of_ble_eq_true rfl) rfl ?_
      refine j_goto (pc := 28) 4 C dX10_of_28 (by decide) ?_
      refine j_sub [2, 1, 0] rfl ?_
      exact ih v5 (x2 + 1) S
theorem bR_of_v238 {E : Ec} {G : Gc}  {x0 : Nat}  (C : JC E (VR G 3 0 0 RX10) cX10_of 5 (some .int))  (hs_x0 : x0 < 40)   (S : St) : J E (VR G 3 0 0 RX10) 0 0 0 [(0, .ref (gK G x0))] [] S (fR_of_v238 x0  S) := by
  unfold fR_of_v238
  refine j_iconst (pc := 0) 0 C dX10_of_0 (by decide) ?_
  refine j_istore_n (pc := 1) [(1, .int 0), (0, .ref (gK G x0))] C dX10_of_1 rfl (Nat.le_of_ble_eq_true rfl) rfl ?_
  refine j_iconst (pc := 2) 0 C dX10_of_2 (by decide) ?_
  refine j_istore_n (pc := 3) [(2, .int 0), (1, .int 0), (0, .ref (gK G x0))] C dX10_of_3 rfl (Nat.le_of_ble_eq_true rfl) rfl ?_
  refine j_sub [2, 1, 0] rfl ?_
  exact bR_of_v238_4 C hs_x0 FU 0 0 S
theorem cR_of_v238 {l : Launch} {G : Gc} (hfl : l.stackTraces = false) (hW : Wok G wR 26) {x0 : Nat} (hs_x0 : x0 < 40)  (S : St) : Ct l yX10_of (Cond.code yX10_of cX10_of 3 (some .int) :: tblG) 5 0 0 G wR 26 [.ref (gK G x0)] S (fR_of_v238 x0 S) := ct_of (own := RX10) hfl (by decide +kernel) rfl hW (Nat.le_of_ble_eq_true rfl) (fun E hE C => by subst hE; exact bR_of_v238 C hs_x0   S)
theorem rR_of_v238 {E : Ec} {G : Gc} {nL mc ms : Nat} {own : String} {cc : ByteArray} {L : Nat} {ret : Option FieldType} {k n pc ix : Nat} {loc : List (Nat × Value)} {rest : List Value}  {x0 : Nat} {S : St} (hs_x0 : x0 < 40) (C : JC E (VR G nL mc ms own) cc L ret) (hd : decode cc pc = .ok (.invokestatic ix, 3)) (hq : Cond.methodLink own ix yX10_of ∈ tblG) (hL : 5 + 1 ≤ L) (hW : (rest.map fun v => v.category).sum ≤ 8) (hf : k + 0 ≤ mc ∧ n + 0 ≤ ms) : Rn E (VR G nL mc ms own) k n 0 0 pc loc (.ref (gK G x0) :: rest) rest S (fR_of_v238 x0 S) := rn_S (V := VR G nL mc ms own) (As := [.ref (gK G x0)]) (cR_of_v238 C.flags C.wok hs_x0  S) knX10_of q_862  C hd hq hL rfl rfl hW hf

theorem bR_of_v239_4 {E : Ec} {G : Gc}  {x0 : Nat}  (C : JC E (VR G 3 0 0 RX10) cX10_of 5 (some .int))  (hs_x0 : x0 < 40)  : ∀ (n : Nat) (x1 : Int32) (x2 : Int32) (S : St), J E (VR G 3 0 0 RX10) 0 0 4 [(0, .ref (gK G x0)), (1, .int x1), (2, .int x2)] [] S (fR_of_v239_4 x0 n x1 x2 S) := by
  intro n
  induction n with
  | zero => intro x1 x2 S; rw [fR_of_v239_4]; exact j_none
  | succ n ih =>
    intro x1 x2 S
    rw [fR_of_v239_4]
    refine j_iload_n (pc := 4) 2 C dX10_of_4 rfl rfl ?_
    refine j_aload_n (pc := 5) 0 C dX10_of_5 rfl rfl ?_
    refine j_slen (pc := 6) C dX10_of_6 q_859 hs_x0 (by omega) (Nat.le_of_ble_eq_true rfl) (Nat.le_of_ble_eq_true rfl) (Nat.le_of_ble_eq_true rfl) ?_
    refine j_icmp_ge (pc := 9) 31 C dX10_of_9 (by decide) ?_ ?_
    ·
      refine j_iload_n (pc := 31) 1 C dX10_of_31 rfl rfl ?_
      exact j_iret C dX10_of_32 rfl (Nat.le_of_ble_eq_true rfl) (Nat.le_of_ble_eq_true rfl)
    ·
      refine j_iload_n (pc := 12) 1 C dX10_of_12 rfl rfl ?_
      refine j_iconst (pc := 13) 5 C dX10_of_13 (by decide) ?_
      refine j_ishl (pc := 14) C dX10_of_14 ?_
      refine j_aload_n (pc := 15) 0 C dX10_of_15 rfl rfl ?_
      refine j_iload_n (pc := 16) 2 C dX10_of_16 rfl rfl ?_
      refine j_schar (pc := 17) C dX10_of_17 q_860 hs_x0 (by omega) (Nat.le_of_ble_eq_true rfl) (Nat.le_of_ble_eq_true rfl) (Nat.le_of_ble_eq_true rfl) ?_
      refine j_bipush (pc := 20) 96 C dX10_of_20 (by decide) ?_
      refine j_isub (pc := 22) C dX10_of_22 ?_
      refine j_ior (pc := 23) C dX10_of_23 ?_
      refine j_nxI (fun v5 => ?_)
      refine j_istore_n (pc := 24) [(1, .int v5), (0, .ref (gK G x0)), (2, .int x2)] C dX10_of_24 rfl (Nat.le_of_ble_eq_true rfl) rfl ?_
      refine j_iinc (pc := 25) 2 (x2 + 1) [(2, .int (x2 + 1)), (1, .int v5), (0, .ref (gK G x0))] C dX10_of_25 rfl rfl (Nat.le_of_ble_eq_true rfl) rfl ?_
      refine j_goto (pc := 28) 4 C dX10_of_28 (by decide) ?_
      refine j_sub [2, 1, 0] rfl ?_
      exact ih v5 (x2 + 1) S
theorem bR_of_v239 {E : Ec} {G : Gc}  {x0 : Nat}  (C : JC E (VR G 3 0 0 RX10) cX10_of 5 (some .int))  (hs_x0 : x0 < 40)   (S : St) : J E (VR G 3 0 0 RX10) 0 0 0 [(0, .ref (gK G x0))] [] S (fR_of_v239 x0  S) := by
  unfold fR_of_v239
  refine j_iconst (pc := 0) 0 C dX10_of_0 (by decide) ?_
  refine j_istore_n (pc := 1) [(1, .int 0), (0, .ref (gK G x0))] C dX10_of_1 rfl (Nat.le_of_ble_eq_true rfl) rfl ?_
  refine j_iconst (pc := 2) 0 C dX10_of_2 (by decide) ?_
  refine j_istore_n (pc := 3) [(2, .int 0), (1, .int 0), (0, .ref (gK G x0))] C dX10_of_3 rfl (Nat.le_of_ble_eq_true rfl) rfl ?_
  refine j_sub [2, 1, 0] rfl ?_
  exact bR_of_v239_4 C hs_x0 FU 0 0 S
theorem cR_of_v239 {l : Launch} {G : Gc} (hfl : l.stackTraces = false) (hW : Wok G wR 26) {x0 : Nat} (hs_x0 : x0 < 40)  (S : St) : Ct l yX10_of (Cond.code yX10_of cX10_of 3 (some .int) :: tblG) 5 0 0 G wR 26 [.ref (gK G x0)] S (fR_of_v239 x0 S) := ct_of (own := RX10) hfl (by decide +kernel) rfl hW (Nat.le_of_ble_eq_true rfl) (fun E hE C => by subst hE; exact bR_of_v239 C hs_x0   S)
theorem rR_of_v239 {E : Ec} {G : Gc} {nL mc ms : Nat} {own : String} {cc : ByteArray} {L : Nat} {ret : Option FieldType} {k n pc ix : Nat} {loc : List (Nat × Value)} {rest : List Value}  {x0 : Nat} {S : St} (hs_x0 : x0 < 40) (C : JC E (VR G nL mc ms own) cc L ret) (hd : decode cc pc = .ok (.invokestatic ix, 3)) (hq : Cond.methodLink own ix yX10_of ∈ tblG) (hL : 5 + 1 ≤ L) (hW : (rest.map fun v => v.category).sum ≤ 8) (hf : k + 0 ≤ mc ∧ n + 0 ≤ ms) : Rn E (VR G nL mc ms own) k n 0 0 pc loc (.ref (gK G x0) :: rest) rest S (fR_of_v239 x0 S) := rn_S (V := VR G nL mc ms own) (As := [.ref (gK G x0)]) (cR_of_v239 C.flags C.wok hs_x0  S) knX10_of q_862  C hd hq hL rfl rfl hW hf

theorem bR_of_v240_4 {E : Ec} {G : Gc}  {x0 : Nat}  (C : JC E (VR G 3 0 0 RX10) cX10_of 5 (some .int))  (hs_x0 : x0 < 40)  : ∀ (n : Nat) (x1 : Int32) (x2 : Int32) (S : St), J E (VR G 3 0 0 RX10) 0 0 4 [(0, .ref (gK G x0)), (1, .int x1), (2, .int x2)] [] S (fR_of_v240_4 x0 n x1 x2 S) := by
  intro n
  induction n with
  | zero => intro x1 x2 S; rw [fR_of_v240_4]; exact j_none
  | succ n ih =>
    intro x1 x2 S
    rw [fR_of_v240_4]
    refine j_iload_n (pc := 4) 2 C dX10_of_4 rfl rfl ?_
    refine j_aload_n (pc := 5) 0 C dX10_of_5 rfl rfl ?_
    refine j_slen (pc := 6) C dX10_of_6 q_859 hs_x0 (by omega) (Nat.le_of_ble_eq_true rfl) (Nat.le_of_ble_eq_true rfl) (Nat.le_of_ble_eq_true rfl) ?_
    refine j_icmp_ge (pc := 9) 31 C dX10_of_9 (by decide) ?_ ?_
    ·
      refine j_iload_n (pc := 31) 1 C dX10_of_31 rfl rfl ?_
      exact j_iret C dX10_of_32 rfl (Nat.le_of_ble_eq_true rfl) (Nat.le_of_ble_eq_true rfl)
    ·
      refine j_iload_n (pc := 12) 1 C dX10_of_12 rfl rfl ?_
      refine j_iconst (pc := 13) 5 C dX10_of_13 (by decide) ?_
      refine j_ishl (pc := 14) C dX10_of_14 ?_
      refine j_aload_n (pc := 15) 0 C dX10_of_15 rfl rfl ?_
      refine j_iload_n (pc := 16) 2 C dX10_of_16 rfl rfl ?_
      refine j_schar (pc := 17) C dX10_of_17 q_860 hs_x0 (by omega) (Nat.le_of_ble_eq_true rfl) (Nat.le_of_ble_eq_true rfl) (Nat.le_of_ble_eq_true rfl) ?_
      refine j_bipush (pc := 20) 96 C dX10_of_20 (by decide) ?_
      refine j_isub (pc := 22) C dX10_of_22 ?_
      refine j_ior (pc := 23) C dX10_of_23 ?_
      refine j_nxI (fun v5 => ?_)
      refine j_istore_n (pc := 24) [(1, .int v5), (0, .ref (gK G x0)), (2, .int x2)] C dX10_of_24 rfl (Nat.le_of_ble_eq_true rfl) rfl ?_
      refine j_iinc (pc := 25) 2 (x2 + 1) [(2, .int (x2 + 1)), (1, .int v5), (0, .ref (gK G x0))] C dX10_of_25 rfl rfl (Nat.le_of_ble_eq_true rfl) rfl ?_
      refine j_goto (pc := 28) 4 C dX10_of_28 (by decide) ?_
      refine j_sub [2, 1, 0] rfl ?_
      exact ih v5 (x2 + 1) S
theorem bR_of_v240 {E : Ec} {G : Gc}  {x0 : Nat}  (C : JC E (VR G 3 0 0 RX10) cX10_of 5 (some .int))  (hs_x0 : x0 < 40)   (S : St) : J E (VR G 3 0 0 RX10) 0 0 0 [(0, .ref (gK G x0))] [] S (fR_of_v240 x0  S) := by
  unfold fR_of_v240
  refine j_iconst (pc := 0) 0 C dX10_of_0 (by decide) ?_
  refine j_istore_n (pc := 1) [(1, .int 0), (0, .ref (gK G x0))] C dX10_of_1 rfl (Nat.le_of_ble_eq_true rfl) rfl ?_
  refine j_iconst (pc := 2) 0 C dX10_of_2 (by decide) ?_
  refine j_istore_n (pc := 3) [(2, .int 0), (1, .int 0), (0, .ref (gK G x0))] C dX10_of_3 rfl (Nat.le_of_ble_eq_true rfl) rfl ?_
  refine j_sub [2, 1, 0] rfl ?_
  exact bR_of_v240_4 C hs_x0 FU 0 0 S
theorem cR_of_v240 {l : Launch} {G : Gc} (hfl : l.stackTraces = false) (hW : Wok G wR 26) {x0 : Nat} (hs_x0 : x0 < 40)  (S : St) : Ct l yX10_of (Cond.code yX10_of cX10_of 3 (some .int) :: tblG) 5 0 0 G wR 26 [.ref (gK G x0)] S (fR_of_v240 x0 S) := ct_of (own := RX10) hfl (by decide +kernel) rfl hW (Nat.le_of_ble_eq_true rfl) (fun E hE C => by subst hE; exact bR_of_v240 C hs_x0   S)
theorem rR_of_v240 {E : Ec} {G : Gc} {nL mc ms : Nat} {own : String} {cc : ByteArray} {L : Nat} {ret : Option FieldType} {k n pc ix : Nat} {loc : List (Nat × Value)} {rest : List Value}  {x0 : Nat} {S : St} (hs_x0 : x0 < 40) (C : JC E (VR G nL mc ms own) cc L ret) (hd : decode cc pc = .ok (.invokestatic ix, 3)) (hq : Cond.methodLink own ix yX10_of ∈ tblG) (hL : 5 + 1 ≤ L) (hW : (rest.map fun v => v.category).sum ≤ 8) (hf : k + 0 ≤ mc ∧ n + 0 ≤ ms) : Rn E (VR G nL mc ms own) k n 0 0 pc loc (.ref (gK G x0) :: rest) rest S (fR_of_v240 x0 S) := rn_S (V := VR G nL mc ms own) (As := [.ref (gK G x0)]) (cR_of_v240 C.flags C.wok hs_x0  S) knX10_of q_862  C hd hq hL rfl rfl hW hf

theorem knX10_factHere : Kn yX10_factHere cX10_factHere 2 (some .int) 0 := ⟨q_931, q_815, by decide +kernel, by decide⟩
theorem bR_factHere {E : Ec} {G : Gc}    (C : JC E (VR G 2 0 0 RX10) cX10_factHere 6 (some .int))     (S : St) : J E (VR G 2 0 0 RX10) 0 0 0 [(0, .ref (gA G 0))] [] S (fR_factHere   S) := by
  unfold fR_factHere
  refine j_aload_n (pc := 0) 0 C dX10_factHere_0 rfl rfl ?_
  refine j_ldcS (pc := 1) 28 C dX10_factHere_1 rfl rfl rfl ?_
  refine j_callI0 (pc := 3) C (rR_standsHere (by decide) C dX10_factHere_3 q_930 (by omega) (Nat.le_of_ble_eq_true rfl) ⟨Nat.le_of_ble_eq_true rfl, Nat.le_of_ble_eq_true rfl⟩) ⟨Nat.le_of_ble_eq_true rfl, Nat.le_of_ble_eq_true rfl⟩ (fun r2 T1 => ?_)
  refine j_if_eq (pc := 6) 11 C dX10_factHere_6 (by decide) ?_ ?_
  ·
    refine j_aload_n (pc := 11) 0 C dX10_factHere_11 rfl rfl ?_
    refine j_callI0 (pc := 12) C (rR_word C dX10_factHere_12 q_858 (by omega) (Nat.le_of_ble_eq_true rfl) ⟨Nat.le_of_ble_eq_true rfl, Nat.le_of_ble_eq_true rfl⟩) ⟨Nat.le_of_ble_eq_true rfl, Nat.le_of_ble_eq_true rfl⟩ (fun r4 T3 => ?_)
    refine j_istore_n (pc := 15) [(1, .int r4), (0, .ref (gA G 0))] C dX10_factHere_15 rfl (Nat.le_of_ble_eq_true rfl) rfl ?_
    refine j_iload_n (pc := 16) 0 C dX10_factHere_16 rfl rfl ?_
    refine j_ldcSW (pc := 17) 29 C dX10_factHere_17 rfl rfl rfl ?_
    refine j_callI0 (pc := 20) C (rR_of_v235 (by decide) C dX10_factHere_20 q_863 (by omega) (Nat.le_of_ble_eq_true rfl) ⟨Nat.le_of_ble_eq_true rfl, Nat.le_of_ble_eq_true rfl⟩) ⟨Nat.le_of_ble_eq_true rfl, Nat.le_of_ble_eq_true rfl⟩ (fun r6 T5 => ?_)
    refine j_icmp_ne (pc := 23) 30 C dX10_factHere_23 (by decide) ?_ ?_
    ·
      refine j_iload_n (pc := 30) 0 C dX10_factHere_30 rfl rfl ?_
      refine j_ldcSW (pc := 31) 30 C dX10_factHere_31 rfl rfl rfl ?_
      refine j_callI0 (pc := 34) C (rR_of_v236 (by decide) C dX10_factHere_34 q_863 (by omega) (Nat.le_of_ble_eq_true rfl) ⟨Nat.le_of_ble_eq_true rfl, Nat.le_of_ble_eq_true rfl⟩) ⟨Nat.le_of_ble_eq_true rfl, Nat.le_of_ble_eq_true rfl⟩ (fun r8 T7 => ?_)
      refine j_icmp_ne (pc := 37) 44 C dX10_factHere_37 (by decide) ?_ ?_
      ·
        refine j_iload_n (pc := 44) 0 C dX10_factHere_44 rfl rfl ?_
        refine j_ldcSW (pc := 45) 31 C dX10_factHere_45 rfl rfl rfl ?_
        refine j_callI0 (pc := 48) C (rR_of_v237 (by decide) C dX10_factHere_48 q_863 (by omega) (Nat.le_of_ble_eq_true rfl) ⟨Nat.le_of_ble_eq_true rfl, Nat.le_of_ble_eq_true rfl⟩) ⟨Nat.le_of_ble_eq_true rfl, Nat.le_of_ble_eq_true rfl⟩ (fun r10 T9 => ?_)
        refine j_icmp_ne (pc := 51) 58 C dX10_factHere_51 (by decide) ?_ ?_
        ·
          refine j_iload_n (pc := 58) 0 C dX10_factHere_58 rfl rfl ?_
          refine j_ldcSW (pc := 59) 32 C dX10_factHere_59 rfl rfl rfl ?_
          refine j_callI0 (pc := 62) C (rR_of_v238 (by decide) C dX10_factHere_62 q_863 (by omega) (Nat.le_of_ble_eq_true rfl) ⟨Nat.le_of_ble_eq_true rfl, Nat.le_of_ble_eq_true rfl⟩) ⟨Nat.le_of_ble_eq_true rfl, Nat.le_of_ble_eq_true rfl⟩ (fun r12 T11 => ?_)
          refine j_icmp_ne (pc := 65) 72 C dX10_factHere_65 (by decide) ?_ ?_
          ·
            refine j_iload_n (pc := 72) 0 C dX10_factHere_72 rfl rfl ?_
            refine j_ldcSW (pc := 73) 33 C dX10_factHere_73 rfl rfl rfl ?_
            refine j_callI0 (pc := 76) C (rR_of_v239 (by decide) C dX10_factHere_76 q_863 (by omega) (Nat.le_of_ble_eq_true rfl) ⟨Nat.le_of_ble_eq_true rfl, Nat.le_of_ble_eq_true rfl⟩) ⟨Nat.le_of_ble_eq_true rfl, Nat.le_of_ble_eq_true rfl⟩ (fun r14 T13 => ?_)
            refine j_icmp_ne (pc := 79) 86 C dX10_factHere_79 (by decide) ?_ ?_
            ·
              refine j_iload_n (pc := 86) 0 C dX10_factHere_86 rfl rfl ?_
              refine j_ldcSW (pc := 87) 34 C dX10_factHere_87 rfl rfl rfl ?_
              refine j_callI0 (pc := 90) C (rR_of_v240 (by decide) C dX10_factHere_90 q_863 (by omega) (Nat.le_of_ble_eq_true rfl) ⟨Nat.le_of_ble_eq_true rfl, Nat.le_of_ble_eq_true rfl⟩) ⟨Nat.le_of_ble_eq_true rfl, Nat.le_of_ble_eq_true rfl⟩ (fun r16 T15 => ?_)
              refine j_icmp_ne (pc := 93) 101 C dX10_factHere_93 (by decide) ?_ ?_
              ·
                refine j_iload_n (pc := 101) 0 C dX10_factHere_101 rfl rfl ?_
                refine j_ldcS (pc := 102) 23 C dX10_factHere_102 rfl rfl rfl ?_
                refine j_callI0 (pc := 104) C (rR_of_v212 (by decide) C dX10_factHere_104 q_863 (by omega) (Nat.le_of_ble_eq_true rfl) ⟨Nat.le_of_ble_eq_true rfl, Nat.le_of_ble_eq_true rfl⟩) ⟨Nat.le_of_ble_eq_true rfl, Nat.le_of_ble_eq_true rfl⟩ (fun r18 T17 => ?_)
                refine j_icmp_ne (pc := 107) 115 C dX10_factHere_107 (by decide) ?_ ?_
                ·
                  refine j_iconst (pc := 115) (-1) C dX10_factHere_115 (by decide) ?_
                  exact j_iret C dX10_factHere_116 rfl (Nat.le_of_ble_eq_true rfl) (Nat.le_of_ble_eq_true rfl)
                ·
                  refine j_bipush (pc := 110) 7 C dX10_factHere_110 (by decide) ?_
                  refine j_goto (pc := 112) 116 C dX10_factHere_112 (by decide) ?_
                  exact j_iret C dX10_factHere_116 rfl (Nat.le_of_ble_eq_true rfl) (Nat.le_of_ble_eq_true rfl)
              ·
                refine j_bipush (pc := 96) 6 C dX10_factHere_96 (by decide) ?_
                refine j_goto (pc := 98) 116 C dX10_factHere_98 (by decide) ?_
                exact j_iret C dX10_factHere_116 rfl (Nat.le_of_ble_eq_true rfl) (Nat.le_of_ble_eq_true rfl)
            ·
              refine j_iconst (pc := 82) 4 C dX10_factHere_82 (by decide) ?_
              refine j_goto (pc := 83) 116 C dX10_factHere_83 (by decide) ?_
              exact j_iret C dX10_factHere_116 rfl (Nat.le_of_ble_eq_true rfl) (Nat.le_of_ble_eq_true rfl)
          ·
            refine j_iconst (pc := 68) 3 C dX10_factHere_68 (by decide) ?_
            refine j_goto (pc := 69) 116 C dX10_factHere_69 (by decide) ?_
            exact j_iret C dX10_factHere_116 rfl (Nat.le_of_ble_eq_true rfl) (Nat.le_of_ble_eq_true rfl)
        ·
          refine j_iconst (pc := 54) 2 C dX10_factHere_54 (by decide) ?_
          refine j_goto (pc := 55) 116 C dX10_factHere_55 (by decide) ?_
          exact j_iret C dX10_factHere_116 rfl (Nat.le_of_ble_eq_true rfl) (Nat.le_of_ble_eq_true rfl)
      ·
        refine j_iconst (pc := 40) 1 C dX10_factHere_40 (by decide) ?_
        refine j_goto (pc := 41) 116 C dX10_factHere_41 (by decide) ?_
        exact j_iret C dX10_factHere_116 rfl (Nat.le_of_ble_eq_true rfl) (Nat.le_of_ble_eq_true rfl)
    ·
      refine j_iconst (pc := 26) 0 C dX10_factHere_26 (by decide) ?_
      refine j_goto (pc := 27) 116 C dX10_factHere_27 (by decide) ?_
      exact j_iret C dX10_factHere_116 rfl (Nat.le_of_ble_eq_true rfl) (Nat.le_of_ble_eq_true rfl)
  ·
    refine j_iconst (pc := 9) 5 C dX10_factHere_9 (by decide) ?_
    exact j_iret C dX10_factHere_10 rfl (Nat.le_of_ble_eq_true rfl) (Nat.le_of_ble_eq_true rfl)
theorem cR_factHere {l : Launch} {G : Gc} (hfl : l.stackTraces = false) (hW : Wok G wR 26)    (S : St) : Ct l yX10_factHere (Cond.code yX10_factHere cX10_factHere 2 (some .int) :: tblG) 6 0 0 G wR 26 [.ref (gA G 0)] S (fR_factHere  S) := ct_of (own := RX10) hfl (by decide +kernel) rfl hW (Nat.le_of_ble_eq_true rfl) (fun E hE C => by subst hE; exact bR_factHere C    S)
theorem rR_factHere {E : Ec} {G : Gc} {nL mc ms : Nat} {own : String} {cc : ByteArray} {L : Nat} {ret : Option FieldType} {k n pc ix : Nat} {loc : List (Nat × Value)} {rest : List Value}   {S : St}  (C : JC E (VR G nL mc ms own) cc L ret) (hd : decode cc pc = .ok (.invokevirtual ix, 3)) (hq : Cond.methodLink own ix yX10_factHere ∈ tblG) (hL : 6 + 1 ≤ L) (hW : (rest.map fun v => v.category).sum ≤ 8) (hf : k + 0 ≤ mc ∧ n + 0 ≤ ms) : Rn E (VR G nL mc ms own) k n 0 0 pc loc (.ref (gA G 0) :: rest) rest S (fR_factHere  S) := rn_V (ci := 10) 0 (V := VR G nL mc ms own) (As := []) (Cq := (RX10, TX10, 53)) (cR_factHere C.flags C.wok   S) knX10_factHere ⟨q_932, q_933⟩ rfl rfl C hd hq hL rfl rfl hW hf

theorem knX10_opensOne : Kn yX10_opensOne cX10_opensOne 2 none 1 := ⟨q_935, q_815, by decide +kernel, by decide⟩
theorem bR_opensOne_42 {E : Ec} {G : Gc}    (C : JC E (VR G 2 0 0 RX10) cX10_opensOne 2 none)     (S : St) : J E (VR G 2 0 0 RX10) 0 0 42 [(0, .ref (gA G 0))] [] S (fR_opensOne_42   S) := by
  unfold fR_opensOne_42
  refine j_aload_n (pc := 42) 0 C dX10_opensOne_42 rfl rfl ?_
  refine j_dup (pc := 43) C dX10_opensOne_43 rfl ?_
  refine gR_0_7 (pc := 44) C dX10_opensOne_44 q_827 ?_
  refine j_iconst (pc := 47) 1 C dX10_opensOne_47 (by decide) ?_
  refine j_iadd (pc := 48) C dX10_opensOne_48 ?_
  refine pR_0_7 (pc := 49) C dX10_opensOne_49 q_827 ?_
  refine j_nxS (fun T1 => ?_)
  exact j_vret C dX10_opensOne_52 rfl (Nat.le_of_ble_eq_true rfl) (Nat.le_of_ble_eq_true rfl)
theorem bR_opensOne_25 {E : Ec} {G : Gc}    (C : JC E (VR G 2 0 0 RX10) cX10_opensOne 2 none)    (x1 : Int32) (S : St) : J E (VR G 2 0 0 RX10) 0 0 25 [(0, .ref (gA G 0)), (1, .int x1)] [] S (fR_opensOne_25  x1 S) := by
  unfold fR_opensOne_25
  refine j_aload_n (pc := 25) 0 C dX10_opensOne_25 rfl rfl ?_
  refine j_callI0 (pc := 26) C (rR_fine C dX10_opensOne_26 q_843 (by omega) (Nat.le_of_ble_eq_true rfl) ⟨Nat.le_of_ble_eq_true rfl, Nat.le_of_ble_eq_true rfl⟩) ⟨Nat.le_of_ble_eq_true rfl, Nat.le_of_ble_eq_true rfl⟩ (fun r2 T1 => ?_)
  refine j_if_eq (pc := 29) 42 C dX10_opensOne_29 (by decide) ?_ ?_
  ·
    refine j_sub [0] rfl ?_
    exact bR_opensOne_42 C   T1
  ·
    refine j_aload_n (pc := 32) 0 C dX10_opensOne_32 rfl rfl ?_
    refine j_dup (pc := 33) C dX10_opensOne_33 rfl ?_
    refine gR_0_4 (pc := 34) C dX10_opensOne_34 q_825 ?_
    refine j_iload_n (pc := 37) 1 C dX10_opensOne_37 rfl rfl ?_
    refine j_iadd (pc := 38) C dX10_opensOne_38 ?_
    refine pR_0_4 (pc := 39) C dX10_opensOne_39 q_825 ?_
    refine j_nxS (fun T3 => ?_)
    refine j_sub [0] rfl ?_
    exact bR_opensOne_42 C   T3
theorem bR_opensOne {E : Ec} {G : Gc}    (C : JC E (VR G 2 0 0 RX10) cX10_opensOne 2 none)    (x1 : Int32) (S : St) : J E (VR G 2 0 0 RX10) 0 0 0 [(0, .ref (gA G 0)), (1, .int x1)] [] S (fR_opensOne  x1 S) := by
  unfold fR_opensOne
  refine j_aload_n (pc := 0) 0 C dX10_opensOne_0 rfl rfl ?_
  refine j_callI0 (pc := 1) C (rR_fine C dX10_opensOne_1 q_843 (by omega) (Nat.le_of_ble_eq_true rfl) ⟨Nat.le_of_ble_eq_true rfl, Nat.le_of_ble_eq_true rfl⟩) ⟨Nat.le_of_ble_eq_true rfl, Nat.le_of_ble_eq_true rfl⟩ (fun r2 T1 => ?_)
  refine j_if_eq (pc := 4) 25 C dX10_opensOne_4 (by decide) ?_ ?_
  ·
    exact bR_opensOne_25 C  x1 T1
  ·
    refine j_aload_n (pc := 7) 0 C dX10_opensOne_7 rfl rfl ?_
    refine gR_0_7 (pc := 8) C dX10_opensOne_8 q_827 ?_
    refine j_bipush (pc := 11) 6 C dX10_opensOne_11 (by decide) ?_
    refine j_icmp_ne (pc := 13) 25 C dX10_opensOne_13 (by decide) ?_ ?_
    ·
      exact bR_opensOne_25 C  x1 T1
    ·
      refine j_aload_n (pc := 16) 0 C dX10_opensOne_16 rfl rfl ?_
      refine j_iconst (pc := 17) 3 C dX10_opensOne_17 (by decide) ?_
      refine j_aload_n (pc := 18) 0 C dX10_opensOne_18 rfl rfl ?_
      refine gR_0_4 (pc := 19) C dX10_opensOne_19 q_825 ?_
      refine j_callv0 (pc := 22) C (rR_wrong C dX10_opensOne_22 q_875 (by omega) (Nat.le_of_ble_eq_true rfl) ⟨Nat.le_of_ble_eq_true rfl, Nat.le_of_ble_eq_true rfl⟩) ⟨Nat.le_of_ble_eq_true rfl, Nat.le_of_ble_eq_true rfl⟩ (fun T3 => ?_)
      exact bR_opensOne_25 C  x1 T3
theorem cR_opensOne {l : Launch} {G : Gc} (hfl : l.stackTraces = false) (hW : Wok G wR 26)   (x1 : Int32) (S : St) : Ct l yX10_opensOne (Cond.code yX10_opensOne cX10_opensOne 2 none :: tblG) 2 0 0 G wR 26 [.ref (gA G 0), .int x1] S (fR_opensOne x1 S) := ct_of (own := RX10) hfl (by decide +kernel) rfl hW (Nat.le_of_ble_eq_true rfl) (fun E hE C => by subst hE; exact bR_opensOne C   x1 S)
theorem rR_opensOne {E : Ec} {G : Gc} {nL mc ms : Nat} {own : String} {cc : ByteArray} {L : Nat} {ret : Option FieldType} {k n pc ix : Nat} {loc : List (Nat × Value)} {rest : List Value}  {x1 : Int32} {S : St}  (C : JC E (VR G nL mc ms own) cc L ret) (hd : decode cc pc = .ok (.invokevirtual ix, 3)) (hq : Cond.methodLink own ix yX10_opensOne ∈ tblG) (hL : 2 + 1 ≤ L) (hW : (rest.map fun v => v.category).sum ≤ 8) (hf : k + 0 ≤ mc ∧ n + 0 ≤ ms) : Rn E (VR G nL mc ms own) k n 0 0 pc loc (.int x1 :: .ref (gA G 0) :: rest) rest S (fR_opensOne x1 S) := rn_V (ci := 10) 0 (V := VR G nL mc ms own) (As := [.int x1]) (Cq := (RX10, TX10, 53)) (cR_opensOne C.flags C.wok  x1 S) knX10_opensOne ⟨q_936, q_937⟩ rfl rfl C hd hq hL rfl rfl hW hf

theorem knX10_emit : Kn yX10_emit cX10_emit 3 none 2 := ⟨q_942, q_815, by decide +kernel, by decide⟩
theorem bR_emit {E : Ec} {G : Gc}    (C : JC E (VR G 3 0 0 RX10) cX10_emit 2 none)    (x1 : Int32) (x2 : Int32) (S : St) : J E (VR G 3 0 0 RX10) 0 0 0 [(0, .ref (gA G 0)), (1, .int x1), (2, .int x2)] [] S (fR_emit  x1 x2 S) := by
  unfold fR_emit
  refine j_aload_n (pc := 0) 0 C dX10_emit_0 rfl rfl ?_
  refine j_callI0 (pc := 1) C (rR_fine C dX10_emit_1 q_843 (by omega) (Nat.le_of_ble_eq_true rfl) ⟨Nat.le_of_ble_eq_true rfl, Nat.le_of_ble_eq_true rfl⟩) ⟨Nat.le_of_ble_eq_true rfl, Nat.le_of_ble_eq_true rfl⟩ (fun r2 T1 => ?_)
  refine j_if_ne (pc := 4) 8 C dX10_emit_4 (by decide) ?_ ?_
  ·
    refine j_aload_n (pc := 8) 0 C dX10_emit_8 rfl rfl ?_
    refine gR_0_24 (pc := 9) C dX10_emit_9 q_940 ?_
    refine j_aload_n (pc := 12) 0 C dX10_emit_12 rfl rfl ?_
    refine gR_0_29 (pc := 13) C dX10_emit_13 q_926 ?_
    refine j_iload_n (pc := 16) 1 C dX10_emit_16 rfl rfl ?_
    refine sR_9 (pc := 17) C dX10_emit_17 ?_
    refine j_nxS (fun T3 => ?_)
    refine j_aload_n (pc := 18) 0 C dX10_emit_18 rfl rfl ?_
    refine gR_0_25 (pc := 19) C dX10_emit_19 q_941 ?_
    refine j_aload_n (pc := 22) 0 C dX10_emit_22 rfl rfl ?_
    refine gR_0_29 (pc := 23) C dX10_emit_23 q_926 ?_
    refine j_iload_n (pc := 26) 2 C dX10_emit_26 rfl rfl ?_
    refine sR_10 (pc := 27) C dX10_emit_27 ?_
    refine j_nxS (fun T4 => ?_)
    refine j_aload_n (pc := 28) 0 C dX10_emit_28 rfl rfl ?_
    refine j_dup (pc := 29) C dX10_emit_29 rfl ?_
    refine gR_0_29 (pc := 30) C dX10_emit_30 q_926 ?_
    refine j_iconst (pc := 33) 1 C dX10_emit_33 (by decide) ?_
    refine j_iadd (pc := 34) C dX10_emit_34 ?_
    refine pR_0_29 (pc := 35) C dX10_emit_35 q_926 ?_
    refine j_nxS (fun T5 => ?_)
    exact j_vret C dX10_emit_38 rfl (Nat.le_of_ble_eq_true rfl) (Nat.le_of_ble_eq_true rfl)
  ·
    exact j_vret C dX10_emit_7 rfl (Nat.le_of_ble_eq_true rfl) (Nat.le_of_ble_eq_true rfl)
theorem cR_emit {l : Launch} {G : Gc} (hfl : l.stackTraces = false) (hW : Wok G wR 26)   (x1 : Int32) (x2 : Int32) (S : St) : Ct l yX10_emit (Cond.code yX10_emit cX10_emit 3 none :: tblG) 2 0 0 G wR 26 [.ref (gA G 0), .int x1, .int x2] S (fR_emit x1 x2 S) := ct_of (own := RX10) hfl (by decide +kernel) rfl hW (Nat.le_of_ble_eq_true rfl) (fun E hE C => by subst hE; exact bR_emit C   x1 x2 S)
theorem rR_emit {E : Ec} {G : Gc} {nL mc ms : Nat} {own : String} {cc : ByteArray} {L : Nat} {ret : Option FieldType} {k n pc ix : Nat} {loc : List (Nat × Value)} {rest : List Value}  {x1 : Int32} {x2 : Int32} {S : St}  (C : JC E (VR G nL mc ms own) cc L ret) (hd : decode cc pc = .ok (.invokevirtual ix, 3)) (hq : Cond.methodLink own ix yX10_emit ∈ tblG) (hL : 2 + 1 ≤ L) (hW : (rest.map fun v => v.category).sum ≤ 8) (hf : k + 0 ≤ mc ∧ n + 0 ≤ ms) : Rn E (VR G nL mc ms own) k n 0 0 pc loc (.int x2 :: .int x1 :: .ref (gA G 0) :: rest) rest S (fR_emit x1 x2 S) := rn_V (ci := 10) 0 (V := VR G nL mc ms own) (As := [.int x1, .int x2]) (Cq := (RX10, TX10, 53)) (cR_emit C.flags C.wok  x1 x2 S) knX10_emit ⟨q_943, q_944⟩ rfl rfl C hd hq hL rfl rfl hW hf

theorem knX10_readSum : Kn yX10_readSum cX10_readSum 2 none 0 := ⟨q_958, q_815, by decide +kernel, by decide⟩
theorem rgR_readSum {E : Ec} {G : Gc} {nL mc ms : Nat} {own : String} {cc : ByteArray} {L : Nat} {ret : Option FieldType} {k n pc ix : Nat} {loc : List (Nat × Value)} {rest : List Value} {rc : St → Oz} {x : Nat}  {S : St} (hrc : ∀  (S : St), Ct E.2.1 yX10_readSum (Cond.code yX10_readSum cX10_readSum 2 none :: tblG) x 0 0 G wR 26 [.ref (gA G 0)] S (rc  S)) (C : JC E (VR G nL mc ms own) cc L ret) (hd : decode cc pc = .ok (.invokevirtual ix, 3)) (hq : Cond.methodLink own ix yX10_readSum ∈ tblG) (hL : x + 1 ≤ L) (hW : (rest.map fun v => v.category).sum ≤ 8) (hf : k + 0 ≤ mc ∧ n + 0 ≤ ms) : Rn E (VR G nL mc ms own) k n 0 0 pc loc (.ref (gA G 0) :: rest) rest S (rc  S) := rn_V (V := VR G nL mc ms own) (ci := 10) 0 (As := []) (Cq := (RX10, TX10, 53)) (hrc  S) knX10_readSum ⟨q_959, q_960⟩ rfl rfl C hd hq hL rfl rfl hW hf

theorem knX10_readTwo : Kn yX10_readTwo cX10_readTwo 3 none 2 := ⟨q_946, q_815, by decide +kernel, by decide⟩
theorem bR_readTwo {E : Ec} {G : Gc} {rc : St → Oz} {x : Nat}   (C : JC E (VR G 3 0 0 RX10) cX10_readTwo (x + 1) none) (hx : 7 ≤ x) (hrc : ∀  (S : St), Ct E.2.1 yX10_readSum (Cond.code yX10_readSum cX10_readSum 2 none :: tblG) x 0 0 G wR 26 [.ref (gA G 0)] S (rc  S))   (x1 : Int32) (x2 : Int32) (S : St) : J E (VR G 3 0 0 RX10) 0 0 0 [(0, .ref (gA G 0)), (1, .int x1), (2, .int x2)] [] S (fR_readTwo rc x1 x2 S) := by
  unfold fR_readTwo
  refine j_aload_n (pc := 0) 0 C dX10_readTwo_0 rfl rfl ?_
  refine j_iload_n (pc := 1) 1 C dX10_readTwo_1 rfl rfl ?_
  refine j_callv0 (pc := 2) C (rR_opensOne C dX10_readTwo_2 q_938 (by omega) (Nat.le_of_ble_eq_true rfl) ⟨Nat.le_of_ble_eq_true rfl, Nat.le_of_ble_eq_true rfl⟩) ⟨Nat.le_of_ble_eq_true rfl, Nat.le_of_ble_eq_true rfl⟩ (fun T1 => ?_)
  refine j_aload_n (pc := 5) 0 C dX10_readTwo_5 rfl rfl ?_
  refine j_bipush (pc := 6) 91 C dX10_readTwo_6 (by decide) ?_
  refine j_callv0 (pc := 8) C (rR_sign C dX10_readTwo_8 q_922 (by omega) (Nat.le_of_ble_eq_true rfl) ⟨Nat.le_of_ble_eq_true rfl, Nat.le_of_ble_eq_true rfl⟩) ⟨Nat.le_of_ble_eq_true rfl, Nat.le_of_ble_eq_true rfl⟩ (fun T3 => ?_)
  refine j_aload_n (pc := 11) 0 C dX10_readTwo_11 rfl rfl ?_
  refine j_callv0 (pc := 12) C (rgR_readSum hrc C dX10_readTwo_12 q_939 (by omega) (Nat.le_of_ble_eq_true rfl) ⟨Nat.le_of_ble_eq_true rfl, Nat.le_of_ble_eq_true rfl⟩) ⟨Nat.le_of_ble_eq_true rfl, Nat.le_of_ble_eq_true rfl⟩ (fun T5 => ?_)
  refine j_aload_n (pc := 15) 0 C dX10_readTwo_15 rfl rfl ?_
  refine j_bipush (pc := 16) 44 C dX10_readTwo_16 (by decide) ?_
  refine j_callv0 (pc := 18) C (rR_sign C dX10_readTwo_18 q_922 (by omega) (Nat.le_of_ble_eq_true rfl) ⟨Nat.le_of_ble_eq_true rfl, Nat.le_of_ble_eq_true rfl⟩) ⟨Nat.le_of_ble_eq_true rfl, Nat.le_of_ble_eq_true rfl⟩ (fun T7 => ?_)
  refine j_aload_n (pc := 21) 0 C dX10_readTwo_21 rfl rfl ?_
  refine j_callv0 (pc := 22) C (rgR_readSum hrc C dX10_readTwo_22 q_939 (by omega) (Nat.le_of_ble_eq_true rfl) ⟨Nat.le_of_ble_eq_true rfl, Nat.le_of_ble_eq_true rfl⟩) ⟨Nat.le_of_ble_eq_true rfl, Nat.le_of_ble_eq_true rfl⟩ (fun T9 => ?_)
  refine j_aload_n (pc := 25) 0 C dX10_readTwo_25 rfl rfl ?_
  refine j_bipush (pc := 26) 93 C dX10_readTwo_26 (by decide) ?_
  refine j_callv0 (pc := 28) C (rR_sign C dX10_readTwo_28 q_922 (by omega) (Nat.le_of_ble_eq_true rfl) ⟨Nat.le_of_ble_eq_true rfl, Nat.le_of_ble_eq_true rfl⟩) ⟨Nat.le_of_ble_eq_true rfl, Nat.le_of_ble_eq_true rfl⟩ (fun T11 => ?_)
  refine j_aload_n (pc := 31) 0 C dX10_readTwo_31 rfl rfl ?_
  refine j_dup (pc := 32) C dX10_readTwo_32 rfl ?_
  refine gR_0_7 (pc := 33) C dX10_readTwo_33 q_827 ?_
  refine j_iconst (pc := 36) 1 C dX10_readTwo_36 (by decide) ?_
  refine j_isub (pc := 37) C dX10_readTwo_37 ?_
  refine pR_0_7 (pc := 38) C dX10_readTwo_38 q_827 ?_
  refine j_nxS (fun T13 => ?_)
  refine j_aload_n (pc := 41) 0 C dX10_readTwo_41 rfl rfl ?_
  refine j_iload_n (pc := 42) 2 C dX10_readTwo_42 rfl rfl ?_
  refine j_iconst (pc := 43) 0 C dX10_readTwo_43 (by decide) ?_
  refine j_callv0 (pc := 44) C (rR_emit C dX10_readTwo_44 q_945 (by omega) (Nat.le_of_ble_eq_true rfl) ⟨Nat.le_of_ble_eq_true rfl, Nat.le_of_ble_eq_true rfl⟩) ⟨Nat.le_of_ble_eq_true rfl, Nat.le_of_ble_eq_true rfl⟩ (fun T14 => ?_)
  exact j_vret C dX10_readTwo_47 rfl (Nat.le_of_ble_eq_true rfl) (Nat.le_of_ble_eq_true rfl)
theorem cR_readTwo {l : Launch} {G : Gc} (hfl : l.stackTraces = false) (hW : Wok G wR 26) {rc : St → Oz} {x : Nat} (hx : 7 ≤ x) (hrc : ∀  (S : St), Ct l yX10_readSum (Cond.code yX10_readSum cX10_readSum 2 none :: tblG) x 0 0 G wR 26 [.ref (gA G 0)] S (rc  S)) (x1 : Int32) (x2 : Int32) (S : St) : Ct l yX10_readTwo (Cond.code yX10_readTwo cX10_readTwo 3 none :: tblG) (x + 1) 0 0 G wR 26 [.ref (gA G 0), .int x1, .int x2] S (fR_readTwo rc x1 x2 S) := ct_of (own := RX10) hfl (by decide +kernel) rfl hW (Nat.le_of_ble_eq_true rfl) (fun E hE C => by subst hE; exact bR_readTwo C hx hrc  x1 x2 S)
theorem rR_readTwo {E : Ec} {G : Gc} {nL mc ms : Nat} {own : String} {cc : ByteArray} {L : Nat} {ret : Option FieldType} {k n pc ix : Nat} {loc : List (Nat × Value)} {rest : List Value} {rc : St → Oz} {x : Nat} {x1 : Int32} {x2 : Int32} {S : St} (hx : 7 ≤ x) (hrc : ∀  (S : St), Ct E.2.1 yX10_readSum (Cond.code yX10_readSum cX10_readSum 2 none :: tblG) x 0 0 G wR 26 [.ref (gA G 0)] S (rc  S)) (C : JC E (VR G nL mc ms own) cc L ret) (hd : decode cc pc = .ok (.invokevirtual ix, 3)) (hq : Cond.methodLink own ix yX10_readTwo ∈ tblG) (hL : (x + 1) + 1 ≤ L) (hW : (rest.map fun v => v.category).sum ≤ 8) (hf : k + 0 ≤ mc ∧ n + 0 ≤ ms) : Rn E (VR G nL mc ms own) k n 0 0 pc loc (.int x2 :: .int x1 :: .ref (gA G 0) :: rest) rest S (fR_readTwo rc x1 x2 S) := rn_V (ci := 10) 0 (V := VR G nL mc ms own) (As := [.int x1, .int x2]) (Cq := (RX10, TX10, 53)) (cR_readTwo C.flags C.wok hx hrc x1 x2 S) knX10_readTwo ⟨q_947, q_948⟩ rfl rfl C hd hq hL rfl rfl hW hf

theorem knX10_readUnit : Kn yX10_readUnit cX10_readUnit 2 none 0 := ⟨q_950, q_815, by decide +kernel, by decide⟩
theorem bR_readUnit_136 {E : Ec} {G : Gc} {rc : St → Oz} {x : Nat}   (C : JC E (VR G 2 0 0 RX10) cX10_readUnit (x + 2) none) (hx : 7 ≤ x) (hrc : ∀  (S : St), Ct E.2.1 yX10_readSum (Cond.code yX10_readSum cX10_readSum 2 none :: tblG) x 0 0 G wR 26 [.ref (gA G 0)] S (rc  S))   (x1 : Int32) (S : St) : J E (VR G 2 0 0 RX10) 0 0 136 [(0, .ref (gA G 0)), (1, .int x1)] [] S (fR_readUnit_136 rc x1 S) := by
  unfold fR_readUnit_136
  refine j_aload_n (pc := 136) 0 C dX10_readUnit_136 rfl rfl ?_
  refine j_callI0 (pc := 137) C (rR_fine C dX10_readUnit_137 q_843 (by omega) (Nat.le_of_ble_eq_true rfl) ⟨Nat.le_of_ble_eq_true rfl, Nat.le_of_ble_eq_true rfl⟩) ⟨Nat.le_of_ble_eq_true rfl, Nat.le_of_ble_eq_true rfl⟩ (fun r2 T1 => ?_)
  refine j_if_ne (pc := 140) 144 C dX10_readUnit_140 (by decide) ?_ ?_
  ·
    refine j_aload_n (pc := 144) 0 C dX10_readUnit_144 rfl rfl ?_
    refine j_callv0 (pc := 145) C (rR_pass C dX10_readUnit_145 q_907 (by omega) (Nat.le_of_ble_eq_true rfl) ⟨Nat.le_of_ble_eq_true rfl, Nat.le_of_ble_eq_true rfl⟩) ⟨Nat.le_of_ble_eq_true rfl, Nat.le_of_ble_eq_true rfl⟩ (fun T3 => ?_)
    refine j_aload_n (pc := 148) 0 C dX10_readUnit_148 rfl rfl ?_
    refine j_iconst (pc := 149) 1 C dX10_readUnit_149 (by decide) ?_
    refine j_iload_n (pc := 150) 1 C dX10_readUnit_150 rfl rfl ?_
    refine j_callv0 (pc := 151) C (rR_emit C dX10_readUnit_151 q_945 (by omega) (Nat.le_of_ble_eq_true rfl) ⟨Nat.le_of_ble_eq_true rfl, Nat.le_of_ble_eq_true rfl⟩) ⟨Nat.le_of_ble_eq_true rfl, Nat.le_of_ble_eq_true rfl⟩ (fun T5 => ?_)
    exact j_vret C dX10_readUnit_154 rfl (Nat.le_of_ble_eq_true rfl) (Nat.le_of_ble_eq_true rfl)
  ·
    exact j_vret C dX10_readUnit_143 rfl (Nat.le_of_ble_eq_true rfl) (Nat.le_of_ble_eq_true rfl)
theorem bR_readUnit {E : Ec} {G : Gc} {rc : St → Oz} {x : Nat}   (C : JC E (VR G 2 0 0 RX10) cX10_readUnit (x + 2) none) (hx : 7 ≤ x) (hrc : ∀  (S : St), Ct E.2.1 yX10_readSum (Cond.code yX10_readSum cX10_readSum 2 none :: tblG) x 0 0 G wR 26 [.ref (gA G 0)] S (rc  S))    (S : St) : J E (VR G 2 0 0 RX10) 0 0 0 [(0, .ref (gA G 0))] [] S (fR_readUnit rc  S) := by
  unfold fR_readUnit
  refine j_aload_n (pc := 0) 0 C dX10_readUnit_0 rfl rfl ?_
  refine j_callI0 (pc := 1) C (rR_fine C dX10_readUnit_1 q_843 (by omega) (Nat.le_of_ble_eq_true rfl) ⟨Nat.le_of_ble_eq_true rfl, Nat.le_of_ble_eq_true rfl⟩) ⟨Nat.le_of_ble_eq_true rfl, Nat.le_of_ble_eq_true rfl⟩ (fun r2 T1 => ?_)
  refine j_if_ne (pc := 4) 8 C dX10_readUnit_4 (by decide) ?_ ?_
  ·
    refine j_aload_n (pc := 8) 0 C dX10_readUnit_8 rfl rfl ?_
    refine j_callI0 (pc := 9) C (rR_here C dX10_readUnit_9 q_847 (by omega) (Nat.le_of_ble_eq_true rfl) ⟨Nat.le_of_ble_eq_true rfl, Nat.le_of_ble_eq_true rfl⟩) ⟨Nat.le_of_ble_eq_true rfl, Nat.le_of_ble_eq_true rfl⟩ (fun r4 T3 => ?_)
    refine j_bipush (pc := 12) 40 C dX10_readUnit_12 (by decide) ?_
    refine j_icmp_ne (pc := 14) 45 C dX10_readUnit_14 (by decide) ?_ ?_
    ·
      refine j_aload_n (pc := 45) 0 C dX10_readUnit_45 rfl rfl ?_
      refine j_callI0 (pc := 46) C (rR_here C dX10_readUnit_46 q_847 (by omega) (Nat.le_of_ble_eq_true rfl) ⟨Nat.le_of_ble_eq_true rfl, Nat.le_of_ble_eq_true rfl⟩) ⟨Nat.le_of_ble_eq_true rfl, Nat.le_of_ble_eq_true rfl⟩ (fun r6 T5 => ?_)
      refine j_callI0 (pc := 49) C (rR_isDigit C dX10_readUnit_49 q_910 (by omega) (Nat.le_of_ble_eq_true rfl) ⟨Nat.le_of_ble_eq_true rfl, Nat.le_of_ble_eq_true rfl⟩) ⟨Nat.le_of_ble_eq_true rfl, Nat.le_of_ble_eq_true rfl⟩ (fun r8 T7 => ?_)
      refine j_if_eq (pc := 52) 71 C dX10_readUnit_52 (by decide) ?_ ?_
      ·
        refine j_aload_n (pc := 71) 0 C dX10_readUnit_71 rfl rfl ?_
        refine j_callI0 (pc := 72) C (rR_word C dX10_readUnit_72 q_858 (by omega) (Nat.le_of_ble_eq_true rfl) ⟨Nat.le_of_ble_eq_true rfl, Nat.le_of_ble_eq_true rfl⟩) ⟨Nat.le_of_ble_eq_true rfl, Nat.le_of_ble_eq_true rfl⟩ (fun r10 T9 => ?_)
        refine j_ldcSW (pc := 75) 26 C dX10_readUnit_75 rfl rfl rfl ?_
        refine j_callI0 (pc := 78) C (rR_of_v231 (by decide) C dX10_readUnit_78 q_863 (by omega) (Nat.le_of_ble_eq_true rfl) ⟨Nat.le_of_ble_eq_true rfl, Nat.le_of_ble_eq_true rfl⟩) ⟨Nat.le_of_ble_eq_true rfl, Nat.le_of_ble_eq_true rfl⟩ (fun r12 T11 => ?_)
        refine j_icmp_ne (pc := 81) 94 C dX10_readUnit_81 (by decide) ?_ ?_
        ·
          refine j_aload_n (pc := 94) 0 C dX10_readUnit_94 rfl rfl ?_
          refine j_callI0 (pc := 95) C (rR_word C dX10_readUnit_95 q_858 (by omega) (Nat.le_of_ble_eq_true rfl) ⟨Nat.le_of_ble_eq_true rfl, Nat.le_of_ble_eq_true rfl⟩) ⟨Nat.le_of_ble_eq_true rfl, Nat.le_of_ble_eq_true rfl⟩ (fun r14 T13 => ?_)
          refine j_ldcSW (pc := 98) 27 C dX10_readUnit_98 rfl rfl rfl ?_
          refine j_callI0 (pc := 101) C (rR_of_v232 (by decide) C dX10_readUnit_101 q_863 (by omega) (Nat.le_of_ble_eq_true rfl) ⟨Nat.le_of_ble_eq_true rfl, Nat.le_of_ble_eq_true rfl⟩) ⟨Nat.le_of_ble_eq_true rfl, Nat.le_of_ble_eq_true rfl⟩ (fun r16 T15 => ?_)
          refine j_icmp_ne (pc := 104) 117 C dX10_readUnit_104 (by decide) ?_ ?_
          ·
            refine j_aload_n (pc := 117) 0 C dX10_readUnit_117 rfl rfl ?_
            refine j_callI0 (pc := 118) C (rR_factHere C dX10_readUnit_118 q_934 (by omega) (Nat.le_of_ble_eq_true rfl) ⟨Nat.le_of_ble_eq_true rfl, Nat.le_of_ble_eq_true rfl⟩) ⟨Nat.le_of_ble_eq_true rfl, Nat.le_of_ble_eq_true rfl⟩ (fun r18 T17 => ?_)
            refine j_istore_n (pc := 121) [(1, .int r18), (0, .ref (gA G 0))] C dX10_readUnit_121 rfl (Nat.le_of_ble_eq_true rfl) rfl ?_
            refine j_iload_n (pc := 122) 0 C dX10_readUnit_122 rfl rfl ?_
            refine j_iconst (pc := 123) (-1) C dX10_readUnit_123 (by decide) ?_
            refine j_icmp_ne (pc := 124) 136 C dX10_readUnit_124 (by decide) ?_ ?_
            ·
              refine j_sub [1, 0] rfl ?_
              exact bR_readUnit_136 C hx hrc r18 T17
            ·
              refine j_aload_n (pc := 127) 1 C dX10_readUnit_127 rfl rfl ?_
              refine j_iconst (pc := 128) 1 C dX10_readUnit_128 (by decide) ?_
              refine j_aload_n (pc := 129) 1 C dX10_readUnit_129 rfl rfl ?_
              refine gR_0_4 (pc := 130) C dX10_readUnit_130 q_825 ?_
              refine j_callv0 (pc := 133) C (rR_wrong C dX10_readUnit_133 q_875 (by omega) (Nat.le_of_ble_eq_true rfl) ⟨Nat.le_of_ble_eq_true rfl, Nat.le_of_ble_eq_true rfl⟩) ⟨Nat.le_of_ble_eq_true rfl, Nat.le_of_ble_eq_true rfl⟩ (fun T19 => ?_)
              refine j_sub [1, 0] rfl ?_
              exact bR_readUnit_136 C hx hrc r18 T19
          ·
            refine j_aload_n (pc := 107) 0 C dX10_readUnit_107 rfl rfl ?_
            refine j_iconst (pc := 108) 4 C dX10_readUnit_108 (by decide) ?_
            refine j_bipush (pc := 109) 7 C dX10_readUnit_109 (by decide) ?_
            refine j_callv0 (pc := 111) C (rR_readTwo hx hrc C dX10_readUnit_111 q_949 (by omega) (Nat.le_of_ble_eq_true rfl) ⟨Nat.le_of_ble_eq_true rfl, Nat.le_of_ble_eq_true rfl⟩) ⟨Nat.le_of_ble_eq_true rfl, Nat.le_of_ble_eq_true rfl⟩ (fun T21 => ?_)
            refine j_goto (pc := 114) 154 C dX10_readUnit_114 (by decide) ?_
            exact j_vret C dX10_readUnit_154 rfl (Nat.le_of_ble_eq_true rfl) (Nat.le_of_ble_eq_true rfl)
        ·
          refine j_aload_n (pc := 84) 0 C dX10_readUnit_84 rfl rfl ?_
          refine j_iconst (pc := 85) 5 C dX10_readUnit_85 (by decide) ?_
          refine j_bipush (pc := 86) 6 C dX10_readUnit_86 (by decide) ?_
          refine j_callv0 (pc := 88) C (rR_readTwo hx hrc C dX10_readUnit_88 q_949 (by omega) (Nat.le_of_ble_eq_true rfl) ⟨Nat.le_of_ble_eq_true rfl, Nat.le_of_ble_eq_true rfl⟩) ⟨Nat.le_of_ble_eq_true rfl, Nat.le_of_ble_eq_true rfl⟩ (fun T23 => ?_)
          refine j_goto (pc := 91) 154 C dX10_readUnit_91 (by decide) ?_
          exact j_vret C dX10_readUnit_154 rfl (Nat.le_of_ble_eq_true rfl) (Nat.le_of_ble_eq_true rfl)
      ·
        refine j_aload_n (pc := 55) 0 C dX10_readUnit_55 rfl rfl ?_
        refine j_iconst (pc := 56) 0 C dX10_readUnit_56 (by decide) ?_
        refine j_aload_n (pc := 57) 0 C dX10_readUnit_57 rfl rfl ?_
        refine j_iconst (pc := 58) 0 C dX10_readUnit_58 (by decide) ?_
        refine j_sipush (pc := 59) 999 C dX10_readUnit_59 (by decide) ?_
        refine j_callI0 (pc := 62) C (rR_readNumber C dX10_readUnit_62 q_914 (by omega) (Nat.le_of_ble_eq_true rfl) ⟨Nat.le_of_ble_eq_true rfl, Nat.le_of_ble_eq_true rfl⟩) ⟨Nat.le_of_ble_eq_true rfl, Nat.le_of_ble_eq_true rfl⟩ (fun r26 T25 => ?_)
        refine j_callv0 (pc := 65) C (rR_emit C dX10_readUnit_65 q_945 (by omega) (Nat.le_of_ble_eq_true rfl) ⟨Nat.le_of_ble_eq_true rfl, Nat.le_of_ble_eq_true rfl⟩) ⟨Nat.le_of_ble_eq_true rfl, Nat.le_of_ble_eq_true rfl⟩ (fun T27 => ?_)
        refine j_goto (pc := 68) 154 C dX10_readUnit_68 (by decide) ?_
        exact j_vret C dX10_readUnit_154 rfl (Nat.le_of_ble_eq_true rfl) (Nat.le_of_ble_eq_true rfl)
    ·
      refine j_aload_n (pc := 17) 0 C dX10_readUnit_17 rfl rfl ?_
      refine j_iconst (pc := 18) 1 C dX10_readUnit_18 (by decide) ?_
      refine j_callv0 (pc := 19) C (rR_opensOne C dX10_readUnit_19 q_938 (by omega) (Nat.le_of_ble_eq_true rfl) ⟨Nat.le_of_ble_eq_true rfl, Nat.le_of_ble_eq_true rfl⟩) ⟨Nat.le_of_ble_eq_true rfl, Nat.le_of_ble_eq_true rfl⟩ (fun T29 => ?_)
      refine j_aload_n (pc := 22) 0 C dX10_readUnit_22 rfl rfl ?_
      refine j_callv0 (pc := 23) C (rgR_readSum hrc C dX10_readUnit_23 q_939 (by omega) (Nat.le_of_ble_eq_true rfl) ⟨Nat.le_of_ble_eq_true rfl, Nat.le_of_ble_eq_true rfl⟩) ⟨Nat.le_of_ble_eq_true rfl, Nat.le_of_ble_eq_true rfl⟩ (fun T31 => ?_)
      refine j_aload_n (pc := 26) 0 C dX10_readUnit_26 rfl rfl ?_
      refine j_bipush (pc := 27) 41 C dX10_readUnit_27 (by decide) ?_
      refine j_callv0 (pc := 29) C (rR_sign C dX10_readUnit_29 q_922 (by omega) (Nat.le_of_ble_eq_true rfl) ⟨Nat.le_of_ble_eq_true rfl, Nat.le_of_ble_eq_true rfl⟩) ⟨Nat.le_of_ble_eq_true rfl, Nat.le_of_ble_eq_true rfl⟩ (fun T33 => ?_)
      refine j_aload_n (pc := 32) 0 C dX10_readUnit_32 rfl rfl ?_
      refine j_dup (pc := 33) C dX10_readUnit_33 rfl ?_
      refine gR_0_7 (pc := 34) C dX10_readUnit_34 q_827 ?_
      refine j_iconst (pc := 37) 1 C dX10_readUnit_37 (by decide) ?_
      refine j_isub (pc := 38) C dX10_readUnit_38 ?_
      refine pR_0_7 (pc := 39) C dX10_readUnit_39 q_827 ?_
      refine j_nxS (fun T35 => ?_)
      refine j_goto (pc := 42) 154 C dX10_readUnit_42 (by decide) ?_
      exact j_vret C dX10_readUnit_154 rfl (Nat.le_of_ble_eq_true rfl) (Nat.le_of_ble_eq_true rfl)
  ·
    exact j_vret C dX10_readUnit_7 rfl (Nat.le_of_ble_eq_true rfl) (Nat.le_of_ble_eq_true rfl)
theorem cR_readUnit {l : Launch} {G : Gc} (hfl : l.stackTraces = false) (hW : Wok G wR 26) {rc : St → Oz} {x : Nat} (hx : 7 ≤ x) (hrc : ∀  (S : St), Ct l yX10_readSum (Cond.code yX10_readSum cX10_readSum 2 none :: tblG) x 0 0 G wR 26 [.ref (gA G 0)] S (rc  S))  (S : St) : Ct l yX10_readUnit (Cond.code yX10_readUnit cX10_readUnit 2 none :: tblG) (x + 2) 0 0 G wR 26 [.ref (gA G 0)] S (fR_readUnit rc  S) := ct_of (own := RX10) hfl (by decide +kernel) rfl hW (Nat.le_of_ble_eq_true rfl) (fun E hE C => by subst hE; exact bR_readUnit C hx hrc   S)
theorem rR_readUnit {E : Ec} {G : Gc} {nL mc ms : Nat} {own : String} {cc : ByteArray} {L : Nat} {ret : Option FieldType} {k n pc ix : Nat} {loc : List (Nat × Value)} {rest : List Value} {rc : St → Oz} {x : Nat}  {S : St} (hx : 7 ≤ x) (hrc : ∀  (S : St), Ct E.2.1 yX10_readSum (Cond.code yX10_readSum cX10_readSum 2 none :: tblG) x 0 0 G wR 26 [.ref (gA G 0)] S (rc  S)) (C : JC E (VR G nL mc ms own) cc L ret) (hd : decode cc pc = .ok (.invokevirtual ix, 3)) (hq : Cond.methodLink own ix yX10_readUnit ∈ tblG) (hL : (x + 2) + 1 ≤ L) (hW : (rest.map fun v => v.category).sum ≤ 8) (hf : k + 0 ≤ mc ∧ n + 0 ≤ ms) : Rn E (VR G nL mc ms own) k n 0 0 pc loc (.ref (gA G 0) :: rest) rest S (fR_readUnit rc  S) := rn_V (ci := 10) 0 (V := VR G nL mc ms own) (As := []) (Cq := (RX10, TX10, 53)) (cR_readUnit C.flags C.wok hx hrc  S) knX10_readUnit ⟨q_951, q_952⟩ rfl rfl C hd hq hL rfl rfl hW hf

theorem knX10_readProduct : Kn yX10_readProduct cX10_readProduct 2 none 0 := ⟨q_954, q_815, by decide +kernel, by decide⟩
theorem bR_readProduct_66 {E : Ec} {G : Gc} {rc : St → Oz} {x : Nat}  {K4 : St → Oz} (C : JC E (VR G 2 0 0 RX10) cX10_readProduct (x + 3) none) (hx : 7 ≤ x) (hrc : ∀  (S : St), Ct E.2.1 yX10_readSum (Cond.code yX10_readSum cX10_readSum 2 none :: tblG) x 0 0 G wR 26 [.ref (gA G 0)] S (rc  S))  (hK4 : ∀  (S : St), J E (VR G 2 0 0 RX10) 0 0 4 [(0, .ref (gA G 0))] [] S (K4  S)) (s0 : Int32) (S : St) : J E (VR G 2 0 0 RX10) 0 0 66 [(0, .ref (gA G 0))] [.int s0] S (fR_readProduct_66 rc K4 s0 S) := by
  unfold fR_readProduct_66
  refine j_istore_n (pc := 66) [(1, .int s0), (0, .ref (gA G 0))] C dX10_readProduct_66 rfl (Nat.le_of_ble_eq_true rfl) rfl ?_
  refine j_aload_n (pc := 67) 1 C dX10_readProduct_67 rfl rfl ?_
  refine j_dup (pc := 68) C dX10_readProduct_68 rfl ?_
  refine gR_0_4 (pc := 69) C dX10_readProduct_69 q_825 ?_
  refine j_iconst (pc := 72) 1 C dX10_readProduct_72 (by decide) ?_
  refine j_iadd (pc := 73) C dX10_readProduct_73 ?_
  refine pR_0_4 (pc := 74) C dX10_readProduct_74 q_825 ?_
  refine j_nxS (fun T1 => ?_)
  refine j_aload_n (pc := 77) 1 C dX10_readProduct_77 rfl rfl ?_
  refine j_callv0 (pc := 78) C (rR_readUnit hx hrc C dX10_readProduct_78 q_953 (by omega) (Nat.le_of_ble_eq_true rfl) ⟨Nat.le_of_ble_eq_true rfl, Nat.le_of_ble_eq_true rfl⟩) ⟨Nat.le_of_ble_eq_true rfl, Nat.le_of_ble_eq_true rfl⟩ (fun T2 => ?_)
  refine j_aload_n (pc := 81) 1 C dX10_readProduct_81 rfl rfl ?_
  refine j_iload_n (pc := 82) 0 C dX10_readProduct_82 rfl rfl ?_
  refine j_iconst (pc := 83) 0 C dX10_readProduct_83 (by decide) ?_
  refine j_callv0 (pc := 84) C (rR_emit C dX10_readProduct_84 q_945 (by omega) (Nat.le_of_ble_eq_true rfl) ⟨Nat.le_of_ble_eq_true rfl, Nat.le_of_ble_eq_true rfl⟩) ⟨Nat.le_of_ble_eq_true rfl, Nat.le_of_ble_eq_true rfl⟩ (fun T4 => ?_)
  refine j_goto (pc := 87) 4 C dX10_readProduct_87 (by decide) ?_
  refine j_sub [1] rfl ?_
  exact hK4  T4
theorem bR_readProduct_38 {E : Ec} {G : Gc} {rc : St → Oz} {x : Nat}  {K4 : St → Oz} (C : JC E (VR G 2 0 0 RX10) cX10_readProduct (x + 3) none) (hx : 7 ≤ x) (hrc : ∀  (S : St), Ct E.2.1 yX10_readSum (Cond.code yX10_readSum cX10_readSum 2 none :: tblG) x 0 0 G wR 26 [.ref (gA G 0)] S (rc  S))  (hK4 : ∀  (S : St), J E (VR G 2 0 0 RX10) 0 0 4 [(0, .ref (gA G 0))] [] S (K4  S))  (S : St) : J E (VR G 2 0 0 RX10) 0 0 38 [(0, .ref (gA G 0))] [] S (fR_readProduct_38 rc K4  S) := by
  unfold fR_readProduct_38
  refine j_aload_n (pc := 38) 0 C dX10_readProduct_38 rfl rfl ?_
  refine j_callI0 (pc := 39) C (rR_here C dX10_readProduct_39 q_847 (by omega) (Nat.le_of_ble_eq_true rfl) ⟨Nat.le_of_ble_eq_true rfl, Nat.le_of_ble_eq_true rfl⟩) ⟨Nat.le_of_ble_eq_true rfl, Nat.le_of_ble_eq_true rfl⟩ (fun r2 T1 => ?_)
  refine j_bipush (pc := 42) 42 C dX10_readProduct_42 (by decide) ?_
  refine j_icmp_ne (pc := 44) 51 C dX10_readProduct_44 (by decide) ?_ ?_
  ·
    refine j_aload_n (pc := 51) 0 C dX10_readProduct_51 rfl rfl ?_
    refine j_callI0 (pc := 52) C (rR_here C dX10_readProduct_52 q_847 (by omega) (Nat.le_of_ble_eq_true rfl) ⟨Nat.le_of_ble_eq_true rfl, Nat.le_of_ble_eq_true rfl⟩) ⟨Nat.le_of_ble_eq_true rfl, Nat.le_of_ble_eq_true rfl⟩ (fun r4 T3 => ?_)
    refine j_bipush (pc := 55) 47 C dX10_readProduct_55 (by decide) ?_
    refine j_icmp_ne (pc := 57) 64 C dX10_readProduct_57 (by decide) ?_ ?_
    ·
      refine j_bipush (pc := 64) 8 C dX10_readProduct_64 (by decide) ?_
      exact bR_readProduct_66 C hx hrc hK4 8 T3
    ·
      refine j_iconst (pc := 60) 5 C dX10_readProduct_60 (by decide) ?_
      refine j_goto (pc := 61) 66 C dX10_readProduct_61 (by decide) ?_
      exact bR_readProduct_66 C hx hrc hK4 5 T3
  ·
    refine j_iconst (pc := 47) 4 C dX10_readProduct_47 (by decide) ?_
    refine j_goto (pc := 48) 66 C dX10_readProduct_48 (by decide) ?_
    exact bR_readProduct_66 C hx hrc hK4 4 T1
theorem bR_readProduct_4 {E : Ec} {G : Gc} {rc : St → Oz} {x : Nat}   (C : JC E (VR G 2 0 0 RX10) cX10_readProduct (x + 3) none) (hx : 7 ≤ x) (hrc : ∀  (S : St), Ct E.2.1 yX10_readSum (Cond.code yX10_readSum cX10_readSum 2 none :: tblG) x 0 0 G wR 26 [.ref (gA G 0)] S (rc  S))   : ∀ (n : Nat)  (S : St), J E (VR G 2 0 0 RX10) 0 0 4 [(0, .ref (gA G 0))] [] S (fR_readProduct_4 rc n  S) := by
  intro n
  induction n with
  | zero => intro  S; rw [fR_readProduct_4]; exact j_none
  | succ n ih =>
    intro  S
    rw [fR_readProduct_4]
    refine j_aload_n (pc := 4) 0 C dX10_readProduct_4 rfl rfl ?_
    refine j_callI0 (pc := 5) C (rR_fine C dX10_readProduct_5 q_843 (by omega) (Nat.le_of_ble_eq_true rfl) ⟨Nat.le_of_ble_eq_true rfl, Nat.le_of_ble_eq_true rfl⟩) ⟨Nat.le_of_ble_eq_true rfl, Nat.le_of_ble_eq_true rfl⟩ (fun r2 T1 => ?_)
    refine j_if_eq (pc := 8) 90 C dX10_readProduct_8 (by decide) ?_ ?_
    ·
      exact j_vret C dX10_readProduct_90 rfl (Nat.le_of_ble_eq_true rfl) (Nat.le_of_ble_eq_true rfl)
    ·
      refine j_aload_n (pc := 11) 0 C dX10_readProduct_11 rfl rfl ?_
      refine j_callI0 (pc := 12) C (rR_here C dX10_readProduct_12 q_847 (by omega) (Nat.le_of_ble_eq_true rfl) ⟨Nat.le_of_ble_eq_true rfl, Nat.le_of_ble_eq_true rfl⟩) ⟨Nat.le_of_ble_eq_true rfl, Nat.le_of_ble_eq_true rfl⟩ (fun r4 T3 => ?_)
      refine j_bipush (pc := 15) 42 C dX10_readProduct_15 (by decide) ?_
      refine j_icmp_eq (pc := 17) 38 C dX10_readProduct_17 (by decide) ?_ ?_
      ·
        exact bR_readProduct_38 C hx hrc ih  T3
      ·
        refine j_aload_n (pc := 20) 0 C dX10_readProduct_20 rfl rfl ?_
        refine j_callI0 (pc := 21) C (rR_here C dX10_readProduct_21 q_847 (by omega) (Nat.le_of_ble_eq_true rfl) ⟨Nat.le_of_ble_eq_true rfl, Nat.le_of_ble_eq_true rfl⟩) ⟨Nat.le_of_ble_eq_true rfl, Nat.le_of_ble_eq_true rfl⟩ (fun r6 T5 => ?_)
        refine j_bipush (pc := 24) 47 C dX10_readProduct_24 (by decide) ?_
        refine j_icmp_eq (pc := 26) 38 C dX10_readProduct_26 (by decide) ?_ ?_
        ·
          exact bR_readProduct_38 C hx hrc ih  T5
        ·
          refine j_aload_n (pc := 29) 0 C dX10_readProduct_29 rfl rfl ?_
          refine j_callI0 (pc := 30) C (rR_here C dX10_readProduct_30 q_847 (by omega) (Nat.le_of_ble_eq_true rfl) ⟨Nat.le_of_ble_eq_true rfl, Nat.le_of_ble_eq_true rfl⟩) ⟨Nat.le_of_ble_eq_true rfl, Nat.le_of_ble_eq_true rfl⟩ (fun r8 T7 => ?_)
          refine j_bipush (pc := 33) 37 C dX10_readProduct_33 (by decide) ?_
          refine j_icmp_ne (pc := 35) 90 C dX10_readProduct_35 (by decide) ?_ ?_
          ·
            exact j_vret C dX10_readProduct_90 rfl (Nat.le_of_ble_eq_true rfl) (Nat.le_of_ble_eq_true rfl)
          ·
            exact bR_readProduct_38 C hx hrc ih  T7
theorem bR_readProduct {E : Ec} {G : Gc} {rc : St → Oz} {x : Nat}   (C : JC E (VR G 2 0 0 RX10) cX10_readProduct (x + 3) none) (hx : 7 ≤ x) (hrc : ∀  (S : St), Ct E.2.1 yX10_readSum (Cond.code yX10_readSum cX10_readSum 2 none :: tblG) x 0 0 G wR 26 [.ref (gA G 0)] S (rc  S))    (S : St) : J E (VR G 2 0 0 RX10) 0 0 0 [(0, .ref (gA G 0))] [] S (fR_readProduct rc  S) := by
  unfold fR_readProduct
  refine j_aload_n (pc := 0) 0 C dX10_readProduct_0 rfl rfl ?_
  refine j_callv0 (pc := 1) C (rR_readUnit hx hrc C dX10_readProduct_1 q_953 (by omega) (Nat.le_of_ble_eq_true rfl) ⟨Nat.le_of_ble_eq_true rfl, Nat.le_of_ble_eq_true rfl⟩) ⟨Nat.le_of_ble_eq_true rfl, Nat.le_of_ble_eq_true rfl⟩ (fun T1 => ?_)
  exact bR_readProduct_4 C hx hrc FU  T1
theorem cR_readProduct {l : Launch} {G : Gc} (hfl : l.stackTraces = false) (hW : Wok G wR 26) {rc : St → Oz} {x : Nat} (hx : 7 ≤ x) (hrc : ∀  (S : St), Ct l yX10_readSum (Cond.code yX10_readSum cX10_readSum 2 none :: tblG) x 0 0 G wR 26 [.ref (gA G 0)] S (rc  S))  (S : St) : Ct l yX10_readProduct (Cond.code yX10_readProduct cX10_readProduct 2 none :: tblG) (x + 3) 0 0 G wR 26 [.ref (gA G 0)] S (fR_readProduct rc  S) := ct_of (own := RX10) hfl (by decide +kernel) rfl hW (Nat.le_of_ble_eq_true rfl) (fun E hE C => by subst hE; exact bR_readProduct C hx hrc   S)
theorem rR_readProduct {E : Ec} {G : Gc} {nL mc ms : Nat} {own : String} {cc : ByteArray} {L : Nat} {ret : Option FieldType} {k n pc ix : Nat} {loc : List (Nat × Value)} {rest : List Value} {rc : St → Oz} {x : Nat}  {S : St} (hx : 7 ≤ x) (hrc : ∀  (S : St), Ct E.2.1 yX10_readSum (Cond.code yX10_readSum cX10_readSum 2 none :: tblG) x 0 0 G wR 26 [.ref (gA G 0)] S (rc  S)) (C : JC E (VR G nL mc ms own) cc L ret) (hd : decode cc pc = .ok (.invokevirtual ix, 3)) (hq : Cond.methodLink own ix yX10_readProduct ∈ tblG) (hL : (x + 3) + 1 ≤ L) (hW : (rest.map fun v => v.category).sum ≤ 8) (hf : k + 0 ≤ mc ∧ n + 0 ≤ ms) : Rn E (VR G nL mc ms own) k n 0 0 pc loc (.ref (gA G 0) :: rest) rest S (fR_readProduct rc  S) := rn_V (ci := 10) 0 (V := VR G nL mc ms own) (As := []) (Cq := (RX10, TX10, 53)) (cR_readProduct C.flags C.wok hx hrc  S) knX10_readProduct ⟨q_955, q_956⟩ rfl rfl C hd hq hL rfl rfl hW hf

theorem bR_readSum_43 {E : Ec} {G : Gc} {rc : St → Oz} {x : Nat}  {K4 : St → Oz} (C : JC E (VR G 2 0 0 RX10) cX10_readSum (x + 4) none) (hx : 7 ≤ x) (hrc : ∀  (S : St), Ct E.2.1 yX10_readSum (Cond.code yX10_readSum cX10_readSum 2 none :: tblG) x 0 0 G wR 26 [.ref (gA G 0)] S (rc  S))  (hK4 : ∀  (S : St), J E (VR G 2 0 0 RX10) 0 0 4 [(0, .ref (gA G 0))] [] S (K4  S)) (s0 : Int32) (S : St) : J E (VR G 2 0 0 RX10) 0 0 43 [(0, .ref (gA G 0))] [.int s0] S (fR_readSum_43 rc K4 s0 S) := by
  unfold fR_readSum_43
  refine j_istore_n (pc := 43) [(1, .int s0), (0, .ref (gA G 0))] C dX10_readSum_43 rfl (Nat.le_of_ble_eq_true rfl) rfl ?_
  refine j_aload_n (pc := 44) 1 C dX10_readSum_44 rfl rfl ?_
  refine j_dup (pc := 45) C dX10_readSum_45 rfl ?_
  refine gR_0_4 (pc := 46) C dX10_readSum_46 q_825 ?_
  refine j_iconst (pc := 49) 1 C dX10_readSum_49 (by decide) ?_
  refine j_iadd (pc := 50) C dX10_readSum_50 ?_
  refine pR_0_4 (pc := 51) C dX10_readSum_51 q_825 ?_
  refine j_nxS (fun T1 => ?_)
  refine j_aload_n (pc := 54) 1 C dX10_readSum_54 rfl rfl ?_
  refine j_callv0 (pc := 55) C (rR_readProduct hx hrc C dX10_readSum_55 q_957 (by omega) (Nat.le_of_ble_eq_true rfl) ⟨Nat.le_of_ble_eq_true rfl, Nat.le_of_ble_eq_true rfl⟩) ⟨Nat.le_of_ble_eq_true rfl, Nat.le_of_ble_eq_true rfl⟩ (fun T2 => ?_)
  refine j_aload_n (pc := 58) 1 C dX10_readSum_58 rfl rfl ?_
  refine j_iload_n (pc := 59) 0 C dX10_readSum_59 rfl rfl ?_
  refine j_iconst (pc := 60) 0 C dX10_readSum_60 (by decide) ?_
  refine j_callv0 (pc := 61) C (rR_emit C dX10_readSum_61 q_945 (by omega) (Nat.le_of_ble_eq_true rfl) ⟨Nat.le_of_ble_eq_true rfl, Nat.le_of_ble_eq_true rfl⟩) ⟨Nat.le_of_ble_eq_true rfl, Nat.le_of_ble_eq_true rfl⟩ (fun T4 => ?_)
  refine j_goto (pc := 64) 4 C dX10_readSum_64 (by decide) ?_
  refine j_sub [1] rfl ?_
  exact hK4  T4
theorem bR_readSum_29 {E : Ec} {G : Gc} {rc : St → Oz} {x : Nat}  {K4 : St → Oz} (C : JC E (VR G 2 0 0 RX10) cX10_readSum (x + 4) none) (hx : 7 ≤ x) (hrc : ∀  (S : St), Ct E.2.1 yX10_readSum (Cond.code yX10_readSum cX10_readSum 2 none :: tblG) x 0 0 G wR 26 [.ref (gA G 0)] S (rc  S))  (hK4 : ∀  (S : St), J E (VR G 2 0 0 RX10) 0 0 4 [(0, .ref (gA G 0))] [] S (K4  S))  (S : St) : J E (VR G 2 0 0 RX10) 0 0 29 [(0, .ref (gA G 0))] [] S (fR_readSum_29 rc K4  S) := by
  unfold fR_readSum_29
  refine j_aload_n (pc := 29) 0 C dX10_readSum_29 rfl rfl ?_
  refine j_callI0 (pc := 30) C (rR_here C dX10_readSum_30 q_847 (by omega) (Nat.le_of_ble_eq_true rfl) ⟨Nat.le_of_ble_eq_true rfl, Nat.le_of_ble_eq_true rfl⟩) ⟨Nat.le_of_ble_eq_true rfl, Nat.le_of_ble_eq_true rfl⟩ (fun r2 T1 => ?_)
  refine j_bipush (pc := 33) 43 C dX10_readSum_33 (by decide) ?_
  refine j_icmp_ne (pc := 35) 42 C dX10_readSum_35 (by decide) ?_ ?_
  ·
    refine j_iconst (pc := 42) 3 C dX10_readSum_42 (by decide) ?_
    exact bR_readSum_43 C hx hrc hK4 3 T1
  ·
    refine j_iconst (pc := 38) 2 C dX10_readSum_38 (by decide) ?_
    refine j_goto (pc := 39) 43 C dX10_readSum_39 (by decide) ?_
    exact bR_readSum_43 C hx hrc hK4 2 T1
theorem bR_readSum_4 {E : Ec} {G : Gc} {rc : St → Oz} {x : Nat}   (C : JC E (VR G 2 0 0 RX10) cX10_readSum (x + 4) none) (hx : 7 ≤ x) (hrc : ∀  (S : St), Ct E.2.1 yX10_readSum (Cond.code yX10_readSum cX10_readSum 2 none :: tblG) x 0 0 G wR 26 [.ref (gA G 0)] S (rc  S))   : ∀ (n : Nat)  (S : St), J E (VR G 2 0 0 RX10) 0 0 4 [(0, .ref (gA G 0))] [] S (fR_readSum_4 rc n  S) := by
  intro n
  induction n with
  | zero => intro  S; rw [fR_readSum_4]; exact j_none
  | succ n ih =>
    intro  S
    rw [fR_readSum_4]
    refine j_aload_n (pc := 4) 0 C dX10_readSum_4 rfl rfl ?_
    refine j_callI0 (pc := 5) C (rR_fine C dX10_readSum_5 q_843 (by omega) (Nat.le_of_ble_eq_true rfl) ⟨Nat.le_of_ble_eq_true rfl, Nat.le_of_ble_eq_true rfl⟩) ⟨Nat.le_of_ble_eq_true rfl, Nat.le_of_ble_eq_true rfl⟩ (fun r2 T1 => ?_)
    refine j_if_eq (pc := 8) 67 C dX10_readSum_8 (by decide) ?_ ?_
    ·
      exact j_vret C dX10_readSum_67 rfl (Nat.le_of_ble_eq_true rfl) (Nat.le_of_ble_eq_true rfl)
    ·
      refine j_aload_n (pc := 11) 0 C dX10_readSum_11 rfl rfl ?_
      refine j_callI0 (pc := 12) C (rR_here C dX10_readSum_12 q_847 (by omega) (Nat.le_of_ble_eq_true rfl) ⟨Nat.le_of_ble_eq_true rfl, Nat.le_of_ble_eq_true rfl⟩) ⟨Nat.le_of_ble_eq_true rfl, Nat.le_of_ble_eq_true rfl⟩ (fun r4 T3 => ?_)
      refine j_bipush (pc := 15) 43 C dX10_readSum_15 (by decide) ?_
      refine j_icmp_eq (pc := 17) 29 C dX10_readSum_17 (by decide) ?_ ?_
      ·
        exact bR_readSum_29 C hx hrc ih  T3
      ·
        refine j_aload_n (pc := 20) 0 C dX10_readSum_20 rfl rfl ?_
        refine j_callI0 (pc := 21) C (rR_here C dX10_readSum_21 q_847 (by omega) (Nat.le_of_ble_eq_true rfl) ⟨Nat.le_of_ble_eq_true rfl, Nat.le_of_ble_eq_true rfl⟩) ⟨Nat.le_of_ble_eq_true rfl, Nat.le_of_ble_eq_true rfl⟩ (fun r6 T5 => ?_)
        refine j_bipush (pc := 24) 45 C dX10_readSum_24 (by decide) ?_
        refine j_icmp_ne (pc := 26) 67 C dX10_readSum_26 (by decide) ?_ ?_
        ·
          exact j_vret C dX10_readSum_67 rfl (Nat.le_of_ble_eq_true rfl) (Nat.le_of_ble_eq_true rfl)
        ·
          exact bR_readSum_29 C hx hrc ih  T5
theorem bR_readSum_B {E : Ec} {G : Gc} {rc : St → Oz} {x : Nat}   (C : JC E (VR G 2 0 0 RX10) cX10_readSum (x + 4) none) (hx : 7 ≤ x) (hrc : ∀  (S : St), Ct E.2.1 yX10_readSum (Cond.code yX10_readSum cX10_readSum 2 none :: tblG) x 0 0 G wR 26 [.ref (gA G 0)] S (rc  S))    (S : St) : J E (VR G 2 0 0 RX10) 0 0 0 [(0, .ref (gA G 0))] [] S (fR_readSum_B rc  S) := by
  unfold fR_readSum_B
  refine j_aload_n (pc := 0) 0 C dX10_readSum_0 rfl rfl ?_
  refine j_callv0 (pc := 1) C (rR_readProduct hx hrc C dX10_readSum_1 q_957 (by omega) (Nat.le_of_ble_eq_true rfl) ⟨Nat.le_of_ble_eq_true rfl, Nat.le_of_ble_eq_true rfl⟩) ⟨Nat.le_of_ble_eq_true rfl, Nat.le_of_ble_eq_true rfl⟩ (fun T1 => ?_)
  exact bR_readSum_4 C hx hrc FU  T1
theorem cR_readSum_B {l : Launch} {G : Gc} (hfl : l.stackTraces = false) (hW : Wok G wR 26) {rc : St → Oz} {x : Nat} (hx : 7 ≤ x) (hrc : ∀  (S : St), Ct l yX10_readSum (Cond.code yX10_readSum cX10_readSum 2 none :: tblG) x 0 0 G wR 26 [.ref (gA G 0)] S (rc  S))  (S : St) : Ct l yX10_readSum (Cond.code yX10_readSum cX10_readSum 2 none :: tblG) (x + 4) 0 0 G wR 26 [.ref (gA G 0)] S (fR_readSum_B rc  S) := ct_of (own := RX10) hfl (by decide +kernel) rfl hW (Nat.le_of_ble_eq_true rfl) (fun E hE C => by subst hE; exact bR_readSum_B C hx hrc   S)
theorem cR_readSum {l : Launch} {G : Gc} (hfl : l.stackTraces = false) (hW : Wok G wR 26) : ∀ (d : Nat)  (S : St), Ct l yX10_readSum (Cond.code yX10_readSum cX10_readSum 2 none :: tblG) (7 + 4 * d) 0 0 G wR 26 [.ref (gA G 0)] S (fR_readSum d  S) := by
  intro d
  induction d with
  | zero => intro  S r S2 h; rw [fR_readSum] at h; cases h
  | succ d ih =>
    intro  S
    rw [fR_readSum]
    have h := cR_readSum_B hfl hW (x := 7 + 4 * d) (by omega) ih  S
    rw [Nat.add_assoc] at h
    exact h
theorem rR_readSum {E : Ec} {G : Gc} {nL mc ms : Nat} {own : String} {cc : ByteArray} {L : Nat} {ret : Option FieldType} {k n pc ix : Nat} {loc : List (Nat × Value)} {rest : List Value}   {S : St}  (C : JC E (VR G nL mc ms own) cc L ret) (hd : decode cc pc = .ok (.invokevirtual ix, 3)) (hq : Cond.methodLink own ix yX10_readSum ∈ tblG) (hL : 55 + 1 ≤ L) (hW : (rest.map fun v => v.category).sum ≤ 8) (hf : k + 0 ≤ mc ∧ n + 0 ≤ ms) : Rn E (VR G nL mc ms own) k n 0 0 pc loc (.ref (gA G 0) :: rest) rest S (fR_readSum 12  S) := rn_V (ci := 10) 0 (V := VR G nL mc ms own) (As := []) (Cq := (RX10, TX10, 53)) (cR_readSum C.flags C.wok 12  S) knX10_readSum ⟨q_959, q_960⟩ rfl rfl C hd hq hL rfl rfl hW hf

theorem bR_copies_v244_3 {E : Ec} {G : Gc}    (C : JC E (VR G 5 0 0 RX10) cX10_copies 1 none)    : ∀ (n : Nat) (x3 : Int32) (x4 : Int32) (S : St), J E (VR G 5 0 0 RX10) 0 0 3 [(1, .ref (gA G 9)), (2, .ref (gA G 11)), (3, .int x3), (4, .int x4)] [] S (fR_copies_v244_3  n x3 x4 S) := by
  intro n
  induction n with
  | zero => intro x3 x4 S; rw [fR_copies_v244_3]; exact j_none
  | succ n ih =>
    intro x3 x4 S
    rw [fR_copies_v244_3]
    refine j_iload (pc := 3) 3 C dX10_copies_3 rfl ?_
    refine j_iload_n (pc := 5) 2 C dX10_copies_5 rfl rfl ?_
    refine j_icmp_ge (pc := 6) 23 C dX10_copies_6 (by decide) ?_ ?_
    ·
      exact j_vret C dX10_copies_23 rfl (Nat.le_of_ble_eq_true rfl) (Nat.le_of_ble_eq_true rfl)
    ·
      refine j_aload_n (pc := 9) 1 C dX10_copies_9 rfl rfl ?_
      refine j_iload (pc := 10) 3 C dX10_copies_10 rfl ?_
      refine j_aload_n (pc := 12) 0 C dX10_copies_12 rfl rfl ?_
      refine j_iload (pc := 13) 3 C dX10_copies_13 rfl ?_
      refine aR_9 (pc := 15) C dX10_copies_15 ?_
      refine sR_11 (pc := 16) C dX10_copies_16 ?_
      refine j_nxS (fun T1 => ?_)
      refine j_iinc (pc := 17) 3 (x4 + 1) [(4, .int (x4 + 1)), (1, .ref (gA G 9)), (2, .ref (gA G 11)), (3, .int x3)] C dX10_copies_17 rfl rfl (Nat.le_of_ble_eq_true rfl) rfl ?_
      refine j_goto (pc := 20) 3 C dX10_copies_20 (by decide) ?_
      refine j_sub [1, 2, 3, 0] rfl ?_
      exact ih x3 (x4 + 1) T1
theorem bR_copies_v244 {E : Ec} {G : Gc}    (C : JC E (VR G 5 0 0 RX10) cX10_copies 1 none)    (x3 : Int32) (S : St) : J E (VR G 5 0 0 RX10) 0 0 0 [(0, .ref (gA G 0)), (1, .ref (gA G 9)), (2, .ref (gA G 11)), (3, .int x3)] [] S (fR_copies_v244  x3 S) := by
  unfold fR_copies_v244
  refine j_iconst (pc := 0) 0 C dX10_copies_0 (by decide) ?_
  refine j_istore (pc := 1) [(4, .int 0), (0, .ref (gA G 0)), (1, .ref (gA G 9)), (2, .ref (gA G 11)), (3, .int x3)] C dX10_copies_1 (Nat.le_of_ble_eq_true rfl) rfl ?_
  refine j_sub [2, 3, 4, 0] rfl ?_
  exact bR_copies_v244_3 C  FU x3 0 S
theorem cR_copies_v244 {l : Launch} {G : Gc} (hfl : l.stackTraces = false) (hW : Wok G wR 26)   (x3 : Int32) (S : St) : Ct l yX10_copies (Cond.code yX10_copies cX10_copies 5 none :: tblG) 1 0 0 G wR 26 [.ref (gA G 0), .ref (gA G 9), .ref (gA G 11), .int x3] S (fR_copies_v244 x3 S) := ct_of (own := RX10) hfl (by decide +kernel) rfl hW (Nat.le_of_ble_eq_true rfl) (fun E hE C => by subst hE; exact bR_copies_v244 C   x3 S)
theorem rR_copies_v244 {E : Ec} {G : Gc} {nL mc ms : Nat} {own : String} {cc : ByteArray} {L : Nat} {ret : Option FieldType} {k n pc ix : Nat} {loc : List (Nat × Value)} {rest : List Value}  {x3 : Int32} {S : St}  (C : JC E (VR G nL mc ms own) cc L ret) (hd : decode cc pc = .ok (.invokevirtual ix, 3)) (hq : Cond.methodLink own ix yX10_copies ∈ tblG) (hL : 1 + 1 ≤ L) (hW : (rest.map fun v => v.category).sum ≤ 8) (hf : k + 0 ≤ mc ∧ n + 0 ≤ ms) : Rn E (VR G nL mc ms own) k n 0 0 pc loc (.int x3 :: .ref (gA G 11) :: .ref (gA G 9) :: .ref (gA G 0) :: rest) rest S (fR_copies_v244 x3 S) := rn_V (ci := 10) 0 (V := VR G nL mc ms own) (As := [.ref (gA G 9), .ref (gA G 11), .int x3]) (Cq := (RX10, TX10, 53)) (cR_copies_v244 C.flags C.wok  x3 S) knX10_copies ⟨q_887, q_888⟩ rfl rfl C hd hq hL rfl rfl hW hf

theorem bR_copies_v245_3 {E : Ec} {G : Gc}    (C : JC E (VR G 5 0 0 RX10) cX10_copies 1 none)    : ∀ (n : Nat) (x3 : Int32) (x4 : Int32) (S : St), J E (VR G 5 0 0 RX10) 0 0 3 [(1, .ref (gA G 10)), (2, .ref (gA G 12)), (3, .int x3), (4, .int x4)] [] S (fR_copies_v245_3  n x3 x4 S) := by
  intro n
  induction n with
  | zero => intro x3 x4 S; rw [fR_copies_v245_3]; exact j_none
  | succ n ih =>
    intro x3 x4 S
    rw [fR_copies_v245_3]
    refine j_iload (pc := 3) 3 C dX10_copies_3 rfl ?_
    refine j_iload_n (pc := 5) 2 C dX10_copies_5 rfl rfl ?_
    refine j_icmp_ge (pc := 6) 23 C dX10_copies_6 (by decide) ?_ ?_
    ·
      exact j_vret C dX10_copies_23 rfl (Nat.le_of_ble_eq_true rfl) (Nat.le_of_ble_eq_true rfl)
    ·
      refine j_aload_n (pc := 9) 1 C dX10_copies_9 rfl rfl ?_
      refine j_iload (pc := 10) 3 C dX10_copies_10 rfl ?_
      refine j_aload_n (pc := 12) 0 C dX10_copies_12 rfl rfl ?_
      refine j_iload (pc := 13) 3 C dX10_copies_13 rfl ?_
      refine aR_10 (pc := 15) C dX10_copies_15 ?_
      refine sR_12 (pc := 16) C dX10_copies_16 ?_
      refine j_nxS (fun T1 => ?_)
      refine j_iinc (pc := 17) 3 (x4 + 1) [(4, .int (x4 + 1)), (1, .ref (gA G 10)), (2, .ref (gA G 12)), (3, .int x3)] C dX10_copies_17 rfl rfl (Nat.le_of_ble_eq_true rfl) rfl ?_
      refine j_goto (pc := 20) 3 C dX10_copies_20 (by decide) ?_
      refine j_sub [1, 2, 3, 0] rfl ?_
      exact ih x3 (x4 + 1) T1
theorem bR_copies_v245 {E : Ec} {G : Gc}    (C : JC E (VR G 5 0 0 RX10) cX10_copies 1 none)    (x3 : Int32) (S : St) : J E (VR G 5 0 0 RX10) 0 0 0 [(0, .ref (gA G 0)), (1, .ref (gA G 10)), (2, .ref (gA G 12)), (3, .int x3)] [] S (fR_copies_v245  x3 S) := by
  unfold fR_copies_v245
  refine j_iconst (pc := 0) 0 C dX10_copies_0 (by decide) ?_
  refine j_istore (pc := 1) [(4, .int 0), (0, .ref (gA G 0)), (1, .ref (gA G 10)), (2, .ref (gA G 12)), (3, .int x3)] C dX10_copies_1 (Nat.le_of_ble_eq_true rfl) rfl ?_
  refine j_sub [2, 3, 4, 0] rfl ?_
  exact bR_copies_v245_3 C  FU x3 0 S
theorem cR_copies_v245 {l : Launch} {G : Gc} (hfl : l.stackTraces = false) (hW : Wok G wR 26)   (x3 : Int32) (S : St) : Ct l yX10_copies (Cond.code yX10_copies cX10_copies 5 none :: tblG) 1 0 0 G wR 26 [.ref (gA G 0), .ref (gA G 10), .ref (gA G 12), .int x3] S (fR_copies_v245 x3 S) := ct_of (own := RX10) hfl (by decide +kernel) rfl hW (Nat.le_of_ble_eq_true rfl) (fun E hE C => by subst hE; exact bR_copies_v245 C   x3 S)
theorem rR_copies_v245 {E : Ec} {G : Gc} {nL mc ms : Nat} {own : String} {cc : ByteArray} {L : Nat} {ret : Option FieldType} {k n pc ix : Nat} {loc : List (Nat × Value)} {rest : List Value}  {x3 : Int32} {S : St}  (C : JC E (VR G nL mc ms own) cc L ret) (hd : decode cc pc = .ok (.invokevirtual ix, 3)) (hq : Cond.methodLink own ix yX10_copies ∈ tblG) (hL : 1 + 1 ≤ L) (hW : (rest.map fun v => v.category).sum ≤ 8) (hf : k + 0 ≤ mc ∧ n + 0 ≤ ms) : Rn E (VR G nL mc ms own) k n 0 0 pc loc (.int x3 :: .ref (gA G 12) :: .ref (gA G 10) :: .ref (gA G 0) :: rest) rest S (fR_copies_v245 x3 S) := rn_V (ci := 10) 0 (V := VR G nL mc ms own) (As := [.ref (gA G 10), .ref (gA G 12), .int x3]) (Cq := (RX10, TX10, 53)) (cR_copies_v245 C.flags C.wok  x3 S) knX10_copies ⟨q_887, q_888⟩ rfl rfl C hd hq hL rfl rfl hW hf

theorem knX10_law : Kn yX10_law cX10_law 3 (some .int) 1 := ⟨q_963, q_815, by decide +kernel, by decide⟩
theorem bR_law_77 {E : Ec} {G : Gc}    (C : JC E (VR G 3 0 0 RX10) cX10_law 56 (some .int))     (S : St) : J E (VR G 3 0 0 RX10) 0 0 77 [(0, .ref (gA G 0))] [] S (fR_law_77   S) := by
  unfold fR_law_77
  refine j_aload_n (pc := 77) 0 C dX10_law_77 rfl rfl ?_
  refine j_iconst (pc := 78) 1 C dX10_law_78 (by decide) ?_
  refine j_callI0 (pc := 79) C (rR_result C dX10_law_79 q_879 (by omega) (Nat.le_of_ble_eq_true rfl) ⟨Nat.le_of_ble_eq_true rfl, Nat.le_of_ble_eq_true rfl⟩) ⟨Nat.le_of_ble_eq_true rfl, Nat.le_of_ble_eq_true rfl⟩ (fun r2 T1 => ?_)
  refine j_istore_n (pc := 82) [(2, .int r2), (0, .ref (gA G 0))] C dX10_law_82 rfl (Nat.le_of_ble_eq_true rfl) rfl ?_
  refine j_aload_n (pc := 83) 1 C dX10_law_83 rfl rfl ?_
  refine gR_0_5 (pc := 84) C dX10_law_84 q_826 ?_
  refine j_iconst (pc := 87) (-1) C dX10_law_87 (by decide) ?_
  refine j_icmp_eq (pc := 88) 93 C dX10_law_88 (by decide) ?_ ?_
  ·
    refine j_aload_n (pc := 93) 1 C dX10_law_93 rfl rfl ?_
    refine j_aload_n (pc := 94) 1 C dX10_law_94 rfl rfl ?_
    refine gR_0_29 (pc := 95) C dX10_law_95 q_926 ?_
    refine pR_0_30 (pc := 98) C dX10_law_98 q_894 ?_
    refine j_nxS (fun T3 => ?_)
    refine j_aload_n (pc := 101) 1 C dX10_law_101 rfl rfl ?_
    refine j_aload_n (pc := 102) 1 C dX10_law_102 rfl rfl ?_
    refine gR_0_24 (pc := 103) C dX10_law_103 q_940 ?_
    refine j_aload_n (pc := 106) 1 C dX10_law_106 rfl rfl ?_
    refine gR_0_26 (pc := 107) C dX10_law_107 q_961 ?_
    refine j_aload_n (pc := 110) 1 C dX10_law_110 rfl rfl ?_
    refine gR_0_29 (pc := 111) C dX10_law_111 q_926 ?_
    refine j_callv0 (pc := 114) C (rR_copies_v244 C dX10_law_114 q_889 (by omega) (Nat.le_of_ble_eq_true rfl) ⟨Nat.le_of_ble_eq_true rfl, Nat.le_of_ble_eq_true rfl⟩) ⟨Nat.le_of_ble_eq_true rfl, Nat.le_of_ble_eq_true rfl⟩ (fun T4 => ?_)
    refine j_aload_n (pc := 117) 1 C dX10_law_117 rfl rfl ?_
    refine j_aload_n (pc := 118) 1 C dX10_law_118 rfl rfl ?_
    refine gR_0_25 (pc := 119) C dX10_law_119 q_941 ?_
    refine j_aload_n (pc := 122) 1 C dX10_law_122 rfl rfl ?_
    refine gR_0_27 (pc := 123) C dX10_law_123 q_962 ?_
    refine j_aload_n (pc := 126) 1 C dX10_law_126 rfl rfl ?_
    refine gR_0_29 (pc := 127) C dX10_law_127 q_926 ?_
    refine j_callv0 (pc := 130) C (rR_copies_v245 C dX10_law_130 q_889 (by omega) (Nat.le_of_ble_eq_true rfl) ⟨Nat.le_of_ble_eq_true rfl, Nat.le_of_ble_eq_true rfl⟩) ⟨Nat.le_of_ble_eq_true rfl, Nat.le_of_ble_eq_true rfl⟩ (fun T6 => ?_)
    refine j_iload_n (pc := 133) 0 C dX10_law_133 rfl rfl ?_
    exact j_iret C dX10_law_134 rfl (Nat.le_of_ble_eq_true rfl) (Nat.le_of_ble_eq_true rfl)
  ·
    refine j_iload_n (pc := 91) 0 C dX10_law_91 rfl rfl ?_
    exact j_iret C dX10_law_92 rfl (Nat.le_of_ble_eq_true rfl) (Nat.le_of_ble_eq_true rfl)
theorem bR_law_30 {E : Ec} {G : Gc}    (C : JC E (VR G 3 0 0 RX10) cX10_law 56 (some .int))    (x1 : Int32) (s0 : Int32) (S : St) : J E (VR G 3 0 0 RX10) 0 0 30 [(0, .ref (gA G 0)), (1, .int x1)] [.int s0, .ref (gA G 0)] S (fR_law_30  x1 s0 S) := by
  unfold fR_law_30
  refine j_iconst (pc := 30) 1 C dX10_law_30 (by decide) ?_
  refine j_iconst (pc := 31) 1 C dX10_law_31 (by decide) ?_
  refine j_callI0 (pc := 32) C (rR_may C dX10_law_32 q_822 (by omega) (Nat.le_of_ble_eq_true rfl) ⟨Nat.le_of_ble_eq_true rfl, Nat.le_of_ble_eq_true rfl⟩) ⟨Nat.le_of_ble_eq_true rfl, Nat.le_of_ble_eq_true rfl⟩ (fun r2 T1 => ?_)
  refine j_if_ne (pc := 35) 40 C dX10_law_35 (by decide) ?_ ?_
  ·
    refine j_aload_n (pc := 40) 0 C dX10_law_40 rfl rfl ?_
    refine j_iload_n (pc := 41) 1 C dX10_law_41 rfl rfl ?_
    refine j_callv0 (pc := 42) C (rR_begins C dX10_law_42 q_831 (by omega) (Nat.le_of_ble_eq_true rfl) ⟨Nat.le_of_ble_eq_true rfl, Nat.le_of_ble_eq_true rfl⟩) ⟨Nat.le_of_ble_eq_true rfl, Nat.le_of_ble_eq_true rfl⟩ (fun T3 => ?_)
    refine j_aload_n (pc := 45) 0 C dX10_law_45 rfl rfl ?_
    refine j_iconst (pc := 46) 0 C dX10_law_46 (by decide) ?_
    refine pR_0_29 (pc := 47) C dX10_law_47 q_926 ?_
    refine j_nxS (fun T5 => ?_)
    refine j_aload_n (pc := 50) 0 C dX10_law_50 rfl rfl ?_
    refine j_callv0 (pc := 51) C (rR_readSum C dX10_law_51 q_939 (by omega) (Nat.le_of_ble_eq_true rfl) ⟨Nat.le_of_ble_eq_true rfl, Nat.le_of_ble_eq_true rfl⟩) ⟨Nat.le_of_ble_eq_true rfl, Nat.le_of_ble_eq_true rfl⟩ (fun T6 => ?_)
    refine j_aload_n (pc := 54) 0 C dX10_law_54 rfl rfl ?_
    refine j_callI0 (pc := 55) C (rR_fine C dX10_law_55 q_843 (by omega) (Nat.le_of_ble_eq_true rfl) ⟨Nat.le_of_ble_eq_true rfl, Nat.le_of_ble_eq_true rfl⟩) ⟨Nat.le_of_ble_eq_true rfl, Nat.le_of_ble_eq_true rfl⟩ (fun r9 T8 => ?_)
    refine j_if_eq (pc := 58) 77 C dX10_law_58 (by decide) ?_ ?_
    ·
      refine j_sub [0] rfl ?_
      exact bR_law_77 C   T8
    ·
      refine j_aload_n (pc := 61) 0 C dX10_law_61 rfl rfl ?_
      refine j_callI0 (pc := 62) C (rR_isMore C dX10_law_62 q_851 (by omega) (Nat.le_of_ble_eq_true rfl) ⟨Nat.le_of_ble_eq_true rfl, Nat.le_of_ble_eq_true rfl⟩) ⟨Nat.le_of_ble_eq_true rfl, Nat.le_of_ble_eq_true rfl⟩ (fun r11 T10 => ?_)
      refine j_if_eq (pc := 65) 77 C dX10_law_65 (by decide) ?_ ?_
      ·
        refine j_sub [0] rfl ?_
        exact bR_law_77 C   T10
      ·
        refine j_aload_n (pc := 68) 0 C dX10_law_68 rfl rfl ?_
        refine j_iconst (pc := 69) 1 C dX10_law_69 (by decide) ?_
        refine j_aload_n (pc := 70) 0 C dX10_law_70 rfl rfl ?_
        refine gR_0_4 (pc := 71) C dX10_law_71 q_825 ?_
        refine j_callv0 (pc := 74) C (rR_wrong C dX10_law_74 q_875 (by omega) (Nat.le_of_ble_eq_true rfl) ⟨Nat.le_of_ble_eq_true rfl, Nat.le_of_ble_eq_true rfl⟩) ⟨Nat.le_of_ble_eq_true rfl, Nat.le_of_ble_eq_true rfl⟩ (fun T12 => ?_)
        refine j_sub [0] rfl ?_
        exact bR_law_77 C   T12
  ·
    refine j_iconst (pc := 38) 0 C dX10_law_38 (by decide) ?_
    exact j_iret C dX10_law_39 rfl (Nat.le_of_ble_eq_true rfl) (Nat.le_of_ble_eq_true rfl)
theorem bR_law_29 {E : Ec} {G : Gc}    (C : JC E (VR G 3 0 0 RX10) cX10_law 56 (some .int))    (x1 : Int32) (S : St) : J E (VR G 3 0 0 RX10) 0 0 29 [(0, .ref (gA G 0)), (1, .int x1)] [.ref (gA G 0)] S (fR_law_29  x1 S) := by
  unfold fR_law_29
  refine j_iconst (pc := 29) 0 C dX10_law_29 (by decide) ?_
  exact bR_law_30 C  x1 0 S
theorem bR_law {E : Ec} {G : Gc}    (C : JC E (VR G 3 0 0 RX10) cX10_law 56 (some .int))    (x1 : Int32) (S : St) : J E (VR G 3 0 0 RX10) 0 0 0 [(0, .ref (gA G 0)), (1, .int x1)] [] S (fR_law  x1 S) := by
  unfold fR_law
  refine j_aload_n (pc := 0) 0 C dX10_law_0 rfl rfl ?_
  refine j_iconst (pc := 1) 0 C dX10_law_1 (by decide) ?_
  refine pR_0_0 (pc := 2) C dX10_law_2 q_811 ?_
  refine j_nxS (fun T1 => ?_)
  refine j_aload_n (pc := 5) 0 C dX10_law_5 rfl rfl ?_
  refine j_iload_n (pc := 6) 1 C dX10_law_6 rfl rfl ?_
  refine j_if_lt (pc := 7) 29 C dX10_law_7 (by decide) ?_ ?_
  ·
    exact bR_law_29 C  x1 T1
  ·
    refine j_iload_n (pc := 10) 1 C dX10_law_10 rfl rfl ?_
    refine j_aload_n (pc := 11) 0 C dX10_law_11 rfl rfl ?_
    refine gR_0_2 (pc := 12) C dX10_law_12 q_812 ?_
    refine j_icmp_gt (pc := 15) 29 C dX10_law_15 (by decide) ?_ ?_
    ·
      exact bR_law_29 C  x1 T1
    ·
      refine j_iload_n (pc := 18) 1 C dX10_law_18 rfl rfl ?_
      refine j_sipush (pc := 19) 150 C dX10_law_19 (by decide) ?_
      refine j_icmp_gt (pc := 22) 29 C dX10_law_22 (by decide) ?_ ?_
      ·
        exact bR_law_29 C  x1 T1
      ·
        refine j_iconst (pc := 25) 1 C dX10_law_25 (by decide) ?_
        refine j_goto (pc := 26) 30 C dX10_law_26 (by decide) ?_
        exact bR_law_30 C  x1 1 T1
theorem cR_law {l : Launch} {G : Gc} (hfl : l.stackTraces = false) (hW : Wok G wR 26)   (x1 : Int32) (S : St) : Ct l yX10_law (Cond.code yX10_law cX10_law 3 (some .int) :: tblG) 56 0 0 G wR 26 [.ref (gA G 0), .int x1] S (fR_law x1 S) := ct_of (own := RX10) hfl (by decide +kernel) rfl hW (Nat.le_of_ble_eq_true rfl) (fun E hE C => by subst hE; exact bR_law C   x1 S)
theorem rR_law {E : Ec} {G : Gc} {nL mc ms : Nat} {own : String} {cc : ByteArray} {L : Nat} {ret : Option FieldType} {k n pc ix : Nat} {loc : List (Nat × Value)} {rest : List Value}  {x1 : Int32} {S : St}  (C : JC E (VR G nL mc ms own) cc L ret) (hd : decode cc pc = .ok (.invokevirtual ix, 3)) (hq : Cond.methodLink own ix yX10_law ∈ tblG) (hL : 56 + 1 ≤ L) (hW : (rest.map fun v => v.category).sum ≤ 8) (hf : k + 0 ≤ mc ∧ n + 0 ≤ ms) : Rn E (VR G nL mc ms own) k n 0 0 pc loc (.int x1 :: .ref (gA G 0) :: rest) rest S (fR_law x1 S) := rn_V (ci := 10) 0 (V := VR G nL mc ms own) (As := [.int x1]) (Cq := (RX10, TX10, 53)) (cR_law C.flags C.wok  x1 S) knX10_law ⟨q_964, q_965⟩ rfl rfl C hd hq hL rfl rfl hW hf

theorem bR_of_v249_4 {E : Ec} {G : Gc}  {x0 : Nat}  (C : JC E (VR G 3 0 0 RX10) cX10_of 5 (some .int))  (hs_x0 : x0 < 40)  : ∀ (n : Nat) (x1 : Int32) (x2 : Int32) (S : St), J E (VR G 3 0 0 RX10) 0 0 4 [(0, .ref (gK G x0)), (1, .int x1), (2, .int x2)] [] S (fR_of_v249_4 x0 n x1 x2 S) := by
  intro n
  induction n with
  | zero => intro x1 x2 S; rw [fR_of_v249_4]; exact j_none
  | succ n ih =>
    intro x1 x2 S
    rw [fR_of_v249_4]
    refine j_iload_n (pc := 4) 2 C dX10_of_4 rfl rfl ?_
    refine j_aload_n (pc := 5) 0 C dX10_of_5 rfl rfl ?_
    refine j_slen (pc := 6) C dX10_of_6 q_859 hs_x0 (by omega) (Nat.le_of_ble_eq_true rfl) (Nat.le_of_ble_eq_true rfl) (Nat.le_of_ble_eq_true rfl) ?_
    refine j_icmp_ge (pc := 9) 31 C dX10_of_9 (by decide) ?_ ?_
    ·
      refine j_iload_n (pc := 31) 1 C dX10_of_31 rfl rfl ?_
      exact j_iret C dX10_of_32 rfl (Nat.le_of_ble_eq_true rfl) (Nat.le_of_ble_eq_true rfl)
    ·
      refine j_iload_n (pc := 12) 1 C dX10_of_12 rfl rfl ?_
      refine j_iconst (pc := 13) 5 C dX10_of_13 (by decide) ?_
      refine j_ishl (pc := 14) C dX10_of_14 ?_
      refine j_aload_n (pc := 15) 0 C dX10_of_15 rfl rfl ?_
      refine j_iload_n (pc := 16) 2 C dX10_of_16 rfl rfl ?_
      refine j_schar (pc := 17) C dX10_of_17 q_860 hs_x0 (by omega) (Nat.le_of_ble_eq_true rfl) (Nat.le_of_ble_eq_true rfl) (Nat.le_of_ble_eq_true rfl) ?_
      refine j_bipush (pc := 20) 96 C dX10_of_20 (by decide) ?_
      refine j_isub (pc := 22) C dX10_of_22 ?_
      refine j_ior (pc := 23) C dX10_of_23 ?_
      refine j_nxI (fun v5 => ?_)
      refine j_istore_n (pc := 24) [(1, .int v5), (0, .ref (gK G x0)), (2, .int x2)] C dX10_of_24 rfl (Nat.le_of_ble_eq_true rfl) rfl ?_
      refine j_iinc (pc := 25) 2 (x2 + 1) [(2, .int (x2 + 1)), (1, .int v5), (0, .ref (gK G x0))] C dX10_of_25 rfl rfl (Nat.le_of_ble_eq_true rfl) rfl ?_
      refine j_goto (pc := 28) 4 C dX10_of_28 (by decide) ?_
      refine j_sub [2, 1, 0] rfl ?_
      exact ih v5 (x2 + 1) S
theorem bR_of_v249 {E : Ec} {G : Gc}  {x0 : Nat}  (C : JC E (VR G 3 0 0 RX10) cX10_of 5 (some .int))  (hs_x0 : x0 < 40)   (S : St) : J E (VR G 3 0 0 RX10) 0 0 0 [(0, .ref (gK G x0))] [] S (fR_of_v249 x0  S) := by
  unfold fR_of_v249
  refine j_iconst (pc := 0) 0 C dX10_of_0 (by decide) ?_
  refine j_istore_n (pc := 1) [(1, .int 0), (0, .ref (gK G x0))] C dX10_of_1 rfl (Nat.le_of_ble_eq_true rfl) rfl ?_
  refine j_iconst (pc := 2) 0 C dX10_of_2 (by decide) ?_
  refine j_istore_n (pc := 3) [(2, .int 0), (1, .int 0), (0, .ref (gK G x0))] C dX10_of_3 rfl (Nat.le_of_ble_eq_true rfl) rfl ?_
  refine j_sub [2, 1, 0] rfl ?_
  exact bR_of_v249_4 C hs_x0 FU 0 0 S
theorem cR_of_v249 {l : Launch} {G : Gc} (hfl : l.stackTraces = false) (hW : Wok G wR 26) {x0 : Nat} (hs_x0 : x0 < 40)  (S : St) : Ct l yX10_of (Cond.code yX10_of cX10_of 3 (some .int) :: tblG) 5 0 0 G wR 26 [.ref (gK G x0)] S (fR_of_v249 x0 S) := ct_of (own := RX10) hfl (by decide +kernel) rfl hW (Nat.le_of_ble_eq_true rfl) (fun E hE C => by subst hE; exact bR_of_v249 C hs_x0   S)
theorem rR_of_v249 {E : Ec} {G : Gc} {nL mc ms : Nat} {own : String} {cc : ByteArray} {L : Nat} {ret : Option FieldType} {k n pc ix : Nat} {loc : List (Nat × Value)} {rest : List Value}  {x0 : Nat} {S : St} (hs_x0 : x0 < 40) (C : JC E (VR G nL mc ms own) cc L ret) (hd : decode cc pc = .ok (.invokestatic ix, 3)) (hq : Cond.methodLink own ix yX10_of ∈ tblG) (hL : 5 + 1 ≤ L) (hW : (rest.map fun v => v.category).sum ≤ 8) (hf : k + 0 ≤ mc ∧ n + 0 ≤ ms) : Rn E (VR G nL mc ms own) k n 0 0 pc loc (.ref (gK G x0) :: rest) rest S (fR_of_v249 x0 S) := rn_S (V := VR G nL mc ms own) (As := [.ref (gK G x0)]) (cR_of_v249 C.flags C.wok hs_x0  S) knX10_of q_862  C hd hq hL rfl rfl hW hf

theorem bR_of_v250_4 {E : Ec} {G : Gc}  {x0 : Nat}  (C : JC E (VR G 3 0 0 RX10) cX10_of 5 (some .int))  (hs_x0 : x0 < 40)  : ∀ (n : Nat) (x1 : Int32) (x2 : Int32) (S : St), J E (VR G 3 0 0 RX10) 0 0 4 [(0, .ref (gK G x0)), (1, .int x1), (2, .int x2)] [] S (fR_of_v250_4 x0 n x1 x2 S) := by
  intro n
  induction n with
  | zero => intro x1 x2 S; rw [fR_of_v250_4]; exact j_none
  | succ n ih =>
    intro x1 x2 S
    rw [fR_of_v250_4]
    refine j_iload_n (pc := 4) 2 C dX10_of_4 rfl rfl ?_
    refine j_aload_n (pc := 5) 0 C dX10_of_5 rfl rfl ?_
    refine j_slen (pc := 6) C dX10_of_6 q_859 hs_x0 (by omega) (Nat.le_of_ble_eq_true rfl) (Nat.le_of_ble_eq_true rfl) (Nat.le_of_ble_eq_true rfl) ?_
    refine j_icmp_ge (pc := 9) 31 C dX10_of_9 (by decide) ?_ ?_
    ·
      refine j_iload_n (pc := 31) 1 C dX10_of_31 rfl rfl ?_
      exact j_iret C dX10_of_32 rfl (Nat.le_of_ble_eq_true rfl) (Nat.le_of_ble_eq_true rfl)
    ·
      refine j_iload_n (pc := 12) 1 C dX10_of_12 rfl rfl ?_
      refine j_iconst (pc := 13) 5 C dX10_of_13 (by decide) ?_
      refine j_ishl (pc := 14) C dX10_of_14 ?_
      refine j_aload_n (pc := 15) 0 C dX10_of_15 rfl rfl ?_
      refine j_iload_n (pc := 16) 2 C dX10_of_16 rfl rfl ?_
      refine j_schar (pc := 17) C dX10_of_17 q_860 hs_x0 (by omega) (Nat.le_of_ble_eq_true rfl) (Nat.le_of_ble_eq_true rfl) (Nat.le_of_ble_eq_true rfl) ?_
      refine j_bipush (pc := 20) 96 C dX10_of_20 (by decide) ?_
      refine j_isub (pc := 22) C dX10_of_22 ?_
      refine j_ior (pc := 23) C dX10_of_23 ?_
      refine j_nxI (fun v5 => ?_)
      refine j_istore_n (pc := 24) [(1, .int v5), (0, .ref (gK G x0)), (2, .int x2)] C dX10_of_24 rfl (Nat.le_of_ble_eq_true rfl) rfl ?_
      refine j_iinc (pc := 25) 2 (x2 + 1) [(2, .int (x2 + 1)), (1, .int v5), (0, .ref (gK G x0))] C dX10_of_25 rfl rfl (Nat.le_of_ble_eq_true rfl) rfl ?_
      refine j_goto (pc := 28) 4 C dX10_of_28 (by decide) ?_
      refine j_sub [2, 1, 0] rfl ?_
      exact ih v5 (x2 + 1) S
theorem bR_of_v250 {E : Ec} {G : Gc}  {x0 : Nat}  (C : JC E (VR G 3 0 0 RX10) cX10_of 5 (some .int))  (hs_x0 : x0 < 40)   (S : St) : J E (VR G 3 0 0 RX10) 0 0 0 [(0, .ref (gK G x0))] [] S (fR_of_v250 x0  S) := by
  unfold fR_of_v250
  refine j_iconst (pc := 0) 0 C dX10_of_0 (by decide) ?_
  refine j_istore_n (pc := 1) [(1, .int 0), (0, .ref (gK G x0))] C dX10_of_1 rfl (Nat.le_of_ble_eq_true rfl) rfl ?_
  refine j_iconst (pc := 2) 0 C dX10_of_2 (by decide) ?_
  refine j_istore_n (pc := 3) [(2, .int 0), (1, .int 0), (0, .ref (gK G x0))] C dX10_of_3 rfl (Nat.le_of_ble_eq_true rfl) rfl ?_
  refine j_sub [2, 1, 0] rfl ?_
  exact bR_of_v250_4 C hs_x0 FU 0 0 S
theorem cR_of_v250 {l : Launch} {G : Gc} (hfl : l.stackTraces = false) (hW : Wok G wR 26) {x0 : Nat} (hs_x0 : x0 < 40)  (S : St) : Ct l yX10_of (Cond.code yX10_of cX10_of 3 (some .int) :: tblG) 5 0 0 G wR 26 [.ref (gK G x0)] S (fR_of_v250 x0 S) := ct_of (own := RX10) hfl (by decide +kernel) rfl hW (Nat.le_of_ble_eq_true rfl) (fun E hE C => by subst hE; exact bR_of_v250 C hs_x0   S)
theorem rR_of_v250 {E : Ec} {G : Gc} {nL mc ms : Nat} {own : String} {cc : ByteArray} {L : Nat} {ret : Option FieldType} {k n pc ix : Nat} {loc : List (Nat × Value)} {rest : List Value}  {x0 : Nat} {S : St} (hs_x0 : x0 < 40) (C : JC E (VR G nL mc ms own) cc L ret) (hd : decode cc pc = .ok (.invokestatic ix, 3)) (hq : Cond.methodLink own ix yX10_of ∈ tblG) (hL : 5 + 1 ≤ L) (hW : (rest.map fun v => v.category).sum ≤ 8) (hf : k + 0 ≤ mc ∧ n + 0 ≤ ms) : Rn E (VR G nL mc ms own) k n 0 0 pc loc (.ref (gK G x0) :: rest) rest S (fR_of_v250 x0 S) := rn_S (V := VR G nL mc ms own) (As := [.ref (gK G x0)]) (cR_of_v250 C.flags C.wok hs_x0  S) knX10_of q_862  C hd hq hL rfl rfl hW hf

theorem bR_of_v251_4 {E : Ec} {G : Gc}  {x0 : Nat}  (C : JC E (VR G 3 0 0 RX10) cX10_of 5 (some .int))  (hs_x0 : x0 < 40)  : ∀ (n : Nat) (x1 : Int32) (x2 : Int32) (S : St), J E (VR G 3 0 0 RX10) 0 0 4 [(0, .ref (gK G x0)), (1, .int x1), (2, .int x2)] [] S (fR_of_v251_4 x0 n x1 x2 S) := by
  intro n
  induction n with
  | zero => intro x1 x2 S; rw [fR_of_v251_4]; exact j_none
  | succ n ih =>
    intro x1 x2 S
    rw [fR_of_v251_4]
    refine j_iload_n (pc := 4) 2 C dX10_of_4 rfl rfl ?_
    refine j_aload_n (pc := 5) 0 C dX10_of_5 rfl rfl ?_
    refine j_slen (pc := 6) C dX10_of_6 q_859 hs_x0 (by omega) (Nat.le_of_ble_eq_true rfl) (Nat.le_of_ble_eq_true rfl) (Nat.le_of_ble_eq_true rfl) ?_
    refine j_icmp_ge (pc := 9) 31 C dX10_of_9 (by decide) ?_ ?_
    ·
      refine j_iload_n (pc := 31) 1 C dX10_of_31 rfl rfl ?_
      exact j_iret C dX10_of_32 rfl (Nat.le_of_ble_eq_true rfl) (Nat.le_of_ble_eq_true rfl)
    ·
      refine j_iload_n (pc := 12) 1 C dX10_of_12 rfl rfl ?_
      refine j_iconst (pc := 13) 5 C dX10_of_13 (by decide) ?_
      refine j_ishl (pc := 14) C dX10_of_14 ?_
      refine j_aload_n (pc := 15) 0 C dX10_of_15 rfl rfl ?_
      refine j_iload_n (pc := 16) 2 C dX10_of_16 rfl rfl ?_
      refine j_schar (pc := 17) C dX10_of_17 q_860 hs_x0 (by omega) (Nat.le_of_ble_eq_true rfl) (Nat.le_of_ble_eq_true rfl) (Nat.le_of_ble_eq_true rfl) ?_
      refine j_bipush (pc := 20) 96 C dX10_of_20 (by decide) ?_
      refine j_isub (pc := 22) C dX10_of_22 ?_
      refine j_ior (pc := 23) C dX10_of_23 ?_
      refine j_nxI (fun v5 => ?_)
      refine j_istore_n (pc := 24) [(1, .int v5), (0, .ref (gK G x0)), (2, .int x2)] C dX10_of_24 rfl (Nat.le_of_ble_eq_true rfl) rfl ?_
      refine j_iinc (pc := 25) 2 (x2 + 1) [(2, .int (x2 + 1)), (1, .int v5), (0, .ref (gK G x0))] C dX10_of_25 rfl rfl (Nat.le_of_ble_eq_true rfl) rfl ?_
      refine j_goto (pc := 28) 4 C dX10_of_28 (by decide) ?_
      refine j_sub [2, 1, 0] rfl ?_
      exact ih v5 (x2 + 1) S
theorem bR_of_v251 {E : Ec} {G : Gc}  {x0 : Nat}  (C : JC E (VR G 3 0 0 RX10) cX10_of 5 (some .int))  (hs_x0 : x0 < 40)   (S : St) : J E (VR G 3 0 0 RX10) 0 0 0 [(0, .ref (gK G x0))] [] S (fR_of_v251 x0  S) := by
  unfold fR_of_v251
  refine j_iconst (pc := 0) 0 C dX10_of_0 (by decide) ?_
  refine j_istore_n (pc := 1) [(1, .int 0), (0, .ref (gK G x0))] C dX10_of_1 rfl (Nat.le_of_ble_eq_true rfl) rfl ?_
  refine j_iconst (pc := 2) 0 C dX10_of_2 (by decide) ?_
  refine j_istore_n (pc := 3) [(2, .int 0), (1, .int 0), (0, .ref (gK G x0))] C dX10_of_3 rfl (Nat.le_of_ble_eq_true rfl) rfl ?_
  refine j_sub [2, 1, 0] rfl ?_
  exact bR_of_v251_4 C hs_x0 FU 0 0 S
theorem cR_of_v251 {l : Launch} {G : Gc} (hfl : l.stackTraces = false) (hW : Wok G wR 26) {x0 : Nat} (hs_x0 : x0 < 40)  (S : St) : Ct l yX10_of (Cond.code yX10_of cX10_of 3 (some .int) :: tblG) 5 0 0 G wR 26 [.ref (gK G x0)] S (fR_of_v251 x0 S) := ct_of (own := RX10) hfl (by decide +kernel) rfl hW (Nat.le_of_ble_eq_true rfl) (fun E hE C => by subst hE; exact bR_of_v251 C hs_x0   S)
theorem rR_of_v251 {E : Ec} {G : Gc} {nL mc ms : Nat} {own : String} {cc : ByteArray} {L : Nat} {ret : Option FieldType} {k n pc ix : Nat} {loc : List (Nat × Value)} {rest : List Value}  {x0 : Nat} {S : St} (hs_x0 : x0 < 40) (C : JC E (VR G nL mc ms own) cc L ret) (hd : decode cc pc = .ok (.invokestatic ix, 3)) (hq : Cond.methodLink own ix yX10_of ∈ tblG) (hL : 5 + 1 ≤ L) (hW : (rest.map fun v => v.category).sum ≤ 8) (hf : k + 0 ≤ mc ∧ n + 0 ≤ ms) : Rn E (VR G nL mc ms own) k n 0 0 pc loc (.ref (gK G x0) :: rest) rest S (fR_of_v251 x0 S) := rn_S (V := VR G nL mc ms own) (As := [.ref (gK G x0)]) (cR_of_v251 C.flags C.wok hs_x0  S) knX10_of q_862  C hd hq hL rfl rfl hW hf

theorem bR_of_v252_4 {E : Ec} {G : Gc}  {x0 : Nat}  (C : JC E (VR G 3 0 0 RX10) cX10_of 5 (some .int))  (hs_x0 : x0 < 40)  : ∀ (n : Nat) (x1 : Int32) (x2 : Int32) (S : St), J E (VR G 3 0 0 RX10) 0 0 4 [(0, .ref (gK G x0)), (1, .int x1), (2, .int x2)] [] S (fR_of_v252_4 x0 n x1 x2 S) := by
  intro n
  induction n with
  | zero => intro x1 x2 S; rw [fR_of_v252_4]; exact j_none
  | succ n ih =>
    intro x1 x2 S
    rw [fR_of_v252_4]
    refine j_iload_n (pc := 4) 2 C dX10_of_4 rfl rfl ?_
    refine j_aload_n (pc := 5) 0 C dX10_of_5 rfl rfl ?_
    refine j_slen (pc := 6) C dX10_of_6 q_859 hs_x0 (by omega) (Nat.le_of_ble_eq_true rfl) (Nat.le_of_ble_eq_true rfl) (Nat.le_of_ble_eq_true rfl) ?_
    refine j_icmp_ge (pc := 9) 31 C dX10_of_9 (by decide) ?_ ?_
    ·
      refine j_iload_n (pc := 31) 1 C dX10_of_31 rfl rfl ?_
      exact j_iret C dX10_of_32 rfl (Nat.le_of_ble_eq_true rfl) (Nat.le_of_ble_eq_true rfl)
    ·
      refine j_iload_n (pc := 12) 1 C dX10_of_12 rfl rfl ?_
      refine j_iconst (pc := 13) 5 C dX10_of_13 (by decide) ?_
      refine j_ishl (pc := 14) C dX10_of_14 ?_
      refine j_aload_n (pc := 15) 0 C dX10_of_15 rfl rfl ?_
      refine j_iload_n (pc := 16) 2 C dX10_of_16 rfl rfl ?_
      refine j_schar (pc := 17) C dX10_of_17 q_860 hs_x0 (by omega) (Nat.le_of_ble_eq_true rfl) (Nat.le_of_ble_eq_true rfl) (Nat.le_of_ble_eq_true rfl) ?_
      refine j_bipush (pc := 20) 96 C dX10_of_20 (by decide) ?_
      refine j_isub (pc := 22) C dX10_of_22 ?_
      refine j_ior (pc := 23) C dX10_of_23 ?_
      refine j_nxI (fun v5 => ?_)
      refine j_istore_n (pc := 24) [(1, .int v5), (0, .ref (gK G x0)), (2, .int x2)] C dX10_of_24 rfl (Nat.le_of_ble_eq_true rfl) rfl ?_
      refine j_iinc (pc := 25) 2 (x2 + 1) [(2, .int (x2 + 1)), (1, .int v5), (0, .ref (gK G x0))] C dX10_of_25 rfl rfl (Nat.le_of_ble_eq_true rfl) rfl ?_
      refine j_goto (pc := 28) 4 C dX10_of_28 (by decide) ?_
      refine j_sub [2, 1, 0] rfl ?_
      exact ih v5 (x2 + 1) S
theorem bR_of_v252 {E : Ec} {G : Gc}  {x0 : Nat}  (C : JC E (VR G 3 0 0 RX10) cX10_of 5 (some .int))  (hs_x0 : x0 < 40)   (S : St) : J E (VR G 3 0 0 RX10) 0 0 0 [(0, .ref (gK G x0))] [] S (fR_of_v252 x0  S) := by
  unfold fR_of_v252
  refine j_iconst (pc := 0) 0 C dX10_of_0 (by decide) ?_
  refine j_istore_n (pc := 1) [(1, .int 0), (0, .ref (gK G x0))] C dX10_of_1 rfl (Nat.le_of_ble_eq_true rfl) rfl ?_
  refine j_iconst (pc := 2) 0 C dX10_of_2 (by decide) ?_
  refine j_istore_n (pc := 3) [(2, .int 0), (1, .int 0), (0, .ref (gK G x0))] C dX10_of_3 rfl (Nat.le_of_ble_eq_true rfl) rfl ?_
  refine j_sub [2, 1, 0] rfl ?_
  exact bR_of_v252_4 C hs_x0 FU 0 0 S
theorem cR_of_v252 {l : Launch} {G : Gc} (hfl : l.stackTraces = false) (hW : Wok G wR 26) {x0 : Nat} (hs_x0 : x0 < 40)  (S : St) : Ct l yX10_of (Cond.code yX10_of cX10_of 3 (some .int) :: tblG) 5 0 0 G wR 26 [.ref (gK G x0)] S (fR_of_v252 x0 S) := ct_of (own := RX10) hfl (by decide +kernel) rfl hW (Nat.le_of_ble_eq_true rfl) (fun E hE C => by subst hE; exact bR_of_v252 C hs_x0   S)
theorem rR_of_v252 {E : Ec} {G : Gc} {nL mc ms : Nat} {own : String} {cc : ByteArray} {L : Nat} {ret : Option FieldType} {k n pc ix : Nat} {loc : List (Nat × Value)} {rest : List Value}  {x0 : Nat} {S : St} (hs_x0 : x0 < 40) (C : JC E (VR G nL mc ms own) cc L ret) (hd : decode cc pc = .ok (.invokestatic ix, 3)) (hq : Cond.methodLink own ix yX10_of ∈ tblG) (hL : 5 + 1 ≤ L) (hW : (rest.map fun v => v.category).sum ≤ 8) (hf : k + 0 ≤ mc ∧ n + 0 ≤ ms) : Rn E (VR G nL mc ms own) k n 0 0 pc loc (.ref (gK G x0) :: rest) rest S (fR_of_v252 x0 S) := rn_S (V := VR G nL mc ms own) (As := [.ref (gK G x0)]) (cR_of_v252 C.flags C.wok hs_x0  S) knX10_of q_862  C hd hq hL rfl rfl hW hf

theorem bR_of_v253_4 {E : Ec} {G : Gc}  {x0 : Nat}  (C : JC E (VR G 3 0 0 RX10) cX10_of 5 (some .int))  (hs_x0 : x0 < 40)  : ∀ (n : Nat) (x1 : Int32) (x2 : Int32) (S : St), J E (VR G 3 0 0 RX10) 0 0 4 [(0, .ref (gK G x0)), (1, .int x1), (2, .int x2)] [] S (fR_of_v253_4 x0 n x1 x2 S) := by
  intro n
  induction n with
  | zero => intro x1 x2 S; rw [fR_of_v253_4]; exact j_none
  | succ n ih =>
    intro x1 x2 S
    rw [fR_of_v253_4]
    refine j_iload_n (pc := 4) 2 C dX10_of_4 rfl rfl ?_
    refine j_aload_n (pc := 5) 0 C dX10_of_5 rfl rfl ?_
    refine j_slen (pc := 6) C dX10_of_6 q_859 hs_x0 (by omega) (Nat.le_of_ble_eq_true rfl) (Nat.le_of_ble_eq_true rfl) (Nat.le_of_ble_eq_true rfl) ?_
    refine j_icmp_ge (pc := 9) 31 C dX10_of_9 (by decide) ?_ ?_
    ·
      refine j_iload_n (pc := 31) 1 C dX10_of_31 rfl rfl ?_
      exact j_iret C dX10_of_32 rfl (Nat.le_of_ble_eq_true rfl) (Nat.le_of_ble_eq_true rfl)
    ·
      refine j_iload_n (pc := 12) 1 C dX10_of_12 rfl rfl ?_
      refine j_iconst (pc := 13) 5 C dX10_of_13 (by decide) ?_
      refine j_ishl (pc := 14) C dX10_of_14 ?_
      refine j_aload_n (pc := 15) 0 C dX10_of_15 rfl rfl ?_
      refine j_iload_n (pc := 16) 2 C dX10_of_16 rfl rfl ?_
      refine j_schar (pc := 17) C dX10_of_17 q_860 hs_x0 (by omega) (Nat.le_of_ble_eq_true rfl) (Nat.le_of_ble_eq_true rfl) (Nat.le_of_ble_eq_true rfl) ?_
      refine j_bipush (pc := 20) 96 C dX10_of_20 (by decide) ?_
      refine j_isub (pc := 22) C dX10_of_22 ?_
      refine j_ior (pc := 23) C dX10_of_23 ?_
      refine j_nxI (fun v5 => ?_)
      refine j_istore_n (pc := 24) [(1, .int v5), (0, .ref (gK G x0)), (2, .int x2)] C dX10_of_24 rfl (Nat.le_of_ble_eq_true rfl) rfl ?_
      refine j_iinc (pc := 25) 2 (x2 + 1) [(2, .int (x2 + 1)), (1, .int v5), (0, .ref (gK G x0))] C dX10_of_25 rfl rfl (Nat.le_of_ble_eq_true rfl) rfl ?_
      refine j_goto (pc := 28) 4 C dX10_of_28 (by decide) ?_
      refine j_sub [2, 1, 0] rfl ?_
      exact ih v5 (x2 + 1) S
theorem bR_of_v253 {E : Ec} {G : Gc}  {x0 : Nat}  (C : JC E (VR G 3 0 0 RX10) cX10_of 5 (some .int))  (hs_x0 : x0 < 40)   (S : St) : J E (VR G 3 0 0 RX10) 0 0 0 [(0, .ref (gK G x0))] [] S (fR_of_v253 x0  S) := by
  unfold fR_of_v253
  refine j_iconst (pc := 0) 0 C dX10_of_0 (by decide) ?_
  refine j_istore_n (pc := 1) [(1, .int 0), (0, .ref (gK G x0))] C dX10_of_1 rfl (Nat.le_of_ble_eq_true rfl) rfl ?_
  refine j_iconst (pc := 2) 0 C dX10_of_2 (by decide) ?_
  refine j_istore_n (pc := 3) [(2, .int 0), (1, .int 0), (0, .ref (gK G x0))] C dX10_of_3 rfl (Nat.le_of_ble_eq_true rfl) rfl ?_
  refine j_sub [2, 1, 0] rfl ?_
  exact bR_of_v253_4 C hs_x0 FU 0 0 S
theorem cR_of_v253 {l : Launch} {G : Gc} (hfl : l.stackTraces = false) (hW : Wok G wR 26) {x0 : Nat} (hs_x0 : x0 < 40)  (S : St) : Ct l yX10_of (Cond.code yX10_of cX10_of 3 (some .int) :: tblG) 5 0 0 G wR 26 [.ref (gK G x0)] S (fR_of_v253 x0 S) := ct_of (own := RX10) hfl (by decide +kernel) rfl hW (Nat.le_of_ble_eq_true rfl) (fun E hE C => by subst hE; exact bR_of_v253 C hs_x0   S)
theorem rR_of_v253 {E : Ec} {G : Gc} {nL mc ms : Nat} {own : String} {cc : ByteArray} {L : Nat} {ret : Option FieldType} {k n pc ix : Nat} {loc : List (Nat × Value)} {rest : List Value}  {x0 : Nat} {S : St} (hs_x0 : x0 < 40) (C : JC E (VR G nL mc ms own) cc L ret) (hd : decode cc pc = .ok (.invokestatic ix, 3)) (hq : Cond.methodLink own ix yX10_of ∈ tblG) (hL : 5 + 1 ≤ L) (hW : (rest.map fun v => v.category).sum ≤ 8) (hf : k + 0 ≤ mc ∧ n + 0 ≤ ms) : Rn E (VR G nL mc ms own) k n 0 0 pc loc (.ref (gK G x0) :: rest) rest S (fR_of_v253 x0 S) := rn_S (V := VR G nL mc ms own) (As := [.ref (gK G x0)]) (cR_of_v253 C.flags C.wok hs_x0  S) knX10_of q_862  C hd hq hL rfl rfl hW hf

theorem knX10_stepOf : Kn yX10_stepOf cX10_stepOf 1 (some .int) 1 := ⟨q_967, q_815, by decide +kernel, by decide⟩
theorem bR_stepOf {E : Ec} {G : Gc}    (C : JC E (VR G 1 0 0 RX10) cX10_stepOf 6 (some .int))    (x0 : Int32) (S : St) : J E (VR G 1 0 0 RX10) 0 0 0 [(0, .int x0)] [] S (fR_stepOf  x0 S) := by
  unfold fR_stepOf
  refine j_iload_n (pc := 0) 0 C dX10_stepOf_0 rfl rfl ?_
  refine j_ldcSW (pc := 1) 35 C dX10_stepOf_1 rfl rfl rfl ?_
  refine j_callI0 (pc := 4) C (rR_of_v249 (by decide) C dX10_stepOf_4 q_863 (by omega) (Nat.le_of_ble_eq_true rfl) ⟨Nat.le_of_ble_eq_true rfl, Nat.le_of_ble_eq_true rfl⟩) ⟨Nat.le_of_ble_eq_true rfl, Nat.le_of_ble_eq_true rfl⟩ (fun r2 T1 => ?_)
  refine j_icmp_ne (pc := 7) 14 C dX10_stepOf_7 (by decide) ?_ ?_
  ·
    refine j_iload_n (pc := 14) 0 C dX10_stepOf_14 rfl rfl ?_
    refine j_ldcSW (pc := 15) 36 C dX10_stepOf_15 rfl rfl rfl ?_
    refine j_callI0 (pc := 18) C (rR_of_v250 (by decide) C dX10_stepOf_18 q_863 (by omega) (Nat.le_of_ble_eq_true rfl) ⟨Nat.le_of_ble_eq_true rfl, Nat.le_of_ble_eq_true rfl⟩) ⟨Nat.le_of_ble_eq_true rfl, Nat.le_of_ble_eq_true rfl⟩ (fun r4 T3 => ?_)
    refine j_icmp_ne (pc := 21) 28 C dX10_stepOf_21 (by decide) ?_ ?_
    ·
      refine j_iload_n (pc := 28) 0 C dX10_stepOf_28 rfl rfl ?_
      refine j_ldcSW (pc := 29) 37 C dX10_stepOf_29 rfl rfl rfl ?_
      refine j_callI0 (pc := 32) C (rR_of_v251 (by decide) C dX10_stepOf_32 q_863 (by omega) (Nat.le_of_ble_eq_true rfl) ⟨Nat.le_of_ble_eq_true rfl, Nat.le_of_ble_eq_true rfl⟩) ⟨Nat.le_of_ble_eq_true rfl, Nat.le_of_ble_eq_true rfl⟩ (fun r6 T5 => ?_)
      refine j_icmp_ne (pc := 35) 42 C dX10_stepOf_35 (by decide) ?_ ?_
      ·
        refine j_iload_n (pc := 42) 0 C dX10_stepOf_42 rfl rfl ?_
        refine j_ldcSW (pc := 43) 38 C dX10_stepOf_43 rfl rfl rfl ?_
        refine j_callI0 (pc := 46) C (rR_of_v252 (by decide) C dX10_stepOf_46 q_863 (by omega) (Nat.le_of_ble_eq_true rfl) ⟨Nat.le_of_ble_eq_true rfl, Nat.le_of_ble_eq_true rfl⟩) ⟨Nat.le_of_ble_eq_true rfl, Nat.le_of_ble_eq_true rfl⟩ (fun r8 T7 => ?_)
        refine j_icmp_ne (pc := 49) 56 C dX10_stepOf_49 (by decide) ?_ ?_
        ·
          refine j_iload_n (pc := 56) 0 C dX10_stepOf_56 rfl rfl ?_
          refine j_ldcSW (pc := 57) 34 C dX10_stepOf_57 rfl rfl rfl ?_
          refine j_callI0 (pc := 60) C (rR_of_v240 (by decide) C dX10_stepOf_60 q_863 (by omega) (Nat.le_of_ble_eq_true rfl) ⟨Nat.le_of_ble_eq_true rfl, Nat.le_of_ble_eq_true rfl⟩) ⟨Nat.le_of_ble_eq_true rfl, Nat.le_of_ble_eq_true rfl⟩ (fun r10 T9 => ?_)
          refine j_icmp_ne (pc := 63) 70 C dX10_stepOf_63 (by decide) ?_ ?_
          ·
            refine j_iload_n (pc := 70) 0 C dX10_stepOf_70 rfl rfl ?_
            refine j_ldcSW (pc := 71) 39 C dX10_stepOf_71 rfl rfl rfl ?_
            refine j_callI0 (pc := 74) C (rR_of_v253 (by decide) C dX10_stepOf_74 q_863 (by omega) (Nat.le_of_ble_eq_true rfl) ⟨Nat.le_of_ble_eq_true rfl, Nat.le_of_ble_eq_true rfl⟩) ⟨Nat.le_of_ble_eq_true rfl, Nat.le_of_ble_eq_true rfl⟩ (fun r12 T11 => ?_)
            refine j_icmp_ne (pc := 77) 84 C dX10_stepOf_77 (by decide) ?_ ?_
            ·
              refine j_iconst (pc := 84) (-1) C dX10_stepOf_84 (by decide) ?_
              exact j_iret C dX10_stepOf_85 rfl (Nat.le_of_ble_eq_true rfl) (Nat.le_of_ble_eq_true rfl)
            ·
              refine j_iconst (pc := 80) 5 C dX10_stepOf_80 (by decide) ?_
              refine j_goto (pc := 81) 85 C dX10_stepOf_81 (by decide) ?_
              exact j_iret C dX10_stepOf_85 rfl (Nat.le_of_ble_eq_true rfl) (Nat.le_of_ble_eq_true rfl)
          ·
            refine j_iconst (pc := 66) 4 C dX10_stepOf_66 (by decide) ?_
            refine j_goto (pc := 67) 85 C dX10_stepOf_67 (by decide) ?_
            exact j_iret C dX10_stepOf_85 rfl (Nat.le_of_ble_eq_true rfl) (Nat.le_of_ble_eq_true rfl)
        ·
          refine j_iconst (pc := 52) 3 C dX10_stepOf_52 (by decide) ?_
          refine j_goto (pc := 53) 85 C dX10_stepOf_53 (by decide) ?_
          exact j_iret C dX10_stepOf_85 rfl (Nat.le_of_ble_eq_true rfl) (Nat.le_of_ble_eq_true rfl)
      ·
        refine j_iconst (pc := 38) 2 C dX10_stepOf_38 (by decide) ?_
        refine j_goto (pc := 39) 85 C dX10_stepOf_39 (by decide) ?_
        exact j_iret C dX10_stepOf_85 rfl (Nat.le_of_ble_eq_true rfl) (Nat.le_of_ble_eq_true rfl)
    ·
      refine j_iconst (pc := 24) 1 C dX10_stepOf_24 (by decide) ?_
      refine j_goto (pc := 25) 85 C dX10_stepOf_25 (by decide) ?_
      exact j_iret C dX10_stepOf_85 rfl (Nat.le_of_ble_eq_true rfl) (Nat.le_of_ble_eq_true rfl)
  ·
    refine j_iconst (pc := 10) 0 C dX10_stepOf_10 (by decide) ?_
    refine j_goto (pc := 11) 85 C dX10_stepOf_11 (by decide) ?_
    exact j_iret C dX10_stepOf_85 rfl (Nat.le_of_ble_eq_true rfl) (Nat.le_of_ble_eq_true rfl)
theorem cR_stepOf {l : Launch} {G : Gc} (hfl : l.stackTraces = false) (hW : Wok G wR 26)   (x0 : Int32) (S : St) : Ct l yX10_stepOf (Cond.code yX10_stepOf cX10_stepOf 1 (some .int) :: tblG) 6 0 0 G wR 26 [.int x0] S (fR_stepOf x0 S) := ct_of (own := RX10) hfl (by decide +kernel) rfl hW (Nat.le_of_ble_eq_true rfl) (fun E hE C => by subst hE; exact bR_stepOf C   x0 S)
theorem rR_stepOf {E : Ec} {G : Gc} {nL mc ms : Nat} {own : String} {cc : ByteArray} {L : Nat} {ret : Option FieldType} {k n pc ix : Nat} {loc : List (Nat × Value)} {rest : List Value}  {x0 : Int32} {S : St}  (C : JC E (VR G nL mc ms own) cc L ret) (hd : decode cc pc = .ok (.invokestatic ix, 3)) (hq : Cond.methodLink own ix yX10_stepOf ∈ tblG) (hL : 6 + 1 ≤ L) (hW : (rest.map fun v => v.category).sum ≤ 8) (hf : k + 0 ≤ mc ∧ n + 0 ≤ ms) : Rn E (VR G nL mc ms own) k n 0 0 pc loc (.int x0 :: rest) rest S (fR_stepOf x0 S) := rn_S (V := VR G nL mc ms own) (As := [.int x0]) (cR_stepOf C.flags C.wok  x0 S) knX10_stepOf q_968  C hd hq hL rfl rfl hW hf

theorem knX10_tellsStep : Kn yX10_tellsStep cX10_tellsStep 4 none 3 := ⟨q_971, q_815, by decide +kernel, by decide⟩
theorem bR_tellsStep {E : Ec} {G : Gc}    (C : JC E (VR G 4 0 0 RX10) cX10_tellsStep 2 none)    (x1 : Int32) (x2 : Int32) (x3 : Int32) (S : St) : J E (VR G 4 0 0 RX10) 0 0 0 [(0, .ref (gA G 0)), (1, .int x1), (2, .int x2), (3, .int x3)] [] S (fR_tellsStep  x1 x2 x3 S) := by
  unfold fR_tellsStep
  refine j_aload_n (pc := 0) 0 C dX10_tellsStep_0 rfl rfl ?_
  refine j_callI0 (pc := 1) C (rR_fine C dX10_tellsStep_1 q_843 (by omega) (Nat.le_of_ble_eq_true rfl) ⟨Nat.le_of_ble_eq_true rfl, Nat.le_of_ble_eq_true rfl⟩) ⟨Nat.le_of_ble_eq_true rfl, Nat.le_of_ble_eq_true rfl⟩ (fun r2 T1 => ?_)
  refine j_if_ne (pc := 4) 8 C dX10_tellsStep_4 (by decide) ?_ ?_
  ·
    refine j_aload_n (pc := 8) 0 C dX10_tellsStep_8 rfl rfl ?_
    refine gR_0_32 (pc := 9) C dX10_tellsStep_9 q_970 ?_
    refine j_aload_n (pc := 12) 0 C dX10_tellsStep_12 rfl rfl ?_
    refine gR_0_34 (pc := 13) C dX10_tellsStep_13 q_966 ?_
    refine j_iload_n (pc := 16) 1 C dX10_tellsStep_16 rfl rfl ?_
    refine sR_15 (pc := 17) C dX10_tellsStep_17 ?_
    refine j_nxS (fun T3 => ?_)
    refine j_aload_n (pc := 18) 0 C dX10_tellsStep_18 rfl rfl ?_
    refine gR_0_32 (pc := 19) C dX10_tellsStep_19 q_970 ?_
    refine j_aload_n (pc := 22) 0 C dX10_tellsStep_22 rfl rfl ?_
    refine gR_0_34 (pc := 23) C dX10_tellsStep_23 q_966 ?_
    refine j_iconst (pc := 26) 1 C dX10_tellsStep_26 (by decide) ?_
    refine j_iadd (pc := 27) C dX10_tellsStep_27 ?_
    refine j_iload_n (pc := 28) 2 C dX10_tellsStep_28 rfl rfl ?_
    refine sR_15 (pc := 29) C dX10_tellsStep_29 ?_
    refine j_nxS (fun T4 => ?_)
    refine j_aload_n (pc := 30) 0 C dX10_tellsStep_30 rfl rfl ?_
    refine gR_0_32 (pc := 31) C dX10_tellsStep_31 q_970 ?_
    refine j_aload_n (pc := 34) 0 C dX10_tellsStep_34 rfl rfl ?_
    refine gR_0_34 (pc := 35) C dX10_tellsStep_35 q_966 ?_
    refine j_iconst (pc := 38) 2 C dX10_tellsStep_38 (by decide) ?_
    refine j_iadd (pc := 39) C dX10_tellsStep_39 ?_
    refine j_iload_n (pc := 40) 3 C dX10_tellsStep_40 rfl rfl ?_
    refine sR_15 (pc := 41) C dX10_tellsStep_41 ?_
    refine j_nxS (fun T5 => ?_)
    refine j_aload_n (pc := 42) 0 C dX10_tellsStep_42 rfl rfl ?_
    refine j_dup (pc := 43) C dX10_tellsStep_43 rfl ?_
    refine gR_0_34 (pc := 44) C dX10_tellsStep_44 q_966 ?_
    refine j_iconst (pc := 47) 3 C dX10_tellsStep_47 (by decide) ?_
    refine j_iadd (pc := 48) C dX10_tellsStep_48 ?_
    refine pR_0_34 (pc := 49) C dX10_tellsStep_49 q_966 ?_
    refine j_nxS (fun T6 => ?_)
    exact j_vret C dX10_tellsStep_52 rfl (Nat.le_of_ble_eq_true rfl) (Nat.le_of_ble_eq_true rfl)
  ·
    exact j_vret C dX10_tellsStep_7 rfl (Nat.le_of_ble_eq_true rfl) (Nat.le_of_ble_eq_true rfl)
theorem cR_tellsStep {l : Launch} {G : Gc} (hfl : l.stackTraces = false) (hW : Wok G wR 26)   (x1 : Int32) (x2 : Int32) (x3 : Int32) (S : St) : Ct l yX10_tellsStep (Cond.code yX10_tellsStep cX10_tellsStep 4 none :: tblG) 2 0 0 G wR 26 [.ref (gA G 0), .int x1, .int x2, .int x3] S (fR_tellsStep x1 x2 x3 S) := ct_of (own := RX10) hfl (by decide +kernel) rfl hW (Nat.le_of_ble_eq_true rfl) (fun E hE C => by subst hE; exact bR_tellsStep C   x1 x2 x3 S)
theorem rR_tellsStep {E : Ec} {G : Gc} {nL mc ms : Nat} {own : String} {cc : ByteArray} {L : Nat} {ret : Option FieldType} {k n pc ix : Nat} {loc : List (Nat × Value)} {rest : List Value}  {x1 : Int32} {x2 : Int32} {x3 : Int32} {S : St}  (C : JC E (VR G nL mc ms own) cc L ret) (hd : decode cc pc = .ok (.invokevirtual ix, 3)) (hq : Cond.methodLink own ix yX10_tellsStep ∈ tblG) (hL : 2 + 1 ≤ L) (hW : (rest.map fun v => v.category).sum ≤ 8) (hf : k + 0 ≤ mc ∧ n + 0 ≤ ms) : Rn E (VR G nL mc ms own) k n 0 0 pc loc (.int x3 :: .int x2 :: .int x1 :: .ref (gA G 0) :: rest) rest S (fR_tellsStep x1 x2 x3 S) := rn_V (ci := 10) 0 (V := VR G nL mc ms own) (As := [.int x1, .int x2, .int x3]) (Cq := (RX10, TX10, 53)) (cR_tellsStep C.flags C.wok  x1 x2 x3 S) knX10_tellsStep ⟨q_972, q_973⟩ rfl rfl C hd hq hL rfl rfl hW hf

theorem knX10_readStep : Kn yX10_readStep cX10_readStep 4 none 0 := ⟨q_976, q_815, by decide +kernel, by decide⟩
theorem rgR_readStep {E : Ec} {G : Gc} {nL mc ms : Nat} {own : String} {cc : ByteArray} {L : Nat} {ret : Option FieldType} {k n pc ix : Nat} {loc : List (Nat × Value)} {rest : List Value} {rc : St → Oz} {x : Nat}  {S : St} (hrc : ∀  (S : St), Ct E.2.1 yX10_readStep (Cond.code yX10_readStep cX10_readStep 4 none :: tblG) x 0 0 G wR 26 [.ref (gA G 0)] S (rc  S)) (C : JC E (VR G nL mc ms own) cc L ret) (hd : decode cc pc = .ok (.invokevirtual ix, 3)) (hq : Cond.methodLink own ix yX10_readStep ∈ tblG) (hL : x + 1 ≤ L) (hW : (rest.map fun v => v.category).sum ≤ 8) (hf : k + 0 ≤ mc ∧ n + 0 ≤ ms) : Rn E (VR G nL mc ms own) k n 0 0 pc loc (.ref (gA G 0) :: rest) rest S (rc  S) := rn_V (V := VR G nL mc ms own) (ci := 10) 0 (As := []) (Cq := (RX10, TX10, 53)) (hrc  S) knX10_readStep ⟨q_977, q_978⟩ rfl rfl C hd hq hL rfl rfl hW hf

