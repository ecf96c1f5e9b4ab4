theorem knX6_put : Kn yX6_put cX6_put 3 none 1 := ⟨q_34, q_35, by decide +kernel, by decide⟩
theorem bC_Tape_put_3 {E : Ec} {G : Gc}    (C : JC E (VC G 3 0 0 RX6) cX6_put 1 none)    : ∀ (n : Nat) (x1 : Int32) (x2 : Int32) (S : St), J E (VC G 3 0 0 RX6) 0 0 3 [(0, .ref (gA G 1)), (1, .int x1), (2, .int x2)] [] S (fC_Tape_put_3  n x1 x2 S) := by
  intro n
  induction n with
  | zero => intro x1 x2 S; rw [fC_Tape_put_3]; exact j_none
  | succ n ih =>
    intro x1 x2 S
    rw [fC_Tape_put_3]
    refine j_iload_n (pc := 3) 2 C dX6_put_3 rfl rfl ?_
    refine j_if_lt (pc := 4) 49 C dX6_put_4 (by decide) ?_ ?_
    ·
      exact j_vret C dX6_put_49 rfl (Nat.le_of_ble_eq_true rfl) (Nat.le_of_ble_eq_true rfl)
    ·
      refine j_aload_n (pc := 7) 0 C dX6_put_7 rfl rfl ?_
      refine gC_1_1 (pc := 8) C dX6_put_8 q_32 ?_
      refine j_sipush (pc := 11) 600 C dX6_put_11 (by decide) ?_
      refine j_icmp_ge (pc := 14) 43 C dX6_put_14 (by decide) ?_ ?_
      ·
        refine j_iinc (pc := 43) 2 (x2 + (-8)) [(2, .int (x2 + (-8))), (0, .ref (gA G 1)), (1, .int x1)] C dX6_put_43 rfl rfl (Nat.le_of_ble_eq_true rfl) rfl ?_
        refine j_goto (pc := 46) 3 C dX6_put_46 (by decide) ?_
        refine j_sub [1, 2, 0] rfl ?_
        exact ih x1 (x2 + (-8)) S
      ·
        refine j_aload_n (pc := 17) 0 C dX6_put_17 rfl rfl ?_
        refine gC_1_0 (pc := 18) C dX6_put_18 q_33 ?_
        refine j_aload_n (pc := 21) 0 C dX6_put_21 rfl rfl ?_
        refine gC_1_1 (pc := 22) C dX6_put_22 q_32 ?_
        refine j_iload_n (pc := 25) 1 C dX6_put_25 rfl rfl ?_
        refine j_iload_n (pc := 26) 2 C dX6_put_26 rfl rfl ?_
        refine j_iushr (pc := 27) C dX6_put_27 ?_
        refine j_sipush (pc := 28) 255 C dX6_put_28 (by decide) ?_
        refine j_iand (pc := 31) C dX6_put_31 ?_
        refine sC_14 (pc := 32) C dX6_put_32 ?_
        refine j_nxS (fun T1 => ?_)
        refine j_aload_n (pc := 33) 0 C dX6_put_33 rfl rfl ?_
        refine j_dup (pc := 34) C dX6_put_34 rfl ?_
        refine gC_1_1 (pc := 35) C dX6_put_35 q_32 ?_
        refine j_iconst (pc := 38) 1 C dX6_put_38 (by decide) ?_
        refine j_iadd (pc := 39) C dX6_put_39 ?_
        refine pC_1_1 (pc := 40) C dX6_put_40 q_32 ?_
        refine j_nxS (fun T2 => ?_)
        refine j_iinc (pc := 43) 2 (x2 + (-8)) [(2, .int (x2 + (-8))), (0, .ref (gA G 1)), (1, .int x1)] C dX6_put_43 rfl rfl (Nat.le_of_ble_eq_true rfl) rfl ?_
        refine j_goto (pc := 46) 3 C dX6_put_46 (by decide) ?_
        refine j_sub [1, 2, 0] rfl ?_
        exact ih x1 (x2 + (-8)) T2
theorem bC_Tape_put {E : Ec} {G : Gc}    (C : JC E (VC G 3 0 0 RX6) cX6_put 1 none)    (x1 : Int32) (S : St) : J E (VC G 3 0 0 RX6) 0 0 0 [(0, .ref (gA G 1)), (1, .int x1)] [] S (fC_Tape_put  x1 S) := by
  unfold fC_Tape_put
  refine j_bipush (pc := 0) 24 C dX6_put_0 (by decide) ?_
  refine j_istore_n (pc := 2) [(2, .int 24), (0, .ref (gA G 1)), (1, .int x1)] C dX6_put_2 rfl (Nat.le_of_ble_eq_true rfl) rfl ?_
  refine j_sub [1, 2, 0] rfl ?_
  exact bC_Tape_put_3 C  FU x1 24 S
theorem cC_Tape_put {l : Launch} {G : Gc} (hfl : l.stackTraces = false) (hW : Wok G wC 54)   (x1 : Int32) (S : St) : Ct l yX6_put (Cond.code yX6_put cX6_put 3 none :: tblG) 1 0 0 G wC 54 [.ref (gA G 1), .int x1] S (fC_Tape_put x1 S) := ct_of (own := RX6) hfl (by decide +kernel) rfl hW (Nat.le_of_ble_eq_true rfl) (fun E hE C => by subst hE; exact bC_Tape_put C   x1 S)
theorem rC_Tape_put {E : Ec} {G : Gc} {nL mc ms : Nat} {own : String} {cc : ByteArray} {L : Nat} {ret : Option FieldType} {k n pc ix : Nat} {loc : List (Nat × Value)} {rest : List Value}  {x1 : Int32} {S : St}  (C : JC E (VC G nL mc ms own) cc L ret) (hd : decode cc pc = .ok (.invokevirtual ix, 3)) (hq : Cond.methodLink own ix yX6_put ∈ tblG) (hL : 1 + 1 ≤ L) (hW : (rest.map fun v => v.category).sum ≤ 8) (hf : k + 0 ≤ mc ∧ n + 0 ≤ ms) : Rn E (VC G nL mc ms own) k n 0 0 pc loc (.int x1 :: .ref (gA G 1) :: rest) rest S (fC_Tape_put x1 S) := rn_V (ci := 6) 1 (V := VC G nL mc ms own) (As := [.int x1]) (Cq := (RX6, TX6, 8)) (cC_Tape_put C.flags C.wok  x1 S) knX6_put ⟨q_36, q_37⟩ rfl rfl C hd hq hL rfl rfl hW hf

theorem knX9_feed : Kn yX9_feed cX9_feed 6 (some .int) 5 := ⟨q_39, q_40, by decide +kernel, by decide⟩
theorem bC_Main_feed {E : Ec} {G : Gc}    (C : JC E (VC G 6 0 0 RX9) cX9_feed 2 (some .int))    (x1 : Int32) (x2 : Int32) (x3 : Int32) (x4 : Int32) (x5 : Int32) (S : St) : J E (VC G 6 0 0 RX9) 0 0 0 [(0, .ref (gA G 0)), (1, .int x1), (2, .int x2), (3, .int x3), (4, .int x4), (5, .int x5)] [] S (fC_Main_feed  x1 x2 x3 x4 x5 S) := by
  unfold fC_Main_feed
  refine j_aload_n (pc := 0) 0 C dX9_feed_0 rfl rfl ?_
  refine gC_0_0 (pc := 1) C dX9_feed_1 q_30 ?_
  refine gC_1_1 (pc := 4) C dX9_feed_4 q_31 ?_
  refine j_bipush (pc := 7) 20 C dX9_feed_7 (by decide) ?_
  refine j_iadd (pc := 9) C dX9_feed_9 ?_
  refine j_sipush (pc := 10) 600 C dX9_feed_10 (by decide) ?_
  refine j_icmp_le (pc := 13) 18 C dX9_feed_13 (by decide) ?_ ?_
  ·
    refine j_aload_n (pc := 18) 0 C dX9_feed_18 rfl rfl ?_
    refine gC_0_0 (pc := 19) C dX9_feed_19 q_30 ?_
    refine j_iload_n (pc := 22) 1 C dX9_feed_22 rfl rfl ?_
    refine j_callv0 (pc := 23) C (rC_Tape_put C dX9_feed_23 q_38 (by omega) (Nat.le_of_ble_eq_true rfl) ⟨Nat.le_of_ble_eq_true rfl, Nat.le_of_ble_eq_true rfl⟩) ⟨Nat.le_of_ble_eq_true rfl, Nat.le_of_ble_eq_true rfl⟩ (fun T1 => ?_)
    refine j_aload_n (pc := 26) 0 C dX9_feed_26 rfl rfl ?_
    refine gC_0_0 (pc := 27) C dX9_feed_27 q_30 ?_
    refine j_iload_n (pc := 30) 2 C dX9_feed_30 rfl rfl ?_
    refine j_callv0 (pc := 31) C (rC_Tape_put C dX9_feed_31 q_38 (by omega) (Nat.le_of_ble_eq_true rfl) ⟨Nat.le_of_ble_eq_true rfl, Nat.le_of_ble_eq_true rfl⟩) ⟨Nat.le_of_ble_eq_true rfl, Nat.le_of_ble_eq_true rfl⟩ (fun T3 => ?_)
    refine j_aload_n (pc := 34) 0 C dX9_feed_34 rfl rfl ?_
    refine gC_0_0 (pc := 35) C dX9_feed_35 q_30 ?_
    refine j_iload_n (pc := 38) 3 C dX9_feed_38 rfl rfl ?_
    refine j_callv0 (pc := 39) C (rC_Tape_put C dX9_feed_39 q_38 (by omega) (Nat.le_of_ble_eq_true rfl) ⟨Nat.le_of_ble_eq_true rfl, Nat.le_of_ble_eq_true rfl⟩) ⟨Nat.le_of_ble_eq_true rfl, Nat.le_of_ble_eq_true rfl⟩ (fun T5 => ?_)
    refine j_aload_n (pc := 42) 0 C dX9_feed_42 rfl rfl ?_
    refine gC_0_0 (pc := 43) C dX9_feed_43 q_30 ?_
    refine j_iload (pc := 46) 4 C dX9_feed_46 rfl ?_
    refine j_callv0 (pc := 48) C (rC_Tape_put C dX9_feed_48 q_38 (by omega) (Nat.le_of_ble_eq_true rfl) ⟨Nat.le_of_ble_eq_true rfl, Nat.le_of_ble_eq_true rfl⟩) ⟨Nat.le_of_ble_eq_true rfl, Nat.le_of_ble_eq_true rfl⟩ (fun T7 => ?_)
    refine j_aload_n (pc := 51) 0 C dX9_feed_51 rfl rfl ?_
    refine gC_0_0 (pc := 52) C dX9_feed_52 q_30 ?_
    refine j_iload (pc := 55) 5 C dX9_feed_55 rfl ?_
    refine j_callv0 (pc := 57) C (rC_Tape_put C dX9_feed_57 q_38 (by omega) (Nat.le_of_ble_eq_true rfl) ⟨Nat.le_of_ble_eq_true rfl, Nat.le_of_ble_eq_true rfl⟩) ⟨Nat.le_of_ble_eq_true rfl, Nat.le_of_ble_eq_true rfl⟩ (fun T9 => ?_)
    refine j_aload_n (pc := 60) 0 C dX9_feed_60 rfl rfl ?_
    refine gC_0_0 (pc := 61) C dX9_feed_61 q_30 ?_
    refine gC_1_1 (pc := 64) C dX9_feed_64 q_31 ?_
    exact j_iret C dX9_feed_67 rfl (Nat.le_of_ble_eq_true rfl) (Nat.le_of_ble_eq_true rfl)
  ·
    refine j_iconst (pc := 16) (-1) C dX9_feed_16 (by decide) ?_
    exact j_iret C dX9_feed_17 rfl (Nat.le_of_ble_eq_true rfl) (Nat.le_of_ble_eq_true rfl)
theorem cC_Main_feed {l : Launch} {G : Gc} (hfl : l.stackTraces = false) (hW : Wok G wC 54)   (x1 : Int32) (x2 : Int32) (x3 : Int32) (x4 : Int32) (x5 : Int32) (S : St) : Ct l yX9_feed (Cond.code yX9_feed cX9_feed 6 (some .int) :: tblG) 2 0 0 G wC 54 [.ref (gA G 0), .int x1, .int x2, .int x3, .int x4, .int x5] S (fC_Main_feed x1 x2 x3 x4 x5 S) := ct_of (own := RX9) hfl (by decide +kernel) rfl hW (Nat.le_of_ble_eq_true rfl) (fun E hE C => by subst hE; exact bC_Main_feed C   x1 x2 x3 x4 x5 S)
theorem rC_Main_feed {E : Ec} {G : Gc} {nL mc ms : Nat} {own : String} {cc : ByteArray} {L : Nat} {ret : Option FieldType} {k n pc ix : Nat} {loc : List (Nat × Value)} {rest : List Value}  {x1 : Int32} {x2 : Int32} {x3 : Int32} {x4 : Int32} {x5 : Int32} {S : St}  (C : JC E (VC G nL mc ms own) cc L ret) (hd : decode cc pc = .ok (.invokevirtual ix, 3)) (hq : Cond.methodLink own ix yX9_feed ∈ tblG) (hL : 2 + 1 ≤ L) (hW : (rest.map fun v => v.category).sum ≤ 8) (hf : k + 0 ≤ mc ∧ n + 0 ≤ ms) : Rn E (VC G nL mc ms own) k n 0 0 pc loc (.int x5 :: .int x4 :: .int x3 :: .int x2 :: .int x1 :: .ref (gA G 0) :: rest) rest S (fC_Main_feed x1 x2 x3 x4 x5 S) := rn_V (ci := 9) 0 (V := VC G nL mc ms own) (As := [.int x1, .int x2, .int x3, .int x4, .int x5]) (Cq := (RX9, TX9, 15)) (cC_Main_feed C.flags C.wok  x1 x2 x3 x4 x5 S) knX9_feed ⟨q_41, q_42⟩ rfl rfl C hd hq hL rfl rfl hW hf

theorem knX9_isWithin : Kn yX9_isWithin cX9_isWithin 3 (some .boolean) 3 := ⟨q_47, q_40, by decide +kernel, by decide⟩
theorem bC_Main_isWithin {E : Ec} {G : Gc}    (C : JC E (VC G 3 0 0 RX9) cX9_isWithin 1 (some .boolean))    (x0 : Int32) (x1 : Int32) (x2 : Int32) (S : St) : J E (VC G 3 0 0 RX9) 0 0 0 [(0, .int x0), (1, .int x1), (2, .int x2)] [] S (fC_Main_isWithin  x0 x1 x2 S) := by
  unfold fC_Main_isWithin
  refine j_iload_n (pc := 0) 0 C dX9_isWithin_0 rfl rfl ?_
  refine j_iload_n (pc := 1) 1 C dX9_isWithin_1 rfl rfl ?_
  refine j_icmp_lt (pc := 2) 14 C dX9_isWithin_2 (by decide) ?_ ?_
  ·
    refine j_iconst (pc := 14) 0 C dX9_isWithin_14 (by decide) ?_
    exact j_zretc C dX9_isWithin_15 rfl (Nat.le_of_ble_eq_true rfl) (Nat.le_of_ble_eq_true rfl) rfl
  ·
    refine j_iload_n (pc := 5) 0 C dX9_isWithin_5 rfl rfl ?_
    refine j_iload_n (pc := 6) 2 C dX9_isWithin_6 rfl rfl ?_
    refine j_icmp_gt (pc := 7) 14 C dX9_isWithin_7 (by decide) ?_ ?_
    ·
      refine j_iconst (pc := 14) 0 C dX9_isWithin_14 (by decide) ?_
      exact j_zretc C dX9_isWithin_15 rfl (Nat.le_of_ble_eq_true rfl) (Nat.le_of_ble_eq_true rfl) rfl
    ·
      refine j_iconst (pc := 10) 1 C dX9_isWithin_10 (by decide) ?_
      refine j_goto (pc := 11) 15 C dX9_isWithin_11 (by decide) ?_
      exact j_zretc C dX9_isWithin_15 rfl (Nat.le_of_ble_eq_true rfl) (Nat.le_of_ble_eq_true rfl) rfl
theorem cC_Main_isWithin {l : Launch} {G : Gc} (hfl : l.stackTraces = false) (hW : Wok G wC 54)   (x0 : Int32) (x1 : Int32) (x2 : Int32) (S : St) : Ct l yX9_isWithin (Cond.code yX9_isWithin cX9_isWithin 3 (some .boolean) :: tblG) 1 0 0 G wC 54 [.int x0, .int x1, .int x2] S (fC_Main_isWithin x0 x1 x2 S) := ct_of (own := RX9) hfl (by decide +kernel) rfl hW (Nat.le_of_ble_eq_true rfl) (fun E hE C => by subst hE; exact bC_Main_isWithin C   x0 x1 x2 S)
theorem rC_Main_isWithin {E : Ec} {G : Gc} {nL mc ms : Nat} {own : String} {cc : ByteArray} {L : Nat} {ret : Option FieldType} {k n pc ix : Nat} {loc : List (Nat × Value)} {rest : List Value}  {x0 : Int32} {x1 : Int32} {x2 : Int32} {S : St}  (C : JC E (VC G nL mc ms own) cc L ret) (hd : decode cc pc = .ok (.invokestatic ix, 3)) (hq : Cond.methodLink own ix yX9_isWithin ∈ tblG) (hL : 1 + 1 ≤ L) (hW : (rest.map fun v => v.category).sum ≤ 8) (hf : k + 0 ≤ mc ∧ n + 0 ≤ ms) : Rn E (VC G nL mc ms own) k n 0 0 pc loc (.int x2 :: .int x1 :: .int x0 :: rest) rest S (fC_Main_isWithin x0 x1 x2 S) := rn_S (V := VC G nL mc ms own) (As := [.int x0, .int x1, .int x2]) (cC_Main_isWithin C.flags C.wok  x0 x1 x2 S) knX9_isWithin q_48  C hd hq hL rfl rfl hW hf

theorem knX9_refuseArgument : Kn yX9_refuseArgument cX9_refuseArgument 1 (some .int) 0 := ⟨q_53, q_40, by decide +kernel, by decide⟩
theorem bC_Main_refuseArgument {E : Ec} {G : Gc}    (C : JC E (VC G 1 1 6 RX9) cX9_refuseArgument 6 (some .int))     (S : St) : J E (VC G 1 1 6 RX9) 0 0 0 [(0, .ref (gA G 0))] [] S (fC_Main_refuseArgument   S) := by
  unfold fC_Main_refuseArgument
  refine j_aload_n (pc := 0) 0 C dX9_refuseArgument_0 rfl rfl ?_
  refine j_dup (pc := 1) C dX9_refuseArgument_1 rfl ?_
  refine gC_0_14 (pc := 2) C dX9_refuseArgument_2 q_50 ?_
  refine j_iconst (pc := 5) 1 C dX9_refuseArgument_5 (by decide) ?_
  refine j_iadd (pc := 6) C dX9_refuseArgument_6 ?_
  refine pC_0_14 (pc := 7) C dX9_refuseArgument_7 q_50 ?_
  refine j_nxS (fun T1 => ?_)
  exact j_throwSW (kx := 1) (si := 0) C (by decide +kernel) q_51 q_52 rfl rfl rfl hat_IAE hat_IAE2 dX9_refuseArgument_10 dX9_refuseArgument_13 dX9_refuseArgument_14 dX9_refuseArgument_17 dX9_refuseArgument_20 (by omega) (Nat.le_of_ble_eq_true rfl) (Nat.le_of_ble_eq_true rfl) (Nat.le_of_ble_eq_true rfl)
theorem cC_Main_refuseArgument {l : Launch} {G : Gc} (hfl : l.stackTraces = false) (hW : Wok G wC 54)    (S : St) : Ct l yX9_refuseArgument (Cond.code yX9_refuseArgument cX9_refuseArgument 1 (some .int) :: tblG) 6 1 6 G wC 54 [.ref (gA G 0)] S (fC_Main_refuseArgument  S) := ct_of (own := RX9) hfl (by decide +kernel) rfl hW (Nat.le_of_ble_eq_true rfl) (fun E hE C => by subst hE; exact bC_Main_refuseArgument C    S)
theorem rC_Main_refuseArgument {E : Ec} {G : Gc} {nL mc ms : Nat} {own : String} {cc : ByteArray} {L : Nat} {ret : Option FieldType} {k n pc ix : Nat} {loc : List (Nat × Value)} {rest : List Value}   {S : St}  (C : JC E (VC G nL mc ms own) cc L ret) (hd : decode cc pc = .ok (.invokevirtual ix, 3)) (hq : Cond.methodLink own ix yX9_refuseArgument ∈ tblG) (hL : 6 + 1 ≤ L) (hW : (rest.map fun v => v.category).sum ≤ 8) (hf : k + 1 ≤ mc ∧ n + 6 ≤ ms) : Rn E (VC G nL mc ms own) k n 1 6 pc loc (.ref (gA G 0) :: rest) rest S (fC_Main_refuseArgument  S) := rn_V (ci := 9) 0 (V := VC G nL mc ms own) (As := []) (Cq := (RX9, TX9, 15)) (cC_Main_refuseArgument C.flags C.wok   S) knX9_refuseArgument ⟨q_54, q_55⟩ rfl rfl C hd hq hL rfl rfl hW hf

theorem knX9_need : Kn yX9_need cX9_need 2 none 1 := ⟨q_57, q_40, by decide +kernel, by decide⟩
theorem bC_Main_need {E : Ec} {G : Gc}    (C : JC E (VC G 2 1 6 RX9) cX9_need 7 none)    (x1 : Int32) (S : St) : J E (VC G 2 1 6 RX9) 0 0 0 [(0, .ref (gA G 0)), (1, .int x1)] [] S (fC_Main_need  x1 S) := by
  unfold fC_Main_need
  refine j_iload_n (pc := 0) 1 C dX9_need_0 rfl rfl ?_
  refine j_if_ne (pc := 1) 9 C dX9_need_1 (by decide) ?_ ?_
  ·
    exact j_vret C dX9_need_9 rfl (Nat.le_of_ble_eq_true rfl) (Nat.le_of_ble_eq_true rfl)
  ·
    refine j_aload_n (pc := 4) 0 C dX9_need_4 rfl rfl ?_
    refine j_callI (pc := 5) C (rC_Main_refuseArgument C dX9_need_5 q_56 (by omega) (Nat.le_of_ble_eq_true rfl) ⟨Nat.le_of_ble_eq_true rfl, Nat.le_of_ble_eq_true rfl⟩) ⟨Nat.le_of_ble_eq_true rfl, Nat.le_of_ble_eq_true rfl⟩ (fun r2 T1 => ?_)
    refine j_pop (pc := 8) C dX9_need_8 rfl ?_
    exact j_vret C dX9_need_9 rfl (Nat.le_of_ble_eq_true rfl) (Nat.le_of_ble_eq_true rfl)
theorem cC_Main_need {l : Launch} {G : Gc} (hfl : l.stackTraces = false) (hW : Wok G wC 54)   (x1 : Int32) (S : St) : Ct l yX9_need (Cond.code yX9_need cX9_need 2 none :: tblG) 7 1 6 G wC 54 [.ref (gA G 0), .int x1] S (fC_Main_need x1 S) := ct_of (own := RX9) hfl (by decide +kernel) rfl hW (Nat.le_of_ble_eq_true rfl) (fun E hE C => by subst hE; exact bC_Main_need C   x1 S)
theorem rC_Main_need {E : Ec} {G : Gc} {nL mc ms : Nat} {own : String} {cc : ByteArray} {L : Nat} {ret : Option FieldType} {k n pc ix : Nat} {loc : List (Nat × Value)} {rest : List Value}  {x1 : Int32} {S : St}  (C : JC E (VC G nL mc ms own) cc L ret) (hd : decode cc pc = .ok (.invokevirtual ix, 3)) (hq : Cond.methodLink own ix yX9_need ∈ tblG) (hL : 7 + 1 ≤ L) (hW : (rest.map fun v => v.category).sum ≤ 8) (hf : k + 1 ≤ mc ∧ n + 6 ≤ ms) : Rn E (VC G nL mc ms own) k n 1 6 pc loc (.int x1 :: .ref (gA G 0) :: rest) rest S (fC_Main_need x1 S) := rn_V (ci := 9) 0 (V := VC G nL mc ms own) (As := [.int x1]) (Cq := (RX9, TX9, 15)) (cC_Main_need C.flags C.wok  x1 S) knX9_need ⟨q_58, q_59⟩ rfl rfl C hd hq hL rfl rfl hW hf

theorem knX6_open : Kn yX6_open cX6_open 2 none 1 := ⟨q_65, q_35, by decide +kernel, by decide⟩
theorem bC_Tape_open {E : Ec} {G : Gc}    (C : JC E (VC G 2 0 0 RX6) cX6_open 1 none)    (x1 : Int32) (S : St) : J E (VC G 2 0 0 RX6) 0 0 0 [(0, .ref (gA G 1)), (1, .int x1)] [] S (fC_Tape_open  x1 S) := by
  unfold fC_Tape_open
  refine j_aload_n (pc := 0) 0 C dX6_open_0 rfl rfl ?_
  refine j_iload_n (pc := 1) 1 C dX6_open_1 rfl rfl ?_
  refine pC_1_5 (pc := 2) C dX6_open_2 q_61 ?_
  refine j_nxS (fun T1 => ?_)
  refine j_aload_n (pc := 5) 0 C dX6_open_5 rfl rfl ?_
  refine j_iconst (pc := 6) 0 C dX6_open_6 (by decide) ?_
  refine pC_1_6 (pc := 7) C dX6_open_7 q_62 ?_
  refine j_nxS (fun T2 => ?_)
  refine j_aload_n (pc := 10) 0 C dX6_open_10 rfl rfl ?_
  refine j_iconst (pc := 11) 0 C dX6_open_11 (by decide) ?_
  refine pC_1_1 (pc := 12) C dX6_open_12 q_32 ?_
  refine j_nxS (fun T3 => ?_)
  refine j_aload_n (pc := 15) 0 C dX6_open_15 rfl rfl ?_
  refine j_iconst (pc := 16) 0 C dX6_open_16 (by decide) ?_
  refine pC_1_2 (pc := 17) C dX6_open_17 q_63 ?_
  refine j_nxS (fun T4 => ?_)
  refine j_aload_n (pc := 20) 0 C dX6_open_20 rfl rfl ?_
  refine j_iconst (pc := 21) (-1) C dX6_open_21 (by decide) ?_
  refine pC_1_3 (pc := 22) C dX6_open_22 q_64 ?_
  refine j_nxS (fun T5 => ?_)
  exact j_vret C dX6_open_25 rfl (Nat.le_of_ble_eq_true rfl) (Nat.le_of_ble_eq_true rfl)
theorem cC_Tape_open {l : Launch} {G : Gc} (hfl : l.stackTraces = false) (hW : Wok G wC 54)   (x1 : Int32) (S : St) : Ct l yX6_open (Cond.code yX6_open cX6_open 2 none :: tblG) 1 0 0 G wC 54 [.ref (gA G 1), .int x1] S (fC_Tape_open x1 S) := ct_of (own := RX6) hfl (by decide +kernel) rfl hW (Nat.le_of_ble_eq_true rfl) (fun E hE C => by subst hE; exact bC_Tape_open C   x1 S)
theorem rC_Tape_open {E : Ec} {G : Gc} {nL mc ms : Nat} {own : String} {cc : ByteArray} {L : Nat} {ret : Option FieldType} {k n pc ix : Nat} {loc : List (Nat × Value)} {rest : List Value}  {x1 : Int32} {S : St}  (C : JC E (VC G nL mc ms own) cc L ret) (hd : decode cc pc = .ok (.invokevirtual ix, 3)) (hq : Cond.methodLink own ix yX6_open ∈ tblG) (hL : 1 + 1 ≤ L) (hW : (rest.map fun v => v.category).sum ≤ 8) (hf : k + 0 ≤ mc ∧ n + 0 ≤ ms) : Rn E (VC G nL mc ms own) k n 0 0 pc loc (.int x1 :: .ref (gA G 1) :: rest) rest S (fC_Tape_open x1 S) := rn_V (ci := 6) 1 (V := VC G nL mc ms own) (As := [.int x1]) (Cq := (RX6, TX6, 8)) (cC_Tape_open C.flags C.wok  x1 S) knX6_open ⟨q_66, q_67⟩ rfl rfl C hd hq hL rfl rfl hW hf

theorem knX9_openText : Kn yX9_openText cX9_openText 3 none 2 := ⟨q_69, q_40, by decide +kernel, by decide⟩
theorem bC_Main_openText {E : Ec} {G : Gc}    (C : JC E (VC G 3 1 6 RX9) cX9_openText 8 none)    (x1 : Int32) (x2 : Int32) (S : St) : J E (VC G 3 1 6 RX9) 0 0 0 [(0, .ref (gA G 0)), (1, .int x1), (2, .int x2)] [] S (fC_Main_openText  x1 x2 S) := by
  unfold fC_Main_openText
  refine j_aload_n (pc := 0) 0 C dX9_openText_0 rfl rfl ?_
  refine j_iload_n (pc := 1) 1 C dX9_openText_1 rfl rfl ?_
  refine j_iconst (pc := 2) 0 C dX9_openText_2 (by decide) ?_
  refine j_iload_n (pc := 3) 2 C dX9_openText_3 rfl rfl ?_
  refine j_aload_n (pc := 4) 0 C dX9_openText_4 rfl rfl ?_
  refine gC_0_0 (pc := 5) C dX9_openText_5 q_30 ?_
  refine gC_1_1 (pc := 8) C dX9_openText_8 q_31 ?_
  refine j_mmin (pc := 11) C dX9_openText_11 q_43 q_44 q_45 q_46 (by omega) (Nat.le_of_ble_eq_true rfl) (Nat.le_of_ble_eq_true rfl) (Nat.le_of_ble_eq_true rfl) ?_
  refine j_callI0 (pc := 14) C (rC_Main_isWithin C dX9_openText_14 q_49 (by omega) (Nat.le_of_ble_eq_true rfl) ⟨Nat.le_of_ble_eq_true rfl, Nat.le_of_ble_eq_true rfl⟩) ⟨Nat.le_of_ble_eq_true rfl, Nat.le_of_ble_eq_true rfl⟩ (fun r2 T1 => ?_)
  refine j_callv (pc := 17) C (rC_Main_need C dX9_openText_17 q_60 (by omega) (Nat.le_of_ble_eq_true rfl) ⟨Nat.le_of_ble_eq_true rfl, Nat.le_of_ble_eq_true rfl⟩) ⟨Nat.le_of_ble_eq_true rfl, Nat.le_of_ble_eq_true rfl⟩ (fun T3 => ?_)
  refine j_aload_n (pc := 20) 0 C dX9_openText_20 rfl rfl ?_
  refine gC_0_0 (pc := 21) C dX9_openText_21 q_30 ?_
  refine j_iload_n (pc := 24) 1 C dX9_openText_24 rfl rfl ?_
  refine j_callv0 (pc := 25) C (rC_Tape_open C dX9_openText_25 q_68 (by omega) (Nat.le_of_ble_eq_true rfl) ⟨Nat.le_of_ble_eq_true rfl, Nat.le_of_ble_eq_true rfl⟩) ⟨Nat.le_of_ble_eq_true rfl, Nat.le_of_ble_eq_true rfl⟩ (fun T5 => ?_)
  exact j_vret C dX9_openText_28 rfl (Nat.le_of_ble_eq_true rfl) (Nat.le_of_ble_eq_true rfl)
theorem cC_Main_openText {l : Launch} {G : Gc} (hfl : l.stackTraces = false) (hW : Wok G wC 54)   (x1 : Int32) (x2 : Int32) (S : St) : Ct l yX9_openText (Cond.code yX9_openText cX9_openText 3 none :: tblG) 8 1 6 G wC 54 [.ref (gA G 0), .int x1, .int x2] S (fC_Main_openText x1 x2 S) := ct_of (own := RX9) hfl (by decide +kernel) rfl hW (Nat.le_of_ble_eq_true rfl) (fun E hE C => by subst hE; exact bC_Main_openText C   x1 x2 S)
theorem rC_Main_openText {E : Ec} {G : Gc} {nL mc ms : Nat} {own : String} {cc : ByteArray} {L : Nat} {ret : Option FieldType} {k n pc ix : Nat} {loc : List (Nat × Value)} {rest : List Value}  {x1 : Int32} {x2 : Int32} {S : St}  (C : JC E (VC G nL mc ms own) cc L ret) (hd : decode cc pc = .ok (.invokevirtual ix, 3)) (hq : Cond.methodLink own ix yX9_openText ∈ tblG) (hL : 8 + 1 ≤ L) (hW : (rest.map fun v => v.category).sum ≤ 8) (hf : k + 1 ≤ mc ∧ n + 6 ≤ ms) : Rn E (VC G nL mc ms own) k n 1 6 pc loc (.int x2 :: .int x1 :: .ref (gA G 0) :: rest) rest S (fC_Main_openText x1 x2 S) := rn_V (ci := 9) 0 (V := VC G nL mc ms own) (As := [.int x1, .int x2]) (Cq := (RX9, TX9, 15)) (cC_Main_openText C.flags C.wok  x1 x2 S) knX9_openText ⟨q_70, q_71⟩ rfl rfl C hd hq hL rfl rfl hW hf

theorem knX6_skipBlanks : Kn yX6_skipBlanks cX6_skipBlanks 1 none 0 := ⟨q_78, q_35, by decide +kernel, by decide⟩
theorem bC_Tape_skipBlanks_0 {E : Ec} {G : Gc}    (C : JC E (VC G 1 0 0 RX6) cX6_skipBlanks 1 none)    : ∀ (n : Nat)  (S : St), J E (VC G 1 0 0 RX6) 0 0 0 [(0, .ref (gA G 1))] [] S (fC_Tape_skipBlanks_0  n  S) := by
  intro n
  induction n with
  | zero => intro  S; rw [fC_Tape_skipBlanks_0]; exact j_none
  | succ n ih =>
    intro  S
    rw [fC_Tape_skipBlanks_0]
    refine j_aload_n (pc := 0) 0 C dX6_skipBlanks_0 rfl rfl ?_
    refine gC_1_6 (pc := 1) C dX6_skipBlanks_1 q_62 ?_
    refine j_aload_n (pc := 4) 0 C dX6_skipBlanks_4 rfl rfl ?_
    refine gC_1_5 (pc := 5) C dX6_skipBlanks_5 q_61 ?_
    refine j_icmp_ge (pc := 8) 38 C dX6_skipBlanks_8 (by decide) ?_ ?_
    ·
      exact j_vret C dX6_skipBlanks_38 rfl (Nat.le_of_ble_eq_true rfl) (Nat.le_of_ble_eq_true rfl)
    ·
      refine j_aload_n (pc := 11) 0 C dX6_skipBlanks_11 rfl rfl ?_
      refine gC_1_0 (pc := 12) C dX6_skipBlanks_12 q_33 ?_
      refine j_aload_n (pc := 15) 0 C dX6_skipBlanks_15 rfl rfl ?_
      refine gC_1_6 (pc := 16) C dX6_skipBlanks_16 q_62 ?_
      refine aC_14 (pc := 19) C dX6_skipBlanks_19 ?_
      refine j_bipush (pc := 20) 32 C dX6_skipBlanks_20 (by decide) ?_
      refine j_icmp_ne (pc := 22) 38 C dX6_skipBlanks_22 (by decide) ?_ ?_
      ·
        exact j_vret C dX6_skipBlanks_38 rfl (Nat.le_of_ble_eq_true rfl) (Nat.le_of_ble_eq_true rfl)
      ·
        refine j_aload_n (pc := 25) 0 C dX6_skipBlanks_25 rfl rfl ?_
        refine j_dup (pc := 26) C dX6_skipBlanks_26 rfl ?_
        refine gC_1_6 (pc := 27) C dX6_skipBlanks_27 q_62 ?_
        refine j_iconst (pc := 30) 1 C dX6_skipBlanks_30 (by decide) ?_
        refine j_iadd (pc := 31) C dX6_skipBlanks_31 ?_
        refine pC_1_6 (pc := 32) C dX6_skipBlanks_32 q_62 ?_
        refine j_nxS (fun T1 => ?_)
        refine j_goto (pc := 35) 0 C dX6_skipBlanks_35 (by decide) ?_
        exact ih  T1
theorem cC_Tape_skipBlanks {l : Launch} {G : Gc} (hfl : l.stackTraces = false) (hW : Wok G wC 54)    (S : St) : Ct l yX6_skipBlanks (Cond.code yX6_skipBlanks cX6_skipBlanks 1 none :: tblG) 1 0 0 G wC 54 [.ref (gA G 1)] S (fC_Tape_skipBlanks  S) := ct_of (own := RX6) hfl (by decide +kernel) rfl hW (Nat.le_of_ble_eq_true rfl) (fun E hE C => by subst hE; exact bC_Tape_skipBlanks_0 C  FU  S)
theorem rC_Tape_skipBlanks {E : Ec} {G : Gc} {nL mc ms : Nat} {own : String} {cc : ByteArray} {L : Nat} {ret : Option FieldType} {k n pc ix : Nat} {loc : List (Nat × Value)} {rest : List Value}   {S : St}  (C : JC E (VC G nL mc ms own) cc L ret) (hd : decode cc pc = .ok (.invokevirtual ix, 3)) (hq : Cond.methodLink own ix yX6_skipBlanks ∈ tblG) (hL : 1 + 1 ≤ L) (hW : (rest.map fun v => v.category).sum ≤ 8) (hf : k + 0 ≤ mc ∧ n + 0 ≤ ms) : Rn E (VC G nL mc ms own) k n 0 0 pc loc (.ref (gA G 1) :: rest) rest S (fC_Tape_skipBlanks  S) := rn_V (ci := 6) 1 (V := VC G nL mc ms own) (As := []) (Cq := (RX6, TX6, 8)) (cC_Tape_skipBlanks C.flags C.wok   S) knX6_skipBlanks ⟨q_79, q_80⟩ rfl rfl C hd hq hL rfl rfl hW hf

theorem knX6_ended : Kn yX6_ended cX6_ended 1 (some .boolean) 0 := ⟨q_82, q_35, by decide +kernel, by decide⟩
theorem bC_Tape_ended {E : Ec} {G : Gc}    (C : JC E (VC G 1 0 0 RX6) cX6_ended 2 (some .boolean))     (S : St) : J E (VC G 1 0 0 RX6) 0 0 0 [(0, .ref (gA G 1))] [] S (fC_Tape_ended   S) := by
  unfold fC_Tape_ended
  refine j_aload_n (pc := 0) 0 C dX6_ended_0 rfl rfl ?_
  refine j_callv0 (pc := 1) C (rC_Tape_skipBlanks C dX6_ended_1 q_81 (by omega) (Nat.le_of_ble_eq_true rfl) ⟨Nat.le_of_ble_eq_true rfl, Nat.le_of_ble_eq_true rfl⟩) ⟨Nat.le_of_ble_eq_true rfl, Nat.le_of_ble_eq_true rfl⟩ (fun T1 => ?_)
  refine j_aload_n (pc := 4) 0 C dX6_ended_4 rfl rfl ?_
  refine gC_1_6 (pc := 5) C dX6_ended_5 q_62 ?_
  refine j_aload_n (pc := 8) 0 C dX6_ended_8 rfl rfl ?_
  refine gC_1_5 (pc := 9) C dX6_ended_9 q_61 ?_
  refine j_icmp_lt (pc := 12) 19 C dX6_ended_12 (by decide) ?_ ?_
  ·
    refine j_iconst (pc := 19) 0 C dX6_ended_19 (by decide) ?_
    exact j_zretc C dX6_ended_20 rfl (Nat.le_of_ble_eq_true rfl) (Nat.le_of_ble_eq_true rfl) rfl
  ·
    refine j_iconst (pc := 15) 1 C dX6_ended_15 (by decide) ?_
    refine j_goto (pc := 16) 20 C dX6_ended_16 (by decide) ?_
    exact j_zretc C dX6_ended_20 rfl (Nat.le_of_ble_eq_true rfl) (Nat.le_of_ble_eq_true rfl) rfl
theorem cC_Tape_ended {l : Launch} {G : Gc} (hfl : l.stackTraces = false) (hW : Wok G wC 54)    (S : St) : Ct l yX6_ended (Cond.code yX6_ended cX6_ended 1 (some .boolean) :: tblG) 2 0 0 G wC 54 [.ref (gA G 1)] S (fC_Tape_ended  S) := ct_of (own := RX6) hfl (by decide +kernel) rfl hW (Nat.le_of_ble_eq_true rfl) (fun E hE C => by subst hE; exact bC_Tape_ended C    S)
theorem rC_Tape_ended {E : Ec} {G : Gc} {nL mc ms : Nat} {own : String} {cc : ByteArray} {L : Nat} {ret : Option FieldType} {k n pc ix : Nat} {loc : List (Nat × Value)} {rest : List Value}   {S : St}  (C : JC E (VC G nL mc ms own) cc L ret) (hd : decode cc pc = .ok (.invokevirtual ix, 3)) (hq : Cond.methodLink own ix yX6_ended ∈ tblG) (hL : 2 + 1 ≤ L) (hW : (rest.map fun v => v.category).sum ≤ 8) (hf : k + 0 ≤ mc ∧ n + 0 ≤ ms) : Rn E (VC G nL mc ms own) k n 0 0 pc loc (.ref (gA G 1) :: rest) rest S (fC_Tape_ended  S) := rn_V (ci := 6) 1 (V := VC G nL mc ms own) (As := []) (Cq := (RX6, TX6, 8)) (cC_Tape_ended C.flags C.wok   S) knX6_ended ⟨q_83, q_84⟩ rfl rfl C hd hq hL rfl rfl hW hf

theorem knX6_takeWord : Kn yX6_takeWord cX6_takeWord 1 none 0 := ⟨q_87, q_35, by decide +kernel, by decide⟩
theorem bC_Tape_takeWord_12 {E : Ec} {G : Gc}    (C : JC E (VC G 1 0 0 RX6) cX6_takeWord 2 none)    : ∀ (n : Nat)  (S : St), J E (VC G 1 0 0 RX6) 0 0 12 [(0, .ref (gA G 1))] [] S (fC_Tape_takeWord_12  n  S) := by
  intro n
  induction n with
  | zero => intro  S; rw [fC_Tape_takeWord_12]; exact j_none
  | succ n ih =>
    intro  S
    rw [fC_Tape_takeWord_12]
    refine j_aload_n (pc := 12) 0 C dX6_takeWord_12 rfl rfl ?_
    refine gC_1_6 (pc := 13) C dX6_takeWord_13 q_62 ?_
    refine j_aload_n (pc := 16) 0 C dX6_takeWord_16 rfl rfl ?_
    refine gC_1_5 (pc := 17) C dX6_takeWord_17 q_61 ?_
    refine j_icmp_ge (pc := 20) 64 C dX6_takeWord_20 (by decide) ?_ ?_
    ·
      exact j_vret C dX6_takeWord_64 rfl (Nat.le_of_ble_eq_true rfl) (Nat.le_of_ble_eq_true rfl)
    ·
      refine j_aload_n (pc := 23) 0 C dX6_takeWord_23 rfl rfl ?_
      refine gC_1_0 (pc := 24) C dX6_takeWord_24 q_33 ?_
      refine j_aload_n (pc := 27) 0 C dX6_takeWord_27 rfl rfl ?_
      refine gC_1_6 (pc := 28) C dX6_takeWord_28 q_62 ?_
      refine aC_14 (pc := 31) C dX6_takeWord_31 ?_
      refine j_bipush (pc := 32) 97 C dX6_takeWord_32 (by decide) ?_
      refine j_icmp_lt (pc := 34) 64 C dX6_takeWord_34 (by decide) ?_ ?_
      ·
        exact j_vret C dX6_takeWord_64 rfl (Nat.le_of_ble_eq_true rfl) (Nat.le_of_ble_eq_true rfl)
      ·
        refine j_aload_n (pc := 37) 0 C dX6_takeWord_37 rfl rfl ?_
        refine gC_1_0 (pc := 38) C dX6_takeWord_38 q_33 ?_
        refine j_aload_n (pc := 41) 0 C dX6_takeWord_41 rfl rfl ?_
        refine gC_1_6 (pc := 42) C dX6_takeWord_42 q_62 ?_
        refine aC_14 (pc := 45) C dX6_takeWord_45 ?_
        refine j_bipush (pc := 46) 122 C dX6_takeWord_46 (by decide) ?_
        refine j_icmp_gt (pc := 48) 64 C dX6_takeWord_48 (by decide) ?_ ?_
        ·
          exact j_vret C dX6_takeWord_64 rfl (Nat.le_of_ble_eq_true rfl) (Nat.le_of_ble_eq_true rfl)
        ·
          refine j_aload_n (pc := 51) 0 C dX6_takeWord_51 rfl rfl ?_
          refine j_dup (pc := 52) C dX6_takeWord_52 rfl ?_
          refine gC_1_6 (pc := 53) C dX6_takeWord_53 q_62 ?_
          refine j_iconst (pc := 56) 1 C dX6_takeWord_56 (by decide) ?_
          refine j_iadd (pc := 57) C dX6_takeWord_57 ?_
          refine pC_1_6 (pc := 58) C dX6_takeWord_58 q_62 ?_
          refine j_nxS (fun T1 => ?_)
          refine j_goto (pc := 61) 12 C dX6_takeWord_61 (by decide) ?_
          exact ih  T1
theorem bC_Tape_takeWord {E : Ec} {G : Gc}    (C : JC E (VC G 1 0 0 RX6) cX6_takeWord 2 none)     (S : St) : J E (VC G 1 0 0 RX6) 0 0 0 [(0, .ref (gA G 1))] [] S (fC_Tape_takeWord   S) := by
  unfold fC_Tape_takeWord
  refine j_aload_n (pc := 0) 0 C dX6_takeWord_0 rfl rfl ?_
  refine j_callv0 (pc := 1) C (rC_Tape_skipBlanks C dX6_takeWord_1 q_81 (by omega) (Nat.le_of_ble_eq_true rfl) ⟨Nat.le_of_ble_eq_true rfl, Nat.le_of_ble_eq_true rfl⟩) ⟨Nat.le_of_ble_eq_true rfl, Nat.le_of_ble_eq_true rfl⟩ (fun T1 => ?_)
  refine j_aload_n (pc := 4) 0 C dX6_takeWord_4 rfl rfl ?_
  refine j_aload_n (pc := 5) 0 C dX6_takeWord_5 rfl rfl ?_
  refine gC_1_6 (pc := 6) C dX6_takeWord_6 q_62 ?_
  refine pC_1_7 (pc := 9) C dX6_takeWord_9 q_86 ?_
  refine j_nxS (fun T3 => ?_)
  exact bC_Tape_takeWord_12 C  FU  T3
theorem cC_Tape_takeWord {l : Launch} {G : Gc} (hfl : l.stackTraces = false) (hW : Wok G wC 54)    (S : St) : Ct l yX6_takeWord (Cond.code yX6_takeWord cX6_takeWord 1 none :: tblG) 2 0 0 G wC 54 [.ref (gA G 1)] S (fC_Tape_takeWord  S) := ct_of (own := RX6) hfl (by decide +kernel) rfl hW (Nat.le_of_ble_eq_true rfl) (fun E hE C => by subst hE; exact bC_Tape_takeWord C    S)
theorem rC_Tape_takeWord {E : Ec} {G : Gc} {nL mc ms : Nat} {own : String} {cc : ByteArray} {L : Nat} {ret : Option FieldType} {k n pc ix : Nat} {loc : List (Nat × Value)} {rest : List Value}   {S : St}  (C : JC E (VC G nL mc ms own) cc L ret) (hd : decode cc pc = .ok (.invokevirtual ix, 3)) (hq : Cond.methodLink own ix yX6_takeWord ∈ tblG) (hL : 2 + 1 ≤ L) (hW : (rest.map fun v => v.category).sum ≤ 8) (hf : k + 0 ≤ mc ∧ n + 0 ≤ ms) : Rn E (VC G nL mc ms own) k n 0 0 pc loc (.ref (gA G 1) :: rest) rest S (fC_Tape_takeWord  S) := rn_V (ci := 6) 1 (V := VC G nL mc ms own) (As := []) (Cq := (RX6, TX6, 8)) (cC_Tape_takeWord C.flags C.wok   S) knX6_takeWord ⟨q_88, q_89⟩ rfl rfl C hd hq hL rfl rfl hW hf

theorem knX6_isWord : Kn yX6_isWord cX6_isWord 3 (some .boolean) 1 := ⟨q_93, q_35, by decide +kernel, by decide⟩
theorem bC_Tape_isWord_20 {E : Ec} {G : Gc}  {x1 : Nat}  (C : JC E (VC G 3 0 0 RX6) cX6_isWord 5 (some .boolean))  (hs_x1 : x1 < 40)  : ∀ (n : Nat) (x2 : Int32) (S : St), J E (VC G 3 0 0 RX6) 0 0 20 [(0, .ref (gA G 1)), (1, .ref (gK G x1)), (2, .int x2)] [] S (fC_Tape_isWord_20 x1 n x2 S) := by
  intro n
  induction n with
  | zero => intro x2 S; rw [fC_Tape_isWord_20]; exact j_none
  | succ n ih =>
    intro x2 S
    rw [fC_Tape_isWord_20]
    refine j_iload_n (pc := 20) 2 C dX6_isWord_20 rfl rfl ?_
    refine j_aload_n (pc := 21) 1 C dX6_isWord_21 rfl rfl ?_
    refine j_slen (pc := 22) C dX6_isWord_22 q_91 hs_x1 (by omega) (Nat.le_of_ble_eq_true rfl) (Nat.le_of_ble_eq_true rfl) (Nat.le_of_ble_eq_true rfl) ?_
    refine j_icmp_ge (pc := 25) 55 C dX6_isWord_25 (by decide) ?_ ?_
    ·
      refine j_iconst (pc := 55) 1 C dX6_isWord_55 (by decide) ?_
      exact j_zretc C dX6_isWord_56 rfl (Nat.le_of_ble_eq_true rfl) (Nat.le_of_ble_eq_true rfl) rfl
    ·
      refine j_aload_n (pc := 28) 0 C dX6_isWord_28 rfl rfl ?_
      refine gC_1_0 (pc := 29) C dX6_isWord_29 q_33 ?_
      refine j_aload_n (pc := 32) 0 C dX6_isWord_32 rfl rfl ?_
      refine gC_1_7 (pc := 33) C dX6_isWord_33 q_86 ?_
      refine j_iload_n (pc := 36) 2 C dX6_isWord_36 rfl rfl ?_
      refine j_iadd (pc := 37) C dX6_isWord_37 ?_
      refine aC_14 (pc := 38) C dX6_isWord_38 ?_
      refine j_aload_n (pc := 39) 1 C dX6_isWord_39 rfl rfl ?_
      refine j_iload_n (pc := 40) 2 C dX6_isWord_40 rfl rfl ?_
      refine j_schar (pc := 41) C dX6_isWord_41 q_92 hs_x1 (by omega) (Nat.le_of_ble_eq_true rfl) (Nat.le_of_ble_eq_true rfl) (Nat.le_of_ble_eq_true rfl) ?_
      refine j_icmp_eq (pc := 44) 49 C dX6_isWord_44 (by decide) ?_ ?_
      ·
        refine j_iinc (pc := 49) 2 (x2 + 1) [(2, .int (x2 + 1)), (0, .ref (gA G 1)), (1, .ref (gK G x1))] C dX6_isWord_49 rfl rfl (Nat.le_of_ble_eq_true rfl) rfl ?_
        refine j_goto (pc := 52) 20 C dX6_isWord_52 (by decide) ?_
        refine j_sub [1, 2, 0] rfl ?_
        exact ih (x2 + 1) S
      ·
        refine j_iconst (pc := 47) 0 C dX6_isWord_47 (by decide) ?_
        exact j_zretc C dX6_isWord_48 rfl (Nat.le_of_ble_eq_true rfl) (Nat.le_of_ble_eq_true rfl) rfl
theorem bC_Tape_isWord {E : Ec} {G : Gc}  {x1 : Nat}  (C : JC E (VC G 3 0 0 RX6) cX6_isWord 5 (some .boolean))  (hs_x1 : x1 < 40)   (S : St) : J E (VC G 3 0 0 RX6) 0 0 0 [(0, .ref (gA G 1)), (1, .ref (gK G x1))] [] S (fC_Tape_isWord x1  S) := by
  unfold fC_Tape_isWord
  refine j_aload_n (pc := 0) 0 C dX6_isWord_0 rfl rfl ?_
  refine gC_1_6 (pc := 1) C dX6_isWord_1 q_62 ?_
  refine j_aload_n (pc := 4) 0 C dX6_isWord_4 rfl rfl ?_
  refine gC_1_7 (pc := 5) C dX6_isWord_5 q_86 ?_
  refine j_isub (pc := 8) C dX6_isWord_8 ?_
  refine j_aload_n (pc := 9) 1 C dX6_isWord_9 rfl rfl ?_
  refine j_slen (pc := 10) C dX6_isWord_10 q_91 hs_x1 (by omega) (Nat.le_of_ble_eq_true rfl) (Nat.le_of_ble_eq_true rfl) (Nat.le_of_ble_eq_true rfl) ?_
  refine j_icmp_eq (pc := 13) 18 C dX6_isWord_13 (by decide) ?_ ?_
  ·
    refine j_iconst (pc := 18) 0 C dX6_isWord_18 (by decide) ?_
    refine j_istore_n (pc := 19) [(2, .int 0), (0, .ref (gA G 1)), (1, .ref (gK G x1))] C dX6_isWord_19 rfl (Nat.le_of_ble_eq_true rfl) rfl ?_
    refine j_sub [1, 2, 0] rfl ?_
    exact bC_Tape_isWord_20 C hs_x1 FU 0 S
  ·
    refine j_iconst (pc := 16) 0 C dX6_isWord_16 (by decide) ?_
    exact j_zretc C dX6_isWord_17 rfl (Nat.le_of_ble_eq_true rfl) (Nat.le_of_ble_eq_true rfl) rfl
theorem cC_Tape_isWord {l : Launch} {G : Gc} (hfl : l.stackTraces = false) (hW : Wok G wC 54) {x1 : Nat} (hs_x1 : x1 < 40)  (S : St) : Ct l yX6_isWord (Cond.code yX6_isWord cX6_isWord 3 (some .boolean) :: tblG) 5 0 0 G wC 54 [.ref (gA G 1), .ref (gK G x1)] S (fC_Tape_isWord x1 S) := ct_of (own := RX6) hfl (by decide +kernel) rfl hW (Nat.le_of_ble_eq_true rfl) (fun E hE C => by subst hE; exact bC_Tape_isWord C hs_x1   S)
theorem rC_Tape_isWord {E : Ec} {G : Gc} {nL mc ms : Nat} {own : String} {cc : ByteArray} {L : Nat} {ret : Option FieldType} {k n pc ix : Nat} {loc : List (Nat × Value)} {rest : List Value}  {x1 : Nat} {S : St} (hs_x1 : x1 < 40) (C : JC E (VC G nL mc ms own) cc L ret) (hd : decode cc pc = .ok (.invokevirtual ix, 3)) (hq : Cond.methodLink own ix yX6_isWord ∈ tblG) (hL : 5 + 1 ≤ L) (hW : (rest.map fun v => v.category).sum ≤ 8) (hf : k + 0 ≤ mc ∧ n + 0 ≤ ms) : Rn E (VC G nL mc ms own) k n 0 0 pc loc (.ref (gK G x1) :: .ref (gA G 1) :: rest) rest S (fC_Tape_isWord x1 S) := rn_V (ci := 6) 1 (V := VC G nL mc ms own) (As := [.ref (gK G x1)]) (Cq := (RX6, TX6, 8)) (cC_Tape_isWord C.flags C.wok hs_x1  S) knX6_isWord ⟨q_94, q_95⟩ rfl rfl C hd hq hL rfl rfl hW hf

theorem bC_Tape_isWord_v15_20 {E : Ec} {G : Gc}  {x1 : Nat}  (C : JC E (VC G 3 0 0 RX6) cX6_isWord 5 (some .boolean))  (hs_x1 : x1 < 40)  : ∀ (n : Nat) (x2 : Int32) (S : St), J E (VC G 3 0 0 RX6) 0 0 20 [(0, .ref (gA G 1)), (1, .ref (gK G x1)), (2, .int x2)] [] S (fC_Tape_isWord_v15_20 x1 n x2 S) := by
  intro n
  induction n with
  | zero => intro x2 S; rw [fC_Tape_isWord_v15_20]; exact j_none
  | succ n ih =>
    intro x2 S
    rw [fC_Tape_isWord_v15_20]
    refine j_iload_n (pc := 20) 2 C dX6_isWord_20 rfl rfl ?_
    refine j_aload_n (pc := 21) 1 C dX6_isWord_21 rfl rfl ?_
    refine j_slen (pc := 22) C dX6_isWord_22 q_91 hs_x1 (by omega) (Nat.le_of_ble_eq_true rfl) (Nat.le_of_ble_eq_true rfl) (Nat.le_of_ble_eq_true rfl) ?_
    refine j_icmp_ge (pc := 25) 55 C dX6_isWord_25 (by decide) ?_ ?_
    ·
      refine j_iconst (pc := 55) 1 C dX6_isWord_55 (by decide) ?_
      exact j_zretc C dX6_isWord_56 rfl (Nat.le_of_ble_eq_true rfl) (Nat.le_of_ble_eq_true rfl) rfl
    ·
      refine j_aload_n (pc := 28) 0 C dX6_isWord_28 rfl rfl ?_
      refine gC_1_0 (pc := 29) C dX6_isWord_29 q_33 ?_
      refine j_aload_n (pc := 32) 0 C dX6_isWord_32 rfl rfl ?_
      refine gC_1_7 (pc := 33) C dX6_isWord_33 q_86 ?_
      refine j_iload_n (pc := 36) 2 C dX6_isWord_36 rfl rfl ?_
      refine j_iadd (pc := 37) C dX6_isWord_37 ?_
      refine aC_14 (pc := 38) C dX6_isWord_38 ?_
      refine j_aload_n (pc := 39) 1 C dX6_isWord_39 rfl rfl ?_
      refine j_iload_n (pc := 40) 2 C dX6_isWord_40 rfl rfl ?_
      refine j_schar (pc := 41) C dX6_isWord_41 q_92 hs_x1 (by omega) (Nat.le_of_ble_eq_true rfl) (Nat.le_of_ble_eq_true rfl) (Nat.le_of_ble_eq_true rfl) ?_
      refine j_icmp_eq (pc := 44) 49 C dX6_isWord_44 (by decide) ?_ ?_
      ·
        refine j_iinc (pc := 49) 2 (x2 + 1) [(2, .int (x2 + 1)), (0, .ref (gA G 1)), (1, .ref (gK G x1))] C dX6_isWord_49 rfl rfl (Nat.le_of_ble_eq_true rfl) rfl ?_
        refine j_goto (pc := 52) 20 C dX6_isWord_52 (by decide) ?_
        refine j_sub [1, 2, 0] rfl ?_
        exact ih (x2 + 1) S
      ·
        refine j_iconst (pc := 47) 0 C dX6_isWord_47 (by decide) ?_
        exact j_zretc C dX6_isWord_48 rfl (Nat.le_of_ble_eq_true rfl) (Nat.le_of_ble_eq_true rfl) rfl
theorem bC_Tape_isWord_v15 {E : Ec} {G : Gc}  {x1 : Nat}  (C : JC E (VC G 3 0 0 RX6) cX6_isWord 5 (some .boolean))  (hs_x1 : x1 < 40)   (S : St) : J E (VC G 3 0 0 RX6) 0 0 0 [(0, .ref (gA G 1)), (1, .ref (gK G x1))] [] S (fC_Tape_isWord_v15 x1  S) := by
  unfold fC_Tape_isWord_v15
  refine j_aload_n (pc := 0) 0 C dX6_isWord_0 rfl rfl ?_
  refine gC_1_6 (pc := 1) C dX6_isWord_1 q_62 ?_
  refine j_aload_n (pc := 4) 0 C dX6_isWord_4 rfl rfl ?_
  refine gC_1_7 (pc := 5) C dX6_isWord_5 q_86 ?_
  refine j_isub (pc := 8) C dX6_isWord_8 ?_
  refine j_aload_n (pc := 9) 1 C dX6_isWord_9 rfl rfl ?_
  refine j_slen (pc := 10) C dX6_isWord_10 q_91 hs_x1 (by omega) (Nat.le_of_ble_eq_true rfl) (Nat.le_of_ble_eq_true rfl) (Nat.le_of_ble_eq_true rfl) ?_
  refine j_icmp_eq (pc := 13) 18 C dX6_isWord_13 (by decide) ?_ ?_
  ·
    refine j_iconst (pc := 18) 0 C dX6_isWord_18 (by decide) ?_
    refine j_istore_n (pc := 19) [(2, .int 0), (0, .ref (gA G 1)), (1, .ref (gK G x1))] C dX6_isWord_19 rfl (Nat.le_of_ble_eq_true rfl) rfl ?_
    refine j_sub [1, 2, 0] rfl ?_
    exact bC_Tape_isWord_v15_20 C hs_x1 FU 0 S
  ·
    refine j_iconst (pc := 16) 0 C dX6_isWord_16 (by decide) ?_
    exact j_zretc C dX6_isWord_17 rfl (Nat.le_of_ble_eq_true rfl) (Nat.le_of_ble_eq_true rfl) rfl
theorem cC_Tape_isWord_v15 {l : Launch} {G : Gc} (hfl : l.stackTraces = false) (hW : Wok G wC 54) {x1 : Nat} (hs_x1 : x1 < 40)  (S : St) : Ct l yX6_isWord (Cond.code yX6_isWord cX6_isWord 3 (some .boolean) :: tblG) 5 0 0 G wC 54 [.ref (gA G 1), .ref (gK G x1)] S (fC_Tape_isWord_v15 x1 S) := ct_of (own := RX6) hfl (by decide +kernel) rfl hW (Nat.le_of_ble_eq_true rfl) (fun E hE C => by subst hE; exact bC_Tape_isWord_v15 C hs_x1   S)
theorem rC_Tape_isWord_v15 {E : Ec} {G : Gc} {nL mc ms : Nat} {own : String} {cc : ByteArray} {L : Nat} {ret : Option FieldType} {k n pc ix : Nat} {loc : List (Nat × Value)} {rest : List Value}  {x1 : Nat} {S : St} (hs_x1 : x1 < 40) (C : JC E (VC G nL mc ms own) cc L ret) (hd : decode cc pc = .ok (.invokevirtual ix, 3)) (hq : Cond.methodLink own ix yX6_isWord ∈ tblG) (hL : 5 + 1 ≤ L) (hW : (rest.map fun v => v.category).sum ≤ 8) (hf : k + 0 ≤ mc ∧ n + 0 ≤ ms) : Rn E (VC G nL mc ms own) k n 0 0 pc loc (.ref (gK G x1) :: .ref (gA G 1) :: rest) rest S (fC_Tape_isWord_v15 x1 S) := rn_V (ci := 6) 1 (V := VC G nL mc ms own) (As := [.ref (gK G x1)]) (Cq := (RX6, TX6, 8)) (cC_Tape_isWord_v15 C.flags C.wok hs_x1  S) knX6_isWord ⟨q_94, q_95⟩ rfl rfl C hd hq hL rfl rfl hW hf

theorem bC_Tape_isWord_v16_20 {E : Ec} {G : Gc}  {x1 : Nat}  (C : JC E (VC G 3 0 0 RX6) cX6_isWord 5 (some .boolean))  (hs_x1 : x1 < 40)  : ∀ (n : Nat) (x2 : Int32) (S : St), J E (VC G 3 0 0 RX6) 0 0 20 [(0, .ref (gA G 1)), (1, .ref (gK G x1)), (2, .int x2)] [] S (fC_Tape_isWord_v16_20 x1 n x2 S) := by
  intro n
  induction n with
  | zero => intro x2 S; rw [fC_Tape_isWord_v16_20]; exact j_none
  | succ n ih =>
    intro x2 S
    rw [fC_Tape_isWord_v16_20]
    refine j_iload_n (pc := 20) 2 C dX6_isWord_20 rfl rfl ?_
    refine j_aload_n (pc := 21) 1 C dX6_isWord_21 rfl rfl ?_
    refine j_slen (pc := 22) C dX6_isWord_22 q_91 hs_x1 (by omega) (Nat.le_of_ble_eq_true rfl) (Nat.le_of_ble_eq_true rfl) (Nat.le_of_ble_eq_true rfl) ?_
    refine j_icmp_ge (pc := 25) 55 C dX6_isWord_25 (by decide) ?_ ?_
    ·
      refine j_iconst (pc := 55) 1 C dX6_isWord_55 (by decide) ?_
      exact j_zretc C dX6_isWord_56 rfl (Nat.le_of_ble_eq_true rfl) (Nat.le_of_ble_eq_true rfl) rfl
    ·
      refine j_aload_n (pc := 28) 0 C dX6_isWord_28 rfl rfl ?_
      refine gC_1_0 (pc := 29) C dX6_isWord_29 q_33 ?_
      refine j_aload_n (pc := 32) 0 C dX6_isWord_32 rfl rfl ?_
      refine gC_1_7 (pc := 33) C dX6_isWord_33 q_86 ?_
      refine j_iload_n (pc := 36) 2 C dX6_isWord_36 rfl rfl ?_
      refine j_iadd (pc := 37) C dX6_isWord_37 ?_
      refine aC_14 (pc := 38) C dX6_isWord_38 ?_
      refine j_aload_n (pc := 39) 1 C dX6_isWord_39 rfl rfl ?_
      refine j_iload_n (pc := 40) 2 C dX6_isWord_40 rfl rfl ?_
      refine j_schar (pc := 41) C dX6_isWord_41 q_92 hs_x1 (by omega) (Nat.le_of_ble_eq_true rfl) (Nat.le_of_ble_eq_true rfl) (Nat.le_of_ble_eq_true rfl) ?_
      refine j_icmp_eq (pc := 44) 49 C dX6_isWord_44 (by decide) ?_ ?_
      ·
        refine j_iinc (pc := 49) 2 (x2 + 1) [(2, .int (x2 + 1)), (0, .ref (gA G 1)), (1, .ref (gK G x1))] C dX6_isWord_49 rfl rfl (Nat.le_of_ble_eq_true rfl) rfl ?_
        refine j_goto (pc := 52) 20 C dX6_isWord_52 (by decide) ?_
        refine j_sub [1, 2, 0] rfl ?_
        exact ih (x2 + 1) S
      ·
        refine j_iconst (pc := 47) 0 C dX6_isWord_47 (by decide) ?_
        exact j_zretc C dX6_isWord_48 rfl (Nat.le_of_ble_eq_true rfl) (Nat.le_of_ble_eq_true rfl) rfl
theorem bC_Tape_isWord_v16 {E : Ec} {G : Gc}  {x1 : Nat}  (C : JC E (VC G 3 0 0 RX6) cX6_isWord 5 (some .boolean))  (hs_x1 : x1 < 40)   (S : St) : J E (VC G 3 0 0 RX6) 0 0 0 [(0, .ref (gA G 1)), (1, .ref (gK G x1))] [] S (fC_Tape_isWord_v16 x1  S) := by
  unfold fC_Tape_isWord_v16
  refine j_aload_n (pc := 0) 0 C dX6_isWord_0 rfl rfl ?_
  refine gC_1_6 (pc := 1) C dX6_isWord_1 q_62 ?_
  refine j_aload_n (pc := 4) 0 C dX6_isWord_4 rfl rfl ?_
  refine gC_1_7 (pc := 5) C dX6_isWord_5 q_86 ?_
  refine j_isub (pc := 8) C dX6_isWord_8 ?_
  refine j_aload_n (pc := 9) 1 C dX6_isWord_9 rfl rfl ?_
  refine j_slen (pc := 10) C dX6_isWord_10 q_91 hs_x1 (by omega) (Nat.le_of_ble_eq_true rfl) (Nat.le_of_ble_eq_true rfl) (Nat.le_of_ble_eq_true rfl) ?_
  refine j_icmp_eq (pc := 13) 18 C dX6_isWord_13 (by decide) ?_ ?_
  ·
    refine j_iconst (pc := 18) 0 C dX6_isWord_18 (by decide) ?_
    refine j_istore_n (pc := 19) [(2, .int 0), (0, .ref (gA G 1)), (1, .ref (gK G x1))] C dX6_isWord_19 rfl (Nat.le_of_ble_eq_true rfl) rfl ?_
    refine j_sub [1, 2, 0] rfl ?_
    exact bC_Tape_isWord_v16_20 C hs_x1 FU 0 S
  ·
    refine j_iconst (pc := 16) 0 C dX6_isWord_16 (by decide) ?_
    exact j_zretc C dX6_isWord_17 rfl (Nat.le_of_ble_eq_true rfl) (Nat.le_of_ble_eq_true rfl) rfl
theorem cC_Tape_isWord_v16 {l : Launch} {G : Gc} (hfl : l.stackTraces = false) (hW : Wok G wC 54) {x1 : Nat} (hs_x1 : x1 < 40)  (S : St) : Ct l yX6_isWord (Cond.code yX6_isWord cX6_isWord 3 (some .boolean) :: tblG) 5 0 0 G wC 54 [.ref (gA G 1), .ref (gK G x1)] S (fC_Tape_isWord_v16 x1 S) := ct_of (own := RX6) hfl (by decide +kernel) rfl hW (Nat.le_of_ble_eq_true rfl) (fun E hE C => by subst hE; exact bC_Tape_isWord_v16 C hs_x1   S)
theorem rC_Tape_isWord_v16 {E : Ec} {G : Gc} {nL mc ms : Nat} {own : String} {cc : ByteArray} {L : Nat} {ret : Option FieldType} {k n pc ix : Nat} {loc : List (Nat × Value)} {rest : List Value}  {x1 : Nat} {S : St} (hs_x1 : x1 < 40) (C : JC E (VC G nL mc ms own) cc L ret) (hd : decode cc pc = .ok (.invokevirtual ix, 3)) (hq : Cond.methodLink own ix yX6_isWord ∈ tblG) (hL : 5 + 1 ≤ L) (hW : (rest.map fun v => v.category).sum ≤ 8) (hf : k + 0 ≤ mc ∧ n + 0 ≤ ms) : Rn E (VC G nL mc ms own) k n 0 0 pc loc (.ref (gK G x1) :: .ref (gA G 1) :: rest) rest S (fC_Tape_isWord_v16 x1 S) := rn_V (ci := 6) 1 (V := VC G nL mc ms own) (As := [.ref (gK G x1)]) (Cq := (RX6, TX6, 8)) (cC_Tape_isWord_v16 C.flags C.wok hs_x1  S) knX6_isWord ⟨q_94, q_95⟩ rfl rfl C hd hq hL rfl rfl hW hf

theorem bC_Tape_isWord_v17_20 {E : Ec} {G : Gc}  {x1 : Nat}  (C : JC E (VC G 3 0 0 RX6) cX6_isWord 5 (some .boolean))  (hs_x1 : x1 < 40)  : ∀ (n : Nat) (x2 : Int32) (S : St), J E (VC G 3 0 0 RX6) 0 0 20 [(0, .ref (gA G 1)), (1, .ref (gK G x1)), (2, .int x2)] [] S (fC_Tape_isWord_v17_20 x1 n x2 S) := by
  intro n
  induction n with
  | zero => intro x2 S; rw [fC_Tape_isWord_v17_20]; exact j_none
  | succ n ih =>
    intro x2 S
    rw [fC_Tape_isWord_v17_20]
    refine j_iload_n (pc := 20) 2 C dX6_isWord_20 rfl rfl ?_
    refine j_aload_n (pc := 21) 1 C dX6_isWord_21 rfl rfl ?_
    refine j_slen (pc := 22) C dX6_isWord_22 q_91 hs_x1 (by omega) (Nat.le_of_ble_eq_true rfl) (Nat.le_of_ble_eq_true rfl) (Nat.le_of_ble_eq_true rfl) ?_
    refine j_icmp_ge (pc := 25) 55 C dX6_isWord_25 (by decide) ?_ ?_
    ·
      refine j_iconst (pc := 55) 1 C dX6_isWord_55 (by decide) ?_
      exact j_zretc C dX6_isWord_56 rfl (Nat.le_of_ble_eq_true rfl) (Nat.le_of_ble_eq_true rfl) rfl
    ·
      refine j_aload_n (pc := 28) 0 C dX6_isWord_28 rfl rfl ?_
      refine gC_1_0 (pc := 29) C dX6_isWord_29 q_33 ?_
      refine j_aload_n (pc := 32) 0 C dX6_isWord_32 rfl rfl ?_
      refine gC_1_7 (pc := 33) C dX6_isWord_33 q_86 ?_
      refine j_iload_n (pc := 36) 2 C dX6_isWord_36 rfl rfl ?_
      refine j_iadd (pc := 37) C dX6_isWord_37 ?_
      refine aC_14 (pc := 38) C dX6_isWord_38 ?_
      refine j_aload_n (pc := 39) 1 C dX6_isWord_39 rfl rfl ?_
      refine j_iload_n (pc := 40) 2 C dX6_isWord_40 rfl rfl ?_
      refine j_schar (pc := 41) C dX6_isWord_41 q_92 hs_x1 (by omega) (Nat.le_of_ble_eq_true rfl) (Nat.le_of_ble_eq_true rfl) (Nat.le_of_ble_eq_true rfl) ?_
      refine j_icmp_eq (pc := 44) 49 C dX6_isWord_44 (by decide) ?_ ?_
      ·
        refine j_iinc (pc := 49) 2 (x2 + 1) [(2, .int (x2 + 1)), (0, .ref (gA G 1)), (1, .ref (gK G x1))] C dX6_isWord_49 rfl rfl (Nat.le_of_ble_eq_true rfl) rfl ?_
        refine j_goto (pc := 52) 20 C dX6_isWord_52 (by decide) ?_
        refine j_sub [1, 2, 0] rfl ?_
        exact ih (x2 + 1) S
      ·
        refine j_iconst (pc := 47) 0 C dX6_isWord_47 (by decide) ?_
        exact j_zretc C dX6_isWord_48 rfl (Nat.le_of_ble_eq_true rfl) (Nat.le_of_ble_eq_true rfl) rfl
theorem bC_Tape_isWord_v17 {E : Ec} {G : Gc}  {x1 : Nat}  (C : JC E (VC G 3 0 0 RX6) cX6_isWord 5 (some .boolean))  (hs_x1 : x1 < 40)   (S : St) : J E (VC G 3 0 0 RX6) 0 0 0 [(0, .ref (gA G 1)), (1, .ref (gK G x1))] [] S (fC_Tape_isWord_v17 x1  S) := by
  unfold fC_Tape_isWord_v17
  refine j_aload_n (pc := 0) 0 C dX6_isWord_0 rfl rfl ?_
  refine gC_1_6 (pc := 1) C dX6_isWord_1 q_62 ?_
  refine j_aload_n (pc := 4) 0 C dX6_isWord_4 rfl rfl ?_
  refine gC_1_7 (pc := 5) C dX6_isWord_5 q_86 ?_
  refine j_isub (pc := 8) C dX6_isWord_8 ?_
  refine j_aload_n (pc := 9) 1 C dX6_isWord_9 rfl rfl ?_
  refine j_slen (pc := 10) C dX6_isWord_10 q_91 hs_x1 (by omega) (Nat.le_of_ble_eq_true rfl) (Nat.le_of_ble_eq_true rfl) (Nat.le_of_ble_eq_true rfl) ?_
  refine j_icmp_eq (pc := 13) 18 C dX6_isWord_13 (by decide) ?_ ?_
  ·
    refine j_iconst (pc := 18) 0 C dX6_isWord_18 (by decide) ?_
    refine j_istore_n (pc := 19) [(2, .int 0), (0, .ref (gA G 1)), (1, .ref (gK G x1))] C dX6_isWord_19 rfl (Nat.le_of_ble_eq_true rfl) rfl ?_
    refine j_sub [1, 2, 0] rfl ?_
    exact bC_Tape_isWord_v17_20 C hs_x1 FU 0 S
  ·
    refine j_iconst (pc := 16) 0 C dX6_isWord_16 (by decide) ?_
    exact j_zretc C dX6_isWord_17 rfl (Nat.le_of_ble_eq_true rfl) (Nat.le_of_ble_eq_true rfl) rfl
theorem cC_Tape_isWord_v17 {l : Launch} {G : Gc} (hfl : l.stackTraces = false) (hW : Wok G wC 54) {x1 : Nat} (hs_x1 : x1 < 40)  (S : St) : Ct l yX6_isWord (Cond.code yX6_isWord cX6_isWord 3 (some .boolean) :: tblG) 5 0 0 G wC 54 [.ref (gA G 1), .ref (gK G x1)] S (fC_Tape_isWord_v17 x1 S) := ct_of (own := RX6) hfl (by decide +kernel) rfl hW (Nat.le_of_ble_eq_true rfl) (fun E hE C => by subst hE; exact bC_Tape_isWord_v17 C hs_x1   S)
theorem rC_Tape_isWord_v17 {E : Ec} {G : Gc} {nL mc ms : Nat} {own : String} {cc : ByteArray} {L : Nat} {ret : Option FieldType} {k n pc ix : Nat} {loc : List (Nat × Value)} {rest : List Value}  {x1 : Nat} {S : St} (hs_x1 : x1 < 40) (C : JC E (VC G nL mc ms own) cc L ret) (hd : decode cc pc = .ok (.invokevirtual ix, 3)) (hq : Cond.methodLink own ix yX6_isWord ∈ tblG) (hL : 5 + 1 ≤ L) (hW : (rest.map fun v => v.category).sum ≤ 8) (hf : k + 0 ≤ mc ∧ n + 0 ≤ ms) : Rn E (VC G nL mc ms own) k n 0 0 pc loc (.ref (gK G x1) :: .ref (gA G 1) :: rest) rest S (fC_Tape_isWord_v17 x1 S) := rn_V (ci := 6) 1 (V := VC G nL mc ms own) (As := [.ref (gK G x1)]) (Cq := (RX6, TX6, 8)) (cC_Tape_isWord_v17 C.flags C.wok hs_x1  S) knX6_isWord ⟨q_94, q_95⟩ rfl rfl C hd hq hL rfl rfl hW hf

theorem knX6_refuse : Kn yX6_refuse cX6_refuse 3 (some .boolean) 2 := ⟨q_97, q_35, by decide +kernel, by decide⟩
theorem bC_Tape_refuse {E : Ec} {G : Gc}    (C : JC E (VC G 3 0 0 RX6) cX6_refuse 1 (some .boolean))    (x1 : Int32) (x2 : Int32) (S : St) : J E (VC G 3 0 0 RX6) 0 0 0 [(0, .ref (gA G 1)), (1, .int x1), (2, .int x2)] [] S (fC_Tape_refuse  x1 x2 S) := by
  unfold fC_Tape_refuse
  refine j_aload_n (pc := 0) 0 C dX6_refuse_0 rfl rfl ?_
  refine j_iload_n (pc := 1) 1 C dX6_refuse_1 rfl rfl ?_
  refine pC_1_3 (pc := 2) C dX6_refuse_2 q_64 ?_
  refine j_nxS (fun T1 => ?_)
  refine j_aload_n (pc := 5) 0 C dX6_refuse_5 rfl rfl ?_
  refine j_iload_n (pc := 6) 2 C dX6_refuse_6 rfl rfl ?_
  refine pC_1_2 (pc := 7) C dX6_refuse_7 q_63 ?_
  refine j_nxS (fun T2 => ?_)
  refine j_iconst (pc := 10) 0 C dX6_refuse_10 (by decide) ?_
  exact j_zretc C dX6_refuse_11 rfl (Nat.le_of_ble_eq_true rfl) (Nat.le_of_ble_eq_true rfl) rfl
theorem cC_Tape_refuse {l : Launch} {G : Gc} (hfl : l.stackTraces = false) (hW : Wok G wC 54)   (x1 : Int32) (x2 : Int32) (S : St) : Ct l yX6_refuse (Cond.code yX6_refuse cX6_refuse 3 (some .boolean) :: tblG) 1 0 0 G wC 54 [.ref (gA G 1), .int x1, .int x2] S (fC_Tape_refuse x1 x2 S) := ct_of (own := RX6) hfl (by decide +kernel) rfl hW (Nat.le_of_ble_eq_true rfl) (fun E hE C => by subst hE; exact bC_Tape_refuse C   x1 x2 S)
theorem rC_Tape_refuse {E : Ec} {G : Gc} {nL mc ms : Nat} {own : String} {cc : ByteArray} {L : Nat} {ret : Option FieldType} {k n pc ix : Nat} {loc : List (Nat × Value)} {rest : List Value}  {x1 : Int32} {x2 : Int32} {S : St}  (C : JC E (VC G nL mc ms own) cc L ret) (hd : decode cc pc = .ok (.invokevirtual ix, 3)) (hq : Cond.methodLink own ix yX6_refuse ∈ tblG) (hL : 1 + 1 ≤ L) (hW : (rest.map fun v => v.category).sum ≤ 8) (hf : k + 0 ≤ mc ∧ n + 0 ≤ ms) : Rn E (VC G nL mc ms own) k n 0 0 pc loc (.int x2 :: .int x1 :: .ref (gA G 1) :: rest) rest S (fC_Tape_refuse x1 x2 S) := rn_V (ci := 6) 1 (V := VC G nL mc ms own) (As := [.int x1, .int x2]) (Cq := (RX6, TX6, 8)) (cC_Tape_refuse C.flags C.wok  x1 x2 S) knX6_refuse ⟨q_98, q_99⟩ rfl rfl C hd hq hL rfl rfl hW hf

theorem knX6_refuseWord : Kn yX6_refuseWord cX6_refuseWord 2 (some .boolean) 1 := ⟨q_101, q_35, by decide +kernel, by decide⟩
theorem bC_Tape_refuseWord {E : Ec} {G : Gc}    (C : JC E (VC G 2 0 0 RX6) cX6_refuseWord 2 (some .boolean))    (x1 : Int32) (S : St) : J E (VC G 2 0 0 RX6) 0 0 0 [(0, .ref (gA G 1)), (1, .int x1)] [] S (fC_Tape_refuseWord  x1 S) := by
  unfold fC_Tape_refuseWord
  refine j_aload_n (pc := 0) 0 C dX6_refuseWord_0 rfl rfl ?_
  refine j_aload_n (pc := 1) 0 C dX6_refuseWord_1 rfl rfl ?_
  refine gC_1_7 (pc := 2) C dX6_refuseWord_2 q_86 ?_
  refine j_iload_n (pc := 5) 1 C dX6_refuseWord_5 rfl rfl ?_
  refine j_callI0 (pc := 6) C (rC_Tape_refuse C dX6_refuseWord_6 q_100 (by omega) (Nat.le_of_ble_eq_true rfl) ⟨Nat.le_of_ble_eq_true rfl, Nat.le_of_ble_eq_true rfl⟩) ⟨Nat.le_of_ble_eq_true rfl, Nat.le_of_ble_eq_true rfl⟩ (fun r2 T1 => ?_)
  exact j_zret C dX6_refuseWord_9 rfl (Nat.le_of_ble_eq_true rfl) (Nat.le_of_ble_eq_true rfl)
theorem cC_Tape_refuseWord {l : Launch} {G : Gc} (hfl : l.stackTraces = false) (hW : Wok G wC 54)   (x1 : Int32) (S : St) : Ct l yX6_refuseWord (Cond.code yX6_refuseWord cX6_refuseWord 2 (some .boolean) :: tblG) 2 0 0 G wC 54 [.ref (gA G 1), .int x1] S (fC_Tape_refuseWord x1 S) := ct_of (own := RX6) hfl (by decide +kernel) rfl hW (Nat.le_of_ble_eq_true rfl) (fun E hE C => by subst hE; exact bC_Tape_refuseWord C   x1 S)
theorem rC_Tape_refuseWord {E : Ec} {G : Gc} {nL mc ms : Nat} {own : String} {cc : ByteArray} {L : Nat} {ret : Option FieldType} {k n pc ix : Nat} {loc : List (Nat × Value)} {rest : List Value}  {x1 : Int32} {S : St}  (C : JC E (VC G nL mc ms own) cc L ret) (hd : decode cc pc = .ok (.invokevirtual ix, 3)) (hq : Cond.methodLink own ix yX6_refuseWord ∈ tblG) (hL : 2 + 1 ≤ L) (hW : (rest.map fun v => v.category).sum ≤ 8) (hf : k + 0 ≤ mc ∧ n + 0 ≤ ms) : Rn E (VC G nL mc ms own) k n 0 0 pc loc (.int x1 :: .ref (gA G 1) :: rest) rest S (fC_Tape_refuseWord x1 S) := rn_V (ci := 6) 1 (V := VC G nL mc ms own) (As := [.int x1]) (Cq := (RX6, TX6, 8)) (cC_Tape_refuseWord C.flags C.wok  x1 S) knX6_refuseWord ⟨q_102, q_103⟩ rfl rfl C hd hq hL rfl rfl hW hf

theorem knX6_needsNumber : Kn yX6_needsNumber cX6_needsNumber 5 (some .boolean) 2 := ⟨q_106, q_35, by decide +kernel, by decide⟩
theorem bC_Tape_needsNumber_125 {E : Ec} {G : Gc}    (C : JC E (VC G 5 0 0 RX6) cX6_needsNumber 2 (some .boolean))    (x3 : Int32) (S : St) : J E (VC G 5 0 0 RX6) 0 0 125 [(0, .ref (gA G 1)), (3, .int x3)] [] S (fC_Tape_needsNumber_125  x3 S) := by
  unfold fC_Tape_needsNumber_125
  refine j_aload_n (pc := 125) 0 C dX6_needsNumber_125 rfl rfl ?_
  refine j_iload_n (pc := 126) 1 C dX6_needsNumber_126 rfl rfl ?_
  refine j_iconst (pc := 127) 2 C dX6_needsNumber_127 (by decide) ?_
  refine j_callI0 (pc := 128) C (rC_Tape_refuse C dX6_needsNumber_128 q_100 (by omega) (Nat.le_of_ble_eq_true rfl) ⟨Nat.le_of_ble_eq_true rfl, Nat.le_of_ble_eq_true rfl⟩) ⟨Nat.le_of_ble_eq_true rfl, Nat.le_of_ble_eq_true rfl⟩ (fun r2 T1 => ?_)
  refine j_if_eq (pc := 131) 138 C dX6_needsNumber_131 (by decide) ?_ ?_
  ·
    refine j_iconst (pc := 138) 0 C dX6_needsNumber_138 (by decide) ?_
    exact j_zretc C dX6_needsNumber_139 rfl (Nat.le_of_ble_eq_true rfl) (Nat.le_of_ble_eq_true rfl) rfl
  ·
    refine j_iconst (pc := 134) 1 C dX6_needsNumber_134 (by decide) ?_
    refine j_goto (pc := 135) 139 C dX6_needsNumber_135 (by decide) ?_
    exact j_zretc C dX6_needsNumber_139 rfl (Nat.le_of_ble_eq_true rfl) (Nat.le_of_ble_eq_true rfl) rfl
theorem bC_Tape_needsNumber_92 {E : Ec} {G : Gc}    (C : JC E (VC G 5 0 0 RX6) cX6_needsNumber 2 (some .boolean))    (x1 : Int32) (x2 : Int32) (x3 : Int32) (x4 : Int32) (S : St) : J E (VC G 5 0 0 RX6) 0 0 92 [(0, .ref (gA G 1)), (1, .int x1), (2, .int x2), (3, .int x3), (4, .int x4)] [] S (fC_Tape_needsNumber_92  x1 x2 x3 x4 S) := by
  unfold fC_Tape_needsNumber_92
  refine j_aload_n (pc := 92) 0 C dX6_needsNumber_92 rfl rfl ?_
  refine gC_1_6 (pc := 93) C dX6_needsNumber_93 q_62 ?_
  refine j_iload_n (pc := 96) 3 C dX6_needsNumber_96 rfl rfl ?_
  refine j_icmp_ne (pc := 97) 107 C dX6_needsNumber_97 (by decide) ?_ ?_
  ·
    refine j_aload_n (pc := 107) 0 C dX6_needsNumber_107 rfl rfl ?_
    refine j_iload (pc := 108) 4 C dX6_needsNumber_108 rfl ?_
    refine pC_1_4 (pc := 110) C dX6_needsNumber_110 q_105 ?_
    refine j_nxS (fun T1 => ?_)
    refine j_iload (pc := 113) 4 C dX6_needsNumber_113 rfl ?_
    refine j_iload_n (pc := 115) 1 C dX6_needsNumber_115 rfl rfl ?_
    refine j_icmp_lt (pc := 116) 125 C dX6_needsNumber_116 (by decide) ?_ ?_
    ·
      refine j_sub [0, 3] rfl ?_
      exact bC_Tape_needsNumber_125 C  x3 T1
    ·
      refine j_iload (pc := 119) 4 C dX6_needsNumber_119 rfl ?_
      refine j_iload_n (pc := 121) 2 C dX6_needsNumber_121 rfl rfl ?_
      refine j_icmp_le (pc := 122) 134 C dX6_needsNumber_122 (by decide) ?_ ?_
      ·
        refine j_iconst (pc := 134) 1 C dX6_needsNumber_134 (by decide) ?_
        refine j_goto (pc := 135) 139 C dX6_needsNumber_135 (by decide) ?_
        exact j_zretc C dX6_needsNumber_139 rfl (Nat.le_of_ble_eq_true rfl) (Nat.le_of_ble_eq_true rfl) rfl
      ·
        refine j_sub [0, 3] rfl ?_
        exact bC_Tape_needsNumber_125 C  x3 T1
  ·
    refine j_aload_n (pc := 100) 0 C dX6_needsNumber_100 rfl rfl ?_
    refine j_iload_n (pc := 101) 3 C dX6_needsNumber_101 rfl rfl ?_
    refine j_iconst (pc := 102) 1 C dX6_needsNumber_102 (by decide) ?_
    refine j_callI0 (pc := 103) C (rC_Tape_refuse C dX6_needsNumber_103 q_100 (by omega) (Nat.le_of_ble_eq_true rfl) ⟨Nat.le_of_ble_eq_true rfl, Nat.le_of_ble_eq_true rfl⟩) ⟨Nat.le_of_ble_eq_true rfl, Nat.le_of_ble_eq_true rfl⟩ (fun r3 T2 => ?_)
    exact j_zret C dX6_needsNumber_106 rfl (Nat.le_of_ble_eq_true rfl) (Nat.le_of_ble_eq_true rfl)
theorem bC_Tape_needsNumber_79 {E : Ec} {G : Gc}   {K12 : Int32 → Int32 → Int32 → Int32 → St → Oz} (C : JC E (VC G 5 0 0 RX6) cX6_needsNumber 2 (some .boolean))   (hK12 : ∀ (x1 : Int32) (x2 : Int32) (x3 : Int32) (x4 : Int32) (S : St), J E (VC G 5 0 0 RX6) 0 0 12 [(0, .ref (gA G 1)), (1, .int x1), (2, .int x2), (3, .int x3), (4, .int x4)] [] S (K12 x1 x2 x3 x4 S)) (x1 : Int32) (x2 : Int32) (x3 : Int32) (x4 : Int32) (S : St) : J E (VC G 5 0 0 RX6) 0 0 79 [(0, .ref (gA G 1)), (1, .int x1), (2, .int x2), (3, .int x3), (4, .int x4)] [] S (fC_Tape_needsNumber_79 K12 x1 x2 x3 x4 S) := by
  unfold fC_Tape_needsNumber_79
  refine j_aload_n (pc := 79) 0 C dX6_needsNumber_79 rfl rfl ?_
  refine j_dup (pc := 80) C dX6_needsNumber_80 rfl ?_
  refine gC_1_6 (pc := 81) C dX6_needsNumber_81 q_62 ?_
  refine j_iconst (pc := 84) 1 C dX6_needsNumber_84 (by decide) ?_
  refine j_iadd (pc := 85) C dX6_needsNumber_85 ?_
  refine pC_1_6 (pc := 86) C dX6_needsNumber_86 q_62 ?_
  refine j_nxS (fun T1 => ?_)
  refine j_goto (pc := 89) 12 C dX6_needsNumber_89 (by decide) ?_
  exact hK12 x1 x2 x3 x4 T1
theorem bC_Tape_needsNumber_12 {E : Ec} {G : Gc}    (C : JC E (VC G 5 0 0 RX6) cX6_needsNumber 2 (some .boolean))    : ∀ (n : Nat) (x1 : Int32) (x2 : Int32) (x3 : Int32) (x4 : Int32) (S : St), J E (VC G 5 0 0 RX6) 0 0 12 [(0, .ref (gA G 1)), (1, .int x1), (2, .int x2), (3, .int x3), (4, .int x4)] [] S (fC_Tape_needsNumber_12  n x1 x2 x3 x4 S) := by
  intro n
  induction n with
  | zero => intro x1 x2 x3 x4 S; rw [fC_Tape_needsNumber_12]; exact j_none
  | succ n ih =>
    intro x1 x2 x3 x4 S
    rw [fC_Tape_needsNumber_12]
    refine j_aload_n (pc := 12) 0 C dX6_needsNumber_12 rfl rfl ?_
    refine gC_1_6 (pc := 13) C dX6_needsNumber_13 q_62 ?_
    refine j_aload_n (pc := 16) 0 C dX6_needsNumber_16 rfl rfl ?_
    refine gC_1_5 (pc := 17) C dX6_needsNumber_17 q_61 ?_
    refine j_icmp_ge (pc := 20) 92 C dX6_needsNumber_20 (by decide) ?_ ?_
    ·
      exact bC_Tape_needsNumber_92 C  x1 x2 x3 x4 S
    ·
      refine j_aload_n (pc := 23) 0 C dX6_needsNumber_23 rfl rfl ?_
      refine gC_1_0 (pc := 24) C dX6_needsNumber_24 q_33 ?_
      refine j_aload_n (pc := 27) 0 C dX6_needsNumber_27 rfl rfl ?_
      refine gC_1_6 (pc := 28) C dX6_needsNumber_28 q_62 ?_
      refine aC_14 (pc := 31) C dX6_needsNumber_31 ?_
      refine j_bipush (pc := 32) 48 C dX6_needsNumber_32 (by decide) ?_
      refine j_icmp_lt (pc := 34) 92 C dX6_needsNumber_34 (by decide) ?_ ?_
      ·
        exact bC_Tape_needsNumber_92 C  x1 x2 x3 x4 S
      ·
        refine j_aload_n (pc := 37) 0 C dX6_needsNumber_37 rfl rfl ?_
        refine gC_1_0 (pc := 38) C dX6_needsNumber_38 q_33 ?_
        refine j_aload_n (pc := 41) 0 C dX6_needsNumber_41 rfl rfl ?_
        refine gC_1_6 (pc := 42) C dX6_needsNumber_42 q_62 ?_
        refine aC_14 (pc := 45) C dX6_needsNumber_45 ?_
        refine j_bipush (pc := 46) 57 C dX6_needsNumber_46 (by decide) ?_
        refine j_icmp_gt (pc := 48) 92 C dX6_needsNumber_48 (by decide) ?_ ?_
        ·
          exact bC_Tape_needsNumber_92 C  x1 x2 x3 x4 S
        ·
          refine j_iload (pc := 51) 4 C dX6_needsNumber_51 rfl ?_
          refine j_sipush (pc := 53) 999 C dX6_needsNumber_53 (by decide) ?_
          refine j_icmp_gt (pc := 56) 79 C dX6_needsNumber_56 (by decide) ?_ ?_
          ·
            exact bC_Tape_needsNumber_79 C ih x1 x2 x3 x4 S
          ·
            refine j_iload (pc := 59) 4 C dX6_needsNumber_59 rfl ?_
            refine j_bipush (pc := 61) 10 C dX6_needsNumber_61 (by decide) ?_
            refine j_imul (pc := 63) C dX6_needsNumber_63 ?_
            refine j_aload_n (pc := 64) 0 C dX6_needsNumber_64 rfl rfl ?_
            refine gC_1_0 (pc := 65) C dX6_needsNumber_65 q_33 ?_
            refine j_aload_n (pc := 68) 0 C dX6_needsNumber_68 rfl rfl ?_
            refine gC_1_6 (pc := 69) C dX6_needsNumber_69 q_62 ?_
            refine aC_14 (pc := 72) C dX6_needsNumber_72 ?_
            refine j_iadd (pc := 73) C dX6_needsNumber_73 ?_
            refine j_bipush (pc := 74) 48 C dX6_needsNumber_74 (by decide) ?_
            refine j_isub (pc := 76) C dX6_needsNumber_76 ?_
            refine j_nxI (fun v1 => ?_)
            refine j_istore (pc := 77) [(4, .int v1), (0, .ref (gA G 1)), (1, .int x1), (2, .int x2), (3, .int x3)] C dX6_needsNumber_77 (Nat.le_of_ble_eq_true rfl) rfl ?_
            refine j_sub [1, 2, 3, 4, 0] rfl ?_
            exact bC_Tape_needsNumber_79 C ih x1 x2 x3 v1 S
theorem bC_Tape_needsNumber {E : Ec} {G : Gc}    (C : JC E (VC G 5 0 0 RX6) cX6_needsNumber 2 (some .boolean))    (x1 : Int32) (x2 : Int32) (S : St) : J E (VC G 5 0 0 RX6) 0 0 0 [(0, .ref (gA G 1)), (1, .int x1), (2, .int x2)] [] S (fC_Tape_needsNumber  x1 x2 S) := by
  unfold fC_Tape_needsNumber
  refine j_aload_n (pc := 0) 0 C dX6_needsNumber_0 rfl rfl ?_
  refine j_callv0 (pc := 1) C (rC_Tape_skipBlanks C dX6_needsNumber_1 q_81 (by omega) (Nat.le_of_ble_eq_true rfl) ⟨Nat.le_of_ble_eq_true rfl, Nat.le_of_ble_eq_true rfl⟩) ⟨Nat.le_of_ble_eq_true rfl, Nat.le_of_ble_eq_true rfl⟩ (fun T1 => ?_)
  refine j_aload_n (pc := 4) 0 C dX6_needsNumber_4 rfl rfl ?_
  refine gC_1_6 (pc := 5) C dX6_needsNumber_5 q_62 ?_
  refine j_nxI (fun v3 => ?_)
  refine j_istore_n (pc := 8) [(3, .int v3), (0, .ref (gA G 1)), (1, .int x1), (2, .int x2)] C dX6_needsNumber_8 rfl (Nat.le_of_ble_eq_true rfl) rfl ?_
  refine j_iconst (pc := 9) 0 C dX6_needsNumber_9 (by decide) ?_
  refine j_istore (pc := 10) [(4, .int 0), (3, .int v3), (0, .ref (gA G 1)), (1, .int x1), (2, .int x2)] C dX6_needsNumber_10 (Nat.le_of_ble_eq_true rfl) rfl ?_
  refine j_sub [2, 3, 4, 1, 0] rfl ?_
  exact bC_Tape_needsNumber_12 C  FU x1 x2 v3 0 T1
theorem cC_Tape_needsNumber {l : Launch} {G : Gc} (hfl : l.stackTraces = false) (hW : Wok G wC 54)   (x1 : Int32) (x2 : Int32) (S : St) : Ct l yX6_needsNumber (Cond.code yX6_needsNumber cX6_needsNumber 5 (some .boolean) :: tblG) 2 0 0 G wC 54 [.ref (gA G 1), .int x1, .int x2] S (fC_Tape_needsNumber x1 x2 S) := ct_of (own := RX6) hfl (by decide +kernel) rfl hW (Nat.le_of_ble_eq_true rfl) (fun E hE C => by subst hE; exact bC_Tape_needsNumber C   x1 x2 S)
theorem rC_Tape_needsNumber {E : Ec} {G : Gc} {nL mc ms : Nat} {own : String} {cc : ByteArray} {L : Nat} {ret : Option FieldType} {k n pc ix : Nat} {loc : List (Nat × Value)} {rest : List Value}  {x1 : Int32} {x2 : Int32} {S : St}  (C : JC E (VC G nL mc ms own) cc L ret) (hd : decode cc pc = .ok (.invokevirtual ix, 3)) (hq : Cond.methodLink own ix yX6_needsNumber ∈ tblG) (hL : 2 + 1 ≤ L) (hW : (rest.map fun v => v.category).sum ≤ 8) (hf : k + 0 ≤ mc ∧ n + 0 ≤ ms) : Rn E (VC G nL mc ms own) k n 0 0 pc loc (.int x2 :: .int x1 :: .ref (gA G 1) :: rest) rest S (fC_Tape_needsNumber x1 x2 S) := rn_V (ci := 6) 1 (V := VC G nL mc ms own) (As := [.int x1, .int x2]) (Cq := (RX6, TX6, 8)) (cC_Tape_needsNumber C.flags C.wok  x1 x2 S) knX6_needsNumber ⟨q_107, q_108⟩ rfl rfl C hd hq hL rfl rfl hW hf

theorem knX7_readFade : Kn yX7_readFade cX7_readFade 2 (some .boolean) 1 := ⟨q_111, q_112, by decide +kernel, by decide⟩
theorem bC_Valley_readFade_3 {E : Ec} {G : Gc}    (C : JC E (VC G 2 0 0 RX7) cX7_readFade 3 (some .boolean))     (S : St) : J E (VC G 2 0 0 RX7) 0 0 0 [(0, .ref (gA G 3)), (1, .ref (gA G 1))] [] S (fC_Valley_readFade_3   S) := by
  unfold fC_Valley_readFade_3
  refine j_aload_n (pc := 0) 1 C dX7_readFade_0 rfl rfl ?_
  refine j_iconst (pc := 1) 0 C dX7_readFade_1 (by decide) ?_
  refine j_bipush (pc := 2) 9 C dX7_readFade_2 (by decide) ?_
  refine j_callI0 (pc := 4) C (rC_Tape_needsNumber C dX7_readFade_4 q_109 (by omega) (Nat.le_of_ble_eq_true rfl) ⟨Nat.le_of_ble_eq_true rfl, Nat.le_of_ble_eq_true rfl⟩) ⟨Nat.le_of_ble_eq_true rfl, Nat.le_of_ble_eq_true rfl⟩ (fun r2 T1 => ?_)
  refine j_if_ne (pc := 7) 12 C dX7_readFade_7 (by decide) ?_ ?_
  ·
    refine j_aload_n (pc := 12) 0 C dX7_readFade_12 rfl rfl ?_
    refine j_aload_n (pc := 13) 1 C dX7_readFade_13 rfl rfl ?_
    refine gC_1_4 (pc := 14) C dX7_readFade_14 q_110 ?_
    refine pC_3_3 (pc := 17) C dX7_readFade_17 q_77 ?_
    refine j_nxS (fun T3 => ?_)
    refine j_iconst (pc := 20) 1 C dX7_readFade_20 (by decide) ?_
    exact j_zretc C dX7_readFade_21 rfl (Nat.le_of_ble_eq_true rfl) (Nat.le_of_ble_eq_true rfl) rfl
  ·
    refine j_iconst (pc := 10) 0 C dX7_readFade_10 (by decide) ?_
    exact j_zretc C dX7_readFade_11 rfl (Nat.le_of_ble_eq_true rfl) (Nat.le_of_ble_eq_true rfl) rfl
theorem cC_Valley_readFade_3 {l : Launch} {G : Gc} (hfl : l.stackTraces = false) (hW : Wok G wC 54)    (S : St) : Ct l yX7_readFade (Cond.code yX7_readFade cX7_readFade 2 (some .boolean) :: tblG) 3 0 0 G wC 54 [.ref (gA G 3), .ref (gA G 1)] S (fC_Valley_readFade_3  S) := ct_of (own := RX7) hfl (by decide +kernel) rfl hW (Nat.le_of_ble_eq_true rfl) (fun E hE C => by subst hE; exact bC_Valley_readFade_3 C    S)
theorem rC_Valley_readFade_3 {E : Ec} {G : Gc} {nL mc ms : Nat} {own : String} {cc : ByteArray} {L : Nat} {ret : Option FieldType} {k n pc ix : Nat} {loc : List (Nat × Value)} {rest : List Value}   {S : St}  (C : JC E (VC G nL mc ms own) cc L ret) (hd : decode cc pc = .ok (.invokevirtual ix, 3)) (hq : Cond.methodLink own ix yX7_readFade ∈ tblG) (hL : 3 + 1 ≤ L) (hW : (rest.map fun v => v.category).sum ≤ 8) (hf : k + 0 ≤ mc ∧ n + 0 ≤ ms) : Rn E (VC G nL mc ms own) k n 0 0 pc loc (.ref (gA G 1) :: .ref (gA G 3) :: rest) rest S (fC_Valley_readFade_3  S) := rn_V (ci := 7) 3 (V := VC G nL mc ms own) (As := [.ref (gA G 1)]) (Cq := (RX7, TX7, 12)) (cC_Valley_readFade_3 C.flags C.wok   S) knX7_readFade ⟨q_113, q_114⟩ rfl rfl C hd hq hL rfl rfl hW hf

theorem knX7_readDebt : Kn yX7_readDebt cX7_readDebt 2 (some .boolean) 1 := ⟨q_120, q_112, by decide +kernel, by decide⟩
theorem bC_Valley_readDebt_3 {E : Ec} {G : Gc}    (C : JC E (VC G 2 0 0 RX7) cX7_readDebt 3 (some .boolean))     (S : St) : J E (VC G 2 0 0 RX7) 0 0 0 [(0, .ref (gA G 3)), (1, .ref (gA G 1))] [] S (fC_Valley_readDebt_3   S) := by
  unfold fC_Valley_readDebt_3
  refine j_aload_n (pc := 0) 1 C dX7_readDebt_0 rfl rfl ?_
  refine j_iconst (pc := 1) 0 C dX7_readDebt_1 (by decide) ?_
  refine j_aload_n (pc := 2) 0 C dX7_readDebt_2 rfl rfl ?_
  refine gC_3_1 (pc := 3) C dX7_readDebt_3 q_75 ?_
  refine j_iconst (pc := 6) 1 C dX7_readDebt_6 (by decide) ?_
  refine j_isub (pc := 7) C dX7_readDebt_7 ?_
  refine j_callI0 (pc := 8) C (rC_Tape_needsNumber C dX7_readDebt_8 q_109 (by omega) (Nat.le_of_ble_eq_true rfl) ⟨Nat.le_of_ble_eq_true rfl, Nat.le_of_ble_eq_true rfl⟩) ⟨Nat.le_of_ble_eq_true rfl, Nat.le_of_ble_eq_true rfl⟩ (fun r2 T1 => ?_)
  refine j_if_ne (pc := 11) 16 C dX7_readDebt_11 (by decide) ?_ ?_
  ·
    refine j_aload_n (pc := 16) 0 C dX7_readDebt_16 rfl rfl ?_
    refine gC_3_8 (pc := 17) C dX7_readDebt_17 q_116 ?_
    refine j_aload_n (pc := 20) 0 C dX7_readDebt_20 rfl rfl ?_
    refine gC_3_2 (pc := 21) C dX7_readDebt_21 q_76 ?_
    refine j_aload_n (pc := 24) 1 C dX7_readDebt_24 rfl rfl ?_
    refine gC_1_4 (pc := 25) C dX7_readDebt_25 q_110 ?_
    refine sC_27 (pc := 28) C dX7_readDebt_28 ?_
    refine j_nxS (fun T3 => ?_)
    refine j_aload_n (pc := 29) 1 C dX7_readDebt_29 rfl rfl ?_
    refine j_iconst (pc := 30) 0 C dX7_readDebt_30 (by decide) ?_
    refine j_aload_n (pc := 31) 0 C dX7_readDebt_31 rfl rfl ?_
    refine gC_3_0 (pc := 32) C dX7_readDebt_32 q_74 ?_
    refine j_iconst (pc := 35) 1 C dX7_readDebt_35 (by decide) ?_
    refine j_isub (pc := 36) C dX7_readDebt_36 ?_
    refine j_callI0 (pc := 37) C (rC_Tape_needsNumber C dX7_readDebt_37 q_109 (by omega) (Nat.le_of_ble_eq_true rfl) ⟨Nat.le_of_ble_eq_true rfl, Nat.le_of_ble_eq_true rfl⟩) ⟨Nat.le_of_ble_eq_true rfl, Nat.le_of_ble_eq_true rfl⟩ (fun r5 T4 => ?_)
    refine j_if_ne (pc := 40) 45 C dX7_readDebt_40 (by decide) ?_ ?_
    ·
      refine j_aload_n (pc := 45) 0 C dX7_readDebt_45 rfl rfl ?_
      refine gC_3_9 (pc := 46) C dX7_readDebt_46 q_117 ?_
      refine j_aload_n (pc := 49) 0 C dX7_readDebt_49 rfl rfl ?_
      refine gC_3_2 (pc := 50) C dX7_readDebt_50 q_76 ?_
      refine j_aload_n (pc := 53) 1 C dX7_readDebt_53 rfl rfl ?_
      refine gC_1_4 (pc := 54) C dX7_readDebt_54 q_110 ?_
      refine sC_28 (pc := 57) C dX7_readDebt_57 ?_
      refine j_nxS (fun T6 => ?_)
      refine j_aload_n (pc := 58) 1 C dX7_readDebt_58 rfl rfl ?_
      refine j_iconst (pc := 59) 0 C dX7_readDebt_59 (by decide) ?_
      refine j_iconst (pc := 60) 3 C dX7_readDebt_60 (by decide) ?_
      refine j_callI0 (pc := 61) C (rC_Tape_needsNumber C dX7_readDebt_61 q_109 (by omega) (Nat.le_of_ble_eq_true rfl) ⟨Nat.le_of_ble_eq_true rfl, Nat.le_of_ble_eq_true rfl⟩) ⟨Nat.le_of_ble_eq_true rfl, Nat.le_of_ble_eq_true rfl⟩ (fun r8 T7 => ?_)
      refine j_if_ne (pc := 64) 69 C dX7_readDebt_64 (by decide) ?_ ?_
      ·
        refine j_aload_n (pc := 69) 0 C dX7_readDebt_69 rfl rfl ?_
        refine gC_3_10 (pc := 70) C dX7_readDebt_70 q_118 ?_
        refine j_aload_n (pc := 73) 0 C dX7_readDebt_73 rfl rfl ?_
        refine gC_3_2 (pc := 74) C dX7_readDebt_74 q_76 ?_
        refine j_aload_n (pc := 77) 1 C dX7_readDebt_77 rfl rfl ?_
        refine gC_1_4 (pc := 78) C dX7_readDebt_78 q_110 ?_
        refine sC_29 (pc := 81) C dX7_readDebt_81 ?_
        refine j_nxS (fun T9 => ?_)
        refine j_aload_n (pc := 82) 1 C dX7_readDebt_82 rfl rfl ?_
        refine j_iconst (pc := 83) 0 C dX7_readDebt_83 (by decide) ?_
        refine j_bipush (pc := 84) 40 C dX7_readDebt_84 (by decide) ?_
        refine j_callI0 (pc := 86) C (rC_Tape_needsNumber C dX7_readDebt_86 q_109 (by omega) (Nat.le_of_ble_eq_true rfl) ⟨Nat.le_of_ble_eq_true rfl, Nat.le_of_ble_eq_true rfl⟩) ⟨Nat.le_of_ble_eq_true rfl, Nat.le_of_ble_eq_true rfl⟩ (fun r11 T10 => ?_)
        refine j_if_ne (pc := 89) 94 C dX7_readDebt_89 (by decide) ?_ ?_
        ·
          refine j_aload_n (pc := 94) 0 C dX7_readDebt_94 rfl rfl ?_
          refine gC_3_11 (pc := 95) C dX7_readDebt_95 q_119 ?_
          refine j_aload_n (pc := 98) 0 C dX7_readDebt_98 rfl rfl ?_
          refine gC_3_2 (pc := 99) C dX7_readDebt_99 q_76 ?_
          refine j_aload_n (pc := 102) 1 C dX7_readDebt_102 rfl rfl ?_
          refine gC_1_4 (pc := 103) C dX7_readDebt_103 q_110 ?_
          refine sC_30 (pc := 106) C dX7_readDebt_106 ?_
          refine j_nxS (fun T12 => ?_)
          refine j_aload_n (pc := 107) 0 C dX7_readDebt_107 rfl rfl ?_
          refine j_dup (pc := 108) C dX7_readDebt_108 rfl ?_
          refine gC_3_2 (pc := 109) C dX7_readDebt_109 q_76 ?_
          refine j_iconst (pc := 112) 1 C dX7_readDebt_112 (by decide) ?_
          refine j_iadd (pc := 113) C dX7_readDebt_113 ?_
          refine pC_3_2 (pc := 114) C dX7_readDebt_114 q_76 ?_
          refine j_nxS (fun T13 => ?_)
          refine j_iconst (pc := 117) 1 C dX7_readDebt_117 (by decide) ?_
          exact j_zretc C dX7_readDebt_118 rfl (Nat.le_of_ble_eq_true rfl) (Nat.le_of_ble_eq_true rfl) rfl
        ·
          refine j_iconst (pc := 92) 0 C dX7_readDebt_92 (by decide) ?_
          exact j_zretc C dX7_readDebt_93 rfl (Nat.le_of_ble_eq_true rfl) (Nat.le_of_ble_eq_true rfl) rfl
      ·
        refine j_iconst (pc := 67) 0 C dX7_readDebt_67 (by decide) ?_
        exact j_zretc C dX7_readDebt_68 rfl (Nat.le_of_ble_eq_true rfl) (Nat.le_of_ble_eq_true rfl) rfl
    ·
      refine j_iconst (pc := 43) 0 C dX7_readDebt_43 (by decide) ?_
      exact j_zretc C dX7_readDebt_44 rfl (Nat.le_of_ble_eq_true rfl) (Nat.le_of_ble_eq_true rfl) rfl
  ·
    refine j_iconst (pc := 14) 0 C dX7_readDebt_14 (by decide) ?_
    exact j_zretc C dX7_readDebt_15 rfl (Nat.le_of_ble_eq_true rfl) (Nat.le_of_ble_eq_true rfl) rfl
theorem cC_Valley_readDebt_3 {l : Launch} {G : Gc} (hfl : l.stackTraces = false) (hW : Wok G wC 54)    (S : St) : Ct l yX7_readDebt (Cond.code yX7_readDebt cX7_readDebt 2 (some .boolean) :: tblG) 3 0 0 G wC 54 [.ref (gA G 3), .ref (gA G 1)] S (fC_Valley_readDebt_3  S) := ct_of (own := RX7) hfl (by decide +kernel) rfl hW (Nat.le_of_ble_eq_true rfl) (fun E hE C => by subst hE; exact bC_Valley_readDebt_3 C    S)
theorem rC_Valley_readDebt_3 {E : Ec} {G : Gc} {nL mc ms : Nat} {own : String} {cc : ByteArray} {L : Nat} {ret : Option FieldType} {k n pc ix : Nat} {loc : List (Nat × Value)} {rest : List Value}   {S : St}  (C : JC E (VC G nL mc ms own) cc L ret) (hd : decode cc pc = .ok (.invokevirtual ix, 3)) (hq : Cond.methodLink own ix yX7_readDebt ∈ tblG) (hL : 3 + 1 ≤ L) (hW : (rest.map fun v => v.category).sum ≤ 8) (hf : k + 0 ≤ mc ∧ n + 0 ≤ ms) : Rn E (VC G nL mc ms own) k n 0 0 pc loc (.ref (gA G 1) :: .ref (gA G 3) :: rest) rest S (fC_Valley_readDebt_3  S) := rn_V (ci := 7) 3 (V := VC G nL mc ms own) (As := [.ref (gA G 1)]) (Cq := (RX7, TX7, 12)) (cC_Valley_readDebt_3 C.flags C.wok   S) knX7_readDebt ⟨q_121, q_122⟩ rfl rfl C hd hq hL rfl rfl hW hf

theorem knX7_readMan : Kn yX7_readMan cX7_readMan 2 (some .boolean) 1 := ⟨q_126, q_112, by decide +kernel, by decide⟩
theorem bC_Valley_readMan_3 {E : Ec} {G : Gc}    (C : JC E (VC G 2 0 0 RX7) cX7_readMan 3 (some .boolean))     (S : St) : J E (VC G 2 0 0 RX7) 0 0 0 [(0, .ref (gA G 3)), (1, .ref (gA G 1))] [] S (fC_Valley_readMan_3   S) := by
  unfold fC_Valley_readMan_3
  refine j_aload_n (pc := 0) 1 C dX7_readMan_0 rfl rfl ?_
  refine j_iconst (pc := 1) 1 C dX7_readMan_1 (by decide) ?_
  refine j_bipush (pc := 2) 99 C dX7_readMan_2 (by decide) ?_
  refine j_callI0 (pc := 4) C (rC_Tape_needsNumber C dX7_readMan_4 q_109 (by omega) (Nat.le_of_ble_eq_true rfl) ⟨Nat.le_of_ble_eq_true rfl, Nat.le_of_ble_eq_true rfl⟩) ⟨Nat.le_of_ble_eq_true rfl, Nat.le_of_ble_eq_true rfl⟩ (fun r2 T1 => ?_)
  refine j_if_ne (pc := 7) 12 C dX7_readMan_7 (by decide) ?_ ?_
  ·
    refine j_aload_n (pc := 12) 0 C dX7_readMan_12 rfl rfl ?_
    refine gC_3_6 (pc := 13) C dX7_readMan_13 q_124 ?_
    refine j_aload_n (pc := 16) 0 C dX7_readMan_16 rfl rfl ?_
    refine gC_3_1 (pc := 17) C dX7_readMan_17 q_75 ?_
    refine j_aload_n (pc := 20) 1 C dX7_readMan_20 rfl rfl ?_
    refine gC_1_4 (pc := 21) C dX7_readMan_21 q_110 ?_
    refine sC_25 (pc := 24) C dX7_readMan_24 ?_
    refine j_nxS (fun T3 => ?_)
    refine j_aload_n (pc := 25) 1 C dX7_readMan_25 rfl rfl ?_
    refine j_bipush (pc := 26) 10 C dX7_readMan_26 (by decide) ?_
    refine j_bipush (pc := 28) 70 C dX7_readMan_28 (by decide) ?_
    refine j_callI0 (pc := 30) C (rC_Tape_needsNumber C dX7_readMan_30 q_109 (by omega) (Nat.le_of_ble_eq_true rfl) ⟨Nat.le_of_ble_eq_true rfl, Nat.le_of_ble_eq_true rfl⟩) ⟨Nat.le_of_ble_eq_true rfl, Nat.le_of_ble_eq_true rfl⟩ (fun r5 T4 => ?_)
    refine j_if_ne (pc := 33) 38 C dX7_readMan_33 (by decide) ?_ ?_
    ·
      refine j_aload_n (pc := 38) 0 C dX7_readMan_38 rfl rfl ?_
      refine gC_3_7 (pc := 39) C dX7_readMan_39 q_125 ?_
      refine j_aload_n (pc := 42) 0 C dX7_readMan_42 rfl rfl ?_
      refine gC_3_1 (pc := 43) C dX7_readMan_43 q_75 ?_
      refine j_aload_n (pc := 46) 1 C dX7_readMan_46 rfl rfl ?_
      refine gC_1_4 (pc := 47) C dX7_readMan_47 q_110 ?_
      refine sC_26 (pc := 50) C dX7_readMan_50 ?_
      refine j_nxS (fun T6 => ?_)
      refine j_aload_n (pc := 51) 0 C dX7_readMan_51 rfl rfl ?_
      refine j_dup (pc := 52) C dX7_readMan_52 rfl ?_
      refine gC_3_1 (pc := 53) C dX7_readMan_53 q_75 ?_
      refine j_iconst (pc := 56) 1 C dX7_readMan_56 (by decide) ?_
      refine j_iadd (pc := 57) C dX7_readMan_57 ?_
      refine pC_3_1 (pc := 58) C dX7_readMan_58 q_75 ?_
      refine j_nxS (fun T7 => ?_)
      refine j_iconst (pc := 61) 1 C dX7_readMan_61 (by decide) ?_
      exact j_zretc C dX7_readMan_62 rfl (Nat.le_of_ble_eq_true rfl) (Nat.le_of_ble_eq_true rfl) rfl
    ·
      refine j_iconst (pc := 36) 0 C dX7_readMan_36 (by decide) ?_
      exact j_zretc C dX7_readMan_37 rfl (Nat.le_of_ble_eq_true rfl) (Nat.le_of_ble_eq_true rfl) rfl
  ·
    refine j_iconst (pc := 10) 0 C dX7_readMan_10 (by decide) ?_
    exact j_zretc C dX7_readMan_11 rfl (Nat.le_of_ble_eq_true rfl) (Nat.le_of_ble_eq_true rfl) rfl
theorem cC_Valley_readMan_3 {l : Launch} {G : Gc} (hfl : l.stackTraces = false) (hW : Wok G wC 54)    (S : St) : Ct l yX7_readMan (Cond.code yX7_readMan cX7_readMan 2 (some .boolean) :: tblG) 3 0 0 G wC 54 [.ref (gA G 3), .ref (gA G 1)] S (fC_Valley_readMan_3  S) := ct_of (own := RX7) hfl (by decide +kernel) rfl hW (Nat.le_of_ble_eq_true rfl) (fun E hE C => by subst hE; exact bC_Valley_readMan_3 C    S)
theorem rC_Valley_readMan_3 {E : Ec} {G : Gc} {nL mc ms : Nat} {own : String} {cc : ByteArray} {L : Nat} {ret : Option FieldType} {k n pc ix : Nat} {loc : List (Nat × Value)} {rest : List Value}   {S : St}  (C : JC E (VC G nL mc ms own) cc L ret) (hd : decode cc pc = .ok (.invokevirtual ix, 3)) (hq : Cond.methodLink own ix yX7_readMan ∈ tblG) (hL : 3 + 1 ≤ L) (hW : (rest.map fun v => v.category).sum ≤ 8) (hf : k + 0 ≤ mc ∧ n + 0 ≤ ms) : Rn E (VC G nL mc ms own) k n 0 0 pc loc (.ref (gA G 1) :: .ref (gA G 3) :: rest) rest S (fC_Valley_readMan_3  S) := rn_V (ci := 7) 3 (V := VC G nL mc ms own) (As := [.ref (gA G 1)]) (Cq := (RX7, TX7, 12)) (cC_Valley_readMan_3 C.flags C.wok   S) knX7_readMan ⟨q_127, q_128⟩ rfl rfl C hd hq hL rfl rfl hW hf

theorem knX7_readPoem : Kn yX7_readPoem cX7_readPoem 2 (some .boolean) 1 := ⟨q_132, q_112, by decide +kernel, by decide⟩
theorem bC_Valley_readPoem_3 {E : Ec} {G : Gc}    (C : JC E (VC G 2 0 0 RX7) cX7_readPoem 3 (some .boolean))     (S : St) : J E (VC G 2 0 0 RX7) 0 0 0 [(0, .ref (gA G 3)), (1, .ref (gA G 1))] [] S (fC_Valley_readPoem_3   S) := by
  unfold fC_Valley_readPoem_3
  refine j_aload_n (pc := 0) 1 C dX7_readPoem_0 rfl rfl ?_
  refine j_iconst (pc := 1) 1 C dX7_readPoem_1 (by decide) ?_
  refine j_bipush (pc := 2) 40 C dX7_readPoem_2 (by decide) ?_
  refine j_callI0 (pc := 4) C (rC_Tape_needsNumber C dX7_readPoem_4 q_109 (by omega) (Nat.le_of_ble_eq_true rfl) ⟨Nat.le_of_ble_eq_true rfl, Nat.le_of_ble_eq_true rfl⟩) ⟨Nat.le_of_ble_eq_true rfl, Nat.le_of_ble_eq_true rfl⟩ (fun r2 T1 => ?_)
  refine j_if_ne (pc := 7) 12 C dX7_readPoem_7 (by decide) ?_ ?_
  ·
    refine j_aload_n (pc := 12) 0 C dX7_readPoem_12 rfl rfl ?_
    refine gC_3_4 (pc := 13) C dX7_readPoem_13 q_130 ?_
    refine j_aload_n (pc := 16) 0 C dX7_readPoem_16 rfl rfl ?_
    refine gC_3_0 (pc := 17) C dX7_readPoem_17 q_74 ?_
    refine j_aload_n (pc := 20) 1 C dX7_readPoem_20 rfl rfl ?_
    refine gC_1_4 (pc := 21) C dX7_readPoem_21 q_110 ?_
    refine sC_23 (pc := 24) C dX7_readPoem_24 ?_
    refine j_nxS (fun T3 => ?_)
    refine j_aload_n (pc := 25) 1 C dX7_readPoem_25 rfl rfl ?_
    refine j_iconst (pc := 26) 0 C dX7_readPoem_26 (by decide) ?_
    refine j_bipush (pc := 27) 9 C dX7_readPoem_27 (by decide) ?_
    refine j_callI0 (pc := 29) C (rC_Tape_needsNumber C dX7_readPoem_29 q_109 (by omega) (Nat.le_of_ble_eq_true rfl) ⟨Nat.le_of_ble_eq_true rfl, Nat.le_of_ble_eq_true rfl⟩) ⟨Nat.le_of_ble_eq_true rfl, Nat.le_of_ble_eq_true rfl⟩ (fun r5 T4 => ?_)
    refine j_if_ne (pc := 32) 37 C dX7_readPoem_32 (by decide) ?_ ?_
    ·
      refine j_aload_n (pc := 37) 0 C dX7_readPoem_37 rfl rfl ?_
      refine gC_3_5 (pc := 38) C dX7_readPoem_38 q_131 ?_
      refine j_aload_n (pc := 41) 0 C dX7_readPoem_41 rfl rfl ?_
      refine gC_3_0 (pc := 42) C dX7_readPoem_42 q_74 ?_
      refine j_aload_n (pc := 45) 1 C dX7_readPoem_45 rfl rfl ?_
      refine gC_1_4 (pc := 46) C dX7_readPoem_46 q_110 ?_
      refine sC_24 (pc := 49) C dX7_readPoem_49 ?_
      refine j_nxS (fun T6 => ?_)
      refine j_aload_n (pc := 50) 0 C dX7_readPoem_50 rfl rfl ?_
      refine j_dup (pc := 51) C dX7_readPoem_51 rfl ?_
      refine gC_3_0 (pc := 52) C dX7_readPoem_52 q_74 ?_
      refine j_iconst (pc := 55) 1 C dX7_readPoem_55 (by decide) ?_
      refine j_iadd (pc := 56) C dX7_readPoem_56 ?_
      refine pC_3_0 (pc := 57) C dX7_readPoem_57 q_74 ?_
      refine j_nxS (fun T7 => ?_)
      refine j_iconst (pc := 60) 1 C dX7_readPoem_60 (by decide) ?_
      exact j_zretc C dX7_readPoem_61 rfl (Nat.le_of_ble_eq_true rfl) (Nat.le_of_ble_eq_true rfl) rfl
    ·
      refine j_iconst (pc := 35) 0 C dX7_readPoem_35 (by decide) ?_
      exact j_zretc C dX7_readPoem_36 rfl (Nat.le_of_ble_eq_true rfl) (Nat.le_of_ble_eq_true rfl) rfl
  ·
    refine j_iconst (pc := 10) 0 C dX7_readPoem_10 (by decide) ?_
    exact j_zretc C dX7_readPoem_11 rfl (Nat.le_of_ble_eq_true rfl) (Nat.le_of_ble_eq_true rfl) rfl
theorem cC_Valley_readPoem_3 {l : Launch} {G : Gc} (hfl : l.stackTraces = false) (hW : Wok G wC 54)    (S : St) : Ct l yX7_readPoem (Cond.code yX7_readPoem cX7_readPoem 2 (some .boolean) :: tblG) 3 0 0 G wC 54 [.ref (gA G 3), .ref (gA G 1)] S (fC_Valley_readPoem_3  S) := ct_of (own := RX7) hfl (by decide +kernel) rfl hW (Nat.le_of_ble_eq_true rfl) (fun E hE C => by subst hE; exact bC_Valley_readPoem_3 C    S)
theorem rC_Valley_readPoem_3 {E : Ec} {G : Gc} {nL mc ms : Nat} {own : String} {cc : ByteArray} {L : Nat} {ret : Option FieldType} {k n pc ix : Nat} {loc : List (Nat × Value)} {rest : List Value}   {S : St}  (C : JC E (VC G nL mc ms own) cc L ret) (hd : decode cc pc = .ok (.invokevirtual ix, 3)) (hq : Cond.methodLink own ix yX7_readPoem ∈ tblG) (hL : 3 + 1 ≤ L) (hW : (rest.map fun v => v.category).sum ≤ 8) (hf : k + 0 ≤ mc ∧ n + 0 ≤ ms) : Rn E (VC G nL mc ms own) k n 0 0 pc loc (.ref (gA G 1) :: .ref (gA G 3) :: rest) rest S (fC_Valley_readPoem_3  S) := rn_V (ci := 7) 3 (V := VC G nL mc ms own) (As := [.ref (gA G 1)]) (Cq := (RX7, TX7, 12)) (cC_Valley_readPoem_3 C.flags C.wok   S) knX7_readPoem ⟨q_133, q_134⟩ rfl rfl C hd hq hL rfl rfl hW hf

theorem knX7_readClause : Kn yX7_readClause cX7_readClause 3 (some .boolean) 2 := ⟨q_136, q_112, by decide +kernel, by decide⟩
theorem bC_Valley_readClause_3_98 {E : Ec} {G : Gc}    (C : JC E (VC G 3 0 0 RX7) cX7_readClause 6 (some .boolean))     (S : St) : J E (VC G 3 0 0 RX7) 0 0 98 [(1, .ref (gA G 1))] [] S (fC_Valley_readClause_3_98   S) := by
  unfold fC_Valley_readClause_3_98
  refine j_aload_n (pc := 98) 0 C dX7_readClause_98 rfl rfl ?_
  refine j_iconst (pc := 99) 3 C dX7_readClause_99 (by decide) ?_
  refine j_callI0 (pc := 100) C (rC_Tape_refuseWord C dX7_readClause_100 q_104 (by omega) (Nat.le_of_ble_eq_true rfl) ⟨Nat.le_of_ble_eq_true rfl, Nat.le_of_ble_eq_true rfl⟩) ⟨Nat.le_of_ble_eq_true rfl, Nat.le_of_ble_eq_true rfl⟩ (fun r2 T1 => ?_)
  refine j_goto (pc := 103) 111 C dX7_readClause_103 (by decide) ?_
  exact j_zret C dX7_readClause_111 rfl (Nat.le_of_ble_eq_true rfl) (Nat.le_of_ble_eq_true rfl)
theorem bC_Valley_readClause_3_62 {E : Ec} {G : Gc}    (C : JC E (VC G 3 0 0 RX7) cX7_readClause 6 (some .boolean))     (S : St) : J E (VC G 3 0 0 RX7) 0 0 62 [(1, .ref (gA G 1))] [] S (fC_Valley_readClause_3_62   S) := by
  unfold fC_Valley_readClause_3_62
  refine j_aload_n (pc := 62) 0 C dX7_readClause_62 rfl rfl ?_
  refine j_iconst (pc := 63) 3 C dX7_readClause_63 (by decide) ?_
  refine j_callI0 (pc := 64) C (rC_Tape_refuseWord C dX7_readClause_64 q_104 (by omega) (Nat.le_of_ble_eq_true rfl) ⟨Nat.le_of_ble_eq_true rfl, Nat.le_of_ble_eq_true rfl⟩) ⟨Nat.le_of_ble_eq_true rfl, Nat.le_of_ble_eq_true rfl⟩ (fun r2 T1 => ?_)
  refine j_goto (pc := 67) 75 C dX7_readClause_67 (by decide) ?_
  exact j_zret C dX7_readClause_75 rfl (Nat.le_of_ble_eq_true rfl) (Nat.le_of_ble_eq_true rfl)
theorem bC_Valley_readClause_3_26 {E : Ec} {G : Gc}    (C : JC E (VC G 3 0 0 RX7) cX7_readClause 6 (some .boolean))     (S : St) : J E (VC G 3 0 0 RX7) 0 0 26 [(1, .ref (gA G 1))] [] S (fC_Valley_readClause_3_26   S) := by
  unfold fC_Valley_readClause_3_26
  refine j_aload_n (pc := 26) 0 C dX7_readClause_26 rfl rfl ?_
  refine j_iconst (pc := 27) 3 C dX7_readClause_27 (by decide) ?_
  refine j_callI0 (pc := 28) C (rC_Tape_refuseWord C dX7_readClause_28 q_104 (by omega) (Nat.le_of_ble_eq_true rfl) ⟨Nat.le_of_ble_eq_true rfl, Nat.le_of_ble_eq_true rfl⟩) ⟨Nat.le_of_ble_eq_true rfl, Nat.le_of_ble_eq_true rfl⟩ (fun r2 T1 => ?_)
  refine j_goto (pc := 31) 39 C dX7_readClause_31 (by decide) ?_
  exact j_zret C dX7_readClause_39 rfl (Nat.le_of_ble_eq_true rfl) (Nat.le_of_ble_eq_true rfl)
theorem bC_Valley_readClause_3 {E : Ec} {G : Gc}    (C : JC E (VC G 3 0 0 RX7) cX7_readClause 6 (some .boolean))    (x2 : Int32) (S : St) : J E (VC G 3 0 0 RX7) 0 0 0 [(0, .ref (gA G 3)), (1, .ref (gA G 1)), (2, .int x2)] [] S (fC_Valley_readClause_3  x2 S) := by
  unfold fC_Valley_readClause_3
  refine j_aload_n (pc := 0) 1 C dX7_readClause_0 rfl rfl ?_
  refine j_callv0 (pc := 1) C (rC_Tape_takeWord C dX7_readClause_1 q_90 (by omega) (Nat.le_of_ble_eq_true rfl) ⟨Nat.le_of_ble_eq_true rfl, Nat.le_of_ble_eq_true rfl⟩) ⟨Nat.le_of_ble_eq_true rfl, Nat.le_of_ble_eq_true rfl⟩ (fun T1 => ?_)
  refine j_aload_n (pc := 4) 1 C dX7_readClause_4 rfl rfl ?_
  refine j_ldcS (pc := 5) 1 C dX7_readClause_5 rfl rfl rfl ?_
  refine j_callI0 (pc := 7) C (rC_Tape_isWord (by decide) C dX7_readClause_7 q_96 (by omega) (Nat.le_of_ble_eq_true rfl) ⟨Nat.le_of_ble_eq_true rfl, Nat.le_of_ble_eq_true rfl⟩) ⟨Nat.le_of_ble_eq_true rfl, Nat.le_of_ble_eq_true rfl⟩ (fun r4 T3 => ?_)
  refine j_if_eq (pc := 10) 40 C dX7_readClause_10 (by decide) ?_ ?_
  ·
    refine j_aload_n (pc := 40) 1 C dX7_readClause_40 rfl rfl ?_
    refine j_ldcS (pc := 41) 2 C dX7_readClause_41 rfl rfl rfl ?_
    refine j_callI0 (pc := 43) C (rC_Tape_isWord_v15 (by decide) C dX7_readClause_43 q_96 (by omega) (Nat.le_of_ble_eq_true rfl) ⟨Nat.le_of_ble_eq_true rfl, Nat.le_of_ble_eq_true rfl⟩) ⟨Nat.le_of_ble_eq_true rfl, Nat.le_of_ble_eq_true rfl⟩ (fun r6 T5 => ?_)
    refine j_if_eq (pc := 46) 76 C dX7_readClause_46 (by decide) ?_ ?_
    ·
      refine j_aload_n (pc := 76) 1 C dX7_readClause_76 rfl rfl ?_
      refine j_ldcS (pc := 77) 3 C dX7_readClause_77 rfl rfl rfl ?_
      refine j_callI0 (pc := 79) C (rC_Tape_isWord_v16 (by decide) C dX7_readClause_79 q_96 (by omega) (Nat.le_of_ble_eq_true rfl) ⟨Nat.le_of_ble_eq_true rfl, Nat.le_of_ble_eq_true rfl⟩) ⟨Nat.le_of_ble_eq_true rfl, Nat.le_of_ble_eq_true rfl⟩ (fun r8 T7 => ?_)
      refine j_if_eq (pc := 82) 112 C dX7_readClause_82 (by decide) ?_ ?_
      ·
        refine j_aload_n (pc := 112) 1 C dX7_readClause_112 rfl rfl ?_
        refine j_ldcS (pc := 113) 4 C dX7_readClause_113 rfl rfl rfl ?_
        refine j_callI0 (pc := 115) C (rC_Tape_isWord_v17 (by decide) C dX7_readClause_115 q_96 (by omega) (Nat.le_of_ble_eq_true rfl) ⟨Nat.le_of_ble_eq_true rfl, Nat.le_of_ble_eq_true rfl⟩) ⟨Nat.le_of_ble_eq_true rfl, Nat.le_of_ble_eq_true rfl⟩ (fun r10 T9 => ?_)
        refine j_if_eq (pc := 118) 139 C dX7_readClause_118 (by decide) ?_ ?_
        ·
          refine j_aload_n (pc := 139) 1 C dX7_readClause_139 rfl rfl ?_
          refine j_iconst (pc := 140) 1 C dX7_readClause_140 (by decide) ?_
          refine j_callI0 (pc := 141) C (rC_Tape_refuseWord C dX7_readClause_141 q_104 (by omega) (Nat.le_of_ble_eq_true rfl) ⟨Nat.le_of_ble_eq_true rfl, Nat.le_of_ble_eq_true rfl⟩) ⟨Nat.le_of_ble_eq_true rfl, Nat.le_of_ble_eq_true rfl⟩ (fun r12 T11 => ?_)
          exact j_zret C dX7_readClause_144 rfl (Nat.le_of_ble_eq_true rfl) (Nat.le_of_ble_eq_true rfl)
        ·
          refine j_iload_n (pc := 121) 2 C dX7_readClause_121 rfl rfl ?_
          refine j_if_eq (pc := 122) 133 C dX7_readClause_122 (by decide) ?_ ?_
          ·
            refine j_aload_n (pc := 133) 0 C dX7_readClause_133 rfl rfl ?_
            refine j_aload_n (pc := 134) 1 C dX7_readClause_134 rfl rfl ?_
            refine j_callI0 (pc := 135) C (rC_Valley_readFade_3 C dX7_readClause_135 q_115 (by omega) (Nat.le_of_ble_eq_true rfl) ⟨Nat.le_of_ble_eq_true rfl, Nat.le_of_ble_eq_true rfl⟩) ⟨Nat.le_of_ble_eq_true rfl, Nat.le_of_ble_eq_true rfl⟩ (fun r14 T13 => ?_)
            exact j_zret C dX7_readClause_138 rfl (Nat.le_of_ble_eq_true rfl) (Nat.le_of_ble_eq_true rfl)
          ·
            refine j_aload_n (pc := 125) 1 C dX7_readClause_125 rfl rfl ?_
            refine j_iconst (pc := 126) 3 C dX7_readClause_126 (by decide) ?_
            refine j_callI0 (pc := 127) C (rC_Tape_refuseWord C dX7_readClause_127 q_104 (by omega) (Nat.le_of_ble_eq_true rfl) ⟨Nat.le_of_ble_eq_true rfl, Nat.le_of_ble_eq_true rfl⟩) ⟨Nat.le_of_ble_eq_true rfl, Nat.le_of_ble_eq_true rfl⟩ (fun r16 T15 => ?_)
            refine j_goto (pc := 130) 138 C dX7_readClause_130 (by decide) ?_
            exact j_zret C dX7_readClause_138 rfl (Nat.le_of_ble_eq_true rfl) (Nat.le_of_ble_eq_true rfl)
      ·
        refine j_iload_n (pc := 85) 2 C dX7_readClause_85 rfl rfl ?_
        refine j_if_ne (pc := 86) 98 C dX7_readClause_86 (by decide) ?_ ?_
        ·
          refine j_sub [1] rfl ?_
          exact bC_Valley_readClause_3_98 C   T7
        ·
          refine j_aload_n (pc := 89) 0 C dX7_readClause_89 rfl rfl ?_
          refine gC_3_2 (pc := 90) C dX7_readClause_90 q_76 ?_
          refine j_bipush (pc := 93) 10 C dX7_readClause_93 (by decide) ?_
          refine j_icmp_lt (pc := 95) 106 C dX7_readClause_95 (by decide) ?_ ?_
          ·
            refine j_aload_n (pc := 106) 0 C dX7_readClause_106 rfl rfl ?_
            refine j_aload_n (pc := 107) 1 C dX7_readClause_107 rfl rfl ?_
            refine j_callI0 (pc := 108) C (rC_Valley_readDebt_3 C dX7_readClause_108 q_123 (by omega) (Nat.le_of_ble_eq_true rfl) ⟨Nat.le_of_ble_eq_true rfl, Nat.le_of_ble_eq_true rfl⟩) ⟨Nat.le_of_ble_eq_true rfl, Nat.le_of_ble_eq_true rfl⟩ (fun r18 T17 => ?_)
            exact j_zret C dX7_readClause_111 rfl (Nat.le_of_ble_eq_true rfl) (Nat.le_of_ble_eq_true rfl)
          ·
            refine j_sub [1] rfl ?_
            exact bC_Valley_readClause_3_98 C   T7
    ·
      refine j_iload_n (pc := 49) 2 C dX7_readClause_49 rfl rfl ?_
      refine j_if_ne (pc := 50) 62 C dX7_readClause_50 (by decide) ?_ ?_
      ·
        refine j_sub [1] rfl ?_
        exact bC_Valley_readClause_3_62 C   T5
      ·
        refine j_aload_n (pc := 53) 0 C dX7_readClause_53 rfl rfl ?_
        refine gC_3_1 (pc := 54) C dX7_readClause_54 q_75 ?_
        refine j_bipush (pc := 57) 6 C dX7_readClause_57 (by decide) ?_
        refine j_icmp_lt (pc := 59) 70 C dX7_readClause_59 (by decide) ?_ ?_
        ·
          refine j_aload_n (pc := 70) 0 C dX7_readClause_70 rfl rfl ?_
          refine j_aload_n (pc := 71) 1 C dX7_readClause_71 rfl rfl ?_
          refine j_callI0 (pc := 72) C (rC_Valley_readMan_3 C dX7_readClause_72 q_129 (by omega) (Nat.le_of_ble_eq_true rfl) ⟨Nat.le_of_ble_eq_true rfl, Nat.le_of_ble_eq_true rfl⟩) ⟨Nat.le_of_ble_eq_true rfl, Nat.le_of_ble_eq_true rfl⟩ (fun r20 T19 => ?_)
          exact j_zret C dX7_readClause_75 rfl (Nat.le_of_ble_eq_true rfl) (Nat.le_of_ble_eq_true rfl)
        ·
          refine j_sub [1] rfl ?_
          exact bC_Valley_readClause_3_62 C   T5
  ·
    refine j_iload_n (pc := 13) 2 C dX7_readClause_13 rfl rfl ?_
    refine j_if_ne (pc := 14) 26 C dX7_readClause_14 (by decide) ?_ ?_
    ·
      refine j_sub [1] rfl ?_
      exact bC_Valley_readClause_3_26 C   T3
    ·
      refine j_aload_n (pc := 17) 0 C dX7_readClause_17 rfl rfl ?_
      refine gC_3_0 (pc := 18) C dX7_readClause_18 q_74 ?_
      refine j_bipush (pc := 21) 8 C dX7_readClause_21 (by decide) ?_
      refine j_icmp_lt (pc := 23) 34 C dX7_readClause_23 (by decide) ?_ ?_
      ·
        refine j_aload_n (pc := 34) 0 C dX7_readClause_34 rfl rfl ?_
        refine j_aload_n (pc := 35) 1 C dX7_readClause_35 rfl rfl ?_
        refine j_callI0 (pc := 36) C (rC_Valley_readPoem_3 C dX7_readClause_36 q_135 (by omega) (Nat.le_of_ble_eq_true rfl) ⟨Nat.le_of_ble_eq_true rfl, Nat.le_of_ble_eq_true rfl⟩) ⟨Nat.le_of_ble_eq_true rfl, Nat.le_of_ble_eq_true rfl⟩ (fun r22 T21 => ?_)
        exact j_zret C dX7_readClause_39 rfl (Nat.le_of_ble_eq_true rfl) (Nat.le_of_ble_eq_true rfl)
      ·
        refine j_sub [1] rfl ?_
        exact bC_Valley_readClause_3_26 C   T3
theorem cC_Valley_readClause_3 {l : Launch} {G : Gc} (hfl : l.stackTraces = false) (hW : Wok G wC 54)   (x2 : Int32) (S : St) : Ct l yX7_readClause (Cond.code yX7_readClause cX7_readClause 3 (some .boolean) :: tblG) 6 0 0 G wC 54 [.ref (gA G 3), .ref (gA G 1), .int x2] S (fC_Valley_readClause_3 x2 S) := ct_of (own := RX7) hfl (by decide +kernel) rfl hW (Nat.le_of_ble_eq_true rfl) (fun E hE C => by subst hE; exact bC_Valley_readClause_3 C   x2 S)
theorem rC_Valley_readClause_3 {E : Ec} {G : Gc} {nL mc ms : Nat} {own : String} {cc : ByteArray} {L : Nat} {ret : Option FieldType} {k n pc ix : Nat} {loc : List (Nat × Value)} {rest : List Value}  {x2 : Int32} {S : St}  (C : JC E (VC G nL mc ms own) cc L ret) (hd : decode cc pc = .ok (.invokevirtual ix, 3)) (hq : Cond.methodLink own ix yX7_readClause ∈ tblG) (hL : 6 + 1 ≤ L) (hW : (rest.map fun v => v.category).sum ≤ 8) (hf : k + 0 ≤ mc ∧ n + 0 ≤ ms) : Rn E (VC G nL mc ms own) k n 0 0 pc loc (.int x2 :: .ref (gA G 1) :: .ref (gA G 3) :: rest) rest S (fC_Valley_readClause_3 x2 S) := rn_V (ci := 7) 3 (V := VC G nL mc ms own) (As := [.ref (gA G 1), .int x2]) (Cq := (RX7, TX7, 12)) (cC_Valley_readClause_3 C.flags C.wok  x2 S) knX7_readClause ⟨q_137, q_138⟩ rfl rfl C hd hq hL rfl rfl hW hf

theorem knX6_needs : Kn yX6_needs cX6_needs 2 (some .boolean) 1 := ⟨q_140, q_35, by decide +kernel, by decide⟩
theorem bC_Tape_needs_40 {E : Ec} {G : Gc}    (C : JC E (VC G 2 0 0 RX6) cX6_needs 2 (some .boolean))     (S : St) : J E (VC G 2 0 0 RX6) 0 0 40 [(0, .ref (gA G 1))] [] S (fC_Tape_needs_40   S) := by
  unfold fC_Tape_needs_40
  refine j_aload_n (pc := 40) 0 C dX6_needs_40 rfl rfl ?_
  refine j_aload_n (pc := 41) 0 C dX6_needs_41 rfl rfl ?_
  refine gC_1_6 (pc := 42) C dX6_needs_42 q_62 ?_
  refine j_iconst (pc := 45) 1 C dX6_needs_45 (by decide) ?_
  refine j_callI0 (pc := 46) C (rC_Tape_refuse C dX6_needs_46 q_100 (by omega) (Nat.le_of_ble_eq_true rfl) ⟨Nat.le_of_ble_eq_true rfl, Nat.le_of_ble_eq_true rfl⟩) ⟨Nat.le_of_ble_eq_true rfl, Nat.le_of_ble_eq_true rfl⟩ (fun r2 T1 => ?_)
  exact j_zret C dX6_needs_49 rfl (Nat.le_of_ble_eq_true rfl) (Nat.le_of_ble_eq_true rfl)
theorem bC_Tape_needs {E : Ec} {G : Gc}    (C : JC E (VC G 2 0 0 RX6) cX6_needs 2 (some .boolean))    (x1 : Int32) (S : St) : J E (VC G 2 0 0 RX6) 0 0 0 [(0, .ref (gA G 1)), (1, .int x1)] [] S (fC_Tape_needs  x1 S) := by
  unfold fC_Tape_needs
  refine j_aload_n (pc := 0) 0 C dX6_needs_0 rfl rfl ?_
  refine j_callv0 (pc := 1) C (rC_Tape_skipBlanks C dX6_needs_1 q_81 (by omega) (Nat.le_of_ble_eq_true rfl) ⟨Nat.le_of_ble_eq_true rfl, Nat.le_of_ble_eq_true rfl⟩) ⟨Nat.le_of_ble_eq_true rfl, Nat.le_of_ble_eq_true rfl⟩ (fun T1 => ?_)
  refine j_aload_n (pc := 4) 0 C dX6_needs_4 rfl rfl ?_
  refine gC_1_6 (pc := 5) C dX6_needs_5 q_62 ?_
  refine j_aload_n (pc := 8) 0 C dX6_needs_8 rfl rfl ?_
  refine gC_1_5 (pc := 9) C dX6_needs_9 q_61 ?_
  refine j_icmp_ge (pc := 12) 40 C dX6_needs_12 (by decide) ?_ ?_
  ·
    refine j_sub [0] rfl ?_
    exact bC_Tape_needs_40 C   T1
  ·
    refine j_aload_n (pc := 15) 0 C dX6_needs_15 rfl rfl ?_
    refine gC_1_0 (pc := 16) C dX6_needs_16 q_33 ?_
    refine j_aload_n (pc := 19) 0 C dX6_needs_19 rfl rfl ?_
    refine gC_1_6 (pc := 20) C dX6_needs_20 q_62 ?_
    refine aC_14 (pc := 23) C dX6_needs_23 ?_
    refine j_iload_n (pc := 24) 1 C dX6_needs_24 rfl rfl ?_
    refine j_icmp_ne (pc := 25) 40 C dX6_needs_25 (by decide) ?_ ?_
    ·
      refine j_sub [0] rfl ?_
      exact bC_Tape_needs_40 C   T1
    ·
      refine j_aload_n (pc := 28) 0 C dX6_needs_28 rfl rfl ?_
      refine j_dup (pc := 29) C dX6_needs_29 rfl ?_
      refine gC_1_6 (pc := 30) C dX6_needs_30 q_62 ?_
      refine j_iconst (pc := 33) 1 C dX6_needs_33 (by decide) ?_
      refine j_iadd (pc := 34) C dX6_needs_34 ?_
      refine pC_1_6 (pc := 35) C dX6_needs_35 q_62 ?_
      refine j_nxS (fun T3 => ?_)
      refine j_iconst (pc := 38) 1 C dX6_needs_38 (by decide) ?_
      exact j_zretc C dX6_needs_39 rfl (Nat.le_of_ble_eq_true rfl) (Nat.le_of_ble_eq_true rfl) rfl
theorem cC_Tape_needs {l : Launch} {G : Gc} (hfl : l.stackTraces = false) (hW : Wok G wC 54)   (x1 : Int32) (S : St) : Ct l yX6_needs (Cond.code yX6_needs cX6_needs 2 (some .boolean) :: tblG) 2 0 0 G wC 54 [.ref (gA G 1), .int x1] S (fC_Tape_needs x1 S) := ct_of (own := RX6) hfl (by decide +kernel) rfl hW (Nat.le_of_ble_eq_true rfl) (fun E hE C => by subst hE; exact bC_Tape_needs C   x1 S)
theorem rC_Tape_needs {E : Ec} {G : Gc} {nL mc ms : Nat} {own : String} {cc : ByteArray} {L : Nat} {ret : Option FieldType} {k n pc ix : Nat} {loc : List (Nat × Value)} {rest : List Value}  {x1 : Int32} {S : St}  (C : JC E (VC G nL mc ms own) cc L ret) (hd : decode cc pc = .ok (.invokevirtual ix, 3)) (hq : Cond.methodLink own ix yX6_needs ∈ tblG) (hL : 2 + 1 ≤ L) (hW : (rest.map fun v => v.category).sum ≤ 8) (hf : k + 0 ≤ mc ∧ n + 0 ≤ ms) : Rn E (VC G nL mc ms own) k n 0 0 pc loc (.int x1 :: .ref (gA G 1) :: rest) rest S (fC_Tape_needs x1 S) := rn_V (ci := 6) 1 (V := VC G nL mc ms own) (As := [.int x1]) (Cq := (RX6, TX6, 8)) (cC_Tape_needs C.flags C.wok  x1 S) knX6_needs ⟨q_141, q_142⟩ rfl rfl C hd hq hL rfl rfl hW hf

theorem knX7_readFrom : Kn yX7_readFrom cX7_readFrom 3 (some .boolean) 1 := ⟨q_144, q_112, by decide +kernel, by decide⟩
theorem bC_Valley_readFrom_3_50 {E : Ec} {G : Gc}   {K22 : Int32 → St → Oz} (C : JC E (VC G 3 0 0 RX7) cX7_readFrom 7 (some .boolean))   (hK22 : ∀ (x2 : Int32) (S : St), J E (VC G 3 0 0 RX7) 0 0 22 [(0, .ref (gA G 3)), (1, .ref (gA G 1)), (2, .int x2)] [] S (K22 x2 S)) (x2 : Int32) (s0 : Int32) (S : St) : J E (VC G 3 0 0 RX7) 0 0 50 [(0, .ref (gA G 3)), (1, .ref (gA G 1)), (2, .int x2)] [.int s0, .ref (gA G 1), .ref (gA G 3)] S (fC_Valley_readFrom_3_50 K22 x2 s0 S) := by
  unfold fC_Valley_readFrom_3_50
  refine j_callI0 (pc := 50) C (rC_Valley_readClause_3 C dX7_readFrom_50 q_139 (by omega) (Nat.le_of_ble_eq_true rfl) ⟨Nat.le_of_ble_eq_true rfl, Nat.le_of_ble_eq_true rfl⟩) ⟨Nat.le_of_ble_eq_true rfl, Nat.le_of_ble_eq_true rfl⟩ (fun r2 T1 => ?_)
  refine j_if_eq (pc := 53) 65 C dX7_readFrom_53 (by decide) ?_ ?_
  ·
    refine j_iconst (pc := 65) 0 C dX7_readFrom_65 (by decide) ?_
    exact j_zretc C dX7_readFrom_66 rfl (Nat.le_of_ble_eq_true rfl) (Nat.le_of_ble_eq_true rfl) rfl
  ·
    refine j_aload_n (pc := 56) 1 C dX7_readFrom_56 rfl rfl ?_
    refine j_bipush (pc := 57) 59 C dX7_readFrom_57 (by decide) ?_
    refine j_callI0 (pc := 59) C (rC_Tape_needs C dX7_readFrom_59 q_143 (by omega) (Nat.le_of_ble_eq_true rfl) ⟨Nat.le_of_ble_eq_true rfl, Nat.le_of_ble_eq_true rfl⟩) ⟨Nat.le_of_ble_eq_true rfl, Nat.le_of_ble_eq_true rfl⟩ (fun r4 T3 => ?_)
    refine j_if_ne (pc := 62) 67 C dX7_readFrom_62 (by decide) ?_ ?_
    ·
      refine j_iinc (pc := 67) 2 (x2 + 1) [(2, .int (x2 + 1)), (0, .ref (gA G 3)), (1, .ref (gA G 1))] C dX7_readFrom_67 rfl rfl (Nat.le_of_ble_eq_true rfl) rfl ?_
      refine j_goto (pc := 70) 22 C dX7_readFrom_70 (by decide) ?_
      refine j_sub [1, 2, 0] rfl ?_
      exact hK22 (x2 + 1) T3
    ·
      refine j_iconst (pc := 65) 0 C dX7_readFrom_65 (by decide) ?_
      exact j_zretc C dX7_readFrom_66 rfl (Nat.le_of_ble_eq_true rfl) (Nat.le_of_ble_eq_true rfl) rfl
theorem bC_Valley_readFrom_3_22 {E : Ec} {G : Gc}    (C : JC E (VC G 3 0 0 RX7) cX7_readFrom 7 (some .boolean))    : ∀ (n : Nat) (x2 : Int32) (S : St), J E (VC G 3 0 0 RX7) 0 0 22 [(0, .ref (gA G 3)), (1, .ref (gA G 1)), (2, .int x2)] [] S (fC_Valley_readFrom_3_22  n x2 S) := by
  intro n
  induction n with
  | zero => intro x2 S; rw [fC_Valley_readFrom_3_22]; exact j_none
  | succ n ih =>
    intro x2 S
    rw [fC_Valley_readFrom_3_22]
    refine j_iload_n (pc := 22) 2 C dX7_readFrom_22 rfl rfl ?_
    refine j_bipush (pc := 23) 60 C dX7_readFrom_23 (by decide) ?_
    refine j_icmp_gt (pc := 25) 73 C dX7_readFrom_25 (by decide) ?_ ?_
    ·
      refine j_iconst (pc := 73) 0 C dX7_readFrom_73 (by decide) ?_
      exact j_zretc C dX7_readFrom_74 rfl (Nat.le_of_ble_eq_true rfl) (Nat.le_of_ble_eq_true rfl) rfl
    ·
      refine j_aload_n (pc := 28) 1 C dX7_readFrom_28 rfl rfl ?_
      refine j_callI0 (pc := 29) C (rC_Tape_ended C dX7_readFrom_29 q_85 (by omega) (Nat.le_of_ble_eq_true rfl) ⟨Nat.le_of_ble_eq_true rfl, Nat.le_of_ble_eq_true rfl⟩) ⟨Nat.le_of_ble_eq_true rfl, Nat.le_of_ble_eq_true rfl⟩ (fun r2 T1 => ?_)
      refine j_if_eq (pc := 32) 37 C dX7_readFrom_32 (by decide) ?_ ?_
      ·
        refine j_aload_n (pc := 37) 0 C dX7_readFrom_37 rfl rfl ?_
        refine j_aload_n (pc := 38) 1 C dX7_readFrom_38 rfl rfl ?_
        refine j_iload_n (pc := 39) 2 C dX7_readFrom_39 rfl rfl ?_
        refine j_bipush (pc := 40) 60 C dX7_readFrom_40 (by decide) ?_
        refine j_icmp_ne (pc := 42) 49 C dX7_readFrom_42 (by decide) ?_ ?_
        ·
          refine j_iconst (pc := 49) 0 C dX7_readFrom_49 (by decide) ?_
          exact bC_Valley_readFrom_3_50 C ih x2 0 T1
        ·
          refine j_iconst (pc := 45) 1 C dX7_readFrom_45 (by decide) ?_
          refine j_goto (pc := 46) 50 C dX7_readFrom_46 (by decide) ?_
          exact bC_Valley_readFrom_3_50 C ih x2 1 T1
      ·
        refine j_iconst (pc := 35) 1 C dX7_readFrom_35 (by decide) ?_
        exact j_zretc C dX7_readFrom_36 rfl (Nat.le_of_ble_eq_true rfl) (Nat.le_of_ble_eq_true rfl) rfl
theorem bC_Valley_readFrom_3 {E : Ec} {G : Gc}    (C : JC E (VC G 3 0 0 RX7) cX7_readFrom 7 (some .boolean))     (S : St) : J E (VC G 3 0 0 RX7) 0 0 0 [(0, .ref (gA G 3)), (1, .ref (gA G 1))] [] S (fC_Valley_readFrom_3   S) := by
  unfold fC_Valley_readFrom_3
  refine j_aload_n (pc := 0) 0 C dX7_readFrom_0 rfl rfl ?_
  refine j_iconst (pc := 1) 0 C dX7_readFrom_1 (by decide) ?_
  refine pC_3_0 (pc := 2) C dX7_readFrom_2 q_74 ?_
  refine j_nxS (fun T1 => ?_)
  refine j_aload_n (pc := 5) 0 C dX7_readFrom_5 rfl rfl ?_
  refine j_iconst (pc := 6) 0 C dX7_readFrom_6 (by decide) ?_
  refine pC_3_1 (pc := 7) C dX7_readFrom_7 q_75 ?_
  refine j_nxS (fun T2 => ?_)
  refine j_aload_n (pc := 10) 0 C dX7_readFrom_10 rfl rfl ?_
  refine j_iconst (pc := 11) 0 C dX7_readFrom_11 (by decide) ?_
  refine pC_3_2 (pc := 12) C dX7_readFrom_12 q_76 ?_
  refine j_nxS (fun T3 => ?_)
  refine j_aload_n (pc := 15) 0 C dX7_readFrom_15 rfl rfl ?_
  refine j_iconst (pc := 16) 3 C dX7_readFrom_16 (by decide) ?_
  refine pC_3_3 (pc := 17) C dX7_readFrom_17 q_77 ?_
  refine j_nxS (fun T4 => ?_)
  refine j_iconst (pc := 20) 0 C dX7_readFrom_20 (by decide) ?_
  refine j_istore_n (pc := 21) [(2, .int 0), (0, .ref (gA G 3)), (1, .ref (gA G 1))] C dX7_readFrom_21 rfl (Nat.le_of_ble_eq_true rfl) rfl ?_
  refine j_sub [1, 2, 0] rfl ?_
  exact bC_Valley_readFrom_3_22 C  FU 0 T4
theorem cC_Valley_readFrom_3 {l : Launch} {G : Gc} (hfl : l.stackTraces = false) (hW : Wok G wC 54)    (S : St) : Ct l yX7_readFrom (Cond.code yX7_readFrom cX7_readFrom 3 (some .boolean) :: tblG) 7 0 0 G wC 54 [.ref (gA G 3), .ref (gA G 1)] S (fC_Valley_readFrom_3  S) := ct_of (own := RX7) hfl (by decide +kernel) rfl hW (Nat.le_of_ble_eq_true rfl) (fun E hE C => by subst hE; exact bC_Valley_readFrom_3 C    S)
theorem rC_Valley_readFrom_3 {E : Ec} {G : Gc} {nL mc ms : Nat} {own : String} {cc : ByteArray} {L : Nat} {ret : Option FieldType} {k n pc ix : Nat} {loc : List (Nat × Value)} {rest : List Value}   {S : St}  (C : JC E (VC G nL mc ms own) cc L ret) (hd : decode cc pc = .ok (.invokevirtual ix, 3)) (hq : Cond.methodLink own ix yX7_readFrom ∈ tblG) (hL : 7 + 1 ≤ L) (hW : (rest.map fun v => v.category).sum ≤ 8) (hf : k + 0 ≤ mc ∧ n + 0 ≤ ms) : Rn E (VC G nL mc ms own) k n 0 0 pc loc (.ref (gA G 1) :: .ref (gA G 3) :: rest) rest S (fC_Valley_readFrom_3  S) := rn_V (ci := 7) 3 (V := VC G nL mc ms own) (As := [.ref (gA G 1)]) (Cq := (RX7, TX7, 12)) (cC_Valley_readFrom_3 C.flags C.wok   S) knX7_readFrom ⟨q_145, q_146⟩ rfl rfl C hd hq hL rfl rfl hW hf

theorem knX7_copyFrom : Kn yX7_copyFrom cX7_copyFrom 2 none 1 := ⟨q_153, q_112, by decide +kernel, by decide⟩
theorem bC_Valley_copyFrom_2 {E : Ec} {G : Gc}    (C : JC E (VC G 2 0 0 RX7) cX7_copyFrom 1 none)     (S : St) : J E (VC G 2 0 0 RX7) 0 0 0 [(0, .ref (gA G 2)), (1, .ref (gA G 3))] [] S (fC_Valley_copyFrom_2   S) := by
  unfold fC_Valley_copyFrom_2
  refine j_aload_n (pc := 0) 0 C dX7_copyFrom_0 rfl rfl ?_
  refine j_aload_n (pc := 1) 1 C dX7_copyFrom_1 rfl rfl ?_
  refine gC_3_0 (pc := 2) C dX7_copyFrom_2 q_74 ?_
  refine pC_2_0 (pc := 5) C dX7_copyFrom_5 q_74 ?_
  refine j_nxS (fun T1 => ?_)
  refine j_aload_n (pc := 8) 0 C dX7_copyFrom_8 rfl rfl ?_
  refine j_aload_n (pc := 9) 1 C dX7_copyFrom_9 rfl rfl ?_
  refine gC_3_1 (pc := 10) C dX7_copyFrom_10 q_75 ?_
  refine pC_2_1 (pc := 13) C dX7_copyFrom_13 q_75 ?_
  refine j_nxS (fun T2 => ?_)
  refine j_aload_n (pc := 16) 0 C dX7_copyFrom_16 rfl rfl ?_
  refine j_aload_n (pc := 17) 1 C dX7_copyFrom_17 rfl rfl ?_
  refine gC_3_2 (pc := 18) C dX7_copyFrom_18 q_76 ?_
  refine pC_2_2 (pc := 21) C dX7_copyFrom_21 q_76 ?_
  refine j_nxS (fun T3 => ?_)
  refine j_aload_n (pc := 24) 0 C dX7_copyFrom_24 rfl rfl ?_
  refine j_aload_n (pc := 25) 1 C dX7_copyFrom_25 rfl rfl ?_
  refine gC_3_3 (pc := 26) C dX7_copyFrom_26 q_77 ?_
  refine pC_2_3 (pc := 29) C dX7_copyFrom_29 q_77 ?_
  refine j_nxS (fun T4 => ?_)
  refine j_aload_n (pc := 32) 1 C dX7_copyFrom_32 rfl rfl ?_
  refine gC_3_4 (pc := 33) C dX7_copyFrom_33 q_130 ?_
  refine j_iconst (pc := 36) 0 C dX7_copyFrom_36 (by decide) ?_
  refine j_aload_n (pc := 37) 0 C dX7_copyFrom_37 rfl rfl ?_
  refine gC_2_4 (pc := 38) C dX7_copyFrom_38 q_130 ?_
  refine j_iconst (pc := 41) 0 C dX7_copyFrom_41 (by decide) ?_
  refine j_bipush (pc := 42) 8 C dX7_copyFrom_42 (by decide) ?_
  refine j_copy (pc := 44) (V := VC G 2 _ _ RX7) (sC T4 23 15 0 0 8) 23 15 rfl rfl rfl C dX7_copyFrom_44 q_149 q_150 q_151 q_152 (by omega) (Nat.le_of_ble_eq_true rfl) ?_
  refine j_nxS (fun T5 => ?_)
  refine j_aload_n (pc := 47) 1 C dX7_copyFrom_47 rfl rfl ?_
  refine gC_3_5 (pc := 48) C dX7_copyFrom_48 q_131 ?_
  refine j_iconst (pc := 51) 0 C dX7_copyFrom_51 (by decide) ?_
  refine j_aload_n (pc := 52) 0 C dX7_copyFrom_52 rfl rfl ?_
  refine gC_2_5 (pc := 53) C dX7_copyFrom_53 q_131 ?_
  refine j_iconst (pc := 56) 0 C dX7_copyFrom_56 (by decide) ?_
  refine j_bipush (pc := 57) 8 C dX7_copyFrom_57 (by decide) ?_
  refine j_copy (pc := 59) (V := VC G 2 _ _ RX7) (sC T5 24 16 0 0 8) 24 16 rfl rfl rfl C dX7_copyFrom_59 q_149 q_150 q_151 q_152 (by omega) (Nat.le_of_ble_eq_true rfl) ?_
  refine j_nxS (fun T6 => ?_)
  refine j_aload_n (pc := 62) 1 C dX7_copyFrom_62 rfl rfl ?_
  refine gC_3_6 (pc := 63) C dX7_copyFrom_63 q_124 ?_
  refine j_iconst (pc := 66) 0 C dX7_copyFrom_66 (by decide) ?_
  refine j_aload_n (pc := 67) 0 C dX7_copyFrom_67 rfl rfl ?_
  refine gC_2_6 (pc := 68) C dX7_copyFrom_68 q_124 ?_
  refine j_iconst (pc := 71) 0 C dX7_copyFrom_71 (by decide) ?_
  refine j_bipush (pc := 72) 6 C dX7_copyFrom_72 (by decide) ?_
  refine j_copy (pc := 74) (V := VC G 2 _ _ RX7) (sC T6 25 17 0 0 6) 25 17 rfl rfl rfl C dX7_copyFrom_74 q_149 q_150 q_151 q_152 (by omega) (Nat.le_of_ble_eq_true rfl) ?_
  refine j_nxS (fun T7 => ?_)
  refine j_aload_n (pc := 77) 1 C dX7_copyFrom_77 rfl rfl ?_
  refine gC_3_7 (pc := 78) C dX7_copyFrom_78 q_125 ?_
  refine j_iconst (pc := 81) 0 C dX7_copyFrom_81 (by decide) ?_
  refine j_aload_n (pc := 82) 0 C dX7_copyFrom_82 rfl rfl ?_
  refine gC_2_7 (pc := 83) C dX7_copyFrom_83 q_125 ?_
  refine j_iconst (pc := 86) 0 C dX7_copyFrom_86 (by decide) ?_
  refine j_bipush (pc := 87) 6 C dX7_copyFrom_87 (by decide) ?_
  refine j_copy (pc := 89) (V := VC G 2 _ _ RX7) (sC T7 26 18 0 0 6) 26 18 rfl rfl rfl C dX7_copyFrom_89 q_149 q_150 q_151 q_152 (by omega) (Nat.le_of_ble_eq_true rfl) ?_
  refine j_nxS (fun T8 => ?_)
  refine j_aload_n (pc := 92) 1 C dX7_copyFrom_92 rfl rfl ?_
  refine gC_3_8 (pc := 93) C dX7_copyFrom_93 q_116 ?_
  refine j_iconst (pc := 96) 0 C dX7_copyFrom_96 (by decide) ?_
  refine j_aload_n (pc := 97) 0 C dX7_copyFrom_97 rfl rfl ?_
  refine gC_2_8 (pc := 98) C dX7_copyFrom_98 q_116 ?_
  refine j_iconst (pc := 101) 0 C dX7_copyFrom_101 (by decide) ?_
  refine j_bipush (pc := 102) 10 C dX7_copyFrom_102 (by decide) ?_
  refine j_copy (pc := 104) (V := VC G 2 _ _ RX7) (sC T8 27 19 0 0 10) 27 19 rfl rfl rfl C dX7_copyFrom_104 q_149 q_150 q_151 q_152 (by omega) (Nat.le_of_ble_eq_true rfl) ?_
  refine j_nxS (fun T9 => ?_)
  refine j_aload_n (pc := 107) 1 C dX7_copyFrom_107 rfl rfl ?_
  refine gC_3_9 (pc := 108) C dX7_copyFrom_108 q_117 ?_
  refine j_iconst (pc := 111) 0 C dX7_copyFrom_111 (by decide) ?_
  refine j_aload_n (pc := 112) 0 C dX7_copyFrom_112 rfl rfl ?_
  refine gC_2_9 (pc := 113) C dX7_copyFrom_113 q_117 ?_
  refine j_iconst (pc := 116) 0 C dX7_copyFrom_116 (by decide) ?_
  refine j_bipush (pc := 117) 10 C dX7_copyFrom_117 (by decide) ?_
  refine j_copy (pc := 119) (V := VC G 2 _ _ RX7) (sC T9 28 20 0 0 10) 28 20 rfl rfl rfl C dX7_copyFrom_119 q_149 q_150 q_151 q_152 (by omega) (Nat.le_of_ble_eq_true rfl) ?_
  refine j_nxS (fun T10 => ?_)
  refine j_aload_n (pc := 122) 1 C dX7_copyFrom_122 rfl rfl ?_
  refine gC_3_10 (pc := 123) C dX7_copyFrom_123 q_118 ?_
  refine j_iconst (pc := 126) 0 C dX7_copyFrom_126 (by decide) ?_
  refine j_aload_n (pc := 127) 0 C dX7_copyFrom_127 rfl rfl ?_
  refine gC_2_10 (pc := 128) C dX7_copyFrom_128 q_118 ?_
  refine j_iconst (pc := 131) 0 C dX7_copyFrom_131 (by decide) ?_
  refine j_bipush (pc := 132) 10 C dX7_copyFrom_132 (by decide) ?_
  refine j_copy (pc := 134) (V := VC G 2 _ _ RX7) (sC T10 29 21 0 0 10) 29 21 rfl rfl rfl C dX7_copyFrom_134 q_149 q_150 q_151 q_152 (by omega) (Nat.le_of_ble_eq_true rfl) ?_
  refine j_nxS (fun T11 => ?_)
  refine j_aload_n (pc := 137) 1 C dX7_copyFrom_137 rfl rfl ?_
  refine gC_3_11 (pc := 138) C dX7_copyFrom_138 q_119 ?_
  refine j_iconst (pc := 141) 0 C dX7_copyFrom_141 (by decide) ?_
  refine j_aload_n (pc := 142) 0 C dX7_copyFrom_142 rfl rfl ?_
  refine gC_2_11 (pc := 143) C dX7_copyFrom_143 q_119 ?_
  refine j_iconst (pc := 146) 0 C dX7_copyFrom_146 (by decide) ?_
  refine j_bipush (pc := 147) 10 C dX7_copyFrom_147 (by decide) ?_
  refine j_copy (pc := 149) (V := VC G 2 _ _ RX7) (sC T11 30 22 0 0 10) 30 22 rfl rfl rfl C dX7_copyFrom_149 q_149 q_150 q_151 q_152 (by omega) (Nat.le_of_ble_eq_true rfl) ?_
  refine j_nxS (fun T12 => ?_)
  exact j_vret C dX7_copyFrom_152 rfl (Nat.le_of_ble_eq_true rfl) (Nat.le_of_ble_eq_true rfl)
theorem cC_Valley_copyFrom_2 {l : Launch} {G : Gc} (hfl : l.stackTraces = false) (hW : Wok G wC 54)    (S : St) : Ct l yX7_copyFrom (Cond.code yX7_copyFrom cX7_copyFrom 2 none :: tblG) 1 0 0 G wC 54 [.ref (gA G 2), .ref (gA G 3)] S (fC_Valley_copyFrom_2  S) := ct_of (own := RX7) hfl (by decide +kernel) rfl hW (Nat.le_of_ble_eq_true rfl) (fun E hE C => by subst hE; exact bC_Valley_copyFrom_2 C    S)
theorem rC_Valley_copyFrom_2 {E : Ec} {G : Gc} {nL mc ms : Nat} {own : String} {cc : ByteArray} {L : Nat} {ret : Option FieldType} {k n pc ix : Nat} {loc : List (Nat × Value)} {rest : List Value}   {S : St}  (C : JC E (VC G nL mc ms own) cc L ret) (hd : decode cc pc = .ok (.invokevirtual ix, 3)) (hq : Cond.methodLink own ix yX7_copyFrom ∈ tblG) (hL : 1 + 1 ≤ L) (hW : (rest.map fun v => v.category).sum ≤ 8) (hf : k + 0 ≤ mc ∧ n + 0 ≤ ms) : Rn E (VC G nL mc ms own) k n 0 0 pc loc (.ref (gA G 3) :: .ref (gA G 2) :: rest) rest S (fC_Valley_copyFrom_2  S) := rn_V (ci := 7) 2 (V := VC G nL mc ms own) (As := [.ref (gA G 3)]) (Cq := (RX7, TX7, 12)) (cC_Valley_copyFrom_2 C.flags C.wok   S) knX7_copyFrom ⟨q_154, q_155⟩ rfl rfl C hd hq hL rfl rfl hW hf

theorem knX1_put : Kn yX1_put cX1_put 2 (some .boolean) 1 := ⟨q_160, q_161, by decide +kernel, by decide⟩
theorem bC_Law_put_4 {E : Ec} {G : Gc}    (C : JC E (VC G 2 0 0 RX1) cX1_put 1 (some .boolean))    (x1 : Int32) (S : St) : J E (VC G 2 0 0 RX1) 0 0 0 [(0, .ref (gA G 4)), (1, .int x1)] [] S (fC_Law_put_4  x1 S) := by
  unfold fC_Law_put_4
  refine j_aload_n (pc := 0) 0 C dX1_put_0 rfl rfl ?_
  refine gC_4_1 (pc := 1) C dX1_put_1 q_158 ?_
  refine j_sipush (pc := 4) 160 C dX1_put_4 (by decide) ?_
  refine j_icmp_lt (pc := 7) 12 C dX1_put_7 (by decide) ?_ ?_
  ·
    refine j_aload_n (pc := 12) 0 C dX1_put_12 rfl rfl ?_
    refine gC_4_0 (pc := 13) C dX1_put_13 q_159 ?_
    refine j_aload_n (pc := 16) 0 C dX1_put_16 rfl rfl ?_
    refine gC_4_1 (pc := 17) C dX1_put_17 q_158 ?_
    refine j_iload_n (pc := 20) 1 C dX1_put_20 rfl rfl ?_
    refine sC_31 (pc := 21) C dX1_put_21 ?_
    refine j_nxS (fun T1 => ?_)
    refine j_aload_n (pc := 22) 0 C dX1_put_22 rfl rfl ?_
    refine j_dup (pc := 23) C dX1_put_23 rfl ?_
    refine gC_4_1 (pc := 24) C dX1_put_24 q_158 ?_
    refine j_iconst (pc := 27) 1 C dX1_put_27 (by decide) ?_
    refine j_iadd (pc := 28) C dX1_put_28 ?_
    refine pC_4_1 (pc := 29) C dX1_put_29 q_158 ?_
    refine j_nxS (fun T2 => ?_)
    refine j_iconst (pc := 32) 1 C dX1_put_32 (by decide) ?_
    exact j_zretc C dX1_put_33 rfl (Nat.le_of_ble_eq_true rfl) (Nat.le_of_ble_eq_true rfl) rfl
  ·
    refine j_iconst (pc := 10) 0 C dX1_put_10 (by decide) ?_
    exact j_zretc C dX1_put_11 rfl (Nat.le_of_ble_eq_true rfl) (Nat.le_of_ble_eq_true rfl) rfl
theorem cC_Law_put_4 {l : Launch} {G : Gc} (hfl : l.stackTraces = false) (hW : Wok G wC 54)   (x1 : Int32) (S : St) : Ct l yX1_put (Cond.code yX1_put cX1_put 2 (some .boolean) :: tblG) 1 0 0 G wC 54 [.ref (gA G 4), .int x1] S (fC_Law_put_4 x1 S) := ct_of (own := RX1) hfl (by decide +kernel) rfl hW (Nat.le_of_ble_eq_true rfl) (fun E hE C => by subst hE; exact bC_Law_put_4 C   x1 S)
theorem rC_Law_put_4 {E : Ec} {G : Gc} {nL mc ms : Nat} {own : String} {cc : ByteArray} {L : Nat} {ret : Option FieldType} {k n pc ix : Nat} {loc : List (Nat × Value)} {rest : List Value}  {x1 : Int32} {S : St}  (C : JC E (VC G nL mc ms own) cc L ret) (hd : decode cc pc = .ok (.invokevirtual ix, 3)) (hq : Cond.methodLink own ix yX1_put ∈ tblG) (hL : 1 + 1 ≤ L) (hW : (rest.map fun v => v.category).sum ≤ 8) (hf : k + 0 ≤ mc ∧ n + 0 ≤ ms) : Rn E (VC G nL mc ms own) k n 0 0 pc loc (.int x1 :: .ref (gA G 4) :: rest) rest S (fC_Law_put_4 x1 S) := rn_V (ci := 1) 4 (V := VC G nL mc ms own) (As := [.int x1]) (Cq := (RX1, TX1, 4)) (cC_Law_put_4 C.flags C.wok  x1 S) knX1_put ⟨q_162, q_163⟩ rfl rfl C hd hq hL rfl rfl hW hf

theorem knX1_makePlain : Kn yX1_makePlain cX1_makePlain 1 none 0 := ⟨q_165, q_161, by decide +kernel, by decide⟩
theorem bC_Law_makePlain_4 {E : Ec} {G : Gc}    (C : JC E (VC G 1 0 0 RX1) cX1_makePlain 2 none)     (S : St) : J E (VC G 1 0 0 RX1) 0 0 0 [(0, .ref (gA G 4))] [] S (fC_Law_makePlain_4   S) := by
  unfold fC_Law_makePlain_4
  refine j_aload_n (pc := 0) 0 C dX1_makePlain_0 rfl rfl ?_
  refine j_iconst (pc := 1) 0 C dX1_makePlain_1 (by decide) ?_
  refine pC_4_1 (pc := 2) C dX1_makePlain_2 q_158 ?_
  refine j_nxS (fun T1 => ?_)
  refine j_aload_n (pc := 5) 0 C dX1_makePlain_5 rfl rfl ?_
  refine j_bipush (pc := 6) 9 C dX1_makePlain_6 (by decide) ?_
  refine j_callI0 (pc := 8) C (rC_Law_put_4 C dX1_makePlain_8 q_164 (by omega) (Nat.le_of_ble_eq_true rfl) ⟨Nat.le_of_ble_eq_true rfl, Nat.le_of_ble_eq_true rfl⟩) ⟨Nat.le_of_ble_eq_true rfl, Nat.le_of_ble_eq_true rfl⟩ (fun r3 T2 => ?_)
  refine j_pop (pc := 11) C dX1_makePlain_11 rfl ?_
  refine j_aload_n (pc := 12) 0 C dX1_makePlain_12 rfl rfl ?_
  refine j_sipush (pc := 13) 1001 C dX1_makePlain_13 (by decide) ?_
  refine j_callI0 (pc := 16) C (rC_Law_put_4 C dX1_makePlain_16 q_164 (by omega) (Nat.le_of_ble_eq_true rfl) ⟨Nat.le_of_ble_eq_true rfl, Nat.le_of_ble_eq_true rfl⟩) ⟨Nat.le_of_ble_eq_true rfl, Nat.le_of_ble_eq_true rfl⟩ (fun r5 T4 => ?_)
  refine j_pop (pc := 19) C dX1_makePlain_19 rfl ?_
  refine j_aload_n (pc := 20) 0 C dX1_makePlain_20 rfl rfl ?_
  refine j_sipush (pc := 21) 2001 C dX1_makePlain_21 (by decide) ?_
  refine j_callI0 (pc := 24) C (rC_Law_put_4 C dX1_makePlain_24 q_164 (by omega) (Nat.le_of_ble_eq_true rfl) ⟨Nat.le_of_ble_eq_true rfl, Nat.le_of_ble_eq_true rfl⟩) ⟨Nat.le_of_ble_eq_true rfl, Nat.le_of_ble_eq_true rfl⟩ (fun r7 T6 => ?_)
  refine j_pop (pc := 27) C dX1_makePlain_27 rfl ?_
  exact j_vret C dX1_makePlain_28 rfl (Nat.le_of_ble_eq_true rfl) (Nat.le_of_ble_eq_true rfl)
theorem cC_Law_makePlain_4 {l : Launch} {G : Gc} (hfl : l.stackTraces = false) (hW : Wok G wC 54)    (S : St) : Ct l yX1_makePlain (Cond.code yX1_makePlain cX1_makePlain 1 none :: tblG) 2 0 0 G wC 54 [.ref (gA G 4)] S (fC_Law_makePlain_4  S) := ct_of (own := RX1) hfl (by decide +kernel) rfl hW (Nat.le_of_ble_eq_true rfl) (fun E hE C => by subst hE; exact bC_Law_makePlain_4 C    S)
theorem rC_Law_makePlain_4 {E : Ec} {G : Gc} {nL mc ms : Nat} {own : String} {cc : ByteArray} {L : Nat} {ret : Option FieldType} {k n pc ix : Nat} {loc : List (Nat × Value)} {rest : List Value}   {S : St}  (C : JC E (VC G nL mc ms own) cc L ret) (hd : decode cc pc = .ok (.invokevirtual ix, 3)) (hq : Cond.methodLink own ix yX1_makePlain ∈ tblG) (hL : 2 + 1 ≤ L) (hW : (rest.map fun v => v.category).sum ≤ 8) (hf : k + 0 ≤ mc ∧ n + 0 ≤ ms) : Rn E (VC G nL mc ms own) k n 0 0 pc loc (.ref (gA G 4) :: rest) rest S (fC_Law_makePlain_4  S) := rn_V (ci := 1) 4 (V := VC G nL mc ms own) (As := []) (Cq := (RX1, TX1, 4)) (cC_Law_makePlain_4 C.flags C.wok   S) knX1_makePlain ⟨q_166, q_167⟩ rfl rfl C hd hq hL rfl rfl hW hf

theorem knX5_clear : Kn yX5_clear cX5_clear 2 none 0 := ⟨q_173, q_174, by decide +kernel, by decide⟩
theorem bC_State_clear_9_2 {E : Ec} {G : Gc}    (C : JC E (VC G 2 0 0 RX5) cX5_clear 1 none)    : ∀ (n : Nat) (x1 : Int32) (S : St), J E (VC G 2 0 0 RX5) 0 0 2 [(0, .ref (gA G 9)), (1, .int x1)] [] S (fC_State_clear_9_2  n x1 S) := by
  intro n
  induction n with
  | zero => intro x1 S; rw [fC_State_clear_9_2]; exact j_none
  | succ n ih =>
    intro x1 S
    rw [fC_State_clear_9_2]
    refine j_iload_n (pc := 2) 1 C dX5_clear_2 rfl rfl ?_
    refine j_bipush (pc := 3) 74 C dX5_clear_3 (by decide) ?_
    refine j_icmp_ge (pc := 5) 21 C dX5_clear_5 (by decide) ?_ ?_
    ·
      exact j_vret C dX5_clear_21 rfl (Nat.le_of_ble_eq_true rfl) (Nat.le_of_ble_eq_true rfl)
    ·
      refine j_aload_n (pc := 8) 0 C dX5_clear_8 rfl rfl ?_
      refine gC_9_0 (pc := 9) C dX5_clear_9 q_172 ?_
      refine j_iload_n (pc := 12) 1 C dX5_clear_12 rfl rfl ?_
      refine j_iconst (pc := 13) 0 C dX5_clear_13 (by decide) ?_
      refine sC_46 (pc := 14) C dX5_clear_14 ?_
      refine j_nxS (fun T1 => ?_)
      refine j_iinc (pc := 15) 1 (x1 + 1) [(1, .int (x1 + 1)), (0, .ref (gA G 9))] C dX5_clear_15 rfl rfl (Nat.le_of_ble_eq_true rfl) rfl ?_
      refine j_goto (pc := 18) 2 C dX5_clear_18 (by decide) ?_
      refine j_sub [1, 0] rfl ?_
      exact ih (x1 + 1) T1
theorem bC_State_clear_9 {E : Ec} {G : Gc}    (C : JC E (VC G 2 0 0 RX5) cX5_clear 1 none)     (S : St) : J E (VC G 2 0 0 RX5) 0 0 0 [(0, .ref (gA G 9))] [] S (fC_State_clear_9   S) := by
  unfold fC_State_clear_9
  refine j_iconst (pc := 0) 0 C dX5_clear_0 (by decide) ?_
  refine j_istore_n (pc := 1) [(1, .int 0), (0, .ref (gA G 9))] C dX5_clear_1 rfl (Nat.le_of_ble_eq_true rfl) rfl ?_
  refine j_sub [1, 0] rfl ?_
  exact bC_State_clear_9_2 C  FU 0 S
theorem cC_State_clear_9 {l : Launch} {G : Gc} (hfl : l.stackTraces = false) (hW : Wok G wC 54)    (S : St) : Ct l yX5_clear (Cond.code yX5_clear cX5_clear 2 none :: tblG) 1 0 0 G wC 54 [.ref (gA G 9)] S (fC_State_clear_9  S) := ct_of (own := RX5) hfl (by decide +kernel) rfl hW (Nat.le_of_ble_eq_true rfl) (fun E hE C => by subst hE; exact bC_State_clear_9 C    S)
theorem rC_State_clear_9 {E : Ec} {G : Gc} {nL mc ms : Nat} {own : String} {cc : ByteArray} {L : Nat} {ret : Option FieldType} {k n pc ix : Nat} {loc : List (Nat × Value)} {rest : List Value}   {S : St}  (C : JC E (VC G nL mc ms own) cc L ret) (hd : decode cc pc = .ok (.invokevirtual ix, 3)) (hq : Cond.methodLink own ix yX5_clear ∈ tblG) (hL : 1 + 1 ≤ L) (hW : (rest.map fun v => v.category).sum ≤ 8) (hf : k + 0 ≤ mc ∧ n + 0 ≤ ms) : Rn E (VC G nL mc ms own) k n 0 0 pc loc (.ref (gA G 9) :: rest) rest S (fC_State_clear_9  S) := rn_V (ci := 5) 9 (V := VC G nL mc ms own) (As := []) (Cq := (RX5, TX5, 3)) (cC_State_clear_9 C.flags C.wok   S) knX5_clear ⟨q_175, q_176⟩ rfl rfl C hd hq hL rfl rfl hW hf

theorem knX4_clear : Kn yX4_clear cX4_clear 1 none 0 := ⟨q_181, q_182, by decide +kernel, by decide⟩
theorem bC_Shelf_clear {E : Ec} {G : Gc}    (C : JC E (VC G 1 0 0 RX4) cX4_clear 1 none)     (S : St) : J E (VC G 1 0 0 RX4) 0 0 0 [(0, .ref (gA G 10))] [] S (fC_Shelf_clear   S) := by
  unfold fC_Shelf_clear
  refine j_aload_n (pc := 0) 0 C dX4_clear_0 rfl rfl ?_
  refine j_iconst (pc := 1) 0 C dX4_clear_1 (by decide) ?_
  refine pC_10_0 (pc := 2) C dX4_clear_2 q_179 ?_
  refine j_nxS (fun T1 => ?_)
  refine j_aload_n (pc := 5) 0 C dX4_clear_5 rfl rfl ?_
  refine j_iconst (pc := 6) 0 C dX4_clear_6 (by decide) ?_
  refine pC_10_1 (pc := 7) C dX4_clear_7 q_180 ?_
  refine j_nxS (fun T2 => ?_)
  exact j_vret C dX4_clear_10 rfl (Nat.le_of_ble_eq_true rfl) (Nat.le_of_ble_eq_true rfl)
theorem cC_Shelf_clear {l : Launch} {G : Gc} (hfl : l.stackTraces = false) (hW : Wok G wC 54)    (S : St) : Ct l yX4_clear (Cond.code yX4_clear cX4_clear 1 none :: tblG) 1 0 0 G wC 54 [.ref (gA G 10)] S (fC_Shelf_clear  S) := ct_of (own := RX4) hfl (by decide +kernel) rfl hW (Nat.le_of_ble_eq_true rfl) (fun E hE C => by subst hE; exact bC_Shelf_clear C    S)
theorem rC_Shelf_clear {E : Ec} {G : Gc} {nL mc ms : Nat} {own : String} {cc : ByteArray} {L : Nat} {ret : Option FieldType} {k n pc ix : Nat} {loc : List (Nat × Value)} {rest : List Value}   {S : St}  (C : JC E (VC G nL mc ms own) cc L ret) (hd : decode cc pc = .ok (.invokevirtual ix, 3)) (hq : Cond.methodLink own ix yX4_clear ∈ tblG) (hL : 1 + 1 ≤ L) (hW : (rest.map fun v => v.category).sum ≤ 8) (hf : k + 0 ≤ mc ∧ n + 0 ≤ ms) : Rn E (VC G nL mc ms own) k n 0 0 pc loc (.ref (gA G 10) :: rest) rest S (fC_Shelf_clear  S) := rn_V (ci := 4) 10 (V := VC G nL mc ms own) (As := []) (Cq := (RX4, TX4, 5)) (cC_Shelf_clear C.flags C.wok   S) knX4_clear ⟨q_183, q_184⟩ rfl rfl C hd hq hL rfl rfl hW hf

theorem knX9_valley : Kn yX9_valley cX9_valley 2 (some .int) 1 := ⟨q_189, q_40, by decide +kernel, by decide⟩
theorem bC_Main_valley {E : Ec} {G : Gc}    (C : JC E (VC G 2 1 6 RX9) cX9_valley 9 (some .int))    (x1 : Int32) (S : St) : J E (VC G 2 1 6 RX9) 0 0 0 [(0, .ref (gA G 0)), (1, .int x1)] [] S (fC_Main_valley  x1 S) := by
  unfold fC_Main_valley
  refine j_aload_n (pc := 0) 0 C dX9_valley_0 rfl rfl ?_
  refine j_iload_n (pc := 1) 1 C dX9_valley_1 rfl rfl ?_
  refine j_sipush (pc := 2) 600 C dX9_valley_2 (by decide) ?_
  refine j_callv (pc := 5) C (rC_Main_openText C dX9_valley_5 q_72 (by omega) (Nat.le_of_ble_eq_true rfl) ⟨Nat.le_of_ble_eq_true rfl, Nat.le_of_ble_eq_true rfl⟩) ⟨Nat.le_of_ble_eq_true rfl, Nat.le_of_ble_eq_true rfl⟩ (fun T1 => ?_)
  refine j_aload_n (pc := 8) 0 C dX9_valley_8 rfl rfl ?_
  refine gC_0_2 (pc := 9) C dX9_valley_9 q_73 ?_
  refine j_aload_n (pc := 12) 0 C dX9_valley_12 rfl rfl ?_
  refine gC_0_0 (pc := 13) C dX9_valley_13 q_30 ?_
  refine j_callI0 (pc := 16) C (rC_Valley_readFrom_3 C dX9_valley_16 q_147 (by omega) (Nat.le_of_ble_eq_true rfl) ⟨Nat.le_of_ble_eq_true rfl, Nat.le_of_ble_eq_true rfl⟩) ⟨Nat.le_of_ble_eq_true rfl, Nat.le_of_ble_eq_true rfl⟩ (fun r4 T3 => ?_)
  refine j_if_ne (pc := 19) 33 C dX9_valley_19 (by decide) ?_ ?_
  ·
    refine j_aload_n (pc := 33) 0 C dX9_valley_33 rfl rfl ?_
    refine gC_0_1 (pc := 34) C dX9_valley_34 q_148 ?_
    refine j_aload_n (pc := 37) 0 C dX9_valley_37 rfl rfl ?_
    refine gC_0_2 (pc := 38) C dX9_valley_38 q_73 ?_
    refine j_callv0 (pc := 41) C (rC_Valley_copyFrom_2 C dX9_valley_41 q_156 (by omega) (Nat.le_of_ble_eq_true rfl) ⟨Nat.le_of_ble_eq_true rfl, Nat.le_of_ble_eq_true rfl⟩) ⟨Nat.le_of_ble_eq_true rfl, Nat.le_of_ble_eq_true rfl⟩ (fun T5 => ?_)
    refine j_aload_n (pc := 44) 0 C dX9_valley_44 rfl rfl ?_
    refine gC_0_3 (pc := 45) C dX9_valley_45 q_157 ?_
    refine j_callv0 (pc := 48) C (rC_Law_makePlain_4 C dX9_valley_48 q_168 (by omega) (Nat.le_of_ble_eq_true rfl) ⟨Nat.le_of_ble_eq_true rfl, Nat.le_of_ble_eq_true rfl⟩) ⟨Nat.le_of_ble_eq_true rfl, Nat.le_of_ble_eq_true rfl⟩ (fun T7 => ?_)
    refine j_aload_n (pc := 51) 0 C dX9_valley_51 rfl rfl ?_
    refine gC_0_5 (pc := 52) C dX9_valley_52 q_169 ?_
    refine j_iconst (pc := 55) 0 C dX9_valley_55 (by decide) ?_
    refine pC_6_0 (pc := 56) C dX9_valley_56 q_170 ?_
    refine j_nxS (fun T9 => ?_)
    refine j_aload_n (pc := 59) 0 C dX9_valley_59 rfl rfl ?_
    refine gC_0_8 (pc := 60) C dX9_valley_60 q_171 ?_
    refine j_callv0 (pc := 63) C (rC_State_clear_9 C dX9_valley_63 q_177 (by omega) (Nat.le_of_ble_eq_true rfl) ⟨Nat.le_of_ble_eq_true rfl, Nat.le_of_ble_eq_true rfl⟩) ⟨Nat.le_of_ble_eq_true rfl, Nat.le_of_ble_eq_true rfl⟩ (fun T10 => ?_)
    refine j_aload_n (pc := 66) 0 C dX9_valley_66 rfl rfl ?_
    refine gC_0_9 (pc := 67) C dX9_valley_67 q_178 ?_
    refine j_callv0 (pc := 70) C (rC_Shelf_clear C dX9_valley_70 q_185 (by omega) (Nat.le_of_ble_eq_true rfl) ⟨Nat.le_of_ble_eq_true rfl, Nat.le_of_ble_eq_true rfl⟩) ⟨Nat.le_of_ble_eq_true rfl, Nat.le_of_ble_eq_true rfl⟩ (fun T12 => ?_)
    refine j_aload_n (pc := 73) 0 C dX9_valley_73 rfl rfl ?_
    refine j_iconst (pc := 74) 0 C dX9_valley_74 (by decide) ?_
    refine pC_0_12 (pc := 75) C dX9_valley_75 q_186 ?_
    refine j_nxS (fun T14 => ?_)
    refine j_aload_n (pc := 78) 0 C dX9_valley_78 rfl rfl ?_
    refine gC_0_1 (pc := 79) C dX9_valley_79 q_148 ?_
    refine gC_2_2 (pc := 82) C dX9_valley_82 q_187 ?_
    exact j_iret C dX9_valley_85 rfl (Nat.le_of_ble_eq_true rfl) (Nat.le_of_ble_eq_true rfl)
  ·
    refine j_aload_n (pc := 22) 0 C dX9_valley_22 rfl rfl ?_
    refine gC_0_0 (pc := 23) C dX9_valley_23 q_30 ?_
    refine gC_1_2 (pc := 26) C dX9_valley_26 q_188 ?_
    refine j_bipush (pc := 29) 10 C dX9_valley_29 (by decide) ?_
    refine j_isub (pc := 31) C dX9_valley_31 ?_
    exact j_iret C dX9_valley_32 rfl (Nat.le_of_ble_eq_true rfl) (Nat.le_of_ble_eq_true rfl)
theorem cC_Main_valley {l : Launch} {G : Gc} (hfl : l.stackTraces = false) (hW : Wok G wC 54)   (x1 : Int32) (S : St) : Ct l yX9_valley (Cond.code yX9_valley cX9_valley 2 (some .int) :: tblG) 9 1 6 G wC 54 [.ref (gA G 0), .int x1] S (fC_Main_valley x1 S) := ct_of (own := RX9) hfl (by decide +kernel) rfl hW (Nat.le_of_ble_eq_true rfl) (fun E hE C => by subst hE; exact bC_Main_valley C   x1 S)
theorem rC_Main_valley {E : Ec} {G : Gc} {nL mc ms : Nat} {own : String} {cc : ByteArray} {L : Nat} {ret : Option FieldType} {k n pc ix : Nat} {loc : List (Nat × Value)} {rest : List Value}  {x1 : Int32} {S : St}  (C : JC E (VC G nL mc ms own) cc L ret) (hd : decode cc pc = .ok (.invokevirtual ix, 3)) (hq : Cond.methodLink own ix yX9_valley ∈ tblG) (hL : 9 + 1 ≤ L) (hW : (rest.map fun v => v.category).sum ≤ 8) (hf : k + 1 ≤ mc ∧ n + 6 ≤ ms) : Rn E (VC G nL mc ms own) k n 1 6 pc loc (.int x1 :: .ref (gA G 0) :: rest) rest S (fC_Main_valley x1 S) := rn_V (ci := 9) 0 (V := VC G nL mc ms own) (As := [.int x1]) (Cq := (RX9, TX9, 15)) (cC_Main_valley C.flags C.wok  x1 S) knX9_valley ⟨q_190, q_191⟩ rfl rfl C hd hq hL rfl rfl hW hf

theorem knX6_seesDigit : Kn yX6_seesDigit cX6_seesDigit 1 (some .boolean) 0 := ⟨q_193, q_35, by decide +kernel, by decide⟩
theorem bC_Tape_seesDigit {E : Ec} {G : Gc}    (C : JC E (VC G 1 0 0 RX6) cX6_seesDigit 2 (some .boolean))     (S : St) : J E (VC G 1 0 0 RX6) 0 0 0 [(0, .ref (gA G 1))] [] S (fC_Tape_seesDigit   S) := by
  unfold fC_Tape_seesDigit
  refine j_aload_n (pc := 0) 0 C dX6_seesDigit_0 rfl rfl ?_
  refine j_callv0 (pc := 1) C (rC_Tape_skipBlanks C dX6_seesDigit_1 q_81 (by omega) (Nat.le_of_ble_eq_true rfl) ⟨Nat.le_of_ble_eq_true rfl, Nat.le_of_ble_eq_true rfl⟩) ⟨Nat.le_of_ble_eq_true rfl, Nat.le_of_ble_eq_true rfl⟩ (fun T1 => ?_)
  refine j_aload_n (pc := 4) 0 C dX6_seesDigit_4 rfl rfl ?_
  refine gC_1_6 (pc := 5) C dX6_seesDigit_5 q_62 ?_
  refine j_aload_n (pc := 8) 0 C dX6_seesDigit_8 rfl rfl ?_
  refine gC_1_5 (pc := 9) C dX6_seesDigit_9 q_61 ?_
  refine j_icmp_ge (pc := 12) 47 C dX6_seesDigit_12 (by decide) ?_ ?_
  ·
    refine j_iconst (pc := 47) 0 C dX6_seesDigit_47 (by decide) ?_
    exact j_zretc C dX6_seesDigit_48 rfl (Nat.le_of_ble_eq_true rfl) (Nat.le_of_ble_eq_true rfl) rfl
  ·
    refine j_aload_n (pc := 15) 0 C dX6_seesDigit_15 rfl rfl ?_
    refine gC_1_0 (pc := 16) C dX6_seesDigit_16 q_33 ?_
    refine j_aload_n (pc := 19) 0 C dX6_seesDigit_19 rfl rfl ?_
    refine gC_1_6 (pc := 20) C dX6_seesDigit_20 q_62 ?_
    refine aC_14 (pc := 23) C dX6_seesDigit_23 ?_
    refine j_bipush (pc := 24) 48 C dX6_seesDigit_24 (by decide) ?_
    refine j_icmp_lt (pc := 26) 47 C dX6_seesDigit_26 (by decide) ?_ ?_
    ·
      refine j_iconst (pc := 47) 0 C dX6_seesDigit_47 (by decide) ?_
      exact j_zretc C dX6_seesDigit_48 rfl (Nat.le_of_ble_eq_true rfl) (Nat.le_of_ble_eq_true rfl) rfl
    ·
      refine j_aload_n (pc := 29) 0 C dX6_seesDigit_29 rfl rfl ?_
      refine gC_1_0 (pc := 30) C dX6_seesDigit_30 q_33 ?_
      refine j_aload_n (pc := 33) 0 C dX6_seesDigit_33 rfl rfl ?_
      refine gC_1_6 (pc := 34) C dX6_seesDigit_34 q_62 ?_
      refine aC_14 (pc := 37) C dX6_seesDigit_37 ?_
      refine j_bipush (pc := 38) 57 C dX6_seesDigit_38 (by decide) ?_
      refine j_icmp_gt (pc := 40) 47 C dX6_seesDigit_40 (by decide) ?_ ?_
      ·
        refine j_iconst (pc := 47) 0 C dX6_seesDigit_47 (by decide) ?_
        exact j_zretc C dX6_seesDigit_48 rfl (Nat.le_of_ble_eq_true rfl) (Nat.le_of_ble_eq_true rfl) rfl
      ·
        refine j_iconst (pc := 43) 1 C dX6_seesDigit_43 (by decide) ?_
        refine j_goto (pc := 44) 48 C dX6_seesDigit_44 (by decide) ?_
        exact j_zretc C dX6_seesDigit_48 rfl (Nat.le_of_ble_eq_true rfl) (Nat.le_of_ble_eq_true rfl) rfl
theorem cC_Tape_seesDigit {l : Launch} {G : Gc} (hfl : l.stackTraces = false) (hW : Wok G wC 54)    (S : St) : Ct l yX6_seesDigit (Cond.code yX6_seesDigit cX6_seesDigit 1 (some .boolean) :: tblG) 2 0 0 G wC 54 [.ref (gA G 1)] S (fC_Tape_seesDigit  S) := ct_of (own := RX6) hfl (by decide +kernel) rfl hW (Nat.le_of_ble_eq_true rfl) (fun E hE C => by subst hE; exact bC_Tape_seesDigit C    S)
theorem rC_Tape_seesDigit {E : Ec} {G : Gc} {nL mc ms : Nat} {own : String} {cc : ByteArray} {L : Nat} {ret : Option FieldType} {k n pc ix : Nat} {loc : List (Nat × Value)} {rest : List Value}   {S : St}  (C : JC E (VC G nL mc ms own) cc L ret) (hd : decode cc pc = .ok (.invokevirtual ix, 3)) (hq : Cond.methodLink own ix yX6_seesDigit ∈ tblG) (hL : 2 + 1 ≤ L) (hW : (rest.map fun v => v.category).sum ≤ 8) (hf : k + 0 ≤ mc ∧ n + 0 ≤ ms) : Rn E (VC G nL mc ms own) k n 0 0 pc loc (.ref (gA G 1) :: rest) rest S (fC_Tape_seesDigit  S) := rn_V (ci := 6) 1 (V := VC G nL mc ms own) (As := []) (Cq := (RX6, TX6, 8)) (cC_Tape_seesDigit C.flags C.wok   S) knX6_seesDigit ⟨q_194, q_195⟩ rfl rfl C hd hq hL rfl rfl hW hf

theorem knX6_sees : Kn yX6_sees cX6_sees 2 (some .boolean) 1 := ⟨q_197, q_35, by decide +kernel, by decide⟩
theorem bC_Tape_sees {E : Ec} {G : Gc}    (C : JC E (VC G 2 0 0 RX6) cX6_sees 2 (some .boolean))    (x1 : Int32) (S : St) : J E (VC G 2 0 0 RX6) 0 0 0 [(0, .ref (gA G 1)), (1, .int x1)] [] S (fC_Tape_sees  x1 S) := by
  unfold fC_Tape_sees
  refine j_aload_n (pc := 0) 0 C dX6_sees_0 rfl rfl ?_
  refine j_callv0 (pc := 1) C (rC_Tape_skipBlanks C dX6_sees_1 q_81 (by omega) (Nat.le_of_ble_eq_true rfl) ⟨Nat.le_of_ble_eq_true rfl, Nat.le_of_ble_eq_true rfl⟩) ⟨Nat.le_of_ble_eq_true rfl, Nat.le_of_ble_eq_true rfl⟩ (fun T1 => ?_)
  refine j_aload_n (pc := 4) 0 C dX6_sees_4 rfl rfl ?_
  refine gC_1_6 (pc := 5) C dX6_sees_5 q_62 ?_
  refine j_aload_n (pc := 8) 0 C dX6_sees_8 rfl rfl ?_
  refine gC_1_5 (pc := 9) C dX6_sees_9 q_61 ?_
  refine j_icmp_ge (pc := 12) 32 C dX6_sees_12 (by decide) ?_ ?_
  ·
    refine j_iconst (pc := 32) 0 C dX6_sees_32 (by decide) ?_
    exact j_zretc C dX6_sees_33 rfl (Nat.le_of_ble_eq_true rfl) (Nat.le_of_ble_eq_true rfl) rfl
  ·
    refine j_aload_n (pc := 15) 0 C dX6_sees_15 rfl rfl ?_
    refine gC_1_0 (pc := 16) C dX6_sees_16 q_33 ?_
    refine j_aload_n (pc := 19) 0 C dX6_sees_19 rfl rfl ?_
    refine gC_1_6 (pc := 20) C dX6_sees_20 q_62 ?_
    refine aC_14 (pc := 23) C dX6_sees_23 ?_
    refine j_iload_n (pc := 24) 1 C dX6_sees_24 rfl rfl ?_
    refine j_icmp_ne (pc := 25) 32 C dX6_sees_25 (by decide) ?_ ?_
    ·
      refine j_iconst (pc := 32) 0 C dX6_sees_32 (by decide) ?_
      exact j_zretc C dX6_sees_33 rfl (Nat.le_of_ble_eq_true rfl) (Nat.le_of_ble_eq_true rfl) rfl
    ·
      refine j_iconst (pc := 28) 1 C dX6_sees_28 (by decide) ?_
      refine j_goto (pc := 29) 33 C dX6_sees_29 (by decide) ?_
      exact j_zretc C dX6_sees_33 rfl (Nat.le_of_ble_eq_true rfl) (Nat.le_of_ble_eq_true rfl) rfl
theorem cC_Tape_sees {l : Launch} {G : Gc} (hfl : l.stackTraces = false) (hW : Wok G wC 54)   (x1 : Int32) (S : St) : Ct l yX6_sees (Cond.code yX6_sees cX6_sees 2 (some .boolean) :: tblG) 2 0 0 G wC 54 [.ref (gA G 1), .int x1] S (fC_Tape_sees x1 S) := ct_of (own := RX6) hfl (by decide +kernel) rfl hW (Nat.le_of_ble_eq_true rfl) (fun E hE C => by subst hE; exact bC_Tape_sees C   x1 S)
theorem rC_Tape_sees {E : Ec} {G : Gc} {nL mc ms : Nat} {own : String} {cc : ByteArray} {L : Nat} {ret : Option FieldType} {k n pc ix : Nat} {loc : List (Nat × Value)} {rest : List Value}  {x1 : Int32} {S : St}  (C : JC E (VC G nL mc ms own) cc L ret) (hd : decode cc pc = .ok (.invokevirtual ix, 3)) (hq : Cond.methodLink own ix yX6_sees ∈ tblG) (hL : 2 + 1 ≤ L) (hW : (rest.map fun v => v.category).sum ≤ 8) (hf : k + 0 ≤ mc ∧ n + 0 ≤ ms) : Rn E (VC G nL mc ms own) k n 0 0 pc loc (.int x1 :: .ref (gA G 1) :: rest) rest S (fC_Tape_sees x1 S) := rn_V (ci := 6) 1 (V := VC G nL mc ms own) (As := [.int x1]) (Cq := (RX6, TX6, 8)) (cC_Tape_sees C.flags C.wok  x1 S) knX6_sees ⟨q_198, q_199⟩ rfl rfl C hd hq hL rfl rfl hW hf

