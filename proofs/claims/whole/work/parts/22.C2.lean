theorem bC_Tape_isWord_v63_20 {E : Ec} {G : Gc}  {x1 : Nat}  (C : JC E (VC G 3 0 0 RX6) cX6_isWord 5 (some .boolean))  (hs_x1 : x1 < 40)  : ∀ (n : Nat) (x2 : Int32) (S : St), J E (VC G 3 0 0 RX6) 0 0 20 [(0, .ref (gA G 1)), (1, .ref (gK G x1)), (2, .int x2)] [] S (fC_Tape_isWord_v63_20 x1 n x2 S) := by
  intro n
  induction n with
  | zero => intro x2 S; rw [fC_Tape_isWord_v63_20]; exact j_none
  | succ n ih =>
    intro x2 S
    rw [fC_Tape_isWord_v63_20]
    refine j_iload_n (pc := 20) 2 C dX6_isWord_20 rfl rfl ?_
    refine j_aload_n (pc := 21) 1 C dX6_isWord_21 rfl rfl ?_
    refine j_slen (pc := 22) C dX6_isWord_22 q_91 hs_x1 (by omega) (Nat.le_of_ble_eq_true rfl) (Nat.le_of_ble_eq_true rfl) (Nat.le_of_ble_eq_true rfl) ?_
    refine j_icmp_ge (pc := 25) 55 C dX6_isWord_25 (by decide) ?_ ?_
    ·
      refine j_iconst (pc := 55) 1 C dX6_isWord_55 (by decide) ?_
      exact j_zretc C dX6_isWord_56 rfl (Nat.le_of_ble_eq_true rfl) (Nat.le_of_ble_eq_true rfl) rfl
    ·
      refine j_aload_n (pc := 28) 0 C dX6_isWord_28 rfl rfl ?_
      refine gC_1_0 (pc := 29) C dX6_isWord_29 q_33 ?_
      refine j_aload_n (pc := 32) 0 C dX6_isWord_32 rfl rfl ?_
      refine gC_1_7 (pc := 33) C dX6_isWord_33 q_86 ?_
      refine j_iload_n (pc := 36) 2 C dX6_isWord_36 rfl rfl ?_
      refine j_iadd (pc := 37) C dX6_isWord_37 ?_
      refine aC_14 (pc := 38) C dX6_isWord_38 ?_
      refine j_aload_n (pc := 39) 1 C dX6_isWord_39 rfl rfl ?_
      refine j_iload_n (pc := 40) 2 C dX6_isWord_40 rfl rfl ?_
      refine j_schar (pc := 41) C dX6_isWord_41 q_92 hs_x1 (by omega) (Nat.le_of_ble_eq_true rfl) (Nat.le_of_ble_eq_true rfl) (Nat.le_of_ble_eq_true rfl) ?_
      refine j_icmp_eq (pc := 44) 49 C dX6_isWord_44 (by decide) ?_ ?_
      ·
        refine j_iinc (pc := 49) 2 (x2 + 1) [(2, .int (x2 + 1)), (0, .ref (gA G 1)), (1, .ref (gK G x1))] C dX6_isWord_49 rfl rfl (Nat.le_of_ble_eq_true rfl) rfl ?_
        refine j_goto (pc := 52) 20 C dX6_isWord_52 (by decide) ?_
        refine j_sub [1, 2, 0] rfl ?_
        exact ih (x2 + 1) S
      ·
        refine j_iconst (pc := 47) 0 C dX6_isWord_47 (by decide) ?_
        exact j_zretc C dX6_isWord_48 rfl (Nat.le_of_ble_eq_true rfl) (Nat.le_of_ble_eq_true rfl) rfl
theorem bC_Tape_isWord_v63 {E : Ec} {G : Gc}  {x1 : Nat}  (C : JC E (VC G 3 0 0 RX6) cX6_isWord 5 (some .boolean))  (hs_x1 : x1 < 40)   (S : St) : J E (VC G 3 0 0 RX6) 0 0 0 [(0, .ref (gA G 1)), (1, .ref (gK G x1))] [] S (fC_Tape_isWord_v63 x1  S) := by
  unfold fC_Tape_isWord_v63
  refine j_aload_n (pc := 0) 0 C dX6_isWord_0 rfl rfl ?_
  refine gC_1_6 (pc := 1) C dX6_isWord_1 q_62 ?_
  refine j_aload_n (pc := 4) 0 C dX6_isWord_4 rfl rfl ?_
  refine gC_1_7 (pc := 5) C dX6_isWord_5 q_86 ?_
  refine j_isub (pc := 8) C dX6_isWord_8 ?_
  refine j_aload_n (pc := 9) 1 C dX6_isWord_9 rfl rfl ?_
  refine j_slen (pc := 10) C dX6_isWord_10 q_91 hs_x1 (by omega) (Nat.le_of_ble_eq_true rfl) (Nat.le_of_ble_eq_true rfl) (Nat.le_of_ble_eq_true rfl) ?_
  refine j_icmp_eq (pc := 13) 18 C dX6_isWord_13 (by decide) ?_ ?_
  ·
    refine j_iconst (pc := 18) 0 C dX6_isWord_18 (by decide) ?_
    refine j_istore_n (pc := 19) [(2, .int 0), (0, .ref (gA G 1)), (1, .ref (gK G x1))] C dX6_isWord_19 rfl (Nat.le_of_ble_eq_true rfl) rfl ?_
    refine j_sub [1, 2, 0] rfl ?_
    exact bC_Tape_isWord_v63_20 C hs_x1 FU 0 S
  ·
    refine j_iconst (pc := 16) 0 C dX6_isWord_16 (by decide) ?_
    exact j_zretc C dX6_isWord_17 rfl (Nat.le_of_ble_eq_true rfl) (Nat.le_of_ble_eq_true rfl) rfl
theorem cC_Tape_isWord_v63 {l : Launch} {G : Gc} (hfl : l.stackTraces = false) (hW : Wok G wC 54) {x1 : Nat} (hs_x1 : x1 < 40)  (S : St) : Ct l yX6_isWord (Cond.code yX6_isWord cX6_isWord 3 (some .boolean) :: tblG) 5 0 0 G wC 54 [.ref (gA G 1), .ref (gK G x1)] S (fC_Tape_isWord_v63 x1 S) := ct_of (own := RX6) hfl (by decide +kernel) rfl hW (Nat.le_of_ble_eq_true rfl) (fun E hE C => by subst hE; exact bC_Tape_isWord_v63 C hs_x1   S)
theorem rC_Tape_isWord_v63 {E : Ec} {G : Gc} {nL mc ms : Nat} {own : String} {cc : ByteArray} {L : Nat} {ret : Option FieldType} {k n pc ix : Nat} {loc : List (Nat × Value)} {rest : List Value}  {x1 : Nat} {S : St} (hs_x1 : x1 < 40) (C : JC E (VC G nL mc ms own) cc L ret) (hd : decode cc pc = .ok (.invokevirtual ix, 3)) (hq : Cond.methodLink own ix yX6_isWord ∈ tblG) (hL : 5 + 1 ≤ L) (hW : (rest.map fun v => v.category).sum ≤ 8) (hf : k + 0 ≤ mc ∧ n + 0 ≤ ms) : Rn E (VC G nL mc ms own) k n 0 0 pc loc (.ref (gK G x1) :: .ref (gA G 1) :: rest) rest S (fC_Tape_isWord_v63 x1 S) := rn_V (ci := 6) 1 (V := VC G nL mc ms own) (As := [.ref (gK G x1)]) (Cq := (RX6, TX6, 8)) (cC_Tape_isWord_v63 C.flags C.wok hs_x1  S) knX6_isWord ⟨q_94, q_95⟩ rfl rfl C hd hq hL rfl rfl hW hf

theorem knX8_put : Kn yX8_put cX8_put 4 (some .boolean) 3 := ⟨q_264, q_265, by decide +kernel, by decide⟩
theorem bC_Work_put {E : Ec} {G : Gc}    (C : JC E (VC G 4 0 0 RX8) cX8_put 1 (some .boolean))    (x1 : Int32) (x2 : Int32) (x3 : Int32) (S : St) : J E (VC G 4 0 0 RX8) 0 0 0 [(0, .ref (gA G 8)), (1, .int x1), (2, .int x2), (3, .int x3)] [] S (fC_Work_put  x1 x2 x3 S) := by
  unfold fC_Work_put
  refine j_aload_n (pc := 0) 0 C dX8_put_0 rfl rfl ?_
  refine gC_8_3 (pc := 1) C dX8_put_1 q_250 ?_
  refine j_bipush (pc := 4) 64 C dX8_put_4 (by decide) ?_
  refine j_icmp_lt (pc := 6) 11 C dX8_put_6 (by decide) ?_ ?_
  ·
    refine j_aload_n (pc := 11) 0 C dX8_put_11 rfl rfl ?_
    refine gC_8_0 (pc := 12) C dX8_put_12 q_261 ?_
    refine j_aload_n (pc := 15) 0 C dX8_put_15 rfl rfl ?_
    refine gC_8_3 (pc := 16) C dX8_put_16 q_250 ?_
    refine j_iload_n (pc := 19) 1 C dX8_put_19 rfl rfl ?_
    refine sC_43 (pc := 20) C dX8_put_20 ?_
    refine j_nxS (fun T1 => ?_)
    refine j_aload_n (pc := 21) 0 C dX8_put_21 rfl rfl ?_
    refine gC_8_1 (pc := 22) C dX8_put_22 q_262 ?_
    refine j_aload_n (pc := 25) 0 C dX8_put_25 rfl rfl ?_
    refine gC_8_3 (pc := 26) C dX8_put_26 q_250 ?_
    refine j_iload_n (pc := 29) 2 C dX8_put_29 rfl rfl ?_
    refine sC_44 (pc := 30) C dX8_put_30 ?_
    refine j_nxS (fun T2 => ?_)
    refine j_aload_n (pc := 31) 0 C dX8_put_31 rfl rfl ?_
    refine gC_8_2 (pc := 32) C dX8_put_32 q_263 ?_
    refine j_aload_n (pc := 35) 0 C dX8_put_35 rfl rfl ?_
    refine gC_8_3 (pc := 36) C dX8_put_36 q_250 ?_
    refine j_iload_n (pc := 39) 3 C dX8_put_39 rfl rfl ?_
    refine sC_45 (pc := 40) C dX8_put_40 ?_
    refine j_nxS (fun T3 => ?_)
    refine j_aload_n (pc := 41) 0 C dX8_put_41 rfl rfl ?_
    refine j_dup (pc := 42) C dX8_put_42 rfl ?_
    refine gC_8_3 (pc := 43) C dX8_put_43 q_250 ?_
    refine j_iconst (pc := 46) 1 C dX8_put_46 (by decide) ?_
    refine j_iadd (pc := 47) C dX8_put_47 ?_
    refine pC_8_3 (pc := 48) C dX8_put_48 q_250 ?_
    refine j_nxS (fun T4 => ?_)
    refine j_iconst (pc := 51) 1 C dX8_put_51 (by decide) ?_
    exact j_zretc C dX8_put_52 rfl (Nat.le_of_ble_eq_true rfl) (Nat.le_of_ble_eq_true rfl) rfl
  ·
    refine j_iconst (pc := 9) 0 C dX8_put_9 (by decide) ?_
    exact j_zretc C dX8_put_10 rfl (Nat.le_of_ble_eq_true rfl) (Nat.le_of_ble_eq_true rfl) rfl
theorem cC_Work_put {l : Launch} {G : Gc} (hfl : l.stackTraces = false) (hW : Wok G wC 54)   (x1 : Int32) (x2 : Int32) (x3 : Int32) (S : St) : Ct l yX8_put (Cond.code yX8_put cX8_put 4 (some .boolean) :: tblG) 1 0 0 G wC 54 [.ref (gA G 8), .int x1, .int x2, .int x3] S (fC_Work_put x1 x2 x3 S) := ct_of (own := RX8) hfl (by decide +kernel) rfl hW (Nat.le_of_ble_eq_true rfl) (fun E hE C => by subst hE; exact bC_Work_put C   x1 x2 x3 S)
theorem rC_Work_put {E : Ec} {G : Gc} {nL mc ms : Nat} {own : String} {cc : ByteArray} {L : Nat} {ret : Option FieldType} {k n pc ix : Nat} {loc : List (Nat × Value)} {rest : List Value}  {x1 : Int32} {x2 : Int32} {x3 : Int32} {S : St}  (C : JC E (VC G nL mc ms own) cc L ret) (hd : decode cc pc = .ok (.invokevirtual ix, 3)) (hq : Cond.methodLink own ix yX8_put ∈ tblG) (hL : 1 + 1 ≤ L) (hW : (rest.map fun v => v.category).sum ≤ 8) (hf : k + 0 ≤ mc ∧ n + 0 ≤ ms) : Rn E (VC G nL mc ms own) k n 0 0 pc loc (.int x3 :: .int x2 :: .int x1 :: .ref (gA G 8) :: rest) rest S (fC_Work_put x1 x2 x3 S) := rn_V (ci := 8) 8 (V := VC G nL mc ms own) (As := [.int x1, .int x2, .int x3]) (Cq := (RX8, TX8, 7)) (cC_Work_put C.flags C.wok  x1 x2 x3 S) knX8_put ⟨q_266, q_267⟩ rfl rfl C hd hq hL rfl rfl hW hf

theorem knX8_readSteps : Kn yX8_readSteps cX8_readSteps 5 (some .boolean) 3 := ⟨q_286, q_265, by decide +kernel, by decide⟩
theorem rgC_Work_readSteps {E : Ec} {G : Gc} {nL mc ms : Nat} {own : String} {cc : ByteArray} {L : Nat} {ret : Option FieldType} {k n pc ix : Nat} {loc : List (Nat × Value)} {rest : List Value} {rc : Int32 → St → Oz} {x : Nat} {x3 : Int32} {S : St} (hrc : ∀ (x3 : Int32) (S : St), Ct E.2.1 yX8_readSteps (Cond.code yX8_readSteps cX8_readSteps 5 (some .boolean) :: tblG) x 0 0 G wC 54 [.ref (gA G 8), .ref (gA G 1), .ref (gA G 2), .int x3] S (rc x3 S)) (C : JC E (VC G nL mc ms own) cc L ret) (hd : decode cc pc = .ok (.invokevirtual ix, 3)) (hq : Cond.methodLink own ix yX8_readSteps ∈ tblG) (hL : x + 1 ≤ L) (hW : (rest.map fun v => v.category).sum ≤ 8) (hf : k + 0 ≤ mc ∧ n + 0 ≤ ms) : Rn E (VC G nL mc ms own) k n 0 0 pc loc (.int x3 :: .ref (gA G 2) :: .ref (gA G 1) :: .ref (gA G 8) :: rest) rest S (rc x3 S) := rn_V (V := VC G nL mc ms own) (ci := 8) 8 (As := [.ref (gA G 1), .ref (gA G 2), .int x3]) (Cq := (RX8, TX8, 7)) (hrc x3 S) knX8_readSteps ⟨q_287, q_288⟩ rfl rfl C hd hq hL rfl rfl hW hf

theorem knX8_readAgain : Kn yX8_readAgain cX8_readAgain 5 (some .boolean) 3 := ⟨q_271, q_265, by decide +kernel, by decide⟩
theorem bC_Work_readAgain {E : Ec} {G : Gc} {rc : Int32 → St → Oz} {x : Nat}   (C : JC E (VC G 5 0 0 RX8) cX8_readAgain (x + 1) (some .boolean)) (hx : 6 ≤ x) (hrc : ∀ (x3 : Int32) (S : St), Ct E.2.1 yX8_readSteps (Cond.code yX8_readSteps cX8_readSteps 5 (some .boolean) :: tblG) x 0 0 G wC 54 [.ref (gA G 8), .ref (gA G 1), .ref (gA G 2), .int x3] S (rc x3 S))   (x3 : Int32) (S : St) : J E (VC G 5 0 0 RX8) 0 0 0 [(0, .ref (gA G 8)), (1, .ref (gA G 1)), (2, .ref (gA G 2)), (3, .int x3)] [] S (fC_Work_readAgain rc x3 S) := by
  unfold fC_Work_readAgain
  refine j_aload_n (pc := 0) 0 C dX8_readAgain_0 rfl rfl ?_
  refine gC_8_3 (pc := 1) C dX8_readAgain_1 q_250 ?_
  refine j_nxI (fun v1 => ?_)
  refine j_istore (pc := 4) [(4, .int v1), (0, .ref (gA G 8)), (1, .ref (gA G 1)), (2, .ref (gA G 2)), (3, .int x3)] C dX8_readAgain_4 (Nat.le_of_ble_eq_true rfl) rfl ?_
  refine j_aload_n (pc := 6) 2 C dX8_readAgain_6 rfl rfl ?_
  refine j_iconst (pc := 7) 0 C dX8_readAgain_7 (by decide) ?_
  refine j_bipush (pc := 8) 40 C dX8_readAgain_8 (by decide) ?_
  refine j_callI0 (pc := 10) C (rC_Tape_needsNumber C dX8_readAgain_10 q_259 (by omega) (Nat.le_of_ble_eq_true rfl) ⟨Nat.le_of_ble_eq_true rfl, Nat.le_of_ble_eq_true rfl⟩) ⟨Nat.le_of_ble_eq_true rfl, Nat.le_of_ble_eq_true rfl⟩ (fun r3 T2 => ?_)
  refine j_if_eq (pc := 13) 29 C dX8_readAgain_13 (by decide) ?_ ?_
  ·
    refine j_iconst (pc := 29) 0 C dX8_readAgain_29 (by decide) ?_
    exact j_zretc C dX8_readAgain_30 rfl (Nat.le_of_ble_eq_true rfl) (Nat.le_of_ble_eq_true rfl) rfl
  ·
    refine j_aload_n (pc := 16) 1 C dX8_readAgain_16 rfl rfl ?_
    refine j_iconst (pc := 17) 5 C dX8_readAgain_17 (by decide) ?_
    refine j_aload_n (pc := 18) 2 C dX8_readAgain_18 rfl rfl ?_
    refine gC_1_4 (pc := 19) C dX8_readAgain_19 q_260 ?_
    refine j_iconst (pc := 22) 0 C dX8_readAgain_22 (by decide) ?_
    refine j_callI0 (pc := 23) C (rC_Work_put C dX8_readAgain_23 q_268 (by omega) (Nat.le_of_ble_eq_true rfl) ⟨Nat.le_of_ble_eq_true rfl, Nat.le_of_ble_eq_true rfl⟩) ⟨Nat.le_of_ble_eq_true rfl, Nat.le_of_ble_eq_true rfl⟩ (fun r5 T4 => ?_)
    refine j_if_ne (pc := 26) 31 C dX8_readAgain_26 (by decide) ?_ ?_
    ·
      refine j_aload_n (pc := 31) 2 C dX8_readAgain_31 rfl rfl ?_
      refine j_bipush (pc := 32) 91 C dX8_readAgain_32 (by decide) ?_
      refine j_callI0 (pc := 34) C (rC_Tape_needs C dX8_readAgain_34 q_269 (by omega) (Nat.le_of_ble_eq_true rfl) ⟨Nat.le_of_ble_eq_true rfl, Nat.le_of_ble_eq_true rfl⟩) ⟨Nat.le_of_ble_eq_true rfl, Nat.le_of_ble_eq_true rfl⟩ (fun r7 T6 => ?_)
      refine j_if_eq (pc := 37) 61 C dX8_readAgain_37 (by decide) ?_ ?_
      ·
        refine j_iconst (pc := 61) 0 C dX8_readAgain_61 (by decide) ?_
        exact j_zretc C dX8_readAgain_62 rfl (Nat.le_of_ble_eq_true rfl) (Nat.le_of_ble_eq_true rfl) rfl
      ·
        refine j_aload_n (pc := 40) 1 C dX8_readAgain_40 rfl rfl ?_
        refine j_aload_n (pc := 41) 2 C dX8_readAgain_41 rfl rfl ?_
        refine j_aload_n (pc := 42) 3 C dX8_readAgain_42 rfl rfl ?_
        refine j_iload_n (pc := 43) 4 C dX8_readAgain_43 rfl rfl ?_
        refine j_iconst (pc := 44) 1 C dX8_readAgain_44 (by decide) ?_
        refine j_iadd (pc := 45) C dX8_readAgain_45 ?_
        refine j_callI0 (pc := 46) C (rgC_Work_readSteps hrc C dX8_readAgain_46 q_270 (by omega) (Nat.le_of_ble_eq_true rfl) ⟨Nat.le_of_ble_eq_true rfl, Nat.le_of_ble_eq_true rfl⟩) ⟨Nat.le_of_ble_eq_true rfl, Nat.le_of_ble_eq_true rfl⟩ (fun r9 T8 => ?_)
        refine j_if_eq (pc := 49) 61 C dX8_readAgain_49 (by decide) ?_ ?_
        ·
          refine j_iconst (pc := 61) 0 C dX8_readAgain_61 (by decide) ?_
          exact j_zretc C dX8_readAgain_62 rfl (Nat.le_of_ble_eq_true rfl) (Nat.le_of_ble_eq_true rfl) rfl
        ·
          refine j_aload_n (pc := 52) 2 C dX8_readAgain_52 rfl rfl ?_
          refine j_bipush (pc := 53) 93 C dX8_readAgain_53 (by decide) ?_
          refine j_callI0 (pc := 55) C (rC_Tape_needs C dX8_readAgain_55 q_269 (by omega) (Nat.le_of_ble_eq_true rfl) ⟨Nat.le_of_ble_eq_true rfl, Nat.le_of_ble_eq_true rfl⟩) ⟨Nat.le_of_ble_eq_true rfl, Nat.le_of_ble_eq_true rfl⟩ (fun r11 T10 => ?_)
          refine j_if_ne (pc := 58) 63 C dX8_readAgain_58 (by decide) ?_ ?_
          ·
            refine j_aload_n (pc := 63) 1 C dX8_readAgain_63 rfl rfl ?_
            refine gC_8_2 (pc := 64) C dX8_readAgain_64 q_263 ?_
            refine j_iload (pc := 67) 0 C dX8_readAgain_67 rfl ?_
            refine j_aload_n (pc := 69) 1 C dX8_readAgain_69 rfl rfl ?_
            refine gC_8_3 (pc := 70) C dX8_readAgain_70 q_250 ?_
            refine sC_45 (pc := 73) C dX8_readAgain_73 ?_
            refine j_nxS (fun T12 => ?_)
            refine j_iconst (pc := 74) 1 C dX8_readAgain_74 (by decide) ?_
            exact j_zretc C dX8_readAgain_75 rfl (Nat.le_of_ble_eq_true rfl) (Nat.le_of_ble_eq_true rfl) rfl
          ·
            refine j_iconst (pc := 61) 0 C dX8_readAgain_61 (by decide) ?_
            exact j_zretc C dX8_readAgain_62 rfl (Nat.le_of_ble_eq_true rfl) (Nat.le_of_ble_eq_true rfl) rfl
    ·
      refine j_iconst (pc := 29) 0 C dX8_readAgain_29 (by decide) ?_
      exact j_zretc C dX8_readAgain_30 rfl (Nat.le_of_ble_eq_true rfl) (Nat.le_of_ble_eq_true rfl) rfl
theorem cC_Work_readAgain {l : Launch} {G : Gc} (hfl : l.stackTraces = false) (hW : Wok G wC 54) {rc : Int32 → St → Oz} {x : Nat} (hx : 6 ≤ x) (hrc : ∀ (x3 : Int32) (S : St), Ct l yX8_readSteps (Cond.code yX8_readSteps cX8_readSteps 5 (some .boolean) :: tblG) x 0 0 G wC 54 [.ref (gA G 8), .ref (gA G 1), .ref (gA G 2), .int x3] S (rc x3 S)) (x3 : Int32) (S : St) : Ct l yX8_readAgain (Cond.code yX8_readAgain cX8_readAgain 5 (some .boolean) :: tblG) (x + 1) 0 0 G wC 54 [.ref (gA G 8), .ref (gA G 1), .ref (gA G 2), .int x3] S (fC_Work_readAgain rc x3 S) := ct_of (own := RX8) hfl (by decide +kernel) rfl hW (Nat.le_of_ble_eq_true rfl) (fun E hE C => by subst hE; exact bC_Work_readAgain C hx hrc  x3 S)
theorem rC_Work_readAgain {E : Ec} {G : Gc} {nL mc ms : Nat} {own : String} {cc : ByteArray} {L : Nat} {ret : Option FieldType} {k n pc ix : Nat} {loc : List (Nat × Value)} {rest : List Value} {rc : Int32 → St → Oz} {x : Nat} {x3 : Int32} {S : St} (hx : 6 ≤ x) (hrc : ∀ (x3 : Int32) (S : St), Ct E.2.1 yX8_readSteps (Cond.code yX8_readSteps cX8_readSteps 5 (some .boolean) :: tblG) x 0 0 G wC 54 [.ref (gA G 8), .ref (gA G 1), .ref (gA G 2), .int x3] S (rc x3 S)) (C : JC E (VC G nL mc ms own) cc L ret) (hd : decode cc pc = .ok (.invokevirtual ix, 3)) (hq : Cond.methodLink own ix yX8_readAgain ∈ tblG) (hL : (x + 1) + 1 ≤ L) (hW : (rest.map fun v => v.category).sum ≤ 8) (hf : k + 0 ≤ mc ∧ n + 0 ≤ ms) : Rn E (VC G nL mc ms own) k n 0 0 pc loc (.int x3 :: .ref (gA G 2) :: .ref (gA G 1) :: .ref (gA G 8) :: rest) rest S (fC_Work_readAgain rc x3 S) := rn_V (ci := 8) 8 (V := VC G nL mc ms own) (As := [.ref (gA G 1), .ref (gA G 2), .int x3]) (Cq := (RX8, TX8, 7)) (cC_Work_readAgain C.flags C.wok hx hrc x3 S) knX8_readAgain ⟨q_272, q_273⟩ rfl rfl C hd hq hL rfl rfl hW hf

theorem knX8_readNumbers : Kn yX8_readNumbers cX8_readNumbers 6 (some .boolean) 4 := ⟨q_277, q_265, by decide +kernel, by decide⟩
theorem bC_Work_readNumbers {E : Ec} {G : Gc}    (C : JC E (VC G 6 0 0 RX8) cX8_readNumbers 3 (some .boolean))    (x2 : Int32) (x3 : Int32) (x4 : Int32) (S : St) : J E (VC G 6 0 0 RX8) 0 0 0 [(0, .ref (gA G 8)), (1, .ref (gA G 1)), (2, .int x2), (3, .int x3), (4, .int x4)] [] S (fC_Work_readNumbers  x2 x3 x4 S) := by
  unfold fC_Work_readNumbers
  refine j_aload_n (pc := 0) 1 C dX8_readNumbers_0 rfl rfl ?_
  refine j_iconst (pc := 1) 0 C dX8_readNumbers_1 (by decide) ?_
  refine j_iload_n (pc := 2) 3 C dX8_readNumbers_2 rfl rfl ?_
  refine j_iconst (pc := 3) 1 C dX8_readNumbers_3 (by decide) ?_
  refine j_isub (pc := 4) C dX8_readNumbers_4 ?_
  refine j_callI0 (pc := 5) C (rC_Tape_needsNumber C dX8_readNumbers_5 q_259 (by omega) (Nat.le_of_ble_eq_true rfl) ⟨Nat.le_of_ble_eq_true rfl, Nat.le_of_ble_eq_true rfl⟩) ⟨Nat.le_of_ble_eq_true rfl, Nat.le_of_ble_eq_true rfl⟩ (fun r2 T1 => ?_)
  refine j_if_ne (pc := 8) 13 C dX8_readNumbers_8 (by decide) ?_ ?_
  ·
    refine j_aload_n (pc := 13) 1 C dX8_readNumbers_13 rfl rfl ?_
    refine gC_1_4 (pc := 14) C dX8_readNumbers_14 q_260 ?_
    refine j_nxI (fun v3 => ?_)
    refine j_istore (pc := 17) [(5, .int v3), (0, .ref (gA G 8)), (1, .ref (gA G 1)), (2, .int x2), (3, .int x3), (4, .int x4)] C dX8_readNumbers_17 (Nat.le_of_ble_eq_true rfl) rfl ?_
    refine j_aload_n (pc := 19) 2 C dX8_readNumbers_19 rfl rfl ?_
    refine j_iconst (pc := 20) 0 C dX8_readNumbers_20 (by decide) ?_
    refine j_iload (pc := 21) 5 C dX8_readNumbers_21 rfl ?_
    refine j_iconst (pc := 23) 1 C dX8_readNumbers_23 (by decide) ?_
    refine j_isub (pc := 24) C dX8_readNumbers_24 ?_
    refine j_callI0 (pc := 25) C (rC_Tape_needsNumber C dX8_readNumbers_25 q_259 (by omega) (Nat.le_of_ble_eq_true rfl) ⟨Nat.le_of_ble_eq_true rfl, Nat.le_of_ble_eq_true rfl⟩) ⟨Nat.le_of_ble_eq_true rfl, Nat.le_of_ble_eq_true rfl⟩ (fun r5 T4 => ?_)
    refine j_if_eq (pc := 28) 49 C dX8_readNumbers_28 (by decide) ?_ ?_
    ·
      refine j_iconst (pc := 49) 0 C dX8_readNumbers_49 (by decide) ?_
      exact j_zretc C dX8_readNumbers_50 rfl (Nat.le_of_ble_eq_true rfl) (Nat.le_of_ble_eq_true rfl) rfl
    ·
      refine j_aload_n (pc := 31) 1 C dX8_readNumbers_31 rfl rfl ?_
      refine j_iload_n (pc := 32) 3 C dX8_readNumbers_32 rfl rfl ?_
      refine j_iload (pc := 33) 0 C dX8_readNumbers_33 rfl ?_
      refine j_aload_n (pc := 35) 2 C dX8_readNumbers_35 rfl rfl ?_
      refine gC_1_4 (pc := 36) C dX8_readNumbers_36 q_260 ?_
      refine j_callI0 (pc := 39) C (rC_Work_put C dX8_readNumbers_39 q_268 (by omega) (Nat.le_of_ble_eq_true rfl) ⟨Nat.le_of_ble_eq_true rfl, Nat.le_of_ble_eq_true rfl⟩) ⟨Nat.le_of_ble_eq_true rfl, Nat.le_of_ble_eq_true rfl⟩ (fun r7 T6 => ?_)
      refine j_if_eq (pc := 42) 49 C dX8_readNumbers_42 (by decide) ?_ ?_
      ·
        refine j_iconst (pc := 49) 0 C dX8_readNumbers_49 (by decide) ?_
        exact j_zretc C dX8_readNumbers_50 rfl (Nat.le_of_ble_eq_true rfl) (Nat.le_of_ble_eq_true rfl) rfl
      ·
        refine j_iconst (pc := 45) 1 C dX8_readNumbers_45 (by decide) ?_
        refine j_goto (pc := 46) 50 C dX8_readNumbers_46 (by decide) ?_
        exact j_zretc C dX8_readNumbers_50 rfl (Nat.le_of_ble_eq_true rfl) (Nat.le_of_ble_eq_true rfl) rfl
  ·
    refine j_iconst (pc := 11) 0 C dX8_readNumbers_11 (by decide) ?_
    exact j_zretc C dX8_readNumbers_12 rfl (Nat.le_of_ble_eq_true rfl) (Nat.le_of_ble_eq_true rfl) rfl
theorem cC_Work_readNumbers {l : Launch} {G : Gc} (hfl : l.stackTraces = false) (hW : Wok G wC 54)   (x2 : Int32) (x3 : Int32) (x4 : Int32) (S : St) : Ct l yX8_readNumbers (Cond.code yX8_readNumbers cX8_readNumbers 6 (some .boolean) :: tblG) 3 0 0 G wC 54 [.ref (gA G 8), .ref (gA G 1), .int x2, .int x3, .int x4] S (fC_Work_readNumbers x2 x3 x4 S) := ct_of (own := RX8) hfl (by decide +kernel) rfl hW (Nat.le_of_ble_eq_true rfl) (fun E hE C => by subst hE; exact bC_Work_readNumbers C   x2 x3 x4 S)
theorem rC_Work_readNumbers {E : Ec} {G : Gc} {nL mc ms : Nat} {own : String} {cc : ByteArray} {L : Nat} {ret : Option FieldType} {k n pc ix : Nat} {loc : List (Nat × Value)} {rest : List Value}  {x2 : Int32} {x3 : Int32} {x4 : Int32} {S : St}  (C : JC E (VC G nL mc ms own) cc L ret) (hd : decode cc pc = .ok (.invokevirtual ix, 3)) (hq : Cond.methodLink own ix yX8_readNumbers ∈ tblG) (hL : 3 + 1 ≤ L) (hW : (rest.map fun v => v.category).sum ≤ 8) (hf : k + 0 ≤ mc ∧ n + 0 ≤ ms) : Rn E (VC G nL mc ms own) k n 0 0 pc loc (.int x4 :: .int x3 :: .int x2 :: .ref (gA G 1) :: .ref (gA G 8) :: rest) rest S (fC_Work_readNumbers x2 x3 x4 S) := rn_V (ci := 8) 8 (V := VC G nL mc ms own) (As := [.ref (gA G 1), .int x2, .int x3, .int x4]) (Cq := (RX8, TX8, 7)) (cC_Work_readNumbers C.flags C.wok  x2 x3 x4 S) knX8_readNumbers ⟨q_278, q_279⟩ rfl rfl C hd hq hL rfl rfl hW hf

theorem knX8_readStep : Kn yX8_readStep cX8_readStep 4 (some .boolean) 3 := ⟨q_282, q_265, by decide +kernel, by decide⟩
theorem bC_Work_readStep {E : Ec} {G : Gc} {rc : Int32 → St → Oz} {x : Nat}   (C : JC E (VC G 4 0 0 RX8) cX8_readStep (x + 2) (some .boolean)) (hx : 6 ≤ x) (hrc : ∀ (x3 : Int32) (S : St), Ct E.2.1 yX8_readSteps (Cond.code yX8_readSteps cX8_readSteps 5 (some .boolean) :: tblG) x 0 0 G wC 54 [.ref (gA G 8), .ref (gA G 1), .ref (gA G 2), .int x3] S (rc x3 S))   (x3 : Int32) (S : St) : J E (VC G 4 0 0 RX8) 0 0 0 [(0, .ref (gA G 8)), (1, .ref (gA G 1)), (2, .ref (gA G 2)), (3, .int x3)] [] S (fC_Work_readStep rc x3 S) := by
  unfold fC_Work_readStep
  refine j_aload_n (pc := 0) 1 C dX8_readStep_0 rfl rfl ?_
  refine j_callv0 (pc := 1) C (rC_Tape_takeWord C dX8_readStep_1 q_256 (by omega) (Nat.le_of_ble_eq_true rfl) ⟨Nat.le_of_ble_eq_true rfl, Nat.le_of_ble_eq_true rfl⟩) ⟨Nat.le_of_ble_eq_true rfl, Nat.le_of_ble_eq_true rfl⟩ (fun T1 => ?_)
  refine j_aload_n (pc := 4) 1 C dX8_readStep_4 rfl rfl ?_
  refine j_ldcS (pc := 5) 15 C dX8_readStep_5 rfl rfl rfl ?_
  refine j_callI0 (pc := 7) C (rC_Tape_isWord_v58 (by decide) C dX8_readStep_7 q_257 (by omega) (Nat.le_of_ble_eq_true rfl) ⟨Nat.le_of_ble_eq_true rfl, Nat.le_of_ble_eq_true rfl⟩) ⟨Nat.le_of_ble_eq_true rfl, Nat.le_of_ble_eq_true rfl⟩ (fun r4 T3 => ?_)
  refine j_if_eq (pc := 10) 28 C dX8_readStep_10 (by decide) ?_ ?_
  ·
    refine j_aload_n (pc := 28) 1 C dX8_readStep_28 rfl rfl ?_
    refine j_ldcS (pc := 29) 16 C dX8_readStep_29 rfl rfl rfl ?_
    refine j_callI0 (pc := 31) C (rC_Tape_isWord_v59 (by decide) C dX8_readStep_31 q_257 (by omega) (Nat.le_of_ble_eq_true rfl) ⟨Nat.le_of_ble_eq_true rfl, Nat.le_of_ble_eq_true rfl⟩) ⟨Nat.le_of_ble_eq_true rfl, Nat.le_of_ble_eq_true rfl⟩ (fun r6 T5 => ?_)
    refine j_if_eq (pc := 34) 52 C dX8_readStep_34 (by decide) ?_ ?_
    ·
      refine j_aload_n (pc := 52) 1 C dX8_readStep_52 rfl rfl ?_
      refine j_ldcS (pc := 53) 17 C dX8_readStep_53 rfl rfl rfl ?_
      refine j_callI0 (pc := 55) C (rC_Tape_isWord_v60 (by decide) C dX8_readStep_55 q_257 (by omega) (Nat.le_of_ble_eq_true rfl) ⟨Nat.le_of_ble_eq_true rfl, Nat.le_of_ble_eq_true rfl⟩) ⟨Nat.le_of_ble_eq_true rfl, Nat.le_of_ble_eq_true rfl⟩ (fun r8 T7 => ?_)
      refine j_if_eq (pc := 58) 94 C dX8_readStep_58 (by decide) ?_ ?_
      ·
        refine j_aload_n (pc := 94) 1 C dX8_readStep_94 rfl rfl ?_
        refine j_ldcS (pc := 95) 18 C dX8_readStep_95 rfl rfl rfl ?_
        refine j_callI0 (pc := 97) C (rC_Tape_isWord_v61 (by decide) C dX8_readStep_97 q_257 (by omega) (Nat.le_of_ble_eq_true rfl) ⟨Nat.le_of_ble_eq_true rfl, Nat.le_of_ble_eq_true rfl⟩) ⟨Nat.le_of_ble_eq_true rfl, Nat.le_of_ble_eq_true rfl⟩ (fun r10 T9 => ?_)
        refine j_if_eq (pc := 100) 118 C dX8_readStep_100 (by decide) ?_ ?_
        ·
          refine j_aload_n (pc := 118) 1 C dX8_readStep_118 rfl rfl ?_
          refine j_ldcS (pc := 119) 19 C dX8_readStep_119 rfl rfl rfl ?_
          refine j_callI0 (pc := 121) C (rC_Tape_isWord_v62 (by decide) C dX8_readStep_121 q_257 (by omega) (Nat.le_of_ble_eq_true rfl) ⟨Nat.le_of_ble_eq_true rfl, Nat.le_of_ble_eq_true rfl⟩) ⟨Nat.le_of_ble_eq_true rfl, Nat.le_of_ble_eq_true rfl⟩ (fun r12 T11 => ?_)
          refine j_if_eq (pc := 124) 135 C dX8_readStep_124 (by decide) ?_ ?_
          ·
            refine j_aload_n (pc := 135) 1 C dX8_readStep_135 rfl rfl ?_
            refine j_ldcS (pc := 136) 20 C dX8_readStep_136 rfl rfl rfl ?_
            refine j_callI0 (pc := 138) C (rC_Tape_isWord_v63 (by decide) C dX8_readStep_138 q_257 (by omega) (Nat.le_of_ble_eq_true rfl) ⟨Nat.le_of_ble_eq_true rfl, Nat.le_of_ble_eq_true rfl⟩) ⟨Nat.le_of_ble_eq_true rfl, Nat.le_of_ble_eq_true rfl⟩ (fun r14 T13 => ?_)
            refine j_if_eq (pc := 141) 166 C dX8_readStep_141 (by decide) ?_ ?_
            ·
              refine j_aload_n (pc := 166) 1 C dX8_readStep_166 rfl rfl ?_
              refine j_iconst (pc := 167) 1 C dX8_readStep_167 (by decide) ?_
              refine j_callI0 (pc := 168) C (rC_Tape_refuseWord C dX8_readStep_168 q_258 (by omega) (Nat.le_of_ble_eq_true rfl) ⟨Nat.le_of_ble_eq_true rfl, Nat.le_of_ble_eq_true rfl⟩) ⟨Nat.le_of_ble_eq_true rfl, Nat.le_of_ble_eq_true rfl⟩ (fun r16 T15 => ?_)
              exact j_zret C dX8_readStep_171 rfl (Nat.le_of_ble_eq_true rfl) (Nat.le_of_ble_eq_true rfl)
            ·
              refine j_iload_n (pc := 144) 3 C dX8_readStep_144 rfl rfl ?_
              refine j_bipush (pc := 145) 6 C dX8_readStep_145 (by decide) ?_
              refine j_icmp_lt (pc := 147) 158 C dX8_readStep_147 (by decide) ?_ ?_
              ·
                refine j_aload_n (pc := 158) 0 C dX8_readStep_158 rfl rfl ?_
                refine j_aload_n (pc := 159) 1 C dX8_readStep_159 rfl rfl ?_
                refine j_aload_n (pc := 160) 2 C dX8_readStep_160 rfl rfl ?_
                refine j_iload_n (pc := 161) 3 C dX8_readStep_161 rfl rfl ?_
                refine j_callI0 (pc := 162) C (rC_Work_readAgain hx hrc C dX8_readStep_162 q_274 (by omega) (Nat.le_of_ble_eq_true rfl) ⟨Nat.le_of_ble_eq_true rfl, Nat.le_of_ble_eq_true rfl⟩) ⟨Nat.le_of_ble_eq_true rfl, Nat.le_of_ble_eq_true rfl⟩ (fun r18 T17 => ?_)
                exact j_zret C dX8_readStep_165 rfl (Nat.le_of_ble_eq_true rfl) (Nat.le_of_ble_eq_true rfl)
              ·
                refine j_aload_n (pc := 150) 1 C dX8_readStep_150 rfl rfl ?_
                refine j_iconst (pc := 151) 3 C dX8_readStep_151 (by decide) ?_
                refine j_callI0 (pc := 152) C (rC_Tape_refuseWord C dX8_readStep_152 q_258 (by omega) (Nat.le_of_ble_eq_true rfl) ⟨Nat.le_of_ble_eq_true rfl, Nat.le_of_ble_eq_true rfl⟩) ⟨Nat.le_of_ble_eq_true rfl, Nat.le_of_ble_eq_true rfl⟩ (fun r20 T19 => ?_)
                refine j_goto (pc := 155) 165 C dX8_readStep_155 (by decide) ?_
                exact j_zret C dX8_readStep_165 rfl (Nat.le_of_ble_eq_true rfl) (Nat.le_of_ble_eq_true rfl)
          ·
            refine j_aload_n (pc := 127) 0 C dX8_readStep_127 rfl rfl ?_
            refine j_iconst (pc := 128) 4 C dX8_readStep_128 (by decide) ?_
            refine j_iconst (pc := 129) 0 C dX8_readStep_129 (by decide) ?_
            refine j_iconst (pc := 130) 0 C dX8_readStep_130 (by decide) ?_
            refine j_callI0 (pc := 131) C (rC_Work_put C dX8_readStep_131 q_268 (by omega) (Nat.le_of_ble_eq_true rfl) ⟨Nat.le_of_ble_eq_true rfl, Nat.le_of_ble_eq_true rfl⟩) ⟨Nat.le_of_ble_eq_true rfl, Nat.le_of_ble_eq_true rfl⟩ (fun r22 T21 => ?_)
            exact j_zret C dX8_readStep_134 rfl (Nat.le_of_ble_eq_true rfl) (Nat.le_of_ble_eq_true rfl)
        ·
          refine j_aload_n (pc := 103) 0 C dX8_readStep_103 rfl rfl ?_
          refine j_aload_n (pc := 104) 1 C dX8_readStep_104 rfl rfl ?_
          refine j_iconst (pc := 105) 3 C dX8_readStep_105 (by decide) ?_
          refine j_aload_n (pc := 106) 2 C dX8_readStep_106 rfl rfl ?_
          refine gC_2_2 (pc := 107) C dX8_readStep_107 q_275 ?_
          refine j_aload_n (pc := 110) 2 C dX8_readStep_110 rfl rfl ?_
          refine gC_2_1 (pc := 111) C dX8_readStep_111 q_276 ?_
          refine j_callI0 (pc := 114) C (rC_Work_readNumbers C dX8_readStep_114 q_280 (by omega) (Nat.le_of_ble_eq_true rfl) ⟨Nat.le_of_ble_eq_true rfl, Nat.le_of_ble_eq_true rfl⟩) ⟨Nat.le_of_ble_eq_true rfl, Nat.le_of_ble_eq_true rfl⟩ (fun r24 T23 => ?_)
          exact j_zret C dX8_readStep_117 rfl (Nat.le_of_ble_eq_true rfl) (Nat.le_of_ble_eq_true rfl)
      ·
        refine j_aload_n (pc := 61) 1 C dX8_readStep_61 rfl rfl ?_
        refine j_iconst (pc := 62) 0 C dX8_readStep_62 (by decide) ?_
        refine j_aload_n (pc := 63) 2 C dX8_readStep_63 rfl rfl ?_
        refine gC_2_2 (pc := 64) C dX8_readStep_64 q_275 ?_
        refine j_iconst (pc := 67) 1 C dX8_readStep_67 (by decide) ?_
        refine j_isub (pc := 68) C dX8_readStep_68 ?_
        refine j_callI0 (pc := 69) C (rC_Tape_needsNumber C dX8_readStep_69 q_259 (by omega) (Nat.le_of_ble_eq_true rfl) ⟨Nat.le_of_ble_eq_true rfl, Nat.le_of_ble_eq_true rfl⟩) ⟨Nat.le_of_ble_eq_true rfl, Nat.le_of_ble_eq_true rfl⟩ (fun r26 T25 => ?_)
        refine j_if_eq (pc := 72) 92 C dX8_readStep_72 (by decide) ?_ ?_
        ·
          refine j_iconst (pc := 92) 0 C dX8_readStep_92 (by decide) ?_
          exact j_zretc C dX8_readStep_93 rfl (Nat.le_of_ble_eq_true rfl) (Nat.le_of_ble_eq_true rfl) rfl
        ·
          refine j_aload_n (pc := 75) 0 C dX8_readStep_75 rfl rfl ?_
          refine j_iconst (pc := 76) 2 C dX8_readStep_76 (by decide) ?_
          refine j_aload_n (pc := 77) 1 C dX8_readStep_77 rfl rfl ?_
          refine gC_1_4 (pc := 78) C dX8_readStep_78 q_260 ?_
          refine j_iconst (pc := 81) 0 C dX8_readStep_81 (by decide) ?_
          refine j_callI0 (pc := 82) C (rC_Work_put C dX8_readStep_82 q_268 (by omega) (Nat.le_of_ble_eq_true rfl) ⟨Nat.le_of_ble_eq_true rfl, Nat.le_of_ble_eq_true rfl⟩) ⟨Nat.le_of_ble_eq_true rfl, Nat.le_of_ble_eq_true rfl⟩ (fun r28 T27 => ?_)
          refine j_if_eq (pc := 85) 92 C dX8_readStep_85 (by decide) ?_ ?_
          ·
            refine j_iconst (pc := 92) 0 C dX8_readStep_92 (by decide) ?_
            exact j_zretc C dX8_readStep_93 rfl (Nat.le_of_ble_eq_true rfl) (Nat.le_of_ble_eq_true rfl) rfl
          ·
            refine j_iconst (pc := 88) 1 C dX8_readStep_88 (by decide) ?_
            refine j_goto (pc := 89) 93 C dX8_readStep_89 (by decide) ?_
            exact j_zretc C dX8_readStep_93 rfl (Nat.le_of_ble_eq_true rfl) (Nat.le_of_ble_eq_true rfl) rfl
    ·
      refine j_aload_n (pc := 37) 0 C dX8_readStep_37 rfl rfl ?_
      refine j_aload_n (pc := 38) 1 C dX8_readStep_38 rfl rfl ?_
      refine j_iconst (pc := 39) 1 C dX8_readStep_39 (by decide) ?_
      refine j_aload_n (pc := 40) 2 C dX8_readStep_40 rfl rfl ?_
      refine gC_2_1 (pc := 41) C dX8_readStep_41 q_276 ?_
      refine j_aload_n (pc := 44) 2 C dX8_readStep_44 rfl rfl ?_
      refine gC_2_0 (pc := 45) C dX8_readStep_45 q_281 ?_
      refine j_callI0 (pc := 48) C (rC_Work_readNumbers C dX8_readStep_48 q_280 (by omega) (Nat.le_of_ble_eq_true rfl) ⟨Nat.le_of_ble_eq_true rfl, Nat.le_of_ble_eq_true rfl⟩) ⟨Nat.le_of_ble_eq_true rfl, Nat.le_of_ble_eq_true rfl⟩ (fun r30 T29 => ?_)
      exact j_zret C dX8_readStep_51 rfl (Nat.le_of_ble_eq_true rfl) (Nat.le_of_ble_eq_true rfl)
  ·
    refine j_aload_n (pc := 13) 0 C dX8_readStep_13 rfl rfl ?_
    refine j_aload_n (pc := 14) 1 C dX8_readStep_14 rfl rfl ?_
    refine j_iconst (pc := 15) 0 C dX8_readStep_15 (by decide) ?_
    refine j_aload_n (pc := 16) 2 C dX8_readStep_16 rfl rfl ?_
    refine gC_2_1 (pc := 17) C dX8_readStep_17 q_276 ?_
    refine j_aload_n (pc := 20) 2 C dX8_readStep_20 rfl rfl ?_
    refine gC_2_0 (pc := 21) C dX8_readStep_21 q_281 ?_
    refine j_callI0 (pc := 24) C (rC_Work_readNumbers C dX8_readStep_24 q_280 (by omega) (Nat.le_of_ble_eq_true rfl) ⟨Nat.le_of_ble_eq_true rfl, Nat.le_of_ble_eq_true rfl⟩) ⟨Nat.le_of_ble_eq_true rfl, Nat.le_of_ble_eq_true rfl⟩ (fun r32 T31 => ?_)
    exact j_zret C dX8_readStep_27 rfl (Nat.le_of_ble_eq_true rfl) (Nat.le_of_ble_eq_true rfl)
theorem cC_Work_readStep {l : Launch} {G : Gc} (hfl : l.stackTraces = false) (hW : Wok G wC 54) {rc : Int32 → St → Oz} {x : Nat} (hx : 6 ≤ x) (hrc : ∀ (x3 : Int32) (S : St), Ct l yX8_readSteps (Cond.code yX8_readSteps cX8_readSteps 5 (some .boolean) :: tblG) x 0 0 G wC 54 [.ref (gA G 8), .ref (gA G 1), .ref (gA G 2), .int x3] S (rc x3 S)) (x3 : Int32) (S : St) : Ct l yX8_readStep (Cond.code yX8_readStep cX8_readStep 4 (some .boolean) :: tblG) (x + 2) 0 0 G wC 54 [.ref (gA G 8), .ref (gA G 1), .ref (gA G 2), .int x3] S (fC_Work_readStep rc x3 S) := ct_of (own := RX8) hfl (by decide +kernel) rfl hW (Nat.le_of_ble_eq_true rfl) (fun E hE C => by subst hE; exact bC_Work_readStep C hx hrc  x3 S)
theorem rC_Work_readStep {E : Ec} {G : Gc} {nL mc ms : Nat} {own : String} {cc : ByteArray} {L : Nat} {ret : Option FieldType} {k n pc ix : Nat} {loc : List (Nat × Value)} {rest : List Value} {rc : Int32 → St → Oz} {x : Nat} {x3 : Int32} {S : St} (hx : 6 ≤ x) (hrc : ∀ (x3 : Int32) (S : St), Ct E.2.1 yX8_readSteps (Cond.code yX8_readSteps cX8_readSteps 5 (some .boolean) :: tblG) x 0 0 G wC 54 [.ref (gA G 8), .ref (gA G 1), .ref (gA G 2), .int x3] S (rc x3 S)) (C : JC E (VC G nL mc ms own) cc L ret) (hd : decode cc pc = .ok (.invokevirtual ix, 3)) (hq : Cond.methodLink own ix yX8_readStep ∈ tblG) (hL : (x + 2) + 1 ≤ L) (hW : (rest.map fun v => v.category).sum ≤ 8) (hf : k + 0 ≤ mc ∧ n + 0 ≤ ms) : Rn E (VC G nL mc ms own) k n 0 0 pc loc (.int x3 :: .ref (gA G 2) :: .ref (gA G 1) :: .ref (gA G 8) :: rest) rest S (fC_Work_readStep rc x3 S) := rn_V (ci := 8) 8 (V := VC G nL mc ms own) (As := [.ref (gA G 1), .ref (gA G 2), .int x3]) (Cq := (RX8, TX8, 7)) (cC_Work_readStep C.flags C.wok hx hrc x3 S) knX8_readStep ⟨q_283, q_284⟩ rfl rfl C hd hq hL rfl rfl hW hf

theorem bC_Work_readSteps_35 {E : Ec} {G : Gc} {rc : Int32 → St → Oz} {x : Nat}  {K3 : Int32 → Int32 → St → Oz} (C : JC E (VC G 5 0 0 RX8) cX8_readSteps (x + 3) (some .boolean)) (hx : 6 ≤ x) (hrc : ∀ (x3 : Int32) (S : St), Ct E.2.1 yX8_readSteps (Cond.code yX8_readSteps cX8_readSteps 5 (some .boolean) :: tblG) x 0 0 G wC 54 [.ref (gA G 8), .ref (gA G 1), .ref (gA G 2), .int x3] S (rc x3 S))  (hK3 : ∀ (x3 : Int32) (x4 : Int32) (S : St), J E (VC G 5 0 0 RX8) 0 0 3 [(0, .ref (gA G 8)), (1, .ref (gA G 1)), (2, .ref (gA G 2)), (3, .int x3), (4, .int x4)] [] S (K3 x3 x4 S)) (x3 : Int32) (x4 : Int32) (S : St) : J E (VC G 5 0 0 RX8) 0 0 35 [(0, .ref (gA G 8)), (1, .ref (gA G 1)), (2, .ref (gA G 2)), (3, .int x3), (4, .int x4)] [] S (fC_Work_readSteps_35 rc K3 x3 x4 S) := by
  unfold fC_Work_readSteps_35
  refine j_aload_n (pc := 35) 0 C dX8_readSteps_35 rfl rfl ?_
  refine j_aload_n (pc := 36) 1 C dX8_readSteps_36 rfl rfl ?_
  refine j_aload_n (pc := 37) 2 C dX8_readSteps_37 rfl rfl ?_
  refine j_iload_n (pc := 38) 3 C dX8_readSteps_38 rfl rfl ?_
  refine j_callI0 (pc := 39) C (rC_Work_readStep hx hrc C dX8_readSteps_39 q_285 (by omega) (Nat.le_of_ble_eq_true rfl) ⟨Nat.le_of_ble_eq_true rfl, Nat.le_of_ble_eq_true rfl⟩) ⟨Nat.le_of_ble_eq_true rfl, Nat.le_of_ble_eq_true rfl⟩ (fun r2 T1 => ?_)
  refine j_if_eq (pc := 42) 54 C dX8_readSteps_42 (by decide) ?_ ?_
  ·
    refine j_iconst (pc := 54) 0 C dX8_readSteps_54 (by decide) ?_
    exact j_zretc C dX8_readSteps_55 rfl (Nat.le_of_ble_eq_true rfl) (Nat.le_of_ble_eq_true rfl) rfl
  ·
    refine j_aload_n (pc := 45) 1 C dX8_readSteps_45 rfl rfl ?_
    refine j_bipush (pc := 46) 59 C dX8_readSteps_46 (by decide) ?_
    refine j_callI0 (pc := 48) C (rC_Tape_needs C dX8_readSteps_48 q_269 (by omega) (Nat.le_of_ble_eq_true rfl) ⟨Nat.le_of_ble_eq_true rfl, Nat.le_of_ble_eq_true rfl⟩) ⟨Nat.le_of_ble_eq_true rfl, Nat.le_of_ble_eq_true rfl⟩ (fun r4 T3 => ?_)
    refine j_if_ne (pc := 51) 56 C dX8_readSteps_51 (by decide) ?_ ?_
    ·
      refine j_iinc (pc := 56) 4 (x4 + 1) [(4, .int (x4 + 1)), (0, .ref (gA G 8)), (1, .ref (gA G 1)), (2, .ref (gA G 2)), (3, .int x3)] C dX8_readSteps_56 rfl rfl (Nat.le_of_ble_eq_true rfl) rfl ?_
      refine j_goto (pc := 59) 3 C dX8_readSteps_59 (by decide) ?_
      refine j_sub [1, 2, 3, 4, 0] rfl ?_
      exact hK3 x3 (x4 + 1) T3
    ·
      refine j_iconst (pc := 54) 0 C dX8_readSteps_54 (by decide) ?_
      exact j_zretc C dX8_readSteps_55 rfl (Nat.le_of_ble_eq_true rfl) (Nat.le_of_ble_eq_true rfl) rfl
theorem bC_Work_readSteps_3 {E : Ec} {G : Gc} {rc : Int32 → St → Oz} {x : Nat}   (C : JC E (VC G 5 0 0 RX8) cX8_readSteps (x + 3) (some .boolean)) (hx : 6 ≤ x) (hrc : ∀ (x3 : Int32) (S : St), Ct E.2.1 yX8_readSteps (Cond.code yX8_readSteps cX8_readSteps 5 (some .boolean) :: tblG) x 0 0 G wC 54 [.ref (gA G 8), .ref (gA G 1), .ref (gA G 2), .int x3] S (rc x3 S))   : ∀ (n : Nat) (x3 : Int32) (x4 : Int32) (S : St), J E (VC G 5 0 0 RX8) 0 0 3 [(0, .ref (gA G 8)), (1, .ref (gA G 1)), (2, .ref (gA G 2)), (3, .int x3), (4, .int x4)] [] S (fC_Work_readSteps_3 rc n x3 x4 S) := by
  intro n
  induction n with
  | zero => intro x3 x4 S; rw [fC_Work_readSteps_3]; exact j_none
  | succ n ih =>
    intro x3 x4 S
    rw [fC_Work_readSteps_3]
    refine j_iload (pc := 3) 4 C dX8_readSteps_3 rfl ?_
    refine j_bipush (pc := 5) 64 C dX8_readSteps_5 (by decide) ?_
    refine j_icmp_gt (pc := 7) 62 C dX8_readSteps_7 (by decide) ?_ ?_
    ·
      refine j_iconst (pc := 62) 0 C dX8_readSteps_62 (by decide) ?_
      exact j_zretc C dX8_readSteps_63 rfl (Nat.le_of_ble_eq_true rfl) (Nat.le_of_ble_eq_true rfl) rfl
    ·
      refine j_iload_n (pc := 10) 3 C dX8_readSteps_10 rfl rfl ?_
      refine j_if_le (pc := 11) 26 C dX8_readSteps_11 (by decide) ?_ ?_
      ·
        refine j_aload_n (pc := 26) 1 C dX8_readSteps_26 rfl rfl ?_
        refine j_callI0 (pc := 27) C (rC_Tape_ended C dX8_readSteps_27 q_254 (by omega) (Nat.le_of_ble_eq_true rfl) ⟨Nat.le_of_ble_eq_true rfl, Nat.le_of_ble_eq_true rfl⟩) ⟨Nat.le_of_ble_eq_true rfl, Nat.le_of_ble_eq_true rfl⟩ (fun r2 T1 => ?_)
        refine j_if_eq (pc := 30) 35 C dX8_readSteps_30 (by decide) ?_ ?_
        ·
          exact bC_Work_readSteps_35 C hx hrc ih x3 x4 T1
        ·
          refine j_iconst (pc := 33) 1 C dX8_readSteps_33 (by decide) ?_
          exact j_zretc C dX8_readSteps_34 rfl (Nat.le_of_ble_eq_true rfl) (Nat.le_of_ble_eq_true rfl) rfl
      ·
        refine j_aload_n (pc := 14) 1 C dX8_readSteps_14 rfl rfl ?_
        refine j_bipush (pc := 15) 93 C dX8_readSteps_15 (by decide) ?_
        refine j_callI0 (pc := 17) C (rC_Tape_sees C dX8_readSteps_17 q_255 (by omega) (Nat.le_of_ble_eq_true rfl) ⟨Nat.le_of_ble_eq_true rfl, Nat.le_of_ble_eq_true rfl⟩) ⟨Nat.le_of_ble_eq_true rfl, Nat.le_of_ble_eq_true rfl⟩ (fun r4 T3 => ?_)
        refine j_if_eq (pc := 20) 35 C dX8_readSteps_20 (by decide) ?_ ?_
        ·
          exact bC_Work_readSteps_35 C hx hrc ih x3 x4 T3
        ·
          refine j_goto (pc := 23) 33 C dX8_readSteps_23 (by decide) ?_
          refine j_iconst (pc := 33) 1 C dX8_readSteps_33 (by decide) ?_
          exact j_zretc C dX8_readSteps_34 rfl (Nat.le_of_ble_eq_true rfl) (Nat.le_of_ble_eq_true rfl) rfl
theorem bC_Work_readSteps_B {E : Ec} {G : Gc} {rc : Int32 → St → Oz} {x : Nat}   (C : JC E (VC G 5 0 0 RX8) cX8_readSteps (x + 3) (some .boolean)) (hx : 6 ≤ x) (hrc : ∀ (x3 : Int32) (S : St), Ct E.2.1 yX8_readSteps (Cond.code yX8_readSteps cX8_readSteps 5 (some .boolean) :: tblG) x 0 0 G wC 54 [.ref (gA G 8), .ref (gA G 1), .ref (gA G 2), .int x3] S (rc x3 S))   (x3 : Int32) (S : St) : J E (VC G 5 0 0 RX8) 0 0 0 [(0, .ref (gA G 8)), (1, .ref (gA G 1)), (2, .ref (gA G 2)), (3, .int x3)] [] S (fC_Work_readSteps_B rc x3 S) := by
  unfold fC_Work_readSteps_B
  refine j_iconst (pc := 0) 0 C dX8_readSteps_0 (by decide) ?_
  refine j_istore (pc := 1) [(4, .int 0), (0, .ref (gA G 8)), (1, .ref (gA G 1)), (2, .ref (gA G 2)), (3, .int x3)] C dX8_readSteps_1 (Nat.le_of_ble_eq_true rfl) rfl ?_
  refine j_sub [1, 2, 3, 4, 0] rfl ?_
  exact bC_Work_readSteps_3 C hx hrc FU x3 0 S
theorem cC_Work_readSteps_B {l : Launch} {G : Gc} (hfl : l.stackTraces = false) (hW : Wok G wC 54) {rc : Int32 → St → Oz} {x : Nat} (hx : 6 ≤ x) (hrc : ∀ (x3 : Int32) (S : St), Ct l yX8_readSteps (Cond.code yX8_readSteps cX8_readSteps 5 (some .boolean) :: tblG) x 0 0 G wC 54 [.ref (gA G 8), .ref (gA G 1), .ref (gA G 2), .int x3] S (rc x3 S)) (x3 : Int32) (S : St) : Ct l yX8_readSteps (Cond.code yX8_readSteps cX8_readSteps 5 (some .boolean) :: tblG) (x + 3) 0 0 G wC 54 [.ref (gA G 8), .ref (gA G 1), .ref (gA G 2), .int x3] S (fC_Work_readSteps_B rc x3 S) := ct_of (own := RX8) hfl (by decide +kernel) rfl hW (Nat.le_of_ble_eq_true rfl) (fun E hE C => by subst hE; exact bC_Work_readSteps_B C hx hrc  x3 S)
theorem cC_Work_readSteps {l : Launch} {G : Gc} (hfl : l.stackTraces = false) (hW : Wok G wC 54) : ∀ (d : Nat) (x3 : Int32) (S : St), Ct l yX8_readSteps (Cond.code yX8_readSteps cX8_readSteps 5 (some .boolean) :: tblG) (6 + 3 * d) 0 0 G wC 54 [.ref (gA G 8), .ref (gA G 1), .ref (gA G 2), .int x3] S (fC_Work_readSteps d x3 S) := by
  intro d
  induction d with
  | zero => intro x3 S r S2 h; rw [fC_Work_readSteps] at h; cases h
  | succ d ih =>
    intro x3 S
    rw [fC_Work_readSteps]
    have h := cC_Work_readSteps_B hfl hW (x := 6 + 3 * d) (by omega) ih x3 S
    rw [Nat.add_assoc] at h
    exact h
theorem rC_Work_readSteps {E : Ec} {G : Gc} {nL mc ms : Nat} {own : String} {cc : ByteArray} {L : Nat} {ret : Option FieldType} {k n pc ix : Nat} {loc : List (Nat × Value)} {rest : List Value}  {x3 : Int32} {S : St}  (C : JC E (VC G nL mc ms own) cc L ret) (hd : decode cc pc = .ok (.invokevirtual ix, 3)) (hq : Cond.methodLink own ix yX8_readSteps ∈ tblG) (hL : 42 + 1 ≤ L) (hW : (rest.map fun v => v.category).sum ≤ 8) (hf : k + 0 ≤ mc ∧ n + 0 ≤ ms) : Rn E (VC G nL mc ms own) k n 0 0 pc loc (.int x3 :: .ref (gA G 2) :: .ref (gA G 1) :: .ref (gA G 8) :: rest) rest S (fC_Work_readSteps 12 x3 S) := rn_V (ci := 8) 8 (V := VC G nL mc ms own) (As := [.ref (gA G 1), .ref (gA G 2), .int x3]) (Cq := (RX8, TX8, 7)) (cC_Work_readSteps C.flags C.wok 12 x3 S) knX8_readSteps ⟨q_287, q_288⟩ rfl rfl C hd hq hL rfl rfl hW hf

theorem knX8_readFrom : Kn yX8_readFrom cX8_readFrom 3 (some .boolean) 2 := ⟨q_289, q_265, by decide +kernel, by decide⟩
theorem bC_Work_readFrom {E : Ec} {G : Gc}    (C : JC E (VC G 3 0 0 RX8) cX8_readFrom 43 (some .boolean))     (S : St) : J E (VC G 3 0 0 RX8) 0 0 0 [(0, .ref (gA G 8)), (1, .ref (gA G 1)), (2, .ref (gA G 2))] [] S (fC_Work_readFrom   S) := by
  unfold fC_Work_readFrom
  refine j_aload_n (pc := 0) 0 C dX8_readFrom_0 rfl rfl ?_
  refine j_iconst (pc := 1) 0 C dX8_readFrom_1 (by decide) ?_
  refine pC_8_3 (pc := 2) C dX8_readFrom_2 q_250 ?_
  refine j_nxS (fun T1 => ?_)
  refine j_aload_n (pc := 5) 0 C dX8_readFrom_5 rfl rfl ?_
  refine j_iconst (pc := 6) 0 C dX8_readFrom_6 (by decide) ?_
  refine pC_8_4 (pc := 7) C dX8_readFrom_7 q_251 ?_
  refine j_nxS (fun T2 => ?_)
  refine j_aload_n (pc := 10) 0 C dX8_readFrom_10 rfl rfl ?_
  refine j_iconst (pc := 11) 0 C dX8_readFrom_11 (by decide) ?_
  refine pC_8_5 (pc := 12) C dX8_readFrom_12 q_252 ?_
  refine j_nxS (fun T3 => ?_)
  refine j_aload_n (pc := 15) 0 C dX8_readFrom_15 rfl rfl ?_
  refine j_iconst (pc := 16) 0 C dX8_readFrom_16 (by decide) ?_
  refine pC_8_6 (pc := 17) C dX8_readFrom_17 q_253 ?_
  refine j_nxS (fun T4 => ?_)
  refine j_aload_n (pc := 20) 0 C dX8_readFrom_20 rfl rfl ?_
  refine j_aload_n (pc := 21) 1 C dX8_readFrom_21 rfl rfl ?_
  refine j_aload_n (pc := 22) 2 C dX8_readFrom_22 rfl rfl ?_
  refine j_iconst (pc := 23) 0 C dX8_readFrom_23 (by decide) ?_
  refine j_callI0 (pc := 24) C (rC_Work_readSteps C dX8_readFrom_24 q_270 (by omega) (Nat.le_of_ble_eq_true rfl) ⟨Nat.le_of_ble_eq_true rfl, Nat.le_of_ble_eq_true rfl⟩) ⟨Nat.le_of_ble_eq_true rfl, Nat.le_of_ble_eq_true rfl⟩ (fun r6 T5 => ?_)
  exact j_zret C dX8_readFrom_27 rfl (Nat.le_of_ble_eq_true rfl) (Nat.le_of_ble_eq_true rfl)
theorem cC_Work_readFrom {l : Launch} {G : Gc} (hfl : l.stackTraces = false) (hW : Wok G wC 54)    (S : St) : Ct l yX8_readFrom (Cond.code yX8_readFrom cX8_readFrom 3 (some .boolean) :: tblG) 43 0 0 G wC 54 [.ref (gA G 8), .ref (gA G 1), .ref (gA G 2)] S (fC_Work_readFrom  S) := ct_of (own := RX8) hfl (by decide +kernel) rfl hW (Nat.le_of_ble_eq_true rfl) (fun E hE C => by subst hE; exact bC_Work_readFrom C    S)
theorem rC_Work_readFrom {E : Ec} {G : Gc} {nL mc ms : Nat} {own : String} {cc : ByteArray} {L : Nat} {ret : Option FieldType} {k n pc ix : Nat} {loc : List (Nat × Value)} {rest : List Value}   {S : St}  (C : JC E (VC G nL mc ms own) cc L ret) (hd : decode cc pc = .ok (.invokevirtual ix, 3)) (hq : Cond.methodLink own ix yX8_readFrom ∈ tblG) (hL : 43 + 1 ≤ L) (hW : (rest.map fun v => v.category).sum ≤ 8) (hf : k + 0 ≤ mc ∧ n + 0 ≤ ms) : Rn E (VC G nL mc ms own) k n 0 0 pc loc (.ref (gA G 2) :: .ref (gA G 1) :: .ref (gA G 8) :: rest) rest S (fC_Work_readFrom  S) := rn_V (ci := 8) 8 (V := VC G nL mc ms own) (As := [.ref (gA G 1), .ref (gA G 2)]) (Cq := (RX8, TX8, 7)) (cC_Work_readFrom C.flags C.wok   S) knX8_readFrom ⟨q_290, q_291⟩ rfl rfl C hd hq hL rfl rfl hW hf

theorem knX4_pushWork : Kn yX4_pushWork cX4_pushWork 2 (some .boolean) 1 := ⟨q_296, q_182, by decide +kernel, by decide⟩
theorem bC_Shelf_pushWork {E : Ec} {G : Gc}    (C : JC E (VC G 2 0 0 RX4) cX4_pushWork 1 (some .boolean))     (S : St) : J E (VC G 2 0 0 RX4) 0 0 0 [(0, .ref (gA G 10)), (1, .ref (gA G 9))] [] S (fC_Shelf_pushWork   S) := by
  unfold fC_Shelf_pushWork
  refine j_aload_n (pc := 0) 0 C dX4_pushWork_0 rfl rfl ?_
  refine gC_10_0 (pc := 1) C dX4_pushWork_1 q_179 ?_
  refine j_bipush (pc := 4) 16 C dX4_pushWork_4 (by decide) ?_
  refine j_icmp_lt (pc := 6) 11 C dX4_pushWork_6 (by decide) ?_ ?_
  ·
    refine j_aload_n (pc := 11) 1 C dX4_pushWork_11 rfl rfl ?_
    refine gC_9_0 (pc := 12) C dX4_pushWork_12 q_293 ?_
    refine j_iconst (pc := 15) 0 C dX4_pushWork_15 (by decide) ?_
    refine j_aload_n (pc := 16) 0 C dX4_pushWork_16 rfl rfl ?_
    refine gC_10_2 (pc := 17) C dX4_pushWork_17 q_294 ?_
    refine j_aload_n (pc := 20) 0 C dX4_pushWork_20 rfl rfl ?_
    refine gC_10_0 (pc := 21) C dX4_pushWork_21 q_179 ?_
    refine j_bipush (pc := 24) 74 C dX4_pushWork_24 (by decide) ?_
    refine j_imul (pc := 26) C dX4_pushWork_26 ?_
    refine j_bipush (pc := 27) 74 C dX4_pushWork_27 (by decide) ?_
    refine j_copy (pc := 29) (V := VC G 2 _ _ RX4) (sC S 46 47 0 ((S.1 26) * 74) 74) 46 47 rfl rfl rfl C dX4_pushWork_29 q_295 q_150 q_151 q_152 (by omega) (Nat.le_of_ble_eq_true rfl) ?_
    refine j_nxS (fun T1 => ?_)
    refine j_aload_n (pc := 32) 0 C dX4_pushWork_32 rfl rfl ?_
    refine j_dup (pc := 33) C dX4_pushWork_33 rfl ?_
    refine gC_10_0 (pc := 34) C dX4_pushWork_34 q_179 ?_
    refine j_iconst (pc := 37) 1 C dX4_pushWork_37 (by decide) ?_
    refine j_iadd (pc := 38) C dX4_pushWork_38 ?_
    refine pC_10_0 (pc := 39) C dX4_pushWork_39 q_179 ?_
    refine j_nxS (fun T2 => ?_)
    refine j_iconst (pc := 42) 1 C dX4_pushWork_42 (by decide) ?_
    exact j_zretc C dX4_pushWork_43 rfl (Nat.le_of_ble_eq_true rfl) (Nat.le_of_ble_eq_true rfl) rfl
  ·
    refine j_iconst (pc := 9) 0 C dX4_pushWork_9 (by decide) ?_
    exact j_zretc C dX4_pushWork_10 rfl (Nat.le_of_ble_eq_true rfl) (Nat.le_of_ble_eq_true rfl) rfl
theorem cC_Shelf_pushWork {l : Launch} {G : Gc} (hfl : l.stackTraces = false) (hW : Wok G wC 54)    (S : St) : Ct l yX4_pushWork (Cond.code yX4_pushWork cX4_pushWork 2 (some .boolean) :: tblG) 1 0 0 G wC 54 [.ref (gA G 10), .ref (gA G 9)] S (fC_Shelf_pushWork  S) := ct_of (own := RX4) hfl (by decide +kernel) rfl hW (Nat.le_of_ble_eq_true rfl) (fun E hE C => by subst hE; exact bC_Shelf_pushWork C    S)
theorem rC_Shelf_pushWork {E : Ec} {G : Gc} {nL mc ms : Nat} {own : String} {cc : ByteArray} {L : Nat} {ret : Option FieldType} {k n pc ix : Nat} {loc : List (Nat × Value)} {rest : List Value}   {S : St}  (C : JC E (VC G nL mc ms own) cc L ret) (hd : decode cc pc = .ok (.invokevirtual ix, 3)) (hq : Cond.methodLink own ix yX4_pushWork ∈ tblG) (hL : 1 + 1 ≤ L) (hW : (rest.map fun v => v.category).sum ≤ 8) (hf : k + 0 ≤ mc ∧ n + 0 ≤ ms) : Rn E (VC G nL mc ms own) k n 0 0 pc loc (.ref (gA G 9) :: .ref (gA G 10) :: rest) rest S (fC_Shelf_pushWork  S) := rn_V (ci := 4) 10 (V := VC G nL mc ms own) (As := [.ref (gA G 9)]) (Cq := (RX4, TX4, 5)) (cC_Shelf_pushWork C.flags C.wok   S) knX4_pushWork ⟨q_297, q_298⟩ rfl rfl C hd hq hL rfl rfl hW hf

theorem knX5_isOld : Kn yX5_isOld cX5_isOld 3 (some .boolean) 1 := ⟨q_303, q_174, by decide +kernel, by decide⟩
theorem bC_State_isOld_9 {E : Ec} {G : Gc}    (C : JC E (VC G 3 0 0 RX5) cX5_isOld 1 (some .boolean))    (x1 : Int32) (S : St) : J E (VC G 3 0 0 RX5) 0 0 0 [(0, .ref (gA G 9)), (1, .int x1)] [] S (fC_State_isOld_9  x1 S) := by
  unfold fC_State_isOld_9
  refine j_aload_n (pc := 0) 0 C dX5_isOld_0 rfl rfl ?_
  refine gC_9_1 (pc := 1) C dX5_isOld_1 q_301 ?_
  refine gC_2_7 (pc := 4) C dX5_isOld_4 q_302 ?_
  refine j_iload_n (pc := 7) 1 C dX5_isOld_7 rfl rfl ?_
  refine aC_18 (pc := 8) C dX5_isOld_8 ?_
  refine j_nxI (fun v1 => ?_)
  refine j_istore_n (pc := 9) [(2, .int v1), (0, .ref (gA G 9)), (1, .int x1)] C dX5_isOld_9 rfl (Nat.le_of_ble_eq_true rfl) rfl ?_
  refine j_iload_n (pc := 10) 0 C dX5_isOld_10 rfl rfl ?_
  refine j_bipush (pc := 11) 60 C dX5_isOld_11 (by decide) ?_
  refine j_icmp_ge (pc := 13) 37 C dX5_isOld_13 (by decide) ?_ ?_
  ·
    refine j_iconst (pc := 37) 0 C dX5_isOld_37 (by decide) ?_
    exact j_zretc C dX5_isOld_38 rfl (Nat.le_of_ble_eq_true rfl) (Nat.le_of_ble_eq_true rfl) rfl
  ·
    refine j_iload_n (pc := 16) 0 C dX5_isOld_16 rfl rfl ?_
    refine j_aload_n (pc := 17) 1 C dX5_isOld_17 rfl rfl ?_
    refine gC_9_0 (pc := 18) C dX5_isOld_18 q_172 ?_
    refine j_bipush (pc := 21) 73 C dX5_isOld_21 (by decide) ?_
    refine acC_46 (pc := 23) C dX5_isOld_23 rfl ?_
    refine j_bipush (pc := 24) 10 C dX5_isOld_24 (by decide) ?_
    refine j_idivc (pc := 26) C dX5_isOld_26 rfl ?_
    refine j_iadd (pc := 27) C dX5_isOld_27 ?_
    refine j_bipush (pc := 28) 60 C dX5_isOld_28 (by decide) ?_
    refine j_icmp_lt (pc := 30) 37 C dX5_isOld_30 (by decide) ?_ ?_
    ·
      refine j_iconst (pc := 37) 0 C dX5_isOld_37 (by decide) ?_
      exact j_zretc C dX5_isOld_38 rfl (Nat.le_of_ble_eq_true rfl) (Nat.le_of_ble_eq_true rfl) rfl
    ·
      refine j_iconst (pc := 33) 1 C dX5_isOld_33 (by decide) ?_
      refine j_goto (pc := 34) 38 C dX5_isOld_34 (by decide) ?_
      exact j_zretc C dX5_isOld_38 rfl (Nat.le_of_ble_eq_true rfl) (Nat.le_of_ble_eq_true rfl) rfl
theorem cC_State_isOld_9 {l : Launch} {G : Gc} (hfl : l.stackTraces = false) (hW : Wok G wC 54)   (x1 : Int32) (S : St) : Ct l yX5_isOld (Cond.code yX5_isOld cX5_isOld 3 (some .boolean) :: tblG) 1 0 0 G wC 54 [.ref (gA G 9), .int x1] S (fC_State_isOld_9 x1 S) := ct_of (own := RX5) hfl (by decide +kernel) rfl hW (Nat.le_of_ble_eq_true rfl) (fun E hE C => by subst hE; exact bC_State_isOld_9 C   x1 S)
theorem rC_State_isOld_9 {E : Ec} {G : Gc} {nL mc ms : Nat} {own : String} {cc : ByteArray} {L : Nat} {ret : Option FieldType} {k n pc ix : Nat} {loc : List (Nat × Value)} {rest : List Value}  {x1 : Int32} {S : St}  (C : JC E (VC G nL mc ms own) cc L ret) (hd : decode cc pc = .ok (.invokevirtual ix, 3)) (hq : Cond.methodLink own ix yX5_isOld ∈ tblG) (hL : 1 + 1 ≤ L) (hW : (rest.map fun v => v.category).sum ≤ 8) (hf : k + 0 ≤ mc ∧ n + 0 ≤ ms) : Rn E (VC G nL mc ms own) k n 0 0 pc loc (.int x1 :: .ref (gA G 9) :: rest) rest S (fC_State_isOld_9 x1 S) := rn_V (ci := 5) 9 (V := VC G nL mc ms own) (As := [.int x1]) (Cq := (RX5, TX5, 3)) (cC_State_isOld_9 C.flags C.wok  x1 S) knX5_isOld ⟨q_304, q_305⟩ rfl rfl C hd hq hL rfl rfl hW hf

theorem knX5_memoryOf : Kn yX5_memoryOf cX5_memoryOf 2 (some .int) 1 := ⟨q_308, q_174, by decide +kernel, by decide⟩
theorem bC_State_memoryOf_9 {E : Ec} {G : Gc}    (C : JC E (VC G 2 0 0 RX5) cX5_memoryOf 2 (some .int))    (x1 : Int32) (S : St) : J E (VC G 2 0 0 RX5) 0 0 0 [(0, .ref (gA G 9)), (1, .int x1)] [] S (fC_State_memoryOf_9  x1 S) := by
  unfold fC_State_memoryOf_9
  refine j_aload_n (pc := 0) 0 C dX5_memoryOf_0 rfl rfl ?_
  refine j_iload_n (pc := 1) 1 C dX5_memoryOf_1 rfl rfl ?_
  refine j_callI0 (pc := 2) C (rC_State_isOld_9 C dX5_memoryOf_2 q_306 (by omega) (Nat.le_of_ble_eq_true rfl) ⟨Nat.le_of_ble_eq_true rfl, Nat.le_of_ble_eq_true rfl⟩) ⟨Nat.le_of_ble_eq_true rfl, Nat.le_of_ble_eq_true rfl⟩ (fun r2 T1 => ?_)
  refine j_if_eq (pc := 5) 22 C dX5_memoryOf_5 (by decide) ?_ ?_
  ·
    refine j_aload_n (pc := 22) 0 C dX5_memoryOf_22 rfl rfl ?_
    refine gC_9_1 (pc := 23) C dX5_memoryOf_23 q_301 ?_
    refine gC_2_6 (pc := 26) C dX5_memoryOf_26 q_307 ?_
    refine j_iload_n (pc := 29) 1 C dX5_memoryOf_29 rfl rfl ?_
    refine aC_17 (pc := 30) C dX5_memoryOf_30 ?_
    exact j_iret C dX5_memoryOf_31 rfl (Nat.le_of_ble_eq_true rfl) (Nat.le_of_ble_eq_true rfl)
  ·
    refine j_aload_n (pc := 8) 0 C dX5_memoryOf_8 rfl rfl ?_
    refine gC_9_1 (pc := 9) C dX5_memoryOf_9 q_301 ?_
    refine gC_2_6 (pc := 12) C dX5_memoryOf_12 q_307 ?_
    refine j_iload_n (pc := 15) 1 C dX5_memoryOf_15 rfl rfl ?_
    refine aC_17 (pc := 16) C dX5_memoryOf_16 ?_
    refine j_iconst (pc := 17) 2 C dX5_memoryOf_17 (by decide) ?_
    refine j_idivc (pc := 18) C dX5_memoryOf_18 rfl ?_
    refine j_goto (pc := 19) 31 C dX5_memoryOf_19 (by decide) ?_
    exact j_iret C dX5_memoryOf_31 rfl (Nat.le_of_ble_eq_true rfl) (Nat.le_of_ble_eq_true rfl)
theorem cC_State_memoryOf_9 {l : Launch} {G : Gc} (hfl : l.stackTraces = false) (hW : Wok G wC 54)   (x1 : Int32) (S : St) : Ct l yX5_memoryOf (Cond.code yX5_memoryOf cX5_memoryOf 2 (some .int) :: tblG) 2 0 0 G wC 54 [.ref (gA G 9), .int x1] S (fC_State_memoryOf_9 x1 S) := ct_of (own := RX5) hfl (by decide +kernel) rfl hW (Nat.le_of_ble_eq_true rfl) (fun E hE C => by subst hE; exact bC_State_memoryOf_9 C   x1 S)
theorem rC_State_memoryOf_9 {E : Ec} {G : Gc} {nL mc ms : Nat} {own : String} {cc : ByteArray} {L : Nat} {ret : Option FieldType} {k n pc ix : Nat} {loc : List (Nat × Value)} {rest : List Value}  {x1 : Int32} {S : St}  (C : JC E (VC G nL mc ms own) cc L ret) (hd : decode cc pc = .ok (.invokevirtual ix, 3)) (hq : Cond.methodLink own ix yX5_memoryOf ∈ tblG) (hL : 2 + 1 ≤ L) (hW : (rest.map fun v => v.category).sum ≤ 8) (hf : k + 0 ≤ mc ∧ n + 0 ≤ ms) : Rn E (VC G nL mc ms own) k n 0 0 pc loc (.int x1 :: .ref (gA G 9) :: rest) rest S (fC_State_memoryOf_9 x1 S) := rn_V (ci := 5) 9 (V := VC G nL mc ms own) (As := [.int x1]) (Cq := (RX5, TX5, 3)) (cC_State_memoryOf_9 C.flags C.wok  x1 S) knX5_memoryOf ⟨q_309, q_310⟩ rfl rfl C hd hq hL rfl rfl hW hf

theorem knX5_place : Kn yX5_place cX5_place 2 (some .int) 2 := ⟨q_313, q_174, by decide +kernel, by decide⟩
theorem bC_State_place {E : Ec} {G : Gc}    (C : JC E (VC G 2 0 0 RX5) cX5_place 1 (some .int))    (x0 : Int32) (x1 : Int32) (S : St) : J E (VC G 2 0 0 RX5) 0 0 0 [(0, .int x0), (1, .int x1)] [] S (fC_State_place  x0 x1 S) := by
  unfold fC_State_place
  refine j_iconst (pc := 0) 0 C dX5_place_0 (by decide) ?_
  refine j_iload_n (pc := 1) 0 C dX5_place_1 rfl rfl ?_
  refine j_bipush (pc := 2) 8 C dX5_place_2 (by decide) ?_
  refine j_imul (pc := 4) C dX5_place_4 ?_
  refine j_iadd (pc := 5) C dX5_place_5 ?_
  refine j_iload_n (pc := 6) 1 C dX5_place_6 rfl rfl ?_
  refine j_iadd (pc := 7) C dX5_place_7 ?_
  exact j_iret C dX5_place_8 rfl (Nat.le_of_ble_eq_true rfl) (Nat.le_of_ble_eq_true rfl)
theorem cC_State_place {l : Launch} {G : Gc} (hfl : l.stackTraces = false) (hW : Wok G wC 54)   (x0 : Int32) (x1 : Int32) (S : St) : Ct l yX5_place (Cond.code yX5_place cX5_place 2 (some .int) :: tblG) 1 0 0 G wC 54 [.int x0, .int x1] S (fC_State_place x0 x1 S) := ct_of (own := RX5) hfl (by decide +kernel) rfl hW (Nat.le_of_ble_eq_true rfl) (fun E hE C => by subst hE; exact bC_State_place C   x0 x1 S)
theorem rC_State_place {E : Ec} {G : Gc} {nL mc ms : Nat} {own : String} {cc : ByteArray} {L : Nat} {ret : Option FieldType} {k n pc ix : Nat} {loc : List (Nat × Value)} {rest : List Value}  {x0 : Int32} {x1 : Int32} {S : St}  (C : JC E (VC G nL mc ms own) cc L ret) (hd : decode cc pc = .ok (.invokestatic ix, 3)) (hq : Cond.methodLink own ix yX5_place ∈ tblG) (hL : 1 + 1 ≤ L) (hW : (rest.map fun v => v.category).sum ≤ 8) (hf : k + 0 ≤ mc ∧ n + 0 ≤ ms) : Rn E (VC G nL mc ms own) k n 0 0 pc loc (.int x1 :: .int x0 :: rest) rest S (fC_State_place x0 x1 S) := rn_S (V := VC G nL mc ms own) (As := [.int x0, .int x1]) (cC_State_place C.flags C.wok  x0 x1 S) knX5_place q_314  C hd hq hL rfl rfl hW hf

theorem knX5_linesOf : Kn yX5_linesOf cX5_linesOf 4 (some .int) 1 := ⟨q_316, q_174, by decide +kernel, by decide⟩
theorem bC_State_linesOf_9_4 {E : Ec} {G : Gc}    (C : JC E (VC G 4 0 0 RX5) cX5_linesOf 2 (some .int))    : ∀ (n : Nat) (x1 : Int32) (x2 : Int32) (x3 : Int32) (S : St), J E (VC G 4 0 0 RX5) 0 0 4 [(0, .ref (gA G 9)), (1, .int x1), (2, .int x2), (3, .int x3)] [] S (fC_State_linesOf_9_4  n x1 x2 x3 S) := by
  intro n
  induction n with
  | zero => intro x1 x2 x3 S; rw [fC_State_linesOf_9_4]; exact j_none
  | succ n ih =>
    intro x1 x2 x3 S
    rw [fC_State_linesOf_9_4]
    refine j_iload_n (pc := 4) 3 C dX5_linesOf_4 rfl rfl ?_
    refine j_aload_n (pc := 5) 0 C dX5_linesOf_5 rfl rfl ?_
    refine gC_9_1 (pc := 6) C dX5_linesOf_6 q_301 ?_
    refine gC_2_0 (pc := 9) C dX5_linesOf_9 q_312 ?_
    refine j_icmp_ge (pc := 12) 34 C dX5_linesOf_12 (by decide) ?_ ?_
    ·
      refine j_iload_n (pc := 34) 2 C dX5_linesOf_34 rfl rfl ?_
      exact j_iret C dX5_linesOf_35 rfl (Nat.le_of_ble_eq_true rfl) (Nat.le_of_ble_eq_true rfl)
    ·
      refine j_iload_n (pc := 15) 2 C dX5_linesOf_15 rfl rfl ?_
      refine j_aload_n (pc := 16) 0 C dX5_linesOf_16 rfl rfl ?_
      refine gC_9_0 (pc := 17) C dX5_linesOf_17 q_172 ?_
      refine j_iload_n (pc := 20) 1 C dX5_linesOf_20 rfl rfl ?_
      refine j_iload_n (pc := 21) 3 C dX5_linesOf_21 rfl rfl ?_
      refine j_callI0 (pc := 22) C (rC_State_place C dX5_linesOf_22 q_315 (by omega) (Nat.le_of_ble_eq_true rfl) ⟨Nat.le_of_ble_eq_true rfl, Nat.le_of_ble_eq_true rfl⟩) ⟨Nat.le_of_ble_eq_true rfl, Nat.le_of_ble_eq_true rfl⟩ (fun r2 T1 => ?_)
      refine aC_46 (pc := 25) C dX5_linesOf_25 ?_
      refine j_iadd (pc := 26) C dX5_linesOf_26 ?_
      refine j_nxI (fun v3 => ?_)
      refine j_istore_n (pc := 27) [(2, .int v3), (0, .ref (gA G 9)), (1, .int x1), (3, .int x3)] C dX5_linesOf_27 rfl (Nat.le_of_ble_eq_true rfl) rfl ?_
      refine j_iinc (pc := 28) 3 (x3 + 1) [(3, .int (x3 + 1)), (2, .int v3), (0, .ref (gA G 9)), (1, .int x1)] C dX5_linesOf_28 rfl rfl (Nat.le_of_ble_eq_true rfl) rfl ?_
      refine j_goto (pc := 31) 4 C dX5_linesOf_31 (by decide) ?_
      refine j_sub [2, 3, 1, 0] rfl ?_
      exact ih x1 v3 (x3 + 1) T1
theorem bC_State_linesOf_9 {E : Ec} {G : Gc}    (C : JC E (VC G 4 0 0 RX5) cX5_linesOf 2 (some .int))    (x1 : Int32) (S : St) : J E (VC G 4 0 0 RX5) 0 0 0 [(0, .ref (gA G 9)), (1, .int x1)] [] S (fC_State_linesOf_9  x1 S) := by
  unfold fC_State_linesOf_9
  refine j_iconst (pc := 0) 0 C dX5_linesOf_0 (by decide) ?_
  refine j_istore_n (pc := 1) [(2, .int 0), (0, .ref (gA G 9)), (1, .int x1)] C dX5_linesOf_1 rfl (Nat.le_of_ble_eq_true rfl) rfl ?_
  refine j_iconst (pc := 2) 0 C dX5_linesOf_2 (by decide) ?_
  refine j_istore_n (pc := 3) [(3, .int 0), (2, .int 0), (0, .ref (gA G 9)), (1, .int x1)] C dX5_linesOf_3 rfl (Nat.le_of_ble_eq_true rfl) rfl ?_
  refine j_sub [2, 3, 1, 0] rfl ?_
  exact bC_State_linesOf_9_4 C  FU x1 0 0 S
theorem cC_State_linesOf_9 {l : Launch} {G : Gc} (hfl : l.stackTraces = false) (hW : Wok G wC 54)   (x1 : Int32) (S : St) : Ct l yX5_linesOf (Cond.code yX5_linesOf cX5_linesOf 4 (some .int) :: tblG) 2 0 0 G wC 54 [.ref (gA G 9), .int x1] S (fC_State_linesOf_9 x1 S) := ct_of (own := RX5) hfl (by decide +kernel) rfl hW (Nat.le_of_ble_eq_true rfl) (fun E hE C => by subst hE; exact bC_State_linesOf_9 C   x1 S)
theorem rC_State_linesOf_9 {E : Ec} {G : Gc} {nL mc ms : Nat} {own : String} {cc : ByteArray} {L : Nat} {ret : Option FieldType} {k n pc ix : Nat} {loc : List (Nat × Value)} {rest : List Value}  {x1 : Int32} {S : St}  (C : JC E (VC G nL mc ms own) cc L ret) (hd : decode cc pc = .ok (.invokevirtual ix, 3)) (hq : Cond.methodLink own ix yX5_linesOf ∈ tblG) (hL : 2 + 1 ≤ L) (hW : (rest.map fun v => v.category).sum ≤ 8) (hf : k + 0 ≤ mc ∧ n + 0 ≤ ms) : Rn E (VC G nL mc ms own) k n 0 0 pc loc (.int x1 :: .ref (gA G 9) :: rest) rest S (fC_State_linesOf_9 x1 S) := rn_V (ci := 5) 9 (V := VC G nL mc ms own) (As := [.int x1]) (Cq := (RX5, TX5, 3)) (cC_State_linesOf_9 C.flags C.wok  x1 S) knX5_linesOf ⟨q_317, q_318⟩ rfl rfl C hd hq hL rfl rfl hW hf

theorem knX5_roomOf : Kn yX5_roomOf cX5_roomOf 3 (some .int) 1 := ⟨q_320, q_174, by decide +kernel, by decide⟩
theorem bC_State_roomOf_9 {E : Ec} {G : Gc}    (C : JC E (VC G 3 0 0 RX5) cX5_roomOf 3 (some .int))    (x1 : Int32) (S : St) : J E (VC G 3 0 0 RX5) 0 0 0 [(0, .ref (gA G 9)), (1, .int x1)] [] S (fC_State_roomOf_9  x1 S) := by
  unfold fC_State_roomOf_9
  refine j_aload_n (pc := 0) 0 C dX5_roomOf_0 rfl rfl ?_
  refine j_iload_n (pc := 1) 1 C dX5_roomOf_1 rfl rfl ?_
  refine j_callI0 (pc := 2) C (rC_State_memoryOf_9 C dX5_roomOf_2 q_311 (by omega) (Nat.le_of_ble_eq_true rfl) ⟨Nat.le_of_ble_eq_true rfl, Nat.le_of_ble_eq_true rfl⟩) ⟨Nat.le_of_ble_eq_true rfl, Nat.le_of_ble_eq_true rfl⟩ (fun r2 T1 => ?_)
  refine j_aload_n (pc := 5) 0 C dX5_roomOf_5 rfl rfl ?_
  refine j_iload_n (pc := 6) 1 C dX5_roomOf_6 rfl rfl ?_
  refine j_callI0 (pc := 7) C (rC_State_linesOf_9 C dX5_roomOf_7 q_319 (by omega) (Nat.le_of_ble_eq_true rfl) ⟨Nat.le_of_ble_eq_true rfl, Nat.le_of_ble_eq_true rfl⟩) ⟨Nat.le_of_ble_eq_true rfl, Nat.le_of_ble_eq_true rfl⟩ (fun r4 T3 => ?_)
  refine j_isub (pc := 10) C dX5_roomOf_10 ?_
  refine j_nxI (fun v5 => ?_)
  refine j_istore_n (pc := 11) [(2, .int v5), (0, .ref (gA G 9)), (1, .int x1)] C dX5_roomOf_11 rfl (Nat.le_of_ble_eq_true rfl) rfl ?_
  refine j_iload_n (pc := 12) 0 C dX5_roomOf_12 rfl rfl ?_
  refine j_if_ge (pc := 13) 20 C dX5_roomOf_13 (by decide) ?_ ?_
  ·
    refine j_iload_n (pc := 20) 0 C dX5_roomOf_20 rfl rfl ?_
    exact j_iret C dX5_roomOf_21 rfl (Nat.le_of_ble_eq_true rfl) (Nat.le_of_ble_eq_true rfl)
  ·
    refine j_iconst (pc := 16) 0 C dX5_roomOf_16 (by decide) ?_
    refine j_goto (pc := 17) 21 C dX5_roomOf_17 (by decide) ?_
    exact j_iret C dX5_roomOf_21 rfl (Nat.le_of_ble_eq_true rfl) (Nat.le_of_ble_eq_true rfl)
theorem cC_State_roomOf_9 {l : Launch} {G : Gc} (hfl : l.stackTraces = false) (hW : Wok G wC 54)   (x1 : Int32) (S : St) : Ct l yX5_roomOf (Cond.code yX5_roomOf cX5_roomOf 3 (some .int) :: tblG) 3 0 0 G wC 54 [.ref (gA G 9), .int x1] S (fC_State_roomOf_9 x1 S) := ct_of (own := RX5) hfl (by decide +kernel) rfl hW (Nat.le_of_ble_eq_true rfl) (fun E hE C => by subst hE; exact bC_State_roomOf_9 C   x1 S)
theorem rC_State_roomOf_9 {E : Ec} {G : Gc} {nL mc ms : Nat} {own : String} {cc : ByteArray} {L : Nat} {ret : Option FieldType} {k n pc ix : Nat} {loc : List (Nat × Value)} {rest : List Value}  {x1 : Int32} {S : St}  (C : JC E (VC G nL mc ms own) cc L ret) (hd : decode cc pc = .ok (.invokevirtual ix, 3)) (hq : Cond.methodLink own ix yX5_roomOf ∈ tblG) (hL : 3 + 1 ≤ L) (hW : (rest.map fun v => v.category).sum ≤ 8) (hf : k + 0 ≤ mc ∧ n + 0 ≤ ms) : Rn E (VC G nL mc ms own) k n 0 0 pc loc (.int x1 :: .ref (gA G 9) :: rest) rest S (fC_State_roomOf_9 x1 S) := rn_V (ci := 5) 9 (V := VC G nL mc ms own) (As := [.int x1]) (Cq := (RX5, TX5, 3)) (cC_State_roomOf_9 C.flags C.wok  x1 S) knX5_roomOf ⟨q_321, q_322⟩ rfl rfl C hd hq hL rfl rfl hW hf

theorem knX1_tellPoem : Kn yX1_tellPoem cX1_tellPoem 4 none 3 := ⟨q_328, q_161, by decide +kernel, by decide⟩
theorem bC_Law_tellPoem_4 {E : Ec} {G : Gc}    (C : JC E (VC G 4 0 0 RX1) cX1_tellPoem 1 none)    (x1 : Int32) (x2 : Int32) (x3 : Int32) (S : St) : J E (VC G 4 0 0 RX1) 0 0 0 [(0, .ref (gA G 4)), (1, .int x1), (2, .int x2), (3, .int x3)] [] S (fC_Law_tellPoem_4  x1 x2 x3 S) := by
  unfold fC_Law_tellPoem_4
  refine j_aload_n (pc := 0) 0 C dX1_tellPoem_0 rfl rfl ?_
  refine gC_4_2 (pc := 1) C dX1_tellPoem_1 q_327 ?_
  refine j_iconst (pc := 4) 0 C dX1_tellPoem_4 (by decide) ?_
  refine j_iload_n (pc := 5) 1 C dX1_tellPoem_5 rfl rfl ?_
  refine scC_32 (pc := 6) C dX1_tellPoem_6 rfl ?_
  refine j_nxS (fun T1 => ?_)
  refine j_aload_n (pc := 7) 0 C dX1_tellPoem_7 rfl rfl ?_
  refine gC_4_2 (pc := 8) C dX1_tellPoem_8 q_327 ?_
  refine j_iconst (pc := 11) 1 C dX1_tellPoem_11 (by decide) ?_
  refine j_iload_n (pc := 12) 2 C dX1_tellPoem_12 rfl rfl ?_
  refine scC_32 (pc := 13) C dX1_tellPoem_13 rfl ?_
  refine j_nxS (fun T2 => ?_)
  refine j_aload_n (pc := 14) 0 C dX1_tellPoem_14 rfl rfl ?_
  refine gC_4_2 (pc := 15) C dX1_tellPoem_15 q_327 ?_
  refine j_iconst (pc := 18) 2 C dX1_tellPoem_18 (by decide) ?_
  refine j_iload_n (pc := 19) 3 C dX1_tellPoem_19 rfl rfl ?_
  refine scC_32 (pc := 20) C dX1_tellPoem_20 rfl ?_
  refine j_nxS (fun T3 => ?_)
  exact j_vret C dX1_tellPoem_21 rfl (Nat.le_of_ble_eq_true rfl) (Nat.le_of_ble_eq_true rfl)
theorem cC_Law_tellPoem_4 {l : Launch} {G : Gc} (hfl : l.stackTraces = false) (hW : Wok G wC 54)   (x1 : Int32) (x2 : Int32) (x3 : Int32) (S : St) : Ct l yX1_tellPoem (Cond.code yX1_tellPoem cX1_tellPoem 4 none :: tblG) 1 0 0 G wC 54 [.ref (gA G 4), .int x1, .int x2, .int x3] S (fC_Law_tellPoem_4 x1 x2 x3 S) := ct_of (own := RX1) hfl (by decide +kernel) rfl hW (Nat.le_of_ble_eq_true rfl) (fun E hE C => by subst hE; exact bC_Law_tellPoem_4 C   x1 x2 x3 S)
theorem rC_Law_tellPoem_4 {E : Ec} {G : Gc} {nL mc ms : Nat} {own : String} {cc : ByteArray} {L : Nat} {ret : Option FieldType} {k n pc ix : Nat} {loc : List (Nat × Value)} {rest : List Value}  {x1 : Int32} {x2 : Int32} {x3 : Int32} {S : St}  (C : JC E (VC G nL mc ms own) cc L ret) (hd : decode cc pc = .ok (.invokevirtual ix, 3)) (hq : Cond.methodLink own ix yX1_tellPoem ∈ tblG) (hL : 1 + 1 ≤ L) (hW : (rest.map fun v => v.category).sum ≤ 8) (hf : k + 0 ≤ mc ∧ n + 0 ≤ ms) : Rn E (VC G nL mc ms own) k n 0 0 pc loc (.int x3 :: .int x2 :: .int x1 :: .ref (gA G 4) :: rest) rest S (fC_Law_tellPoem_4 x1 x2 x3 S) := rn_V (ci := 1) 4 (V := VC G nL mc ms own) (As := [.int x1, .int x2, .int x3]) (Cq := (RX1, TX1, 4)) (cC_Law_tellPoem_4 C.flags C.wok  x1 x2 x3 S) knX1_tellPoem ⟨q_329, q_330⟩ rfl rfl C hd hq hL rfl rfl hW hf

theorem knX5_ageOf : Kn yX5_ageOf cX5_ageOf 2 (some .int) 1 := ⟨q_332, q_174, by decide +kernel, by decide⟩
theorem bC_State_ageOf_9 {E : Ec} {G : Gc}    (C : JC E (VC G 2 0 0 RX5) cX5_ageOf 1 (some .int))    (x1 : Int32) (S : St) : J E (VC G 2 0 0 RX5) 0 0 0 [(0, .ref (gA G 9)), (1, .int x1)] [] S (fC_State_ageOf_9  x1 S) := by
  unfold fC_State_ageOf_9
  refine j_aload_n (pc := 0) 0 C dX5_ageOf_0 rfl rfl ?_
  refine gC_9_1 (pc := 1) C dX5_ageOf_1 q_301 ?_
  refine gC_2_7 (pc := 4) C dX5_ageOf_4 q_302 ?_
  refine j_iload_n (pc := 7) 1 C dX5_ageOf_7 rfl rfl ?_
  refine aC_18 (pc := 8) C dX5_ageOf_8 ?_
  refine j_aload_n (pc := 9) 0 C dX5_ageOf_9 rfl rfl ?_
  refine gC_9_0 (pc := 10) C dX5_ageOf_10 q_172 ?_
  refine j_bipush (pc := 13) 73 C dX5_ageOf_13 (by decide) ?_
  refine acC_46 (pc := 15) C dX5_ageOf_15 rfl ?_
  refine j_bipush (pc := 16) 10 C dX5_ageOf_16 (by decide) ?_
  refine j_idivc (pc := 18) C dX5_ageOf_18 rfl ?_
  refine j_iadd (pc := 19) C dX5_ageOf_19 ?_
  exact j_iret C dX5_ageOf_20 rfl (Nat.le_of_ble_eq_true rfl) (Nat.le_of_ble_eq_true rfl)
theorem cC_State_ageOf_9 {l : Launch} {G : Gc} (hfl : l.stackTraces = false) (hW : Wok G wC 54)   (x1 : Int32) (S : St) : Ct l yX5_ageOf (Cond.code yX5_ageOf cX5_ageOf 2 (some .int) :: tblG) 1 0 0 G wC 54 [.ref (gA G 9), .int x1] S (fC_State_ageOf_9 x1 S) := ct_of (own := RX5) hfl (by decide +kernel) rfl hW (Nat.le_of_ble_eq_true rfl) (fun E hE C => by subst hE; exact bC_State_ageOf_9 C   x1 S)
theorem rC_State_ageOf_9 {E : Ec} {G : Gc} {nL mc ms : Nat} {own : String} {cc : ByteArray} {L : Nat} {ret : Option FieldType} {k n pc ix : Nat} {loc : List (Nat × Value)} {rest : List Value}  {x1 : Int32} {S : St}  (C : JC E (VC G nL mc ms own) cc L ret) (hd : decode cc pc = .ok (.invokevirtual ix, 3)) (hq : Cond.methodLink own ix yX5_ageOf ∈ tblG) (hL : 1 + 1 ≤ L) (hW : (rest.map fun v => v.category).sum ≤ 8) (hf : k + 0 ≤ mc ∧ n + 0 ≤ ms) : Rn E (VC G nL mc ms own) k n 0 0 pc loc (.int x1 :: .ref (gA G 9) :: rest) rest S (fC_State_ageOf_9 x1 S) := rn_V (ci := 5) 9 (V := VC G nL mc ms own) (As := [.int x1]) (Cq := (RX5, TX5, 3)) (cC_State_ageOf_9 C.flags C.wok  x1 S) knX5_ageOf ⟨q_333, q_334⟩ rfl rfl C hd hq hL rfl rfl hW hf

theorem knX1_tellMan : Kn yX1_tellMan cX1_tellMan 6 none 5 := ⟨q_336, q_161, by decide +kernel, by decide⟩
theorem bC_Law_tellMan_4 {E : Ec} {G : Gc}    (C : JC E (VC G 6 0 0 RX1) cX1_tellMan 1 none)    (x1 : Int32) (x2 : Int32) (x3 : Int32) (x4 : Int32) (x5 : Int32) (S : St) : J E (VC G 6 0 0 RX1) 0 0 0 [(0, .ref (gA G 4)), (1, .int x1), (2, .int x2), (3, .int x3), (4, .int x4), (5, .int x5)] [] S (fC_Law_tellMan_4  x1 x2 x3 x4 x5 S) := by
  unfold fC_Law_tellMan_4
  refine j_aload_n (pc := 0) 0 C dX1_tellMan_0 rfl rfl ?_
  refine gC_4_2 (pc := 1) C dX1_tellMan_1 q_327 ?_
  refine j_iconst (pc := 4) 3 C dX1_tellMan_4 (by decide) ?_
  refine j_iload_n (pc := 5) 1 C dX1_tellMan_5 rfl rfl ?_
  refine scC_32 (pc := 6) C dX1_tellMan_6 rfl ?_
  refine j_nxS (fun T1 => ?_)
  refine j_aload_n (pc := 7) 0 C dX1_tellMan_7 rfl rfl ?_
  refine gC_4_2 (pc := 8) C dX1_tellMan_8 q_327 ?_
  refine j_iconst (pc := 11) 4 C dX1_tellMan_11 (by decide) ?_
  refine j_iload_n (pc := 12) 2 C dX1_tellMan_12 rfl rfl ?_
  refine scC_32 (pc := 13) C dX1_tellMan_13 rfl ?_
  refine j_nxS (fun T2 => ?_)
  refine j_aload_n (pc := 14) 0 C dX1_tellMan_14 rfl rfl ?_
  refine gC_4_2 (pc := 15) C dX1_tellMan_15 q_327 ?_
  refine j_iconst (pc := 18) 5 C dX1_tellMan_18 (by decide) ?_
  refine j_iload_n (pc := 19) 3 C dX1_tellMan_19 rfl rfl ?_
  refine scC_32 (pc := 20) C dX1_tellMan_20 rfl ?_
  refine j_nxS (fun T3 => ?_)
  refine j_aload_n (pc := 21) 0 C dX1_tellMan_21 rfl rfl ?_
  refine gC_4_2 (pc := 22) C dX1_tellMan_22 q_327 ?_
  refine j_bipush (pc := 25) 6 C dX1_tellMan_25 (by decide) ?_
  refine j_iload (pc := 27) 4 C dX1_tellMan_27 rfl ?_
  refine scC_32 (pc := 29) C dX1_tellMan_29 rfl ?_
  refine j_nxS (fun T4 => ?_)
  refine j_aload_n (pc := 30) 0 C dX1_tellMan_30 rfl rfl ?_
  refine gC_4_2 (pc := 31) C dX1_tellMan_31 q_327 ?_
  refine j_bipush (pc := 34) 7 C dX1_tellMan_34 (by decide) ?_
  refine j_iload (pc := 36) 5 C dX1_tellMan_36 rfl ?_
  refine scC_32 (pc := 38) C dX1_tellMan_38 rfl ?_
  refine j_nxS (fun T5 => ?_)
  exact j_vret C dX1_tellMan_39 rfl (Nat.le_of_ble_eq_true rfl) (Nat.le_of_ble_eq_true rfl)
theorem cC_Law_tellMan_4 {l : Launch} {G : Gc} (hfl : l.stackTraces = false) (hW : Wok G wC 54)   (x1 : Int32) (x2 : Int32) (x3 : Int32) (x4 : Int32) (x5 : Int32) (S : St) : Ct l yX1_tellMan (Cond.code yX1_tellMan cX1_tellMan 6 none :: tblG) 1 0 0 G wC 54 [.ref (gA G 4), .int x1, .int x2, .int x3, .int x4, .int x5] S (fC_Law_tellMan_4 x1 x2 x3 x4 x5 S) := ct_of (own := RX1) hfl (by decide +kernel) rfl hW (Nat.le_of_ble_eq_true rfl) (fun E hE C => by subst hE; exact bC_Law_tellMan_4 C   x1 x2 x3 x4 x5 S)
theorem rC_Law_tellMan_4 {E : Ec} {G : Gc} {nL mc ms : Nat} {own : String} {cc : ByteArray} {L : Nat} {ret : Option FieldType} {k n pc ix : Nat} {loc : List (Nat × Value)} {rest : List Value}  {x1 : Int32} {x2 : Int32} {x3 : Int32} {x4 : Int32} {x5 : Int32} {S : St}  (C : JC E (VC G nL mc ms own) cc L ret) (hd : decode cc pc = .ok (.invokevirtual ix, 3)) (hq : Cond.methodLink own ix yX1_tellMan ∈ tblG) (hL : 1 + 1 ≤ L) (hW : (rest.map fun v => v.category).sum ≤ 8) (hf : k + 0 ≤ mc ∧ n + 0 ≤ ms) : Rn E (VC G nL mc ms own) k n 0 0 pc loc (.int x5 :: .int x4 :: .int x3 :: .int x2 :: .int x1 :: .ref (gA G 4) :: rest) rest S (fC_Law_tellMan_4 x1 x2 x3 x4 x5 S) := rn_V (ci := 1) 4 (V := VC G nL mc ms own) (As := [.int x1, .int x2, .int x3, .int x4, .int x5]) (Cq := (RX1, TX1, 4)) (cC_Law_tellMan_4 C.flags C.wok  x1 x2 x3 x4 x5 S) knX1_tellMan ⟨q_337, q_338⟩ rfl rfl C hd hq hL rfl rfl hW hf

theorem knX1_joined : Kn yX1_joined cX1_joined 3 (some .int) 3 := ⟨q_341, q_161, by decide +kernel, by decide⟩
theorem bC_Law_joined {E : Ec} {G : Gc}    (C : JC E (VC G 3 0 0 RX1) cX1_joined 1 (some .int))    (x0 : Int32) (x1 : Int32) (x2 : Int32) (S : St) : J E (VC G 3 0 0 RX1) 0 0 0 [(0, .int x0), (1, .int x1), (2, .int x2)] [] S (fC_Law_joined  x0 x1 x2 S) := by
  unfold fC_Law_joined
  refine j_iload_n (pc := 0) 0 C dX1_joined_0 rfl rfl ?_
  refine j_tswC (pc := 1) (off := 39) 40 2000 C dX1_joined_1 (by decide) (by decide) (by decide) (by decide) ?_ (fun h1_2000 => ?_)
  ·
    refine j_iload_n (pc := 40) 1 C dX1_joined_40 rfl rfl ?_
    refine j_iload_n (pc := 41) 2 C dX1_joined_41 rfl rfl ?_
    refine j_iadd (pc := 42) C dX1_joined_42 ?_
    exact j_iret C dX1_joined_43 rfl (Nat.le_of_ble_eq_true rfl) (Nat.le_of_ble_eq_true rfl)
  refine j_tswC (pc := 1) (off := 43) 44 2001 C dX1_joined_1 (by decide) (by decide) (by decide) (by decide) ?_ (fun h1_2001 => ?_)
  ·
    refine j_iload_n (pc := 44) 1 C dX1_joined_44 rfl rfl ?_
    refine j_iload_n (pc := 45) 2 C dX1_joined_45 rfl rfl ?_
    refine j_isub (pc := 46) C dX1_joined_46 ?_
    exact j_iret C dX1_joined_47 rfl (Nat.le_of_ble_eq_true rfl) (Nat.le_of_ble_eq_true rfl)
  refine j_tswC (pc := 1) (off := 47) 48 2002 C dX1_joined_1 (by decide) (by decide) (by decide) (by decide) ?_ (fun h1_2002 => ?_)
  ·
    refine j_iload_n (pc := 48) 1 C dX1_joined_48 rfl rfl ?_
    refine j_iload_n (pc := 49) 2 C dX1_joined_49 rfl rfl ?_
    refine j_imul (pc := 50) C dX1_joined_50 ?_
    exact j_iret C dX1_joined_51 rfl (Nat.le_of_ble_eq_true rfl) (Nat.le_of_ble_eq_true rfl)
  refine j_tswC (pc := 1) (off := 51) 52 2003 C dX1_joined_1 (by decide) (by decide) (by decide) (by decide) ?_ (fun h1_2003 => ?_)
  ·
    refine j_iload_n (pc := 52) 2 C dX1_joined_52 rfl rfl ?_
    refine j_if_ne (pc := 53) 60 C dX1_joined_53 (by decide) ?_ ?_
    ·
      refine j_iload_n (pc := 60) 1 C dX1_joined_60 rfl rfl ?_
      refine j_iload_n (pc := 61) 2 C dX1_joined_61 rfl rfl ?_
      refine j_idiv (pc := 62) C dX1_joined_62 ?_
      exact j_iret C dX1_joined_63 rfl (Nat.le_of_ble_eq_true rfl) (Nat.le_of_ble_eq_true rfl)
    ·
      refine j_iconst (pc := 56) 0 C dX1_joined_56 (by decide) ?_
      refine j_goto (pc := 57) 63 C dX1_joined_57 (by decide) ?_
      exact j_iret C dX1_joined_63 rfl (Nat.le_of_ble_eq_true rfl) (Nat.le_of_ble_eq_true rfl)
  refine j_tswC (pc := 1) (off := 63) 64 2004 C dX1_joined_1 (by decide) (by decide) (by decide) (by decide) ?_ (fun h1_2004 => ?_)
  ·
    refine j_iload_n (pc := 64) 2 C dX1_joined_64 rfl rfl ?_
    refine j_if_ne (pc := 65) 72 C dX1_joined_65 (by decide) ?_ ?_
    ·
      refine j_iload_n (pc := 72) 1 C dX1_joined_72 rfl rfl ?_
      refine j_iload_n (pc := 73) 2 C dX1_joined_73 rfl rfl ?_
      refine j_irem (pc := 74) C dX1_joined_74 ?_
      exact j_iret C dX1_joined_75 rfl (Nat.le_of_ble_eq_true rfl) (Nat.le_of_ble_eq_true rfl)
    ·
      refine j_iconst (pc := 68) 0 C dX1_joined_68 (by decide) ?_
      refine j_goto (pc := 69) 75 C dX1_joined_69 (by decide) ?_
      exact j_iret C dX1_joined_75 rfl (Nat.le_of_ble_eq_true rfl) (Nat.le_of_ble_eq_true rfl)
  refine j_tswC (pc := 1) (off := 75) 76 2005 C dX1_joined_1 (by decide) (by decide) (by decide) (by decide) ?_ (fun h1_2005 => ?_)
  ·
    refine j_iload_n (pc := 76) 1 C dX1_joined_76 rfl rfl ?_
    refine j_iload_n (pc := 77) 2 C dX1_joined_77 rfl rfl ?_
    refine j_icmp_ge (pc := 78) 85 C dX1_joined_78 (by decide) ?_ ?_
    ·
      refine j_iload_n (pc := 85) 2 C dX1_joined_85 rfl rfl ?_
      exact j_iret C dX1_joined_86 rfl (Nat.le_of_ble_eq_true rfl) (Nat.le_of_ble_eq_true rfl)
    ·
      refine j_iload_n (pc := 81) 1 C dX1_joined_81 rfl rfl ?_
      refine j_goto (pc := 82) 86 C dX1_joined_82 (by decide) ?_
      exact j_iret C dX1_joined_86 rfl (Nat.le_of_ble_eq_true rfl) (Nat.le_of_ble_eq_true rfl)
  refine j_tswD (pc := 1) 87 C dX1_joined_1 (by have := ne_i (z := 2000) h1_2000 (by decide); have := ne_i (z := 2001) h1_2001 (by decide); have := ne_i (z := 2002) h1_2002 (by decide); have := ne_i (z := 2003) h1_2003 (by decide); have := ne_i (z := 2004) h1_2004 (by decide); have := ne_i (z := 2005) h1_2005 (by decide); omega) (by decide) ?_
  refine j_iload_n (pc := 87) 1 C dX1_joined_87 rfl rfl ?_
  refine j_iload_n (pc := 88) 2 C dX1_joined_88 rfl rfl ?_
  refine j_icmp_le (pc := 89) 96 C dX1_joined_89 (by decide) ?_ ?_
  ·
    refine j_iload_n (pc := 96) 2 C dX1_joined_96 rfl rfl ?_
    exact j_iret C dX1_joined_97 rfl (Nat.le_of_ble_eq_true rfl) (Nat.le_of_ble_eq_true rfl)
  ·
    refine j_iload_n (pc := 92) 1 C dX1_joined_92 rfl rfl ?_
    refine j_goto (pc := 93) 97 C dX1_joined_93 (by decide) ?_
    exact j_iret C dX1_joined_97 rfl (Nat.le_of_ble_eq_true rfl) (Nat.le_of_ble_eq_true rfl)
theorem cC_Law_joined {l : Launch} {G : Gc} (hfl : l.stackTraces = false) (hW : Wok G wC 54)   (x0 : Int32) (x1 : Int32) (x2 : Int32) (S : St) : Ct l yX1_joined (Cond.code yX1_joined cX1_joined 3 (some .int) :: tblG) 1 0 0 G wC 54 [.int x0, .int x1, .int x2] S (fC_Law_joined x0 x1 x2 S) := ct_of (own := RX1) hfl (by decide +kernel) rfl hW (Nat.le_of_ble_eq_true rfl) (fun E hE C => by subst hE; exact bC_Law_joined C   x0 x1 x2 S)
theorem rC_Law_joined {E : Ec} {G : Gc} {nL mc ms : Nat} {own : String} {cc : ByteArray} {L : Nat} {ret : Option FieldType} {k n pc ix : Nat} {loc : List (Nat × Value)} {rest : List Value}  {x0 : Int32} {x1 : Int32} {x2 : Int32} {S : St}  (C : JC E (VC G nL mc ms own) cc L ret) (hd : decode cc pc = .ok (.invokestatic ix, 3)) (hq : Cond.methodLink own ix yX1_joined ∈ tblG) (hL : 1 + 1 ≤ L) (hW : (rest.map fun v => v.category).sum ≤ 8) (hf : k + 0 ≤ mc ∧ n + 0 ≤ ms) : Rn E (VC G nL mc ms own) k n 0 0 pc loc (.int x2 :: .int x1 :: .int x0 :: rest) rest S (fC_Law_joined x0 x1 x2 S) := rn_S (V := VC G nL mc ms own) (As := [.int x0, .int x1, .int x2]) (cC_Law_joined C.flags C.wok  x0 x1 x2 S) knX1_joined q_342  C hd hq hL rfl rfl hW hf

theorem knX1_outcome : Kn yX1_outcome cX1_outcome 4 (some .int) 0 := ⟨q_344, q_161, by decide +kernel, by decide⟩
theorem bC_Law_outcome_4_99 {E : Ec} {G : Gc}   {K4 : Int32 → Int32 → St → Oz} (C : JC E (VC G 4 0 0 RX1) cX1_outcome 2 (some .int))   (hK4 : ∀ (x1 : Int32) (x2 : Int32) (S : St), J E (VC G 4 0 0 RX1) 0 0 4 [(0, .ref (gA G 4)), (1, .int x1), (2, .int x2)] [] S (K4 x1 x2 S)) (x1 : Int32) (x2 : Int32) (s0 : Int32) (s1 : Int32) (S : St) : J E (VC G 4 0 0 RX1) 0 0 99 [(0, .ref (gA G 4)), (1, .int x1), (2, .int x2)] [.int s0, .int s1, .ref (gA G 33)] S (fC_Law_outcome_4_99 K4 x1 x2 s0 s1 S) := by
  unfold fC_Law_outcome_4_99
  refine sC_33 (pc := 99) C dX1_outcome_99 ?_
  refine j_nxS (fun T1 => ?_)
  refine j_iinc (pc := 100) 1 (x1 + 1) [(1, .int (x1 + 1)), (0, .ref (gA G 4)), (2, .int x2)] C dX1_outcome_100 rfl rfl (Nat.le_of_ble_eq_true rfl) rfl ?_
  refine j_iinc (pc := 103) 2 (x2 + 1) [(2, .int (x2 + 1)), (1, .int (x1 + 1)), (0, .ref (gA G 4))] C dX1_outcome_103 rfl rfl (Nat.le_of_ble_eq_true rfl) rfl ?_
  refine j_goto (pc := 106) 4 C dX1_outcome_106 (by decide) ?_
  refine j_sub [2, 1, 0] rfl ?_
  exact hK4 (x1 + 1) (x2 + 1) T1
theorem bC_Law_outcome_4_4 {E : Ec} {G : Gc}    (C : JC E (VC G 4 0 0 RX1) cX1_outcome 2 (some .int))    : ∀ (n : Nat) (x1 : Int32) (x2 : Int32) (S : St), J E (VC G 4 0 0 RX1) 0 0 4 [(0, .ref (gA G 4)), (1, .int x1), (2, .int x2)] [] S (fC_Law_outcome_4_4  n x1 x2 S) := by
  intro n
  induction n with
  | zero => intro x1 x2 S; rw [fC_Law_outcome_4_4]; exact j_none
  | succ n ih =>
    intro x1 x2 S
    rw [fC_Law_outcome_4_4]
    refine j_iload_n (pc := 4) 2 C dX1_outcome_4 rfl rfl ?_
    refine j_aload_n (pc := 5) 0 C dX1_outcome_5 rfl rfl ?_
    refine gC_4_1 (pc := 6) C dX1_outcome_6 q_158 ?_
    refine j_icmp_ge (pc := 9) 109 C dX1_outcome_9 (by decide) ?_ ?_
    ·
      refine j_aload_n (pc := 109) 0 C dX1_outcome_109 rfl rfl ?_
      refine gC_4_3 (pc := 110) C dX1_outcome_110 q_340 ?_
      refine j_iconst (pc := 113) 0 C dX1_outcome_113 (by decide) ?_
      refine acC_33 (pc := 114) C dX1_outcome_114 rfl ?_
      refine j_nxI (fun v1 => ?_)
      refine j_istore_n (pc := 115) [(2, .int v1), (0, .ref (gA G 4)), (1, .int x1)] C dX1_outcome_115 rfl (Nat.le_of_ble_eq_true rfl) rfl ?_
      refine j_iload_n (pc := 116) 0 C dX1_outcome_116 rfl rfl ?_
      refine j_if_ge (pc := 117) 124 C dX1_outcome_117 (by decide) ?_ ?_
      ·
        refine j_iload_n (pc := 124) 0 C dX1_outcome_124 rfl rfl ?_
        refine j_bipush (pc := 125) 20 C dX1_outcome_125 (by decide) ?_
        refine j_icmp_le (pc := 127) 135 C dX1_outcome_127 (by decide) ?_ ?_
        ·
          refine j_iload_n (pc := 135) 0 C dX1_outcome_135 rfl rfl ?_
          exact j_iret C dX1_outcome_136 rfl (Nat.le_of_ble_eq_true rfl) (Nat.le_of_ble_eq_true rfl)
        ·
          refine j_bipush (pc := 130) 20 C dX1_outcome_130 (by decide) ?_
          refine j_goto (pc := 132) 136 C dX1_outcome_132 (by decide) ?_
          exact j_iret C dX1_outcome_136 rfl (Nat.le_of_ble_eq_true rfl) (Nat.le_of_ble_eq_true rfl)
      ·
        refine j_iconst (pc := 120) 0 C dX1_outcome_120 (by decide) ?_
        refine j_goto (pc := 121) 136 C dX1_outcome_121 (by decide) ?_
        exact j_iret C dX1_outcome_136 rfl (Nat.le_of_ble_eq_true rfl) (Nat.le_of_ble_eq_true rfl)
    ·
      refine j_aload_n (pc := 12) 0 C dX1_outcome_12 rfl rfl ?_
      refine gC_4_0 (pc := 13) C dX1_outcome_13 q_159 ?_
      refine j_iload_n (pc := 16) 2 C dX1_outcome_16 rfl rfl ?_
      refine aC_31 (pc := 17) C dX1_outcome_17 ?_
      refine j_nxI (fun v2 => ?_)
      refine j_istore_n (pc := 18) [(3, .int v2), (0, .ref (gA G 4)), (1, .int x1), (2, .int x2)] C dX1_outcome_18 rfl (Nat.le_of_ble_eq_true rfl) rfl ?_
      refine j_iload_n (pc := 19) 0 C dX1_outcome_19 rfl rfl ?_
      refine j_sipush (pc := 20) 2000 C dX1_outcome_20 (by decide) ?_
      refine j_icmp_lt (pc := 23) 65 C dX1_outcome_23 (by decide) ?_ ?_
      ·
        refine j_iload_n (pc := 65) 2 C dX1_outcome_65 rfl rfl ?_
        refine j_bipush (pc := 66) 40 C dX1_outcome_66 (by decide) ?_
        refine j_icmp_lt (pc := 68) 73 C dX1_outcome_68 (by decide) ?_ ?_
        ·
          refine j_aload_n (pc := 73) 1 C dX1_outcome_73 rfl rfl ?_
          refine gC_4_3 (pc := 74) C dX1_outcome_74 q_340 ?_
          refine j_iload_n (pc := 77) 2 C dX1_outcome_77 rfl rfl ?_
          refine j_iload_n (pc := 78) 0 C dX1_outcome_78 rfl rfl ?_
          refine j_sipush (pc := 79) 1000 C dX1_outcome_79 (by decide) ?_
          refine j_icmp_ge (pc := 82) 89 C dX1_outcome_82 (by decide) ?_ ?_
          ·
            refine j_aload_n (pc := 89) 1 C dX1_outcome_89 rfl rfl ?_
            refine gC_4_2 (pc := 90) C dX1_outcome_90 q_327 ?_
            refine j_iload_n (pc := 93) 0 C dX1_outcome_93 rfl rfl ?_
            refine j_sipush (pc := 94) 1000 C dX1_outcome_94 (by decide) ?_
            refine j_isub (pc := 97) C dX1_outcome_97 ?_
            refine aC_32 (pc := 98) C dX1_outcome_98 ?_
            refine j_sub [1, 2, 3] rfl ?_
            exact bC_Law_outcome_4_99 C ih x1 x2 (rA S 32 (v2 - 1000)) x1 S
          ·
            refine j_iload_n (pc := 85) 0 C dX1_outcome_85 rfl rfl ?_
            refine j_goto (pc := 86) 99 C dX1_outcome_86 (by decide) ?_
            refine j_sub [1, 2, 3] rfl ?_
            exact bC_Law_outcome_4_99 C ih x1 x2 v2 x1 S
        ·
          refine j_iconst (pc := 71) 0 C dX1_outcome_71 (by decide) ?_
          exact j_iret C dX1_outcome_72 rfl (Nat.le_of_ble_eq_true rfl) (Nat.le_of_ble_eq_true rfl)
      ·
        refine j_iload_n (pc := 26) 2 C dX1_outcome_26 rfl rfl ?_
        refine j_iconst (pc := 27) 2 C dX1_outcome_27 (by decide) ?_
        refine j_icmp_ge (pc := 28) 33 C dX1_outcome_28 (by decide) ?_ ?_
        ·
          refine j_iinc (pc := 33) 2 (x1 + (-1)) [(1, .int (x1 + (-1))), (3, .int v2), (0, .ref (gA G 4)), (2, .int x2)] C dX1_outcome_33 rfl rfl (Nat.le_of_ble_eq_true rfl) rfl ?_
          refine j_aload_n (pc := 36) 2 C dX1_outcome_36 rfl rfl ?_
          refine gC_4_3 (pc := 37) C dX1_outcome_37 q_340 ?_
          refine j_iload_n (pc := 40) 0 C dX1_outcome_40 rfl rfl ?_
          refine j_iconst (pc := 41) 1 C dX1_outcome_41 (by decide) ?_
          refine j_isub (pc := 42) C dX1_outcome_42 ?_
          refine j_iload_n (pc := 43) 1 C dX1_outcome_43 rfl rfl ?_
          refine j_aload_n (pc := 44) 2 C dX1_outcome_44 rfl rfl ?_
          refine gC_4_3 (pc := 45) C dX1_outcome_45 q_340 ?_
          refine j_iload_n (pc := 48) 0 C dX1_outcome_48 rfl rfl ?_
          refine j_iconst (pc := 49) 1 C dX1_outcome_49 (by decide) ?_
          refine j_isub (pc := 50) C dX1_outcome_50 ?_
          refine aC_33 (pc := 51) C dX1_outcome_51 ?_
          refine j_aload_n (pc := 52) 2 C dX1_outcome_52 rfl rfl ?_
          refine gC_4_3 (pc := 53) C dX1_outcome_53 q_340 ?_
          refine j_iload_n (pc := 56) 0 C dX1_outcome_56 rfl rfl ?_
          refine aC_33 (pc := 57) C dX1_outcome_57 ?_
          refine j_callI0 (pc := 58) C (rC_Law_joined C dX1_outcome_58 q_343 (by omega) (Nat.le_of_ble_eq_true rfl) ⟨Nat.le_of_ble_eq_true rfl, Nat.le_of_ble_eq_true rfl⟩) ⟨Nat.le_of_ble_eq_true rfl, Nat.le_of_ble_eq_true rfl⟩ (fun r4 T3 => ?_)
          refine sC_33 (pc := 61) C dX1_outcome_61 ?_
          refine j_nxS (fun T5 => ?_)
          refine j_goto (pc := 62) 103 C dX1_outcome_62 (by decide) ?_
          refine j_iinc (pc := 103) 3 (x2 + 1) [(2, .int (x2 + 1)), (1, .int (x1 + (-1))), (3, .int v2), (0, .ref (gA G 4))] C dX1_outcome_103 rfl rfl (Nat.le_of_ble_eq_true rfl) rfl ?_
          refine j_goto (pc := 106) 4 C dX1_outcome_106 (by decide) ?_
          refine j_sub [3, 1, 0] rfl ?_
          exact ih (x1 + (-1)) (x2 + 1) T5
        ·
          refine j_iconst (pc := 31) 0 C dX1_outcome_31 (by decide) ?_
          exact j_iret C dX1_outcome_32 rfl (Nat.le_of_ble_eq_true rfl) (Nat.le_of_ble_eq_true rfl)
theorem bC_Law_outcome_4 {E : Ec} {G : Gc}    (C : JC E (VC G 4 0 0 RX1) cX1_outcome 2 (some .int))     (S : St) : J E (VC G 4 0 0 RX1) 0 0 0 [(0, .ref (gA G 4))] [] S (fC_Law_outcome_4   S) := by
  unfold fC_Law_outcome_4
  refine j_iconst (pc := 0) 0 C dX1_outcome_0 (by decide) ?_
  refine j_istore_n (pc := 1) [(1, .int 0), (0, .ref (gA G 4))] C dX1_outcome_1 rfl (Nat.le_of_ble_eq_true rfl) rfl ?_
  refine j_iconst (pc := 2) 0 C dX1_outcome_2 (by decide) ?_
  refine j_istore_n (pc := 3) [(2, .int 0), (1, .int 0), (0, .ref (gA G 4))] C dX1_outcome_3 rfl (Nat.le_of_ble_eq_true rfl) rfl ?_
  refine j_sub [2, 1, 0] rfl ?_
  exact bC_Law_outcome_4_4 C  FU 0 0 S
theorem cC_Law_outcome_4 {l : Launch} {G : Gc} (hfl : l.stackTraces = false) (hW : Wok G wC 54)    (S : St) : Ct l yX1_outcome (Cond.code yX1_outcome cX1_outcome 4 (some .int) :: tblG) 2 0 0 G wC 54 [.ref (gA G 4)] S (fC_Law_outcome_4  S) := ct_of (own := RX1) hfl (by decide +kernel) rfl hW (Nat.le_of_ble_eq_true rfl) (fun E hE C => by subst hE; exact bC_Law_outcome_4 C    S)
theorem rC_Law_outcome_4 {E : Ec} {G : Gc} {nL mc ms : Nat} {own : String} {cc : ByteArray} {L : Nat} {ret : Option FieldType} {k n pc ix : Nat} {loc : List (Nat × Value)} {rest : List Value}   {S : St}  (C : JC E (VC G nL mc ms own) cc L ret) (hd : decode cc pc = .ok (.invokevirtual ix, 3)) (hq : Cond.methodLink own ix yX1_outcome ∈ tblG) (hL : 2 + 1 ≤ L) (hW : (rest.map fun v => v.category).sum ≤ 8) (hf : k + 0 ≤ mc ∧ n + 0 ≤ ms) : Rn E (VC G nL mc ms own) k n 0 0 pc loc (.ref (gA G 4) :: rest) rest S (fC_Law_outcome_4  S) := rn_V (ci := 1) 4 (V := VC G nL mc ms own) (As := []) (Cq := (RX1, TX1, 4)) (cC_Law_outcome_4 C.flags C.wok   S) knX1_outcome ⟨q_345, q_346⟩ rfl rfl C hd hq hL rfl rfl hW hf

theorem knX5_learnable : Kn yX5_learnable cX5_learnable 4 (some .int) 3 := ⟨q_348, q_174, by decide +kernel, by decide⟩
theorem bC_State_learnable_9 {E : Ec} {G : Gc}    (C : JC E (VC G 4 0 0 RX5) cX5_learnable 3 (some .int))    (x1 : Int32) (x2 : Int32) (x3 : Int32) (S : St) : J E (VC G 4 0 0 RX5) 0 0 0 [(0, .ref (gA G 9)), (1, .int x1), (2, .int x2), (3, .int x3)] [] S (fC_State_learnable_9  x1 x2 x3 S) := by
  unfold fC_State_learnable_9
  refine j_aload_n (pc := 0) 0 C dX5_learnable_0 rfl rfl ?_
  refine gC_9_2 (pc := 1) C dX5_learnable_1 q_324 ?_
  refine j_aload_n (pc := 4) 0 C dX5_learnable_4 rfl rfl ?_
  refine gC_9_1 (pc := 5) C dX5_learnable_5 q_301 ?_
  refine gC_2_4 (pc := 8) C dX5_learnable_8 q_325 ?_
  refine j_iload_n (pc := 11) 2 C dX5_learnable_11 rfl rfl ?_
  refine aC_15 (pc := 12) C dX5_learnable_12 ?_
  refine j_aload_n (pc := 13) 0 C dX5_learnable_13 rfl rfl ?_
  refine gC_9_1 (pc := 14) C dX5_learnable_14 q_301 ?_
  refine gC_2_5 (pc := 17) C dX5_learnable_17 q_326 ?_
  refine j_iload_n (pc := 20) 2 C dX5_learnable_20 rfl rfl ?_
  refine aC_16 (pc := 21) C dX5_learnable_21 ?_
  refine j_aload_n (pc := 22) 0 C dX5_learnable_22 rfl rfl ?_
  refine gC_9_0 (pc := 23) C dX5_learnable_23 q_172 ?_
  refine j_iload_n (pc := 26) 1 C dX5_learnable_26 rfl rfl ?_
  refine j_iload_n (pc := 27) 2 C dX5_learnable_27 rfl rfl ?_
  refine j_callI0 (pc := 28) C (rC_State_place C dX5_learnable_28 q_315 (by omega) (Nat.le_of_ble_eq_true rfl) ⟨Nat.le_of_ble_eq_true rfl, Nat.le_of_ble_eq_true rfl⟩) ⟨Nat.le_of_ble_eq_true rfl, Nat.le_of_ble_eq_true rfl⟩ (fun r2 T1 => ?_)
  refine aC_46 (pc := 31) C dX5_learnable_31 ?_
  refine j_callv0 (pc := 32) C (rC_Law_tellPoem_4 C dX5_learnable_32 q_331 (by omega) (Nat.le_of_ble_eq_true rfl) ⟨Nat.le_of_ble_eq_true rfl, Nat.le_of_ble_eq_true rfl⟩) ⟨Nat.le_of_ble_eq_true rfl, Nat.le_of_ble_eq_true rfl⟩ (fun T3 => ?_)
  refine j_aload_n (pc := 35) 0 C dX5_learnable_35 rfl rfl ?_
  refine gC_9_2 (pc := 36) C dX5_learnable_36 q_324 ?_
  refine j_iload_n (pc := 39) 3 C dX5_learnable_39 rfl rfl ?_
  refine j_aload_n (pc := 40) 0 C dX5_learnable_40 rfl rfl ?_
  refine j_iload_n (pc := 41) 1 C dX5_learnable_41 rfl rfl ?_
  refine j_callI0 (pc := 42) C (rC_State_ageOf_9 C dX5_learnable_42 q_335 (by omega) (Nat.le_of_ble_eq_true rfl) ⟨Nat.le_of_ble_eq_true rfl, Nat.le_of_ble_eq_true rfl⟩) ⟨Nat.le_of_ble_eq_true rfl, Nat.le_of_ble_eq_true rfl⟩ (fun r6 T5 => ?_)
  refine j_aload_n (pc := 45) 0 C dX5_learnable_45 rfl rfl ?_
  refine gC_9_0 (pc := 46) C dX5_learnable_46 q_172 ?_
  refine j_bipush (pc := 49) 48 C dX5_learnable_49 (by decide) ?_
  refine j_iload_n (pc := 51) 1 C dX5_learnable_51 rfl rfl ?_
  refine j_iadd (pc := 52) C dX5_learnable_52 ?_
  refine aC_46 (pc := 53) C dX5_learnable_53 ?_
  refine j_aload_n (pc := 54) 0 C dX5_learnable_54 rfl rfl ?_
  refine gC_9_0 (pc := 55) C dX5_learnable_55 q_172 ?_
  refine j_bipush (pc := 58) 73 C dX5_learnable_58 (by decide) ?_
  refine acC_46 (pc := 60) C dX5_learnable_60 rfl ?_
  refine j_iload_n (pc := 61) 1 C dX5_learnable_61 rfl rfl ?_
  refine j_callv0 (pc := 62) C (rC_Law_tellMan_4 C dX5_learnable_62 q_339 (by omega) (Nat.le_of_ble_eq_true rfl) ⟨Nat.le_of_ble_eq_true rfl, Nat.le_of_ble_eq_true rfl⟩) ⟨Nat.le_of_ble_eq_true rfl, Nat.le_of_ble_eq_true rfl⟩ (fun T7 => ?_)
  refine j_aload_n (pc := 65) 0 C dX5_learnable_65 rfl rfl ?_
  refine gC_9_2 (pc := 66) C dX5_learnable_66 q_324 ?_
  refine j_callI0 (pc := 69) C (rC_Law_outcome_4 C dX5_learnable_69 q_347 (by omega) (Nat.le_of_ble_eq_true rfl) ⟨Nat.le_of_ble_eq_true rfl, Nat.le_of_ble_eq_true rfl⟩) ⟨Nat.le_of_ble_eq_true rfl, Nat.le_of_ble_eq_true rfl⟩ (fun r10 T9 => ?_)
  exact j_iret C dX5_learnable_72 rfl (Nat.le_of_ble_eq_true rfl) (Nat.le_of_ble_eq_true rfl)
theorem cC_State_learnable_9 {l : Launch} {G : Gc} (hfl : l.stackTraces = false) (hW : Wok G wC 54)   (x1 : Int32) (x2 : Int32) (x3 : Int32) (S : St) : Ct l yX5_learnable (Cond.code yX5_learnable cX5_learnable 4 (some .int) :: tblG) 3 0 0 G wC 54 [.ref (gA G 9), .int x1, .int x2, .int x3] S (fC_State_learnable_9 x1 x2 x3 S) := ct_of (own := RX5) hfl (by decide +kernel) rfl hW (Nat.le_of_ble_eq_true rfl) (fun E hE C => by subst hE; exact bC_State_learnable_9 C   x1 x2 x3 S)
theorem rC_State_learnable_9 {E : Ec} {G : Gc} {nL mc ms : Nat} {own : String} {cc : ByteArray} {L : Nat} {ret : Option FieldType} {k n pc ix : Nat} {loc : List (Nat × Value)} {rest : List Value}  {x1 : Int32} {x2 : Int32} {x3 : Int32} {S : St}  (C : JC E (VC G nL mc ms own) cc L ret) (hd : decode cc pc = .ok (.invokevirtual ix, 3)) (hq : Cond.methodLink own ix yX5_learnable ∈ tblG) (hL : 3 + 1 ≤ L) (hW : (rest.map fun v => v.category).sum ≤ 8) (hf : k + 0 ≤ mc ∧ n + 0 ≤ ms) : Rn E (VC G nL mc ms own) k n 0 0 pc loc (.int x3 :: .int x2 :: .int x1 :: .ref (gA G 9) :: rest) rest S (fC_State_learnable_9 x1 x2 x3 S) := rn_V (ci := 5) 9 (V := VC G nL mc ms own) (As := [.int x1, .int x2, .int x3]) (Cq := (RX5, TX5, 3)) (cC_State_learnable_9 C.flags C.wok  x1 x2 x3 S) knX5_learnable ⟨q_349, q_350⟩ rfl rfl C hd hq hL rfl rfl hW hf

theorem knX5_gainOf : Kn yX5_gainOf cX5_gainOf 6 (some .int) 2 := ⟨q_352, q_174, by decide +kernel, by decide⟩
theorem bC_State_gainOf_9_49 {E : Ec} {G : Gc}    (C : JC E (VC G 6 0 0 RX5) cX5_gainOf 4 (some .int))    (x5 : Int32) (s0 : Int32) (S : St) : J E (VC G 6 0 0 RX5) 0 0 49 [(5, .int x5)] [.int s0] S (fC_State_gainOf_9_49  x5 s0 S) := by
  unfold fC_State_gainOf_9_49
  refine j_istore (pc := 49) [(4, .int s0), (5, .int x5)] C dX5_gainOf_49 (Nat.le_of_ble_eq_true rfl) rfl ?_
  refine j_iload (pc := 51) 0 C dX5_gainOf_51 rfl ?_
  refine j_iload (pc := 53) 1 C dX5_gainOf_53 rfl ?_
  refine j_icmp_ge (pc := 55) 63 C dX5_gainOf_55 (by decide) ?_ ?_
  ·
    refine j_iload (pc := 63) 1 C dX5_gainOf_63 rfl ?_
    exact j_iret C dX5_gainOf_65 rfl (Nat.le_of_ble_eq_true rfl) (Nat.le_of_ble_eq_true rfl)
  ·
    refine j_iload (pc := 58) 0 C dX5_gainOf_58 rfl ?_
    refine j_goto (pc := 60) 65 C dX5_gainOf_60 (by decide) ?_
    exact j_iret C dX5_gainOf_65 rfl (Nat.le_of_ble_eq_true rfl) (Nat.le_of_ble_eq_true rfl)
theorem bC_State_gainOf_9 {E : Ec} {G : Gc}    (C : JC E (VC G 6 0 0 RX5) cX5_gainOf 4 (some .int))    (x1 : Int32) (x2 : Int32) (S : St) : J E (VC G 6 0 0 RX5) 0 0 0 [(0, .ref (gA G 9)), (1, .int x1), (2, .int x2)] [] S (fC_State_gainOf_9  x1 x2 S) := by
  unfold fC_State_gainOf_9
  refine j_aload_n (pc := 0) 0 C dX5_gainOf_0 rfl rfl ?_
  refine j_iload_n (pc := 1) 1 C dX5_gainOf_1 rfl rfl ?_
  refine j_callI0 (pc := 2) C (rC_State_roomOf_9 C dX5_gainOf_2 q_323 (by omega) (Nat.le_of_ble_eq_true rfl) ⟨Nat.le_of_ble_eq_true rfl, Nat.le_of_ble_eq_true rfl⟩) ⟨Nat.le_of_ble_eq_true rfl, Nat.le_of_ble_eq_true rfl⟩ (fun r2 T1 => ?_)
  refine j_istore_n (pc := 5) [(3, .int r2), (0, .ref (gA G 9)), (1, .int x1), (2, .int x2)] C dX5_gainOf_5 rfl (Nat.le_of_ble_eq_true rfl) rfl ?_
  refine j_aload_n (pc := 6) 1 C dX5_gainOf_6 rfl rfl ?_
  refine j_iload_n (pc := 7) 2 C dX5_gainOf_7 rfl rfl ?_
  refine j_iload_n (pc := 8) 3 C dX5_gainOf_8 rfl rfl ?_
  refine j_iload_n (pc := 9) 0 C dX5_gainOf_9 rfl rfl ?_
  refine j_callI0 (pc := 10) C (rC_State_learnable_9 C dX5_gainOf_10 q_351 (by omega) (Nat.le_of_ble_eq_true rfl) ⟨Nat.le_of_ble_eq_true rfl, Nat.le_of_ble_eq_true rfl⟩) ⟨Nat.le_of_ble_eq_true rfl, Nat.le_of_ble_eq_true rfl⟩ (fun r4 T3 => ?_)
  refine j_istore (pc := 13) [(4, .int r4), (3, .int r2), (0, .ref (gA G 9)), (1, .int x1), (2, .int x2)] C dX5_gainOf_13 (Nat.le_of_ble_eq_true rfl) rfl ?_
  refine j_aload_n (pc := 15) 2 C dX5_gainOf_15 rfl rfl ?_
  refine gC_9_1 (pc := 16) C dX5_gainOf_16 q_301 ?_
  refine gC_2_4 (pc := 19) C dX5_gainOf_19 q_325 ?_
  refine j_iload_n (pc := 22) 4 C dX5_gainOf_22 rfl rfl ?_
  refine aC_15 (pc := 23) C dX5_gainOf_23 ?_
  refine j_aload_n (pc := 24) 2 C dX5_gainOf_24 rfl rfl ?_
  refine gC_9_0 (pc := 25) C dX5_gainOf_25 q_172 ?_
  refine j_iload_n (pc := 28) 3 C dX5_gainOf_28 rfl rfl ?_
  refine j_iload_n (pc := 29) 4 C dX5_gainOf_29 rfl rfl ?_
  refine j_callI0 (pc := 30) C (rC_State_place C dX5_gainOf_30 q_315 (by omega) (Nat.le_of_ble_eq_true rfl) ⟨Nat.le_of_ble_eq_true rfl, Nat.le_of_ble_eq_true rfl⟩) ⟨Nat.le_of_ble_eq_true rfl, Nat.le_of_ble_eq_true rfl⟩ (fun r6 T5 => ?_)
  refine aC_46 (pc := 33) C dX5_gainOf_33 ?_
  refine j_isub (pc := 34) C dX5_gainOf_34 ?_
  refine j_nxI (fun v7 => ?_)
  refine j_istore (pc := 35) [(5, .int v7), (4, .int r4), (3, .int r2), (0, .ref (gA G 9)), (1, .int x1), (2, .int x2)] C dX5_gainOf_35 (Nat.le_of_ble_eq_true rfl) rfl ?_
  refine j_iload (pc := 37) 1 C dX5_gainOf_37 rfl ?_
  refine j_iload_n (pc := 39) 2 C dX5_gainOf_39 rfl rfl ?_
  refine j_icmp_ge (pc := 40) 48 C dX5_gainOf_40 (by decide) ?_ ?_
  ·
    refine j_iload_n (pc := 48) 2 C dX5_gainOf_48 rfl rfl ?_
    refine j_sub [0] rfl ?_
    exact bC_State_gainOf_9_49 C  v7 r2 T5
  ·
    refine j_iload (pc := 43) 1 C dX5_gainOf_43 rfl ?_
    refine j_goto (pc := 45) 49 C dX5_gainOf_45 (by decide) ?_
    refine j_sub [0] rfl ?_
    exact bC_State_gainOf_9_49 C  v7 r4 T5
theorem cC_State_gainOf_9 {l : Launch} {G : Gc} (hfl : l.stackTraces = false) (hW : Wok G wC 54)   (x1 : Int32) (x2 : Int32) (S : St) : Ct l yX5_gainOf (Cond.code yX5_gainOf cX5_gainOf 6 (some .int) :: tblG) 4 0 0 G wC 54 [.ref (gA G 9), .int x1, .int x2] S (fC_State_gainOf_9 x1 x2 S) := ct_of (own := RX5) hfl (by decide +kernel) rfl hW (Nat.le_of_ble_eq_true rfl) (fun E hE C => by subst hE; exact bC_State_gainOf_9 C   x1 x2 S)
theorem rC_State_gainOf_9 {E : Ec} {G : Gc} {nL mc ms : Nat} {own : String} {cc : ByteArray} {L : Nat} {ret : Option FieldType} {k n pc ix : Nat} {loc : List (Nat × Value)} {rest : List Value}  {x1 : Int32} {x2 : Int32} {S : St}  (C : JC E (VC G nL mc ms own) cc L ret) (hd : decode cc pc = .ok (.invokevirtual ix, 3)) (hq : Cond.methodLink own ix yX5_gainOf ∈ tblG) (hL : 4 + 1 ≤ L) (hW : (rest.map fun v => v.category).sum ≤ 8) (hf : k + 0 ≤ mc ∧ n + 0 ≤ ms) : Rn E (VC G nL mc ms own) k n 0 0 pc loc (.int x2 :: .int x1 :: .ref (gA G 9) :: rest) rest S (fC_State_gainOf_9 x1 x2 S) := rn_V (ci := 5) 9 (V := VC G nL mc ms own) (As := [.int x1, .int x2]) (Cq := (RX5, TX5, 3)) (cC_State_gainOf_9 C.flags C.wok  x1 x2 S) knX5_gainOf ⟨q_353, q_354⟩ rfl rfl C hd hq hL rfl rfl hW hf

theorem knX5_teach : Kn yX5_teach cX5_teach 4 (some .boolean) 2 := ⟨q_356, q_174, by decide +kernel, by decide⟩
theorem bC_State_teach_9 {E : Ec} {G : Gc}    (C : JC E (VC G 4 0 0 RX5) cX5_teach 5 (some .boolean))    (x1 : Int32) (x2 : Int32) (S : St) : J E (VC G 4 0 0 RX5) 0 0 0 [(0, .ref (gA G 9)), (1, .int x1), (2, .int x2)] [] S (fC_State_teach_9  x1 x2 S) := by
  unfold fC_State_teach_9
  refine j_aload_n (pc := 0) 0 C dX5_teach_0 rfl rfl ?_
  refine j_iload_n (pc := 1) 1 C dX5_teach_1 rfl rfl ?_
  refine j_iload_n (pc := 2) 2 C dX5_teach_2 rfl rfl ?_
  refine j_callI0 (pc := 3) C (rC_State_gainOf_9 C dX5_teach_3 q_355 (by omega) (Nat.le_of_ble_eq_true rfl) ⟨Nat.le_of_ble_eq_true rfl, Nat.le_of_ble_eq_true rfl⟩) ⟨Nat.le_of_ble_eq_true rfl, Nat.le_of_ble_eq_true rfl⟩ (fun r2 T1 => ?_)
  refine j_istore_n (pc := 6) [(3, .int r2), (0, .ref (gA G 9)), (1, .int x1), (2, .int x2)] C dX5_teach_6 rfl (Nat.le_of_ble_eq_true rfl) rfl ?_
  refine j_iload_n (pc := 7) 0 C dX5_teach_7 rfl rfl ?_
  refine j_if_gt (pc := 8) 13 C dX5_teach_8 (by decide) ?_ ?_
  ·
    refine j_aload_n (pc := 13) 1 C dX5_teach_13 rfl rfl ?_
    refine gC_9_0 (pc := 14) C dX5_teach_14 q_172 ?_
    refine j_iload_n (pc := 17) 2 C dX5_teach_17 rfl rfl ?_
    refine j_iload_n (pc := 18) 3 C dX5_teach_18 rfl rfl ?_
    refine j_callI0 (pc := 19) C (rC_State_place C dX5_teach_19 q_315 (by omega) (Nat.le_of_ble_eq_true rfl) ⟨Nat.le_of_ble_eq_true rfl, Nat.le_of_ble_eq_true rfl⟩) ⟨Nat.le_of_ble_eq_true rfl, Nat.le_of_ble_eq_true rfl⟩ (fun r4 T3 => ?_)
    refine j_dup2 (pc := 22) C dX5_teach_22 rfl rfl ?_
    refine aC_46 (pc := 23) C dX5_teach_23 ?_
    refine j_iload_n (pc := 24) 0 C dX5_teach_24 rfl rfl ?_
    refine j_iadd (pc := 25) C dX5_teach_25 ?_
    refine sC_46 (pc := 26) C dX5_teach_26 ?_
    refine j_nxS (fun T5 => ?_)
    refine j_aload_n (pc := 27) 1 C dX5_teach_27 rfl rfl ?_
    refine gC_9_0 (pc := 28) C dX5_teach_28 q_172 ?_
    refine j_bipush (pc := 31) 48 C dX5_teach_31 (by decide) ?_
    refine j_iload_n (pc := 33) 2 C dX5_teach_33 rfl rfl ?_
    refine j_iadd (pc := 34) C dX5_teach_34 ?_
    refine j_dup2 (pc := 35) C dX5_teach_35 rfl rfl ?_
    refine aC_46 (pc := 36) C dX5_teach_36 ?_
    refine j_iconst (pc := 37) 1 C dX5_teach_37 (by decide) ?_
    refine j_iadd (pc := 38) C dX5_teach_38 ?_
    refine sC_46 (pc := 39) C dX5_teach_39 ?_
    refine j_nxS (fun T6 => ?_)
    refine j_aload_n (pc := 40) 1 C dX5_teach_40 rfl rfl ?_
    refine gC_9_0 (pc := 41) C dX5_teach_41 q_172 ?_
    refine j_bipush (pc := 44) 54 C dX5_teach_44 (by decide) ?_
    refine j_iload_n (pc := 46) 2 C dX5_teach_46 rfl rfl ?_
    refine j_iadd (pc := 47) C dX5_teach_47 ?_
    refine j_dup2 (pc := 48) C dX5_teach_48 rfl rfl ?_
    refine aC_46 (pc := 49) C dX5_teach_49 ?_
    refine j_iconst (pc := 50) 1 C dX5_teach_50 (by decide) ?_
    refine j_iadd (pc := 51) C dX5_teach_51 ?_
    refine sC_46 (pc := 52) C dX5_teach_52 ?_
    refine j_nxS (fun T7 => ?_)
    refine j_aload_n (pc := 53) 1 C dX5_teach_53 rfl rfl ?_
    refine gC_9_0 (pc := 54) C dX5_teach_54 q_172 ?_
    refine j_bipush (pc := 57) 66 C dX5_teach_57 (by decide) ?_
    refine j_iload_n (pc := 59) 2 C dX5_teach_59 rfl rfl ?_
    refine j_iadd (pc := 60) C dX5_teach_60 ?_
    refine j_dup2 (pc := 61) C dX5_teach_61 rfl rfl ?_
    refine aC_46 (pc := 62) C dX5_teach_62 ?_
    refine j_iconst (pc := 63) 1 C dX5_teach_63 (by decide) ?_
    refine j_iload_n (pc := 64) 3 C dX5_teach_64 rfl rfl ?_
    refine j_ishl (pc := 65) C dX5_teach_65 ?_
    refine j_ior (pc := 66) C dX5_teach_66 ?_
    refine sC_46 (pc := 67) C dX5_teach_67 ?_
    refine j_nxS (fun T8 => ?_)
    refine j_iconst (pc := 68) 1 C dX5_teach_68 (by decide) ?_
    exact j_zretc C dX5_teach_69 rfl (Nat.le_of_ble_eq_true rfl) (Nat.le_of_ble_eq_true rfl) rfl
  ·
    refine j_iconst (pc := 11) 0 C dX5_teach_11 (by decide) ?_
    exact j_zretc C dX5_teach_12 rfl (Nat.le_of_ble_eq_true rfl) (Nat.le_of_ble_eq_true rfl) rfl
theorem cC_State_teach_9 {l : Launch} {G : Gc} (hfl : l.stackTraces = false) (hW : Wok G wC 54)   (x1 : Int32) (x2 : Int32) (S : St) : Ct l yX5_teach (Cond.code yX5_teach cX5_teach 4 (some .boolean) :: tblG) 5 0 0 G wC 54 [.ref (gA G 9), .int x1, .int x2] S (fC_State_teach_9 x1 x2 S) := ct_of (own := RX5) hfl (by decide +kernel) rfl hW (Nat.le_of_ble_eq_true rfl) (fun E hE C => by subst hE; exact bC_State_teach_9 C   x1 x2 S)
theorem rC_State_teach_9 {E : Ec} {G : Gc} {nL mc ms : Nat} {own : String} {cc : ByteArray} {L : Nat} {ret : Option FieldType} {k n pc ix : Nat} {loc : List (Nat × Value)} {rest : List Value}  {x1 : Int32} {x2 : Int32} {S : St}  (C : JC E (VC G nL mc ms own) cc L ret) (hd : decode cc pc = .ok (.invokevirtual ix, 3)) (hq : Cond.methodLink own ix yX5_teach ∈ tblG) (hL : 5 + 1 ≤ L) (hW : (rest.map fun v => v.category).sum ≤ 8) (hf : k + 0 ≤ mc ∧ n + 0 ≤ ms) : Rn E (VC G nL mc ms own) k n 0 0 pc loc (.int x2 :: .int x1 :: .ref (gA G 9) :: rest) rest S (fC_State_teach_9 x1 x2 S) := rn_V (ci := 5) 9 (V := VC G nL mc ms own) (As := [.int x1, .int x2]) (Cq := (RX5, TX5, 3)) (cC_State_teach_9 C.flags C.wok  x1 x2 S) knX5_teach ⟨q_357, q_358⟩ rfl rfl C hd hq hL rfl rfl hW hf

theorem knX5_letGo : Kn yX5_letGo cX5_letGo 3 (some .boolean) 2 := ⟨q_360, q_174, by decide +kernel, by decide⟩
theorem bC_State_letGo_9 {E : Ec} {G : Gc}    (C : JC E (VC G 3 0 0 RX5) cX5_letGo 2 (some .boolean))    (x1 : Int32) (x2 : Int32) (S : St) : J E (VC G 3 0 0 RX5) 0 0 0 [(0, .ref (gA G 9)), (1, .int x1), (2, .int x2)] [] S (fC_State_letGo_9  x1 x2 S) := by
  unfold fC_State_letGo_9
  refine j_aload_n (pc := 0) 0 C dX5_letGo_0 rfl rfl ?_
  refine gC_9_0 (pc := 1) C dX5_letGo_1 q_172 ?_
  refine j_iload_n (pc := 4) 1 C dX5_letGo_4 rfl rfl ?_
  refine j_iload_n (pc := 5) 2 C dX5_letGo_5 rfl rfl ?_
  refine j_callI0 (pc := 6) C (rC_State_place C dX5_letGo_6 q_315 (by omega) (Nat.le_of_ble_eq_true rfl) ⟨Nat.le_of_ble_eq_true rfl, Nat.le_of_ble_eq_true rfl⟩) ⟨Nat.le_of_ble_eq_true rfl, Nat.le_of_ble_eq_true rfl⟩ (fun r2 T1 => ?_)
  refine aC_46 (pc := 9) C dX5_letGo_9 ?_
  refine j_if_ne (pc := 10) 15 C dX5_letGo_10 (by decide) ?_ ?_
  ·
    refine j_aload_n (pc := 15) 0 C dX5_letGo_15 rfl rfl ?_
    refine gC_9_0 (pc := 16) C dX5_letGo_16 q_172 ?_
    refine j_iload_n (pc := 19) 1 C dX5_letGo_19 rfl rfl ?_
    refine j_iload_n (pc := 20) 2 C dX5_letGo_20 rfl rfl ?_
    refine j_callI0 (pc := 21) C (rC_State_place C dX5_letGo_21 q_315 (by omega) (Nat.le_of_ble_eq_true rfl) ⟨Nat.le_of_ble_eq_true rfl, Nat.le_of_ble_eq_true rfl⟩) ⟨Nat.le_of_ble_eq_true rfl, Nat.le_of_ble_eq_true rfl⟩ (fun r4 T3 => ?_)
    refine j_iconst (pc := 24) 0 C dX5_letGo_24 (by decide) ?_
    refine sC_46 (pc := 25) C dX5_letGo_25 ?_
    refine j_nxS (fun T5 => ?_)
    refine j_iconst (pc := 26) 1 C dX5_letGo_26 (by decide) ?_
    exact j_zretc C dX5_letGo_27 rfl (Nat.le_of_ble_eq_true rfl) (Nat.le_of_ble_eq_true rfl) rfl
  ·
    refine j_iconst (pc := 13) 0 C dX5_letGo_13 (by decide) ?_
    exact j_zretc C dX5_letGo_14 rfl (Nat.le_of_ble_eq_true rfl) (Nat.le_of_ble_eq_true rfl) rfl
theorem cC_State_letGo_9 {l : Launch} {G : Gc} (hfl : l.stackTraces = false) (hW : Wok G wC 54)   (x1 : Int32) (x2 : Int32) (S : St) : Ct l yX5_letGo (Cond.code yX5_letGo cX5_letGo 3 (some .boolean) :: tblG) 2 0 0 G wC 54 [.ref (gA G 9), .int x1, .int x2] S (fC_State_letGo_9 x1 x2 S) := ct_of (own := RX5) hfl (by decide +kernel) rfl hW (Nat.le_of_ble_eq_true rfl) (fun E hE C => by subst hE; exact bC_State_letGo_9 C   x1 x2 S)
theorem rC_State_letGo_9 {E : Ec} {G : Gc} {nL mc ms : Nat} {own : String} {cc : ByteArray} {L : Nat} {ret : Option FieldType} {k n pc ix : Nat} {loc : List (Nat × Value)} {rest : List Value}  {x1 : Int32} {x2 : Int32} {S : St}  (C : JC E (VC G nL mc ms own) cc L ret) (hd : decode cc pc = .ok (.invokevirtual ix, 3)) (hq : Cond.methodLink own ix yX5_letGo ∈ tblG) (hL : 2 + 1 ≤ L) (hW : (rest.map fun v => v.category).sum ≤ 8) (hf : k + 0 ≤ mc ∧ n + 0 ≤ ms) : Rn E (VC G nL mc ms own) k n 0 0 pc loc (.int x2 :: .int x1 :: .ref (gA G 9) :: rest) rest S (fC_State_letGo_9 x1 x2 S) := rn_V (ci := 5) 9 (V := VC G nL mc ms own) (As := [.int x1, .int x2]) (Cq := (RX5, TX5, 3)) (cC_State_letGo_9 C.flags C.wok  x1 x2 S) knX5_letGo ⟨q_361, q_362⟩ rfl rfl C hd hq hL rfl rfl hW hf

theorem knX5_isPaid : Kn yX5_isPaid cX5_isPaid 2 (some .boolean) 1 := ⟨q_364, q_174, by decide +kernel, by decide⟩
theorem bC_State_isPaid_9 {E : Ec} {G : Gc}    (C : JC E (VC G 2 0 0 RX5) cX5_isPaid 1 (some .boolean))    (x1 : Int32) (S : St) : J E (VC G 2 0 0 RX5) 0 0 0 [(0, .ref (gA G 9)), (1, .int x1)] [] S (fC_State_isPaid_9  x1 S) := by
  unfold fC_State_isPaid_9
  refine j_aload_n (pc := 0) 0 C dX5_isPaid_0 rfl rfl ?_
  refine gC_9_0 (pc := 1) C dX5_isPaid_1 q_172 ?_
  refine j_bipush (pc := 4) 72 C dX5_isPaid_4 (by decide) ?_
  refine acC_46 (pc := 6) C dX5_isPaid_6 rfl ?_
  refine j_iload_n (pc := 7) 1 C dX5_isPaid_7 rfl rfl ?_
  refine j_ishr (pc := 8) C dX5_isPaid_8 ?_
  refine j_iconst (pc := 9) 1 C dX5_isPaid_9 (by decide) ?_
  refine j_iand (pc := 10) C dX5_isPaid_10 ?_
  refine j_iconst (pc := 11) 1 C dX5_isPaid_11 (by decide) ?_
  refine j_icmp_ne (pc := 12) 19 C dX5_isPaid_12 (by decide) ?_ ?_
  ·
    refine j_iconst (pc := 19) 0 C dX5_isPaid_19 (by decide) ?_
    exact j_zretc C dX5_isPaid_20 rfl (Nat.le_of_ble_eq_true rfl) (Nat.le_of_ble_eq_true rfl) rfl
  ·
    refine j_iconst (pc := 15) 1 C dX5_isPaid_15 (by decide) ?_
    refine j_goto (pc := 16) 20 C dX5_isPaid_16 (by decide) ?_
    exact j_zretc C dX5_isPaid_20 rfl (Nat.le_of_ble_eq_true rfl) (Nat.le_of_ble_eq_true rfl) rfl
theorem cC_State_isPaid_9 {l : Launch} {G : Gc} (hfl : l.stackTraces = false) (hW : Wok G wC 54)   (x1 : Int32) (S : St) : Ct l yX5_isPaid (Cond.code yX5_isPaid cX5_isPaid 2 (some .boolean) :: tblG) 1 0 0 G wC 54 [.ref (gA G 9), .int x1] S (fC_State_isPaid_9 x1 S) := ct_of (own := RX5) hfl (by decide +kernel) rfl hW (Nat.le_of_ble_eq_true rfl) (fun E hE C => by subst hE; exact bC_State_isPaid_9 C   x1 S)
theorem rC_State_isPaid_9 {E : Ec} {G : Gc} {nL mc ms : Nat} {own : String} {cc : ByteArray} {L : Nat} {ret : Option FieldType} {k n pc ix : Nat} {loc : List (Nat × Value)} {rest : List Value}  {x1 : Int32} {S : St}  (C : JC E (VC G nL mc ms own) cc L ret) (hd : decode cc pc = .ok (.invokevirtual ix, 3)) (hq : Cond.methodLink own ix yX5_isPaid ∈ tblG) (hL : 1 + 1 ≤ L) (hW : (rest.map fun v => v.category).sum ≤ 8) (hf : k + 0 ≤ mc ∧ n + 0 ≤ ms) : Rn E (VC G nL mc ms own) k n 0 0 pc loc (.int x1 :: .ref (gA G 9) :: rest) rest S (fC_State_isPaid_9 x1 S) := rn_V (ci := 5) 9 (V := VC G nL mc ms own) (As := [.int x1]) (Cq := (RX5, TX5, 3)) (cC_State_isPaid_9 C.flags C.wok  x1 S) knX5_isPaid ⟨q_365, q_366⟩ rfl rfl C hd hq hL rfl rfl hW hf

theorem knX5_isWellKnown : Kn yX5_isWellKnown cX5_isWellKnown 7 (some .boolean) 1 := ⟨q_371, q_174, by decide +kernel, by decide⟩
theorem bC_State_isWellKnown_9_65 {E : Ec} {G : Gc}    (C : JC E (VC G 7 0 0 RX5) cX5_isWellKnown 2 (some .boolean))    (x1 : Int32) (x2 : Int32) (x4 : Int32) (x5 : Int32) (s0 : Int32) (S : St) : J E (VC G 7 0 0 RX5) 0 0 65 [(0, .ref (gA G 9)), (1, .int x1), (2, .int x2), (4, .int x4), (5, .int x5)] [.int s0] S (fC_State_isWellKnown_9_65  x1 x2 x4 x5 s0 S) := by
  unfold fC_State_isWellKnown_9_65
  refine j_istore (pc := 65) [(6, .int s0), (0, .ref (gA G 9)), (1, .int x1), (2, .int x2), (4, .int x4), (5, .int x5)] C dX5_isWellKnown_65 (Nat.le_of_ble_eq_true rfl) rfl ?_
  refine j_aload_n (pc := 67) 1 C dX5_isWellKnown_67 rfl rfl ?_
  refine gC_9_1 (pc := 68) C dX5_isWellKnown_68 q_301 ?_
  refine gC_2_10 (pc := 71) C dX5_isWellKnown_71 q_370 ?_
  refine j_iload_n (pc := 74) 2 C dX5_isWellKnown_74 rfl rfl ?_
  refine aC_21 (pc := 75) C dX5_isWellKnown_75 ?_
  refine j_nxI (fun v1 => ?_)
  refine j_lswC (pc := 76) (off := 28) 104 0 C dX5_isWellKnown_76 (by decide) (by decide) (by decide) ?_ (fun h76_0 => ?_)
  ·
    refine j_iload (pc := 104) 4 C dX5_isWellKnown_104 rfl ?_
    refine j_iload (pc := 106) 5 C dX5_isWellKnown_106 rfl ?_
    refine j_icmp_lt (pc := 108) 115 C dX5_isWellKnown_108 (by decide) ?_ ?_
    ·
      refine j_iconst (pc := 115) 0 C dX5_isWellKnown_115 (by decide) ?_
      exact j_zretc C dX5_isWellKnown_116 rfl (Nat.le_of_ble_eq_true rfl) (Nat.le_of_ble_eq_true rfl) rfl
    ·
      refine j_iconst (pc := 111) 1 C dX5_isWellKnown_111 (by decide) ?_
      refine j_goto (pc := 112) 116 C dX5_isWellKnown_112 (by decide) ?_
      exact j_zretc C dX5_isWellKnown_116 rfl (Nat.le_of_ble_eq_true rfl) (Nat.le_of_ble_eq_true rfl) rfl
  refine j_lswC (pc := 76) (off := 41) 117 2 C dX5_isWellKnown_76 (by decide) (by decide) (by decide) ?_ (fun h76_2 => ?_)
  ·
    refine j_iload (pc := 117) 4 C dX5_isWellKnown_117 rfl ?_
    refine j_iload (pc := 119) 5 C dX5_isWellKnown_119 rfl ?_
    refine j_icmp_lt (pc := 121) 140 C dX5_isWellKnown_121 (by decide) ?_ ?_
    ·
      refine j_iconst (pc := 140) 0 C dX5_isWellKnown_140 (by decide) ?_
      exact j_zretc C dX5_isWellKnown_141 rfl (Nat.le_of_ble_eq_true rfl) (Nat.le_of_ble_eq_true rfl) rfl
    ·
      refine j_aload_n (pc := 124) 1 C dX5_isWellKnown_124 rfl rfl ?_
      refine gC_9_0 (pc := 125) C dX5_isWellKnown_125 q_172 ?_
      refine j_bipush (pc := 128) 54 C dX5_isWellKnown_128 (by decide) ?_
      refine j_iload_n (pc := 130) 3 C dX5_isWellKnown_130 rfl rfl ?_
      refine j_iadd (pc := 131) C dX5_isWellKnown_131 ?_
      refine aC_46 (pc := 132) C dX5_isWellKnown_132 ?_
      refine j_if_le (pc := 133) 140 C dX5_isWellKnown_133 (by decide) ?_ ?_
      ·
        refine j_iconst (pc := 140) 0 C dX5_isWellKnown_140 (by decide) ?_
        exact j_zretc C dX5_isWellKnown_141 rfl (Nat.le_of_ble_eq_true rfl) (Nat.le_of_ble_eq_true rfl) rfl
      ·
        refine j_iconst (pc := 136) 1 C dX5_isWellKnown_136 (by decide) ?_
        refine j_goto (pc := 137) 141 C dX5_isWellKnown_137 (by decide) ?_
        exact j_zretc C dX5_isWellKnown_141 rfl (Nat.le_of_ble_eq_true rfl) (Nat.le_of_ble_eq_true rfl) rfl
  refine j_lswD (pc := 76) 142 C dX5_isWellKnown_76 (by decide) (by have g0 := ne_i (z := 0) h76_0 (by decide); have g2 := ne_i (z := 2) h76_2 (by decide); simp [Op.lookupswitch.offset, g0, Ne.symm g0, g2, Ne.symm g2]) (by decide) ?_
  refine j_iload (pc := 142) 4 C dX5_isWellKnown_142 rfl ?_
  refine j_iload (pc := 144) 0 C dX5_isWellKnown_144 rfl ?_
  refine j_icmp_lt (pc := 146) 153 C dX5_isWellKnown_146 (by decide) ?_ ?_
  ·
    refine j_iconst (pc := 153) 0 C dX5_isWellKnown_153 (by decide) ?_
    exact j_zretc C dX5_isWellKnown_154 rfl (Nat.le_of_ble_eq_true rfl) (Nat.le_of_ble_eq_true rfl) rfl
  ·
    refine j_iconst (pc := 149) 1 C dX5_isWellKnown_149 (by decide) ?_
    refine j_goto (pc := 150) 154 C dX5_isWellKnown_150 (by decide) ?_
    exact j_zretc C dX5_isWellKnown_154 rfl (Nat.le_of_ble_eq_true rfl) (Nat.le_of_ble_eq_true rfl) rfl
theorem bC_State_isWellKnown_9 {E : Ec} {G : Gc}    (C : JC E (VC G 7 0 0 RX5) cX5_isWellKnown 2 (some .boolean))    (x1 : Int32) (S : St) : J E (VC G 7 0 0 RX5) 0 0 0 [(0, .ref (gA G 9)), (1, .int x1)] [] S (fC_State_isWellKnown_9  x1 S) := by
  unfold fC_State_isWellKnown_9
  refine j_aload_n (pc := 0) 0 C dX5_isWellKnown_0 rfl rfl ?_
  refine gC_9_1 (pc := 1) C dX5_isWellKnown_1 q_301 ?_
  refine gC_2_8 (pc := 4) C dX5_isWellKnown_4 q_368 ?_
  refine j_iload_n (pc := 7) 1 C dX5_isWellKnown_7 rfl rfl ?_
  refine aC_19 (pc := 8) C dX5_isWellKnown_8 ?_
  refine j_nxI (fun v1 => ?_)
  refine j_istore_n (pc := 9) [(2, .int v1), (0, .ref (gA G 9)), (1, .int x1)] C dX5_isWellKnown_9 rfl (Nat.le_of_ble_eq_true rfl) rfl ?_
  refine j_aload_n (pc := 10) 1 C dX5_isWellKnown_10 rfl rfl ?_
  refine gC_9_1 (pc := 11) C dX5_isWellKnown_11 q_301 ?_
  refine gC_2_9 (pc := 14) C dX5_isWellKnown_14 q_369 ?_
  refine j_iload_n (pc := 17) 2 C dX5_isWellKnown_17 rfl rfl ?_
  refine aC_20 (pc := 18) C dX5_isWellKnown_18 ?_
  refine j_nxI (fun v2 => ?_)
  refine j_istore_n (pc := 19) [(3, .int v2), (2, .int v1), (0, .ref (gA G 9)), (1, .int x1)] C dX5_isWellKnown_19 rfl (Nat.le_of_ble_eq_true rfl) rfl ?_
  refine j_aload_n (pc := 20) 2 C dX5_isWellKnown_20 rfl rfl ?_
  refine gC_9_0 (pc := 21) C dX5_isWellKnown_21 q_172 ?_
  refine j_iload_n (pc := 24) 1 C dX5_isWellKnown_24 rfl rfl ?_
  refine j_iload_n (pc := 25) 0 C dX5_isWellKnown_25 rfl rfl ?_
  refine j_callI0 (pc := 26) C (rC_State_place C dX5_isWellKnown_26 q_315 (by omega) (Nat.le_of_ble_eq_true rfl) ⟨Nat.le_of_ble_eq_true rfl, Nat.le_of_ble_eq_true rfl⟩) ⟨Nat.le_of_ble_eq_true rfl, Nat.le_of_ble_eq_true rfl⟩ (fun r4 T3 => ?_)
  refine aC_46 (pc := 29) C dX5_isWellKnown_29 ?_
  refine j_nxI (fun v5 => ?_)
  refine j_istore (pc := 30) [(4, .int v5), (3, .int v2), (2, .int v1), (0, .ref (gA G 9)), (1, .int x1)] C dX5_isWellKnown_30 (Nat.le_of_ble_eq_true rfl) rfl ?_
  refine j_aload_n (pc := 32) 3 C dX5_isWellKnown_32 rfl rfl ?_
  refine gC_9_1 (pc := 33) C dX5_isWellKnown_33 q_301 ?_
  refine gC_2_4 (pc := 36) C dX5_isWellKnown_36 q_325 ?_
  refine j_iload_n (pc := 39) 1 C dX5_isWellKnown_39 rfl rfl ?_
  refine aC_15 (pc := 40) C dX5_isWellKnown_40 ?_
  refine j_nxI (fun v6 => ?_)
  refine j_istore (pc := 41) [(5, .int v6), (4, .int v5), (3, .int v2), (2, .int v1), (0, .ref (gA G 9)), (1, .int x1)] C dX5_isWellKnown_41 (Nat.le_of_ble_eq_true rfl) rfl ?_
  refine j_iload (pc := 43) 0 C dX5_isWellKnown_43 rfl ?_
  refine j_iconst (pc := 45) 2 C dX5_isWellKnown_45 (by decide) ?_
  refine j_idivc (pc := 46) C dX5_isWellKnown_46 rfl ?_
  refine j_iconst (pc := 47) 1 C dX5_isWellKnown_47 (by decide) ?_
  refine j_iadd (pc := 48) C dX5_isWellKnown_48 ?_
  refine j_iload (pc := 49) 0 C dX5_isWellKnown_49 rfl ?_
  refine j_icmp_ge (pc := 51) 63 C dX5_isWellKnown_51 (by decide) ?_ ?_
  ·
    refine j_iload (pc := 63) 0 C dX5_isWellKnown_63 rfl ?_
    refine j_sub [4, 5, 3, 1, 0] rfl ?_
    exact bC_State_isWellKnown_9_65 C  x1 v1 v5 v6 v6 T3
  ·
    refine j_iload (pc := 54) 0 C dX5_isWellKnown_54 rfl ?_
    refine j_iconst (pc := 56) 2 C dX5_isWellKnown_56 (by decide) ?_
    refine j_idivc (pc := 57) C dX5_isWellKnown_57 rfl ?_
    refine j_iconst (pc := 58) 1 C dX5_isWellKnown_58 (by decide) ?_
    refine j_iadd (pc := 59) C dX5_isWellKnown_59 ?_
    refine j_goto (pc := 60) 65 C dX5_isWellKnown_60 (by decide) ?_
    refine j_sub [4, 5, 3, 1, 0] rfl ?_
    exact bC_State_isWellKnown_9_65 C  x1 v1 v5 v6 ((v6 / 2) + 1) T3
theorem cC_State_isWellKnown_9 {l : Launch} {G : Gc} (hfl : l.stackTraces = false) (hW : Wok G wC 54)   (x1 : Int32) (S : St) : Ct l yX5_isWellKnown (Cond.code yX5_isWellKnown cX5_isWellKnown 7 (some .boolean) :: tblG) 2 0 0 G wC 54 [.ref (gA G 9), .int x1] S (fC_State_isWellKnown_9 x1 S) := ct_of (own := RX5) hfl (by decide +kernel) rfl hW (Nat.le_of_ble_eq_true rfl) (fun E hE C => by subst hE; exact bC_State_isWellKnown_9 C   x1 S)
theorem rC_State_isWellKnown_9 {E : Ec} {G : Gc} {nL mc ms : Nat} {own : String} {cc : ByteArray} {L : Nat} {ret : Option FieldType} {k n pc ix : Nat} {loc : List (Nat × Value)} {rest : List Value}  {x1 : Int32} {S : St}  (C : JC E (VC G nL mc ms own) cc L ret) (hd : decode cc pc = .ok (.invokevirtual ix, 3)) (hq : Cond.methodLink own ix yX5_isWellKnown ∈ tblG) (hL : 2 + 1 ≤ L) (hW : (rest.map fun v => v.category).sum ≤ 8) (hf : k + 0 ≤ mc ∧ n + 0 ≤ ms) : Rn E (VC G nL mc ms own) k n 0 0 pc loc (.int x1 :: .ref (gA G 9) :: rest) rest S (fC_State_isWellKnown_9 x1 S) := rn_V (ci := 5) 9 (V := VC G nL mc ms own) (As := [.int x1]) (Cq := (RX5, TX5, 3)) (cC_State_isWellKnown_9 C.flags C.wok  x1 S) knX5_isWellKnown ⟨q_372, q_373⟩ rfl rfl C hd hq hL rfl rfl hW hf

theorem knX5_lose : Kn yX5_lose cX5_lose 5 none 3 := ⟨q_375, q_174, by decide +kernel, by decide⟩
theorem bC_State_lose_9_34 {E : Ec} {G : Gc}    (C : JC E (VC G 5 0 0 RX5) cX5_lose 2 none)    (s0 : Int32) (s1 : Int32) (S : St) : J E (VC G 5 0 0 RX5) 0 0 34 [] [.int s0, .int s1, .ref (gA G 46)] S (fC_State_lose_9_34  s0 s1 S) := by
  unfold fC_State_lose_9_34
  refine sC_46 (pc := 34) C dX5_lose_34 ?_
  refine j_nxS (fun T1 => ?_)
  exact j_vret C dX5_lose_35 rfl (Nat.le_of_ble_eq_true rfl) (Nat.le_of_ble_eq_true rfl)
theorem bC_State_lose_9 {E : Ec} {G : Gc}    (C : JC E (VC G 5 0 0 RX5) cX5_lose 2 none)    (x1 : Int32) (x2 : Int32) (x3 : Int32) (S : St) : J E (VC G 5 0 0 RX5) 0 0 0 [(0, .ref (gA G 9)), (1, .int x1), (2, .int x2), (3, .int x3)] [] S (fC_State_lose_9  x1 x2 x3 S) := by
  unfold fC_State_lose_9
  refine j_aload_n (pc := 0) 0 C dX5_lose_0 rfl rfl ?_
  refine gC_9_0 (pc := 1) C dX5_lose_1 q_172 ?_
  refine j_iload_n (pc := 4) 1 C dX5_lose_4 rfl rfl ?_
  refine j_iload_n (pc := 5) 2 C dX5_lose_5 rfl rfl ?_
  refine j_callI0 (pc := 6) C (rC_State_place C dX5_lose_6 q_315 (by omega) (Nat.le_of_ble_eq_true rfl) ⟨Nat.le_of_ble_eq_true rfl, Nat.le_of_ble_eq_true rfl⟩) ⟨Nat.le_of_ble_eq_true rfl, Nat.le_of_ble_eq_true rfl⟩ (fun r2 T1 => ?_)
  refine aC_46 (pc := 9) C dX5_lose_9 ?_
  refine j_iload_n (pc := 10) 3 C dX5_lose_10 rfl rfl ?_
  refine j_isub (pc := 11) C dX5_lose_11 ?_
  refine j_nxI (fun v3 => ?_)
  refine j_istore (pc := 12) [(4, .int v3), (0, .ref (gA G 9)), (1, .int x1), (2, .int x2), (3, .int x3)] C dX5_lose_12 (Nat.le_of_ble_eq_true rfl) rfl ?_
  refine j_aload_n (pc := 14) 1 C dX5_lose_14 rfl rfl ?_
  refine gC_9_0 (pc := 15) C dX5_lose_15 q_172 ?_
  refine j_iload_n (pc := 18) 2 C dX5_lose_18 rfl rfl ?_
  refine j_iload_n (pc := 19) 3 C dX5_lose_19 rfl rfl ?_
  refine j_callI0 (pc := 20) C (rC_State_place C dX5_lose_20 q_315 (by omega) (Nat.le_of_ble_eq_true rfl) ⟨Nat.le_of_ble_eq_true rfl, Nat.le_of_ble_eq_true rfl⟩) ⟨Nat.le_of_ble_eq_true rfl, Nat.le_of_ble_eq_true rfl⟩ (fun r5 T4 => ?_)
  refine j_iload (pc := 23) 0 C dX5_lose_23 rfl ?_
  refine j_if_ge (pc := 25) 32 C dX5_lose_25 (by decide) ?_ ?_
  ·
    refine j_iload (pc := 32) 0 C dX5_lose_32 rfl ?_
    refine j_sub [] rfl ?_
    exact bC_State_lose_9_34 C  v3 r5 T4
  ·
    refine j_iconst (pc := 28) 0 C dX5_lose_28 (by decide) ?_
    refine j_goto (pc := 29) 34 C dX5_lose_29 (by decide) ?_
    refine j_sub [] rfl ?_
    exact bC_State_lose_9_34 C  0 r5 T4
theorem cC_State_lose_9 {l : Launch} {G : Gc} (hfl : l.stackTraces = false) (hW : Wok G wC 54)   (x1 : Int32) (x2 : Int32) (x3 : Int32) (S : St) : Ct l yX5_lose (Cond.code yX5_lose cX5_lose 5 none :: tblG) 2 0 0 G wC 54 [.ref (gA G 9), .int x1, .int x2, .int x3] S (fC_State_lose_9 x1 x2 x3 S) := ct_of (own := RX5) hfl (by decide +kernel) rfl hW (Nat.le_of_ble_eq_true rfl) (fun E hE C => by subst hE; exact bC_State_lose_9 C   x1 x2 x3 S)
theorem rC_State_lose_9 {E : Ec} {G : Gc} {nL mc ms : Nat} {own : String} {cc : ByteArray} {L : Nat} {ret : Option FieldType} {k n pc ix : Nat} {loc : List (Nat × Value)} {rest : List Value}  {x1 : Int32} {x2 : Int32} {x3 : Int32} {S : St}  (C : JC E (VC G nL mc ms own) cc L ret) (hd : decode cc pc = .ok (.invokevirtual ix, 3)) (hq : Cond.methodLink own ix yX5_lose ∈ tblG) (hL : 2 + 1 ≤ L) (hW : (rest.map fun v => v.category).sum ≤ 8) (hf : k + 0 ≤ mc ∧ n + 0 ≤ ms) : Rn E (VC G nL mc ms own) k n 0 0 pc loc (.int x3 :: .int x2 :: .int x1 :: .ref (gA G 9) :: rest) rest S (fC_State_lose_9 x1 x2 x3 S) := rn_V (ci := 5) 9 (V := VC G nL mc ms own) (As := [.int x1, .int x2, .int x3]) (Cq := (RX5, TX5, 3)) (cC_State_lose_9 C.flags C.wok  x1 x2 x3 S) knX5_lose ⟨q_376, q_377⟩ rfl rfl C hd hq hL rfl rfl hW hf

theorem knX5_slip : Kn yX5_slip cX5_slip 3 none 2 := ⟨q_379, q_174, by decide +kernel, by decide⟩
theorem bC_State_slip_9 {E : Ec} {G : Gc}    (C : JC E (VC G 3 0 0 RX5) cX5_slip 3 none)    (x1 : Int32) (x2 : Int32) (S : St) : J E (VC G 3 0 0 RX5) 0 0 0 [(0, .ref (gA G 9)), (1, .int x1), (2, .int x2)] [] S (fC_State_slip_9  x1 x2 S) := by
  unfold fC_State_slip_9
  refine j_aload_n (pc := 0) 0 C dX5_slip_0 rfl rfl ?_
  refine j_iload_n (pc := 1) 1 C dX5_slip_1 rfl rfl ?_
  refine j_iload_n (pc := 2) 2 C dX5_slip_2 rfl rfl ?_
  refine j_iconst (pc := 3) 4 C dX5_slip_3 (by decide) ?_
  refine j_callv0 (pc := 4) C (rC_State_lose_9 C dX5_slip_4 q_378 (by omega) (Nat.le_of_ble_eq_true rfl) ⟨Nat.le_of_ble_eq_true rfl, Nat.le_of_ble_eq_true rfl⟩) ⟨Nat.le_of_ble_eq_true rfl, Nat.le_of_ble_eq_true rfl⟩ (fun T1 => ?_)
  refine j_aload_n (pc := 7) 0 C dX5_slip_7 rfl rfl ?_
  refine gC_9_0 (pc := 8) C dX5_slip_8 q_172 ?_
  refine j_bipush (pc := 11) 60 C dX5_slip_11 (by decide) ?_
  refine j_iload_n (pc := 13) 1 C dX5_slip_13 rfl rfl ?_
  refine j_iadd (pc := 14) C dX5_slip_14 ?_
  refine j_dup2 (pc := 15) C dX5_slip_15 rfl rfl ?_
  refine aC_46 (pc := 16) C dX5_slip_16 ?_
  refine j_iconst (pc := 17) 1 C dX5_slip_17 (by decide) ?_
  refine j_iadd (pc := 18) C dX5_slip_18 ?_
  refine sC_46 (pc := 19) C dX5_slip_19 ?_
  refine j_nxS (fun T3 => ?_)
  exact j_vret C dX5_slip_20 rfl (Nat.le_of_ble_eq_true rfl) (Nat.le_of_ble_eq_true rfl)
theorem cC_State_slip_9 {l : Launch} {G : Gc} (hfl : l.stackTraces = false) (hW : Wok G wC 54)   (x1 : Int32) (x2 : Int32) (S : St) : Ct l yX5_slip (Cond.code yX5_slip cX5_slip 3 none :: tblG) 3 0 0 G wC 54 [.ref (gA G 9), .int x1, .int x2] S (fC_State_slip_9 x1 x2 S) := ct_of (own := RX5) hfl (by decide +kernel) rfl hW (Nat.le_of_ble_eq_true rfl) (fun E hE C => by subst hE; exact bC_State_slip_9 C   x1 x2 S)
theorem rC_State_slip_9 {E : Ec} {G : Gc} {nL mc ms : Nat} {own : String} {cc : ByteArray} {L : Nat} {ret : Option FieldType} {k n pc ix : Nat} {loc : List (Nat × Value)} {rest : List Value}  {x1 : Int32} {x2 : Int32} {S : St}  (C : JC E (VC G nL mc ms own) cc L ret) (hd : decode cc pc = .ok (.invokevirtual ix, 3)) (hq : Cond.methodLink own ix yX5_slip ∈ tblG) (hL : 3 + 1 ≤ L) (hW : (rest.map fun v => v.category).sum ≤ 8) (hf : k + 0 ≤ mc ∧ n + 0 ≤ ms) : Rn E (VC G nL mc ms own) k n 0 0 pc loc (.int x2 :: .int x1 :: .ref (gA G 9) :: rest) rest S (fC_State_slip_9 x1 x2 S) := rn_V (ci := 5) 9 (V := VC G nL mc ms own) (As := [.int x1, .int x2]) (Cq := (RX5, TX5, 3)) (cC_State_slip_9 C.flags C.wok  x1 x2 S) knX5_slip ⟨q_380, q_381⟩ rfl rfl C hd hq hL rfl rfl hW hf

theorem knX5_sayAlone : Kn yX5_sayAlone cX5_sayAlone 2 (some .boolean) 1 := ⟨q_383, q_174, by decide +kernel, by decide⟩
theorem bC_State_sayAlone_9 {E : Ec} {G : Gc}    (C : JC E (VC G 2 0 0 RX5) cX5_sayAlone 4 (some .boolean))    (x1 : Int32) (S : St) : J E (VC G 2 0 0 RX5) 0 0 0 [(0, .ref (gA G 9)), (1, .int x1)] [] S (fC_State_sayAlone_9  x1 S) := by
  unfold fC_State_sayAlone_9
  refine j_aload_n (pc := 0) 0 C dX5_sayAlone_0 rfl rfl ?_
  refine j_iload_n (pc := 1) 1 C dX5_sayAlone_1 rfl rfl ?_
  refine j_callI0 (pc := 2) C (rC_State_isPaid_9 C dX5_sayAlone_2 q_367 (by omega) (Nat.le_of_ble_eq_true rfl) ⟨Nat.le_of_ble_eq_true rfl, Nat.le_of_ble_eq_true rfl⟩) ⟨Nat.le_of_ble_eq_true rfl, Nat.le_of_ble_eq_true rfl⟩ (fun r2 T1 => ?_)
  refine j_if_eq (pc := 5) 10 C dX5_sayAlone_5 (by decide) ?_ ?_
  ·
    refine j_aload_n (pc := 10) 0 C dX5_sayAlone_10 rfl rfl ?_
    refine j_iload_n (pc := 11) 1 C dX5_sayAlone_11 rfl rfl ?_
    refine j_callI0 (pc := 12) C (rC_State_isWellKnown_9 C dX5_sayAlone_12 q_374 (by omega) (Nat.le_of_ble_eq_true rfl) ⟨Nat.le_of_ble_eq_true rfl, Nat.le_of_ble_eq_true rfl⟩) ⟨Nat.le_of_ble_eq_true rfl, Nat.le_of_ble_eq_true rfl⟩ (fun r4 T3 => ?_)
    refine j_if_eq (pc := 15) 34 C dX5_sayAlone_15 (by decide) ?_ ?_
    ·
      refine j_aload_n (pc := 34) 0 C dX5_sayAlone_34 rfl rfl ?_
      refine j_aload_n (pc := 35) 0 C dX5_sayAlone_35 rfl rfl ?_
      refine gC_9_1 (pc := 36) C dX5_sayAlone_36 q_301 ?_
      refine gC_2_8 (pc := 39) C dX5_sayAlone_39 q_368 ?_
      refine j_iload_n (pc := 42) 1 C dX5_sayAlone_42 rfl rfl ?_
      refine aC_19 (pc := 43) C dX5_sayAlone_43 ?_
      refine j_aload_n (pc := 44) 0 C dX5_sayAlone_44 rfl rfl ?_
      refine gC_9_1 (pc := 45) C dX5_sayAlone_45 q_301 ?_
      refine gC_2_9 (pc := 48) C dX5_sayAlone_48 q_369 ?_
      refine j_iload_n (pc := 51) 1 C dX5_sayAlone_51 rfl rfl ?_
      refine aC_20 (pc := 52) C dX5_sayAlone_52 ?_
      refine j_callv0 (pc := 53) C (rC_State_slip_9 C dX5_sayAlone_53 q_382 (by omega) (Nat.le_of_ble_eq_true rfl) ⟨Nat.le_of_ble_eq_true rfl, Nat.le_of_ble_eq_true rfl⟩) ⟨Nat.le_of_ble_eq_true rfl, Nat.le_of_ble_eq_true rfl⟩ (fun T5 => ?_)
      refine j_iconst (pc := 56) 1 C dX5_sayAlone_56 (by decide) ?_
      exact j_zretc C dX5_sayAlone_57 rfl (Nat.le_of_ble_eq_true rfl) (Nat.le_of_ble_eq_true rfl) rfl
    ·
      refine j_aload_n (pc := 18) 0 C dX5_sayAlone_18 rfl rfl ?_
      refine gC_9_0 (pc := 19) C dX5_sayAlone_19 q_172 ?_
      refine j_bipush (pc := 22) 72 C dX5_sayAlone_22 (by decide) ?_
      refine j_dup2 (pc := 24) C dX5_sayAlone_24 rfl rfl ?_
      refine acC_46 (pc := 25) C dX5_sayAlone_25 rfl ?_
      refine j_iconst (pc := 26) 1 C dX5_sayAlone_26 (by decide) ?_
      refine j_iload_n (pc := 27) 1 C dX5_sayAlone_27 rfl rfl ?_
      refine j_ishl (pc := 28) C dX5_sayAlone_28 ?_
      refine j_ior (pc := 29) C dX5_sayAlone_29 ?_
      refine scC_46 (pc := 30) C dX5_sayAlone_30 rfl ?_
      refine j_nxS (fun T7 => ?_)
      refine j_goto (pc := 31) 56 C dX5_sayAlone_31 (by decide) ?_
      refine j_iconst (pc := 56) 1 C dX5_sayAlone_56 (by decide) ?_
      exact j_zretc C dX5_sayAlone_57 rfl (Nat.le_of_ble_eq_true rfl) (Nat.le_of_ble_eq_true rfl) rfl
  ·
    refine j_iconst (pc := 8) 0 C dX5_sayAlone_8 (by decide) ?_
    exact j_zretc C dX5_sayAlone_9 rfl (Nat.le_of_ble_eq_true rfl) (Nat.le_of_ble_eq_true rfl) rfl
theorem cC_State_sayAlone_9 {l : Launch} {G : Gc} (hfl : l.stackTraces = false) (hW : Wok G wC 54)   (x1 : Int32) (S : St) : Ct l yX5_sayAlone (Cond.code yX5_sayAlone cX5_sayAlone 2 (some .boolean) :: tblG) 4 0 0 G wC 54 [.ref (gA G 9), .int x1] S (fC_State_sayAlone_9 x1 S) := ct_of (own := RX5) hfl (by decide +kernel) rfl hW (Nat.le_of_ble_eq_true rfl) (fun E hE C => by subst hE; exact bC_State_sayAlone_9 C   x1 S)
theorem rC_State_sayAlone_9 {E : Ec} {G : Gc} {nL mc ms : Nat} {own : String} {cc : ByteArray} {L : Nat} {ret : Option FieldType} {k n pc ix : Nat} {loc : List (Nat × Value)} {rest : List Value}  {x1 : Int32} {S : St}  (C : JC E (VC G nL mc ms own) cc L ret) (hd : decode cc pc = .ok (.invokevirtual ix, 3)) (hq : Cond.methodLink own ix yX5_sayAlone ∈ tblG) (hL : 4 + 1 ≤ L) (hW : (rest.map fun v => v.category).sum ≤ 8) (hf : k + 0 ≤ mc ∧ n + 0 ≤ ms) : Rn E (VC G nL mc ms own) k n 0 0 pc loc (.int x1 :: .ref (gA G 9) :: rest) rest S (fC_State_sayAlone_9 x1 S) := rn_V (ci := 5) 9 (V := VC G nL mc ms own) (As := [.int x1]) (Cq := (RX5, TX5, 3)) (cC_State_sayAlone_9 C.flags C.wok  x1 S) knX5_sayAlone ⟨q_384, q_385⟩ rfl rfl C hd hq hL rfl rfl hW hf

theorem knX5_isSungBy : Kn yX5_isSungBy cX5_isSungBy 5 (some .boolean) 2 := ⟨q_387, q_174, by decide +kernel, by decide⟩
theorem bC_State_isSungBy_9 {E : Ec} {G : Gc}    (C : JC E (VC G 5 0 0 RX5) cX5_isSungBy 2 (some .boolean))    (x1 : Int32) (x2 : Int32) (S : St) : J E (VC G 5 0 0 RX5) 0 0 0 [(0, .ref (gA G 9)), (1, .int x1), (2, .int x2)] [] S (fC_State_isSungBy_9  x1 x2 S) := by
  unfold fC_State_isSungBy_9
  refine j_aload_n (pc := 0) 0 C dX5_isSungBy_0 rfl rfl ?_
  refine gC_9_1 (pc := 1) C dX5_isSungBy_1 q_301 ?_
  refine gC_2_9 (pc := 4) C dX5_isSungBy_4 q_369 ?_
  refine j_iload_n (pc := 7) 1 C dX5_isSungBy_7 rfl rfl ?_
  refine aC_20 (pc := 8) C dX5_isSungBy_8 ?_
  refine j_nxI (fun v1 => ?_)
  refine j_istore_n (pc := 9) [(3, .int v1), (0, .ref (gA G 9)), (1, .int x1), (2, .int x2)] C dX5_isSungBy_9 rfl (Nat.le_of_ble_eq_true rfl) rfl ?_
  refine j_aload_n (pc := 10) 1 C dX5_isSungBy_10 rfl rfl ?_
  refine gC_9_0 (pc := 11) C dX5_isSungBy_11 q_172 ?_
  refine j_aload_n (pc := 14) 1 C dX5_isSungBy_14 rfl rfl ?_
  refine gC_9_1 (pc := 15) C dX5_isSungBy_15 q_301 ?_
  refine gC_2_8 (pc := 18) C dX5_isSungBy_18 q_368 ?_
  refine j_iload_n (pc := 21) 2 C dX5_isSungBy_21 rfl rfl ?_
  refine aC_19 (pc := 22) C dX5_isSungBy_22 ?_
  refine j_iload_n (pc := 23) 0 C dX5_isSungBy_23 rfl rfl ?_
  refine j_callI0 (pc := 24) C (rC_State_place C dX5_isSungBy_24 q_315 (by omega) (Nat.le_of_ble_eq_true rfl) ⟨Nat.le_of_ble_eq_true rfl, Nat.le_of_ble_eq_true rfl⟩) ⟨Nat.le_of_ble_eq_true rfl, Nat.le_of_ble_eq_true rfl⟩ (fun r3 T2 => ?_)
  refine aC_46 (pc := 27) C dX5_isSungBy_27 ?_
  refine j_aload_n (pc := 28) 1 C dX5_isSungBy_28 rfl rfl ?_
  refine gC_9_0 (pc := 29) C dX5_isSungBy_29 q_172 ?_
  refine j_iload_n (pc := 32) 3 C dX5_isSungBy_32 rfl rfl ?_
  refine j_iload_n (pc := 33) 0 C dX5_isSungBy_33 rfl rfl ?_
  refine j_callI0 (pc := 34) C (rC_State_place C dX5_isSungBy_34 q_315 (by omega) (Nat.le_of_ble_eq_true rfl) ⟨Nat.le_of_ble_eq_true rfl, Nat.le_of_ble_eq_true rfl⟩) ⟨Nat.le_of_ble_eq_true rfl, Nat.le_of_ble_eq_true rfl⟩ (fun r5 T4 => ?_)
  refine aC_46 (pc := 37) C dX5_isSungBy_37 ?_
  refine j_iadd (pc := 38) C dX5_isSungBy_38 ?_
  refine j_nxI (fun v6 => ?_)
  refine j_istore (pc := 39) [(4, .int v6), (3, .int v1), (0, .ref (gA G 9)), (1, .int x1), (2, .int x2)] C dX5_isSungBy_39 (Nat.le_of_ble_eq_true rfl) rfl ?_
  refine j_iload (pc := 41) 0 C dX5_isSungBy_41 rfl ?_
  refine j_aload_n (pc := 43) 2 C dX5_isSungBy_43 rfl rfl ?_
  refine gC_9_1 (pc := 44) C dX5_isSungBy_44 q_301 ?_
  refine gC_2_4 (pc := 47) C dX5_isSungBy_47 q_325 ?_
  refine j_iload_n (pc := 50) 1 C dX5_isSungBy_50 rfl rfl ?_
  refine aC_15 (pc := 51) C dX5_isSungBy_51 ?_
  refine j_icmp_lt (pc := 52) 59 C dX5_isSungBy_52 (by decide) ?_ ?_
  ·
    refine j_iconst (pc := 59) 0 C dX5_isSungBy_59 (by decide) ?_
    exact j_zretc C dX5_isSungBy_60 rfl (Nat.le_of_ble_eq_true rfl) (Nat.le_of_ble_eq_true rfl) rfl
  ·
    refine j_iconst (pc := 55) 1 C dX5_isSungBy_55 (by decide) ?_
    refine j_goto (pc := 56) 60 C dX5_isSungBy_56 (by decide) ?_
    exact j_zretc C dX5_isSungBy_60 rfl (Nat.le_of_ble_eq_true rfl) (Nat.le_of_ble_eq_true rfl) rfl
theorem cC_State_isSungBy_9 {l : Launch} {G : Gc} (hfl : l.stackTraces = false) (hW : Wok G wC 54)   (x1 : Int32) (x2 : Int32) (S : St) : Ct l yX5_isSungBy (Cond.code yX5_isSungBy cX5_isSungBy 5 (some .boolean) :: tblG) 2 0 0 G wC 54 [.ref (gA G 9), .int x1, .int x2] S (fC_State_isSungBy_9 x1 x2 S) := ct_of (own := RX5) hfl (by decide +kernel) rfl hW (Nat.le_of_ble_eq_true rfl) (fun E hE C => by subst hE; exact bC_State_isSungBy_9 C   x1 x2 S)
theorem rC_State_isSungBy_9 {E : Ec} {G : Gc} {nL mc ms : Nat} {own : String} {cc : ByteArray} {L : Nat} {ret : Option FieldType} {k n pc ix : Nat} {loc : List (Nat × Value)} {rest : List Value}  {x1 : Int32} {x2 : Int32} {S : St}  (C : JC E (VC G nL mc ms own) cc L ret) (hd : decode cc pc = .ok (.invokevirtual ix, 3)) (hq : Cond.methodLink own ix yX5_isSungBy ∈ tblG) (hL : 2 + 1 ≤ L) (hW : (rest.map fun v => v.category).sum ≤ 8) (hf : k + 0 ≤ mc ∧ n + 0 ≤ ms) : Rn E (VC G nL mc ms own) k n 0 0 pc loc (.int x2 :: .int x1 :: .ref (gA G 9) :: rest) rest S (fC_State_isSungBy_9 x1 x2 S) := rn_V (ci := 5) 9 (V := VC G nL mc ms own) (As := [.int x1, .int x2]) (Cq := (RX5, TX5, 3)) (cC_State_isSungBy_9 C.flags C.wok  x1 x2 S) knX5_isSungBy ⟨q_388, q_389⟩ rfl rfl C hd hq hL rfl rfl hW hf

