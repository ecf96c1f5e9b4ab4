theorem bC_Tape_isWord_v38_20 {E : Ec} {G : Gc}  {x1 : Nat}  (C : JC E (VC G 3 0 0 RX6) cX6_isWord 5 (some .boolean))  (hs_x1 : x1 < 40)  : ∀ (n : Nat) (x2 : Int32) (S : St), J E (VC G 3 0 0 RX6) 0 0 20 [(0, .ref (gA G 1)), (1, .ref (gK G x1)), (2, .int x2)] [] S (fC_Tape_isWord_v38_20 x1 n x2 S) := by
  intro n
  induction n with
  | zero => intro x2 S; rw [fC_Tape_isWord_v38_20]; exact j_none
  | succ n ih =>
    intro x2 S
    rw [fC_Tape_isWord_v38_20]
    refine j_iload_n (pc := 20) 2 C dX6_isWord_20 rfl rfl ?_
    refine j_aload_n (pc := 21) 1 C dX6_isWord_21 rfl rfl ?_
    refine j_slen (pc := 22) C dX6_isWord_22 q_91 hs_x1 (by omega) (Nat.le_of_ble_eq_true rfl) (Nat.le_of_ble_eq_true rfl) (Nat.le_of_ble_eq_true rfl) ?_
    refine j_icmp_ge (pc := 25) 55 C dX6_isWord_25 (by decide) ?_ ?_
    ·
      refine j_iconst (pc := 55) 1 C dX6_isWord_55 (by decide) ?_
      exact j_zretc C dX6_isWord_56 rfl (Nat.le_of_ble_eq_true rfl) (Nat.le_of_ble_eq_true rfl) rfl
    ·
      refine j_aload_n (pc := 28) 0 C dX6_isWord_28 rfl rfl ?_
      refine gC_1_0 (pc := 29) C dX6_isWord_29 q_33 ?_
      refine j_aload_n (pc := 32) 0 C dX6_isWord_32 rfl rfl ?_
      refine gC_1_7 (pc := 33) C dX6_isWord_33 q_86 ?_
      refine j_iload_n (pc := 36) 2 C dX6_isWord_36 rfl rfl ?_
      refine j_iadd (pc := 37) C dX6_isWord_37 ?_
      refine aC_14 (pc := 38) C dX6_isWord_38 ?_
      refine j_aload_n (pc := 39) 1 C dX6_isWord_39 rfl rfl ?_
      refine j_iload_n (pc := 40) 2 C dX6_isWord_40 rfl rfl ?_
      refine j_schar (pc := 41) C dX6_isWord_41 q_92 hs_x1 (by omega) (Nat.le_of_ble_eq_true rfl) (Nat.le_of_ble_eq_true rfl) (Nat.le_of_ble_eq_true rfl) ?_
      refine j_icmp_eq (pc := 44) 49 C dX6_isWord_44 (by decide) ?_ ?_
      ·
        refine j_iinc (pc := 49) 2 (x2 + 1) [(2, .int (x2 + 1)), (0, .ref (gA G 1)), (1, .ref (gK G x1))] C dX6_isWord_49 rfl rfl (Nat.le_of_ble_eq_true rfl) rfl ?_
        refine j_goto (pc := 52) 20 C dX6_isWord_52 (by decide) ?_
        refine j_sub [1, 2, 0] rfl ?_
        exact ih (x2 + 1) S
      ·
        refine j_iconst (pc := 47) 0 C dX6_isWord_47 (by decide) ?_
        exact j_zretc C dX6_isWord_48 rfl (Nat.le_of_ble_eq_true rfl) (Nat.le_of_ble_eq_true rfl) rfl
theorem bC_Tape_isWord_v38 {E : Ec} {G : Gc}  {x1 : Nat}  (C : JC E (VC G 3 0 0 RX6) cX6_isWord 5 (some .boolean))  (hs_x1 : x1 < 40)   (S : St) : J E (VC G 3 0 0 RX6) 0 0 0 [(0, .ref (gA G 1)), (1, .ref (gK G x1))] [] S (fC_Tape_isWord_v38 x1  S) := by
  unfold fC_Tape_isWord_v38
  refine j_aload_n (pc := 0) 0 C dX6_isWord_0 rfl rfl ?_
  refine gC_1_6 (pc := 1) C dX6_isWord_1 q_62 ?_
  refine j_aload_n (pc := 4) 0 C dX6_isWord_4 rfl rfl ?_
  refine gC_1_7 (pc := 5) C dX6_isWord_5 q_86 ?_
  refine j_isub (pc := 8) C dX6_isWord_8 ?_
  refine j_aload_n (pc := 9) 1 C dX6_isWord_9 rfl rfl ?_
  refine j_slen (pc := 10) C dX6_isWord_10 q_91 hs_x1 (by omega) (Nat.le_of_ble_eq_true rfl) (Nat.le_of_ble_eq_true rfl) (Nat.le_of_ble_eq_true rfl) ?_
  refine j_icmp_eq (pc := 13) 18 C dX6_isWord_13 (by decide) ?_ ?_
  ·
    refine j_iconst (pc := 18) 0 C dX6_isWord_18 (by decide) ?_
    refine j_istore_n (pc := 19) [(2, .int 0), (0, .ref (gA G 1)), (1, .ref (gK G x1))] C dX6_isWord_19 rfl (Nat.le_of_ble_eq_true rfl) rfl ?_
    refine j_sub [1, 2, 0] rfl ?_
    exact bC_Tape_isWord_v38_20 C hs_x1 FU 0 S
  ·
    refine j_iconst (pc := 16) 0 C dX6_isWord_16 (by decide) ?_
    exact j_zretc C dX6_isWord_17 rfl (Nat.le_of_ble_eq_true rfl) (Nat.le_of_ble_eq_true rfl) rfl
theorem cC_Tape_isWord_v38 {l : Launch} {G : Gc} (hfl : l.stackTraces = false) (hW : Wok G wC 54) {x1 : Nat} (hs_x1 : x1 < 40)  (S : St) : Ct l yX6_isWord (Cond.code yX6_isWord cX6_isWord 3 (some .boolean) :: tblG) 5 0 0 G wC 54 [.ref (gA G 1), .ref (gK G x1)] S (fC_Tape_isWord_v38 x1 S) := ct_of (own := RX6) hfl (by decide +kernel) rfl hW (Nat.le_of_ble_eq_true rfl) (fun E hE C => by subst hE; exact bC_Tape_isWord_v38 C hs_x1   S)
theorem rC_Tape_isWord_v38 {E : Ec} {G : Gc} {nL mc ms : Nat} {own : String} {cc : ByteArray} {L : Nat} {ret : Option FieldType} {k n pc ix : Nat} {loc : List (Nat × Value)} {rest : List Value}  {x1 : Nat} {S : St} (hs_x1 : x1 < 40) (C : JC E (VC G nL mc ms own) cc L ret) (hd : decode cc pc = .ok (.invokevirtual ix, 3)) (hq : Cond.methodLink own ix yX6_isWord ∈ tblG) (hL : 5 + 1 ≤ L) (hW : (rest.map fun v => v.category).sum ≤ 8) (hf : k + 0 ≤ mc ∧ n + 0 ≤ ms) : Rn E (VC G nL mc ms own) k n 0 0 pc loc (.ref (gK G x1) :: .ref (gA G 1) :: rest) rest S (fC_Tape_isWord_v38 x1 S) := rn_V (ci := 6) 1 (V := VC G nL mc ms own) (As := [.ref (gK G x1)]) (Cq := (RX6, TX6, 8)) (cC_Tape_isWord_v38 C.flags C.wok hs_x1  S) knX6_isWord ⟨q_94, q_95⟩ rfl rfl C hd hq hL rfl rfl hW hf

theorem bC_Tape_isWord_v39_20 {E : Ec} {G : Gc}  {x1 : Nat}  (C : JC E (VC G 3 0 0 RX6) cX6_isWord 5 (some .boolean))  (hs_x1 : x1 < 40)  : ∀ (n : Nat) (x2 : Int32) (S : St), J E (VC G 3 0 0 RX6) 0 0 20 [(0, .ref (gA G 1)), (1, .ref (gK G x1)), (2, .int x2)] [] S (fC_Tape_isWord_v39_20 x1 n x2 S) := by
  intro n
  induction n with
  | zero => intro x2 S; rw [fC_Tape_isWord_v39_20]; exact j_none
  | succ n ih =>
    intro x2 S
    rw [fC_Tape_isWord_v39_20]
    refine j_iload_n (pc := 20) 2 C dX6_isWord_20 rfl rfl ?_
    refine j_aload_n (pc := 21) 1 C dX6_isWord_21 rfl rfl ?_
    refine j_slen (pc := 22) C dX6_isWord_22 q_91 hs_x1 (by omega) (Nat.le_of_ble_eq_true rfl) (Nat.le_of_ble_eq_true rfl) (Nat.le_of_ble_eq_true rfl) ?_
    refine j_icmp_ge (pc := 25) 55 C dX6_isWord_25 (by decide) ?_ ?_
    ·
      refine j_iconst (pc := 55) 1 C dX6_isWord_55 (by decide) ?_
      exact j_zretc C dX6_isWord_56 rfl (Nat.le_of_ble_eq_true rfl) (Nat.le_of_ble_eq_true rfl) rfl
    ·
      refine j_aload_n (pc := 28) 0 C dX6_isWord_28 rfl rfl ?_
      refine gC_1_0 (pc := 29) C dX6_isWord_29 q_33 ?_
      refine j_aload_n (pc := 32) 0 C dX6_isWord_32 rfl rfl ?_
      refine gC_1_7 (pc := 33) C dX6_isWord_33 q_86 ?_
      refine j_iload_n (pc := 36) 2 C dX6_isWord_36 rfl rfl ?_
      refine j_iadd (pc := 37) C dX6_isWord_37 ?_
      refine aC_14 (pc := 38) C dX6_isWord_38 ?_
      refine j_aload_n (pc := 39) 1 C dX6_isWord_39 rfl rfl ?_
      refine j_iload_n (pc := 40) 2 C dX6_isWord_40 rfl rfl ?_
      refine j_schar (pc := 41) C dX6_isWord_41 q_92 hs_x1 (by omega) (Nat.le_of_ble_eq_true rfl) (Nat.le_of_ble_eq_true rfl) (Nat.le_of_ble_eq_true rfl) ?_
      refine j_icmp_eq (pc := 44) 49 C dX6_isWord_44 (by decide) ?_ ?_
      ·
        refine j_iinc (pc := 49) 2 (x2 + 1) [(2, .int (x2 + 1)), (0, .ref (gA G 1)), (1, .ref (gK G x1))] C dX6_isWord_49 rfl rfl (Nat.le_of_ble_eq_true rfl) rfl ?_
        refine j_goto (pc := 52) 20 C dX6_isWord_52 (by decide) ?_
        refine j_sub [1, 2, 0] rfl ?_
        exact ih (x2 + 1) S
      ·
        refine j_iconst (pc := 47) 0 C dX6_isWord_47 (by decide) ?_
        exact j_zretc C dX6_isWord_48 rfl (Nat.le_of_ble_eq_true rfl) (Nat.le_of_ble_eq_true rfl) rfl
theorem bC_Tape_isWord_v39 {E : Ec} {G : Gc}  {x1 : Nat}  (C : JC E (VC G 3 0 0 RX6) cX6_isWord 5 (some .boolean))  (hs_x1 : x1 < 40)   (S : St) : J E (VC G 3 0 0 RX6) 0 0 0 [(0, .ref (gA G 1)), (1, .ref (gK G x1))] [] S (fC_Tape_isWord_v39 x1  S) := by
  unfold fC_Tape_isWord_v39
  refine j_aload_n (pc := 0) 0 C dX6_isWord_0 rfl rfl ?_
  refine gC_1_6 (pc := 1) C dX6_isWord_1 q_62 ?_
  refine j_aload_n (pc := 4) 0 C dX6_isWord_4 rfl rfl ?_
  refine gC_1_7 (pc := 5) C dX6_isWord_5 q_86 ?_
  refine j_isub (pc := 8) C dX6_isWord_8 ?_
  refine j_aload_n (pc := 9) 1 C dX6_isWord_9 rfl rfl ?_
  refine j_slen (pc := 10) C dX6_isWord_10 q_91 hs_x1 (by omega) (Nat.le_of_ble_eq_true rfl) (Nat.le_of_ble_eq_true rfl) (Nat.le_of_ble_eq_true rfl) ?_
  refine j_icmp_eq (pc := 13) 18 C dX6_isWord_13 (by decide) ?_ ?_
  ·
    refine j_iconst (pc := 18) 0 C dX6_isWord_18 (by decide) ?_
    refine j_istore_n (pc := 19) [(2, .int 0), (0, .ref (gA G 1)), (1, .ref (gK G x1))] C dX6_isWord_19 rfl (Nat.le_of_ble_eq_true rfl) rfl ?_
    refine j_sub [1, 2, 0] rfl ?_
    exact bC_Tape_isWord_v39_20 C hs_x1 FU 0 S
  ·
    refine j_iconst (pc := 16) 0 C dX6_isWord_16 (by decide) ?_
    exact j_zretc C dX6_isWord_17 rfl (Nat.le_of_ble_eq_true rfl) (Nat.le_of_ble_eq_true rfl) rfl
theorem cC_Tape_isWord_v39 {l : Launch} {G : Gc} (hfl : l.stackTraces = false) (hW : Wok G wC 54) {x1 : Nat} (hs_x1 : x1 < 40)  (S : St) : Ct l yX6_isWord (Cond.code yX6_isWord cX6_isWord 3 (some .boolean) :: tblG) 5 0 0 G wC 54 [.ref (gA G 1), .ref (gK G x1)] S (fC_Tape_isWord_v39 x1 S) := ct_of (own := RX6) hfl (by decide +kernel) rfl hW (Nat.le_of_ble_eq_true rfl) (fun E hE C => by subst hE; exact bC_Tape_isWord_v39 C hs_x1   S)
theorem rC_Tape_isWord_v39 {E : Ec} {G : Gc} {nL mc ms : Nat} {own : String} {cc : ByteArray} {L : Nat} {ret : Option FieldType} {k n pc ix : Nat} {loc : List (Nat × Value)} {rest : List Value}  {x1 : Nat} {S : St} (hs_x1 : x1 < 40) (C : JC E (VC G nL mc ms own) cc L ret) (hd : decode cc pc = .ok (.invokevirtual ix, 3)) (hq : Cond.methodLink own ix yX6_isWord ∈ tblG) (hL : 5 + 1 ≤ L) (hW : (rest.map fun v => v.category).sum ≤ 8) (hf : k + 0 ≤ mc ∧ n + 0 ≤ ms) : Rn E (VC G nL mc ms own) k n 0 0 pc loc (.ref (gK G x1) :: .ref (gA G 1) :: rest) rest S (fC_Tape_isWord_v39 x1 S) := rn_V (ci := 6) 1 (V := VC G nL mc ms own) (As := [.ref (gK G x1)]) (Cq := (RX6, TX6, 8)) (cC_Tape_isWord_v39 C.flags C.wok hs_x1  S) knX6_isWord ⟨q_94, q_95⟩ rfl rfl C hd hq hL rfl rfl hW hf

theorem bC_Tape_isWord_v41_20 {E : Ec} {G : Gc}  {x1 : Nat}  (C : JC E (VC G 3 0 0 RX6) cX6_isWord 5 (some .boolean))  (hs_x1 : x1 < 40)  : ∀ (n : Nat) (x2 : Int32) (S : St), J E (VC G 3 0 0 RX6) 0 0 20 [(0, .ref (gA G 1)), (1, .ref (gK G x1)), (2, .int x2)] [] S (fC_Tape_isWord_v41_20 x1 n x2 S) := by
  intro n
  induction n with
  | zero => intro x2 S; rw [fC_Tape_isWord_v41_20]; exact j_none
  | succ n ih =>
    intro x2 S
    rw [fC_Tape_isWord_v41_20]
    refine j_iload_n (pc := 20) 2 C dX6_isWord_20 rfl rfl ?_
    refine j_aload_n (pc := 21) 1 C dX6_isWord_21 rfl rfl ?_
    refine j_slen (pc := 22) C dX6_isWord_22 q_91 hs_x1 (by omega) (Nat.le_of_ble_eq_true rfl) (Nat.le_of_ble_eq_true rfl) (Nat.le_of_ble_eq_true rfl) ?_
    refine j_icmp_ge (pc := 25) 55 C dX6_isWord_25 (by decide) ?_ ?_
    ·
      refine j_iconst (pc := 55) 1 C dX6_isWord_55 (by decide) ?_
      exact j_zretc C dX6_isWord_56 rfl (Nat.le_of_ble_eq_true rfl) (Nat.le_of_ble_eq_true rfl) rfl
    ·
      refine j_aload_n (pc := 28) 0 C dX6_isWord_28 rfl rfl ?_
      refine gC_1_0 (pc := 29) C dX6_isWord_29 q_33 ?_
      refine j_aload_n (pc := 32) 0 C dX6_isWord_32 rfl rfl ?_
      refine gC_1_7 (pc := 33) C dX6_isWord_33 q_86 ?_
      refine j_iload_n (pc := 36) 2 C dX6_isWord_36 rfl rfl ?_
      refine j_iadd (pc := 37) C dX6_isWord_37 ?_
      refine aC_14 (pc := 38) C dX6_isWord_38 ?_
      refine j_aload_n (pc := 39) 1 C dX6_isWord_39 rfl rfl ?_
      refine j_iload_n (pc := 40) 2 C dX6_isWord_40 rfl rfl ?_
      refine j_schar (pc := 41) C dX6_isWord_41 q_92 hs_x1 (by omega) (Nat.le_of_ble_eq_true rfl) (Nat.le_of_ble_eq_true rfl) (Nat.le_of_ble_eq_true rfl) ?_
      refine j_icmp_eq (pc := 44) 49 C dX6_isWord_44 (by decide) ?_ ?_
      ·
        refine j_iinc (pc := 49) 2 (x2 + 1) [(2, .int (x2 + 1)), (0, .ref (gA G 1)), (1, .ref (gK G x1))] C dX6_isWord_49 rfl rfl (Nat.le_of_ble_eq_true rfl) rfl ?_
        refine j_goto (pc := 52) 20 C dX6_isWord_52 (by decide) ?_
        refine j_sub [1, 2, 0] rfl ?_
        exact ih (x2 + 1) S
      ·
        refine j_iconst (pc := 47) 0 C dX6_isWord_47 (by decide) ?_
        exact j_zretc C dX6_isWord_48 rfl (Nat.le_of_ble_eq_true rfl) (Nat.le_of_ble_eq_true rfl) rfl
theorem bC_Tape_isWord_v41 {E : Ec} {G : Gc}  {x1 : Nat}  (C : JC E (VC G 3 0 0 RX6) cX6_isWord 5 (some .boolean))  (hs_x1 : x1 < 40)   (S : St) : J E (VC G 3 0 0 RX6) 0 0 0 [(0, .ref (gA G 1)), (1, .ref (gK G x1))] [] S (fC_Tape_isWord_v41 x1  S) := by
  unfold fC_Tape_isWord_v41
  refine j_aload_n (pc := 0) 0 C dX6_isWord_0 rfl rfl ?_
  refine gC_1_6 (pc := 1) C dX6_isWord_1 q_62 ?_
  refine j_aload_n (pc := 4) 0 C dX6_isWord_4 rfl rfl ?_
  refine gC_1_7 (pc := 5) C dX6_isWord_5 q_86 ?_
  refine j_isub (pc := 8) C dX6_isWord_8 ?_
  refine j_aload_n (pc := 9) 1 C dX6_isWord_9 rfl rfl ?_
  refine j_slen (pc := 10) C dX6_isWord_10 q_91 hs_x1 (by omega) (Nat.le_of_ble_eq_true rfl) (Nat.le_of_ble_eq_true rfl) (Nat.le_of_ble_eq_true rfl) ?_
  refine j_icmp_eq (pc := 13) 18 C dX6_isWord_13 (by decide) ?_ ?_
  ·
    refine j_iconst (pc := 18) 0 C dX6_isWord_18 (by decide) ?_
    refine j_istore_n (pc := 19) [(2, .int 0), (0, .ref (gA G 1)), (1, .ref (gK G x1))] C dX6_isWord_19 rfl (Nat.le_of_ble_eq_true rfl) rfl ?_
    refine j_sub [1, 2, 0] rfl ?_
    exact bC_Tape_isWord_v41_20 C hs_x1 FU 0 S
  ·
    refine j_iconst (pc := 16) 0 C dX6_isWord_16 (by decide) ?_
    exact j_zretc C dX6_isWord_17 rfl (Nat.le_of_ble_eq_true rfl) (Nat.le_of_ble_eq_true rfl) rfl
theorem cC_Tape_isWord_v41 {l : Launch} {G : Gc} (hfl : l.stackTraces = false) (hW : Wok G wC 54) {x1 : Nat} (hs_x1 : x1 < 40)  (S : St) : Ct l yX6_isWord (Cond.code yX6_isWord cX6_isWord 3 (some .boolean) :: tblG) 5 0 0 G wC 54 [.ref (gA G 1), .ref (gK G x1)] S (fC_Tape_isWord_v41 x1 S) := ct_of (own := RX6) hfl (by decide +kernel) rfl hW (Nat.le_of_ble_eq_true rfl) (fun E hE C => by subst hE; exact bC_Tape_isWord_v41 C hs_x1   S)
theorem rC_Tape_isWord_v41 {E : Ec} {G : Gc} {nL mc ms : Nat} {own : String} {cc : ByteArray} {L : Nat} {ret : Option FieldType} {k n pc ix : Nat} {loc : List (Nat × Value)} {rest : List Value}  {x1 : Nat} {S : St} (hs_x1 : x1 < 40) (C : JC E (VC G nL mc ms own) cc L ret) (hd : decode cc pc = .ok (.invokevirtual ix, 3)) (hq : Cond.methodLink own ix yX6_isWord ∈ tblG) (hL : 5 + 1 ≤ L) (hW : (rest.map fun v => v.category).sum ≤ 8) (hf : k + 0 ≤ mc ∧ n + 0 ≤ ms) : Rn E (VC G nL mc ms own) k n 0 0 pc loc (.ref (gK G x1) :: .ref (gA G 1) :: rest) rest S (fC_Tape_isWord_v41 x1 S) := rn_V (ci := 6) 1 (V := VC G nL mc ms own) (As := [.ref (gK G x1)]) (Cq := (RX6, TX6, 8)) (cC_Tape_isWord_v41 C.flags C.wok hs_x1  S) knX6_isWord ⟨q_94, q_95⟩ rfl rfl C hd hq hL rfl rfl hW hf

theorem bC_Tape_isWord_v42_20 {E : Ec} {G : Gc}  {x1 : Nat}  (C : JC E (VC G 3 0 0 RX6) cX6_isWord 5 (some .boolean))  (hs_x1 : x1 < 40)  : ∀ (n : Nat) (x2 : Int32) (S : St), J E (VC G 3 0 0 RX6) 0 0 20 [(0, .ref (gA G 1)), (1, .ref (gK G x1)), (2, .int x2)] [] S (fC_Tape_isWord_v42_20 x1 n x2 S) := by
  intro n
  induction n with
  | zero => intro x2 S; rw [fC_Tape_isWord_v42_20]; exact j_none
  | succ n ih =>
    intro x2 S
    rw [fC_Tape_isWord_v42_20]
    refine j_iload_n (pc := 20) 2 C dX6_isWord_20 rfl rfl ?_
    refine j_aload_n (pc := 21) 1 C dX6_isWord_21 rfl rfl ?_
    refine j_slen (pc := 22) C dX6_isWord_22 q_91 hs_x1 (by omega) (Nat.le_of_ble_eq_true rfl) (Nat.le_of_ble_eq_true rfl) (Nat.le_of_ble_eq_true rfl) ?_
    refine j_icmp_ge (pc := 25) 55 C dX6_isWord_25 (by decide) ?_ ?_
    ·
      refine j_iconst (pc := 55) 1 C dX6_isWord_55 (by decide) ?_
      exact j_zretc C dX6_isWord_56 rfl (Nat.le_of_ble_eq_true rfl) (Nat.le_of_ble_eq_true rfl) rfl
    ·
      refine j_aload_n (pc := 28) 0 C dX6_isWord_28 rfl rfl ?_
      refine gC_1_0 (pc := 29) C dX6_isWord_29 q_33 ?_
      refine j_aload_n (pc := 32) 0 C dX6_isWord_32 rfl rfl ?_
      refine gC_1_7 (pc := 33) C dX6_isWord_33 q_86 ?_
      refine j_iload_n (pc := 36) 2 C dX6_isWord_36 rfl rfl ?_
      refine j_iadd (pc := 37) C dX6_isWord_37 ?_
      refine aC_14 (pc := 38) C dX6_isWord_38 ?_
      refine j_aload_n (pc := 39) 1 C dX6_isWord_39 rfl rfl ?_
      refine j_iload_n (pc := 40) 2 C dX6_isWord_40 rfl rfl ?_
      refine j_schar (pc := 41) C dX6_isWord_41 q_92 hs_x1 (by omega) (Nat.le_of_ble_eq_true rfl) (Nat.le_of_ble_eq_true rfl) (Nat.le_of_ble_eq_true rfl) ?_
      refine j_icmp_eq (pc := 44) 49 C dX6_isWord_44 (by decide) ?_ ?_
      ·
        refine j_iinc (pc := 49) 2 (x2 + 1) [(2, .int (x2 + 1)), (0, .ref (gA G 1)), (1, .ref (gK G x1))] C dX6_isWord_49 rfl rfl (Nat.le_of_ble_eq_true rfl) rfl ?_
        refine j_goto (pc := 52) 20 C dX6_isWord_52 (by decide) ?_
        refine j_sub [1, 2, 0] rfl ?_
        exact ih (x2 + 1) S
      ·
        refine j_iconst (pc := 47) 0 C dX6_isWord_47 (by decide) ?_
        exact j_zretc C dX6_isWord_48 rfl (Nat.le_of_ble_eq_true rfl) (Nat.le_of_ble_eq_true rfl) rfl
theorem bC_Tape_isWord_v42 {E : Ec} {G : Gc}  {x1 : Nat}  (C : JC E (VC G 3 0 0 RX6) cX6_isWord 5 (some .boolean))  (hs_x1 : x1 < 40)   (S : St) : J E (VC G 3 0 0 RX6) 0 0 0 [(0, .ref (gA G 1)), (1, .ref (gK G x1))] [] S (fC_Tape_isWord_v42 x1  S) := by
  unfold fC_Tape_isWord_v42
  refine j_aload_n (pc := 0) 0 C dX6_isWord_0 rfl rfl ?_
  refine gC_1_6 (pc := 1) C dX6_isWord_1 q_62 ?_
  refine j_aload_n (pc := 4) 0 C dX6_isWord_4 rfl rfl ?_
  refine gC_1_7 (pc := 5) C dX6_isWord_5 q_86 ?_
  refine j_isub (pc := 8) C dX6_isWord_8 ?_
  refine j_aload_n (pc := 9) 1 C dX6_isWord_9 rfl rfl ?_
  refine j_slen (pc := 10) C dX6_isWord_10 q_91 hs_x1 (by omega) (Nat.le_of_ble_eq_true rfl) (Nat.le_of_ble_eq_true rfl) (Nat.le_of_ble_eq_true rfl) ?_
  refine j_icmp_eq (pc := 13) 18 C dX6_isWord_13 (by decide) ?_ ?_
  ·
    refine j_iconst (pc := 18) 0 C dX6_isWord_18 (by decide) ?_
    refine j_istore_n (pc := 19) [(2, .int 0), (0, .ref (gA G 1)), (1, .ref (gK G x1))] C dX6_isWord_19 rfl (Nat.le_of_ble_eq_true rfl) rfl ?_
    refine j_sub [1, 2, 0] rfl ?_
    exact bC_Tape_isWord_v42_20 C hs_x1 FU 0 S
  ·
    refine j_iconst (pc := 16) 0 C dX6_isWord_16 (by decide) ?_
    exact j_zretc C dX6_isWord_17 rfl (Nat.le_of_ble_eq_true rfl) (Nat.le_of_ble_eq_true rfl) rfl
theorem cC_Tape_isWord_v42 {l : Launch} {G : Gc} (hfl : l.stackTraces = false) (hW : Wok G wC 54) {x1 : Nat} (hs_x1 : x1 < 40)  (S : St) : Ct l yX6_isWord (Cond.code yX6_isWord cX6_isWord 3 (some .boolean) :: tblG) 5 0 0 G wC 54 [.ref (gA G 1), .ref (gK G x1)] S (fC_Tape_isWord_v42 x1 S) := ct_of (own := RX6) hfl (by decide +kernel) rfl hW (Nat.le_of_ble_eq_true rfl) (fun E hE C => by subst hE; exact bC_Tape_isWord_v42 C hs_x1   S)
theorem rC_Tape_isWord_v42 {E : Ec} {G : Gc} {nL mc ms : Nat} {own : String} {cc : ByteArray} {L : Nat} {ret : Option FieldType} {k n pc ix : Nat} {loc : List (Nat × Value)} {rest : List Value}  {x1 : Nat} {S : St} (hs_x1 : x1 < 40) (C : JC E (VC G nL mc ms own) cc L ret) (hd : decode cc pc = .ok (.invokevirtual ix, 3)) (hq : Cond.methodLink own ix yX6_isWord ∈ tblG) (hL : 5 + 1 ≤ L) (hW : (rest.map fun v => v.category).sum ≤ 8) (hf : k + 0 ≤ mc ∧ n + 0 ≤ ms) : Rn E (VC G nL mc ms own) k n 0 0 pc loc (.ref (gK G x1) :: .ref (gA G 1) :: rest) rest S (fC_Tape_isWord_v42 x1 S) := rn_V (ci := 6) 1 (V := VC G nL mc ms own) (As := [.ref (gK G x1)]) (Cq := (RX6, TX6, 8)) (cC_Tape_isWord_v42 C.flags C.wok hs_x1  S) knX6_isWord ⟨q_94, q_95⟩ rfl rfl C hd hq hL rfl rfl hW hf

theorem bC_Tape_isWord_v43_20 {E : Ec} {G : Gc}  {x1 : Nat}  (C : JC E (VC G 3 0 0 RX6) cX6_isWord 5 (some .boolean))  (hs_x1 : x1 < 40)  : ∀ (n : Nat) (x2 : Int32) (S : St), J E (VC G 3 0 0 RX6) 0 0 20 [(0, .ref (gA G 1)), (1, .ref (gK G x1)), (2, .int x2)] [] S (fC_Tape_isWord_v43_20 x1 n x2 S) := by
  intro n
  induction n with
  | zero => intro x2 S; rw [fC_Tape_isWord_v43_20]; exact j_none
  | succ n ih =>
    intro x2 S
    rw [fC_Tape_isWord_v43_20]
    refine j_iload_n (pc := 20) 2 C dX6_isWord_20 rfl rfl ?_
    refine j_aload_n (pc := 21) 1 C dX6_isWord_21 rfl rfl ?_
    refine j_slen (pc := 22) C dX6_isWord_22 q_91 hs_x1 (by omega) (Nat.le_of_ble_eq_true rfl) (Nat.le_of_ble_eq_true rfl) (Nat.le_of_ble_eq_true rfl) ?_
    refine j_icmp_ge (pc := 25) 55 C dX6_isWord_25 (by decide) ?_ ?_
    ·
      refine j_iconst (pc := 55) 1 C dX6_isWord_55 (by decide) ?_
      exact j_zretc C dX6_isWord_56 rfl (Nat.le_of_ble_eq_true rfl) (Nat.le_of_ble_eq_true rfl) rfl
    ·
      refine j_aload_n (pc := 28) 0 C dX6_isWord_28 rfl rfl ?_
      refine gC_1_0 (pc := 29) C dX6_isWord_29 q_33 ?_
      refine j_aload_n (pc := 32) 0 C dX6_isWord_32 rfl rfl ?_
      refine gC_1_7 (pc := 33) C dX6_isWord_33 q_86 ?_
      refine j_iload_n (pc := 36) 2 C dX6_isWord_36 rfl rfl ?_
      refine j_iadd (pc := 37) C dX6_isWord_37 ?_
      refine aC_14 (pc := 38) C dX6_isWord_38 ?_
      refine j_aload_n (pc := 39) 1 C dX6_isWord_39 rfl rfl ?_
      refine j_iload_n (pc := 40) 2 C dX6_isWord_40 rfl rfl ?_
      refine j_schar (pc := 41) C dX6_isWord_41 q_92 hs_x1 (by omega) (Nat.le_of_ble_eq_true rfl) (Nat.le_of_ble_eq_true rfl) (Nat.le_of_ble_eq_true rfl) ?_
      refine j_icmp_eq (pc := 44) 49 C dX6_isWord_44 (by decide) ?_ ?_
      ·
        refine j_iinc (pc := 49) 2 (x2 + 1) [(2, .int (x2 + 1)), (0, .ref (gA G 1)), (1, .ref (gK G x1))] C dX6_isWord_49 rfl rfl (Nat.le_of_ble_eq_true rfl) rfl ?_
        refine j_goto (pc := 52) 20 C dX6_isWord_52 (by decide) ?_
        refine j_sub [1, 2, 0] rfl ?_
        exact ih (x2 + 1) S
      ·
        refine j_iconst (pc := 47) 0 C dX6_isWord_47 (by decide) ?_
        exact j_zretc C dX6_isWord_48 rfl (Nat.le_of_ble_eq_true rfl) (Nat.le_of_ble_eq_true rfl) rfl
theorem bC_Tape_isWord_v43 {E : Ec} {G : Gc}  {x1 : Nat}  (C : JC E (VC G 3 0 0 RX6) cX6_isWord 5 (some .boolean))  (hs_x1 : x1 < 40)   (S : St) : J E (VC G 3 0 0 RX6) 0 0 0 [(0, .ref (gA G 1)), (1, .ref (gK G x1))] [] S (fC_Tape_isWord_v43 x1  S) := by
  unfold fC_Tape_isWord_v43
  refine j_aload_n (pc := 0) 0 C dX6_isWord_0 rfl rfl ?_
  refine gC_1_6 (pc := 1) C dX6_isWord_1 q_62 ?_
  refine j_aload_n (pc := 4) 0 C dX6_isWord_4 rfl rfl ?_
  refine gC_1_7 (pc := 5) C dX6_isWord_5 q_86 ?_
  refine j_isub (pc := 8) C dX6_isWord_8 ?_
  refine j_aload_n (pc := 9) 1 C dX6_isWord_9 rfl rfl ?_
  refine j_slen (pc := 10) C dX6_isWord_10 q_91 hs_x1 (by omega) (Nat.le_of_ble_eq_true rfl) (Nat.le_of_ble_eq_true rfl) (Nat.le_of_ble_eq_true rfl) ?_
  refine j_icmp_eq (pc := 13) 18 C dX6_isWord_13 (by decide) ?_ ?_
  ·
    refine j_iconst (pc := 18) 0 C dX6_isWord_18 (by decide) ?_
    refine j_istore_n (pc := 19) [(2, .int 0), (0, .ref (gA G 1)), (1, .ref (gK G x1))] C dX6_isWord_19 rfl (Nat.le_of_ble_eq_true rfl) rfl ?_
    refine j_sub [1, 2, 0] rfl ?_
    exact bC_Tape_isWord_v43_20 C hs_x1 FU 0 S
  ·
    refine j_iconst (pc := 16) 0 C dX6_isWord_16 (by decide) ?_
    exact j_zretc C dX6_isWord_17 rfl (Nat.le_of_ble_eq_true rfl) (Nat.le_of_ble_eq_true rfl) rfl
theorem cC_Tape_isWord_v43 {l : Launch} {G : Gc} (hfl : l.stackTraces = false) (hW : Wok G wC 54) {x1 : Nat} (hs_x1 : x1 < 40)  (S : St) : Ct l yX6_isWord (Cond.code yX6_isWord cX6_isWord 3 (some .boolean) :: tblG) 5 0 0 G wC 54 [.ref (gA G 1), .ref (gK G x1)] S (fC_Tape_isWord_v43 x1 S) := ct_of (own := RX6) hfl (by decide +kernel) rfl hW (Nat.le_of_ble_eq_true rfl) (fun E hE C => by subst hE; exact bC_Tape_isWord_v43 C hs_x1   S)
theorem rC_Tape_isWord_v43 {E : Ec} {G : Gc} {nL mc ms : Nat} {own : String} {cc : ByteArray} {L : Nat} {ret : Option FieldType} {k n pc ix : Nat} {loc : List (Nat × Value)} {rest : List Value}  {x1 : Nat} {S : St} (hs_x1 : x1 < 40) (C : JC E (VC G nL mc ms own) cc L ret) (hd : decode cc pc = .ok (.invokevirtual ix, 3)) (hq : Cond.methodLink own ix yX6_isWord ∈ tblG) (hL : 5 + 1 ≤ L) (hW : (rest.map fun v => v.category).sum ≤ 8) (hf : k + 0 ≤ mc ∧ n + 0 ≤ ms) : Rn E (VC G nL mc ms own) k n 0 0 pc loc (.ref (gK G x1) :: .ref (gA G 1) :: rest) rest S (fC_Tape_isWord_v43 x1 S) := rn_V (ci := 6) 1 (V := VC G nL mc ms own) (As := [.ref (gK G x1)]) (Cq := (RX6, TX6, 8)) (cC_Tape_isWord_v43 C.flags C.wok hs_x1  S) knX6_isWord ⟨q_94, q_95⟩ rfl rfl C hd hq hL rfl rfl hW hf

theorem bC_Tape_isWord_v44_20 {E : Ec} {G : Gc}  {x1 : Nat}  (C : JC E (VC G 3 0 0 RX6) cX6_isWord 5 (some .boolean))  (hs_x1 : x1 < 40)  : ∀ (n : Nat) (x2 : Int32) (S : St), J E (VC G 3 0 0 RX6) 0 0 20 [(0, .ref (gA G 1)), (1, .ref (gK G x1)), (2, .int x2)] [] S (fC_Tape_isWord_v44_20 x1 n x2 S) := by
  intro n
  induction n with
  | zero => intro x2 S; rw [fC_Tape_isWord_v44_20]; exact j_none
  | succ n ih =>
    intro x2 S
    rw [fC_Tape_isWord_v44_20]
    refine j_iload_n (pc := 20) 2 C dX6_isWord_20 rfl rfl ?_
    refine j_aload_n (pc := 21) 1 C dX6_isWord_21 rfl rfl ?_
    refine j_slen (pc := 22) C dX6_isWord_22 q_91 hs_x1 (by omega) (Nat.le_of_ble_eq_true rfl) (Nat.le_of_ble_eq_true rfl) (Nat.le_of_ble_eq_true rfl) ?_
    refine j_icmp_ge (pc := 25) 55 C dX6_isWord_25 (by decide) ?_ ?_
    ·
      refine j_iconst (pc := 55) 1 C dX6_isWord_55 (by decide) ?_
      exact j_zretc C dX6_isWord_56 rfl (Nat.le_of_ble_eq_true rfl) (Nat.le_of_ble_eq_true rfl) rfl
    ·
      refine j_aload_n (pc := 28) 0 C dX6_isWord_28 rfl rfl ?_
      refine gC_1_0 (pc := 29) C dX6_isWord_29 q_33 ?_
      refine j_aload_n (pc := 32) 0 C dX6_isWord_32 rfl rfl ?_
      refine gC_1_7 (pc := 33) C dX6_isWord_33 q_86 ?_
      refine j_iload_n (pc := 36) 2 C dX6_isWord_36 rfl rfl ?_
      refine j_iadd (pc := 37) C dX6_isWord_37 ?_
      refine aC_14 (pc := 38) C dX6_isWord_38 ?_
      refine j_aload_n (pc := 39) 1 C dX6_isWord_39 rfl rfl ?_
      refine j_iload_n (pc := 40) 2 C dX6_isWord_40 rfl rfl ?_
      refine j_schar (pc := 41) C dX6_isWord_41 q_92 hs_x1 (by omega) (Nat.le_of_ble_eq_true rfl) (Nat.le_of_ble_eq_true rfl) (Nat.le_of_ble_eq_true rfl) ?_
      refine j_icmp_eq (pc := 44) 49 C dX6_isWord_44 (by decide) ?_ ?_
      ·
        refine j_iinc (pc := 49) 2 (x2 + 1) [(2, .int (x2 + 1)), (0, .ref (gA G 1)), (1, .ref (gK G x1))] C dX6_isWord_49 rfl rfl (Nat.le_of_ble_eq_true rfl) rfl ?_
        refine j_goto (pc := 52) 20 C dX6_isWord_52 (by decide) ?_
        refine j_sub [1, 2, 0] rfl ?_
        exact ih (x2 + 1) S
      ·
        refine j_iconst (pc := 47) 0 C dX6_isWord_47 (by decide) ?_
        exact j_zretc C dX6_isWord_48 rfl (Nat.le_of_ble_eq_true rfl) (Nat.le_of_ble_eq_true rfl) rfl
theorem bC_Tape_isWord_v44 {E : Ec} {G : Gc}  {x1 : Nat}  (C : JC E (VC G 3 0 0 RX6) cX6_isWord 5 (some .boolean))  (hs_x1 : x1 < 40)   (S : St) : J E (VC G 3 0 0 RX6) 0 0 0 [(0, .ref (gA G 1)), (1, .ref (gK G x1))] [] S (fC_Tape_isWord_v44 x1  S) := by
  unfold fC_Tape_isWord_v44
  refine j_aload_n (pc := 0) 0 C dX6_isWord_0 rfl rfl ?_
  refine gC_1_6 (pc := 1) C dX6_isWord_1 q_62 ?_
  refine j_aload_n (pc := 4) 0 C dX6_isWord_4 rfl rfl ?_
  refine gC_1_7 (pc := 5) C dX6_isWord_5 q_86 ?_
  refine j_isub (pc := 8) C dX6_isWord_8 ?_
  refine j_aload_n (pc := 9) 1 C dX6_isWord_9 rfl rfl ?_
  refine j_slen (pc := 10) C dX6_isWord_10 q_91 hs_x1 (by omega) (Nat.le_of_ble_eq_true rfl) (Nat.le_of_ble_eq_true rfl) (Nat.le_of_ble_eq_true rfl) ?_
  refine j_icmp_eq (pc := 13) 18 C dX6_isWord_13 (by decide) ?_ ?_
  ·
    refine j_iconst (pc := 18) 0 C dX6_isWord_18 (by decide) ?_
    refine j_istore_n (pc := 19) [(2, .int 0), (0, .ref (gA G 1)), (1, .ref (gK G x1))] C dX6_isWord_19 rfl (Nat.le_of_ble_eq_true rfl) rfl ?_
    refine j_sub [1, 2, 0] rfl ?_
    exact bC_Tape_isWord_v44_20 C hs_x1 FU 0 S
  ·
    refine j_iconst (pc := 16) 0 C dX6_isWord_16 (by decide) ?_
    exact j_zretc C dX6_isWord_17 rfl (Nat.le_of_ble_eq_true rfl) (Nat.le_of_ble_eq_true rfl) rfl
theorem cC_Tape_isWord_v44 {l : Launch} {G : Gc} (hfl : l.stackTraces = false) (hW : Wok G wC 54) {x1 : Nat} (hs_x1 : x1 < 40)  (S : St) : Ct l yX6_isWord (Cond.code yX6_isWord cX6_isWord 3 (some .boolean) :: tblG) 5 0 0 G wC 54 [.ref (gA G 1), .ref (gK G x1)] S (fC_Tape_isWord_v44 x1 S) := ct_of (own := RX6) hfl (by decide +kernel) rfl hW (Nat.le_of_ble_eq_true rfl) (fun E hE C => by subst hE; exact bC_Tape_isWord_v44 C hs_x1   S)
theorem rC_Tape_isWord_v44 {E : Ec} {G : Gc} {nL mc ms : Nat} {own : String} {cc : ByteArray} {L : Nat} {ret : Option FieldType} {k n pc ix : Nat} {loc : List (Nat × Value)} {rest : List Value}  {x1 : Nat} {S : St} (hs_x1 : x1 < 40) (C : JC E (VC G nL mc ms own) cc L ret) (hd : decode cc pc = .ok (.invokevirtual ix, 3)) (hq : Cond.methodLink own ix yX6_isWord ∈ tblG) (hL : 5 + 1 ≤ L) (hW : (rest.map fun v => v.category).sum ≤ 8) (hf : k + 0 ≤ mc ∧ n + 0 ≤ ms) : Rn E (VC G nL mc ms own) k n 0 0 pc loc (.ref (gK G x1) :: .ref (gA G 1) :: rest) rest S (fC_Tape_isWord_v44 x1 S) := rn_V (ci := 6) 1 (V := VC G nL mc ms own) (As := [.ref (gK G x1)]) (Cq := (RX6, TX6, 8)) (cC_Tape_isWord_v44 C.flags C.wok hs_x1  S) knX6_isWord ⟨q_94, q_95⟩ rfl rfl C hd hq hL rfl rfl hW hf

theorem bC_Tape_isWord_v45_20 {E : Ec} {G : Gc}  {x1 : Nat}  (C : JC E (VC G 3 0 0 RX6) cX6_isWord 5 (some .boolean))  (hs_x1 : x1 < 40)  : ∀ (n : Nat) (x2 : Int32) (S : St), J E (VC G 3 0 0 RX6) 0 0 20 [(0, .ref (gA G 1)), (1, .ref (gK G x1)), (2, .int x2)] [] S (fC_Tape_isWord_v45_20 x1 n x2 S) := by
  intro n
  induction n with
  | zero => intro x2 S; rw [fC_Tape_isWord_v45_20]; exact j_none
  | succ n ih =>
    intro x2 S
    rw [fC_Tape_isWord_v45_20]
    refine j_iload_n (pc := 20) 2 C dX6_isWord_20 rfl rfl ?_
    refine j_aload_n (pc := 21) 1 C dX6_isWord_21 rfl rfl ?_
    refine j_slen (pc := 22) C dX6_isWord_22 q_91 hs_x1 (by omega) (Nat.le_of_ble_eq_true rfl) (Nat.le_of_ble_eq_true rfl) (Nat.le_of_ble_eq_true rfl) ?_
    refine j_icmp_ge (pc := 25) 55 C dX6_isWord_25 (by decide) ?_ ?_
    ·
      refine j_iconst (pc := 55) 1 C dX6_isWord_55 (by decide) ?_
      exact j_zretc C dX6_isWord_56 rfl (Nat.le_of_ble_eq_true rfl) (Nat.le_of_ble_eq_true rfl) rfl
    ·
      refine j_aload_n (pc := 28) 0 C dX6_isWord_28 rfl rfl ?_
      refine gC_1_0 (pc := 29) C dX6_isWord_29 q_33 ?_
      refine j_aload_n (pc := 32) 0 C dX6_isWord_32 rfl rfl ?_
      refine gC_1_7 (pc := 33) C dX6_isWord_33 q_86 ?_
      refine j_iload_n (pc := 36) 2 C dX6_isWord_36 rfl rfl ?_
      refine j_iadd (pc := 37) C dX6_isWord_37 ?_
      refine aC_14 (pc := 38) C dX6_isWord_38 ?_
      refine j_aload_n (pc := 39) 1 C dX6_isWord_39 rfl rfl ?_
      refine j_iload_n (pc := 40) 2 C dX6_isWord_40 rfl rfl ?_
      refine j_schar (pc := 41) C dX6_isWord_41 q_92 hs_x1 (by omega) (Nat.le_of_ble_eq_true rfl) (Nat.le_of_ble_eq_true rfl) (Nat.le_of_ble_eq_true rfl) ?_
      refine j_icmp_eq (pc := 44) 49 C dX6_isWord_44 (by decide) ?_ ?_
      ·
        refine j_iinc (pc := 49) 2 (x2 + 1) [(2, .int (x2 + 1)), (0, .ref (gA G 1)), (1, .ref (gK G x1))] C dX6_isWord_49 rfl rfl (Nat.le_of_ble_eq_true rfl) rfl ?_
        refine j_goto (pc := 52) 20 C dX6_isWord_52 (by decide) ?_
        refine j_sub [1, 2, 0] rfl ?_
        exact ih (x2 + 1) S
      ·
        refine j_iconst (pc := 47) 0 C dX6_isWord_47 (by decide) ?_
        exact j_zretc C dX6_isWord_48 rfl (Nat.le_of_ble_eq_true rfl) (Nat.le_of_ble_eq_true rfl) rfl
theorem bC_Tape_isWord_v45 {E : Ec} {G : Gc}  {x1 : Nat}  (C : JC E (VC G 3 0 0 RX6) cX6_isWord 5 (some .boolean))  (hs_x1 : x1 < 40)   (S : St) : J E (VC G 3 0 0 RX6) 0 0 0 [(0, .ref (gA G 1)), (1, .ref (gK G x1))] [] S (fC_Tape_isWord_v45 x1  S) := by
  unfold fC_Tape_isWord_v45
  refine j_aload_n (pc := 0) 0 C dX6_isWord_0 rfl rfl ?_
  refine gC_1_6 (pc := 1) C dX6_isWord_1 q_62 ?_
  refine j_aload_n (pc := 4) 0 C dX6_isWord_4 rfl rfl ?_
  refine gC_1_7 (pc := 5) C dX6_isWord_5 q_86 ?_
  refine j_isub (pc := 8) C dX6_isWord_8 ?_
  refine j_aload_n (pc := 9) 1 C dX6_isWord_9 rfl rfl ?_
  refine j_slen (pc := 10) C dX6_isWord_10 q_91 hs_x1 (by omega) (Nat.le_of_ble_eq_true rfl) (Nat.le_of_ble_eq_true rfl) (Nat.le_of_ble_eq_true rfl) ?_
  refine j_icmp_eq (pc := 13) 18 C dX6_isWord_13 (by decide) ?_ ?_
  ·
    refine j_iconst (pc := 18) 0 C dX6_isWord_18 (by decide) ?_
    refine j_istore_n (pc := 19) [(2, .int 0), (0, .ref (gA G 1)), (1, .ref (gK G x1))] C dX6_isWord_19 rfl (Nat.le_of_ble_eq_true rfl) rfl ?_
    refine j_sub [1, 2, 0] rfl ?_
    exact bC_Tape_isWord_v45_20 C hs_x1 FU 0 S
  ·
    refine j_iconst (pc := 16) 0 C dX6_isWord_16 (by decide) ?_
    exact j_zretc C dX6_isWord_17 rfl (Nat.le_of_ble_eq_true rfl) (Nat.le_of_ble_eq_true rfl) rfl
theorem cC_Tape_isWord_v45 {l : Launch} {G : Gc} (hfl : l.stackTraces = false) (hW : Wok G wC 54) {x1 : Nat} (hs_x1 : x1 < 40)  (S : St) : Ct l yX6_isWord (Cond.code yX6_isWord cX6_isWord 3 (some .boolean) :: tblG) 5 0 0 G wC 54 [.ref (gA G 1), .ref (gK G x1)] S (fC_Tape_isWord_v45 x1 S) := ct_of (own := RX6) hfl (by decide +kernel) rfl hW (Nat.le_of_ble_eq_true rfl) (fun E hE C => by subst hE; exact bC_Tape_isWord_v45 C hs_x1   S)
theorem rC_Tape_isWord_v45 {E : Ec} {G : Gc} {nL mc ms : Nat} {own : String} {cc : ByteArray} {L : Nat} {ret : Option FieldType} {k n pc ix : Nat} {loc : List (Nat × Value)} {rest : List Value}  {x1 : Nat} {S : St} (hs_x1 : x1 < 40) (C : JC E (VC G nL mc ms own) cc L ret) (hd : decode cc pc = .ok (.invokevirtual ix, 3)) (hq : Cond.methodLink own ix yX6_isWord ∈ tblG) (hL : 5 + 1 ≤ L) (hW : (rest.map fun v => v.category).sum ≤ 8) (hf : k + 0 ≤ mc ∧ n + 0 ≤ ms) : Rn E (VC G nL mc ms own) k n 0 0 pc loc (.ref (gK G x1) :: .ref (gA G 1) :: rest) rest S (fC_Tape_isWord_v45 x1 S) := rn_V (ci := 6) 1 (V := VC G nL mc ms own) (As := [.ref (gK G x1)]) (Cq := (RX6, TX6, 8)) (cC_Tape_isWord_v45 C.flags C.wok hs_x1  S) knX6_isWord ⟨q_94, q_95⟩ rfl rfl C hd hq hL rfl rfl hW hf

theorem bC_Tape_isWord_v46_20 {E : Ec} {G : Gc}  {x1 : Nat}  (C : JC E (VC G 3 0 0 RX6) cX6_isWord 5 (some .boolean))  (hs_x1 : x1 < 40)  : ∀ (n : Nat) (x2 : Int32) (S : St), J E (VC G 3 0 0 RX6) 0 0 20 [(0, .ref (gA G 1)), (1, .ref (gK G x1)), (2, .int x2)] [] S (fC_Tape_isWord_v46_20 x1 n x2 S) := by
  intro n
  induction n with
  | zero => intro x2 S; rw [fC_Tape_isWord_v46_20]; exact j_none
  | succ n ih =>
    intro x2 S
    rw [fC_Tape_isWord_v46_20]
    refine j_iload_n (pc := 20) 2 C dX6_isWord_20 rfl rfl ?_
    refine j_aload_n (pc := 21) 1 C dX6_isWord_21 rfl rfl ?_
    refine j_slen (pc := 22) C dX6_isWord_22 q_91 hs_x1 (by omega) (Nat.le_of_ble_eq_true rfl) (Nat.le_of_ble_eq_true rfl) (Nat.le_of_ble_eq_true rfl) ?_
    refine j_icmp_ge (pc := 25) 55 C dX6_isWord_25 (by decide) ?_ ?_
    ·
      refine j_iconst (pc := 55) 1 C dX6_isWord_55 (by decide) ?_
      exact j_zretc C dX6_isWord_56 rfl (Nat.le_of_ble_eq_true rfl) (Nat.le_of_ble_eq_true rfl) rfl
    ·
      refine j_aload_n (pc := 28) 0 C dX6_isWord_28 rfl rfl ?_
      refine gC_1_0 (pc := 29) C dX6_isWord_29 q_33 ?_
      refine j_aload_n (pc := 32) 0 C dX6_isWord_32 rfl rfl ?_
      refine gC_1_7 (pc := 33) C dX6_isWord_33 q_86 ?_
      refine j_iload_n (pc := 36) 2 C dX6_isWord_36 rfl rfl ?_
      refine j_iadd (pc := 37) C dX6_isWord_37 ?_
      refine aC_14 (pc := 38) C dX6_isWord_38 ?_
      refine j_aload_n (pc := 39) 1 C dX6_isWord_39 rfl rfl ?_
      refine j_iload_n (pc := 40) 2 C dX6_isWord_40 rfl rfl ?_
      refine j_schar (pc := 41) C dX6_isWord_41 q_92 hs_x1 (by omega) (Nat.le_of_ble_eq_true rfl) (Nat.le_of_ble_eq_true rfl) (Nat.le_of_ble_eq_true rfl) ?_
      refine j_icmp_eq (pc := 44) 49 C dX6_isWord_44 (by decide) ?_ ?_
      ·
        refine j_iinc (pc := 49) 2 (x2 + 1) [(2, .int (x2 + 1)), (0, .ref (gA G 1)), (1, .ref (gK G x1))] C dX6_isWord_49 rfl rfl (Nat.le_of_ble_eq_true rfl) rfl ?_
        refine j_goto (pc := 52) 20 C dX6_isWord_52 (by decide) ?_
        refine j_sub [1, 2, 0] rfl ?_
        exact ih (x2 + 1) S
      ·
        refine j_iconst (pc := 47) 0 C dX6_isWord_47 (by decide) ?_
        exact j_zretc C dX6_isWord_48 rfl (Nat.le_of_ble_eq_true rfl) (Nat.le_of_ble_eq_true rfl) rfl
theorem bC_Tape_isWord_v46 {E : Ec} {G : Gc}  {x1 : Nat}  (C : JC E (VC G 3 0 0 RX6) cX6_isWord 5 (some .boolean))  (hs_x1 : x1 < 40)   (S : St) : J E (VC G 3 0 0 RX6) 0 0 0 [(0, .ref (gA G 1)), (1, .ref (gK G x1))] [] S (fC_Tape_isWord_v46 x1  S) := by
  unfold fC_Tape_isWord_v46
  refine j_aload_n (pc := 0) 0 C dX6_isWord_0 rfl rfl ?_
  refine gC_1_6 (pc := 1) C dX6_isWord_1 q_62 ?_
  refine j_aload_n (pc := 4) 0 C dX6_isWord_4 rfl rfl ?_
  refine gC_1_7 (pc := 5) C dX6_isWord_5 q_86 ?_
  refine j_isub (pc := 8) C dX6_isWord_8 ?_
  refine j_aload_n (pc := 9) 1 C dX6_isWord_9 rfl rfl ?_
  refine j_slen (pc := 10) C dX6_isWord_10 q_91 hs_x1 (by omega) (Nat.le_of_ble_eq_true rfl) (Nat.le_of_ble_eq_true rfl) (Nat.le_of_ble_eq_true rfl) ?_
  refine j_icmp_eq (pc := 13) 18 C dX6_isWord_13 (by decide) ?_ ?_
  ·
    refine j_iconst (pc := 18) 0 C dX6_isWord_18 (by decide) ?_
    refine j_istore_n (pc := 19) [(2, .int 0), (0, .ref (gA G 1)), (1, .ref (gK G x1))] C dX6_isWord_19 rfl (Nat.le_of_ble_eq_true rfl) rfl ?_
    refine j_sub [1, 2, 0] rfl ?_
    exact bC_Tape_isWord_v46_20 C hs_x1 FU 0 S
  ·
    refine j_iconst (pc := 16) 0 C dX6_isWord_16 (by decide) ?_
    exact j_zretc C dX6_isWord_17 rfl (Nat.le_of_ble_eq_true rfl) (Nat.le_of_ble_eq_true rfl) rfl
theorem cC_Tape_isWord_v46 {l : Launch} {G : Gc} (hfl : l.stackTraces = false) (hW : Wok G wC 54) {x1 : Nat} (hs_x1 : x1 < 40)  (S : St) : Ct l yX6_isWord (Cond.code yX6_isWord cX6_isWord 3 (some .boolean) :: tblG) 5 0 0 G wC 54 [.ref (gA G 1), .ref (gK G x1)] S (fC_Tape_isWord_v46 x1 S) := ct_of (own := RX6) hfl (by decide +kernel) rfl hW (Nat.le_of_ble_eq_true rfl) (fun E hE C => by subst hE; exact bC_Tape_isWord_v46 C hs_x1   S)
theorem rC_Tape_isWord_v46 {E : Ec} {G : Gc} {nL mc ms : Nat} {own : String} {cc : ByteArray} {L : Nat} {ret : Option FieldType} {k n pc ix : Nat} {loc : List (Nat × Value)} {rest : List Value}  {x1 : Nat} {S : St} (hs_x1 : x1 < 40) (C : JC E (VC G nL mc ms own) cc L ret) (hd : decode cc pc = .ok (.invokevirtual ix, 3)) (hq : Cond.methodLink own ix yX6_isWord ∈ tblG) (hL : 5 + 1 ≤ L) (hW : (rest.map fun v => v.category).sum ≤ 8) (hf : k + 0 ≤ mc ∧ n + 0 ≤ ms) : Rn E (VC G nL mc ms own) k n 0 0 pc loc (.ref (gK G x1) :: .ref (gA G 1) :: rest) rest S (fC_Tape_isWord_v46 x1 S) := rn_V (ci := 6) 1 (V := VC G nL mc ms own) (As := [.ref (gK G x1)]) (Cq := (RX6, TX6, 8)) (cC_Tape_isWord_v46 C.flags C.wok hs_x1  S) knX6_isWord ⟨q_94, q_95⟩ rfl rfl C hd hq hL rfl rfl hW hf

theorem bC_Tape_isWord_v47_20 {E : Ec} {G : Gc}  {x1 : Nat}  (C : JC E (VC G 3 0 0 RX6) cX6_isWord 5 (some .boolean))  (hs_x1 : x1 < 40)  : ∀ (n : Nat) (x2 : Int32) (S : St), J E (VC G 3 0 0 RX6) 0 0 20 [(0, .ref (gA G 1)), (1, .ref (gK G x1)), (2, .int x2)] [] S (fC_Tape_isWord_v47_20 x1 n x2 S) := by
  intro n
  induction n with
  | zero => intro x2 S; rw [fC_Tape_isWord_v47_20]; exact j_none
  | succ n ih =>
    intro x2 S
    rw [fC_Tape_isWord_v47_20]
    refine j_iload_n (pc := 20) 2 C dX6_isWord_20 rfl rfl ?_
    refine j_aload_n (pc := 21) 1 C dX6_isWord_21 rfl rfl ?_
    refine j_slen (pc := 22) C dX6_isWord_22 q_91 hs_x1 (by omega) (Nat.le_of_ble_eq_true rfl) (Nat.le_of_ble_eq_true rfl) (Nat.le_of_ble_eq_true rfl) ?_
    refine j_icmp_ge (pc := 25) 55 C dX6_isWord_25 (by decide) ?_ ?_
    ·
      refine j_iconst (pc := 55) 1 C dX6_isWord_55 (by decide) ?_
      exact j_zretc C dX6_isWord_56 rfl (Nat.le_of_ble_eq_true rfl) (Nat.le_of_ble_eq_true rfl) rfl
    ·
      refine j_aload_n (pc := 28) 0 C dX6_isWord_28 rfl rfl ?_
      refine gC_1_0 (pc := 29) C dX6_isWord_29 q_33 ?_
      refine j_aload_n (pc := 32) 0 C dX6_isWord_32 rfl rfl ?_
      refine gC_1_7 (pc := 33) C dX6_isWord_33 q_86 ?_
      refine j_iload_n (pc := 36) 2 C dX6_isWord_36 rfl rfl ?_
      refine j_iadd (pc := 37) C dX6_isWord_37 ?_
      refine aC_14 (pc := 38) C dX6_isWord_38 ?_
      refine j_aload_n (pc := 39) 1 C dX6_isWord_39 rfl rfl ?_
      refine j_iload_n (pc := 40) 2 C dX6_isWord_40 rfl rfl ?_
      refine j_schar (pc := 41) C dX6_isWord_41 q_92 hs_x1 (by omega) (Nat.le_of_ble_eq_true rfl) (Nat.le_of_ble_eq_true rfl) (Nat.le_of_ble_eq_true rfl) ?_
      refine j_icmp_eq (pc := 44) 49 C dX6_isWord_44 (by decide) ?_ ?_
      ·
        refine j_iinc (pc := 49) 2 (x2 + 1) [(2, .int (x2 + 1)), (0, .ref (gA G 1)), (1, .ref (gK G x1))] C dX6_isWord_49 rfl rfl (Nat.le_of_ble_eq_true rfl) rfl ?_
        refine j_goto (pc := 52) 20 C dX6_isWord_52 (by decide) ?_
        refine j_sub [1, 2, 0] rfl ?_
        exact ih (x2 + 1) S
      ·
        refine j_iconst (pc := 47) 0 C dX6_isWord_47 (by decide) ?_
        exact j_zretc C dX6_isWord_48 rfl (Nat.le_of_ble_eq_true rfl) (Nat.le_of_ble_eq_true rfl) rfl
theorem bC_Tape_isWord_v47 {E : Ec} {G : Gc}  {x1 : Nat}  (C : JC E (VC G 3 0 0 RX6) cX6_isWord 5 (some .boolean))  (hs_x1 : x1 < 40)   (S : St) : J E (VC G 3 0 0 RX6) 0 0 0 [(0, .ref (gA G 1)), (1, .ref (gK G x1))] [] S (fC_Tape_isWord_v47 x1  S) := by
  unfold fC_Tape_isWord_v47
  refine j_aload_n (pc := 0) 0 C dX6_isWord_0 rfl rfl ?_
  refine gC_1_6 (pc := 1) C dX6_isWord_1 q_62 ?_
  refine j_aload_n (pc := 4) 0 C dX6_isWord_4 rfl rfl ?_
  refine gC_1_7 (pc := 5) C dX6_isWord_5 q_86 ?_
  refine j_isub (pc := 8) C dX6_isWord_8 ?_
  refine j_aload_n (pc := 9) 1 C dX6_isWord_9 rfl rfl ?_
  refine j_slen (pc := 10) C dX6_isWord_10 q_91 hs_x1 (by omega) (Nat.le_of_ble_eq_true rfl) (Nat.le_of_ble_eq_true rfl) (Nat.le_of_ble_eq_true rfl) ?_
  refine j_icmp_eq (pc := 13) 18 C dX6_isWord_13 (by decide) ?_ ?_
  ·
    refine j_iconst (pc := 18) 0 C dX6_isWord_18 (by decide) ?_
    refine j_istore_n (pc := 19) [(2, .int 0), (0, .ref (gA G 1)), (1, .ref (gK G x1))] C dX6_isWord_19 rfl (Nat.le_of_ble_eq_true rfl) rfl ?_
    refine j_sub [1, 2, 0] rfl ?_
    exact bC_Tape_isWord_v47_20 C hs_x1 FU 0 S
  ·
    refine j_iconst (pc := 16) 0 C dX6_isWord_16 (by decide) ?_
    exact j_zretc C dX6_isWord_17 rfl (Nat.le_of_ble_eq_true rfl) (Nat.le_of_ble_eq_true rfl) rfl
theorem cC_Tape_isWord_v47 {l : Launch} {G : Gc} (hfl : l.stackTraces = false) (hW : Wok G wC 54) {x1 : Nat} (hs_x1 : x1 < 40)  (S : St) : Ct l yX6_isWord (Cond.code yX6_isWord cX6_isWord 3 (some .boolean) :: tblG) 5 0 0 G wC 54 [.ref (gA G 1), .ref (gK G x1)] S (fC_Tape_isWord_v47 x1 S) := ct_of (own := RX6) hfl (by decide +kernel) rfl hW (Nat.le_of_ble_eq_true rfl) (fun E hE C => by subst hE; exact bC_Tape_isWord_v47 C hs_x1   S)
theorem rC_Tape_isWord_v47 {E : Ec} {G : Gc} {nL mc ms : Nat} {own : String} {cc : ByteArray} {L : Nat} {ret : Option FieldType} {k n pc ix : Nat} {loc : List (Nat × Value)} {rest : List Value}  {x1 : Nat} {S : St} (hs_x1 : x1 < 40) (C : JC E (VC G nL mc ms own) cc L ret) (hd : decode cc pc = .ok (.invokevirtual ix, 3)) (hq : Cond.methodLink own ix yX6_isWord ∈ tblG) (hL : 5 + 1 ≤ L) (hW : (rest.map fun v => v.category).sum ≤ 8) (hf : k + 0 ≤ mc ∧ n + 0 ≤ ms) : Rn E (VC G nL mc ms own) k n 0 0 pc loc (.ref (gK G x1) :: .ref (gA G 1) :: rest) rest S (fC_Tape_isWord_v47 x1 S) := rn_V (ci := 6) 1 (V := VC G nL mc ms own) (As := [.ref (gK G x1)]) (Cq := (RX6, TX6, 8)) (cC_Tape_isWord_v47 C.flags C.wok hs_x1  S) knX6_isWord ⟨q_94, q_95⟩ rfl rfl C hd hq hL rfl rfl hW hf

theorem bC_Tape_isWord_v48_20 {E : Ec} {G : Gc}  {x1 : Nat}  (C : JC E (VC G 3 0 0 RX6) cX6_isWord 5 (some .boolean))  (hs_x1 : x1 < 40)  : ∀ (n : Nat) (x2 : Int32) (S : St), J E (VC G 3 0 0 RX6) 0 0 20 [(0, .ref (gA G 1)), (1, .ref (gK G x1)), (2, .int x2)] [] S (fC_Tape_isWord_v48_20 x1 n x2 S) := by
  intro n
  induction n with
  | zero => intro x2 S; rw [fC_Tape_isWord_v48_20]; exact j_none
  | succ n ih =>
    intro x2 S
    rw [fC_Tape_isWord_v48_20]
    refine j_iload_n (pc := 20) 2 C dX6_isWord_20 rfl rfl ?_
    refine j_aload_n (pc := 21) 1 C dX6_isWord_21 rfl rfl ?_
    refine j_slen (pc := 22) C dX6_isWord_22 q_91 hs_x1 (by omega) (Nat.le_of_ble_eq_true rfl) (Nat.le_of_ble_eq_true rfl) (Nat.le_of_ble_eq_true rfl) ?_
    refine j_icmp_ge (pc := 25) 55 C dX6_isWord_25 (by decide) ?_ ?_
    ·
      refine j_iconst (pc := 55) 1 C dX6_isWord_55 (by decide) ?_
      exact j_zretc C dX6_isWord_56 rfl (Nat.le_of_ble_eq_true rfl) (Nat.le_of_ble_eq_true rfl) rfl
    ·
      refine j_aload_n (pc := 28) 0 C dX6_isWord_28 rfl rfl ?_
      refine gC_1_0 (pc := 29) C dX6_isWord_29 q_33 ?_
      refine j_aload_n (pc := 32) 0 C dX6_isWord_32 rfl rfl ?_
      refine gC_1_7 (pc := 33) C dX6_isWord_33 q_86 ?_
      refine j_iload_n (pc := 36) 2 C dX6_isWord_36 rfl rfl ?_
      refine j_iadd (pc := 37) C dX6_isWord_37 ?_
      refine aC_14 (pc := 38) C dX6_isWord_38 ?_
      refine j_aload_n (pc := 39) 1 C dX6_isWord_39 rfl rfl ?_
      refine j_iload_n (pc := 40) 2 C dX6_isWord_40 rfl rfl ?_
      refine j_schar (pc := 41) C dX6_isWord_41 q_92 hs_x1 (by omega) (Nat.le_of_ble_eq_true rfl) (Nat.le_of_ble_eq_true rfl) (Nat.le_of_ble_eq_true rfl) ?_
      refine j_icmp_eq (pc := 44) 49 C dX6_isWord_44 (by decide) ?_ ?_
      ·
        refine j_iinc (pc := 49) 2 (x2 + 1) [(2, .int (x2 + 1)), (0, .ref (gA G 1)), (1, .ref (gK G x1))] C dX6_isWord_49 rfl rfl (Nat.le_of_ble_eq_true rfl) rfl ?_
        refine j_goto (pc := 52) 20 C dX6_isWord_52 (by decide) ?_
        refine j_sub [1, 2, 0] rfl ?_
        exact ih (x2 + 1) S
      ·
        refine j_iconst (pc := 47) 0 C dX6_isWord_47 (by decide) ?_
        exact j_zretc C dX6_isWord_48 rfl (Nat.le_of_ble_eq_true rfl) (Nat.le_of_ble_eq_true rfl) rfl
theorem bC_Tape_isWord_v48 {E : Ec} {G : Gc}  {x1 : Nat}  (C : JC E (VC G 3 0 0 RX6) cX6_isWord 5 (some .boolean))  (hs_x1 : x1 < 40)   (S : St) : J E (VC G 3 0 0 RX6) 0 0 0 [(0, .ref (gA G 1)), (1, .ref (gK G x1))] [] S (fC_Tape_isWord_v48 x1  S) := by
  unfold fC_Tape_isWord_v48
  refine j_aload_n (pc := 0) 0 C dX6_isWord_0 rfl rfl ?_
  refine gC_1_6 (pc := 1) C dX6_isWord_1 q_62 ?_
  refine j_aload_n (pc := 4) 0 C dX6_isWord_4 rfl rfl ?_
  refine gC_1_7 (pc := 5) C dX6_isWord_5 q_86 ?_
  refine j_isub (pc := 8) C dX6_isWord_8 ?_
  refine j_aload_n (pc := 9) 1 C dX6_isWord_9 rfl rfl ?_
  refine j_slen (pc := 10) C dX6_isWord_10 q_91 hs_x1 (by omega) (Nat.le_of_ble_eq_true rfl) (Nat.le_of_ble_eq_true rfl) (Nat.le_of_ble_eq_true rfl) ?_
  refine j_icmp_eq (pc := 13) 18 C dX6_isWord_13 (by decide) ?_ ?_
  ·
    refine j_iconst (pc := 18) 0 C dX6_isWord_18 (by decide) ?_
    refine j_istore_n (pc := 19) [(2, .int 0), (0, .ref (gA G 1)), (1, .ref (gK G x1))] C dX6_isWord_19 rfl (Nat.le_of_ble_eq_true rfl) rfl ?_
    refine j_sub [1, 2, 0] rfl ?_
    exact bC_Tape_isWord_v48_20 C hs_x1 FU 0 S
  ·
    refine j_iconst (pc := 16) 0 C dX6_isWord_16 (by decide) ?_
    exact j_zretc C dX6_isWord_17 rfl (Nat.le_of_ble_eq_true rfl) (Nat.le_of_ble_eq_true rfl) rfl
theorem cC_Tape_isWord_v48 {l : Launch} {G : Gc} (hfl : l.stackTraces = false) (hW : Wok G wC 54) {x1 : Nat} (hs_x1 : x1 < 40)  (S : St) : Ct l yX6_isWord (Cond.code yX6_isWord cX6_isWord 3 (some .boolean) :: tblG) 5 0 0 G wC 54 [.ref (gA G 1), .ref (gK G x1)] S (fC_Tape_isWord_v48 x1 S) := ct_of (own := RX6) hfl (by decide +kernel) rfl hW (Nat.le_of_ble_eq_true rfl) (fun E hE C => by subst hE; exact bC_Tape_isWord_v48 C hs_x1   S)
theorem rC_Tape_isWord_v48 {E : Ec} {G : Gc} {nL mc ms : Nat} {own : String} {cc : ByteArray} {L : Nat} {ret : Option FieldType} {k n pc ix : Nat} {loc : List (Nat × Value)} {rest : List Value}  {x1 : Nat} {S : St} (hs_x1 : x1 < 40) (C : JC E (VC G nL mc ms own) cc L ret) (hd : decode cc pc = .ok (.invokevirtual ix, 3)) (hq : Cond.methodLink own ix yX6_isWord ∈ tblG) (hL : 5 + 1 ≤ L) (hW : (rest.map fun v => v.category).sum ≤ 8) (hf : k + 0 ≤ mc ∧ n + 0 ≤ ms) : Rn E (VC G nL mc ms own) k n 0 0 pc loc (.ref (gK G x1) :: .ref (gA G 1) :: rest) rest S (fC_Tape_isWord_v48 x1 S) := rn_V (ci := 6) 1 (V := VC G nL mc ms own) (As := [.ref (gK G x1)]) (Cq := (RX6, TX6, 8)) (cC_Tape_isWord_v48 C.flags C.wok hs_x1  S) knX6_isWord ⟨q_94, q_95⟩ rfl rfl C hd hq hL rfl rfl hW hf

theorem knX1_factNamed : Kn yX1_factNamed cX1_factNamed 1 (some .int) 1 := ⟨q_203, q_161, by decide +kernel, by decide⟩
theorem bC_Law_factNamed {E : Ec} {G : Gc}    (C : JC E (VC G 1 0 0 RX1) cX1_factNamed 6 (some .int))     (S : St) : J E (VC G 1 0 0 RX1) 0 0 0 [(0, .ref (gA G 1))] [] S (fC_Law_factNamed   S) := by
  unfold fC_Law_factNamed
  refine j_aload_n (pc := 0) 0 C dX1_factNamed_0 rfl rfl ?_
  refine j_ldcS (pc := 1) 7 C dX1_factNamed_1 rfl rfl rfl ?_
  refine j_callI0 (pc := 3) C (rC_Tape_isWord_v41 (by decide) C dX1_factNamed_3 q_202 (by omega) (Nat.le_of_ble_eq_true rfl) ⟨Nat.le_of_ble_eq_true rfl, Nat.le_of_ble_eq_true rfl⟩) ⟨Nat.le_of_ble_eq_true rfl, Nat.le_of_ble_eq_true rfl⟩ (fun r2 T1 => ?_)
  refine j_if_eq (pc := 6) 11 C dX1_factNamed_6 (by decide) ?_ ?_
  ·
    refine j_aload_n (pc := 11) 0 C dX1_factNamed_11 rfl rfl ?_
    refine j_ldcS (pc := 12) 8 C dX1_factNamed_12 rfl rfl rfl ?_
    refine j_callI0 (pc := 14) C (rC_Tape_isWord_v42 (by decide) C dX1_factNamed_14 q_202 (by omega) (Nat.le_of_ble_eq_true rfl) ⟨Nat.le_of_ble_eq_true rfl, Nat.le_of_ble_eq_true rfl⟩) ⟨Nat.le_of_ble_eq_true rfl, Nat.le_of_ble_eq_true rfl⟩ (fun r4 T3 => ?_)
    refine j_if_eq (pc := 17) 22 C dX1_factNamed_17 (by decide) ?_ ?_
    ·
      refine j_aload_n (pc := 22) 0 C dX1_factNamed_22 rfl rfl ?_
      refine j_ldcS (pc := 23) 9 C dX1_factNamed_23 rfl rfl rfl ?_
      refine j_callI0 (pc := 25) C (rC_Tape_isWord_v43 (by decide) C dX1_factNamed_25 q_202 (by omega) (Nat.le_of_ble_eq_true rfl) ⟨Nat.le_of_ble_eq_true rfl, Nat.le_of_ble_eq_true rfl⟩) ⟨Nat.le_of_ble_eq_true rfl, Nat.le_of_ble_eq_true rfl⟩ (fun r6 T5 => ?_)
      refine j_if_eq (pc := 28) 33 C dX1_factNamed_28 (by decide) ?_ ?_
      ·
        refine j_aload_n (pc := 33) 0 C dX1_factNamed_33 rfl rfl ?_
        refine j_ldcS (pc := 34) 10 C dX1_factNamed_34 rfl rfl rfl ?_
        refine j_callI0 (pc := 36) C (rC_Tape_isWord_v44 (by decide) C dX1_factNamed_36 q_202 (by omega) (Nat.le_of_ble_eq_true rfl) ⟨Nat.le_of_ble_eq_true rfl, Nat.le_of_ble_eq_true rfl⟩) ⟨Nat.le_of_ble_eq_true rfl, Nat.le_of_ble_eq_true rfl⟩ (fun r8 T7 => ?_)
        refine j_if_eq (pc := 39) 44 C dX1_factNamed_39 (by decide) ?_ ?_
        ·
          refine j_aload_n (pc := 44) 0 C dX1_factNamed_44 rfl rfl ?_
          refine j_ldcS (pc := 45) 11 C dX1_factNamed_45 rfl rfl rfl ?_
          refine j_callI0 (pc := 47) C (rC_Tape_isWord_v45 (by decide) C dX1_factNamed_47 q_202 (by omega) (Nat.le_of_ble_eq_true rfl) ⟨Nat.le_of_ble_eq_true rfl, Nat.le_of_ble_eq_true rfl⟩) ⟨Nat.le_of_ble_eq_true rfl, Nat.le_of_ble_eq_true rfl⟩ (fun r10 T9 => ?_)
          refine j_if_eq (pc := 50) 55 C dX1_factNamed_50 (by decide) ?_ ?_
          ·
            refine j_aload_n (pc := 55) 0 C dX1_factNamed_55 rfl rfl ?_
            refine j_ldcS (pc := 56) 12 C dX1_factNamed_56 rfl rfl rfl ?_
            refine j_callI0 (pc := 58) C (rC_Tape_isWord_v46 (by decide) C dX1_factNamed_58 q_202 (by omega) (Nat.le_of_ble_eq_true rfl) ⟨Nat.le_of_ble_eq_true rfl, Nat.le_of_ble_eq_true rfl⟩) ⟨Nat.le_of_ble_eq_true rfl, Nat.le_of_ble_eq_true rfl⟩ (fun r12 T11 => ?_)
            refine j_if_eq (pc := 61) 66 C dX1_factNamed_61 (by decide) ?_ ?_
            ·
              refine j_aload_n (pc := 66) 0 C dX1_factNamed_66 rfl rfl ?_
              refine j_ldcS (pc := 67) 13 C dX1_factNamed_67 rfl rfl rfl ?_
              refine j_callI0 (pc := 69) C (rC_Tape_isWord_v47 (by decide) C dX1_factNamed_69 q_202 (by omega) (Nat.le_of_ble_eq_true rfl) ⟨Nat.le_of_ble_eq_true rfl, Nat.le_of_ble_eq_true rfl⟩) ⟨Nat.le_of_ble_eq_true rfl, Nat.le_of_ble_eq_true rfl⟩ (fun r14 T13 => ?_)
              refine j_if_eq (pc := 72) 78 C dX1_factNamed_72 (by decide) ?_ ?_
              ·
                refine j_aload_n (pc := 78) 0 C dX1_factNamed_78 rfl rfl ?_
                refine j_ldcS (pc := 79) 14 C dX1_factNamed_79 rfl rfl rfl ?_
                refine j_callI0 (pc := 81) C (rC_Tape_isWord_v48 (by decide) C dX1_factNamed_81 q_202 (by omega) (Nat.le_of_ble_eq_true rfl) ⟨Nat.le_of_ble_eq_true rfl, Nat.le_of_ble_eq_true rfl⟩) ⟨Nat.le_of_ble_eq_true rfl, Nat.le_of_ble_eq_true rfl⟩ (fun r16 T15 => ?_)
                refine j_if_eq (pc := 84) 92 C dX1_factNamed_84 (by decide) ?_ ?_
                ·
                  refine j_iconst (pc := 92) (-1) C dX1_factNamed_92 (by decide) ?_
                  exact j_iret C dX1_factNamed_93 rfl (Nat.le_of_ble_eq_true rfl) (Nat.le_of_ble_eq_true rfl)
                ·
                  refine j_bipush (pc := 87) 7 C dX1_factNamed_87 (by decide) ?_
                  refine j_goto (pc := 89) 93 C dX1_factNamed_89 (by decide) ?_
                  exact j_iret C dX1_factNamed_93 rfl (Nat.le_of_ble_eq_true rfl) (Nat.le_of_ble_eq_true rfl)
              ·
                refine j_bipush (pc := 75) 6 C dX1_factNamed_75 (by decide) ?_
                exact j_iret C dX1_factNamed_77 rfl (Nat.le_of_ble_eq_true rfl) (Nat.le_of_ble_eq_true rfl)
            ·
              refine j_iconst (pc := 64) 5 C dX1_factNamed_64 (by decide) ?_
              exact j_iret C dX1_factNamed_65 rfl (Nat.le_of_ble_eq_true rfl) (Nat.le_of_ble_eq_true rfl)
          ·
            refine j_iconst (pc := 53) 4 C dX1_factNamed_53 (by decide) ?_
            exact j_iret C dX1_factNamed_54 rfl (Nat.le_of_ble_eq_true rfl) (Nat.le_of_ble_eq_true rfl)
        ·
          refine j_iconst (pc := 42) 3 C dX1_factNamed_42 (by decide) ?_
          exact j_iret C dX1_factNamed_43 rfl (Nat.le_of_ble_eq_true rfl) (Nat.le_of_ble_eq_true rfl)
      ·
        refine j_iconst (pc := 31) 2 C dX1_factNamed_31 (by decide) ?_
        exact j_iret C dX1_factNamed_32 rfl (Nat.le_of_ble_eq_true rfl) (Nat.le_of_ble_eq_true rfl)
    ·
      refine j_iconst (pc := 20) 1 C dX1_factNamed_20 (by decide) ?_
      exact j_iret C dX1_factNamed_21 rfl (Nat.le_of_ble_eq_true rfl) (Nat.le_of_ble_eq_true rfl)
  ·
    refine j_iconst (pc := 9) 0 C dX1_factNamed_9 (by decide) ?_
    exact j_iret C dX1_factNamed_10 rfl (Nat.le_of_ble_eq_true rfl) (Nat.le_of_ble_eq_true rfl)
theorem cC_Law_factNamed {l : Launch} {G : Gc} (hfl : l.stackTraces = false) (hW : Wok G wC 54)    (S : St) : Ct l yX1_factNamed (Cond.code yX1_factNamed cX1_factNamed 1 (some .int) :: tblG) 6 0 0 G wC 54 [.ref (gA G 1)] S (fC_Law_factNamed  S) := ct_of (own := RX1) hfl (by decide +kernel) rfl hW (Nat.le_of_ble_eq_true rfl) (fun E hE C => by subst hE; exact bC_Law_factNamed C    S)
theorem rC_Law_factNamed {E : Ec} {G : Gc} {nL mc ms : Nat} {own : String} {cc : ByteArray} {L : Nat} {ret : Option FieldType} {k n pc ix : Nat} {loc : List (Nat × Value)} {rest : List Value}   {S : St}  (C : JC E (VC G nL mc ms own) cc L ret) (hd : decode cc pc = .ok (.invokestatic ix, 3)) (hq : Cond.methodLink own ix yX1_factNamed ∈ tblG) (hL : 6 + 1 ≤ L) (hW : (rest.map fun v => v.category).sum ≤ 8) (hf : k + 0 ≤ mc ∧ n + 0 ≤ ms) : Rn E (VC G nL mc ms own) k n 0 0 pc loc (.ref (gA G 1) :: rest) rest S (fC_Law_factNamed  S) := rn_S (V := VC G nL mc ms own) (As := [.ref (gA G 1)]) (cC_Law_factNamed C.flags C.wok   S) knX1_factNamed q_204  C hd hq hL rfl rfl hW hf

theorem bC_Law_put_5 {E : Ec} {G : Gc}    (C : JC E (VC G 2 0 0 RX1) cX1_put 1 (some .boolean))    (x1 : Int32) (S : St) : J E (VC G 2 0 0 RX1) 0 0 0 [(0, .ref (gA G 5)), (1, .int x1)] [] S (fC_Law_put_5  x1 S) := by
  unfold fC_Law_put_5
  refine j_aload_n (pc := 0) 0 C dX1_put_0 rfl rfl ?_
  refine gC_5_1 (pc := 1) C dX1_put_1 q_158 ?_
  refine j_sipush (pc := 4) 160 C dX1_put_4 (by decide) ?_
  refine j_icmp_lt (pc := 7) 12 C dX1_put_7 (by decide) ?_ ?_
  ·
    refine j_aload_n (pc := 12) 0 C dX1_put_12 rfl rfl ?_
    refine gC_5_0 (pc := 13) C dX1_put_13 q_159 ?_
    refine j_aload_n (pc := 16) 0 C dX1_put_16 rfl rfl ?_
    refine gC_5_1 (pc := 17) C dX1_put_17 q_158 ?_
    refine j_iload_n (pc := 20) 1 C dX1_put_20 rfl rfl ?_
    refine sC_34 (pc := 21) C dX1_put_21 ?_
    refine j_nxS (fun T1 => ?_)
    refine j_aload_n (pc := 22) 0 C dX1_put_22 rfl rfl ?_
    refine j_dup (pc := 23) C dX1_put_23 rfl ?_
    refine gC_5_1 (pc := 24) C dX1_put_24 q_158 ?_
    refine j_iconst (pc := 27) 1 C dX1_put_27 (by decide) ?_
    refine j_iadd (pc := 28) C dX1_put_28 ?_
    refine pC_5_1 (pc := 29) C dX1_put_29 q_158 ?_
    refine j_nxS (fun T2 => ?_)
    refine j_iconst (pc := 32) 1 C dX1_put_32 (by decide) ?_
    exact j_zretc C dX1_put_33 rfl (Nat.le_of_ble_eq_true rfl) (Nat.le_of_ble_eq_true rfl) rfl
  ·
    refine j_iconst (pc := 10) 0 C dX1_put_10 (by decide) ?_
    exact j_zretc C dX1_put_11 rfl (Nat.le_of_ble_eq_true rfl) (Nat.le_of_ble_eq_true rfl) rfl
theorem cC_Law_put_5 {l : Launch} {G : Gc} (hfl : l.stackTraces = false) (hW : Wok G wC 54)   (x1 : Int32) (S : St) : Ct l yX1_put (Cond.code yX1_put cX1_put 2 (some .boolean) :: tblG) 1 0 0 G wC 54 [.ref (gA G 5), .int x1] S (fC_Law_put_5 x1 S) := ct_of (own := RX1) hfl (by decide +kernel) rfl hW (Nat.le_of_ble_eq_true rfl) (fun E hE C => by subst hE; exact bC_Law_put_5 C   x1 S)
theorem rC_Law_put_5 {E : Ec} {G : Gc} {nL mc ms : Nat} {own : String} {cc : ByteArray} {L : Nat} {ret : Option FieldType} {k n pc ix : Nat} {loc : List (Nat × Value)} {rest : List Value}  {x1 : Int32} {S : St}  (C : JC E (VC G nL mc ms own) cc L ret) (hd : decode cc pc = .ok (.invokevirtual ix, 3)) (hq : Cond.methodLink own ix yX1_put ∈ tblG) (hL : 1 + 1 ≤ L) (hW : (rest.map fun v => v.category).sum ≤ 8) (hf : k + 0 ≤ mc ∧ n + 0 ≤ ms) : Rn E (VC G nL mc ms own) k n 0 0 pc loc (.int x1 :: .ref (gA G 5) :: rest) rest S (fC_Law_put_5 x1 S) := rn_V (ci := 1) 5 (V := VC G nL mc ms own) (As := [.int x1]) (Cq := (RX1, TX1, 4)) (cC_Law_put_5 C.flags C.wok  x1 S) knX1_put ⟨q_162, q_163⟩ rfl rfl C hd hq hL rfl rfl hW hf

theorem knX1_readSum : Kn yX1_readSum cX1_readSum 5 (some .boolean) 2 := ⟨q_232, q_161, by decide +kernel, by decide⟩
theorem rgC_Law_readSum_5 {E : Ec} {G : Gc} {nL mc ms : Nat} {own : String} {cc : ByteArray} {L : Nat} {ret : Option FieldType} {k n pc ix : Nat} {loc : List (Nat × Value)} {rest : List Value} {rc : Int32 → St → Oz} {x : Nat} {x2 : Int32} {S : St} (hrc : ∀ (x2 : Int32) (S : St), Ct E.2.1 yX1_readSum (Cond.code yX1_readSum cX1_readSum 5 (some .boolean) :: tblG) x 0 0 G wC 54 [.ref (gA G 5), .ref (gA G 1), .int x2] S (rc x2 S)) (C : JC E (VC G nL mc ms own) cc L ret) (hd : decode cc pc = .ok (.invokevirtual ix, 3)) (hq : Cond.methodLink own ix yX1_readSum ∈ tblG) (hL : x + 1 ≤ L) (hW : (rest.map fun v => v.category).sum ≤ 8) (hf : k + 0 ≤ mc ∧ n + 0 ≤ ms) : Rn E (VC G nL mc ms own) k n 0 0 pc loc (.int x2 :: .ref (gA G 1) :: .ref (gA G 5) :: rest) rest S (rc x2 S) := rn_V (V := VC G nL mc ms own) (ci := 1) 5 (As := [.ref (gA G 1), .int x2]) (Cq := (RX1, TX1, 4)) (hrc x2 S) knX1_readSum ⟨q_233, q_234⟩ rfl rfl C hd hq hL rfl rfl hW hf

theorem knX1_readPair : Kn yX1_readPair cX1_readPair 4 (some .boolean) 3 := ⟨q_209, q_161, by decide +kernel, by decide⟩
theorem bC_Law_readPair_5 {E : Ec} {G : Gc} {rc : Int32 → St → Oz} {x : Nat}   (C : JC E (VC G 4 0 0 RX1) cX1_readPair (x + 1) (some .boolean)) (hx : 7 ≤ x) (hrc : ∀ (x2 : Int32) (S : St), Ct E.2.1 yX1_readSum (Cond.code yX1_readSum cX1_readSum 5 (some .boolean) :: tblG) x 0 0 G wC 54 [.ref (gA G 5), .ref (gA G 1), .int x2] S (rc x2 S))   (x2 : Int32) (x3 : Int32) (S : St) : J E (VC G 4 0 0 RX1) 0 0 0 [(0, .ref (gA G 5)), (1, .ref (gA G 1)), (2, .int x2), (3, .int x3)] [] S (fC_Law_readPair_5 rc x2 x3 S) := by
  unfold fC_Law_readPair_5
  refine j_iload_n (pc := 0) 2 C dX1_readPair_0 rfl rfl ?_
  refine j_bipush (pc := 1) 6 C dX1_readPair_1 (by decide) ?_
  refine j_icmp_lt (pc := 3) 12 C dX1_readPair_3 (by decide) ?_ ?_
  ·
    refine j_aload_n (pc := 12) 1 C dX1_readPair_12 rfl rfl ?_
    refine j_bipush (pc := 13) 91 C dX1_readPair_13 (by decide) ?_
    refine j_callI0 (pc := 15) C (rC_Tape_needs C dX1_readPair_15 q_207 (by omega) (Nat.le_of_ble_eq_true rfl) ⟨Nat.le_of_ble_eq_true rfl, Nat.le_of_ble_eq_true rfl⟩) ⟨Nat.le_of_ble_eq_true rfl, Nat.le_of_ble_eq_true rfl⟩ (fun r2 T1 => ?_)
    refine j_if_eq (pc := 18) 73 C dX1_readPair_18 (by decide) ?_ ?_
    ·
      refine j_iconst (pc := 73) 0 C dX1_readPair_73 (by decide) ?_
      exact j_zretc C dX1_readPair_74 rfl (Nat.le_of_ble_eq_true rfl) (Nat.le_of_ble_eq_true rfl) rfl
    ·
      refine j_aload_n (pc := 21) 0 C dX1_readPair_21 rfl rfl ?_
      refine j_aload_n (pc := 22) 1 C dX1_readPair_22 rfl rfl ?_
      refine j_iload_n (pc := 23) 2 C dX1_readPair_23 rfl rfl ?_
      refine j_iconst (pc := 24) 1 C dX1_readPair_24 (by decide) ?_
      refine j_iadd (pc := 25) C dX1_readPair_25 ?_
      refine j_callI0 (pc := 26) C (rgC_Law_readSum_5 hrc C dX1_readPair_26 q_208 (by omega) (Nat.le_of_ble_eq_true rfl) ⟨Nat.le_of_ble_eq_true rfl, Nat.le_of_ble_eq_true rfl⟩) ⟨Nat.le_of_ble_eq_true rfl, Nat.le_of_ble_eq_true rfl⟩ (fun r4 T3 => ?_)
      refine j_if_eq (pc := 29) 73 C dX1_readPair_29 (by decide) ?_ ?_
      ·
        refine j_iconst (pc := 73) 0 C dX1_readPair_73 (by decide) ?_
        exact j_zretc C dX1_readPair_74 rfl (Nat.le_of_ble_eq_true rfl) (Nat.le_of_ble_eq_true rfl) rfl
      ·
        refine j_aload_n (pc := 32) 1 C dX1_readPair_32 rfl rfl ?_
        refine j_bipush (pc := 33) 44 C dX1_readPair_33 (by decide) ?_
        refine j_callI0 (pc := 35) C (rC_Tape_needs C dX1_readPair_35 q_207 (by omega) (Nat.le_of_ble_eq_true rfl) ⟨Nat.le_of_ble_eq_true rfl, Nat.le_of_ble_eq_true rfl⟩) ⟨Nat.le_of_ble_eq_true rfl, Nat.le_of_ble_eq_true rfl⟩ (fun r6 T5 => ?_)
        refine j_if_eq (pc := 38) 73 C dX1_readPair_38 (by decide) ?_ ?_
        ·
          refine j_iconst (pc := 73) 0 C dX1_readPair_73 (by decide) ?_
          exact j_zretc C dX1_readPair_74 rfl (Nat.le_of_ble_eq_true rfl) (Nat.le_of_ble_eq_true rfl) rfl
        ·
          refine j_aload_n (pc := 41) 0 C dX1_readPair_41 rfl rfl ?_
          refine j_aload_n (pc := 42) 1 C dX1_readPair_42 rfl rfl ?_
          refine j_iload_n (pc := 43) 2 C dX1_readPair_43 rfl rfl ?_
          refine j_iconst (pc := 44) 1 C dX1_readPair_44 (by decide) ?_
          refine j_iadd (pc := 45) C dX1_readPair_45 ?_
          refine j_callI0 (pc := 46) C (rgC_Law_readSum_5 hrc C dX1_readPair_46 q_208 (by omega) (Nat.le_of_ble_eq_true rfl) ⟨Nat.le_of_ble_eq_true rfl, Nat.le_of_ble_eq_true rfl⟩) ⟨Nat.le_of_ble_eq_true rfl, Nat.le_of_ble_eq_true rfl⟩ (fun r8 T7 => ?_)
          refine j_if_eq (pc := 49) 73 C dX1_readPair_49 (by decide) ?_ ?_
          ·
            refine j_iconst (pc := 73) 0 C dX1_readPair_73 (by decide) ?_
            exact j_zretc C dX1_readPair_74 rfl (Nat.le_of_ble_eq_true rfl) (Nat.le_of_ble_eq_true rfl) rfl
          ·
            refine j_aload_n (pc := 52) 1 C dX1_readPair_52 rfl rfl ?_
            refine j_bipush (pc := 53) 93 C dX1_readPair_53 (by decide) ?_
            refine j_callI0 (pc := 55) C (rC_Tape_needs C dX1_readPair_55 q_207 (by omega) (Nat.le_of_ble_eq_true rfl) ⟨Nat.le_of_ble_eq_true rfl, Nat.le_of_ble_eq_true rfl⟩) ⟨Nat.le_of_ble_eq_true rfl, Nat.le_of_ble_eq_true rfl⟩ (fun r10 T9 => ?_)
            refine j_if_eq (pc := 58) 73 C dX1_readPair_58 (by decide) ?_ ?_
            ·
              refine j_iconst (pc := 73) 0 C dX1_readPair_73 (by decide) ?_
              exact j_zretc C dX1_readPair_74 rfl (Nat.le_of_ble_eq_true rfl) (Nat.le_of_ble_eq_true rfl) rfl
            ·
              refine j_aload_n (pc := 61) 0 C dX1_readPair_61 rfl rfl ?_
              refine j_iload_n (pc := 62) 3 C dX1_readPair_62 rfl rfl ?_
              refine j_callI0 (pc := 63) C (rC_Law_put_5 C dX1_readPair_63 q_164 (by omega) (Nat.le_of_ble_eq_true rfl) ⟨Nat.le_of_ble_eq_true rfl, Nat.le_of_ble_eq_true rfl⟩) ⟨Nat.le_of_ble_eq_true rfl, Nat.le_of_ble_eq_true rfl⟩ (fun r12 T11 => ?_)
              refine j_if_eq (pc := 66) 73 C dX1_readPair_66 (by decide) ?_ ?_
              ·
                refine j_iconst (pc := 73) 0 C dX1_readPair_73 (by decide) ?_
                exact j_zretc C dX1_readPair_74 rfl (Nat.le_of_ble_eq_true rfl) (Nat.le_of_ble_eq_true rfl) rfl
              ·
                refine j_iconst (pc := 69) 1 C dX1_readPair_69 (by decide) ?_
                refine j_goto (pc := 70) 74 C dX1_readPair_70 (by decide) ?_
                exact j_zretc C dX1_readPair_74 rfl (Nat.le_of_ble_eq_true rfl) (Nat.le_of_ble_eq_true rfl) rfl
  ·
    refine j_aload_n (pc := 6) 1 C dX1_readPair_6 rfl rfl ?_
    refine j_iconst (pc := 7) 3 C dX1_readPair_7 (by decide) ?_
    refine j_callI0 (pc := 8) C (rC_Tape_refuseWord C dX1_readPair_8 q_206 (by omega) (Nat.le_of_ble_eq_true rfl) ⟨Nat.le_of_ble_eq_true rfl, Nat.le_of_ble_eq_true rfl⟩) ⟨Nat.le_of_ble_eq_true rfl, Nat.le_of_ble_eq_true rfl⟩ (fun r14 T13 => ?_)
    exact j_zret C dX1_readPair_11 rfl (Nat.le_of_ble_eq_true rfl) (Nat.le_of_ble_eq_true rfl)
theorem cC_Law_readPair_5 {l : Launch} {G : Gc} (hfl : l.stackTraces = false) (hW : Wok G wC 54) {rc : Int32 → St → Oz} {x : Nat} (hx : 7 ≤ x) (hrc : ∀ (x2 : Int32) (S : St), Ct l yX1_readSum (Cond.code yX1_readSum cX1_readSum 5 (some .boolean) :: tblG) x 0 0 G wC 54 [.ref (gA G 5), .ref (gA G 1), .int x2] S (rc x2 S)) (x2 : Int32) (x3 : Int32) (S : St) : Ct l yX1_readPair (Cond.code yX1_readPair cX1_readPair 4 (some .boolean) :: tblG) (x + 1) 0 0 G wC 54 [.ref (gA G 5), .ref (gA G 1), .int x2, .int x3] S (fC_Law_readPair_5 rc x2 x3 S) := ct_of (own := RX1) hfl (by decide +kernel) rfl hW (Nat.le_of_ble_eq_true rfl) (fun E hE C => by subst hE; exact bC_Law_readPair_5 C hx hrc  x2 x3 S)
theorem rC_Law_readPair_5 {E : Ec} {G : Gc} {nL mc ms : Nat} {own : String} {cc : ByteArray} {L : Nat} {ret : Option FieldType} {k n pc ix : Nat} {loc : List (Nat × Value)} {rest : List Value} {rc : Int32 → St → Oz} {x : Nat} {x2 : Int32} {x3 : Int32} {S : St} (hx : 7 ≤ x) (hrc : ∀ (x2 : Int32) (S : St), Ct E.2.1 yX1_readSum (Cond.code yX1_readSum cX1_readSum 5 (some .boolean) :: tblG) x 0 0 G wC 54 [.ref (gA G 5), .ref (gA G 1), .int x2] S (rc x2 S)) (C : JC E (VC G nL mc ms own) cc L ret) (hd : decode cc pc = .ok (.invokevirtual ix, 3)) (hq : Cond.methodLink own ix yX1_readPair ∈ tblG) (hL : (x + 1) + 1 ≤ L) (hW : (rest.map fun v => v.category).sum ≤ 8) (hf : k + 0 ≤ mc ∧ n + 0 ≤ ms) : Rn E (VC G nL mc ms own) k n 0 0 pc loc (.int x3 :: .int x2 :: .ref (gA G 1) :: .ref (gA G 5) :: rest) rest S (fC_Law_readPair_5 rc x2 x3 S) := rn_V (ci := 1) 5 (V := VC G nL mc ms own) (As := [.ref (gA G 1), .int x2, .int x3]) (Cq := (RX1, TX1, 4)) (cC_Law_readPair_5 C.flags C.wok hx hrc x2 x3 S) knX1_readPair ⟨q_210, q_211⟩ rfl rfl C hd hq hL rfl rfl hW hf

theorem knX6_place : Kn yX6_place cX6_place 1 (some .int) 0 := ⟨q_213, q_35, by decide +kernel, by decide⟩
theorem bC_Tape_place {E : Ec} {G : Gc}    (C : JC E (VC G 1 0 0 RX6) cX6_place 2 (some .int))     (S : St) : J E (VC G 1 0 0 RX6) 0 0 0 [(0, .ref (gA G 1))] [] S (fC_Tape_place   S) := by
  unfold fC_Tape_place
  refine j_aload_n (pc := 0) 0 C dX6_place_0 rfl rfl ?_
  refine j_callv0 (pc := 1) C (rC_Tape_skipBlanks C dX6_place_1 q_81 (by omega) (Nat.le_of_ble_eq_true rfl) ⟨Nat.le_of_ble_eq_true rfl, Nat.le_of_ble_eq_true rfl⟩) ⟨Nat.le_of_ble_eq_true rfl, Nat.le_of_ble_eq_true rfl⟩ (fun T1 => ?_)
  refine j_aload_n (pc := 4) 0 C dX6_place_4 rfl rfl ?_
  refine gC_1_6 (pc := 5) C dX6_place_5 q_62 ?_
  exact j_iret C dX6_place_8 rfl (Nat.le_of_ble_eq_true rfl) (Nat.le_of_ble_eq_true rfl)
theorem cC_Tape_place {l : Launch} {G : Gc} (hfl : l.stackTraces = false) (hW : Wok G wC 54)    (S : St) : Ct l yX6_place (Cond.code yX6_place cX6_place 1 (some .int) :: tblG) 2 0 0 G wC 54 [.ref (gA G 1)] S (fC_Tape_place  S) := ct_of (own := RX6) hfl (by decide +kernel) rfl hW (Nat.le_of_ble_eq_true rfl) (fun E hE C => by subst hE; exact bC_Tape_place C    S)
theorem rC_Tape_place {E : Ec} {G : Gc} {nL mc ms : Nat} {own : String} {cc : ByteArray} {L : Nat} {ret : Option FieldType} {k n pc ix : Nat} {loc : List (Nat × Value)} {rest : List Value}   {S : St}  (C : JC E (VC G nL mc ms own) cc L ret) (hd : decode cc pc = .ok (.invokevirtual ix, 3)) (hq : Cond.methodLink own ix yX6_place ∈ tblG) (hL : 2 + 1 ≤ L) (hW : (rest.map fun v => v.category).sum ≤ 8) (hf : k + 0 ≤ mc ∧ n + 0 ≤ ms) : Rn E (VC G nL mc ms own) k n 0 0 pc loc (.ref (gA G 1) :: rest) rest S (fC_Tape_place  S) := rn_V (ci := 6) 1 (V := VC G nL mc ms own) (As := []) (Cq := (RX6, TX6, 8)) (cC_Tape_place C.flags C.wok   S) knX6_place ⟨q_214, q_215⟩ rfl rfl C hd hq hL rfl rfl hW hf

theorem knX1_readUnit : Kn yX1_readUnit cX1_readUnit 4 (some .boolean) 2 := ⟨q_220, q_161, by decide +kernel, by decide⟩
theorem bC_Law_readUnit_5 {E : Ec} {G : Gc} {rc : Int32 → St → Oz} {x : Nat}   (C : JC E (VC G 4 0 0 RX1) cX1_readUnit (x + 2) (some .boolean)) (hx : 7 ≤ x) (hrc : ∀ (x2 : Int32) (S : St), Ct E.2.1 yX1_readSum (Cond.code yX1_readSum cX1_readSum 5 (some .boolean) :: tblG) x 0 0 G wC 54 [.ref (gA G 5), .ref (gA G 1), .int x2] S (rc x2 S))   (x2 : Int32) (S : St) : J E (VC G 4 0 0 RX1) 0 0 0 [(0, .ref (gA G 5)), (1, .ref (gA G 1)), (2, .int x2)] [] S (fC_Law_readUnit_5 rc x2 S) := by
  unfold fC_Law_readUnit_5
  refine j_aload_n (pc := 0) 1 C dX1_readUnit_0 rfl rfl ?_
  refine j_callI0 (pc := 1) C (rC_Tape_seesDigit C dX1_readUnit_1 q_196 (by omega) (Nat.le_of_ble_eq_true rfl) ⟨Nat.le_of_ble_eq_true rfl, Nat.le_of_ble_eq_true rfl⟩) ⟨Nat.le_of_ble_eq_true rfl, Nat.le_of_ble_eq_true rfl⟩ (fun r2 T1 => ?_)
  refine j_if_eq (pc := 4) 35 C dX1_readUnit_4 (by decide) ?_ ?_
  ·
    refine j_aload_n (pc := 35) 1 C dX1_readUnit_35 rfl rfl ?_
    refine j_bipush (pc := 36) 40 C dX1_readUnit_36 (by decide) ?_
    refine j_callI0 (pc := 38) C (rC_Tape_sees C dX1_readUnit_38 q_200 (by omega) (Nat.le_of_ble_eq_true rfl) ⟨Nat.le_of_ble_eq_true rfl, Nat.le_of_ble_eq_true rfl⟩) ⟨Nat.le_of_ble_eq_true rfl, Nat.le_of_ble_eq_true rfl⟩ (fun r4 T3 => ?_)
    refine j_if_eq (pc := 41) 95 C dX1_readUnit_41 (by decide) ?_ ?_
    ·
      refine j_aload_n (pc := 95) 1 C dX1_readUnit_95 rfl rfl ?_
      refine j_callv0 (pc := 96) C (rC_Tape_takeWord C dX1_readUnit_96 q_201 (by omega) (Nat.le_of_ble_eq_true rfl) ⟨Nat.le_of_ble_eq_true rfl, Nat.le_of_ble_eq_true rfl⟩) ⟨Nat.le_of_ble_eq_true rfl, Nat.le_of_ble_eq_true rfl⟩ (fun T5 => ?_)
      refine j_aload_n (pc := 99) 1 C dX1_readUnit_99 rfl rfl ?_
      refine j_ldcS (pc := 100) 5 C dX1_readUnit_100 rfl rfl rfl ?_
      refine j_callI0 (pc := 102) C (rC_Tape_isWord_v38 (by decide) C dX1_readUnit_102 q_202 (by omega) (Nat.le_of_ble_eq_true rfl) ⟨Nat.le_of_ble_eq_true rfl, Nat.le_of_ble_eq_true rfl⟩) ⟨Nat.le_of_ble_eq_true rfl, Nat.le_of_ble_eq_true rfl⟩ (fun r8 T7 => ?_)
      refine j_if_eq (pc := 105) 118 C dX1_readUnit_105 (by decide) ?_ ?_
      ·
        refine j_aload_n (pc := 118) 1 C dX1_readUnit_118 rfl rfl ?_
        refine j_ldcS (pc := 119) 6 C dX1_readUnit_119 rfl rfl rfl ?_
        refine j_callI0 (pc := 121) C (rC_Tape_isWord_v39 (by decide) C dX1_readUnit_121 q_202 (by omega) (Nat.le_of_ble_eq_true rfl) ⟨Nat.le_of_ble_eq_true rfl, Nat.le_of_ble_eq_true rfl⟩) ⟨Nat.le_of_ble_eq_true rfl, Nat.le_of_ble_eq_true rfl⟩ (fun r10 T9 => ?_)
        refine j_if_eq (pc := 124) 137 C dX1_readUnit_124 (by decide) ?_ ?_
        ·
          refine j_aload_n (pc := 137) 1 C dX1_readUnit_137 rfl rfl ?_
          refine j_callI0 (pc := 138) C (rC_Law_factNamed C dX1_readUnit_138 q_205 (by omega) (Nat.le_of_ble_eq_true rfl) ⟨Nat.le_of_ble_eq_true rfl, Nat.le_of_ble_eq_true rfl⟩) ⟨Nat.le_of_ble_eq_true rfl, Nat.le_of_ble_eq_true rfl⟩ (fun r12 T11 => ?_)
          refine j_istore_n (pc := 141) [(3, .int r12), (0, .ref (gA G 5)), (1, .ref (gA G 1)), (2, .int x2)] C dX1_readUnit_141 rfl (Nat.le_of_ble_eq_true rfl) rfl ?_
          refine j_iload_n (pc := 142) 0 C dX1_readUnit_142 rfl rfl ?_
          refine j_iconst (pc := 143) (-1) C dX1_readUnit_143 (by decide) ?_
          refine j_icmp_ne (pc := 144) 153 C dX1_readUnit_144 (by decide) ?_ ?_
          ·
            refine j_aload_n (pc := 153) 1 C dX1_readUnit_153 rfl rfl ?_
            refine j_sipush (pc := 154) 1000 C dX1_readUnit_154 (by decide) ?_
            refine j_iload_n (pc := 157) 0 C dX1_readUnit_157 rfl rfl ?_
            refine j_iadd (pc := 158) C dX1_readUnit_158 ?_
            refine j_callI0 (pc := 159) C (rC_Law_put_5 C dX1_readUnit_159 q_164 (by omega) (Nat.le_of_ble_eq_true rfl) ⟨Nat.le_of_ble_eq_true rfl, Nat.le_of_ble_eq_true rfl⟩) ⟨Nat.le_of_ble_eq_true rfl, Nat.le_of_ble_eq_true rfl⟩ (fun r14 T13 => ?_)
            exact j_zret C dX1_readUnit_162 rfl (Nat.le_of_ble_eq_true rfl) (Nat.le_of_ble_eq_true rfl)
          ·
            refine j_aload_n (pc := 147) 2 C dX1_readUnit_147 rfl rfl ?_
            refine j_iconst (pc := 148) 1 C dX1_readUnit_148 (by decide) ?_
            refine j_callI0 (pc := 149) C (rC_Tape_refuseWord C dX1_readUnit_149 q_206 (by omega) (Nat.le_of_ble_eq_true rfl) ⟨Nat.le_of_ble_eq_true rfl, Nat.le_of_ble_eq_true rfl⟩) ⟨Nat.le_of_ble_eq_true rfl, Nat.le_of_ble_eq_true rfl⟩ (fun r16 T15 => ?_)
            exact j_zret C dX1_readUnit_152 rfl (Nat.le_of_ble_eq_true rfl) (Nat.le_of_ble_eq_true rfl)
        ·
          refine j_aload_n (pc := 127) 0 C dX1_readUnit_127 rfl rfl ?_
          refine j_aload_n (pc := 128) 1 C dX1_readUnit_128 rfl rfl ?_
          refine j_iload_n (pc := 129) 2 C dX1_readUnit_129 rfl rfl ?_
          refine j_sipush (pc := 130) 2006 C dX1_readUnit_130 (by decide) ?_
          refine j_callI0 (pc := 133) C (rC_Law_readPair_5 hx hrc C dX1_readUnit_133 q_212 (by omega) (Nat.le_of_ble_eq_true rfl) ⟨Nat.le_of_ble_eq_true rfl, Nat.le_of_ble_eq_true rfl⟩) ⟨Nat.le_of_ble_eq_true rfl, Nat.le_of_ble_eq_true rfl⟩ (fun r18 T17 => ?_)
          exact j_zret C dX1_readUnit_136 rfl (Nat.le_of_ble_eq_true rfl) (Nat.le_of_ble_eq_true rfl)
      ·
        refine j_aload_n (pc := 108) 0 C dX1_readUnit_108 rfl rfl ?_
        refine j_aload_n (pc := 109) 1 C dX1_readUnit_109 rfl rfl ?_
        refine j_iload_n (pc := 110) 2 C dX1_readUnit_110 rfl rfl ?_
        refine j_sipush (pc := 111) 2005 C dX1_readUnit_111 (by decide) ?_
        refine j_callI0 (pc := 114) C (rC_Law_readPair_5 hx hrc C dX1_readUnit_114 q_212 (by omega) (Nat.le_of_ble_eq_true rfl) ⟨Nat.le_of_ble_eq_true rfl, Nat.le_of_ble_eq_true rfl⟩) ⟨Nat.le_of_ble_eq_true rfl, Nat.le_of_ble_eq_true rfl⟩ (fun r20 T19 => ?_)
        exact j_zret C dX1_readUnit_117 rfl (Nat.le_of_ble_eq_true rfl) (Nat.le_of_ble_eq_true rfl)
    ·
      refine j_iload_n (pc := 44) 2 C dX1_readUnit_44 rfl rfl ?_
      refine j_bipush (pc := 45) 6 C dX1_readUnit_45 (by decide) ?_
      refine j_icmp_lt (pc := 47) 60 C dX1_readUnit_47 (by decide) ?_ ?_
      ·
        refine j_aload_n (pc := 60) 1 C dX1_readUnit_60 rfl rfl ?_
        refine j_bipush (pc := 61) 40 C dX1_readUnit_61 (by decide) ?_
        refine j_callI0 (pc := 63) C (rC_Tape_needs C dX1_readUnit_63 q_207 (by omega) (Nat.le_of_ble_eq_true rfl) ⟨Nat.le_of_ble_eq_true rfl, Nat.le_of_ble_eq_true rfl⟩) ⟨Nat.le_of_ble_eq_true rfl, Nat.le_of_ble_eq_true rfl⟩ (fun r22 T21 => ?_)
        refine j_if_eq (pc := 66) 93 C dX1_readUnit_66 (by decide) ?_ ?_
        ·
          refine j_iconst (pc := 93) 0 C dX1_readUnit_93 (by decide) ?_
          exact j_zretc C dX1_readUnit_94 rfl (Nat.le_of_ble_eq_true rfl) (Nat.le_of_ble_eq_true rfl) rfl
        ·
          refine j_aload_n (pc := 69) 0 C dX1_readUnit_69 rfl rfl ?_
          refine j_aload_n (pc := 70) 1 C dX1_readUnit_70 rfl rfl ?_
          refine j_iload_n (pc := 71) 2 C dX1_readUnit_71 rfl rfl ?_
          refine j_iconst (pc := 72) 1 C dX1_readUnit_72 (by decide) ?_
          refine j_iadd (pc := 73) C dX1_readUnit_73 ?_
          refine j_callI0 (pc := 74) C (rgC_Law_readSum_5 hrc C dX1_readUnit_74 q_208 (by omega) (Nat.le_of_ble_eq_true rfl) ⟨Nat.le_of_ble_eq_true rfl, Nat.le_of_ble_eq_true rfl⟩) ⟨Nat.le_of_ble_eq_true rfl, Nat.le_of_ble_eq_true rfl⟩ (fun r24 T23 => ?_)
          refine j_if_eq (pc := 77) 93 C dX1_readUnit_77 (by decide) ?_ ?_
          ·
            refine j_iconst (pc := 93) 0 C dX1_readUnit_93 (by decide) ?_
            exact j_zretc C dX1_readUnit_94 rfl (Nat.le_of_ble_eq_true rfl) (Nat.le_of_ble_eq_true rfl) rfl
          ·
            refine j_aload_n (pc := 80) 1 C dX1_readUnit_80 rfl rfl ?_
            refine j_bipush (pc := 81) 41 C dX1_readUnit_81 (by decide) ?_
            refine j_callI0 (pc := 83) C (rC_Tape_needs C dX1_readUnit_83 q_207 (by omega) (Nat.le_of_ble_eq_true rfl) ⟨Nat.le_of_ble_eq_true rfl, Nat.le_of_ble_eq_true rfl⟩) ⟨Nat.le_of_ble_eq_true rfl, Nat.le_of_ble_eq_true rfl⟩ (fun r26 T25 => ?_)
            refine j_if_eq (pc := 86) 93 C dX1_readUnit_86 (by decide) ?_ ?_
            ·
              refine j_iconst (pc := 93) 0 C dX1_readUnit_93 (by decide) ?_
              exact j_zretc C dX1_readUnit_94 rfl (Nat.le_of_ble_eq_true rfl) (Nat.le_of_ble_eq_true rfl) rfl
            ·
              refine j_iconst (pc := 89) 1 C dX1_readUnit_89 (by decide) ?_
              refine j_goto (pc := 90) 94 C dX1_readUnit_90 (by decide) ?_
              exact j_zretc C dX1_readUnit_94 rfl (Nat.le_of_ble_eq_true rfl) (Nat.le_of_ble_eq_true rfl) rfl
      ·
        refine j_aload_n (pc := 50) 1 C dX1_readUnit_50 rfl rfl ?_
        refine j_aload_n (pc := 51) 1 C dX1_readUnit_51 rfl rfl ?_
        refine j_callI0 (pc := 52) C (rC_Tape_place C dX1_readUnit_52 q_216 (by omega) (Nat.le_of_ble_eq_true rfl) ⟨Nat.le_of_ble_eq_true rfl, Nat.le_of_ble_eq_true rfl⟩) ⟨Nat.le_of_ble_eq_true rfl, Nat.le_of_ble_eq_true rfl⟩ (fun r28 T27 => ?_)
        refine j_iconst (pc := 55) 3 C dX1_readUnit_55 (by decide) ?_
        refine j_callI0 (pc := 56) C (rC_Tape_refuse C dX1_readUnit_56 q_217 (by omega) (Nat.le_of_ble_eq_true rfl) ⟨Nat.le_of_ble_eq_true rfl, Nat.le_of_ble_eq_true rfl⟩) ⟨Nat.le_of_ble_eq_true rfl, Nat.le_of_ble_eq_true rfl⟩ (fun r30 T29 => ?_)
        exact j_zret C dX1_readUnit_59 rfl (Nat.le_of_ble_eq_true rfl) (Nat.le_of_ble_eq_true rfl)
  ·
    refine j_aload_n (pc := 7) 1 C dX1_readUnit_7 rfl rfl ?_
    refine j_iconst (pc := 8) 0 C dX1_readUnit_8 (by decide) ?_
    refine j_sipush (pc := 9) 999 C dX1_readUnit_9 (by decide) ?_
    refine j_callI0 (pc := 12) C (rC_Tape_needsNumber C dX1_readUnit_12 q_218 (by omega) (Nat.le_of_ble_eq_true rfl) ⟨Nat.le_of_ble_eq_true rfl, Nat.le_of_ble_eq_true rfl⟩) ⟨Nat.le_of_ble_eq_true rfl, Nat.le_of_ble_eq_true rfl⟩ (fun r32 T31 => ?_)
    refine j_if_eq (pc := 15) 33 C dX1_readUnit_15 (by decide) ?_ ?_
    ·
      refine j_iconst (pc := 33) 0 C dX1_readUnit_33 (by decide) ?_
      exact j_zretc C dX1_readUnit_34 rfl (Nat.le_of_ble_eq_true rfl) (Nat.le_of_ble_eq_true rfl) rfl
    ·
      refine j_aload_n (pc := 18) 0 C dX1_readUnit_18 rfl rfl ?_
      refine j_aload_n (pc := 19) 1 C dX1_readUnit_19 rfl rfl ?_
      refine gC_1_4 (pc := 20) C dX1_readUnit_20 q_219 ?_
      refine j_callI0 (pc := 23) C (rC_Law_put_5 C dX1_readUnit_23 q_164 (by omega) (Nat.le_of_ble_eq_true rfl) ⟨Nat.le_of_ble_eq_true rfl, Nat.le_of_ble_eq_true rfl⟩) ⟨Nat.le_of_ble_eq_true rfl, Nat.le_of_ble_eq_true rfl⟩ (fun r34 T33 => ?_)
      refine j_if_eq (pc := 26) 33 C dX1_readUnit_26 (by decide) ?_ ?_
      ·
        refine j_iconst (pc := 33) 0 C dX1_readUnit_33 (by decide) ?_
        exact j_zretc C dX1_readUnit_34 rfl (Nat.le_of_ble_eq_true rfl) (Nat.le_of_ble_eq_true rfl) rfl
      ·
        refine j_iconst (pc := 29) 1 C dX1_readUnit_29 (by decide) ?_
        refine j_goto (pc := 30) 34 C dX1_readUnit_30 (by decide) ?_
        exact j_zretc C dX1_readUnit_34 rfl (Nat.le_of_ble_eq_true rfl) (Nat.le_of_ble_eq_true rfl) rfl
theorem cC_Law_readUnit_5 {l : Launch} {G : Gc} (hfl : l.stackTraces = false) (hW : Wok G wC 54) {rc : Int32 → St → Oz} {x : Nat} (hx : 7 ≤ x) (hrc : ∀ (x2 : Int32) (S : St), Ct l yX1_readSum (Cond.code yX1_readSum cX1_readSum 5 (some .boolean) :: tblG) x 0 0 G wC 54 [.ref (gA G 5), .ref (gA G 1), .int x2] S (rc x2 S)) (x2 : Int32) (S : St) : Ct l yX1_readUnit (Cond.code yX1_readUnit cX1_readUnit 4 (some .boolean) :: tblG) (x + 2) 0 0 G wC 54 [.ref (gA G 5), .ref (gA G 1), .int x2] S (fC_Law_readUnit_5 rc x2 S) := ct_of (own := RX1) hfl (by decide +kernel) rfl hW (Nat.le_of_ble_eq_true rfl) (fun E hE C => by subst hE; exact bC_Law_readUnit_5 C hx hrc  x2 S)
theorem rC_Law_readUnit_5 {E : Ec} {G : Gc} {nL mc ms : Nat} {own : String} {cc : ByteArray} {L : Nat} {ret : Option FieldType} {k n pc ix : Nat} {loc : List (Nat × Value)} {rest : List Value} {rc : Int32 → St → Oz} {x : Nat} {x2 : Int32} {S : St} (hx : 7 ≤ x) (hrc : ∀ (x2 : Int32) (S : St), Ct E.2.1 yX1_readSum (Cond.code yX1_readSum cX1_readSum 5 (some .boolean) :: tblG) x 0 0 G wC 54 [.ref (gA G 5), .ref (gA G 1), .int x2] S (rc x2 S)) (C : JC E (VC G nL mc ms own) cc L ret) (hd : decode cc pc = .ok (.invokevirtual ix, 3)) (hq : Cond.methodLink own ix yX1_readUnit ∈ tblG) (hL : (x + 2) + 1 ≤ L) (hW : (rest.map fun v => v.category).sum ≤ 8) (hf : k + 0 ≤ mc ∧ n + 0 ≤ ms) : Rn E (VC G nL mc ms own) k n 0 0 pc loc (.int x2 :: .ref (gA G 1) :: .ref (gA G 5) :: rest) rest S (fC_Law_readUnit_5 rc x2 S) := rn_V (ci := 1) 5 (V := VC G nL mc ms own) (As := [.ref (gA G 1), .int x2]) (Cq := (RX1, TX1, 4)) (cC_Law_readUnit_5 C.flags C.wok hx hrc x2 S) knX1_readUnit ⟨q_221, q_222⟩ rfl rfl C hd hq hL rfl rfl hW hf

theorem knX6_takes : Kn yX6_takes cX6_takes 2 (some .boolean) 1 := ⟨q_224, q_35, by decide +kernel, by decide⟩
theorem bC_Tape_takes {E : Ec} {G : Gc}    (C : JC E (VC G 2 0 0 RX6) cX6_takes 2 (some .boolean))    (x1 : Int32) (S : St) : J E (VC G 2 0 0 RX6) 0 0 0 [(0, .ref (gA G 1)), (1, .int x1)] [] S (fC_Tape_takes  x1 S) := by
  unfold fC_Tape_takes
  refine j_aload_n (pc := 0) 0 C dX6_takes_0 rfl rfl ?_
  refine j_callv0 (pc := 1) C (rC_Tape_skipBlanks C dX6_takes_1 q_81 (by omega) (Nat.le_of_ble_eq_true rfl) ⟨Nat.le_of_ble_eq_true rfl, Nat.le_of_ble_eq_true rfl⟩) ⟨Nat.le_of_ble_eq_true rfl, Nat.le_of_ble_eq_true rfl⟩ (fun T1 => ?_)
  refine j_aload_n (pc := 4) 0 C dX6_takes_4 rfl rfl ?_
  refine gC_1_6 (pc := 5) C dX6_takes_5 q_62 ?_
  refine j_aload_n (pc := 8) 0 C dX6_takes_8 rfl rfl ?_
  refine gC_1_5 (pc := 9) C dX6_takes_9 q_61 ?_
  refine j_icmp_ge (pc := 12) 40 C dX6_takes_12 (by decide) ?_ ?_
  ·
    refine j_iconst (pc := 40) 0 C dX6_takes_40 (by decide) ?_
    exact j_zretc C dX6_takes_41 rfl (Nat.le_of_ble_eq_true rfl) (Nat.le_of_ble_eq_true rfl) rfl
  ·
    refine j_aload_n (pc := 15) 0 C dX6_takes_15 rfl rfl ?_
    refine gC_1_0 (pc := 16) C dX6_takes_16 q_33 ?_
    refine j_aload_n (pc := 19) 0 C dX6_takes_19 rfl rfl ?_
    refine gC_1_6 (pc := 20) C dX6_takes_20 q_62 ?_
    refine aC_14 (pc := 23) C dX6_takes_23 ?_
    refine j_iload_n (pc := 24) 1 C dX6_takes_24 rfl rfl ?_
    refine j_icmp_ne (pc := 25) 40 C dX6_takes_25 (by decide) ?_ ?_
    ·
      refine j_iconst (pc := 40) 0 C dX6_takes_40 (by decide) ?_
      exact j_zretc C dX6_takes_41 rfl (Nat.le_of_ble_eq_true rfl) (Nat.le_of_ble_eq_true rfl) rfl
    ·
      refine j_aload_n (pc := 28) 0 C dX6_takes_28 rfl rfl ?_
      refine j_dup (pc := 29) C dX6_takes_29 rfl ?_
      refine gC_1_6 (pc := 30) C dX6_takes_30 q_62 ?_
      refine j_iconst (pc := 33) 1 C dX6_takes_33 (by decide) ?_
      refine j_iadd (pc := 34) C dX6_takes_34 ?_
      refine pC_1_6 (pc := 35) C dX6_takes_35 q_62 ?_
      refine j_nxS (fun T3 => ?_)
      refine j_iconst (pc := 38) 1 C dX6_takes_38 (by decide) ?_
      exact j_zretc C dX6_takes_39 rfl (Nat.le_of_ble_eq_true rfl) (Nat.le_of_ble_eq_true rfl) rfl
theorem cC_Tape_takes {l : Launch} {G : Gc} (hfl : l.stackTraces = false) (hW : Wok G wC 54)   (x1 : Int32) (S : St) : Ct l yX6_takes (Cond.code yX6_takes cX6_takes 2 (some .boolean) :: tblG) 2 0 0 G wC 54 [.ref (gA G 1), .int x1] S (fC_Tape_takes x1 S) := ct_of (own := RX6) hfl (by decide +kernel) rfl hW (Nat.le_of_ble_eq_true rfl) (fun E hE C => by subst hE; exact bC_Tape_takes C   x1 S)
theorem rC_Tape_takes {E : Ec} {G : Gc} {nL mc ms : Nat} {own : String} {cc : ByteArray} {L : Nat} {ret : Option FieldType} {k n pc ix : Nat} {loc : List (Nat × Value)} {rest : List Value}  {x1 : Int32} {S : St}  (C : JC E (VC G nL mc ms own) cc L ret) (hd : decode cc pc = .ok (.invokevirtual ix, 3)) (hq : Cond.methodLink own ix yX6_takes ∈ tblG) (hL : 2 + 1 ≤ L) (hW : (rest.map fun v => v.category).sum ≤ 8) (hf : k + 0 ≤ mc ∧ n + 0 ≤ ms) : Rn E (VC G nL mc ms own) k n 0 0 pc loc (.int x1 :: .ref (gA G 1) :: rest) rest S (fC_Tape_takes x1 S) := rn_V (ci := 6) 1 (V := VC G nL mc ms own) (As := [.int x1]) (Cq := (RX6, TX6, 8)) (cC_Tape_takes C.flags C.wok  x1 S) knX6_takes ⟨q_225, q_226⟩ rfl rfl C hd hq hL rfl rfl hW hf

theorem knX1_readProduct : Kn yX1_readProduct cX1_readProduct 5 (some .boolean) 2 := ⟨q_228, q_161, by decide +kernel, by decide⟩
theorem bC_Law_readProduct_5_66 {E : Ec} {G : Gc} {rc : Int32 → St → Oz} {x : Nat}  {K13 : Int32 → Int32 → St → Oz} (C : JC E (VC G 5 0 0 RX1) cX1_readProduct (x + 3) (some .boolean)) (hx : 7 ≤ x) (hrc : ∀ (x2 : Int32) (S : St), Ct E.2.1 yX1_readSum (Cond.code yX1_readSum cX1_readSum 5 (some .boolean) :: tblG) x 0 0 G wC 54 [.ref (gA G 5), .ref (gA G 1), .int x2] S (rc x2 S))  (hK13 : ∀ (x2 : Int32) (x3 : Int32) (S : St), J E (VC G 5 0 0 RX1) 0 0 13 [(0, .ref (gA G 5)), (1, .ref (gA G 1)), (2, .int x2), (3, .int x3)] [] S (K13 x2 x3 S)) (x2 : Int32) (x3 : Int32) (s0 : Int32) (S : St) : J E (VC G 5 0 0 RX1) 0 0 66 [(0, .ref (gA G 5)), (1, .ref (gA G 1)), (2, .int x2), (3, .int x3)] [.int s0] S (fC_Law_readProduct_5_66 rc K13 x2 x3 s0 S) := by
  unfold fC_Law_readProduct_5_66
  refine j_istore (pc := 66) [(4, .int s0), (0, .ref (gA G 5)), (1, .ref (gA G 1)), (2, .int x2), (3, .int x3)] C dX1_readProduct_66 (Nat.le_of_ble_eq_true rfl) rfl ?_
  refine j_iload (pc := 68) 0 C dX1_readProduct_68 rfl ?_
  refine j_if_ne (pc := 70) 75 C dX1_readProduct_70 (by decide) ?_ ?_
  ·
    refine j_aload_n (pc := 75) 1 C dX1_readProduct_75 rfl rfl ?_
    refine j_aload_n (pc := 76) 2 C dX1_readProduct_76 rfl rfl ?_
    refine j_iload_n (pc := 77) 3 C dX1_readProduct_77 rfl rfl ?_
    refine j_callI0 (pc := 78) C (rC_Law_readUnit_5 hx hrc C dX1_readProduct_78 q_223 (by omega) (Nat.le_of_ble_eq_true rfl) ⟨Nat.le_of_ble_eq_true rfl, Nat.le_of_ble_eq_true rfl⟩) ⟨Nat.le_of_ble_eq_true rfl, Nat.le_of_ble_eq_true rfl⟩ (fun r2 T1 => ?_)
    refine j_if_eq (pc := 81) 93 C dX1_readProduct_81 (by decide) ?_ ?_
    ·
      refine j_iconst (pc := 93) 0 C dX1_readProduct_93 (by decide) ?_
      exact j_zretc C dX1_readProduct_94 rfl (Nat.le_of_ble_eq_true rfl) (Nat.le_of_ble_eq_true rfl) rfl
    ·
      refine j_aload_n (pc := 84) 1 C dX1_readProduct_84 rfl rfl ?_
      refine j_iload (pc := 85) 0 C dX1_readProduct_85 rfl ?_
      refine j_callI0 (pc := 87) C (rC_Law_put_5 C dX1_readProduct_87 q_164 (by omega) (Nat.le_of_ble_eq_true rfl) ⟨Nat.le_of_ble_eq_true rfl, Nat.le_of_ble_eq_true rfl⟩) ⟨Nat.le_of_ble_eq_true rfl, Nat.le_of_ble_eq_true rfl⟩ (fun r4 T3 => ?_)
      refine j_if_ne (pc := 90) 95 C dX1_readProduct_90 (by decide) ?_ ?_
      ·
        refine j_iinc (pc := 95) 4 (x3 + 1) [(3, .int (x3 + 1)), (4, .int s0), (0, .ref (gA G 5)), (1, .ref (gA G 1)), (2, .int x2)] C dX1_readProduct_95 rfl rfl (Nat.le_of_ble_eq_true rfl) rfl ?_
        refine j_goto (pc := 98) 13 C dX1_readProduct_98 (by decide) ?_
        refine j_sub [2, 3, 4, 0] rfl ?_
        exact hK13 x2 (x3 + 1) T3
      ·
        refine j_iconst (pc := 93) 0 C dX1_readProduct_93 (by decide) ?_
        exact j_zretc C dX1_readProduct_94 rfl (Nat.le_of_ble_eq_true rfl) (Nat.le_of_ble_eq_true rfl) rfl
  ·
    refine j_iconst (pc := 73) 1 C dX1_readProduct_73 (by decide) ?_
    exact j_zretc C dX1_readProduct_74 rfl (Nat.le_of_ble_eq_true rfl) (Nat.le_of_ble_eq_true rfl) rfl
theorem bC_Law_readProduct_5_13 {E : Ec} {G : Gc} {rc : Int32 → St → Oz} {x : Nat}   (C : JC E (VC G 5 0 0 RX1) cX1_readProduct (x + 3) (some .boolean)) (hx : 7 ≤ x) (hrc : ∀ (x2 : Int32) (S : St), Ct E.2.1 yX1_readSum (Cond.code yX1_readSum cX1_readSum 5 (some .boolean) :: tblG) x 0 0 G wC 54 [.ref (gA G 5), .ref (gA G 1), .int x2] S (rc x2 S))   : ∀ (n : Nat) (x2 : Int32) (x3 : Int32) (S : St), J E (VC G 5 0 0 RX1) 0 0 13 [(0, .ref (gA G 5)), (1, .ref (gA G 1)), (2, .int x2), (3, .int x3)] [] S (fC_Law_readProduct_5_13 rc n x2 x3 S) := by
  intro n
  induction n with
  | zero => intro x2 x3 S; rw [fC_Law_readProduct_5_13]; exact j_none
  | succ n ih =>
    intro x2 x3 S
    rw [fC_Law_readProduct_5_13]
    refine j_iload_n (pc := 13) 3 C dX1_readProduct_13 rfl rfl ?_
    refine j_sipush (pc := 14) 160 C dX1_readProduct_14 (by decide) ?_
    refine j_icmp_ge (pc := 17) 101 C dX1_readProduct_17 (by decide) ?_ ?_
    ·
      refine j_iconst (pc := 101) 0 C dX1_readProduct_101 (by decide) ?_
      exact j_zretc C dX1_readProduct_102 rfl (Nat.le_of_ble_eq_true rfl) (Nat.le_of_ble_eq_true rfl) rfl
    ·
      refine j_aload_n (pc := 20) 1 C dX1_readProduct_20 rfl rfl ?_
      refine j_bipush (pc := 21) 42 C dX1_readProduct_21 (by decide) ?_
      refine j_callI0 (pc := 23) C (rC_Tape_takes C dX1_readProduct_23 q_227 (by omega) (Nat.le_of_ble_eq_true rfl) ⟨Nat.le_of_ble_eq_true rfl, Nat.le_of_ble_eq_true rfl⟩) ⟨Nat.le_of_ble_eq_true rfl, Nat.le_of_ble_eq_true rfl⟩ (fun r2 T1 => ?_)
      refine j_if_eq (pc := 26) 35 C dX1_readProduct_26 (by decide) ?_ ?_
      ·
        refine j_aload_n (pc := 35) 1 C dX1_readProduct_35 rfl rfl ?_
        refine j_bipush (pc := 36) 47 C dX1_readProduct_36 (by decide) ?_
        refine j_callI0 (pc := 38) C (rC_Tape_takes C dX1_readProduct_38 q_227 (by omega) (Nat.le_of_ble_eq_true rfl) ⟨Nat.le_of_ble_eq_true rfl, Nat.le_of_ble_eq_true rfl⟩) ⟨Nat.le_of_ble_eq_true rfl, Nat.le_of_ble_eq_true rfl⟩ (fun r4 T3 => ?_)
        refine j_if_eq (pc := 41) 50 C dX1_readProduct_41 (by decide) ?_ ?_
        ·
          refine j_aload_n (pc := 50) 1 C dX1_readProduct_50 rfl rfl ?_
          refine j_bipush (pc := 51) 37 C dX1_readProduct_51 (by decide) ?_
          refine j_callI0 (pc := 53) C (rC_Tape_takes C dX1_readProduct_53 q_227 (by omega) (Nat.le_of_ble_eq_true rfl) ⟨Nat.le_of_ble_eq_true rfl, Nat.le_of_ble_eq_true rfl⟩) ⟨Nat.le_of_ble_eq_true rfl, Nat.le_of_ble_eq_true rfl⟩ (fun r6 T5 => ?_)
          refine j_if_eq (pc := 56) 65 C dX1_readProduct_56 (by decide) ?_ ?_
          ·
            refine j_iconst (pc := 65) 0 C dX1_readProduct_65 (by decide) ?_
            exact bC_Law_readProduct_5_66 C hx hrc ih x2 x3 0 T5
          ·
            refine j_sipush (pc := 59) 2004 C dX1_readProduct_59 (by decide) ?_
            refine j_goto (pc := 62) 66 C dX1_readProduct_62 (by decide) ?_
            exact bC_Law_readProduct_5_66 C hx hrc ih x2 x3 2004 T5
        ·
          refine j_sipush (pc := 44) 2003 C dX1_readProduct_44 (by decide) ?_
          refine j_goto (pc := 47) 66 C dX1_readProduct_47 (by decide) ?_
          exact bC_Law_readProduct_5_66 C hx hrc ih x2 x3 2003 T3
      ·
        refine j_sipush (pc := 29) 2002 C dX1_readProduct_29 (by decide) ?_
        refine j_goto (pc := 32) 66 C dX1_readProduct_32 (by decide) ?_
        exact bC_Law_readProduct_5_66 C hx hrc ih x2 x3 2002 T1
theorem bC_Law_readProduct_5 {E : Ec} {G : Gc} {rc : Int32 → St → Oz} {x : Nat}   (C : JC E (VC G 5 0 0 RX1) cX1_readProduct (x + 3) (some .boolean)) (hx : 7 ≤ x) (hrc : ∀ (x2 : Int32) (S : St), Ct E.2.1 yX1_readSum (Cond.code yX1_readSum cX1_readSum 5 (some .boolean) :: tblG) x 0 0 G wC 54 [.ref (gA G 5), .ref (gA G 1), .int x2] S (rc x2 S))   (x2 : Int32) (S : St) : J E (VC G 5 0 0 RX1) 0 0 0 [(0, .ref (gA G 5)), (1, .ref (gA G 1)), (2, .int x2)] [] S (fC_Law_readProduct_5 rc x2 S) := by
  unfold fC_Law_readProduct_5
  refine j_aload_n (pc := 0) 0 C dX1_readProduct_0 rfl rfl ?_
  refine j_aload_n (pc := 1) 1 C dX1_readProduct_1 rfl rfl ?_
  refine j_iload_n (pc := 2) 2 C dX1_readProduct_2 rfl rfl ?_
  refine j_callI0 (pc := 3) C (rC_Law_readUnit_5 hx hrc C dX1_readProduct_3 q_223 (by omega) (Nat.le_of_ble_eq_true rfl) ⟨Nat.le_of_ble_eq_true rfl, Nat.le_of_ble_eq_true rfl⟩) ⟨Nat.le_of_ble_eq_true rfl, Nat.le_of_ble_eq_true rfl⟩ (fun r2 T1 => ?_)
  refine j_if_ne (pc := 6) 11 C dX1_readProduct_6 (by decide) ?_ ?_
  ·
    refine j_iconst (pc := 11) 0 C dX1_readProduct_11 (by decide) ?_
    refine j_istore_n (pc := 12) [(3, .int 0), (0, .ref (gA G 5)), (1, .ref (gA G 1)), (2, .int x2)] C dX1_readProduct_12 rfl (Nat.le_of_ble_eq_true rfl) rfl ?_
    refine j_sub [1, 2, 3, 0] rfl ?_
    exact bC_Law_readProduct_5_13 C hx hrc FU x2 0 T1
  ·
    refine j_iconst (pc := 9) 0 C dX1_readProduct_9 (by decide) ?_
    exact j_zretc C dX1_readProduct_10 rfl (Nat.le_of_ble_eq_true rfl) (Nat.le_of_ble_eq_true rfl) rfl
theorem cC_Law_readProduct_5 {l : Launch} {G : Gc} (hfl : l.stackTraces = false) (hW : Wok G wC 54) {rc : Int32 → St → Oz} {x : Nat} (hx : 7 ≤ x) (hrc : ∀ (x2 : Int32) (S : St), Ct l yX1_readSum (Cond.code yX1_readSum cX1_readSum 5 (some .boolean) :: tblG) x 0 0 G wC 54 [.ref (gA G 5), .ref (gA G 1), .int x2] S (rc x2 S)) (x2 : Int32) (S : St) : Ct l yX1_readProduct (Cond.code yX1_readProduct cX1_readProduct 5 (some .boolean) :: tblG) (x + 3) 0 0 G wC 54 [.ref (gA G 5), .ref (gA G 1), .int x2] S (fC_Law_readProduct_5 rc x2 S) := ct_of (own := RX1) hfl (by decide +kernel) rfl hW (Nat.le_of_ble_eq_true rfl) (fun E hE C => by subst hE; exact bC_Law_readProduct_5 C hx hrc  x2 S)
theorem rC_Law_readProduct_5 {E : Ec} {G : Gc} {nL mc ms : Nat} {own : String} {cc : ByteArray} {L : Nat} {ret : Option FieldType} {k n pc ix : Nat} {loc : List (Nat × Value)} {rest : List Value} {rc : Int32 → St → Oz} {x : Nat} {x2 : Int32} {S : St} (hx : 7 ≤ x) (hrc : ∀ (x2 : Int32) (S : St), Ct E.2.1 yX1_readSum (Cond.code yX1_readSum cX1_readSum 5 (some .boolean) :: tblG) x 0 0 G wC 54 [.ref (gA G 5), .ref (gA G 1), .int x2] S (rc x2 S)) (C : JC E (VC G nL mc ms own) cc L ret) (hd : decode cc pc = .ok (.invokevirtual ix, 3)) (hq : Cond.methodLink own ix yX1_readProduct ∈ tblG) (hL : (x + 3) + 1 ≤ L) (hW : (rest.map fun v => v.category).sum ≤ 8) (hf : k + 0 ≤ mc ∧ n + 0 ≤ ms) : Rn E (VC G nL mc ms own) k n 0 0 pc loc (.int x2 :: .ref (gA G 1) :: .ref (gA G 5) :: rest) rest S (fC_Law_readProduct_5 rc x2 S) := rn_V (ci := 1) 5 (V := VC G nL mc ms own) (As := [.ref (gA G 1), .int x2]) (Cq := (RX1, TX1, 4)) (cC_Law_readProduct_5 C.flags C.wok hx hrc x2 S) knX1_readProduct ⟨q_229, q_230⟩ rfl rfl C hd hq hL rfl rfl hW hf

theorem bC_Law_readSum_5_51 {E : Ec} {G : Gc} {rc : Int32 → St → Oz} {x : Nat}  {K13 : Int32 → Int32 → St → Oz} (C : JC E (VC G 5 0 0 RX1) cX1_readSum (x + 4) (some .boolean)) (hx : 7 ≤ x) (hrc : ∀ (x2 : Int32) (S : St), Ct E.2.1 yX1_readSum (Cond.code yX1_readSum cX1_readSum 5 (some .boolean) :: tblG) x 0 0 G wC 54 [.ref (gA G 5), .ref (gA G 1), .int x2] S (rc x2 S))  (hK13 : ∀ (x2 : Int32) (x3 : Int32) (S : St), J E (VC G 5 0 0 RX1) 0 0 13 [(0, .ref (gA G 5)), (1, .ref (gA G 1)), (2, .int x2), (3, .int x3)] [] S (K13 x2 x3 S)) (x2 : Int32) (x3 : Int32) (s0 : Int32) (S : St) : J E (VC G 5 0 0 RX1) 0 0 51 [(0, .ref (gA G 5)), (1, .ref (gA G 1)), (2, .int x2), (3, .int x3)] [.int s0] S (fC_Law_readSum_5_51 rc K13 x2 x3 s0 S) := by
  unfold fC_Law_readSum_5_51
  refine j_istore (pc := 51) [(4, .int s0), (0, .ref (gA G 5)), (1, .ref (gA G 1)), (2, .int x2), (3, .int x3)] C dX1_readSum_51 (Nat.le_of_ble_eq_true rfl) rfl ?_
  refine j_iload (pc := 53) 0 C dX1_readSum_53 rfl ?_
  refine j_if_ne (pc := 55) 60 C dX1_readSum_55 (by decide) ?_ ?_
  ·
    refine j_aload_n (pc := 60) 1 C dX1_readSum_60 rfl rfl ?_
    refine j_aload_n (pc := 61) 2 C dX1_readSum_61 rfl rfl ?_
    refine j_iload_n (pc := 62) 3 C dX1_readSum_62 rfl rfl ?_
    refine j_callI0 (pc := 63) C (rC_Law_readProduct_5 hx hrc C dX1_readSum_63 q_231 (by omega) (Nat.le_of_ble_eq_true rfl) ⟨Nat.le_of_ble_eq_true rfl, Nat.le_of_ble_eq_true rfl⟩) ⟨Nat.le_of_ble_eq_true rfl, Nat.le_of_ble_eq_true rfl⟩ (fun r2 T1 => ?_)
    refine j_if_eq (pc := 66) 78 C dX1_readSum_66 (by decide) ?_ ?_
    ·
      refine j_iconst (pc := 78) 0 C dX1_readSum_78 (by decide) ?_
      exact j_zretc C dX1_readSum_79 rfl (Nat.le_of_ble_eq_true rfl) (Nat.le_of_ble_eq_true rfl) rfl
    ·
      refine j_aload_n (pc := 69) 1 C dX1_readSum_69 rfl rfl ?_
      refine j_iload (pc := 70) 0 C dX1_readSum_70 rfl ?_
      refine j_callI0 (pc := 72) C (rC_Law_put_5 C dX1_readSum_72 q_164 (by omega) (Nat.le_of_ble_eq_true rfl) ⟨Nat.le_of_ble_eq_true rfl, Nat.le_of_ble_eq_true rfl⟩) ⟨Nat.le_of_ble_eq_true rfl, Nat.le_of_ble_eq_true rfl⟩ (fun r4 T3 => ?_)
      refine j_if_ne (pc := 75) 80 C dX1_readSum_75 (by decide) ?_ ?_
      ·
        refine j_iinc (pc := 80) 4 (x3 + 1) [(3, .int (x3 + 1)), (4, .int s0), (0, .ref (gA G 5)), (1, .ref (gA G 1)), (2, .int x2)] C dX1_readSum_80 rfl rfl (Nat.le_of_ble_eq_true rfl) rfl ?_
        refine j_goto (pc := 83) 13 C dX1_readSum_83 (by decide) ?_
        refine j_sub [2, 3, 4, 0] rfl ?_
        exact hK13 x2 (x3 + 1) T3
      ·
        refine j_iconst (pc := 78) 0 C dX1_readSum_78 (by decide) ?_
        exact j_zretc C dX1_readSum_79 rfl (Nat.le_of_ble_eq_true rfl) (Nat.le_of_ble_eq_true rfl) rfl
  ·
    refine j_iconst (pc := 58) 1 C dX1_readSum_58 (by decide) ?_
    exact j_zretc C dX1_readSum_59 rfl (Nat.le_of_ble_eq_true rfl) (Nat.le_of_ble_eq_true rfl) rfl
theorem bC_Law_readSum_5_13 {E : Ec} {G : Gc} {rc : Int32 → St → Oz} {x : Nat}   (C : JC E (VC G 5 0 0 RX1) cX1_readSum (x + 4) (some .boolean)) (hx : 7 ≤ x) (hrc : ∀ (x2 : Int32) (S : St), Ct E.2.1 yX1_readSum (Cond.code yX1_readSum cX1_readSum 5 (some .boolean) :: tblG) x 0 0 G wC 54 [.ref (gA G 5), .ref (gA G 1), .int x2] S (rc x2 S))   : ∀ (n : Nat) (x2 : Int32) (x3 : Int32) (S : St), J E (VC G 5 0 0 RX1) 0 0 13 [(0, .ref (gA G 5)), (1, .ref (gA G 1)), (2, .int x2), (3, .int x3)] [] S (fC_Law_readSum_5_13 rc n x2 x3 S) := by
  intro n
  induction n with
  | zero => intro x2 x3 S; rw [fC_Law_readSum_5_13]; exact j_none
  | succ n ih =>
    intro x2 x3 S
    rw [fC_Law_readSum_5_13]
    refine j_iload_n (pc := 13) 3 C dX1_readSum_13 rfl rfl ?_
    refine j_sipush (pc := 14) 160 C dX1_readSum_14 (by decide) ?_
    refine j_icmp_ge (pc := 17) 86 C dX1_readSum_17 (by decide) ?_ ?_
    ·
      refine j_iconst (pc := 86) 0 C dX1_readSum_86 (by decide) ?_
      exact j_zretc C dX1_readSum_87 rfl (Nat.le_of_ble_eq_true rfl) (Nat.le_of_ble_eq_true rfl) rfl
    ·
      refine j_aload_n (pc := 20) 1 C dX1_readSum_20 rfl rfl ?_
      refine j_bipush (pc := 21) 43 C dX1_readSum_21 (by decide) ?_
      refine j_callI0 (pc := 23) C (rC_Tape_takes C dX1_readSum_23 q_227 (by omega) (Nat.le_of_ble_eq_true rfl) ⟨Nat.le_of_ble_eq_true rfl, Nat.le_of_ble_eq_true rfl⟩) ⟨Nat.le_of_ble_eq_true rfl, Nat.le_of_ble_eq_true rfl⟩ (fun r2 T1 => ?_)
      refine j_if_eq (pc := 26) 35 C dX1_readSum_26 (by decide) ?_ ?_
      ·
        refine j_aload_n (pc := 35) 1 C dX1_readSum_35 rfl rfl ?_
        refine j_bipush (pc := 36) 45 C dX1_readSum_36 (by decide) ?_
        refine j_callI0 (pc := 38) C (rC_Tape_takes C dX1_readSum_38 q_227 (by omega) (Nat.le_of_ble_eq_true rfl) ⟨Nat.le_of_ble_eq_true rfl, Nat.le_of_ble_eq_true rfl⟩) ⟨Nat.le_of_ble_eq_true rfl, Nat.le_of_ble_eq_true rfl⟩ (fun r4 T3 => ?_)
        refine j_if_eq (pc := 41) 50 C dX1_readSum_41 (by decide) ?_ ?_
        ·
          refine j_iconst (pc := 50) 0 C dX1_readSum_50 (by decide) ?_
          exact bC_Law_readSum_5_51 C hx hrc ih x2 x3 0 T3
        ·
          refine j_sipush (pc := 44) 2001 C dX1_readSum_44 (by decide) ?_
          refine j_goto (pc := 47) 51 C dX1_readSum_47 (by decide) ?_
          exact bC_Law_readSum_5_51 C hx hrc ih x2 x3 2001 T3
      ·
        refine j_sipush (pc := 29) 2000 C dX1_readSum_29 (by decide) ?_
        refine j_goto (pc := 32) 51 C dX1_readSum_32 (by decide) ?_
        exact bC_Law_readSum_5_51 C hx hrc ih x2 x3 2000 T1
theorem bC_Law_readSum_5_B {E : Ec} {G : Gc} {rc : Int32 → St → Oz} {x : Nat}   (C : JC E (VC G 5 0 0 RX1) cX1_readSum (x + 4) (some .boolean)) (hx : 7 ≤ x) (hrc : ∀ (x2 : Int32) (S : St), Ct E.2.1 yX1_readSum (Cond.code yX1_readSum cX1_readSum 5 (some .boolean) :: tblG) x 0 0 G wC 54 [.ref (gA G 5), .ref (gA G 1), .int x2] S (rc x2 S))   (x2 : Int32) (S : St) : J E (VC G 5 0 0 RX1) 0 0 0 [(0, .ref (gA G 5)), (1, .ref (gA G 1)), (2, .int x2)] [] S (fC_Law_readSum_5_B rc x2 S) := by
  unfold fC_Law_readSum_5_B
  refine j_aload_n (pc := 0) 0 C dX1_readSum_0 rfl rfl ?_
  refine j_aload_n (pc := 1) 1 C dX1_readSum_1 rfl rfl ?_
  refine j_iload_n (pc := 2) 2 C dX1_readSum_2 rfl rfl ?_
  refine j_callI0 (pc := 3) C (rC_Law_readProduct_5 hx hrc C dX1_readSum_3 q_231 (by omega) (Nat.le_of_ble_eq_true rfl) ⟨Nat.le_of_ble_eq_true rfl, Nat.le_of_ble_eq_true rfl⟩) ⟨Nat.le_of_ble_eq_true rfl, Nat.le_of_ble_eq_true rfl⟩ (fun r2 T1 => ?_)
  refine j_if_ne (pc := 6) 11 C dX1_readSum_6 (by decide) ?_ ?_
  ·
    refine j_iconst (pc := 11) 0 C dX1_readSum_11 (by decide) ?_
    refine j_istore_n (pc := 12) [(3, .int 0), (0, .ref (gA G 5)), (1, .ref (gA G 1)), (2, .int x2)] C dX1_readSum_12 rfl (Nat.le_of_ble_eq_true rfl) rfl ?_
    refine j_sub [1, 2, 3, 0] rfl ?_
    exact bC_Law_readSum_5_13 C hx hrc FU x2 0 T1
  ·
    refine j_iconst (pc := 9) 0 C dX1_readSum_9 (by decide) ?_
    exact j_zretc C dX1_readSum_10 rfl (Nat.le_of_ble_eq_true rfl) (Nat.le_of_ble_eq_true rfl) rfl
theorem cC_Law_readSum_5_B {l : Launch} {G : Gc} (hfl : l.stackTraces = false) (hW : Wok G wC 54) {rc : Int32 → St → Oz} {x : Nat} (hx : 7 ≤ x) (hrc : ∀ (x2 : Int32) (S : St), Ct l yX1_readSum (Cond.code yX1_readSum cX1_readSum 5 (some .boolean) :: tblG) x 0 0 G wC 54 [.ref (gA G 5), .ref (gA G 1), .int x2] S (rc x2 S)) (x2 : Int32) (S : St) : Ct l yX1_readSum (Cond.code yX1_readSum cX1_readSum 5 (some .boolean) :: tblG) (x + 4) 0 0 G wC 54 [.ref (gA G 5), .ref (gA G 1), .int x2] S (fC_Law_readSum_5_B rc x2 S) := ct_of (own := RX1) hfl (by decide +kernel) rfl hW (Nat.le_of_ble_eq_true rfl) (fun E hE C => by subst hE; exact bC_Law_readSum_5_B C hx hrc  x2 S)
theorem cC_Law_readSum_5 {l : Launch} {G : Gc} (hfl : l.stackTraces = false) (hW : Wok G wC 54) : ∀ (d : Nat) (x2 : Int32) (S : St), Ct l yX1_readSum (Cond.code yX1_readSum cX1_readSum 5 (some .boolean) :: tblG) (7 + 4 * d) 0 0 G wC 54 [.ref (gA G 5), .ref (gA G 1), .int x2] S (fC_Law_readSum_5 d x2 S) := by
  intro d
  induction d with
  | zero => intro x2 S r S2 h; rw [fC_Law_readSum_5] at h; cases h
  | succ d ih =>
    intro x2 S
    rw [fC_Law_readSum_5]
    have h := cC_Law_readSum_5_B hfl hW (x := 7 + 4 * d) (by omega) ih x2 S
    rw [Nat.add_assoc] at h
    exact h
theorem rC_Law_readSum_5 {E : Ec} {G : Gc} {nL mc ms : Nat} {own : String} {cc : ByteArray} {L : Nat} {ret : Option FieldType} {k n pc ix : Nat} {loc : List (Nat × Value)} {rest : List Value}  {x2 : Int32} {S : St}  (C : JC E (VC G nL mc ms own) cc L ret) (hd : decode cc pc = .ok (.invokevirtual ix, 3)) (hq : Cond.methodLink own ix yX1_readSum ∈ tblG) (hL : 55 + 1 ≤ L) (hW : (rest.map fun v => v.category).sum ≤ 8) (hf : k + 0 ≤ mc ∧ n + 0 ≤ ms) : Rn E (VC G nL mc ms own) k n 0 0 pc loc (.int x2 :: .ref (gA G 1) :: .ref (gA G 5) :: rest) rest S (fC_Law_readSum_5 12 x2 S) := rn_V (ci := 1) 5 (V := VC G nL mc ms own) (As := [.ref (gA G 1), .int x2]) (Cq := (RX1, TX1, 4)) (cC_Law_readSum_5 C.flags C.wok 12 x2 S) knX1_readSum ⟨q_233, q_234⟩ rfl rfl C hd hq hL rfl rfl hW hf

theorem knX1_readFrom : Kn yX1_readFrom cX1_readFrom 2 (some .boolean) 1 := ⟨q_236, q_161, by decide +kernel, by decide⟩
theorem bC_Law_readFrom_5 {E : Ec} {G : Gc}    (C : JC E (VC G 2 0 0 RX1) cX1_readFrom 56 (some .boolean))     (S : St) : J E (VC G 2 0 0 RX1) 0 0 0 [(0, .ref (gA G 5)), (1, .ref (gA G 1))] [] S (fC_Law_readFrom_5   S) := by
  unfold fC_Law_readFrom_5
  refine j_aload_n (pc := 0) 0 C dX1_readFrom_0 rfl rfl ?_
  refine j_iconst (pc := 1) 0 C dX1_readFrom_1 (by decide) ?_
  refine pC_5_1 (pc := 2) C dX1_readFrom_2 q_158 ?_
  refine j_nxS (fun T1 => ?_)
  refine j_aload_n (pc := 5) 0 C dX1_readFrom_5 rfl rfl ?_
  refine j_aload_n (pc := 6) 1 C dX1_readFrom_6 rfl rfl ?_
  refine j_iconst (pc := 7) 0 C dX1_readFrom_7 (by decide) ?_
  refine j_callI0 (pc := 8) C (rC_Law_readSum_5 C dX1_readFrom_8 q_208 (by omega) (Nat.le_of_ble_eq_true rfl) ⟨Nat.le_of_ble_eq_true rfl, Nat.le_of_ble_eq_true rfl⟩) ⟨Nat.le_of_ble_eq_true rfl, Nat.le_of_ble_eq_true rfl⟩ (fun r3 T2 => ?_)
  refine j_if_ne (pc := 11) 16 C dX1_readFrom_11 (by decide) ?_ ?_
  ·
    refine j_aload_n (pc := 16) 1 C dX1_readFrom_16 rfl rfl ?_
    refine j_callI0 (pc := 17) C (rC_Tape_ended C dX1_readFrom_17 q_235 (by omega) (Nat.le_of_ble_eq_true rfl) ⟨Nat.le_of_ble_eq_true rfl, Nat.le_of_ble_eq_true rfl⟩) ⟨Nat.le_of_ble_eq_true rfl, Nat.le_of_ble_eq_true rfl⟩ (fun r5 T4 => ?_)
    refine j_if_ne (pc := 20) 35 C dX1_readFrom_20 (by decide) ?_ ?_
    ·
      refine j_iconst (pc := 35) 1 C dX1_readFrom_35 (by decide) ?_
      refine j_goto (pc := 36) 40 C dX1_readFrom_36 (by decide) ?_
      exact j_zretc C dX1_readFrom_40 rfl (Nat.le_of_ble_eq_true rfl) (Nat.le_of_ble_eq_true rfl) rfl
    ·
      refine j_aload_n (pc := 23) 1 C dX1_readFrom_23 rfl rfl ?_
      refine j_aload_n (pc := 24) 1 C dX1_readFrom_24 rfl rfl ?_
      refine j_callI0 (pc := 25) C (rC_Tape_place C dX1_readFrom_25 q_216 (by omega) (Nat.le_of_ble_eq_true rfl) ⟨Nat.le_of_ble_eq_true rfl, Nat.le_of_ble_eq_true rfl⟩) ⟨Nat.le_of_ble_eq_true rfl, Nat.le_of_ble_eq_true rfl⟩ (fun r7 T6 => ?_)
      refine j_iconst (pc := 28) 1 C dX1_readFrom_28 (by decide) ?_
      refine j_callI0 (pc := 29) C (rC_Tape_refuse C dX1_readFrom_29 q_217 (by omega) (Nat.le_of_ble_eq_true rfl) ⟨Nat.le_of_ble_eq_true rfl, Nat.le_of_ble_eq_true rfl⟩) ⟨Nat.le_of_ble_eq_true rfl, Nat.le_of_ble_eq_true rfl⟩ (fun r9 T8 => ?_)
      refine j_if_eq (pc := 32) 39 C dX1_readFrom_32 (by decide) ?_ ?_
      ·
        refine j_iconst (pc := 39) 0 C dX1_readFrom_39 (by decide) ?_
        exact j_zretc C dX1_readFrom_40 rfl (Nat.le_of_ble_eq_true rfl) (Nat.le_of_ble_eq_true rfl) rfl
      ·
        refine j_iconst (pc := 35) 1 C dX1_readFrom_35 (by decide) ?_
        refine j_goto (pc := 36) 40 C dX1_readFrom_36 (by decide) ?_
        exact j_zretc C dX1_readFrom_40 rfl (Nat.le_of_ble_eq_true rfl) (Nat.le_of_ble_eq_true rfl) rfl
  ·
    refine j_iconst (pc := 14) 0 C dX1_readFrom_14 (by decide) ?_
    exact j_zretc C dX1_readFrom_15 rfl (Nat.le_of_ble_eq_true rfl) (Nat.le_of_ble_eq_true rfl) rfl
theorem cC_Law_readFrom_5 {l : Launch} {G : Gc} (hfl : l.stackTraces = false) (hW : Wok G wC 54)    (S : St) : Ct l yX1_readFrom (Cond.code yX1_readFrom cX1_readFrom 2 (some .boolean) :: tblG) 56 0 0 G wC 54 [.ref (gA G 5), .ref (gA G 1)] S (fC_Law_readFrom_5  S) := ct_of (own := RX1) hfl (by decide +kernel) rfl hW (Nat.le_of_ble_eq_true rfl) (fun E hE C => by subst hE; exact bC_Law_readFrom_5 C    S)
theorem rC_Law_readFrom_5 {E : Ec} {G : Gc} {nL mc ms : Nat} {own : String} {cc : ByteArray} {L : Nat} {ret : Option FieldType} {k n pc ix : Nat} {loc : List (Nat × Value)} {rest : List Value}   {S : St}  (C : JC E (VC G nL mc ms own) cc L ret) (hd : decode cc pc = .ok (.invokevirtual ix, 3)) (hq : Cond.methodLink own ix yX1_readFrom ∈ tblG) (hL : 56 + 1 ≤ L) (hW : (rest.map fun v => v.category).sum ≤ 8) (hf : k + 0 ≤ mc ∧ n + 0 ≤ ms) : Rn E (VC G nL mc ms own) k n 0 0 pc loc (.ref (gA G 1) :: .ref (gA G 5) :: rest) rest S (fC_Law_readFrom_5  S) := rn_V (ci := 1) 5 (V := VC G nL mc ms own) (As := [.ref (gA G 1)]) (Cq := (RX1, TX1, 4)) (cC_Law_readFrom_5 C.flags C.wok   S) knX1_readFrom ⟨q_237, q_238⟩ rfl rfl C hd hq hL rfl rfl hW hf

theorem knX1_copyFrom : Kn yX1_copyFrom cX1_copyFrom 2 none 1 := ⟨q_241, q_161, by decide +kernel, by decide⟩
theorem bC_Law_copyFrom_4 {E : Ec} {G : Gc}    (C : JC E (VC G 2 0 0 RX1) cX1_copyFrom 1 none)     (S : St) : J E (VC G 2 0 0 RX1) 0 0 0 [(0, .ref (gA G 4)), (1, .ref (gA G 5))] [] S (fC_Law_copyFrom_4   S) := by
  unfold fC_Law_copyFrom_4
  refine j_aload_n (pc := 0) 1 C dX1_copyFrom_0 rfl rfl ?_
  refine gC_5_0 (pc := 1) C dX1_copyFrom_1 q_159 ?_
  refine j_iconst (pc := 4) 0 C dX1_copyFrom_4 (by decide) ?_
  refine j_aload_n (pc := 5) 0 C dX1_copyFrom_5 rfl rfl ?_
  refine gC_4_0 (pc := 6) C dX1_copyFrom_6 q_159 ?_
  refine j_iconst (pc := 9) 0 C dX1_copyFrom_9 (by decide) ?_
  refine j_sipush (pc := 10) 160 C dX1_copyFrom_10 (by decide) ?_
  refine j_copy (pc := 13) (V := VC G 2 _ _ RX1) (sC S 34 31 0 0 160) 34 31 rfl rfl rfl C dX1_copyFrom_13 q_240 q_150 q_151 q_152 (by omega) (Nat.le_of_ble_eq_true rfl) ?_
  refine j_nxS (fun T1 => ?_)
  refine j_aload_n (pc := 16) 0 C dX1_copyFrom_16 rfl rfl ?_
  refine j_aload_n (pc := 17) 1 C dX1_copyFrom_17 rfl rfl ?_
  refine gC_5_1 (pc := 18) C dX1_copyFrom_18 q_158 ?_
  refine pC_4_1 (pc := 21) C dX1_copyFrom_21 q_158 ?_
  refine j_nxS (fun T2 => ?_)
  exact j_vret C dX1_copyFrom_24 rfl (Nat.le_of_ble_eq_true rfl) (Nat.le_of_ble_eq_true rfl)
theorem cC_Law_copyFrom_4 {l : Launch} {G : Gc} (hfl : l.stackTraces = false) (hW : Wok G wC 54)    (S : St) : Ct l yX1_copyFrom (Cond.code yX1_copyFrom cX1_copyFrom 2 none :: tblG) 1 0 0 G wC 54 [.ref (gA G 4), .ref (gA G 5)] S (fC_Law_copyFrom_4  S) := ct_of (own := RX1) hfl (by decide +kernel) rfl hW (Nat.le_of_ble_eq_true rfl) (fun E hE C => by subst hE; exact bC_Law_copyFrom_4 C    S)
theorem rC_Law_copyFrom_4 {E : Ec} {G : Gc} {nL mc ms : Nat} {own : String} {cc : ByteArray} {L : Nat} {ret : Option FieldType} {k n pc ix : Nat} {loc : List (Nat × Value)} {rest : List Value}   {S : St}  (C : JC E (VC G nL mc ms own) cc L ret) (hd : decode cc pc = .ok (.invokevirtual ix, 3)) (hq : Cond.methodLink own ix yX1_copyFrom ∈ tblG) (hL : 1 + 1 ≤ L) (hW : (rest.map fun v => v.category).sum ≤ 8) (hf : k + 0 ≤ mc ∧ n + 0 ≤ ms) : Rn E (VC G nL mc ms own) k n 0 0 pc loc (.ref (gA G 5) :: .ref (gA G 4) :: rest) rest S (fC_Law_copyFrom_4  S) := rn_V (ci := 1) 4 (V := VC G nL mc ms own) (As := [.ref (gA G 5)]) (Cq := (RX1, TX1, 4)) (cC_Law_copyFrom_4 C.flags C.wok   S) knX1_copyFrom ⟨q_242, q_243⟩ rfl rfl C hd hq hL rfl rfl hW hf

theorem knX9_law : Kn yX9_law cX9_law 2 (some .int) 1 := ⟨q_245, q_40, by decide +kernel, by decide⟩
theorem bC_Main_law {E : Ec} {G : Gc}    (C : JC E (VC G 2 1 6 RX9) cX9_law 57 (some .int))    (x1 : Int32) (S : St) : J E (VC G 2 1 6 RX9) 0 0 0 [(0, .ref (gA G 0)), (1, .int x1)] [] S (fC_Main_law  x1 S) := by
  unfold fC_Main_law
  refine j_aload_n (pc := 0) 0 C dX9_law_0 rfl rfl ?_
  refine j_iload_n (pc := 1) 1 C dX9_law_1 rfl rfl ?_
  refine j_sipush (pc := 2) 150 C dX9_law_2 (by decide) ?_
  refine j_callv (pc := 5) C (rC_Main_openText C dX9_law_5 q_72 (by omega) (Nat.le_of_ble_eq_true rfl) ⟨Nat.le_of_ble_eq_true rfl, Nat.le_of_ble_eq_true rfl⟩) ⟨Nat.le_of_ble_eq_true rfl, Nat.le_of_ble_eq_true rfl⟩ (fun T1 => ?_)
  refine j_aload_n (pc := 8) 0 C dX9_law_8 rfl rfl ?_
  refine gC_0_4 (pc := 9) C dX9_law_9 q_192 ?_
  refine j_aload_n (pc := 12) 0 C dX9_law_12 rfl rfl ?_
  refine gC_0_0 (pc := 13) C dX9_law_13 q_30 ?_
  refine j_callI0 (pc := 16) C (rC_Law_readFrom_5 C dX9_law_16 q_239 (by omega) (Nat.le_of_ble_eq_true rfl) ⟨Nat.le_of_ble_eq_true rfl, Nat.le_of_ble_eq_true rfl⟩) ⟨Nat.le_of_ble_eq_true rfl, Nat.le_of_ble_eq_true rfl⟩ (fun r4 T3 => ?_)
  refine j_if_ne (pc := 19) 33 C dX9_law_19 (by decide) ?_ ?_
  ·
    refine j_aload_n (pc := 33) 0 C dX9_law_33 rfl rfl ?_
    refine gC_0_3 (pc := 34) C dX9_law_34 q_157 ?_
    refine j_aload_n (pc := 37) 0 C dX9_law_37 rfl rfl ?_
    refine gC_0_4 (pc := 38) C dX9_law_38 q_192 ?_
    refine j_callv0 (pc := 41) C (rC_Law_copyFrom_4 C dX9_law_41 q_244 (by omega) (Nat.le_of_ble_eq_true rfl) ⟨Nat.le_of_ble_eq_true rfl, Nat.le_of_ble_eq_true rfl⟩) ⟨Nat.le_of_ble_eq_true rfl, Nat.le_of_ble_eq_true rfl⟩ (fun T5 => ?_)
    refine j_iconst (pc := 44) 1 C dX9_law_44 (by decide) ?_
    exact j_iret C dX9_law_45 rfl (Nat.le_of_ble_eq_true rfl) (Nat.le_of_ble_eq_true rfl)
  ·
    refine j_aload_n (pc := 22) 0 C dX9_law_22 rfl rfl ?_
    refine gC_0_0 (pc := 23) C dX9_law_23 q_30 ?_
    refine gC_1_2 (pc := 26) C dX9_law_26 q_188 ?_
    refine j_bipush (pc := 29) 10 C dX9_law_29 (by decide) ?_
    refine j_isub (pc := 31) C dX9_law_31 ?_
    exact j_iret C dX9_law_32 rfl (Nat.le_of_ble_eq_true rfl) (Nat.le_of_ble_eq_true rfl)
theorem cC_Main_law {l : Launch} {G : Gc} (hfl : l.stackTraces = false) (hW : Wok G wC 54)   (x1 : Int32) (S : St) : Ct l yX9_law (Cond.code yX9_law cX9_law 2 (some .int) :: tblG) 57 1 6 G wC 54 [.ref (gA G 0), .int x1] S (fC_Main_law x1 S) := ct_of (own := RX9) hfl (by decide +kernel) rfl hW (Nat.le_of_ble_eq_true rfl) (fun E hE C => by subst hE; exact bC_Main_law C   x1 S)
theorem rC_Main_law {E : Ec} {G : Gc} {nL mc ms : Nat} {own : String} {cc : ByteArray} {L : Nat} {ret : Option FieldType} {k n pc ix : Nat} {loc : List (Nat × Value)} {rest : List Value}  {x1 : Int32} {S : St}  (C : JC E (VC G nL mc ms own) cc L ret) (hd : decode cc pc = .ok (.invokevirtual ix, 3)) (hq : Cond.methodLink own ix yX9_law ∈ tblG) (hL : 57 + 1 ≤ L) (hW : (rest.map fun v => v.category).sum ≤ 8) (hf : k + 1 ≤ mc ∧ n + 6 ≤ ms) : Rn E (VC G nL mc ms own) k n 1 6 pc loc (.int x1 :: .ref (gA G 0) :: rest) rest S (fC_Main_law x1 S) := rn_V (ci := 9) 0 (V := VC G nL mc ms own) (As := [.int x1]) (Cq := (RX9, TX9, 15)) (cC_Main_law C.flags C.wok  x1 S) knX9_law ⟨q_246, q_247⟩ rfl rfl C hd hq hL rfl rfl hW hf

theorem bC_Tape_isWord_v58_20 {E : Ec} {G : Gc}  {x1 : Nat}  (C : JC E (VC G 3 0 0 RX6) cX6_isWord 5 (some .boolean))  (hs_x1 : x1 < 40)  : ∀ (n : Nat) (x2 : Int32) (S : St), J E (VC G 3 0 0 RX6) 0 0 20 [(0, .ref (gA G 1)), (1, .ref (gK G x1)), (2, .int x2)] [] S (fC_Tape_isWord_v58_20 x1 n x2 S) := by
  intro n
  induction n with
  | zero => intro x2 S; rw [fC_Tape_isWord_v58_20]; exact j_none
  | succ n ih =>
    intro x2 S
    rw [fC_Tape_isWord_v58_20]
    refine j_iload_n (pc := 20) 2 C dX6_isWord_20 rfl rfl ?_
    refine j_aload_n (pc := 21) 1 C dX6_isWord_21 rfl rfl ?_
    refine j_slen (pc := 22) C dX6_isWord_22 q_91 hs_x1 (by omega) (Nat.le_of_ble_eq_true rfl) (Nat.le_of_ble_eq_true rfl) (Nat.le_of_ble_eq_true rfl) ?_
    refine j_icmp_ge (pc := 25) 55 C dX6_isWord_25 (by decide) ?_ ?_
    ·
      refine j_iconst (pc := 55) 1 C dX6_isWord_55 (by decide) ?_
      exact j_zretc C dX6_isWord_56 rfl (Nat.le_of_ble_eq_true rfl) (Nat.le_of_ble_eq_true rfl) rfl
    ·
      refine j_aload_n (pc := 28) 0 C dX6_isWord_28 rfl rfl ?_
      refine gC_1_0 (pc := 29) C dX6_isWord_29 q_33 ?_
      refine j_aload_n (pc := 32) 0 C dX6_isWord_32 rfl rfl ?_
      refine gC_1_7 (pc := 33) C dX6_isWord_33 q_86 ?_
      refine j_iload_n (pc := 36) 2 C dX6_isWord_36 rfl rfl ?_
      refine j_iadd (pc := 37) C dX6_isWord_37 ?_
      refine aC_14 (pc := 38) C dX6_isWord_38 ?_
      refine j_aload_n (pc := 39) 1 C dX6_isWord_39 rfl rfl ?_
      refine j_iload_n (pc := 40) 2 C dX6_isWord_40 rfl rfl ?_
      refine j_schar (pc := 41) C dX6_isWord_41 q_92 hs_x1 (by omega) (Nat.le_of_ble_eq_true rfl) (Nat.le_of_ble_eq_true rfl) (Nat.le_of_ble_eq_true rfl) ?_
      refine j_icmp_eq (pc := 44) 49 C dX6_isWord_44 (by decide) ?_ ?_
      ·
        refine j_iinc (pc := 49) 2 (x2 + 1) [(2, .int (x2 + 1)), (0, .ref (gA G 1)), (1, .ref (gK G x1))] C dX6_isWord_49 rfl rfl (Nat.le_of_ble_eq_true rfl) rfl ?_
        refine j_goto (pc := 52) 20 C dX6_isWord_52 (by decide) ?_
        refine j_sub [1, 2, 0] rfl ?_
        exact ih (x2 + 1) S
      ·
        refine j_iconst (pc := 47) 0 C dX6_isWord_47 (by decide) ?_
        exact j_zretc C dX6_isWord_48 rfl (Nat.le_of_ble_eq_true rfl) (Nat.le_of_ble_eq_true rfl) rfl
theorem bC_Tape_isWord_v58 {E : Ec} {G : Gc}  {x1 : Nat}  (C : JC E (VC G 3 0 0 RX6) cX6_isWord 5 (some .boolean))  (hs_x1 : x1 < 40)   (S : St) : J E (VC G 3 0 0 RX6) 0 0 0 [(0, .ref (gA G 1)), (1, .ref (gK G x1))] [] S (fC_Tape_isWord_v58 x1  S) := by
  unfold fC_Tape_isWord_v58
  refine j_aload_n (pc := 0) 0 C dX6_isWord_0 rfl rfl ?_
  refine gC_1_6 (pc := 1) C dX6_isWord_1 q_62 ?_
  refine j_aload_n (pc := 4) 0 C dX6_isWord_4 rfl rfl ?_
  refine gC_1_7 (pc := 5) C dX6_isWord_5 q_86 ?_
  refine j_isub (pc := 8) C dX6_isWord_8 ?_
  refine j_aload_n (pc := 9) 1 C dX6_isWord_9 rfl rfl ?_
  refine j_slen (pc := 10) C dX6_isWord_10 q_91 hs_x1 (by omega) (Nat.le_of_ble_eq_true rfl) (Nat.le_of_ble_eq_true rfl) (Nat.le_of_ble_eq_true rfl) ?_
  refine j_icmp_eq (pc := 13) 18 C dX6_isWord_13 (by decide) ?_ ?_
  ·
    refine j_iconst (pc := 18) 0 C dX6_isWord_18 (by decide) ?_
    refine j_istore_n (pc := 19) [(2, .int 0), (0, .ref (gA G 1)), (1, .ref (gK G x1))] C dX6_isWord_19 rfl (Nat.le_of_ble_eq_true rfl) rfl ?_
    refine j_sub [1, 2, 0] rfl ?_
    exact bC_Tape_isWord_v58_20 C hs_x1 FU 0 S
  ·
    refine j_iconst (pc := 16) 0 C dX6_isWord_16 (by decide) ?_
    exact j_zretc C dX6_isWord_17 rfl (Nat.le_of_ble_eq_true rfl) (Nat.le_of_ble_eq_true rfl) rfl
theorem cC_Tape_isWord_v58 {l : Launch} {G : Gc} (hfl : l.stackTraces = false) (hW : Wok G wC 54) {x1 : Nat} (hs_x1 : x1 < 40)  (S : St) : Ct l yX6_isWord (Cond.code yX6_isWord cX6_isWord 3 (some .boolean) :: tblG) 5 0 0 G wC 54 [.ref (gA G 1), .ref (gK G x1)] S (fC_Tape_isWord_v58 x1 S) := ct_of (own := RX6) hfl (by decide +kernel) rfl hW (Nat.le_of_ble_eq_true rfl) (fun E hE C => by subst hE; exact bC_Tape_isWord_v58 C hs_x1   S)
theorem rC_Tape_isWord_v58 {E : Ec} {G : Gc} {nL mc ms : Nat} {own : String} {cc : ByteArray} {L : Nat} {ret : Option FieldType} {k n pc ix : Nat} {loc : List (Nat × Value)} {rest : List Value}  {x1 : Nat} {S : St} (hs_x1 : x1 < 40) (C : JC E (VC G nL mc ms own) cc L ret) (hd : decode cc pc = .ok (.invokevirtual ix, 3)) (hq : Cond.methodLink own ix yX6_isWord ∈ tblG) (hL : 5 + 1 ≤ L) (hW : (rest.map fun v => v.category).sum ≤ 8) (hf : k + 0 ≤ mc ∧ n + 0 ≤ ms) : Rn E (VC G nL mc ms own) k n 0 0 pc loc (.ref (gK G x1) :: .ref (gA G 1) :: rest) rest S (fC_Tape_isWord_v58 x1 S) := rn_V (ci := 6) 1 (V := VC G nL mc ms own) (As := [.ref (gK G x1)]) (Cq := (RX6, TX6, 8)) (cC_Tape_isWord_v58 C.flags C.wok hs_x1  S) knX6_isWord ⟨q_94, q_95⟩ rfl rfl C hd hq hL rfl rfl hW hf

theorem bC_Tape_isWord_v59_20 {E : Ec} {G : Gc}  {x1 : Nat}  (C : JC E (VC G 3 0 0 RX6) cX6_isWord 5 (some .boolean))  (hs_x1 : x1 < 40)  : ∀ (n : Nat) (x2 : Int32) (S : St), J E (VC G 3 0 0 RX6) 0 0 20 [(0, .ref (gA G 1)), (1, .ref (gK G x1)), (2, .int x2)] [] S (fC_Tape_isWord_v59_20 x1 n x2 S) := by
  intro n
  induction n with
  | zero => intro x2 S; rw [fC_Tape_isWord_v59_20]; exact j_none
  | succ n ih =>
    intro x2 S
    rw [fC_Tape_isWord_v59_20]
    refine j_iload_n (pc := 20) 2 C dX6_isWord_20 rfl rfl ?_
    refine j_aload_n (pc := 21) 1 C dX6_isWord_21 rfl rfl ?_
    refine j_slen (pc := 22) C dX6_isWord_22 q_91 hs_x1 (by omega) (Nat.le_of_ble_eq_true rfl) (Nat.le_of_ble_eq_true rfl) (Nat.le_of_ble_eq_true rfl) ?_
    refine j_icmp_ge (pc := 25) 55 C dX6_isWord_25 (by decide) ?_ ?_
    ·
      refine j_iconst (pc := 55) 1 C dX6_isWord_55 (by decide) ?_
      exact j_zretc C dX6_isWord_56 rfl (Nat.le_of_ble_eq_true rfl) (Nat.le_of_ble_eq_true rfl) rfl
    ·
      refine j_aload_n (pc := 28) 0 C dX6_isWord_28 rfl rfl ?_
      refine gC_1_0 (pc := 29) C dX6_isWord_29 q_33 ?_
      refine j_aload_n (pc := 32) 0 C dX6_isWord_32 rfl rfl ?_
      refine gC_1_7 (pc := 33) C dX6_isWord_33 q_86 ?_
      refine j_iload_n (pc := 36) 2 C dX6_isWord_36 rfl rfl ?_
      refine j_iadd (pc := 37) C dX6_isWord_37 ?_
      refine aC_14 (pc := 38) C dX6_isWord_38 ?_
      refine j_aload_n (pc := 39) 1 C dX6_isWord_39 rfl rfl ?_
      refine j_iload_n (pc := 40) 2 C dX6_isWord_40 rfl rfl ?_
      refine j_schar (pc := 41) C dX6_isWord_41 q_92 hs_x1 (by omega) (Nat.le_of_ble_eq_true rfl) (Nat.le_of_ble_eq_true rfl) (Nat.le_of_ble_eq_true rfl) ?_
      refine j_icmp_eq (pc := 44) 49 C dX6_isWord_44 (by decide) ?_ ?_
      ·
        refine j_iinc (pc := 49) 2 (x2 + 1) [(2, .int (x2 + 1)), (0, .ref (gA G 1)), (1, .ref (gK G x1))] C dX6_isWord_49 rfl rfl (Nat.le_of_ble_eq_true rfl) rfl ?_
        refine j_goto (pc := 52) 20 C dX6_isWord_52 (by decide) ?_
        refine j_sub [1, 2, 0] rfl ?_
        exact ih (x2 + 1) S
      ·
        refine j_iconst (pc := 47) 0 C dX6_isWord_47 (by decide) ?_
        exact j_zretc C dX6_isWord_48 rfl (Nat.le_of_ble_eq_true rfl) (Nat.le_of_ble_eq_true rfl) rfl
theorem bC_Tape_isWord_v59 {E : Ec} {G : Gc}  {x1 : Nat}  (C : JC E (VC G 3 0 0 RX6) cX6_isWord 5 (some .boolean))  (hs_x1 : x1 < 40)   (S : St) : J E (VC G 3 0 0 RX6) 0 0 0 [(0, .ref (gA G 1)), (1, .ref (gK G x1))] [] S (fC_Tape_isWord_v59 x1  S) := by
  unfold fC_Tape_isWord_v59
  refine j_aload_n (pc := 0) 0 C dX6_isWord_0 rfl rfl ?_
  refine gC_1_6 (pc := 1) C dX6_isWord_1 q_62 ?_
  refine j_aload_n (pc := 4) 0 C dX6_isWord_4 rfl rfl ?_
  refine gC_1_7 (pc := 5) C dX6_isWord_5 q_86 ?_
  refine j_isub (pc := 8) C dX6_isWord_8 ?_
  refine j_aload_n (pc := 9) 1 C dX6_isWord_9 rfl rfl ?_
  refine j_slen (pc := 10) C dX6_isWord_10 q_91 hs_x1 (by omega) (Nat.le_of_ble_eq_true rfl) (Nat.le_of_ble_eq_true rfl) (Nat.le_of_ble_eq_true rfl) ?_
  refine j_icmp_eq (pc := 13) 18 C dX6_isWord_13 (by decide) ?_ ?_
  ·
    refine j_iconst (pc := 18) 0 C dX6_isWord_18 (by decide) ?_
    refine j_istore_n (pc := 19) [(2, .int 0), (0, .ref (gA G 1)), (1, .ref (gK G x1))] C dX6_isWord_19 rfl (Nat.le_of_ble_eq_true rfl) rfl ?_
    refine j_sub [1, 2, 0] rfl ?_
    exact bC_Tape_isWord_v59_20 C hs_x1 FU 0 S
  ·
    refine j_iconst (pc := 16) 0 C dX6_isWord_16 (by decide) ?_
    exact j_zretc C dX6_isWord_17 rfl (Nat.le_of_ble_eq_true rfl) (Nat.le_of_ble_eq_true rfl) rfl
theorem cC_Tape_isWord_v59 {l : Launch} {G : Gc} (hfl : l.stackTraces = false) (hW : Wok G wC 54) {x1 : Nat} (hs_x1 : x1 < 40)  (S : St) : Ct l yX6_isWord (Cond.code yX6_isWord cX6_isWord 3 (some .boolean) :: tblG) 5 0 0 G wC 54 [.ref (gA G 1), .ref (gK G x1)] S (fC_Tape_isWord_v59 x1 S) := ct_of (own := RX6) hfl (by decide +kernel) rfl hW (Nat.le_of_ble_eq_true rfl) (fun E hE C => by subst hE; exact bC_Tape_isWord_v59 C hs_x1   S)
theorem rC_Tape_isWord_v59 {E : Ec} {G : Gc} {nL mc ms : Nat} {own : String} {cc : ByteArray} {L : Nat} {ret : Option FieldType} {k n pc ix : Nat} {loc : List (Nat × Value)} {rest : List Value}  {x1 : Nat} {S : St} (hs_x1 : x1 < 40) (C : JC E (VC G nL mc ms own) cc L ret) (hd : decode cc pc = .ok (.invokevirtual ix, 3)) (hq : Cond.methodLink own ix yX6_isWord ∈ tblG) (hL : 5 + 1 ≤ L) (hW : (rest.map fun v => v.category).sum ≤ 8) (hf : k + 0 ≤ mc ∧ n + 0 ≤ ms) : Rn E (VC G nL mc ms own) k n 0 0 pc loc (.ref (gK G x1) :: .ref (gA G 1) :: rest) rest S (fC_Tape_isWord_v59 x1 S) := rn_V (ci := 6) 1 (V := VC G nL mc ms own) (As := [.ref (gK G x1)]) (Cq := (RX6, TX6, 8)) (cC_Tape_isWord_v59 C.flags C.wok hs_x1  S) knX6_isWord ⟨q_94, q_95⟩ rfl rfl C hd hq hL rfl rfl hW hf

theorem bC_Tape_isWord_v60_20 {E : Ec} {G : Gc}  {x1 : Nat}  (C : JC E (VC G 3 0 0 RX6) cX6_isWord 5 (some .boolean))  (hs_x1 : x1 < 40)  : ∀ (n : Nat) (x2 : Int32) (S : St), J E (VC G 3 0 0 RX6) 0 0 20 [(0, .ref (gA G 1)), (1, .ref (gK G x1)), (2, .int x2)] [] S (fC_Tape_isWord_v60_20 x1 n x2 S) := by
  intro n
  induction n with
  | zero => intro x2 S; rw [fC_Tape_isWord_v60_20]; exact j_none
  | succ n ih =>
    intro x2 S
    rw [fC_Tape_isWord_v60_20]
    refine j_iload_n (pc := 20) 2 C dX6_isWord_20 rfl rfl ?_
    refine j_aload_n (pc := 21) 1 C dX6_isWord_21 rfl rfl ?_
    refine j_slen (pc := 22) C dX6_isWord_22 q_91 hs_x1 (by omega) (Nat.le_of_ble_eq_true rfl) (Nat.le_of_ble_eq_true rfl) (Nat.le_of_ble_eq_true rfl) ?_
    refine j_icmp_ge (pc := 25) 55 C dX6_isWord_25 (by decide) ?_ ?_
    ·
      refine j_iconst (pc := 55) 1 C dX6_isWord_55 (by decide) ?_
      exact j_zretc C dX6_isWord_56 rfl (Nat.le_of_ble_eq_true rfl) (Nat.le_of_ble_eq_true rfl) rfl
    ·
      refine j_aload_n (pc := 28) 0 C dX6_isWord_28 rfl rfl ?_
      refine gC_1_0 (pc := 29) C dX6_isWord_29 q_33 ?_
      refine j_aload_n (pc := 32) 0 C dX6_isWord_32 rfl rfl ?_
      refine gC_1_7 (pc := 33) C dX6_isWord_33 q_86 ?_
      refine j_iload_n (pc := 36) 2 C dX6_isWord_36 rfl rfl ?_
      refine j_iadd (pc := 37) C dX6_isWord_37 ?_
      refine aC_14 (pc := 38) C dX6_isWord_38 ?_
      refine j_aload_n (pc := 39) 1 C dX6_isWord_39 rfl rfl ?_
      refine j_iload_n (pc := 40) 2 C dX6_isWord_40 rfl rfl ?_
      refine j_schar (pc := 41) C dX6_isWord_41 q_92 hs_x1 (by omega) (Nat.le_of_ble_eq_true rfl) (Nat.le_of_ble_eq_true rfl) (Nat.le_of_ble_eq_true rfl) ?_
      refine j_icmp_eq (pc := 44) 49 C dX6_isWord_44 (by decide) ?_ ?_
      ·
        refine j_iinc (pc := 49) 2 (x2 + 1) [(2, .int (x2 + 1)), (0, .ref (gA G 1)), (1, .ref (gK G x1))] C dX6_isWord_49 rfl rfl (Nat.le_of_ble_eq_true rfl) rfl ?_
        refine j_goto (pc := 52) 20 C dX6_isWord_52 (by decide) ?_
        refine j_sub [1, 2, 0] rfl ?_
        exact ih (x2 + 1) S
      ·
        refine j_iconst (pc := 47) 0 C dX6_isWord_47 (by decide) ?_
        exact j_zretc C dX6_isWord_48 rfl (Nat.le_of_ble_eq_true rfl) (Nat.le_of_ble_eq_true rfl) rfl
theorem bC_Tape_isWord_v60 {E : Ec} {G : Gc}  {x1 : Nat}  (C : JC E (VC G 3 0 0 RX6) cX6_isWord 5 (some .boolean))  (hs_x1 : x1 < 40)   (S : St) : J E (VC G 3 0 0 RX6) 0 0 0 [(0, .ref (gA G 1)), (1, .ref (gK G x1))] [] S (fC_Tape_isWord_v60 x1  S) := by
  unfold fC_Tape_isWord_v60
  refine j_aload_n (pc := 0) 0 C dX6_isWord_0 rfl rfl ?_
  refine gC_1_6 (pc := 1) C dX6_isWord_1 q_62 ?_
  refine j_aload_n (pc := 4) 0 C dX6_isWord_4 rfl rfl ?_
  refine gC_1_7 (pc := 5) C dX6_isWord_5 q_86 ?_
  refine j_isub (pc := 8) C dX6_isWord_8 ?_
  refine j_aload_n (pc := 9) 1 C dX6_isWord_9 rfl rfl ?_
  refine j_slen (pc := 10) C dX6_isWord_10 q_91 hs_x1 (by omega) (Nat.le_of_ble_eq_true rfl) (Nat.le_of_ble_eq_true rfl) (Nat.le_of_ble_eq_true rfl) ?_
  refine j_icmp_eq (pc := 13) 18 C dX6_isWord_13 (by decide) ?_ ?_
  ·
    refine j_iconst (pc := 18) 0 C dX6_isWord_18 (by decide) ?_
    refine j_istore_n (pc := 19) [(2, .int 0), (0, .ref (gA G 1)), (1, .ref (gK G x1))] C dX6_isWord_19 rfl (Nat.le_of_ble_eq_true rfl) rfl ?_
    refine j_sub [1, 2, 0] rfl ?_
    exact bC_Tape_isWord_v60_20 C hs_x1 FU 0 S
  ·
    refine j_iconst (pc := 16) 0 C dX6_isWord_16 (by decide) ?_
    exact j_zretc C dX6_isWord_17 rfl (Nat.le_of_ble_eq_true rfl) (Nat.le_of_ble_eq_true rfl) rfl
theorem cC_Tape_isWord_v60 {l : Launch} {G : Gc} (hfl : l.stackTraces = false) (hW : Wok G wC 54) {x1 : Nat} (hs_x1 : x1 < 40)  (S : St) : Ct l yX6_isWord (Cond.code yX6_isWord cX6_isWord 3 (some .boolean) :: tblG) 5 0 0 G wC 54 [.ref (gA G 1), .ref (gK G x1)] S (fC_Tape_isWord_v60 x1 S) := ct_of (own := RX6) hfl (by decide +kernel) rfl hW (Nat.le_of_ble_eq_true rfl) (fun E hE C => by subst hE; exact bC_Tape_isWord_v60 C hs_x1   S)
theorem rC_Tape_isWord_v60 {E : Ec} {G : Gc} {nL mc ms : Nat} {own : String} {cc : ByteArray} {L : Nat} {ret : Option FieldType} {k n pc ix : Nat} {loc : List (Nat × Value)} {rest : List Value}  {x1 : Nat} {S : St} (hs_x1 : x1 < 40) (C : JC E (VC G nL mc ms own) cc L ret) (hd : decode cc pc = .ok (.invokevirtual ix, 3)) (hq : Cond.methodLink own ix yX6_isWord ∈ tblG) (hL : 5 + 1 ≤ L) (hW : (rest.map fun v => v.category).sum ≤ 8) (hf : k + 0 ≤ mc ∧ n + 0 ≤ ms) : Rn E (VC G nL mc ms own) k n 0 0 pc loc (.ref (gK G x1) :: .ref (gA G 1) :: rest) rest S (fC_Tape_isWord_v60 x1 S) := rn_V (ci := 6) 1 (V := VC G nL mc ms own) (As := [.ref (gK G x1)]) (Cq := (RX6, TX6, 8)) (cC_Tape_isWord_v60 C.flags C.wok hs_x1  S) knX6_isWord ⟨q_94, q_95⟩ rfl rfl C hd hq hL rfl rfl hW hf

theorem bC_Tape_isWord_v61_20 {E : Ec} {G : Gc}  {x1 : Nat}  (C : JC E (VC G 3 0 0 RX6) cX6_isWord 5 (some .boolean))  (hs_x1 : x1 < 40)  : ∀ (n : Nat) (x2 : Int32) (S : St), J E (VC G 3 0 0 RX6) 0 0 20 [(0, .ref (gA G 1)), (1, .ref (gK G x1)), (2, .int x2)] [] S (fC_Tape_isWord_v61_20 x1 n x2 S) := by
  intro n
  induction n with
  | zero => intro x2 S; rw [fC_Tape_isWord_v61_20]; exact j_none
  | succ n ih =>
    intro x2 S
    rw [fC_Tape_isWord_v61_20]
    refine j_iload_n (pc := 20) 2 C dX6_isWord_20 rfl rfl ?_
    refine j_aload_n (pc := 21) 1 C dX6_isWord_21 rfl rfl ?_
    refine j_slen (pc := 22) C dX6_isWord_22 q_91 hs_x1 (by omega) (Nat.le_of_ble_eq_true rfl) (Nat.le_of_ble_eq_true rfl) (Nat.le_of_ble_eq_true rfl) ?_
    refine j_icmp_ge (pc := 25) 55 C dX6_isWord_25 (by decide) ?_ ?_
    ·
      refine j_iconst (pc := 55) 1 C dX6_isWord_55 (by decide) ?_
      exact j_zretc C dX6_isWord_56 rfl (Nat.le_of_ble_eq_true rfl) (Nat.le_of_ble_eq_true rfl) rfl
    ·
      refine j_aload_n (pc := 28) 0 C dX6_isWord_28 rfl rfl ?_
      refine gC_1_0 (pc := 29) C dX6_isWord_29 q_33 ?_
      refine j_aload_n (pc := 32) 0 C dX6_isWord_32 rfl rfl ?_
      refine gC_1_7 (pc := 33) C dX6_isWord_33 q_86 ?_
      refine j_iload_n (pc := 36) 2 C dX6_isWord_36 rfl rfl ?_
      refine j_iadd (pc := 37) C dX6_isWord_37 ?_
      refine aC_14 (pc := 38) C dX6_isWord_38 ?_
      refine j_aload_n (pc := 39) 1 C dX6_isWord_39 rfl rfl ?_
      refine j_iload_n (pc := 40) 2 C dX6_isWord_40 rfl rfl ?_
      refine j_schar (pc := 41) C dX6_isWord_41 q_92 hs_x1 (by omega) (Nat.le_of_ble_eq_true rfl) (Nat.le_of_ble_eq_true rfl) (Nat.le_of_ble_eq_true rfl) ?_
      refine j_icmp_eq (pc := 44) 49 C dX6_isWord_44 (by decide) ?_ ?_
      ·
        refine j_iinc (pc := 49) 2 (x2 + 1) [(2, .int (x2 + 1)), (0, .ref (gA G 1)), (1, .ref (gK G x1))] C dX6_isWord_49 rfl rfl (Nat.le_of_ble_eq_true rfl) rfl ?_
        refine j_goto (pc := 52) 20 C dX6_isWord_52 (by decide) ?_
        refine j_sub [1, 2, 0] rfl ?_
        exact ih (x2 + 1) S
      ·
        refine j_iconst (pc := 47) 0 C dX6_isWord_47 (by decide) ?_
        exact j_zretc C dX6_isWord_48 rfl (Nat.le_of_ble_eq_true rfl) (Nat.le_of_ble_eq_true rfl) rfl
theorem bC_Tape_isWord_v61 {E : Ec} {G : Gc}  {x1 : Nat}  (C : JC E (VC G 3 0 0 RX6) cX6_isWord 5 (some .boolean))  (hs_x1 : x1 < 40)   (S : St) : J E (VC G 3 0 0 RX6) 0 0 0 [(0, .ref (gA G 1)), (1, .ref (gK G x1))] [] S (fC_Tape_isWord_v61 x1  S) := by
  unfold fC_Tape_isWord_v61
  refine j_aload_n (pc := 0) 0 C dX6_isWord_0 rfl rfl ?_
  refine gC_1_6 (pc := 1) C dX6_isWord_1 q_62 ?_
  refine j_aload_n (pc := 4) 0 C dX6_isWord_4 rfl rfl ?_
  refine gC_1_7 (pc := 5) C dX6_isWord_5 q_86 ?_
  refine j_isub (pc := 8) C dX6_isWord_8 ?_
  refine j_aload_n (pc := 9) 1 C dX6_isWord_9 rfl rfl ?_
  refine j_slen (pc := 10) C dX6_isWord_10 q_91 hs_x1 (by omega) (Nat.le_of_ble_eq_true rfl) (Nat.le_of_ble_eq_true rfl) (Nat.le_of_ble_eq_true rfl) ?_
  refine j_icmp_eq (pc := 13) 18 C dX6_isWord_13 (by decide) ?_ ?_
  ·
    refine j_iconst (pc := 18) 0 C dX6_isWord_18 (by decide) ?_
    refine j_istore_n (pc := 19) [(2, .int 0), (0, .ref (gA G 1)), (1, .ref (gK G x1))] C dX6_isWord_19 rfl (Nat.le_of_ble_eq_true rfl) rfl ?_
    refine j_sub [1, 2, 0] rfl ?_
    exact bC_Tape_isWord_v61_20 C hs_x1 FU 0 S
  ·
    refine j_iconst (pc := 16) 0 C dX6_isWord_16 (by decide) ?_
    exact j_zretc C dX6_isWord_17 rfl (Nat.le_of_ble_eq_true rfl) (Nat.le_of_ble_eq_true rfl) rfl
theorem cC_Tape_isWord_v61 {l : Launch} {G : Gc} (hfl : l.stackTraces = false) (hW : Wok G wC 54) {x1 : Nat} (hs_x1 : x1 < 40)  (S : St) : Ct l yX6_isWord (Cond.code yX6_isWord cX6_isWord 3 (some .boolean) :: tblG) 5 0 0 G wC 54 [.ref (gA G 1), .ref (gK G x1)] S (fC_Tape_isWord_v61 x1 S) := ct_of (own := RX6) hfl (by decide +kernel) rfl hW (Nat.le_of_ble_eq_true rfl) (fun E hE C => by subst hE; exact bC_Tape_isWord_v61 C hs_x1   S)
theorem rC_Tape_isWord_v61 {E : Ec} {G : Gc} {nL mc ms : Nat} {own : String} {cc : ByteArray} {L : Nat} {ret : Option FieldType} {k n pc ix : Nat} {loc : List (Nat × Value)} {rest : List Value}  {x1 : Nat} {S : St} (hs_x1 : x1 < 40) (C : JC E (VC G nL mc ms own) cc L ret) (hd : decode cc pc = .ok (.invokevirtual ix, 3)) (hq : Cond.methodLink own ix yX6_isWord ∈ tblG) (hL : 5 + 1 ≤ L) (hW : (rest.map fun v => v.category).sum ≤ 8) (hf : k + 0 ≤ mc ∧ n + 0 ≤ ms) : Rn E (VC G nL mc ms own) k n 0 0 pc loc (.ref (gK G x1) :: .ref (gA G 1) :: rest) rest S (fC_Tape_isWord_v61 x1 S) := rn_V (ci := 6) 1 (V := VC G nL mc ms own) (As := [.ref (gK G x1)]) (Cq := (RX6, TX6, 8)) (cC_Tape_isWord_v61 C.flags C.wok hs_x1  S) knX6_isWord ⟨q_94, q_95⟩ rfl rfl C hd hq hL rfl rfl hW hf

theorem bC_Tape_isWord_v62_20 {E : Ec} {G : Gc}  {x1 : Nat}  (C : JC E (VC G 3 0 0 RX6) cX6_isWord 5 (some .boolean))  (hs_x1 : x1 < 40)  : ∀ (n : Nat) (x2 : Int32) (S : St), J E (VC G 3 0 0 RX6) 0 0 20 [(0, .ref (gA G 1)), (1, .ref (gK G x1)), (2, .int x2)] [] S (fC_Tape_isWord_v62_20 x1 n x2 S) := by
  intro n
  induction n with
  | zero => intro x2 S; rw [fC_Tape_isWord_v62_20]; exact j_none
  | succ n ih =>
    intro x2 S
    rw [fC_Tape_isWord_v62_20]
    refine j_iload_n (pc := 20) 2 C dX6_isWord_20 rfl rfl ?_
    refine j_aload_n (pc := 21) 1 C dX6_isWord_21 rfl rfl ?_
    refine j_slen (pc := 22) C dX6_isWord_22 q_91 hs_x1 (by omega) (Nat.le_of_ble_eq_true rfl) (Nat.le_of_ble_eq_true rfl) (Nat.le_of_ble_eq_true rfl) ?_
    refine j_icmp_ge (pc := 25) 55 C dX6_isWord_25 (by decide) ?_ ?_
    ·
      refine j_iconst (pc := 55) 1 C dX6_isWord_55 (by decide) ?_
      exact j_zretc C dX6_isWord_56 rfl (Nat.le_of_ble_eq_true rfl) (Nat.le_of_ble_eq_true rfl) rfl
    ·
      refine j_aload_n (pc := 28) 0 C dX6_isWord_28 rfl rfl ?_
      refine gC_1_0 (pc := 29) C dX6_isWord_29 q_33 ?_
      refine j_aload_n (pc := 32) 0 C dX6_isWord_32 rfl rfl ?_
      refine gC_1_7 (pc := 33) C dX6_isWord_33 q_86 ?_
      refine j_iload_n (pc := 36) 2 C dX6_isWord_36 rfl rfl ?_
      refine j_iadd (pc := 37) C dX6_isWord_37 ?_
      refine aC_14 (pc := 38) C dX6_isWord_38 ?_
      refine j_aload_n (pc := 39) 1 C dX6_isWord_39 rfl rfl ?_
      refine j_iload_n (pc := 40) 2 C dX6_isWord_40 rfl rfl ?_
      refine j_schar (pc := 41) C dX6_isWord_41 q_92 hs_x1 (by omega) (Nat.le_of_ble_eq_true rfl) (Nat.le_of_ble_eq_true rfl) (Nat.le_of_ble_eq_true rfl) ?_
      refine j_icmp_eq (pc := 44) 49 C dX6_isWord_44 (by decide) ?_ ?_
      ·
        refine j_iinc (pc := 49) 2 (x2 + 1) [(2, .int (x2 + 1)), (0, .ref (gA G 1)), (1, .ref (gK G x1))] C dX6_isWord_49 rfl rfl (Nat.le_of_ble_eq_true rfl) rfl ?_
        refine j_goto (pc := 52) 20 C dX6_isWord_52 (by decide) ?_
        refine j_sub [1, 2, 0] rfl ?_
        exact ih (x2 + 1) S
      ·
        refine j_iconst (pc := 47) 0 C dX6_isWord_47 (by decide) ?_
        exact j_zretc C dX6_isWord_48 rfl (Nat.le_of_ble_eq_true rfl) (Nat.le_of_ble_eq_true rfl) rfl
theorem bC_Tape_isWord_v62 {E : Ec} {G : Gc}  {x1 : Nat}  (C : JC E (VC G 3 0 0 RX6) cX6_isWord 5 (some .boolean))  (hs_x1 : x1 < 40)   (S : St) : J E (VC G 3 0 0 RX6) 0 0 0 [(0, .ref (gA G 1)), (1, .ref (gK G x1))] [] S (fC_Tape_isWord_v62 x1  S) := by
  unfold fC_Tape_isWord_v62
  refine j_aload_n (pc := 0) 0 C dX6_isWord_0 rfl rfl ?_
  refine gC_1_6 (pc := 1) C dX6_isWord_1 q_62 ?_
  refine j_aload_n (pc := 4) 0 C dX6_isWord_4 rfl rfl ?_
  refine gC_1_7 (pc := 5) C dX6_isWord_5 q_86 ?_
  refine j_isub (pc := 8) C dX6_isWord_8 ?_
  refine j_aload_n (pc := 9) 1 C dX6_isWord_9 rfl rfl ?_
  refine j_slen (pc := 10) C dX6_isWord_10 q_91 hs_x1 (by omega) (Nat.le_of_ble_eq_true rfl) (Nat.le_of_ble_eq_true rfl) (Nat.le_of_ble_eq_true rfl) ?_
  refine j_icmp_eq (pc := 13) 18 C dX6_isWord_13 (by decide) ?_ ?_
  ·
    refine j_iconst (pc := 18) 0 C dX6_isWord_18 (by decide) ?_
    refine j_istore_n (pc := 19) [(2, .int 0), (0, .ref (gA G 1)), (1, .ref (gK G x1))] C dX6_isWord_19 rfl (Nat.le_of_ble_eq_true rfl) rfl ?_
    refine j_sub [1, 2, 0] rfl ?_
    exact bC_Tape_isWord_v62_20 C hs_x1 FU 0 S
  ·
    refine j_iconst (pc := 16) 0 C dX6_isWord_16 (by decide) ?_
    exact j_zretc C dX6_isWord_17 rfl (Nat.le_of_ble_eq_true rfl) (Nat.le_of_ble_eq_true rfl) rfl
theorem cC_Tape_isWord_v62 {l : Launch} {G : Gc} (hfl : l.stackTraces = false) (hW : Wok G wC 54) {x1 : Nat} (hs_x1 : x1 < 40)  (S : St) : Ct l yX6_isWord (Cond.code yX6_isWord cX6_isWord 3 (some .boolean) :: tblG) 5 0 0 G wC 54 [.ref (gA G 1), .ref (gK G x1)] S (fC_Tape_isWord_v62 x1 S) := ct_of (own := RX6) hfl (by decide +kernel) rfl hW (Nat.le_of_ble_eq_true rfl) (fun E hE C => by subst hE; exact bC_Tape_isWord_v62 C hs_x1   S)
theorem rC_Tape_isWord_v62 {E : Ec} {G : Gc} {nL mc ms : Nat} {own : String} {cc : ByteArray} {L : Nat} {ret : Option FieldType} {k n pc ix : Nat} {loc : List (Nat × Value)} {rest : List Value}  {x1 : Nat} {S : St} (hs_x1 : x1 < 40) (C : JC E (VC G nL mc ms own) cc L ret) (hd : decode cc pc = .ok (.invokevirtual ix, 3)) (hq : Cond.methodLink own ix yX6_isWord ∈ tblG) (hL : 5 + 1 ≤ L) (hW : (rest.map fun v => v.category).sum ≤ 8) (hf : k + 0 ≤ mc ∧ n + 0 ≤ ms) : Rn E (VC G nL mc ms own) k n 0 0 pc loc (.ref (gK G x1) :: .ref (gA G 1) :: rest) rest S (fC_Tape_isWord_v62 x1 S) := rn_V (ci := 6) 1 (V := VC G nL mc ms own) (As := [.ref (gK G x1)]) (Cq := (RX6, TX6, 8)) (cC_Tape_isWord_v62 C.flags C.wok hs_x1  S) knX6_isWord ⟨q_94, q_95⟩ rfl rfl C hd hq hL rfl rfl hW hf

