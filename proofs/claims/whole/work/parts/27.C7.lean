theorem bC_State_paidBits_13 {E : Ec} {G : Gc}    (C : JC E (VC G 1 0 0 RX5) cX5_paidBits 1 (some .int))     (S : St) : J E (VC G 1 0 0 RX5) 0 0 0 [(0, .ref (gA G 13))] [] S (fC_State_paidBits_13   S) := by
  unfold fC_State_paidBits_13
  refine j_aload_n (pc := 0) 0 C dX5_paidBits_0 rfl rfl ?_
  refine gC_13_0 (pc := 1) C dX5_paidBits_1 q_172 ?_
  refine j_bipush (pc := 4) 72 C dX5_paidBits_4 (by decide) ?_
  refine acC_52 (pc := 6) C dX5_paidBits_6 rfl ?_
  exact j_iret C dX5_paidBits_7 rfl (Nat.le_of_ble_eq_true rfl) (Nat.le_of_ble_eq_true rfl)
theorem cC_State_paidBits_13 {l : Launch} {G : Gc} (hfl : l.stackTraces = false) (hW : Wok G wC 54)    (S : St) : Ct l yX5_paidBits (Cond.code yX5_paidBits cX5_paidBits 1 (some .int) :: tblG) 1 0 0 G wC 54 [.ref (gA G 13)] S (fC_State_paidBits_13  S) := ct_of (own := RX5) hfl (by decide +kernel) rfl hW (Nat.le_of_ble_eq_true rfl) (fun E hE C => by subst hE; exact bC_State_paidBits_13 C    S)
theorem rC_State_paidBits_13 {E : Ec} {G : Gc} {nL mc ms : Nat} {own : String} {cc : ByteArray} {L : Nat} {ret : Option FieldType} {k n pc ix : Nat} {loc : List (Nat × Value)} {rest : List Value}   {S : St}  (C : JC E (VC G nL mc ms own) cc L ret) (hd : decode cc pc = .ok (.invokevirtual ix, 3)) (hq : Cond.methodLink own ix yX5_paidBits ∈ tblG) (hL : 1 + 1 ≤ L) (hW : (rest.map fun v => v.category).sum ≤ 8) (hf : k + 0 ≤ mc ∧ n + 0 ≤ ms) : Rn E (VC G nL mc ms own) k n 0 0 pc loc (.ref (gA G 13) :: rest) rest S (fC_State_paidBits_13  S) := rn_V (ci := 5) 13 (V := VC G nL mc ms own) (As := []) (Cq := (RX5, TX5, 3)) (cC_State_paidBits_13 C.flags C.wok   S) knX5_paidBits ⟨q_473, q_474⟩ rfl rfl C hd hq hL rfl rfl hW hf

theorem bC_State_allSlips_13_4 {E : Ec} {G : Gc}    (C : JC E (VC G 3 0 0 RX5) cX5_allSlips 1 (some .int))    : ∀ (n : Nat) (x1 : Int32) (x2 : Int32) (S : St), J E (VC G 3 0 0 RX5) 0 0 4 [(0, .ref (gA G 13)), (1, .int x1), (2, .int x2)] [] S (fC_State_allSlips_13_4  n x1 x2 S) := by
  intro n
  induction n with
  | zero => intro x1 x2 S; rw [fC_State_allSlips_13_4]; exact j_none
  | succ n ih =>
    intro x1 x2 S
    rw [fC_State_allSlips_13_4]
    refine j_iload_n (pc := 4) 2 C dX5_allSlips_4 rfl rfl ?_
    refine j_aload_n (pc := 5) 0 C dX5_allSlips_5 rfl rfl ?_
    refine gC_13_1 (pc := 6) C dX5_allSlips_6 q_301 ?_
    refine gC_2_1 (pc := 9) C dX5_allSlips_9 q_395 ?_
    refine j_icmp_ge (pc := 12) 33 C dX5_allSlips_12 (by decide) ?_ ?_
    ·
      refine j_iload_n (pc := 33) 1 C dX5_allSlips_33 rfl rfl ?_
      exact j_iret C dX5_allSlips_34 rfl (Nat.le_of_ble_eq_true rfl) (Nat.le_of_ble_eq_true rfl)
    ·
      refine j_iload_n (pc := 15) 1 C dX5_allSlips_15 rfl rfl ?_
      refine j_aload_n (pc := 16) 0 C dX5_allSlips_16 rfl rfl ?_
      refine gC_13_0 (pc := 17) C dX5_allSlips_17 q_172 ?_
      refine j_bipush (pc := 20) 60 C dX5_allSlips_20 (by decide) ?_
      refine j_iload_n (pc := 22) 2 C dX5_allSlips_22 rfl rfl ?_
      refine j_iadd (pc := 23) C dX5_allSlips_23 ?_
      refine aC_52 (pc := 24) C dX5_allSlips_24 ?_
      refine j_iadd (pc := 25) C dX5_allSlips_25 ?_
      refine j_nxI (fun v1 => ?_)
      refine j_istore_n (pc := 26) [(1, .int v1), (0, .ref (gA G 13)), (2, .int x2)] C dX5_allSlips_26 rfl (Nat.le_of_ble_eq_true rfl) rfl ?_
      refine j_iinc (pc := 27) 2 (x2 + 1) [(2, .int (x2 + 1)), (1, .int v1), (0, .ref (gA G 13))] C dX5_allSlips_27 rfl rfl (Nat.le_of_ble_eq_true rfl) rfl ?_
      refine j_goto (pc := 30) 4 C dX5_allSlips_30 (by decide) ?_
      refine j_sub [2, 1, 0] rfl ?_
      exact ih v1 (x2 + 1) S
theorem bC_State_allSlips_13 {E : Ec} {G : Gc}    (C : JC E (VC G 3 0 0 RX5) cX5_allSlips 1 (some .int))     (S : St) : J E (VC G 3 0 0 RX5) 0 0 0 [(0, .ref (gA G 13))] [] S (fC_State_allSlips_13   S) := by
  unfold fC_State_allSlips_13
  refine j_iconst (pc := 0) 0 C dX5_allSlips_0 (by decide) ?_
  refine j_istore_n (pc := 1) [(1, .int 0), (0, .ref (gA G 13))] C dX5_allSlips_1 rfl (Nat.le_of_ble_eq_true rfl) rfl ?_
  refine j_iconst (pc := 2) 0 C dX5_allSlips_2 (by decide) ?_
  refine j_istore_n (pc := 3) [(2, .int 0), (1, .int 0), (0, .ref (gA G 13))] C dX5_allSlips_3 rfl (Nat.le_of_ble_eq_true rfl) rfl ?_
  refine j_sub [2, 1, 0] rfl ?_
  exact bC_State_allSlips_13_4 C  FU 0 0 S
theorem cC_State_allSlips_13 {l : Launch} {G : Gc} (hfl : l.stackTraces = false) (hW : Wok G wC 54)    (S : St) : Ct l yX5_allSlips (Cond.code yX5_allSlips cX5_allSlips 3 (some .int) :: tblG) 1 0 0 G wC 54 [.ref (gA G 13)] S (fC_State_allSlips_13  S) := ct_of (own := RX5) hfl (by decide +kernel) rfl hW (Nat.le_of_ble_eq_true rfl) (fun E hE C => by subst hE; exact bC_State_allSlips_13 C    S)
theorem rC_State_allSlips_13 {E : Ec} {G : Gc} {nL mc ms : Nat} {own : String} {cc : ByteArray} {L : Nat} {ret : Option FieldType} {k n pc ix : Nat} {loc : List (Nat × Value)} {rest : List Value}   {S : St}  (C : JC E (VC G nL mc ms own) cc L ret) (hd : decode cc pc = .ok (.invokevirtual ix, 3)) (hq : Cond.methodLink own ix yX5_allSlips ∈ tblG) (hL : 1 + 1 ≤ L) (hW : (rest.map fun v => v.category).sum ≤ 8) (hf : k + 0 ≤ mc ∧ n + 0 ≤ ms) : Rn E (VC G nL mc ms own) k n 0 0 pc loc (.ref (gA G 13) :: rest) rest S (fC_State_allSlips_13  S) := rn_V (ci := 5) 13 (V := VC G nL mc ms own) (As := []) (Cq := (RX5, TX5, 3)) (cC_State_allSlips_13 C.flags C.wok   S) knX5_allSlips ⟨q_487, q_488⟩ rfl rfl C hd hq hL rfl rfl hW hf

theorem knX5_allLessons : Kn yX5_allLessons cX5_allLessons 3 (some .int) 0 := ⟨q_777, q_174, by decide +kernel, by decide⟩
theorem bC_State_allLessons_13_4 {E : Ec} {G : Gc}    (C : JC E (VC G 3 0 0 RX5) cX5_allLessons 1 (some .int))    : ∀ (n : Nat) (x1 : Int32) (x2 : Int32) (S : St), J E (VC G 3 0 0 RX5) 0 0 4 [(0, .ref (gA G 13)), (1, .int x1), (2, .int x2)] [] S (fC_State_allLessons_13_4  n x1 x2 S) := by
  intro n
  induction n with
  | zero => intro x1 x2 S; rw [fC_State_allLessons_13_4]; exact j_none
  | succ n ih =>
    intro x1 x2 S
    rw [fC_State_allLessons_13_4]
    refine j_iload_n (pc := 4) 2 C dX5_allLessons_4 rfl rfl ?_
    refine j_aload_n (pc := 5) 0 C dX5_allLessons_5 rfl rfl ?_
    refine gC_13_1 (pc := 6) C dX5_allLessons_6 q_301 ?_
    refine gC_2_1 (pc := 9) C dX5_allLessons_9 q_395 ?_
    refine j_icmp_ge (pc := 12) 33 C dX5_allLessons_12 (by decide) ?_ ?_
    ·
      refine j_iload_n (pc := 33) 1 C dX5_allLessons_33 rfl rfl ?_
      exact j_iret C dX5_allLessons_34 rfl (Nat.le_of_ble_eq_true rfl) (Nat.le_of_ble_eq_true rfl)
    ·
      refine j_iload_n (pc := 15) 1 C dX5_allLessons_15 rfl rfl ?_
      refine j_aload_n (pc := 16) 0 C dX5_allLessons_16 rfl rfl ?_
      refine gC_13_0 (pc := 17) C dX5_allLessons_17 q_172 ?_
      refine j_bipush (pc := 20) 48 C dX5_allLessons_20 (by decide) ?_
      refine j_iload_n (pc := 22) 2 C dX5_allLessons_22 rfl rfl ?_
      refine j_iadd (pc := 23) C dX5_allLessons_23 ?_
      refine aC_52 (pc := 24) C dX5_allLessons_24 ?_
      refine j_iadd (pc := 25) C dX5_allLessons_25 ?_
      refine j_nxI (fun v1 => ?_)
      refine j_istore_n (pc := 26) [(1, .int v1), (0, .ref (gA G 13)), (2, .int x2)] C dX5_allLessons_26 rfl (Nat.le_of_ble_eq_true rfl) rfl ?_
      refine j_iinc (pc := 27) 2 (x2 + 1) [(2, .int (x2 + 1)), (1, .int v1), (0, .ref (gA G 13))] C dX5_allLessons_27 rfl rfl (Nat.le_of_ble_eq_true rfl) rfl ?_
      refine j_goto (pc := 30) 4 C dX5_allLessons_30 (by decide) ?_
      refine j_sub [2, 1, 0] rfl ?_
      exact ih v1 (x2 + 1) S
theorem bC_State_allLessons_13 {E : Ec} {G : Gc}    (C : JC E (VC G 3 0 0 RX5) cX5_allLessons 1 (some .int))     (S : St) : J E (VC G 3 0 0 RX5) 0 0 0 [(0, .ref (gA G 13))] [] S (fC_State_allLessons_13   S) := by
  unfold fC_State_allLessons_13
  refine j_iconst (pc := 0) 0 C dX5_allLessons_0 (by decide) ?_
  refine j_istore_n (pc := 1) [(1, .int 0), (0, .ref (gA G 13))] C dX5_allLessons_1 rfl (Nat.le_of_ble_eq_true rfl) rfl ?_
  refine j_iconst (pc := 2) 0 C dX5_allLessons_2 (by decide) ?_
  refine j_istore_n (pc := 3) [(2, .int 0), (1, .int 0), (0, .ref (gA G 13))] C dX5_allLessons_3 rfl (Nat.le_of_ble_eq_true rfl) rfl ?_
  refine j_sub [2, 1, 0] rfl ?_
  exact bC_State_allLessons_13_4 C  FU 0 0 S
theorem cC_State_allLessons_13 {l : Launch} {G : Gc} (hfl : l.stackTraces = false) (hW : Wok G wC 54)    (S : St) : Ct l yX5_allLessons (Cond.code yX5_allLessons cX5_allLessons 3 (some .int) :: tblG) 1 0 0 G wC 54 [.ref (gA G 13)] S (fC_State_allLessons_13  S) := ct_of (own := RX5) hfl (by decide +kernel) rfl hW (Nat.le_of_ble_eq_true rfl) (fun E hE C => by subst hE; exact bC_State_allLessons_13 C    S)
theorem rC_State_allLessons_13 {E : Ec} {G : Gc} {nL mc ms : Nat} {own : String} {cc : ByteArray} {L : Nat} {ret : Option FieldType} {k n pc ix : Nat} {loc : List (Nat × Value)} {rest : List Value}   {S : St}  (C : JC E (VC G nL mc ms own) cc L ret) (hd : decode cc pc = .ok (.invokevirtual ix, 3)) (hq : Cond.methodLink own ix yX5_allLessons ∈ tblG) (hL : 1 + 1 ≤ L) (hW : (rest.map fun v => v.category).sum ≤ 8) (hf : k + 0 ≤ mc ∧ n + 0 ≤ ms) : Rn E (VC G nL mc ms own) k n 0 0 pc loc (.ref (gA G 13) :: rest) rest S (fC_State_allLessons_13  S) := rn_V (ci := 5) 13 (V := VC G nL mc ms own) (As := []) (Cq := (RX5, TX5, 3)) (cC_State_allLessons_13 C.flags C.wok   S) knX5_allLessons ⟨q_778, q_779⟩ rfl rfl C hd hq hL rfl rfl hW hf

theorem bC_State_allLessons_9_4 {E : Ec} {G : Gc}    (C : JC E (VC G 3 0 0 RX5) cX5_allLessons 1 (some .int))    : ∀ (n : Nat) (x1 : Int32) (x2 : Int32) (S : St), J E (VC G 3 0 0 RX5) 0 0 4 [(0, .ref (gA G 9)), (1, .int x1), (2, .int x2)] [] S (fC_State_allLessons_9_4  n x1 x2 S) := by
  intro n
  induction n with
  | zero => intro x1 x2 S; rw [fC_State_allLessons_9_4]; exact j_none
  | succ n ih =>
    intro x1 x2 S
    rw [fC_State_allLessons_9_4]
    refine j_iload_n (pc := 4) 2 C dX5_allLessons_4 rfl rfl ?_
    refine j_aload_n (pc := 5) 0 C dX5_allLessons_5 rfl rfl ?_
    refine gC_9_1 (pc := 6) C dX5_allLessons_6 q_301 ?_
    refine gC_2_1 (pc := 9) C dX5_allLessons_9 q_395 ?_
    refine j_icmp_ge (pc := 12) 33 C dX5_allLessons_12 (by decide) ?_ ?_
    ·
      refine j_iload_n (pc := 33) 1 C dX5_allLessons_33 rfl rfl ?_
      exact j_iret C dX5_allLessons_34 rfl (Nat.le_of_ble_eq_true rfl) (Nat.le_of_ble_eq_true rfl)
    ·
      refine j_iload_n (pc := 15) 1 C dX5_allLessons_15 rfl rfl ?_
      refine j_aload_n (pc := 16) 0 C dX5_allLessons_16 rfl rfl ?_
      refine gC_9_0 (pc := 17) C dX5_allLessons_17 q_172 ?_
      refine j_bipush (pc := 20) 48 C dX5_allLessons_20 (by decide) ?_
      refine j_iload_n (pc := 22) 2 C dX5_allLessons_22 rfl rfl ?_
      refine j_iadd (pc := 23) C dX5_allLessons_23 ?_
      refine aC_46 (pc := 24) C dX5_allLessons_24 ?_
      refine j_iadd (pc := 25) C dX5_allLessons_25 ?_
      refine j_nxI (fun v1 => ?_)
      refine j_istore_n (pc := 26) [(1, .int v1), (0, .ref (gA G 9)), (2, .int x2)] C dX5_allLessons_26 rfl (Nat.le_of_ble_eq_true rfl) rfl ?_
      refine j_iinc (pc := 27) 2 (x2 + 1) [(2, .int (x2 + 1)), (1, .int v1), (0, .ref (gA G 9))] C dX5_allLessons_27 rfl rfl (Nat.le_of_ble_eq_true rfl) rfl ?_
      refine j_goto (pc := 30) 4 C dX5_allLessons_30 (by decide) ?_
      refine j_sub [2, 1, 0] rfl ?_
      exact ih v1 (x2 + 1) S
theorem bC_State_allLessons_9 {E : Ec} {G : Gc}    (C : JC E (VC G 3 0 0 RX5) cX5_allLessons 1 (some .int))     (S : St) : J E (VC G 3 0 0 RX5) 0 0 0 [(0, .ref (gA G 9))] [] S (fC_State_allLessons_9   S) := by
  unfold fC_State_allLessons_9
  refine j_iconst (pc := 0) 0 C dX5_allLessons_0 (by decide) ?_
  refine j_istore_n (pc := 1) [(1, .int 0), (0, .ref (gA G 9))] C dX5_allLessons_1 rfl (Nat.le_of_ble_eq_true rfl) rfl ?_
  refine j_iconst (pc := 2) 0 C dX5_allLessons_2 (by decide) ?_
  refine j_istore_n (pc := 3) [(2, .int 0), (1, .int 0), (0, .ref (gA G 9))] C dX5_allLessons_3 rfl (Nat.le_of_ble_eq_true rfl) rfl ?_
  refine j_sub [2, 1, 0] rfl ?_
  exact bC_State_allLessons_9_4 C  FU 0 0 S
theorem cC_State_allLessons_9 {l : Launch} {G : Gc} (hfl : l.stackTraces = false) (hW : Wok G wC 54)    (S : St) : Ct l yX5_allLessons (Cond.code yX5_allLessons cX5_allLessons 3 (some .int) :: tblG) 1 0 0 G wC 54 [.ref (gA G 9)] S (fC_State_allLessons_9  S) := ct_of (own := RX5) hfl (by decide +kernel) rfl hW (Nat.le_of_ble_eq_true rfl) (fun E hE C => by subst hE; exact bC_State_allLessons_9 C    S)
theorem rC_State_allLessons_9 {E : Ec} {G : Gc} {nL mc ms : Nat} {own : String} {cc : ByteArray} {L : Nat} {ret : Option FieldType} {k n pc ix : Nat} {loc : List (Nat × Value)} {rest : List Value}   {S : St}  (C : JC E (VC G nL mc ms own) cc L ret) (hd : decode cc pc = .ok (.invokevirtual ix, 3)) (hq : Cond.methodLink own ix yX5_allLessons ∈ tblG) (hL : 1 + 1 ≤ L) (hW : (rest.map fun v => v.category).sum ≤ 8) (hf : k + 0 ≤ mc ∧ n + 0 ≤ ms) : Rn E (VC G nL mc ms own) k n 0 0 pc loc (.ref (gA G 9) :: rest) rest S (fC_State_allLessons_9  S) := rn_V (ci := 5) 9 (V := VC G nL mc ms own) (As := []) (Cq := (RX5, TX5, 3)) (cC_State_allLessons_9 C.flags C.wok   S) knX5_allLessons ⟨q_778, q_779⟩ rfl rfl C hd hq hL rfl rfl hW hf

theorem knX9_season : Kn yX9_season cX9_season 6 (some .int) 4 := ⟨q_781, q_40, by decide +kernel, by decide⟩
theorem bC_Main_season_36 {E : Ec} {G : Gc}    (C : JC E (VC G 6 1 6 RX9) cX9_season 8 (some .int))    (x1 : Int32) (x2 : Int32) (x3 : Int32) (x4 : Int32) (s0 : Int32) (S : St) : J E (VC G 6 1 6 RX9) 0 0 36 [(0, .ref (gA G 0)), (1, .int x1), (2, .int x2), (3, .int x3), (4, .int x4)] [.int s0, .ref (gA G 0)] S (fC_Main_season_36  x1 x2 x3 x4 s0 S) := by
  unfold fC_Main_season_36
  refine j_callv (pc := 36) C (rC_Main_need C dX9_season_36 q_60 (by omega) (Nat.le_of_ble_eq_true rfl) ⟨Nat.le_of_ble_eq_true rfl, Nat.le_of_ble_eq_true rfl⟩) ⟨Nat.le_of_ble_eq_true rfl, Nat.le_of_ble_eq_true rfl⟩ (fun T1 => ?_)
  refine j_aload_n (pc := 39) 0 C dX9_season_39 rfl rfl ?_
  refine gC_0_10 (pc := 40) C dX9_season_40 q_591 ?_
  refine j_iload_n (pc := 43) 1 C dX9_season_43 rfl rfl ?_
  refine j_iload_n (pc := 44) 2 C dX9_season_44 rfl rfl ?_
  refine j_iload_n (pc := 45) 3 C dX9_season_45 rfl rfl ?_
  refine j_callR0 (pc := 46) C (rC_Outlook_afterSeason C dX9_season_46 q_776 (by omega) (Nat.le_of_ble_eq_true rfl) ⟨Nat.le_of_ble_eq_true rfl, Nat.le_of_ble_eq_true rfl⟩) ⟨Nat.le_of_ble_eq_true rfl, Nat.le_of_ble_eq_true rfl⟩ (fun T3 => ?_)
  refine j_astore (pc := 49) [(5, .ref (gA G 13)), (0, .ref (gA G 0)), (1, .int x1), (2, .int x2), (3, .int x3), (4, .int x4)] C dX9_season_49 (Nat.le_of_ble_eq_true rfl) rfl ?_
  refine j_iload (pc := 51) 5 C dX9_season_51 rfl ?_
  refine j_tswC (pc := 53) (off := 27) 80 0 C dX9_season_53 (by decide) (by decide) (by decide) (by decide) ?_ (fun h53_0 => ?_)
  ·
    refine j_aload (pc := 80) 0 C dX9_season_80 rfl ?_
    refine j_callI0 (pc := 82) C (rC_State_paidBits_13 C dX9_season_82 q_475 (by omega) (Nat.le_of_ble_eq_true rfl) ⟨Nat.le_of_ble_eq_true rfl, Nat.le_of_ble_eq_true rfl⟩) ⟨Nat.le_of_ble_eq_true rfl, Nat.le_of_ble_eq_true rfl⟩ (fun r6 T5 => ?_)
    exact j_iret C dX9_season_85 rfl (Nat.le_of_ble_eq_true rfl) (Nat.le_of_ble_eq_true rfl)
  refine j_tswC (pc := 53) (off := 33) 86 1 C dX9_season_53 (by decide) (by decide) (by decide) (by decide) ?_ (fun h53_1 => ?_)
  ·
    refine j_aload (pc := 86) 0 C dX9_season_86 rfl ?_
    refine j_callI0 (pc := 88) C (rC_State_everyLine_13 C dX9_season_88 q_493 (by omega) (Nat.le_of_ble_eq_true rfl) ⟨Nat.le_of_ble_eq_true rfl, Nat.le_of_ble_eq_true rfl⟩) ⟨Nat.le_of_ble_eq_true rfl, Nat.le_of_ble_eq_true rfl⟩ (fun r8 T7 => ?_)
    exact j_iret C dX9_season_91 rfl (Nat.le_of_ble_eq_true rfl) (Nat.le_of_ble_eq_true rfl)
  refine j_tswC (pc := 53) (off := 39) 92 2 C dX9_season_53 (by decide) (by decide) (by decide) (by decide) ?_ (fun h53_2 => ?_)
  ·
    refine j_aload (pc := 92) 0 C dX9_season_92 rfl ?_
    refine j_callI0 (pc := 94) C (rC_State_allSlips_13 C dX9_season_94 q_489 (by omega) (Nat.le_of_ble_eq_true rfl) ⟨Nat.le_of_ble_eq_true rfl, Nat.le_of_ble_eq_true rfl⟩) ⟨Nat.le_of_ble_eq_true rfl, Nat.le_of_ble_eq_true rfl⟩ (fun r10 T9 => ?_)
    refine j_aload_n (pc := 97) 1 C dX9_season_97 rfl rfl ?_
    refine gC_0_8 (pc := 98) C dX9_season_98 q_171 ?_
    refine j_callI0 (pc := 101) C (rC_State_allSlips_9 C dX9_season_101 q_489 (by omega) (Nat.le_of_ble_eq_true rfl) ⟨Nat.le_of_ble_eq_true rfl, Nat.le_of_ble_eq_true rfl⟩) ⟨Nat.le_of_ble_eq_true rfl, Nat.le_of_ble_eq_true rfl⟩ (fun r12 T11 => ?_)
    refine j_isub (pc := 104) C dX9_season_104 ?_
    exact j_iret C dX9_season_105 rfl (Nat.le_of_ble_eq_true rfl) (Nat.le_of_ble_eq_true rfl)
  refine j_tswD (pc := 53) 106 C dX9_season_53 (by have := ne_i (z := 0) h53_0 (by decide); have := ne_i (z := 1) h53_1 (by decide); have := ne_i (z := 2) h53_2 (by decide); omega) (by decide) ?_
  refine j_aload (pc := 106) 0 C dX9_season_106 rfl ?_
  refine j_callI0 (pc := 108) C (rC_State_allLessons_13 C dX9_season_108 q_780 (by omega) (Nat.le_of_ble_eq_true rfl) ⟨Nat.le_of_ble_eq_true rfl, Nat.le_of_ble_eq_true rfl⟩) ⟨Nat.le_of_ble_eq_true rfl, Nat.le_of_ble_eq_true rfl⟩ (fun r14 T13 => ?_)
  refine j_aload_n (pc := 111) 1 C dX9_season_111 rfl rfl ?_
  refine gC_0_8 (pc := 112) C dX9_season_112 q_171 ?_
  refine j_callI0 (pc := 115) C (rC_State_allLessons_9 C dX9_season_115 q_780 (by omega) (Nat.le_of_ble_eq_true rfl) ⟨Nat.le_of_ble_eq_true rfl, Nat.le_of_ble_eq_true rfl⟩) ⟨Nat.le_of_ble_eq_true rfl, Nat.le_of_ble_eq_true rfl⟩ (fun r16 T15 => ?_)
  refine j_isub (pc := 118) C dX9_season_118 ?_
  exact j_iret C dX9_season_119 rfl (Nat.le_of_ble_eq_true rfl) (Nat.le_of_ble_eq_true rfl)
theorem bC_Main_season_35 {E : Ec} {G : Gc}    (C : JC E (VC G 6 1 6 RX9) cX9_season 8 (some .int))    (x1 : Int32) (x2 : Int32) (x3 : Int32) (x4 : Int32) (S : St) : J E (VC G 6 1 6 RX9) 0 0 35 [(0, .ref (gA G 0)), (1, .int x1), (2, .int x2), (3, .int x3), (4, .int x4)] [.ref (gA G 0)] S (fC_Main_season_35  x1 x2 x3 x4 S) := by
  unfold fC_Main_season_35
  refine j_iconst (pc := 35) 0 C dX9_season_35 (by decide) ?_
  exact bC_Main_season_36 C  x1 x2 x3 x4 0 S
theorem bC_Main_season {E : Ec} {G : Gc}    (C : JC E (VC G 6 1 6 RX9) cX9_season 8 (some .int))    (x1 : Int32) (x2 : Int32) (x3 : Int32) (x4 : Int32) (S : St) : J E (VC G 6 1 6 RX9) 0 0 0 [(0, .ref (gA G 0)), (1, .int x1), (2, .int x2), (3, .int x3), (4, .int x4)] [] S (fC_Main_season  x1 x2 x3 x4 S) := by
  unfold fC_Main_season
  refine j_aload_n (pc := 0) 0 C dX9_season_0 rfl rfl ?_
  refine j_iload_n (pc := 1) 2 C dX9_season_1 rfl rfl ?_
  refine j_iconst (pc := 2) 0 C dX9_season_2 (by decide) ?_
  refine j_bipush (pc := 3) 16 C dX9_season_3 (by decide) ?_
  refine j_callI0 (pc := 5) C (rC_Main_isWithin C dX9_season_5 q_49 (by omega) (Nat.le_of_ble_eq_true rfl) ⟨Nat.le_of_ble_eq_true rfl, Nat.le_of_ble_eq_true rfl⟩) ⟨Nat.le_of_ble_eq_true rfl, Nat.le_of_ble_eq_true rfl⟩ (fun r2 T1 => ?_)
  refine j_if_eq (pc := 8) 35 C dX9_season_8 (by decide) ?_ ?_
  ·
    exact bC_Main_season_35 C  x1 x2 x3 x4 T1
  ·
    refine j_iload_n (pc := 11) 3 C dX9_season_11 rfl rfl ?_
    refine j_iconst (pc := 12) 1 C dX9_season_12 (by decide) ?_
    refine j_bipush (pc := 13) 48 C dX9_season_13 (by decide) ?_
    refine j_callI0 (pc := 15) C (rC_Main_isWithin C dX9_season_15 q_49 (by omega) (Nat.le_of_ble_eq_true rfl) ⟨Nat.le_of_ble_eq_true rfl, Nat.le_of_ble_eq_true rfl⟩) ⟨Nat.le_of_ble_eq_true rfl, Nat.le_of_ble_eq_true rfl⟩ (fun r4 T3 => ?_)
    refine j_if_eq (pc := 18) 35 C dX9_season_18 (by decide) ?_ ?_
    ·
      exact bC_Main_season_35 C  x1 x2 x3 x4 T3
    ·
      refine j_iload (pc := 21) 4 C dX9_season_21 rfl ?_
      refine j_iconst (pc := 23) 0 C dX9_season_23 (by decide) ?_
      refine j_iconst (pc := 24) 3 C dX9_season_24 (by decide) ?_
      refine j_callI0 (pc := 25) C (rC_Main_isWithin C dX9_season_25 q_49 (by omega) (Nat.le_of_ble_eq_true rfl) ⟨Nat.le_of_ble_eq_true rfl, Nat.le_of_ble_eq_true rfl⟩) ⟨Nat.le_of_ble_eq_true rfl, Nat.le_of_ble_eq_true rfl⟩ (fun r6 T5 => ?_)
      refine j_if_eq (pc := 28) 35 C dX9_season_28 (by decide) ?_ ?_
      ·
        exact bC_Main_season_35 C  x1 x2 x3 x4 T5
      ·
        refine j_iconst (pc := 31) 1 C dX9_season_31 (by decide) ?_
        refine j_goto (pc := 32) 36 C dX9_season_32 (by decide) ?_
        exact bC_Main_season_36 C  x1 x2 x3 x4 1 T5
theorem cC_Main_season {l : Launch} {G : Gc} (hfl : l.stackTraces = false) (hW : Wok G wC 54)   (x1 : Int32) (x2 : Int32) (x3 : Int32) (x4 : Int32) (S : St) : Ct l yX9_season (Cond.code yX9_season cX9_season 6 (some .int) :: tblG) 8 1 6 G wC 54 [.ref (gA G 0), .int x1, .int x2, .int x3, .int x4] S (fC_Main_season x1 x2 x3 x4 S) := ct_of (own := RX9) hfl (by decide +kernel) rfl hW (Nat.le_of_ble_eq_true rfl) (fun E hE C => by subst hE; exact bC_Main_season C   x1 x2 x3 x4 S)
theorem rC_Main_season {E : Ec} {G : Gc} {nL mc ms : Nat} {own : String} {cc : ByteArray} {L : Nat} {ret : Option FieldType} {k n pc ix : Nat} {loc : List (Nat × Value)} {rest : List Value}  {x1 : Int32} {x2 : Int32} {x3 : Int32} {x4 : Int32} {S : St}  (C : JC E (VC G nL mc ms own) cc L ret) (hd : decode cc pc = .ok (.invokevirtual ix, 3)) (hq : Cond.methodLink own ix yX9_season ∈ tblG) (hL : 8 + 1 ≤ L) (hW : (rest.map fun v => v.category).sum ≤ 8) (hf : k + 1 ≤ mc ∧ n + 6 ≤ ms) : Rn E (VC G nL mc ms own) k n 1 6 pc loc (.int x4 :: .int x3 :: .int x2 :: .int x1 :: .ref (gA G 0) :: rest) rest S (fC_Main_season x1 x2 x3 x4 S) := rn_V (ci := 9) 0 (V := VC G nL mc ms own) (As := [.int x1, .int x2, .int x3, .int x4]) (Cq := (RX9, TX9, 15)) (cC_Main_season C.flags C.wok  x1 x2 x3 x4 S) knX9_season ⟨q_782, q_783⟩ rfl rfl C hd hq hL rfl rfl hW hf

theorem knX9_span : Kn yX9_span cX9_span 13 (some .int) 6 := ⟨q_785, q_40, by decide +kernel, by decide⟩
theorem bC_Main_span_91 {E : Ec} {G : Gc}    (C : JC E (VC G 13 2 12 RX9) cX9_span 8 (some .int))    : ∀ (n : Nat) (x1 : Int32) (x2 : Int32) (x3 : Int32) (x4 : Int32) (x5 : Int32) (x6 : Int32) (x7 : Int32) (x8 : Int32) (x9 : Int32) (x10 : Int32) (S : St), J E (VC G 13 2 12 RX9) 2 12 91 [(0, .ref (gA G 0)), (1, .int x1), (2, .int x2), (3, .int x3), (4, .int x4), (5, .int x5), (6, .int x6), (7, .int x7), (8, .int x8), (9, .int x9), (10, .int x10)] [] S (fC_Main_span_91  n x1 x2 x3 x4 x5 x6 x7 x8 x9 x10 S) := by
  intro n
  induction n with
  | zero => intro x1 x2 x3 x4 x5 x6 x7 x8 x9 x10 S; rw [fC_Main_span_91]; exact j_none
  | succ n ih =>
    intro x1 x2 x3 x4 x5 x6 x7 x8 x9 x10 S
    rw [fC_Main_span_91]
    refine j_iload (pc := 91) 10 C dX9_span_91 rfl ?_
    refine j_iload_n (pc := 93) 2 C dX9_span_93 rfl rfl ?_
    refine j_icmp_ge (pc := 94) 164 C dX9_span_94 (by decide) ?_ ?_
    ·
      refine j_iload (pc := 164) 5 C dX9_span_164 rfl ?_
      refine j_lswC (pc := 166) (off := 26) 192 0 C dX9_span_166 (by decide) (by decide) (by decide) ?_ (fun h166_0 => ?_)
      ·
        refine j_iload (pc := 192) 7 C dX9_span_192 rfl ?_
        exact j_iret C dX9_span_194 rfl (Nat.le_of_ble_eq_true rfl) (Nat.le_of_ble_eq_true rfl)
      refine j_lswC (pc := 166) (off := 29) 195 1 C dX9_span_166 (by decide) (by decide) (by decide) ?_ (fun h166_1 => ?_)
      ·
        refine j_iload (pc := 195) 8 C dX9_span_195 rfl ?_
        exact j_iret C dX9_span_197 rfl (Nat.le_of_ble_eq_true rfl) (Nat.le_of_ble_eq_true rfl)
      refine j_lswD (pc := 166) 198 C dX9_span_166 (by decide) (by have g0 := ne_i (z := 0) h166_0 (by decide); have g1 := ne_i (z := 1) h166_1 (by decide); simp [Op.lookupswitch.offset, g0, Ne.symm g0, g1, Ne.symm g1]) (by decide) ?_
      refine j_iload (pc := 198) 9 C dX9_span_198 rfl ?_
      exact j_iret C dX9_span_200 rfl (Nat.le_of_ble_eq_true rfl) (Nat.le_of_ble_eq_true rfl)
    ·
      refine j_aload_n (pc := 97) 0 C dX9_span_97 rfl rfl ?_
      refine gC_0_10 (pc := 98) C dX9_span_98 q_591 ?_
      refine j_iload_n (pc := 101) 1 C dX9_span_101 rfl rfl ?_
      refine j_iload (pc := 102) 10 C dX9_span_102 rfl ?_
      refine j_iadd (pc := 104) C dX9_span_104 ?_
      refine j_iload_n (pc := 105) 3 C dX9_span_105 rfl rfl ?_
      refine j_iload (pc := 106) 4 C dX9_span_106 rfl ?_
      refine j_callR0 (pc := 108) C (rC_Outlook_afterSeason C dX9_span_108 q_776 (by omega) (Nat.le_of_ble_eq_true rfl) ⟨Nat.le_of_ble_eq_true rfl, Nat.le_of_ble_eq_true rfl⟩) ⟨Nat.le_of_ble_eq_true rfl, Nat.le_of_ble_eq_true rfl⟩ (fun T1 => ?_)
      refine j_astore (pc := 111) [(11, .ref (gA G 13)), (0, .ref (gA G 0)), (1, .int x1), (2, .int x2), (3, .int x3), (4, .int x4), (5, .int x5), (6, .int x6), (7, .int x7), (8, .int x8), (9, .int x9), (10, .int x10)] C dX9_span_111 (Nat.le_of_ble_eq_true rfl) rfl ?_
      refine j_aload (pc := 113) 0 C dX9_span_113 rfl ?_
      refine j_callI0 (pc := 115) C (rC_State_everyLine_13 C dX9_span_115 q_493 (by omega) (Nat.le_of_ble_eq_true rfl) ⟨Nat.le_of_ble_eq_true rfl, Nat.le_of_ble_eq_true rfl⟩) ⟨Nat.le_of_ble_eq_true rfl, Nat.le_of_ble_eq_true rfl⟩ (fun r4 T3 => ?_)
      refine j_istore (pc := 118) [(12, .int r4), (11, .ref (gA G 13)), (0, .ref (gA G 0)), (1, .int x1), (2, .int x2), (3, .int x3), (4, .int x4), (5, .int x5), (6, .int x6), (7, .int x7), (8, .int x8), (9, .int x9), (10, .int x10)] C dX9_span_118 (Nat.le_of_ble_eq_true rfl) rfl ?_
      refine j_iload (pc := 120) 9 C dX9_span_120 rfl ?_
      refine j_iload (pc := 122) 0 C dX9_span_122 rfl ?_
      refine j_mmin (pc := 124) C dX9_span_124 q_43 q_44 q_45 q_46 (by omega) (Nat.le_of_ble_eq_true rfl) (Nat.le_of_ble_eq_true rfl) (Nat.le_of_ble_eq_true rfl) ?_
      refine j_nxI (fun v5 => ?_)
      refine j_istore (pc := 127) [(7, .int v5), (12, .int r4), (11, .ref (gA G 13)), (0, .ref (gA G 0)), (1, .int x1), (2, .int x2), (3, .int x3), (4, .int x4), (5, .int x5), (6, .int x6), (8, .int x8), (9, .int x9), (10, .int x10)] C dX9_span_127 (Nat.le_of_ble_eq_true rfl) rfl ?_
      refine j_iload (pc := 129) 10 C dX9_span_129 rfl ?_
      refine j_iload (pc := 131) 1 C dX9_span_131 rfl ?_
      refine j_mmax (pc := 133) C dX9_span_133 q_696 q_697 q_45 q_698 (by omega) (Nat.le_of_ble_eq_true rfl) (Nat.le_of_ble_eq_true rfl) (Nat.le_of_ble_eq_true rfl) ?_
      refine j_nxI (fun v6 => ?_)
      refine j_istore (pc := 136) [(8, .int v6), (7, .int v5), (12, .int r4), (11, .ref (gA G 13)), (0, .ref (gA G 0)), (1, .int x1), (2, .int x2), (3, .int x3), (4, .int x4), (5, .int x5), (6, .int x6), (9, .int x9), (10, .int x10)] C dX9_span_136 (Nat.le_of_ble_eq_true rfl) rfl ?_
      refine j_iload (pc := 138) 11 C dX9_span_138 rfl ?_
      refine j_aload (pc := 140) 3 C dX9_span_140 rfl ?_
      refine j_iload (pc := 142) 10 C dX9_span_142 rfl ?_
      refine j_callI0 (pc := 144) C (rC_State_isPaid_13 C dX9_span_144 q_565 (by omega) (Nat.le_of_ble_eq_true rfl) ⟨Nat.le_of_ble_eq_true rfl, Nat.le_of_ble_eq_true rfl⟩) ⟨Nat.le_of_ble_eq_true rfl, Nat.le_of_ble_eq_true rfl⟩ (fun r8 T7 => ?_)
      refine j_if_eq (pc := 147) 154 C dX9_span_147 (by decide) ?_ ?_
      ·
        refine j_iconst (pc := 154) 0 C dX9_span_154 (by decide) ?_
        refine j_iadd (pc := 155) C dX9_span_155 ?_
        refine j_nxI (fun v9 => ?_)
        refine j_istore (pc := 156) [(9, .int v9), (8, .int v6), (7, .int v5), (12, .int r4), (11, .ref (gA G 13)), (0, .ref (gA G 0)), (1, .int x1), (2, .int x2), (3, .int x3), (4, .int x4), (5, .int x5), (6, .int x6), (10, .int x10)] C dX9_span_156 (Nat.le_of_ble_eq_true rfl) rfl ?_
        refine j_iinc (pc := 158) 12 (x10 + 1) [(10, .int (x10 + 1)), (9, .int v9), (8, .int v6), (7, .int v5), (12, .int r4), (11, .ref (gA G 13)), (0, .ref (gA G 0)), (1, .int x1), (2, .int x2), (3, .int x3), (4, .int x4), (5, .int x5), (6, .int x6)] C dX9_span_158 rfl rfl (Nat.le_of_ble_eq_true rfl) rfl ?_
        refine j_goto (pc := 161) 91 C dX9_span_161 (by decide) ?_
        refine j_sub [6, 7, 8, 9, 10, 11, 12, 3, 2, 1, 0] rfl ?_
        exact ih x1 x2 x3 x4 x5 x6 v5 v6 v9 (x10 + 1) T7
      ·
        refine j_iconst (pc := 150) 1 C dX9_span_150 (by decide) ?_
        refine j_goto (pc := 151) 155 C dX9_span_151 (by decide) ?_
        refine j_iadd (pc := 155) C dX9_span_155 ?_
        refine j_nxI (fun v10 => ?_)
        refine j_istore (pc := 156) [(9, .int v10), (8, .int v6), (7, .int v5), (12, .int r4), (11, .ref (gA G 13)), (0, .ref (gA G 0)), (1, .int x1), (2, .int x2), (3, .int x3), (4, .int x4), (5, .int x5), (6, .int x6), (10, .int x10)] C dX9_span_156 (Nat.le_of_ble_eq_true rfl) rfl ?_
        refine j_iinc (pc := 158) 12 (x10 + 1) [(10, .int (x10 + 1)), (9, .int v10), (8, .int v6), (7, .int v5), (12, .int r4), (11, .ref (gA G 13)), (0, .ref (gA G 0)), (1, .int x1), (2, .int x2), (3, .int x3), (4, .int x4), (5, .int x5), (6, .int x6)] C dX9_span_158 rfl rfl (Nat.le_of_ble_eq_true rfl) rfl ?_
        refine j_goto (pc := 161) 91 C dX9_span_161 (by decide) ?_
        refine j_sub [6, 7, 8, 9, 10, 11, 12, 3, 2, 1, 0] rfl ?_
        exact ih x1 x2 x3 x4 x5 x6 v5 v6 v10 (x10 + 1) T7
theorem bC_Main_span_74 {E : Ec} {G : Gc}    (C : JC E (VC G 13 2 12 RX9) cX9_span 8 (some .int))    (x1 : Int32) (x2 : Int32) (x3 : Int32) (x4 : Int32) (x5 : Int32) (x6 : Int32) (s0 : Int32) (S : St) : J E (VC G 13 2 12 RX9) 1 6 74 [(0, .ref (gA G 0)), (1, .int x1), (2, .int x2), (3, .int x3), (4, .int x4), (5, .int x5), (6, .int x6)] [.int s0, .ref (gA G 0)] S (fC_Main_span_74  x1 x2 x3 x4 x5 x6 s0 S) := by
  unfold fC_Main_span_74
  refine j_callv (pc := 74) C (rC_Main_need C dX9_span_74 q_60 (by omega) (Nat.le_of_ble_eq_true rfl) ⟨Nat.le_of_ble_eq_true rfl, Nat.le_of_ble_eq_true rfl⟩) ⟨Nat.le_of_ble_eq_true rfl, Nat.le_of_ble_eq_true rfl⟩ (fun T1 => ?_)
  refine j_ldcw (pc := 77) C dX9_span_77 q_784 ?_
  refine j_istore (pc := 80) [(7, .int 2147483647), (0, .ref (gA G 0)), (1, .int x1), (2, .int x2), (3, .int x3), (4, .int x4), (5, .int x5), (6, .int x6)] C dX9_span_80 (Nat.le_of_ble_eq_true rfl) rfl ?_
  refine j_iconst (pc := 82) 0 C dX9_span_82 (by decide) ?_
  refine j_istore (pc := 83) [(8, .int 0), (7, .int 2147483647), (0, .ref (gA G 0)), (1, .int x1), (2, .int x2), (3, .int x3), (4, .int x4), (5, .int x5), (6, .int x6)] C dX9_span_83 (Nat.le_of_ble_eq_true rfl) rfl ?_
  refine j_iconst (pc := 85) 0 C dX9_span_85 (by decide) ?_
  refine j_istore (pc := 86) [(9, .int 0), (8, .int 0), (7, .int 2147483647), (0, .ref (gA G 0)), (1, .int x1), (2, .int x2), (3, .int x3), (4, .int x4), (5, .int x5), (6, .int x6)] C dX9_span_86 (Nat.le_of_ble_eq_true rfl) rfl ?_
  refine j_iconst (pc := 88) 0 C dX9_span_88 (by decide) ?_
  refine j_istore (pc := 89) [(10, .int 0), (9, .int 0), (8, .int 0), (7, .int 2147483647), (0, .ref (gA G 0)), (1, .int x1), (2, .int x2), (3, .int x3), (4, .int x4), (5, .int x5), (6, .int x6)] C dX9_span_89 (Nat.le_of_ble_eq_true rfl) rfl ?_
  refine j_sub [4, 5, 6, 7, 8, 9, 10, 3, 2, 1, 0] rfl ?_
  exact bC_Main_span_91 C  FU x1 x2 x3 x4 x5 x6 2147483647 0 0 0 T1
theorem bC_Main_span_73 {E : Ec} {G : Gc}    (C : JC E (VC G 13 2 12 RX9) cX9_span 8 (some .int))    (x1 : Int32) (x2 : Int32) (x3 : Int32) (x4 : Int32) (x5 : Int32) (x6 : Int32) (S : St) : J E (VC G 13 2 12 RX9) 1 6 73 [(0, .ref (gA G 0)), (1, .int x1), (2, .int x2), (3, .int x3), (4, .int x4), (5, .int x5), (6, .int x6)] [.ref (gA G 0)] S (fC_Main_span_73  x1 x2 x3 x4 x5 x6 S) := by
  unfold fC_Main_span_73
  refine j_iconst (pc := 73) 0 C dX9_span_73 (by decide) ?_
  exact bC_Main_span_74 C  x1 x2 x3 x4 x5 x6 0 S
theorem bC_Main_span_37 {E : Ec} {G : Gc}    (C : JC E (VC G 13 2 12 RX9) cX9_span 8 (some .int))    (x1 : Int32) (x2 : Int32) (x3 : Int32) (x4 : Int32) (x5 : Int32) (x6 : Int32) (s0 : Int32) (S : St) : J E (VC G 13 2 12 RX9) 0 0 37 [(0, .ref (gA G 0)), (1, .int x1), (2, .int x2), (3, .int x3), (4, .int x4), (5, .int x5), (6, .int x6)] [.int s0, .ref (gA G 0)] S (fC_Main_span_37  x1 x2 x3 x4 x5 x6 s0 S) := by
  unfold fC_Main_span_37
  refine j_callv (pc := 37) C (rC_Main_need C dX9_span_37 q_60 (by omega) (Nat.le_of_ble_eq_true rfl) ⟨Nat.le_of_ble_eq_true rfl, Nat.le_of_ble_eq_true rfl⟩) ⟨Nat.le_of_ble_eq_true rfl, Nat.le_of_ble_eq_true rfl⟩ (fun T1 => ?_)
  refine j_aload_n (pc := 40) 0 C dX9_span_40 rfl rfl ?_
  refine j_iload (pc := 41) 5 C dX9_span_41 rfl ?_
  refine j_iconst (pc := 43) 0 C dX9_span_43 (by decide) ?_
  refine j_iconst (pc := 44) 2 C dX9_span_44 (by decide) ?_
  refine j_callI0 (pc := 45) C (rC_Main_isWithin C dX9_span_45 q_49 (by omega) (Nat.le_of_ble_eq_true rfl) ⟨Nat.le_of_ble_eq_true rfl, Nat.le_of_ble_eq_true rfl⟩) ⟨Nat.le_of_ble_eq_true rfl, Nat.le_of_ble_eq_true rfl⟩ (fun r4 T3 => ?_)
  refine j_if_eq (pc := 48) 73 C dX9_span_48 (by decide) ?_ ?_
  ·
    exact bC_Main_span_73 C  x1 x2 x3 x4 x5 x6 T3
  ·
    refine j_iload (pc := 51) 6 C dX9_span_51 rfl ?_
    refine j_iconst (pc := 53) 0 C dX9_span_53 (by decide) ?_
    refine j_aload_n (pc := 54) 0 C dX9_span_54 rfl rfl ?_
    refine gC_0_1 (pc := 55) C dX9_span_55 q_148 ?_
    refine gC_2_2 (pc := 58) C dX9_span_58 q_187 ?_
    refine j_iconst (pc := 61) 1 C dX9_span_61 (by decide) ?_
    refine j_isub (pc := 62) C dX9_span_62 ?_
    refine j_callI0 (pc := 63) C (rC_Main_isWithin C dX9_span_63 q_49 (by omega) (Nat.le_of_ble_eq_true rfl) ⟨Nat.le_of_ble_eq_true rfl, Nat.le_of_ble_eq_true rfl⟩) ⟨Nat.le_of_ble_eq_true rfl, Nat.le_of_ble_eq_true rfl⟩ (fun r6 T5 => ?_)
    refine j_if_eq (pc := 66) 73 C dX9_span_66 (by decide) ?_ ?_
    ·
      exact bC_Main_span_73 C  x1 x2 x3 x4 x5 x6 T5
    ·
      refine j_iconst (pc := 69) 1 C dX9_span_69 (by decide) ?_
      refine j_goto (pc := 70) 74 C dX9_span_70 (by decide) ?_
      exact bC_Main_span_74 C  x1 x2 x3 x4 x5 x6 1 T5
theorem bC_Main_span_36 {E : Ec} {G : Gc}    (C : JC E (VC G 13 2 12 RX9) cX9_span 8 (some .int))    (x1 : Int32) (x2 : Int32) (x3 : Int32) (x4 : Int32) (x5 : Int32) (x6 : Int32) (S : St) : J E (VC G 13 2 12 RX9) 0 0 36 [(0, .ref (gA G 0)), (1, .int x1), (2, .int x2), (3, .int x3), (4, .int x4), (5, .int x5), (6, .int x6)] [.ref (gA G 0)] S (fC_Main_span_36  x1 x2 x3 x4 x5 x6 S) := by
  unfold fC_Main_span_36
  refine j_iconst (pc := 36) 0 C dX9_span_36 (by decide) ?_
  exact bC_Main_span_37 C  x1 x2 x3 x4 x5 x6 0 S
theorem bC_Main_span {E : Ec} {G : Gc}    (C : JC E (VC G 13 2 12 RX9) cX9_span 8 (some .int))    (x1 : Int32) (x2 : Int32) (x3 : Int32) (x4 : Int32) (x5 : Int32) (x6 : Int32) (S : St) : J E (VC G 13 2 12 RX9) 0 0 0 [(0, .ref (gA G 0)), (1, .int x1), (2, .int x2), (3, .int x3), (4, .int x4), (5, .int x5), (6, .int x6)] [] S (fC_Main_span  x1 x2 x3 x4 x5 x6 S) := by
  unfold fC_Main_span
  refine j_aload_n (pc := 0) 0 C dX9_span_0 rfl rfl ?_
  refine j_iload_n (pc := 1) 2 C dX9_span_1 rfl rfl ?_
  refine j_iconst (pc := 2) 1 C dX9_span_2 (by decide) ?_
  refine j_bipush (pc := 3) 10 C dX9_span_3 (by decide) ?_
  refine j_callI0 (pc := 5) C (rC_Main_isWithin C dX9_span_5 q_49 (by omega) (Nat.le_of_ble_eq_true rfl) ⟨Nat.le_of_ble_eq_true rfl, Nat.le_of_ble_eq_true rfl⟩) ⟨Nat.le_of_ble_eq_true rfl, Nat.le_of_ble_eq_true rfl⟩ (fun r2 T1 => ?_)
  refine j_if_eq (pc := 8) 36 C dX9_span_8 (by decide) ?_ ?_
  ·
    exact bC_Main_span_36 C  x1 x2 x3 x4 x5 x6 T1
  ·
    refine j_iload_n (pc := 11) 3 C dX9_span_11 rfl rfl ?_
    refine j_iconst (pc := 12) 0 C dX9_span_12 (by decide) ?_
    refine j_bipush (pc := 13) 16 C dX9_span_13 (by decide) ?_
    refine j_callI0 (pc := 15) C (rC_Main_isWithin C dX9_span_15 q_49 (by omega) (Nat.le_of_ble_eq_true rfl) ⟨Nat.le_of_ble_eq_true rfl, Nat.le_of_ble_eq_true rfl⟩) ⟨Nat.le_of_ble_eq_true rfl, Nat.le_of_ble_eq_true rfl⟩ (fun r4 T3 => ?_)
    refine j_if_eq (pc := 18) 36 C dX9_span_18 (by decide) ?_ ?_
    ·
      exact bC_Main_span_36 C  x1 x2 x3 x4 x5 x6 T3
    ·
      refine j_iload (pc := 21) 4 C dX9_span_21 rfl ?_
      refine j_iconst (pc := 23) 1 C dX9_span_23 (by decide) ?_
      refine j_bipush (pc := 24) 48 C dX9_span_24 (by decide) ?_
      refine j_callI0 (pc := 26) C (rC_Main_isWithin C dX9_span_26 q_49 (by omega) (Nat.le_of_ble_eq_true rfl) ⟨Nat.le_of_ble_eq_true rfl, Nat.le_of_ble_eq_true rfl⟩) ⟨Nat.le_of_ble_eq_true rfl, Nat.le_of_ble_eq_true rfl⟩ (fun r6 T5 => ?_)
      refine j_if_eq (pc := 29) 36 C dX9_span_29 (by decide) ?_ ?_
      ·
        exact bC_Main_span_36 C  x1 x2 x3 x4 x5 x6 T5
      ·
        refine j_iconst (pc := 32) 1 C dX9_span_32 (by decide) ?_
        refine j_goto (pc := 33) 37 C dX9_span_33 (by decide) ?_
        exact bC_Main_span_37 C  x1 x2 x3 x4 x5 x6 1 T5
theorem cC_Main_span {l : Launch} {G : Gc} (hfl : l.stackTraces = false) (hW : Wok G wC 54)   (x1 : Int32) (x2 : Int32) (x3 : Int32) (x4 : Int32) (x5 : Int32) (x6 : Int32) (S : St) : Ct l yX9_span (Cond.code yX9_span cX9_span 13 (some .int) :: tblG) 8 2 12 G wC 54 [.ref (gA G 0), .int x1, .int x2, .int x3, .int x4, .int x5, .int x6] S (fC_Main_span x1 x2 x3 x4 x5 x6 S) := ct_of (own := RX9) hfl (by decide +kernel) rfl hW (Nat.le_of_ble_eq_true rfl) (fun E hE C => by subst hE; exact bC_Main_span C   x1 x2 x3 x4 x5 x6 S)
theorem rC_Main_span {E : Ec} {G : Gc} {nL mc ms : Nat} {own : String} {cc : ByteArray} {L : Nat} {ret : Option FieldType} {k n pc ix : Nat} {loc : List (Nat × Value)} {rest : List Value}  {x1 : Int32} {x2 : Int32} {x3 : Int32} {x4 : Int32} {x5 : Int32} {x6 : Int32} {S : St}  (C : JC E (VC G nL mc ms own) cc L ret) (hd : decode cc pc = .ok (.invokevirtual ix, 3)) (hq : Cond.methodLink own ix yX9_span ∈ tblG) (hL : 8 + 1 ≤ L) (hW : (rest.map fun v => v.category).sum ≤ 8) (hf : k + 2 ≤ mc ∧ n + 12 ≤ ms) : Rn E (VC G nL mc ms own) k n 2 12 pc loc (.int x6 :: .int x5 :: .int x4 :: .int x3 :: .int x2 :: .int x1 :: .ref (gA G 0) :: rest) rest S (fC_Main_span x1 x2 x3 x4 x5 x6 S) := rn_V (ci := 9) 0 (V := VC G nL mc ms own) (As := [.int x1, .int x2, .int x3, .int x4, .int x5, .int x6]) (Cq := (RX9, TX9, 15)) (cC_Main_span C.flags C.wok  x1 x2 x3 x4 x5 x6 S) knX9_span ⟨q_786, q_787⟩ rfl rfl C hd hq hL rfl rfl hW hf

theorem knX4_pushImage : Kn yX4_pushImage cX4_pushImage 3 (some .boolean) 1 := ⟨q_790, q_182, by decide +kernel, by decide⟩
theorem bC_Shelf_pushImage {E : Ec} {G : Gc}    (C : JC E (VC G 3 0 0 RX4) cX4_pushImage 1 (some .boolean))     (S : St) : J E (VC G 3 0 0 RX4) 0 0 0 [(0, .ref (gA G 10)), (1, .ref (gA G 9))] [] S (fC_Shelf_pushImage   S) := by
  unfold fC_Shelf_pushImage
  refine j_aload_n (pc := 0) 0 C dX4_pushImage_0 rfl rfl ?_
  refine gC_10_1 (pc := 1) C dX4_pushImage_1 q_180 ?_
  refine j_iconst (pc := 4) 3 C dX4_pushImage_4 (by decide) ?_
  refine j_icmp_lt (pc := 5) 10 C dX4_pushImage_5 (by decide) ?_ ?_
  ·
    refine j_aload_n (pc := 10) 0 C dX4_pushImage_10 rfl rfl ?_
    refine gC_10_1 (pc := 11) C dX4_pushImage_11 q_180 ?_
    refine j_sipush (pc := 14) 1258 C dX4_pushImage_14 (by decide) ?_
    refine j_imul (pc := 17) C dX4_pushImage_17 ?_
    refine j_nxI (fun v1 => ?_)
    refine j_istore_n (pc := 18) [(2, .int v1), (0, .ref (gA G 10)), (1, .ref (gA G 9))] C dX4_pushImage_18 rfl (Nat.le_of_ble_eq_true rfl) rfl ?_
    refine j_aload_n (pc := 19) 2 C dX4_pushImage_19 rfl rfl ?_
    refine gC_9_0 (pc := 20) C dX4_pushImage_20 q_293 ?_
    refine j_iconst (pc := 23) 0 C dX4_pushImage_23 (by decide) ?_
    refine j_aload_n (pc := 24) 1 C dX4_pushImage_24 rfl rfl ?_
    refine gC_10_3 (pc := 25) C dX4_pushImage_25 q_788 ?_
    refine j_iload_n (pc := 28) 0 C dX4_pushImage_28 rfl rfl ?_
    refine j_bipush (pc := 29) 74 C dX4_pushImage_29 (by decide) ?_
    refine j_copy (pc := 31) (V := VC G 3 _ _ RX4) (sC S 46 48 0 v1 74) 46 48 rfl rfl rfl C dX4_pushImage_31 q_295 q_150 q_151 q_152 (by omega) (Nat.le_of_ble_eq_true rfl) ?_
    refine j_nxS (fun T2 => ?_)
    refine j_aload_n (pc := 34) 1 C dX4_pushImage_34 rfl rfl ?_
    refine gC_10_2 (pc := 35) C dX4_pushImage_35 q_294 ?_
    refine j_iconst (pc := 38) 0 C dX4_pushImage_38 (by decide) ?_
    refine j_aload_n (pc := 39) 1 C dX4_pushImage_39 rfl rfl ?_
    refine gC_10_3 (pc := 40) C dX4_pushImage_40 q_788 ?_
    refine j_iload_n (pc := 43) 0 C dX4_pushImage_43 rfl rfl ?_
    refine j_bipush (pc := 44) 74 C dX4_pushImage_44 (by decide) ?_
    refine j_iadd (pc := 46) C dX4_pushImage_46 ?_
    refine j_aload_n (pc := 47) 1 C dX4_pushImage_47 rfl rfl ?_
    refine gC_10_0 (pc := 48) C dX4_pushImage_48 q_179 ?_
    refine j_bipush (pc := 51) 74 C dX4_pushImage_51 (by decide) ?_
    refine j_imul (pc := 53) C dX4_pushImage_53 ?_
    refine j_copy (pc := 54) (V := VC G 3 _ _ RX4) (sC T2 47 48 0 (v1 + 74) ((T2.1 26) * 74)) 47 48 rfl rfl rfl C dX4_pushImage_54 q_295 q_150 q_151 q_152 (by omega) (Nat.le_of_ble_eq_true rfl) ?_
    refine j_nxS (fun T3 => ?_)
    refine j_aload_n (pc := 57) 1 C dX4_pushImage_57 rfl rfl ?_
    refine gC_10_4 (pc := 58) C dX4_pushImage_58 q_789 ?_
    refine j_aload_n (pc := 61) 1 C dX4_pushImage_61 rfl rfl ?_
    refine gC_10_1 (pc := 62) C dX4_pushImage_62 q_180 ?_
    refine j_aload_n (pc := 65) 1 C dX4_pushImage_65 rfl rfl ?_
    refine gC_10_0 (pc := 66) C dX4_pushImage_66 q_179 ?_
    refine sC_49 (pc := 69) C dX4_pushImage_69 ?_
    refine j_nxS (fun T4 => ?_)
    refine j_aload_n (pc := 70) 1 C dX4_pushImage_70 rfl rfl ?_
    refine j_dup (pc := 71) C dX4_pushImage_71 rfl ?_
    refine gC_10_1 (pc := 72) C dX4_pushImage_72 q_180 ?_
    refine j_iconst (pc := 75) 1 C dX4_pushImage_75 (by decide) ?_
    refine j_iadd (pc := 76) C dX4_pushImage_76 ?_
    refine pC_10_1 (pc := 77) C dX4_pushImage_77 q_180 ?_
    refine j_nxS (fun T5 => ?_)
    refine j_iconst (pc := 80) 1 C dX4_pushImage_80 (by decide) ?_
    exact j_zretc C dX4_pushImage_81 rfl (Nat.le_of_ble_eq_true rfl) (Nat.le_of_ble_eq_true rfl) rfl
  ·
    refine j_iconst (pc := 8) 0 C dX4_pushImage_8 (by decide) ?_
    exact j_zretc C dX4_pushImage_9 rfl (Nat.le_of_ble_eq_true rfl) (Nat.le_of_ble_eq_true rfl) rfl
theorem cC_Shelf_pushImage {l : Launch} {G : Gc} (hfl : l.stackTraces = false) (hW : Wok G wC 54)    (S : St) : Ct l yX4_pushImage (Cond.code yX4_pushImage cX4_pushImage 3 (some .boolean) :: tblG) 1 0 0 G wC 54 [.ref (gA G 10), .ref (gA G 9)] S (fC_Shelf_pushImage  S) := ct_of (own := RX4) hfl (by decide +kernel) rfl hW (Nat.le_of_ble_eq_true rfl) (fun E hE C => by subst hE; exact bC_Shelf_pushImage C    S)
theorem rC_Shelf_pushImage {E : Ec} {G : Gc} {nL mc ms : Nat} {own : String} {cc : ByteArray} {L : Nat} {ret : Option FieldType} {k n pc ix : Nat} {loc : List (Nat × Value)} {rest : List Value}   {S : St}  (C : JC E (VC G nL mc ms own) cc L ret) (hd : decode cc pc = .ok (.invokevirtual ix, 3)) (hq : Cond.methodLink own ix yX4_pushImage ∈ tblG) (hL : 1 + 1 ≤ L) (hW : (rest.map fun v => v.category).sum ≤ 8) (hf : k + 0 ≤ mc ∧ n + 0 ≤ ms) : Rn E (VC G nL mc ms own) k n 0 0 pc loc (.ref (gA G 9) :: .ref (gA G 10) :: rest) rest S (fC_Shelf_pushImage  S) := rn_V (ci := 4) 10 (V := VC G nL mc ms own) (As := [.ref (gA G 9)]) (Cq := (RX4, TX4, 5)) (cC_Shelf_pushImage C.flags C.wok   S) knX4_pushImage ⟨q_791, q_792⟩ rfl rfl C hd hq hL rfl rfl hW hf

theorem knX9_image : Kn yX9_image cX9_image 1 (some .int) 0 := ⟨q_795, q_40, by decide +kernel, by decide⟩
theorem bC_Main_image {E : Ec} {G : Gc}    (C : JC E (VC G 1 0 0 RX9) cX9_image 2 (some .int))     (S : St) : J E (VC G 1 0 0 RX9) 0 0 0 [(0, .ref (gA G 0))] [] S (fC_Main_image   S) := by
  unfold fC_Main_image
  refine j_aload_n (pc := 0) 0 C dX9_image_0 rfl rfl ?_
  refine gC_0_9 (pc := 1) C dX9_image_1 q_178 ?_
  refine j_aload_n (pc := 4) 0 C dX9_image_4 rfl rfl ?_
  refine gC_0_8 (pc := 5) C dX9_image_5 q_171 ?_
  refine j_callI0 (pc := 8) C (rC_Shelf_pushImage C dX9_image_8 q_793 (by omega) (Nat.le_of_ble_eq_true rfl) ⟨Nat.le_of_ble_eq_true rfl, Nat.le_of_ble_eq_true rfl⟩) ⟨Nat.le_of_ble_eq_true rfl, Nat.le_of_ble_eq_true rfl⟩ (fun r2 T1 => ?_)
  refine j_if_eq (pc := 11) 24 C dX9_image_11 (by decide) ?_ ?_
  ·
    refine j_iconst (pc := 24) (-1) C dX9_image_24 (by decide) ?_
    exact j_iret C dX9_image_25 rfl (Nat.le_of_ble_eq_true rfl) (Nat.le_of_ble_eq_true rfl)
  ·
    refine j_aload_n (pc := 14) 0 C dX9_image_14 rfl rfl ?_
    refine gC_0_9 (pc := 15) C dX9_image_15 q_178 ?_
    refine gC_10_1 (pc := 18) C dX9_image_18 q_794 ?_
    refine j_goto (pc := 21) 25 C dX9_image_21 (by decide) ?_
    exact j_iret C dX9_image_25 rfl (Nat.le_of_ble_eq_true rfl) (Nat.le_of_ble_eq_true rfl)
theorem cC_Main_image {l : Launch} {G : Gc} (hfl : l.stackTraces = false) (hW : Wok G wC 54)    (S : St) : Ct l yX9_image (Cond.code yX9_image cX9_image 1 (some .int) :: tblG) 2 0 0 G wC 54 [.ref (gA G 0)] S (fC_Main_image  S) := ct_of (own := RX9) hfl (by decide +kernel) rfl hW (Nat.le_of_ble_eq_true rfl) (fun E hE C => by subst hE; exact bC_Main_image C    S)
theorem rC_Main_image {E : Ec} {G : Gc} {nL mc ms : Nat} {own : String} {cc : ByteArray} {L : Nat} {ret : Option FieldType} {k n pc ix : Nat} {loc : List (Nat × Value)} {rest : List Value}   {S : St}  (C : JC E (VC G nL mc ms own) cc L ret) (hd : decode cc pc = .ok (.invokevirtual ix, 3)) (hq : Cond.methodLink own ix yX9_image ∈ tblG) (hL : 2 + 1 ≤ L) (hW : (rest.map fun v => v.category).sum ≤ 8) (hf : k + 0 ≤ mc ∧ n + 0 ≤ ms) : Rn E (VC G nL mc ms own) k n 0 0 pc loc (.ref (gA G 0) :: rest) rest S (fC_Main_image  S) := rn_V (ci := 9) 0 (V := VC G nL mc ms own) (As := []) (Cq := (RX9, TX9, 15)) (cC_Main_image C.flags C.wok   S) knX9_image ⟨q_796, q_797⟩ rfl rfl C hd hq hL rfl rfl hW hf

theorem knX4_popImage : Kn yX4_popImage cX4_popImage 3 (some .boolean) 1 := ⟨q_798, q_182, by decide +kernel, by decide⟩
theorem bC_Shelf_popImage {E : Ec} {G : Gc}    (C : JC E (VC G 3 0 0 RX4) cX4_popImage 1 (some .boolean))     (S : St) : J E (VC G 3 0 0 RX4) 0 0 0 [(0, .ref (gA G 10)), (1, .ref (gA G 9))] [] S (fC_Shelf_popImage   S) := by
  unfold fC_Shelf_popImage
  refine j_aload_n (pc := 0) 0 C dX4_popImage_0 rfl rfl ?_
  refine gC_10_1 (pc := 1) C dX4_popImage_1 q_180 ?_
  refine j_if_gt (pc := 4) 9 C dX4_popImage_4 (by decide) ?_ ?_
  ·
    refine j_aload_n (pc := 9) 0 C dX4_popImage_9 rfl rfl ?_
    refine j_dup (pc := 10) C dX4_popImage_10 rfl ?_
    refine gC_10_1 (pc := 11) C dX4_popImage_11 q_180 ?_
    refine j_iconst (pc := 14) 1 C dX4_popImage_14 (by decide) ?_
    refine j_isub (pc := 15) C dX4_popImage_15 ?_
    refine pC_10_1 (pc := 16) C dX4_popImage_16 q_180 ?_
    refine j_nxS (fun T1 => ?_)
    refine j_aload_n (pc := 19) 0 C dX4_popImage_19 rfl rfl ?_
    refine j_aload_n (pc := 20) 0 C dX4_popImage_20 rfl rfl ?_
    refine gC_10_4 (pc := 21) C dX4_popImage_21 q_789 ?_
    refine j_aload_n (pc := 24) 0 C dX4_popImage_24 rfl rfl ?_
    refine gC_10_1 (pc := 25) C dX4_popImage_25 q_180 ?_
    refine aC_49 (pc := 28) C dX4_popImage_28 ?_
    refine pC_10_0 (pc := 29) C dX4_popImage_29 q_179 ?_
    refine j_nxS (fun T2 => ?_)
    refine j_aload_n (pc := 32) 0 C dX4_popImage_32 rfl rfl ?_
    refine gC_10_1 (pc := 33) C dX4_popImage_33 q_180 ?_
    refine j_sipush (pc := 36) 1258 C dX4_popImage_36 (by decide) ?_
    refine j_imul (pc := 39) C dX4_popImage_39 ?_
    refine j_nxI (fun v3 => ?_)
    refine j_istore_n (pc := 40) [(2, .int v3), (0, .ref (gA G 10)), (1, .ref (gA G 9))] C dX4_popImage_40 rfl (Nat.le_of_ble_eq_true rfl) rfl ?_
    refine j_aload_n (pc := 41) 1 C dX4_popImage_41 rfl rfl ?_
    refine gC_10_3 (pc := 42) C dX4_popImage_42 q_788 ?_
    refine j_iload_n (pc := 45) 0 C dX4_popImage_45 rfl rfl ?_
    refine j_aload_n (pc := 46) 2 C dX4_popImage_46 rfl rfl ?_
    refine gC_9_0 (pc := 47) C dX4_popImage_47 q_293 ?_
    refine j_iconst (pc := 50) 0 C dX4_popImage_50 (by decide) ?_
    refine j_bipush (pc := 51) 74 C dX4_popImage_51 (by decide) ?_
    refine j_copy (pc := 53) (V := VC G 3 _ _ RX4) (sC T2 48 46 v3 0 74) 48 46 rfl rfl rfl C dX4_popImage_53 q_295 q_150 q_151 q_152 (by omega) (Nat.le_of_ble_eq_true rfl) ?_
    refine j_nxS (fun T4 => ?_)
    refine j_aload_n (pc := 56) 1 C dX4_popImage_56 rfl rfl ?_
    refine gC_10_3 (pc := 57) C dX4_popImage_57 q_788 ?_
    refine j_iload_n (pc := 60) 0 C dX4_popImage_60 rfl rfl ?_
    refine j_bipush (pc := 61) 74 C dX4_popImage_61 (by decide) ?_
    refine j_iadd (pc := 63) C dX4_popImage_63 ?_
    refine j_aload_n (pc := 64) 1 C dX4_popImage_64 rfl rfl ?_
    refine gC_10_2 (pc := 65) C dX4_popImage_65 q_294 ?_
    refine j_iconst (pc := 68) 0 C dX4_popImage_68 (by decide) ?_
    refine j_aload_n (pc := 69) 1 C dX4_popImage_69 rfl rfl ?_
    refine gC_10_0 (pc := 70) C dX4_popImage_70 q_179 ?_
    refine j_bipush (pc := 73) 74 C dX4_popImage_73 (by decide) ?_
    refine j_imul (pc := 75) C dX4_popImage_75 ?_
    refine j_copy (pc := 76) (V := VC G 3 _ _ RX4) (sC T4 48 47 (v3 + 74) 0 ((T4.1 26) * 74)) 48 47 rfl rfl rfl C dX4_popImage_76 q_295 q_150 q_151 q_152 (by omega) (Nat.le_of_ble_eq_true rfl) ?_
    refine j_nxS (fun T5 => ?_)
    refine j_iconst (pc := 79) 1 C dX4_popImage_79 (by decide) ?_
    exact j_zretc C dX4_popImage_80 rfl (Nat.le_of_ble_eq_true rfl) (Nat.le_of_ble_eq_true rfl) rfl
  ·
    refine j_iconst (pc := 7) 0 C dX4_popImage_7 (by decide) ?_
    exact j_zretc C dX4_popImage_8 rfl (Nat.le_of_ble_eq_true rfl) (Nat.le_of_ble_eq_true rfl) rfl
theorem cC_Shelf_popImage {l : Launch} {G : Gc} (hfl : l.stackTraces = false) (hW : Wok G wC 54)    (S : St) : Ct l yX4_popImage (Cond.code yX4_popImage cX4_popImage 3 (some .boolean) :: tblG) 1 0 0 G wC 54 [.ref (gA G 10), .ref (gA G 9)] S (fC_Shelf_popImage  S) := ct_of (own := RX4) hfl (by decide +kernel) rfl hW (Nat.le_of_ble_eq_true rfl) (fun E hE C => by subst hE; exact bC_Shelf_popImage C    S)
theorem rC_Shelf_popImage {E : Ec} {G : Gc} {nL mc ms : Nat} {own : String} {cc : ByteArray} {L : Nat} {ret : Option FieldType} {k n pc ix : Nat} {loc : List (Nat × Value)} {rest : List Value}   {S : St}  (C : JC E (VC G nL mc ms own) cc L ret) (hd : decode cc pc = .ok (.invokevirtual ix, 3)) (hq : Cond.methodLink own ix yX4_popImage ∈ tblG) (hL : 1 + 1 ≤ L) (hW : (rest.map fun v => v.category).sum ≤ 8) (hf : k + 0 ≤ mc ∧ n + 0 ≤ ms) : Rn E (VC G nL mc ms own) k n 0 0 pc loc (.ref (gA G 9) :: .ref (gA G 10) :: rest) rest S (fC_Shelf_popImage  S) := rn_V (ci := 4) 10 (V := VC G nL mc ms own) (As := [.ref (gA G 9)]) (Cq := (RX4, TX4, 5)) (cC_Shelf_popImage C.flags C.wok   S) knX4_popImage ⟨q_799, q_800⟩ rfl rfl C hd hq hL rfl rfl hW hf

theorem knX9_restore : Kn yX9_restore cX9_restore 1 (some .int) 0 := ⟨q_802, q_40, by decide +kernel, by decide⟩
theorem bC_Main_restore {E : Ec} {G : Gc}    (C : JC E (VC G 1 0 0 RX9) cX9_restore 2 (some .int))     (S : St) : J E (VC G 1 0 0 RX9) 0 0 0 [(0, .ref (gA G 0))] [] S (fC_Main_restore   S) := by
  unfold fC_Main_restore
  refine j_aload_n (pc := 0) 0 C dX9_restore_0 rfl rfl ?_
  refine gC_0_9 (pc := 1) C dX9_restore_1 q_178 ?_
  refine j_aload_n (pc := 4) 0 C dX9_restore_4 rfl rfl ?_
  refine gC_0_8 (pc := 5) C dX9_restore_5 q_171 ?_
  refine j_callI0 (pc := 8) C (rC_Shelf_popImage C dX9_restore_8 q_801 (by omega) (Nat.le_of_ble_eq_true rfl) ⟨Nat.le_of_ble_eq_true rfl, Nat.le_of_ble_eq_true rfl⟩) ⟨Nat.le_of_ble_eq_true rfl, Nat.le_of_ble_eq_true rfl⟩ (fun r2 T1 => ?_)
  refine j_if_ne (pc := 11) 16 C dX9_restore_11 (by decide) ?_ ?_
  ·
    refine j_aload_n (pc := 16) 0 C dX9_restore_16 rfl rfl ?_
    refine j_iconst (pc := 17) 0 C dX9_restore_17 (by decide) ?_
    refine pC_0_12 (pc := 18) C dX9_restore_18 q_186 ?_
    refine j_nxS (fun T3 => ?_)
    refine j_aload_n (pc := 21) 0 C dX9_restore_21 rfl rfl ?_
    refine gC_0_9 (pc := 22) C dX9_restore_22 q_178 ?_
    refine gC_10_1 (pc := 25) C dX9_restore_25 q_794 ?_
    exact j_iret C dX9_restore_28 rfl (Nat.le_of_ble_eq_true rfl) (Nat.le_of_ble_eq_true rfl)
  ·
    refine j_iconst (pc := 14) (-1) C dX9_restore_14 (by decide) ?_
    exact j_iret C dX9_restore_15 rfl (Nat.le_of_ble_eq_true rfl) (Nat.le_of_ble_eq_true rfl)
theorem cC_Main_restore {l : Launch} {G : Gc} (hfl : l.stackTraces = false) (hW : Wok G wC 54)    (S : St) : Ct l yX9_restore (Cond.code yX9_restore cX9_restore 1 (some .int) :: tblG) 2 0 0 G wC 54 [.ref (gA G 0)] S (fC_Main_restore  S) := ct_of (own := RX9) hfl (by decide +kernel) rfl hW (Nat.le_of_ble_eq_true rfl) (fun E hE C => by subst hE; exact bC_Main_restore C    S)
theorem rC_Main_restore {E : Ec} {G : Gc} {nL mc ms : Nat} {own : String} {cc : ByteArray} {L : Nat} {ret : Option FieldType} {k n pc ix : Nat} {loc : List (Nat × Value)} {rest : List Value}   {S : St}  (C : JC E (VC G nL mc ms own) cc L ret) (hd : decode cc pc = .ok (.invokevirtual ix, 3)) (hq : Cond.methodLink own ix yX9_restore ∈ tblG) (hL : 2 + 1 ≤ L) (hW : (rest.map fun v => v.category).sum ≤ 8) (hf : k + 0 ≤ mc ∧ n + 0 ≤ ms) : Rn E (VC G nL mc ms own) k n 0 0 pc loc (.ref (gA G 0) :: rest) rest S (fC_Main_restore  S) := rn_V (ci := 9) 0 (V := VC G nL mc ms own) (As := []) (Cq := (RX9, TX9, 15)) (cC_Main_restore C.flags C.wok   S) knX9_restore ⟨q_803, q_804⟩ rfl rfl C hd hq hL rfl rfl hW hf

theorem knX9_status : Kn yX9_status cX9_status 2 (some .int) 1 := ⟨q_805, q_40, by decide +kernel, by decide⟩
theorem bC_Main_status {E : Ec} {G : Gc}    (C : JC E (VC G 2 0 0 RX9) cX9_status 1 (some .int))    (x1 : Int32) (S : St) : J E (VC G 2 0 0 RX9) 0 0 0 [(0, .ref (gA G 0)), (1, .int x1)] [] S (fC_Main_status  x1 S) := by
  unfold fC_Main_status
  refine j_iload_n (pc := 0) 1 C dX9_status_0 rfl rfl ?_
  refine j_lswC (pc := 1) (off := 27) 28 0 C dX9_status_1 (by decide) (by decide) (by decide) ?_ (fun h1_0 => ?_)
  ·
    refine j_aload_n (pc := 28) 0 C dX9_status_28 rfl rfl ?_
    refine gC_0_13 (pc := 29) C dX9_status_29 q_498 ?_
    exact j_iret C dX9_status_32 rfl (Nat.le_of_ble_eq_true rfl) (Nat.le_of_ble_eq_true rfl)
  refine j_lswC (pc := 1) (off := 32) 33 1 C dX9_status_1 (by decide) (by decide) (by decide) ?_ (fun h1_1 => ?_)
  ·
    refine j_aload_n (pc := 33) 0 C dX9_status_33 rfl rfl ?_
    refine gC_0_14 (pc := 34) C dX9_status_34 q_50 ?_
    exact j_iret C dX9_status_37 rfl (Nat.le_of_ble_eq_true rfl) (Nat.le_of_ble_eq_true rfl)
  refine j_lswD (pc := 1) 38 C dX9_status_1 (by decide) (by have g0 := ne_i (z := 0) h1_0 (by decide); have g1 := ne_i (z := 1) h1_1 (by decide); simp [Op.lookupswitch.offset, g0, Ne.symm g0, g1, Ne.symm g1]) (by decide) ?_
  refine j_iconst (pc := 38) (-1) C dX9_status_38 (by decide) ?_
  exact j_iret C dX9_status_39 rfl (Nat.le_of_ble_eq_true rfl) (Nat.le_of_ble_eq_true rfl)
theorem cC_Main_status {l : Launch} {G : Gc} (hfl : l.stackTraces = false) (hW : Wok G wC 54)   (x1 : Int32) (S : St) : Ct l yX9_status (Cond.code yX9_status cX9_status 2 (some .int) :: tblG) 1 0 0 G wC 54 [.ref (gA G 0), .int x1] S (fC_Main_status x1 S) := ct_of (own := RX9) hfl (by decide +kernel) rfl hW (Nat.le_of_ble_eq_true rfl) (fun E hE C => by subst hE; exact bC_Main_status C   x1 S)
theorem rC_Main_status {E : Ec} {G : Gc} {nL mc ms : Nat} {own : String} {cc : ByteArray} {L : Nat} {ret : Option FieldType} {k n pc ix : Nat} {loc : List (Nat × Value)} {rest : List Value}  {x1 : Int32} {S : St}  (C : JC E (VC G nL mc ms own) cc L ret) (hd : decode cc pc = .ok (.invokevirtual ix, 3)) (hq : Cond.methodLink own ix yX9_status ∈ tblG) (hL : 1 + 1 ≤ L) (hW : (rest.map fun v => v.category).sum ≤ 8) (hf : k + 0 ≤ mc ∧ n + 0 ≤ ms) : Rn E (VC G nL mc ms own) k n 0 0 pc loc (.int x1 :: .ref (gA G 0) :: rest) rest S (fC_Main_status x1 S) := rn_V (ci := 9) 0 (V := VC G nL mc ms own) (As := [.int x1]) (Cq := (RX9, TX9, 15)) (cC_Main_status C.flags C.wok  x1 S) knX9_status ⟨q_806, q_807⟩ rfl rfl C hd hq hL rfl rfl hW hf

theorem knX9_count : Kn yX9_count cX9_count 2 (some .int) 1 := ⟨q_808, q_40, by decide +kernel, by decide⟩
theorem bC_Main_count {E : Ec} {G : Gc}    (C : JC E (VC G 2 0 0 RX9) cX9_count 1 (some .int))    (x1 : Int32) (S : St) : J E (VC G 2 0 0 RX9) 0 0 0 [(0, .ref (gA G 0)), (1, .int x1)] [] S (fC_Main_count  x1 S) := by
  unfold fC_Main_count
  refine j_iload_n (pc := 0) 1 C dX9_count_0 rfl rfl ?_
  refine j_tswC (pc := 1) (off := 27) 28 0 C dX9_count_1 (by decide) (by decide) (by decide) (by decide) ?_ (fun h1_0 => ?_)
  ·
    refine j_aload_n (pc := 28) 0 C dX9_count_28 rfl rfl ?_
    refine gC_0_9 (pc := 29) C dX9_count_29 q_178 ?_
    refine gC_10_1 (pc := 32) C dX9_count_32 q_794 ?_
    exact j_iret C dX9_count_35 rfl (Nat.le_of_ble_eq_true rfl) (Nat.le_of_ble_eq_true rfl)
  refine j_tswC (pc := 1) (off := 35) 36 1 C dX9_count_1 (by decide) (by decide) (by decide) (by decide) ?_ (fun h1_1 => ?_)
  ·
    refine j_aload_n (pc := 36) 0 C dX9_count_36 rfl rfl ?_
    refine gC_0_0 (pc := 37) C dX9_count_37 q_30 ?_
    refine gC_1_1 (pc := 40) C dX9_count_40 q_31 ?_
    exact j_iret C dX9_count_43 rfl (Nat.le_of_ble_eq_true rfl) (Nat.le_of_ble_eq_true rfl)
  refine j_tswC (pc := 1) (off := 43) 44 2 C dX9_count_1 (by decide) (by decide) (by decide) (by decide) ?_ (fun h1_2 => ?_)
  ·
    refine j_aload_n (pc := 44) 0 C dX9_count_44 rfl rfl ?_
    refine gC_0_9 (pc := 45) C dX9_count_45 q_178 ?_
    refine gC_10_0 (pc := 48) C dX9_count_48 q_248 ?_
    exact j_iret C dX9_count_51 rfl (Nat.le_of_ble_eq_true rfl) (Nat.le_of_ble_eq_true rfl)
  refine j_tswD (pc := 1) 52 C dX9_count_1 (by have := ne_i (z := 0) h1_0 (by decide); have := ne_i (z := 1) h1_1 (by decide); have := ne_i (z := 2) h1_2 (by decide); omega) (by decide) ?_
  refine j_iconst (pc := 52) (-1) C dX9_count_52 (by decide) ?_
  exact j_iret C dX9_count_53 rfl (Nat.le_of_ble_eq_true rfl) (Nat.le_of_ble_eq_true rfl)
theorem cC_Main_count {l : Launch} {G : Gc} (hfl : l.stackTraces = false) (hW : Wok G wC 54)   (x1 : Int32) (S : St) : Ct l yX9_count (Cond.code yX9_count cX9_count 2 (some .int) :: tblG) 1 0 0 G wC 54 [.ref (gA G 0), .int x1] S (fC_Main_count x1 S) := ct_of (own := RX9) hfl (by decide +kernel) rfl hW (Nat.le_of_ble_eq_true rfl) (fun E hE C => by subst hE; exact bC_Main_count C   x1 S)
theorem rC_Main_count {E : Ec} {G : Gc} {nL mc ms : Nat} {own : String} {cc : ByteArray} {L : Nat} {ret : Option FieldType} {k n pc ix : Nat} {loc : List (Nat × Value)} {rest : List Value}  {x1 : Int32} {S : St}  (C : JC E (VC G nL mc ms own) cc L ret) (hd : decode cc pc = .ok (.invokevirtual ix, 3)) (hq : Cond.methodLink own ix yX9_count ∈ tblG) (hL : 1 + 1 ≤ L) (hW : (rest.map fun v => v.category).sum ≤ 8) (hf : k + 0 ≤ mc ∧ n + 0 ≤ ms) : Rn E (VC G nL mc ms own) k n 0 0 pc loc (.int x1 :: .ref (gA G 0) :: rest) rest S (fC_Main_count x1 S) := rn_V (ci := 9) 0 (V := VC G nL mc ms own) (As := [.int x1]) (Cq := (RX9, TX9, 15)) (cC_Main_count C.flags C.wok  x1 S) knX9_count ⟨q_809, q_810⟩ rfl rfl C hd hq hL rfl rfl hW hf

