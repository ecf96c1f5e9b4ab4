theorem bR_readStep_204 {E : Ec} {G : Gc} {rc : St → Oz} {x : Nat}   (C : JC E (VR G 4 0 0 RX10) cX10_readStep (x + 1) none) (hx : 7 ≤ x) (hrc : ∀  (S : St), Ct E.2.1 yX10_readStep (Cond.code yX10_readStep cX10_readStep 4 none :: tblG) x 0 0 G wR 26 [.ref (gA G 0)] S (rc  S))    (S : St) : J E (VR G 4 0 0 RX10) 0 0 204 [(0, .ref (gA G 0))] [] S (fR_readStep_204 rc  S) := by
  unfold fR_readStep_204
  refine j_aload_n (pc := 204) 0 C dX10_readStep_204 rfl rfl ?_
  refine j_bipush (pc := 205) 59 C dX10_readStep_205 (by decide) ?_
  refine j_callv0 (pc := 207) C (rR_sign C dX10_readStep_207 q_922 (by omega) (Nat.le_of_ble_eq_true rfl) ⟨Nat.le_of_ble_eq_true rfl, Nat.le_of_ble_eq_true rfl⟩) ⟨Nat.le_of_ble_eq_true rfl, Nat.le_of_ble_eq_true rfl⟩ (fun T1 => ?_)
  exact j_vret C dX10_readStep_210 rfl (Nat.le_of_ble_eq_true rfl) (Nat.le_of_ble_eq_true rfl)
theorem bR_readStep_201 {E : Ec} {G : Gc} {rc : St → Oz} {x : Nat}   (C : JC E (VR G 4 0 0 RX10) cX10_readStep (x + 1) none) (hx : 7 ≤ x) (hrc : ∀  (S : St), Ct E.2.1 yX10_readStep (Cond.code yX10_readStep cX10_readStep 4 none :: tblG) x 0 0 G wR 26 [.ref (gA G 0)] S (rc  S))   (s0 : Int32) (s1 : Int32) (s2 : Int32) (S : St) : J E (VR G 4 0 0 RX10) 0 0 201 [(0, .ref (gA G 0))] [.int s0, .int s1, .int s2, .ref (gA G 0)] S (fR_readStep_201 rc s0 s1 s2 S) := by
  unfold fR_readStep_201
  refine j_callv0 (pc := 201) C (rR_tellsStep C dX10_readStep_201 q_974 (by omega) (Nat.le_of_ble_eq_true rfl) ⟨Nat.le_of_ble_eq_true rfl, Nat.le_of_ble_eq_true rfl⟩) ⟨Nat.le_of_ble_eq_true rfl, Nat.le_of_ble_eq_true rfl⟩ (fun T1 => ?_)
  exact bR_readStep_204 C hx hrc  T1
theorem bR_readStep_158 {E : Ec} {G : Gc} {rc : St → Oz} {x : Nat}   (C : JC E (VR G 4 0 0 RX10) cX10_readStep (x + 1) none) (hx : 7 ≤ x) (hrc : ∀  (S : St), Ct E.2.1 yX10_readStep (Cond.code yX10_readStep cX10_readStep 4 none :: tblG) x 0 0 G wR 26 [.ref (gA G 0)] S (rc  S))   (x1 : Int32) (s0 : Int32) (S : St) : J E (VR G 4 0 0 RX10) 0 0 158 [(0, .ref (gA G 0)), (1, .int x1)] [.int s0] S (fR_readStep_158 rc x1 s0 S) := by
  unfold fR_readStep_158
  refine j_istore_n (pc := 158) [(2, .int s0), (0, .ref (gA G 0)), (1, .int x1)] C dX10_readStep_158 rfl (Nat.le_of_ble_eq_true rfl) rfl ?_
  refine j_aload_n (pc := 159) 1 C dX10_readStep_159 rfl rfl ?_
  refine j_iload_n (pc := 160) 2 C dX10_readStep_160 rfl rfl ?_
  refine j_iload_n (pc := 161) 0 C dX10_readStep_161 rfl rfl ?_
  refine j_iload_n (pc := 162) 2 C dX10_readStep_162 rfl rfl ?_
  refine j_iconst (pc := 163) 2 C dX10_readStep_163 (by decide) ?_
  refine j_icmp_ge (pc := 164) 181 C dX10_readStep_164 (by decide) ?_ ?_
  ·
    refine j_iload_n (pc := 181) 2 C dX10_readStep_181 rfl rfl ?_
    refine j_iconst (pc := 182) 3 C dX10_readStep_182 (by decide) ?_
    refine j_icmp_ne (pc := 183) 200 C dX10_readStep_183 (by decide) ?_ ?_
    ·
      refine j_iconst (pc := 200) 0 C dX10_readStep_200 (by decide) ?_
      refine j_sub [1] rfl ?_
      exact bR_readStep_201 C hx hrc 0 s0 x1 S
    ·
      refine j_aload_n (pc := 186) 1 C dX10_readStep_186 rfl rfl ?_
      refine j_iconst (pc := 187) 0 C dX10_readStep_187 (by decide) ?_
      refine j_aload_n (pc := 188) 1 C dX10_readStep_188 rfl rfl ?_
      refine gR_0_21 (pc := 189) C dX10_readStep_189 q_881 ?_
      refine j_iconst (pc := 192) 1 C dX10_readStep_192 (by decide) ?_
      refine j_isub (pc := 193) C dX10_readStep_193 ?_
      refine j_callI0 (pc := 194) C (rR_readNumber C dX10_readStep_194 q_914 (by omega) (Nat.le_of_ble_eq_true rfl) ⟨Nat.le_of_ble_eq_true rfl, Nat.le_of_ble_eq_true rfl⟩) ⟨Nat.le_of_ble_eq_true rfl, Nat.le_of_ble_eq_true rfl⟩ (fun r2 T1 => ?_)
      refine j_goto (pc := 197) 201 C dX10_readStep_197 (by decide) ?_
      refine j_sub [1] rfl ?_
      exact bR_readStep_201 C hx hrc r2 s0 x1 T1
  ·
    refine j_aload_n (pc := 167) 1 C dX10_readStep_167 rfl rfl ?_
    refine j_iconst (pc := 168) 0 C dX10_readStep_168 (by decide) ?_
    refine j_aload_n (pc := 169) 1 C dX10_readStep_169 rfl rfl ?_
    refine gR_0_20 (pc := 170) C dX10_readStep_170 q_880 ?_
    refine j_iconst (pc := 173) 1 C dX10_readStep_173 (by decide) ?_
    refine j_isub (pc := 174) C dX10_readStep_174 ?_
    refine j_callI0 (pc := 175) C (rR_readNumber C dX10_readStep_175 q_914 (by omega) (Nat.le_of_ble_eq_true rfl) ⟨Nat.le_of_ble_eq_true rfl, Nat.le_of_ble_eq_true rfl⟩) ⟨Nat.le_of_ble_eq_true rfl, Nat.le_of_ble_eq_true rfl⟩ (fun r4 T3 => ?_)
    refine j_goto (pc := 178) 201 C dX10_readStep_178 (by decide) ?_
    refine j_sub [1] rfl ?_
    exact bR_readStep_201 C hx hrc r4 s0 x1 T3
theorem bR_readStep_153 {E : Ec} {G : Gc} {rc : St → Oz} {x : Nat}   (C : JC E (VR G 4 0 0 RX10) cX10_readStep (x + 1) none) (hx : 7 ≤ x) (hrc : ∀  (S : St), Ct E.2.1 yX10_readStep (Cond.code yX10_readStep cX10_readStep 4 none :: tblG) x 0 0 G wR 26 [.ref (gA G 0)] S (rc  S))   (x1 : Int32) (s0 : Int32) (s1 : Int32) (S : St) : J E (VR G 4 0 0 RX10) 0 0 153 [(0, .ref (gA G 0)), (1, .int x1)] [.int s0, .int s1, .ref (gA G 0)] S (fR_readStep_153 rc x1 s0 s1 S) := by
  unfold fR_readStep_153
  refine j_iconst (pc := 153) 1 C dX10_readStep_153 (by decide) ?_
  refine j_isub (pc := 154) C dX10_readStep_154 ?_
  refine j_callI0 (pc := 155) C (rR_readNumber C dX10_readStep_155 q_914 (by omega) (Nat.le_of_ble_eq_true rfl) ⟨Nat.le_of_ble_eq_true rfl, Nat.le_of_ble_eq_true rfl⟩) ⟨Nat.le_of_ble_eq_true rfl, Nat.le_of_ble_eq_true rfl⟩ (fun r2 T1 => ?_)
  exact bR_readStep_158 C hx hrc x1 r2 T1
theorem bR_readStep_119 {E : Ec} {G : Gc} {rc : St → Oz} {x : Nat}   (C : JC E (VR G 4 0 0 RX10) cX10_readStep (x + 1) none) (hx : 7 ≤ x) (hrc : ∀  (S : St), Ct E.2.1 yX10_readStep (Cond.code yX10_readStep cX10_readStep 4 none :: tblG) x 0 0 G wR 26 [.ref (gA G 0)] S (rc  S))    (S : St) : J E (VR G 4 0 0 RX10) 0 0 119 [(0, .ref (gA G 0))] [] S (fR_readStep_119 rc  S) := by
  unfold fR_readStep_119
  refine j_goto (pc := 119) 204 C dX10_readStep_119 (by decide) ?_
  exact bR_readStep_204 C hx hrc  S
theorem bR_readStep_84 {E : Ec} {G : Gc} {rc : St → Oz} {x : Nat}   (C : JC E (VR G 4 0 0 RX10) cX10_readStep (x + 1) none) (hx : 7 ≤ x) (hrc : ∀  (S : St), Ct E.2.1 yX10_readStep (Cond.code yX10_readStep cX10_readStep 4 none :: tblG) x 0 0 G wR 26 [.ref (gA G 0)] S (rc  S))   (x3 : Int32) (S : St) : J E (VR G 4 0 0 RX10) 0 0 84 [(0, .ref (gA G 0)), (3, .int x3)] [] S (fR_readStep_84 rc x3 S) := by
  unfold fR_readStep_84
  refine j_aload_n (pc := 84) 0 C dX10_readStep_84 rfl rfl ?_
  refine j_bipush (pc := 85) 93 C dX10_readStep_85 (by decide) ?_
  refine j_callv0 (pc := 87) C (rR_sign C dX10_readStep_87 q_922 (by omega) (Nat.le_of_ble_eq_true rfl) ⟨Nat.le_of_ble_eq_true rfl, Nat.le_of_ble_eq_true rfl⟩) ⟨Nat.le_of_ble_eq_true rfl, Nat.le_of_ble_eq_true rfl⟩ (fun T1 => ?_)
  refine j_aload_n (pc := 90) 0 C dX10_readStep_90 rfl rfl ?_
  refine j_dup (pc := 91) C dX10_readStep_91 rfl ?_
  refine gR_0_7 (pc := 92) C dX10_readStep_92 q_827 ?_
  refine j_iconst (pc := 95) 1 C dX10_readStep_95 (by decide) ?_
  refine j_isub (pc := 96) C dX10_readStep_96 ?_
  refine pR_0_7 (pc := 97) C dX10_readStep_97 q_827 ?_
  refine j_nxS (fun T3 => ?_)
  refine j_aload_n (pc := 100) 0 C dX10_readStep_100 rfl rfl ?_
  refine j_callI0 (pc := 101) C (rR_fine C dX10_readStep_101 q_843 (by omega) (Nat.le_of_ble_eq_true rfl) ⟨Nat.le_of_ble_eq_true rfl, Nat.le_of_ble_eq_true rfl⟩) ⟨Nat.le_of_ble_eq_true rfl, Nat.le_of_ble_eq_true rfl⟩ (fun r5 T4 => ?_)
  refine j_if_eq (pc := 104) 119 C dX10_readStep_104 (by decide) ?_ ?_
  ·
    refine j_sub [0] rfl ?_
    exact bR_readStep_119 C hx hrc  T4
  ·
    refine j_aload_n (pc := 107) 0 C dX10_readStep_107 rfl rfl ?_
    refine gR_0_32 (pc := 108) C dX10_readStep_108 q_970 ?_
    refine j_iload_n (pc := 111) 1 C dX10_readStep_111 rfl rfl ?_
    refine j_iconst (pc := 112) 2 C dX10_readStep_112 (by decide) ?_
    refine j_iadd (pc := 113) C dX10_readStep_113 ?_
    refine j_aload_n (pc := 114) 0 C dX10_readStep_114 rfl rfl ?_
    refine gR_0_34 (pc := 115) C dX10_readStep_115 q_966 ?_
    refine sR_15 (pc := 118) C dX10_readStep_118 ?_
    refine j_nxS (fun T6 => ?_)
    refine j_sub [0] rfl ?_
    exact bR_readStep_119 C hx hrc  T6
theorem bR_readStep_61 {E : Ec} {G : Gc} {rc : St → Oz} {x : Nat}   (C : JC E (VR G 4 0 0 RX10) cX10_readStep (x + 1) none) (hx : 7 ≤ x) (hrc : ∀  (S : St), Ct E.2.1 yX10_readStep (Cond.code yX10_readStep cX10_readStep 4 none :: tblG) x 0 0 G wR 26 [.ref (gA G 0)] S (rc  S))   : ∀ (n : Nat) (x3 : Int32) (S : St), J E (VR G 4 0 0 RX10) 0 0 61 [(0, .ref (gA G 0)), (3, .int x3)] [] S (fR_readStep_61 rc n x3 S) := by
  intro n
  induction n with
  | zero => intro x3 S; rw [fR_readStep_61]; exact j_none
  | succ n ih =>
    intro x3 S
    rw [fR_readStep_61]
    refine j_aload_n (pc := 61) 0 C dX10_readStep_61 rfl rfl ?_
    refine j_callI0 (pc := 62) C (rR_fine C dX10_readStep_62 q_843 (by omega) (Nat.le_of_ble_eq_true rfl) ⟨Nat.le_of_ble_eq_true rfl, Nat.le_of_ble_eq_true rfl⟩) ⟨Nat.le_of_ble_eq_true rfl, Nat.le_of_ble_eq_true rfl⟩ (fun r2 T1 => ?_)
    refine j_if_eq (pc := 65) 84 C dX10_readStep_65 (by decide) ?_ ?_
    ·
      exact bR_readStep_84 C hx hrc x3 T1
    ·
      refine j_aload_n (pc := 68) 0 C dX10_readStep_68 rfl rfl ?_
      refine j_callI0 (pc := 69) C (rR_here C dX10_readStep_69 q_847 (by omega) (Nat.le_of_ble_eq_true rfl) ⟨Nat.le_of_ble_eq_true rfl, Nat.le_of_ble_eq_true rfl⟩) ⟨Nat.le_of_ble_eq_true rfl, Nat.le_of_ble_eq_true rfl⟩ (fun r4 T3 => ?_)
      refine j_bipush (pc := 72) 93 C dX10_readStep_72 (by decide) ?_
      refine j_icmp_eq (pc := 74) 84 C dX10_readStep_74 (by decide) ?_ ?_
      ·
        exact bR_readStep_84 C hx hrc x3 T3
      ·
        refine j_aload_n (pc := 77) 0 C dX10_readStep_77 rfl rfl ?_
        refine j_callv0 (pc := 78) C (rgR_readStep hrc C dX10_readStep_78 q_975 (by omega) (Nat.le_of_ble_eq_true rfl) ⟨Nat.le_of_ble_eq_true rfl, Nat.le_of_ble_eq_true rfl⟩) ⟨Nat.le_of_ble_eq_true rfl, Nat.le_of_ble_eq_true rfl⟩ (fun T5 => ?_)
        refine j_goto (pc := 81) 61 C dX10_readStep_81 (by decide) ?_
        exact ih x3 T5
theorem bR_readStep_B {E : Ec} {G : Gc} {rc : St → Oz} {x : Nat}   (C : JC E (VR G 4 0 0 RX10) cX10_readStep (x + 1) none) (hx : 7 ≤ x) (hrc : ∀  (S : St), Ct E.2.1 yX10_readStep (Cond.code yX10_readStep cX10_readStep 4 none :: tblG) x 0 0 G wR 26 [.ref (gA G 0)] S (rc  S))    (S : St) : J E (VR G 4 0 0 RX10) 0 0 0 [(0, .ref (gA G 0))] [] S (fR_readStep_B rc  S) := by
  unfold fR_readStep_B
  refine j_aload_n (pc := 0) 0 C dX10_readStep_0 rfl rfl ?_
  refine j_callI0 (pc := 1) C (rR_word C dX10_readStep_1 q_858 (by omega) (Nat.le_of_ble_eq_true rfl) ⟨Nat.le_of_ble_eq_true rfl, Nat.le_of_ble_eq_true rfl⟩) ⟨Nat.le_of_ble_eq_true rfl, Nat.le_of_ble_eq_true rfl⟩ (fun r2 T1 => ?_)
  refine j_callI0 (pc := 4) C (rR_stepOf C dX10_readStep_4 q_969 (by omega) (Nat.le_of_ble_eq_true rfl) ⟨Nat.le_of_ble_eq_true rfl, Nat.le_of_ble_eq_true rfl⟩) ⟨Nat.le_of_ble_eq_true rfl, Nat.le_of_ble_eq_true rfl⟩ (fun r4 T3 => ?_)
  refine j_istore_n (pc := 7) [(1, .int r4), (0, .ref (gA G 0))] C dX10_readStep_7 rfl (Nat.le_of_ble_eq_true rfl) rfl ?_
  refine j_iload_n (pc := 8) 0 C dX10_readStep_8 rfl rfl ?_
  refine j_iconst (pc := 9) (-1) C dX10_readStep_9 (by decide) ?_
  refine j_icmp_ne (pc := 10) 25 C dX10_readStep_10 (by decide) ?_ ?_
  ·
    refine j_iload_n (pc := 25) 0 C dX10_readStep_25 rfl rfl ?_
    refine j_iconst (pc := 26) 5 C dX10_readStep_26 (by decide) ?_
    refine j_icmp_ne (pc := 27) 122 C dX10_readStep_27 (by decide) ?_ ?_
    ·
      refine j_aload_n (pc := 122) 1 C dX10_readStep_122 rfl rfl ?_
      refine j_callv0 (pc := 123) C (rR_pass C dX10_readStep_123 q_907 (by omega) (Nat.le_of_ble_eq_true rfl) ⟨Nat.le_of_ble_eq_true rfl, Nat.le_of_ble_eq_true rfl⟩) ⟨Nat.le_of_ble_eq_true rfl, Nat.le_of_ble_eq_true rfl⟩ (fun T5 => ?_)
      refine j_iload_n (pc := 126) 0 C dX10_readStep_126 rfl rfl ?_
      refine j_iconst (pc := 127) 4 C dX10_readStep_127 (by decide) ?_
      refine j_icmp_ne (pc := 128) 135 C dX10_readStep_128 (by decide) ?_ ?_
      ·
        refine j_aload_n (pc := 135) 1 C dX10_readStep_135 rfl rfl ?_
        refine j_iconst (pc := 136) 0 C dX10_readStep_136 (by decide) ?_
        refine j_iload_n (pc := 137) 0 C dX10_readStep_137 rfl rfl ?_
        refine j_iconst (pc := 138) 2 C dX10_readStep_138 (by decide) ?_
        refine j_icmp_ge (pc := 139) 149 C dX10_readStep_139 (by decide) ?_ ?_
        ·
          refine j_aload_n (pc := 149) 1 C dX10_readStep_149 rfl rfl ?_
          refine gR_0_22 (pc := 150) C dX10_readStep_150 q_882 ?_
          refine j_sub [1, 0] rfl ?_
          exact bR_readStep_153 C hx hrc r4 (T5.1 14) 0 T5
        ·
          refine j_aload_n (pc := 142) 1 C dX10_readStep_142 rfl rfl ?_
          refine gR_0_21 (pc := 143) C dX10_readStep_143 q_881 ?_
          refine j_goto (pc := 146) 153 C dX10_readStep_146 (by decide) ?_
          refine j_sub [1, 0] rfl ?_
          exact bR_readStep_153 C hx hrc r4 (T5.1 13) 0 T5
      ·
        refine j_iconst (pc := 131) 0 C dX10_readStep_131 (by decide) ?_
        refine j_goto (pc := 132) 158 C dX10_readStep_132 (by decide) ?_
        refine j_sub [1, 0] rfl ?_
        exact bR_readStep_158 C hx hrc r4 0 T5
    ·
      refine j_aload_n (pc := 30) 1 C dX10_readStep_30 rfl rfl ?_
      refine j_iconst (pc := 31) 5 C dX10_readStep_31 (by decide) ?_
      refine j_callv0 (pc := 32) C (rR_opensOne C dX10_readStep_32 q_938 (by omega) (Nat.le_of_ble_eq_true rfl) ⟨Nat.le_of_ble_eq_true rfl, Nat.le_of_ble_eq_true rfl⟩) ⟨Nat.le_of_ble_eq_true rfl, Nat.le_of_ble_eq_true rfl⟩ (fun T7 => ?_)
      refine j_aload_n (pc := 35) 1 C dX10_readStep_35 rfl rfl ?_
      refine j_iconst (pc := 36) 0 C dX10_readStep_36 (by decide) ?_
      refine j_bipush (pc := 37) 40 C dX10_readStep_37 (by decide) ?_
      refine j_callI0 (pc := 39) C (rR_readNumber C dX10_readStep_39 q_914 (by omega) (Nat.le_of_ble_eq_true rfl) ⟨Nat.le_of_ble_eq_true rfl, Nat.le_of_ble_eq_true rfl⟩) ⟨Nat.le_of_ble_eq_true rfl, Nat.le_of_ble_eq_true rfl⟩ (fun r10 T9 => ?_)
      refine j_istore_n (pc := 42) [(2, .int r10), (1, .int r4), (0, .ref (gA G 0))] C dX10_readStep_42 rfl (Nat.le_of_ble_eq_true rfl) rfl ?_
      refine j_aload_n (pc := 43) 2 C dX10_readStep_43 rfl rfl ?_
      refine j_bipush (pc := 44) 91 C dX10_readStep_44 (by decide) ?_
      refine j_callv0 (pc := 46) C (rR_sign C dX10_readStep_46 q_922 (by omega) (Nat.le_of_ble_eq_true rfl) ⟨Nat.le_of_ble_eq_true rfl, Nat.le_of_ble_eq_true rfl⟩) ⟨Nat.le_of_ble_eq_true rfl, Nat.le_of_ble_eq_true rfl⟩ (fun T11 => ?_)
      refine j_aload_n (pc := 49) 2 C dX10_readStep_49 rfl rfl ?_
      refine gR_0_34 (pc := 50) C dX10_readStep_50 q_966 ?_
      refine j_nxI (fun v13 => ?_)
      refine j_istore_n (pc := 53) [(3, .int v13), (2, .int r10), (1, .int r4), (0, .ref (gA G 0))] C dX10_readStep_53 rfl (Nat.le_of_ble_eq_true rfl) rfl ?_
      refine j_aload_n (pc := 54) 3 C dX10_readStep_54 rfl rfl ?_
      refine j_iconst (pc := 55) 5 C dX10_readStep_55 (by decide) ?_
      refine j_iload_n (pc := 56) 1 C dX10_readStep_56 rfl rfl ?_
      refine j_iconst (pc := 57) 0 C dX10_readStep_57 (by decide) ?_
      refine j_callv0 (pc := 58) C (rR_tellsStep C dX10_readStep_58 q_974 (by omega) (Nat.le_of_ble_eq_true rfl) ⟨Nat.le_of_ble_eq_true rfl, Nat.le_of_ble_eq_true rfl⟩) ⟨Nat.le_of_ble_eq_true rfl, Nat.le_of_ble_eq_true rfl⟩ (fun T14 => ?_)
      refine j_sub [3, 0] rfl ?_
      exact bR_readStep_61 C hx hrc FU v13 T14
  ·
    refine j_aload_n (pc := 13) 1 C dX10_readStep_13 rfl rfl ?_
    refine j_iconst (pc := 14) 1 C dX10_readStep_14 (by decide) ?_
    refine j_aload_n (pc := 15) 1 C dX10_readStep_15 rfl rfl ?_
    refine gR_0_4 (pc := 16) C dX10_readStep_16 q_825 ?_
    refine j_callv0 (pc := 19) C (rR_wrong C dX10_readStep_19 q_875 (by omega) (Nat.le_of_ble_eq_true rfl) ⟨Nat.le_of_ble_eq_true rfl, Nat.le_of_ble_eq_true rfl⟩) ⟨Nat.le_of_ble_eq_true rfl, Nat.le_of_ble_eq_true rfl⟩ (fun T16 => ?_)
    refine j_goto (pc := 22) 204 C dX10_readStep_22 (by decide) ?_
    refine j_sub [1] rfl ?_
    exact bR_readStep_204 C hx hrc  T16
theorem cR_readStep_B {l : Launch} {G : Gc} (hfl : l.stackTraces = false) (hW : Wok G wR 26) {rc : St → Oz} {x : Nat} (hx : 7 ≤ x) (hrc : ∀  (S : St), Ct l yX10_readStep (Cond.code yX10_readStep cX10_readStep 4 none :: tblG) x 0 0 G wR 26 [.ref (gA G 0)] S (rc  S))  (S : St) : Ct l yX10_readStep (Cond.code yX10_readStep cX10_readStep 4 none :: tblG) (x + 1) 0 0 G wR 26 [.ref (gA G 0)] S (fR_readStep_B rc  S) := ct_of (own := RX10) hfl (by decide +kernel) rfl hW (Nat.le_of_ble_eq_true rfl) (fun E hE C => by subst hE; exact bR_readStep_B C hx hrc   S)
theorem cR_readStep {l : Launch} {G : Gc} (hfl : l.stackTraces = false) (hW : Wok G wR 26) : ∀ (d : Nat)  (S : St), Ct l yX10_readStep (Cond.code yX10_readStep cX10_readStep 4 none :: tblG) (7 + 1 * d) 0 0 G wR 26 [.ref (gA G 0)] S (fR_readStep d  S) := by
  intro d
  induction d with
  | zero => intro  S r S2 h; rw [fR_readStep] at h; cases h
  | succ d ih =>
    intro  S
    rw [fR_readStep]
    have h := cR_readStep_B hfl hW (x := 7 + 1 * d) (by omega) ih  S
    rw [Nat.add_assoc] at h
    exact h
theorem rR_readStep {E : Ec} {G : Gc} {nL mc ms : Nat} {own : String} {cc : ByteArray} {L : Nat} {ret : Option FieldType} {k n pc ix : Nat} {loc : List (Nat × Value)} {rest : List Value}   {S : St}  (C : JC E (VR G nL mc ms own) cc L ret) (hd : decode cc pc = .ok (.invokevirtual ix, 3)) (hq : Cond.methodLink own ix yX10_readStep ∈ tblG) (hL : 19 + 1 ≤ L) (hW : (rest.map fun v => v.category).sum ≤ 8) (hf : k + 0 ≤ mc ∧ n + 0 ≤ ms) : Rn E (VR G nL mc ms own) k n 0 0 pc loc (.ref (gA G 0) :: rest) rest S (fR_readStep 12  S) := rn_V (ci := 10) 0 (V := VR G nL mc ms own) (As := []) (Cq := (RX10, TX10, 53)) (cR_readStep C.flags C.wok 12  S) knX10_readStep ⟨q_977, q_978⟩ rfl rfl C hd hq hL rfl rfl hW hf

theorem bR_copies_v255_3 {E : Ec} {G : Gc}    (C : JC E (VR G 5 0 0 RX10) cX10_copies 1 none)    : ∀ (n : Nat) (x3 : Int32) (x4 : Int32) (S : St), J E (VR G 5 0 0 RX10) 0 0 3 [(1, .ref (gA G 15)), (2, .ref (gA G 16)), (3, .int x3), (4, .int x4)] [] S (fR_copies_v255_3  n x3 x4 S) := by
  intro n
  induction n with
  | zero => intro x3 x4 S; rw [fR_copies_v255_3]; exact j_none
  | succ n ih =>
    intro x3 x4 S
    rw [fR_copies_v255_3]
    refine j_iload (pc := 3) 3 C dX10_copies_3 rfl ?_
    refine j_iload_n (pc := 5) 2 C dX10_copies_5 rfl rfl ?_
    refine j_icmp_ge (pc := 6) 23 C dX10_copies_6 (by decide) ?_ ?_
    ·
      exact j_vret C dX10_copies_23 rfl (Nat.le_of_ble_eq_true rfl) (Nat.le_of_ble_eq_true rfl)
    ·
      refine j_aload_n (pc := 9) 1 C dX10_copies_9 rfl rfl ?_
      refine j_iload (pc := 10) 3 C dX10_copies_10 rfl ?_
      refine j_aload_n (pc := 12) 0 C dX10_copies_12 rfl rfl ?_
      refine j_iload (pc := 13) 3 C dX10_copies_13 rfl ?_
      refine aR_15 (pc := 15) C dX10_copies_15 ?_
      refine sR_16 (pc := 16) C dX10_copies_16 ?_
      refine j_nxS (fun T1 => ?_)
      refine j_iinc (pc := 17) 3 (x4 + 1) [(4, .int (x4 + 1)), (1, .ref (gA G 15)), (2, .ref (gA G 16)), (3, .int x3)] C dX10_copies_17 rfl rfl (Nat.le_of_ble_eq_true rfl) rfl ?_
      refine j_goto (pc := 20) 3 C dX10_copies_20 (by decide) ?_
      refine j_sub [1, 2, 3, 0] rfl ?_
      exact ih x3 (x4 + 1) T1
theorem bR_copies_v255 {E : Ec} {G : Gc}    (C : JC E (VR G 5 0 0 RX10) cX10_copies 1 none)    (x3 : Int32) (S : St) : J E (VR G 5 0 0 RX10) 0 0 0 [(0, .ref (gA G 0)), (1, .ref (gA G 15)), (2, .ref (gA G 16)), (3, .int x3)] [] S (fR_copies_v255  x3 S) := by
  unfold fR_copies_v255
  refine j_iconst (pc := 0) 0 C dX10_copies_0 (by decide) ?_
  refine j_istore (pc := 1) [(4, .int 0), (0, .ref (gA G 0)), (1, .ref (gA G 15)), (2, .ref (gA G 16)), (3, .int x3)] C dX10_copies_1 (Nat.le_of_ble_eq_true rfl) rfl ?_
  refine j_sub [2, 3, 4, 0] rfl ?_
  exact bR_copies_v255_3 C  FU x3 0 S
theorem cR_copies_v255 {l : Launch} {G : Gc} (hfl : l.stackTraces = false) (hW : Wok G wR 26)   (x3 : Int32) (S : St) : Ct l yX10_copies (Cond.code yX10_copies cX10_copies 5 none :: tblG) 1 0 0 G wR 26 [.ref (gA G 0), .ref (gA G 15), .ref (gA G 16), .int x3] S (fR_copies_v255 x3 S) := ct_of (own := RX10) hfl (by decide +kernel) rfl hW (Nat.le_of_ble_eq_true rfl) (fun E hE C => by subst hE; exact bR_copies_v255 C   x3 S)
theorem rR_copies_v255 {E : Ec} {G : Gc} {nL mc ms : Nat} {own : String} {cc : ByteArray} {L : Nat} {ret : Option FieldType} {k n pc ix : Nat} {loc : List (Nat × Value)} {rest : List Value}  {x3 : Int32} {S : St}  (C : JC E (VR G nL mc ms own) cc L ret) (hd : decode cc pc = .ok (.invokevirtual ix, 3)) (hq : Cond.methodLink own ix yX10_copies ∈ tblG) (hL : 1 + 1 ≤ L) (hW : (rest.map fun v => v.category).sum ≤ 8) (hf : k + 0 ≤ mc ∧ n + 0 ≤ ms) : Rn E (VR G nL mc ms own) k n 0 0 pc loc (.int x3 :: .ref (gA G 16) :: .ref (gA G 15) :: .ref (gA G 0) :: rest) rest S (fR_copies_v255 x3 S) := rn_V (ci := 10) 0 (V := VR G nL mc ms own) (As := [.ref (gA G 15), .ref (gA G 16), .int x3]) (Cq := (RX10, TX10, 53)) (cR_copies_v255 C.flags C.wok  x3 S) knX10_copies ⟨q_887, q_888⟩ rfl rfl C hd hq hL rfl rfl hW hf

theorem bR_copies_v257_3 {E : Ec} {G : Gc}    (C : JC E (VR G 5 0 0 RX10) cX10_copies 1 none)    : ∀ (n : Nat) (x3 : Int32) (x4 : Int32) (S : St), J E (VR G 5 0 0 RX10) 0 0 3 [(1, .ref (gA G 17)), (2, .ref (gA G 18)), (3, .int x3), (4, .int x4)] [] S (fR_copies_v257_3  n x3 x4 S) := by
  intro n
  induction n with
  | zero => intro x3 x4 S; rw [fR_copies_v257_3]; exact j_none
  | succ n ih =>
    intro x3 x4 S
    rw [fR_copies_v257_3]
    refine j_iload (pc := 3) 3 C dX10_copies_3 rfl ?_
    refine j_iload_n (pc := 5) 2 C dX10_copies_5 rfl rfl ?_
    refine j_icmp_ge (pc := 6) 23 C dX10_copies_6 (by decide) ?_ ?_
    ·
      exact j_vret C dX10_copies_23 rfl (Nat.le_of_ble_eq_true rfl) (Nat.le_of_ble_eq_true rfl)
    ·
      refine j_aload_n (pc := 9) 1 C dX10_copies_9 rfl rfl ?_
      refine j_iload (pc := 10) 3 C dX10_copies_10 rfl ?_
      refine j_aload_n (pc := 12) 0 C dX10_copies_12 rfl rfl ?_
      refine j_iload (pc := 13) 3 C dX10_copies_13 rfl ?_
      refine aR_17 (pc := 15) C dX10_copies_15 ?_
      refine sR_18 (pc := 16) C dX10_copies_16 ?_
      refine j_nxS (fun T1 => ?_)
      refine j_iinc (pc := 17) 3 (x4 + 1) [(4, .int (x4 + 1)), (1, .ref (gA G 17)), (2, .ref (gA G 18)), (3, .int x3)] C dX10_copies_17 rfl rfl (Nat.le_of_ble_eq_true rfl) rfl ?_
      refine j_goto (pc := 20) 3 C dX10_copies_20 (by decide) ?_
      refine j_sub [1, 2, 3, 0] rfl ?_
      exact ih x3 (x4 + 1) T1
theorem bR_copies_v257 {E : Ec} {G : Gc}    (C : JC E (VR G 5 0 0 RX10) cX10_copies 1 none)    (x3 : Int32) (S : St) : J E (VR G 5 0 0 RX10) 0 0 0 [(0, .ref (gA G 0)), (1, .ref (gA G 17)), (2, .ref (gA G 18)), (3, .int x3)] [] S (fR_copies_v257  x3 S) := by
  unfold fR_copies_v257
  refine j_iconst (pc := 0) 0 C dX10_copies_0 (by decide) ?_
  refine j_istore (pc := 1) [(4, .int 0), (0, .ref (gA G 0)), (1, .ref (gA G 17)), (2, .ref (gA G 18)), (3, .int x3)] C dX10_copies_1 (Nat.le_of_ble_eq_true rfl) rfl ?_
  refine j_sub [2, 3, 4, 0] rfl ?_
  exact bR_copies_v257_3 C  FU x3 0 S
theorem cR_copies_v257 {l : Launch} {G : Gc} (hfl : l.stackTraces = false) (hW : Wok G wR 26)   (x3 : Int32) (S : St) : Ct l yX10_copies (Cond.code yX10_copies cX10_copies 5 none :: tblG) 1 0 0 G wR 26 [.ref (gA G 0), .ref (gA G 17), .ref (gA G 18), .int x3] S (fR_copies_v257 x3 S) := ct_of (own := RX10) hfl (by decide +kernel) rfl hW (Nat.le_of_ble_eq_true rfl) (fun E hE C => by subst hE; exact bR_copies_v257 C   x3 S)
theorem rR_copies_v257 {E : Ec} {G : Gc} {nL mc ms : Nat} {own : String} {cc : ByteArray} {L : Nat} {ret : Option FieldType} {k n pc ix : Nat} {loc : List (Nat × Value)} {rest : List Value}  {x3 : Int32} {S : St}  (C : JC E (VR G nL mc ms own) cc L ret) (hd : decode cc pc = .ok (.invokevirtual ix, 3)) (hq : Cond.methodLink own ix yX10_copies ∈ tblG) (hL : 1 + 1 ≤ L) (hW : (rest.map fun v => v.category).sum ≤ 8) (hf : k + 0 ≤ mc ∧ n + 0 ≤ ms) : Rn E (VR G nL mc ms own) k n 0 0 pc loc (.int x3 :: .ref (gA G 18) :: .ref (gA G 17) :: .ref (gA G 0) :: rest) rest S (fR_copies_v257 x3 S) := rn_V (ci := 10) 0 (V := VR G nL mc ms own) (As := [.ref (gA G 17), .ref (gA G 18), .int x3]) (Cq := (RX10, TX10, 53)) (cR_copies_v257 C.flags C.wok  x3 S) knX10_copies ⟨q_887, q_888⟩ rfl rfl C hd hq hL rfl rfl hW hf

theorem knX10_take : Kn yX10_take cX10_take 1 none 0 := ⟨q_981, q_815, by decide +kernel, by decide⟩
theorem bR_take {E : Ec} {G : Gc}    (C : JC E (VR G 1 0 0 RX10) cX10_take 2 none)     (S : St) : J E (VR G 1 0 0 RX10) 0 0 0 [(0, .ref (gA G 0))] [] S (fR_take   S) := by
  unfold fR_take
  refine j_aload_n (pc := 0) 0 C dX10_take_0 rfl rfl ?_
  refine j_aload_n (pc := 1) 0 C dX10_take_1 rfl rfl ?_
  refine gR_0_40 (pc := 2) C dX10_take_2 q_899 ?_
  refine j_aload_n (pc := 5) 0 C dX10_take_5 rfl rfl ?_
  refine gR_0_41 (pc := 6) C dX10_take_6 q_980 ?_
  refine j_bipush (pc := 9) 95 C dX10_take_9 (by decide) ?_
  refine j_callv0 (pc := 11) C (rR_copies_v257 C dX10_take_11 q_889 (by omega) (Nat.le_of_ble_eq_true rfl) ⟨Nat.le_of_ble_eq_true rfl, Nat.le_of_ble_eq_true rfl⟩) ⟨Nat.le_of_ble_eq_true rfl, Nat.le_of_ble_eq_true rfl⟩ (fun T1 => ?_)
  exact j_vret C dX10_take_14 rfl (Nat.le_of_ble_eq_true rfl) (Nat.le_of_ble_eq_true rfl)
theorem cR_take {l : Launch} {G : Gc} (hfl : l.stackTraces = false) (hW : Wok G wR 26)    (S : St) : Ct l yX10_take (Cond.code yX10_take cX10_take 1 none :: tblG) 2 0 0 G wR 26 [.ref (gA G 0)] S (fR_take  S) := ct_of (own := RX10) hfl (by decide +kernel) rfl hW (Nat.le_of_ble_eq_true rfl) (fun E hE C => by subst hE; exact bR_take C    S)
theorem rR_take {E : Ec} {G : Gc} {nL mc ms : Nat} {own : String} {cc : ByteArray} {L : Nat} {ret : Option FieldType} {k n pc ix : Nat} {loc : List (Nat × Value)} {rest : List Value}   {S : St}  (C : JC E (VR G nL mc ms own) cc L ret) (hd : decode cc pc = .ok (.invokevirtual ix, 3)) (hq : Cond.methodLink own ix yX10_take ∈ tblG) (hL : 2 + 1 ≤ L) (hW : (rest.map fun v => v.category).sum ≤ 8) (hf : k + 0 ≤ mc ∧ n + 0 ≤ ms) : Rn E (VR G nL mc ms own) k n 0 0 pc loc (.ref (gA G 0) :: rest) rest S (fR_take  S) := rn_V (ci := 10) 0 (V := VR G nL mc ms own) (As := []) (Cq := (RX10, TX10, 53)) (cR_take C.flags C.wok   S) knX10_take ⟨q_982, q_983⟩ rfl rfl C hd hq hL rfl rfl hW hf

theorem knX10_knownOf : Kn yX10_knownOf cX10_knownOf 3 (some .int) 2 := ⟨q_988, q_815, by decide +kernel, by decide⟩
theorem bR_knownOf {E : Ec} {G : Gc}    (C : JC E (VR G 3 0 0 RX10) cX10_knownOf 1 (some .int))    (x1 : Int32) (x2 : Int32) (S : St) : J E (VR G 3 0 0 RX10) 0 0 0 [(0, .ref (gA G 0)), (1, .int x1), (2, .int x2)] [] S (fR_knownOf  x1 x2 S) := by
  unfold fR_knownOf
  refine j_aload_n (pc := 0) 0 C dX10_knownOf_0 rfl rfl ?_
  refine gR_0_41 (pc := 1) C dX10_knownOf_1 q_980 ?_
  refine j_iconst (pc := 4) 0 C dX10_knownOf_4 (by decide) ?_
  refine j_bipush (pc := 5) 8 C dX10_knownOf_5 (by decide) ?_
  refine j_iload_n (pc := 7) 1 C dX10_knownOf_7 rfl rfl ?_
  refine j_imul (pc := 8) C dX10_knownOf_8 ?_
  refine j_iadd (pc := 9) C dX10_knownOf_9 ?_
  refine j_iload_n (pc := 10) 2 C dX10_knownOf_10 rfl rfl ?_
  refine j_iadd (pc := 11) C dX10_knownOf_11 ?_
  refine aR_18 (pc := 12) C dX10_knownOf_12 ?_
  exact j_iret C dX10_knownOf_13 rfl (Nat.le_of_ble_eq_true rfl) (Nat.le_of_ble_eq_true rfl)
theorem cR_knownOf {l : Launch} {G : Gc} (hfl : l.stackTraces = false) (hW : Wok G wR 26)   (x1 : Int32) (x2 : Int32) (S : St) : Ct l yX10_knownOf (Cond.code yX10_knownOf cX10_knownOf 3 (some .int) :: tblG) 1 0 0 G wR 26 [.ref (gA G 0), .int x1, .int x2] S (fR_knownOf x1 x2 S) := ct_of (own := RX10) hfl (by decide +kernel) rfl hW (Nat.le_of_ble_eq_true rfl) (fun E hE C => by subst hE; exact bR_knownOf C   x1 x2 S)
theorem rR_knownOf {E : Ec} {G : Gc} {nL mc ms : Nat} {own : String} {cc : ByteArray} {L : Nat} {ret : Option FieldType} {k n pc ix : Nat} {loc : List (Nat × Value)} {rest : List Value}  {x1 : Int32} {x2 : Int32} {S : St}  (C : JC E (VR G nL mc ms own) cc L ret) (hd : decode cc pc = .ok (.invokevirtual ix, 3)) (hq : Cond.methodLink own ix yX10_knownOf ∈ tblG) (hL : 1 + 1 ≤ L) (hW : (rest.map fun v => v.category).sum ≤ 8) (hf : k + 0 ≤ mc ∧ n + 0 ≤ ms) : Rn E (VR G nL mc ms own) k n 0 0 pc loc (.int x2 :: .int x1 :: .ref (gA G 0) :: rest) rest S (fR_knownOf x1 x2 S) := rn_V (ci := 10) 0 (V := VR G nL mc ms own) (As := [.int x1, .int x2]) (Cq := (RX10, TX10, 53)) (cR_knownOf C.flags C.wok  x1 x2 S) knX10_knownOf ⟨q_989, q_990⟩ rfl rfl C hd hq hL rfl rfl hW hf

theorem knX10_knowsThen : Kn yX10_knowsThen cX10_knowsThen 4 none 3 := ⟨q_992, q_815, by decide +kernel, by decide⟩
theorem bR_knowsThen_21 {E : Ec} {G : Gc}    (C : JC E (VR G 4 0 0 RX10) cX10_knowsThen 1 none)    (s0 : Int32) (s1 : Int32) (S : St) : J E (VR G 4 0 0 RX10) 0 0 21 [] [.int s0, .int s1, .ref (gA G 18)] S (fR_knowsThen_21  s0 s1 S) := by
  unfold fR_knowsThen_21
  refine sR_18 (pc := 21) C dX10_knowsThen_21 ?_
  refine j_nxS (fun T1 => ?_)
  exact j_vret C dX10_knowsThen_22 rfl (Nat.le_of_ble_eq_true rfl) (Nat.le_of_ble_eq_true rfl)
theorem bR_knowsThen {E : Ec} {G : Gc}    (C : JC E (VR G 4 0 0 RX10) cX10_knowsThen 1 none)    (x1 : Int32) (x2 : Int32) (x3 : Int32) (S : St) : J E (VR G 4 0 0 RX10) 0 0 0 [(0, .ref (gA G 0)), (1, .int x1), (2, .int x2), (3, .int x3)] [] S (fR_knowsThen  x1 x2 x3 S) := by
  unfold fR_knowsThen
  refine j_aload_n (pc := 0) 0 C dX10_knowsThen_0 rfl rfl ?_
  refine gR_0_41 (pc := 1) C dX10_knowsThen_1 q_980 ?_
  refine j_iconst (pc := 4) 0 C dX10_knowsThen_4 (by decide) ?_
  refine j_bipush (pc := 5) 8 C dX10_knowsThen_5 (by decide) ?_
  refine j_iload_n (pc := 7) 1 C dX10_knowsThen_7 rfl rfl ?_
  refine j_imul (pc := 8) C dX10_knowsThen_8 ?_
  refine j_iadd (pc := 9) C dX10_knowsThen_9 ?_
  refine j_iload_n (pc := 10) 2 C dX10_knowsThen_10 rfl rfl ?_
  refine j_iadd (pc := 11) C dX10_knowsThen_11 ?_
  refine j_iload_n (pc := 12) 3 C dX10_knowsThen_12 rfl rfl ?_
  refine j_if_ge (pc := 13) 20 C dX10_knowsThen_13 (by decide) ?_ ?_
  ·
    refine j_iload_n (pc := 20) 3 C dX10_knowsThen_20 rfl rfl ?_
    refine j_sub [] rfl ?_
    exact bR_knowsThen_21 C  x3 ((0 + (8 * x1)) + x2) S
  ·
    refine j_iconst (pc := 16) 0 C dX10_knowsThen_16 (by decide) ?_
    refine j_goto (pc := 17) 21 C dX10_knowsThen_17 (by decide) ?_
    refine j_sub [] rfl ?_
    exact bR_knowsThen_21 C  0 ((0 + (8 * x1)) + x2) S
theorem cR_knowsThen {l : Launch} {G : Gc} (hfl : l.stackTraces = false) (hW : Wok G wR 26)   (x1 : Int32) (x2 : Int32) (x3 : Int32) (S : St) : Ct l yX10_knowsThen (Cond.code yX10_knowsThen cX10_knowsThen 4 none :: tblG) 1 0 0 G wR 26 [.ref (gA G 0), .int x1, .int x2, .int x3] S (fR_knowsThen x1 x2 x3 S) := ct_of (own := RX10) hfl (by decide +kernel) rfl hW (Nat.le_of_ble_eq_true rfl) (fun E hE C => by subst hE; exact bR_knowsThen C   x1 x2 x3 S)
theorem rR_knowsThen {E : Ec} {G : Gc} {nL mc ms : Nat} {own : String} {cc : ByteArray} {L : Nat} {ret : Option FieldType} {k n pc ix : Nat} {loc : List (Nat × Value)} {rest : List Value}  {x1 : Int32} {x2 : Int32} {x3 : Int32} {S : St}  (C : JC E (VR G nL mc ms own) cc L ret) (hd : decode cc pc = .ok (.invokevirtual ix, 3)) (hq : Cond.methodLink own ix yX10_knowsThen ∈ tblG) (hL : 1 + 1 ≤ L) (hW : (rest.map fun v => v.category).sum ≤ 8) (hf : k + 0 ≤ mc ∧ n + 0 ≤ ms) : Rn E (VR G nL mc ms own) k n 0 0 pc loc (.int x3 :: .int x2 :: .int x1 :: .ref (gA G 0) :: rest) rest S (fR_knowsThen x1 x2 x3 S) := rn_V (ci := 10) 0 (V := VR G nL mc ms own) (As := [.int x1, .int x2, .int x3]) (Cq := (RX10, TX10, 53)) (cR_knowsThen C.flags C.wok  x1 x2 x3 S) knX10_knowsThen ⟨q_993, q_994⟩ rfl rfl C hd hq hL rfl rfl hW hf

theorem knX10_passes : Kn yX10_passes cX10_passes 3 none 0 := ⟨q_996, q_815, by decide +kernel, by decide⟩
theorem bR_passes_179 {E : Ec} {G : Gc}   {K116 : Int32 → St → Oz} (C : JC E (VR G 3 0 0 RX10) cX10_passes 2 none)   (hK116 : ∀ (x1 : Int32) (S : St), J E (VR G 3 0 0 RX10) 0 0 116 [(0, .ref (gA G 0)), (1, .int x1)] [] S (K116 x1 S)) : ∀ (n : Nat) (x1 : Int32) (x2 : Int32) (S : St), J E (VR G 3 0 0 RX10) 0 0 179 [(0, .ref (gA G 0)), (1, .int x1), (2, .int x2)] [] S (fR_passes_179 K116 n x1 x2 S) := by
  intro n
  induction n with
  | zero => intro x1 x2 S; rw [fR_passes_179]; exact j_none
  | succ n ih =>
    intro x1 x2 S
    rw [fR_passes_179]
    refine j_iload_n (pc := 179) 2 C dX10_passes_179 rfl rfl ?_
    refine j_aload_n (pc := 180) 0 C dX10_passes_180 rfl rfl ?_
    refine gR_0_20 (pc := 181) C dX10_passes_181 q_880 ?_
    refine j_icmp_ge (pc := 184) 200 C dX10_passes_184 (by decide) ?_ ?_
    ·
      refine j_iinc (pc := 200) 1 (x1 + 1) [(1, .int (x1 + 1)), (0, .ref (gA G 0)), (2, .int x2)] C dX10_passes_200 rfl rfl (Nat.le_of_ble_eq_true rfl) rfl ?_
      refine j_goto (pc := 203) 116 C dX10_passes_203 (by decide) ?_
      refine j_sub [1, 0] rfl ?_
      exact hK116 (x1 + 1) S
    ·
      refine j_aload_n (pc := 187) 0 C dX10_passes_187 rfl rfl ?_
      refine j_iload_n (pc := 188) 1 C dX10_passes_188 rfl rfl ?_
      refine j_iload_n (pc := 189) 2 C dX10_passes_189 rfl rfl ?_
      refine j_iconst (pc := 190) 0 C dX10_passes_190 (by decide) ?_
      refine j_callv0 (pc := 191) C (rR_knowsThen C dX10_passes_191 q_995 (by omega) (Nat.le_of_ble_eq_true rfl) ⟨Nat.le_of_ble_eq_true rfl, Nat.le_of_ble_eq_true rfl⟩) ⟨Nat.le_of_ble_eq_true rfl, Nat.le_of_ble_eq_true rfl⟩ (fun T1 => ?_)
      refine j_iinc (pc := 194) 2 (x2 + 1) [(2, .int (x2 + 1)), (0, .ref (gA G 0)), (1, .int x1)] C dX10_passes_194 rfl rfl (Nat.le_of_ble_eq_true rfl) rfl ?_
      refine j_goto (pc := 197) 179 C dX10_passes_197 (by decide) ?_
      refine j_sub [1, 2, 0] rfl ?_
      exact ih x1 (x2 + 1) T1
theorem bR_passes_116 {E : Ec} {G : Gc}    (C : JC E (VR G 3 0 0 RX10) cX10_passes 2 none)    : ∀ (n : Nat) (x1 : Int32) (S : St), J E (VR G 3 0 0 RX10) 0 0 116 [(0, .ref (gA G 0)), (1, .int x1)] [] S (fR_passes_116  n x1 S) := by
  intro n
  induction n with
  | zero => intro x1 S; rw [fR_passes_116]; exact j_none
  | succ n ih =>
    intro x1 S
    rw [fR_passes_116]
    refine j_iload_n (pc := 116) 1 C dX10_passes_116 rfl rfl ?_
    refine j_aload_n (pc := 117) 0 C dX10_passes_117 rfl rfl ?_
    refine gR_0_21 (pc := 118) C dX10_passes_118 q_881 ?_
    refine j_icmp_ge (pc := 121) 206 C dX10_passes_121 (by decide) ?_ ?_
    ·
      exact j_vret C dX10_passes_206 rfl (Nat.le_of_ble_eq_true rfl) (Nat.le_of_ble_eq_true rfl)
    ·
      refine j_aload_n (pc := 124) 0 C dX10_passes_124 rfl rfl ?_
      refine gR_0_41 (pc := 125) C dX10_passes_125 q_980 ?_
      refine j_bipush (pc := 128) 94 C dX10_passes_128 (by decide) ?_
      refine acR_18 (pc := 130) C dX10_passes_130 rfl ?_
      refine j_bipush (pc := 131) 10 C dX10_passes_131 (by decide) ?_
      refine j_iremc (pc := 133) C dX10_passes_133 rfl ?_
      refine j_if_ne (pc := 134) 206 C dX10_passes_134 (by decide) ?_ ?_
      ·
        exact j_vret C dX10_passes_206 rfl (Nat.le_of_ble_eq_true rfl) (Nat.le_of_ble_eq_true rfl)
      ·
        refine j_aload_n (pc := 137) 0 C dX10_passes_137 rfl rfl ?_
        refine gR_0_41 (pc := 138) C dX10_passes_138 q_980 ?_
        refine j_bipush (pc := 141) 48 C dX10_passes_141 (by decide) ?_
        refine j_iload_n (pc := 143) 1 C dX10_passes_143 rfl rfl ?_
        refine j_iadd (pc := 144) C dX10_passes_144 ?_
        refine j_dup2 (pc := 145) C dX10_passes_145 rfl rfl ?_
        refine aR_18 (pc := 146) C dX10_passes_146 ?_
        refine j_iconst (pc := 147) 1 C dX10_passes_147 (by decide) ?_
        refine j_iadd (pc := 148) C dX10_passes_148 ?_
        refine sR_18 (pc := 149) C dX10_passes_149 ?_
        refine j_nxS (fun T1 => ?_)
        refine j_aload_n (pc := 150) 0 C dX10_passes_150 rfl rfl ?_
        refine gR_0_41 (pc := 151) C dX10_passes_151 q_980 ?_
        refine j_bipush (pc := 154) 48 C dX10_passes_154 (by decide) ?_
        refine j_iload_n (pc := 156) 1 C dX10_passes_156 rfl rfl ?_
        refine j_iadd (pc := 157) C dX10_passes_157 ?_
        refine aR_18 (pc := 158) C dX10_passes_158 ?_
        refine j_bipush (pc := 159) 60 C dX10_passes_159 (by decide) ?_
        refine j_icmp_eq (pc := 161) 167 C dX10_passes_161 (by decide) ?_ ?_
        ·
          refine j_aload_n (pc := 167) 0 C dX10_passes_167 rfl rfl ?_
          refine gR_0_41 (pc := 168) C dX10_passes_168 q_980 ?_
          refine j_bipush (pc := 171) 54 C dX10_passes_171 (by decide) ?_
          refine j_iload_n (pc := 173) 1 C dX10_passes_173 rfl rfl ?_
          refine j_iadd (pc := 174) C dX10_passes_174 ?_
          refine j_iconst (pc := 175) 1 C dX10_passes_175 (by decide) ?_
          refine sR_18 (pc := 176) C dX10_passes_176 ?_
          refine j_nxS (fun T2 => ?_)
          refine j_iconst (pc := 177) 0 C dX10_passes_177 (by decide) ?_
          refine j_istore_n (pc := 178) [(2, .int 0), (0, .ref (gA G 0)), (1, .int x1)] C dX10_passes_178 rfl (Nat.le_of_ble_eq_true rfl) rfl ?_
          refine j_sub [1, 2, 0] rfl ?_
          exact bR_passes_179 C ih FU x1 0 T2
        ·
          refine j_goto (pc := 164) 200 C dX10_passes_164 (by decide) ?_
          refine j_iinc (pc := 200) 1 (x1 + 1) [(1, .int (x1 + 1)), (0, .ref (gA G 0))] C dX10_passes_200 rfl rfl (Nat.le_of_ble_eq_true rfl) rfl ?_
          refine j_goto (pc := 203) 116 C dX10_passes_203 (by decide) ?_
          refine j_sub [1, 0] rfl ?_
          exact ih (x1 + 1) T1
theorem bR_passes_12 {E : Ec} {G : Gc}   {K2 : Int32 → St → Oz} (C : JC E (VR G 3 0 0 RX10) cX10_passes 2 none)   (hK2 : ∀ (x1 : Int32) (S : St), J E (VR G 3 0 0 RX10) 0 0 2 [(0, .ref (gA G 0)), (1, .int x1)] [] S (K2 x1 S)) : ∀ (n : Nat) (x1 : Int32) (x2 : Int32) (S : St), J E (VR G 3 0 0 RX10) 0 0 12 [(0, .ref (gA G 0)), (1, .int x1), (2, .int x2)] [] S (fR_passes_12 K2 n x1 x2 S) := by
  intro n
  induction n with
  | zero => intro x1 x2 S; rw [fR_passes_12]; exact j_none
  | succ n ih =>
    intro x1 x2 S
    rw [fR_passes_12]
    refine j_iload_n (pc := 12) 2 C dX10_passes_12 rfl rfl ?_
    refine j_aload_n (pc := 13) 0 C dX10_passes_13 rfl rfl ?_
    refine gR_0_20 (pc := 14) C dX10_passes_14 q_880 ?_
    refine j_icmp_ge (pc := 17) 77 C dX10_passes_17 (by decide) ?_ ?_
    ·
      refine j_aload_n (pc := 77) 0 C dX10_passes_77 rfl rfl ?_
      refine gR_0_41 (pc := 78) C dX10_passes_78 q_980 ?_
      refine j_bipush (pc := 81) 78 C dX10_passes_81 (by decide) ?_
      refine j_iload_n (pc := 83) 1 C dX10_passes_83 rfl rfl ?_
      refine j_iadd (pc := 84) C dX10_passes_84 ?_
      refine j_iconst (pc := 85) 0 C dX10_passes_85 (by decide) ?_
      refine sR_18 (pc := 86) C dX10_passes_86 ?_
      refine j_nxS (fun T1 => ?_)
      refine j_aload_n (pc := 87) 0 C dX10_passes_87 rfl rfl ?_
      refine gR_0_41 (pc := 88) C dX10_passes_88 q_980 ?_
      refine j_bipush (pc := 91) 66 C dX10_passes_91 (by decide) ?_
      refine j_iload_n (pc := 93) 1 C dX10_passes_93 rfl rfl ?_
      refine j_iadd (pc := 94) C dX10_passes_94 ?_
      refine j_iconst (pc := 95) 0 C dX10_passes_95 (by decide) ?_
      refine sR_18 (pc := 96) C dX10_passes_96 ?_
      refine j_nxS (fun T2 => ?_)
      refine j_iinc (pc := 97) 1 (x1 + 1) [(1, .int (x1 + 1)), (0, .ref (gA G 0)), (2, .int x2)] C dX10_passes_97 rfl rfl (Nat.le_of_ble_eq_true rfl) rfl ?_
      refine j_goto (pc := 100) 2 C dX10_passes_100 (by decide) ?_
      refine j_sub [1, 0] rfl ?_
      exact hK2 (x1 + 1) T2
    ·
      refine j_aload_n (pc := 20) 0 C dX10_passes_20 rfl rfl ?_
      refine gR_0_41 (pc := 21) C dX10_passes_21 q_980 ?_
      refine j_bipush (pc := 24) 78 C dX10_passes_24 (by decide) ?_
      refine j_iload_n (pc := 26) 1 C dX10_passes_26 rfl rfl ?_
      refine j_iadd (pc := 27) C dX10_passes_27 ?_
      refine aR_18 (pc := 28) C dX10_passes_28 ?_
      refine j_iload_n (pc := 29) 2 C dX10_passes_29 rfl rfl ?_
      refine j_ishr (pc := 30) C dX10_passes_30 ?_
      refine j_iconst (pc := 31) 1 C dX10_passes_31 (by decide) ?_
      refine j_iand (pc := 32) C dX10_passes_32 ?_
      refine j_if_ne (pc := 33) 71 C dX10_passes_33 (by decide) ?_ ?_
      ·
        refine j_iinc (pc := 71) 2 (x2 + 1) [(2, .int (x2 + 1)), (0, .ref (gA G 0)), (1, .int x1)] C dX10_passes_71 rfl rfl (Nat.le_of_ble_eq_true rfl) rfl ?_
        refine j_goto (pc := 74) 12 C dX10_passes_74 (by decide) ?_
        refine j_sub [1, 2, 0] rfl ?_
        exact ih x1 (x2 + 1) S
      ·
        refine j_aload_n (pc := 36) 0 C dX10_passes_36 rfl rfl ?_
        refine gR_0_23 (pc := 37) C dX10_passes_37 q_883 ?_
        refine j_if_le (pc := 40) 71 C dX10_passes_40 (by decide) ?_ ?_
        ·
          refine j_iinc (pc := 71) 2 (x2 + 1) [(2, .int (x2 + 1)), (0, .ref (gA G 0)), (1, .int x1)] C dX10_passes_71 rfl rfl (Nat.le_of_ble_eq_true rfl) rfl ?_
          refine j_goto (pc := 74) 12 C dX10_passes_74 (by decide) ?_
          refine j_sub [1, 2, 0] rfl ?_
          exact ih x1 (x2 + 1) S
        ·
          refine j_aload_n (pc := 43) 0 C dX10_passes_43 rfl rfl ?_
          refine j_iload_n (pc := 44) 1 C dX10_passes_44 rfl rfl ?_
          refine j_iload_n (pc := 45) 2 C dX10_passes_45 rfl rfl ?_
          refine j_aload_n (pc := 46) 0 C dX10_passes_46 rfl rfl ?_
          refine j_iload_n (pc := 47) 1 C dX10_passes_47 rfl rfl ?_
          refine j_iload_n (pc := 48) 2 C dX10_passes_48 rfl rfl ?_
          refine j_callI0 (pc := 49) C (rR_knownOf C dX10_passes_49 q_991 (by omega) (Nat.le_of_ble_eq_true rfl) ⟨Nat.le_of_ble_eq_true rfl, Nat.le_of_ble_eq_true rfl⟩) ⟨Nat.le_of_ble_eq_true rfl, Nat.le_of_ble_eq_true rfl⟩ (fun r4 T3 => ?_)
          refine j_aload_n (pc := 52) 0 C dX10_passes_52 rfl rfl ?_
          refine gR_0_13 (pc := 53) C dX10_passes_53 q_885 ?_
          refine j_iconst (pc := 56) 2 C dX10_passes_56 (by decide) ?_
          refine j_iload_n (pc := 57) 2 C dX10_passes_57 rfl rfl ?_
          refine j_imul (pc := 58) C dX10_passes_58 ?_
          refine j_iconst (pc := 59) 1 C dX10_passes_59 (by decide) ?_
          refine j_iadd (pc := 60) C dX10_passes_60 ?_
          refine aR_6 (pc := 61) C dX10_passes_61 ?_
          refine j_aload_n (pc := 62) 0 C dX10_passes_62 rfl rfl ?_
          refine gR_0_23 (pc := 63) C dX10_passes_63 q_883 ?_
          refine j_idiv (pc := 66) C dX10_passes_66 ?_
          refine j_isub (pc := 67) C dX10_passes_67 ?_
          refine j_callv0 (pc := 68) C (rR_knowsThen C dX10_passes_68 q_995 (by omega) (Nat.le_of_ble_eq_true rfl) ⟨Nat.le_of_ble_eq_true rfl, Nat.le_of_ble_eq_true rfl⟩) ⟨Nat.le_of_ble_eq_true rfl, Nat.le_of_ble_eq_true rfl⟩ (fun T5 => ?_)
          refine j_iinc (pc := 71) 2 (x2 + 1) [(2, .int (x2 + 1)), (0, .ref (gA G 0)), (1, .int x1)] C dX10_passes_71 rfl rfl (Nat.le_of_ble_eq_true rfl) rfl ?_
          refine j_goto (pc := 74) 12 C dX10_passes_74 (by decide) ?_
          refine j_sub [1, 2, 0] rfl ?_
          exact ih x1 (x2 + 1) T5
theorem bR_passes_2 {E : Ec} {G : Gc}    (C : JC E (VR G 3 0 0 RX10) cX10_passes 2 none)    : ∀ (n : Nat) (x1 : Int32) (S : St), J E (VR G 3 0 0 RX10) 0 0 2 [(0, .ref (gA G 0)), (1, .int x1)] [] S (fR_passes_2  n x1 S) := by
  intro n
  induction n with
  | zero => intro x1 S; rw [fR_passes_2]; exact j_none
  | succ n ih =>
    intro x1 S
    rw [fR_passes_2]
    refine j_iload_n (pc := 2) 1 C dX10_passes_2 rfl rfl ?_
    refine j_aload_n (pc := 3) 0 C dX10_passes_3 rfl rfl ?_
    refine gR_0_21 (pc := 4) C dX10_passes_4 q_881 ?_
    refine j_icmp_ge (pc := 7) 103 C dX10_passes_7 (by decide) ?_ ?_
    ·
      refine j_aload_n (pc := 103) 0 C dX10_passes_103 rfl rfl ?_
      refine gR_0_41 (pc := 104) C dX10_passes_104 q_980 ?_
      refine j_bipush (pc := 107) 94 C dX10_passes_107 (by decide) ?_
      refine j_dup2 (pc := 109) C dX10_passes_109 rfl rfl ?_
      refine acR_18 (pc := 110) C dX10_passes_110 rfl ?_
      refine j_iconst (pc := 111) 1 C dX10_passes_111 (by decide) ?_
      refine j_iadd (pc := 112) C dX10_passes_112 ?_
      refine scR_18 (pc := 113) C dX10_passes_113 rfl ?_
      refine j_nxS (fun T1 => ?_)
      refine j_iconst (pc := 114) 0 C dX10_passes_114 (by decide) ?_
      refine j_istore_n (pc := 115) [(1, .int 0), (0, .ref (gA G 0))] C dX10_passes_115 rfl (Nat.le_of_ble_eq_true rfl) rfl ?_
      refine j_sub [1, 0] rfl ?_
      exact bR_passes_116 C  FU 0 T1
    ·
      refine j_iconst (pc := 10) 0 C dX10_passes_10 (by decide) ?_
      refine j_istore_n (pc := 11) [(2, .int 0), (0, .ref (gA G 0)), (1, .int x1)] C dX10_passes_11 rfl (Nat.le_of_ble_eq_true rfl) rfl ?_
      refine j_sub [1, 2, 0] rfl ?_
      exact bR_passes_12 C ih FU x1 0 S
theorem bR_passes {E : Ec} {G : Gc}    (C : JC E (VR G 3 0 0 RX10) cX10_passes 2 none)     (S : St) : J E (VR G 3 0 0 RX10) 0 0 0 [(0, .ref (gA G 0))] [] S (fR_passes   S) := by
  unfold fR_passes
  refine j_iconst (pc := 0) 0 C dX10_passes_0 (by decide) ?_
  refine j_istore_n (pc := 1) [(1, .int 0), (0, .ref (gA G 0))] C dX10_passes_1 rfl (Nat.le_of_ble_eq_true rfl) rfl ?_
  refine j_sub [1, 0] rfl ?_
  exact bR_passes_2 C  FU 0 S
theorem cR_passes {l : Launch} {G : Gc} (hfl : l.stackTraces = false) (hW : Wok G wR 26)    (S : St) : Ct l yX10_passes (Cond.code yX10_passes cX10_passes 3 none :: tblG) 2 0 0 G wR 26 [.ref (gA G 0)] S (fR_passes  S) := ct_of (own := RX10) hfl (by decide +kernel) rfl hW (Nat.le_of_ble_eq_true rfl) (fun E hE C => by subst hE; exact bR_passes C    S)
theorem rR_passes {E : Ec} {G : Gc} {nL mc ms : Nat} {own : String} {cc : ByteArray} {L : Nat} {ret : Option FieldType} {k n pc ix : Nat} {loc : List (Nat × Value)} {rest : List Value}   {S : St}  (C : JC E (VR G nL mc ms own) cc L ret) (hd : decode cc pc = .ok (.invokevirtual ix, 3)) (hq : Cond.methodLink own ix yX10_passes ∈ tblG) (hL : 2 + 1 ≤ L) (hW : (rest.map fun v => v.category).sum ≤ 8) (hf : k + 0 ≤ mc ∧ n + 0 ≤ ms) : Rn E (VR G nL mc ms own) k n 0 0 pc loc (.ref (gA G 0) :: rest) rest S (fR_passes  S) := rn_V (ci := 10) 0 (V := VR G nL mc ms own) (As := []) (Cq := (RX10, TX10, 53)) (cR_passes C.flags C.wok   S) knX10_passes ⟨q_997, q_998⟩ rfl rfl C hd hq hL rfl rfl hW hf

theorem knX10_isByTwo : Kn yX10_isByTwo cX10_isByTwo 3 (some .boolean) 2 := ⟨q_1000, q_815, by decide +kernel, by decide⟩
theorem bR_isByTwo {E : Ec} {G : Gc}    (C : JC E (VR G 3 0 0 RX10) cX10_isByTwo 2 (some .boolean))    (x1 : Int32) (x2 : Int32) (S : St) : J E (VR G 3 0 0 RX10) 0 0 0 [(0, .ref (gA G 0)), (1, .int x1), (2, .int x2)] [] S (fR_isByTwo  x1 x2 S) := by
  unfold fR_isByTwo
  refine j_aload_n (pc := 0) 0 C dX10_isByTwo_0 rfl rfl ?_
  refine j_aload_n (pc := 1) 0 C dX10_isByTwo_1 rfl rfl ?_
  refine gR_0_15 (pc := 2) C dX10_isByTwo_2 q_893 ?_
  refine j_iconst (pc := 5) 4 C dX10_isByTwo_5 (by decide) ?_
  refine j_iload_n (pc := 6) 1 C dX10_isByTwo_6 rfl rfl ?_
  refine j_imul (pc := 7) C dX10_isByTwo_7 ?_
  refine aR_8 (pc := 8) C dX10_isByTwo_8 ?_
  refine j_aload_n (pc := 9) 0 C dX10_isByTwo_9 rfl rfl ?_
  refine gR_0_15 (pc := 10) C dX10_isByTwo_10 q_893 ?_
  refine j_iconst (pc := 13) 4 C dX10_isByTwo_13 (by decide) ?_
  refine j_iload_n (pc := 14) 1 C dX10_isByTwo_14 rfl rfl ?_
  refine j_imul (pc := 15) C dX10_isByTwo_15 ?_
  refine j_iconst (pc := 16) 1 C dX10_isByTwo_16 (by decide) ?_
  refine j_iadd (pc := 17) C dX10_isByTwo_17 ?_
  refine aR_8 (pc := 18) C dX10_isByTwo_18 ?_
  refine j_callI0 (pc := 19) C (rR_knownOf C dX10_isByTwo_19 q_991 (by omega) (Nat.le_of_ble_eq_true rfl) ⟨Nat.le_of_ble_eq_true rfl, Nat.le_of_ble_eq_true rfl⟩) ⟨Nat.le_of_ble_eq_true rfl, Nat.le_of_ble_eq_true rfl⟩ (fun r2 T1 => ?_)
  refine j_aload_n (pc := 22) 0 C dX10_isByTwo_22 rfl rfl ?_
  refine j_iload_n (pc := 23) 2 C dX10_isByTwo_23 rfl rfl ?_
  refine j_aload_n (pc := 24) 0 C dX10_isByTwo_24 rfl rfl ?_
  refine gR_0_15 (pc := 25) C dX10_isByTwo_25 q_893 ?_
  refine j_iconst (pc := 28) 4 C dX10_isByTwo_28 (by decide) ?_
  refine j_iload_n (pc := 29) 1 C dX10_isByTwo_29 rfl rfl ?_
  refine j_imul (pc := 30) C dX10_isByTwo_30 ?_
  refine j_iconst (pc := 31) 1 C dX10_isByTwo_31 (by decide) ?_
  refine j_iadd (pc := 32) C dX10_isByTwo_32 ?_
  refine aR_8 (pc := 33) C dX10_isByTwo_33 ?_
  refine j_callI0 (pc := 34) C (rR_knownOf C dX10_isByTwo_34 q_991 (by omega) (Nat.le_of_ble_eq_true rfl) ⟨Nat.le_of_ble_eq_true rfl, Nat.le_of_ble_eq_true rfl⟩) ⟨Nat.le_of_ble_eq_true rfl, Nat.le_of_ble_eq_true rfl⟩ (fun r4 T3 => ?_)
  refine j_iadd (pc := 37) C dX10_isByTwo_37 ?_
  refine j_aload_n (pc := 38) 0 C dX10_isByTwo_38 rfl rfl ?_
  refine gR_0_13 (pc := 39) C dX10_isByTwo_39 q_885 ?_
  refine j_iconst (pc := 42) 2 C dX10_isByTwo_42 (by decide) ?_
  refine j_aload_n (pc := 43) 0 C dX10_isByTwo_43 rfl rfl ?_
  refine gR_0_15 (pc := 44) C dX10_isByTwo_44 q_893 ?_
  refine j_iconst (pc := 47) 4 C dX10_isByTwo_47 (by decide) ?_
  refine j_iload_n (pc := 48) 1 C dX10_isByTwo_48 rfl rfl ?_
  refine j_imul (pc := 49) C dX10_isByTwo_49 ?_
  refine j_iconst (pc := 50) 1 C dX10_isByTwo_50 (by decide) ?_
  refine j_iadd (pc := 51) C dX10_isByTwo_51 ?_
  refine aR_8 (pc := 52) C dX10_isByTwo_52 ?_
  refine j_imul (pc := 53) C dX10_isByTwo_53 ?_
  refine aR_6 (pc := 54) C dX10_isByTwo_54 ?_
  refine j_icmp_lt (pc := 55) 62 C dX10_isByTwo_55 (by decide) ?_ ?_
  ·
    refine j_iconst (pc := 62) 0 C dX10_isByTwo_62 (by decide) ?_
    exact j_zretc C dX10_isByTwo_63 rfl (Nat.le_of_ble_eq_true rfl) (Nat.le_of_ble_eq_true rfl) rfl
  ·
    refine j_iconst (pc := 58) 1 C dX10_isByTwo_58 (by decide) ?_
    refine j_goto (pc := 59) 63 C dX10_isByTwo_59 (by decide) ?_
    exact j_zretc C dX10_isByTwo_63 rfl (Nat.le_of_ble_eq_true rfl) (Nat.le_of_ble_eq_true rfl) rfl
theorem cR_isByTwo {l : Launch} {G : Gc} (hfl : l.stackTraces = false) (hW : Wok G wR 26)   (x1 : Int32) (x2 : Int32) (S : St) : Ct l yX10_isByTwo (Cond.code yX10_isByTwo cX10_isByTwo 3 (some .boolean) :: tblG) 2 0 0 G wR 26 [.ref (gA G 0), .int x1, .int x2] S (fR_isByTwo x1 x2 S) := ct_of (own := RX10) hfl (by decide +kernel) rfl hW (Nat.le_of_ble_eq_true rfl) (fun E hE C => by subst hE; exact bR_isByTwo C   x1 x2 S)
theorem rR_isByTwo {E : Ec} {G : Gc} {nL mc ms : Nat} {own : String} {cc : ByteArray} {L : Nat} {ret : Option FieldType} {k n pc ix : Nat} {loc : List (Nat × Value)} {rest : List Value}  {x1 : Int32} {x2 : Int32} {S : St}  (C : JC E (VR G nL mc ms own) cc L ret) (hd : decode cc pc = .ok (.invokevirtual ix, 3)) (hq : Cond.methodLink own ix yX10_isByTwo ∈ tblG) (hL : 2 + 1 ≤ L) (hW : (rest.map fun v => v.category).sum ≤ 8) (hf : k + 0 ≤ mc ∧ n + 0 ≤ ms) : Rn E (VR G nL mc ms own) k n 0 0 pc loc (.int x2 :: .int x1 :: .ref (gA G 0) :: rest) rest S (fR_isByTwo x1 x2 S) := rn_V (ci := 10) 0 (V := VR G nL mc ms own) (As := [.int x1, .int x2]) (Cq := (RX10, TX10, 53)) (cR_isByTwo C.flags C.wok  x1 x2 S) knX10_isByTwo ⟨q_1001, q_1002⟩ rfl rfl C hd hq hL rfl rfl hW hf

theorem knX10_slips : Kn yX10_slips cX10_slips 3 none 2 := ⟨q_1004, q_815, by decide +kernel, by decide⟩
theorem bR_slips {E : Ec} {G : Gc}    (C : JC E (VR G 3 0 0 RX10) cX10_slips 2 none)    (x1 : Int32) (x2 : Int32) (S : St) : J E (VR G 3 0 0 RX10) 0 0 0 [(0, .ref (gA G 0)), (1, .int x1), (2, .int x2)] [] S (fR_slips  x1 x2 S) := by
  unfold fR_slips
  refine j_aload_n (pc := 0) 0 C dX10_slips_0 rfl rfl ?_
  refine j_iload_n (pc := 1) 1 C dX10_slips_1 rfl rfl ?_
  refine j_iload_n (pc := 2) 2 C dX10_slips_2 rfl rfl ?_
  refine j_aload_n (pc := 3) 0 C dX10_slips_3 rfl rfl ?_
  refine j_iload_n (pc := 4) 1 C dX10_slips_4 rfl rfl ?_
  refine j_iload_n (pc := 5) 2 C dX10_slips_5 rfl rfl ?_
  refine j_callI0 (pc := 6) C (rR_knownOf C dX10_slips_6 q_991 (by omega) (Nat.le_of_ble_eq_true rfl) ⟨Nat.le_of_ble_eq_true rfl, Nat.le_of_ble_eq_true rfl⟩) ⟨Nat.le_of_ble_eq_true rfl, Nat.le_of_ble_eq_true rfl⟩ (fun r2 T1 => ?_)
  refine j_iconst (pc := 9) 4 C dX10_slips_9 (by decide) ?_
  refine j_isub (pc := 10) C dX10_slips_10 ?_
  refine j_callv0 (pc := 11) C (rR_knowsThen C dX10_slips_11 q_995 (by omega) (Nat.le_of_ble_eq_true rfl) ⟨Nat.le_of_ble_eq_true rfl, Nat.le_of_ble_eq_true rfl⟩) ⟨Nat.le_of_ble_eq_true rfl, Nat.le_of_ble_eq_true rfl⟩ (fun T3 => ?_)
  refine j_aload_n (pc := 14) 0 C dX10_slips_14 rfl rfl ?_
  refine gR_0_41 (pc := 15) C dX10_slips_15 q_980 ?_
  refine j_bipush (pc := 18) 72 C dX10_slips_18 (by decide) ?_
  refine j_iload_n (pc := 20) 1 C dX10_slips_20 rfl rfl ?_
  refine j_iadd (pc := 21) C dX10_slips_21 ?_
  refine j_dup2 (pc := 22) C dX10_slips_22 rfl rfl ?_
  refine aR_18 (pc := 23) C dX10_slips_23 ?_
  refine j_iconst (pc := 24) 1 C dX10_slips_24 (by decide) ?_
  refine j_iadd (pc := 25) C dX10_slips_25 ?_
  refine sR_18 (pc := 26) C dX10_slips_26 ?_
  refine j_nxS (fun T5 => ?_)
  exact j_vret C dX10_slips_27 rfl (Nat.le_of_ble_eq_true rfl) (Nat.le_of_ble_eq_true rfl)
theorem cR_slips {l : Launch} {G : Gc} (hfl : l.stackTraces = false) (hW : Wok G wR 26)   (x1 : Int32) (x2 : Int32) (S : St) : Ct l yX10_slips (Cond.code yX10_slips cX10_slips 3 none :: tblG) 2 0 0 G wR 26 [.ref (gA G 0), .int x1, .int x2] S (fR_slips x1 x2 S) := ct_of (own := RX10) hfl (by decide +kernel) rfl hW (Nat.le_of_ble_eq_true rfl) (fun E hE C => by subst hE; exact bR_slips C   x1 x2 S)
theorem rR_slips {E : Ec} {G : Gc} {nL mc ms : Nat} {own : String} {cc : ByteArray} {L : Nat} {ret : Option FieldType} {k n pc ix : Nat} {loc : List (Nat × Value)} {rest : List Value}  {x1 : Int32} {x2 : Int32} {S : St}  (C : JC E (VR G nL mc ms own) cc L ret) (hd : decode cc pc = .ok (.invokevirtual ix, 3)) (hq : Cond.methodLink own ix yX10_slips ∈ tblG) (hL : 2 + 1 ≤ L) (hW : (rest.map fun v => v.category).sum ≤ 8) (hf : k + 0 ≤ mc ∧ n + 0 ≤ ms) : Rn E (VR G nL mc ms own) k n 0 0 pc loc (.int x2 :: .int x1 :: .ref (gA G 0) :: rest) rest S (fR_slips x1 x2 S) := rn_V (ci := 10) 0 (V := VR G nL mc ms own) (As := [.int x1, .int x2]) (Cq := (RX10, TX10, 53)) (cR_slips C.flags C.wok  x1 x2 S) knX10_slips ⟨q_1005, q_1006⟩ rfl rfl C hd hq hL rfl rfl hW hf

theorem knX10_isSung : Kn yX10_isSung cX10_isSung 3 (some .boolean) 2 := ⟨q_1008, q_815, by decide +kernel, by decide⟩
theorem bR_isSung {E : Ec} {G : Gc}    (C : JC E (VR G 3 0 0 RX10) cX10_isSung 3 (some .boolean))    (x1 : Int32) (x2 : Int32) (S : St) : J E (VR G 3 0 0 RX10) 0 0 0 [(0, .ref (gA G 0)), (1, .int x1), (2, .int x2)] [] S (fR_isSung  x1 x2 S) := by
  unfold fR_isSung
  refine j_aload_n (pc := 0) 0 C dX10_isSung_0 rfl rfl ?_
  refine gR_0_41 (pc := 1) C dX10_isSung_1 q_980 ?_
  refine j_bipush (pc := 4) 84 C dX10_isSung_4 (by decide) ?_
  refine j_iload_n (pc := 6) 1 C dX10_isSung_6 rfl rfl ?_
  refine j_iadd (pc := 7) C dX10_isSung_7 ?_
  refine aR_18 (pc := 8) C dX10_isSung_8 ?_
  refine j_iconst (pc := 9) 1 C dX10_isSung_9 (by decide) ?_
  refine j_icmp_eq (pc := 10) 25 C dX10_isSung_10 (by decide) ?_ ?_
  ·
    refine j_iconst (pc := 25) 0 C dX10_isSung_25 (by decide) ?_
    exact j_zretc C dX10_isSung_26 rfl (Nat.le_of_ble_eq_true rfl) (Nat.le_of_ble_eq_true rfl) rfl
  ·
    refine j_aload_n (pc := 13) 0 C dX10_isSung_13 rfl rfl ?_
    refine gR_0_15 (pc := 14) C dX10_isSung_14 q_893 ?_
    refine j_iconst (pc := 17) 4 C dX10_isSung_17 (by decide) ?_
    refine j_iload_n (pc := 18) 1 C dX10_isSung_18 rfl rfl ?_
    refine j_imul (pc := 19) C dX10_isSung_19 ?_
    refine aR_8 (pc := 20) C dX10_isSung_20 ?_
    refine j_iload_n (pc := 21) 2 C dX10_isSung_21 rfl rfl ?_
    refine j_icmp_ne (pc := 22) 27 C dX10_isSung_22 (by decide) ?_ ?_
    ·
      refine j_aload_n (pc := 27) 0 C dX10_isSung_27 rfl rfl ?_
      refine j_iload_n (pc := 28) 1 C dX10_isSung_28 rfl rfl ?_
      refine j_iload_n (pc := 29) 2 C dX10_isSung_29 rfl rfl ?_
      refine j_callI0 (pc := 30) C (rR_isByTwo C dX10_isSung_30 q_1003 (by omega) (Nat.le_of_ble_eq_true rfl) ⟨Nat.le_of_ble_eq_true rfl, Nat.le_of_ble_eq_true rfl⟩) ⟨Nat.le_of_ble_eq_true rfl, Nat.le_of_ble_eq_true rfl⟩ (fun r2 T1 => ?_)
      refine j_if_eq (pc := 33) 49 C dX10_isSung_33 (by decide) ?_ ?_
      ·
        refine j_aload_n (pc := 49) 0 C dX10_isSung_49 rfl rfl ?_
        refine j_aload_n (pc := 50) 0 C dX10_isSung_50 rfl rfl ?_
        refine gR_0_15 (pc := 51) C dX10_isSung_51 q_893 ?_
        refine j_iconst (pc := 54) 4 C dX10_isSung_54 (by decide) ?_
        refine j_iload_n (pc := 55) 1 C dX10_isSung_55 rfl rfl ?_
        refine j_imul (pc := 56) C dX10_isSung_56 ?_
        refine aR_8 (pc := 57) C dX10_isSung_57 ?_
        refine j_aload_n (pc := 58) 0 C dX10_isSung_58 rfl rfl ?_
        refine gR_0_15 (pc := 59) C dX10_isSung_59 q_893 ?_
        refine j_iconst (pc := 62) 4 C dX10_isSung_62 (by decide) ?_
        refine j_iload_n (pc := 63) 1 C dX10_isSung_63 rfl rfl ?_
        refine j_imul (pc := 64) C dX10_isSung_64 ?_
        refine j_iconst (pc := 65) 1 C dX10_isSung_65 (by decide) ?_
        refine j_iadd (pc := 66) C dX10_isSung_66 ?_
        refine aR_8 (pc := 67) C dX10_isSung_67 ?_
        refine j_callv0 (pc := 68) C (rR_slips C dX10_isSung_68 q_1007 (by omega) (Nat.le_of_ble_eq_true rfl) ⟨Nat.le_of_ble_eq_true rfl, Nat.le_of_ble_eq_true rfl⟩) ⟨Nat.le_of_ble_eq_true rfl, Nat.le_of_ble_eq_true rfl⟩ (fun T3 => ?_)
        refine j_aload_n (pc := 71) 0 C dX10_isSung_71 rfl rfl ?_
        refine j_iload_n (pc := 72) 2 C dX10_isSung_72 rfl rfl ?_
        refine j_aload_n (pc := 73) 0 C dX10_isSung_73 rfl rfl ?_
        refine gR_0_15 (pc := 74) C dX10_isSung_74 q_893 ?_
        refine j_iconst (pc := 77) 4 C dX10_isSung_77 (by decide) ?_
        refine j_iload_n (pc := 78) 1 C dX10_isSung_78 rfl rfl ?_
        refine j_imul (pc := 79) C dX10_isSung_79 ?_
        refine j_iconst (pc := 80) 1 C dX10_isSung_80 (by decide) ?_
        refine j_iadd (pc := 81) C dX10_isSung_81 ?_
        refine aR_8 (pc := 82) C dX10_isSung_82 ?_
        refine j_callv0 (pc := 83) C (rR_slips C dX10_isSung_83 q_1007 (by omega) (Nat.le_of_ble_eq_true rfl) ⟨Nat.le_of_ble_eq_true rfl, Nat.le_of_ble_eq_true rfl⟩) ⟨Nat.le_of_ble_eq_true rfl, Nat.le_of_ble_eq_true rfl⟩ (fun T5 => ?_)
        refine j_iconst (pc := 86) 1 C dX10_isSung_86 (by decide) ?_
        exact j_zretc C dX10_isSung_87 rfl (Nat.le_of_ble_eq_true rfl) (Nat.le_of_ble_eq_true rfl) rfl
      ·
        refine j_aload_n (pc := 36) 0 C dX10_isSung_36 rfl rfl ?_
        refine gR_0_41 (pc := 37) C dX10_isSung_37 q_980 ?_
        refine j_bipush (pc := 40) 84 C dX10_isSung_40 (by decide) ?_
        refine j_iload_n (pc := 42) 1 C dX10_isSung_42 rfl rfl ?_
        refine j_iadd (pc := 43) C dX10_isSung_43 ?_
        refine j_iconst (pc := 44) 1 C dX10_isSung_44 (by decide) ?_
        refine sR_18 (pc := 45) C dX10_isSung_45 ?_
        refine j_nxS (fun T7 => ?_)
        refine j_goto (pc := 46) 86 C dX10_isSung_46 (by decide) ?_
        refine j_iconst (pc := 86) 1 C dX10_isSung_86 (by decide) ?_
        exact j_zretc C dX10_isSung_87 rfl (Nat.le_of_ble_eq_true rfl) (Nat.le_of_ble_eq_true rfl) rfl
    ·
      refine j_iconst (pc := 25) 0 C dX10_isSung_25 (by decide) ?_
      exact j_zretc C dX10_isSung_26 rfl (Nat.le_of_ble_eq_true rfl) (Nat.le_of_ble_eq_true rfl) rfl
theorem cR_isSung {l : Launch} {G : Gc} (hfl : l.stackTraces = false) (hW : Wok G wR 26)   (x1 : Int32) (x2 : Int32) (S : St) : Ct l yX10_isSung (Cond.code yX10_isSung cX10_isSung 3 (some .boolean) :: tblG) 3 0 0 G wR 26 [.ref (gA G 0), .int x1, .int x2] S (fR_isSung x1 x2 S) := ct_of (own := RX10) hfl (by decide +kernel) rfl hW (Nat.le_of_ble_eq_true rfl) (fun E hE C => by subst hE; exact bR_isSung C   x1 x2 S)
theorem rR_isSung {E : Ec} {G : Gc} {nL mc ms : Nat} {own : String} {cc : ByteArray} {L : Nat} {ret : Option FieldType} {k n pc ix : Nat} {loc : List (Nat × Value)} {rest : List Value}  {x1 : Int32} {x2 : Int32} {S : St}  (C : JC E (VR G nL mc ms own) cc L ret) (hd : decode cc pc = .ok (.invokevirtual ix, 3)) (hq : Cond.methodLink own ix yX10_isSung ∈ tblG) (hL : 3 + 1 ≤ L) (hW : (rest.map fun v => v.category).sum ≤ 8) (hf : k + 0 ≤ mc ∧ n + 0 ≤ ms) : Rn E (VR G nL mc ms own) k n 0 0 pc loc (.int x2 :: .int x1 :: .ref (gA G 0) :: rest) rest S (fR_isSung x1 x2 S) := rn_V (ci := 10) 0 (V := VR G nL mc ms own) (As := [.int x1, .int x2]) (Cq := (RX10, TX10, 53)) (cR_isSung C.flags C.wok  x1 x2 S) knX10_isSung ⟨q_1009, q_1010⟩ rfl rfl C hd hq hL rfl rfl hW hf

theorem knX10_isWell : Kn yX10_isWell cX10_isWell 7 (some .boolean) 1 := ⟨q_1012, q_815, by decide +kernel, by decide⟩
theorem bR_isWell_68 {E : Ec} {G : Gc}    (C : JC E (VR G 7 0 0 RX10) cX10_isWell 2 (some .boolean))    (x2 : Int32) (x3 : Int32) (x4 : Int32) (x5 : Int32) (s0 : Int32) (S : St) : J E (VR G 7 0 0 RX10) 0 0 68 [(0, .ref (gA G 0)), (2, .int x2), (3, .int x3), (4, .int x4), (5, .int x5)] [.int s0] S (fR_isWell_68  x2 x3 x4 x5 s0 S) := by
  unfold fR_isWell_68
  refine j_istore (pc := 68) [(6, .int s0), (0, .ref (gA G 0)), (2, .int x2), (3, .int x3), (4, .int x4), (5, .int x5)] C dX10_isWell_68 (Nat.le_of_ble_eq_true rfl) rfl ?_
  refine j_iload (pc := 70) 4 C dX10_isWell_70 rfl ?_
  refine j_if_ne (pc := 72) 78 C dX10_isWell_72 (by decide) ?_ ?_
  ·
    refine j_iload (pc := 78) 4 C dX10_isWell_78 rfl ?_
    refine j_iconst (pc := 80) 2 C dX10_isWell_80 (by decide) ?_
    refine j_icmp_ne (pc := 81) 107 C dX10_isWell_81 (by decide) ?_ ?_
    ·
      refine j_iload (pc := 107) 0 C dX10_isWell_107 rfl ?_
      refine j_if_ne (pc := 109) 123 C dX10_isWell_109 (by decide) ?_ ?_
      ·
        refine j_iconst (pc := 123) 1 C dX10_isWell_123 (by decide) ?_
        refine j_goto (pc := 124) 128 C dX10_isWell_124 (by decide) ?_
        exact j_zretc C dX10_isWell_128 rfl (Nat.le_of_ble_eq_true rfl) (Nat.le_of_ble_eq_true rfl) rfl
      ·
        refine j_aload_n (pc := 112) 1 C dX10_isWell_112 rfl rfl ?_
        refine j_iload_n (pc := 113) 2 C dX10_isWell_113 rfl rfl ?_
        refine j_iload_n (pc := 114) 3 C dX10_isWell_114 rfl rfl ?_
        refine j_callI0 (pc := 115) C (rR_knownOf C dX10_isWell_115 q_991 (by omega) (Nat.le_of_ble_eq_true rfl) ⟨Nat.le_of_ble_eq_true rfl, Nat.le_of_ble_eq_true rfl⟩) ⟨Nat.le_of_ble_eq_true rfl, Nat.le_of_ble_eq_true rfl⟩ (fun r2 T1 => ?_)
        refine j_iload (pc := 118) 5 C dX10_isWell_118 rfl ?_
        refine j_icmp_lt (pc := 120) 127 C dX10_isWell_120 (by decide) ?_ ?_
        ·
          refine j_iconst (pc := 127) 0 C dX10_isWell_127 (by decide) ?_
          exact j_zretc C dX10_isWell_128 rfl (Nat.le_of_ble_eq_true rfl) (Nat.le_of_ble_eq_true rfl) rfl
        ·
          refine j_iconst (pc := 123) 1 C dX10_isWell_123 (by decide) ?_
          refine j_goto (pc := 124) 128 C dX10_isWell_124 (by decide) ?_
          exact j_zretc C dX10_isWell_128 rfl (Nat.le_of_ble_eq_true rfl) (Nat.le_of_ble_eq_true rfl) rfl
    ·
      refine j_iload (pc := 84) 0 C dX10_isWell_84 rfl ?_
      refine j_if_eq (pc := 86) 105 C dX10_isWell_86 (by decide) ?_ ?_
      ·
        refine j_iconst (pc := 105) 0 C dX10_isWell_105 (by decide) ?_
        exact j_zretc C dX10_isWell_106 rfl (Nat.le_of_ble_eq_true rfl) (Nat.le_of_ble_eq_true rfl) rfl
      ·
        refine j_aload_n (pc := 89) 1 C dX10_isWell_89 rfl rfl ?_
        refine gR_0_41 (pc := 90) C dX10_isWell_90 q_980 ?_
        refine j_bipush (pc := 93) 66 C dX10_isWell_93 (by decide) ?_
        refine j_iload_n (pc := 95) 2 C dX10_isWell_95 rfl rfl ?_
        refine j_iadd (pc := 96) C dX10_isWell_96 ?_
        refine aR_18 (pc := 97) C dX10_isWell_97 ?_
        refine j_if_le (pc := 98) 105 C dX10_isWell_98 (by decide) ?_ ?_
        ·
          refine j_iconst (pc := 105) 0 C dX10_isWell_105 (by decide) ?_
          exact j_zretc C dX10_isWell_106 rfl (Nat.le_of_ble_eq_true rfl) (Nat.le_of_ble_eq_true rfl) rfl
        ·
          refine j_iconst (pc := 101) 1 C dX10_isWell_101 (by decide) ?_
          refine j_goto (pc := 102) 106 C dX10_isWell_102 (by decide) ?_
          exact j_zretc C dX10_isWell_106 rfl (Nat.le_of_ble_eq_true rfl) (Nat.le_of_ble_eq_true rfl) rfl
  ·
    refine j_iload (pc := 75) 0 C dX10_isWell_75 rfl ?_
    exact j_zret C dX10_isWell_77 rfl (Nat.le_of_ble_eq_true rfl) (Nat.le_of_ble_eq_true rfl)
theorem bR_isWell {E : Ec} {G : Gc}    (C : JC E (VR G 7 0 0 RX10) cX10_isWell 2 (some .boolean))    (x1 : Int32) (S : St) : J E (VR G 7 0 0 RX10) 0 0 0 [(0, .ref (gA G 0)), (1, .int x1)] [] S (fR_isWell  x1 S) := by
  unfold fR_isWell
  refine j_aload_n (pc := 0) 0 C dX10_isWell_0 rfl rfl ?_
  refine gR_0_15 (pc := 1) C dX10_isWell_1 q_893 ?_
  refine j_iconst (pc := 4) 4 C dX10_isWell_4 (by decide) ?_
  refine j_iload_n (pc := 5) 1 C dX10_isWell_5 rfl rfl ?_
  refine j_imul (pc := 6) C dX10_isWell_6 ?_
  refine aR_8 (pc := 7) C dX10_isWell_7 ?_
  refine j_nxI (fun v1 => ?_)
  refine j_istore_n (pc := 8) [(2, .int v1), (0, .ref (gA G 0)), (1, .int x1)] C dX10_isWell_8 rfl (Nat.le_of_ble_eq_true rfl) rfl ?_
  refine j_aload_n (pc := 9) 1 C dX10_isWell_9 rfl rfl ?_
  refine gR_0_15 (pc := 10) C dX10_isWell_10 q_893 ?_
  refine j_iconst (pc := 13) 4 C dX10_isWell_13 (by decide) ?_
  refine j_iload_n (pc := 14) 2 C dX10_isWell_14 rfl rfl ?_
  refine j_imul (pc := 15) C dX10_isWell_15 ?_
  refine j_iconst (pc := 16) 1 C dX10_isWell_16 (by decide) ?_
  refine j_iadd (pc := 17) C dX10_isWell_17 ?_
  refine aR_8 (pc := 18) C dX10_isWell_18 ?_
  refine j_nxI (fun v2 => ?_)
  refine j_istore_n (pc := 19) [(3, .int v2), (2, .int v1), (0, .ref (gA G 0)), (1, .int x1)] C dX10_isWell_19 rfl (Nat.le_of_ble_eq_true rfl) rfl ?_
  refine j_aload_n (pc := 20) 2 C dX10_isWell_20 rfl rfl ?_
  refine gR_0_15 (pc := 21) C dX10_isWell_21 q_893 ?_
  refine j_iconst (pc := 24) 4 C dX10_isWell_24 (by decide) ?_
  refine j_iload_n (pc := 25) 3 C dX10_isWell_25 rfl rfl ?_
  refine j_imul (pc := 26) C dX10_isWell_26 ?_
  refine j_iconst (pc := 27) 2 C dX10_isWell_27 (by decide) ?_
  refine j_iadd (pc := 28) C dX10_isWell_28 ?_
  refine aR_8 (pc := 29) C dX10_isWell_29 ?_
  refine j_nxI (fun v3 => ?_)
  refine j_istore (pc := 30) [(4, .int v3), (3, .int v2), (2, .int v1), (0, .ref (gA G 0)), (1, .int x1)] C dX10_isWell_30 (Nat.le_of_ble_eq_true rfl) rfl ?_
  refine j_aload_n (pc := 32) 3 C dX10_isWell_32 rfl rfl ?_
  refine gR_0_13 (pc := 33) C dX10_isWell_33 q_885 ?_
  refine j_iconst (pc := 36) 2 C dX10_isWell_36 (by decide) ?_
  refine j_iload_n (pc := 37) 1 C dX10_isWell_37 rfl rfl ?_
  refine j_imul (pc := 38) C dX10_isWell_38 ?_
  refine aR_6 (pc := 39) C dX10_isWell_39 ?_
  refine j_iconst (pc := 40) 2 C dX10_isWell_40 (by decide) ?_
  refine j_idivc (pc := 41) C dX10_isWell_41 rfl ?_
  refine j_iconst (pc := 42) 1 C dX10_isWell_42 (by decide) ?_
  refine j_iadd (pc := 43) C dX10_isWell_43 ?_
  refine j_nxI (fun v4 => ?_)
  refine j_istore (pc := 44) [(5, .int v4), (4, .int v3), (3, .int v2), (2, .int v1), (0, .ref (gA G 0)), (1, .int x1)] C dX10_isWell_44 (Nat.le_of_ble_eq_true rfl) rfl ?_
  refine j_aload_n (pc := 46) 4 C dX10_isWell_46 rfl rfl ?_
  refine j_iload_n (pc := 47) 3 C dX10_isWell_47 rfl rfl ?_
  refine j_iload_n (pc := 48) 2 C dX10_isWell_48 rfl rfl ?_
  refine j_callI0 (pc := 49) C (rR_knownOf C dX10_isWell_49 q_991 (by omega) (Nat.le_of_ble_eq_true rfl) ⟨Nat.le_of_ble_eq_true rfl, Nat.le_of_ble_eq_true rfl⟩) ⟨Nat.le_of_ble_eq_true rfl, Nat.le_of_ble_eq_true rfl⟩ (fun r6 T5 => ?_)
  refine j_aload_n (pc := 52) 4 C dX10_isWell_52 rfl rfl ?_
  refine gR_0_13 (pc := 53) C dX10_isWell_53 q_885 ?_
  refine j_iconst (pc := 56) 2 C dX10_isWell_56 (by decide) ?_
  refine j_iload_n (pc := 57) 2 C dX10_isWell_57 rfl rfl ?_
  refine j_imul (pc := 58) C dX10_isWell_58 ?_
  refine aR_6 (pc := 59) C dX10_isWell_59 ?_
  refine j_icmp_lt (pc := 60) 67 C dX10_isWell_60 (by decide) ?_ ?_
  ·
    refine j_iconst (pc := 67) 0 C dX10_isWell_67 (by decide) ?_
    refine j_sub [4, 3, 2, 1, 0] rfl ?_
    exact bR_isWell_68 C  v1 v2 v3 v4 0 T5
  ·
    refine j_iconst (pc := 63) 1 C dX10_isWell_63 (by decide) ?_
    refine j_goto (pc := 64) 68 C dX10_isWell_64 (by decide) ?_
    refine j_sub [4, 3, 2, 1, 0] rfl ?_
    exact bR_isWell_68 C  v1 v2 v3 v4 1 T5
theorem cR_isWell {l : Launch} {G : Gc} (hfl : l.stackTraces = false) (hW : Wok G wR 26)   (x1 : Int32) (S : St) : Ct l yX10_isWell (Cond.code yX10_isWell cX10_isWell 7 (some .boolean) :: tblG) 2 0 0 G wR 26 [.ref (gA G 0), .int x1] S (fR_isWell x1 S) := ct_of (own := RX10) hfl (by decide +kernel) rfl hW (Nat.le_of_ble_eq_true rfl) (fun E hE C => by subst hE; exact bR_isWell C   x1 S)
theorem rR_isWell {E : Ec} {G : Gc} {nL mc ms : Nat} {own : String} {cc : ByteArray} {L : Nat} {ret : Option FieldType} {k n pc ix : Nat} {loc : List (Nat × Value)} {rest : List Value}  {x1 : Int32} {S : St}  (C : JC E (VR G nL mc ms own) cc L ret) (hd : decode cc pc = .ok (.invokevirtual ix, 3)) (hq : Cond.methodLink own ix yX10_isWell ∈ tblG) (hL : 2 + 1 ≤ L) (hW : (rest.map fun v => v.category).sum ≤ 8) (hf : k + 0 ≤ mc ∧ n + 0 ≤ ms) : Rn E (VR G nL mc ms own) k n 0 0 pc loc (.int x1 :: .ref (gA G 0) :: rest) rest S (fR_isWell x1 S) := rn_V (ci := 10) 0 (V := VR G nL mc ms own) (As := [.int x1]) (Cq := (RX10, TX10, 53)) (cR_isWell C.flags C.wok  x1 S) knX10_isWell ⟨q_1013, q_1014⟩ rfl rfl C hd hq hL rfl rfl hW hf

theorem knX10_isSaid : Kn yX10_isSaid cX10_isSaid 2 (some .boolean) 1 := ⟨q_1016, q_815, by decide +kernel, by decide⟩
theorem bR_isSaid {E : Ec} {G : Gc}    (C : JC E (VR G 2 0 0 RX10) cX10_isSaid 3 (some .boolean))    (x1 : Int32) (S : St) : J E (VR G 2 0 0 RX10) 0 0 0 [(0, .ref (gA G 0)), (1, .int x1)] [] S (fR_isSaid  x1 S) := by
  unfold fR_isSaid
  refine j_aload_n (pc := 0) 0 C dX10_isSaid_0 rfl rfl ?_
  refine gR_0_41 (pc := 1) C dX10_isSaid_1 q_980 ?_
  refine j_bipush (pc := 4) 84 C dX10_isSaid_4 (by decide) ?_
  refine j_iload_n (pc := 6) 1 C dX10_isSaid_6 rfl rfl ?_
  refine j_iadd (pc := 7) C dX10_isSaid_7 ?_
  refine aR_18 (pc := 8) C dX10_isSaid_8 ?_
  refine j_iconst (pc := 9) 1 C dX10_isSaid_9 (by decide) ?_
  refine j_icmp_ne (pc := 10) 15 C dX10_isSaid_10 (by decide) ?_ ?_
  ·
    refine j_aload_n (pc := 15) 0 C dX10_isSaid_15 rfl rfl ?_
    refine j_iload_n (pc := 16) 1 C dX10_isSaid_16 rfl rfl ?_
    refine j_callI0 (pc := 17) C (rR_isWell C dX10_isSaid_17 q_1015 (by omega) (Nat.le_of_ble_eq_true rfl) ⟨Nat.le_of_ble_eq_true rfl, Nat.le_of_ble_eq_true rfl⟩) ⟨Nat.le_of_ble_eq_true rfl, Nat.le_of_ble_eq_true rfl⟩ (fun r2 T1 => ?_)
    refine j_if_eq (pc := 20) 36 C dX10_isSaid_20 (by decide) ?_ ?_
    ·
      refine j_aload_n (pc := 36) 0 C dX10_isSaid_36 rfl rfl ?_
      refine j_aload_n (pc := 37) 0 C dX10_isSaid_37 rfl rfl ?_
      refine gR_0_15 (pc := 38) C dX10_isSaid_38 q_893 ?_
      refine j_iconst (pc := 41) 4 C dX10_isSaid_41 (by decide) ?_
      refine j_iload_n (pc := 42) 1 C dX10_isSaid_42 rfl rfl ?_
      refine j_imul (pc := 43) C dX10_isSaid_43 ?_
      refine aR_8 (pc := 44) C dX10_isSaid_44 ?_
      refine j_aload_n (pc := 45) 0 C dX10_isSaid_45 rfl rfl ?_
      refine gR_0_15 (pc := 46) C dX10_isSaid_46 q_893 ?_
      refine j_iconst (pc := 49) 4 C dX10_isSaid_49 (by decide) ?_
      refine j_iload_n (pc := 50) 1 C dX10_isSaid_50 rfl rfl ?_
      refine j_imul (pc := 51) C dX10_isSaid_51 ?_
      refine j_iconst (pc := 52) 1 C dX10_isSaid_52 (by decide) ?_
      refine j_iadd (pc := 53) C dX10_isSaid_53 ?_
      refine aR_8 (pc := 54) C dX10_isSaid_54 ?_
      refine j_callv0 (pc := 55) C (rR_slips C dX10_isSaid_55 q_1007 (by omega) (Nat.le_of_ble_eq_true rfl) ⟨Nat.le_of_ble_eq_true rfl, Nat.le_of_ble_eq_true rfl⟩) ⟨Nat.le_of_ble_eq_true rfl, Nat.le_of_ble_eq_true rfl⟩ (fun T3 => ?_)
      refine j_iconst (pc := 58) 1 C dX10_isSaid_58 (by decide) ?_
      exact j_zretc C dX10_isSaid_59 rfl (Nat.le_of_ble_eq_true rfl) (Nat.le_of_ble_eq_true rfl) rfl
    ·
      refine j_aload_n (pc := 23) 0 C dX10_isSaid_23 rfl rfl ?_
      refine gR_0_41 (pc := 24) C dX10_isSaid_24 q_980 ?_
      refine j_bipush (pc := 27) 84 C dX10_isSaid_27 (by decide) ?_
      refine j_iload_n (pc := 29) 1 C dX10_isSaid_29 rfl rfl ?_
      refine j_iadd (pc := 30) C dX10_isSaid_30 ?_
      refine j_iconst (pc := 31) 1 C dX10_isSaid_31 (by decide) ?_
      refine sR_18 (pc := 32) C dX10_isSaid_32 ?_
      refine j_nxS (fun T5 => ?_)
      refine j_goto (pc := 33) 58 C dX10_isSaid_33 (by decide) ?_
      refine j_iconst (pc := 58) 1 C dX10_isSaid_58 (by decide) ?_
      exact j_zretc C dX10_isSaid_59 rfl (Nat.le_of_ble_eq_true rfl) (Nat.le_of_ble_eq_true rfl) rfl
  ·
    refine j_iconst (pc := 13) 0 C dX10_isSaid_13 (by decide) ?_
    exact j_zretc C dX10_isSaid_14 rfl (Nat.le_of_ble_eq_true rfl) (Nat.le_of_ble_eq_true rfl) rfl
theorem cR_isSaid {l : Launch} {G : Gc} (hfl : l.stackTraces = false) (hW : Wok G wR 26)   (x1 : Int32) (S : St) : Ct l yX10_isSaid (Cond.code yX10_isSaid cX10_isSaid 2 (some .boolean) :: tblG) 3 0 0 G wR 26 [.ref (gA G 0), .int x1] S (fR_isSaid x1 S) := ct_of (own := RX10) hfl (by decide +kernel) rfl hW (Nat.le_of_ble_eq_true rfl) (fun E hE C => by subst hE; exact bR_isSaid C   x1 S)
theorem rR_isSaid {E : Ec} {G : Gc} {nL mc ms : Nat} {own : String} {cc : ByteArray} {L : Nat} {ret : Option FieldType} {k n pc ix : Nat} {loc : List (Nat × Value)} {rest : List Value}  {x1 : Int32} {S : St}  (C : JC E (VR G nL mc ms own) cc L ret) (hd : decode cc pc = .ok (.invokevirtual ix, 3)) (hq : Cond.methodLink own ix yX10_isSaid ∈ tblG) (hL : 3 + 1 ≤ L) (hW : (rest.map fun v => v.category).sum ≤ 8) (hf : k + 0 ≤ mc ∧ n + 0 ≤ ms) : Rn E (VR G nL mc ms own) k n 0 0 pc loc (.int x1 :: .ref (gA G 0) :: rest) rest S (fR_isSaid x1 S) := rn_V (ci := 10) 0 (V := VR G nL mc ms own) (As := [.int x1]) (Cq := (RX10, TX10, 53)) (cR_isSaid C.flags C.wok  x1 S) knX10_isSaid ⟨q_1017, q_1018⟩ rfl rfl C hd hq hL rfl rfl hW hf

theorem knX10_isForgotten : Kn yX10_isForgotten cX10_isForgotten 3 (some .boolean) 2 := ⟨q_1020, q_815, by decide +kernel, by decide⟩
theorem bR_isForgotten {E : Ec} {G : Gc}    (C : JC E (VR G 3 0 0 RX10) cX10_isForgotten 2 (some .boolean))    (x1 : Int32) (x2 : Int32) (S : St) : J E (VR G 3 0 0 RX10) 0 0 0 [(0, .ref (gA G 0)), (1, .int x1), (2, .int x2)] [] S (fR_isForgotten  x1 x2 S) := by
  unfold fR_isForgotten
  refine j_aload_n (pc := 0) 0 C dX10_isForgotten_0 rfl rfl ?_
  refine j_iload_n (pc := 1) 1 C dX10_isForgotten_1 rfl rfl ?_
  refine j_iload_n (pc := 2) 2 C dX10_isForgotten_2 rfl rfl ?_
  refine j_callI0 (pc := 3) C (rR_knownOf C dX10_isForgotten_3 q_991 (by omega) (Nat.le_of_ble_eq_true rfl) ⟨Nat.le_of_ble_eq_true rfl, Nat.le_of_ble_eq_true rfl⟩) ⟨Nat.le_of_ble_eq_true rfl, Nat.le_of_ble_eq_true rfl⟩ (fun r2 T1 => ?_)
  refine j_if_ne (pc := 6) 11 C dX10_isForgotten_6 (by decide) ?_ ?_
  ·
    refine j_aload_n (pc := 11) 0 C dX10_isForgotten_11 rfl rfl ?_
    refine j_iload_n (pc := 12) 1 C dX10_isForgotten_12 rfl rfl ?_
    refine j_iload_n (pc := 13) 2 C dX10_isForgotten_13 rfl rfl ?_
    refine j_iconst (pc := 14) 0 C dX10_isForgotten_14 (by decide) ?_
    refine j_callv0 (pc := 15) C (rR_knowsThen C dX10_isForgotten_15 q_995 (by omega) (Nat.le_of_ble_eq_true rfl) ⟨Nat.le_of_ble_eq_true rfl, Nat.le_of_ble_eq_true rfl⟩) ⟨Nat.le_of_ble_eq_true rfl, Nat.le_of_ble_eq_true rfl⟩ (fun T3 => ?_)
    refine j_iconst (pc := 18) 1 C dX10_isForgotten_18 (by decide) ?_
    exact j_zretc C dX10_isForgotten_19 rfl (Nat.le_of_ble_eq_true rfl) (Nat.le_of_ble_eq_true rfl) rfl
  ·
    refine j_iconst (pc := 9) 0 C dX10_isForgotten_9 (by decide) ?_
    exact j_zretc C dX10_isForgotten_10 rfl (Nat.le_of_ble_eq_true rfl) (Nat.le_of_ble_eq_true rfl) rfl
theorem cR_isForgotten {l : Launch} {G : Gc} (hfl : l.stackTraces = false) (hW : Wok G wR 26)   (x1 : Int32) (x2 : Int32) (S : St) : Ct l yX10_isForgotten (Cond.code yX10_isForgotten cX10_isForgotten 3 (some .boolean) :: tblG) 2 0 0 G wR 26 [.ref (gA G 0), .int x1, .int x2] S (fR_isForgotten x1 x2 S) := ct_of (own := RX10) hfl (by decide +kernel) rfl hW (Nat.le_of_ble_eq_true rfl) (fun E hE C => by subst hE; exact bR_isForgotten C   x1 x2 S)
theorem rR_isForgotten {E : Ec} {G : Gc} {nL mc ms : Nat} {own : String} {cc : ByteArray} {L : Nat} {ret : Option FieldType} {k n pc ix : Nat} {loc : List (Nat × Value)} {rest : List Value}  {x1 : Int32} {x2 : Int32} {S : St}  (C : JC E (VR G nL mc ms own) cc L ret) (hd : decode cc pc = .ok (.invokevirtual ix, 3)) (hq : Cond.methodLink own ix yX10_isForgotten ∈ tblG) (hL : 2 + 1 ≤ L) (hW : (rest.map fun v => v.category).sum ≤ 8) (hf : k + 0 ≤ mc ∧ n + 0 ≤ ms) : Rn E (VR G nL mc ms own) k n 0 0 pc loc (.int x2 :: .int x1 :: .ref (gA G 0) :: rest) rest S (fR_isForgotten x1 x2 S) := rn_V (ci := 10) 0 (V := VR G nL mc ms own) (As := [.int x1, .int x2]) (Cq := (RX10, TX10, 53)) (cR_isForgotten C.flags C.wok  x1 x2 S) knX10_isForgotten ⟨q_1021, q_1022⟩ rfl rfl C hd hq hL rfl rfl hW hf

theorem knX10_memoryOf : Kn yX10_memoryOf cX10_memoryOf 2 (some .int) 1 := ⟨q_1024, q_815, by decide +kernel, by decide⟩
theorem bR_memoryOf {E : Ec} {G : Gc}    (C : JC E (VR G 2 0 0 RX10) cX10_memoryOf 1 (some .int))    (x1 : Int32) (S : St) : J E (VR G 2 0 0 RX10) 0 0 0 [(0, .ref (gA G 0)), (1, .int x1)] [] S (fR_memoryOf  x1 S) := by
  unfold fR_memoryOf
  refine j_aload_n (pc := 0) 0 C dX10_memoryOf_0 rfl rfl ?_
  refine gR_0_41 (pc := 1) C dX10_memoryOf_1 q_980 ?_
  refine j_bipush (pc := 4) 54 C dX10_memoryOf_4 (by decide) ?_
  refine j_iload_n (pc := 6) 1 C dX10_memoryOf_6 rfl rfl ?_
  refine j_iadd (pc := 7) C dX10_memoryOf_7 ?_
  refine aR_18 (pc := 8) C dX10_memoryOf_8 ?_
  refine j_iconst (pc := 9) 1 C dX10_memoryOf_9 (by decide) ?_
  refine j_icmp_ne (pc := 10) 26 C dX10_memoryOf_10 (by decide) ?_ ?_
  ·
    refine j_aload_n (pc := 26) 0 C dX10_memoryOf_26 rfl rfl ?_
    refine gR_0_14 (pc := 27) C dX10_memoryOf_27 q_891 ?_
    refine j_iconst (pc := 30) 2 C dX10_memoryOf_30 (by decide) ?_
    refine j_iload_n (pc := 31) 1 C dX10_memoryOf_31 rfl rfl ?_
    refine j_imul (pc := 32) C dX10_memoryOf_32 ?_
    refine aR_7 (pc := 33) C dX10_memoryOf_33 ?_
    exact j_iret C dX10_memoryOf_34 rfl (Nat.le_of_ble_eq_true rfl) (Nat.le_of_ble_eq_true rfl)
  ·
    refine j_aload_n (pc := 13) 0 C dX10_memoryOf_13 rfl rfl ?_
    refine gR_0_14 (pc := 14) C dX10_memoryOf_14 q_891 ?_
    refine j_iconst (pc := 17) 2 C dX10_memoryOf_17 (by decide) ?_
    refine j_iload_n (pc := 18) 1 C dX10_memoryOf_18 rfl rfl ?_
    refine j_imul (pc := 19) C dX10_memoryOf_19 ?_
    refine aR_7 (pc := 20) C dX10_memoryOf_20 ?_
    refine j_iconst (pc := 21) 2 C dX10_memoryOf_21 (by decide) ?_
    refine j_idivc (pc := 22) C dX10_memoryOf_22 rfl ?_
    refine j_goto (pc := 23) 34 C dX10_memoryOf_23 (by decide) ?_
    exact j_iret C dX10_memoryOf_34 rfl (Nat.le_of_ble_eq_true rfl) (Nat.le_of_ble_eq_true rfl)
theorem cR_memoryOf {l : Launch} {G : Gc} (hfl : l.stackTraces = false) (hW : Wok G wR 26)   (x1 : Int32) (S : St) : Ct l yX10_memoryOf (Cond.code yX10_memoryOf cX10_memoryOf 2 (some .int) :: tblG) 1 0 0 G wR 26 [.ref (gA G 0), .int x1] S (fR_memoryOf x1 S) := ct_of (own := RX10) hfl (by decide +kernel) rfl hW (Nat.le_of_ble_eq_true rfl) (fun E hE C => by subst hE; exact bR_memoryOf C   x1 S)
theorem rR_memoryOf {E : Ec} {G : Gc} {nL mc ms : Nat} {own : String} {cc : ByteArray} {L : Nat} {ret : Option FieldType} {k n pc ix : Nat} {loc : List (Nat × Value)} {rest : List Value}  {x1 : Int32} {S : St}  (C : JC E (VR G nL mc ms own) cc L ret) (hd : decode cc pc = .ok (.invokevirtual ix, 3)) (hq : Cond.methodLink own ix yX10_memoryOf ∈ tblG) (hL : 1 + 1 ≤ L) (hW : (rest.map fun v => v.category).sum ≤ 8) (hf : k + 0 ≤ mc ∧ n + 0 ≤ ms) : Rn E (VR G nL mc ms own) k n 0 0 pc loc (.int x1 :: .ref (gA G 0) :: rest) rest S (fR_memoryOf x1 S) := rn_V (ci := 10) 0 (V := VR G nL mc ms own) (As := [.int x1]) (Cq := (RX10, TX10, 53)) (cR_memoryOf C.flags C.wok  x1 S) knX10_memoryOf ⟨q_1025, q_1026⟩ rfl rfl C hd hq hL rfl rfl hW hf

theorem knX10_sumOf : Kn yX10_sumOf cX10_sumOf 5 (some .int) 2 := ⟨q_1028, q_815, by decide +kernel, by decide⟩
theorem bR_sumOf_5 {E : Ec} {G : Gc}    (C : JC E (VR G 5 0 0 RX10) cX10_sumOf 1 (some .int))    : ∀ (n : Nat) (x1 : Int32) (x2 : Int32) (x3 : Int32) (x4 : Int32) (S : St), J E (VR G 5 0 0 RX10) 0 0 5 [(0, .ref (gA G 0)), (1, .int x1), (2, .int x2), (3, .int x3), (4, .int x4)] [] S (fR_sumOf_5  n x1 x2 x3 x4 S) := by
  intro n
  induction n with
  | zero => intro x1 x2 x3 x4 S; rw [fR_sumOf_5]; exact j_none
  | succ n ih =>
    intro x1 x2 x3 x4 S
    rw [fR_sumOf_5]
    refine j_iload (pc := 5) 4 C dX10_sumOf_5 rfl ?_
    refine j_iload_n (pc := 7) 2 C dX10_sumOf_7 rfl rfl ?_
    refine j_icmp_ge (pc := 8) 29 C dX10_sumOf_8 (by decide) ?_ ?_
    ·
      refine j_iload_n (pc := 29) 3 C dX10_sumOf_29 rfl rfl ?_
      exact j_iret C dX10_sumOf_30 rfl (Nat.le_of_ble_eq_true rfl) (Nat.le_of_ble_eq_true rfl)
    ·
      refine j_iload_n (pc := 11) 3 C dX10_sumOf_11 rfl rfl ?_
      refine j_aload_n (pc := 12) 0 C dX10_sumOf_12 rfl rfl ?_
      refine gR_0_41 (pc := 13) C dX10_sumOf_13 q_980 ?_
      refine j_iload_n (pc := 16) 1 C dX10_sumOf_16 rfl rfl ?_
      refine j_iload (pc := 17) 4 C dX10_sumOf_17 rfl ?_
      refine j_iadd (pc := 19) C dX10_sumOf_19 ?_
      refine aR_18 (pc := 20) C dX10_sumOf_20 ?_
      refine j_iadd (pc := 21) C dX10_sumOf_21 ?_
      refine j_nxI (fun v1 => ?_)
      refine j_istore_n (pc := 22) [(3, .int v1), (0, .ref (gA G 0)), (1, .int x1), (2, .int x2), (4, .int x4)] C dX10_sumOf_22 rfl (Nat.le_of_ble_eq_true rfl) rfl ?_
      refine j_iinc (pc := 23) 4 (x4 + 1) [(4, .int (x4 + 1)), (3, .int v1), (0, .ref (gA G 0)), (1, .int x1), (2, .int x2)] C dX10_sumOf_23 rfl rfl (Nat.le_of_ble_eq_true rfl) rfl ?_
      refine j_goto (pc := 26) 5 C dX10_sumOf_26 (by decide) ?_
      refine j_sub [2, 3, 4, 1, 0] rfl ?_
      exact ih x1 x2 v1 (x4 + 1) S
theorem bR_sumOf {E : Ec} {G : Gc}    (C : JC E (VR G 5 0 0 RX10) cX10_sumOf 1 (some .int))    (x1 : Int32) (x2 : Int32) (S : St) : J E (VR G 5 0 0 RX10) 0 0 0 [(0, .ref (gA G 0)), (1, .int x1), (2, .int x2)] [] S (fR_sumOf  x1 x2 S) := by
  unfold fR_sumOf
  refine j_iconst (pc := 0) 0 C dX10_sumOf_0 (by decide) ?_
  refine j_istore_n (pc := 1) [(3, .int 0), (0, .ref (gA G 0)), (1, .int x1), (2, .int x2)] C dX10_sumOf_1 rfl (Nat.le_of_ble_eq_true rfl) rfl ?_
  refine j_iconst (pc := 2) 0 C dX10_sumOf_2 (by decide) ?_
  refine j_istore (pc := 3) [(4, .int 0), (3, .int 0), (0, .ref (gA G 0)), (1, .int x1), (2, .int x2)] C dX10_sumOf_3 (Nat.le_of_ble_eq_true rfl) rfl ?_
  refine j_sub [2, 3, 4, 1, 0] rfl ?_
  exact bR_sumOf_5 C  FU x1 x2 0 0 S
theorem cR_sumOf {l : Launch} {G : Gc} (hfl : l.stackTraces = false) (hW : Wok G wR 26)   (x1 : Int32) (x2 : Int32) (S : St) : Ct l yX10_sumOf (Cond.code yX10_sumOf cX10_sumOf 5 (some .int) :: tblG) 1 0 0 G wR 26 [.ref (gA G 0), .int x1, .int x2] S (fR_sumOf x1 x2 S) := ct_of (own := RX10) hfl (by decide +kernel) rfl hW (Nat.le_of_ble_eq_true rfl) (fun E hE C => by subst hE; exact bR_sumOf C   x1 x2 S)
theorem rR_sumOf {E : Ec} {G : Gc} {nL mc ms : Nat} {own : String} {cc : ByteArray} {L : Nat} {ret : Option FieldType} {k n pc ix : Nat} {loc : List (Nat × Value)} {rest : List Value}  {x1 : Int32} {x2 : Int32} {S : St}  (C : JC E (VR G nL mc ms own) cc L ret) (hd : decode cc pc = .ok (.invokevirtual ix, 3)) (hq : Cond.methodLink own ix yX10_sumOf ∈ tblG) (hL : 1 + 1 ≤ L) (hW : (rest.map fun v => v.category).sum ≤ 8) (hf : k + 0 ≤ mc ∧ n + 0 ≤ ms) : Rn E (VR G nL mc ms own) k n 0 0 pc loc (.int x2 :: .int x1 :: .ref (gA G 0) :: rest) rest S (fR_sumOf x1 x2 S) := rn_V (ci := 10) 0 (V := VR G nL mc ms own) (As := [.int x1, .int x2]) (Cq := (RX10, TX10, 53)) (cR_sumOf C.flags C.wok  x1 x2 S) knX10_sumOf ⟨q_1029, q_1030⟩ rfl rfl C hd hq hL rfl rfl hW hf

theorem knX10_allOf : Kn yX10_allOf cX10_allOf 2 (some .int) 1 := ⟨q_1032, q_815, by decide +kernel, by decide⟩
theorem bR_allOf {E : Ec} {G : Gc}    (C : JC E (VR G 2 0 0 RX10) cX10_allOf 2 (some .int))    (x1 : Int32) (S : St) : J E (VR G 2 0 0 RX10) 0 0 0 [(0, .ref (gA G 0)), (1, .int x1)] [] S (fR_allOf  x1 S) := by
  unfold fR_allOf
  refine j_aload_n (pc := 0) 0 C dX10_allOf_0 rfl rfl ?_
  refine j_iconst (pc := 1) 0 C dX10_allOf_1 (by decide) ?_
  refine j_bipush (pc := 2) 8 C dX10_allOf_2 (by decide) ?_
  refine j_iload_n (pc := 4) 1 C dX10_allOf_4 rfl rfl ?_
  refine j_imul (pc := 5) C dX10_allOf_5 ?_
  refine j_iadd (pc := 6) C dX10_allOf_6 ?_
  refine j_aload_n (pc := 7) 0 C dX10_allOf_7 rfl rfl ?_
  refine gR_0_20 (pc := 8) C dX10_allOf_8 q_880 ?_
  refine j_callI0 (pc := 11) C (rR_sumOf C dX10_allOf_11 q_1031 (by omega) (Nat.le_of_ble_eq_true rfl) ⟨Nat.le_of_ble_eq_true rfl, Nat.le_of_ble_eq_true rfl⟩) ⟨Nat.le_of_ble_eq_true rfl, Nat.le_of_ble_eq_true rfl⟩ (fun r2 T1 => ?_)
  exact j_iret C dX10_allOf_14 rfl (Nat.le_of_ble_eq_true rfl) (Nat.le_of_ble_eq_true rfl)
theorem cR_allOf {l : Launch} {G : Gc} (hfl : l.stackTraces = false) (hW : Wok G wR 26)   (x1 : Int32) (S : St) : Ct l yX10_allOf (Cond.code yX10_allOf cX10_allOf 2 (some .int) :: tblG) 2 0 0 G wR 26 [.ref (gA G 0), .int x1] S (fR_allOf x1 S) := ct_of (own := RX10) hfl (by decide +kernel) rfl hW (Nat.le_of_ble_eq_true rfl) (fun E hE C => by subst hE; exact bR_allOf C   x1 S)
theorem rR_allOf {E : Ec} {G : Gc} {nL mc ms : Nat} {own : String} {cc : ByteArray} {L : Nat} {ret : Option FieldType} {k n pc ix : Nat} {loc : List (Nat × Value)} {rest : List Value}  {x1 : Int32} {S : St}  (C : JC E (VR G nL mc ms own) cc L ret) (hd : decode cc pc = .ok (.invokevirtual ix, 3)) (hq : Cond.methodLink own ix yX10_allOf ∈ tblG) (hL : 2 + 1 ≤ L) (hW : (rest.map fun v => v.category).sum ≤ 8) (hf : k + 0 ≤ mc ∧ n + 0 ≤ ms) : Rn E (VR G nL mc ms own) k n 0 0 pc loc (.int x1 :: .ref (gA G 0) :: rest) rest S (fR_allOf x1 S) := rn_V (ci := 10) 0 (V := VR G nL mc ms own) (As := [.int x1]) (Cq := (RX10, TX10, 53)) (cR_allOf C.flags C.wok  x1 S) knX10_allOf ⟨q_1033, q_1034⟩ rfl rfl C hd hq hL rfl rfl hW hf

theorem knX10_roomOf : Kn yX10_roomOf cX10_roomOf 2 (some .int) 1 := ⟨q_1036, q_815, by decide +kernel, by decide⟩
theorem bR_roomOf {E : Ec} {G : Gc}    (C : JC E (VR G 2 0 0 RX10) cX10_roomOf 3 (some .int))    (x1 : Int32) (S : St) : J E (VR G 2 0 0 RX10) 0 0 0 [(0, .ref (gA G 0)), (1, .int x1)] [] S (fR_roomOf  x1 S) := by
  unfold fR_roomOf
  refine j_aload_n (pc := 0) 0 C dX10_roomOf_0 rfl rfl ?_
  refine j_iload_n (pc := 1) 1 C dX10_roomOf_1 rfl rfl ?_
  refine j_callI0 (pc := 2) C (rR_memoryOf C dX10_roomOf_2 q_1027 (by omega) (Nat.le_of_ble_eq_true rfl) ⟨Nat.le_of_ble_eq_true rfl, Nat.le_of_ble_eq_true rfl⟩) ⟨Nat.le_of_ble_eq_true rfl, Nat.le_of_ble_eq_true rfl⟩ (fun r2 T1 => ?_)
  refine j_aload_n (pc := 5) 0 C dX10_roomOf_5 rfl rfl ?_
  refine j_iload_n (pc := 6) 1 C dX10_roomOf_6 rfl rfl ?_
  refine j_callI0 (pc := 7) C (rR_allOf C dX10_roomOf_7 q_1035 (by omega) (Nat.le_of_ble_eq_true rfl) ⟨Nat.le_of_ble_eq_true rfl, Nat.le_of_ble_eq_true rfl⟩) ⟨Nat.le_of_ble_eq_true rfl, Nat.le_of_ble_eq_true rfl⟩ (fun r4 T3 => ?_)
  refine j_icmp_ge (pc := 10) 17 C dX10_roomOf_10 (by decide) ?_ ?_
  ·
    refine j_aload_n (pc := 17) 0 C dX10_roomOf_17 rfl rfl ?_
    refine j_iload_n (pc := 18) 1 C dX10_roomOf_18 rfl rfl ?_
    refine j_callI0 (pc := 19) C (rR_memoryOf C dX10_roomOf_19 q_1027 (by omega) (Nat.le_of_ble_eq_true rfl) ⟨Nat.le_of_ble_eq_true rfl, Nat.le_of_ble_eq_true rfl⟩) ⟨Nat.le_of_ble_eq_true rfl, Nat.le_of_ble_eq_true rfl⟩ (fun r6 T5 => ?_)
    refine j_aload_n (pc := 22) 0 C dX10_roomOf_22 rfl rfl ?_
    refine j_iload_n (pc := 23) 1 C dX10_roomOf_23 rfl rfl ?_
    refine j_callI0 (pc := 24) C (rR_allOf C dX10_roomOf_24 q_1035 (by omega) (Nat.le_of_ble_eq_true rfl) ⟨Nat.le_of_ble_eq_true rfl, Nat.le_of_ble_eq_true rfl⟩) ⟨Nat.le_of_ble_eq_true rfl, Nat.le_of_ble_eq_true rfl⟩ (fun r8 T7 => ?_)
    refine j_isub (pc := 27) C dX10_roomOf_27 ?_
    exact j_iret C dX10_roomOf_28 rfl (Nat.le_of_ble_eq_true rfl) (Nat.le_of_ble_eq_true rfl)
  ·
    refine j_iconst (pc := 13) 0 C dX10_roomOf_13 (by decide) ?_
    refine j_goto (pc := 14) 28 C dX10_roomOf_14 (by decide) ?_
    exact j_iret C dX10_roomOf_28 rfl (Nat.le_of_ble_eq_true rfl) (Nat.le_of_ble_eq_true rfl)
theorem cR_roomOf {l : Launch} {G : Gc} (hfl : l.stackTraces = false) (hW : Wok G wR 26)   (x1 : Int32) (S : St) : Ct l yX10_roomOf (Cond.code yX10_roomOf cX10_roomOf 2 (some .int) :: tblG) 3 0 0 G wR 26 [.ref (gA G 0), .int x1] S (fR_roomOf x1 S) := ct_of (own := RX10) hfl (by decide +kernel) rfl hW (Nat.le_of_ble_eq_true rfl) (fun E hE C => by subst hE; exact bR_roomOf C   x1 S)
theorem rR_roomOf {E : Ec} {G : Gc} {nL mc ms : Nat} {own : String} {cc : ByteArray} {L : Nat} {ret : Option FieldType} {k n pc ix : Nat} {loc : List (Nat × Value)} {rest : List Value}  {x1 : Int32} {S : St}  (C : JC E (VR G nL mc ms own) cc L ret) (hd : decode cc pc = .ok (.invokevirtual ix, 3)) (hq : Cond.methodLink own ix yX10_roomOf ∈ tblG) (hL : 3 + 1 ≤ L) (hW : (rest.map fun v => v.category).sum ≤ 8) (hf : k + 0 ≤ mc ∧ n + 0 ≤ ms) : Rn E (VR G nL mc ms own) k n 0 0 pc loc (.int x1 :: .ref (gA G 0) :: rest) rest S (fR_roomOf x1 S) := rn_V (ci := 10) 0 (V := VR G nL mc ms own) (As := [.int x1]) (Cq := (RX10, TX10, 53)) (cR_roomOf C.flags C.wok  x1 S) knX10_roomOf ⟨q_1037, q_1038⟩ rfl rfl C hd hq hL rfl rfl hW hf

theorem knX10_both : Kn yX10_both cX10_both 3 (some .int) 3 := ⟨q_1042, q_815, by decide +kernel, by decide⟩
theorem bR_both_38 {E : Ec} {G : Gc}    (C : JC E (VR G 3 0 0 RX10) cX10_both 1 (some .int))    (x0 : Int32) (x1 : Int32) (x2 : Int32) (S : St) : J E (VR G 3 0 0 RX10) 0 0 38 [(0, .int x0), (1, .int x1), (2, .int x2)] [] S (fR_both_38  x0 x1 x2 S) := by
  unfold fR_both_38
  refine j_iload_n (pc := 38) 2 C dX10_both_38 rfl rfl ?_
  refine j_if_ne (pc := 39) 46 C dX10_both_39 (by decide) ?_ ?_
  ·
    refine j_iload_n (pc := 46) 0 C dX10_both_46 rfl rfl ?_
    refine j_iconst (pc := 47) 5 C dX10_both_47 (by decide) ?_
    refine j_icmp_ne (pc := 48) 57 C dX10_both_48 (by decide) ?_ ?_
    ·
      refine j_iload_n (pc := 57) 1 C dX10_both_57 rfl rfl ?_
      refine j_iload_n (pc := 58) 2 C dX10_both_58 rfl rfl ?_
      refine j_irem (pc := 59) C dX10_both_59 ?_
      exact j_iret C dX10_both_60 rfl (Nat.le_of_ble_eq_true rfl) (Nat.le_of_ble_eq_true rfl)
    ·
      refine j_iload_n (pc := 51) 1 C dX10_both_51 rfl rfl ?_
      refine j_iload_n (pc := 52) 2 C dX10_both_52 rfl rfl ?_
      refine j_idiv (pc := 53) C dX10_both_53 ?_
      refine j_goto (pc := 54) 60 C dX10_both_54 (by decide) ?_
      exact j_iret C dX10_both_60 rfl (Nat.le_of_ble_eq_true rfl) (Nat.le_of_ble_eq_true rfl)
  ·
    refine j_iconst (pc := 42) 0 C dX10_both_42 (by decide) ?_
    refine j_goto (pc := 43) 60 C dX10_both_43 (by decide) ?_
    exact j_iret C dX10_both_60 rfl (Nat.le_of_ble_eq_true rfl) (Nat.le_of_ble_eq_true rfl)
theorem bR_both_82 {E : Ec} {G : Gc}    (C : JC E (VR G 3 0 0 RX10) cX10_both 1 (some .int))    (x1 : Int32) (x2 : Int32) (s0 : Int32) (s1 : Int32) (S : St) : J E (VR G 3 0 0 RX10) 0 0 82 [(1, .int x1), (2, .int x2)] [.int s0, .int s1] S (fR_both_82  x1 x2 s0 s1 S) := by
  unfold fR_both_82
  refine j_icmp_ne (pc := 82) 89 C dX10_both_82 (by decide) ?_ ?_
  ·
    refine j_iload_n (pc := 89) 1 C dX10_both_89 rfl rfl ?_
    exact j_iret C dX10_both_90 rfl (Nat.le_of_ble_eq_true rfl) (Nat.le_of_ble_eq_true rfl)
  ·
    refine j_iload_n (pc := 85) 0 C dX10_both_85 rfl rfl ?_
    refine j_goto (pc := 86) 90 C dX10_both_86 (by decide) ?_
    exact j_iret C dX10_both_90 rfl (Nat.le_of_ble_eq_true rfl) (Nat.le_of_ble_eq_true rfl)
theorem bR_both_71 {E : Ec} {G : Gc}    (C : JC E (VR G 3 0 0 RX10) cX10_both 1 (some .int))    (x0 : Int32) (x1 : Int32) (x2 : Int32) (s0 : Int32) (S : St) : J E (VR G 3 0 0 RX10) 0 0 71 [(0, .int x0), (1, .int x1), (2, .int x2)] [.int s0] S (fR_both_71  x0 x1 x2 s0 S) := by
  unfold fR_both_71
  refine j_iload_n (pc := 71) 0 C dX10_both_71 rfl rfl ?_
  refine j_bipush (pc := 72) 6 C dX10_both_72 (by decide) ?_
  refine j_icmp_ne (pc := 74) 81 C dX10_both_74 (by decide) ?_ ?_
  ·
    refine j_iconst (pc := 81) 0 C dX10_both_81 (by decide) ?_
    refine j_sub [1, 2] rfl ?_
    exact bR_both_82 C  x1 x2 0 s0 S
  ·
    refine j_iconst (pc := 77) 1 C dX10_both_77 (by decide) ?_
    refine j_goto (pc := 78) 82 C dX10_both_78 (by decide) ?_
    refine j_sub [1, 2] rfl ?_
    exact bR_both_82 C  x1 x2 1 s0 S
theorem bR_both {E : Ec} {G : Gc}    (C : JC E (VR G 3 0 0 RX10) cX10_both 1 (some .int))    (x0 : Int32) (x1 : Int32) (x2 : Int32) (S : St) : J E (VR G 3 0 0 RX10) 0 0 0 [(0, .int x0), (1, .int x1), (2, .int x2)] [] S (fR_both  x0 x1 x2 S) := by
  unfold fR_both
  refine j_iload_n (pc := 0) 0 C dX10_both_0 rfl rfl ?_
  refine j_iconst (pc := 1) 2 C dX10_both_1 (by decide) ?_
  refine j_icmp_ne (pc := 2) 9 C dX10_both_2 (by decide) ?_ ?_
  ·
    refine j_iload_n (pc := 9) 0 C dX10_both_9 rfl rfl ?_
    refine j_iconst (pc := 10) 3 C dX10_both_10 (by decide) ?_
    refine j_icmp_ne (pc := 11) 18 C dX10_both_11 (by decide) ?_ ?_
    ·
      refine j_iload_n (pc := 18) 0 C dX10_both_18 rfl rfl ?_
      refine j_iconst (pc := 19) 4 C dX10_both_19 (by decide) ?_
      refine j_icmp_ne (pc := 20) 27 C dX10_both_20 (by decide) ?_ ?_
      ·
        refine j_iload_n (pc := 27) 0 C dX10_both_27 rfl rfl ?_
        refine j_iconst (pc := 28) 5 C dX10_both_28 (by decide) ?_
        refine j_icmp_eq (pc := 29) 38 C dX10_both_29 (by decide) ?_ ?_
        ·
          exact bR_both_38 C  x0 x1 x2 S
        ·
          refine j_iload_n (pc := 32) 0 C dX10_both_32 rfl rfl ?_
          refine j_bipush (pc := 33) 8 C dX10_both_33 (by decide) ?_
          refine j_icmp_ne (pc := 35) 61 C dX10_both_35 (by decide) ?_ ?_
          ·
            refine j_iload_n (pc := 61) 1 C dX10_both_61 rfl rfl ?_
            refine j_iload_n (pc := 62) 2 C dX10_both_62 rfl rfl ?_
            refine j_icmp_ge (pc := 63) 70 C dX10_both_63 (by decide) ?_ ?_
            ·
              refine j_iconst (pc := 70) 0 C dX10_both_70 (by decide) ?_
              exact bR_both_71 C  x0 x1 x2 0 S
            ·
              refine j_iconst (pc := 66) 1 C dX10_both_66 (by decide) ?_
              refine j_goto (pc := 67) 71 C dX10_both_67 (by decide) ?_
              exact bR_both_71 C  x0 x1 x2 1 S
          ·
            exact bR_both_38 C  x0 x1 x2 S
      ·
        refine j_iload_n (pc := 23) 1 C dX10_both_23 rfl rfl ?_
        refine j_iload_n (pc := 24) 2 C dX10_both_24 rfl rfl ?_
        refine j_imul (pc := 25) C dX10_both_25 ?_
        exact j_iret C dX10_both_26 rfl (Nat.le_of_ble_eq_true rfl) (Nat.le_of_ble_eq_true rfl)
    ·
      refine j_iload_n (pc := 14) 1 C dX10_both_14 rfl rfl ?_
      refine j_iload_n (pc := 15) 2 C dX10_both_15 rfl rfl ?_
      refine j_isub (pc := 16) C dX10_both_16 ?_
      exact j_iret C dX10_both_17 rfl (Nat.le_of_ble_eq_true rfl) (Nat.le_of_ble_eq_true rfl)
  ·
    refine j_iload_n (pc := 5) 1 C dX10_both_5 rfl rfl ?_
    refine j_iload_n (pc := 6) 2 C dX10_both_6 rfl rfl ?_
    refine j_iadd (pc := 7) C dX10_both_7 ?_
    exact j_iret C dX10_both_8 rfl (Nat.le_of_ble_eq_true rfl) (Nat.le_of_ble_eq_true rfl)
theorem cR_both {l : Launch} {G : Gc} (hfl : l.stackTraces = false) (hW : Wok G wR 26)   (x0 : Int32) (x1 : Int32) (x2 : Int32) (S : St) : Ct l yX10_both (Cond.code yX10_both cX10_both 3 (some .int) :: tblG) 1 0 0 G wR 26 [.int x0, .int x1, .int x2] S (fR_both x0 x1 x2 S) := ct_of (own := RX10) hfl (by decide +kernel) rfl hW (Nat.le_of_ble_eq_true rfl) (fun E hE C => by subst hE; exact bR_both C   x0 x1 x2 S)
theorem rR_both {E : Ec} {G : Gc} {nL mc ms : Nat} {own : String} {cc : ByteArray} {L : Nat} {ret : Option FieldType} {k n pc ix : Nat} {loc : List (Nat × Value)} {rest : List Value}  {x0 : Int32} {x1 : Int32} {x2 : Int32} {S : St}  (C : JC E (VR G nL mc ms own) cc L ret) (hd : decode cc pc = .ok (.invokestatic ix, 3)) (hq : Cond.methodLink own ix yX10_both ∈ tblG) (hL : 1 + 1 ≤ L) (hW : (rest.map fun v => v.category).sum ≤ 8) (hf : k + 0 ≤ mc ∧ n + 0 ≤ ms) : Rn E (VR G nL mc ms own) k n 0 0 pc loc (.int x2 :: .int x1 :: .int x0 :: rest) rest S (fR_both x0 x1 x2 S) := rn_S (V := VR G nL mc ms own) (As := [.int x0, .int x1, .int x2]) (cR_both C.flags C.wok  x0 x1 x2 S) knX10_both q_1043  C hd hq hL rfl rfl hW hf

theorem knX10_valueNow : Kn yX10_valueNow cX10_valueNow 4 (some .int) 0 := ⟨q_1045, q_815, by decide +kernel, by decide⟩
theorem bR_valueNow_53 {E : Ec} {G : Gc}   {K4 : Int32 → Int32 → St → Oz} (C : JC E (VR G 4 0 0 RX10) cX10_valueNow 2 (some .int))   (hK4 : ∀ (x1 : Int32) (x2 : Int32) (S : St), J E (VR G 4 0 0 RX10) 0 0 4 [(0, .ref (gA G 0)), (1, .int x1), (2, .int x2)] [] S (K4 x1 x2 S)) (x1 : Int32) (x2 : Int32) (s0 : Int32) (s1 : Int32) (S : St) : J E (VR G 4 0 0 RX10) 0 0 53 [(0, .ref (gA G 0)), (1, .int x1), (2, .int x2)] [.int s0, .int s1, .ref (gA G 13)] S (fR_valueNow_53 K4 x1 x2 s0 s1 S) := by
  unfold fR_valueNow_53
  refine sR_13 (pc := 53) C dX10_valueNow_53 ?_
  refine j_nxS (fun T1 => ?_)
  refine j_iinc (pc := 54) 1 (x1 + 1) [(1, .int (x1 + 1)), (0, .ref (gA G 0)), (2, .int x2)] C dX10_valueNow_54 rfl rfl (Nat.le_of_ble_eq_true rfl) rfl ?_
  refine j_goto (pc := 57) 89 C dX10_valueNow_57 (by decide) ?_
  refine j_iinc (pc := 89) 2 (x2 + 1) [(2, .int (x2 + 1)), (1, .int (x1 + 1)), (0, .ref (gA G 0))] C dX10_valueNow_89 rfl rfl (Nat.le_of_ble_eq_true rfl) rfl ?_
  refine j_goto (pc := 92) 4 C dX10_valueNow_92 (by decide) ?_
  refine j_sub [2, 1, 0] rfl ?_
  exact hK4 (x1 + 1) (x2 + 1) T1
theorem bR_valueNow_4 {E : Ec} {G : Gc}    (C : JC E (VR G 4 0 0 RX10) cX10_valueNow 2 (some .int))    : ∀ (n : Nat) (x1 : Int32) (x2 : Int32) (S : St), J E (VR G 4 0 0 RX10) 0 0 4 [(0, .ref (gA G 0)), (1, .int x1), (2, .int x2)] [] S (fR_valueNow_4  n x1 x2 S) := by
  intro n
  induction n with
  | zero => intro x1 x2 S; rw [fR_valueNow_4]; exact j_none
  | succ n ih =>
    intro x1 x2 S
    rw [fR_valueNow_4]
    refine j_iload_n (pc := 4) 2 C dX10_valueNow_4 rfl rfl ?_
    refine j_aload_n (pc := 5) 0 C dX10_valueNow_5 rfl rfl ?_
    refine gR_0_30 (pc := 6) C dX10_valueNow_6 q_894 ?_
    refine j_icmp_ge (pc := 9) 95 C dX10_valueNow_9 (by decide) ?_ ?_
    ·
      refine j_aload_n (pc := 95) 0 C dX10_valueNow_95 rfl rfl ?_
      refine gR_0_28 (pc := 96) C dX10_valueNow_96 q_1041 ?_
      refine j_iconst (pc := 99) 0 C dX10_valueNow_99 (by decide) ?_
      refine acR_13 (pc := 100) C dX10_valueNow_100 rfl ?_
      exact j_iret C dX10_valueNow_101 rfl (Nat.le_of_ble_eq_true rfl) (Nat.le_of_ble_eq_true rfl)
    ·
      refine j_aload_n (pc := 12) 0 C dX10_valueNow_12 rfl rfl ?_
      refine gR_0_26 (pc := 13) C dX10_valueNow_13 q_961 ?_
      refine j_iload_n (pc := 16) 2 C dX10_valueNow_16 rfl rfl ?_
      refine aR_11 (pc := 17) C dX10_valueNow_17 ?_
      refine j_nxI (fun v1 => ?_)
      refine j_istore_n (pc := 18) [(3, .int v1), (0, .ref (gA G 0)), (1, .int x1), (2, .int x2)] C dX10_valueNow_18 rfl (Nat.le_of_ble_eq_true rfl) rfl ?_
      refine j_iload_n (pc := 19) 0 C dX10_valueNow_19 rfl rfl ?_
      refine j_iconst (pc := 20) 1 C dX10_valueNow_20 (by decide) ?_
      refine j_icmp_gt (pc := 21) 60 C dX10_valueNow_21 (by decide) ?_ ?_
      ·
        refine j_iinc (pc := 60) 2 (x1 + (-1)) [(1, .int (x1 + (-1))), (3, .int v1), (0, .ref (gA G 0)), (2, .int x2)] C dX10_valueNow_60 rfl rfl (Nat.le_of_ble_eq_true rfl) rfl ?_
        refine j_aload_n (pc := 63) 2 C dX10_valueNow_63 rfl rfl ?_
        refine gR_0_28 (pc := 64) C dX10_valueNow_64 q_1041 ?_
        refine j_iload_n (pc := 67) 0 C dX10_valueNow_67 rfl rfl ?_
        refine j_iconst (pc := 68) 1 C dX10_valueNow_68 (by decide) ?_
        refine j_isub (pc := 69) C dX10_valueNow_69 ?_
        refine j_iload_n (pc := 70) 1 C dX10_valueNow_70 rfl rfl ?_
        refine j_aload_n (pc := 71) 2 C dX10_valueNow_71 rfl rfl ?_
        refine gR_0_28 (pc := 72) C dX10_valueNow_72 q_1041 ?_
        refine j_iload_n (pc := 75) 0 C dX10_valueNow_75 rfl rfl ?_
        refine j_iconst (pc := 76) 1 C dX10_valueNow_76 (by decide) ?_
        refine j_isub (pc := 77) C dX10_valueNow_77 ?_
        refine aR_13 (pc := 78) C dX10_valueNow_78 ?_
        refine j_aload_n (pc := 79) 2 C dX10_valueNow_79 rfl rfl ?_
        refine gR_0_28 (pc := 80) C dX10_valueNow_80 q_1041 ?_
        refine j_iload_n (pc := 83) 0 C dX10_valueNow_83 rfl rfl ?_
        refine aR_13 (pc := 84) C dX10_valueNow_84 ?_
        refine j_callI0 (pc := 85) C (rR_both C dX10_valueNow_85 q_1044 (by omega) (Nat.le_of_ble_eq_true rfl) ⟨Nat.le_of_ble_eq_true rfl, Nat.le_of_ble_eq_true rfl⟩) ⟨Nat.le_of_ble_eq_true rfl, Nat.le_of_ble_eq_true rfl⟩ (fun r3 T2 => ?_)
        refine sR_13 (pc := 88) C dX10_valueNow_88 ?_
        refine j_nxS (fun T4 => ?_)
        refine j_iinc (pc := 89) 3 (x2 + 1) [(2, .int (x2 + 1)), (1, .int (x1 + (-1))), (3, .int v1), (0, .ref (gA G 0))] C dX10_valueNow_89 rfl rfl (Nat.le_of_ble_eq_true rfl) rfl ?_
        refine j_goto (pc := 92) 4 C dX10_valueNow_92 (by decide) ?_
        refine j_sub [3, 1, 0] rfl ?_
        exact ih (x1 + (-1)) (x2 + 1) T4
      ·
        refine j_aload_n (pc := 24) 1 C dX10_valueNow_24 rfl rfl ?_
        refine gR_0_28 (pc := 25) C dX10_valueNow_25 q_1041 ?_
        refine j_iload_n (pc := 28) 2 C dX10_valueNow_28 rfl rfl ?_
        refine j_iload_n (pc := 29) 0 C dX10_valueNow_29 rfl rfl ?_
        refine j_if_ne (pc := 30) 42 C dX10_valueNow_30 (by decide) ?_ ?_
        ·
          refine j_aload_n (pc := 42) 1 C dX10_valueNow_42 rfl rfl ?_
          refine gR_0_31 (pc := 43) C dX10_valueNow_43 q_1040 ?_
          refine j_aload_n (pc := 46) 1 C dX10_valueNow_46 rfl rfl ?_
          refine gR_0_27 (pc := 47) C dX10_valueNow_47 q_962 ?_
          refine j_iload_n (pc := 50) 3 C dX10_valueNow_50 rfl rfl ?_
          refine aR_12 (pc := 51) C dX10_valueNow_51 ?_
          refine aR_14 (pc := 52) C dX10_valueNow_52 ?_
          refine j_sub [1, 2, 3] rfl ?_
          exact bR_valueNow_53 C ih x1 x2 (rA S 14 (rA S 12 x2)) x1 S
        ·
          refine j_aload_n (pc := 33) 1 C dX10_valueNow_33 rfl rfl ?_
          refine gR_0_27 (pc := 34) C dX10_valueNow_34 q_962 ?_
          refine j_iload_n (pc := 37) 3 C dX10_valueNow_37 rfl rfl ?_
          refine aR_12 (pc := 38) C dX10_valueNow_38 ?_
          refine j_goto (pc := 39) 53 C dX10_valueNow_39 (by decide) ?_
          refine j_sub [1, 2, 3] rfl ?_
          exact bR_valueNow_53 C ih x1 x2 (rA S 12 x2) x1 S
theorem bR_valueNow {E : Ec} {G : Gc}    (C : JC E (VR G 4 0 0 RX10) cX10_valueNow 2 (some .int))     (S : St) : J E (VR G 4 0 0 RX10) 0 0 0 [(0, .ref (gA G 0))] [] S (fR_valueNow   S) := by
  unfold fR_valueNow
  refine j_iconst (pc := 0) 0 C dX10_valueNow_0 (by decide) ?_
  refine j_istore_n (pc := 1) [(1, .int 0), (0, .ref (gA G 0))] C dX10_valueNow_1 rfl (Nat.le_of_ble_eq_true rfl) rfl ?_
  refine j_iconst (pc := 2) 0 C dX10_valueNow_2 (by decide) ?_
  refine j_istore_n (pc := 3) [(2, .int 0), (1, .int 0), (0, .ref (gA G 0))] C dX10_valueNow_3 rfl (Nat.le_of_ble_eq_true rfl) rfl ?_
  refine j_sub [2, 1, 0] rfl ?_
  exact bR_valueNow_4 C  FU 0 0 S
theorem cR_valueNow {l : Launch} {G : Gc} (hfl : l.stackTraces = false) (hW : Wok G wR 26)    (S : St) : Ct l yX10_valueNow (Cond.code yX10_valueNow cX10_valueNow 4 (some .int) :: tblG) 2 0 0 G wR 26 [.ref (gA G 0)] S (fR_valueNow  S) := ct_of (own := RX10) hfl (by decide +kernel) rfl hW (Nat.le_of_ble_eq_true rfl) (fun E hE C => by subst hE; exact bR_valueNow C    S)
theorem rR_valueNow {E : Ec} {G : Gc} {nL mc ms : Nat} {own : String} {cc : ByteArray} {L : Nat} {ret : Option FieldType} {k n pc ix : Nat} {loc : List (Nat × Value)} {rest : List Value}   {S : St}  (C : JC E (VR G nL mc ms own) cc L ret) (hd : decode cc pc = .ok (.invokevirtual ix, 3)) (hq : Cond.methodLink own ix yX10_valueNow ∈ tblG) (hL : 2 + 1 ≤ L) (hW : (rest.map fun v => v.category).sum ≤ 8) (hf : k + 0 ≤ mc ∧ n + 0 ≤ ms) : Rn E (VR G nL mc ms own) k n 0 0 pc loc (.ref (gA G 0) :: rest) rest S (fR_valueNow  S) := rn_V (ci := 10) 0 (V := VR G nL mc ms own) (As := []) (Cq := (RX10, TX10, 53)) (cR_valueNow C.flags C.wok   S) knX10_valueNow ⟨q_1046, q_1047⟩ rfl rfl C hd hq hL rfl rfl hW hf

theorem knX10_learnsNow : Kn yX10_learnsNow cX10_learnsNow 2 (some .int) 0 := ⟨q_1049, q_815, by decide +kernel, by decide⟩
theorem bR_learnsNow_23 {E : Ec} {G : Gc}    (C : JC E (VR G 2 0 0 RX10) cX10_learnsNow 3 (some .int))    (s0 : Int32) (S : St) : J E (VR G 2 0 0 RX10) 0 0 23 [] [.int s0] S (fR_learnsNow_23  s0 S) := by
  unfold fR_learnsNow_23
  refine j_istore_n (pc := 23) [(1, .int s0)] C dX10_learnsNow_23 rfl (Nat.le_of_ble_eq_true rfl) rfl ?_
  refine j_iload_n (pc := 24) 0 C dX10_learnsNow_24 rfl rfl ?_
  refine j_if_ge (pc := 25) 32 C dX10_learnsNow_25 (by decide) ?_ ?_
  ·
    refine j_iload_n (pc := 32) 0 C dX10_learnsNow_32 rfl rfl ?_
    refine j_bipush (pc := 33) 20 C dX10_learnsNow_33 (by decide) ?_
    refine j_icmp_le (pc := 35) 43 C dX10_learnsNow_35 (by decide) ?_ ?_
    ·
      refine j_iload_n (pc := 43) 0 C dX10_learnsNow_43 rfl rfl ?_
      exact j_iret C dX10_learnsNow_44 rfl (Nat.le_of_ble_eq_true rfl) (Nat.le_of_ble_eq_true rfl)
    ·
      refine j_bipush (pc := 38) 20 C dX10_learnsNow_38 (by decide) ?_
      refine j_goto (pc := 40) 44 C dX10_learnsNow_40 (by decide) ?_
      exact j_iret C dX10_learnsNow_44 rfl (Nat.le_of_ble_eq_true rfl) (Nat.le_of_ble_eq_true rfl)
  ·
    refine j_iconst (pc := 28) 0 C dX10_learnsNow_28 (by decide) ?_
    refine j_goto (pc := 29) 44 C dX10_learnsNow_29 (by decide) ?_
    exact j_iret C dX10_learnsNow_44 rfl (Nat.le_of_ble_eq_true rfl) (Nat.le_of_ble_eq_true rfl)
theorem bR_learnsNow {E : Ec} {G : Gc}    (C : JC E (VR G 2 0 0 RX10) cX10_learnsNow 3 (some .int))     (S : St) : J E (VR G 2 0 0 RX10) 0 0 0 [(0, .ref (gA G 0))] [] S (fR_learnsNow   S) := by
  unfold fR_learnsNow
  refine j_aload_n (pc := 0) 0 C dX10_learnsNow_0 rfl rfl ?_
  refine gR_0_30 (pc := 1) C dX10_learnsNow_1 q_894 ?_
  refine j_if_ne (pc := 4) 19 C dX10_learnsNow_4 (by decide) ?_ ?_
  ·
    refine j_aload_n (pc := 19) 0 C dX10_learnsNow_19 rfl rfl ?_
    refine j_callI0 (pc := 20) C (rR_valueNow C dX10_learnsNow_20 q_1048 (by omega) (Nat.le_of_ble_eq_true rfl) ⟨Nat.le_of_ble_eq_true rfl, Nat.le_of_ble_eq_true rfl⟩) ⟨Nat.le_of_ble_eq_true rfl, Nat.le_of_ble_eq_true rfl⟩ (fun r2 T1 => ?_)
    refine j_sub [] rfl ?_
    exact bR_learnsNow_23 C  r2 T1
  ·
    refine j_bipush (pc := 7) 9 C dX10_learnsNow_7 (by decide) ?_
    refine j_aload_n (pc := 9) 0 C dX10_learnsNow_9 rfl rfl ?_
    refine gR_0_31 (pc := 10) C dX10_learnsNow_10 q_1040 ?_
    refine j_iconst (pc := 13) 1 C dX10_learnsNow_13 (by decide) ?_
    refine acR_14 (pc := 14) C dX10_learnsNow_14 rfl ?_
    refine j_isub (pc := 15) C dX10_learnsNow_15 ?_
    refine j_goto (pc := 16) 23 C dX10_learnsNow_16 (by decide) ?_
    refine j_sub [] rfl ?_
    exact bR_learnsNow_23 C  (9 - (rA S 14 1)) S
theorem cR_learnsNow {l : Launch} {G : Gc} (hfl : l.stackTraces = false) (hW : Wok G wR 26)    (S : St) : Ct l yX10_learnsNow (Cond.code yX10_learnsNow cX10_learnsNow 2 (some .int) :: tblG) 3 0 0 G wR 26 [.ref (gA G 0)] S (fR_learnsNow  S) := ct_of (own := RX10) hfl (by decide +kernel) rfl hW (Nat.le_of_ble_eq_true rfl) (fun E hE C => by subst hE; exact bR_learnsNow C    S)
theorem rR_learnsNow {E : Ec} {G : Gc} {nL mc ms : Nat} {own : String} {cc : ByteArray} {L : Nat} {ret : Option FieldType} {k n pc ix : Nat} {loc : List (Nat × Value)} {rest : List Value}   {S : St}  (C : JC E (VR G nL mc ms own) cc L ret) (hd : decode cc pc = .ok (.invokevirtual ix, 3)) (hq : Cond.methodLink own ix yX10_learnsNow ∈ tblG) (hL : 3 + 1 ≤ L) (hW : (rest.map fun v => v.category).sum ≤ 8) (hf : k + 0 ≤ mc ∧ n + 0 ≤ ms) : Rn E (VR G nL mc ms own) k n 0 0 pc loc (.ref (gA G 0) :: rest) rest S (fR_learnsNow  S) := rn_V (ci := 10) 0 (V := VR G nL mc ms own) (As := []) (Cq := (RX10, TX10, 53)) (cR_learnsNow C.flags C.wok   S) knX10_learnsNow ⟨q_1050, q_1051⟩ rfl rfl C hd hq hL rfl rfl hW hf

theorem knX10_learnsOf : Kn yX10_learnsOf cX10_learnsOf 9 (some .int) 8 := ⟨q_1053, q_815, by decide +kernel, by decide⟩
theorem bR_learnsOf {E : Ec} {G : Gc}    (C : JC E (VR G 9 0 0 RX10) cX10_learnsOf 4 (some .int))    (x1 : Int32) (x2 : Int32) (x3 : Int32) (x4 : Int32) (x5 : Int32) (x6 : Int32) (x7 : Int32) (x8 : Int32) (S : St) : J E (VR G 9 0 0 RX10) 0 0 0 [(0, .ref (gA G 0)), (1, .int x1), (2, .int x2), (3, .int x3), (4, .int x4), (5, .int x5), (6, .int x6), (7, .int x7), (8, .int x8)] [] S (fR_learnsOf  x1 x2 x3 x4 x5 x6 x7 x8 S) := by
  unfold fR_learnsOf
  refine j_aload_n (pc := 0) 0 C dX10_learnsOf_0 rfl rfl ?_
  refine gR_0_31 (pc := 1) C dX10_learnsOf_1 q_1040 ?_
  refine j_iconst (pc := 4) 0 C dX10_learnsOf_4 (by decide) ?_
  refine j_iload_n (pc := 5) 1 C dX10_learnsOf_5 rfl rfl ?_
  refine scR_14 (pc := 6) C dX10_learnsOf_6 rfl ?_
  refine j_nxS (fun T1 => ?_)
  refine j_aload_n (pc := 7) 0 C dX10_learnsOf_7 rfl rfl ?_
  refine gR_0_31 (pc := 8) C dX10_learnsOf_8 q_1040 ?_
  refine j_iconst (pc := 11) 1 C dX10_learnsOf_11 (by decide) ?_
  refine j_iload_n (pc := 12) 2 C dX10_learnsOf_12 rfl rfl ?_
  refine scR_14 (pc := 13) C dX10_learnsOf_13 rfl ?_
  refine j_nxS (fun T2 => ?_)
  refine j_aload_n (pc := 14) 0 C dX10_learnsOf_14 rfl rfl ?_
  refine gR_0_31 (pc := 15) C dX10_learnsOf_15 q_1040 ?_
  refine j_iconst (pc := 18) 2 C dX10_learnsOf_18 (by decide) ?_
  refine j_iload_n (pc := 19) 3 C dX10_learnsOf_19 rfl rfl ?_
  refine scR_14 (pc := 20) C dX10_learnsOf_20 rfl ?_
  refine j_nxS (fun T3 => ?_)
  refine j_aload_n (pc := 21) 0 C dX10_learnsOf_21 rfl rfl ?_
  refine gR_0_31 (pc := 22) C dX10_learnsOf_22 q_1040 ?_
  refine j_iconst (pc := 25) 3 C dX10_learnsOf_25 (by decide) ?_
  refine j_iload (pc := 26) 4 C dX10_learnsOf_26 rfl ?_
  refine scR_14 (pc := 28) C dX10_learnsOf_28 rfl ?_
  refine j_nxS (fun T4 => ?_)
  refine j_aload_n (pc := 29) 0 C dX10_learnsOf_29 rfl rfl ?_
  refine gR_0_31 (pc := 30) C dX10_learnsOf_30 q_1040 ?_
  refine j_iconst (pc := 33) 4 C dX10_learnsOf_33 (by decide) ?_
  refine j_iload (pc := 34) 5 C dX10_learnsOf_34 rfl ?_
  refine scR_14 (pc := 36) C dX10_learnsOf_36 rfl ?_
  refine j_nxS (fun T5 => ?_)
  refine j_aload_n (pc := 37) 0 C dX10_learnsOf_37 rfl rfl ?_
  refine gR_0_31 (pc := 38) C dX10_learnsOf_38 q_1040 ?_
  refine j_iconst (pc := 41) 5 C dX10_learnsOf_41 (by decide) ?_
  refine j_iload (pc := 42) 6 C dX10_learnsOf_42 rfl ?_
  refine scR_14 (pc := 44) C dX10_learnsOf_44 rfl ?_
  refine j_nxS (fun T6 => ?_)
  refine j_aload_n (pc := 45) 0 C dX10_learnsOf_45 rfl rfl ?_
  refine gR_0_31 (pc := 46) C dX10_learnsOf_46 q_1040 ?_
  refine j_bipush (pc := 49) 6 C dX10_learnsOf_49 (by decide) ?_
  refine j_iload (pc := 51) 7 C dX10_learnsOf_51 rfl ?_
  refine scR_14 (pc := 53) C dX10_learnsOf_53 rfl ?_
  refine j_nxS (fun T7 => ?_)
  refine j_aload_n (pc := 54) 0 C dX10_learnsOf_54 rfl rfl ?_
  refine gR_0_31 (pc := 55) C dX10_learnsOf_55 q_1040 ?_
  refine j_bipush (pc := 58) 7 C dX10_learnsOf_58 (by decide) ?_
  refine j_iload (pc := 60) 8 C dX10_learnsOf_60 rfl ?_
  refine scR_14 (pc := 62) C dX10_learnsOf_62 rfl ?_
  refine j_nxS (fun T8 => ?_)
  refine j_aload_n (pc := 63) 0 C dX10_learnsOf_63 rfl rfl ?_
  refine j_callI0 (pc := 64) C (rR_learnsNow C dX10_learnsOf_64 q_1052 (by omega) (Nat.le_of_ble_eq_true rfl) ⟨Nat.le_of_ble_eq_true rfl, Nat.le_of_ble_eq_true rfl⟩) ⟨Nat.le_of_ble_eq_true rfl, Nat.le_of_ble_eq_true rfl⟩ (fun r10 T9 => ?_)
  exact j_iret C dX10_learnsOf_67 rfl (Nat.le_of_ble_eq_true rfl) (Nat.le_of_ble_eq_true rfl)
theorem cR_learnsOf {l : Launch} {G : Gc} (hfl : l.stackTraces = false) (hW : Wok G wR 26)   (x1 : Int32) (x2 : Int32) (x3 : Int32) (x4 : Int32) (x5 : Int32) (x6 : Int32) (x7 : Int32) (x8 : Int32) (S : St) : Ct l yX10_learnsOf (Cond.code yX10_learnsOf cX10_learnsOf 9 (some .int) :: tblG) 4 0 0 G wR 26 [.ref (gA G 0), .int x1, .int x2, .int x3, .int x4, .int x5, .int x6, .int x7, .int x8] S (fR_learnsOf x1 x2 x3 x4 x5 x6 x7 x8 S) := ct_of (own := RX10) hfl (by decide +kernel) rfl hW (Nat.le_of_ble_eq_true rfl) (fun E hE C => by subst hE; exact bR_learnsOf C   x1 x2 x3 x4 x5 x6 x7 x8 S)
theorem rR_learnsOf {E : Ec} {G : Gc} {nL mc ms : Nat} {own : String} {cc : ByteArray} {L : Nat} {ret : Option FieldType} {k n pc ix : Nat} {loc : List (Nat × Value)} {rest : List Value}  {x1 : Int32} {x2 : Int32} {x3 : Int32} {x4 : Int32} {x5 : Int32} {x6 : Int32} {x7 : Int32} {x8 : Int32} {S : St}  (C : JC E (VR G nL mc ms own) cc L ret) (hd : decode cc pc = .ok (.invokevirtual ix, 3)) (hq : Cond.methodLink own ix yX10_learnsOf ∈ tblG) (hL : 4 + 1 ≤ L) (hW : (rest.map fun v => v.category).sum ≤ 8) (hf : k + 0 ≤ mc ∧ n + 0 ≤ ms) : Rn E (VR G nL mc ms own) k n 0 0 pc loc (.int x8 :: .int x7 :: .int x6 :: .int x5 :: .int x4 :: .int x3 :: .int x2 :: .int x1 :: .ref (gA G 0) :: rest) rest S (fR_learnsOf x1 x2 x3 x4 x5 x6 x7 x8 S) := rn_V (ci := 10) 0 (V := VR G nL mc ms own) (As := [.int x1, .int x2, .int x3, .int x4, .int x5, .int x6, .int x7, .int x8]) (Cq := (RX10, TX10, 53)) (cR_learnsOf C.flags C.wok  x1 x2 x3 x4 x5 x6 x7 x8 S) knX10_learnsOf ⟨q_1054, q_1055⟩ rfl rfl C hd hq hL rfl rfl hW hf

theorem knX10_learnsBy : Kn yX10_learnsBy cX10_learnsBy 3 (some .int) 2 := ⟨q_1057, q_815, by decide +kernel, by decide⟩
theorem bR_learnsBy {E : Ec} {G : Gc}    (C : JC E (VR G 3 0 0 RX10) cX10_learnsBy 5 (some .int))    (x1 : Int32) (x2 : Int32) (S : St) : J E (VR G 3 0 0 RX10) 0 0 0 [(0, .ref (gA G 0)), (1, .int x1), (2, .int x2)] [] S (fR_learnsBy  x1 x2 S) := by
  unfold fR_learnsBy
  refine j_aload_n (pc := 0) 0 C dX10_learnsBy_0 rfl rfl ?_
  refine j_aload_n (pc := 1) 0 C dX10_learnsBy_1 rfl rfl ?_
  refine gR_0_13 (pc := 2) C dX10_learnsBy_2 q_885 ?_
  refine j_iconst (pc := 5) 2 C dX10_learnsBy_5 (by decide) ?_
  refine j_iload_n (pc := 6) 2 C dX10_learnsBy_6 rfl rfl ?_
  refine j_imul (pc := 7) C dX10_learnsBy_7 ?_
  refine aR_6 (pc := 8) C dX10_learnsBy_8 ?_
  refine j_aload_n (pc := 9) 0 C dX10_learnsBy_9 rfl rfl ?_
  refine gR_0_13 (pc := 10) C dX10_learnsBy_10 q_885 ?_
  refine j_iconst (pc := 13) 2 C dX10_learnsBy_13 (by decide) ?_
  refine j_iload_n (pc := 14) 2 C dX10_learnsBy_14 rfl rfl ?_
  refine j_imul (pc := 15) C dX10_learnsBy_15 ?_
  refine j_iconst (pc := 16) 1 C dX10_learnsBy_16 (by decide) ?_
  refine j_iadd (pc := 17) C dX10_learnsBy_17 ?_
  refine aR_6 (pc := 18) C dX10_learnsBy_18 ?_
  refine j_aload_n (pc := 19) 0 C dX10_learnsBy_19 rfl rfl ?_
  refine j_iload_n (pc := 20) 1 C dX10_learnsBy_20 rfl rfl ?_
  refine j_iload_n (pc := 21) 2 C dX10_learnsBy_21 rfl rfl ?_
  refine j_callI0 (pc := 22) C (rR_knownOf C dX10_learnsBy_22 q_991 (by omega) (Nat.le_of_ble_eq_true rfl) ⟨Nat.le_of_ble_eq_true rfl, Nat.le_of_ble_eq_true rfl⟩) ⟨Nat.le_of_ble_eq_true rfl, Nat.le_of_ble_eq_true rfl⟩ (fun r2 T1 => ?_)
  refine j_aload_n (pc := 25) 0 C dX10_learnsBy_25 rfl rfl ?_
  refine j_iload_n (pc := 26) 1 C dX10_learnsBy_26 rfl rfl ?_
  refine j_callI0 (pc := 27) C (rR_roomOf C dX10_learnsBy_27 q_1039 (by omega) (Nat.le_of_ble_eq_true rfl) ⟨Nat.le_of_ble_eq_true rfl, Nat.le_of_ble_eq_true rfl⟩) ⟨Nat.le_of_ble_eq_true rfl, Nat.le_of_ble_eq_true rfl⟩ (fun r4 T3 => ?_)
  refine j_aload_n (pc := 30) 0 C dX10_learnsBy_30 rfl rfl ?_
  refine gR_0_41 (pc := 31) C dX10_learnsBy_31 q_980 ?_
  refine j_bipush (pc := 34) 48 C dX10_learnsBy_34 (by decide) ?_
  refine j_iload_n (pc := 36) 1 C dX10_learnsBy_36 rfl rfl ?_
  refine j_iadd (pc := 37) C dX10_learnsBy_37 ?_
  refine aR_18 (pc := 38) C dX10_learnsBy_38 ?_
  refine j_aload_n (pc := 39) 0 C dX10_learnsBy_39 rfl rfl ?_
  refine gR_0_41 (pc := 40) C dX10_learnsBy_40 q_980 ?_
  refine j_bipush (pc := 43) 60 C dX10_learnsBy_43 (by decide) ?_
  refine j_iload_n (pc := 45) 1 C dX10_learnsBy_45 rfl rfl ?_
  refine j_iadd (pc := 46) C dX10_learnsBy_46 ?_
  refine aR_18 (pc := 47) C dX10_learnsBy_47 ?_
  refine j_aload_n (pc := 48) 0 C dX10_learnsBy_48 rfl rfl ?_
  refine gR_0_41 (pc := 49) C dX10_learnsBy_49 q_980 ?_
  refine j_bipush (pc := 52) 94 C dX10_learnsBy_52 (by decide) ?_
  refine acR_18 (pc := 54) C dX10_learnsBy_54 rfl ?_
  refine j_iload_n (pc := 55) 1 C dX10_learnsBy_55 rfl rfl ?_
  refine j_callI0 (pc := 56) C (rR_learnsOf C dX10_learnsBy_56 q_1056 (by omega) (Nat.le_of_ble_eq_true rfl) ⟨Nat.le_of_ble_eq_true rfl, Nat.le_of_ble_eq_true rfl⟩) ⟨Nat.le_of_ble_eq_true rfl, Nat.le_of_ble_eq_true rfl⟩ (fun r6 T5 => ?_)
  exact j_iret C dX10_learnsBy_59 rfl (Nat.le_of_ble_eq_true rfl) (Nat.le_of_ble_eq_true rfl)
theorem cR_learnsBy {l : Launch} {G : Gc} (hfl : l.stackTraces = false) (hW : Wok G wR 26)   (x1 : Int32) (x2 : Int32) (S : St) : Ct l yX10_learnsBy (Cond.code yX10_learnsBy cX10_learnsBy 3 (some .int) :: tblG) 5 0 0 G wR 26 [.ref (gA G 0), .int x1, .int x2] S (fR_learnsBy x1 x2 S) := ct_of (own := RX10) hfl (by decide +kernel) rfl hW (Nat.le_of_ble_eq_true rfl) (fun E hE C => by subst hE; exact bR_learnsBy C   x1 x2 S)
theorem rR_learnsBy {E : Ec} {G : Gc} {nL mc ms : Nat} {own : String} {cc : ByteArray} {L : Nat} {ret : Option FieldType} {k n pc ix : Nat} {loc : List (Nat × Value)} {rest : List Value}  {x1 : Int32} {x2 : Int32} {S : St}  (C : JC E (VR G nL mc ms own) cc L ret) (hd : decode cc pc = .ok (.invokevirtual ix, 3)) (hq : Cond.methodLink own ix yX10_learnsBy ∈ tblG) (hL : 5 + 1 ≤ L) (hW : (rest.map fun v => v.category).sum ≤ 8) (hf : k + 0 ≤ mc ∧ n + 0 ≤ ms) : Rn E (VR G nL mc ms own) k n 0 0 pc loc (.int x2 :: .int x1 :: .ref (gA G 0) :: rest) rest S (fR_learnsBy x1 x2 S) := rn_V (ci := 10) 0 (V := VR G nL mc ms own) (As := [.int x1, .int x2]) (Cq := (RX10, TX10, 53)) (cR_learnsBy C.flags C.wok  x1 x2 S) knX10_learnsBy ⟨q_1058, q_1059⟩ rfl rfl C hd hq hL rfl rfl hW hf

theorem knX10_moreBy : Kn yX10_moreBy cX10_moreBy 5 (some .int) 2 := ⟨q_1061, q_815, by decide +kernel, by decide⟩
theorem bR_moreBy_42 {E : Ec} {G : Gc}    (C : JC E (VR G 5 0 0 RX10) cX10_moreBy 6 (some .int))    (x4 : Int32) (s0 : Int32) (S : St) : J E (VR G 5 0 0 RX10) 0 0 42 [(4, .int x4)] [.int s0] S (fR_moreBy_42  x4 s0 S) := by
  unfold fR_moreBy_42
  refine j_istore_n (pc := 42) [(3, .int s0), (4, .int x4)] C dX10_moreBy_42 rfl (Nat.le_of_ble_eq_true rfl) rfl ?_
  refine j_iload (pc := 43) 1 C dX10_moreBy_43 rfl ?_
  refine j_iload_n (pc := 45) 0 C dX10_moreBy_45 rfl rfl ?_
  refine j_icmp_ge (pc := 46) 54 C dX10_moreBy_46 (by decide) ?_ ?_
  ·
    refine j_iload_n (pc := 54) 0 C dX10_moreBy_54 rfl rfl ?_
    exact j_iret C dX10_moreBy_55 rfl (Nat.le_of_ble_eq_true rfl) (Nat.le_of_ble_eq_true rfl)
  ·
    refine j_iload (pc := 49) 1 C dX10_moreBy_49 rfl ?_
    refine j_goto (pc := 51) 55 C dX10_moreBy_51 (by decide) ?_
    exact j_iret C dX10_moreBy_55 rfl (Nat.le_of_ble_eq_true rfl) (Nat.le_of_ble_eq_true rfl)
theorem bR_moreBy {E : Ec} {G : Gc}    (C : JC E (VR G 5 0 0 RX10) cX10_moreBy 6 (some .int))    (x1 : Int32) (x2 : Int32) (S : St) : J E (VR G 5 0 0 RX10) 0 0 0 [(0, .ref (gA G 0)), (1, .int x1), (2, .int x2)] [] S (fR_moreBy  x1 x2 S) := by
  unfold fR_moreBy
  refine j_aload_n (pc := 0) 0 C dX10_moreBy_0 rfl rfl ?_
  refine j_iload_n (pc := 1) 1 C dX10_moreBy_1 rfl rfl ?_
  refine j_iload_n (pc := 2) 2 C dX10_moreBy_2 rfl rfl ?_
  refine j_callI0 (pc := 3) C (rR_learnsBy C dX10_moreBy_3 q_1060 (by omega) (Nat.le_of_ble_eq_true rfl) ⟨Nat.le_of_ble_eq_true rfl, Nat.le_of_ble_eq_true rfl⟩) ⟨Nat.le_of_ble_eq_true rfl, Nat.le_of_ble_eq_true rfl⟩ (fun r2 T1 => ?_)
  refine j_istore_n (pc := 6) [(3, .int r2), (0, .ref (gA G 0)), (1, .int x1), (2, .int x2)] C dX10_moreBy_6 rfl (Nat.le_of_ble_eq_true rfl) rfl ?_
  refine j_aload_n (pc := 7) 1 C dX10_moreBy_7 rfl rfl ?_
  refine gR_0_13 (pc := 8) C dX10_moreBy_8 q_885 ?_
  refine j_iconst (pc := 11) 2 C dX10_moreBy_11 (by decide) ?_
  refine j_iload_n (pc := 12) 3 C dX10_moreBy_12 rfl rfl ?_
  refine j_imul (pc := 13) C dX10_moreBy_13 ?_
  refine aR_6 (pc := 14) C dX10_moreBy_14 ?_
  refine j_aload_n (pc := 15) 1 C dX10_moreBy_15 rfl rfl ?_
  refine j_iload_n (pc := 16) 2 C dX10_moreBy_16 rfl rfl ?_
  refine j_iload_n (pc := 17) 3 C dX10_moreBy_17 rfl rfl ?_
  refine j_callI0 (pc := 18) C (rR_knownOf C dX10_moreBy_18 q_991 (by omega) (Nat.le_of_ble_eq_true rfl) ⟨Nat.le_of_ble_eq_true rfl, Nat.le_of_ble_eq_true rfl⟩) ⟨Nat.le_of_ble_eq_true rfl, Nat.le_of_ble_eq_true rfl⟩ (fun r4 T3 => ?_)
  refine j_isub (pc := 21) C dX10_moreBy_21 ?_
  refine j_nxI (fun v5 => ?_)
  refine j_istore (pc := 22) [(4, .int v5), (3, .int r2), (0, .ref (gA G 0)), (1, .int x1), (2, .int x2)] C dX10_moreBy_22 (Nat.le_of_ble_eq_true rfl) rfl ?_
  refine j_aload_n (pc := 24) 2 C dX10_moreBy_24 rfl rfl ?_
  refine j_iload_n (pc := 25) 3 C dX10_moreBy_25 rfl rfl ?_
  refine j_callI0 (pc := 26) C (rR_roomOf C dX10_moreBy_26 q_1039 (by omega) (Nat.le_of_ble_eq_true rfl) ⟨Nat.le_of_ble_eq_true rfl, Nat.le_of_ble_eq_true rfl⟩) ⟨Nat.le_of_ble_eq_true rfl, Nat.le_of_ble_eq_true rfl⟩ (fun r7 T6 => ?_)
  refine j_iload_n (pc := 29) 1 C dX10_moreBy_29 rfl rfl ?_
  refine j_icmp_ge (pc := 30) 41 C dX10_moreBy_30 (by decide) ?_ ?_
  ·
    refine j_iload_n (pc := 41) 1 C dX10_moreBy_41 rfl rfl ?_
    refine j_sub [0] rfl ?_
    exact bR_moreBy_42 C  v5 r2 T6
  ·
    refine j_aload_n (pc := 33) 2 C dX10_moreBy_33 rfl rfl ?_
    refine j_iload_n (pc := 34) 3 C dX10_moreBy_34 rfl rfl ?_
    refine j_callI0 (pc := 35) C (rR_roomOf C dX10_moreBy_35 q_1039 (by omega) (Nat.le_of_ble_eq_true rfl) ⟨Nat.le_of_ble_eq_true rfl, Nat.le_of_ble_eq_true rfl⟩) ⟨Nat.le_of_ble_eq_true rfl, Nat.le_of_ble_eq_true rfl⟩ (fun r9 T8 => ?_)
    refine j_goto (pc := 38) 42 C dX10_moreBy_38 (by decide) ?_
    refine j_sub [0] rfl ?_
    exact bR_moreBy_42 C  v5 r9 T8
theorem cR_moreBy {l : Launch} {G : Gc} (hfl : l.stackTraces = false) (hW : Wok G wR 26)   (x1 : Int32) (x2 : Int32) (S : St) : Ct l yX10_moreBy (Cond.code yX10_moreBy cX10_moreBy 5 (some .int) :: tblG) 6 0 0 G wR 26 [.ref (gA G 0), .int x1, .int x2] S (fR_moreBy x1 x2 S) := ct_of (own := RX10) hfl (by decide +kernel) rfl hW (Nat.le_of_ble_eq_true rfl) (fun E hE C => by subst hE; exact bR_moreBy C   x1 x2 S)
theorem rR_moreBy {E : Ec} {G : Gc} {nL mc ms : Nat} {own : String} {cc : ByteArray} {L : Nat} {ret : Option FieldType} {k n pc ix : Nat} {loc : List (Nat × Value)} {rest : List Value}  {x1 : Int32} {x2 : Int32} {S : St}  (C : JC E (VR G nL mc ms own) cc L ret) (hd : decode cc pc = .ok (.invokevirtual ix, 3)) (hq : Cond.methodLink own ix yX10_moreBy ∈ tblG) (hL : 6 + 1 ≤ L) (hW : (rest.map fun v => v.category).sum ≤ 8) (hf : k + 0 ≤ mc ∧ n + 0 ≤ ms) : Rn E (VR G nL mc ms own) k n 0 0 pc loc (.int x2 :: .int x1 :: .ref (gA G 0) :: rest) rest S (fR_moreBy x1 x2 S) := rn_V (ci := 10) 0 (V := VR G nL mc ms own) (As := [.int x1, .int x2]) (Cq := (RX10, TX10, 53)) (cR_moreBy C.flags C.wok  x1 x2 S) knX10_moreBy ⟨q_1062, q_1063⟩ rfl rfl C hd hq hL rfl rfl hW hf

theorem knX10_isTaught : Kn yX10_isTaught cX10_isTaught 4 (some .boolean) 2 := ⟨q_1065, q_815, by decide +kernel, by decide⟩
theorem bR_isTaught {E : Ec} {G : Gc}    (C : JC E (VR G 4 0 0 RX10) cX10_isTaught 7 (some .boolean))    (x1 : Int32) (x2 : Int32) (S : St) : J E (VR G 4 0 0 RX10) 0 0 0 [(0, .ref (gA G 0)), (1, .int x1), (2, .int x2)] [] S (fR_isTaught  x1 x2 S) := by
  unfold fR_isTaught
  refine j_aload_n (pc := 0) 0 C dX10_isTaught_0 rfl rfl ?_
  refine j_iload_n (pc := 1) 1 C dX10_isTaught_1 rfl rfl ?_
  refine j_iload_n (pc := 2) 2 C dX10_isTaught_2 rfl rfl ?_
  refine j_callI0 (pc := 3) C (rR_moreBy C dX10_isTaught_3 q_1064 (by omega) (Nat.le_of_ble_eq_true rfl) ⟨Nat.le_of_ble_eq_true rfl, Nat.le_of_ble_eq_true rfl⟩) ⟨Nat.le_of_ble_eq_true rfl, Nat.le_of_ble_eq_true rfl⟩ (fun r2 T1 => ?_)
  refine j_istore_n (pc := 6) [(3, .int r2), (0, .ref (gA G 0)), (1, .int x1), (2, .int x2)] C dX10_isTaught_6 rfl (Nat.le_of_ble_eq_true rfl) rfl ?_
  refine j_iload_n (pc := 7) 0 C dX10_isTaught_7 rfl rfl ?_
  refine j_if_gt (pc := 8) 13 C dX10_isTaught_8 (by decide) ?_ ?_
  ·
    refine j_aload_n (pc := 13) 1 C dX10_isTaught_13 rfl rfl ?_
    refine j_iload_n (pc := 14) 2 C dX10_isTaught_14 rfl rfl ?_
    refine j_iload_n (pc := 15) 3 C dX10_isTaught_15 rfl rfl ?_
    refine j_aload_n (pc := 16) 1 C dX10_isTaught_16 rfl rfl ?_
    refine j_iload_n (pc := 17) 2 C dX10_isTaught_17 rfl rfl ?_
    refine j_iload_n (pc := 18) 3 C dX10_isTaught_18 rfl rfl ?_
    refine j_callI0 (pc := 19) C (rR_knownOf C dX10_isTaught_19 q_991 (by omega) (Nat.le_of_ble_eq_true rfl) ⟨Nat.le_of_ble_eq_true rfl, Nat.le_of_ble_eq_true rfl⟩) ⟨Nat.le_of_ble_eq_true rfl, Nat.le_of_ble_eq_true rfl⟩ (fun r4 T3 => ?_)
    refine j_iload_n (pc := 22) 0 C dX10_isTaught_22 rfl rfl ?_
    refine j_iadd (pc := 23) C dX10_isTaught_23 ?_
    refine j_callv0 (pc := 24) C (rR_knowsThen C dX10_isTaught_24 q_995 (by omega) (Nat.le_of_ble_eq_true rfl) ⟨Nat.le_of_ble_eq_true rfl, Nat.le_of_ble_eq_true rfl⟩) ⟨Nat.le_of_ble_eq_true rfl, Nat.le_of_ble_eq_true rfl⟩ (fun T5 => ?_)
    refine j_aload_n (pc := 27) 1 C dX10_isTaught_27 rfl rfl ?_
    refine gR_0_41 (pc := 28) C dX10_isTaught_28 q_980 ?_
    refine j_bipush (pc := 31) 60 C dX10_isTaught_31 (by decide) ?_
    refine j_iload_n (pc := 33) 2 C dX10_isTaught_33 rfl rfl ?_
    refine j_iadd (pc := 34) C dX10_isTaught_34 ?_
    refine j_dup2 (pc := 35) C dX10_isTaught_35 rfl rfl ?_
    refine aR_18 (pc := 36) C dX10_isTaught_36 ?_
    refine j_iconst (pc := 37) 1 C dX10_isTaught_37 (by decide) ?_
    refine j_iadd (pc := 38) C dX10_isTaught_38 ?_
    refine sR_18 (pc := 39) C dX10_isTaught_39 ?_
    refine j_nxS (fun T7 => ?_)
    refine j_aload_n (pc := 40) 1 C dX10_isTaught_40 rfl rfl ?_
    refine gR_0_41 (pc := 41) C dX10_isTaught_41 q_980 ?_
    refine j_bipush (pc := 44) 66 C dX10_isTaught_44 (by decide) ?_
    refine j_iload_n (pc := 46) 2 C dX10_isTaught_46 rfl rfl ?_
    refine j_iadd (pc := 47) C dX10_isTaught_47 ?_
    refine j_dup2 (pc := 48) C dX10_isTaught_48 rfl rfl ?_
    refine aR_18 (pc := 49) C dX10_isTaught_49 ?_
    refine j_iconst (pc := 50) 1 C dX10_isTaught_50 (by decide) ?_
    refine j_iadd (pc := 51) C dX10_isTaught_51 ?_
    refine sR_18 (pc := 52) C dX10_isTaught_52 ?_
    refine j_nxS (fun T8 => ?_)
    refine j_aload_n (pc := 53) 1 C dX10_isTaught_53 rfl rfl ?_
    refine gR_0_41 (pc := 54) C dX10_isTaught_54 q_980 ?_
    refine j_bipush (pc := 57) 78 C dX10_isTaught_57 (by decide) ?_
    refine j_iload_n (pc := 59) 2 C dX10_isTaught_59 rfl rfl ?_
    refine j_iadd (pc := 60) C dX10_isTaught_60 ?_
    refine j_dup2 (pc := 61) C dX10_isTaught_61 rfl rfl ?_
    refine aR_18 (pc := 62) C dX10_isTaught_62 ?_
    refine j_iconst (pc := 63) 1 C dX10_isTaught_63 (by decide) ?_
    refine j_iload_n (pc := 64) 3 C dX10_isTaught_64 rfl rfl ?_
    refine j_ishl (pc := 65) C dX10_isTaught_65 ?_
    refine j_ior (pc := 66) C dX10_isTaught_66 ?_
    refine sR_18 (pc := 67) C dX10_isTaught_67 ?_
    refine j_nxS (fun T9 => ?_)
    refine j_iconst (pc := 68) 1 C dX10_isTaught_68 (by decide) ?_
    exact j_zretc C dX10_isTaught_69 rfl (Nat.le_of_ble_eq_true rfl) (Nat.le_of_ble_eq_true rfl) rfl
  ·
    refine j_iconst (pc := 11) 0 C dX10_isTaught_11 (by decide) ?_
    exact j_zretc C dX10_isTaught_12 rfl (Nat.le_of_ble_eq_true rfl) (Nat.le_of_ble_eq_true rfl) rfl
theorem cR_isTaught {l : Launch} {G : Gc} (hfl : l.stackTraces = false) (hW : Wok G wR 26)   (x1 : Int32) (x2 : Int32) (S : St) : Ct l yX10_isTaught (Cond.code yX10_isTaught cX10_isTaught 4 (some .boolean) :: tblG) 7 0 0 G wR 26 [.ref (gA G 0), .int x1, .int x2] S (fR_isTaught x1 x2 S) := ct_of (own := RX10) hfl (by decide +kernel) rfl hW (Nat.le_of_ble_eq_true rfl) (fun E hE C => by subst hE; exact bR_isTaught C   x1 x2 S)
theorem rR_isTaught {E : Ec} {G : Gc} {nL mc ms : Nat} {own : String} {cc : ByteArray} {L : Nat} {ret : Option FieldType} {k n pc ix : Nat} {loc : List (Nat × Value)} {rest : List Value}  {x1 : Int32} {x2 : Int32} {S : St}  (C : JC E (VR G nL mc ms own) cc L ret) (hd : decode cc pc = .ok (.invokevirtual ix, 3)) (hq : Cond.methodLink own ix yX10_isTaught ∈ tblG) (hL : 7 + 1 ≤ L) (hW : (rest.map fun v => v.category).sum ≤ 8) (hf : k + 0 ≤ mc ∧ n + 0 ≤ ms) : Rn E (VR G nL mc ms own) k n 0 0 pc loc (.int x2 :: .int x1 :: .ref (gA G 0) :: rest) rest S (fR_isTaught x1 x2 S) := rn_V (ci := 10) 0 (V := VR G nL mc ms own) (As := [.int x1, .int x2]) (Cq := (RX10, TX10, 53)) (cR_isTaught C.flags C.wok  x1 x2 S) knX10_isTaught ⟨q_1066, q_1067⟩ rfl rfl C hd hq hL rfl rfl hW hf

theorem knX10_isDone : Kn yX10_isDone cX10_isDone 4 (some .boolean) 3 := ⟨q_1069, q_815, by decide +kernel, by decide⟩
theorem bR_isDone {E : Ec} {G : Gc}    (C : JC E (VR G 4 0 0 RX10) cX10_isDone 8 (some .boolean))    (x1 : Int32) (x2 : Int32) (x3 : Int32) (S : St) : J E (VR G 4 0 0 RX10) 0 0 0 [(0, .ref (gA G 0)), (1, .int x1), (2, .int x2), (3, .int x3)] [] S (fR_isDone  x1 x2 x3 S) := by
  unfold fR_isDone
  refine j_iload_n (pc := 0) 1 C dX10_isDone_0 rfl rfl ?_
  refine j_if_ne (pc := 1) 11 C dX10_isDone_1 (by decide) ?_ ?_
  ·
    refine j_iload_n (pc := 11) 1 C dX10_isDone_11 rfl rfl ?_
    refine j_iconst (pc := 12) 1 C dX10_isDone_12 (by decide) ?_
    refine j_icmp_ne (pc := 13) 23 C dX10_isDone_13 (by decide) ?_ ?_
    ·
      refine j_iload_n (pc := 23) 1 C dX10_isDone_23 rfl rfl ?_
      refine j_iconst (pc := 24) 2 C dX10_isDone_24 (by decide) ?_
      refine j_icmp_ne (pc := 25) 34 C dX10_isDone_25 (by decide) ?_ ?_
      ·
        refine j_iload_n (pc := 34) 1 C dX10_isDone_34 rfl rfl ?_
        refine j_iconst (pc := 35) 3 C dX10_isDone_35 (by decide) ?_
        refine j_icmp_ne (pc := 36) 46 C dX10_isDone_36 (by decide) ?_ ?_
        ·
          refine j_aload_n (pc := 46) 0 C dX10_isDone_46 rfl rfl ?_
          refine gR_0_41 (pc := 47) C dX10_isDone_47 q_980 ?_
          refine j_bipush (pc := 50) 94 C dX10_isDone_50 (by decide) ?_
          refine acR_18 (pc := 52) C dX10_isDone_52 rfl ?_
          refine j_sipush (pc := 53) 400 C dX10_isDone_53 (by decide) ?_
          refine j_icmp_lt (pc := 56) 61 C dX10_isDone_56 (by decide) ?_ ?_
          ·
            refine j_aload_n (pc := 61) 0 C dX10_isDone_61 rfl rfl ?_
            refine j_callv0 (pc := 62) C (rR_passes C dX10_isDone_62 q_999 (by omega) (Nat.le_of_ble_eq_true rfl) ⟨Nat.le_of_ble_eq_true rfl, Nat.le_of_ble_eq_true rfl⟩) ⟨Nat.le_of_ble_eq_true rfl, Nat.le_of_ble_eq_true rfl⟩ (fun T1 => ?_)
            refine j_iconst (pc := 65) 1 C dX10_isDone_65 (by decide) ?_
            exact j_zretc C dX10_isDone_66 rfl (Nat.le_of_ble_eq_true rfl) (Nat.le_of_ble_eq_true rfl) rfl
          ·
            refine j_iconst (pc := 59) 0 C dX10_isDone_59 (by decide) ?_
            exact j_zretc C dX10_isDone_60 rfl (Nat.le_of_ble_eq_true rfl) (Nat.le_of_ble_eq_true rfl) rfl
        ·
          refine j_aload_n (pc := 39) 0 C dX10_isDone_39 rfl rfl ?_
          refine j_iload_n (pc := 40) 2 C dX10_isDone_40 rfl rfl ?_
          refine j_iload_n (pc := 41) 3 C dX10_isDone_41 rfl rfl ?_
          refine j_callI0 (pc := 42) C (rR_isSung C dX10_isDone_42 q_1011 (by omega) (Nat.le_of_ble_eq_true rfl) ⟨Nat.le_of_ble_eq_true rfl, Nat.le_of_ble_eq_true rfl⟩) ⟨Nat.le_of_ble_eq_true rfl, Nat.le_of_ble_eq_true rfl⟩ (fun r4 T3 => ?_)
          exact j_zret C dX10_isDone_45 rfl (Nat.le_of_ble_eq_true rfl) (Nat.le_of_ble_eq_true rfl)
      ·
        refine j_aload_n (pc := 28) 0 C dX10_isDone_28 rfl rfl ?_
        refine j_iload_n (pc := 29) 2 C dX10_isDone_29 rfl rfl ?_
        refine j_callI0 (pc := 30) C (rR_isSaid C dX10_isDone_30 q_1019 (by omega) (Nat.le_of_ble_eq_true rfl) ⟨Nat.le_of_ble_eq_true rfl, Nat.le_of_ble_eq_true rfl⟩) ⟨Nat.le_of_ble_eq_true rfl, Nat.le_of_ble_eq_true rfl⟩ (fun r6 T5 => ?_)
        exact j_zret C dX10_isDone_33 rfl (Nat.le_of_ble_eq_true rfl) (Nat.le_of_ble_eq_true rfl)
    ·
      refine j_aload_n (pc := 16) 0 C dX10_isDone_16 rfl rfl ?_
      refine j_iload_n (pc := 17) 2 C dX10_isDone_17 rfl rfl ?_
      refine j_iload_n (pc := 18) 3 C dX10_isDone_18 rfl rfl ?_
      refine j_callI0 (pc := 19) C (rR_isForgotten C dX10_isDone_19 q_1023 (by omega) (Nat.le_of_ble_eq_true rfl) ⟨Nat.le_of_ble_eq_true rfl, Nat.le_of_ble_eq_true rfl⟩) ⟨Nat.le_of_ble_eq_true rfl, Nat.le_of_ble_eq_true rfl⟩ (fun r8 T7 => ?_)
      exact j_zret C dX10_isDone_22 rfl (Nat.le_of_ble_eq_true rfl) (Nat.le_of_ble_eq_true rfl)
  ·
    refine j_aload_n (pc := 4) 0 C dX10_isDone_4 rfl rfl ?_
    refine j_iload_n (pc := 5) 2 C dX10_isDone_5 rfl rfl ?_
    refine j_iload_n (pc := 6) 3 C dX10_isDone_6 rfl rfl ?_
    refine j_callI0 (pc := 7) C (rR_isTaught C dX10_isDone_7 q_1068 (by omega) (Nat.le_of_ble_eq_true rfl) ⟨Nat.le_of_ble_eq_true rfl, Nat.le_of_ble_eq_true rfl⟩) ⟨Nat.le_of_ble_eq_true rfl, Nat.le_of_ble_eq_true rfl⟩ (fun r10 T9 => ?_)
    exact j_zret C dX10_isDone_10 rfl (Nat.le_of_ble_eq_true rfl) (Nat.le_of_ble_eq_true rfl)
theorem cR_isDone {l : Launch} {G : Gc} (hfl : l.stackTraces = false) (hW : Wok G wR 26)   (x1 : Int32) (x2 : Int32) (x3 : Int32) (S : St) : Ct l yX10_isDone (Cond.code yX10_isDone cX10_isDone 4 (some .boolean) :: tblG) 8 0 0 G wR 26 [.ref (gA G 0), .int x1, .int x2, .int x3] S (fR_isDone x1 x2 x3 S) := ct_of (own := RX10) hfl (by decide +kernel) rfl hW (Nat.le_of_ble_eq_true rfl) (fun E hE C => by subst hE; exact bR_isDone C   x1 x2 x3 S)
theorem rR_isDone {E : Ec} {G : Gc} {nL mc ms : Nat} {own : String} {cc : ByteArray} {L : Nat} {ret : Option FieldType} {k n pc ix : Nat} {loc : List (Nat × Value)} {rest : List Value}  {x1 : Int32} {x2 : Int32} {x3 : Int32} {S : St}  (C : JC E (VR G nL mc ms own) cc L ret) (hd : decode cc pc = .ok (.invokevirtual ix, 3)) (hq : Cond.methodLink own ix yX10_isDone ∈ tblG) (hL : 8 + 1 ≤ L) (hW : (rest.map fun v => v.category).sum ≤ 8) (hf : k + 0 ≤ mc ∧ n + 0 ≤ ms) : Rn E (VR G nL mc ms own) k n 0 0 pc loc (.int x3 :: .int x2 :: .int x1 :: .ref (gA G 0) :: rest) rest S (fR_isDone x1 x2 x3 S) := rn_V (ci := 10) 0 (V := VR G nL mc ms own) (As := [.int x1, .int x2, .int x3]) (Cq := (RX10, TX10, 53)) (cR_isDone C.flags C.wok  x1 x2 x3 S) knX10_isDone ⟨q_1070, q_1071⟩ rfl rfl C hd hq hL rfl rfl hW hf

theorem knX10_goesSteps : Kn yX10_goesSteps cX10_goesSteps 6 none 2 := ⟨q_1074, q_815, by decide +kernel, by decide⟩
theorem rgR_goesSteps {E : Ec} {G : Gc} {nL mc ms : Nat} {own : String} {cc : ByteArray} {L : Nat} {ret : Option FieldType} {k n pc ix : Nat} {loc : List (Nat × Value)} {rest : List Value} {rc : Int32 → Int32 → St → Oz} {x : Nat} {x1 : Int32} {x2 : Int32} {S : St} (hrc : ∀ (x1 : Int32) (x2 : Int32) (S : St), Ct E.2.1 yX10_goesSteps (Cond.code yX10_goesSteps cX10_goesSteps 6 none :: tblG) x 0 0 G wR 26 [.ref (gA G 0), .int x1, .int x2] S (rc x1 x2 S)) (C : JC E (VR G nL mc ms own) cc L ret) (hd : decode cc pc = .ok (.invokevirtual ix, 3)) (hq : Cond.methodLink own ix yX10_goesSteps ∈ tblG) (hL : x + 1 ≤ L) (hW : (rest.map fun v => v.category).sum ≤ 8) (hf : k + 0 ≤ mc ∧ n + 0 ≤ ms) : Rn E (VR G nL mc ms own) k n 0 0 pc loc (.int x2 :: .int x1 :: .ref (gA G 0) :: rest) rest S (rc x1 x2 S) := rn_V (V := VR G nL mc ms own) (ci := 10) 0 (As := [.int x1, .int x2]) (Cq := (RX10, TX10, 53)) (hrc x1 x2 S) knX10_goesSteps ⟨q_1075, q_1076⟩ rfl rfl C hd hq hL rfl rfl hW hf

