theorem knX10_kept : Kn yX10_kept cX10_kept 10 (some .long) 4 := ⟨q_1205, q_815, by decide +kernel, by decide⟩
theorem bR_kept_183 {E : Ec} {G : Gc}    (C : JC E (VR G 10 0 0 RX10) cX10_kept 2 (some .long))    : ∀ (n : Nat) (x4 : Int32) (x5 : Int64) (x7 : Int64) (x9 : Int32) (S : St), J E (VR G 10 0 0 RX10) 0 0 183 [(0, .ref (gA G 0)), (4, .int x4), (5, .long x5), (7, .long x7), (9, .int x9)] [] S (fR_kept_183  n x4 x5 x7 x9 S) := by
  intro n
  induction n with
  | zero => intro x4 x5 x7 x9 S; rw [fR_kept_183]; exact j_none
  | succ n ih =>
    intro x4 x5 x7 x9 S
    rw [fR_kept_183]
    refine j_iload (pc := 183) 4 C dX10_kept_183 rfl ?_
    refine j_bipush (pc := 185) 14 C dX10_kept_185 (by decide) ?_
    refine j_icmp_ge (pc := 187) 208 C dX10_kept_187 (by decide) ?_ ?_
    ·
      refine j_lload (pc := 208) 3 C dX10_kept_208 rfl ?_
      refine j_lload (pc := 210) 2 C dX10_kept_210 rfl ?_
      refine j_iload (pc := 212) 1 C dX10_kept_212 rfl ?_
      refine j_callL0 (pc := 214) C (rR_least C dX10_kept_214 q_1203 (by omega) (Nat.le_of_ble_eq_true rfl) ⟨Nat.le_of_ble_eq_true rfl, Nat.le_of_ble_eq_true rfl⟩) ⟨Nat.le_of_ble_eq_true rfl, Nat.le_of_ble_eq_true rfl⟩ (fun r2 T1 => ?_)
      exact j_lret C dX10_kept_217 rfl (Nat.le_of_ble_eq_true rfl) (Nat.le_of_ble_eq_true rfl)
    ·
      refine j_lload (pc := 190) 3 C dX10_kept_190 rfl ?_
      refine j_aload_n (pc := 192) 0 C dX10_kept_192 rfl rfl ?_
      refine gR_0_49 (pc := 193) C dX10_kept_193 q_1200 ?_
      refine j_iload (pc := 196) 4 C dX10_kept_196 rfl ?_
      refine aR_24 (pc := 198) C dX10_kept_198 ?_
      refine j_ladd (pc := 199) C dX10_kept_199 ?_
      refine j_nxL (fun v3 => ?_)
      refine j_lstore (pc := 200) [(7, .long v3), (0, .ref (gA G 0)), (4, .int x4), (5, .long x5), (9, .int x9)] C dX10_kept_200 (Nat.le_of_ble_eq_true rfl) rfl ?_
      refine j_iinc (pc := 202) 4 (x9 + 1) [(9, .int (x9 + 1)), (7, .long v3), (0, .ref (gA G 0)), (4, .int x4), (5, .long x5)] C dX10_kept_202 rfl rfl (Nat.le_of_ble_eq_true rfl) rfl ?_
      refine j_goto (pc := 205) 183 C dX10_kept_205 (by decide) ?_
      refine j_sub [2, 3, 4, 1, 0] rfl ?_
      exact ih x4 x5 v3 (x9 + 1) S
theorem bR_kept_155 {E : Ec} {G : Gc}   {K100 : Int32 → Int32 → Int32 → Int32 → Int64 → Int32 → St → Oz} {K110 : Int32 → Int32 → Int32 → Int32 → Int64 → Int32 → Int32 → St → Oz} (C : JC E (VR G 10 0 0 RX10) cX10_kept 2 (some .long))   (hK100 : ∀ (x1 : Int32) (x2 : Int32) (x3 : Int32) (x4 : Int32) (x5 : Int64) (x7 : Int32) (S : St), J E (VR G 10 0 0 RX10) 0 0 100 [(0, .ref (gA G 0)), (1, .int x1), (2, .int x2), (3, .int x3), (4, .int x4), (5, .long x5), (7, .int x7)] [] S (K100 x1 x2 x3 x4 x5 x7 S)) (hK110 : ∀ (x1 : Int32) (x2 : Int32) (x3 : Int32) (x4 : Int32) (x5 : Int64) (x7 : Int32) (x8 : Int32) (S : St), J E (VR G 10 0 0 RX10) 0 0 110 [(0, .ref (gA G 0)), (1, .int x1), (2, .int x2), (3, .int x3), (4, .int x4), (5, .long x5), (7, .int x7), (8, .int x8)] [] S (K110 x1 x2 x3 x4 x5 x7 x8 S)) (x1 : Int32) (x2 : Int32) (x3 : Int32) (x4 : Int32) (x5 : Int64) (x7 : Int32) (x8 : Int32) (s0 : Int64) (s1 : Int64) (s2 : Int32) (S : St) : J E (VR G 10 0 0 RX10) 0 0 155 [(0, .ref (gA G 0)), (1, .int x1), (2, .int x2), (3, .int x3), (4, .int x4), (5, .long x5), (7, .int x7), (8, .int x8)] [.long s0, .long s1, .int s2, .ref (gA G 24)] S (fR_kept_155 K100 K110 x1 x2 x3 x4 x5 x7 x8 s0 s1 s2 S) := by
  unfold fR_kept_155
  refine j_ladd (pc := 155) C dX10_kept_155 ?_
  refine sR_24 (pc := 156) C dX10_kept_156 ?_
  refine j_nxS (fun T1 => ?_)
  refine j_iinc (pc := 157) 7 (x8 + (-1)) [(8, .int (x8 + (-1))), (0, .ref (gA G 0)), (1, .int x1), (2, .int x2), (3, .int x3), (4, .int x4), (5, .long x5), (7, .int x7)] C dX10_kept_157 rfl rfl (Nat.le_of_ble_eq_true rfl) rfl ?_
  refine j_goto (pc := 160) 110 C dX10_kept_160 (by decide) ?_
  refine j_sub [1, 2, 3, 4, 5, 6, 7, 0] rfl ?_
  exact hK110 x1 x2 x3 x4 x5 x7 (x8 + (-1)) T1
theorem bR_kept_110 {E : Ec} {G : Gc}   {K100 : Int32 → Int32 → Int32 → Int32 → Int64 → Int32 → St → Oz} (C : JC E (VR G 10 0 0 RX10) cX10_kept 2 (some .long))   (hK100 : ∀ (x1 : Int32) (x2 : Int32) (x3 : Int32) (x4 : Int32) (x5 : Int64) (x7 : Int32) (S : St), J E (VR G 10 0 0 RX10) 0 0 100 [(0, .ref (gA G 0)), (1, .int x1), (2, .int x2), (3, .int x3), (4, .int x4), (5, .long x5), (7, .int x7)] [] S (K100 x1 x2 x3 x4 x5 x7 S)) : ∀ (n : Nat) (x1 : Int32) (x2 : Int32) (x3 : Int32) (x4 : Int32) (x5 : Int64) (x7 : Int32) (x8 : Int32) (S : St), J E (VR G 10 0 0 RX10) 0 0 110 [(0, .ref (gA G 0)), (1, .int x1), (2, .int x2), (3, .int x3), (4, .int x4), (5, .long x5), (7, .int x7), (8, .int x8)] [] S (fR_kept_110 K100 n x1 x2 x3 x4 x5 x7 x8 S) := by
  intro n
  induction n with
  | zero => intro x1 x2 x3 x4 x5 x7 x8 S; rw [fR_kept_110]; exact j_none
  | succ n ih =>
    intro x1 x2 x3 x4 x5 x7 x8 S
    rw [fR_kept_110]
    refine j_iload (pc := 110) 7 C dX10_kept_110 rfl ?_
    refine j_if_lt (pc := 112) 163 C dX10_kept_112 (by decide) ?_ ?_
    ·
      refine j_lload (pc := 163) 5 C dX10_kept_163 rfl ?_
      refine j_ldc2 (pc := 165) C dX10_kept_165 q_1204 ?_
      refine j_lmul (pc := 168) C dX10_kept_168 ?_
      refine j_nxL (fun v1 => ?_)
      refine j_lstore (pc := 169) [(5, .long v1), (0, .ref (gA G 0)), (1, .int x1), (2, .int x2), (3, .int x3), (4, .int x4), (7, .int x7), (8, .int x8)] C dX10_kept_169 (Nat.le_of_ble_eq_true rfl) rfl ?_
      refine j_iinc (pc := 171) 6 (x7 + 1) [(7, .int (x7 + 1)), (5, .long v1), (0, .ref (gA G 0)), (1, .int x1), (2, .int x2), (3, .int x3), (4, .int x4), (8, .int x8)] C dX10_kept_171 rfl rfl (Nat.le_of_ble_eq_true rfl) rfl ?_
      refine j_goto (pc := 174) 100 C dX10_kept_174 (by decide) ?_
      refine j_sub [2, 3, 4, 5, 6, 1, 0] rfl ?_
      exact hK100 x1 x2 x3 x4 v1 (x7 + 1) S
    ·
      refine j_aload_n (pc := 115) 0 C dX10_kept_115 rfl rfl ?_
      refine gR_0_49 (pc := 116) C dX10_kept_116 q_1200 ?_
      refine j_iload (pc := 119) 7 C dX10_kept_119 rfl ?_
      refine j_aload_n (pc := 121) 0 C dX10_kept_121 rfl rfl ?_
      refine gR_0_49 (pc := 122) C dX10_kept_122 q_1200 ?_
      refine j_iload (pc := 125) 7 C dX10_kept_125 rfl ?_
      refine aR_24 (pc := 127) C dX10_kept_127 ?_
      refine j_iload_n (pc := 128) 3 C dX10_kept_128 rfl rfl ?_
      refine j_i2l (pc := 129) C dX10_kept_129 ?_
      refine j_lmul (pc := 130) C dX10_kept_130 ?_
      refine j_iload (pc := 131) 7 C dX10_kept_131 rfl ?_
      refine j_if_le (pc := 133) 154 C dX10_kept_133 (by decide) ?_ ?_
      ·
        refine j_lconst (pc := 154) 0 C dX10_kept_154 (by decide) ?_
        exact bR_kept_155 C hK100 ih x1 x2 x3 x4 x5 x7 x8 0 ((rB S 24 x8) * ((x3 : Int32).toInt64)) x8 S
      ·
        refine j_aload_n (pc := 136) 0 C dX10_kept_136 rfl rfl ?_
        refine gR_0_49 (pc := 137) C dX10_kept_137 q_1200 ?_
        refine j_iload (pc := 140) 7 C dX10_kept_140 rfl ?_
        refine j_iconst (pc := 142) 1 C dX10_kept_142 (by decide) ?_
        refine j_isub (pc := 143) C dX10_kept_143 ?_
        refine aR_24 (pc := 144) C dX10_kept_144 ?_
        refine j_bipush (pc := 145) 16 C dX10_kept_145 (by decide) ?_
        refine j_iload_n (pc := 147) 3 C dX10_kept_147 rfl rfl ?_
        refine j_isub (pc := 148) C dX10_kept_148 ?_
        refine j_i2l (pc := 149) C dX10_kept_149 ?_
        refine j_lmul (pc := 150) C dX10_kept_150 ?_
        refine j_goto (pc := 151) 155 C dX10_kept_151 (by decide) ?_
        exact bR_kept_155 C hK100 ih x1 x2 x3 x4 x5 x7 x8 ((rB S 24 (x8 - 1)) * ((16 - x3 : Int32).toInt64)) ((rB S 24 x8) * ((x3 : Int32).toInt64)) x8 S
theorem bR_kept_100 {E : Ec} {G : Gc}    (C : JC E (VR G 10 0 0 RX10) cX10_kept 2 (some .long))    : ∀ (n : Nat) (x1 : Int32) (x2 : Int32) (x3 : Int32) (x4 : Int32) (x5 : Int64) (x7 : Int32) (S : St), J E (VR G 10 0 0 RX10) 0 0 100 [(0, .ref (gA G 0)), (1, .int x1), (2, .int x2), (3, .int x3), (4, .int x4), (5, .long x5), (7, .int x7)] [] S (fR_kept_100  n x1 x2 x3 x4 x5 x7 S) := by
  intro n
  induction n with
  | zero => intro x1 x2 x3 x4 x5 x7 S; rw [fR_kept_100]; exact j_none
  | succ n ih =>
    intro x1 x2 x3 x4 x5 x7 S
    rw [fR_kept_100]
    refine j_iload (pc := 100) 6 C dX10_kept_100 rfl ?_
    refine j_iload_n (pc := 102) 1 C dX10_kept_102 rfl rfl ?_
    refine j_icmp_ge (pc := 103) 177 C dX10_kept_103 (by decide) ?_ ?_
    ·
      refine j_lconst (pc := 177) 0 C dX10_kept_177 (by decide) ?_
      refine j_lstore (pc := 178) [(7, .long 0), (0, .ref (gA G 0)), (1, .int x1), (2, .int x2), (3, .int x3), (4, .int x4), (5, .long x5)] C dX10_kept_178 (Nat.le_of_ble_eq_true rfl) rfl ?_
      refine j_iload_n (pc := 180) 3 C dX10_kept_180 rfl rfl ?_
      refine j_istore (pc := 181) [(9, .int x2), (7, .long 0), (0, .ref (gA G 0)), (1, .int x1), (2, .int x2), (3, .int x3), (4, .int x4), (5, .long x5)] C dX10_kept_181 (Nat.le_of_ble_eq_true rfl) rfl ?_
      refine j_sub [2, 6, 7, 1, 0] rfl ?_
      exact bR_kept_183 C  FU x4 x5 0 x2 S
    ·
      refine j_bipush (pc := 106) 13 C dX10_kept_106 (by decide) ?_
      refine j_istore (pc := 108) [(8, .int 13), (0, .ref (gA G 0)), (1, .int x1), (2, .int x2), (3, .int x3), (4, .int x4), (5, .long x5), (7, .int x7)] C dX10_kept_108 (Nat.le_of_ble_eq_true rfl) rfl ?_
      refine j_sub [1, 2, 3, 4, 5, 6, 7, 0] rfl ?_
      exact bR_kept_110 C ih FU x1 x2 x3 x4 x5 x7 13 S
theorem bR_kept_87 {E : Ec} {G : Gc}   {K64 : Int32 → Int32 → Int32 → Int32 → Int32 → St → Oz} (C : JC E (VR G 10 0 0 RX10) cX10_kept 2 (some .long))   (hK64 : ∀ (x1 : Int32) (x2 : Int32) (x3 : Int32) (x4 : Int32) (x5 : Int32) (S : St), J E (VR G 10 0 0 RX10) 0 0 64 [(0, .ref (gA G 0)), (1, .int x1), (2, .int x2), (3, .int x3), (4, .int x4), (5, .int x5)] [] S (K64 x1 x2 x3 x4 x5 S)) (x1 : Int32) (x2 : Int32) (x3 : Int32) (x4 : Int32) (x5 : Int32) (s0 : Int64) (s1 : Int32) (S : St) : J E (VR G 10 0 0 RX10) 0 0 87 [(0, .ref (gA G 0)), (1, .int x1), (2, .int x2), (3, .int x3), (4, .int x4), (5, .int x5)] [.long s0, .int s1, .ref (gA G 24)] S (fR_kept_87 K64 x1 x2 x3 x4 x5 s0 s1 S) := by
  unfold fR_kept_87
  refine sR_24 (pc := 87) C dX10_kept_87 ?_
  refine j_nxS (fun T1 => ?_)
  refine j_iinc (pc := 88) 5 (x5 + 1) [(5, .int (x5 + 1)), (0, .ref (gA G 0)), (1, .int x1), (2, .int x2), (3, .int x3), (4, .int x4)] C dX10_kept_88 rfl rfl (Nat.le_of_ble_eq_true rfl) rfl ?_
  refine j_goto (pc := 91) 64 C dX10_kept_91 (by decide) ?_
  refine j_sub [1, 2, 3, 4, 5, 0] rfl ?_
  exact hK64 x1 x2 x3 x4 (x5 + 1) T1
theorem bR_kept_64 {E : Ec} {G : Gc}    (C : JC E (VR G 10 0 0 RX10) cX10_kept 2 (some .long))    : ∀ (n : Nat) (x1 : Int32) (x2 : Int32) (x3 : Int32) (x4 : Int32) (x5 : Int32) (S : St), J E (VR G 10 0 0 RX10) 0 0 64 [(0, .ref (gA G 0)), (1, .int x1), (2, .int x2), (3, .int x3), (4, .int x4), (5, .int x5)] [] S (fR_kept_64  n x1 x2 x3 x4 x5 S) := by
  intro n
  induction n with
  | zero => intro x1 x2 x3 x4 x5 S; rw [fR_kept_64]; exact j_none
  | succ n ih =>
    intro x1 x2 x3 x4 x5 S
    rw [fR_kept_64]
    refine j_iload (pc := 64) 5 C dX10_kept_64 rfl ?_
    refine j_bipush (pc := 66) 14 C dX10_kept_66 (by decide) ?_
    refine j_icmp_ge (pc := 68) 94 C dX10_kept_68 (by decide) ?_ ?_
    ·
      refine j_lconst (pc := 94) 1 C dX10_kept_94 (by decide) ?_
      refine j_lstore (pc := 95) [(5, .long 1), (0, .ref (gA G 0)), (1, .int x1), (2, .int x2), (3, .int x3), (4, .int x4)] C dX10_kept_95 (Nat.le_of_ble_eq_true rfl) rfl ?_
      refine j_iconst (pc := 97) 0 C dX10_kept_97 (by decide) ?_
      refine j_istore (pc := 98) [(7, .int 0), (5, .long 1), (0, .ref (gA G 0)), (1, .int x1), (2, .int x2), (3, .int x3), (4, .int x4)] C dX10_kept_98 (Nat.le_of_ble_eq_true rfl) rfl ?_
      refine j_sub [2, 3, 4, 5, 6, 1, 0] rfl ?_
      exact bR_kept_100 C  FU x1 x2 x3 x4 1 0 S
    ·
      refine j_aload_n (pc := 71) 0 C dX10_kept_71 rfl rfl ?_
      refine gR_0_49 (pc := 72) C dX10_kept_72 q_1200 ?_
      refine j_iload (pc := 75) 5 C dX10_kept_75 rfl ?_
      refine j_iload (pc := 77) 5 C dX10_kept_77 rfl ?_
      refine j_if_ne (pc := 79) 86 C dX10_kept_79 (by decide) ?_ ?_
      ·
        refine j_lconst (pc := 86) 0 C dX10_kept_86 (by decide) ?_
        exact bR_kept_87 C ih x1 x2 x3 x4 x5 0 x5 S
      ·
        refine j_lconst (pc := 82) 1 C dX10_kept_82 (by decide) ?_
        refine j_goto (pc := 83) 87 C dX10_kept_83 (by decide) ?_
        exact bR_kept_87 C ih x1 x2 x3 x4 x5 1 x5 S
theorem bR_kept_51 {E : Ec} {G : Gc}    (C : JC E (VR G 10 0 0 RX10) cX10_kept 2 (some .long))    (x1 : Int32) (x2 : Int32) (x3 : Int32) (x4 : Int32) (s0 : Int32) (S : St) : J E (VR G 10 0 0 RX10) 0 0 51 [(0, .ref (gA G 0)), (1, .int x1), (2, .int x2), (3, .int x3), (4, .int x4)] [.int s0, .ref (gA G 0)] S (fR_kept_51  x1 x2 x3 x4 s0 S) := by
  unfold fR_kept_51
  refine j_iconst (pc := 51) 1 C dX10_kept_51 (by decide) ?_
  refine j_iconst (pc := 52) 1 C dX10_kept_52 (by decide) ?_
  refine j_callI0 (pc := 53) C (rR_may C dX10_kept_53 q_822 (by omega) (Nat.le_of_ble_eq_true rfl) ⟨Nat.le_of_ble_eq_true rfl, Nat.le_of_ble_eq_true rfl⟩) ⟨Nat.le_of_ble_eq_true rfl, Nat.le_of_ble_eq_true rfl⟩ (fun r2 T1 => ?_)
  refine j_if_ne (pc := 56) 61 C dX10_kept_56 (by decide) ?_ ?_
  ·
    refine j_iconst (pc := 61) 0 C dX10_kept_61 (by decide) ?_
    refine j_istore (pc := 62) [(5, .int 0), (0, .ref (gA G 0)), (1, .int x1), (2, .int x2), (3, .int x3), (4, .int x4)] C dX10_kept_62 (Nat.le_of_ble_eq_true rfl) rfl ?_
    refine j_sub [1, 2, 3, 4, 5, 0] rfl ?_
    exact bR_kept_64 C  FU x1 x2 x3 x4 0 T1
  ·
    refine j_lconst (pc := 59) 0 C dX10_kept_59 (by decide) ?_
    exact j_lret C dX10_kept_60 rfl (Nat.le_of_ble_eq_true rfl) (Nat.le_of_ble_eq_true rfl)
theorem bR_kept_50 {E : Ec} {G : Gc}    (C : JC E (VR G 10 0 0 RX10) cX10_kept 2 (some .long))    (x1 : Int32) (x2 : Int32) (x3 : Int32) (x4 : Int32) (S : St) : J E (VR G 10 0 0 RX10) 0 0 50 [(0, .ref (gA G 0)), (1, .int x1), (2, .int x2), (3, .int x3), (4, .int x4)] [.ref (gA G 0)] S (fR_kept_50  x1 x2 x3 x4 S) := by
  unfold fR_kept_50
  refine j_iconst (pc := 50) 0 C dX10_kept_50 (by decide) ?_
  exact bR_kept_51 C  x1 x2 x3 x4 0 S
theorem bR_kept {E : Ec} {G : Gc}    (C : JC E (VR G 10 0 0 RX10) cX10_kept 2 (some .long))    (x1 : Int32) (x2 : Int32) (x3 : Int32) (x4 : Int32) (S : St) : J E (VR G 10 0 0 RX10) 0 0 0 [(0, .ref (gA G 0)), (1, .int x1), (2, .int x2), (3, .int x3), (4, .int x4)] [] S (fR_kept  x1 x2 x3 x4 S) := by
  unfold fR_kept
  refine j_aload_n (pc := 0) 0 C dX10_kept_0 rfl rfl ?_
  refine j_iconst (pc := 1) 0 C dX10_kept_1 (by decide) ?_
  refine pR_0_0 (pc := 2) C dX10_kept_2 q_811 ?_
  refine j_nxS (fun T1 => ?_)
  refine j_aload_n (pc := 5) 0 C dX10_kept_5 rfl rfl ?_
  refine j_iload_n (pc := 6) 1 C dX10_kept_6 rfl rfl ?_
  refine j_iconst (pc := 7) 0 C dX10_kept_7 (by decide) ?_
  refine j_bipush (pc := 8) 12 C dX10_kept_8 (by decide) ?_
  refine j_callI0 (pc := 10) C (rR_within C dX10_kept_10 q_1094 (by omega) (Nat.le_of_ble_eq_true rfl) ⟨Nat.le_of_ble_eq_true rfl, Nat.le_of_ble_eq_true rfl⟩) ⟨Nat.le_of_ble_eq_true rfl, Nat.le_of_ble_eq_true rfl⟩ (fun r3 T2 => ?_)
  refine j_if_eq (pc := 13) 50 C dX10_kept_13 (by decide) ?_ ?_
  ·
    exact bR_kept_50 C  x1 x2 x3 x4 T2
  ·
    refine j_iload_n (pc := 16) 2 C dX10_kept_16 rfl rfl ?_
    refine j_iconst (pc := 17) 0 C dX10_kept_17 (by decide) ?_
    refine j_bipush (pc := 18) 13 C dX10_kept_18 (by decide) ?_
    refine j_callI0 (pc := 20) C (rR_within C dX10_kept_20 q_1094 (by omega) (Nat.le_of_ble_eq_true rfl) ⟨Nat.le_of_ble_eq_true rfl, Nat.le_of_ble_eq_true rfl⟩) ⟨Nat.le_of_ble_eq_true rfl, Nat.le_of_ble_eq_true rfl⟩ (fun r5 T4 => ?_)
    refine j_if_eq (pc := 23) 50 C dX10_kept_23 (by decide) ?_ ?_
    ·
      exact bR_kept_50 C  x1 x2 x3 x4 T4
    ·
      refine j_iload_n (pc := 26) 3 C dX10_kept_26 rfl rfl ?_
      refine j_iconst (pc := 27) 0 C dX10_kept_27 (by decide) ?_
      refine j_bipush (pc := 28) 16 C dX10_kept_28 (by decide) ?_
      refine j_callI0 (pc := 30) C (rR_within C dX10_kept_30 q_1094 (by omega) (Nat.le_of_ble_eq_true rfl) ⟨Nat.le_of_ble_eq_true rfl, Nat.le_of_ble_eq_true rfl⟩) ⟨Nat.le_of_ble_eq_true rfl, Nat.le_of_ble_eq_true rfl⟩ (fun r7 T6 => ?_)
      refine j_if_eq (pc := 33) 50 C dX10_kept_33 (by decide) ?_ ?_
      ·
        exact bR_kept_50 C  x1 x2 x3 x4 T6
      ·
        refine j_iload (pc := 36) 4 C dX10_kept_36 rfl ?_
        refine j_iconst (pc := 38) 0 C dX10_kept_38 (by decide) ?_
        refine j_iconst (pc := 39) 1 C dX10_kept_39 (by decide) ?_
        refine j_callI0 (pc := 40) C (rR_within C dX10_kept_40 q_1094 (by omega) (Nat.le_of_ble_eq_true rfl) ⟨Nat.le_of_ble_eq_true rfl, Nat.le_of_ble_eq_true rfl⟩) ⟨Nat.le_of_ble_eq_true rfl, Nat.le_of_ble_eq_true rfl⟩ (fun r9 T8 => ?_)
        refine j_if_eq (pc := 43) 50 C dX10_kept_43 (by decide) ?_ ?_
        ·
          exact bR_kept_50 C  x1 x2 x3 x4 T8
        ·
          refine j_iconst (pc := 46) 1 C dX10_kept_46 (by decide) ?_
          refine j_goto (pc := 47) 51 C dX10_kept_47 (by decide) ?_
          exact bR_kept_51 C  x1 x2 x3 x4 1 T8
theorem cR_kept {l : Launch} {G : Gc} (hfl : l.stackTraces = false) (hW : Wok G wR 26)   (x1 : Int32) (x2 : Int32) (x3 : Int32) (x4 : Int32) (S : St) : Ct l yX10_kept (Cond.code yX10_kept cX10_kept 10 (some .long) :: tblG) 2 0 0 G wR 26 [.ref (gA G 0), .int x1, .int x2, .int x3, .int x4] S (fR_kept x1 x2 x3 x4 S) := ct_of (own := RX10) hfl (by decide +kernel) rfl hW (Nat.le_of_ble_eq_true rfl) (fun E hE C => by subst hE; exact bR_kept C   x1 x2 x3 x4 S)
theorem rR_kept {E : Ec} {G : Gc} {nL mc ms : Nat} {own : String} {cc : ByteArray} {L : Nat} {ret : Option FieldType} {k n pc ix : Nat} {loc : List (Nat × Value)} {rest : List Value}  {x1 : Int32} {x2 : Int32} {x3 : Int32} {x4 : Int32} {S : St}  (C : JC E (VR G nL mc ms own) cc L ret) (hd : decode cc pc = .ok (.invokevirtual ix, 3)) (hq : Cond.methodLink own ix yX10_kept ∈ tblG) (hL : 2 + 1 ≤ L) (hW : (rest.map fun v => v.category).sum ≤ 8) (hf : k + 0 ≤ mc ∧ n + 0 ≤ ms) : Rn E (VR G nL mc ms own) k n 0 0 pc loc (.int x4 :: .int x3 :: .int x2 :: .int x1 :: .ref (gA G 0) :: rest) rest S (fR_kept x1 x2 x3 x4 S) := rn_V (ci := 10) 0 (V := VR G nL mc ms own) (As := [.int x1, .int x2, .int x3, .int x4]) (Cq := (RX10, TX10, 53)) (cR_kept C.flags C.wok  x1 x2 x3 x4 S) knX10_kept ⟨q_1206, q_1207⟩ rfl rfl C hd hq hL rfl rfl hW hf

theorem knX10_hasBy : Kn yX10_hasBy cX10_hasBy 4 (some .int) 4 := ⟨q_1208, q_815, by decide +kernel, by decide⟩
theorem bR_hasBy {E : Ec} {G : Gc}    (C : JC E (VR G 4 0 0 RX10) cX10_hasBy 1 (some .int))    (x0 : Int32) (x1 : Int32) (x2 : Int32) (x3 : Int32) (S : St) : J E (VR G 4 0 0 RX10) 0 0 0 [(0, .int x0), (1, .int x1), (2, .int x2), (3, .int x3)] [] S (fR_hasBy  x0 x1 x2 x3 S) := by
  unfold fR_hasBy
  refine j_iload_n (pc := 0) 0 C dX10_hasBy_0 rfl rfl ?_
  refine j_iload_n (pc := 1) 1 C dX10_hasBy_1 rfl rfl ?_
  refine j_icmp_ne (pc := 2) 17 C dX10_hasBy_2 (by decide) ?_ ?_
  ·
    refine j_iload_n (pc := 17) 0 C dX10_hasBy_17 rfl rfl ?_
    refine j_if_ne (pc := 18) 25 C dX10_hasBy_18 (by decide) ?_ ?_
    ·
      refine j_iload_n (pc := 25) 3 C dX10_hasBy_25 rfl rfl ?_
      exact j_iret C dX10_hasBy_26 rfl (Nat.le_of_ble_eq_true rfl) (Nat.le_of_ble_eq_true rfl)
    ·
      refine j_iconst (pc := 21) 0 C dX10_hasBy_21 (by decide) ?_
      refine j_goto (pc := 22) 26 C dX10_hasBy_22 (by decide) ?_
      exact j_iret C dX10_hasBy_26 rfl (Nat.le_of_ble_eq_true rfl) (Nat.le_of_ble_eq_true rfl)
  ·
    refine j_iload_n (pc := 5) 0 C dX10_hasBy_5 rfl rfl ?_
    refine j_if_ne (pc := 6) 13 C dX10_hasBy_6 (by decide) ?_ ?_
    ·
      refine j_iconst (pc := 13) 0 C dX10_hasBy_13 (by decide) ?_
      refine j_goto (pc := 14) 26 C dX10_hasBy_14 (by decide) ?_
      exact j_iret C dX10_hasBy_26 rfl (Nat.le_of_ble_eq_true rfl) (Nat.le_of_ble_eq_true rfl)
    ·
      refine j_iload_n (pc := 9) 2 C dX10_hasBy_9 rfl rfl ?_
      refine j_goto (pc := 10) 26 C dX10_hasBy_10 (by decide) ?_
      exact j_iret C dX10_hasBy_26 rfl (Nat.le_of_ble_eq_true rfl) (Nat.le_of_ble_eq_true rfl)
theorem cR_hasBy {l : Launch} {G : Gc} (hfl : l.stackTraces = false) (hW : Wok G wR 26)   (x0 : Int32) (x1 : Int32) (x2 : Int32) (x3 : Int32) (S : St) : Ct l yX10_hasBy (Cond.code yX10_hasBy cX10_hasBy 4 (some .int) :: tblG) 1 0 0 G wR 26 [.int x0, .int x1, .int x2, .int x3] S (fR_hasBy x0 x1 x2 x3 S) := ct_of (own := RX10) hfl (by decide +kernel) rfl hW (Nat.le_of_ble_eq_true rfl) (fun E hE C => by subst hE; exact bR_hasBy C   x0 x1 x2 x3 S)
theorem rR_hasBy {E : Ec} {G : Gc} {nL mc ms : Nat} {own : String} {cc : ByteArray} {L : Nat} {ret : Option FieldType} {k n pc ix : Nat} {loc : List (Nat × Value)} {rest : List Value}  {x0 : Int32} {x1 : Int32} {x2 : Int32} {x3 : Int32} {S : St}  (C : JC E (VR G nL mc ms own) cc L ret) (hd : decode cc pc = .ok (.invokestatic ix, 3)) (hq : Cond.methodLink own ix yX10_hasBy ∈ tblG) (hL : 1 + 1 ≤ L) (hW : (rest.map fun v => v.category).sum ≤ 8) (hf : k + 0 ≤ mc ∧ n + 0 ≤ ms) : Rn E (VR G nL mc ms own) k n 0 0 pc loc (.int x3 :: .int x2 :: .int x1 :: .int x0 :: rest) rest S (fR_hasBy x0 x1 x2 x3 S) := rn_S (V := VR G nL mc ms own) (As := [.int x0, .int x1, .int x2, .int x3]) (cR_hasBy C.flags C.wok  x0 x1 x2 x3 S) knX10_hasBy q_1209  C hd hq hL rfl rfl hW hf

theorem knX10_fair : Kn yX10_fair cX10_fair 9 (some .int) 3 := ⟨q_1211, q_815, by decide +kernel, by decide⟩
theorem bR_fair_59 {E : Ec} {G : Gc}    (C : JC E (VR G 9 0 0 RX10) cX10_fair 2 (some .int))    : ∀ (n : Nat) (x1 : Int32) (x2 : Int32) (x3 : Int32) (x4 : Int32) (x5 : Int32) (x6 : Int32) (S : St), J E (VR G 9 0 0 RX10) 0 0 59 [(1, .int x1), (2, .int x2), (3, .int x3), (4, .int x4), (5, .int x5), (6, .int x6)] [] S (fR_fair_59  n x1 x2 x3 x4 x5 x6 S) := by
  intro n
  induction n with
  | zero => intro x1 x2 x3 x4 x5 x6 S; rw [fR_fair_59]; exact j_none
  | succ n ih =>
    intro x1 x2 x3 x4 x5 x6 S
    rw [fR_fair_59]
    refine j_iload (pc := 59) 5 C dX10_fair_59 rfl ?_
    refine j_iconst (pc := 61) 4 C dX10_fair_61 (by decide) ?_
    refine j_icmp_ge (pc := 62) 156 C dX10_fair_62 (by decide) ?_ ?_
    ·
      refine j_iload_n (pc := 156) 2 C dX10_fair_156 rfl rfl ?_
      refine j_if_ne (pc := 157) 165 C dX10_fair_157 (by decide) ?_ ?_
      ·
        refine j_iload_n (pc := 165) 2 C dX10_fair_165 rfl rfl ?_
        refine j_iconst (pc := 166) 1 C dX10_fair_166 (by decide) ?_
        refine j_icmp_ne (pc := 167) 175 C dX10_fair_167 (by decide) ?_ ?_
        ·
          refine j_iload (pc := 175) 4 C dX10_fair_175 rfl ?_
          refine j_iconst (pc := 177) (-1) C dX10_fair_177 (by decide) ?_
          refine j_icmp_ne (pc := 178) 185 C dX10_fair_178 (by decide) ?_ ?_
          ·
            refine j_iload (pc := 185) 4 C dX10_fair_185 rfl ?_
            refine j_bipush (pc := 187) 10 C dX10_fair_187 (by decide) ?_
            refine j_idivc (pc := 189) C dX10_fair_189 rfl ?_
            refine j_iload (pc := 190) 4 C dX10_fair_190 rfl ?_
            refine j_bipush (pc := 192) 10 C dX10_fair_192 (by decide) ?_
            refine j_iremc (pc := 194) C dX10_fair_194 rfl ?_
            refine j_iload_n (pc := 195) 0 C dX10_fair_195 rfl rfl ?_
            refine j_iload_n (pc := 196) 1 C dX10_fair_196 rfl rfl ?_
            refine j_callI0 (pc := 197) C (rR_hasBy C dX10_fair_197 q_1210 (by omega) (Nat.le_of_ble_eq_true rfl) ⟨Nat.le_of_ble_eq_true rfl, Nat.le_of_ble_eq_true rfl⟩) ⟨Nat.le_of_ble_eq_true rfl, Nat.le_of_ble_eq_true rfl⟩ (fun r2 T1 => ?_)
            refine j_iload (pc := 200) 4 C dX10_fair_200 rfl ?_
            refine j_bipush (pc := 202) 10 C dX10_fair_202 (by decide) ?_
            refine j_iremc (pc := 204) C dX10_fair_204 rfl ?_
            refine j_iload (pc := 205) 4 C dX10_fair_205 rfl ?_
            refine j_bipush (pc := 207) 10 C dX10_fair_207 (by decide) ?_
            refine j_idivc (pc := 209) C dX10_fair_209 rfl ?_
            refine j_iload_n (pc := 210) 0 C dX10_fair_210 rfl rfl ?_
            refine j_iload_n (pc := 211) 1 C dX10_fair_211 rfl rfl ?_
            refine j_callI0 (pc := 212) C (rR_hasBy C dX10_fair_212 q_1210 (by omega) (Nat.le_of_ble_eq_true rfl) ⟨Nat.le_of_ble_eq_true rfl, Nat.le_of_ble_eq_true rfl⟩) ⟨Nat.le_of_ble_eq_true rfl, Nat.le_of_ble_eq_true rfl⟩ (fun r4 T3 => ?_)
            refine j_iadd (pc := 215) C dX10_fair_215 ?_
            exact j_iret C dX10_fair_216 rfl (Nat.le_of_ble_eq_true rfl) (Nat.le_of_ble_eq_true rfl)
          ·
            refine j_iconst (pc := 181) 0 C dX10_fair_181 (by decide) ?_
            refine j_goto (pc := 182) 216 C dX10_fair_182 (by decide) ?_
            exact j_iret C dX10_fair_216 rfl (Nat.le_of_ble_eq_true rfl) (Nat.le_of_ble_eq_true rfl)
        ·
          refine j_iload (pc := 170) 4 C dX10_fair_170 rfl ?_
          refine j_goto (pc := 172) 216 C dX10_fair_172 (by decide) ?_
          exact j_iret C dX10_fair_216 rfl (Nat.le_of_ble_eq_true rfl) (Nat.le_of_ble_eq_true rfl)
      ·
        refine j_iload (pc := 160) 3 C dX10_fair_160 rfl ?_
        refine j_goto (pc := 162) 216 C dX10_fair_162 (by decide) ?_
        exact j_iret C dX10_fair_216 rfl (Nat.le_of_ble_eq_true rfl) (Nat.le_of_ble_eq_true rfl)
    ·
      refine j_iload (pc := 65) 5 C dX10_fair_65 rfl ?_
      refine j_iconst (pc := 67) 2 C dX10_fair_67 (by decide) ?_
      refine j_idivc (pc := 68) C dX10_fair_68 rfl ?_
      refine j_nxI (fun v5 => ?_)
      refine j_istore (pc := 69) [(7, .int v5), (1, .int x1), (2, .int x2), (3, .int x3), (4, .int x4), (5, .int x5), (6, .int x6)] C dX10_fair_69 (Nat.le_of_ble_eq_true rfl) rfl ?_
      refine j_iload (pc := 71) 6 C dX10_fair_71 rfl ?_
      refine j_iconst (pc := 73) 2 C dX10_fair_73 (by decide) ?_
      refine j_iremc (pc := 74) C dX10_fair_74 rfl ?_
      refine j_nxI (fun v6 => ?_)
      refine j_istore (pc := 75) [(8, .int v6), (7, .int v5), (1, .int x1), (2, .int x2), (3, .int x3), (4, .int x4), (5, .int x5), (6, .int x6)] C dX10_fair_75 (Nat.le_of_ble_eq_true rfl) rfl ?_
      refine j_iconst (pc := 77) 1 C dX10_fair_77 (by decide) ?_
      refine j_iload (pc := 78) 1 C dX10_fair_78 rfl ?_
      refine j_isub (pc := 80) C dX10_fair_80 ?_
      refine j_iload (pc := 81) 0 C dX10_fair_81 rfl ?_
      refine j_iload_n (pc := 83) 2 C dX10_fair_83 rfl rfl ?_
      refine j_iload_n (pc := 84) 3 C dX10_fair_84 rfl rfl ?_
      refine j_callI0 (pc := 85) C (rR_hasBy C dX10_fair_85 q_1210 (by omega) (Nat.le_of_ble_eq_true rfl) ⟨Nat.le_of_ble_eq_true rfl, Nat.le_of_ble_eq_true rfl⟩) ⟨Nat.le_of_ble_eq_true rfl, Nat.le_of_ble_eq_true rfl⟩ (fun r8 T7 => ?_)
      refine j_iload (pc := 88) 1 C dX10_fair_88 rfl ?_
      refine j_iload (pc := 90) 0 C dX10_fair_90 rfl ?_
      refine j_iload_n (pc := 92) 2 C dX10_fair_92 rfl rfl ?_
      refine j_iload_n (pc := 93) 3 C dX10_fair_93 rfl rfl ?_
      refine j_callI0 (pc := 94) C (rR_hasBy C dX10_fair_94 q_1210 (by omega) (Nat.le_of_ble_eq_true rfl) ⟨Nat.le_of_ble_eq_true rfl, Nat.le_of_ble_eq_true rfl⟩) ⟨Nat.le_of_ble_eq_true rfl, Nat.le_of_ble_eq_true rfl⟩ (fun r10 T9 => ?_)
      refine j_icmp_gt (pc := 97) 150 C dX10_fair_97 (by decide) ?_ ?_
      ·
        refine j_iinc (pc := 150) 7 (x6 + 1) [(6, .int (x6 + 1)), (8, .int v6), (7, .int v5), (1, .int x1), (2, .int x2), (3, .int x3), (4, .int x4), (5, .int x5)] C dX10_fair_150 rfl rfl (Nat.le_of_ble_eq_true rfl) rfl ?_
        refine j_goto (pc := 153) 59 C dX10_fair_153 (by decide) ?_
        refine j_sub [3, 4, 5, 6, 7, 0] rfl ?_
        exact ih x1 x2 x3 x4 x5 (x6 + 1) T9
      ·
        refine j_iconst (pc := 100) 1 C dX10_fair_100 (by decide) ?_
        refine j_iload (pc := 101) 0 C dX10_fair_101 rfl ?_
        refine j_isub (pc := 103) C dX10_fair_103 ?_
        refine j_iload (pc := 104) 1 C dX10_fair_104 rfl ?_
        refine j_iload_n (pc := 106) 2 C dX10_fair_106 rfl rfl ?_
        refine j_iload_n (pc := 107) 3 C dX10_fair_107 rfl rfl ?_
        refine j_callI0 (pc := 108) C (rR_hasBy C dX10_fair_108 q_1210 (by omega) (Nat.le_of_ble_eq_true rfl) ⟨Nat.le_of_ble_eq_true rfl, Nat.le_of_ble_eq_true rfl⟩) ⟨Nat.le_of_ble_eq_true rfl, Nat.le_of_ble_eq_true rfl⟩ (fun r12 T11 => ?_)
        refine j_iload (pc := 111) 0 C dX10_fair_111 rfl ?_
        refine j_iload (pc := 113) 1 C dX10_fair_113 rfl ?_
        refine j_iload_n (pc := 115) 2 C dX10_fair_115 rfl rfl ?_
        refine j_iload_n (pc := 116) 3 C dX10_fair_116 rfl rfl ?_
        refine j_callI0 (pc := 117) C (rR_hasBy C dX10_fair_117 q_1210 (by omega) (Nat.le_of_ble_eq_true rfl) ⟨Nat.le_of_ble_eq_true rfl, Nat.le_of_ble_eq_true rfl⟩) ⟨Nat.le_of_ble_eq_true rfl, Nat.le_of_ble_eq_true rfl⟩ (fun r14 T13 => ?_)
        refine j_icmp_le (pc := 120) 126 C dX10_fair_120 (by decide) ?_ ?_
        ·
          refine j_iinc (pc := 126) 5 (x4 + 1) [(4, .int (x4 + 1)), (8, .int v6), (7, .int v5), (1, .int x1), (2, .int x2), (3, .int x3), (5, .int x5), (6, .int x6)] C dX10_fair_126 rfl rfl (Nat.le_of_ble_eq_true rfl) rfl ?_
          refine j_iload (pc := 129) 6 C dX10_fair_129 rfl ?_
          refine j_iconst (pc := 131) (-1) C dX10_fair_131 (by decide) ?_
          refine j_icmp_ne (pc := 132) 146 C dX10_fair_132 (by decide) ?_ ?_
          ·
            refine j_iload (pc := 146) 6 C dX10_fair_146 rfl ?_
            refine j_istore (pc := 148) [(5, .int x5), (4, .int (x4 + 1)), (8, .int v6), (7, .int v5), (1, .int x1), (2, .int x2), (3, .int x3), (6, .int x6)] C dX10_fair_148 (Nat.le_of_ble_eq_true rfl) rfl ?_
            refine j_iinc (pc := 150) 7 (x6 + 1) [(6, .int (x6 + 1)), (5, .int x5), (4, .int (x4 + 1)), (8, .int v6), (7, .int v5), (1, .int x1), (2, .int x2), (3, .int x3)] C dX10_fair_150 rfl rfl (Nat.le_of_ble_eq_true rfl) rfl ?_
            refine j_goto (pc := 153) 59 C dX10_fair_153 (by decide) ?_
            refine j_sub [5, 6, 7, 2, 1, 0] rfl ?_
            exact ih x1 x2 x3 (x4 + 1) x5 (x6 + 1) T13
          ·
            refine j_bipush (pc := 135) 10 C dX10_fair_135 (by decide) ?_
            refine j_iload (pc := 137) 2 C dX10_fair_137 rfl ?_
            refine j_imul (pc := 139) C dX10_fair_139 ?_
            refine j_iload (pc := 140) 1 C dX10_fair_140 rfl ?_
            refine j_iadd (pc := 142) C dX10_fair_142 ?_
            refine j_goto (pc := 143) 148 C dX10_fair_143 (by decide) ?_
            refine j_nxI (fun v15 => ?_)
            refine j_istore (pc := 148) [(5, .int v15), (4, .int (x4 + 1)), (8, .int v6), (7, .int v5), (1, .int x1), (2, .int x2), (3, .int x3), (6, .int x6)] C dX10_fair_148 (Nat.le_of_ble_eq_true rfl) rfl ?_
            refine j_iinc (pc := 150) 7 (x6 + 1) [(6, .int (x6 + 1)), (5, .int v15), (4, .int (x4 + 1)), (8, .int v6), (7, .int v5), (1, .int x1), (2, .int x2), (3, .int x3)] C dX10_fair_150 rfl rfl (Nat.le_of_ble_eq_true rfl) rfl ?_
            refine j_goto (pc := 153) 59 C dX10_fair_153 (by decide) ?_
            refine j_sub [5, 6, 7, 2, 1, 0] rfl ?_
            exact ih x1 x2 x3 (x4 + 1) v15 (x6 + 1) T13
        ·
          refine j_goto (pc := 123) 150 C dX10_fair_123 (by decide) ?_
          refine j_iinc (pc := 150) 7 (x6 + 1) [(6, .int (x6 + 1)), (8, .int v6), (7, .int v5), (1, .int x1), (2, .int x2), (3, .int x3), (4, .int x4), (5, .int x5)] C dX10_fair_150 rfl rfl (Nat.le_of_ble_eq_true rfl) rfl ?_
          refine j_goto (pc := 153) 59 C dX10_fair_153 (by decide) ?_
          refine j_sub [3, 4, 5, 6, 7, 0] rfl ?_
          exact ih x1 x2 x3 x4 x5 (x6 + 1) T13
theorem bR_fair_40 {E : Ec} {G : Gc}    (C : JC E (VR G 9 0 0 RX10) cX10_fair 2 (some .int))    (x1 : Int32) (x2 : Int32) (x3 : Int32) (s0 : Int32) (S : St) : J E (VR G 9 0 0 RX10) 0 0 40 [(1, .int x1), (2, .int x2), (3, .int x3)] [.int s0, .ref (gA G 0)] S (fR_fair_40  x1 x2 x3 s0 S) := by
  unfold fR_fair_40
  refine j_iconst (pc := 40) 1 C dX10_fair_40 (by decide) ?_
  refine j_iconst (pc := 41) 1 C dX10_fair_41 (by decide) ?_
  refine j_callI0 (pc := 42) C (rR_may C dX10_fair_42 q_822 (by omega) (Nat.le_of_ble_eq_true rfl) ⟨Nat.le_of_ble_eq_true rfl, Nat.le_of_ble_eq_true rfl⟩) ⟨Nat.le_of_ble_eq_true rfl, Nat.le_of_ble_eq_true rfl⟩ (fun r2 T1 => ?_)
  refine j_if_ne (pc := 45) 50 C dX10_fair_45 (by decide) ?_ ?_
  ·
    refine j_iconst (pc := 50) 0 C dX10_fair_50 (by decide) ?_
    refine j_istore (pc := 51) [(4, .int 0), (1, .int x1), (2, .int x2), (3, .int x3)] C dX10_fair_51 (Nat.le_of_ble_eq_true rfl) rfl ?_
    refine j_iconst (pc := 53) (-1) C dX10_fair_53 (by decide) ?_
    refine j_istore (pc := 54) [(5, .int (-1)), (4, .int 0), (1, .int x1), (2, .int x2), (3, .int x3)] C dX10_fair_54 (Nat.le_of_ble_eq_true rfl) rfl ?_
    refine j_iconst (pc := 56) 0 C dX10_fair_56 (by decide) ?_
    refine j_istore (pc := 57) [(6, .int 0), (5, .int (-1)), (4, .int 0), (1, .int x1), (2, .int x2), (3, .int x3)] C dX10_fair_57 (Nat.le_of_ble_eq_true rfl) rfl ?_
    refine j_sub [3, 4, 5, 2, 1, 0] rfl ?_
    exact bR_fair_59 C  FU x1 x2 x3 0 (-1) 0 T1
  ·
    refine j_iconst (pc := 48) 0 C dX10_fair_48 (by decide) ?_
    exact j_iret C dX10_fair_49 rfl (Nat.le_of_ble_eq_true rfl) (Nat.le_of_ble_eq_true rfl)
theorem bR_fair_39 {E : Ec} {G : Gc}    (C : JC E (VR G 9 0 0 RX10) cX10_fair 2 (some .int))    (x1 : Int32) (x2 : Int32) (x3 : Int32) (S : St) : J E (VR G 9 0 0 RX10) 0 0 39 [(1, .int x1), (2, .int x2), (3, .int x3)] [.ref (gA G 0)] S (fR_fair_39  x1 x2 x3 S) := by
  unfold fR_fair_39
  refine j_iconst (pc := 39) 0 C dX10_fair_39 (by decide) ?_
  exact bR_fair_40 C  x1 x2 x3 0 S
theorem bR_fair {E : Ec} {G : Gc}    (C : JC E (VR G 9 0 0 RX10) cX10_fair 2 (some .int))    (x1 : Int32) (x2 : Int32) (x3 : Int32) (S : St) : J E (VR G 9 0 0 RX10) 0 0 0 [(0, .ref (gA G 0)), (1, .int x1), (2, .int x2), (3, .int x3)] [] S (fR_fair  x1 x2 x3 S) := by
  unfold fR_fair
  refine j_aload_n (pc := 0) 0 C dX10_fair_0 rfl rfl ?_
  refine j_iconst (pc := 1) 0 C dX10_fair_1 (by decide) ?_
  refine pR_0_0 (pc := 2) C dX10_fair_2 q_811 ?_
  refine j_nxS (fun T1 => ?_)
  refine j_aload_n (pc := 5) 0 C dX10_fair_5 rfl rfl ?_
  refine j_iload_n (pc := 6) 1 C dX10_fair_6 rfl rfl ?_
  refine j_iconst (pc := 7) 0 C dX10_fair_7 (by decide) ?_
  refine j_bipush (pc := 8) 99 C dX10_fair_8 (by decide) ?_
  refine j_callI0 (pc := 10) C (rR_within C dX10_fair_10 q_1094 (by omega) (Nat.le_of_ble_eq_true rfl) ⟨Nat.le_of_ble_eq_true rfl, Nat.le_of_ble_eq_true rfl⟩) ⟨Nat.le_of_ble_eq_true rfl, Nat.le_of_ble_eq_true rfl⟩ (fun r3 T2 => ?_)
  refine j_if_eq (pc := 13) 39 C dX10_fair_13 (by decide) ?_ ?_
  ·
    refine j_sub [1, 2, 3] rfl ?_
    exact bR_fair_39 C  x1 x2 x3 T2
  ·
    refine j_iload_n (pc := 16) 2 C dX10_fair_16 rfl rfl ?_
    refine j_iconst (pc := 17) 0 C dX10_fair_17 (by decide) ?_
    refine j_bipush (pc := 18) 99 C dX10_fair_18 (by decide) ?_
    refine j_callI0 (pc := 20) C (rR_within C dX10_fair_20 q_1094 (by omega) (Nat.le_of_ble_eq_true rfl) ⟨Nat.le_of_ble_eq_true rfl, Nat.le_of_ble_eq_true rfl⟩) ⟨Nat.le_of_ble_eq_true rfl, Nat.le_of_ble_eq_true rfl⟩ (fun r5 T4 => ?_)
    refine j_if_eq (pc := 23) 39 C dX10_fair_23 (by decide) ?_ ?_
    ·
      refine j_sub [1, 2, 3] rfl ?_
      exact bR_fair_39 C  x1 x2 x3 T4
    ·
      refine j_iload_n (pc := 26) 3 C dX10_fair_26 rfl rfl ?_
      refine j_iconst (pc := 27) 0 C dX10_fair_27 (by decide) ?_
      refine j_iconst (pc := 28) 2 C dX10_fair_28 (by decide) ?_
      refine j_callI0 (pc := 29) C (rR_within C dX10_fair_29 q_1094 (by omega) (Nat.le_of_ble_eq_true rfl) ⟨Nat.le_of_ble_eq_true rfl, Nat.le_of_ble_eq_true rfl⟩) ⟨Nat.le_of_ble_eq_true rfl, Nat.le_of_ble_eq_true rfl⟩ (fun r7 T6 => ?_)
      refine j_if_eq (pc := 32) 39 C dX10_fair_32 (by decide) ?_ ?_
      ·
        refine j_sub [1, 2, 3] rfl ?_
        exact bR_fair_39 C  x1 x2 x3 T6
      ·
        refine j_iconst (pc := 35) 1 C dX10_fair_35 (by decide) ?_
        refine j_goto (pc := 36) 40 C dX10_fair_36 (by decide) ?_
        refine j_sub [1, 2, 3] rfl ?_
        exact bR_fair_40 C  x1 x2 x3 1 T6
theorem cR_fair {l : Launch} {G : Gc} (hfl : l.stackTraces = false) (hW : Wok G wR 26)   (x1 : Int32) (x2 : Int32) (x3 : Int32) (S : St) : Ct l yX10_fair (Cond.code yX10_fair cX10_fair 9 (some .int) :: tblG) 2 0 0 G wR 26 [.ref (gA G 0), .int x1, .int x2, .int x3] S (fR_fair x1 x2 x3 S) := ct_of (own := RX10) hfl (by decide +kernel) rfl hW (Nat.le_of_ble_eq_true rfl) (fun E hE C => by subst hE; exact bR_fair C   x1 x2 x3 S)
theorem rR_fair {E : Ec} {G : Gc} {nL mc ms : Nat} {own : String} {cc : ByteArray} {L : Nat} {ret : Option FieldType} {k n pc ix : Nat} {loc : List (Nat × Value)} {rest : List Value}  {x1 : Int32} {x2 : Int32} {x3 : Int32} {S : St}  (C : JC E (VR G nL mc ms own) cc L ret) (hd : decode cc pc = .ok (.invokevirtual ix, 3)) (hq : Cond.methodLink own ix yX10_fair ∈ tblG) (hL : 2 + 1 ≤ L) (hW : (rest.map fun v => v.category).sum ≤ 8) (hf : k + 0 ≤ mc ∧ n + 0 ≤ ms) : Rn E (VR G nL mc ms own) k n 0 0 pc loc (.int x3 :: .int x2 :: .int x1 :: .ref (gA G 0) :: rest) rest S (fR_fair x1 x2 x3 S) := rn_V (ci := 10) 0 (V := VR G nL mc ms own) (As := [.int x1, .int x2, .int x3]) (Cq := (RX10, TX10, 53)) (cR_fair C.flags C.wok  x1 x2 x3 S) knX10_fair ⟨q_1212, q_1213⟩ rfl rfl C hd hq hL rfl rfl hW hf

theorem knX10_bounded : Kn yX10_bounded cX10_bounded 3 (some .int) 2 := ⟨q_1214, q_815, by decide +kernel, by decide⟩
theorem bR_bounded {E : Ec} {G : Gc}    (C : JC E (VR G 3 0 0 RX10) cX10_bounded 3 (some .int))    (x1 : Int32) (x2 : Int32) (S : St) : J E (VR G 3 0 0 RX10) 0 0 0 [(0, .ref (gA G 0)), (1, .int x1), (2, .int x2)] [] S (fR_bounded  x1 x2 S) := by
  unfold fR_bounded
  refine j_aload_n (pc := 0) 0 C dX10_bounded_0 rfl rfl ?_
  refine j_iload_n (pc := 1) 1 C dX10_bounded_1 rfl rfl ?_
  refine j_callI0 (pc := 2) C (rR_allOf C dX10_bounded_2 q_1035 (by omega) (Nat.le_of_ble_eq_true rfl) ⟨Nat.le_of_ble_eq_true rfl, Nat.le_of_ble_eq_true rfl⟩) ⟨Nat.le_of_ble_eq_true rfl, Nat.le_of_ble_eq_true rfl⟩ (fun r2 T1 => ?_)
  refine j_iload_n (pc := 5) 2 C dX10_bounded_5 rfl rfl ?_
  refine j_icmp_ge (pc := 6) 17 C dX10_bounded_6 (by decide) ?_ ?_
  ·
    refine j_iload_n (pc := 17) 2 C dX10_bounded_17 rfl rfl ?_
    exact j_iret C dX10_bounded_18 rfl (Nat.le_of_ble_eq_true rfl) (Nat.le_of_ble_eq_true rfl)
  ·
    refine j_aload_n (pc := 9) 0 C dX10_bounded_9 rfl rfl ?_
    refine j_iload_n (pc := 10) 1 C dX10_bounded_10 rfl rfl ?_
    refine j_callI0 (pc := 11) C (rR_allOf C dX10_bounded_11 q_1035 (by omega) (Nat.le_of_ble_eq_true rfl) ⟨Nat.le_of_ble_eq_true rfl, Nat.le_of_ble_eq_true rfl⟩) ⟨Nat.le_of_ble_eq_true rfl, Nat.le_of_ble_eq_true rfl⟩ (fun r4 T3 => ?_)
    refine j_goto (pc := 14) 18 C dX10_bounded_14 (by decide) ?_
    exact j_iret C dX10_bounded_18 rfl (Nat.le_of_ble_eq_true rfl) (Nat.le_of_ble_eq_true rfl)
theorem cR_bounded {l : Launch} {G : Gc} (hfl : l.stackTraces = false) (hW : Wok G wR 26)   (x1 : Int32) (x2 : Int32) (S : St) : Ct l yX10_bounded (Cond.code yX10_bounded cX10_bounded 3 (some .int) :: tblG) 3 0 0 G wR 26 [.ref (gA G 0), .int x1, .int x2] S (fR_bounded x1 x2 S) := ct_of (own := RX10) hfl (by decide +kernel) rfl hW (Nat.le_of_ble_eq_true rfl) (fun E hE C => by subst hE; exact bR_bounded C   x1 x2 S)
theorem rR_bounded {E : Ec} {G : Gc} {nL mc ms : Nat} {own : String} {cc : ByteArray} {L : Nat} {ret : Option FieldType} {k n pc ix : Nat} {loc : List (Nat × Value)} {rest : List Value}  {x1 : Int32} {x2 : Int32} {S : St}  (C : JC E (VR G nL mc ms own) cc L ret) (hd : decode cc pc = .ok (.invokevirtual ix, 3)) (hq : Cond.methodLink own ix yX10_bounded ∈ tblG) (hL : 3 + 1 ≤ L) (hW : (rest.map fun v => v.category).sum ≤ 8) (hf : k + 0 ≤ mc ∧ n + 0 ≤ ms) : Rn E (VR G nL mc ms own) k n 0 0 pc loc (.int x2 :: .int x1 :: .ref (gA G 0) :: rest) rest S (fR_bounded x1 x2 S) := rn_V (ci := 10) 0 (V := VR G nL mc ms own) (As := [.int x1, .int x2]) (Cq := (RX10, TX10, 53)) (cR_bounded C.flags C.wok  x1 x2 S) knX10_bounded ⟨q_1215, q_1216⟩ rfl rfl C hd hq hL rfl rfl hW hf

theorem knX10_candlesBy : Kn yX10_candlesBy cX10_candlesBy 5 (some .int) 2 := ⟨q_1218, q_815, by decide +kernel, by decide⟩
theorem bR_candlesBy_5 {E : Ec} {G : Gc}    (C : JC E (VR G 5 0 0 RX10) cX10_candlesBy 4 (some .int))    : ∀ (n : Nat) (x1 : Int32) (x2 : Int32) (x3 : Int32) (x4 : Int32) (S : St), J E (VR G 5 0 0 RX10) 0 0 5 [(0, .ref (gA G 0)), (1, .int x1), (2, .int x2), (3, .int x3), (4, .int x4)] [] S (fR_candlesBy_5  n x1 x2 x3 x4 S) := by
  intro n
  induction n with
  | zero => intro x1 x2 x3 x4 S; rw [fR_candlesBy_5]; exact j_none
  | succ n ih =>
    intro x1 x2 x3 x4 S
    rw [fR_candlesBy_5]
    refine j_iload (pc := 5) 4 C dX10_candlesBy_5 rfl ?_
    refine j_aload_n (pc := 7) 0 C dX10_candlesBy_7 rfl rfl ?_
    refine gR_0_21 (pc := 8) C dX10_candlesBy_8 q_881 ?_
    refine j_icmp_ge (pc := 11) 37 C dX10_candlesBy_11 (by decide) ?_ ?_
    ·
      refine j_iload_n (pc := 37) 3 C dX10_candlesBy_37 rfl rfl ?_
      exact j_iret C dX10_candlesBy_38 rfl (Nat.le_of_ble_eq_true rfl) (Nat.le_of_ble_eq_true rfl)
    ·
      refine j_iload_n (pc := 14) 3 C dX10_candlesBy_14 rfl rfl ?_
      refine j_iload_n (pc := 15) 1 C dX10_candlesBy_15 rfl rfl ?_
      refine j_iload (pc := 16) 4 C dX10_candlesBy_16 rfl ?_
      refine j_ishr (pc := 18) C dX10_candlesBy_18 ?_
      refine j_iconst (pc := 19) 1 C dX10_candlesBy_19 (by decide) ?_
      refine j_iand (pc := 20) C dX10_candlesBy_20 ?_
      refine j_aload_n (pc := 21) 0 C dX10_candlesBy_21 rfl rfl ?_
      refine j_iload (pc := 22) 4 C dX10_candlesBy_22 rfl ?_
      refine j_iload_n (pc := 24) 2 C dX10_candlesBy_24 rfl rfl ?_
      refine j_callI0 (pc := 25) C (rR_bounded C dX10_candlesBy_25 q_1217 (by omega) (Nat.le_of_ble_eq_true rfl) ⟨Nat.le_of_ble_eq_true rfl, Nat.le_of_ble_eq_true rfl⟩) ⟨Nat.le_of_ble_eq_true rfl, Nat.le_of_ble_eq_true rfl⟩ (fun r2 T1 => ?_)
      refine j_imul (pc := 28) C dX10_candlesBy_28 ?_
      refine j_iadd (pc := 29) C dX10_candlesBy_29 ?_
      refine j_nxI (fun v3 => ?_)
      refine j_istore_n (pc := 30) [(3, .int v3), (0, .ref (gA G 0)), (1, .int x1), (2, .int x2), (4, .int x4)] C dX10_candlesBy_30 rfl (Nat.le_of_ble_eq_true rfl) rfl ?_
      refine j_iinc (pc := 31) 4 (x4 + 1) [(4, .int (x4 + 1)), (3, .int v3), (0, .ref (gA G 0)), (1, .int x1), (2, .int x2)] C dX10_candlesBy_31 rfl rfl (Nat.le_of_ble_eq_true rfl) rfl ?_
      refine j_goto (pc := 34) 5 C dX10_candlesBy_34 (by decide) ?_
      refine j_sub [2, 3, 4, 1, 0] rfl ?_
      exact ih x1 x2 v3 (x4 + 1) T1
theorem bR_candlesBy {E : Ec} {G : Gc}    (C : JC E (VR G 5 0 0 RX10) cX10_candlesBy 4 (some .int))    (x1 : Int32) (x2 : Int32) (S : St) : J E (VR G 5 0 0 RX10) 0 0 0 [(0, .ref (gA G 0)), (1, .int x1), (2, .int x2)] [] S (fR_candlesBy  x1 x2 S) := by
  unfold fR_candlesBy
  refine j_iconst (pc := 0) 0 C dX10_candlesBy_0 (by decide) ?_
  refine j_istore_n (pc := 1) [(3, .int 0), (0, .ref (gA G 0)), (1, .int x1), (2, .int x2)] C dX10_candlesBy_1 rfl (Nat.le_of_ble_eq_true rfl) rfl ?_
  refine j_iconst (pc := 2) 0 C dX10_candlesBy_2 (by decide) ?_
  refine j_istore (pc := 3) [(4, .int 0), (3, .int 0), (0, .ref (gA G 0)), (1, .int x1), (2, .int x2)] C dX10_candlesBy_3 (Nat.le_of_ble_eq_true rfl) rfl ?_
  refine j_sub [2, 3, 4, 1, 0] rfl ?_
  exact bR_candlesBy_5 C  FU x1 x2 0 0 S
theorem cR_candlesBy {l : Launch} {G : Gc} (hfl : l.stackTraces = false) (hW : Wok G wR 26)   (x1 : Int32) (x2 : Int32) (S : St) : Ct l yX10_candlesBy (Cond.code yX10_candlesBy cX10_candlesBy 5 (some .int) :: tblG) 4 0 0 G wR 26 [.ref (gA G 0), .int x1, .int x2] S (fR_candlesBy x1 x2 S) := ct_of (own := RX10) hfl (by decide +kernel) rfl hW (Nat.le_of_ble_eq_true rfl) (fun E hE C => by subst hE; exact bR_candlesBy C   x1 x2 S)
theorem rR_candlesBy {E : Ec} {G : Gc} {nL mc ms : Nat} {own : String} {cc : ByteArray} {L : Nat} {ret : Option FieldType} {k n pc ix : Nat} {loc : List (Nat × Value)} {rest : List Value}  {x1 : Int32} {x2 : Int32} {S : St}  (C : JC E (VR G nL mc ms own) cc L ret) (hd : decode cc pc = .ok (.invokevirtual ix, 3)) (hq : Cond.methodLink own ix yX10_candlesBy ∈ tblG) (hL : 4 + 1 ≤ L) (hW : (rest.map fun v => v.category).sum ≤ 8) (hf : k + 0 ≤ mc ∧ n + 0 ≤ ms) : Rn E (VR G nL mc ms own) k n 0 0 pc loc (.int x2 :: .int x1 :: .ref (gA G 0) :: rest) rest S (fR_candlesBy x1 x2 S) := rn_V (ci := 10) 0 (V := VR G nL mc ms own) (As := [.int x1, .int x2]) (Cq := (RX10, TX10, 53)) (cR_candlesBy C.flags C.wok  x1 x2 S) knX10_candlesBy ⟨q_1219, q_1220⟩ rfl rfl C hd hq hL rfl rfl hW hf

theorem knX10_candles : Kn yX10_candles cX10_candles 5 (some .int) 3 := ⟨q_1222, q_815, by decide +kernel, by decide⟩
theorem bR_candles_63 {E : Ec} {G : Gc}    (C : JC E (VR G 5 0 0 RX10) cX10_candles 5 (some .int))    : ∀ (n : Nat) (x1 : Int32) (x2 : Int32) (x3 : Int32) (x4 : Int32) (S : St), J E (VR G 5 0 0 RX10) 0 0 63 [(0, .ref (gA G 0)), (1, .int x1), (2, .int x2), (3, .int x3), (4, .int x4)] [] S (fR_candles_63  n x1 x2 x3 x4 S) := by
  intro n
  induction n with
  | zero => intro x1 x2 x3 x4 S; rw [fR_candles_63]; exact j_none
  | succ n ih =>
    intro x1 x2 x3 x4 S
    rw [fR_candles_63]
    refine j_aload_n (pc := 63) 0 C dX10_candles_63 rfl rfl ?_
    refine j_iload_n (pc := 64) 2 C dX10_candles_64 rfl rfl ?_
    refine j_iload (pc := 65) 4 C dX10_candles_65 rfl ?_
    refine j_callI0 (pc := 67) C (rR_candlesBy C dX10_candles_67 q_1221 (by omega) (Nat.le_of_ble_eq_true rfl) ⟨Nat.le_of_ble_eq_true rfl, Nat.le_of_ble_eq_true rfl⟩) ⟨Nat.le_of_ble_eq_true rfl, Nat.le_of_ble_eq_true rfl⟩ (fun r2 T1 => ?_)
    refine j_iload_n (pc := 70) 3 C dX10_candles_70 rfl rfl ?_
    refine j_icmp_le (pc := 71) 80 C dX10_candles_71 (by decide) ?_ ?_
    ·
      refine j_iload_n (pc := 80) 2 C dX10_candles_80 rfl rfl ?_
      refine j_iload_n (pc := 81) 1 C dX10_candles_81 rfl rfl ?_
      refine j_ishr (pc := 82) C dX10_candles_82 ?_
      refine j_iconst (pc := 83) 1 C dX10_candles_83 (by decide) ?_
      refine j_iand (pc := 84) C dX10_candles_84 ?_
      refine j_if_ne (pc := 85) 92 C dX10_candles_85 (by decide) ?_ ?_
      ·
        refine j_aload_n (pc := 92) 0 C dX10_candles_92 rfl rfl ?_
        refine j_iload_n (pc := 93) 1 C dX10_candles_93 rfl rfl ?_
        refine j_iload (pc := 94) 4 C dX10_candles_94 rfl ?_
        refine j_callI0 (pc := 96) C (rR_bounded C dX10_candles_96 q_1217 (by omega) (Nat.le_of_ble_eq_true rfl) ⟨Nat.le_of_ble_eq_true rfl, Nat.le_of_ble_eq_true rfl⟩) ⟨Nat.le_of_ble_eq_true rfl, Nat.le_of_ble_eq_true rfl⟩ (fun r4 T3 => ?_)
        exact j_iret C dX10_candles_99 rfl (Nat.le_of_ble_eq_true rfl) (Nat.le_of_ble_eq_true rfl)
      ·
        refine j_iconst (pc := 88) 0 C dX10_candles_88 (by decide) ?_
        refine j_goto (pc := 89) 99 C dX10_candles_89 (by decide) ?_
        exact j_iret C dX10_candles_99 rfl (Nat.le_of_ble_eq_true rfl) (Nat.le_of_ble_eq_true rfl)
    ·
      refine j_iinc (pc := 74) 4 (x4 + (-1)) [(4, .int (x4 + (-1))), (0, .ref (gA G 0)), (1, .int x1), (2, .int x2), (3, .int x3)] C dX10_candles_74 rfl rfl (Nat.le_of_ble_eq_true rfl) rfl ?_
      refine j_goto (pc := 77) 63 C dX10_candles_77 (by decide) ?_
      refine j_sub [1, 2, 3, 4, 0] rfl ?_
      exact ih x1 x2 x3 (x4 + (-1)) T1
theorem bR_candles_45 {E : Ec} {G : Gc}    (C : JC E (VR G 5 0 0 RX10) cX10_candles 5 (some .int))    (x1 : Int32) (x2 : Int32) (x3 : Int32) (s0 : Int32) (S : St) : J E (VR G 5 0 0 RX10) 0 0 45 [(0, .ref (gA G 0)), (1, .int x1), (2, .int x2), (3, .int x3)] [.int s0, .ref (gA G 0)] S (fR_candles_45  x1 x2 x3 s0 S) := by
  unfold fR_candles_45
  refine j_iconst (pc := 45) 2 C dX10_candles_45 (by decide) ?_
  refine j_iconst (pc := 46) 1 C dX10_candles_46 (by decide) ?_
  refine j_callI0 (pc := 47) C (rR_may C dX10_candles_47 q_822 (by omega) (Nat.le_of_ble_eq_true rfl) ⟨Nat.le_of_ble_eq_true rfl, Nat.le_of_ble_eq_true rfl⟩) ⟨Nat.le_of_ble_eq_true rfl, Nat.le_of_ble_eq_true rfl⟩ (fun r2 T1 => ?_)
  refine j_if_ne (pc := 50) 55 C dX10_candles_50 (by decide) ?_ ?_
  ·
    refine j_aload_n (pc := 55) 0 C dX10_candles_55 rfl rfl ?_
    refine j_callv0 (pc := 56) C (rR_take C dX10_candles_56 q_984 (by omega) (Nat.le_of_ble_eq_true rfl) ⟨Nat.le_of_ble_eq_true rfl, Nat.le_of_ble_eq_true rfl⟩) ⟨Nat.le_of_ble_eq_true rfl, Nat.le_of_ble_eq_true rfl⟩ (fun T3 => ?_)
    refine j_bipush (pc := 59) 99 C dX10_candles_59 (by decide) ?_
    refine j_istore (pc := 61) [(4, .int 99), (0, .ref (gA G 0)), (1, .int x1), (2, .int x2), (3, .int x3)] C dX10_candles_61 (Nat.le_of_ble_eq_true rfl) rfl ?_
    refine j_sub [1, 2, 3, 4, 0] rfl ?_
    exact bR_candles_63 C  FU x1 x2 x3 99 T3
  ·
    refine j_iconst (pc := 53) 0 C dX10_candles_53 (by decide) ?_
    exact j_iret C dX10_candles_54 rfl (Nat.le_of_ble_eq_true rfl) (Nat.le_of_ble_eq_true rfl)
theorem bR_candles_44 {E : Ec} {G : Gc}    (C : JC E (VR G 5 0 0 RX10) cX10_candles 5 (some .int))    (x1 : Int32) (x2 : Int32) (x3 : Int32) (S : St) : J E (VR G 5 0 0 RX10) 0 0 44 [(0, .ref (gA G 0)), (1, .int x1), (2, .int x2), (3, .int x3)] [.ref (gA G 0)] S (fR_candles_44  x1 x2 x3 S) := by
  unfold fR_candles_44
  refine j_iconst (pc := 44) 0 C dX10_candles_44 (by decide) ?_
  exact bR_candles_45 C  x1 x2 x3 0 S
theorem bR_candles {E : Ec} {G : Gc}    (C : JC E (VR G 5 0 0 RX10) cX10_candles 5 (some .int))    (x1 : Int32) (x2 : Int32) (x3 : Int32) (S : St) : J E (VR G 5 0 0 RX10) 0 0 0 [(0, .ref (gA G 0)), (1, .int x1), (2, .int x2), (3, .int x3)] [] S (fR_candles  x1 x2 x3 S) := by
  unfold fR_candles
  refine j_aload_n (pc := 0) 0 C dX10_candles_0 rfl rfl ?_
  refine j_iconst (pc := 1) 0 C dX10_candles_1 (by decide) ?_
  refine pR_0_0 (pc := 2) C dX10_candles_2 q_811 ?_
  refine j_nxS (fun T1 => ?_)
  refine j_aload_n (pc := 5) 0 C dX10_candles_5 rfl rfl ?_
  refine j_iload_n (pc := 6) 1 C dX10_candles_6 rfl rfl ?_
  refine j_iconst (pc := 7) 1 C dX10_candles_7 (by decide) ?_
  refine j_callI0 (pc := 8) C (rR_isMan C dX10_candles_8 q_1124 (by omega) (Nat.le_of_ble_eq_true rfl) ⟨Nat.le_of_ble_eq_true rfl, Nat.le_of_ble_eq_true rfl⟩) ⟨Nat.le_of_ble_eq_true rfl, Nat.le_of_ble_eq_true rfl⟩ (fun r3 T2 => ?_)
  refine j_if_eq (pc := 11) 53 C dX10_candles_11 (by decide) ?_ ?_
  ·
    refine j_iconst (pc := 53) 0 C dX10_candles_53 (by decide) ?_
    exact j_iret C dX10_candles_54 rfl (Nat.le_of_ble_eq_true rfl) (Nat.le_of_ble_eq_true rfl)
  ·
    refine j_aload_n (pc := 14) 0 C dX10_candles_14 rfl rfl ?_
    refine j_iload_n (pc := 15) 2 C dX10_candles_15 rfl rfl ?_
    refine j_if_lt (pc := 16) 44 C dX10_candles_16 (by decide) ?_ ?_
    ·
      exact bR_candles_44 C  x1 x2 x3 T2
    ·
      refine j_iload_n (pc := 19) 2 C dX10_candles_19 rfl rfl ?_
      refine j_iconst (pc := 20) 1 C dX10_candles_20 (by decide) ?_
      refine j_aload_n (pc := 21) 0 C dX10_candles_21 rfl rfl ?_
      refine gR_0_21 (pc := 22) C dX10_candles_22 q_881 ?_
      refine j_ishl (pc := 25) C dX10_candles_25 ?_
      refine j_icmp_ge (pc := 26) 44 C dX10_candles_26 (by decide) ?_ ?_
      ·
        exact bR_candles_44 C  x1 x2 x3 T2
      ·
        refine j_iload_n (pc := 29) 3 C dX10_candles_29 rfl rfl ?_
        refine j_iconst (pc := 30) 0 C dX10_candles_30 (by decide) ?_
        refine j_sipush (pc := 31) 999 C dX10_candles_31 (by decide) ?_
        refine j_callI0 (pc := 34) C (rR_within C dX10_candles_34 q_1094 (by omega) (Nat.le_of_ble_eq_true rfl) ⟨Nat.le_of_ble_eq_true rfl, Nat.le_of_ble_eq_true rfl⟩) ⟨Nat.le_of_ble_eq_true rfl, Nat.le_of_ble_eq_true rfl⟩ (fun r5 T4 => ?_)
        refine j_if_eq (pc := 37) 44 C dX10_candles_37 (by decide) ?_ ?_
        ·
          exact bR_candles_44 C  x1 x2 x3 T4
        ·
          refine j_iconst (pc := 40) 1 C dX10_candles_40 (by decide) ?_
          refine j_goto (pc := 41) 45 C dX10_candles_41 (by decide) ?_
          exact bR_candles_45 C  x1 x2 x3 1 T4
theorem cR_candles {l : Launch} {G : Gc} (hfl : l.stackTraces = false) (hW : Wok G wR 26)   (x1 : Int32) (x2 : Int32) (x3 : Int32) (S : St) : Ct l yX10_candles (Cond.code yX10_candles cX10_candles 5 (some .int) :: tblG) 5 0 0 G wR 26 [.ref (gA G 0), .int x1, .int x2, .int x3] S (fR_candles x1 x2 x3 S) := ct_of (own := RX10) hfl (by decide +kernel) rfl hW (Nat.le_of_ble_eq_true rfl) (fun E hE C => by subst hE; exact bR_candles C   x1 x2 x3 S)
theorem rR_candles {E : Ec} {G : Gc} {nL mc ms : Nat} {own : String} {cc : ByteArray} {L : Nat} {ret : Option FieldType} {k n pc ix : Nat} {loc : List (Nat × Value)} {rest : List Value}  {x1 : Int32} {x2 : Int32} {x3 : Int32} {S : St}  (C : JC E (VR G nL mc ms own) cc L ret) (hd : decode cc pc = .ok (.invokevirtual ix, 3)) (hq : Cond.methodLink own ix yX10_candles ∈ tblG) (hL : 5 + 1 ≤ L) (hW : (rest.map fun v => v.category).sum ≤ 8) (hf : k + 0 ≤ mc ∧ n + 0 ≤ ms) : Rn E (VR G nL mc ms own) k n 0 0 pc loc (.int x3 :: .int x2 :: .int x1 :: .ref (gA G 0) :: rest) rest S (fR_candles x1 x2 x3 S) := rn_V (ci := 10) 0 (V := VR G nL mc ms own) (As := [.int x1, .int x2, .int x3]) (Cq := (RX10, TX10, 53)) (cR_candles C.flags C.wok  x1 x2 x3 S) knX10_candles ⟨q_1223, q_1224⟩ rfl rfl C hd hq hL rfl rfl hW hf

theorem knX10_fullest : Kn yX10_fullest cX10_fullest 4 (some .int) 1 := ⟨q_1225, q_815, by decide +kernel, by decide⟩
theorem bR_fullest_30 {E : Ec} {G : Gc}    (C : JC E (VR G 4 0 0 RX10) cX10_fullest 3 (some .int))    : ∀ (n : Nat) (x1 : Int32) (x2 : Int32) (x3 : Int32) (S : St), J E (VR G 4 0 0 RX10) 0 0 30 [(0, .ref (gA G 0)), (1, .int x1), (2, .int x2), (3, .int x3)] [] S (fR_fullest_30  n x1 x2 x3 S) := by
  intro n
  induction n with
  | zero => intro x1 x2 x3 S; rw [fR_fullest_30]; exact j_none
  | succ n ih =>
    intro x1 x2 x3 S
    rw [fR_fullest_30]
    refine j_iload_n (pc := 30) 3 C dX10_fullest_30 rfl rfl ?_
    refine j_aload_n (pc := 31) 0 C dX10_fullest_31 rfl rfl ?_
    refine gR_0_21 (pc := 32) C dX10_fullest_32 q_881 ?_
    refine j_icmp_ge (pc := 35) 64 C dX10_fullest_35 (by decide) ?_ ?_
    ·
      refine j_iload_n (pc := 64) 1 C dX10_fullest_64 rfl rfl ?_
      refine j_if_eq (pc := 65) 73 C dX10_fullest_65 (by decide) ?_ ?_
      ·
        refine j_iload_n (pc := 73) 2 C dX10_fullest_73 rfl rfl ?_
        refine j_goto (pc := 74) 82 C dX10_fullest_74 (by decide) ?_
        exact j_iret C dX10_fullest_82 rfl (Nat.le_of_ble_eq_true rfl) (Nat.le_of_ble_eq_true rfl)
      ·
        refine j_iload_n (pc := 68) 2 C dX10_fullest_68 rfl rfl ?_
        refine j_iconst (pc := 69) (-1) C dX10_fullest_69 (by decide) ?_
        refine j_icmp_ne (pc := 70) 77 C dX10_fullest_70 (by decide) ?_ ?_
        ·
          refine j_aload_n (pc := 77) 0 C dX10_fullest_77 rfl rfl ?_
          refine j_iload_n (pc := 78) 2 C dX10_fullest_78 rfl rfl ?_
          refine j_callI0 (pc := 79) C (rR_allOf C dX10_fullest_79 q_1035 (by omega) (Nat.le_of_ble_eq_true rfl) ⟨Nat.le_of_ble_eq_true rfl, Nat.le_of_ble_eq_true rfl⟩) ⟨Nat.le_of_ble_eq_true rfl, Nat.le_of_ble_eq_true rfl⟩ (fun r2 T1 => ?_)
          exact j_iret C dX10_fullest_82 rfl (Nat.le_of_ble_eq_true rfl) (Nat.le_of_ble_eq_true rfl)
        ·
          refine j_iload_n (pc := 73) 2 C dX10_fullest_73 rfl rfl ?_
          refine j_goto (pc := 74) 82 C dX10_fullest_74 (by decide) ?_
          exact j_iret C dX10_fullest_82 rfl (Nat.le_of_ble_eq_true rfl) (Nat.le_of_ble_eq_true rfl)
    ·
      refine j_iload_n (pc := 38) 2 C dX10_fullest_38 rfl rfl ?_
      refine j_iconst (pc := 39) (-1) C dX10_fullest_39 (by decide) ?_
      refine j_icmp_eq (pc := 40) 56 C dX10_fullest_40 (by decide) ?_ ?_
      ·
        refine j_iload_n (pc := 56) 3 C dX10_fullest_56 rfl rfl ?_
        refine j_istore_n (pc := 57) [(2, .int x3), (0, .ref (gA G 0)), (1, .int x1), (3, .int x3)] C dX10_fullest_57 rfl (Nat.le_of_ble_eq_true rfl) rfl ?_
        refine j_iinc (pc := 58) 3 (x3 + 1) [(3, .int (x3 + 1)), (2, .int x3), (0, .ref (gA G 0)), (1, .int x1)] C dX10_fullest_58 rfl rfl (Nat.le_of_ble_eq_true rfl) rfl ?_
        refine j_goto (pc := 61) 30 C dX10_fullest_61 (by decide) ?_
        refine j_sub [2, 3, 1, 0] rfl ?_
        exact ih x1 x3 (x3 + 1) S
      ·
        refine j_aload_n (pc := 43) 0 C dX10_fullest_43 rfl rfl ?_
        refine j_iload_n (pc := 44) 3 C dX10_fullest_44 rfl rfl ?_
        refine j_callI0 (pc := 45) C (rR_allOf C dX10_fullest_45 q_1035 (by omega) (Nat.le_of_ble_eq_true rfl) ⟨Nat.le_of_ble_eq_true rfl, Nat.le_of_ble_eq_true rfl⟩) ⟨Nat.le_of_ble_eq_true rfl, Nat.le_of_ble_eq_true rfl⟩ (fun r4 T3 => ?_)
        refine j_aload_n (pc := 48) 0 C dX10_fullest_48 rfl rfl ?_
        refine j_iload_n (pc := 49) 2 C dX10_fullest_49 rfl rfl ?_
        refine j_callI0 (pc := 50) C (rR_allOf C dX10_fullest_50 q_1035 (by omega) (Nat.le_of_ble_eq_true rfl) ⟨Nat.le_of_ble_eq_true rfl, Nat.le_of_ble_eq_true rfl⟩) ⟨Nat.le_of_ble_eq_true rfl, Nat.le_of_ble_eq_true rfl⟩ (fun r6 T5 => ?_)
        refine j_icmp_le (pc := 53) 58 C dX10_fullest_53 (by decide) ?_ ?_
        ·
          refine j_iinc (pc := 58) 3 (x3 + 1) [(3, .int (x3 + 1)), (0, .ref (gA G 0)), (1, .int x1), (2, .int x2)] C dX10_fullest_58 rfl rfl (Nat.le_of_ble_eq_true rfl) rfl ?_
          refine j_goto (pc := 61) 30 C dX10_fullest_61 (by decide) ?_
          refine j_sub [1, 2, 3, 0] rfl ?_
          exact ih x1 x2 (x3 + 1) T5
        ·
          refine j_iload_n (pc := 56) 3 C dX10_fullest_56 rfl rfl ?_
          refine j_istore_n (pc := 57) [(2, .int x3), (0, .ref (gA G 0)), (1, .int x1), (3, .int x3)] C dX10_fullest_57 rfl (Nat.le_of_ble_eq_true rfl) rfl ?_
          refine j_iinc (pc := 58) 3 (x3 + 1) [(3, .int (x3 + 1)), (2, .int x3), (0, .ref (gA G 0)), (1, .int x1)] C dX10_fullest_58 rfl rfl (Nat.le_of_ble_eq_true rfl) rfl ?_
          refine j_goto (pc := 61) 30 C dX10_fullest_61 (by decide) ?_
          refine j_sub [2, 3, 1, 0] rfl ?_
          exact ih x1 x3 (x3 + 1) T5
theorem bR_fullest {E : Ec} {G : Gc}    (C : JC E (VR G 4 0 0 RX10) cX10_fullest 3 (some .int))    (x1 : Int32) (S : St) : J E (VR G 4 0 0 RX10) 0 0 0 [(0, .ref (gA G 0)), (1, .int x1)] [] S (fR_fullest  x1 S) := by
  unfold fR_fullest
  refine j_aload_n (pc := 0) 0 C dX10_fullest_0 rfl rfl ?_
  refine j_iconst (pc := 1) 0 C dX10_fullest_1 (by decide) ?_
  refine pR_0_0 (pc := 2) C dX10_fullest_2 q_811 ?_
  refine j_nxS (fun T1 => ?_)
  refine j_aload_n (pc := 5) 0 C dX10_fullest_5 rfl rfl ?_
  refine j_iload_n (pc := 6) 1 C dX10_fullest_6 rfl rfl ?_
  refine j_iconst (pc := 7) 0 C dX10_fullest_7 (by decide) ?_
  refine j_iconst (pc := 8) 1 C dX10_fullest_8 (by decide) ?_
  refine j_callI0 (pc := 9) C (rR_within C dX10_fullest_9 q_1094 (by omega) (Nat.le_of_ble_eq_true rfl) ⟨Nat.le_of_ble_eq_true rfl, Nat.le_of_ble_eq_true rfl⟩) ⟨Nat.le_of_ble_eq_true rfl, Nat.le_of_ble_eq_true rfl⟩ (fun r3 T2 => ?_)
  refine j_iconst (pc := 12) 1 C dX10_fullest_12 (by decide) ?_
  refine j_iconst (pc := 13) 1 C dX10_fullest_13 (by decide) ?_
  refine j_callI0 (pc := 14) C (rR_may C dX10_fullest_14 q_822 (by omega) (Nat.le_of_ble_eq_true rfl) ⟨Nat.le_of_ble_eq_true rfl, Nat.le_of_ble_eq_true rfl⟩) ⟨Nat.le_of_ble_eq_true rfl, Nat.le_of_ble_eq_true rfl⟩ (fun r5 T4 => ?_)
  refine j_if_ne (pc := 17) 22 C dX10_fullest_17 (by decide) ?_ ?_
  ·
    refine j_aload_n (pc := 22) 0 C dX10_fullest_22 rfl rfl ?_
    refine j_callv0 (pc := 23) C (rR_take C dX10_fullest_23 q_984 (by omega) (Nat.le_of_ble_eq_true rfl) ⟨Nat.le_of_ble_eq_true rfl, Nat.le_of_ble_eq_true rfl⟩) ⟨Nat.le_of_ble_eq_true rfl, Nat.le_of_ble_eq_true rfl⟩ (fun T6 => ?_)
    refine j_iconst (pc := 26) (-1) C dX10_fullest_26 (by decide) ?_
    refine j_istore_n (pc := 27) [(2, .int (-1)), (0, .ref (gA G 0)), (1, .int x1)] C dX10_fullest_27 rfl (Nat.le_of_ble_eq_true rfl) rfl ?_
    refine j_iconst (pc := 28) 0 C dX10_fullest_28 (by decide) ?_
    refine j_istore_n (pc := 29) [(3, .int 0), (2, .int (-1)), (0, .ref (gA G 0)), (1, .int x1)] C dX10_fullest_29 rfl (Nat.le_of_ble_eq_true rfl) rfl ?_
    refine j_sub [2, 3, 1, 0] rfl ?_
    exact bR_fullest_30 C  FU x1 (-1) 0 T6
  ·
    refine j_iconst (pc := 20) 0 C dX10_fullest_20 (by decide) ?_
    exact j_iret C dX10_fullest_21 rfl (Nat.le_of_ble_eq_true rfl) (Nat.le_of_ble_eq_true rfl)
theorem cR_fullest {l : Launch} {G : Gc} (hfl : l.stackTraces = false) (hW : Wok G wR 26)   (x1 : Int32) (S : St) : Ct l yX10_fullest (Cond.code yX10_fullest cX10_fullest 4 (some .int) :: tblG) 3 0 0 G wR 26 [.ref (gA G 0), .int x1] S (fR_fullest x1 S) := ct_of (own := RX10) hfl (by decide +kernel) rfl hW (Nat.le_of_ble_eq_true rfl) (fun E hE C => by subst hE; exact bR_fullest C   x1 S)
theorem rR_fullest {E : Ec} {G : Gc} {nL mc ms : Nat} {own : String} {cc : ByteArray} {L : Nat} {ret : Option FieldType} {k n pc ix : Nat} {loc : List (Nat × Value)} {rest : List Value}  {x1 : Int32} {S : St}  (C : JC E (VR G nL mc ms own) cc L ret) (hd : decode cc pc = .ok (.invokevirtual ix, 3)) (hq : Cond.methodLink own ix yX10_fullest ∈ tblG) (hL : 3 + 1 ≤ L) (hW : (rest.map fun v => v.category).sum ≤ 8) (hf : k + 0 ≤ mc ∧ n + 0 ≤ ms) : Rn E (VR G nL mc ms own) k n 0 0 pc loc (.int x1 :: .ref (gA G 0) :: rest) rest S (fR_fullest x1 S) := rn_V (ci := 10) 0 (V := VR G nL mc ms own) (As := [.int x1]) (Cq := (RX10, TX10, 53)) (cR_fullest C.flags C.wok  x1 S) knX10_fullest ⟨q_1226, q_1227⟩ rfl rfl C hd hq hL rfl rfl hW hf

theorem knX10_free : Kn yX10_free cX10_free 3 (some .int) 0 := ⟨q_1228, q_815, by decide +kernel, by decide⟩
theorem bR_free_13 {E : Ec} {G : Gc}    (C : JC E (VR G 3 0 0 RX10) cX10_free 3 (some .int))    : ∀ (n : Nat) (x1 : Int32) (x2 : Int32) (S : St), J E (VR G 3 0 0 RX10) 0 0 13 [(0, .ref (gA G 0)), (1, .int x1), (2, .int x2)] [] S (fR_free_13  n x1 x2 S) := by
  intro n
  induction n with
  | zero => intro x1 x2 S; rw [fR_free_13]; exact j_none
  | succ n ih =>
    intro x1 x2 S
    rw [fR_free_13]
    refine j_iload_n (pc := 13) 2 C dX10_free_13 rfl rfl ?_
    refine j_aload_n (pc := 14) 0 C dX10_free_14 rfl rfl ?_
    refine gR_0_21 (pc := 15) C dX10_free_15 q_881 ?_
    refine j_icmp_ge (pc := 18) 46 C dX10_free_18 (by decide) ?_ ?_
    ·
      refine j_iload_n (pc := 46) 1 C dX10_free_46 rfl rfl ?_
      exact j_iret C dX10_free_47 rfl (Nat.le_of_ble_eq_true rfl) (Nat.le_of_ble_eq_true rfl)
    ·
      refine j_iload_n (pc := 21) 1 C dX10_free_21 rfl rfl ?_
      refine j_aload_n (pc := 22) 0 C dX10_free_22 rfl rfl ?_
      refine j_iconst (pc := 23) 0 C dX10_free_23 (by decide) ?_
      refine j_iload_n (pc := 24) 2 C dX10_free_24 rfl rfl ?_
      refine j_callI0 (pc := 25) C (rR_openBy C dX10_free_25 q_1117 (by omega) (Nat.le_of_ble_eq_true rfl) ⟨Nat.le_of_ble_eq_true rfl, Nat.le_of_ble_eq_true rfl⟩) ⟨Nat.le_of_ble_eq_true rfl, Nat.le_of_ble_eq_true rfl⟩ (fun r2 T1 => ?_)
      refine j_if_ne (pc := 28) 37 C dX10_free_28 (by decide) ?_ ?_
      ·
        refine j_iconst (pc := 37) 0 C dX10_free_37 (by decide) ?_
        refine j_ior (pc := 38) C dX10_free_38 ?_
        refine j_nxI (fun v3 => ?_)
        refine j_istore_n (pc := 39) [(1, .int v3), (0, .ref (gA G 0)), (2, .int x2)] C dX10_free_39 rfl (Nat.le_of_ble_eq_true rfl) rfl ?_
        refine j_iinc (pc := 40) 2 (x2 + 1) [(2, .int (x2 + 1)), (1, .int v3), (0, .ref (gA G 0))] C dX10_free_40 rfl rfl (Nat.le_of_ble_eq_true rfl) rfl ?_
        refine j_goto (pc := 43) 13 C dX10_free_43 (by decide) ?_
        refine j_sub [2, 1, 0] rfl ?_
        exact ih v3 (x2 + 1) T1
      ·
        refine j_iconst (pc := 31) 1 C dX10_free_31 (by decide) ?_
        refine j_iload_n (pc := 32) 2 C dX10_free_32 rfl rfl ?_
        refine j_ishl (pc := 33) C dX10_free_33 ?_
        refine j_goto (pc := 34) 38 C dX10_free_34 (by decide) ?_
        refine j_ior (pc := 38) C dX10_free_38 ?_
        refine j_nxI (fun v4 => ?_)
        refine j_istore_n (pc := 39) [(1, .int v4), (0, .ref (gA G 0)), (2, .int x2)] C dX10_free_39 rfl (Nat.le_of_ble_eq_true rfl) rfl ?_
        refine j_iinc (pc := 40) 2 (x2 + 1) [(2, .int (x2 + 1)), (1, .int v4), (0, .ref (gA G 0))] C dX10_free_40 rfl rfl (Nat.le_of_ble_eq_true rfl) rfl ?_
        refine j_goto (pc := 43) 13 C dX10_free_43 (by decide) ?_
        refine j_sub [2, 1, 0] rfl ?_
        exact ih v4 (x2 + 1) T1
theorem bR_free {E : Ec} {G : Gc}    (C : JC E (VR G 3 0 0 RX10) cX10_free 3 (some .int))     (S : St) : J E (VR G 3 0 0 RX10) 0 0 0 [(0, .ref (gA G 0))] [] S (fR_free   S) := by
  unfold fR_free
  refine j_aload_n (pc := 0) 0 C dX10_free_0 rfl rfl ?_
  refine j_iconst (pc := 1) 0 C dX10_free_1 (by decide) ?_
  refine pR_0_0 (pc := 2) C dX10_free_2 q_811 ?_
  refine j_nxS (fun T1 => ?_)
  refine j_aload_n (pc := 5) 0 C dX10_free_5 rfl rfl ?_
  refine j_callv0 (pc := 6) C (rR_take C dX10_free_6 q_984 (by omega) (Nat.le_of_ble_eq_true rfl) ⟨Nat.le_of_ble_eq_true rfl, Nat.le_of_ble_eq_true rfl⟩) ⟨Nat.le_of_ble_eq_true rfl, Nat.le_of_ble_eq_true rfl⟩ (fun T2 => ?_)
  refine j_iconst (pc := 9) 0 C dX10_free_9 (by decide) ?_
  refine j_istore_n (pc := 10) [(1, .int 0), (0, .ref (gA G 0))] C dX10_free_10 rfl (Nat.le_of_ble_eq_true rfl) rfl ?_
  refine j_iconst (pc := 11) 0 C dX10_free_11 (by decide) ?_
  refine j_istore_n (pc := 12) [(2, .int 0), (1, .int 0), (0, .ref (gA G 0))] C dX10_free_12 rfl (Nat.le_of_ble_eq_true rfl) rfl ?_
  refine j_sub [2, 1, 0] rfl ?_
  exact bR_free_13 C  FU 0 0 T2
theorem cR_free {l : Launch} {G : Gc} (hfl : l.stackTraces = false) (hW : Wok G wR 26)    (S : St) : Ct l yX10_free (Cond.code yX10_free cX10_free 3 (some .int) :: tblG) 3 0 0 G wR 26 [.ref (gA G 0)] S (fR_free  S) := ct_of (own := RX10) hfl (by decide +kernel) rfl hW (Nat.le_of_ble_eq_true rfl) (fun E hE C => by subst hE; exact bR_free C    S)
theorem rR_free {E : Ec} {G : Gc} {nL mc ms : Nat} {own : String} {cc : ByteArray} {L : Nat} {ret : Option FieldType} {k n pc ix : Nat} {loc : List (Nat × Value)} {rest : List Value}   {S : St}  (C : JC E (VR G nL mc ms own) cc L ret) (hd : decode cc pc = .ok (.invokevirtual ix, 3)) (hq : Cond.methodLink own ix yX10_free ∈ tblG) (hL : 3 + 1 ≤ L) (hW : (rest.map fun v => v.category).sum ≤ 8) (hf : k + 0 ≤ mc ∧ n + 0 ≤ ms) : Rn E (VR G nL mc ms own) k n 0 0 pc loc (.ref (gA G 0) :: rest) rest S (fR_free  S) := rn_V (ci := 10) 0 (V := VR G nL mc ms own) (As := []) (Cq := (RX10, TX10, 53)) (cR_free C.flags C.wok   S) knX10_free ⟨q_1229, q_1230⟩ rfl rfl C hd hq hL rfl rfl hW hf

theorem knX10_partners : Kn yX10_partners cX10_partners 4 (some .int) 1 := ⟨q_1231, q_815, by decide +kernel, by decide⟩
theorem bR_partners_24 {E : Ec} {G : Gc}    (C : JC E (VR G 4 0 0 RX10) cX10_partners 3 (some .int))    : ∀ (n : Nat) (x1 : Int32) (x2 : Int32) (x3 : Int32) (S : St), J E (VR G 4 0 0 RX10) 0 0 24 [(0, .ref (gA G 0)), (1, .int x1), (2, .int x2), (3, .int x3)] [] S (fR_partners_24  n x1 x2 x3 S) := by
  intro n
  induction n with
  | zero => intro x1 x2 x3 S; rw [fR_partners_24]; exact j_none
  | succ n ih =>
    intro x1 x2 x3 S
    rw [fR_partners_24]
    refine j_iload_n (pc := 24) 3 C dX10_partners_24 rfl rfl ?_
    refine j_aload_n (pc := 25) 0 C dX10_partners_25 rfl rfl ?_
    refine gR_0_21 (pc := 26) C dX10_partners_26 q_881 ?_
    refine j_icmp_ge (pc := 29) 81 C dX10_partners_29 (by decide) ?_ ?_
    ·
      refine j_iload_n (pc := 81) 2 C dX10_partners_81 rfl rfl ?_
      exact j_iret C dX10_partners_82 rfl (Nat.le_of_ble_eq_true rfl) (Nat.le_of_ble_eq_true rfl)
    ·
      refine j_iload_n (pc := 32) 2 C dX10_partners_32 rfl rfl ?_
      refine j_iload_n (pc := 33) 3 C dX10_partners_33 rfl rfl ?_
      refine j_aload_n (pc := 34) 0 C dX10_partners_34 rfl rfl ?_
      refine gR_0_15 (pc := 35) C dX10_partners_35 q_893 ?_
      refine j_iconst (pc := 38) 4 C dX10_partners_38 (by decide) ?_
      refine j_iload_n (pc := 39) 1 C dX10_partners_39 rfl rfl ?_
      refine j_imul (pc := 40) C dX10_partners_40 ?_
      refine aR_8 (pc := 41) C dX10_partners_41 ?_
      refine j_icmp_eq (pc := 42) 72 C dX10_partners_42 (by decide) ?_ ?_
      ·
        refine j_iconst (pc := 72) 0 C dX10_partners_72 (by decide) ?_
        refine j_ior (pc := 73) C dX10_partners_73 ?_
        refine j_nxI (fun v1 => ?_)
        refine j_istore_n (pc := 74) [(2, .int v1), (0, .ref (gA G 0)), (1, .int x1), (3, .int x3)] C dX10_partners_74 rfl (Nat.le_of_ble_eq_true rfl) rfl ?_
        refine j_iinc (pc := 75) 3 (x3 + 1) [(3, .int (x3 + 1)), (2, .int v1), (0, .ref (gA G 0)), (1, .int x1)] C dX10_partners_75 rfl rfl (Nat.le_of_ble_eq_true rfl) rfl ?_
        refine j_goto (pc := 78) 24 C dX10_partners_78 (by decide) ?_
        refine j_sub [2, 3, 1, 0] rfl ?_
        exact ih x1 v1 (x3 + 1) S
      ·
        refine j_aload_n (pc := 45) 0 C dX10_partners_45 rfl rfl ?_
        refine gR_0_41 (pc := 46) C dX10_partners_46 q_980 ?_
        refine j_bipush (pc := 49) 84 C dX10_partners_49 (by decide) ?_
        refine j_iload_n (pc := 51) 1 C dX10_partners_51 rfl rfl ?_
        refine j_iadd (pc := 52) C dX10_partners_52 ?_
        refine aR_18 (pc := 53) C dX10_partners_53 ?_
        refine j_if_ne (pc := 54) 72 C dX10_partners_54 (by decide) ?_ ?_
        ·
          refine j_iconst (pc := 72) 0 C dX10_partners_72 (by decide) ?_
          refine j_ior (pc := 73) C dX10_partners_73 ?_
          refine j_nxI (fun v2 => ?_)
          refine j_istore_n (pc := 74) [(2, .int v2), (0, .ref (gA G 0)), (1, .int x1), (3, .int x3)] C dX10_partners_74 rfl (Nat.le_of_ble_eq_true rfl) rfl ?_
          refine j_iinc (pc := 75) 3 (x3 + 1) [(3, .int (x3 + 1)), (2, .int v2), (0, .ref (gA G 0)), (1, .int x1)] C dX10_partners_75 rfl rfl (Nat.le_of_ble_eq_true rfl) rfl ?_
          refine j_goto (pc := 78) 24 C dX10_partners_78 (by decide) ?_
          refine j_sub [2, 3, 1, 0] rfl ?_
          exact ih x1 v2 (x3 + 1) S
        ·
          refine j_aload_n (pc := 57) 0 C dX10_partners_57 rfl rfl ?_
          refine j_iload_n (pc := 58) 1 C dX10_partners_58 rfl rfl ?_
          refine j_iload_n (pc := 59) 3 C dX10_partners_59 rfl rfl ?_
          refine j_callI0 (pc := 60) C (rR_isByTwo C dX10_partners_60 q_1003 (by omega) (Nat.le_of_ble_eq_true rfl) ⟨Nat.le_of_ble_eq_true rfl, Nat.le_of_ble_eq_true rfl⟩) ⟨Nat.le_of_ble_eq_true rfl, Nat.le_of_ble_eq_true rfl⟩ (fun r4 T3 => ?_)
          refine j_if_eq (pc := 63) 72 C dX10_partners_63 (by decide) ?_ ?_
          ·
            refine j_iconst (pc := 72) 0 C dX10_partners_72 (by decide) ?_
            refine j_ior (pc := 73) C dX10_partners_73 ?_
            refine j_nxI (fun v5 => ?_)
            refine j_istore_n (pc := 74) [(2, .int v5), (0, .ref (gA G 0)), (1, .int x1), (3, .int x3)] C dX10_partners_74 rfl (Nat.le_of_ble_eq_true rfl) rfl ?_
            refine j_iinc (pc := 75) 3 (x3 + 1) [(3, .int (x3 + 1)), (2, .int v5), (0, .ref (gA G 0)), (1, .int x1)] C dX10_partners_75 rfl rfl (Nat.le_of_ble_eq_true rfl) rfl ?_
            refine j_goto (pc := 78) 24 C dX10_partners_78 (by decide) ?_
            refine j_sub [2, 3, 1, 0] rfl ?_
            exact ih x1 v5 (x3 + 1) T3
          ·
            refine j_iconst (pc := 66) 1 C dX10_partners_66 (by decide) ?_
            refine j_iload_n (pc := 67) 3 C dX10_partners_67 rfl rfl ?_
            refine j_ishl (pc := 68) C dX10_partners_68 ?_
            refine j_goto (pc := 69) 73 C dX10_partners_69 (by decide) ?_
            refine j_ior (pc := 73) C dX10_partners_73 ?_
            refine j_nxI (fun v6 => ?_)
            refine j_istore_n (pc := 74) [(2, .int v6), (0, .ref (gA G 0)), (1, .int x1), (3, .int x3)] C dX10_partners_74 rfl (Nat.le_of_ble_eq_true rfl) rfl ?_
            refine j_iinc (pc := 75) 3 (x3 + 1) [(3, .int (x3 + 1)), (2, .int v6), (0, .ref (gA G 0)), (1, .int x1)] C dX10_partners_75 rfl rfl (Nat.le_of_ble_eq_true rfl) rfl ?_
            refine j_goto (pc := 78) 24 C dX10_partners_78 (by decide) ?_
            refine j_sub [2, 3, 1, 0] rfl ?_
            exact ih x1 v6 (x3 + 1) T3
theorem bR_partners {E : Ec} {G : Gc}    (C : JC E (VR G 4 0 0 RX10) cX10_partners 3 (some .int))    (x1 : Int32) (S : St) : J E (VR G 4 0 0 RX10) 0 0 0 [(0, .ref (gA G 0)), (1, .int x1)] [] S (fR_partners  x1 S) := by
  unfold fR_partners
  refine j_aload_n (pc := 0) 0 C dX10_partners_0 rfl rfl ?_
  refine j_iconst (pc := 1) 0 C dX10_partners_1 (by decide) ?_
  refine pR_0_0 (pc := 2) C dX10_partners_2 q_811 ?_
  refine j_nxS (fun T1 => ?_)
  refine j_aload_n (pc := 5) 0 C dX10_partners_5 rfl rfl ?_
  refine j_iload_n (pc := 6) 1 C dX10_partners_6 rfl rfl ?_
  refine j_iconst (pc := 7) 1 C dX10_partners_7 (by decide) ?_
  refine j_callI0 (pc := 8) C (rR_isDebt C dX10_partners_8 q_1131 (by omega) (Nat.le_of_ble_eq_true rfl) ⟨Nat.le_of_ble_eq_true rfl, Nat.le_of_ble_eq_true rfl⟩) ⟨Nat.le_of_ble_eq_true rfl, Nat.le_of_ble_eq_true rfl⟩ (fun r3 T2 => ?_)
  refine j_if_ne (pc := 11) 16 C dX10_partners_11 (by decide) ?_ ?_
  ·
    refine j_aload_n (pc := 16) 0 C dX10_partners_16 rfl rfl ?_
    refine j_callv0 (pc := 17) C (rR_take C dX10_partners_17 q_984 (by omega) (Nat.le_of_ble_eq_true rfl) ⟨Nat.le_of_ble_eq_true rfl, Nat.le_of_ble_eq_true rfl⟩) ⟨Nat.le_of_ble_eq_true rfl, Nat.le_of_ble_eq_true rfl⟩ (fun T4 => ?_)
    refine j_iconst (pc := 20) 0 C dX10_partners_20 (by decide) ?_
    refine j_istore_n (pc := 21) [(2, .int 0), (0, .ref (gA G 0)), (1, .int x1)] C dX10_partners_21 rfl (Nat.le_of_ble_eq_true rfl) rfl ?_
    refine j_iconst (pc := 22) 0 C dX10_partners_22 (by decide) ?_
    refine j_istore_n (pc := 23) [(3, .int 0), (2, .int 0), (0, .ref (gA G 0)), (1, .int x1)] C dX10_partners_23 rfl (Nat.le_of_ble_eq_true rfl) rfl ?_
    refine j_sub [2, 3, 1, 0] rfl ?_
    exact bR_partners_24 C  FU x1 0 0 T4
  ·
    refine j_iconst (pc := 14) 0 C dX10_partners_14 (by decide) ?_
    exact j_iret C dX10_partners_15 rfl (Nat.le_of_ble_eq_true rfl) (Nat.le_of_ble_eq_true rfl)
theorem cR_partners {l : Launch} {G : Gc} (hfl : l.stackTraces = false) (hW : Wok G wR 26)   (x1 : Int32) (S : St) : Ct l yX10_partners (Cond.code yX10_partners cX10_partners 4 (some .int) :: tblG) 3 0 0 G wR 26 [.ref (gA G 0), .int x1] S (fR_partners x1 S) := ct_of (own := RX10) hfl (by decide +kernel) rfl hW (Nat.le_of_ble_eq_true rfl) (fun E hE C => by subst hE; exact bR_partners C   x1 S)
theorem rR_partners {E : Ec} {G : Gc} {nL mc ms : Nat} {own : String} {cc : ByteArray} {L : Nat} {ret : Option FieldType} {k n pc ix : Nat} {loc : List (Nat × Value)} {rest : List Value}  {x1 : Int32} {S : St}  (C : JC E (VR G nL mc ms own) cc L ret) (hd : decode cc pc = .ok (.invokevirtual ix, 3)) (hq : Cond.methodLink own ix yX10_partners ∈ tblG) (hL : 3 + 1 ≤ L) (hW : (rest.map fun v => v.category).sum ≤ 8) (hf : k + 0 ≤ mc ∧ n + 0 ≤ ms) : Rn E (VR G nL mc ms own) k n 0 0 pc loc (.int x1 :: .ref (gA G 0) :: rest) rest S (fR_partners x1 S) := rn_V (ci := 10) 0 (V := VR G nL mc ms own) (As := [.int x1]) (Cq := (RX10, TX10, 53)) (cR_partners C.flags C.wok  x1 S) knX10_partners ⟨q_1232, q_1233⟩ rfl rfl C hd hq hL rfl rfl hW hf

theorem knX10_fades : Kn yX10_fades cX10_fades 3 (some .int) 2 := ⟨q_1234, q_815, by decide +kernel, by decide⟩
theorem bR_fades {E : Ec} {G : Gc}    (C : JC E (VR G 3 0 0 RX10) cX10_fades 3 (some .int))    (x1 : Int32) (x2 : Int32) (S : St) : J E (VR G 3 0 0 RX10) 0 0 0 [(0, .ref (gA G 0)), (1, .int x1), (2, .int x2)] [] S (fR_fades  x1 x2 S) := by
  unfold fR_fades
  refine j_aload_n (pc := 0) 0 C dX10_fades_0 rfl rfl ?_
  refine j_iconst (pc := 1) 0 C dX10_fades_1 (by decide) ?_
  refine pR_0_0 (pc := 2) C dX10_fades_2 q_811 ?_
  refine j_nxS (fun T1 => ?_)
  refine j_aload_n (pc := 5) 0 C dX10_fades_5 rfl rfl ?_
  refine j_iload_n (pc := 6) 1 C dX10_fades_6 rfl rfl ?_
  refine j_iconst (pc := 7) 1 C dX10_fades_7 (by decide) ?_
  refine j_callI0 (pc := 8) C (rR_isMan C dX10_fades_8 q_1124 (by omega) (Nat.le_of_ble_eq_true rfl) ⟨Nat.le_of_ble_eq_true rfl, Nat.le_of_ble_eq_true rfl⟩) ⟨Nat.le_of_ble_eq_true rfl, Nat.le_of_ble_eq_true rfl⟩ (fun r3 T2 => ?_)
  refine j_if_eq (pc := 11) 23 C dX10_fades_11 (by decide) ?_ ?_
  ·
    refine j_iconst (pc := 23) 0 C dX10_fades_23 (by decide) ?_
    exact j_iret C dX10_fades_24 rfl (Nat.le_of_ble_eq_true rfl) (Nat.le_of_ble_eq_true rfl)
  ·
    refine j_aload_n (pc := 14) 0 C dX10_fades_14 rfl rfl ?_
    refine j_iload_n (pc := 15) 2 C dX10_fades_15 rfl rfl ?_
    refine j_iconst (pc := 16) 1 C dX10_fades_16 (by decide) ?_
    refine j_callI0 (pc := 17) C (rR_isPoem C dX10_fades_17 q_1113 (by omega) (Nat.le_of_ble_eq_true rfl) ⟨Nat.le_of_ble_eq_true rfl, Nat.le_of_ble_eq_true rfl⟩) ⟨Nat.le_of_ble_eq_true rfl, Nat.le_of_ble_eq_true rfl⟩ (fun r5 T4 => ?_)
    refine j_if_ne (pc := 20) 25 C dX10_fades_20 (by decide) ?_ ?_
    ·
      refine j_aload_n (pc := 25) 0 C dX10_fades_25 rfl rfl ?_
      refine j_callv0 (pc := 26) C (rR_take C dX10_fades_26 q_984 (by omega) (Nat.le_of_ble_eq_true rfl) ⟨Nat.le_of_ble_eq_true rfl, Nat.le_of_ble_eq_true rfl⟩) ⟨Nat.le_of_ble_eq_true rfl, Nat.le_of_ble_eq_true rfl⟩ (fun T6 => ?_)
      refine j_aload_n (pc := 29) 0 C dX10_fades_29 rfl rfl ?_
      refine j_callv0 (pc := 30) C (rR_passes C dX10_fades_30 q_999 (by omega) (Nat.le_of_ble_eq_true rfl) ⟨Nat.le_of_ble_eq_true rfl, Nat.le_of_ble_eq_true rfl⟩) ⟨Nat.le_of_ble_eq_true rfl, Nat.le_of_ble_eq_true rfl⟩ (fun T8 => ?_)
      refine j_aload_n (pc := 33) 0 C dX10_fades_33 rfl rfl ?_
      refine gR_0_40 (pc := 34) C dX10_fades_34 q_899 ?_
      refine j_iconst (pc := 37) 0 C dX10_fades_37 (by decide) ?_
      refine j_bipush (pc := 38) 8 C dX10_fades_38 (by decide) ?_
      refine j_iload_n (pc := 40) 1 C dX10_fades_40 rfl rfl ?_
      refine j_imul (pc := 41) C dX10_fades_41 ?_
      refine j_iadd (pc := 42) C dX10_fades_42 ?_
      refine j_iload_n (pc := 43) 2 C dX10_fades_43 rfl rfl ?_
      refine j_iadd (pc := 44) C dX10_fades_44 ?_
      refine aR_17 (pc := 45) C dX10_fades_45 ?_
      refine j_aload_n (pc := 46) 0 C dX10_fades_46 rfl rfl ?_
      refine j_iload_n (pc := 47) 1 C dX10_fades_47 rfl rfl ?_
      refine j_iload_n (pc := 48) 2 C dX10_fades_48 rfl rfl ?_
      refine j_callI0 (pc := 49) C (rR_knownOf C dX10_fades_49 q_991 (by omega) (Nat.le_of_ble_eq_true rfl) ⟨Nat.le_of_ble_eq_true rfl, Nat.le_of_ble_eq_true rfl⟩) ⟨Nat.le_of_ble_eq_true rfl, Nat.le_of_ble_eq_true rfl⟩ (fun r11 T10 => ?_)
      refine j_isub (pc := 52) C dX10_fades_52 ?_
      exact j_iret C dX10_fades_53 rfl (Nat.le_of_ble_eq_true rfl) (Nat.le_of_ble_eq_true rfl)
    ·
      refine j_iconst (pc := 23) 0 C dX10_fades_23 (by decide) ?_
      exact j_iret C dX10_fades_24 rfl (Nat.le_of_ble_eq_true rfl) (Nat.le_of_ble_eq_true rfl)
theorem cR_fades {l : Launch} {G : Gc} (hfl : l.stackTraces = false) (hW : Wok G wR 26)   (x1 : Int32) (x2 : Int32) (S : St) : Ct l yX10_fades (Cond.code yX10_fades cX10_fades 3 (some .int) :: tblG) 3 0 0 G wR 26 [.ref (gA G 0), .int x1, .int x2] S (fR_fades x1 x2 S) := ct_of (own := RX10) hfl (by decide +kernel) rfl hW (Nat.le_of_ble_eq_true rfl) (fun E hE C => by subst hE; exact bR_fades C   x1 x2 S)
theorem rR_fades {E : Ec} {G : Gc} {nL mc ms : Nat} {own : String} {cc : ByteArray} {L : Nat} {ret : Option FieldType} {k n pc ix : Nat} {loc : List (Nat × Value)} {rest : List Value}  {x1 : Int32} {x2 : Int32} {S : St}  (C : JC E (VR G nL mc ms own) cc L ret) (hd : decode cc pc = .ok (.invokevirtual ix, 3)) (hq : Cond.methodLink own ix yX10_fades ∈ tblG) (hL : 3 + 1 ≤ L) (hW : (rest.map fun v => v.category).sum ≤ 8) (hf : k + 0 ≤ mc ∧ n + 0 ≤ ms) : Rn E (VR G nL mc ms own) k n 0 0 pc loc (.int x2 :: .int x1 :: .ref (gA G 0) :: rest) rest S (fR_fades x1 x2 S) := rn_V (ci := 10) 0 (V := VR G nL mc ms own) (As := [.int x1, .int x2]) (Cq := (RX10, TX10, 53)) (cR_fades C.flags C.wok  x1 x2 S) knX10_fades ⟨q_1235, q_1236⟩ rfl rfl C hd hq hL rfl rfl hW hf

theorem knX10_next : Kn yX10_next cX10_next 4 (some .int) 1 := ⟨q_1237, q_815, by decide +kernel, by decide⟩
theorem bR_next_26 {E : Ec} {G : Gc}    (C : JC E (VR G 4 0 0 RX10) cX10_next 2 (some .int))    : ∀ (n : Nat) (x1 : Int32) (x2 : Int32) (x3 : Int32) (S : St), J E (VR G 4 0 0 RX10) 0 0 26 [(0, .ref (gA G 0)), (1, .int x1), (2, .int x2), (3, .int x3)] [] S (fR_next_26  n x1 x2 x3 S) := by
  intro n
  induction n with
  | zero => intro x1 x2 x3 S; rw [fR_next_26]; exact j_none
  | succ n ih =>
    intro x1 x2 x3 S
    rw [fR_next_26]
    refine j_iload_n (pc := 26) 3 C dX10_next_26 rfl rfl ?_
    refine j_aload_n (pc := 27) 0 C dX10_next_27 rfl rfl ?_
    refine gR_0_22 (pc := 28) C dX10_next_28 q_882 ?_
    refine j_icmp_ge (pc := 31) 82 C dX10_next_31 (by decide) ?_ ?_
    ·
      refine j_iload_n (pc := 82) 1 C dX10_next_82 rfl rfl ?_
      refine j_if_eq (pc := 83) 91 C dX10_next_83 (by decide) ?_ ?_
      ·
        refine j_iload_n (pc := 91) 2 C dX10_next_91 rfl rfl ?_
        refine j_goto (pc := 92) 105 C dX10_next_92 (by decide) ?_
        exact j_iret C dX10_next_105 rfl (Nat.le_of_ble_eq_true rfl) (Nat.le_of_ble_eq_true rfl)
      ·
        refine j_iload_n (pc := 86) 2 C dX10_next_86 rfl rfl ?_
        refine j_iconst (pc := 87) (-1) C dX10_next_87 (by decide) ?_
        refine j_icmp_ne (pc := 88) 95 C dX10_next_88 (by decide) ?_ ?_
        ·
          refine j_aload_n (pc := 95) 0 C dX10_next_95 rfl rfl ?_
          refine gR_0_15 (pc := 96) C dX10_next_96 q_893 ?_
          refine j_iconst (pc := 99) 4 C dX10_next_99 (by decide) ?_
          refine j_iload_n (pc := 100) 2 C dX10_next_100 rfl rfl ?_
          refine j_imul (pc := 101) C dX10_next_101 ?_
          refine j_iconst (pc := 102) 3 C dX10_next_102 (by decide) ?_
          refine j_iadd (pc := 103) C dX10_next_103 ?_
          refine aR_8 (pc := 104) C dX10_next_104 ?_
          exact j_iret C dX10_next_105 rfl (Nat.le_of_ble_eq_true rfl) (Nat.le_of_ble_eq_true rfl)
        ·
          refine j_iload_n (pc := 91) 2 C dX10_next_91 rfl rfl ?_
          refine j_goto (pc := 92) 105 C dX10_next_92 (by decide) ?_
          exact j_iret C dX10_next_105 rfl (Nat.le_of_ble_eq_true rfl) (Nat.le_of_ble_eq_true rfl)
    ·
      refine j_aload_n (pc := 34) 0 C dX10_next_34 rfl rfl ?_
      refine gR_0_40 (pc := 35) C dX10_next_35 q_899 ?_
      refine j_bipush (pc := 38) 84 C dX10_next_38 (by decide) ?_
      refine j_iload_n (pc := 40) 3 C dX10_next_40 rfl rfl ?_
      refine j_iadd (pc := 41) C dX10_next_41 ?_
      refine aR_17 (pc := 42) C dX10_next_42 ?_
      refine j_if_ne (pc := 43) 76 C dX10_next_43 (by decide) ?_ ?_
      ·
        refine j_iinc (pc := 76) 3 (x3 + 1) [(3, .int (x3 + 1)), (0, .ref (gA G 0)), (1, .int x1), (2, .int x2)] C dX10_next_76 rfl rfl (Nat.le_of_ble_eq_true rfl) rfl ?_
        refine j_goto (pc := 79) 26 C dX10_next_79 (by decide) ?_
        refine j_sub [1, 2, 3, 0] rfl ?_
        exact ih x1 x2 (x3 + 1) S
      ·
        refine j_iload_n (pc := 46) 2 C dX10_next_46 rfl rfl ?_
        refine j_iconst (pc := 47) (-1) C dX10_next_47 (by decide) ?_
        refine j_icmp_eq (pc := 48) 74 C dX10_next_48 (by decide) ?_ ?_
        ·
          refine j_iload_n (pc := 74) 3 C dX10_next_74 rfl rfl ?_
          refine j_istore_n (pc := 75) [(2, .int x3), (0, .ref (gA G 0)), (1, .int x1), (3, .int x3)] C dX10_next_75 rfl (Nat.le_of_ble_eq_true rfl) rfl ?_
          refine j_iinc (pc := 76) 3 (x3 + 1) [(3, .int (x3 + 1)), (2, .int x3), (0, .ref (gA G 0)), (1, .int x1)] C dX10_next_76 rfl rfl (Nat.le_of_ble_eq_true rfl) rfl ?_
          refine j_goto (pc := 79) 26 C dX10_next_79 (by decide) ?_
          refine j_sub [2, 3, 1, 0] rfl ?_
          exact ih x1 x3 (x3 + 1) S
        ·
          refine j_aload_n (pc := 51) 0 C dX10_next_51 rfl rfl ?_
          refine gR_0_15 (pc := 52) C dX10_next_52 q_893 ?_
          refine j_iconst (pc := 55) 4 C dX10_next_55 (by decide) ?_
          refine j_iload_n (pc := 56) 3 C dX10_next_56 rfl rfl ?_
          refine j_imul (pc := 57) C dX10_next_57 ?_
          refine j_iconst (pc := 58) 3 C dX10_next_58 (by decide) ?_
          refine j_iadd (pc := 59) C dX10_next_59 ?_
          refine aR_8 (pc := 60) C dX10_next_60 ?_
          refine j_aload_n (pc := 61) 0 C dX10_next_61 rfl rfl ?_
          refine gR_0_15 (pc := 62) C dX10_next_62 q_893 ?_
          refine j_iconst (pc := 65) 4 C dX10_next_65 (by decide) ?_
          refine j_iload_n (pc := 66) 2 C dX10_next_66 rfl rfl ?_
          refine j_imul (pc := 67) C dX10_next_67 ?_
          refine j_iconst (pc := 68) 3 C dX10_next_68 (by decide) ?_
          refine j_iadd (pc := 69) C dX10_next_69 ?_
          refine aR_8 (pc := 70) C dX10_next_70 ?_
          refine j_icmp_ge (pc := 71) 76 C dX10_next_71 (by decide) ?_ ?_
          ·
            refine j_iinc (pc := 76) 3 (x3 + 1) [(3, .int (x3 + 1)), (0, .ref (gA G 0)), (1, .int x1), (2, .int x2)] C dX10_next_76 rfl rfl (Nat.le_of_ble_eq_true rfl) rfl ?_
            refine j_goto (pc := 79) 26 C dX10_next_79 (by decide) ?_
            refine j_sub [1, 2, 3, 0] rfl ?_
            exact ih x1 x2 (x3 + 1) S
          ·
            refine j_iload_n (pc := 74) 3 C dX10_next_74 rfl rfl ?_
            refine j_istore_n (pc := 75) [(2, .int x3), (0, .ref (gA G 0)), (1, .int x1), (3, .int x3)] C dX10_next_75 rfl (Nat.le_of_ble_eq_true rfl) rfl ?_
            refine j_iinc (pc := 76) 3 (x3 + 1) [(3, .int (x3 + 1)), (2, .int x3), (0, .ref (gA G 0)), (1, .int x1)] C dX10_next_76 rfl rfl (Nat.le_of_ble_eq_true rfl) rfl ?_
            refine j_goto (pc := 79) 26 C dX10_next_79 (by decide) ?_
            refine j_sub [2, 3, 1, 0] rfl ?_
            exact ih x1 x3 (x3 + 1) S
theorem bR_next {E : Ec} {G : Gc}    (C : JC E (VR G 4 0 0 RX10) cX10_next 2 (some .int))    (x1 : Int32) (S : St) : J E (VR G 4 0 0 RX10) 0 0 0 [(0, .ref (gA G 0)), (1, .int x1)] [] S (fR_next  x1 S) := by
  unfold fR_next
  refine j_aload_n (pc := 0) 0 C dX10_next_0 rfl rfl ?_
  refine j_iconst (pc := 1) 0 C dX10_next_1 (by decide) ?_
  refine pR_0_0 (pc := 2) C dX10_next_2 q_811 ?_
  refine j_nxS (fun T1 => ?_)
  refine j_aload_n (pc := 5) 0 C dX10_next_5 rfl rfl ?_
  refine j_iload_n (pc := 6) 1 C dX10_next_6 rfl rfl ?_
  refine j_iconst (pc := 7) 0 C dX10_next_7 (by decide) ?_
  refine j_iconst (pc := 8) 1 C dX10_next_8 (by decide) ?_
  refine j_callI0 (pc := 9) C (rR_within C dX10_next_9 q_1094 (by omega) (Nat.le_of_ble_eq_true rfl) ⟨Nat.le_of_ble_eq_true rfl, Nat.le_of_ble_eq_true rfl⟩) ⟨Nat.le_of_ble_eq_true rfl, Nat.le_of_ble_eq_true rfl⟩ (fun r3 T2 => ?_)
  refine j_iconst (pc := 12) 1 C dX10_next_12 (by decide) ?_
  refine j_iconst (pc := 13) 1 C dX10_next_13 (by decide) ?_
  refine j_callI0 (pc := 14) C (rR_may C dX10_next_14 q_822 (by omega) (Nat.le_of_ble_eq_true rfl) ⟨Nat.le_of_ble_eq_true rfl, Nat.le_of_ble_eq_true rfl⟩) ⟨Nat.le_of_ble_eq_true rfl, Nat.le_of_ble_eq_true rfl⟩ (fun r5 T4 => ?_)
  refine j_if_ne (pc := 17) 22 C dX10_next_17 (by decide) ?_ ?_
  ·
    refine j_iconst (pc := 22) (-1) C dX10_next_22 (by decide) ?_
    refine j_istore_n (pc := 23) [(2, .int (-1)), (0, .ref (gA G 0)), (1, .int x1)] C dX10_next_23 rfl (Nat.le_of_ble_eq_true rfl) rfl ?_
    refine j_iconst (pc := 24) 0 C dX10_next_24 (by decide) ?_
    refine j_istore_n (pc := 25) [(3, .int 0), (2, .int (-1)), (0, .ref (gA G 0)), (1, .int x1)] C dX10_next_25 rfl (Nat.le_of_ble_eq_true rfl) rfl ?_
    refine j_sub [2, 3, 1, 0] rfl ?_
    exact bR_next_26 C  FU x1 (-1) 0 T4
  ·
    refine j_iconst (pc := 20) 0 C dX10_next_20 (by decide) ?_
    exact j_iret C dX10_next_21 rfl (Nat.le_of_ble_eq_true rfl) (Nat.le_of_ble_eq_true rfl)
theorem cR_next {l : Launch} {G : Gc} (hfl : l.stackTraces = false) (hW : Wok G wR 26)   (x1 : Int32) (S : St) : Ct l yX10_next (Cond.code yX10_next cX10_next 4 (some .int) :: tblG) 2 0 0 G wR 26 [.ref (gA G 0), .int x1] S (fR_next x1 S) := ct_of (own := RX10) hfl (by decide +kernel) rfl hW (Nat.le_of_ble_eq_true rfl) (fun E hE C => by subst hE; exact bR_next C   x1 S)
theorem rR_next {E : Ec} {G : Gc} {nL mc ms : Nat} {own : String} {cc : ByteArray} {L : Nat} {ret : Option FieldType} {k n pc ix : Nat} {loc : List (Nat × Value)} {rest : List Value}  {x1 : Int32} {S : St}  (C : JC E (VR G nL mc ms own) cc L ret) (hd : decode cc pc = .ok (.invokevirtual ix, 3)) (hq : Cond.methodLink own ix yX10_next ∈ tblG) (hL : 2 + 1 ≤ L) (hW : (rest.map fun v => v.category).sum ≤ 8) (hf : k + 0 ≤ mc ∧ n + 0 ≤ ms) : Rn E (VR G nL mc ms own) k n 0 0 pc loc (.int x1 :: .ref (gA G 0) :: rest) rest S (fR_next x1 S) := rn_V (ci := 10) 0 (V := VR G nL mc ms own) (As := [.int x1]) (Cq := (RX10, TX10, 53)) (cR_next C.flags C.wok  x1 S) knX10_next ⟨q_1238, q_1239⟩ rfl rfl C hd hq hL rfl rfl hW hf

theorem knX10_gains : Kn yX10_gains cX10_gains 4 (some .int) 2 := ⟨q_1240, q_815, by decide +kernel, by decide⟩
theorem bR_gains {E : Ec} {G : Gc}    (C : JC E (VR G 4 0 0 RX10) cX10_gains 7 (some .int))    (x1 : Int32) (x2 : Int32) (S : St) : J E (VR G 4 0 0 RX10) 0 0 0 [(0, .ref (gA G 0)), (1, .int x1), (2, .int x2)] [] S (fR_gains  x1 x2 S) := by
  unfold fR_gains
  refine j_aload_n (pc := 0) 0 C dX10_gains_0 rfl rfl ?_
  refine j_iconst (pc := 1) 0 C dX10_gains_1 (by decide) ?_
  refine pR_0_0 (pc := 2) C dX10_gains_2 q_811 ?_
  refine j_nxS (fun T1 => ?_)
  refine j_aload_n (pc := 5) 0 C dX10_gains_5 rfl rfl ?_
  refine j_iload_n (pc := 6) 1 C dX10_gains_6 rfl rfl ?_
  refine j_iconst (pc := 7) 1 C dX10_gains_7 (by decide) ?_
  refine j_callI0 (pc := 8) C (rR_isMan C dX10_gains_8 q_1124 (by omega) (Nat.le_of_ble_eq_true rfl) ⟨Nat.le_of_ble_eq_true rfl, Nat.le_of_ble_eq_true rfl⟩) ⟨Nat.le_of_ble_eq_true rfl, Nat.le_of_ble_eq_true rfl⟩ (fun r3 T2 => ?_)
  refine j_if_eq (pc := 11) 23 C dX10_gains_11 (by decide) ?_ ?_
  ·
    refine j_iconst (pc := 23) 0 C dX10_gains_23 (by decide) ?_
    exact j_iret C dX10_gains_24 rfl (Nat.le_of_ble_eq_true rfl) (Nat.le_of_ble_eq_true rfl)
  ·
    refine j_aload_n (pc := 14) 0 C dX10_gains_14 rfl rfl ?_
    refine j_iload_n (pc := 15) 2 C dX10_gains_15 rfl rfl ?_
    refine j_iconst (pc := 16) 1 C dX10_gains_16 (by decide) ?_
    refine j_callI0 (pc := 17) C (rR_isPoem C dX10_gains_17 q_1113 (by omega) (Nat.le_of_ble_eq_true rfl) ⟨Nat.le_of_ble_eq_true rfl, Nat.le_of_ble_eq_true rfl⟩) ⟨Nat.le_of_ble_eq_true rfl, Nat.le_of_ble_eq_true rfl⟩ (fun r5 T4 => ?_)
    refine j_if_ne (pc := 20) 25 C dX10_gains_20 (by decide) ?_ ?_
    ·
      refine j_aload_n (pc := 25) 0 C dX10_gains_25 rfl rfl ?_
      refine j_callv0 (pc := 26) C (rR_take C dX10_gains_26 q_984 (by omega) (Nat.le_of_ble_eq_true rfl) ⟨Nat.le_of_ble_eq_true rfl, Nat.le_of_ble_eq_true rfl⟩) ⟨Nat.le_of_ble_eq_true rfl, Nat.le_of_ble_eq_true rfl⟩ (fun T6 => ?_)
      refine j_aload_n (pc := 29) 0 C dX10_gains_29 rfl rfl ?_
      refine j_iload_n (pc := 30) 1 C dX10_gains_30 rfl rfl ?_
      refine j_iload_n (pc := 31) 2 C dX10_gains_31 rfl rfl ?_
      refine j_callI0 (pc := 32) C (rR_moreBy C dX10_gains_32 q_1064 (by omega) (Nat.le_of_ble_eq_true rfl) ⟨Nat.le_of_ble_eq_true rfl, Nat.le_of_ble_eq_true rfl⟩) ⟨Nat.le_of_ble_eq_true rfl, Nat.le_of_ble_eq_true rfl⟩ (fun r9 T8 => ?_)
      refine j_istore_n (pc := 35) [(3, .int r9), (0, .ref (gA G 0)), (1, .int x1), (2, .int x2)] C dX10_gains_35 rfl (Nat.le_of_ble_eq_true rfl) rfl ?_
      refine j_iload_n (pc := 36) 0 C dX10_gains_36 rfl rfl ?_
      refine j_if_ge (pc := 37) 44 C dX10_gains_37 (by decide) ?_ ?_
      ·
        refine j_iload_n (pc := 44) 0 C dX10_gains_44 rfl rfl ?_
        exact j_iret C dX10_gains_45 rfl (Nat.le_of_ble_eq_true rfl) (Nat.le_of_ble_eq_true rfl)
      ·
        refine j_iconst (pc := 40) 0 C dX10_gains_40 (by decide) ?_
        refine j_goto (pc := 41) 45 C dX10_gains_41 (by decide) ?_
        exact j_iret C dX10_gains_45 rfl (Nat.le_of_ble_eq_true rfl) (Nat.le_of_ble_eq_true rfl)
    ·
      refine j_iconst (pc := 23) 0 C dX10_gains_23 (by decide) ?_
      exact j_iret C dX10_gains_24 rfl (Nat.le_of_ble_eq_true rfl) (Nat.le_of_ble_eq_true rfl)
theorem cR_gains {l : Launch} {G : Gc} (hfl : l.stackTraces = false) (hW : Wok G wR 26)   (x1 : Int32) (x2 : Int32) (S : St) : Ct l yX10_gains (Cond.code yX10_gains cX10_gains 4 (some .int) :: tblG) 7 0 0 G wR 26 [.ref (gA G 0), .int x1, .int x2] S (fR_gains x1 x2 S) := ct_of (own := RX10) hfl (by decide +kernel) rfl hW (Nat.le_of_ble_eq_true rfl) (fun E hE C => by subst hE; exact bR_gains C   x1 x2 S)
theorem rR_gains {E : Ec} {G : Gc} {nL mc ms : Nat} {own : String} {cc : ByteArray} {L : Nat} {ret : Option FieldType} {k n pc ix : Nat} {loc : List (Nat × Value)} {rest : List Value}  {x1 : Int32} {x2 : Int32} {S : St}  (C : JC E (VR G nL mc ms own) cc L ret) (hd : decode cc pc = .ok (.invokevirtual ix, 3)) (hq : Cond.methodLink own ix yX10_gains ∈ tblG) (hL : 7 + 1 ≤ L) (hW : (rest.map fun v => v.category).sum ≤ 8) (hf : k + 0 ≤ mc ∧ n + 0 ≤ ms) : Rn E (VR G nL mc ms own) k n 0 0 pc loc (.int x2 :: .int x1 :: .ref (gA G 0) :: rest) rest S (fR_gains x1 x2 S) := rn_V (ci := 10) 0 (V := VR G nL mc ms own) (As := [.int x1, .int x2]) (Cq := (RX10, TX10, 53)) (cR_gains C.flags C.wok  x1 x2 S) knX10_gains ⟨q_1241, q_1242⟩ rfl rfl C hd hq hL rfl rfl hW hf

theorem knX10_closest : Kn yX10_closest cX10_closest 6 (some .int) 2 := ⟨q_1243, q_815, by decide +kernel, by decide⟩
theorem bR_closest_48 {E : Ec} {G : Gc}    (C : JC E (VR G 6 0 0 RX10) cX10_closest 7 (some .int))    : ∀ (n : Nat) (x2 : Int32) (x3 : Int32) (x4 : Int32) (x5 : Int32) (S : St), J E (VR G 6 0 0 RX10) 0 0 48 [(0, .ref (gA G 0)), (2, .int x2), (3, .int x3), (4, .int x4), (5, .int x5)] [] S (fR_closest_48  n x2 x3 x4 x5 S) := by
  intro n
  induction n with
  | zero => intro x2 x3 x4 x5 S; rw [fR_closest_48]; exact j_none
  | succ n ih =>
    intro x2 x3 x4 x5 S
    rw [fR_closest_48]
    refine j_iload (pc := 48) 4 C dX10_closest_48 rfl ?_
    refine j_aload_n (pc := 50) 0 C dX10_closest_50 rfl rfl ?_
    refine gR_0_22 (pc := 51) C dX10_closest_51 q_882 ?_
    refine j_icmp_ge (pc := 54) 98 C dX10_closest_54 (by decide) ?_ ?_
    ·
      refine j_iload_n (pc := 98) 1 C dX10_closest_98 rfl rfl ?_
      refine j_if_eq (pc := 99) 108 C dX10_closest_99 (by decide) ?_ ?_
      ·
        refine j_iload (pc := 108) 3 C dX10_closest_108 rfl ?_
        refine j_goto (pc := 110) 119 C dX10_closest_110 (by decide) ?_
        exact j_iret C dX10_closest_119 rfl (Nat.le_of_ble_eq_true rfl) (Nat.le_of_ble_eq_true rfl)
      ·
        refine j_iload (pc := 102) 3 C dX10_closest_102 rfl ?_
        refine j_iconst (pc := 104) (-1) C dX10_closest_104 (by decide) ?_
        refine j_icmp_ne (pc := 105) 113 C dX10_closest_105 (by decide) ?_ ?_
        ·
          refine j_aload_n (pc := 113) 0 C dX10_closest_113 rfl rfl ?_
          refine j_iload (pc := 114) 3 C dX10_closest_114 rfl ?_
          refine j_callI0 (pc := 116) C (rR_needOf C dX10_closest_116 q_1135 (by omega) (Nat.le_of_ble_eq_true rfl) ⟨Nat.le_of_ble_eq_true rfl, Nat.le_of_ble_eq_true rfl⟩) ⟨Nat.le_of_ble_eq_true rfl, Nat.le_of_ble_eq_true rfl⟩ (fun r2 T1 => ?_)
          exact j_iret C dX10_closest_119 rfl (Nat.le_of_ble_eq_true rfl) (Nat.le_of_ble_eq_true rfl)
        ·
          refine j_iload (pc := 108) 3 C dX10_closest_108 rfl ?_
          refine j_goto (pc := 110) 119 C dX10_closest_110 (by decide) ?_
          exact j_iret C dX10_closest_119 rfl (Nat.le_of_ble_eq_true rfl) (Nat.le_of_ble_eq_true rfl)
    ·
      refine j_iload_n (pc := 57) 2 C dX10_closest_57 rfl rfl ?_
      refine j_iload (pc := 58) 4 C dX10_closest_58 rfl ?_
      refine j_ishr (pc := 60) C dX10_closest_60 ?_
      refine j_iconst (pc := 61) 1 C dX10_closest_61 (by decide) ?_
      refine j_iand (pc := 62) C dX10_closest_62 ?_
      refine j_iconst (pc := 63) 1 C dX10_closest_63 (by decide) ?_
      refine j_icmp_ne (pc := 64) 92 C dX10_closest_64 (by decide) ?_ ?_
      ·
        refine j_iinc (pc := 92) 4 (x5 + 1) [(5, .int (x5 + 1)), (0, .ref (gA G 0)), (2, .int x2), (3, .int x3), (4, .int x4)] C dX10_closest_92 rfl rfl (Nat.le_of_ble_eq_true rfl) rfl ?_
        refine j_goto (pc := 95) 48 C dX10_closest_95 (by decide) ?_
        refine j_sub [1, 2, 3, 4, 0] rfl ?_
        exact ih x2 x3 x4 (x5 + 1) S
      ·
        refine j_iload (pc := 67) 3 C dX10_closest_67 rfl ?_
        refine j_iconst (pc := 69) (-1) C dX10_closest_69 (by decide) ?_
        refine j_icmp_eq (pc := 70) 88 C dX10_closest_70 (by decide) ?_ ?_
        ·
          refine j_iload (pc := 88) 4 C dX10_closest_88 rfl ?_
          refine j_istore (pc := 90) [(4, .int x5), (0, .ref (gA G 0)), (2, .int x2), (3, .int x3), (5, .int x5)] C dX10_closest_90 (Nat.le_of_ble_eq_true rfl) rfl ?_
          refine j_iinc (pc := 92) 4 (x5 + 1) [(5, .int (x5 + 1)), (4, .int x5), (0, .ref (gA G 0)), (2, .int x2), (3, .int x3)] C dX10_closest_92 rfl rfl (Nat.le_of_ble_eq_true rfl) rfl ?_
          refine j_goto (pc := 95) 48 C dX10_closest_95 (by decide) ?_
          refine j_sub [2, 3, 4, 1, 0] rfl ?_
          exact ih x2 x3 x5 (x5 + 1) S
        ·
          refine j_aload_n (pc := 73) 0 C dX10_closest_73 rfl rfl ?_
          refine j_iload (pc := 74) 4 C dX10_closest_74 rfl ?_
          refine j_callI0 (pc := 76) C (rR_needOf C dX10_closest_76 q_1135 (by omega) (Nat.le_of_ble_eq_true rfl) ⟨Nat.le_of_ble_eq_true rfl, Nat.le_of_ble_eq_true rfl⟩) ⟨Nat.le_of_ble_eq_true rfl, Nat.le_of_ble_eq_true rfl⟩ (fun r4 T3 => ?_)
          refine j_aload_n (pc := 79) 0 C dX10_closest_79 rfl rfl ?_
          refine j_iload (pc := 80) 3 C dX10_closest_80 rfl ?_
          refine j_callI0 (pc := 82) C (rR_needOf C dX10_closest_82 q_1135 (by omega) (Nat.le_of_ble_eq_true rfl) ⟨Nat.le_of_ble_eq_true rfl, Nat.le_of_ble_eq_true rfl⟩) ⟨Nat.le_of_ble_eq_true rfl, Nat.le_of_ble_eq_true rfl⟩ (fun r6 T5 => ?_)
          refine j_icmp_ge (pc := 85) 92 C dX10_closest_85 (by decide) ?_ ?_
          ·
            refine j_iinc (pc := 92) 4 (x5 + 1) [(5, .int (x5 + 1)), (0, .ref (gA G 0)), (2, .int x2), (3, .int x3), (4, .int x4)] C dX10_closest_92 rfl rfl (Nat.le_of_ble_eq_true rfl) rfl ?_
            refine j_goto (pc := 95) 48 C dX10_closest_95 (by decide) ?_
            refine j_sub [1, 2, 3, 4, 0] rfl ?_
            exact ih x2 x3 x4 (x5 + 1) T5
          ·
            refine j_iload (pc := 88) 4 C dX10_closest_88 rfl ?_
            refine j_istore (pc := 90) [(4, .int x5), (0, .ref (gA G 0)), (2, .int x2), (3, .int x3), (5, .int x5)] C dX10_closest_90 (Nat.le_of_ble_eq_true rfl) rfl ?_
            refine j_iinc (pc := 92) 4 (x5 + 1) [(5, .int (x5 + 1)), (4, .int x5), (0, .ref (gA G 0)), (2, .int x2), (3, .int x3)] C dX10_closest_92 rfl rfl (Nat.le_of_ble_eq_true rfl) rfl ?_
            refine j_goto (pc := 95) 48 C dX10_closest_95 (by decide) ?_
            refine j_sub [2, 3, 4, 1, 0] rfl ?_
            exact ih x2 x3 x5 (x5 + 1) T5
theorem bR_closest {E : Ec} {G : Gc}    (C : JC E (VR G 6 0 0 RX10) cX10_closest 7 (some .int))    (x1 : Int32) (x2 : Int32) (S : St) : J E (VR G 6 0 0 RX10) 0 0 0 [(0, .ref (gA G 0)), (1, .int x1), (2, .int x2)] [] S (fR_closest  x1 x2 S) := by
  unfold fR_closest
  refine j_aload_n (pc := 0) 0 C dX10_closest_0 rfl rfl ?_
  refine j_iconst (pc := 1) 0 C dX10_closest_1 (by decide) ?_
  refine pR_0_0 (pc := 2) C dX10_closest_2 q_811 ?_
  refine j_nxS (fun T1 => ?_)
  refine j_aload_n (pc := 5) 0 C dX10_closest_5 rfl rfl ?_
  refine j_iload_n (pc := 6) 1 C dX10_closest_6 rfl rfl ?_
  refine j_iconst (pc := 7) 1 C dX10_closest_7 (by decide) ?_
  refine j_callI0 (pc := 8) C (rR_isMan C dX10_closest_8 q_1124 (by omega) (Nat.le_of_ble_eq_true rfl) ⟨Nat.le_of_ble_eq_true rfl, Nat.le_of_ble_eq_true rfl⟩) ⟨Nat.le_of_ble_eq_true rfl, Nat.le_of_ble_eq_true rfl⟩ (fun r3 T2 => ?_)
  refine j_if_eq (pc := 11) 29 C dX10_closest_11 (by decide) ?_ ?_
  ·
    refine j_iconst (pc := 29) 0 C dX10_closest_29 (by decide) ?_
    exact j_iret C dX10_closest_30 rfl (Nat.le_of_ble_eq_true rfl) (Nat.le_of_ble_eq_true rfl)
  ·
    refine j_aload_n (pc := 14) 0 C dX10_closest_14 rfl rfl ?_
    refine j_iload_n (pc := 15) 2 C dX10_closest_15 rfl rfl ?_
    refine j_iconst (pc := 16) 0 C dX10_closest_16 (by decide) ?_
    refine j_iconst (pc := 17) 1 C dX10_closest_17 (by decide) ?_
    refine j_callI0 (pc := 18) C (rR_within C dX10_closest_18 q_1094 (by omega) (Nat.le_of_ble_eq_true rfl) ⟨Nat.le_of_ble_eq_true rfl, Nat.le_of_ble_eq_true rfl⟩) ⟨Nat.le_of_ble_eq_true rfl, Nat.le_of_ble_eq_true rfl⟩ (fun r5 T4 => ?_)
    refine j_iconst (pc := 21) 2 C dX10_closest_21 (by decide) ?_
    refine j_iconst (pc := 22) 1 C dX10_closest_22 (by decide) ?_
    refine j_callI0 (pc := 23) C (rR_may C dX10_closest_23 q_822 (by omega) (Nat.le_of_ble_eq_true rfl) ⟨Nat.le_of_ble_eq_true rfl, Nat.le_of_ble_eq_true rfl⟩) ⟨Nat.le_of_ble_eq_true rfl, Nat.le_of_ble_eq_true rfl⟩ (fun r7 T6 => ?_)
    refine j_if_ne (pc := 26) 31 C dX10_closest_26 (by decide) ?_ ?_
    ·
      refine j_aload_n (pc := 31) 0 C dX10_closest_31 rfl rfl ?_
      refine j_callv0 (pc := 32) C (rR_take C dX10_closest_32 q_984 (by omega) (Nat.le_of_ble_eq_true rfl) ⟨Nat.le_of_ble_eq_true rfl, Nat.le_of_ble_eq_true rfl⟩) ⟨Nat.le_of_ble_eq_true rfl, Nat.le_of_ble_eq_true rfl⟩ (fun T8 => ?_)
      refine j_aload_n (pc := 35) 0 C dX10_closest_35 rfl rfl ?_
      refine j_iconst (pc := 36) 0 C dX10_closest_36 (by decide) ?_
      refine j_iload_n (pc := 37) 1 C dX10_closest_37 rfl rfl ?_
      refine j_callI0 (pc := 38) C (rR_openBy C dX10_closest_38 q_1117 (by omega) (Nat.le_of_ble_eq_true rfl) ⟨Nat.le_of_ble_eq_true rfl, Nat.le_of_ble_eq_true rfl⟩) ⟨Nat.le_of_ble_eq_true rfl, Nat.le_of_ble_eq_true rfl⟩ (fun r11 T10 => ?_)
      refine j_istore_n (pc := 41) [(3, .int r11), (0, .ref (gA G 0)), (1, .int x1), (2, .int x2)] C dX10_closest_41 rfl (Nat.le_of_ble_eq_true rfl) rfl ?_
      refine j_iconst (pc := 42) (-1) C dX10_closest_42 (by decide) ?_
      refine j_istore (pc := 43) [(4, .int (-1)), (3, .int r11), (0, .ref (gA G 0)), (1, .int x1), (2, .int x2)] C dX10_closest_43 (Nat.le_of_ble_eq_true rfl) rfl ?_
      refine j_iconst (pc := 45) 0 C dX10_closest_45 (by decide) ?_
      refine j_istore (pc := 46) [(5, .int 0), (4, .int (-1)), (3, .int r11), (0, .ref (gA G 0)), (1, .int x1), (2, .int x2)] C dX10_closest_46 (Nat.le_of_ble_eq_true rfl) rfl ?_
      refine j_sub [3, 5, 2, 1, 0] rfl ?_
      exact bR_closest_48 C  FU x2 r11 (-1) 0 T10
    ·
      refine j_iconst (pc := 29) 0 C dX10_closest_29 (by decide) ?_
      exact j_iret C dX10_closest_30 rfl (Nat.le_of_ble_eq_true rfl) (Nat.le_of_ble_eq_true rfl)
theorem cR_closest {l : Launch} {G : Gc} (hfl : l.stackTraces = false) (hW : Wok G wR 26)   (x1 : Int32) (x2 : Int32) (S : St) : Ct l yX10_closest (Cond.code yX10_closest cX10_closest 6 (some .int) :: tblG) 7 0 0 G wR 26 [.ref (gA G 0), .int x1, .int x2] S (fR_closest x1 x2 S) := ct_of (own := RX10) hfl (by decide +kernel) rfl hW (Nat.le_of_ble_eq_true rfl) (fun E hE C => by subst hE; exact bR_closest C   x1 x2 S)
theorem rR_closest {E : Ec} {G : Gc} {nL mc ms : Nat} {own : String} {cc : ByteArray} {L : Nat} {ret : Option FieldType} {k n pc ix : Nat} {loc : List (Nat × Value)} {rest : List Value}  {x1 : Int32} {x2 : Int32} {S : St}  (C : JC E (VR G nL mc ms own) cc L ret) (hd : decode cc pc = .ok (.invokevirtual ix, 3)) (hq : Cond.methodLink own ix yX10_closest ∈ tblG) (hL : 7 + 1 ≤ L) (hW : (rest.map fun v => v.category).sum ≤ 8) (hf : k + 0 ≤ mc ∧ n + 0 ≤ ms) : Rn E (VR G nL mc ms own) k n 0 0 pc loc (.int x2 :: .int x1 :: .ref (gA G 0) :: rest) rest S (fR_closest x1 x2 S) := rn_V (ci := 10) 0 (V := VR G nL mc ms own) (As := [.int x1, .int x2]) (Cq := (RX10, TX10, 53)) (cR_closest C.flags C.wok  x1 x2 S) knX10_closest ⟨q_1244, q_1245⟩ rfl rfl C hd hq hL rfl rfl hW hf

theorem knX10_best : Kn yX10_best cX10_best 6 (some .int) 2 := ⟨q_1246, q_815, by decide +kernel, by decide⟩
theorem bR_best_43 {E : Ec} {G : Gc}    (C : JC E (VR G 6 0 0 RX10) cX10_best 3 (some .int))    : ∀ (n : Nat) (x1 : Int32) (x2 : Int32) (x3 : Int32) (x4 : Int32) (x5 : Int32) (S : St), J E (VR G 6 0 0 RX10) 0 0 43 [(0, .ref (gA G 0)), (1, .int x1), (2, .int x2), (3, .int x3), (4, .int x4), (5, .int x5)] [] S (fR_best_43  n x1 x2 x3 x4 x5 S) := by
  intro n
  induction n with
  | zero => intro x1 x2 x3 x4 x5 S; rw [fR_best_43]; exact j_none
  | succ n ih =>
    intro x1 x2 x3 x4 x5 S
    rw [fR_best_43]
    refine j_iload (pc := 43) 5 C dX10_best_43 rfl ?_
    refine j_aload_n (pc := 45) 0 C dX10_best_45 rfl rfl ?_
    refine gR_0_21 (pc := 46) C dX10_best_46 q_881 ?_
    refine j_icmp_ge (pc := 49) 85 C dX10_best_49 (by decide) ?_ ?_
    ·
      refine j_iload_n (pc := 85) 2 C dX10_best_85 rfl rfl ?_
      refine j_if_eq (pc := 86) 94 C dX10_best_86 (by decide) ?_ ?_
      ·
        refine j_iload_n (pc := 94) 3 C dX10_best_94 rfl rfl ?_
        refine j_goto (pc := 95) 100 C dX10_best_95 (by decide) ?_
        exact j_iret C dX10_best_100 rfl (Nat.le_of_ble_eq_true rfl) (Nat.le_of_ble_eq_true rfl)
      ·
        refine j_iload_n (pc := 89) 3 C dX10_best_89 rfl rfl ?_
        refine j_iconst (pc := 90) (-1) C dX10_best_90 (by decide) ?_
        refine j_icmp_ne (pc := 91) 98 C dX10_best_91 (by decide) ?_ ?_
        ·
          refine j_iload (pc := 98) 4 C dX10_best_98 rfl ?_
          exact j_iret C dX10_best_100 rfl (Nat.le_of_ble_eq_true rfl) (Nat.le_of_ble_eq_true rfl)
        ·
          refine j_iload_n (pc := 94) 3 C dX10_best_94 rfl rfl ?_
          refine j_goto (pc := 95) 100 C dX10_best_95 (by decide) ?_
          exact j_iret C dX10_best_100 rfl (Nat.le_of_ble_eq_true rfl) (Nat.le_of_ble_eq_true rfl)
    ·
      refine j_aload_n (pc := 52) 0 C dX10_best_52 rfl rfl ?_
      refine j_iload (pc := 53) 5 C dX10_best_53 rfl ?_
      refine j_iload_n (pc := 55) 1 C dX10_best_55 rfl rfl ?_
      refine j_callI0 (pc := 56) C (rR_knownOf C dX10_best_56 q_991 (by omega) (Nat.le_of_ble_eq_true rfl) ⟨Nat.le_of_ble_eq_true rfl, Nat.le_of_ble_eq_true rfl⟩) ⟨Nat.le_of_ble_eq_true rfl, Nat.le_of_ble_eq_true rfl⟩ (fun r2 T1 => ?_)
      refine j_iload (pc := 59) 4 C dX10_best_59 rfl ?_
      refine j_icmp_gt (pc := 61) 67 C dX10_best_61 (by decide) ?_ ?_
      ·
        refine j_iload (pc := 67) 5 C dX10_best_67 rfl ?_
        refine j_istore_n (pc := 69) [(3, .int x5), (0, .ref (gA G 0)), (1, .int x1), (2, .int x2), (4, .int x4), (5, .int x5)] C dX10_best_69 rfl (Nat.le_of_ble_eq_true rfl) rfl ?_
        refine j_aload_n (pc := 70) 1 C dX10_best_70 rfl rfl ?_
        refine j_iload (pc := 71) 5 C dX10_best_71 rfl ?_
        refine j_iload_n (pc := 73) 2 C dX10_best_73 rfl rfl ?_
        refine j_callI0 (pc := 74) C (rR_knownOf C dX10_best_74 q_991 (by omega) (Nat.le_of_ble_eq_true rfl) ⟨Nat.le_of_ble_eq_true rfl, Nat.le_of_ble_eq_true rfl⟩) ⟨Nat.le_of_ble_eq_true rfl, Nat.le_of_ble_eq_true rfl⟩ (fun r4 T3 => ?_)
        refine j_istore (pc := 77) [(4, .int r4), (3, .int x5), (0, .ref (gA G 0)), (1, .int x1), (2, .int x2), (5, .int x5)] C dX10_best_77 (Nat.le_of_ble_eq_true rfl) rfl ?_
        refine j_iinc (pc := 79) 5 (x5 + 1) [(5, .int (x5 + 1)), (4, .int r4), (3, .int x5), (0, .ref (gA G 0)), (1, .int x1), (2, .int x2)] C dX10_best_79 rfl rfl (Nat.le_of_ble_eq_true rfl) rfl ?_
        refine j_goto (pc := 82) 43 C dX10_best_82 (by decide) ?_
        refine j_sub [3, 4, 5, 2, 1, 0] rfl ?_
        exact ih x1 x2 x5 r4 (x5 + 1) T3
      ·
        refine j_goto (pc := 64) 79 C dX10_best_64 (by decide) ?_
        refine j_iinc (pc := 79) 5 (x5 + 1) [(5, .int (x5 + 1)), (0, .ref (gA G 0)), (1, .int x1), (2, .int x2), (3, .int x3), (4, .int x4)] C dX10_best_79 rfl rfl (Nat.le_of_ble_eq_true rfl) rfl ?_
        refine j_goto (pc := 82) 43 C dX10_best_82 (by decide) ?_
        refine j_sub [1, 2, 3, 4, 5, 0] rfl ?_
        exact ih x1 x2 x3 x4 (x5 + 1) T1
theorem bR_best {E : Ec} {G : Gc}    (C : JC E (VR G 6 0 0 RX10) cX10_best 3 (some .int))    (x1 : Int32) (x2 : Int32) (S : St) : J E (VR G 6 0 0 RX10) 0 0 0 [(0, .ref (gA G 0)), (1, .int x1), (2, .int x2)] [] S (fR_best  x1 x2 S) := by
  unfold fR_best
  refine j_aload_n (pc := 0) 0 C dX10_best_0 rfl rfl ?_
  refine j_iconst (pc := 1) 0 C dX10_best_1 (by decide) ?_
  refine pR_0_0 (pc := 2) C dX10_best_2 q_811 ?_
  refine j_nxS (fun T1 => ?_)
  refine j_aload_n (pc := 5) 0 C dX10_best_5 rfl rfl ?_
  refine j_iload_n (pc := 6) 1 C dX10_best_6 rfl rfl ?_
  refine j_iconst (pc := 7) 1 C dX10_best_7 (by decide) ?_
  refine j_callI0 (pc := 8) C (rR_isPoem C dX10_best_8 q_1113 (by omega) (Nat.le_of_ble_eq_true rfl) ⟨Nat.le_of_ble_eq_true rfl, Nat.le_of_ble_eq_true rfl⟩) ⟨Nat.le_of_ble_eq_true rfl, Nat.le_of_ble_eq_true rfl⟩ (fun r3 T2 => ?_)
  refine j_if_eq (pc := 11) 29 C dX10_best_11 (by decide) ?_ ?_
  ·
    refine j_iconst (pc := 29) 0 C dX10_best_29 (by decide) ?_
    exact j_iret C dX10_best_30 rfl (Nat.le_of_ble_eq_true rfl) (Nat.le_of_ble_eq_true rfl)
  ·
    refine j_aload_n (pc := 14) 0 C dX10_best_14 rfl rfl ?_
    refine j_iload_n (pc := 15) 2 C dX10_best_15 rfl rfl ?_
    refine j_iconst (pc := 16) 0 C dX10_best_16 (by decide) ?_
    refine j_iconst (pc := 17) 1 C dX10_best_17 (by decide) ?_
    refine j_callI0 (pc := 18) C (rR_within C dX10_best_18 q_1094 (by omega) (Nat.le_of_ble_eq_true rfl) ⟨Nat.le_of_ble_eq_true rfl, Nat.le_of_ble_eq_true rfl⟩) ⟨Nat.le_of_ble_eq_true rfl, Nat.le_of_ble_eq_true rfl⟩ (fun r5 T4 => ?_)
    refine j_iconst (pc := 21) 2 C dX10_best_21 (by decide) ?_
    refine j_iconst (pc := 22) 1 C dX10_best_22 (by decide) ?_
    refine j_callI0 (pc := 23) C (rR_may C dX10_best_23 q_822 (by omega) (Nat.le_of_ble_eq_true rfl) ⟨Nat.le_of_ble_eq_true rfl, Nat.le_of_ble_eq_true rfl⟩) ⟨Nat.le_of_ble_eq_true rfl, Nat.le_of_ble_eq_true rfl⟩ (fun r7 T6 => ?_)
    refine j_if_ne (pc := 26) 31 C dX10_best_26 (by decide) ?_ ?_
    ·
      refine j_aload_n (pc := 31) 0 C dX10_best_31 rfl rfl ?_
      refine j_callv0 (pc := 32) C (rR_take C dX10_best_32 q_984 (by omega) (Nat.le_of_ble_eq_true rfl) ⟨Nat.le_of_ble_eq_true rfl, Nat.le_of_ble_eq_true rfl⟩) ⟨Nat.le_of_ble_eq_true rfl, Nat.le_of_ble_eq_true rfl⟩ (fun T8 => ?_)
      refine j_iconst (pc := 35) (-1) C dX10_best_35 (by decide) ?_
      refine j_istore_n (pc := 36) [(3, .int (-1)), (0, .ref (gA G 0)), (1, .int x1), (2, .int x2)] C dX10_best_36 rfl (Nat.le_of_ble_eq_true rfl) rfl ?_
      refine j_iconst (pc := 37) 0 C dX10_best_37 (by decide) ?_
      refine j_istore (pc := 38) [(4, .int 0), (3, .int (-1)), (0, .ref (gA G 0)), (1, .int x1), (2, .int x2)] C dX10_best_38 (Nat.le_of_ble_eq_true rfl) rfl ?_
      refine j_iconst (pc := 40) 0 C dX10_best_40 (by decide) ?_
      refine j_istore (pc := 41) [(5, .int 0), (4, .int 0), (3, .int (-1)), (0, .ref (gA G 0)), (1, .int x1), (2, .int x2)] C dX10_best_41 (Nat.le_of_ble_eq_true rfl) rfl ?_
      refine j_sub [3, 4, 5, 2, 1, 0] rfl ?_
      exact bR_best_43 C  FU x1 x2 (-1) 0 0 T8
    ·
      refine j_iconst (pc := 29) 0 C dX10_best_29 (by decide) ?_
      exact j_iret C dX10_best_30 rfl (Nat.le_of_ble_eq_true rfl) (Nat.le_of_ble_eq_true rfl)
theorem cR_best {l : Launch} {G : Gc} (hfl : l.stackTraces = false) (hW : Wok G wR 26)   (x1 : Int32) (x2 : Int32) (S : St) : Ct l yX10_best (Cond.code yX10_best cX10_best 6 (some .int) :: tblG) 3 0 0 G wR 26 [.ref (gA G 0), .int x1, .int x2] S (fR_best x1 x2 S) := ct_of (own := RX10) hfl (by decide +kernel) rfl hW (Nat.le_of_ble_eq_true rfl) (fun E hE C => by subst hE; exact bR_best C   x1 x2 S)
theorem rR_best {E : Ec} {G : Gc} {nL mc ms : Nat} {own : String} {cc : ByteArray} {L : Nat} {ret : Option FieldType} {k n pc ix : Nat} {loc : List (Nat × Value)} {rest : List Value}  {x1 : Int32} {x2 : Int32} {S : St}  (C : JC E (VR G nL mc ms own) cc L ret) (hd : decode cc pc = .ok (.invokevirtual ix, 3)) (hq : Cond.methodLink own ix yX10_best ∈ tblG) (hL : 3 + 1 ≤ L) (hW : (rest.map fun v => v.category).sum ≤ 8) (hf : k + 0 ≤ mc ∧ n + 0 ≤ ms) : Rn E (VR G nL mc ms own) k n 0 0 pc loc (.int x2 :: .int x1 :: .ref (gA G 0) :: rest) rest S (fR_best x1 x2 S) := rn_V (ci := 10) 0 (V := VR G nL mc ms own) (As := [.int x1, .int x2]) (Cq := (RX10, TX10, 53)) (cR_best C.flags C.wok  x1 x2 S) knX10_best ⟨q_1247, q_1248⟩ rfl rfl C hd hq hL rfl rfl hW hf

theorem knX10_chorus : Kn yX10_chorus cX10_chorus 5 (some .int) 2 := ⟨q_1249, q_815, by decide +kernel, by decide⟩
theorem bR_chorus_53 {E : Ec} {G : Gc}    (C : JC E (VR G 5 0 0 RX10) cX10_chorus 3 (some .int))    : ∀ (n : Nat) (x1 : Int32) (x2 : Int32) (x3 : Int32) (x4 : Int32) (S : St), J E (VR G 5 0 0 RX10) 0 0 53 [(0, .ref (gA G 0)), (1, .int x1), (2, .int x2), (3, .int x3), (4, .int x4)] [] S (fR_chorus_53  n x1 x2 x3 x4 S) := by
  intro n
  induction n with
  | zero => intro x1 x2 x3 x4 S; rw [fR_chorus_53]; exact j_none
  | succ n ih =>
    intro x1 x2 x3 x4 S
    rw [fR_chorus_53]
    refine j_iload (pc := 53) 4 C dX10_chorus_53 rfl ?_
    refine j_aload_n (pc := 55) 0 C dX10_chorus_55 rfl rfl ?_
    refine gR_0_21 (pc := 56) C dX10_chorus_56 q_881 ?_
    refine j_icmp_ge (pc := 59) 85 C dX10_chorus_59 (by decide) ?_ ?_
    ·
      refine j_iload_n (pc := 85) 3 C dX10_chorus_85 rfl rfl ?_
      refine j_aload_n (pc := 86) 0 C dX10_chorus_86 rfl rfl ?_
      refine gR_0_13 (pc := 87) C dX10_chorus_87 q_885 ?_
      refine j_iconst (pc := 90) 2 C dX10_chorus_90 (by decide) ?_
      refine j_iload_n (pc := 91) 1 C dX10_chorus_91 rfl rfl ?_
      refine j_imul (pc := 92) C dX10_chorus_92 ?_
      refine aR_6 (pc := 93) C dX10_chorus_93 ?_
      refine j_icmp_le (pc := 94) 108 C dX10_chorus_94 (by decide) ?_ ?_
      ·
        refine j_iload_n (pc := 108) 3 C dX10_chorus_108 rfl rfl ?_
        exact j_iret C dX10_chorus_109 rfl (Nat.le_of_ble_eq_true rfl) (Nat.le_of_ble_eq_true rfl)
      ·
        refine j_aload_n (pc := 97) 0 C dX10_chorus_97 rfl rfl ?_
        refine gR_0_13 (pc := 98) C dX10_chorus_98 q_885 ?_
        refine j_iconst (pc := 101) 2 C dX10_chorus_101 (by decide) ?_
        refine j_iload_n (pc := 102) 1 C dX10_chorus_102 rfl rfl ?_
        refine j_imul (pc := 103) C dX10_chorus_103 ?_
        refine aR_6 (pc := 104) C dX10_chorus_104 ?_
        refine j_goto (pc := 105) 109 C dX10_chorus_105 (by decide) ?_
        exact j_iret C dX10_chorus_109 rfl (Nat.le_of_ble_eq_true rfl) (Nat.le_of_ble_eq_true rfl)
    ·
      refine j_iload_n (pc := 62) 3 C dX10_chorus_62 rfl rfl ?_
      refine j_iload_n (pc := 63) 2 C dX10_chorus_63 rfl rfl ?_
      refine j_iload (pc := 64) 4 C dX10_chorus_64 rfl ?_
      refine j_ishr (pc := 66) C dX10_chorus_66 ?_
      refine j_iconst (pc := 67) 1 C dX10_chorus_67 (by decide) ?_
      refine j_iand (pc := 68) C dX10_chorus_68 ?_
      refine j_aload_n (pc := 69) 0 C dX10_chorus_69 rfl rfl ?_
      refine j_iload (pc := 70) 4 C dX10_chorus_70 rfl ?_
      refine j_iload_n (pc := 72) 1 C dX10_chorus_72 rfl rfl ?_
      refine j_callI0 (pc := 73) C (rR_knownOf C dX10_chorus_73 q_991 (by omega) (Nat.le_of_ble_eq_true rfl) ⟨Nat.le_of_ble_eq_true rfl, Nat.le_of_ble_eq_true rfl⟩) ⟨Nat.le_of_ble_eq_true rfl, Nat.le_of_ble_eq_true rfl⟩ (fun r2 T1 => ?_)
      refine j_imul (pc := 76) C dX10_chorus_76 ?_
      refine j_iadd (pc := 77) C dX10_chorus_77 ?_
      refine j_nxI (fun v3 => ?_)
      refine j_istore_n (pc := 78) [(3, .int v3), (0, .ref (gA G 0)), (1, .int x1), (2, .int x2), (4, .int x4)] C dX10_chorus_78 rfl (Nat.le_of_ble_eq_true rfl) rfl ?_
      refine j_iinc (pc := 79) 4 (x4 + 1) [(4, .int (x4 + 1)), (3, .int v3), (0, .ref (gA G 0)), (1, .int x1), (2, .int x2)] C dX10_chorus_79 rfl rfl (Nat.le_of_ble_eq_true rfl) rfl ?_
      refine j_goto (pc := 82) 53 C dX10_chorus_82 (by decide) ?_
      refine j_sub [2, 3, 4, 1, 0] rfl ?_
      exact ih x1 x2 v3 (x4 + 1) T1
theorem bR_chorus_34 {E : Ec} {G : Gc}    (C : JC E (VR G 5 0 0 RX10) cX10_chorus 3 (some .int))    (x1 : Int32) (x2 : Int32) (s0 : Int32) (S : St) : J E (VR G 5 0 0 RX10) 0 0 34 [(0, .ref (gA G 0)), (1, .int x1), (2, .int x2)] [.int s0, .ref (gA G 0)] S (fR_chorus_34  x1 x2 s0 S) := by
  unfold fR_chorus_34
  refine j_iconst (pc := 34) 2 C dX10_chorus_34 (by decide) ?_
  refine j_iconst (pc := 35) 1 C dX10_chorus_35 (by decide) ?_
  refine j_callI0 (pc := 36) C (rR_may C dX10_chorus_36 q_822 (by omega) (Nat.le_of_ble_eq_true rfl) ⟨Nat.le_of_ble_eq_true rfl, Nat.le_of_ble_eq_true rfl⟩) ⟨Nat.le_of_ble_eq_true rfl, Nat.le_of_ble_eq_true rfl⟩ (fun r2 T1 => ?_)
  refine j_if_ne (pc := 39) 44 C dX10_chorus_39 (by decide) ?_ ?_
  ·
    refine j_aload_n (pc := 44) 0 C dX10_chorus_44 rfl rfl ?_
    refine j_callv0 (pc := 45) C (rR_take C dX10_chorus_45 q_984 (by omega) (Nat.le_of_ble_eq_true rfl) ⟨Nat.le_of_ble_eq_true rfl, Nat.le_of_ble_eq_true rfl⟩) ⟨Nat.le_of_ble_eq_true rfl, Nat.le_of_ble_eq_true rfl⟩ (fun T3 => ?_)
    refine j_iconst (pc := 48) 0 C dX10_chorus_48 (by decide) ?_
    refine j_istore_n (pc := 49) [(3, .int 0), (0, .ref (gA G 0)), (1, .int x1), (2, .int x2)] C dX10_chorus_49 rfl (Nat.le_of_ble_eq_true rfl) rfl ?_
    refine j_iconst (pc := 50) 0 C dX10_chorus_50 (by decide) ?_
    refine j_istore (pc := 51) [(4, .int 0), (3, .int 0), (0, .ref (gA G 0)), (1, .int x1), (2, .int x2)] C dX10_chorus_51 (Nat.le_of_ble_eq_true rfl) rfl ?_
    refine j_sub [2, 3, 4, 1, 0] rfl ?_
    exact bR_chorus_53 C  FU x1 x2 0 0 T3
  ·
    refine j_iconst (pc := 42) 0 C dX10_chorus_42 (by decide) ?_
    exact j_iret C dX10_chorus_43 rfl (Nat.le_of_ble_eq_true rfl) (Nat.le_of_ble_eq_true rfl)
theorem bR_chorus_33 {E : Ec} {G : Gc}    (C : JC E (VR G 5 0 0 RX10) cX10_chorus 3 (some .int))    (x1 : Int32) (x2 : Int32) (S : St) : J E (VR G 5 0 0 RX10) 0 0 33 [(0, .ref (gA G 0)), (1, .int x1), (2, .int x2)] [.ref (gA G 0)] S (fR_chorus_33  x1 x2 S) := by
  unfold fR_chorus_33
  refine j_iconst (pc := 33) 0 C dX10_chorus_33 (by decide) ?_
  exact bR_chorus_34 C  x1 x2 0 S
theorem bR_chorus {E : Ec} {G : Gc}    (C : JC E (VR G 5 0 0 RX10) cX10_chorus 3 (some .int))    (x1 : Int32) (x2 : Int32) (S : St) : J E (VR G 5 0 0 RX10) 0 0 0 [(0, .ref (gA G 0)), (1, .int x1), (2, .int x2)] [] S (fR_chorus  x1 x2 S) := by
  unfold fR_chorus
  refine j_aload_n (pc := 0) 0 C dX10_chorus_0 rfl rfl ?_
  refine j_iconst (pc := 1) 0 C dX10_chorus_1 (by decide) ?_
  refine pR_0_0 (pc := 2) C dX10_chorus_2 q_811 ?_
  refine j_nxS (fun T1 => ?_)
  refine j_aload_n (pc := 5) 0 C dX10_chorus_5 rfl rfl ?_
  refine j_iload_n (pc := 6) 1 C dX10_chorus_6 rfl rfl ?_
  refine j_iconst (pc := 7) 1 C dX10_chorus_7 (by decide) ?_
  refine j_callI0 (pc := 8) C (rR_isPoem C dX10_chorus_8 q_1113 (by omega) (Nat.le_of_ble_eq_true rfl) ⟨Nat.le_of_ble_eq_true rfl, Nat.le_of_ble_eq_true rfl⟩) ⟨Nat.le_of_ble_eq_true rfl, Nat.le_of_ble_eq_true rfl⟩ (fun r3 T2 => ?_)
  refine j_if_eq (pc := 11) 42 C dX10_chorus_11 (by decide) ?_ ?_
  ·
    refine j_iconst (pc := 42) 0 C dX10_chorus_42 (by decide) ?_
    exact j_iret C dX10_chorus_43 rfl (Nat.le_of_ble_eq_true rfl) (Nat.le_of_ble_eq_true rfl)
  ·
    refine j_aload_n (pc := 14) 0 C dX10_chorus_14 rfl rfl ?_
    refine j_iload_n (pc := 15) 2 C dX10_chorus_15 rfl rfl ?_
    refine j_if_lt (pc := 16) 33 C dX10_chorus_16 (by decide) ?_ ?_
    ·
      exact bR_chorus_33 C  x1 x2 T2
    ·
      refine j_iload_n (pc := 19) 2 C dX10_chorus_19 rfl rfl ?_
      refine j_iconst (pc := 20) 1 C dX10_chorus_20 (by decide) ?_
      refine j_aload_n (pc := 21) 0 C dX10_chorus_21 rfl rfl ?_
      refine gR_0_21 (pc := 22) C dX10_chorus_22 q_881 ?_
      refine j_ishl (pc := 25) C dX10_chorus_25 ?_
      refine j_icmp_ge (pc := 26) 33 C dX10_chorus_26 (by decide) ?_ ?_
      ·
        exact bR_chorus_33 C  x1 x2 T2
      ·
        refine j_iconst (pc := 29) 1 C dX10_chorus_29 (by decide) ?_
        refine j_goto (pc := 30) 34 C dX10_chorus_30 (by decide) ?_
        exact bR_chorus_34 C  x1 x2 1 T2
theorem cR_chorus {l : Launch} {G : Gc} (hfl : l.stackTraces = false) (hW : Wok G wR 26)   (x1 : Int32) (x2 : Int32) (S : St) : Ct l yX10_chorus (Cond.code yX10_chorus cX10_chorus 5 (some .int) :: tblG) 3 0 0 G wR 26 [.ref (gA G 0), .int x1, .int x2] S (fR_chorus x1 x2 S) := ct_of (own := RX10) hfl (by decide +kernel) rfl hW (Nat.le_of_ble_eq_true rfl) (fun E hE C => by subst hE; exact bR_chorus C   x1 x2 S)
theorem rR_chorus {E : Ec} {G : Gc} {nL mc ms : Nat} {own : String} {cc : ByteArray} {L : Nat} {ret : Option FieldType} {k n pc ix : Nat} {loc : List (Nat × Value)} {rest : List Value}  {x1 : Int32} {x2 : Int32} {S : St}  (C : JC E (VR G nL mc ms own) cc L ret) (hd : decode cc pc = .ok (.invokevirtual ix, 3)) (hq : Cond.methodLink own ix yX10_chorus ∈ tblG) (hL : 3 + 1 ≤ L) (hW : (rest.map fun v => v.category).sum ≤ 8) (hf : k + 0 ≤ mc ∧ n + 0 ≤ ms) : Rn E (VR G nL mc ms own) k n 0 0 pc loc (.int x2 :: .int x1 :: .ref (gA G 0) :: rest) rest S (fR_chorus x1 x2 S) := rn_V (ci := 10) 0 (V := VR G nL mc ms own) (As := [.int x1, .int x2]) (Cq := (RX10, TX10, 53)) (cR_chorus C.flags C.wok  x1 x2 S) knX10_chorus ⟨q_1250, q_1251⟩ rfl rfl C hd hq hL rfl rfl hW hf

theorem knX10_isSeason : Kn yX10_isSeason cX10_isSeason 2 (some .boolean) 2 := ⟨q_1252, q_815, by decide +kernel, by decide⟩
theorem bR_isSeason {E : Ec} {G : Gc}    (C : JC E (VR G 2 0 0 RX10) cX10_isSeason 1 (some .boolean))    (x0 : Int32) (x1 : Int32) (S : St) : J E (VR G 2 0 0 RX10) 0 0 0 [(0, .int x0), (1, .int x1)] [] S (fR_isSeason  x0 x1 S) := by
  unfold fR_isSeason
  refine j_iload_n (pc := 0) 0 C dX10_isSeason_0 rfl rfl ?_
  refine j_if_lt (pc := 1) 25 C dX10_isSeason_1 (by decide) ?_ ?_
  ·
    refine j_iconst (pc := 25) 0 C dX10_isSeason_25 (by decide) ?_
    exact j_zretc C dX10_isSeason_26 rfl (Nat.le_of_ble_eq_true rfl) (Nat.le_of_ble_eq_true rfl) rfl
  ·
    refine j_iload_n (pc := 4) 0 C dX10_isSeason_4 rfl rfl ?_
    refine j_bipush (pc := 5) 16 C dX10_isSeason_5 (by decide) ?_
    refine j_icmp_gt (pc := 7) 25 C dX10_isSeason_7 (by decide) ?_ ?_
    ·
      refine j_iconst (pc := 25) 0 C dX10_isSeason_25 (by decide) ?_
      exact j_zretc C dX10_isSeason_26 rfl (Nat.le_of_ble_eq_true rfl) (Nat.le_of_ble_eq_true rfl) rfl
    ·
      refine j_iload_n (pc := 10) 1 C dX10_isSeason_10 rfl rfl ?_
      refine j_iconst (pc := 11) 1 C dX10_isSeason_11 (by decide) ?_
      refine j_icmp_lt (pc := 12) 25 C dX10_isSeason_12 (by decide) ?_ ?_
      ·
        refine j_iconst (pc := 25) 0 C dX10_isSeason_25 (by decide) ?_
        exact j_zretc C dX10_isSeason_26 rfl (Nat.le_of_ble_eq_true rfl) (Nat.le_of_ble_eq_true rfl) rfl
      ·
        refine j_iload_n (pc := 15) 1 C dX10_isSeason_15 rfl rfl ?_
        refine j_bipush (pc := 16) 48 C dX10_isSeason_16 (by decide) ?_
        refine j_icmp_gt (pc := 18) 25 C dX10_isSeason_18 (by decide) ?_ ?_
        ·
          refine j_iconst (pc := 25) 0 C dX10_isSeason_25 (by decide) ?_
          exact j_zretc C dX10_isSeason_26 rfl (Nat.le_of_ble_eq_true rfl) (Nat.le_of_ble_eq_true rfl) rfl
        ·
          refine j_iconst (pc := 21) 1 C dX10_isSeason_21 (by decide) ?_
          refine j_goto (pc := 22) 26 C dX10_isSeason_22 (by decide) ?_
          exact j_zretc C dX10_isSeason_26 rfl (Nat.le_of_ble_eq_true rfl) (Nat.le_of_ble_eq_true rfl) rfl
theorem cR_isSeason {l : Launch} {G : Gc} (hfl : l.stackTraces = false) (hW : Wok G wR 26)   (x0 : Int32) (x1 : Int32) (S : St) : Ct l yX10_isSeason (Cond.code yX10_isSeason cX10_isSeason 2 (some .boolean) :: tblG) 1 0 0 G wR 26 [.int x0, .int x1] S (fR_isSeason x0 x1 S) := ct_of (own := RX10) hfl (by decide +kernel) rfl hW (Nat.le_of_ble_eq_true rfl) (fun E hE C => by subst hE; exact bR_isSeason C   x0 x1 S)
theorem rR_isSeason {E : Ec} {G : Gc} {nL mc ms : Nat} {own : String} {cc : ByteArray} {L : Nat} {ret : Option FieldType} {k n pc ix : Nat} {loc : List (Nat × Value)} {rest : List Value}  {x0 : Int32} {x1 : Int32} {S : St}  (C : JC E (VR G nL mc ms own) cc L ret) (hd : decode cc pc = .ok (.invokestatic ix, 3)) (hq : Cond.methodLink own ix yX10_isSeason ∈ tblG) (hL : 1 + 1 ≤ L) (hW : (rest.map fun v => v.category).sum ≤ 8) (hf : k + 0 ≤ mc ∧ n + 0 ≤ ms) : Rn E (VR G nL mc ms own) k n 0 0 pc loc (.int x1 :: .int x0 :: rest) rest S (fR_isSeason x0 x1 S) := rn_S (V := VR G nL mc ms own) (As := [.int x0, .int x1]) (cR_isSeason C.flags C.wok  x0 x1 S) knX10_isSeason q_1253  C hd hq hL rfl rfl hW hf

theorem knX10_draws : Kn yX10_draws cX10_draws 2 (some .int) 1 := ⟨q_1257, q_815, by decide +kernel, by decide⟩
theorem bR_draws {E : Ec} {G : Gc}    (C : JC E (VR G 2 0 0 RX10) cX10_draws 1 (some .int))    (x1 : Int32) (S : St) : J E (VR G 2 0 0 RX10) 0 0 0 [(0, .ref (gA G 0)), (1, .int x1)] [] S (fR_draws  x1 S) := by
  unfold fR_draws
  refine j_aload_n (pc := 0) 0 C dX10_draws_0 rfl rfl ?_
  refine j_aload_n (pc := 1) 0 C dX10_draws_1 rfl rfl ?_
  refine gR_0_50 (pc := 2) C dX10_draws_2 q_1255 ?_
  refine j_ldcw (pc := 5) C dX10_draws_5 q_1256 ?_
  refine j_imul (pc := 8) C dX10_draws_8 ?_
  refine j_sipush (pc := 9) 12345 C dX10_draws_9 (by decide) ?_
  refine j_iadd (pc := 12) C dX10_draws_12 ?_
  refine pR_0_50 (pc := 13) C dX10_draws_13 q_1255 ?_
  refine j_nxS (fun T1 => ?_)
  refine j_aload_n (pc := 16) 0 C dX10_draws_16 rfl rfl ?_
  refine gR_0_50 (pc := 17) C dX10_draws_17 q_1255 ?_
  refine j_bipush (pc := 20) 16 C dX10_draws_20 (by decide) ?_
  refine j_ishr (pc := 22) C dX10_draws_22 ?_
  refine j_sipush (pc := 23) 32767 C dX10_draws_23 (by decide) ?_
  refine j_iand (pc := 26) C dX10_draws_26 ?_
  refine j_iload_n (pc := 27) 1 C dX10_draws_27 rfl rfl ?_
  refine j_irem (pc := 28) C dX10_draws_28 ?_
  exact j_iret C dX10_draws_29 rfl (Nat.le_of_ble_eq_true rfl) (Nat.le_of_ble_eq_true rfl)
theorem cR_draws {l : Launch} {G : Gc} (hfl : l.stackTraces = false) (hW : Wok G wR 26)   (x1 : Int32) (S : St) : Ct l yX10_draws (Cond.code yX10_draws cX10_draws 2 (some .int) :: tblG) 1 0 0 G wR 26 [.ref (gA G 0), .int x1] S (fR_draws x1 S) := ct_of (own := RX10) hfl (by decide +kernel) rfl hW (Nat.le_of_ble_eq_true rfl) (fun E hE C => by subst hE; exact bR_draws C   x1 S)
theorem rR_draws {E : Ec} {G : Gc} {nL mc ms : Nat} {own : String} {cc : ByteArray} {L : Nat} {ret : Option FieldType} {k n pc ix : Nat} {loc : List (Nat × Value)} {rest : List Value}  {x1 : Int32} {S : St}  (C : JC E (VR G nL mc ms own) cc L ret) (hd : decode cc pc = .ok (.invokevirtual ix, 3)) (hq : Cond.methodLink own ix yX10_draws ∈ tblG) (hL : 1 + 1 ≤ L) (hW : (rest.map fun v => v.category).sum ≤ 8) (hf : k + 0 ≤ mc ∧ n + 0 ≤ ms) : Rn E (VR G nL mc ms own) k n 0 0 pc loc (.int x1 :: .ref (gA G 0) :: rest) rest S (fR_draws x1 S) := rn_V (ci := 10) 0 (V := VR G nL mc ms own) (As := [.int x1]) (Cq := (RX10, TX10, 53)) (cR_draws C.flags C.wok  x1 S) knX10_draws ⟨q_1258, q_1259⟩ rfl rfl C hd hq hL rfl rfl hW hf

theorem knX10_seasonGoes : Kn yX10_seasonGoes cX10_seasonGoes 6 none 3 := ⟨q_1261, q_815, by decide +kernel, by decide⟩
theorem bR_seasonGoes_87 {E : Ec} {G : Gc}   {K12 : Int32 → Int32 → Int32 → St → Oz} (C : JC E (VR G 6 0 0 RX10) cX10_seasonGoes 8 none)   (hK12 : ∀ (x2 : Int32) (x3 : Int32) (x4 : Int32) (S : St), J E (VR G 6 0 0 RX10) 0 0 12 [(0, .ref (gA G 0)), (2, .int x2), (3, .int x3), (4, .int x4)] [] S (K12 x2 x3 x4 S)) (x2 : Int32) (x3 : Int32) (x4 : Int32) (S : St) : J E (VR G 6 0 0 RX10) 0 0 87 [(0, .ref (gA G 0)), (2, .int x2), (3, .int x3), (4, .int x4)] [] S (fR_seasonGoes_87 K12 x2 x3 x4 S) := by
  unfold fR_seasonGoes_87
  refine j_aload_n (pc := 87) 0 C dX10_seasonGoes_87 rfl rfl ?_
  refine j_callv0 (pc := 88) C (rR_passes C dX10_seasonGoes_88 q_999 (by omega) (Nat.le_of_ble_eq_true rfl) ⟨Nat.le_of_ble_eq_true rfl, Nat.le_of_ble_eq_true rfl⟩) ⟨Nat.le_of_ble_eq_true rfl, Nat.le_of_ble_eq_true rfl⟩ (fun T1 => ?_)
  refine j_iinc (pc := 91) 3 (x4 + 1) [(4, .int (x4 + 1)), (0, .ref (gA G 0)), (2, .int x2), (3, .int x3)] C dX10_seasonGoes_91 rfl rfl (Nat.le_of_ble_eq_true rfl) rfl ?_
  refine j_goto (pc := 94) 12 C dX10_seasonGoes_94 (by decide) ?_
  refine j_sub [1, 2, 3, 0] rfl ?_
  exact hK12 x2 x3 (x4 + 1) T1
theorem bR_seasonGoes_12 {E : Ec} {G : Gc}    (C : JC E (VR G 6 0 0 RX10) cX10_seasonGoes 8 none)    : ∀ (n : Nat) (x2 : Int32) (x3 : Int32) (x4 : Int32) (S : St), J E (VR G 6 0 0 RX10) 0 0 12 [(0, .ref (gA G 0)), (2, .int x2), (3, .int x3), (4, .int x4)] [] S (fR_seasonGoes_12  n x2 x3 x4 S) := by
  intro n
  induction n with
  | zero => intro x2 x3 x4 S; rw [fR_seasonGoes_12]; exact j_none
  | succ n ih =>
    intro x2 x3 x4 S
    rw [fR_seasonGoes_12]
    refine j_iload (pc := 12) 3 C dX10_seasonGoes_12 rfl ?_
    refine j_iload_n (pc := 14) 2 C dX10_seasonGoes_14 rfl rfl ?_
    refine j_icmp_ge (pc := 15) 97 C dX10_seasonGoes_15 (by decide) ?_ ?_
    ·
      exact j_vret C dX10_seasonGoes_97 rfl (Nat.le_of_ble_eq_true rfl) (Nat.le_of_ble_eq_true rfl)
    ·
      refine j_aload_n (pc := 18) 0 C dX10_seasonGoes_18 rfl rfl ?_
      refine gR_0_21 (pc := 19) C dX10_seasonGoes_19 q_881 ?_
      refine j_if_le (pc := 22) 87 C dX10_seasonGoes_22 (by decide) ?_ ?_
      ·
        exact bR_seasonGoes_87 C ih x2 x3 x4 S
      ·
        refine j_aload_n (pc := 25) 0 C dX10_seasonGoes_25 rfl rfl ?_
        refine gR_0_20 (pc := 26) C dX10_seasonGoes_26 q_880 ?_
        refine j_if_le (pc := 29) 87 C dX10_seasonGoes_29 (by decide) ?_ ?_
        ·
          exact bR_seasonGoes_87 C ih x2 x3 x4 S
        ·
          refine j_aload_n (pc := 32) 0 C dX10_seasonGoes_32 rfl rfl ?_
          refine j_aload_n (pc := 33) 0 C dX10_seasonGoes_33 rfl rfl ?_
          refine gR_0_21 (pc := 34) C dX10_seasonGoes_34 q_881 ?_
          refine j_callI0 (pc := 37) C (rR_draws C dX10_seasonGoes_37 q_1260 (by omega) (Nat.le_of_ble_eq_true rfl) ⟨Nat.le_of_ble_eq_true rfl, Nat.le_of_ble_eq_true rfl⟩) ⟨Nat.le_of_ble_eq_true rfl, Nat.le_of_ble_eq_true rfl⟩ (fun r2 T1 => ?_)
          refine j_istore (pc := 40) [(5, .int r2), (0, .ref (gA G 0)), (2, .int x2), (3, .int x3), (4, .int x4)] C dX10_seasonGoes_40 (Nat.le_of_ble_eq_true rfl) rfl ?_
          refine j_aload_n (pc := 42) 1 C dX10_seasonGoes_42 rfl rfl ?_
          refine j_iload (pc := 43) 0 C dX10_seasonGoes_43 rfl ?_
          refine j_aload_n (pc := 45) 1 C dX10_seasonGoes_45 rfl rfl ?_
          refine j_aload_n (pc := 46) 1 C dX10_seasonGoes_46 rfl rfl ?_
          refine gR_0_20 (pc := 47) C dX10_seasonGoes_47 q_880 ?_
          refine j_callI0 (pc := 50) C (rR_draws C dX10_seasonGoes_50 q_1260 (by omega) (Nat.le_of_ble_eq_true rfl) ⟨Nat.le_of_ble_eq_true rfl, Nat.le_of_ble_eq_true rfl⟩) ⟨Nat.le_of_ble_eq_true rfl, Nat.le_of_ble_eq_true rfl⟩ (fun r4 T3 => ?_)
          refine j_callI0 (pc := 53) C (rR_isTaught C dX10_seasonGoes_53 q_1068 (by omega) (Nat.le_of_ble_eq_true rfl) ⟨Nat.le_of_ble_eq_true rfl, Nat.le_of_ble_eq_true rfl⟩) ⟨Nat.le_of_ble_eq_true rfl, Nat.le_of_ble_eq_true rfl⟩ (fun r6 T5 => ?_)
          refine j_pop (pc := 56) C dX10_seasonGoes_56 rfl ?_
          refine j_aload_n (pc := 57) 1 C dX10_seasonGoes_57 rfl rfl ?_
          refine j_bipush (pc := 58) 16 C dX10_seasonGoes_58 (by decide) ?_
          refine j_callI0 (pc := 60) C (rR_draws C dX10_seasonGoes_60 q_1260 (by omega) (Nat.le_of_ble_eq_true rfl) ⟨Nat.le_of_ble_eq_true rfl, Nat.le_of_ble_eq_true rfl⟩) ⟨Nat.le_of_ble_eq_true rfl, Nat.le_of_ble_eq_true rfl⟩ (fun r8 T7 => ?_)
          refine j_iload_n (pc := 63) 2 C dX10_seasonGoes_63 rfl rfl ?_
          refine j_icmp_ge (pc := 64) 87 C dX10_seasonGoes_64 (by decide) ?_ ?_
          ·
            refine j_sub [1, 2, 3, 4] rfl ?_
            exact bR_seasonGoes_87 C ih x2 x3 x4 T7
          ·
            refine j_aload_n (pc := 67) 1 C dX10_seasonGoes_67 rfl rfl ?_
            refine gR_0_22 (pc := 68) C dX10_seasonGoes_68 q_882 ?_
            refine j_if_le (pc := 71) 87 C dX10_seasonGoes_71 (by decide) ?_ ?_
            ·
              refine j_sub [1, 2, 3, 4] rfl ?_
              exact bR_seasonGoes_87 C ih x2 x3 x4 T7
            ·
              refine j_aload_n (pc := 74) 1 C dX10_seasonGoes_74 rfl rfl ?_
              refine j_aload_n (pc := 75) 1 C dX10_seasonGoes_75 rfl rfl ?_
              refine j_aload_n (pc := 76) 1 C dX10_seasonGoes_76 rfl rfl ?_
              refine gR_0_22 (pc := 77) C dX10_seasonGoes_77 q_882 ?_
              refine j_callI0 (pc := 80) C (rR_draws C dX10_seasonGoes_80 q_1260 (by omega) (Nat.le_of_ble_eq_true rfl) ⟨Nat.le_of_ble_eq_true rfl, Nat.le_of_ble_eq_true rfl⟩) ⟨Nat.le_of_ble_eq_true rfl, Nat.le_of_ble_eq_true rfl⟩ (fun r10 T9 => ?_)
              refine j_callI0 (pc := 83) C (rR_isSaid C dX10_seasonGoes_83 q_1019 (by omega) (Nat.le_of_ble_eq_true rfl) ⟨Nat.le_of_ble_eq_true rfl, Nat.le_of_ble_eq_true rfl⟩) ⟨Nat.le_of_ble_eq_true rfl, Nat.le_of_ble_eq_true rfl⟩ (fun r12 T11 => ?_)
              refine j_pop (pc := 86) C dX10_seasonGoes_86 rfl ?_
              refine j_sub [1, 2, 3, 4] rfl ?_
              exact bR_seasonGoes_87 C ih x2 x3 x4 T11
theorem bR_seasonGoes {E : Ec} {G : Gc}    (C : JC E (VR G 6 0 0 RX10) cX10_seasonGoes 8 none)    (x1 : Int32) (x2 : Int32) (x3 : Int32) (S : St) : J E (VR G 6 0 0 RX10) 0 0 0 [(0, .ref (gA G 0)), (1, .int x1), (2, .int x2), (3, .int x3)] [] S (fR_seasonGoes  x1 x2 x3 S) := by
  unfold fR_seasonGoes
  refine j_aload_n (pc := 0) 0 C dX10_seasonGoes_0 rfl rfl ?_
  refine j_callv0 (pc := 1) C (rR_take C dX10_seasonGoes_1 q_984 (by omega) (Nat.le_of_ble_eq_true rfl) ⟨Nat.le_of_ble_eq_true rfl, Nat.le_of_ble_eq_true rfl⟩) ⟨Nat.le_of_ble_eq_true rfl, Nat.le_of_ble_eq_true rfl⟩ (fun T1 => ?_)
  refine j_aload_n (pc := 4) 0 C dX10_seasonGoes_4 rfl rfl ?_
  refine j_iload_n (pc := 5) 1 C dX10_seasonGoes_5 rfl rfl ?_
  refine pR_0_50 (pc := 6) C dX10_seasonGoes_6 q_1255 ?_
  refine j_nxS (fun T3 => ?_)
  refine j_iconst (pc := 9) 0 C dX10_seasonGoes_9 (by decide) ?_
  refine j_istore (pc := 10) [(4, .int 0), (0, .ref (gA G 0)), (1, .int x1), (2, .int x2), (3, .int x3)] C dX10_seasonGoes_10 (Nat.le_of_ble_eq_true rfl) rfl ?_
  refine j_sub [1, 3, 4, 0] rfl ?_
  exact bR_seasonGoes_12 C  FU x2 x3 0 T3
theorem cR_seasonGoes {l : Launch} {G : Gc} (hfl : l.stackTraces = false) (hW : Wok G wR 26)   (x1 : Int32) (x2 : Int32) (x3 : Int32) (S : St) : Ct l yX10_seasonGoes (Cond.code yX10_seasonGoes cX10_seasonGoes 6 none :: tblG) 8 0 0 G wR 26 [.ref (gA G 0), .int x1, .int x2, .int x3] S (fR_seasonGoes x1 x2 x3 S) := ct_of (own := RX10) hfl (by decide +kernel) rfl hW (Nat.le_of_ble_eq_true rfl) (fun E hE C => by subst hE; exact bR_seasonGoes C   x1 x2 x3 S)
theorem rR_seasonGoes {E : Ec} {G : Gc} {nL mc ms : Nat} {own : String} {cc : ByteArray} {L : Nat} {ret : Option FieldType} {k n pc ix : Nat} {loc : List (Nat × Value)} {rest : List Value}  {x1 : Int32} {x2 : Int32} {x3 : Int32} {S : St}  (C : JC E (VR G nL mc ms own) cc L ret) (hd : decode cc pc = .ok (.invokevirtual ix, 3)) (hq : Cond.methodLink own ix yX10_seasonGoes ∈ tblG) (hL : 8 + 1 ≤ L) (hW : (rest.map fun v => v.category).sum ≤ 8) (hf : k + 0 ≤ mc ∧ n + 0 ≤ ms) : Rn E (VR G nL mc ms own) k n 0 0 pc loc (.int x3 :: .int x2 :: .int x1 :: .ref (gA G 0) :: rest) rest S (fR_seasonGoes x1 x2 x3 S) := rn_V (ci := 10) 0 (V := VR G nL mc ms own) (As := [.int x1, .int x2, .int x3]) (Cq := (RX10, TX10, 53)) (cR_seasonGoes C.flags C.wok  x1 x2 x3 S) knX10_seasonGoes ⟨q_1262, q_1263⟩ rfl rfl C hd hq hL rfl rfl hW hf

