/-! seasons by seeds (written by wip/whole/pure/p65.py) -/
section PO2
variable {SC SR S T U : St} {f u : Oz} {X : Nat → St → Oz} {b c x : Int32} {V : Vy} {A : Nat → Prop} {w : Rw} {L : Lw} {a p d k : Nat}
def sx (s : Int32) : Int32 := s * 1103515245 + 12345
def bN (s : Int32) : Nat := s.toBitVec.toNat / 2 ^ 16 % 2 ^ 15
theorem bN_lt (s : Int32) : bN s < 2 ^ 15 := Nat.mod_lt _ (by decide)
theorem bN_u (s : Int32) : ((s.toUInt32 >>> ((16 : Int32).toUInt32 &&& Int32.toUInt32 31)).toInt32) &&& 32767 = nI (bN s) := by
  rw [pk_and _ 15 (by decide), pk_ushr s 16 16 (by decide)]
  rfl
theorem bN_s (s : Int32) : (s >>> ((16 : Int32) &&& 31)) &&& 32767 = nI (bN s) := by
  rw [← bN_u]
  refine tb_ext (fun i hi => ?_)
  rw [tb_and, tb_and]
  by_cases h : i < 15
  · congr 1
    have e1 : (s >>> ((16 : Int32) &&& 31)).toBitVec.getLsbD i = s.toBitVec.getLsbD (16 + i) := by
      rw [Int32.toBitVec_shiftRight]
      show (s.toBitVec.sshiftRight ((((16 : Int32) &&& 31).toBitVec.smod 32).toNat)).getLsbD i = _
      rw [show (((16 : Int32) &&& 31).toBitVec.smod 32).toNat = 16 from by decide, BitVec.getLsbD_sshiftRight]
      have q1 : decide (32 ≤ i) = false := decide_eq_false (by omega)
      rw [q1, if_pos (by omega)]
      rfl
    have e2 : ((s.toUInt32 >>> ((16 : Int32).toUInt32 &&& Int32.toUInt32 31)).toInt32).toBitVec.getLsbD i = s.toBitVec.getLsbD (16 + i) := by
      rw [← BitVec.testBit_toNat, pk_ushr s 16 16 (by decide), ← BitVec.testBit_toNat, Nat.testBit_div_two_pow, Nat.add_comm]
    show (s >>> ((16 : Int32) &&& 31)).toBitVec.getLsbD i = ((s.toUInt32 >>> ((16 : Int32).toUInt32 &&& Int32.toUInt32 31)).toInt32).toBitVec.getLsbD i
    rw [e1, e2]
  · have q : ∀ j, j < 32 → ¬ j < 15 → tb 32767 j = false := by decide +kernel
    rw [q i hi h, Bool.and_false, Bool.and_false]
theorem e_draw {n : Nat} (hn : 0 < n) (hn2 : n ≤ 100) : fC_Outlook_draw (nI n) S = some (rI (nI (bN (sx (S.1 28)) % n)), sF S 28 (sx (S.1 28))) := by
  have h := bN_lt (sx (S.1 28))
  rw [fC_Outlook_draw, ev_nx, ev_nx, show (sF S 28 (S.1 28 * 1103515245 + 12345)).1 28 = sx (S.1 28) from rfl, bN_u, if_pos (by rw [show (0 : Int32) = nI 0 from rfl]; exact nI_lt hn (by omega)), gdT (pz_nz hn (by omega)), pk_rem (by omega) hn (by omega)]
  rfl
theorem r_draws {n : Nat} (hn : 0 < n) (hn2 : n ≤ 100) : fR_draws (nI n) S = some (rI (nI (bN (sx (S.1 26)) % n)), sF S 26 (sx (S.1 26))) := by
  have h := bN_lt (sx (S.1 26))
  rw [fR_draws, ev_nx, show (sF S 26 (S.1 26 * 1103515245 + 12345)).1 26 = sx (S.1 26) from rfl, bN_s, gdT (pz_nz hn (by omega)), pk_rem (by omega) hn (by omega)]
  rfl
/-- a week that is lived by a seed -/
def livA (V : Vy) (L : Lw) (z : Int32 × Rw) : Rw := w_teach V L z.2 (bN (sx z.1) % y_M V) (bN (sx (sx z.1)) % y_P V)
def liv (V : Vy) (L : Lw) (q : Nat) (z : Int32 × Rw) : Int32 × Rw := if q ≤ bN (sx (sx (sx z.1))) % 16 ∨ y_D V = 0 then (sx (sx (sx z.1)), livA V L z) else (sx (sx (sx (sx z.1))), w_say V (livA V L z) (bN (sx (sx (sx (sx z.1)))) % y_D V))
def sea (V : Vy) (L : Lw) (q : Nat) (z : Int32 × Rw) : Int32 × Rw := if y_M V = 0 ∨ y_P V = 0 then (z.1, w_week V z.2) else ((liv V L q z).1, w_week V (liv V L q z).2)
def seaN (V : Vy) (L : Lw) (q : Nat) (s : Int32) (w : Rw) : Nat → Int32 × Rw
  | 0 => (s, w)
  | n + 1 => sea V L q (seaN V L q s w n)
theorem w_say_t (V : Vy) (w : Rw) (d : Nat) : w_t (w_say V w d) = w_t w := by
  unfold w_say
  split
  · rfl
  · split <;> rfl
theorem liv_t (V : Vy) (L : Lw) (q : Nat) (z : Int32 × Rw) : w_t (liv V L q z).2 = w_t z.2 := by
  unfold liv
  split
  · exact w_teach_t _ _ _ _ _
  · exact (w_say_t _ _ _).trans (w_teach_t _ _ _ _ _)
theorem seaN_t (V : Vy) (L : Lw) (q : Nat) (s : Int32) (w : Rw) : ∀ n, w_t (seaN V L q s w n).2 = w_t w + n := by
  intro n
  induction n with
  | zero => rfl
  | succ n ih =>
    rw [seaN, sea]
    split
    · rw [w_week_t, ih]; omega
    · rw [w_week_t, liv_t, ih]; omega
theorem e_liveWeek (hA : ∀ a, A a) {q : Nat} (hq : q ≤ 16) {z : Int32 × Rw} (hv : CV V S) (hL : CLw L S) (h28 : S.1 28 = z.1) (hr : RC V A z.2 (S.2.1 52)) (hM : ¬ y_M V = 0) (hP : ¬ y_P V = 0) :
    ∃ T, fC_Outlook_liveWeek (nI q) S = some (rV, T) ∧ frm [28] [32, 33, 52] S T ∧ T.1 28 = (liv V L q z).1 ∧ RC V A (liv V L q z).2 (T.2.1 52) := by
  have b1 := hv.ok.1
  have b2 := hv.ok.2.1
  have b3 := hv.ok.2.2.1
  rw [fC_Outlook_liveWeek, hv.2.1, e_draw (by omega) (by omega), ev_I, h28]
  have g1 : frm [28] [32, 33, 52] S (sF S 28 (sx z.1)) := frm.rf.F (by simp)
  have q1 : (sF S 28 (sx z.1)).1 28 = sx z.1 := rfl
  have r1 : RC V A z.2 ((sF S 28 (sx z.1)).2.1 52) := hr
  generalize sF S 28 (sx z.1) = T1 at g1 q1 r1 ⊢
  have hv1 := hv.fr g1 (by decide) (by decide)
  rw [hv1.1, e_draw (by omega) (by omega), ev_I, q1]
  have g2 := g1.F (k := 28) (v := sx (sx z.1)) (by simp)
  have q2 : (sF T1 28 (sx (sx z.1))).1 28 = sx (sx z.1) := rfl
  have r2 : RC V A z.2 ((sF T1 28 (sx (sx z.1))).2.1 52) := r1
  generalize sF T1 28 (sx (sx z.1)) = T2 at g2 q2 r2 ⊢
  have hv2 := hv.fr g2 (by decide) (by decide)
  have hL2 := hL.fr g2 (by decide) (by decide)
  have m1 : bN (sx z.1) % y_M V < y_M V := Nat.mod_lt _ (by omega)
  have m2 : bN (sx (sx z.1)) % y_P V < y_P V := Nat.mod_lt _ (by omega)
  obtain ⟨T3, e3, g3, r3⟩ := e_teach_13 hv2 hL2 r2 (hA _) m1 m2
  have g23 := g2.tr (g3.wide (fs' := [28]) (as' := [32, 33, 52]) (by simp) (by simp))
  have q3 : T3.1 28 = sx (sx z.1) := (g3.1 28 (by simp)).trans q2
  rw [e3, ev_I, show (16 : Int32) = nI 16 from rfl, e_draw (by omega) (by omega), ev_I, q3]
  have g4 := g23.F (k := 28) (v := sx (sx (sx z.1))) (by simp)
  have q4 : (sF T3 28 (sx (sx (sx z.1)))).1 28 = sx (sx (sx z.1)) := rfl
  have r4 : RC V A (livA V L z) ((sF T3 28 (sx (sx (sx z.1)))).2.1 52) := r3
  generalize sF T3 28 (sx (sx (sx z.1))) = T4 at g4 q4 r4 ⊢
  have hv4 := hv.fr g4 (by decide) (by decide)
  have m3 : bN (sx (sx (sx z.1))) % 16 < 16 := Nat.mod_lt _ (by omega)
  rw [it_le (by omega) (by omega), liv]
  by_cases c1 : q ≤ bN (sx (sx (sx z.1))) % 16
  · rw [if_pos c1, if_pos (Or.inl c1)]
    exact ⟨T4, rfl, g4, q4, r4⟩
  · rw [if_neg c1, hv4.2.2.1, it_leL (by omega) (by omega)]
    by_cases c2 : y_D V ≤ 0
    · rw [if_pos c2, if_pos (Or.inr (by omega))]
      exact ⟨T4, rfl, g4, q4, r4⟩
    · rw [if_neg c2, if_neg (fun h => h.elim c1 (fun h => c2 (by omega))), e_draw (by omega) (by omega), ev_I, q4]
      have g5 := g4.F (k := 28) (v := sx (sx (sx (sx z.1)))) (by simp)
      have q5 : (sF T4 28 (sx (sx (sx (sx z.1))))).1 28 = sx (sx (sx (sx z.1))) := rfl
      have r5 : RC V A (livA V L z) ((sF T4 28 (sx (sx (sx (sx z.1))))).2.1 52) := r4
      generalize sF T4 28 (sx (sx (sx (sx z.1)))) = T5 at g5 q5 r5 ⊢
      have m4 : bN (sx (sx (sx (sx z.1)))) % y_D V < y_D V := Nat.mod_lt _ (by omega)
      obtain ⟨T6, e6, g6, r6⟩ := e_sayAlone_13 (hv.fr g5 (by decide) (by decide)) r5 m4 (hA _)
      rw [e6, ev_I]
      exact ⟨T6, rfl, g5.tr (g6.wide (by simp) (by simp)), (g6.1 28 (by simp)).trans q5, r6⟩
theorem e_afterSeason_19 (hA : ∀ a, A a) {q : Nat} (hq : q ≤ 16) (s : Int32) (ht : w_t w ≤ 400) {N : Nat} (hN : N ≤ 48) : ∀ k n i (S : St), i + k = N → k < n → CV V S → CLw L S → S.1 28 = (seaN V L q s w i).1 → RC V A (seaN V L q s w i).2 (S.2.1 52) →
    ∃ T, fC_Outlook_afterSeason_19 n (nI q) (nI N) (nI i) S = some (rR 13, T) ∧ frm [28] [32, 33, 52] S T ∧ RC V A (seaN V L q s w N).2 (T.2.1 52) := by
  intro k
  induction k with
  | zero =>
    intro n i S hi hn hv hL h28 hr
    obtain ⟨n, rfl⟩ := pz_fu hn
    have e : i = N := by omega
    rw [e] at hr
    rw [fC_Outlook_afterSeason_19, if_pos (nI_le (by omega) (by omega))]
    exact ⟨S, rfl, frm.rf, hr⟩
  | succ k ih =>
    intro n i S hi hn hv hL h28 hr
    have b1 := hv.ok.1
    have b2 := hv.ok.2.1
    obtain ⟨n, rfl⟩ := pz_fu hn
    have fin : ∀ (z : Int32 × Rw) (S1 : St), frm [28] [32, 33, 52] S S1 → S1.1 28 = z.1 → RC V A z.2 (S1.2.1 52) → w_t z.2 < 1000 → seaN V L q s w (i + 1) = (z.1, w_week V z.2) → ∃ T, fC_Outlook_afterSeason_50 (fun x2 x3 x4 S => fC_Outlook_afterSeason_19 n x2 x3 x4 S) (nI q) (nI N) (nI i) S1 = some (rR 13, T) ∧ frm [28] [32, 33, 52] S T ∧ RC V A (seaN V L q s w N).2 (T.2.1 52) := by
      intro z S1 g1 h1 r1 t1 hz
      have hv1 := hv.fr g1 (by decide) (by decide)
      obtain ⟨T2, e2, g2, r2⟩ := e_endWeek_13 (x := 0) (y := y_M V) hv1 r1 t1 (fun a _ _ => hA a) (fun a _ h => ⟨Nat.zero_le _, h⟩) (Nat.zero_le _) (Nat.le_refl _)
      have g12 := g1.tr (g2.wide (fs' := [28]) (as' := [32, 33, 52]) (by simp) (by simp))
      obtain ⟨T, e, g, r⟩ := ih n (i + 1) T2 (by omega) (by omega) (hv.fr g12 (by decide) (by decide)) (hL.fr g12 (by decide) (by decide)) (by rw [hz]; exact (g2.1 28 (by simp)).trans h1) (by rw [hz]; exact r2)
      refine ⟨T, ?_, g12.tr g, r⟩
      rw [fC_Outlook_afterSeason_50, hv1.2.1, show (0 : Int32) = nI 0 from rfl, e2, ev_V, nI_1, e]
    rw [fC_Outlook_afterSeason_19, if_neg (nI_ge (by omega) (by omega)), hv.2.1, hv.1, it_leL (by omega) (by omega), it_leL (by omega) (by omega)]
    by_cases c1 : y_M V ≤ 0
    · rw [if_pos c1]
      exact fin (seaN V L q s w i) S frm.rf h28 hr (by rw [seaN_t]; omega) (by rw [seaN, sea, if_pos (Or.inl (by omega))])
    · rw [if_neg c1]
      by_cases c2 : y_P V ≤ 0
      · rw [if_pos c2]
        exact fin (seaN V L q s w i) S frm.rf h28 hr (by rw [seaN_t]; omega) (by rw [seaN, sea, if_pos (Or.inr (by omega))])
      · obtain ⟨T1, e1, g1, h1, r1⟩ := e_liveWeek hA hq hv hL h28 hr (by omega) (by omega)
        rw [if_neg c2, e1, ev_V]
        exact fin (liv V L q (seaN V L q s w i)) T1 g1 h1 r1 (by rw [liv_t, seaN_t]; omega) (by rw [seaN, sea, if_neg (fun h => h.elim (fun h => c1 (by omega)) (fun h => c2 (by omega)))])
theorem e_afterSeason (hv : CV V S) (hL : CLw L S) (hr : RC V A w (S.2.1 46)) (hA : ∀ a, A a) {q : Nat} (hq : q ≤ 16) (s : Int32) (ht : w_t w ≤ 400) {N : Nat} (hN : N ≤ 48) :
    ∃ T, fC_Outlook_afterSeason s (nI q) (nI N) S = some (rR 13, T) ∧ frm [28] [32, 33, 52] S T ∧ RC V A (seaN V L q s w N).2 (T.2.1 52) := by
  obtain ⟨T1, e1, g1, r1⟩ := e_copy13 hv.ok hr
  have g2 := (g1.wide (fs' := [28]) (as' := [32, 33, 52]) (by simp) (by simp)).F (k := 28) (v := s) (by simp)
  obtain ⟨T, e, g, r⟩ := e_afterSeason_19 hA hq s ht hN N FU 0 (sF T1 28 s) (by omega) (by rw [pz_FU]; omega) (hv.fr g2 (by decide) (by decide)) (hL.fr g2 (by decide) (by decide)) rfl r1
  refine ⟨T, ?_, g2.tr g, r⟩
  rw [fC_Outlook_afterSeason, e1, ev_V, ev_nx]
  exact e
theorem r_seasonGoes_12 (hA : ∀ a, A a) {q : Nat} (hq : q ≤ 16) (s : Int32) (ht : w_t w ≤ 400) {N : Nat} (hN : N ≤ 48) : ∀ k n i (S : St), i + k = N → k < n → RV V S → RLw L S → S.1 26 = (seaN V L q s w i).1 → RR V A (seaN V L q s w i).2 (S.2.1 18) →
    ∃ T, fR_seasonGoes_12 n (nI q) (nI N) (nI i) S = some (rV, T) ∧ frm [26] [13, 14, 18] S T ∧ RR V A (seaN V L q s w N).2 (T.2.1 18) := by
  intro k
  induction k with
  | zero =>
    intro n i S hi hn hv hL h26 hr
    obtain ⟨n, rfl⟩ := pz_fu hn
    have e : i = N := by omega
    rw [e] at hr
    rw [fR_seasonGoes_12, if_pos (nI_le (by omega) (by omega))]
    exact ⟨S, rfl, frm.rf, hr⟩
  | succ k ih =>
    intro n i S hi hn hv hL h26 hr
    have b1 := hv.ok.1
    have b2 := hv.ok.2.1
    have b3 := hv.ok.2.2.1
    obtain ⟨n, rfl⟩ := pz_fu hn
    have fin : ∀ (z : Int32 × Rw) (S1 : St), frm [26] [13, 14, 18] S S1 → S1.1 26 = z.1 → RR V A z.2 (S1.2.1 18) → w_t z.2 < 1000 → seaN V L q s w (i + 1) = (z.1, w_week V z.2) → ∃ T, fR_seasonGoes_87 (fun x2 x3 x4 S => fR_seasonGoes_12 n x2 x3 x4 S) (nI q) (nI N) (nI i) S1 = some (rV, T) ∧ frm [26] [13, 14, 18] S T ∧ RR V A (seaN V L q s w N).2 (T.2.1 18) := by
      intro z S1 g1 h1 r1 t1 hz
      have hv1 := hv.fr g1 (by decide) (by decide)
      obtain ⟨T2, e2, g2, r2⟩ := r_passes hv1 r1 t1 hA
      have g12 := g1.tr (g2.wide (fs' := [26]) (as' := [13, 14, 18]) (by simp) (by simp))
      obtain ⟨T, e, g, r⟩ := ih n (i + 1) T2 (by omega) (by omega) (hv.fr g12 (by decide) (by decide)) (hL.fr g12 (by decide) (by decide)) (by rw [hz]; exact (g2.1 26 (by simp)).trans h1) (by rw [hz]; exact r2)
      refine ⟨T, ?_, g12.tr g, r⟩
      rw [fR_seasonGoes_87, e2, ev_V, nI_1, e]
    rw [fR_seasonGoes_12, if_neg (nI_ge (by omega) (by omega)), hv.2.1, hv.1, it_leL (by omega) (by omega), it_leL (by omega) (by omega)]
    by_cases c1 : y_M V ≤ 0
    · rw [if_pos c1]
      exact fin (seaN V L q s w i) S frm.rf h26 hr (by rw [seaN_t]; omega) (by rw [seaN, sea, if_pos (Or.inl (by omega))])
    · rw [if_neg c1]
      by_cases c2 : y_P V ≤ 0
      · rw [if_pos c2]
        exact fin (seaN V L q s w i) S frm.rf h26 hr (by rw [seaN_t]; omega) (by rw [seaN, sea, if_pos (Or.inr (by omega))])
      · have hz : seaN V L q s w (i + 1) = ((liv V L q (seaN V L q s w i)).1, w_week V (liv V L q (seaN V L q s w i)).2) := by rw [seaN, sea, if_neg (fun h => h.elim (fun h => c1 (by omega)) (fun h => c2 (by omega)))]
        have tz : w_t (liv V L q (seaN V L q s w i)).2 < 1000 := by rw [liv_t, seaN_t]; omega
        generalize seaN V L q s w i = z at h26 hr hz tz
        rw [if_neg c2, r_draws (by omega) (by omega), ev_I, h26]
        have g1 : frm [26] [13, 14, 18] S (sF S 26 (sx z.1)) := frm.rf.F (by simp)
        have q1 : (sF S 26 (sx z.1)).1 26 = sx z.1 := rfl
        have r1 : RR V A z.2 ((sF S 26 (sx z.1)).2.1 18) := hr
        generalize sF S 26 (sx z.1) = T1 at g1 q1 r1 ⊢
        have hv1 := hv.fr g1 (by decide) (by decide)
        rw [hv1.1, r_draws (by omega) (by omega), ev_I, q1]
        have g2 := g1.F (k := 26) (v := sx (sx z.1)) (by simp)
        have q2 : (sF T1 26 (sx (sx z.1))).1 26 = sx (sx z.1) := rfl
        have r2 : RR V A z.2 ((sF T1 26 (sx (sx z.1))).2.1 18) := r1
        generalize sF T1 26 (sx (sx z.1)) = T2 at g2 q2 r2 ⊢
        have hv2 := hv.fr g2 (by decide) (by decide)
        have hL2 := hL.fr g2 (by decide) (by decide)
        have m1 : bN (sx z.1) % y_M V < y_M V := Nat.mod_lt _ (by omega)
        have m2 : bN (sx (sx z.1)) % y_P V < y_P V := Nat.mod_lt _ (by omega)
        obtain ⟨T3, e3, g3, r3⟩ := r_isTaught hv2 hL2 r2 (hA _) m1 m2
        have g23 := g2.tr (g3.wide (fs' := [26]) (as' := [13, 14, 18]) (by simp) (by simp))
        have q3 : T3.1 26 = sx (sx z.1) := (g3.1 26 (by simp)).trans q2
        rw [e3, ev_I, show (16 : Int32) = nI 16 from rfl, r_draws (by omega) (by omega), ev_I, q3]
        have g4 := g23.F (k := 26) (v := sx (sx (sx z.1))) (by simp)
        have q4 : (sF T3 26 (sx (sx (sx z.1)))).1 26 = sx (sx (sx z.1)) := rfl
        have r4 : RR V A (livA V L z) ((sF T3 26 (sx (sx (sx z.1)))).2.1 18) := r3
        generalize sF T3 26 (sx (sx (sx z.1))) = T4 at g4 q4 r4 ⊢
        have hv4 := hv.fr g4 (by decide) (by decide)
        have m3 : bN (sx (sx (sx z.1))) % 16 < 16 := Nat.mod_lt _ (by omega)
        rw [it_le (by omega) (by omega)]
        by_cases c3 : q ≤ bN (sx (sx (sx z.1))) % 16
        · rw [if_pos c3]
          refine fin (liv V L q z) T4 g4 ?_ ?_ tz hz
          · rw [liv, if_pos (Or.inl c3)]; exact q4
          · rw [liv, if_pos (Or.inl c3)]; exact r4
        · rw [if_neg c3, hv4.2.2.1, it_leL (by omega) (by omega)]
          by_cases c4 : y_D V ≤ 0
          · rw [if_pos c4]
            refine fin (liv V L q z) T4 g4 ?_ ?_ tz hz
            · rw [liv, if_pos (Or.inr (by omega))]; exact q4
            · rw [liv, if_pos (Or.inr (by omega))]; exact r4
          · rw [if_neg c4, r_draws (by omega) (by omega), ev_I, q4]
            have g5 := g4.F (k := 26) (v := sx (sx (sx (sx z.1)))) (by simp)
            have q5 : (sF T4 26 (sx (sx (sx (sx z.1))))).1 26 = sx (sx (sx (sx z.1))) := rfl
            have r5 : RR V A (livA V L z) ((sF T4 26 (sx (sx (sx (sx z.1))))).2.1 18) := r4
            generalize sF T4 26 (sx (sx (sx (sx z.1)))) = T5 at g5 q5 r5 ⊢
            have m4 : bN (sx (sx (sx (sx z.1)))) % y_D V < y_D V := Nat.mod_lt _ (by omega)
            obtain ⟨T6, e6, g6, r6⟩ := r_isSaid (hv.fr g5 (by decide) (by decide)) r5 m4 (hA _)
            rw [e6, ev_I]
            have cn : ¬ (q ≤ bN (sx (sx (sx z.1))) % 16 ∨ y_D V = 0) := fun h => h.elim c3 (fun h => c4 (by omega))
            refine fin (liv V L q z) T6 (g5.tr (g6.wide (by simp) (by simp))) ?_ ?_ tz hz
            · rw [liv, if_neg cn]; exact (g6.1 26 (by simp)).trans q5
            · rw [liv, if_neg cn]; exact r6
theorem r_seasonGoes (hv : RV V S) (hL : RLw L S) (hr : RR V A w (S.2.1 17)) (hA : ∀ a, A a) {q : Nat} (hq : q ≤ 16) (s : Int32) (ht : w_t w ≤ 400) {N : Nat} (hN : N ≤ 48) :
    ∃ T, fR_seasonGoes s (nI q) (nI N) S = some (rV, T) ∧ frm [26] [13, 14, 18] S T ∧ RR V A (seaN V L q s w N).2 (T.2.1 18) := by
  obtain ⟨T1, e1, g1, r1⟩ := r_take hv.ok hr
  have g2 := (g1.wide (fs' := [26]) (as' := [13, 14, 18]) (by simp) (by simp)).F (k := 26) (v := s) (by simp)
  obtain ⟨T, e, g, r⟩ := r_seasonGoes_12 hA hq s ht hN N FU 0 (sF T1 26 s) (by omega) (by rw [pz_FU]; omega) (hv.fr g2 (by decide) (by decide)) (hL.fr g2 (by decide) (by decide)) rfl r1
  refine ⟨T, ?_, g2.tr g, r⟩
  rw [fR_seasonGoes, e1, ev_V, ev_nx]
  exact e
theorem smI_sub (f g : Nat → Int32) : ∀ n, smI f n - smI g n = smI (fun i => f i - g i) n := by
  intro n
  induction n with
  | zero => exact Int32.sub_zero 0
  | succ n ih =>
    rw [smI, smI, smI, ← ih]
    simp only [Int32.sub_eq_add_neg, Int32.neg_add]
    ac_rfl
theorem r_season_96 {o M : Nat} {f g : Nat → Int32} (hM : S.1 13 = nI M) (ho : o + M ≤ 95) (hf : ∀ j, j < M → S.2.1 18 (o + j) = f j) (hg : ∀ j, j < M → S.2.1 17 (o + j) = g j) : ∀ k n i, i + k = M → k < n → fR_season_96 n (nI o) (smI (fun j => f j - g j) i) (nI i) S = some (rI (smI (fun j => f j - g j) M), S) := by
  intro k
  induction k with
  | zero =>
    intro n i hi hn
    obtain ⟨n, rfl⟩ := pz_fu hn
    have e : i = M := by omega
    rw [fR_season_96, hM, if_pos (nI_le (by omega) (by omega)), e]
  | succ k ih =>
    intro n i hi hn
    obtain ⟨n, rfl⟩ := pz_fu hn
    rw [fR_season_96, hM, if_neg (nI_ge (by omega) (by omega)), nI_add, pz_gib (by omega) (by omega), pz_gib (by omega) (by omega), pz_rA (by omega), pz_rA (by omega), hf i (by omega), hg i (by omega), ev_nx, nI_1 i]
    exact ih n (i + 1) (by omega) (by omega)
theorem r_isSeason (x y : Int32) (S : St) : fR_isSeason x y S = some (rI (if wi x 0 16 && wi y 1 48 then 1 else 0), S) := by
  rw [fR_isSeason, wi_eq x 0 16, wi_eq y 1 48]
  cases wi x 0 16 <;> cases wi y 1 48 <;> rfl
theorem r_isSeasonT {x y : Int32} (h1 : wi x 0 16 = true) (h2 : wi y 1 48 = true) : fR_isSeason x y S = some (rI 1, S) := by rw [r_isSeason, h1, h2]; rfl
theorem r_isSeasonF {x y : Int32} (h : wi x 0 16 = false ∨ wi y 1 48 = false) : fR_isSeason x y S = some (rI 0, S) := by
  rw [r_isSeason]
  rcases h with h | h
  · rw [h]; rfl
  · rw [h, Bool.and_false]; rfl
theorem po_season : PO_season Rel := by
  intro SC SR hR x y z t
  show Po (fC_Main_season x y z t SC) (fR_season x y z t SR) (fun j T => if j = 1 then some (rI 1, T) else none)
  have hR' := hR
  obtain ⟨m, hC, hM, hB⟩ := hR'
  obtain ⟨g0, h0, hv0, hL0, hr0⟩ := begR hM
  obtain ⟨T, eT, gT, hT0, hvT, hLT, hrT, hT17, hTf⟩ := begT hM
  have hv := hC.1
  have hL := hC.2.1
  have hr := hC.2.2.1.1
  have b1 := hv.ok.1
  have b2 := hv.ok.2.1
  have b3 := hv.ok.2.2.1
  have ht := hC.2.2.1.2
  have bad : fC_Main_season x y z t SC = fC_Main_season_36 x y z t 0 SC → fR_season x y z t SR = fR_season_29 x y z t 0 (sF SR 0 0) → Po (fC_Main_season x y z t SC) (fR_season x y z t SR) (fun j T => if j = 1 then some (rI 1, T) else none) := fun q1 q2 => by
    refine po_ill1 (c := 1) hR ?_ ?_ (fun _ => rfl) (by decide)
    · rw [q1, fC_Main_season_36, c_need0, ev_Vx]
    · rw [q2, fR_season_29, show fR_may 0 1 1 (sF SR 0 0) = _ from r_may0 1 (k := 1) (by omega) h0 (by decide), ev_I]
      rfl
  cases hy : wi y 0 16
  · exact bad (by rw [fC_Main_season, c_withinF hy, ev_I]; rfl) (by rw [fR_season, ev_nx, r_isSeasonF (Or.inl hy), ev_I]; rfl)
  · cases hz : wi z 1 48
    · exact bad (by rw [fC_Main_season, c_withinT hy, ev_I, if_neg (by decide), c_withinF hz, ev_I]; rfl) (by rw [fR_season, ev_nx, r_isSeasonF (Or.inr hz), ev_I]; rfl)
    · cases hw : wi t 0 3
      · exact bad (by rw [fC_Main_season, c_withinT hy, ev_I, if_neg (by decide), c_withinT hz, ev_I, if_neg (by decide), c_withinF hw, ev_I]; rfl) (by rw [fR_season, ev_nx, r_isSeasonT hy hz, ev_I, if_neg (by decide), r_withinF hw, ev_I]; rfl)
      · obtain ⟨Q, -, hQ, rfl⟩ := wi_nI (lo := 0) (hi := 16) (by omega) (by omega) hy
        obtain ⟨N, -, hN, rfl⟩ := wi_nI (lo := 1) (hi := 48) (by omega) (by omega) hz
        obtain ⟨k, -, hk, rfl⟩ := wi_nI (lo := 0) (hi := 3) (by omega) (by omega) hw
        obtain ⟨T1, e1, g1, r1⟩ := e_afterSeason hv hL hr al_all hQ x ht hN
        obtain ⟨T2, e2, g2, r2⟩ := r_seasonGoes hv0 hL0 hr0 al_all hQ x ht hN
        have hv1 := hv.fr g1 (by decide) (by decide)
        have hv2 := hv0.fr g2 (by decide) (by decide)
        have hr1 : RC m.1 al m.2.2.1 (T1.2.1 46) := by rw [g1.2.1 46 (by decide)]; exact hr
        have hr2 : RR m.1 al m.2.2.1 (T2.2.1 17) := by rw [g2.2.1 17 (by decide)]; exact hr0
        have G1 : frx cF cA SC T1 := g1.x (by simp) (by simp)
        have G2 : frx rF rA' SR T2 := g0.tr (g2.x (by simp) (by simp))
        have H0 : T2.1 0 = 0 := (g2.1 0 (by simp)).trans h0
        match k, hk with
        | 0, _ =>
          refine po_ok (b := orB (w_p (seaN m.1 m.2.1 Q x m.2.2.1 N).2) (y_D m.1)) (T := T1) (U := T2) hR ?_ G1 ?_ G2 H0
          · rw [fC_Main_season, c_withinT hy, ev_I, if_neg (by decide), c_withinT hz, ev_I, if_neg (by decide), c_withinT hw, ev_I, if_neg (by decide), fC_Main_season_36, c_need1, ev_V, e1, ev_R]
            simp (config := {decide := true}) only [↓reduceIte]
            rw [show fC_State_paidBits_13 T1 = some (rI (orB (w_p (seaN m.1 m.2.1 Q x m.2.2.1 N).2) (y_D m.1)), T1) from by rw [fC_State_paidBits_13, show (72 : Int32) = nI 72 from rfl, pz_rA (by omega), r1.2.2.1], ev_I]
          · rw [fR_season, ev_nx, r_isSeasonT hy hz, ev_I, if_neg (by decide), r_withinT hw, ev_I, if_neg (by decide), fR_season_29, r_may1 _ _ h0, ev_I, if_neg (by decide), e2, ev_V]
            simp (config := {decide := true}) only [↓reduceIte]
            rw [r_bitsP hv2 r2, ev_I]
        | 1, _ =>
          refine po_ok (b := nI (w_every m.1 (seaN m.1 m.2.1 Q x m.2.2.1 N).2)) (T := T1) (U := T2) hR ?_ G1 ?_ G2 H0
          · rw [fC_Main_season, c_withinT hy, ev_I, if_neg (by decide), c_withinT hz, ev_I, if_neg (by decide), c_withinT hw, ev_I, if_neg (by decide), fC_Main_season_36, c_need1, ev_V, e1, ev_R]
            simp (config := {decide := true}) only [↓reduceIte]
            rw [e_everyLine_13 hv1 r1 al_all, ev_I]
          · rw [fR_season, ev_nx, r_isSeasonT hy hz, ev_I, if_neg (by decide), r_withinT hw, ev_I, if_neg (by decide), fR_season_29, r_may1 _ _ h0, ev_I, if_neg (by decide), e2, ev_V]
            simp (config := {decide := true}) only [↓reduceIte]
            rw [r_allLines hv2 r2 al_all, ev_I]
        | 2, _ =>
          refine po_ok (b := smI (fun j => w_c (seaN m.1 m.2.1 Q x m.2.2.1 N).2 2 j - w_c m.2.2.1 2 j) (y_M m.1)) (T := T1) (U := T2) hR ?_ G1 ?_ G2 H0
          · rw [fC_Main_season, c_withinT hy, ev_I, if_neg (by decide), c_withinT hz, ev_I, if_neg (by decide), c_withinT hw, ev_I, if_neg (by decide), fC_Main_season_36, c_need1, ev_V, e1, ev_R]
            simp (config := {decide := true}) only [↓reduceIte]
            rw [e_allSlips_13 hv1 r1 al_all, ev_I, e_allSlips_9 hv1 hr1 al_all, ev_I, smI_sub]
          · rw [fR_season, ev_nx, r_isSeasonT hy hz, ev_I, if_neg (by decide), r_withinT hw, ev_I, if_neg (by decide), fR_season_29, r_may1 _ _ h0, ev_I, if_neg (by decide), e2, ev_V]
            simp (config := {decide := true}) only [↓reduceIte]
            exact r_season_96 (o := 72) hv2.2.1 (by omega) (fun j hj => (r2.2.1 j trivial hj).2.2.2.2.1) (fun j hj => (hr2.2.1 j trivial hj).2.2.2.2.1) (y_M m.1) FU 0 (by omega) (by rw [pz_FU]; omega)
        | 3, _ =>
          refine po_ok (b := smI (fun j => w_c (seaN m.1 m.2.1 Q x m.2.2.1 N).2 0 j - w_c m.2.2.1 0 j) (y_M m.1)) (T := T1) (U := T2) hR ?_ G1 ?_ G2 H0
          · rw [fC_Main_season, c_withinT hy, ev_I, if_neg (by decide), c_withinT hz, ev_I, if_neg (by decide), c_withinT hw, ev_I, if_neg (by decide), fC_Main_season_36, c_need1, ev_V, e1, ev_R]
            simp (config := {decide := true}) only [↓reduceIte]
            rw [e_allLessons_13 hv1 r1 al_all, ev_I, e_allLessons_9 hv1 hr1 al_all, ev_I, smI_sub]
          · rw [fR_season, ev_nx, r_isSeasonT hy hz, ev_I, if_neg (by decide), r_withinT hw, ev_I, if_neg (by decide), fR_season_29, r_may1 _ _ h0, ev_I, if_neg (by decide), e2, ev_V]
            simp (config := {decide := true}) only [↓reduceIte]
            exact r_season_96 (o := 60) hv2.2.1 (by omega) (fun j hj => (r2.2.1 j trivial hj).2.2.1) (fun j hj => (hr2.2.1 j trivial hj).2.2.1) (y_M m.1) FU 0 (by omega) (by rw [pz_FU]; omega)
/-- of many seeds -/
def spE (V : Vy) (L : Lw) (w : Rw) (s : Int32) (q N i : Nat) : Nat := w_every V (seaN V L q (s + nI i) w N).2
def spF (V : Vy) (L : Lw) (w : Rw) (s : Int32) (q N : Nat) : Nat → Nat
  | 0 => 0
  | i + 1 => if i = 0 then spE V L w s q N 0 else min (spF V L w s q N i) (spE V L w s q N i)
def spM (V : Vy) (L : Lw) (w : Rw) (s : Int32) (q N : Nat) : Nat → Nat
  | 0 => 0
  | i + 1 => max (spM V L w s q N i) (spE V L w s q N i)
def spP (V : Vy) (L : Lw) (w : Rw) (s : Int32) (q N d : Nat) : Nat → Int32
  | 0 => 0
  | i + 1 => spP V L w s q N d i + (if w_p (seaN V L q (s + nI i) w N).2 d then 1 else 0)
theorem w_every_le (hV : VOK V) (hk : ROK V w) : w_every V w ≤ 2000 := by
  have h := smN_le (f := w_sum V w) (b := 320) (y_M V) (fun i hi => w_sum_le hV hk hi)
  have h2 := hV.2.1
  have h3 : y_M V * 320 ≤ 6 * 320 := Nat.mul_le_mul_right _ h2
  unfold w_every
  omega
theorem spF_le (hb : ∀ i, spE V L w c p d i ≤ 2000) : ∀ i, spF V L w c p d i ≤ 2000 := by
  intro i
  cases i with
  | zero => exact Nat.zero_le _
  | succ i =>
    rw [spF]
    split
    · exact hb 0
    · exact Nat.le_trans (Nat.min_le_right _ _) (hb i)
theorem spM_le (hb : ∀ i, spE V L w c p d i ≤ 2000) : ∀ i, spM V L w c p d i ≤ 2000 := by
  intro i
  induction i with
  | zero => exact Nat.zero_le _
  | succ i ih =>
    rw [spM]
    exact Nat.max_le.mpr ⟨ih, hb i⟩
def spV (V : Vy) (L : Lw) (w : Rw) (s : Int32) (q N d M : Nat) (x5 : Int32) : Int32 := if x5 = 0 then nI (spF V L w s q N M) else if x5 = 1 then nI (spM V L w s q N M) else spP V L w s q N d M
theorem e_span_91 (hA : ∀ a, A a) {q : Nat} (hq : q ≤ 16) (s : Int32) (ht : w_t w ≤ 400) {N : Nat} (hN : N ≤ 48) {M : Nat} (hM : M ≤ 10) (hM1 : 1 ≤ M) (x5 : Int32) (hd : d < y_D V) : ∀ k n i (S : St), i + k = M → k < n → CV V S → CLw L S → RC V A w (S.2.1 46) → (∀ j, j < i → spE V L w s q N j ≤ 2000) → spF V L w s q N i ≤ 2000 → spM V L w s q N i ≤ 2000 →
    ∃ T, fC_Main_span_91 n s (nI M) (nI q) (nI N) x5 (nI d) (if i = 0 then 2147483647 else nI (spF V L w s q N i)) (nI (spM V L w s q N i)) (spP V L w s q N d i) (nI i) S = some (rI (spV V L w s q N d M x5), T) ∧ frm [28] [32, 33, 52] S T := by
  intro k
  induction k with
  | zero =>
    intro n i S hi hn hv hL hr hb hF hX
    obtain ⟨n, rfl⟩ := pz_fu hn
    have e : i = M := by omega
    rw [fC_Main_span_91, if_pos (nI_le (by omega) (by omega)), e, if_neg (show ¬ M = 0 by omega), spV]
    refine ⟨S, ?_, frm.rf⟩
    by_cases q0 : x5 = 0
    · rw [if_pos q0, if_pos q0]
    · rw [if_neg q0, if_neg q0]
      by_cases q1 : x5 = 1
      · rw [if_pos q1, if_pos q1]
      · rw [if_neg q1, if_neg q1]
  | succ k ih =>
    intro n i S hi hn hv hL hr hb hF hX
    obtain ⟨n, rfl⟩ := pz_fu hn
    obtain ⟨T1, e1, g1, r1⟩ := e_afterSeason hv hL hr hA hq (s + nI i) ht hN
    have hv1 := hv.fr g1 (by decide) (by decide)
    have hE : spE V L w s q N i ≤ 2000 := w_every_le hv.ok r1.ok
    have hF2 : spF V L w s q N (i + 1) ≤ 2000 := by
      rw [spF]
      split
      · next h => rw [← h]; exact hE
      · exact Nat.le_trans (Nat.min_le_right _ _) hE
    have hX2 : spM V L w s q N (i + 1) ≤ 2000 := by rw [spM]; exact Nat.max_le.mpr ⟨hX, hE⟩
    obtain ⟨T, e, g⟩ := ih n (i + 1) T1 (by omega) (by omega) hv1 (hL.fr g1 (by decide) (by decide)) (by rw [g1.2.1 46 (by decide)]; exact hr) (fun j hj => by
      by_cases h : j = i
      · rw [h]; exact hE
      · exact hb j (by omega)) hF2 hX2
    refine ⟨T, ?_, g1.tr g⟩
    have f1 : (if nI (spE V L w s q N i) < (if i = 0 then 2147483647 else nI (spF V L w s q N i)) then nI (spE V L w s q N i) else (if i = 0 then 2147483647 else nI (spF V L w s q N i))) = nI (spF V L w s q N (i + 1)) := by
      by_cases h : i = 0
      · subst h
        rw [if_pos rfl, spF, if_pos rfl, if_pos (by rw [show (2147483647 : Int32) = nI 2147483647 from rfl]; exact nI_lt (by omega) (by omega))]
      · rw [if_neg h, spF, if_neg h]
        by_cases h2 : spE V L w s q N i < spF V L w s q N i
        · rw [if_pos (nI_lt h2 (by omega)), Nat.min_eq_right (by omega)]
        · rw [if_neg (nI_nlt (by omega) (by omega)), Nat.min_eq_left (by omega)]
    have f2 : (if nI (spM V L w s q N i) < nI (spE V L w s q N i) then nI (spE V L w s q N i) else nI (spM V L w s q N i)) = nI (spM V L w s q N (i + 1)) := by
      rw [spM]
      by_cases h2 : spM V L w s q N i < spE V L w s q N i
      · rw [if_pos (nI_lt h2 (by omega)), Nat.max_eq_right (by omega)]
      · rw [if_neg (nI_nlt (by omega) (by omega)), Nat.max_eq_left (by omega)]
    rw [fC_Main_span_91, if_neg (nI_ge (by omega) (by omega)), e1, ev_R, e_everyLine_13 hv1 r1 hA, ev_I, show w_every V (seaN V L q (s + nI i) w N).2 = spE V L w s q N i from rfl, f1, f2, ev_nx, ev_nx, e_isPaid_13 hv1 r1 hd, ev_I, it_b0, nI_1 i, ← e, if_neg (show ¬ i + 1 = 0 by omega), spP]
    cases w_p (seaN V L q (s + nI i) w N).2 d
    · rw [if_neg pz_ft, if_neg pz_ft, ev_nx]
    · rw [if_pos rfl, if_pos rfl, ev_nx]
theorem r_span_77 (hA : ∀ a, A a) {q : Nat} (hq : q ≤ 16) (s : Int32) (ht : w_t w ≤ 400) {N : Nat} (hN : N ≤ 48) {M : Nat} (hM : M ≤ 10) (hM1 : 1 ≤ M) (x5 : Int32) (hd : d < y_D V) : ∀ k n i (S : St), i + k = M → k < n → RV V S → RLw L S → RR V A w (S.2.1 17) → spF V L w s q N i ≤ 2000 → spM V L w s q N i ≤ 2000 →
    ∃ T, fR_span_77 n s (nI M) (nI q) (nI N) x5 (nI d) (if i = 0 then -1 else nI (spF V L w s q N i)) (nI (spM V L w s q N i)) (spP V L w s q N d i) (nI i) S = some (rI (spV V L w s q N d M x5), T) ∧ frm [26] [13, 14, 18] S T := by
  intro k
  induction k with
  | zero =>
    intro n i S hi hn hv hL hr hF hX
    obtain ⟨n, rfl⟩ := pz_fu hn
    have e : i = M := by omega
    rw [fR_span_77, if_pos (nI_le (by omega) (by omega)), e, if_neg (show ¬ M = 0 by omega), spV]
    refine ⟨S, ?_, frm.rf⟩
    by_cases q0 : x5 = 0
    · rw [if_pos q0, if_pos q0]
    · rw [if_neg q0, if_neg q0]
      by_cases q1 : x5 = 1
      · rw [if_pos q1, if_pos q1]
      · rw [if_neg q1, if_neg q1]
  | succ k ih =>
    intro n i S hi hn hv hL hr hF hX
    have b3 := hv.ok.2.2.1
    obtain ⟨n, rfl⟩ := pz_fu hn
    obtain ⟨T1, e1, g1, r1⟩ := r_seasonGoes hv hL hr hA hq (s + nI i) ht hN
    have hv1 := hv.fr g1 (by decide) (by decide)
    have hE : spE V L w s q N i ≤ 2000 := w_every_le hv.ok r1.ok
    have hF2 : spF V L w s q N (i + 1) ≤ 2000 := by
      rw [spF]
      split
      · next h => rw [← h]; exact hE
      · exact Nat.le_trans (Nat.min_le_right _ _) hE
    have hX2 : spM V L w s q N (i + 1) ≤ 2000 := by rw [spM]; exact Nat.max_le.mpr ⟨hX, hE⟩
    obtain ⟨T, e, g⟩ := ih n (i + 1) T1 (by omega) (by omega) hv1 (hL.fr g1 (by decide) (by decide)) (by rw [g1.2.1 17 (by decide)]; exact hr) hF2 hX2
    refine ⟨T, ?_, g1.tr g⟩
    have k1 : ∀ y : Int32, fR_span_136 (fun x1 x2 x3 x4 x5 x6 x7 x8 x9 x10 S => fR_span_77 n x1 x2 x3 x4 x5 x6 x7 x8 x9 x10 S) s (nI M) (nI q) (nI N) x5 (nI d) y (spP V L w s q N d i) (nI i) (nI (spM V L w s q N (i + 1))) T1 = fR_span_77 n s (nI M) (nI q) (nI N) x5 (nI d) y (nI (spM V L w s q N (i + 1))) (spP V L w s q N d (i + 1)) (nI (i + 1)) T1 := fun y => by
      rw [fR_span_136, show (84 : Int32) + nI d = nI (84 + d) from nI_add 84 d, pz_gib (by omega) (by omega), pz_rA (by omega), r1.2.2.1 d hd, ev_nx, nI_1 i]
      rfl
    have k2 : ∀ y : Int32, fR_span_120 (fun x1 x2 x3 x4 x5 x6 x7 x8 x9 x10 S => fR_span_77 n x1 x2 x3 x4 x5 x6 x7 x8 x9 x10 S) s (nI M) (nI q) (nI N) x5 (nI d) (nI (spM V L w s q N i)) (spP V L w s q N d i) (nI i) (nI (spE V L w s q N i)) y T1 = fR_span_77 n s (nI M) (nI q) (nI N) x5 (nI d) y (nI (spM V L w s q N (i + 1))) (spP V L w s q N d (i + 1)) (nI (i + 1)) T1 := fun y => by
      rw [fR_span_120, ← k1 y, it_le (by omega) (by omega)]
      by_cases h2 : spE V L w s q N i ≤ spM V L w s q N i
      · rw [if_pos h2, spM, Nat.max_eq_left h2]
      · rw [if_neg h2, spM, Nat.max_eq_right (by omega)]
    rw [fR_span_77, if_neg (nI_ge (by omega) (by omega)), e1, ev_V, r_allLines hv1 r1 hA, ev_I, show w_every V (seaN V L q (s + nI i) w N).2 = spE V L w s q N i from rfl, fR_span_113, k2, k2, ← e, if_neg (show ¬ i + 1 = 0 by omega)]
    by_cases h : i = 0
    · subst h
      rw [if_pos rfl, if_pos rfl, spF, if_pos rfl]
    · rw [if_neg h, if_neg (show ¬ nI (spF V L w s q N i) = -1 from of_eq_false (pz_nem1 (by omega))), it_le (by omega) (by omega), spF, if_neg h]
      by_cases h2 : spF V L w s q N i ≤ spE V L w s q N i
      · rw [if_pos h2, Nat.min_eq_left h2]
      · rw [if_neg h2, Nat.min_eq_right (by omega)]
theorem po_span : PO_span Rel := by
  intro SC SR hR x y z t h d
  show Po (fC_Main_span x y z t h d SC) (fR_span x y z t h d SR) (fun j T => if j = 1 then some (rI 1, T) else none)
  have hR' := hR
  obtain ⟨m, hC, hM, hB⟩ := hR'
  obtain ⟨g0, h0, hv0, hL0, hr0⟩ := begR hM
  obtain ⟨T, eT, gT, hT0, hvT, hLT, hrT, hT17, hTf⟩ := begT hM
  have hv := hC.1
  have hL := hC.2.1
  have hr := hC.2.2.1.1
  have b1 := hv.ok.1
  have b2 := hv.ok.2.1
  have b3 := hv.ok.2.2.1
  have ht := hC.2.2.1.2
  have bad : fC_Main_span x y z t h d SC = some (rX 1, sF SC 2 (SC.1 2 + 1)) → fR_span x y z t h d SR = fR_span_55 x y z t h d 0 (sF SR 0 0) → Po (fC_Main_span x y z t h d SC) (fR_span x y z t h d SR) (fun j T => if j = 1 then some (rI 1, T) else none) := fun q1 q2 => by
    refine po_ill1 (c := 1) hR q1 ?_ (fun _ => rfl) (by decide)
    rw [q2, fR_span_55, show fR_may 0 1 1 (sF SR 0 0) = _ from r_may0 1 (k := 1) (by omega) h0 (by decide), ev_I]
    rfl
  cases hy : wi y 1 10
  · exact bad (by rw [fC_Main_span, c_withinF hy, ev_I, if_pos rfl, fC_Main_span_36, fC_Main_span_37, c_need0, ev_Vx]) (by rw [fR_span, ev_nx, r_withinF hy, ev_I]; rfl)
  · cases hz : wi z 0 16
    · exact bad (by rw [fC_Main_span, c_withinT hy, ev_I, if_neg (by decide), c_withinF hz, ev_I, if_pos rfl, fC_Main_span_36, fC_Main_span_37, c_need0, ev_Vx]) (by rw [fR_span, ev_nx, r_withinT hy, ev_I, if_neg (by decide), r_isSeasonF (Or.inl hz), ev_I]; rfl)
    · cases htt : wi t 1 48
      · exact bad (by rw [fC_Main_span, c_withinT hy, ev_I, if_neg (by decide), c_withinT hz, ev_I, if_neg (by decide), c_withinF htt, ev_I, if_pos rfl, fC_Main_span_36, fC_Main_span_37, c_need0, ev_Vx]) (by rw [fR_span, ev_nx, r_withinT hy, ev_I, if_neg (by decide), r_isSeasonF (Or.inr htt), ev_I]; rfl)
      · have eC : fC_Main_span x y z t h d SC = fC_Main_span_37 x y z t h d 1 SC := by rw [fC_Main_span, c_withinT hy, ev_I, if_neg (by decide), c_withinT hz, ev_I, if_neg (by decide), c_withinT htt, ev_I, if_neg (by decide)]
        have eD : fR_span x y z t h d SR = (obI (fR_within h 0 2 (sF SR 0 0)) fun r7 T6 => (if r7 = 0 then (fR_span_54 x y z t h d T6) else (obI (fR_within d 0 ((T6.1 14) - 1) T6) fun r9 T8 => (if r9 = 0 then (fR_span_54 x y z t h d T8) else (fR_span_55 x y z t h d 1 T8))))) := by rw [fR_span, ev_nx, r_withinT hy, ev_I, if_neg (by decide), r_isSeasonT hz htt, ev_I, if_neg (by decide)]
        cases hh : wi h 0 2
        · exact bad (by rw [eC, fC_Main_span_37, c_need1, ev_V, c_withinF hh, ev_I, if_pos rfl, fC_Main_span_73, fC_Main_span_74, c_need0, ev_Vx]) (by rw [eD, r_withinF hh, ev_I]; rfl)
        · rcases wi_el (n := y_D m.1) (by omega) d with ⟨hd, e, he, rfl⟩ | ⟨hd, -⟩
          · obtain ⟨M, hM1, hM2, rfl⟩ := wi_nI (lo := 1) (hi := 10) (by omega) (by omega) hy
            obtain ⟨Q, -, hQ, rfl⟩ := wi_nI (lo := 0) (hi := 16) (by omega) (by omega) hz
            obtain ⟨N, -, hN, rfl⟩ := wi_nI (lo := 1) (hi := 48) (by omega) (by omega) htt
            obtain ⟨T1, e1, g1⟩ := e_span_91 (A := al) (L := m.2.1) al_all hQ x ht hN hM2 hM1 h he M FU 0 SC (by omega) (by rw [pz_FU]; omega) hv hL hr (fun j hj => by omega) (Nat.zero_le _) (Nat.zero_le _)
            obtain ⟨T2, e2, g2⟩ := r_span_77 (A := al) (L := m.2.1) al_all hQ x ht hN hM2 hM1 h he M FU 0 (sF SR 0 0) (by omega) (by rw [pz_FU]; omega) hv0 hL0 hr0 (Nat.zero_le _) (Nat.zero_le _)
            refine po_ok (b := spV m.1 m.2.1 m.2.2.1 x Q N e M h) (T := T1) (U := T2) hR ?_ (g1.x (by simp) (by simp)) ?_ (g0.tr (g2.x (by simp) (by simp))) ((g2.1 0 (by simp)).trans h0)
            · rw [eC, fC_Main_span_37, c_need1, ev_V, c_withinT hh, ev_I, if_neg (by decide), hv.2.2.1, c_withinT hd, ev_I, if_neg (by decide), fC_Main_span_74, c_need1, ev_V]
              exact e1
            · rw [eD, r_withinT hh, ev_I, if_neg (by decide), hv0.2.2.1, r_withinT hd, ev_I, if_neg (by decide), fR_span_55, r_may1 _ _ h0, ev_I, if_neg (by decide)]
              exact e2
          · exact bad (by rw [eC, fC_Main_span_37, c_need1, ev_V, c_withinT hh, ev_I, if_neg (by decide), hv.2.2.1, c_withinF hd, ev_I, if_pos rfl, fC_Main_span_73, fC_Main_span_74, c_need0, ev_Vx]) (by rw [eD, r_withinT hh, ev_I, if_neg (by decide), hv0.2.2.1, r_withinF hd, ev_I]; rfl)
end PO2
