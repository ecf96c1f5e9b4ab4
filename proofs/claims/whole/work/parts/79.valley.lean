/-! valley (written by wip/whole/pure/p79.py) -/
section PV9
variable {V : Vy} {S T U SC SR : St} {t : Nat → Nat} {n i j p q k c v s N : Nat} {f u : Oz} {x : Int32}
theorem v_loop : ∀ k c m m' i (V : Vy) (SC SR : St), c + k = 60 → k < m → k + 1 < m' → CT t n i SC → RT t n i SR → SR.1 4 = -1 → DC V SC → DR V SR →
    (∃ V2 T U, fC_Valley_readFrom_3_22 m (nI c) SC = some (rI 1, T) ∧ fR_valley_44 m' (nI c) SR = fR_valley_136 U ∧ DC V2 T ∧ DR V2 U ∧ U.1 4 = -1 ∧ frm [6, 8, 9, 14, 15, 16, 17] [23, 24, 25, 26, 27, 28, 29, 30] SC T ∧ frm [3, 8, 9, 10, 11] [3, 4, 5] SR U) ∨
    (∃ q k T U, fC_Valley_readFrom_3_22 m (nI c) SC = some (rI 0, T) ∧ fR_valley_44 m' (nI c) SR = some (rI (nI k - 10), U) ∧ q ≤ 600 ∧ T.1 5 = nI q ∧ T.1 4 = nI k ∧ U.1 7 = nI q ∧ frm [4, 5, 6, 8, 9, 14, 15, 16, 17] [23, 24, 25, 26, 27, 28, 29, 30] SC T ∧ frm [3, 4, 5, 7, 8, 9, 10, 11] [3, 4, 5] SR U) := by
  intro k
  induction k with
  | zero =>
    intro c m m' i V SC SR hc hm hm' hC hR h4 dC dR
    obtain ⟨m, rfl⟩ : ∃ z, m = z + 1 := ⟨m - 1, by omega⟩
    obtain ⟨m', rfl⟩ : ∃ z, m' = z + 1 + 1 := ⟨m' - 2, by omega⟩
    have e : c = 60 := by omega
    subst e
    have hs : nS t n (run bl t n i) = run bl t n i := run_idem hC.2.2.1
    have hle := run_le (c := bl) (t := t) hC.2.2.1
    have gC : frm [6, 8, 9, 14, 15, 16, 17] [23, 24, 25, 26, 27, 28, 29, 30] SC (sF SC 8 (nI (run bl t n i))) := frm.rf.F (by simp)
    have gR : frm [3, 8, 9, 10, 11] [3, 4, 5] SR (sF SR 3 (nI (run bl t n i))) := frm.rf.F (by simp)
    have dC1 := dC.fr (fs := [8]) (as := []) (T := sF SC 8 (nI (run bl t n i))) (frm.rf.F (by simp)) (by decide) (by decide)
    have dR1 := dR.fr (fs := [3]) (as := []) (T := sF SR 3 (nI (run bl t n i))) (frm.rf.F (by simp)) (by decide) (by decide)
    rw [fC_Valley_readFrom_3_22, it_Llt (by omega) (by omega), if_neg (by omega), c_ended hC, ev_I, fR_valley_44, r_fine1 h4, ev_I, if_neg (show ¬ (1 : Int32) = 0 by decide), r_isMore hR, ev_I]
    by_cases q : run bl t n i < n
    · rw [if_pos q, if_pos q, if_pos rfl, if_neg (show ¬ (1 : Int32) = 0 by decide), if_pos (show nI 60 = 60 from rfl)]
      have h := v_step (m := m') (K1 := fun x2 S => fC_Valley_readFrom_3_22 m x2 S) (c := 60) (by omega) hs (hC.mv hle) (hR.mv hle) h4 dC1 dR1
      rw [if_pos rfl] at h
      rcases h with ⟨_, _, _, _, _, _, h9, _⟩ | ⟨q, k, T, U, e1, e2, z3, z4, z5, z6, g1, g2⟩
      · omega
      · exact Or.inr ⟨q, k, T, U, e1, e2, z3, z4, z5, z6, (gC.wide (by simp) (by simp)).tr g1, (gR.wide (by simp) (by simp)).tr g2⟩
    · rw [if_neg q, if_neg q, if_neg (show ¬ (1 : Int32) = 0 by decide), if_pos rfl]
      exact Or.inl ⟨V, _, _, rfl, rfl, dC1, dR1, h4, gC, gR⟩
  | succ k ih =>
    intro c m m' i V SC SR hc hm hm' hC hR h4 dC dR
    obtain ⟨m, rfl⟩ : ∃ z, m = z + 1 := ⟨m - 1, by omega⟩
    obtain ⟨m', rfl⟩ : ∃ z, m' = z + 1 + 1 := ⟨m' - 2, by omega⟩
    have hs : nS t n (run bl t n i) = run bl t n i := run_idem hC.2.2.1
    have hle := run_le (c := bl) (t := t) hC.2.2.1
    have gC : frm [6, 8, 9, 14, 15, 16, 17] [23, 24, 25, 26, 27, 28, 29, 30] SC (sF SC 8 (nI (run bl t n i))) := frm.rf.F (by simp)
    have gR : frm [3, 8, 9, 10, 11] [3, 4, 5] SR (sF SR 3 (nI (run bl t n i))) := frm.rf.F (by simp)
    have dC1 := dC.fr (fs := [8]) (as := []) (T := sF SC 8 (nI (run bl t n i))) (frm.rf.F (by simp)) (by decide) (by decide)
    have dR1 := dR.fr (fs := [3]) (as := []) (T := sF SR 3 (nI (run bl t n i))) (frm.rf.F (by simp)) (by decide) (by decide)
    rw [fC_Valley_readFrom_3_22, it_Llt (by omega) (by omega), if_neg (by omega), c_ended hC, ev_I, fR_valley_44, r_fine1 h4, ev_I, if_neg (show ¬ (1 : Int32) = 0 by decide), r_isMore hR, ev_I]
    by_cases q : run bl t n i < n
    · rw [if_pos q, if_pos q, if_pos rfl, if_neg (show ¬ (1 : Int32) = 0 by decide), it_eqL (by omega) (by omega), if_neg (show ¬ c = 60 by omega)]
      have h := v_step (m := m') (K1 := fun x2 S => fC_Valley_readFrom_3_22 m x2 S) (c := c) (by omega) hs (hC.mv hle) (hR.mv hle) h4 dC1 dR1
      rw [if_neg (show ¬ c = 60 by omega)] at h
      rcases h with ⟨i2, V2, T, U, e1, e2, h9, k1, k2, k3, k4, k5, g1, g2⟩ | ⟨q, k, T, U, e1, e2, z3, z4, z5, z6, g1, g2⟩
      · have hrec := ih (c + 1) m (m' + 1) i2 V2 T U (by omega) (by omega) (by omega) k1 k2 k3 k4 k5
        have eC : fC_Valley_readFrom_3_50 (fun x2 S => fC_Valley_readFrom_3_22 m x2 S) (nI c) 0 (sF SC 8 (nI (run bl t n i))) = fC_Valley_readFrom_3_22 m (nI (c + 1)) T := e1
        have eR : vT (fun x2 S => fR_valley_44 (m' + 1) x2 S) (nI c) (sF SR 3 (nI (run bl t n i))) = fR_valley_44 (m' + 1) (nI (c + 1)) U := e2
        rcases hrec with ⟨V3, T3, U3, r1, r2, r3, r4, r5, r6, r7⟩ | ⟨q, k, T3, U3, r1, r2, r3, r4, r5, r6, r7, r8⟩
        · exact Or.inl ⟨V3, T3, U3, eC.trans r1, eR.trans r2, r3, r4, r5, (gC.tr g1).tr r6, (gR.tr g2).tr r7⟩
        · exact Or.inr ⟨q, k, T3, U3, eC.trans r1, eR.trans r2, r3, r4, r5, r6, ((gC.tr g1).wide (by simp) (by simp)).tr r7, ((gR.tr g2).wide (by simp) (by simp)).tr r8⟩
      · exact Or.inr ⟨q, k, T, U, e1, e2, z3, z4, z5, z6, (gC.wide (by simp) (by simp)).tr g1, (gR.wide (by simp) (by simp)).tr g2⟩
    · rw [if_neg q, if_neg q, if_neg (show ¬ (1 : Int32) = 0 by decide), if_pos rfl]
      exact Or.inl ⟨V, _, _, rfl, rfl, dC1, dR1, h4, gC, gR⟩
/-- the new valley -/
def w00 : Rw := (fun _ _ => 0, fun _ _ => 0, fun _ => false, 0)
theorem ROK_00 : ROK V w00 := ⟨fun _ _ _ _ => Nat.zero_le _, Nat.zero_le _⟩
theorem RC_00 {f : Nat → Int32} (h : ∀ j, j < 74 → f j = 0) (hV : VOK V) : RC V al w00 f := by
  have h1 := hV.1
  have h2 := hV.2.1
  refine ⟨fun a _ ha p hp => h _ (by omega), fun a _ ha => ⟨h _ (by omega), h _ (by omega), h _ (by omega), h _ (by omega)⟩, ?_, h _ (by omega), ROK_00⟩
  rw [h 72 (by omega)]
  exact ((orB_zero (by have := hV.2.2.1; omega)).mpr (fun i hi => rfl)).symm
theorem RR_00 {f : Nat → Int32} (h : ∀ j, j < 95 → (j < 48 ∨ 48 + y_M V ≤ j) → f j = 0) (ha : ∀ a, a < y_M V → f (48 + a) = nI (y_a V a)) (hV : VOK V) : RR V al w00 f := by
  have h1 := hV.1
  have h2 := hV.2.1
  have h3 := hV.2.2.1
  refine ⟨fun a _ ha p hp => h _ (by omega) (by omega), fun a _ hm => ⟨ha a hm, ?_, h _ (by omega) (by omega), h _ (by omega) (by omega), h _ (by omega) (by omega), h _ (by omega) (by omega)⟩, fun d hd => h _ (by omega) (by omega), h _ (by omega) (by omega), ROK_00⟩
  have hb := hV.m hm
  have e : w_old V w00 a = false := by
    unfold w_old
    by_cases q : 60 ≤ y_a V a
    · rw [if_pos q]
    · rw [if_neg q, if_pos (show y_a V a + w_t w00 / 10 < 60 by show y_a V a + 0 < 60; omega)]
  rw [e, h _ (by omega) (by omega)]
  rfl
theorem c_clear : ∀ k m i (S : St), i + k = 74 → k < m → (∀ j, j < i → S.2.1 46 j = 0) → ∃ T, fC_State_clear_9_2 m (nI i) S = some (rV, T) ∧ frm [] [46] S T ∧ ∀ j, j < 74 → T.2.1 46 j = 0 := by
  intro k
  induction k with
  | zero =>
    intro m i S hi hm h
    obtain ⟨m, rfl⟩ := pz_fu hm
    have e : i = 74 := by omega
    subst e
    rw [fC_State_clear_9_2, if_pos (by decide)]
    exact ⟨S, rfl, frm.rf, h⟩
  | succ k ih =>
    intro m i S hi hm h
    obtain ⟨m, rfl⟩ := pz_fu hm
    rw [fC_State_clear_9_2, it_Lle (by omega) (by omega), if_neg (by omega), pz_gib (by omega) (by omega), ev_nx, nI_1]
    obtain ⟨T, e, g, h2⟩ := ih m (i + 1) (sA S 46 (nI i) 0) (by omega) (by omega) (fun j hj => by
      rw [tA_21, if_pos rfl, nI_clamp (by omega), upd_i]
      by_cases q : j = i
      · rw [if_pos q]
      · rw [if_neg q]; exact h j (by omega))
    exact ⟨T, e, (frm.rf.A (by simp)).tr g, h2⟩
theorem r_sets_122 {x17 : Nat → Int32} : ∀ k m i (S : St), i + k = y_M V → k < m → VOK V → S.1 13 = nI (y_M V) → (∀ a, a < y_M V → S.2.1 7 (2 * a + 1) = nI (y_a V a)) → (∀ j, S.2.1 17 j = if 48 ≤ j ∧ j < 48 + i then nI (y_a V (j - 48)) else x17 j) →
    ∃ T, fR_sets_122 m (nI i) S = some (rV, T) ∧ frm [] [17] S T ∧ ∀ j, T.2.1 17 j = if 48 ≤ j ∧ j < 48 + y_M V then nI (y_a V (j - 48)) else x17 j := by
  intro k
  induction k with
  | zero =>
    intro m i S hi hm hV h13 h7 h17
    obtain ⟨m, rfl⟩ := pz_fu hm
    have o2 := hV.2.1
    have e : i = y_M V := by omega
    subst e
    rw [fR_sets_122, h13, if_pos (nI_le (by omega) (by omega))]
    exact ⟨S, rfl, frm.rf, h17⟩
  | succ k ih =>
    intro m i S hi hm hV h13 h7 h17
    obtain ⟨m, rfl⟩ := pz_fu hm
    have o2 := hV.2.1
    rw [fR_sets_122, h13, if_neg (nI_ge (by omega) (by omega)), show (2 : Int32) = nI 2 from rfl, show (48 : Int32) = nI 48 from rfl, pk_mul, nI_1, nI_add, nI_1, pz_gib (by omega) (by omega), pz_gib (by omega) (by omega), pz_rA (by omega), h7 i (by omega), ev_nx]
    obtain ⟨T, e, g, h⟩ := ih m (i + 1) (sA S 17 (nI (48 + i)) (nI (y_a V i))) (by omega) (by omega) hV h13 (fun a ha => by rw [tA_21, if_neg (by decide)]; exact h7 a ha) (fun j => by
      rw [tA_21, if_pos rfl, nI_clamp (by omega), upd_i, h17]
      by_cases q : j = 48 + i
      · rw [if_pos q, if_pos (by omega), q, Nat.add_sub_cancel_left]
      · rw [if_neg q]
        by_cases q2 : 48 ≤ j ∧ j < 48 + i
        · rw [if_pos q2, if_pos (by omega)]
        · rw [if_neg q2, if_neg (by omega)])
    exact ⟨T, e, (frm.rf.A (by simp)).tr g, h⟩
theorem r_sets_101 : ∀ k m i (S : St), i + k = 95 → k < m → VOK V → S.1 13 = nI (y_M V) → (∀ a, a < y_M V → S.2.1 7 (2 * a + 1) = nI (y_a V a)) → (∀ j, j < i → S.2.1 17 j = 0) →
    ∃ T, fR_sets_101 m (nI i) S = some (rV, T) ∧ frm [] [17] S T ∧ (∀ j, j < 95 → (j < 48 ∨ 48 + y_M V ≤ j) → T.2.1 17 j = 0) ∧ ∀ a, a < y_M V → T.2.1 17 (48 + a) = nI (y_a V a) := by
  intro k
  induction k with
  | zero =>
    intro m i S hi hm hV h13 h7 h17
    obtain ⟨m, rfl⟩ := pz_fu hm
    have e : i = 95 := by omega
    subst e
    have o2 := hV.2.1
    obtain ⟨T, e1, g, h⟩ := r_sets_122 (V := V) (x17 := S.2.1 17) (y_M V) FU 0 S (by omega) (by rw [pz_FU]; omega) hV h13 h7 (fun j => by rw [if_neg (by omega)])
    rw [fR_sets_101, if_pos (by decide)]
    refine ⟨T, e1, g, fun j hj hj2 => ?_, fun a ha => ?_⟩
    · rw [h, if_neg (by omega)]; exact h17 j hj
    · rw [h, if_pos (by omega), Nat.add_sub_cancel_left]
  | succ k ih =>
    intro m i S hi hm hV h13 h7 h17
    obtain ⟨m, rfl⟩ := pz_fu hm
    rw [fR_sets_101, it_Lle (by omega) (by omega), if_neg (by omega), pz_gib (by omega) (by omega), ev_nx, nI_1]
    obtain ⟨T, e, g, h⟩ := ih m (i + 1) (sA S 17 (nI i) 0) (by omega) (by omega) hV h13 (fun a ha => by rw [tA_21, if_neg (by decide)]; exact h7 a ha) (fun j hj => by
      rw [tA_21, if_pos rfl, nI_clamp (by omega), upd_i]
      by_cases q : j = i
      · rw [if_pos q]
      · rw [if_neg q]; exact h17 j (by omega))
    exact ⟨T, e, (frm.rf.A (by simp)).tr g, h⟩
theorem r_sets (dR : DR V S) (hV : VOK V) : ∃ T, fR_sets S = some (rV, T) ∧ frm [12, 13, 14, 15, 17, 19, 20, 24, 27] [6, 7, 8, 17] S T ∧ RV V T ∧ T.1 17 = 0 ∧ T.1 19 = 0 ∧ T.1 20 = 0 ∧ T.1 24 = 0 ∧ T.1 27 = 0 ∧ RR V al w00 (T.2.1 17) := by
  obtain ⟨c1, c2, c3, c4, c5, c6, c7⟩ := dR
  have o1 := hV.1
  have o2 := hV.2.1
  have o3 := hV.2.2.1
  obtain ⟨T1, e1, g1, h1, -⟩ := r_copies (N := 16) (by omega) (sF (sF (sF (sF S 12 (nI (y_P V))) 13 (nI (y_M V))) 14 (nI (y_D V))) 15 (nI (y_F V)))
  obtain ⟨T2, e2, g2, h2, -⟩ := r_copies_v220 (N := 12) (by omega) T1
  obtain ⟨T3, e3, g3, h3, -⟩ := r_copies_v221 (N := 40) (by omega) T2
  have gA : frm [12, 13, 14, 15] [6, 7, 8] S T3 := ((((((frm.rf.F (by simp)).F (by simp)).F (by simp)).F (by simp)).tr (g1.wide (by simp) (by simp))).tr (g2.wide (by simp) (by simp))).tr (g3.wide (by simp) (by simp))
  have k6 : ∀ j, j < 16 → T3.2.1 6 j = S.2.1 3 j := fun j hj => by rw [g3.2.1 6 (by decide), g2.2.1 6 (by decide), h1 j hj]; rfl
  have k7 : ∀ j, j < 12 → T3.2.1 7 j = S.2.1 4 j := fun j hj => by rw [g3.2.1 7 (by decide), h2 j hj, g1.2.1 4 (by decide)]; rfl
  have k8 : ∀ j, j < 40 → T3.2.1 8 j = S.2.1 5 j := fun j hj => by rw [h3 j hj, g2.2.1 5 (by decide), g1.2.1 5 (by decide)]; rfl
  have f12 : T3.1 12 = nI (y_P V) := by rw [g3.1 12 (by decide), g2.1 12 (by decide), g1.1 12 (by decide)]; rfl
  have f13 : T3.1 13 = nI (y_M V) := by rw [g3.1 13 (by decide), g2.1 13 (by decide), g1.1 13 (by decide)]; rfl
  have f14 : T3.1 14 = nI (y_D V) := by rw [g3.1 14 (by decide), g2.1 14 (by decide), g1.1 14 (by decide)]; rfl
  have f15 : T3.1 15 = nI (y_F V) := by rw [g3.1 15 (by decide), g2.1 15 (by decide), g1.1 15 (by decide)]; rfl
  have gB : frm [17, 19, 20, 24, 27] [] T3 (sF (sF (sF (sF (sF T3 17 0) 24 0) 19 0) 27 0) 20 0) := ((((frm.rf.F (by simp)).F (by simp)).F (by simp)).F (by simp)).F (by simp)
  obtain ⟨T4, e4, g4, h4, h5⟩ := r_sets_101 (V := V) 95 FU 0 (sF (sF (sF (sF (sF T3 17 0) 24 0) 19 0) 27 0) 20 0) (by omega) (by rw [pz_FU]; omega) hV f13 (fun a ha => by show T3.2.1 7 (2 * a + 1) = _; rw [k7 _ (by omega)]; exact (c6 a ha).2) (fun j hj => by omega)
  have gX : frm [17, 19, 20, 24, 27] [17] T3 T4 := (gB.wide (by simp) (by simp)).tr (g4.wide (by simp) (by simp))
  have gT : frm [12, 13, 14, 15, 17, 19, 20, 24, 27] [6, 7, 8, 17] S T4 := (gA.wide (by simp) (by simp)).tr (gX.wide (by simp) (by simp))
  refine ⟨T4, ?_, gT, ⟨(gX.1 12 (by decide)).trans f12, (gX.1 13 (by decide)).trans f13, (gX.1 14 (by decide)).trans f14, (gX.1 15 (by decide)).trans f15, fun p hp => ?_, fun a ha => ?_, fun d hd => ?_, hV⟩, ?_, ?_, ?_, ?_, ?_, RR_00 h4 h5 hV⟩
  · rw [fR_sets, ev_nx, c1, show (sF S 12 (nI (y_P V))).1 9 = nI (y_M V) from c2, ev_nx, show (sF (sF S 12 (nI (y_P V))) 13 (nI (y_M V))).1 10 = nI (y_D V) from c3, ev_nx, show (sF (sF (sF S 12 (nI (y_P V))) 13 (nI (y_M V))) 14 (nI (y_D V))).1 11 = nI (y_F V) from c4, ev_nx, show (16 : Int32) = nI 16 from rfl, e1, ev_V, show (12 : Int32) = nI 12 from rfl, e2, ev_V, show (40 : Int32) = nI 40 from rfl, e3, ev_V, ev_nx, ev_nx, ev_nx, ev_nx, ev_nx]
    exact e4
  · rw [gX.2.1 6 (by decide), k6 _ (by omega), k6 _ (by omega)]
    exact c5 p hp
  · rw [gX.2.1 7 (by decide), k7 _ (by omega), k7 _ (by omega)]
    exact c6 a ha
  · rw [gX.2.1 8 (by decide), k8 _ (by omega), k8 _ (by omega), k8 _ (by omega), k8 _ (by omega)]
    exact c7 d hd
  · rw [g4.1 17 (by decide)]; rfl
  · rw [g4.1 19 (by decide)]; rfl
  · rw [g4.1 20 (by decide)]; rfl
  · rw [g4.1 24 (by decide)]; rfl
  · rw [g4.1 27 (by decide)]; rfl
theorem tC0 {S : St} {a b n j : Nat} (hn : n < 2 ^ 31) (h2 : j < n) : (sC S a b 0 0 (nI n)).2.1 b j = S.2.1 a j := by
  have h := tC_in (S := S) (a := a) (b := b) (x := 0) (y := 0) (n := n) (j := j) (by omega) (by omega) hn (Nat.zero_le _) (by omega)
  rw [Nat.zero_add, Nat.sub_zero] at h
  exact h
theorem cp0 {n : Nat} (h : n < 2 ^ 31) : cpOK 0 0 (nI n) n n = true := cp_ok (a := 0) (b := 0) (by omega) (by omega) h h
theorem c_copyFrom (dC : DC V S) : ∃ T, fC_Valley_copyFrom_2 S = some (rV, T) ∧ frm [10, 11, 12, 13] [15, 16, 17, 18, 19, 20, 21, 22] S T ∧ CV V T := by
  obtain ⟨c1, c2, c3, c4, c5, c6, c7, hV⟩ := dC
  have o1 := hV.1
  have o2 := hV.2.1
  have o3 := hV.2.2.1
  have e0 : ∃ S0, S0 = sF (sF (sF (sF S 10 (nI (y_P V))) 11 (nI (y_M V))) 12 (nI (y_D V))) 13 (nI (y_F V)) := ⟨_, rfl⟩
  obtain ⟨S0, hS0⟩ := e0
  have g0 : frm [10, 11, 12, 13] [] S S0 := by rw [hS0]; exact (((frm.rf.F (by simp)).F (by simp)).F (by simp)).F (by simp)
  refine ⟨sC (sC (sC (sC (sC (sC (sC (sC S0 23 15 0 0 8) 24 16 0 0 8) 25 17 0 0 6) 26 18 0 0 6) 27 19 0 0 10) 28 20 0 0 10) 29 21 0 0 10) 30 22 0 0 10, ?_, (g0.wide (by simp) (by simp)).tr ((((((((frm.rf.C (by simp)).C (by simp)).C (by simp)).C (by simp)).C (by simp)).C (by simp)).C (by simp)).C (by simp)), ?_⟩
  · rw [fC_Valley_copyFrom_2, c1, ev_nx, show (sF S 10 (nI (y_P V))).1 15 = nI (y_M V) from c2, ev_nx, show (sF (sF S 10 (nI (y_P V))) 11 (nI (y_M V))).1 16 = nI (y_D V) from c3, ev_nx, show (sF (sF (sF S 10 (nI (y_P V))) 11 (nI (y_M V))) 12 (nI (y_D V))).1 17 = nI (y_F V) from c4, ev_nx, ← hS0, gdT (by decide), ev_nx, gdT (by decide), ev_nx, gdT (by decide), ev_nx, gdT (by decide), ev_nx, gdT (by decide), ev_nx, gdT (by decide), ev_nx, gdT (by decide), ev_nx, gdT (by decide), ev_nx]
  · have z : ∀ k, k ∉ [10, 11, 12, 13] → S0.1 k = S.1 k := g0.1
    have r : ∀ a, S0.2.1 a = S.2.1 a := fun a => g0.2.1 a (by simp)
    have k15 : ∀ j, j < 8 → (sC (sC (sC (sC (sC (sC (sC (sC S0 23 15 0 0 8) 24 16 0 0 8) 25 17 0 0 6) 26 18 0 0 6) 27 19 0 0 10) 28 20 0 0 10) 29 21 0 0 10) 30 22 0 0 10).2.1 15 j = S.2.1 23 j := fun j hj => by
      rw [tC_21, if_neg (by decide), tC_21, if_neg (by decide), tC_21, if_neg (by decide), tC_21, if_neg (by decide), tC_21, if_neg (by decide), tC_21, if_neg (by decide), tC_21, if_neg (by decide), show (8 : Int32) = nI 8 from rfl, tC0 (by omega) hj, r]
    have k16 : ∀ j, j < 8 → (sC (sC (sC (sC (sC (sC (sC (sC S0 23 15 0 0 8) 24 16 0 0 8) 25 17 0 0 6) 26 18 0 0 6) 27 19 0 0 10) 28 20 0 0 10) 29 21 0 0 10) 30 22 0 0 10).2.1 16 j = S.2.1 24 j := fun j hj => by
      rw [tC_21, if_neg (by decide), tC_21, if_neg (by decide), tC_21, if_neg (by decide), tC_21, if_neg (by decide), tC_21, if_neg (by decide), tC_21, if_neg (by decide), show (8 : Int32) = nI 8 from rfl, tC0 (by omega) hj, tC_21, if_neg (by decide), r]
    have k17 : ∀ j, j < 6 → (sC (sC (sC (sC (sC (sC (sC (sC S0 23 15 0 0 8) 24 16 0 0 8) 25 17 0 0 6) 26 18 0 0 6) 27 19 0 0 10) 28 20 0 0 10) 29 21 0 0 10) 30 22 0 0 10).2.1 17 j = S.2.1 25 j := fun j hj => by
      rw [tC_21, if_neg (by decide), tC_21, if_neg (by decide), tC_21, if_neg (by decide), tC_21, if_neg (by decide), tC_21, if_neg (by decide), show (6 : Int32) = nI 6 from rfl, tC0 (by omega) hj, tC_21, if_neg (by decide), tC_21, if_neg (by decide), r]
    have k18 : ∀ j, j < 6 → (sC (sC (sC (sC (sC (sC (sC (sC S0 23 15 0 0 8) 24 16 0 0 8) 25 17 0 0 6) 26 18 0 0 6) 27 19 0 0 10) 28 20 0 0 10) 29 21 0 0 10) 30 22 0 0 10).2.1 18 j = S.2.1 26 j := fun j hj => by
      rw [tC_21, if_neg (by decide), tC_21, if_neg (by decide), tC_21, if_neg (by decide), tC_21, if_neg (by decide), show (6 : Int32) = nI 6 from rfl, tC0 (by omega) hj, tC_21, if_neg (by decide), tC_21, if_neg (by decide), tC_21, if_neg (by decide), r]
    have k19 : ∀ j, j < 10 → (sC (sC (sC (sC (sC (sC (sC (sC S0 23 15 0 0 8) 24 16 0 0 8) 25 17 0 0 6) 26 18 0 0 6) 27 19 0 0 10) 28 20 0 0 10) 29 21 0 0 10) 30 22 0 0 10).2.1 19 j = S.2.1 27 j := fun j hj => by
      rw [tC_21, if_neg (by decide), tC_21, if_neg (by decide), tC_21, if_neg (by decide), show (10 : Int32) = nI 10 from rfl, tC0 (by omega) hj, tC_21, if_neg (by decide), tC_21, if_neg (by decide), tC_21, if_neg (by decide), tC_21, if_neg (by decide), r]
    have k20 : ∀ j, j < 10 → (sC (sC (sC (sC (sC (sC (sC (sC S0 23 15 0 0 8) 24 16 0 0 8) 25 17 0 0 6) 26 18 0 0 6) 27 19 0 0 10) 28 20 0 0 10) 29 21 0 0 10) 30 22 0 0 10).2.1 20 j = S.2.1 28 j := fun j hj => by
      rw [tC_21, if_neg (by decide), tC_21, if_neg (by decide), show (10 : Int32) = nI 10 from rfl, tC0 (by omega) hj, tC_21, if_neg (by decide), tC_21, if_neg (by decide), tC_21, if_neg (by decide), tC_21, if_neg (by decide), tC_21, if_neg (by decide), r]
    have k21 : ∀ j, j < 10 → (sC (sC (sC (sC (sC (sC (sC (sC S0 23 15 0 0 8) 24 16 0 0 8) 25 17 0 0 6) 26 18 0 0 6) 27 19 0 0 10) 28 20 0 0 10) 29 21 0 0 10) 30 22 0 0 10).2.1 21 j = S.2.1 29 j := fun j hj => by
      rw [tC_21, if_neg (by decide), show (10 : Int32) = nI 10 from rfl, tC0 (by omega) hj, tC_21, if_neg (by decide), tC_21, if_neg (by decide), tC_21, if_neg (by decide), tC_21, if_neg (by decide), tC_21, if_neg (by decide), tC_21, if_neg (by decide), r]
    have k22 : ∀ j, j < 10 → (sC (sC (sC (sC (sC (sC (sC (sC S0 23 15 0 0 8) 24 16 0 0 8) 25 17 0 0 6) 26 18 0 0 6) 27 19 0 0 10) 28 20 0 0 10) 29 21 0 0 10) 30 22 0 0 10).2.1 22 j = S.2.1 30 j := fun j hj => by
      rw [show (10 : Int32) = nI 10 from rfl, tC0 (by omega) hj, tC_21, if_neg (by decide), tC_21, if_neg (by decide), tC_21, if_neg (by decide), tC_21, if_neg (by decide), tC_21, if_neg (by decide), tC_21, if_neg (by decide), tC_21, if_neg (by decide), r]
    have hfr : ∀ k, (sC (sC (sC (sC (sC (sC (sC (sC S0 23 15 0 0 8) 24 16 0 0 8) 25 17 0 0 6) 26 18 0 0 6) 27 19 0 0 10) 28 20 0 0 10) 29 21 0 0 10) 30 22 0 0 10).1 k = S0.1 k := fun k => rfl
    refine ⟨?_, ?_, ?_, ?_, fun p hp => ?_, fun a ha => ?_, fun d hd => ?_, hV⟩
    · rw [hfr, hS0]; rfl
    · rw [hfr, hS0]; rfl
    · rw [hfr, hS0]; rfl
    · rw [hfr, hS0]; rfl
    · rw [k15 p (by omega), k16 p (by omega)]; exact c5 p hp
    · rw [k17 a (by omega), k18 a (by omega)]; exact c6 a ha
    · rw [k19 d (by omega), k20 d (by omega), k21 d (by omega), k22 d (by omega)]; exact c7 d hd
theorem c_plain (S : St) : ∃ T, fC_Law_makePlain_4 S = some (rV, T) ∧ frm [18] [31] S T ∧ T.1 18 = 3 ∧ T.2.1 31 0 = 9 ∧ T.2.1 31 1 = 1001 ∧ T.2.1 31 2 = 2001 := by
  refine ⟨sF (sA (sF (sA (sF (sA (sF S 18 0) 31 0 9) 18 1) 31 1 1001) 18 2) 31 2 2001) 18 3, ?_, ((((((frm.rf.F (by simp)).A (by simp)).F (by simp)).A (by simp)).F (by simp)).A (by simp)).F (by simp), rfl, ?_, ?_, ?_⟩
  · have p1 : fC_Law_put_4 9 (sF S 18 0) = some (rI 1, sF (sA (sF S 18 0) 31 0 9) 18 1) := by
      rw [fC_Law_put_4, show (sF S 18 0).1 18 = 0 from rfl, if_pos (by decide), gdT (by decide), ev_nx, show (sA (sF S 18 0) 31 0 9).1 18 = 0 from rfl, ev_nx]
      rfl
    have p2 : fC_Law_put_4 1001 (sF (sA (sF S 18 0) 31 0 9) 18 1) = some (rI 1, sF (sA (sF (sA (sF S 18 0) 31 0 9) 18 1) 31 1 1001) 18 2) := by
      rw [fC_Law_put_4, show (sF (sA (sF S 18 0) 31 0 9) 18 1).1 18 = 1 from rfl, if_pos (by decide), gdT (by decide), ev_nx, show (sA (sF (sA (sF S 18 0) 31 0 9) 18 1) 31 1 1001).1 18 = 1 from rfl, ev_nx]
      rfl
    have p3 : fC_Law_put_4 2001 (sF (sA (sF (sA (sF S 18 0) 31 0 9) 18 1) 31 1 1001) 18 2) = some (rI 1, sF (sA (sF (sA (sF (sA (sF S 18 0) 31 0 9) 18 1) 31 1 1001) 18 2) 31 2 2001) 18 3) := by
      rw [fC_Law_put_4, show (sF (sA (sF (sA (sF S 18 0) 31 0 9) 18 1) 31 1 1001) 18 2).1 18 = 2 from rfl, if_pos (by decide), gdT (by decide), ev_nx, show (sA (sF (sA (sF (sA (sF S 18 0) 31 0 9) 18 1) 31 1 1001) 18 2) 31 2 2001).1 18 = 2 from rfl, ev_nx]
      rfl
    rw [fC_Law_makePlain_4, ev_nx, p1, ev_I, p2, ev_I, p3, ev_I]
  · rfl
  · rfl
  · rfl
def V00 : Vy := fun k x => if k = 0 ∧ x = 3 then 3 else 0
theorem V00_ok : VOK V00 := ⟨by decide, by decide, by decide, by decide, fun p hp => absurd hp (Nat.not_lt_zero _), fun p hp => absurd hp (Nat.not_lt_zero _), fun p hp => absurd hp (Nat.not_lt_zero _)⟩
theorem po_valley : PO_valley Rel := by
  intro SC SR hR x
  show Po (fC_Main_valley x SC) (fR_valley x SR) (fun j T => if j = 1 then some (rI 1, T) else none)
  have hR' := hR
  obtain ⟨m, hC, hM, hB⟩ := hR'
  obtain ⟨g0, h0, hv0, hL0, hr0⟩ := begR hM
  obtain ⟨N, hN, e3⟩ := hB.2.2.2.2.1
  have eR1 : (sF SR 0 0).1 1 = nI N := by rw [tF_1, if_neg (by decide), ← hB.2.2.2.1, e3]
  rcases c_open x (M := 600) e3 hN (by omega) with ⟨n, hn, -, rfl, eO⟩ | ⟨hx, eO⟩
  · obtain ⟨hCT, hRT⟩ := open_tapes hB (n := n) (by omega)
    -- the drafts begin
    have gC0 : frm [14, 15, 16, 17] [] (OC SC n) (sF (sF (sF (sF (OC SC n) 14 0) 15 0) 16 0) 17 3) := (((frm.rf.F (by simp)).F (by simp)).F (by simp)).F (by simp)
    have gR0 : frm [8, 9, 10, 11] [] (OR (sF SR 0 0) n) (sF (sF (sF (sF (OR (sF SR 0 0) n) 8 0) 9 0) 10 0) 11 3) := (((frm.rf.F (by simp)).F (by simp)).F (by simp)).F (by simp)
    have dC0 : DC V00 (sF (sF (sF (sF (OC SC n) 14 0) 15 0) 16 0) 17 3) := ⟨rfl, rfl, rfl, rfl, fun p hp => absurd hp (Nat.not_lt_zero _), fun p hp => absurd hp (Nat.not_lt_zero _), fun p hp => absurd hp (Nat.not_lt_zero _), V00_ok⟩
    have dR0 : DR V00 (sF (sF (sF (sF (OR (sF SR 0 0) n) 8 0) 9 0) 10 0) 11 3) := ⟨rfl, rfl, rfl, rfl, fun p hp => absurd hp (Nat.not_lt_zero _), fun p hp => absurd hp (Nat.not_lt_zero _), fun p hp => absurd hp (Nat.not_lt_zero _)⟩
    have eC0 : fC_Main_valley (nI n) SC = obI (fC_Valley_readFrom_3_22 FU 0 (sF (sF (sF (sF (OC SC n) 14 0) 15 0) 16 0) 17 3)) fun r4 T3 => (if r4 = 0 then (some (rI ((T3.1 4) - 10), T3)) else (obV (fC_Valley_copyFrom_2 T3) fun T5 => (obV (fC_Law_makePlain_4 T5) fun T7 => (nx (sF T7 20 0) fun T9 => (obV (fC_State_clear_9 T9) fun T10 => (obV (fC_Shelf_clear T10) fun T12 => (nx (sF T12 0 0) fun T14 => (some (rI (T14.1 12), T14))))))))) := by
      rw [fC_Main_valley, show (600 : Int32) = nI 600 from rfl, eO, ev_V, fC_Valley_readFrom_3, ev_nx, ev_nx, ev_nx, ev_nx]
    have eR0 : fR_valley (nI n) SR = fR_valley_44 FU 0 (sF (sF (sF (sF (OR (sF SR 0 0) n) 8 0) 9 0) 10 0) 11 3) := by
      rw [fR_valley, ev_nx, if_neg (nI_pos (by omega)), eR1, if_neg (nI_nlt hn (by omega)), fR_valley_23, r_may1 _ _ h0, ev_I, if_neg (by decide), r_begins, ev_V, fR_clears, ev_nx, ev_nx, ev_nx, ev_nx, ev_V]
    have hOC : CM m (OC SC n) := hC.fr (fs := 3 :: 5 :: cF) (((((frx.rf.F (by simp)).F (by simp)).F (by simp)).F (by simp)).F (by simp)) (fun k hk => by
      rcases List.mem_cons.mp hk with e | hk
      · omega
      · rcases List.mem_cons.mp hk with e | hk
        · omega
        · simp only [hk, or_true])
    rcases v_loop (t := tp SC) 60 0 FU FU 0 V00 _ _ (by omega) (by rw [pz_FU]; omega) (by rw [pz_FU]; omega) (hCT.fr gC0 (by simp) (by simp) (by simp)) (hRT.fr gR0 (by simp) (by simp) (by simp)) rfl dC0 dR0 with ⟨V2, T, U, e1, e2, dC, dR, u4, gC, gR⟩ | ⟨q, k, T, U, e1, e2, hq, t5, t4, u7, gC, gR⟩
    · have hV := dC.2.2.2.2.2.2.2
      obtain ⟨A1, a1, a2, a3⟩ := c_copyFrom dC
      obtain ⟨A2, b1, b2, b3, b4, b5, b6⟩ := c_plain A1
      obtain ⟨A3, d1, d2, d3⟩ := c_clear 74 FU 0 (sF A2 20 0) (by omega) (by rw [pz_FU]; omega) (fun j hj => by omega)
      have dR7 : DR V2 (sF U 7 (-1)) := dR.fr (fs := [7]) (as := []) (frm.rf.F (by simp)) (by decide) (by decide)
      obtain ⟨B1, s1, s2, s3, s4, s5, s6, s7, s8, s9⟩ := r_sets dR7 hV
      have gCa : frm [0, 10, 11, 12, 13, 14, 15, 16, 17, 18, 20, 26, 27, 6, 8, 9] [15, 16, 17, 18, 19, 20, 21, 22, 23, 24, 25, 26, 27, 28, 29, 30, 31, 46] (OC SC n) (sF (sF (sF A3 26 0) 27 0) 0 0) := ((((((((gC0.wide (by simp) (by simp)).tr (gC.wide (by simp) (by simp))).tr (a2.wide (by simp) (by simp))).tr (b2.wide (by simp) (by simp))).F (by simp)).tr (d2.wide (by simp) (by simp))).F (by simp)).F (by simp)).F (by simp)
      have gA : frm [20] [46] A2 (sF (sF (sF A3 26 0) 27 0) 0 0) → True := fun _ => trivial
      have gA3 : frm [0, 18, 20, 26, 27] [31, 46] A1 (sF (sF (sF A3 26 0) 27 0) 0 0) := (((((b2.wide (by simp) (by simp)).F (by simp)).tr (d2.wide (by simp) (by simp))).F (by simp)).F (by simp)).F (by simp)
      have gA2 : frm [0, 20, 26, 27] [46] A2 (sF (sF (sF A3 26 0) 27 0) 0 0) := ((((frm.rf.F (by simp)).tr (d2.wide (by simp) (by simp))).F (by simp)).F (by simp)).F (by simp)
      have gRa : frm [3, 7, 8, 9, 10, 11, 12, 13, 14, 15, 17, 19, 20, 24, 27] [3, 4, 5, 6, 7, 8, 17] (OR (sF SR 0 0) n) B1 := (((gR0.wide (by simp) (by simp)).tr (gR.wide (by simp) (by simp))).F (by simp)).tr (s2.wide (by simp) (by simp))
      have cv := a3.fr gA3 (by decide) (by decide)
      have z31 : (sF (sF (sF A3 26 0) 27 0) 0 0).2.1 31 = A2.2.1 31 := gA2.2.1 31 (by decide)
      refine po_rel (b := nI (y_D V2)) (T := sF (sF (sF A3 26 0) 27 0) 0 0) (U := B1) ?_ ?_ ?_ ?_
      · refine ⟨(V2, Lpl, w00, (0, fun _ _ => 0), (0, fun _ => w00), (0, fun _ => w00, fun _ => 0, fun _ _ => w00)), ⟨cv, CLw_pl ((gA2.1 18 (by decide)).trans b3) (by rw [z31]; exact b4) (by rw [z31]; exact b5) (by rw [z31]; exact b6), ⟨RC_00 (fun j hj => d3 j hj) hV, Nat.zero_le _⟩, ⟨?_, Nat.zero_le _, fun i hi => absurd hi (Nat.not_lt_zero _)⟩, ⟨rfl, Nat.zero_le _, fun i hi => absurd hi (Nat.not_lt_zero _)⟩, ⟨rfl, Nat.zero_le _, fun i hi => absurd hi (Nat.not_lt_zero _)⟩⟩, ⟨s3, RLw_pl s4, s9, ⟨s7, fun i hi => absurd hi (Nat.not_lt_zero _)⟩, ⟨s5, fun i hi => absurd hi (Nat.not_lt_zero _)⟩, ⟨s8, fun i hi => absurd hi (Nat.not_lt_zero _)⟩⟩, BM_end hB gCa gRa ?_ ?_ (by decide) (by decide)⟩
        · show A3.1 20 = _
          rw [d2.1 20 (by decide)]
          rfl
        · rw [s6]; rfl
        · rw [gCa.1 5 (by decide), s2.1 7 (by decide)]
          rfl
      · have e1' : fC_Valley_readFrom_3_22 FU 0 (sF (sF (sF (sF (OC SC n) 14 0) 15 0) 16 0) 17 3) = some (rI 1, T) := e1
        have d1' : fC_State_clear_9_2 FU 0 (sF A2 20 0) = some (rV, A3) := d1
        rw [eC0, e1', ev_I, if_neg (by decide), a1, ev_V, b1, ev_V, ev_nx, fC_State_clear_9, d1', ev_V, fC_Shelf_clear, ev_nx, ev_nx, ev_V, ev_nx]
        rw [show (sF (sF (sF A3 26 0) 27 0) 0 0).1 12 = nI (y_D V2) from cv.2.2.1]
      · have e2' : fR_valley_44 FU 0 (sF (sF (sF (sF (OR (sF SR 0 0) n) 8 0) 9 0) 10 0) 11 3) = fR_valley_136 U := e2
        rw [eR0, e2', fR_valley_136, fR_result, u4, ev_nx, r_fine1 (S := sF U 7 (-1)) u4, ev_I, if_neg (by decide), ev_I, if_pos (show (sF U 7 (-1)).1 4 = -1 from u4), s1, ev_V, dR.2.2.1]
      · rw [s2.1 0 (by decide), tF_1, if_neg (by decide), gR.1 0 (by decide), gR0.1 0 (by decide)]
        rfl
    · refine po_rel (b := nI k - 10) (T := T) (U := U) ?_ ?_ ?_ ?_
      · exact rel_end hC hM hB (n := n) ((gC0.wide (by simp) (by simp)).tr gC) ((gR0.wide (by simp) (by simp)).tr gR) (t5.trans u7.symm) (by decide) (by decide) (by decide) (by decide)
      · have e1' : fC_Valley_readFrom_3_22 FU 0 (sF (sF (sF (sF (OC SC n) 14 0) 15 0) 16 0) 17 3) = some (rI 0, T) := e1
        rw [eC0, e1', ev_I, if_pos rfl, t4]
      · rw [eR0]
        exact e2
      · rw [gR.1 0 (by decide), gR0.1 0 (by decide)]
        rfl
  · refine po_ill1 (c := 1) hR ?_ ?_ (fun _ => rfl) (by decide)
    · rw [fC_Main_valley, show (600 : Int32) = nI 600 from rfl, eO, ev_Vx]
    · have e22 : fR_valley_22 x (sF SR 0 0) = some (rI 0, sA (sF (sF SR 0 0) 0 1) 1 (nI 1) ((sF SR 0 0).2.1 1 1 + 1)) := by
        rw [fR_valley_22, fR_valley_23, show fR_may 0 1 1 (sF SR 0 0) = _ from r_may0 1 (k := 1) (by omega) h0 (by decide), ev_I, if_pos rfl]
      rw [fR_valley, ev_nx, eR1]
      by_cases q1 : x < 0
      · rw [if_pos q1, e22]
      · rw [if_neg q1]
        by_cases q2 : nI N < x
        · rw [if_pos q2, e22]
        · exfalso
          obtain ⟨z, hz, e⟩ := nI_of q1
          rw [e] at hx q1 q2
          rw [pz_lt (by omega) (by omega)] at q2
          rw [pz_lt (by omega) (by omega), pz_lt (by omega) (by omega)] at hx
          rcases hx with h | h | h
          · exact q1 h
          · exact q2 h
          · omega
end PV9
