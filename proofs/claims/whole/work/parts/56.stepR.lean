/-! the reference's steps on a row -/
section PE
variable {V : Vy} {A : Nat → Prop} {w : Rw} {S : St} {L : Lw} {a b p d v x y : Nat}
theorem r_knowsThen (hV : VOK V) (ha : a < y_M V) (hp : p < y_P V) (hv : v < 2 ^ 31) : fR_knowsThen (nI a) (nI p) (nI v) S = some (rV, sA S 18 (nI (0 + 8 * a + p)) (nI v)) := by
  have h3 := hV.1
  have h4 := hV.2.1
  rw [fR_knowsThen, if_pos (nI_pos' hv), r_ix, fR_knowsThen_21, pz_gib (by omega) (by omega), ev_nx]
theorem r_knowsThenD (hV : VOK V) (ha : a < y_M V) (hp : p < y_P V) (hx : x < 2 ^ 30) (hy : y < 2 ^ 30) : fR_knowsThen (nI a) (nI p) (nI x - nI y) S = some (rV, sA S 18 (nI (0 + 8 * a + p)) (nI (x - y))) := by
  by_cases h : y ≤ x
  · rw [pk_sub h]
    exact r_knowsThen hV ha hp (by omega)
  · have h3 := hV.1
    have h4 := hV.2.1
    have e : x - y = 0 := by omega
    rw [fR_knowsThen, if_neg (Int32.not_le.mpr (pk_sneg hy (by omega))), r_ix, fR_knowsThen_21, pz_gib (by omega) (by omega), ev_nx, e]
    rfl
theorem RR.sK' (hV : VOK V) (h : RR V A w (S.2.1 18)) (ha : a < y_M V) (hp : p < y_P V) (hv : v ≤ y_l V p) : RR V A (w_sK w a p v) ((sA S 18 (nI (0 + 8 * a + p)) (nI v)).2.1 18) := by
  have h3 := hV.1
  have h4 := hV.2.1
  rw [tA_21, if_pos rfl, nI_clamp (by omega)]
  exact h.sK hV ha hp hv
theorem r_isTaught (hv : RV V S) (hL : RLw L S) (hr : RR V A w (S.2.1 18)) (hA : A a) (ha : a < y_M V) (hp : p < y_P V) : ∃ T, fR_isTaught (nI a) (nI p) S = some (rI (if w_gain V L w a p = 0 then 0 else 1), T) ∧ frm [] [13, 14, 18] S T ∧ RR V A (w_teach V L w a p) (T.2.1 18) := by
  have h3 := hv.ok.1
  have h4 := hv.ok.2.1
  have h6 := hr.ok.1 a ha p hp
  have h7 := hv.ok.l hp
  obtain ⟨T, e, g⟩ := r_moreBy hv hL hr hA ha hp
  have hg : w_gain V L w a p ≤ y_l V p - w_K w a p := Nat.min_le_right _ _
  have g2 : frm [] [13, 14, 18] S T := g.wide (by simp) (by simp)
  have hr1 : RR V A w (T.2.1 18) := by rw [g.2.1 18 (by decide)]; exact hr
  rw [fR_isTaught, e, ev_I]
  by_cases h0 : w_gain V L w a p = 0
  · rw [if_pos h0, h0, if_neg (by decide)]
    refine ⟨T, rfl, g2, ?_⟩
    rw [w_teach, if_pos h0]
    exact hr1
  · rw [if_neg h0, if_pos (by rw [show (0 : Int32) = nI 0 from rfl]; exact nI_lt (by omega) (by omega)), r_knownOf hv.ok hr1 hA ha hp, ev_I, nI_add, r_knowsThen hv.ok ha hp (by omega), ev_V]
    rw [show (60 : Int32) + nI a = nI (60 + a) from nI_add 60 a, show (66 : Int32) + nI a = nI (66 + a) from nI_add 66 a, show (78 : Int32) + nI a = nI (78 + a) from nI_add 78 a]
    have hr2 := hr1.sK' (v := w_K w a p + w_gain V L w a p) hv.ok ha hp (by omega)
    have g3 := g2.A (a := 18) (i := nI (0 + 8 * a + p)) (v := nI (w_K w a p + w_gain V L w a p)) (by simp)
    generalize sA T 18 (nI (0 + 8 * a + p)) (nI (w_K w a p + w_gain V L w a p)) = T2 at hr2 g3 ⊢
    rw [pz_gib (by omega) (by omega), pz_gib (by omega) (by omega), pz_rA (by omega), (hr2.2.1 a hA ha).2.2.1, ev_nx]
    have hr3 : RR V A (w_sc (w_sK w a p (w_K w a p + w_gain V L w a p)) 0 a (w_c w 0 a + 1)) ((sA T2 18 (nI (60 + a)) (w_c w 0 a + 1)).2.1 18) := by
      rw [tA_21, if_pos rfl, nI_clamp (by omega)]
      exact hr2.sc (i := 0) hv.ok ha (by omega)
    have g4 := g3.A (a := 18) (i := nI (60 + a)) (v := w_c w 0 a + 1) (by simp)
    rw [w_sK_c]
    generalize sA T2 18 (nI (60 + a)) (w_c w 0 a + 1) = T3 at hr3 g4 ⊢
    rw [pz_gib (by omega) (by omega), pz_gib (by omega) (by omega), pz_rA (by omega), (hr3.2.1 a hA ha).2.2.2.1, ev_nx, w_sc_c, if_neg (by omega), w_sK_c]
    have hr4 : RR V A (w_sc (w_sc (w_sK w a p (w_K w a p + w_gain V L w a p)) 0 a (w_c w 0 a + 1)) 1 a (w_c w 1 a + 1)) ((sA T3 18 (nI (66 + a)) (w_c w 1 a + 1)).2.1 18) := by
      rw [tA_21, if_pos rfl, nI_clamp (by omega)]
      exact hr3.sc (i := 1) hv.ok ha (by omega)
    have g5 := g4.A (a := 18) (i := nI (66 + a)) (v := w_c w 1 a + 1) (by simp)
    generalize sA T3 18 (nI (66 + a)) (w_c w 1 a + 1) = T4 at hr4 g5 ⊢
    rw [pz_gib (by omega) (by omega), pz_gib (by omega) (by omega), pz_rA (by omega), (hr4.2.1 a hA ha).2.2.2.2.2, ev_nx, w_sc_c, if_neg (by omega), w_sc_c, if_neg (by omega), w_sK_c]
    refine ⟨_, rfl, g5.A (by simp), ?_⟩
    rw [tA_21, if_pos rfl, nI_clamp (by omega), w_teach, if_neg h0]
    exact hr4.sc (i := 3) hv.ok ha (by omega)
theorem r_isForgotten (hv : RV V S) (hr : RR V A w (S.2.1 18)) (hA : A a) (ha : a < y_M V) (hp : p < y_P V) : ∃ T, fR_isForgotten (nI a) (nI p) S = some (rI (if w_K w a p = 0 then 0 else 1), T) ∧ frm [] [13, 14, 18] S T ∧ RR V A (w_forget w a p) (T.2.1 18) := by
  have h6 := hr.ok.1 a ha p hp
  have h7 := hv.ok.l hp
  rw [fR_isForgotten, r_knownOf hv.ok hr hA ha hp, ev_I]
  by_cases h0 : w_K w a p = 0
  · rw [if_pos h0, if_pos (by rw [h0]; rfl)]
    refine ⟨S, rfl, frm.rf, ?_⟩
    rw [w_forget, if_pos h0]
    exact hr
  · rw [if_neg h0, if_neg (nI_ne0 (by omega) (by omega)), show (0 : Int32) = nI 0 from rfl, r_knowsThen hv.ok ha hp (by omega), ev_V]
    refine ⟨_, rfl, frm.rf.A (by simp), ?_⟩
    rw [w_forget, if_neg h0]
    exact hr.sK' hv.ok ha hp (by omega)
theorem r_slips (hv : RV V S) (hr : RR V A w (S.2.1 18)) (hA : A a) (ha : a < y_M V) (hp : p < y_P V) : ∃ T, fR_slips (nI a) (nI p) S = some (rV, T) ∧ frm [] [18] S T ∧ RR V A (w_slip w a p) (T.2.1 18) := by
  have h4 := hv.ok.2.1
  have h6 := hr.ok.1 a ha p hp
  have h7 := hv.ok.l hp
  have hr2 := hr.sK' (v := w_K w a p - 4) hv.ok ha hp (by omega)
  have g := (frm.rf (S := S) (fs := []) (as := [18])).A (a := 18) (i := nI (0 + 8 * a + p)) (v := nI (w_K w a p - 4)) (by simp)
  rw [fR_slips, r_knownOf hv.ok hr hA ha hp, ev_I, show (4 : Int32) = nI 4 from rfl, r_knowsThenD hv.ok ha hp (by omega) (by omega), ev_V]
  generalize sA S 18 (nI (0 + 8 * a + p)) (nI (w_K w a p - 4)) = T at hr2 g ⊢
  rw [show (72 : Int32) + nI a = nI (72 + a) from nI_add 72 a, pz_gib (by omega) (by omega), pz_gib (by omega) (by omega), pz_rA (by omega), (hr2.2.1 a hA ha).2.2.2.2.1, ev_nx]
  refine ⟨_, rfl, g.A (by simp), ?_⟩
  rw [tA_21, if_pos rfl, nI_clamp (by omega)]
  exact hr2.sc (i := 2) hv.ok ha (by omega)
theorem r_isWell (hv : RV V S) (hr : RR V A w (S.2.1 18)) (hd : d < y_D V) (hA : A (y_dm V d)) : fR_isWell (nI d) S = some (rI (if w_well V w d then 1 else 0), S) := by
  have h2 := hv.ok.2.2.1
  have h3 := hv.ok.1
  have h4 := hv.ok.2.1
  have h5 := hv.ok.d hd
  have h6 := hv.2.2.2.2.2.2.1 d hd
  have h7 := hv.ok.l h5.2.1
  have h8 := r_knownOf hv.ok hr hA h5.1 h5.2.1
  have h9 := hr.ok.1 _ h5.1 _ h5.2.1
  have h10 := (hr.2.1 _ hA h5.1).2.2.2.1
  have h11 := (hv.2.2.2.2.1 _ h5.2.1).1
  rw [fR_isWell, r_i41, r_i42, r_i4, pz_gib (by omega) (by omega), pz_rA (by omega), h6.1, ev_nx, pz_gib (by omega) (by omega), pz_rA (by omega), h6.2.1, ev_nx, pz_gib (by omega) (by omega), pz_rA (by omega), h6.2.2.1, ev_nx, r_i2, pz_gib (by omega) (by omega), pz_rA (by omega), h11, ev_nx, h8, ev_I, pz_gib (by omega) (by omega), pz_rA (by omega), h11, show nI (y_l V (y_dp V d)) / 2 + 1 = nI (y_l V (y_dp V d) / 2 + 1) from by rw [show (2 : Int32) = nI 2 from rfl, pk_div (by omega) (by omega) (by omega), nI_1], it_lt (by omega) (by omega)]
  unfold w_well
  by_cases q : w_K w (y_dm V d) (y_dp V d) < y_l V (y_dp V d)
  · rw [if_pos q, fR_isWell_68, it_eqL (by omega) (by omega), it_eqL (by omega) (by omega), decide_eq_false (show ¬ y_l V (y_dp V d) ≤ w_K w (y_dm V d) (y_dp V d) by omega)]
    by_cases q0 : y_dk V d = 0
    · rw [if_pos q0, if_pos q0]; rfl
    · rw [if_neg q0, if_neg q0]
      by_cases q2 : y_dk V d = 2
      · rw [if_pos q2, if_pos q2]; rfl
      · rw [if_neg q2, if_neg q2, if_pos rfl, h8, ev_I, it_lt (by omega) (by omega)]
        by_cases q3 : w_K w (y_dm V d) (y_dp V d) < y_l V (y_dp V d) / 2 + 1
        · rw [if_pos q3, decide_eq_false (by omega)]; rfl
        · rw [if_neg q3, decide_eq_true (by omega)]; rfl
  · rw [if_neg q, fR_isWell_68, it_eqL (by omega) (by omega), it_eqL (by omega) (by omega), decide_eq_true (show y_l V (y_dp V d) ≤ w_K w (y_dm V d) (y_dp V d) by omega)]
    by_cases q0 : y_dk V d = 0
    · rw [if_pos q0, if_pos q0]; rfl
    · rw [if_neg q0, if_neg q0]
      by_cases q2 : y_dk V d = 2
      · rw [if_pos q2, if_pos q2, if_neg (by decide), show (66 : Int32) + nI (y_dm V d) = nI (66 + y_dm V d) from nI_add 66 _, pz_gib (by omega) (by omega), pz_rA (by omega), h10]
        by_cases q3 : w_c w 1 (y_dm V d) ≤ 0
        · rw [if_pos q3, decide_eq_true q3]; rfl
        · rw [if_neg q3, decide_eq_false q3]; rfl
      · rw [if_neg q2, if_neg q2, if_neg (by decide)]; rfl
theorem r_paid (hV : VOK V) (hr : RR V A w (S.2.1 18)) (hd : d < y_D V) {X Y : Oz} : (gd (ib (84 + nI d) 95) (if (rA S 18 (84 + nI d)) = 1 then X else Y)) = if w_p w d then X else Y := by
  have h2 := hV.2.2.1
  rw [show (84 : Int32) + nI d = nI (84 + d) from nI_add 84 d, pz_gib (by omega) (by omega), pz_rA (by omega), hr.2.2.1 d hd]
  cases w_p w d
  · rw [if_neg (by decide), if_neg pz_ft]
  · rw [if_pos (by decide), if_pos rfl]
theorem r_isSaid (hv : RV V S) (hr : RR V A w (S.2.1 18)) (hd : d < y_D V) (hA : A (y_dm V d)) : ∃ T, fR_isSaid (nI d) S = some (rI (if w_p w d then 0 else 1), T) ∧ frm [] [18] S T ∧ RR V A (w_say V w d) (T.2.1 18) := by
  have h2 := hv.ok.2.2.1
  have h5 := hv.ok.d hd
  have h6 := hv.2.2.2.2.2.2.1 d hd
  rw [fR_isSaid, r_paid hv.ok hr hd]
  unfold w_say
  cases hp : w_p w d
  · rw [if_neg pz_ft, r_isWell hv hr hd hA, ev_I, it_b0]
    cases hw : w_well V w d
    · rw [if_neg pz_ft, r_i41, r_i4, pz_gib (by omega) (by omega), pz_gib (by omega) (by omega), pz_rA (by omega), pz_rA (by omega), h6.1, h6.2.1]
      obtain ⟨T, e, g, hr2⟩ := r_slips hv hr hA h5.1 h5.2.1
      rw [e, ev_V]
      exact ⟨T, rfl, g, hr2⟩
    · rw [if_pos rfl, show (84 : Int32) + nI d = nI (84 + d) from nI_add 84 d, pz_gib (by omega) (by omega), ev_nx]
      refine ⟨_, rfl, frm.rf.A (by simp), ?_⟩
      rw [tA_21, if_pos rfl, nI_clamp (by omega)]
      exact hr.sp hv.ok hd
  · rw [if_pos rfl]
    exact ⟨S, rfl, frm.rf, hr⟩
theorem r_isByTwo (hv : RV V S) (hr : RR V A w (S.2.1 18)) (hd : d < y_D V) (hA : A (y_dm V d)) (hB : A b) (hb : b < y_M V) : fR_isByTwo (nI d) (nI b) S = some (rI (if w_two V w d b then 1 else 0), S) := by
  have h2 := hv.ok.2.2.1
  have h3 := hv.ok.1
  have h5 := hv.ok.d hd
  have h6 := hv.2.2.2.2.2.2.1 d hd
  have h7 := hv.ok.l h5.2.1
  have h8 := r_knownOf hv.ok hr hA h5.1 h5.2.1
  have h9 := hr.ok.1 _ h5.1 _ h5.2.1
  have h10 := r_knownOf hv.ok hr hB hb h5.2.1
  have h12 := hr.ok.1 _ hb _ h5.2.1
  have h11 := (hv.2.2.2.2.1 _ h5.2.1).1
  rw [fR_isByTwo, r_i41, r_i4, pz_gib (by omega) (by omega), pz_gib (by omega) (by omega), pz_rA (by omega), pz_rA (by omega), h6.1, h6.2.1, h8, ev_I, pz_gib (by omega) (by omega), pz_rA (by omega), h6.2.1, h10, ev_I, pz_gib (by omega) (by omega), pz_rA (by omega), h6.2.1, r_i2, pz_gib (by omega) (by omega), pz_rA (by omega), h11, nI_add, it_lt (by omega) (by omega)]
  unfold w_two
  by_cases q : w_K w (y_dm V d) (y_dp V d) + w_K w b (y_dp V d) < y_l V (y_dp V d)
  · rw [if_pos q, decide_eq_false (by omega)]; rfl
  · rw [if_neg q, decide_eq_true (by omega)]; rfl
theorem r_isSung (hv : RV V S) (hr : RR V A w (S.2.1 18)) (hd : d < y_D V) (hA : A (y_dm V d)) (hB : A b) (hb : b < y_M V) : ∃ T, fR_isSung (nI d) (nI b) S = some (rI (if w_p w d || decide (b = y_dm V d) then 0 else 1), T) ∧ frm [] [18] S T ∧ RR V A (w_duet V w d b) (T.2.1 18) := by
  have h2 := hv.ok.2.2.1
  have h4 := hv.ok.2.1
  have h5 := hv.ok.d hd
  have h6 := hv.2.2.2.2.2.2.1 d hd
  rw [fR_isSung, r_paid hv.ok hr hd]
  unfold w_duet
  cases hp : w_p w d
  · rw [if_neg pz_ft, r_i4, pz_gib (by omega) (by omega), pz_rA (by omega), h6.1, it_eq (by omega) (by omega)]
    by_cases q : b = y_dm V d
    · rw [if_pos q.symm, decide_eq_true q]
      exact ⟨S, rfl, frm.rf, hr⟩
    · rw [if_neg (fun g => q g.symm), decide_eq_false q, r_isByTwo hv hr hd hA hB hb, ev_I, it_b0]
      cases hw : w_two V w d b
      · rw [if_neg pz_ft, nI_1 (4 * d), pz_gib (by omega) (by omega), pz_gib (by omega) (by omega), pz_rA (by omega), pz_rA (by omega), h6.1, h6.2.1]
        obtain ⟨T, e, g, hr2⟩ := r_slips hv hr hA h5.1 h5.2.1
        have hv2 : RV V T := hv.fr g (by decide) (by decide)
        have h62 := hv2.2.2.2.2.2.2.1 d hd
        rw [e, ev_V, pz_gib (by omega) (by omega), pz_rA (by omega), h62.2.1]
        obtain ⟨T2, e2, g2, hr3⟩ := r_slips hv2 hr2 hB hb h5.2.1
        rw [e2, ev_V]
        exact ⟨T2, rfl, g.tr g2, hr3⟩
      · rw [if_pos rfl, show (84 : Int32) + nI d = nI (84 + d) from nI_add 84 d, pz_gib (by omega) (by omega), ev_nx]
        refine ⟨_, rfl, frm.rf.A (by simp), ?_⟩
        rw [tA_21, if_pos rfl, nI_clamp (by omega)]
        exact hr.sp hv.ok hd
  · rw [if_pos rfl]
    exact ⟨S, rfl, frm.rf, hr⟩
end PE
