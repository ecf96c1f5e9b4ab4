/-! the class's steps on a row (written by wip/whole/pure/p55.py) -/
section PD
variable {V : Vy} {A : Nat → Prop} {w : Rw} {S : St} {L : Lw} {a b p d v : Nat}
theorem e_ix (a p : Nat) : (0 : Int32) + nI a * 8 + nI p = nI (0 + a * 8 + p) := by simp only [pz_li, pk_mul, nI_add]
theorem e_teach_9 (hv : CV V S) (hL : CLw L S) (hr : RC V A w (S.2.1 46)) (hA : A a) (ha : a < y_M V) (hp : p < y_P V) : ∃ T, fC_State_teach_9 (nI a) (nI p) S = some (rI (if w_gain V L w a p = 0 then 0 else 1), T) ∧ frm [] [32, 33, 46] S T ∧ RC V A (w_teach V L w a p) (T.2.1 46) := by
  have h3 := hv.ok.1
  have h4 := hv.ok.2.1
  have h6 := hr.ok.1 a ha p hp
  have h7 := hv.ok.l hp
  obtain ⟨T, e, g⟩ := e_gainOf_9 hv hL hr hA ha hp
  have hg : w_gain V L w a p ≤ y_l V p - w_K w a p := Nat.min_le_right _ _
  have g2 : frm [] [32, 33, 46] S T := g.wide (by simp) (by simp)
  have hr1 : RC V A w (T.2.1 46) := by rw [g.2.1 46 (by decide)]; exact hr
  rw [fC_State_teach_9, e, ev_I]
  by_cases h0 : w_gain V L w a p = 0
  · rw [if_pos h0, h0, if_neg (by decide)]
    refine ⟨T, rfl, g2, ?_⟩
    rw [w_teach, if_pos h0]
    exact hr1
  · rw [if_neg h0, if_pos (by rw [show (0 : Int32) = nI 0 from rfl]; exact nI_lt (by omega) (by omega)), fC_State_place, ev_I, e_ix, pz_gib (by omega) (by omega), pz_gib (by omega) (by omega), pz_rA (by omega), hr1.1 a hA ha p hp, nI_add, ev_nx]
    rw [show (48 : Int32) + nI a = nI (48 + a) from nI_add 48 a, show (54 : Int32) + nI a = nI (54 + a) from nI_add 54 a, show (66 : Int32) + nI a = nI (66 + a) from nI_add 66 a]
    have hr2 : RC V A (w_sK w a p (w_K w a p + w_gain V L w a p)) ((sA T 46 (nI (0 + a * 8 + p)) (nI (w_K w a p + w_gain V L w a p))).2.1 46) := by
      rw [tA_21, if_pos rfl, nI_clamp (by omega)]
      exact hr1.sK hv.ok ha hp (by omega)
    have g3 := g2.A (a := 46) (i := nI (0 + a * 8 + p)) (v := nI (w_K w a p + w_gain V L w a p)) (by simp)
    generalize sA T 46 (nI (0 + a * 8 + p)) (nI (w_K w a p + w_gain V L w a p)) = T2 at hr2 g3 ⊢
    rw [pz_gib (by omega) (by omega), pz_gib (by omega) (by omega), pz_rA (by omega), (hr2.2.1 a hA ha).1, ev_nx]
    have hr3 : RC V A (w_sc (w_sK w a p (w_K w a p + w_gain V L w a p)) 0 a (w_c w 0 a + 1)) ((sA T2 46 (nI (48 + a)) (w_c w 0 a + 1)).2.1 46) := by
      rw [tA_21, if_pos rfl, nI_clamp (by omega)]
      exact hr2.sc (i := 0) hv.ok ha (by omega)
    have g4 := g3.A (a := 46) (i := nI (48 + a)) (v := w_c w 0 a + 1) (by simp)
    rw [w_sK_c]
    generalize sA T2 46 (nI (48 + a)) (w_c w 0 a + 1) = T3 at hr3 g4 ⊢
    rw [pz_gib (by omega) (by omega), pz_gib (by omega) (by omega), pz_rA (by omega), (hr3.2.1 a hA ha).2.1, ev_nx, w_sc_c, if_neg (by omega), w_sK_c]
    have hr4 : RC V A (w_sc (w_sc (w_sK w a p (w_K w a p + w_gain V L w a p)) 0 a (w_c w 0 a + 1)) 1 a (w_c w 1 a + 1)) ((sA T3 46 (nI (54 + a)) (w_c w 1 a + 1)).2.1 46) := by
      rw [tA_21, if_pos rfl, nI_clamp (by omega)]
      exact hr3.sc (i := 1) hv.ok ha (by omega)
    have g5 := g4.A (a := 46) (i := nI (54 + a)) (v := w_c w 1 a + 1) (by simp)
    generalize sA T3 46 (nI (54 + a)) (w_c w 1 a + 1) = T4 at hr4 g5 ⊢
    rw [pz_gib (by omega) (by omega), pz_gib (by omega) (by omega), pz_rA (by omega), (hr4.2.1 a hA ha).2.2.2, ev_nx, w_sc_c, if_neg (by omega), w_sc_c, if_neg (by omega), w_sK_c]
    refine ⟨_, rfl, g5.A (by simp), ?_⟩
    rw [tA_21, if_pos rfl, nI_clamp (by omega), w_teach, if_neg h0]
    exact hr4.sc (i := 3) hv.ok ha (by omega)
theorem e_isPaid_9 (hv : CV V S) (hr : RC V A w (S.2.1 46)) (hd : d < y_D V) : fC_State_isPaid_9 (nI d) S = some (rI (if w_p w d then 1 else 0), S) := by
  have h3 := hv.ok.2.2.1
  rw [fC_State_isPaid_9, show (72 : Int32) = nI 72 from rfl, pz_rA (by omega), hr.2.2.1, it_t1 (by omega), tb_orB (by omega) (by omega)]
  cases h : w_p w d
  · simp
  · simp [hd]
theorem e_isWellKnown_9 (hv : CV V S) (hr : RC V A w (S.2.1 46)) (hd : d < y_D V) (hA : A (y_dm V d)) : fC_State_isWellKnown_9 (nI d) S = some (rI (if w_well V w d then 1 else 0), S) := by
  have h2 := hv.ok.2.2.1
  have h3 := hv.ok.1
  have h4 := hv.ok.2.1
  have h5 := hv.ok.d hd
  have h6 := hv.2.2.2.2.2.2.1 d hd
  have h7 := hv.ok.l h5.2.1
  have h8 := hr.1 _ hA h5.1 _ h5.2.1
  have h9 := hr.ok.1 _ h5.1 _ h5.2.1
  have h10 := (hr.2.1 _ hA h5.1).2.1
  have h11 := (hv.2.2.2.2.1 _ h5.2.1).1
  rw [fC_State_isWellKnown_9, pz_gib (by omega) (by omega), pz_rA (by omega), h6.1, ev_nx, pz_gib (by omega) (by omega), pz_rA (by omega), h6.2.1, ev_nx, fC_State_place, ev_I, e_ix, pz_gib (by omega) (by omega), pz_rA (by omega), h8, ev_nx, pz_gib (by omega) (by omega), pz_rA (by omega), h11, ev_nx, show (2 : Int32) = nI 2 from rfl, pk_div (by omega) (by omega) (by omega), nI_1]
  have hk : ∀ s0 : Nat, s0 ≤ 50 → (y_l V (y_dp V d) ≤ w_K w (y_dm V d) (y_dp V d) ∨ y_l V (y_dp V d) / 2 + 1 ≤ w_K w (y_dm V d) (y_dp V d) ↔ s0 ≤ w_K w (y_dm V d) (y_dp V d)) → fC_State_isWellKnown_9_65 (nI d) (nI (y_dm V d)) (nI (w_K w (y_dm V d) (y_dp V d))) (nI (y_l V (y_dp V d))) (nI s0) S = some (rI (if w_well V w d then 1 else 0), S) := by
    intro s0 hs0 hs
    rw [fC_State_isWellKnown_9_65, pz_gib (by omega) (by omega), pz_rA (by omega), h6.2.2.1, ev_nx, show (54 : Int32) + nI (y_dm V d) = nI (54 + y_dm V d) from nI_add 54 _, pz_gib (by omega) (by omega), pz_rA (by omega), h10, it_eqL (by omega) (by omega), it_eqL (by omega) (by omega), it_lt (by omega) (by omega), it_lt (by omega) (by omega), it_lt (by omega) (by omega)]
    unfold w_well
    by_cases q0 : y_dk V d = 0
    · rw [if_pos q0, if_pos q0]
      by_cases q : w_K w (y_dm V d) (y_dp V d) < y_l V (y_dp V d)
      · rw [if_pos q, decide_eq_false (by omega)]; rfl
      · rw [if_neg q, decide_eq_true (by omega)]; rfl
    · rw [if_neg q0, if_neg q0]
      by_cases q2 : y_dk V d = 2
      · rw [if_pos q2, if_pos q2]
        by_cases q : w_K w (y_dm V d) (y_dp V d) < y_l V (y_dp V d)
        · rw [if_pos q, decide_eq_false (by omega)]; rfl
        · rw [if_neg q, decide_eq_true (by omega)]
          by_cases q3 : w_c w 1 (y_dm V d) ≤ 0
          · rw [if_pos q3, decide_eq_true q3]; rfl
          · rw [if_neg q3, decide_eq_false q3]; rfl
      · rw [if_neg q2, if_neg q2]
        by_cases q : w_K w (y_dm V d) (y_dp V d) < s0
        · rw [if_pos q, decide_eq_false (by omega), decide_eq_false (by omega)]; rfl
        · rw [if_neg q]
          rcases hs.mpr (by omega) with h | h
          · rw [decide_eq_true h]; rfl
          · rw [decide_eq_true h, Bool.or_true]; rfl
  rw [it_le (by omega) (by omega)]
  split
  · exact hk _ (by omega) (by omega)
  · exact hk _ (by omega) (by omega)
theorem e_lose_9 (hv : CV V S) (hr : RC V A w (S.2.1 46)) (hA : A a) (ha : a < y_M V) (hp : p < y_P V) (hv1 : v ≤ 100) : ∃ T, fC_State_lose_9 (nI a) (nI p) (nI v) S = some (rV, T) ∧ frm [] [46] S T ∧ RC V A (w_sK w a p (w_K w a p - v)) (T.2.1 46) := by
  have h3 := hv.ok.1
  have h4 := hv.ok.2.1
  have h6 := hr.ok.1 a ha p hp
  have h7 := hv.ok.l hp
  rw [fC_State_lose_9, fC_State_place, ev_I, e_ix, pz_gib (by omega) (by omega), pz_rA (by omega), hr.1 a hA ha p hp, ev_nx, fC_State_place, ev_I, e_ix]
  have hk : fC_State_lose_9_34 (nI (w_K w a p - v)) (nI (0 + a * 8 + p)) S = some (rV, sA S 46 (nI (0 + a * 8 + p)) (nI (w_K w a p - v))) := by
    rw [fC_State_lose_9_34, pz_gib (by omega) (by omega), ev_nx]
  refine ⟨sA S 46 (nI (0 + a * 8 + p)) (nI (w_K w a p - v)), ?_, frm.rf.A (by simp), ?_⟩
  · by_cases h : v ≤ w_K w a p
    · rw [pk_sub h, if_pos (nI_pos' (by omega))]
      exact hk
    · rw [if_neg (Int32.not_le.mpr (pk_sneg (by omega) (by omega)))]
      have e : w_K w a p - v = 0 := by omega
      rw [e] at hk ⊢
      exact hk
  · rw [tA_21, if_pos rfl, nI_clamp (by omega)]
    exact hr.sK hv.ok ha hp (by omega)
theorem e_slip_9 (hv : CV V S) (hr : RC V A w (S.2.1 46)) (hA : A a) (ha : a < y_M V) (hp : p < y_P V) : ∃ T, fC_State_slip_9 (nI a) (nI p) S = some (rV, T) ∧ frm [] [46] S T ∧ RC V A (w_slip w a p) (T.2.1 46) := by
  have h4 := hv.ok.2.1
  obtain ⟨T, e, g, hr2⟩ := e_lose_9 (v := 4) hv hr hA ha hp (by omega)
  rw [fC_State_slip_9, show (4 : Int32) = nI 4 from rfl, e, ev_V, show (60 : Int32) + nI a = nI (60 + a) from nI_add 60 a, pz_gib (by omega) (by omega), pz_gib (by omega) (by omega), pz_rA (by omega), (hr2.2.1 a hA ha).2.2.1, ev_nx]
  refine ⟨_, rfl, g.A (by simp), ?_⟩
  rw [tA_21, if_pos rfl, nI_clamp (by omega)]
  exact hr2.sc (i := 2) hv.ok ha (by omega)
theorem e_sayAlone_9 (hv : CV V S) (hr : RC V A w (S.2.1 46)) (hd : d < y_D V) (hA : A (y_dm V d)) : ∃ T, fC_State_sayAlone_9 (nI d) S = some (rI (if w_p w d then 0 else 1), T) ∧ frm [] [46] S T ∧ RC V A (w_say V w d) (T.2.1 46) := by
  have h2 := hv.ok.2.2.1
  have h5 := hv.ok.d hd
  have h6 := hv.2.2.2.2.2.2.1 d hd
  rw [fC_State_sayAlone_9, e_isPaid_9 hv hr hd, ev_I, it_b0]
  unfold w_say
  cases hp : w_p w d
  · rw [if_neg pz_ft, e_isWellKnown_9 hv hr hd hA, ev_I, it_b0]
    cases hw : w_well V w d
    · rw [if_neg pz_ft, pz_gib (by omega) (by omega), pz_gib (by omega) (by omega), pz_rA (by omega), pz_rA (by omega), h6.1, h6.2.1]
      obtain ⟨T, e, g, hr2⟩ := e_slip_9 hv hr hA h5.1 h5.2.1
      rw [e, ev_V]
      exact ⟨T, rfl, g, hr2⟩
    · rw [if_pos rfl, ev_nx]
      refine ⟨_, rfl, frm.rf.A (by simp), ?_⟩
      rw [tA_21, if_pos rfl, show (72 : Int32) = nI 72 from rfl, nI_clamp (by omega), pz_rA (by omega)]
      exact hr.sp hv.ok hd
  · rw [if_pos rfl]
    exact ⟨S, rfl, frm.rf, hr⟩
theorem e_teach_13 (hv : CV V S) (hL : CLw L S) (hr : RC V A w (S.2.1 52)) (hA : A a) (ha : a < y_M V) (hp : p < y_P V) : ∃ T, fC_State_teach_13 (nI a) (nI p) S = some (rI (if w_gain V L w a p = 0 then 0 else 1), T) ∧ frm [] [32, 33, 52] S T ∧ RC V A (w_teach V L w a p) (T.2.1 52) := by
  have h3 := hv.ok.1
  have h4 := hv.ok.2.1
  have h6 := hr.ok.1 a ha p hp
  have h7 := hv.ok.l hp
  obtain ⟨T, e, g⟩ := e_gainOf_13 hv hL hr hA ha hp
  have hg : w_gain V L w a p ≤ y_l V p - w_K w a p := Nat.min_le_right _ _
  have g2 : frm [] [32, 33, 52] S T := g.wide (by simp) (by simp)
  have hr1 : RC V A w (T.2.1 52) := by rw [g.2.1 52 (by decide)]; exact hr
  rw [fC_State_teach_13, e, ev_I]
  by_cases h0 : w_gain V L w a p = 0
  · rw [if_pos h0, h0, if_neg (by decide)]
    refine ⟨T, rfl, g2, ?_⟩
    rw [w_teach, if_pos h0]
    exact hr1
  · rw [if_neg h0, if_pos (by rw [show (0 : Int32) = nI 0 from rfl]; exact nI_lt (by omega) (by omega)), fC_State_place, ev_I, e_ix, pz_gib (by omega) (by omega), pz_gib (by omega) (by omega), pz_rA (by omega), hr1.1 a hA ha p hp, nI_add, ev_nx]
    rw [show (48 : Int32) + nI a = nI (48 + a) from nI_add 48 a, show (54 : Int32) + nI a = nI (54 + a) from nI_add 54 a, show (66 : Int32) + nI a = nI (66 + a) from nI_add 66 a]
    have hr2 : RC V A (w_sK w a p (w_K w a p + w_gain V L w a p)) ((sA T 52 (nI (0 + a * 8 + p)) (nI (w_K w a p + w_gain V L w a p))).2.1 52) := by
      rw [tA_21, if_pos rfl, nI_clamp (by omega)]
      exact hr1.sK hv.ok ha hp (by omega)
    have g3 := g2.A (a := 52) (i := nI (0 + a * 8 + p)) (v := nI (w_K w a p + w_gain V L w a p)) (by simp)
    generalize sA T 52 (nI (0 + a * 8 + p)) (nI (w_K w a p + w_gain V L w a p)) = T2 at hr2 g3 ⊢
    rw [pz_gib (by omega) (by omega), pz_gib (by omega) (by omega), pz_rA (by omega), (hr2.2.1 a hA ha).1, ev_nx]
    have hr3 : RC V A (w_sc (w_sK w a p (w_K w a p + w_gain V L w a p)) 0 a (w_c w 0 a + 1)) ((sA T2 52 (nI (48 + a)) (w_c w 0 a + 1)).2.1 52) := by
      rw [tA_21, if_pos rfl, nI_clamp (by omega)]
      exact hr2.sc (i := 0) hv.ok ha (by omega)
    have g4 := g3.A (a := 52) (i := nI (48 + a)) (v := w_c w 0 a + 1) (by simp)
    rw [w_sK_c]
    generalize sA T2 52 (nI (48 + a)) (w_c w 0 a + 1) = T3 at hr3 g4 ⊢
    rw [pz_gib (by omega) (by omega), pz_gib (by omega) (by omega), pz_rA (by omega), (hr3.2.1 a hA ha).2.1, ev_nx, w_sc_c, if_neg (by omega), w_sK_c]
    have hr4 : RC V A (w_sc (w_sc (w_sK w a p (w_K w a p + w_gain V L w a p)) 0 a (w_c w 0 a + 1)) 1 a (w_c w 1 a + 1)) ((sA T3 52 (nI (54 + a)) (w_c w 1 a + 1)).2.1 52) := by
      rw [tA_21, if_pos rfl, nI_clamp (by omega)]
      exact hr3.sc (i := 1) hv.ok ha (by omega)
    have g5 := g4.A (a := 52) (i := nI (54 + a)) (v := w_c w 1 a + 1) (by simp)
    generalize sA T3 52 (nI (54 + a)) (w_c w 1 a + 1) = T4 at hr4 g5 ⊢
    rw [pz_gib (by omega) (by omega), pz_gib (by omega) (by omega), pz_rA (by omega), (hr4.2.1 a hA ha).2.2.2, ev_nx, w_sc_c, if_neg (by omega), w_sc_c, if_neg (by omega), w_sK_c]
    refine ⟨_, rfl, g5.A (by simp), ?_⟩
    rw [tA_21, if_pos rfl, nI_clamp (by omega), w_teach, if_neg h0]
    exact hr4.sc (i := 3) hv.ok ha (by omega)
theorem e_isPaid_13 (hv : CV V S) (hr : RC V A w (S.2.1 52)) (hd : d < y_D V) : fC_State_isPaid_13 (nI d) S = some (rI (if w_p w d then 1 else 0), S) := by
  have h3 := hv.ok.2.2.1
  rw [fC_State_isPaid_13, show (72 : Int32) = nI 72 from rfl, pz_rA (by omega), hr.2.2.1, it_t1 (by omega), tb_orB (by omega) (by omega)]
  cases h : w_p w d
  · simp
  · simp [hd]
theorem e_isWellKnown_13 (hv : CV V S) (hr : RC V A w (S.2.1 52)) (hd : d < y_D V) (hA : A (y_dm V d)) : fC_State_isWellKnown_13 (nI d) S = some (rI (if w_well V w d then 1 else 0), S) := by
  have h2 := hv.ok.2.2.1
  have h3 := hv.ok.1
  have h4 := hv.ok.2.1
  have h5 := hv.ok.d hd
  have h6 := hv.2.2.2.2.2.2.1 d hd
  have h7 := hv.ok.l h5.2.1
  have h8 := hr.1 _ hA h5.1 _ h5.2.1
  have h9 := hr.ok.1 _ h5.1 _ h5.2.1
  have h10 := (hr.2.1 _ hA h5.1).2.1
  have h11 := (hv.2.2.2.2.1 _ h5.2.1).1
  rw [fC_State_isWellKnown_13, pz_gib (by omega) (by omega), pz_rA (by omega), h6.1, ev_nx, pz_gib (by omega) (by omega), pz_rA (by omega), h6.2.1, ev_nx, fC_State_place, ev_I, e_ix, pz_gib (by omega) (by omega), pz_rA (by omega), h8, ev_nx, pz_gib (by omega) (by omega), pz_rA (by omega), h11, ev_nx, show (2 : Int32) = nI 2 from rfl, pk_div (by omega) (by omega) (by omega), nI_1]
  have hk : ∀ s0 : Nat, s0 ≤ 50 → (y_l V (y_dp V d) ≤ w_K w (y_dm V d) (y_dp V d) ∨ y_l V (y_dp V d) / 2 + 1 ≤ w_K w (y_dm V d) (y_dp V d) ↔ s0 ≤ w_K w (y_dm V d) (y_dp V d)) → fC_State_isWellKnown_13_65 (nI d) (nI (y_dm V d)) (nI (w_K w (y_dm V d) (y_dp V d))) (nI (y_l V (y_dp V d))) (nI s0) S = some (rI (if w_well V w d then 1 else 0), S) := by
    intro s0 hs0 hs
    rw [fC_State_isWellKnown_13_65, pz_gib (by omega) (by omega), pz_rA (by omega), h6.2.2.1, ev_nx, show (54 : Int32) + nI (y_dm V d) = nI (54 + y_dm V d) from nI_add 54 _, pz_gib (by omega) (by omega), pz_rA (by omega), h10, it_eqL (by omega) (by omega), it_eqL (by omega) (by omega), it_lt (by omega) (by omega), it_lt (by omega) (by omega), it_lt (by omega) (by omega)]
    unfold w_well
    by_cases q0 : y_dk V d = 0
    · rw [if_pos q0, if_pos q0]
      by_cases q : w_K w (y_dm V d) (y_dp V d) < y_l V (y_dp V d)
      · rw [if_pos q, decide_eq_false (by omega)]; rfl
      · rw [if_neg q, decide_eq_true (by omega)]; rfl
    · rw [if_neg q0, if_neg q0]
      by_cases q2 : y_dk V d = 2
      · rw [if_pos q2, if_pos q2]
        by_cases q : w_K w (y_dm V d) (y_dp V d) < y_l V (y_dp V d)
        · rw [if_pos q, decide_eq_false (by omega)]; rfl
        · rw [if_neg q, decide_eq_true (by omega)]
          by_cases q3 : w_c w 1 (y_dm V d) ≤ 0
          · rw [if_pos q3, decide_eq_true q3]; rfl
          · rw [if_neg q3, decide_eq_false q3]; rfl
      · rw [if_neg q2, if_neg q2]
        by_cases q : w_K w (y_dm V d) (y_dp V d) < s0
        · rw [if_pos q, decide_eq_false (by omega), decide_eq_false (by omega)]; rfl
        · rw [if_neg q]
          rcases hs.mpr (by omega) with h | h
          · rw [decide_eq_true h]; rfl
          · rw [decide_eq_true h, Bool.or_true]; rfl
  rw [it_le (by omega) (by omega)]
  split
  · exact hk _ (by omega) (by omega)
  · exact hk _ (by omega) (by omega)
theorem e_lose_13 (hv : CV V S) (hr : RC V A w (S.2.1 52)) (hA : A a) (ha : a < y_M V) (hp : p < y_P V) (hv1 : v ≤ 100) : ∃ T, fC_State_lose_13 (nI a) (nI p) (nI v) S = some (rV, T) ∧ frm [] [52] S T ∧ RC V A (w_sK w a p (w_K w a p - v)) (T.2.1 52) := by
  have h3 := hv.ok.1
  have h4 := hv.ok.2.1
  have h6 := hr.ok.1 a ha p hp
  have h7 := hv.ok.l hp
  rw [fC_State_lose_13, fC_State_place, ev_I, e_ix, pz_gib (by omega) (by omega), pz_rA (by omega), hr.1 a hA ha p hp, ev_nx, fC_State_place, ev_I, e_ix]
  have hk : fC_State_lose_13_34 (nI (w_K w a p - v)) (nI (0 + a * 8 + p)) S = some (rV, sA S 52 (nI (0 + a * 8 + p)) (nI (w_K w a p - v))) := by
    rw [fC_State_lose_13_34, pz_gib (by omega) (by omega), ev_nx]
  refine ⟨sA S 52 (nI (0 + a * 8 + p)) (nI (w_K w a p - v)), ?_, frm.rf.A (by simp), ?_⟩
  · by_cases h : v ≤ w_K w a p
    · rw [pk_sub h, if_pos (nI_pos' (by omega))]
      exact hk
    · rw [if_neg (Int32.not_le.mpr (pk_sneg (by omega) (by omega)))]
      have e : w_K w a p - v = 0 := by omega
      rw [e] at hk ⊢
      exact hk
  · rw [tA_21, if_pos rfl, nI_clamp (by omega)]
    exact hr.sK hv.ok ha hp (by omega)
theorem e_slip_13 (hv : CV V S) (hr : RC V A w (S.2.1 52)) (hA : A a) (ha : a < y_M V) (hp : p < y_P V) : ∃ T, fC_State_slip_13 (nI a) (nI p) S = some (rV, T) ∧ frm [] [52] S T ∧ RC V A (w_slip w a p) (T.2.1 52) := by
  have h4 := hv.ok.2.1
  obtain ⟨T, e, g, hr2⟩ := e_lose_13 (v := 4) hv hr hA ha hp (by omega)
  rw [fC_State_slip_13, show (4 : Int32) = nI 4 from rfl, e, ev_V, show (60 : Int32) + nI a = nI (60 + a) from nI_add 60 a, pz_gib (by omega) (by omega), pz_gib (by omega) (by omega), pz_rA (by omega), (hr2.2.1 a hA ha).2.2.1, ev_nx]
  refine ⟨_, rfl, g.A (by simp), ?_⟩
  rw [tA_21, if_pos rfl, nI_clamp (by omega)]
  exact hr2.sc (i := 2) hv.ok ha (by omega)
theorem e_sayAlone_13 (hv : CV V S) (hr : RC V A w (S.2.1 52)) (hd : d < y_D V) (hA : A (y_dm V d)) : ∃ T, fC_State_sayAlone_13 (nI d) S = some (rI (if w_p w d then 0 else 1), T) ∧ frm [] [52] S T ∧ RC V A (w_say V w d) (T.2.1 52) := by
  have h2 := hv.ok.2.2.1
  have h5 := hv.ok.d hd
  have h6 := hv.2.2.2.2.2.2.1 d hd
  rw [fC_State_sayAlone_13, e_isPaid_13 hv hr hd, ev_I, it_b0]
  unfold w_say
  cases hp : w_p w d
  · rw [if_neg pz_ft, e_isWellKnown_13 hv hr hd hA, ev_I, it_b0]
    cases hw : w_well V w d
    · rw [if_neg pz_ft, pz_gib (by omega) (by omega), pz_gib (by omega) (by omega), pz_rA (by omega), pz_rA (by omega), h6.1, h6.2.1]
      obtain ⟨T, e, g, hr2⟩ := e_slip_13 hv hr hA h5.1 h5.2.1
      rw [e, ev_V]
      exact ⟨T, rfl, g, hr2⟩
    · rw [if_pos rfl, ev_nx]
      refine ⟨_, rfl, frm.rf.A (by simp), ?_⟩
      rw [tA_21, if_pos rfl, show (72 : Int32) = nI 72 from rfl, nI_clamp (by omega), pz_rA (by omega)]
      exact hr.sp hv.ok hd
  · rw [if_pos rfl]
    exact ⟨S, rfl, frm.rf, hr⟩
theorem e_letGo_9 (hv : CV V S) (hr : RC V A w (S.2.1 46)) (hA : A a) (ha : a < y_M V) (hp : p < y_P V) : ∃ T, fC_State_letGo_9 (nI a) (nI p) S = some (rI (if w_K w a p = 0 then 0 else 1), T) ∧ frm [] [32, 33, 46] S T ∧ RC V A (w_forget w a p) (T.2.1 46) := by
  have h3 := hv.ok.1
  have h4 := hv.ok.2.1
  have h6 := hr.ok.1 a ha p hp
  have h7 := hv.ok.l hp
  rw [fC_State_letGo_9, fC_State_place, ev_I, e_ix, pz_gib (by omega) (by omega), pz_rA (by omega), hr.1 a hA ha p hp]
  by_cases h0 : w_K w a p = 0
  · rw [if_pos h0, if_pos (by rw [h0]; rfl)]
    refine ⟨S, rfl, frm.rf, ?_⟩
    rw [w_forget, if_pos h0]
    exact hr
  · rw [if_neg h0, if_neg (nI_ne0 (by omega) (by omega)), fC_State_place, ev_I, e_ix, pz_gib (by omega) (by omega), ev_nx]
    refine ⟨_, rfl, frm.rf.A (by simp), ?_⟩
    rw [tA_21, if_pos rfl, nI_clamp (by omega), w_forget, if_neg h0]
    exact hr.sK (v := 0) hv.ok ha hp (by omega)
theorem e_isSungBy_9 (hv : CV V S) (hr : RC V A w (S.2.1 46)) (hd : d < y_D V) (hA : A (y_dm V d)) (hB : A b) (hb : b < y_M V) : fC_State_isSungBy_9 (nI d) (nI b) S = some (rI (if w_two V w d b then 1 else 0), S) := by
  have h2 := hv.ok.2.2.1
  have h3 := hv.ok.1
  have h4 := hv.ok.2.1
  have h5 := hv.ok.d hd
  have h6 := hv.2.2.2.2.2.2.1 d hd
  have h7 := hv.ok.l h5.2.1
  have h8 := hr.1 _ hA h5.1 _ h5.2.1
  have h9 := hr.ok.1 _ h5.1 _ h5.2.1
  have h10 := hr.1 _ hB hb _ h5.2.1
  have h12 := hr.ok.1 _ hb _ h5.2.1
  have h11 := (hv.2.2.2.2.1 _ h5.2.1).1
  rw [fC_State_isSungBy_9, pz_gib (by omega) (by omega), pz_rA (by omega), h6.2.1, ev_nx, pz_gib (by omega) (by omega), pz_rA (by omega), h6.1, fC_State_place, ev_I, e_ix, pz_gib (by omega) (by omega), fC_State_place, ev_I, e_ix, pz_gib (by omega) (by omega), pz_rA (by omega), pz_rA (by omega), h8, h10, nI_add, ev_nx, pz_gib (by omega) (by omega), pz_rA (by omega), h11, it_lt (by omega) (by omega)]
  unfold w_two
  by_cases q : w_K w (y_dm V d) (y_dp V d) + w_K w b (y_dp V d) < y_l V (y_dp V d)
  · rw [if_pos q, decide_eq_false (by omega)]; rfl
  · rw [if_neg q, decide_eq_true (by omega)]; rfl
theorem e_sayWith_9 (hv : CV V S) (hr : RC V A w (S.2.1 46)) (hd : d < y_D V) (hA : A (y_dm V d)) (hB : A b) (hb : b < y_M V) : ∃ T, fC_State_sayWith_9 (nI d) (nI b) S = some (rI (if w_p w d || decide (b = y_dm V d) then 0 else 1), T) ∧ frm [] [46] S T ∧ RC V A (w_duet V w d b) (T.2.1 46) := by
  have h2 := hv.ok.2.2.1
  have h4 := hv.ok.2.1
  have h5 := hv.ok.d hd
  have h6 := hv.2.2.2.2.2.2.1 d hd
  rw [fC_State_sayWith_9, e_isPaid_9 hv hr hd, ev_I, it_b0]
  unfold w_duet
  cases hp : w_p w d
  · rw [if_neg pz_ft, pz_gib (by omega) (by omega), pz_rA (by omega), h6.1, it_eq (by omega) (by omega)]
    by_cases q : b = y_dm V d
    · rw [if_pos q, decide_eq_true q]
      exact ⟨S, rfl, frm.rf, hr⟩
    · rw [if_neg q, decide_eq_false q, e_isSungBy_9 hv hr hd hA hB hb, ev_I, it_b0]
      cases hw : w_two V w d b
      · rw [if_neg pz_ft, pz_gib (by omega) (by omega), pz_gib (by omega) (by omega), pz_rA (by omega), pz_rA (by omega), h6.1, h6.2.1]
        obtain ⟨T, e, g, hr2⟩ := e_slip_9 hv hr hA h5.1 h5.2.1
        have hv2 : CV V T := hv.fr g (by decide) (by decide)
        have h62 := hv2.2.2.2.2.2.2.1 d hd
        rw [e, ev_V, pz_gib (by omega) (by omega), pz_rA (by omega), h62.2.1]
        obtain ⟨T2, e2, g2, hr3⟩ := e_slip_9 hv2 hr2 hB hb h5.2.1
        rw [e2, ev_V]
        exact ⟨T2, rfl, g.tr g2, hr3⟩
      · rw [if_pos rfl, ev_nx]
        refine ⟨_, rfl, frm.rf.A (by simp), ?_⟩
        rw [tA_21, if_pos rfl, show (72 : Int32) = nI 72 from rfl, nI_clamp (by omega), pz_rA (by omega)]
        exact hr.sp hv.ok hd
  · rw [if_pos rfl]
    exact ⟨S, rfl, frm.rf, hr⟩
end PD
