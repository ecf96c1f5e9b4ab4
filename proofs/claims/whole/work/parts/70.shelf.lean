/-! undo, image, restore (written by wip/whole/pure/p70.py) -/
section PG2
variable {SC SR S T U : St} {V : Vy} {L : Lw} {w : Rw}
theorem r_keep1 {N base : Nat} (hN : N ≤ 95) (hb : base + N ≤ 4848) : ∀ k n i (S : St), i + k = N → k < n → ∃ T, fR_keepsRow_3 n (nI base) (nI N) 1 (nI i) S = some (rI (nI (base + N)), T) ∧ frm [] [25] S T ∧ (∀ j, i ≤ j → j < N → T.2.1 25 (base + j) = S.2.1 17 (j)) ∧ ∀ j, (j < base + i ∨ base + N ≤ j) → T.2.1 25 j = S.2.1 25 j := by
  intro k
  induction k with
  | zero =>
    intro n i S hi hn
    obtain ⟨n, rfl⟩ := pz_fu hn
    rw [fR_keepsRow_3, if_pos (nI_le (by omega) (by omega)), nI_add]
    exact ⟨S, rfl, frm.rf, fun j h1 h2 => by omega, fun _ _ => rfl⟩
  | succ k ih =>
    intro n i S hi hn
    obtain ⟨n, rfl⟩ := pz_fu hn
    rw [fR_keepsRow_3, if_neg (nI_ge (by omega) (by omega)), if_neg (by decide), nI_add, pz_gib (by omega) (by omega), pz_gib (by omega) (by omega), pz_rA (by omega), ev_nx, nI_1 i]
    obtain ⟨T, e, g, h, h2⟩ := ih n (i + 1) (sA S 25 (nI (base + i)) (S.2.1 17 (i))) (by omega) (by omega)
    refine ⟨T, e, (frm.rf.A (by simp)).tr g, fun j h3 h4 => ?_, fun j h3 => ?_⟩
    · by_cases q : j = i
      · rw [h2 (base + j) (by omega), tA_21, if_pos rfl, nI_clamp (by omega), q, upd_s]
      · rw [h j (by omega) h4, tA_21, if_neg (by decide)]
    · rw [h2 j (by omega), tA_21, if_pos rfl, nI_clamp (by omega), upd_n _ _ (by omega)]
theorem r_keep2 {N base : Nat} (hN : N ≤ 1520) (hb : base + N ≤ 4848) : ∀ k n i (S : St), i + k = N → k < n → ∃ T, fR_keepsRow_v339_3 n (nI base) (nI N) 1 (nI i) S = some (rI (nI (base + N)), T) ∧ frm [] [25] S T ∧ (∀ j, i ≤ j → j < N → T.2.1 25 (base + j) = S.2.1 19 (j)) ∧ ∀ j, (j < base + i ∨ base + N ≤ j) → T.2.1 25 j = S.2.1 25 j := by
  intro k
  induction k with
  | zero =>
    intro n i S hi hn
    obtain ⟨n, rfl⟩ := pz_fu hn
    rw [fR_keepsRow_v339_3, if_pos (nI_le (by omega) (by omega)), nI_add]
    exact ⟨S, rfl, frm.rf, fun j h1 h2 => by omega, fun _ _ => rfl⟩
  | succ k ih =>
    intro n i S hi hn
    obtain ⟨n, rfl⟩ := pz_fu hn
    rw [fR_keepsRow_v339_3, if_neg (nI_ge (by omega) (by omega)), if_neg (by decide), nI_add, pz_gib (by omega) (by omega), pz_gib (by omega) (by omega), pz_rA (by omega), ev_nx, nI_1 i]
    obtain ⟨T, e, g, h, h2⟩ := ih n (i + 1) (sA S 25 (nI (base + i)) (S.2.1 19 (i))) (by omega) (by omega)
    refine ⟨T, e, (frm.rf.A (by simp)).tr g, fun j h3 h4 => ?_, fun j h3 => ?_⟩
    · by_cases q : j = i
      · rw [h2 (base + j) (by omega), tA_21, if_pos rfl, nI_clamp (by omega), q, upd_s]
      · rw [h j (by omega) h4, tA_21, if_neg (by decide)]
    · rw [h2 j (by omega), tA_21, if_pos rfl, nI_clamp (by omega), upd_n _ _ (by omega)]
theorem r_keep3 {N base : Nat} (hN : N ≤ 95) (hb : base + N ≤ 4848) : ∀ k n i (S : St), i + k = N → k < n → ∃ T, fR_keepsRow_3 n (nI base) (nI N) 0 (nI i) S = some (rI (nI (base + N)), T) ∧ frm [] [17] S T ∧ (∀ j, i ≤ j → j < N → T.2.1 17 (j) = S.2.1 25 (base + j)) ∧ ∀ j, (j < i ∨ N ≤ j) → T.2.1 17 j = S.2.1 17 j := by
  intro k
  induction k with
  | zero =>
    intro n i S hi hn
    obtain ⟨n, rfl⟩ := pz_fu hn
    rw [fR_keepsRow_3, if_pos (nI_le (by omega) (by omega)), nI_add]
    exact ⟨S, rfl, frm.rf, fun j h1 h2 => by omega, fun _ _ => rfl⟩
  | succ k ih =>
    intro n i S hi hn
    obtain ⟨n, rfl⟩ := pz_fu hn
    rw [fR_keepsRow_3, if_neg (nI_ge (by omega) (by omega)), if_pos rfl, nI_add, pz_gib (by omega) (by omega), pz_gib (by omega) (by omega), pz_rA (by omega), ev_nx, nI_1 i]
    obtain ⟨T, e, g, h, h2⟩ := ih n (i + 1) (sA S 17 (nI (i)) (S.2.1 25 (base + i))) (by omega) (by omega)
    refine ⟨T, e, (frm.rf.A (by simp)).tr g, fun j h3 h4 => ?_, fun j h3 => ?_⟩
    · by_cases q : j = i
      · rw [h2 (j) (by omega), tA_21, if_pos rfl, nI_clamp (by omega), q, upd_s]
      · rw [h j (by omega) h4, tA_21, if_neg (by decide)]
    · rw [h2 j (by omega), tA_21, if_pos rfl, nI_clamp (by omega), upd_n _ _ (by omega)]
theorem r_keep4 {N base : Nat} (hN : N ≤ 1520) (hb : base + N ≤ 4848) : ∀ k n i (S : St), i + k = N → k < n → ∃ T, fR_keepsRow_v339_3 n (nI base) (nI N) 0 (nI i) S = some (rI (nI (base + N)), T) ∧ frm [] [19] S T ∧ (∀ j, i ≤ j → j < N → T.2.1 19 (j) = S.2.1 25 (base + j)) ∧ ∀ j, (j < i ∨ N ≤ j) → T.2.1 19 j = S.2.1 19 j := by
  intro k
  induction k with
  | zero =>
    intro n i S hi hn
    obtain ⟨n, rfl⟩ := pz_fu hn
    rw [fR_keepsRow_v339_3, if_pos (nI_le (by omega) (by omega)), nI_add]
    exact ⟨S, rfl, frm.rf, fun j h1 h2 => by omega, fun _ _ => rfl⟩
  | succ k ih =>
    intro n i S hi hn
    obtain ⟨n, rfl⟩ := pz_fu hn
    rw [fR_keepsRow_v339_3, if_neg (nI_ge (by omega) (by omega)), if_pos rfl, nI_add, pz_gib (by omega) (by omega), pz_gib (by omega) (by omega), pz_rA (by omega), ev_nx, nI_1 i]
    obtain ⟨T, e, g, h, h2⟩ := ih n (i + 1) (sA S 19 (nI (i)) (S.2.1 25 (base + i))) (by omega) (by omega)
    refine ⟨T, e, (frm.rf.A (by simp)).tr g, fun j h3 h4 => ?_, fun j h3 => ?_⟩
    · by_cases q : j = i
      · rw [h2 (j) (by omega), tA_21, if_pos rfl, nI_clamp (by omega), q, upd_s]
      · rw [h j (by omega) h4, tA_21, if_neg (by decide)]
    · rw [h2 j (by omega), tA_21, if_pos rfl, nI_clamp (by omega), upd_n _ _ (by omega)]
theorem r_undo_26 {W : Nat} (hW : W < 16) : ∀ k n i (S : St), i + k = 95 → k < n → S.1 19 = nI W → ∃ T, fR_undo_26 n (nI i) S = some (rI (nI W), T) ∧ frm [20] [17] S T ∧ T.1 20 = 0 ∧ (∀ j, i ≤ j → j < 95 → T.2.1 17 j = S.2.1 19 (95 * W + j)) ∧ ∀ j, (j < i ∨ 95 ≤ j) → T.2.1 17 j = S.2.1 17 j := by
  intro k
  induction k with
  | zero =>
    intro n i S hi hn hS
    obtain ⟨n, rfl⟩ := pz_fu hn
    have e : i = 95 := by omega
    subst e
    rw [fR_undo_26, if_pos (by decide), ev_nx, tF_1, if_neg (by decide), hS]
    exact ⟨_, rfl, frm.rf.F (by simp), rfl, fun j h1 h2 => by omega, fun _ _ => rfl⟩
  | succ k ih =>
    intro n i S hi hn hS
    obtain ⟨n, rfl⟩ := pz_fu hn
    rw [fR_undo_26, it_Lle (by omega) (by omega), if_neg (by omega), hS, show (95 : Int32) = nI 95 from rfl, pk_mul, nI_add, pz_gib (by omega) (by omega), pz_gib (by omega) (by omega), pz_rA (by omega), ev_nx, nI_1 i]
    obtain ⟨T, e, g, h0, h, h2⟩ := ih n (i + 1) (sA S 17 (nI i) (S.2.1 19 (95 * W + i))) (by omega) (by omega) hS
    refine ⟨T, e, (frm.rf.A (by simp)).tr g, h0, fun j h3 h4 => ?_, fun j h3 => ?_⟩
    · by_cases q : j = i
      · rw [h2 j (by omega), tA_21, if_pos rfl, nI_clamp (by omega), q, upd_s]
      · rw [h j (by omega) h4, tA_21, if_neg (by decide)]
    · rw [h2 j (by omega), tA_21, if_pos rfl, nI_clamp (by omega), upd_n _ _ (by omega)]
theorem cp_ok {a b n n0 n1 : Nat} (ha : a + n ≤ n0) (hb : b + n ≤ n1) (h0 : n0 < 2 ^ 31) (h1 : n1 < 2 ^ 31) : cpOK (nI a) (nI b) (nI n) n0 n1 = true := by
  unfold cpOK
  rw [decide_eq_false (nI_pos (by omega)), decide_eq_false (nI_pos (by omega)), decide_eq_false (nI_pos (by omega)), nI_clamp (by omega), nI_clamp (by omega), nI_clamp (by omega), decide_eq_true ha, decide_eq_true hb]
  rfl
theorem tC_in {S : St} {a b x y n j : Nat} (hx : x < 2 ^ 31) (hy : y < 2 ^ 31) (hn : n < 2 ^ 31) (h : y ≤ j) (h2 : j < y + n) : (sC S a b (nI x) (nI y) (nI n)).2.1 b j = S.2.1 a (x + (j - y)) := by
  rw [tC_21, if_pos rfl, nI_clamp hx, nI_clamp hy, nI_clamp hn, pk_cpy_in h h2]
theorem tC_out {S : St} {a b x y n j : Nat} (hx : x < 2 ^ 31) (hy : y < 2 ^ 31) (hn : n < 2 ^ 31) (h : j < y ∨ y + n ≤ j) : (sC S a b (nI x) (nI y) (nI n)).2.1 b j = S.2.1 b j := by
  rw [tC_21, if_pos rfl, nI_clamp hx, nI_clamp hy, nI_clamp hn, pk_cpy_out h]
theorem po_undo : PO_undo Rel := by
  intro SC SR hR
  have hR' := hR
  obtain ⟨⟨V, L, w, bk, ⟨W, ws⟩, im⟩, hC, hM, hB⟩ := hR
  obtain ⟨c1, c2, ⟨c3, c3'⟩, c4, ⟨c5, c6, c7⟩, c8⟩ := hC
  obtain ⟨r1, r2, r3, r4, ⟨r5, r6⟩, r8⟩ := hM
  obtain ⟨b0, b1, b2, b3, b4, b5, b6⟩ := hB
  dsimp only at *
  have e0 : (sF SR 0 0).1 19 = nI W := r5
  by_cases q : W = 0
  · subst q
    refine ⟨-1, SC, sF SR 0 0, ?_, ?_, hR'.fr frx.rf (frx.rf.F (by simp))⟩
    · rw [fC_Main_undo, fC_Shelf_popWork, c5, if_neg (by decide), ev_I, if_pos rfl]
    · rw [fR_undo, ev_nx, e0, if_pos (show nI 0 = 0 from rfl)]
  · obtain ⟨n, rfl⟩ : ∃ n, W = n + 1 := ⟨W - 1, by omega⟩
    have ok := c1.ok
    obtain ⟨T, t1, t2, t3, t4, -⟩ := r_undo_26 (W := n) (by omega) 95 FU 0 (sF (sF SR 0 0) 19 (nI n)) (by omega) (by rw [pz_FU]; omega) rfl
    have gR : frm [0, 19, 20] [17] SR T := ((frm.rf.F (by simp)).F (by simp)).tr (t2.wide (by simp) (by simp))
    have gC : frm [0, 26] [46] SC (sF (sC (sF SC 26 (nI n)) 47 46 (nI (n * 74)) (nI 0) (nI 74)) 0 0) := ((frm.rf.F (by simp)).C (by simp)).F (by simp)
    refine ⟨nI n, sF (sC (sF SC 26 (nI n)) 47 46 (nI (n * 74)) (nI 0) (nI 74)) 0 0, T, ?_, ?_, ⟨V, L, ws n, bk, ⟨n, ws⟩, im⟩, ⟨c1.fr gC (by decide) (by decide), c2.fr gC (by decide) (by decide), ⟨?_, (c7 n (by omega)).2⟩, ?_, ⟨?_, (show n ≤ 16 by omega), ?_⟩, ?_⟩, ⟨r1.fr gR (by decide) (by decide), r2.fr gR (by decide) (by decide), ?_, ?_, ⟨?_, ?_⟩, ?_⟩, ?_⟩
    · rw [fC_Main_undo, fC_Shelf_popWork, c5, it_Llt (by omega) (by omega), if_pos (by omega), nI_pred, ev_nx]
      rw [show (sF SC 26 (nI n)).1 26 = nI n from rfl, show (74 : Int32) = nI 74 from rfl, pk_mul, show (0 : Int32) = nI 0 from rfl, gdT (cp_ok (by omega) (by omega) (by omega) (by omega)), ev_nx, ev_I]
      rfl
    · rw [fR_undo, ev_nx, e0, if_neg (nI_ne0 (by omega) (by omega)), nI_pred, ev_nx]
      exact t1
    · exact (c7 n (by omega)).1.ptw ok (fun j hj => by
        show (sC (sF SC 26 (nI n)) 47 46 (nI (n * 74)) (nI 0) (nI 74)).2.1 46 j = _
        rw [tC_in (by omega) (by omega) (by omega) (by omega) (by omega)]
        rfl)
    · exact c4
    · rfl
    · exact fun i (hi : i < n) => c7 i (by omega)
    · exact c8
    · exact (r6 n (by omega)).ptw ok (fun j hj => t4 j (by omega) hj)
    · rw [gR.1 24 (by decide), gR.2.1 21 (by decide)]
      exact r4
    · rw [t2.1 19 (by decide)]
      rfl
    · rw [gR.2.1 19 (by decide)]
      exact fun i (hi : i < n) => r6 i (by omega)
    · rw [gR.1 27 (by decide), gR.2.1 25 (by decide)]
      exact r8
    · unfold BM
      rw [t3, gR.2.1 1 (by decide), gR.2.1 2 (by decide), gR.1 1 (by decide), gR.1 7 (by decide)]
      exact ⟨rfl, b1, b2, b3, b4, b5, b6⟩
theorem po_image : PO_image Rel := by
  intro SC SR hR
  have hR' := hR
  obtain ⟨⟨V, L, w, bk, ⟨W, ws⟩, ⟨G, gw, gn, gs⟩⟩, hC, hM, hB⟩ := hR
  obtain ⟨c1, c2, ⟨c3, c3'⟩, c4, ⟨c5, c6, c7⟩, ⟨d5, d6, d7⟩⟩ := hC
  obtain ⟨r1, r2, r3, r4, ⟨r5, r6⟩, ⟨r7, r8⟩⟩ := hM
  obtain ⟨b0, b1, b2, b3, b4, b5, b6⟩ := hB
  dsimp only at *
  have e0 : (sF SR 0 0).1 27 = nI G := r7
  by_cases q : G = 3
  · subst q
    refine ⟨-1, SC, sF SR 0 0, ?_, ?_, hR'.fr frx.rf (frx.rf.F (by simp))⟩
    · rw [fC_Main_image, fC_Shelf_pushImage, d5, if_neg (by decide), ev_I, if_pos rfl]
    · rw [fR_image, ev_nx, e0, if_pos (show nI 3 = 3 from rfl)]
  · have ok := c1.ok
    have hG : G < 3 := by omega
    have gC : frm [27] [48, 49] SC (sF (sA (sC (sC SC 46 48 (nI 0) (nI (G * 1258)) (nI 74)) 47 48 (nI 0) (nI (G * 1258 + 74)) (nI (W * 74))) 49 (nI G) (nI W)) 27 (nI (G + 1))) := (((frm.rf.C (by simp)).C (by simp)).A (by simp)).F (by simp)
    obtain ⟨T1, t1, t2, t3, t4⟩ := r_keep1 (N := 95) (base := 1616 * G) (by omega) (by omega) 95 FU 0 (sF SR 0 0) (by omega) (by rw [pz_FU]; omega)
    obtain ⟨T2, u1, u2, u3, u4⟩ := r_keep2 (N := 1520) (base := 1616 * G + 95) (by omega) (by omega) 1520 FU 0 T1 (by omega) (by rw [pz_FU]; omega)
    have gR1 : frm [0] [25] SR T2 := ((frm.rf.F (by simp)).tr (t2.wide (by simp) (by simp))).tr (u2.wide (by simp) (by simp))
    have gR : frm [0, 27] [25] SR (sF (sA T2 25 (nI (1616 * G + 95 + 1520)) (nI W)) 27 (nI (G + 1))) := ((gR1.wide (by simp) (by simp)).A (by simp)).F (by simp)
    -- the class's cells
    have k48 : ∀ j, (j < G * 1258 ∨ G * 1258 + 74 ≤ j) → (sC SC 46 48 (nI 0) (nI (G * 1258)) (nI 74)).2.1 48 j = SC.2.1 48 j := fun j hj => tC_out (by omega) (by omega) (by omega) hj
    have kk : ∀ j, (sF (sA (sC (sC SC 46 48 (nI 0) (nI (G * 1258)) (nI 74)) 47 48 (nI 0) (nI (G * 1258 + 74)) (nI (W * 74))) 49 (nI G) (nI W)) 27 (nI (G + 1))).2.1 48 j = (sC (sC SC 46 48 (nI 0) (nI (G * 1258)) (nI 74)) 47 48 (nI 0) (nI (G * 1258 + 74)) (nI (W * 74))).2.1 48 j := fun j => by rw [tF_2, tA_21, if_neg (by decide)]
    have kold : ∀ j, j < G * 1258 → (sF (sA (sC (sC SC 46 48 (nI 0) (nI (G * 1258)) (nI 74)) 47 48 (nI 0) (nI (G * 1258 + 74)) (nI (W * 74))) 49 (nI G) (nI W)) 27 (nI (G + 1))).2.1 48 j = SC.2.1 48 j := fun j hj => by
      exact (kk j).trans ((tC_out (by omega) (by omega) (by omega) (Or.inl (Nat.lt_add_right 74 hj))).trans (k48 j (Or.inl hj)))
    have krow : ∀ j, j < 74 → (sF (sA (sC (sC SC 46 48 (nI 0) (nI (G * 1258)) (nI 74)) 47 48 (nI 0) (nI (G * 1258 + 74)) (nI (W * 74))) 49 (nI G) (nI W)) 27 (nI (G + 1))).2.1 48 (G * 1258 + j) = SC.2.1 46 j := fun j hj => by
      rw [kk, tC_out (by omega) (by omega) (by omega) (Or.inl (by omega)), tC_in (by omega) (by omega) (by omega) (by omega) (by omega), Nat.zero_add, Nat.add_sub_cancel_left]
    have kws : ∀ j, j < W * 74 → (sF (sA (sC (sC SC 46 48 (nI 0) (nI (G * 1258)) (nI 74)) 47 48 (nI 0) (nI (G * 1258 + 74)) (nI (W * 74))) 49 (nI G) (nI W)) 27 (nI (G + 1))).2.1 48 (G * 1258 + 74 + j) = SC.2.1 47 j := fun j hj => by
      rw [kk, tC_in (by omega) (by omega) (by omega) (by omega) (by omega), Nat.zero_add, Nat.add_sub_cancel_left]
      rfl
    -- the reference's cells
    have v0 : ∀ j, (sF (sA T2 25 (nI (1616 * G + 95 + 1520)) (nI W)) 27 (nI (G + 1))).2.1 25 j = if j = 1616 * G + 95 + 1520 then nI W else T2.2.1 25 j := fun j => by
      show (sA T2 25 (nI (1616 * G + 95 + 1520)) (nI W)).2.1 25 j = _
      rw [tA_21, if_pos rfl, nI_clamp (by omega), upd_i]
    have vold : ∀ j, j < 1616 * G → (sF (sA T2 25 (nI (1616 * G + 95 + 1520)) (nI W)) 27 (nI (G + 1))).2.1 25 j = SR.2.1 25 j := fun j hj => by
      rw [v0, if_neg (by omega), u4 j (Or.inl (by omega)), t4 j (Or.inl (by omega))]
      rfl
    have vrow : ∀ j, j < 95 → (sF (sA T2 25 (nI (1616 * G + 95 + 1520)) (nI W)) 27 (nI (G + 1))).2.1 25 (1616 * G + j) = SR.2.1 17 j := fun j hj => by
      rw [v0, if_neg (by omega), u4 _ (Or.inl (by omega)), t3 j (by omega) hj]
      rfl
    have vws : ∀ j, j < 1520 → (sF (sA T2 25 (nI (1616 * G + 95 + 1520)) (nI W)) 27 (nI (G + 1))).2.1 25 (1616 * G + 95 + j) = SR.2.1 19 j := fun j hj => by
      rw [v0, if_neg (by omega), u3 j (by omega) hj, t2.2.1 19 (by decide)]
      rfl
    have v9 : (sF (sA T2 25 (nI (1616 * G + 95 + 1520)) (nI W)) 27 (nI (G + 1))).2.1 25 (1616 * G + 1615) = nI W := by rw [v0, if_pos (by omega)]
    have hb : ∀ g, g < G → g * 1258 + 1258 ≤ G * 1258 ∧ 1616 * g + 1616 ≤ 1616 * G := fun g hg => by omega
    refine ⟨nI (G + 1), sF (sA (sC (sC SC 46 48 (nI 0) (nI (G * 1258)) (nI 74)) 47 48 (nI 0) (nI (G * 1258 + 74)) (nI (W * 74))) 49 (nI G) (nI W)) 27 (nI (G + 1)), sF (sA T2 25 (nI (1616 * G + 95 + 1520)) (nI W)) 27 (nI (G + 1)), ?_, ?_, ⟨V, L, w, bk, ⟨W, ws⟩, ⟨G + 1, fun g => if g = G then w else gw g, fun g => if g = G then W else gn g, fun g => if g = G then ws else gs g⟩⟩, ⟨c1.fr gC (by decide) (by decide), c2.fr gC (by decide) (by decide), ⟨c3, c3'⟩, c4, ⟨c5, c6, c7⟩, ⟨rfl, (show G + 1 ≤ 3 by omega), ?_⟩⟩, ⟨r1.fr gR (by decide) (by decide), r2.fr gR (by decide) (by decide), ?_, ?_, ⟨?_, ?_⟩, ⟨rfl, ?_⟩⟩, ?_⟩
    · rw [fC_Main_image, fC_Shelf_pushImage, d5, it_ltL (by omega) (by omega), if_pos (by omega), show (1258 : Int32) = nI 1258 from rfl, pk_mul, ev_nx, show (0 : Int32) = nI 0 from rfl, show (74 : Int32) = nI 74 from rfl, gdT (cp_ok (by omega) (by omega) (by omega) (by omega)), ev_nx, tC_1, c5, pk_mul, nI_add, gdT (cp_ok (by omega) (by omega) (by omega) (by omega)), ev_nx, tC_1, tC_1, d5, c5, pz_gib (by omega) (by omega), ev_nx, tA_1, tC_1, tC_1, d5, nI_1, ev_nx, ev_I]
      rfl
    · have z19 : T2.1 19 = nI W := (gR1.1 19 (by decide)).trans r5
      have z27 : T2.1 27 = nI G := (gR1.1 27 (by decide)).trans r7
      rw [fR_image, ev_nx, e0, it_eqL (by omega) (by omega), if_neg q, fR_keepsAll, show (1616 : Int32) = nI 1616 from rfl, pk_mul]
      rw [show fR_keepsRow (nI (1616 * G)) 95 1 (sF SR 0 0) = some (rI (nI (1616 * G + 95)), T1) from t1, ev_I, show fR_keepsRow_v339 (nI (1616 * G + 95)) 1520 1 T1 = some (rI (nI (1616 * G + 95 + 1520)), T2) from u1, ev_I, if_neg (by decide), pz_gib (by omega) (by omega), z19, ev_nx, ev_V, tA_1, z27, nI_1, ev_nx]
      rfl
    · intro g hg
      dsimp only at hg ⊢
      by_cases e : g = G
      · subst e
        rw [if_pos rfl, if_pos rfl, if_pos rfl]
        refine ⟨⟨c3.ptw ok (fun j hj => krow j hj), c3'⟩, ?_, c6, fun i hi => ⟨(c7 i hi).1.ptw ok (fun j hj => kws (i * 74 + j) (by omega)), (c7 i hi).2⟩⟩
        show (sA (sC (sC SC 46 48 (nI 0) (nI (g * 1258)) (nI 74)) 47 48 (nI 0) (nI (g * 1258 + 74)) (nI (W * 74))) 49 (nI g) (nI W)).2.1 49 g = _
        rw [tA_21, if_pos rfl, nI_clamp (by omega), upd_s]
      · have hg2 : g < G := by
          have : g < G + 1 := hg
          omega
        obtain ⟨⟨x1, x2⟩, x3, x4, x5⟩ := d7 g hg2
        obtain ⟨y1, -⟩ := hb g hg2
        rw [if_neg e, if_neg e, if_neg e]
        refine ⟨⟨x1.ptw ok (fun j hj => kold _ (by omega)), x2⟩, ?_, x4, fun i hi => ⟨(x5 i hi).1.ptw ok (fun j hj => kold _ (by omega)), (x5 i hi).2⟩⟩
        show (sA (sC (sC SC 46 48 (nI 0) (nI (G * 1258)) (nI 74)) 47 48 (nI 0) (nI (G * 1258 + 74)) (nI (W * 74))) 49 (nI G) (nI W)).2.1 49 g = _
        rw [tA_21, if_pos rfl, nI_clamp (by omega), upd_n _ _ e]
        exact x3
    · rw [gR.2.1 17 (by decide)]
      exact r3
    · rw [gR.1 24 (by decide), gR.2.1 21 (by decide)]
      exact r4
    · rw [gR.1 19 (by decide)]
      exact r5
    · rw [gR.2.1 19 (by decide)]
      exact r6
    · intro g hg
      dsimp only at hg ⊢
      by_cases e : g = G
      · subst e
        rw [if_pos rfl, if_pos rfl, if_pos rfl]
        exact ⟨r3.ptw ok (fun j hj => vrow j hj), v9, fun i hi => (r6 i hi).ptw ok (fun j hj => vws (95 * i + j) (by have : i < W := hi; omega))⟩
      · have hg2 : g < G := by
          have : g < G + 1 := hg
          omega
        obtain ⟨x1, x3, x5⟩ := r8 g hg2
        obtain ⟨-, -, x4, -⟩ := d7 g hg2
        obtain ⟨-, y1⟩ := hb g hg2
        rw [if_neg e, if_neg e, if_neg e]
        exact ⟨x1.ptw ok (fun j hj => vold _ (by omega)), (vold _ (by omega)).trans x3, fun i hi => (x5 i hi).ptw ok (fun j hj => vold _ (by omega))⟩
    · unfold BM
      rw [gR.2.1 1 (by decide), gR.2.1 2 (by decide), gR.1 1 (by decide), gR.1 7 (by decide), gR.1 20 (by decide)]
      exact ⟨b0, b1, b2, b3, b4, b5, b6⟩
theorem po_restore : PO_restore Rel := by
  intro SC SR hR
  have hR' := hR
  obtain ⟨⟨V, L, w, bk, ⟨W, ws⟩, ⟨G, gw, gn, gs⟩⟩, hC, hM, hB⟩ := hR
  obtain ⟨c1, c2, ⟨c3, c3'⟩, c4, ⟨c5, c6, c7⟩, ⟨d5, d6, d7⟩⟩ := hC
  obtain ⟨r1, r2, r3, r4, ⟨r5, r6⟩, ⟨r7, r8⟩⟩ := hM
  obtain ⟨b0, b1, b2, b3, b4, b5, b6⟩ := hB
  dsimp only at *
  have e0 : (sF SR 0 0).1 27 = nI G := r7
  by_cases q : G = 0
  · subst q
    refine ⟨-1, SC, sF SR 0 0, ?_, ?_, hR'.fr frx.rf (frx.rf.F (by simp))⟩
    · rw [fC_Main_restore, fC_Shelf_popImage, d5, if_neg (by decide), ev_I, if_pos rfl]
    · rw [fR_restore, ev_nx, e0, if_pos (show nI 0 = 0 from rfl)]
  · obtain ⟨g, rfl⟩ : ∃ g, G = g + 1 := ⟨G - 1, by omega⟩
    have ok := c1.ok
    obtain ⟨⟨x1, x2⟩, x3, x4, x5⟩ := d7 g (by omega)
    obtain ⟨y1, y3, y5⟩ := r8 g (by omega)
    have gC : frm [0, 26, 27] [46, 47] SC (sF (sC (sC (sF (sF SC 27 (nI g)) 26 (nI (gn g))) 48 46 (nI (g * 1258)) (nI 0) (nI 74)) 48 47 (nI (g * 1258 + 74)) (nI 0) (nI (gn g * 74))) 0 0) := ((((frm.rf.F (by simp)).F (by simp)).C (by simp)).C (by simp)).F (by simp)
    obtain ⟨T1, t1, t2, t3, -⟩ := r_keep3 (N := 95) (base := 1616 * g) (by omega) (by omega) 95 FU 0 (sF (sF SR 0 0) 27 (nI g)) (by omega) (by rw [pz_FU]; omega)
    obtain ⟨T2, u1, u2, u3, -⟩ := r_keep4 (N := 1520) (base := 1616 * g + 95) (by omega) (by omega) 1520 FU 0 T1 (by omega) (by rw [pz_FU]; omega)
    have gR1 : frm [0, 27] [17, 19] SR T2 := (((frm.rf.F (by simp)).F (by simp)).tr (t2.wide (by simp) (by simp))).tr (u2.wide (by simp) (by simp))
    have gR : frm [0, 19, 20, 27] [17, 19] SR (sF (sF T2 19 (nI (gn g))) 20 0) := ((gR1.wide (by simp) (by simp)).F (by simp)).F (by simp)
    have v17 : ∀ j, j < 95 → (sF (sF T2 19 (nI (gn g))) 20 0).2.1 17 j = SR.2.1 25 (1616 * g + j) := fun j hj => by
      show T2.2.1 17 j = _
      rw [u2.2.1 17 (by decide), t3 j (by omega) hj]
      rfl
    have v19 : ∀ j, j < 1520 → (sF (sF T2 19 (nI (gn g))) 20 0).2.1 19 j = SR.2.1 25 (1616 * g + 95 + j) := fun j hj => by
      show T2.2.1 19 j = _
      rw [u3 j (by omega) hj, t2.2.1 25 (by decide)]
      rfl
    have z25 : T2.2.1 25 = SR.2.1 25 := gR1.2.1 25 (by decide)
    have z27 : (sF (sF T2 19 (nI (gn g))) 20 0).1 27 = nI g := by
      show T2.1 27 = _
      rw [u2.1 27 (by decide), t2.1 27 (by decide)]
      rfl
    refine ⟨nI g, _, sF (sF T2 19 (nI (gn g))) 20 0, ?_, ?_, ⟨V, L, gw g, bk, ⟨gn g, gs g⟩, ⟨g, gw, gn, gs⟩⟩, ⟨c1.fr gC (by decide) (by decide), c2.fr gC (by decide) (by decide), ⟨x1.ptw ok (fun j hj => ?_), x2⟩, c4, ⟨rfl, x4, fun i hi => ⟨(x5 i hi).1.ptw ok (fun j hj => ?_), (x5 i hi).2⟩⟩, ⟨rfl, (show g ≤ 3 by omega), fun i (hi : i < g) => d7 i (by omega)⟩⟩, ⟨r1.fr gR (by decide) (by decide), r2.fr gR (by decide) (by decide), y1.ptw ok (fun j hj => v17 j hj), ?_, ⟨rfl, fun i hi => (y5 i hi).ptw ok (fun j hj => v19 (95 * i + j) (by have : i < gn g := hi; omega))⟩, ⟨z27, ?_⟩⟩, ?_⟩
    · rw [fC_Main_restore, fC_Shelf_popImage, d5, it_Llt (by omega) (by omega), if_pos (by omega), nI_pred, ev_nx]
      rw [show (sF SC 27 (nI g)).1 27 = nI g from rfl, pz_gib (by omega) (by omega), pz_rA (by omega), show (sF SC 27 (nI g)).2.1 49 g = nI (gn g) from x3, ev_nx]
      rw [show (sF (sF SC 27 (nI g)) 26 (nI (gn g))).1 27 = nI g from rfl, show (1258 : Int32) = nI 1258 from rfl, pk_mul, ev_nx, show (0 : Int32) = nI 0 from rfl, show (74 : Int32) = nI 74 from rfl, gdT (cp_ok (by omega) (by omega) (by omega) (by omega)), ev_nx, tC_1, show (sF (sF SC 27 (nI g)) 26 (nI (gn g))).1 26 = nI (gn g) from rfl, pk_mul, nI_add, gdT (cp_ok (by omega) (by omega) (by omega) (by omega)), ev_nx, ev_I, if_neg (by decide), ev_nx]
      rfl
    · rw [fR_restore, ev_nx, e0, if_neg (nI_ne0 (by omega) (by omega)), nI_pred, ev_nx, show (sF (sF SR 0 0) 27 (nI g)).1 27 = nI g from rfl, fR_keepsAll, show (1616 : Int32) = nI 1616 from rfl, pk_mul]
      rw [show fR_keepsRow (nI (1616 * g)) 95 0 (sF (sF SR 0 0) 27 (nI g)) = some (rI (nI (1616 * g + 95)), T1) from t1, ev_I, show fR_keepsRow_v339 (nI (1616 * g + 95)) 1520 0 T1 = some (rI (nI (1616 * g + 95 + 1520)), T2) from u1, ev_I, if_pos rfl, pz_gib (by omega) (by omega), pz_rA (by omega), z25, show SR.2.1 25 (1616 * g + 95 + 1520) = nI (gn g) from y3, ev_nx, ev_V, ev_nx, z27]
    · show (sC (sF (sF SC 27 (nI g)) 26 (nI (gn g))) 48 46 (nI (g * 1258)) (nI 0) (nI 74)).2.1 46 j = _
      rw [tC_in (by omega) (by omega) (by omega) (by omega) (by omega)]
      rfl
    · show (sC (sC (sF (sF SC 27 (nI g)) 26 (nI (gn g))) 48 46 (nI (g * 1258)) (nI 0) (nI 74)) 48 47 (nI (g * 1258 + 74)) (nI 0) (nI (gn g * 74))).2.1 47 (i * 74 + j) = _
      rw [tC_in (by omega) (by omega) (by omega) (by omega) (by have : i < gn g := hi; omega)]
      rfl
    · rw [gR.1 24 (by decide), gR.2.1 21 (by decide)]
      exact r4
    · rw [gR.2.1 25 (by decide)]
      exact fun i (hi : i < g) => r8 i (by omega)
    · unfold BM
      rw [gR.2.1 1 (by decide), gR.2.1 2 (by decide), gR.1 1 (by decide), gR.1 7 (by decide)]
      exact ⟨rfl, b1, b2, b3, b4, b5, b6⟩
end PG2
