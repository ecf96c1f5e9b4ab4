/-! work (written by wip/whole/pure/p97.py) -/
section PVR
variable {V : Vy} {L : Lw} {S T U SC SR SC1 SR1 : St} {t : Nat → Nat} {n i j p q k s d b N : Nat}
theorem SR3.cong {f g : Nat → Int32} (h : ∀ j, j < 3 * N → g j = f j) : ∀ {l : List (Nat × Nat × Nat)} {i : Nat}, SR3 f i l → i + l.length ≤ N → SR3 g i l
  | [], _, _, _ => trivial
  | w :: l, i, hl, hn => by
    have e : (w :: l).length = l.length + 1 := rfl
    exact ⟨⟨(h _ (by omega)).trans hl.1.1, (h _ (by omega)).trans hl.1.2.1, (h _ (by omega)).trans hl.1.2.2⟩, SR3.cong h hl.2 (by omega)⟩
theorem r_work_123 {W : Nat} (hW : W < 16) : ∀ k n i (S : St), i + k = 95 → k < n → S.1 19 = nI W → ∃ m T, fR_work_123 n (nI i) S = fR_work_123 (m + 1) (nI 95) T ∧ frm [] [19] S T ∧ (∀ j, i ≤ j → j < 95 → T.2.1 19 (95 * W + j) = S.2.1 17 j) ∧ ∀ j, (j < 95 * W + i ∨ 95 * W + 95 ≤ j) → T.2.1 19 j = S.2.1 19 j := by
  intro k
  induction k with
  | zero =>
    intro n i S hi hn hS
    obtain ⟨n, rfl⟩ := pz_fu hn
    have e : i = 95 := by omega
    subst e
    exact ⟨n, S, rfl, frm.rf, fun j h1 h2 => by omega, fun _ _ => rfl⟩
  | succ k ih =>
    intro n i S hi hn hS
    obtain ⟨n, rfl⟩ := pz_fu hn
    rw [fR_work_123, it_Lle (by omega) (by omega), if_neg (by omega), hS, show (95 : Int32) = nI 95 from rfl, pk_mul, nI_add, pz_gib (by omega) (by omega), pz_gib (by omega) (by omega), pz_rA (by omega), ev_nx, nI_1 i]
    obtain ⟨m, T, e, g, h, h2⟩ := ih n (i + 1) (sA S 19 (nI (95 * W + i)) (S.2.1 17 i)) (by omega) (by omega) hS
    refine ⟨m, T, e, (frm.rf.A (by simp)).tr g, fun j h3 h4 => ?_, fun j h3 => ?_⟩
    · by_cases q : j = i
      · rw [q, h2 (95 * W + i) (by omega), tA_21, if_pos rfl, nI_clamp (by omega), upd_s]
      · rw [h j (by omega) h4, tA_21, if_neg (by decide)]
    · rw [h2 j (by omega), tA_21, if_pos rfl, nI_clamp (by omega), upd_n _ _ (by omega)]
theorem ob_gd {f : Oz} {K : Int32 → St → Oz} : (obI (obI f fun r6 T5 => gd (isB r6) (some (rI r6, T5))) K) = obI f fun r6 T5 => obI (gd (isB r6) (some (rI r6, T5))) K := by
  rcases f with _ | ⟨r | r | r | r | r, T⟩ <;> rfl
theorem po_work : PO_work Rel := by
  intro SC SR hR x
  show Po (fC_Main_work x SC) (fR_work x SR) (fun j T => if j = 1 then some (rI 1, T) else none)
  have hR' := hR
  obtain ⟨⟨V, L, w, bk, ⟨W, ws⟩, im⟩, hC, hM, hB⟩ := hR'
  obtain ⟨g0, h0, hv0, hL0, hr0⟩ := begR hM
  obtain ⟨N, hN, e3⟩ := hB.2.2.2.2.1
  have eR1 : (sF SR 0 0).1 1 = nI N := by rw [tF_1, if_neg (by decide), ← hB.2.2.2.1, e3]
  have hV : VOK V := hC.1.ok
  rcases c_open x (M := 150) e3 hN (by omega) with ⟨n, hn, hn6, rfl, eO⟩ | ⟨hx, eO⟩
  · obtain ⟨hCT, hRT⟩ := open_tapes hB (n := n) (by omega)
    obtain ⟨p1, p2, ⟨p3, p3'⟩, p4, ⟨p5, p6, p7⟩, p8⟩ := CM_OC hC n
    obtain ⟨q1, q2, q3, q4, ⟨q5, q6⟩, q8⟩ := RM_OR hM n
    dsimp only at p1 p2 p3 p3' p4 p5 p6 p7 p8 q1 q2 q3 q4 q5 q6 q8
    have eR0 : fR_work (nI n) SR = if W = 16 then (obI (fR_result 0 (OR (sF SR 0 0) n)) fun r7 T6 => (some (rI (-20), T6))) else fR_work_68 FU (sF (OR (sF SR 0 0) n) 18 0) := by
      rw [fR_work, ev_nx, if_neg (nI_pos (by omega)), eR1, if_neg (nI_nlt hn (by omega)), it_Llt (by omega) (by omega), if_neg (by omega), fR_work_30, r_may1 _ _ h0, ev_I, if_neg (by decide), r_begins, ev_V, q5, it_eqL (by omega) (by omega), ev_nx]
    by_cases hW : W = 16
    · refine po_rel (b := -20) (T := OC SC n) (U := sF (OR (sF SR 0 0) n) 7 (-1)) ?_ ?_ ?_ ?_
      · exact rel_end hC hM hB (n := n) (fs := []) (as := []) (fs' := [7]) (as' := []) frm.rf (frm.rf.F (by simp)) rfl (by decide) (by decide) (by decide) (by decide)
      · rw [fC_Main_work, show (150 : Int32) = nI 150 from rfl, eO, ev_V, p5, it_ltL (by omega) (by omega), if_neg (by omega)]
      · rw [eR0, if_pos hW, fR_result, show (OR (sF SR 0 0) n).1 4 = -1 from rfl, ev_nx, r_fine1 (S := sF (OR (sF SR 0 0) n) 7 (-1)) rfl, ev_I, if_neg (show ¬ (1 : Int32) = 0 by decide), ev_I]
      · rfl
    · have hW15 : W < 16 := by omega
      have gC0 : frm [22, 23, 24, 25] [] (OC SC n) (sF (sF (sF (sF (OC SC n) 22 0) 23 0) 24 0) 25 0) := (((frm.rf.F (by simp)).F (by simp)).F (by simp)).F (by simp)
      have gR0 : frm [18] [] (OR (sF SR 0 0) n) (sF (OR (sF SR 0 0) n) 18 0) := frm.rf.F (by simp)
      have eC0 : fC_Main_work (nI n) SC = obI (fC_Work_readSteps_3 (fun x3 S => fC_Work_readSteps 11 x3 S) FU 0 (nI 0) (sF (sF (sF (sF (OC SC n) 22 0) 23 0) 24 0) 25 0)) fun r6 T5 => obI (gd (isB r6) (some (rI r6, T5))) fun r4 T3 => (if r4 = 0 then (some (rI ((T3.1 4) - 10), T3)) else (obI (fC_Shelf_pushWork T3) fun r6 T5 => (obV (fC_Work_doSteps 12 0 (T5.1 22) 0 T5) fun T7 => (nx (sF T7 0 (T7.1 25)) fun T9 => (some (rI (T9.1 24), T9)))))) := by
        rw [fC_Main_work, show (150 : Int32) = nI 150 from rfl, eO, ev_V, p5, it_ltL (by omega) (by omega), if_pos hW15, fC_Work_readFrom, ev_nx, ev_nx, ev_nx, ev_nx, show (12 : Nat) = 11 + 1 from rfl, fC_Work_readSteps, fC_Work_readSteps_B]
        exact ob_gd
      have Q0 : QS V (tp SC) n 0 0 [] (sF (sF (sF (sF (OC SC n) 22 0) 23 0) 24 0) 25 0) (sF (OR (sF SR 0 0) n) 18 0) := ⟨hCT.fr gC0 (by simp) (by simp) (by simp), hRT.fr gR0 (by simp) (by simp) (by simp), rfl, rfl, rfl, rfl, trivial, trivial, Nat.le_refl _, p1.1, p1.2.1, p1.2.2.1, q1.1, q1.2.1, q1.2.2.1⟩
      rw [eC0, eR0, if_neg hW]
      clear eC0 eR0
      rcases q_top (L := L) hV hn6 (n + 1) 0 [] 0 0 FU FU _ _ (by omega) (by rw [pz_FU]; omega) (by rw [pz_FU]; omega) Q0 blk_nil (Nat.zero_le _) (Nat.le_refl _) with ⟨i2, l, d2, T, U, e1, e2, Q1, BL, hd2, hi2, gC, gR⟩ | ⟨q, k, T, U, e1, e2, hq, t5, t4, u4, u5, gC, gR⟩
      · rw [e1, e2, ev_I, gdT (show isB 1 = true by decide), ev_I, if_neg (show ¬ (1 : Int32) = 0 by decide)]
        obtain ⟨a1, a2, a3, a4, a5, a6, a7, a8, a9, -⟩ := Q1
        have hin := a1.2.2.1
        have hl : l.length ≤ 37 := by
          have z : 4 * l.length ≤ i2 := a9
          omega
        have gT : frm [6, 8, 9, 22, 23, 24, 25] [43, 44, 45] (OC SC n) T := (gC0.wide (by simp) (by simp)).tr (gC.wide (by simp) (by simp))
        have gU : frm [3, 6, 18] [15] (OR (sF SR 0 0) n) U := (gR0.wide (by simp) (by simp)).tr gR
        have t26 : T.1 26 = nI W := (gT.1 26 (by decide)).trans p5
        have t24 : T.1 24 = 0 := gC.1 24 (by decide)
        have t25 : T.1 25 = 0 := gC.1 25 (by decide)
        have t23 : T.1 23 = 0 := gC.1 23 (by decide)
        have t46 : T.2.1 46 = (OC SC n).2.1 46 := gT.2.1 46 (by decide)
        have t47 : T.2.1 47 = (OC SC n).2.1 47 := gT.2.1 47 (by decide)
        -- the class: the state is kept, then the steps
        have gP : frm [26] [47] T (sF (sC T 46 47 (nI 0) (nI (W * 74)) (nI 74)) 26 (nI (W + 1))) := (frm.rf.C (by simp)).F (by simp)
        have eP : fC_Shelf_pushWork T = some (rI 1, sF (sC T 46 47 (nI 0) (nI (W * 74)) (nI 74)) 26 (nI (W + 1))) := by
          rw [fC_Shelf_pushWork, t26, it_ltL (by omega) (by omega), if_pos hW15, show (74 : Int32) = nI 74 from rfl, pk_mul, show (0 : Int32) = nI 0 from rfl, gdT (cp_ok (by omega) (by omega) (by omega) (by omega)), ev_nx, tC_1, t26, nI_1, ev_nx]
        have k47o : ∀ j, (j < W * 74 ∨ W * 74 + 74 ≤ j) → (sF (sC T 46 47 (nI 0) (nI (W * 74)) (nI 74)) 26 (nI (W + 1))).2.1 47 j = (OC SC n).2.1 47 j := fun j hj => by
          show (sC T 46 47 (nI 0) (nI (W * 74)) (nI 74)).2.1 47 j = _
          rw [tC_out (by omega) (by omega) (by omega) hj, t47]
        have k47i : ∀ j, j < 74 → (sF (sC T 46 47 (nI 0) (nI (W * 74)) (nI 74)) 26 (nI (W + 1))).2.1 47 (W * 74 + j) = (OC SC n).2.1 46 j := fun j hj => by
          show (sC T 46 47 (nI 0) (nI (W * 74)) (nI 74)).2.1 47 (W * 74 + j) = _
          rw [tC_in (by omega) (by omega) (by omega) (by omega) (by omega), t46, Nat.zero_add, Nat.add_sub_cancel_left]
        have k26 : (sF (sC T 46 47 (nI 0) (nI (W * 74)) (nI 74)) 26 (nI (W + 1))).1 26 = nI (W + 1) := rfl
        rw [eP, ev_I]
        generalize sF (sC T 46 47 (nI 0) (nI (W * 74)) (nI 74)) 26 (nI (W + 1)) = T1 at *
        have gT1 : frm [6, 8, 9, 22, 23, 24, 25, 26] [43, 44, 45, 47] (OC SC n) T1 := (gT.wide (by simp) (by simp)).tr (gP.wide (by simp) (by simp))
        -- the reference likewise
        obtain ⟨B1, s1, s2, s3, -⟩ := r_copies_v255 (N := 3 * l.length) (by omega) (sF U 7 (-1))
        have u19 : B1.1 19 = nI W := by
          rw [s2.1 19 (by decide)]
          exact (gU.1 19 (by decide)).trans q5
        obtain ⟨m2, B2, w1, w2, w3, w4⟩ := r_work_123 hW15 95 FU 0 B1 (by omega) (by rw [pz_FU]; omega) u19
        have gB2 : frm [3, 6, 7, 18] [15, 16, 19] (OR (sF SR 0 0) n) B2 := (((gU.wide (by simp) (by simp)).F (by simp)).tr (s2.wide (by simp) (by simp))).tr (w2.wide (by simp) (by simp))
        have b19 : B2.1 19 = nI W := (w2.1 19 (by decide)).trans u19
        obtain ⟨B3, y1, y2, y3⟩ := r_take (S := sF B2 19 (nI (W + 1))) (w := w) (A := al) hV (by
          show RR V al w (B2.2.1 17)
          rw [gB2.2.1 17 (by decide)]
          exact q3)
        have gB3 : frm [3, 6, 7, 18, 19] [15, 16, 18, 19] (OR (sF SR 0 0) n) B3 := ((gB2.wide (by simp) (by simp)).F (by simp)).tr (y2.wide (by simp) (by simp))
        have b18 : B3.1 18 = nI (3 * l.length) := by
          rw [y2.1 18 (by decide)]
          show B2.1 18 = _
          rw [w2.1 18 (by decide), s2.1 18 (by decide)]
          exact a6
        have b16 : ∀ j, j < 3 * l.length → B3.2.1 16 j = U.2.1 15 j := fun j hj => by
          rw [y2.2.1 16 (by decide)]
          show B2.2.1 16 j = _
          rw [w2.2.1 16 (by decide)]
          exact s3 j hj
        have r17 : B1.2.1 17 = (OR (sF SR 0 0) n).2.1 17 := by
          rw [s2.2.1 17 (by decide)]
          exact gU.2.1 17 (by decide)
        have r19 : B1.2.1 19 = (OR (sF SR 0 0) n).2.1 19 := by
          rw [s2.2.1 19 (by decide)]
          exact gU.2.1 19 (by decide)
        have x19 : B3.2.1 19 = B2.2.1 19 := y2.2.1 19 (by decide)
        have f19 : B3.1 19 = nI (W + 1) := y2.1 19 (by decide)
        have gB4 : frm [3, 6, 7, 18, 19, 21, 22, 23] [15, 16, 18, 19] (OR (sF SR 0 0) n) (sF (sF (sF B3 21 0) 22 0) 23 0) := (((gB3.wide (by simp) (by simp)).F (by simp)).F (by simp)).F (by simp)
        have hWS : WS V L w 0 T1 (sF (sF (sF B3 21 0) 22 0) 23 0) := ⟨p1.fr gT1 (by decide) (by decide), p2.fr gT1 (by decide) (by decide), by rw [gT1.2.1 46 (by decide)]; exact p3, p3', q1.fr gB4 (by decide) (by decide), q2.fr gB4 (by decide) (by decide), y3, (gP.1 23 (by decide)).trans t23, rfl, Nat.zero_le _, (gP.1 24 (by decide)).trans t24, (gP.1 25 (by decide)).trans t25⟩
        have h3C : SC3 (T1.2.1 43) (T1.2.1 44) (T1.2.1 45) 0 l := by
          rw [gP.2.1 43 (by decide), gP.2.1 44 (by decide), gP.2.1 45 (by decide)]
          exact a7
        have h3R : SR3 ((sF (sF (sF B3 21 0) 22 0) 23 0).2.1 16) 0 l := SR3.cong (N := l.length) (fun j hj => b16 j hj) a8 (by omega)
        obtain ⟨nf, hnf⟩ : ∃ z, FU = (z + 1) + l.length := ⟨1999 - l.length, by rw [pz_FU]; omega⟩
        obtain ⟨x5', m', wN, BN, T5, U5, z1, z2, f1, f2, g3, g4, hE⟩ := BL 11 11 0 l.length 0 (nf + 1) FU w 0 T1 (sF (sF (sF B3 21 0) 22 0) 23 0) hWS h3C h3R (by omega) (by omega) (by omega) (by show 0 + l.length ≤ l.length; omega) (by omega) (Nat.le_refl _) (by rw [pz_FU]; omega)
        have z0 : ([] : List (Nat × Nat × Nat)).length + l.length = l.length := Nat.zero_add _
        rw [← hnf, z0] at f1
        rw [z0] at f2
        obtain ⟨m', rfl⟩ : ∃ z, m' = z + 1 := ⟨m' - 1, by rw [pz_FU] at z2; omega⟩
        have c1 : fC_Work_doSteps 12 0 (nI l.length) 0 T1 = some (rV, T5) := by
          rw [show (12 : Nat) = 11 + 1 from rfl, fC_Work_doSteps, fC_Work_doSteps_B]
          refine Eq.trans f1 ?_
          rw [fC_Work_doSteps_6, if_pos (nI_le (by omega) (by omega))]
        have c2 : fR_goesSteps 12 0 (nI (3 * l.length)) (sF (sF (sF B3 21 0) 22 0) 23 0) = some (rV, U5) := by
          rw [show (12 : Nat) = 11 + 1 from rfl, fR_goesSteps, fR_goesSteps_B]
          refine Eq.trans f2 ?_
          rw [fR_goesSteps_2, if_pos (nI_le (by omega) (by omega))]
        obtain ⟨B6, v1, v2, v3, -⟩ := r_copies_v280 (N := 95) (by omega) U5
        obtain ⟨-, -, n3, n4, -, -, n7, -, -, -, n11, n12⟩ := hE
        have gCf : frm [0, 6, 8, 9, 22, 23, 24, 25, 26] [32, 33, 43, 44, 45, 46, 47] (OC SC n) (sF T5 0 (T5.1 25)) := ((gT1.wide (by simp) (by simp)).tr (g3.wide (by simp) (by simp))).F (by simp)
        have gRf : frm [3, 6, 7, 18, 19, 20, 21, 22, 23] [13, 14, 15, 16, 17, 18, 19] (OR (sF SR 0 0) n) (sF B6 20 (B6.1 23)) := (((gB4.wide (by simp) (by simp)).tr (g4.wide (by simp) (by simp))).tr (v2.wide (by simp) (by simp))).F (by simp)
        have j22 : T1.1 22 = nI l.length := (gP.1 22 (by decide)).trans a5
        have y47 : (sF T5 0 (T5.1 25)).2.1 47 = T1.2.1 47 := g3.2.1 47 (by decide)
        have y26 : (sF T5 0 (T5.1 25)).1 26 = nI (W + 1) := (g3.1 26 (by decide)).trans k26
        have x19' : (sF B6 20 (B6.1 23)).2.1 19 = B2.2.1 19 := (v2.2.1 19 (by decide)).trans ((g4.2.1 19 (by decide)).trans x19)
        have f19' : (sF B6 20 (B6.1 23)).1 19 = nI (W + 1) := (v2.1 19 (by decide)).trans ((g4.1 19 (by decide)).trans f19)
        refine po_rel (b := T5.1 24) (T := sF T5 0 (T5.1 25)) (U := sF B6 20 (B6.1 23)) ?_ ?_ ?_ ?_
        · refine ⟨(V, L, wN, bk, (W + 1, fun i => if i = W then w else ws i), im), ⟨p1.fr gCf (by decide) (by decide), p2.fr gCf (by decide) (by decide), ⟨n3, n4⟩, ?_, ⟨y26, (show W + 1 ≤ 16 by omega), fun i hi => ?_⟩, ?_⟩, ⟨q1.fr gRf (by decide) (by decide), q2.fr gRf (by decide) (by decide), n7.ptw hV (fun j hj => v3 j hj), ?_, ⟨f19', fun i hi => ?_⟩, ?_⟩, BM_end hB gCf gRf ?_ ?_ (by decide) (by decide)⟩
          · rw [gCf.1 20 (by decide), gCf.2.1 37 (by decide), gCf.2.1 38 (by decide), gCf.2.1 39 (by decide)]; exact p4
          · have hi' : i < W + 1 := hi
            show RC V al (if i = W then w else ws i) (fun k => (sF T5 0 (T5.1 25)).2.1 47 (i * 74 + k)) ∧ w_t (if i = W then w else ws i) ≤ 400
            rw [y47]
            by_cases e : i = W
            · rw [if_pos e, e]
              exact ⟨p3.ptw hV (fun j hj => k47i j hj), p3'⟩
            · rw [if_neg e]
              exact ⟨(p7 i (by omega)).1.ptw hV (fun j hj => k47o _ (Or.inl (by omega))), (p7 i (by omega)).2⟩
          · rw [gCf.1 27 (by decide), gCf.2.1 48 (by decide), gCf.2.1 49 (by decide)]; exact p8
          · rw [gRf.1 24 (by decide), gRf.2.1 21 (by decide)]; exact q4
          · have hi' : i < W + 1 := hi
            show RR V al (if i = W then w else ws i) (fun k => (sF B6 20 (B6.1 23)).2.1 19 (95 * i + k))
            rw [x19']
            by_cases e : i = W
            · rw [if_pos e, e]
              exact q3.ptw hV (fun j hj => by rw [w3 j (Nat.zero_le _) hj, r17])
            · rw [if_neg e]
              exact (q6 i (by omega)).ptw hV (fun j hj => by rw [w4 _ (Or.inl (by omega)), r19])
          · rw [gRf.1 27 (by decide), gRf.2.1 25 (by decide)]; exact q8
          · show T5.1 25 = B6.1 23
            rw [v2.1 23 (by decide)]
            exact n12
          · rw [gCf.1 5 (by decide)]
            show -1 = B6.1 7
            rw [v2.1 7 (by decide), g4.1 7 (by decide)]
            show -1 = B3.1 7
            rw [y2.1 7 (by decide)]
            show -1 = B2.1 7
            rw [w2.1 7 (by decide), s2.1 7 (by decide)]
            rfl
        · rw [j22, c1, ev_V, ev_nx]
          rfl
        · rw [fR_work_89, fR_result, a3, ev_nx, r_fine1 (S := sF U 7 (-1)) a3, ev_I, if_neg (show ¬ (1 : Int32) = 0 by decide), ev_I, if_pos (show (sF U 7 (-1)).1 4 = -1 from a3), show (sF U 7 (-1)).1 18 = nI (3 * l.length) from a6, s1, ev_V, show fR_work_123 FU 0 B1 = _ from w1, fR_work_123, if_pos (show (95 : Int32) ≤ nI 95 by decide), b19, nI_1, ev_nx, y1, ev_V, ev_nx, ev_nx, ev_nx, show (sF (sF (sF B3 21 0) 22 0) 23 0).1 18 = nI (3 * l.length) from b18, c2, ev_V, show fR_copies_v280 95 U5 = _ from v1, ev_V, ev_nx]
          show some (rI (B6.1 22), sF B6 20 (B6.1 23)) = _
          rw [v2.1 22 (by decide), n11]
        · exact (gRf.1 0 (by decide)).trans rfl
      · rw [e1, e2, ev_I, gdT (show isB 0 = true by decide), ev_I, if_pos rfl]
        refine po_rel (b := nI k - 10) (T := T) (U := sF U 7 (nI q)) ?_ ?_ ?_ ?_
        · exact rel_end hC hM hB (n := n) (fs := [4, 5, 6, 8, 9, 22, 23, 24, 25]) (as := [43, 44, 45]) (fs' := [3, 4, 5, 6, 7, 18]) (as' := [15]) ((gC0.wide (by simp) (by simp)).tr (gC.wide (by simp) (by simp))) (((gR0.wide (by simp) (by simp)).tr (gR.wide (by simp) (by simp))).F (by simp)) t5 (by decide) (by decide) (by decide) (by decide)
        · rw [t4]
        · rw [fR_work_89, fR_result, u4, ev_nx, r_fine0 (S := sF U 7 (nI q)) (p := q) (by omega) u4, ev_I, if_pos rfl, ev_I, show (sF U 7 (nI q)).1 4 = nI q from u4, if_neg (nI_m1 (by omega)), show (sF U 7 (nI q)).1 5 = nI k from u5]
        · show U.1 0 = 0
          rw [gR.1 0 (by decide), gR0.1 0 (by decide)]
          rfl
  · refine po_ill1 (c := 1) hR ?_ ?_ (fun _ => rfl) (by decide)
    · rw [fC_Main_work, show (150 : Int32) = nI 150 from rfl, eO, ev_Vx]
    · have e22 : fR_work_29 x (sF SR 0 0) = some (rI 0, sA (sF (sF SR 0 0) 0 1) 1 (nI 1) ((sF SR 0 0).2.1 1 1 + 1)) := by
        rw [fR_work_29, fR_work_30, show fR_may 0 1 1 (sF SR 0 0) = _ from r_may0 1 (k := 1) (by omega) h0 (by decide), ev_I, if_pos rfl]
      rw [fR_work, ev_nx, eR1]
      by_cases q1 : x < 0
      · rw [if_pos q1, e22]
      · rw [if_neg q1]
        by_cases q2 : nI N < x
        · rw [if_pos q2, e22]
        · rw [if_neg q2, if_pos (show (150 : Int32) < x from (hx.resolve_left q1).resolve_left q2), e22]
end PVR
