/-! law (written by wip/whole/pure/p86.py) -/
section PVG
variable {S T U SC SR : St} {t : Nat → Nat} {n i j p q k s d N : Nat}
theorem LC.cong {f g : Nat → Int32} (h : ∀ j, j < N → g j = f j) : ∀ {l : List (Nat × Nat)} {i : Nat}, LC f i l → i + l.length ≤ N → LC g i l
  | [], _, _, _ => trivial
  | w :: l, i, hl, hn => by
    have e : (w :: l).length = l.length + 1 := rfl
    exact ⟨(h i (by omega)).trans hl.1, LC.cong h hl.2 (by omega)⟩
theorem LD.cong {f g f2 g2 : Nat → Int32} (h : ∀ j, j < N → f2 j = f j) (h2 : ∀ j, j < N → g2 j = g j) : ∀ {l : List (Nat × Nat)} {i : Nat}, LD f g i l → i + l.length ≤ N → LD f2 g2 i l
  | [], _, _, _ => trivial
  | w :: l, i, hl, hn => by
    have e : (w :: l).length = l.length + 1 := rfl
    exact ⟨⟨(h i (by omega)).trans hl.1.1, (h2 i (by omega)).trans hl.1.2⟩, LD.cong h h2 hl.2 (by omega)⟩
theorem r_77_bad (hq : q < 2 ^ 31) (h4 : S.1 4 = nI q) (h5 : S.1 5 = nI k) : fR_law_77 S = some (rI (nI k - 10), sF S 7 (nI q)) := by
  rw [fR_law_77, fR_result, h4, ev_nx, r_fine0 (S := sF S 7 (nI q)) (p := q) hq h4, ev_I, if_pos rfl, ev_I]
  rw [show (sF S 7 (nI q)).1 4 = nI q from h4, if_neg (nI_m1 hq), show (sF S 7 (nI q)).1 5 = nI k from h5]
theorem po_law : PO_law Rel := by
  intro SC SR hR x
  show Po (fC_Main_law x SC) (fR_law x SR) (fun j T => if j = 1 then some (rI 1, T) else none)
  have hR' := hR
  obtain ⟨m, hC, hM, hB⟩ := hR'
  obtain ⟨g0, h0, hv0, hL0, hr0⟩ := begR hM
  obtain ⟨N, hN, e3⟩ := hB.2.2.2.2.1
  have eR1 : (sF SR 0 0).1 1 = nI N := by rw [tF_1, if_neg (by decide), ← hB.2.2.2.1, e3]
  rcases c_open x (M := 150) e3 hN (by omega) with ⟨n, hn, hn6, rfl, eO⟩ | ⟨hx, eO⟩
  · obtain ⟨hCT, hRT⟩ := open_tapes hB (n := n) (by omega)
    have hOC := CM_OC hC n
    have hOR := RM_OR hM n
    have gC0 : frm [19] [] (OC SC n) (sF (OC SC n) 19 0) := frm.rf.F (by simp)
    have gR0 : frm [16] [] (OR (sF SR 0 0) n) (sF (OR (sF SR 0 0) n) 16 0) := frm.rf.F (by simp)
    have L0 : LWS (tp SC) n 0 0 [] (sF (OC SC n) 19 0) (sF (OR (sF SR 0 0) n) 16 0) := ⟨hCT.fr gC0 (by simp) (by simp) (by simp), hRT.fr gR0 (by simp) (by simp) (by simp), rfl, rfl, rfl, rfl, trivial, trivial, Nat.le_refl _⟩
    have eR0 : fR_law (nI n) SR = obV (fR_readSum 12 (sF (OR (sF SR 0 0) n) 16 0)) fun T6 => (obI (fR_fine T6) fun r9 T8 => (if r9 = 0 then (fR_law_77 T8) else (obI (fR_isMore T8) fun r11 T10 => (if r11 = 0 then (fR_law_77 T10) else (obV (fR_wrong 1 (T10.1 3) T10) fun T12 => (fR_law_77 T12)))))) := by
      rw [fR_law, ev_nx, if_neg (nI_pos (by omega)), eR1, if_neg (nI_nlt hn (by omega)), it_Llt (by omega) (by omega), if_neg (by omega), fR_law_30, r_may1 _ _ h0, ev_I, if_neg (by decide), r_begins, ev_V, ev_nx]
    have eC0 : fC_Main_law (nI n) SC = obI (fC_Law_readFrom_5 (OC SC n)) fun r4 T3 => (if r4 = 0 then (some (rI ((T3.1 4) - 10), T3)) else (obV (fC_Law_copyFrom_4 T3) fun T5 => (some (rI 1, T5)))) := by
      rw [fC_Main_law, show (150 : Int32) = nI 150 from rfl, eO, ev_V]
    rcases (l_rc (t := tp SC) (n := n) hn6 12 0 (by omega) (by omega)).1 0 [] _ _ L0 with ⟨i2, l, m2, ev, T, U, e1, e2, L1, F1, k1, k2, gC, gR⟩ | ⟨q, k, T, U, e1, e2, hq, t5, t4, u4, u5, gC, gR⟩
    · have e1' : fC_Law_readSum_5 12 0 (sF (OC SC n) 19 0) = some (rI 1, T) := e1
      have e2' : fR_readSum 12 (sF (OR (sF SR 0 0) n) 16 0) = some (rV, U) := e2
      have hT := L1.1
      have hU := L1.2.1
      have u4 := L1.2.2.1
      have hin := hT.2.2.1
      have hsn := run_le (c := bl) (t := tp SC) hin
      have hfr : frm [6, 8, 9, 19] [34] (OC SC n) T := (gC0.wide (by simp) (by simp)).tr gC
      have hgr : frm [3, 6, 16] [9, 10] (OR (sF SR 0 0) n) U := (gR0.wide (by simp) (by simp)).tr gR
      by_cases q : run bl (tp SC) n i2 < n
      · -- more than a law
        have hid : run bl (tp SC) n (run bl (tp SC) n i2) = run bl (tp SC) n i2 := run_idem hin
        have hp := c_place (hT.mv hsn)
        rw [hid, sF_sF] at hp
        refine po_rel (b := nI 1 - 10) (T := sF (sF (sF T 8 (nI (run bl (tp SC) n i2))) 5 (nI (run bl (tp SC) n i2))) 4 1) (U := sF (sF (sF (sF U 3 (nI (run bl (tp SC) n i2))) 4 (nI (run bl (tp SC) n i2))) 5 1) 7 (nI (run bl (tp SC) n i2))) ?_ ?_ ?_ ?_
        · exact rel_end hC hM hB (n := n) (fs := [4, 5, 6, 8, 9, 19]) (as := [34]) (fs' := [3, 4, 5, 6, 7, 16]) (as' := [9, 10]) ((((hfr.wide (by simp) (by simp)).F (by simp)).F (by simp)).F (by simp)) (((((hgr.wide (by simp) (by simp)).F (by simp)).F (by simp)).F (by simp)).F (by simp)) rfl (by decide) (by decide) (by decide) (by decide)
        · rw [eC0, fC_Law_readFrom_5, ev_nx, e1', ev_I, if_neg (show ¬ (1 : Int32) = 0 by decide), c_ended hT, ev_I, if_pos q, if_pos rfl, hp, ev_I, fC_Tape_refuse, ev_nx, ev_nx, ev_I, if_pos rfl, ev_I, if_pos rfl]
          rfl
        · rw [eR0, e2', ev_V, r_fine1 u4, ev_I, if_neg (show ¬ (1 : Int32) = 0 by decide), r_isMore hU, ev_I, if_pos q, if_neg (show ¬ (1 : Int32) = 0 by decide), r_wrong1 (S := sF U 3 (nI (run bl (tp SC) n i2))) _ _ u4, ev_V]
          exact r_77_bad (k := 1) (q := run bl (tp SC) n i2) (by omega) rfl rfl
        · show U.1 0 = 0
          rw [hgr.1 0 (by decide)]
          rfl
      · have hlen : l.length ≤ 150 := by omega
        obtain ⟨B1, s1, s2, s3, -⟩ := r_copies_v244 (N := l.length) hlen (sF (sF (sF U 3 (nI (run bl (tp SC) n i2))) 7 (-1)) 17 (nI l.length))
        obtain ⟨B2, v1, v2, v3, -⟩ := r_copies_v245 (N := l.length) hlen B1
        have u16 : U.1 16 = nI l.length := L1.2.2.2.2.2.1
        have gCa : frm [6, 8, 9, 18, 19] [31, 34] (OC SC n) (sF (sC (sF T 8 (nI (run bl (tp SC) n i2))) 34 31 0 0 160) 18 (nI l.length)) := ((((hfr.wide (by simp) (by simp)).F (by simp)).C (by simp)).F (by simp))
        have gU0 : frm [3, 6, 7, 16, 17] [9, 10, 11, 12] (OR (sF SR 0 0) n) (sF (sF (sF U 3 (nI (run bl (tp SC) n i2))) 7 (-1)) 17 (nI l.length)) := ((((hgr.wide (by simp) (by simp)).F (by simp)).F (by simp)).F (by simp))
        have gRa : frm [3, 6, 7, 16, 17] [9, 10, 11, 12] (OR (sF SR 0 0) n) B2 := (gU0.tr (s2.wide (by simp) (by simp))).tr (v2.wide (by simp) (by simp))
        have b16 : B1.1 16 = nI l.length := by rw [s2.1 16 (by decide)]; exact u16
        obtain ⟨V, L, w, bk, wk, im⟩ := m
        obtain ⟨p1, p2, p3, p4, p5, p6⟩ := hOC
        obtain ⟨q1, q2, q3, q4, q5, q6⟩ := hOR
        have cl : CLw (Lev ev) (sF (sC (sF T 8 (nI (run bl (tp SC) n i2))) 34 31 0 0 160) 18 (nI l.length)) := by
          refine CLw_ev F1 (by omega) hlen rfl ?_
          refine LC.cong (N := 160) (f := T.2.1 34) (fun j hj => ?_) L1.2.2.2.2.2.2.1 (by omega)
          rw [tF_2, show (160 : Int32) = nI 160 from rfl, tC0 (by omega) hj]
          rfl
        have rl : RLw (Lev ev) B2 := by
          refine RLw_ev F1 (by omega) hlen (by rw [v2.1 17 (by decide), s2.1 17 (by decide)]; rfl) ?_
          refine LD.cong (N := l.length) (f := U.2.1 9) (g := U.2.1 10) (fun j hj => ?_) (fun j hj => ?_) L1.2.2.2.2.2.2.2.1 (by omega)
          · rw [v2.2.1 11 (by decide), s3 j hj]; rfl
          · rw [v3 j hj, s2.2.1 10 (by decide)]; rfl
        refine po_rel (b := 1) (T := sF (sC (sF T 8 (nI (run bl (tp SC) n i2))) 34 31 0 0 160) 18 (nI l.length)) (U := B2) ?_ ?_ ?_ ?_
        · refine ⟨(V, Lev ev, w, bk, wk, im), ⟨p1.fr gCa (by decide) (by decide), cl, ?_, ?_, ?_, ?_⟩, ⟨q1.fr gRa (by decide) (by decide), rl, ?_, ?_, ?_, ?_⟩, BM_end hB gCa gRa ?_ ?_ (by decide) (by decide)⟩
          · rw [gCa.2.1 46 (by decide)]; exact p3
          · rw [gCa.1 20 (by decide), gCa.2.1 37 (by decide), gCa.2.1 38 (by decide), gCa.2.1 39 (by decide)]; exact p4
          · rw [gCa.1 26 (by decide), gCa.2.1 47 (by decide)]; exact p5
          · rw [gCa.1 27 (by decide), gCa.2.1 48 (by decide), gCa.2.1 49 (by decide)]; exact p6
          · rw [gRa.2.1 17 (by decide)]; exact q3
          · rw [gRa.1 24 (by decide), gRa.2.1 21 (by decide)]; exact q4
          · rw [gRa.1 19 (by decide), gRa.2.1 19 (by decide)]; exact q5
          · rw [gRa.1 27 (by decide), gRa.2.1 25 (by decide)]; exact q6
          · rw [gCa.1 0 (by decide), gRa.1 20 (by decide)]; exact hB.1
          · rw [gCa.1 5 (by decide), v2.1 7 (by decide), s2.1 7 (by decide)]; rfl
        · rw [eC0, fC_Law_readFrom_5, ev_nx, e1', ev_I, if_neg (show ¬ (1 : Int32) = 0 by decide), c_ended hT, ev_I, if_neg q, if_neg (show ¬ (1 : Int32) = 0 by decide), ev_I, if_neg (show ¬ (1 : Int32) = 0 by decide), fC_Law_copyFrom_4, gdT (by decide), ev_nx, show (sC (sF T 8 (nI (run bl (tp SC) n i2))) 34 31 0 0 160).1 19 = nI l.length from L1.2.2.2.2.1, ev_nx, ev_V]
        · rw [eR0, e2', ev_V, r_fine1 u4, ev_I, if_neg (show ¬ (1 : Int32) = 0 by decide), r_isMore hU, ev_I, if_neg q, if_pos rfl, fR_law_77, fR_result, show (sF U 3 (nI (run bl (tp SC) n i2))).1 4 = -1 from u4, ev_nx, r_fine1 (S := sF (sF U 3 (nI (run bl (tp SC) n i2))) 7 (-1)) u4, ev_I, if_neg (show ¬ (1 : Int32) = 0 by decide), ev_I, if_pos (show (sF (sF U 3 (nI (run bl (tp SC) n i2))) 7 (-1)).1 4 = -1 from u4), show (sF (sF U 3 (nI (run bl (tp SC) n i2))) 7 (-1)).1 16 = nI l.length from u16, ev_nx, show (sF (sF (sF U 3 (nI (run bl (tp SC) n i2))) 7 (-1)) 17 (nI l.length)).1 16 = nI l.length from u16, s1, ev_V, b16, v1, ev_V]
        · rw [v2.1 0 (by decide), s2.1 0 (by decide), gU0.1 0 (by decide)]
          rfl
    · have e1' : fC_Law_readSum_5 12 0 (sF (OC SC n) 19 0) = some (rI 0, T) := e1
      have e2' : fR_readSum 12 (sF (OR (sF SR 0 0) n) 16 0) = some (rV, U) := e2
      refine po_rel (b := nI k - 10) (T := T) (U := sF U 7 (nI q)) ?_ ?_ ?_ ?_
      · exact rel_end hC hM hB (n := n) (fs := [4, 5, 6, 8, 9, 19]) (as := [34]) (fs' := [3, 4, 5, 6, 7, 16]) (as' := [9, 10]) ((gC0.wide (by simp) (by simp)).tr gC) (((gR0.wide (by simp) (by simp)).tr (gR.wide (by simp) (by simp))).F (by simp)) t5 (by decide) (by decide) (by decide) (by decide)
      · rw [eC0, fC_Law_readFrom_5, ev_nx, e1', ev_I, if_pos rfl, ev_I, if_pos rfl, t4]
      · rw [eR0, e2', ev_V, r_fine0 (p := q) (by omega) u4, ev_I, if_pos rfl, r_77_bad (by omega) u4 u5]
      · show U.1 0 = 0
        rw [gR.1 0 (by decide), gR0.1 0 (by decide)]
        rfl
  · refine po_ill1 (c := 1) hR ?_ ?_ (fun _ => rfl) (by decide)
    · rw [fC_Main_law, show (150 : Int32) = nI 150 from rfl, eO, ev_Vx]
    · have e22 : fR_law_29 x (sF SR 0 0) = some (rI 0, sA (sF (sF SR 0 0) 0 1) 1 (nI 1) ((sF SR 0 0).2.1 1 1 + 1)) := by
        rw [fR_law_29, fR_law_30, show fR_may 0 1 1 (sF SR 0 0) = _ from r_may0 1 (k := 1) (by omega) h0 (by decide), ev_I, if_pos rfl]
      rw [fR_law, ev_nx, eR1]
      by_cases q1 : x < 0
      · rw [if_pos q1, e22]
      · rw [if_neg q1]
        by_cases q2 : nI N < x
        · rw [if_pos q2, e22]
        · rw [if_neg q2, if_pos (show (150 : Int32) < x from (hx.resolve_left q1).resolve_left q2), e22]
end PVG
