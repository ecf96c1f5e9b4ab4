/-! a law's reader (written by wip/whole/pure/p84.py) -/
section PVE
variable {S T U SC SR SC1 SR1 : St} {t : Nat → Nat} {n i j p q k s d b si nd : Nat} {W : List (Nat × Nat)} {f u : Oz} {rcC : Int32 → St → Oz} {rcR : St → Oz}
theorem wq_0 {e : Nat} (hW : WK si) (he : e ≤ s) : ¬ wq si t s e = true := fun z => by
  have h1 := hW.2.1
  have h2 := (of_decide_eq_true z).1
  omega
theorem fx_ne {e : Nat} (hk : k < 8) (h : fxI t s e = nI k) : s < e := by
  by_cases q : s < e
  · exact q
  · exfalso
    unfold fxI at h
    rw [if_neg (wq_0 (wk_all 7 (by decide)) (by omega)), if_neg (wq_0 (wk_all 8 (by decide)) (by omega)), if_neg (wq_0 (wk_all 9 (by decide)) (by omega)), if_neg (wq_0 (wk_all 10 (by decide)) (by omega)), if_neg (wq_0 (wk_all 11 (by decide)) (by omega)), if_neg (wq_0 (wk_all 12 (by decide)) (by omega)), if_neg (wq_0 (wk_all 13 (by decide)) (by omega)), if_neg (wq_0 (wk_all 14 (by decide)) (by omega))] at h
    exact nI_m1 (by omega) h.symm
theorem r_unit_bad (hq : q < 2 ^ 31) (h : S.1 4 = nI q) : fR_readUnit rcR S = some (rV, S) := by rw [fR_readUnit, r_fine0 hq h, ev_I, if_pos rfl]
theorem l_unit (hd : d ≤ 6) (hn : n ≤ 150) (hrc : d < 6 → RcOK t n (d + 1) nd rcC rcR) (hbad : RcBad rcR) (h : LWS t n i d W SC SR) : LRes t n i d W (1 + nd) SC SR (fC_Law_readUnit_5 rcC (nI d) SC) (fR_readUnit rcR SR) := by
  have hC := h.1
  have hR := h.2.1
  have h4 := h.2.2.1
  have hge := run_ge (c := bl) (t := t) hC.2.2.1
  have hle := run_le (c := bl) (t := t) hC.2.2.1
  have hid : run bl t n (run bl t n i) = run bl t n i := run_idem hC.2.2.1
  have eC := c_seesDigit hC
  have eR := r_here hR
  have L1 := h.mv (j := run bl t n i) hge hle
  generalize run bl t n i = s at *
  refine LRes.pre (SC1 := sF SC 8 (nI s)) (SR1 := sF SR 3 (nI s)) (frm.rf.F (by simp)) (frm.rf.F (by simp)) hge ?_
  rw [fC_Law_readUnit_5, eC, ev_I, fR_readUnit, r_fine1 h4, ev_I, if_neg (show ¬ (1 : Int32) = 0 by decide), eR, ev_I]
  clear eC eR
  generalize sF SC 8 (nI s) = A at *
  generalize sF SR 3 (nI s) = B at *
  have hA := L1.1
  have hB := L1.2.1
  have g4 := L1.2.2.1
  have hns : nS t n s = s := hid
  have eH : fR_here B = some (rI (cur t n s), B) := by rw [r_here hB, hid, sF_id hB.2.1]
  have hcur40 := cur_eq hB (b := 40) (by omega) (by omega)
  have hWs := L1.2.2.2.2.2.2.2.2
  by_cases qd : s < n ∧ dg (t s) = true
  · have hd2 := dg_of.mp qd.2
    have n40 : ¬ cur t n s = 40 := fun z => by
      have z2 : s < n ∧ t s = 40 := by rw [← hcur40]; exact z
      omega
    rw [if_pos qd, if_neg (show ¬ (1 : Int32) = 0 by decide), if_neg n40, eH, ev_I, r_digit hB, ev_I, if_pos qd, if_neg (show ¬ (1 : Int32) = 0 by decide)]
    have kc := c_num (lo := 0) hA (HI.lit (h := 999) (by omega)) (by omega) (by omega)
    have kr := r_num (lo := 0) hB g4 (HI.lit (h := 999) (by omega)) (by omega) (by omega)
    by_cases ok : nOK t n s 0 1000
    · have z1 : fC_Tape_needsNumber 0 999 A = some (rI 1, sF (sF A 8 (nI (nE t n s))) 6 (nI (nV t n s))) := kc.1 ok
      have z2 : fR_readNumber 0 999 B = some (rI (nI (nV t n s)), sF B 3 (nI (nE t n s))) := kr.1 ok
      have hE : s < nE t n s := by have := ok.1; omega
      have hEn := nE_le (t := t) hA.2.2.1
      have L2 := L1.mv (j := nE t n s) (by omega) hEn
      have L3 : LWS t n (nE t n s) d W (sF (sF A 8 (nI (nE t n s))) 6 (nI (nV t n s))) (sF B 3 (nI (nE t n s))) := ⟨L2.1.fr (fs := [6]) (as := []) (frm.rf.F (by simp)) (by simp) (by simp) (by simp), L2.2⟩
      obtain ⟨T, U, p1, p2, L4, g1, g2⟩ := l_put L3 hn (by omega) (0, nV t n s)
      have p2' : fR_emit 0 (nI (nV t n s)) (sF B 3 (nI (nE t n s))) = some (rV, U) := p2
      have p1' : fC_Law_put_5 (nI (nV t n s)) (sF (sF A 8 (nI (nE t n s))) 6 (nI (nV t n s))) = some (rI 1, T) := p1
      rw [z1, ev_I, if_neg (show ¬ (1 : Int32) = 0 by decide), show (sF (sF A 8 (nI (nE t n s))) 6 (nI (nV t n s))).1 6 = nI (nV t n s) from rfl, p1', ev_I, if_neg (show ¬ (1 : Int32) = 0 by decide), z2, ev_I, p2', ev_V]
      exact Or.inl ⟨nE t n s, [(0, nV t n s)], 1, _, T, U, rfl, rfl, L4, frag_fig (by have := ok.2.2; omega), by omega, hE, ((frm.rf.F (by simp)).F (by simp)).tr (g1.wide (by simp) (by simp)), (frm.rf.F (by simp)).tr (g2.wide (by simp) (by simp))⟩
    · obtain ⟨T, z1, t5, t4, g1⟩ := kc.2 ok
      obtain ⟨U, z2, u4, u5, g2⟩ := kr.2 ok
      have z1' : fC_Tape_needsNumber 0 999 A = some (rI 0, T) := z1
      have z2' : fR_readNumber 0 999 B = some (rI 0, U) := z2
      have hq : nS t n s ≤ 600 := by have := nS_le (t := t) hA.2.2.1; omega
      rw [z1', ev_I, if_pos rfl, z2', ev_I, r_emit_bad _ _ (q := nS t n s) (by omega) u4, ev_V]
      exact Or.inr ⟨nS t n s, nK t n s, T, U, rfl, rfl, hq, t5, t4, u4, u5, g1.wide (by simp) (by simp), g2.wide (by simp) (by simp)⟩
  · rw [if_neg qd, if_pos rfl]
    have eS := c_sees hA (b := 40) (by omega)
    rw [hid, sF_id hA.2.1] at eS
    rw [show (40 : Int32) = nI 40 from rfl, eS, ev_I]
    by_cases q40 : s < n ∧ t s = 40
    · rw [if_pos q40, if_neg (show ¬ (1 : Int32) = 0 by decide), if_pos (show cur t n s = nI 40 by rw [hcur40]; exact q40), it_ltL (by omega) (by omega)]
      by_cases q6 : d < 6
      · have sg : sgn t n s 40 := by unfold sgn; rw [hid]; exact q40
        have z1 := c_sign_ok hA (by omega) sg
        rw [hid] at z1
        have z2 := r_open_ok (len := 1) g4 L1.2.2.2.1 q6 hB.2.1
        have z2' : fR_opensOne 1 B = some (rV, sF (sF B 3 (nI (s + 1))) 6 (nI (d + 1))) := z2
        have L2 : LWS t n (s + 1) (d + 1) W (sF A 8 (nI (s + 1))) (sF (sF B 3 (nI (s + 1))) 6 (nI (d + 1))) := (L1.mv (j := s + 1) (by omega) (by omega)).dep rfl
        rw [if_pos q6, z1, ev_I, if_neg (show ¬ (1 : Int32) = 0 by decide), z2', ev_V, nI_1]
        have gC1 : frm [6, 8, 9, 19] [34] A (sF A 8 (nI (s + 1))) := frm.rf.F (by simp)
        have gR1 : frm [3, 6, 16] [9, 10] B (sF (sF B 3 (nI (s + 1))) 6 (nI (d + 1))) := (frm.rf.F (by simp)).F (by simp)
        rcases hrc q6 (s + 1) W _ _ L2 with ⟨i3, l1, m1, ev1, T1, U1, e1, e2, L3, F1, k1, k2, g5, g6⟩ | ⟨q, k, T, U, e1, e2, hq, t5, t4, u4, u5, g1, g2⟩
        · rw [e1, ev_I, if_neg (show ¬ (1 : Int32) = 0 by decide), e2, ev_V, show (41 : Int32) = nI 41 from rfl]
          rcases l_sign L3 (b := 41) (by omega) (by omega) with ⟨i4, y1, y2, y3, y4⟩ | ⟨q, T, U, hq, y3, y4, t5, t4, u4, u5, g1, g2⟩
          · have L4 := L3.mv (j := i4) (by omega) y2
            have hop : (sF U1 3 (nI i4)).1 6 = nI (d + 1) := L4.2.2.2.1
            have L5 := L4.dep (p := d) (v := (sF U1 3 (nI i4)).1 6 - 1) (by rw [hop, nI_pred])
            rw [y3, ev_I, if_neg (show ¬ (1 : Int32) = 0 by decide), y4, ev_V, ev_nx]
            exact Or.inl ⟨i4, l1, m1, ev1, _, _, rfl, rfl, L5, F1, by omega, by omega, (gC1.tr g5).F (by simp), ((gR1.tr g6).F (by simp)).F (by simp)⟩
          · rw [y3, ev_I, if_pos rfl, y4, ev_V, ev_nx]
            exact Or.inr (LBad.pre (gC1.tr g5) (gR1.tr g6) ⟨q, 1, T, _, rfl, rfl, hq, t5, t4, u4, u5, g1.wide (by simp) (by simp), (g2.wide (by simp) (by simp)).F (by simp)⟩)
        · rw [e1, ev_I, if_pos rfl, e2, ev_V, r_sign_bad _ (p := q) (by omega) u4, ev_V, ev_nx]
          exact Or.inr (LBad.pre gC1 gR1 ⟨q, k, T, _, rfl, rfl, hq, t5, t4, u4, u5, g1, g2.F (by simp)⟩)
      · have e6 : d = 6 := by omega
        have h6 : B.1 6 = nI 6 := by rw [L1.2.2.2.1, e6]
        have eo := r_open_no (len := 1) g4 h6 (s := s) (by omega) hB.2.1
        have ep := c_place hA
        rw [hid, sF_id hA.2.1] at ep
        have b4 : (sF (sF (sF B 4 (nI s)) 5 3) 6 (nI 7)).1 4 = nI s := rfl
        rw [if_neg q6, ep, ev_I, fC_Tape_refuse, ev_nx, ev_nx, ev_I, gdT (by decide), eo, ev_V, hbad _ s (by omega) b4, ev_V, r_sign_bad _ (p := s) (by omega) b4, ev_V, ev_nx]
        exact Or.inr ⟨s, 3, _, _, rfl, rfl, by omega, rfl, rfl, rfl, rfl, (frm.rf.F (by simp)).F (by simp), (((frm.rf.F (by simp)).F (by simp)).F (by simp)).F (by simp)⟩
    · have n40 : ¬ cur t n s = nI 40 := by rw [hcur40]; exact q40
      have eW := c_takeWord hA
      rw [hns, sF_id hA.2.1] at eW
      have hE : wE t n s = run lt t n s := by unfold wE; rw [hns]
      have rW := r_word hB
      rw [hns, sF_id hB.2.1] at rW
      have eF := r_factHere hB hid
      rw [← hE] at eF
      have eP := r_pass hB
      rw [← hE] at eP
      have heg := wE_ge (t := t) hA.2.2.1
      have hen := wE_le (t := t) hA.2.2.1
      rw [hns] at heg
      have hl : ∀ j, s ≤ j → j < wE t n s → lt (t j) = true := fun j h1 h2 => run_in hA.2.2.1 j h1 (by rw [← hE]; exact h2)
      generalize wE t n s = e at *
      have iw : ∀ si, WK si → fC_Tape_isWord si (sF (sF A 9 (nI s)) 8 (nI e)) = some (rI (if wq si t s e = true then 1 else 0), sF (sF A 9 (nI s)) 8 (nI e)) := fun si hW => c_isWord hW hA.2.2.2.2 rfl rfl heg (by omega)
      have wx : ∀ si, WK si → skN si ≤ 6 → (wcd t s e = nI (pk5 (skb si) 0 (skN si))) = (wq si t s e = true) := fun si hW h6 => w_eq hW h6 hl
      have w26 := wx 26 (wk_all 26 (by decide)) (by decide)
      have w27 := wx 27 (wk_all 27 (by decide)) (by decide)
      rw [wq_same (a := 26) (b := 5) (by decide)] at w26
      rw [wq_same (a := 27) (b := 6) (by decide)] at w27
      have i5 := iw 5 (wk_all 5 (by decide))
      have i6 := iw 6 (wk_all 6 (by decide))
      rw [if_neg q40, if_pos rfl, eW, ev_V, isW_v38, i5, ev_I, it_p0, if_neg n40, eH, ev_I, r_digit hB, ev_I, if_neg qd, if_pos rfl, rW, ev_I, of_v231, r_of (wk_all 26 (by decide)) (by decide), ev_I]
      by_cases b5 : wq 5 t s e = true
      · have hlen : s + 5 = e := by
          have := (of_decide_eq_true b5).1
          rw [show skN 5 = 5 by decide] at this
          omega
        have hp := l_pair (rcC := rcC) (rcR := rcR) (len := 5) (kk := 5) (SC1 := sF (sF A 9 (nI s)) 8 (nI e)) hd hn hrc hbad (by omega) L1 hlen hen (by omega) rfl
        have hp' : LRes t n s d W (1 + nd) A B (fC_Law_readPair_5 rcC (nI d) 2005 (sF (sF A 9 (nI s)) 8 (nI e))) (fR_readTwo rcR 5 6 B) := hp
        rw [if_pos b5, if_pos (show wcd t s e = _ by rw [w26]; exact b5)]
        rcases hp' with ⟨i2, l, m, ev, T, U, e1, e2, r1⟩ | ⟨q, k, T, U, e1, e2, r1⟩
        · rw [e1, ev_I, gdT (by decide), e2, ev_V]
          exact Or.inl ⟨i2, l, m, ev, T, U, rfl, rfl, r1⟩
        · rw [e1, ev_I, gdT (by decide), e2, ev_V]
          exact Or.inr ⟨q, k, T, U, rfl, rfl, r1⟩
      · rw [if_neg b5, if_neg (show ¬ wcd t s e = _ by rw [w26]; exact b5), isW_v39, i6, ev_I, it_p0, rW, ev_I, of_v232, r_of (wk_all 27 (by decide)) (by decide), ev_I]
        by_cases b6 : wq 6 t s e = true
        · have hlen : s + 4 = e := by
            have := (of_decide_eq_true b6).1
            rw [show skN 6 = 4 by decide] at this
            omega
          have hp := l_pair (rcC := rcC) (rcR := rcR) (len := 4) (kk := 6) (SC1 := sF (sF A 9 (nI s)) 8 (nI e)) hd hn hrc hbad (by omega) L1 hlen hen (by omega) rfl
          have hp' : LRes t n s d W (1 + nd) A B (fC_Law_readPair_5 rcC (nI d) 2006 (sF (sF A 9 (nI s)) 8 (nI e))) (fR_readTwo rcR 4 7 B) := hp
          rw [if_pos b6, if_pos (show wcd t s e = _ by rw [w27]; exact b6)]
          rcases hp' with ⟨i2, l, m, ev, T, U, e1, e2, r1⟩ | ⟨q, k, T, U, e1, e2, r1⟩
          · rw [e1, ev_I, gdT (by decide), e2, ev_V]
            exact Or.inl ⟨i2, l, m, ev, T, U, rfl, rfl, r1⟩
          · rw [e1, ev_I, gdT (by decide), e2, ev_V]
            exact Or.inr ⟨q, k, T, U, rfl, rfl, r1⟩
        · have eN := c_factNamed (S := sF (sF A 9 (nI s)) 8 (nI e)) (t := t) (s := s) (e := e) hA.2.2.2.2 rfl rfl heg (by omega)
          rw [if_neg b6, if_neg (show ¬ wcd t s e = _ by rw [w27]; exact b6), eN, ev_I, eF, ev_I]
          rcases fx_cases t s e with q1 | ⟨k, hk, q1⟩
          · rw [q1, if_pos rfl, if_pos rfl, fC_Tape_refuseWord, show (sF (sF A 9 (nI s)) 8 (nI e)).1 9 = nI s from rfl, fC_Tape_refuse, ev_nx, ev_nx, ev_I, gdT (by decide), ev_I, gdT (by decide), hB.2.1, r_wrong1 _ _ g4, ev_V, fR_readUnit_136, r_fine0 (p := s) (by omega) rfl, ev_I, if_pos rfl]
            exact Or.inr ⟨s, 1, _, _, rfl, rfl, by omega, rfl, rfl, rfl, rfl, (((frm.rf.F (by simp)).F (by simp)).F (by simp)).F (by simp), (frm.rf.F (by simp)).F (by simp)⟩
          · have hse := fx_ne hk q1
            have L2 := (L1.w (v := nI s)).mv (j := e) heg hen
            obtain ⟨T, U, p1, p2, L4, g1, g2⟩ := l_put L2 hn (by omega) (1, k)
            have p1' : fC_Law_put_5 (nI (1000 + k)) (sF (sF A 9 (nI s)) 8 (nI e)) = some (rI 1, T) := p1
            have p2' : fR_emit 1 (nI k) (sF B 3 (nI e)) = some (rV, U) := p2
            rw [q1, if_neg (nI_m1 (by omega)), if_neg (nI_m1 (by omega)), show (1000 : Int32) = nI 1000 from rfl, nI_add, p1', ev_I, gdT (by decide), fR_readUnit_136, r_fine1 g4, ev_I, if_neg (show ¬ (1 : Int32) = 0 by decide), eP, ev_V, p2', ev_V]
            exact Or.inl ⟨e, [(1, k)], 1, _, T, U, rfl, rfl, L4, frag_fact hk, by omega, hse, ((frm.rf.F (by simp)).F (by simp)).tr (g1.wide (by simp) (by simp)), (frm.rf.F (by simp)).tr (g2.wide (by simp) (by simp))⟩
end PVE
