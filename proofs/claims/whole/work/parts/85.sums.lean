/-! products, sums, the law (written by wip/whole/pure/p85.py) -/
section PVF
variable {S T U SC SR SC1 SR1 : St} {t : Nat → Nat} {n i i0 j p q k s d b si nd c : Nat} {W : List (Nat × Nat)} {f u : Oz} {rcC : Int32 → St → Oz} {rcR : St → Oz}
theorem r_prodL_bad {m : Nat} (hq : q < 2 ^ 31) (h : S.1 4 = nI q) : fR_readProduct_4 rcR (m + 1) S = some (rV, S) := by rw [fR_readProduct_4, r_fine0 hq h, ev_I, if_pos rfl]
theorem r_sumL_bad {m : Nat} (hq : q < 2 ^ 31) (h : S.1 4 = nI q) : fR_readSum_4 rcR (m + 1) S = some (rV, S) := by rw [fR_readSum_4, r_fine0 hq h, ev_I, if_pos rfl]
theorem FU_s : ∃ m, FU = m + 1 := ⟨1999, rfl⟩
theorem r_prod_bad (hq : q < 2 ^ 31) (h : S.1 4 = nI q) : fR_readProduct rcR S = some (rV, S) := by
  obtain ⟨m, hm⟩ := FU_s
  rw [fR_readProduct, r_unit_bad hq h, ev_V, hm, r_prodL_bad hq h]
theorem r_sumB_bad (hq : q < 2 ^ 31) (h : S.1 4 = nI q) : fR_readSum_B rcR S = some (rV, S) := by
  obtain ⟨m, hm⟩ := FU_s
  rw [fR_readSum_B, r_prod_bad hq h, ev_V, hm, r_sumL_bad hq h]
theorem l_prodL (hd : d ≤ 6) (hn : n ≤ 150) (hrc : d < 6 → RcOK t n (d + 1) nd rcC rcR) (hbad : RcBad rcR) : ∀ k i l m ev c n1 n2 (SC SR : St), n - i ≤ k → k < n1 → k < n2 → LWS t n i d (W ++ l) SC SR → Frag l m ev → m ≤ 2 + nd → c ≤ i → i0 + l.length ≤ i →
    LRes t n i0 d W (2 + nd) SC SR (fC_Law_readProduct_5_13 rcC n1 (nI d) (nI c) SC) (fR_readProduct_4 rcR n2 SR) := by
  intro k
  induction k with
  | zero =>
    intro i l m ev c n1 n2 SC SR hk h1 h2 L F hm hc hi
    obtain ⟨n1, rfl⟩ := pz_fu h1
    obtain ⟨n2, rfl⟩ := pz_fu h2
    have hC := L.1
    have hR := L.2.1
    have e : i = n := by have := hC.2.2.1; omega
    subst e
    have hrun : ∀ cc : Nat → Bool, run cc t i i = i := fun cc => run_stop (fun z => by omega)
    have tk : ∀ b, b < 256 → fC_Tape_takes (nI b) SC = some (rI 0, SC) := fun b hb => by rw [c_takes hC hb, hrun, if_neg (fun z => by omega), sF_id hC.2.1]
    have hh : fR_here SR = some (rI 0, SR) := by rw [r_here hR, hrun, sF_id hR.2.1, cur, if_neg (by omega)]
    refine Or.inl ⟨i, l, m, ev, SC, SR, ?_, ?_, L, F, hm, hi, frm.rf, frm.rf⟩
    · rw [fC_Law_readProduct_5_13, it_Lle (by omega) (by omega), if_neg (by omega), show fC_Tape_takes 42 SC = some (rI 0, SC) from tk 42 (by omega), ev_I, if_pos rfl, show fC_Tape_takes 47 SC = some (rI 0, SC) from tk 47 (by omega), ev_I, if_pos rfl, show fC_Tape_takes 37 SC = some (rI 0, SC) from tk 37 (by omega), ev_I, if_pos rfl, fC_Law_readProduct_5_66, if_pos rfl]
    · rw [fR_readProduct_4, r_fine1 L.2.2.1, ev_I, if_neg (show ¬ (1 : Int32) = 0 by decide), hh, ev_I, if_neg (show ¬ (0 : Int32) = 42 by decide), hh, ev_I, if_neg (show ¬ (0 : Int32) = 47 by decide), hh, ev_I, if_neg (show ¬ (0 : Int32) = 37 by decide)]
  | succ k ih =>
    intro i l m ev c n1 n2 SC SR hk h1 h2 L F hm hc hi
    obtain ⟨n1, rfl⟩ := pz_fu h1
    obtain ⟨n2, rfl⟩ := pz_fu h2
    have hC := L.1
    have hR := L.2.1
    have h4 := L.2.2.1
    have hin := hC.2.2.1
    have hge := run_ge (c := bl) (t := t) hC.2.2.1
    have hle := run_le (c := bl) (t := t) hC.2.2.1
    have hid : run bl t n (run bl t n i) = run bl t n i := run_idem hC.2.2.1
    have tk0 : ∀ b, b < 256 → fC_Tape_takes (nI b) SC = _ := fun b hb => c_takes hC hb
    have hh0 := r_here hR
    have L1 := L.mv (j := run bl t n i) hge hle
    generalize run bl t n i = s at *
    have hA := L1.1
    have hB := L1.2.1
    have hWl := L.2.2.2.2.2.2.2.2
    have tk1 : ∀ b, b < 256 → fC_Tape_takes (nI b) (sF SC 8 (nI s)) = if s < n ∧ t s = b then some (rI 1, sF SC 8 (nI (s + 1))) else some (rI 0, sF SC 8 (nI s)) := fun b hb => by rw [c_takes hA hb, hid, sF_sF, sF_sF]
    have hh1 : fR_here (sF SR 3 (nI s)) = some (rI (cur t n s), sF SR 3 (nI s)) := by rw [r_here hB, hid, sF_sF]
    have op : ∀ kk, kk < 7 → s < n → LRes t n i0 d W (2 + nd) SC SR (fC_Law_readProduct_5_66 rcC (fun x2 x3 S => fC_Law_readProduct_5_13 rcC n1 x2 x3 S) (nI d) (nI c) (nI (2000 + kk)) (sF SC 8 (nI (s + 1)))) (fR_readProduct_66 rcR (fun S => fR_readProduct_4 rcR n2 S) (nI (rcd (kk + 2))) (sF SR 3 (nI s))) := fun kk hkk hs => by
      have L2 := L.mv (j := s + 1) (by omega) (by omega)
      have gC0 : frm [6, 8, 9, 19] [34] SC (sF SC 8 (nI (s + 1))) := frm.rf.F (by simp)
      have gR0 : frm [3, 6, 16] [9, 10] SR (sF SR 3 (nI (s + 1))) := frm.rf.F (by simp)
      rw [fC_Law_readProduct_5_66, if_neg (nI_ne0 (by omega) (by omega)), fR_readProduct_66, show (sF SR 3 (nI s)).1 3 = nI s from rfl, nI_1 s, ev_nx, sF_sF]
      rcases l_unit (rcC := rcC) (rcR := rcR) hd hn hrc hbad L2 with ⟨i3, l3, m3, ev3, T, U, e1, e2, L3, F3, k1, k2, g1, g2⟩ | ⟨q, k, T, U, e1, e2, hq, t5, t4, u4, u5, g1, g2⟩
      · have hlen : (W ++ l ++ l3).length + 1 ≤ i3 := by
          rw [List.length_append]
          omega
        obtain ⟨T2, U2, p1, p2, L4, g3, g4⟩ := l_put L3 hn hlen (kk + 2, 0)
        have hcw : cwd (kk + 2, 0) = 2000 + kk := by
          unfold cwd
          rw [if_neg (show ¬ (kk + 2, 0).1 = 0 by show ¬ kk + 2 = 0; omega), if_neg (show ¬ (kk + 2, 0).1 = 1 by show ¬ kk + 2 = 1; omega)]
          show 1998 + (kk + 2) = 2000 + kk
          omega
        rw [hcw] at p1
        have p2' : fR_emit (nI (rcd (kk + 2))) 0 U = some (rV, U2) := p2
        rw [List.append_assoc, List.append_assoc] at L4
        have hll : (l ++ (l3 ++ [(kk + 2, 0)])).length = l.length + (l3.length + 1) := by rw [List.length_append, List.length_append]; rfl
        have hr := ih i3 (l ++ (l3 ++ [(kk + 2, 0)])) (max m (1 + m3)) _ (c + 1) n1 n2 T2 U2 (by omega) (by omega) (by omega) L4 (frag_op hkk F F3) (Nat.max_le.mpr ⟨hm, by omega⟩) (by omega) (by rw [hll]; omega)
        rw [e1, ev_I, if_neg (show ¬ (1 : Int32) = 0 by decide), p1, ev_I, if_neg (show ¬ (1 : Int32) = 0 by decide), e2, ev_V, p2', ev_V, nI_1 c]
        exact hr.pre ((gC0.tr g1).tr (g3.wide (by simp) (by simp))) ((gR0.tr g2).tr (g4.wide (by simp) (by simp))) (Nat.le_refl _)
      · obtain ⟨n2', rfl⟩ : ∃ z, n2 = z + 1 := ⟨n2 - 1, by omega⟩
        rw [e1, ev_I, if_pos rfl, e2, ev_V, r_emit_bad _ _ (q := q) (by omega) u4, ev_V, r_prodL_bad (q := q) (by omega) u4]
        exact Or.inr (LBad.pre gC0 gR0 ⟨q, k, T, U, rfl, rfl, hq, t5, t4, u4, u5, g1, g2⟩)
    have cu : ∀ b, 0 < b → b < 256 → (cur t n s = nI b) = (s < n ∧ t s = b) := fun b hb hb2 => cur_eq hB hb hb2
    rw [fC_Law_readProduct_5_13, it_Lle (by omega) (by omega), if_neg (by omega), fR_readProduct_4, r_fine1 h4, ev_I, if_neg (show ¬ (1 : Int32) = 0 by decide), hh0, ev_I]
    have c42 : (cur t n s = 42) = (s < n ∧ t s = 42) := cu 42 (by omega) (by omega)
    by_cases q42 : s < n ∧ t s = 42
    · have y42 : cur t n s = 42 := by rw [c42]; exact q42
      rw [show fC_Tape_takes 42 SC = _ from tk0 42 (by omega), if_pos q42, ev_I, if_neg (show ¬ (1 : Int32) = 0 by decide)]
      rw [if_pos y42, fR_readProduct_38, hh1, ev_I, if_pos y42]
      exact op 2 (by omega) q42.1
    · have n42 : ¬ cur t n s = 42 := by rw [c42]; exact q42
      rw [show fC_Tape_takes 42 SC = _ from tk0 42 (by omega), if_neg q42, ev_I, if_pos rfl]
      rw [if_neg n42]
      have c47 : (cur t n s = 47) = (s < n ∧ t s = 47) := cu 47 (by omega) (by omega)
      by_cases q47 : s < n ∧ t s = 47
      · have y47 : cur t n s = 47 := by rw [c47]; exact q47
        rw [show fC_Tape_takes 47 (sF SC 8 (nI s)) = _ from tk1 47 (by omega), if_pos q47, ev_I, if_neg (show ¬ (1 : Int32) = 0 by decide)]
        rw [hh1, ev_I, if_pos y47, fR_readProduct_38, hh1, ev_I, if_neg n42, hh1, ev_I, if_pos y47]
        exact op 3 (by omega) q47.1
      · have n47 : ¬ cur t n s = 47 := by rw [c47]; exact q47
        rw [show fC_Tape_takes 47 (sF SC 8 (nI s)) = _ from tk1 47 (by omega), if_neg q47, ev_I, if_pos rfl]
        rw [hh1, ev_I, if_neg n47]
        have c37 : (cur t n s = 37) = (s < n ∧ t s = 37) := cu 37 (by omega) (by omega)
        by_cases q37 : s < n ∧ t s = 37
        · have y37 : cur t n s = 37 := by rw [c37]; exact q37
          rw [show fC_Tape_takes 37 (sF SC 8 (nI s)) = _ from tk1 37 (by omega), if_pos q37, ev_I, if_neg (show ¬ (1 : Int32) = 0 by decide)]
          rw [hh1, ev_I, if_pos y37, fR_readProduct_38, hh1, ev_I, if_neg n42, hh1, ev_I, if_neg n47]
          exact op 4 (by omega) q37.1
        · have n37 : ¬ cur t n s = 37 := by rw [c37]; exact q37
          rw [show fC_Tape_takes 37 (sF SC 8 (nI s)) = _ from tk1 37 (by omega), if_neg q37, ev_I, if_pos rfl]
          rw [hh1, ev_I, if_neg n37]
          rw [fC_Law_readProduct_5_66, if_pos rfl]
          exact Or.inl ⟨s, l, m, ev, _, _, rfl, rfl, L1, F, hm, by omega, frm.rf.F (by simp), frm.rf.F (by simp)⟩
theorem l_prod (hd : d ≤ 6) (hn : n ≤ 150) (hrc : d < 6 → RcOK t n (d + 1) nd rcC rcR) (hbad : RcBad rcR) (h : LWS t n i d W SC SR) : LRes t n i d W (2 + nd) SC SR (fC_Law_readProduct_5 rcC (nI d) SC) (fR_readProduct rcR SR) := by
  rw [fC_Law_readProduct_5, fR_readProduct]
  rcases l_unit (rcC := rcC) (rcR := rcR) hd hn hrc hbad h with ⟨i3, l3, m3, ev3, T, U, e1, e2, L3, F3, k1, k2, g1, g2⟩ | ⟨q, k, T, U, e1, e2, hq, t5, t4, u4, u5, g1, g2⟩
  · rw [e1, ev_I, if_neg (show ¬ (1 : Int32) = 0 by decide), e2, ev_V]
    have hin := L3.1.2.2.1
    exact (l_prodL (i0 := i) (W := W) hd hn hrc hbad n i3 l3 m3 ev3 0 FU FU T U (by omega) (by rw [pz_FU]; omega) (by rw [pz_FU]; omega) L3 F3 (by omega) (by omega) k2).pre g1 g2 (Nat.le_refl _)
  · obtain ⟨m, hm⟩ := FU_s
    rw [e1, ev_I, if_pos rfl, e2, ev_V, hm, r_prodL_bad (q := q) (by omega) u4]
    exact Or.inr ⟨q, k, T, U, rfl, rfl, hq, t5, t4, u4, u5, g1, g2⟩
theorem l_sumL (hd : d ≤ 6) (hn : n ≤ 150) (hrc : d < 6 → RcOK t n (d + 1) nd rcC rcR) (hbad : RcBad rcR) : ∀ k i l m ev c n1 n2 (SC SR : St), n - i ≤ k → k < n1 → k < n2 → LWS t n i d (W ++ l) SC SR → Frag l m ev → m ≤ 3 + nd → c ≤ i → i0 + l.length ≤ i →
    LRes t n i0 d W (3 + nd) SC SR (fC_Law_readSum_5_13 rcC n1 (nI d) (nI c) SC) (fR_readSum_4 rcR n2 SR) := by
  intro k
  induction k with
  | zero =>
    intro i l m ev c n1 n2 SC SR hk h1 h2 L F hm hc hi
    obtain ⟨n1, rfl⟩ := pz_fu h1
    obtain ⟨n2, rfl⟩ := pz_fu h2
    have hC := L.1
    have hR := L.2.1
    have e : i = n := by have := hC.2.2.1; omega
    subst e
    have hrun : ∀ cc : Nat → Bool, run cc t i i = i := fun cc => run_stop (fun z => by omega)
    have tk : ∀ b, b < 256 → fC_Tape_takes (nI b) SC = some (rI 0, SC) := fun b hb => by rw [c_takes hC hb, hrun, if_neg (fun z => by omega), sF_id hC.2.1]
    have hh : fR_here SR = some (rI 0, SR) := by rw [r_here hR, hrun, sF_id hR.2.1, cur, if_neg (by omega)]
    refine Or.inl ⟨i, l, m, ev, SC, SR, ?_, ?_, L, F, hm, hi, frm.rf, frm.rf⟩
    · rw [fC_Law_readSum_5_13, it_Lle (by omega) (by omega), if_neg (by omega), show fC_Tape_takes 43 SC = some (rI 0, SC) from tk 43 (by omega), ev_I, if_pos rfl, show fC_Tape_takes 45 SC = some (rI 0, SC) from tk 45 (by omega), ev_I, if_pos rfl, fC_Law_readSum_5_51, if_pos rfl]
    · rw [fR_readSum_4, r_fine1 L.2.2.1, ev_I, if_neg (show ¬ (1 : Int32) = 0 by decide), hh, ev_I, if_neg (show ¬ (0 : Int32) = 43 by decide), hh, ev_I, if_neg (show ¬ (0 : Int32) = 45 by decide)]
  | succ k ih =>
    intro i l m ev c n1 n2 SC SR hk h1 h2 L F hm hc hi
    obtain ⟨n1, rfl⟩ := pz_fu h1
    obtain ⟨n2, rfl⟩ := pz_fu h2
    have hC := L.1
    have hR := L.2.1
    have h4 := L.2.2.1
    have hin := hC.2.2.1
    have hge := run_ge (c := bl) (t := t) hC.2.2.1
    have hle := run_le (c := bl) (t := t) hC.2.2.1
    have hid : run bl t n (run bl t n i) = run bl t n i := run_idem hC.2.2.1
    have tk0 : ∀ b, b < 256 → fC_Tape_takes (nI b) SC = _ := fun b hb => c_takes hC hb
    have hh0 := r_here hR
    have L1 := L.mv (j := run bl t n i) hge hle
    generalize run bl t n i = s at *
    have hA := L1.1
    have hB := L1.2.1
    have hWl := L.2.2.2.2.2.2.2.2
    have tk1 : ∀ b, b < 256 → fC_Tape_takes (nI b) (sF SC 8 (nI s)) = if s < n ∧ t s = b then some (rI 1, sF SC 8 (nI (s + 1))) else some (rI 0, sF SC 8 (nI s)) := fun b hb => by rw [c_takes hA hb, hid, sF_sF, sF_sF]
    have hh1 : fR_here (sF SR 3 (nI s)) = some (rI (cur t n s), sF SR 3 (nI s)) := by rw [r_here hB, hid, sF_sF]
    have op : ∀ kk, kk < 7 → s < n → LRes t n i0 d W (3 + nd) SC SR (fC_Law_readSum_5_51 rcC (fun x2 x3 S => fC_Law_readSum_5_13 rcC n1 x2 x3 S) (nI d) (nI c) (nI (2000 + kk)) (sF SC 8 (nI (s + 1)))) (fR_readSum_43 rcR (fun S => fR_readSum_4 rcR n2 S) (nI (rcd (kk + 2))) (sF SR 3 (nI s))) := fun kk hkk hs => by
      have L2 := L.mv (j := s + 1) (by omega) (by omega)
      have gC0 : frm [6, 8, 9, 19] [34] SC (sF SC 8 (nI (s + 1))) := frm.rf.F (by simp)
      have gR0 : frm [3, 6, 16] [9, 10] SR (sF SR 3 (nI (s + 1))) := frm.rf.F (by simp)
      rw [fC_Law_readSum_5_51, if_neg (nI_ne0 (by omega) (by omega)), fR_readSum_43, show (sF SR 3 (nI s)).1 3 = nI s from rfl, nI_1 s, ev_nx, sF_sF]
      rcases l_prod (rcC := rcC) (rcR := rcR) hd hn hrc hbad L2 with ⟨i3, l3, m3, ev3, T, U, e1, e2, L3, F3, k1, k2, g1, g2⟩ | ⟨q, k, T, U, e1, e2, hq, t5, t4, u4, u5, g1, g2⟩
      · have hlen : (W ++ l ++ l3).length + 1 ≤ i3 := by
          rw [List.length_append]
          omega
        obtain ⟨T2, U2, p1, p2, L4, g3, g4⟩ := l_put L3 hn hlen (kk + 2, 0)
        have hcw : cwd (kk + 2, 0) = 2000 + kk := by
          unfold cwd
          rw [if_neg (show ¬ (kk + 2, 0).1 = 0 by show ¬ kk + 2 = 0; omega), if_neg (show ¬ (kk + 2, 0).1 = 1 by show ¬ kk + 2 = 1; omega)]
          show 1998 + (kk + 2) = 2000 + kk
          omega
        rw [hcw] at p1
        have p2' : fR_emit (nI (rcd (kk + 2))) 0 U = some (rV, U2) := p2
        rw [List.append_assoc, List.append_assoc] at L4
        have hll : (l ++ (l3 ++ [(kk + 2, 0)])).length = l.length + (l3.length + 1) := by rw [List.length_append, List.length_append]; rfl
        have hr := ih i3 (l ++ (l3 ++ [(kk + 2, 0)])) (max m (1 + m3)) _ (c + 1) n1 n2 T2 U2 (by omega) (by omega) (by omega) L4 (frag_op hkk F F3) (Nat.max_le.mpr ⟨hm, by omega⟩) (by omega) (by rw [hll]; omega)
        rw [e1, ev_I, if_neg (show ¬ (1 : Int32) = 0 by decide), p1, ev_I, if_neg (show ¬ (1 : Int32) = 0 by decide), e2, ev_V, p2', ev_V, nI_1 c]
        exact hr.pre ((gC0.tr g1).tr (g3.wide (by simp) (by simp))) ((gR0.tr g2).tr (g4.wide (by simp) (by simp))) (Nat.le_refl _)
      · obtain ⟨n2', rfl⟩ : ∃ z, n2 = z + 1 := ⟨n2 - 1, by omega⟩
        rw [e1, ev_I, if_pos rfl, e2, ev_V, r_emit_bad _ _ (q := q) (by omega) u4, ev_V, r_sumL_bad (q := q) (by omega) u4]
        exact Or.inr (LBad.pre gC0 gR0 ⟨q, k, T, U, rfl, rfl, hq, t5, t4, u4, u5, g1, g2⟩)
    have cu : ∀ b, 0 < b → b < 256 → (cur t n s = nI b) = (s < n ∧ t s = b) := fun b hb hb2 => cur_eq hB hb hb2
    rw [fC_Law_readSum_5_13, it_Lle (by omega) (by omega), if_neg (by omega), fR_readSum_4, r_fine1 h4, ev_I, if_neg (show ¬ (1 : Int32) = 0 by decide), hh0, ev_I]
    have c43 : (cur t n s = 43) = (s < n ∧ t s = 43) := cu 43 (by omega) (by omega)
    by_cases q43 : s < n ∧ t s = 43
    · have y43 : cur t n s = 43 := by rw [c43]; exact q43
      rw [show fC_Tape_takes 43 SC = _ from tk0 43 (by omega), if_pos q43, ev_I, if_neg (show ¬ (1 : Int32) = 0 by decide)]
      rw [if_pos y43, fR_readSum_29, hh1, ev_I, if_pos y43]
      exact op 0 (by omega) q43.1
    · have n43 : ¬ cur t n s = 43 := by rw [c43]; exact q43
      rw [show fC_Tape_takes 43 SC = _ from tk0 43 (by omega), if_neg q43, ev_I, if_pos rfl]
      rw [if_neg n43]
      have c45 : (cur t n s = 45) = (s < n ∧ t s = 45) := cu 45 (by omega) (by omega)
      by_cases q45 : s < n ∧ t s = 45
      · have y45 : cur t n s = 45 := by rw [c45]; exact q45
        rw [show fC_Tape_takes 45 (sF SC 8 (nI s)) = _ from tk1 45 (by omega), if_pos q45, ev_I, if_neg (show ¬ (1 : Int32) = 0 by decide)]
        rw [hh1, ev_I, if_pos y45, fR_readSum_29, hh1, ev_I, if_neg n43]
        exact op 1 (by omega) q45.1
      · have n45 : ¬ cur t n s = 45 := by rw [c45]; exact q45
        rw [show fC_Tape_takes 45 (sF SC 8 (nI s)) = _ from tk1 45 (by omega), if_neg q45, ev_I, if_pos rfl]
        rw [hh1, ev_I, if_neg n45]
        rw [fC_Law_readSum_5_51, if_pos rfl]
        exact Or.inl ⟨s, l, m, ev, _, _, rfl, rfl, L1, F, hm, by omega, frm.rf.F (by simp), frm.rf.F (by simp)⟩
theorem l_sumB (hd : d ≤ 6) (hn : n ≤ 150) (hrc : d < 6 → RcOK t n (d + 1) nd rcC rcR) (hbad : RcBad rcR) (h : LWS t n i d W SC SR) : LRes t n i d W (3 + nd) SC SR (fC_Law_readSum_5_B rcC (nI d) SC) (fR_readSum_B rcR SR) := by
  rw [fC_Law_readSum_5_B, fR_readSum_B]
  rcases l_prod (rcC := rcC) (rcR := rcR) hd hn hrc hbad h with ⟨i3, l3, m3, ev3, T, U, e1, e2, L3, F3, k1, k2, g1, g2⟩ | ⟨q, k, T, U, e1, e2, hq, t5, t4, u4, u5, g1, g2⟩
  · rw [e1, ev_I, if_neg (show ¬ (1 : Int32) = 0 by decide), e2, ev_V]
    have hin := L3.1.2.2.1
    exact (l_sumL (i0 := i) (W := W) hd hn hrc hbad n i3 l3 m3 ev3 0 FU FU T U (by omega) (by rw [pz_FU]; omega) (by rw [pz_FU]; omega) L3 F3 (by omega) (by omega) k2).pre g1 g2 (Nat.le_refl _)
  · obtain ⟨m, hm⟩ := FU_s
    rw [e1, ev_I, if_pos rfl, e2, ev_V, hm, r_sumL_bad (q := q) (by omega) u4]
    exact Or.inr ⟨q, k, T, U, rfl, rfl, hq, t5, t4, u4, u5, g1, g2⟩
theorem rc_bad (D : Nat) : RcBad (fun S => fR_readSum (D + 1) S) := fun S q hq h4 => by
  show fR_readSum (D + 1) S = _
  rw [fR_readSum, r_sumB_bad hq h4]
theorem l_rc (hn : n ≤ 150) : ∀ D d, d ≤ 6 → 7 - d < D → RcOK t n d (3 + 3 * (6 - d)) (fun x2 S => fC_Law_readSum_5 D x2 S) (fun S => fR_readSum D S) ∧ RcBad (fun S => fR_readSum D S) := by
  intro D
  induction D with
  | zero => intro d hd h; omega
  | succ D ih =>
    intro d hd h
    have hB : RcBad (fun S => fR_readSum (D + 1) S) := fun S q hq h4 => by
      show fR_readSum (D + 1) S = _
      rw [fR_readSum, r_sumB_bad hq h4]
    refine ⟨fun i W SC SR L => ?_, hB⟩
    show LRes t n i d W (3 + 3 * (6 - d)) SC SR (fC_Law_readSum_5 (D + 1) (nI d) SC) (fR_readSum (D + 1) SR)
    rw [fC_Law_readSum_5, fR_readSum]
    by_cases q : d < 6
    · obtain ⟨h1, h2⟩ := ih (d + 1) (by omega) (by omega)
      have hs := l_sumB (nd := 3 + 3 * (6 - (d + 1))) (rcC := fun x2 S => fC_Law_readSum_5 D x2 S) (rcR := fun S => fR_readSum D S) hd hn (fun _ => h1) h2 L
      rw [show 3 + (3 + 3 * (6 - (d + 1))) = 3 + 3 * (6 - d) by omega] at hs
      exact hs
    · obtain ⟨D', rfl⟩ : ∃ z, D = z + 1 := ⟨D - 1, by omega⟩
      have hz : RcBad (fun S => fR_readSum (D' + 1) S) := rc_bad D'
      have hs := l_sumB (nd := 0) (rcC := fun x2 S => fC_Law_readSum_5 (D' + 1) x2 S) (rcR := fun S => fR_readSum (D' + 1) S) hd hn (fun z => absurd z q) hz L
      rw [show 3 + 3 * (6 - d) = 3 + 0 by omega]
      exact hs
end PVF
