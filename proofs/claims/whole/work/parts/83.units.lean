/-! a law's units (written by wip/whole/pure/p83.py) -/
section PVD
variable {S T U SC SR SC1 SR1 : St} {t : Nat → Nat} {n i j p q k s d b si nd : Nat} {W : List (Nat × Nat)} {f u : Oz} {rcC : Int32 → St → Oz} {rcR : St → Oz}
theorem LC.upd {f : Nat → Int32} {x : Int32} : ∀ {l : List (Nat × Nat)} {j : Nat}, LC f j l → j + l.length ≤ p → LC (upd f p x) j l
  | [], _, _, _ => trivial
  | w :: l, j, h, hp => by
    have e : (w :: l).length = l.length + 1 := rfl
    exact ⟨(upd_n _ _ (by omega)).trans h.1, h.2.upd (by omega)⟩
theorem LD.upd {f g : Nat → Int32} {x y : Int32} : ∀ {l : List (Nat × Nat)} {j : Nat}, LD f g j l → j + l.length ≤ p → LD (upd f p x) (upd g p y) j l
  | [], _, _, _ => trivial
  | w :: l, j, h, hp => by
    have e : (w :: l).length = l.length + 1 := rfl
    exact ⟨⟨(upd_n _ _ (by omega)).trans h.1.1, (upd_n _ _ (by omega)).trans h.1.2⟩, h.2.upd (by omega)⟩
def LWS (t : Nat → Nat) (n i d : Nat) (W : List (Nat × Nat)) (SC SR : St) : Prop := CT t n i SC ∧ RT t n i SR ∧ SR.1 4 = -1 ∧ SR.1 6 = nI d ∧ SC.1 19 = nI W.length ∧ SR.1 16 = nI W.length ∧ LC (SC.2.1 34) 0 W ∧ LD (SR.2.1 9) (SR.2.1 10) 0 W ∧ W.length ≤ i
def LBad (SC SR : St) (f u : Oz) : Prop := ∃ q k T U, f = some (rI 0, T) ∧ u = some (rV, U) ∧ q ≤ 600 ∧ T.1 5 = nI q ∧ T.1 4 = nI k ∧ U.1 4 = nI q ∧ U.1 5 = nI k ∧ frm [4, 5, 6, 8, 9, 19] [34] SC T ∧ frm [3, 4, 5, 6, 16] [9, 10] SR U
def LRes (t : Nat → Nat) (n i d : Nat) (W : List (Nat × Nat)) (nd : Nat) (SC SR : St) (f u : Oz) : Prop :=
  (∃ i2 l m ev T U, f = some (rI 1, T) ∧ u = some (rV, U) ∧ LWS t n i2 d (W ++ l) T U ∧ Frag l m ev ∧ m ≤ nd ∧ i + l.length ≤ i2 ∧ frm [6, 8, 9, 19] [34] SC T ∧ frm [3, 6, 16] [9, 10] SR U) ∨ LBad SC SR f u
theorem LBad.pre (gC : frm [6, 8, 9, 19] [34] SC SC1) (gR : frm [3, 6, 16] [9, 10] SR SR1) (h : LBad SC1 SR1 f u) : LBad SC SR f u := by
  obtain ⟨q, k, T, U, e1, e2, h1, h2, h3, h4, h5, g1, g2⟩ := h
  exact ⟨q, k, T, U, e1, e2, h1, h2, h3, h4, h5, (gC.wide (by simp) (by simp)).tr g1, (gR.wide (by simp) (by simp)).tr g2⟩
theorem LRes.pre (gC : frm [6, 8, 9, 19] [34] SC SC1) (gR : frm [3, 6, 16] [9, 10] SR SR1) (hij : i ≤ j) (h : LRes t n j d W nd SC1 SR1 f u) : LRes t n i d W nd SC SR f u := by
  rcases h with ⟨i2, l, m, ev, T, U, e1, e2, h1, h2, h3, h4, g1, g2⟩ | h
  · exact Or.inl ⟨i2, l, m, ev, T, U, e1, e2, h1, h2, h3, by omega, gC.tr g1, gR.tr g2⟩
  · exact Or.inr (h.pre gC gR)
/-- moved, other depth -/
theorem LWS.mv (h : LWS t n i d W SC SR) (hij : i ≤ j) (hj : j ≤ n) : LWS t n j d W (sF SC 8 (nI j)) (sF SR 3 (nI j)) := by
  obtain ⟨h1, h2, h3, h4, h5, h6, h7, h8, h9⟩ := h
  exact ⟨h1.mv hj, h2.mv hj, h3, h4, h5, h6, h7, h8, by omega⟩
theorem l_put (h : LWS t n i d W SC SR) (hn : n ≤ 150) (hW : W.length + 1 ≤ i) (w : Nat × Nat) : ∃ T U, fC_Law_put_5 (nI (cwd w)) SC = some (rI 1, T) ∧ fR_emit (nI (rcd w.1)) (nI w.2) SR = some (rV, U) ∧ LWS t n i d (W ++ [w]) T U ∧ frm [19] [34] SC T ∧ frm [16] [9, 10] SR U := by
  obtain ⟨h1, h2, h3, h4, h5, h6, h7, h8, h9⟩ := h
  have hin := h1.2.2.1
  have hlen : (W ++ [w]).length = W.length + 1 := by rw [List.length_append]; rfl
  refine ⟨sF (sA SC 34 (nI W.length) (nI (cwd w))) 19 (nI (W.length + 1)), sF (sA (sA SR 9 (nI W.length) (nI (rcd w.1))) 10 (nI W.length) (nI w.2)) 16 (nI (W.length + 1)), ?_, ?_, ⟨h1.fr (fs := [19]) (as := [34]) ((frm.rf.A (by simp)).F (by simp)) (by simp) (by simp) (by simp), h2.fr (fs := [16]) (as := [9, 10]) (((frm.rf.A (by simp)).A (by simp)).F (by simp)) (by simp) (by simp) (by simp), h3, h4, ?_, ?_, ?_, ?_, by rw [hlen]; exact hW⟩, (frm.rf.A (by simp)).F (by simp), ((frm.rf.A (by simp)).A (by simp)).F (by simp)⟩
  · rw [fC_Law_put_5, h5, it_ltL (by omega) (by omega), if_pos (by omega), pz_gib (by omega) (by omega), ev_nx, tA_1, h5, nI_1, ev_nx]
  · rw [fR_emit, r_fine1 h3, ev_I, if_neg (show ¬ (1 : Int32) = 0 by decide), h6, pz_gib (by omega) (by omega), ev_nx, tA_1, h6, pz_gib (by omega) (by omega), ev_nx, tA_1, tA_1, h6, nI_1, ev_nx]
  · rw [hlen]; rfl
  · rw [hlen]; rfl
  · rw [tF_2, tA_21, if_pos rfl, nI_clamp (by omega)]
    refine LC.app.mpr ⟨h7.upd (by omega), ?_, trivial⟩
    rw [Nat.zero_add, upd_s]
  · rw [tF_2, tA_21, if_neg (by decide), tA_21, if_pos rfl, nI_clamp (by omega), tA_21, if_pos rfl, nI_clamp (by omega), tA_21, if_neg (by decide)]
    refine LD.app.mpr ⟨h8.upd (by omega), ⟨?_, ?_⟩, trivial⟩
    · rw [Nat.zero_add, upd_s]
    · rw [Nat.zero_add, upd_s]
theorem r_emit_bad (x y : Int32) (hq : q < 2 ^ 31) (h : S.1 4 = nI q) : fR_emit x y S = some (rV, S) := by rw [fR_emit, r_fine0 hq h, ev_I, if_pos rfl]
def RcOK (t : Nat → Nat) (n d nd : Nat) (rcC : Int32 → St → Oz) (rcR : St → Oz) : Prop := ∀ i W SC SR, LWS t n i d W SC SR → LRes t n i d W nd SC SR (rcC (nI d) SC) (rcR SR)
def RcBad (rcR : St → Oz) : Prop := ∀ S q, q < 2 ^ 31 → S.1 4 = nI q → rcR S = some (rV, S)
/-- one deeper -/
theorem r_open_ok {len : Nat} (h3 : S.1 4 = -1) (h6 : S.1 6 = nI d) (hd : d < 6) (hp : S.1 3 = nI s) : fR_opensOne (nI len) S = some (rV, sF (sF S 3 (nI (s + len))) 6 (nI (d + 1))) := by
  rw [fR_opensOne, r_fine1 h3, ev_I, if_neg (show ¬ (1 : Int32) = 0 by decide), h6, it_eqL (by omega) (by omega), if_neg (by omega), fR_opensOne_25, r_fine1 h3, ev_I, if_neg (show ¬ (1 : Int32) = 0 by decide), hp, nI_add, ev_nx, fR_opensOne_42, show (sF S 3 (nI (s + len))).1 6 = nI d from h6, nI_1, ev_nx]
theorem r_open_no {len : Int32} (h3 : S.1 4 = -1) (h6 : S.1 6 = nI 6) (hs : s < 2 ^ 31) (hp : S.1 3 = nI s) : fR_opensOne len S = some (rV, sF (sF (sF S 4 (nI s)) 5 3) 6 (nI 7)) := by
  rw [fR_opensOne, r_fine1 h3, ev_I, if_neg (show ¬ (1 : Int32) = 0 by decide), h6, if_pos (by decide), hp, r_wrong1 _ _ h3, ev_V, fR_opensOne_25, r_fine0 (p := s) hs rfl, ev_I, if_pos rfl, fR_opensOne_42, show (sF (sF S 4 (nI s)) 5 3).1 6 = nI 6 from h6, nI_1, ev_nx]
theorem LWS.dep {v : Int32} (h : LWS t n i d W SC SR) (e : v = nI p) : LWS t n i p W SC (sF SR 6 v) := by
  obtain ⟨h1, h2, h3, h4, h5, h6, h7, h8, h9⟩ := h
  exact ⟨h1, h2.fr (fs := [6]) (as := []) (frm.rf.F (by simp)) (by simp) (by simp) (by simp), h3, e, h5, h6, h7, h8, h9⟩
theorem LWS.w {v : Int32} (h : LWS t n i d W SC SR) : LWS t n i d W (sF SC 9 v) SR := by
  obtain ⟨h1, h2, h3, h4, h5, h6, h7, h8, h9⟩ := h
  exact ⟨h1.fr (fs := [9]) (as := []) (frm.rf.F (by simp)) (by simp) (by simp) (by simp), h2, h3, h4, h5, h6, h7, h8, h9⟩
/-- a sign on both sides -/
theorem l_sign (h : LWS t n i d W SC SR) (hb : b < 256) (hb0 : 0 < b) : (∃ i2, i < i2 ∧ i2 ≤ n ∧ fC_Tape_needs (nI b) SC = some (rI 1, sF SC 8 (nI i2)) ∧ fR_sign (nI b) SR = some (rV, sF SR 3 (nI i2))) ∨ (∃ q T U, q ≤ 600 ∧ fC_Tape_needs (nI b) SC = some (rI 0, T) ∧ fR_sign (nI b) SR = some (rV, U) ∧ T.1 5 = nI q ∧ T.1 4 = nI 1 ∧ U.1 4 = nI q ∧ U.1 5 = nI 1 ∧ frm [4, 5, 8] [] SC T ∧ frm [3, 4, 5] [] SR U) := by
  obtain ⟨h1, h2, h3, h4, h5, h6, h7, h8, h9⟩ := h
  by_cases hs : sgn t n i b
  · have hge := run_ge (c := bl) (t := t) h1.2.2.1
    have hlt := hs.1
    exact Or.inl ⟨run bl t n i + 1, by omega, by omega, c_sign_ok h1 hb hs, r_sign_ok h2 h3 hs⟩
  · obtain ⟨T, e1, t5, t4, g1⟩ := c_sign_no h1 hb hs
    obtain ⟨U, e2, u4, u5, g2⟩ := r_sign_no h2 h3 hb hb0 hs
    have hle := run_le (c := bl) (t := t) h1.2.2.1
    have hn := h1.2.2.2.1
    exact Or.inr ⟨run bl t n i, T, U, by omega, e1, e2, t5, t4, u4, u5, g1, g2⟩
/-- two of them -/
theorem l_pair {e len kk : Nat} (hd : d ≤ 6) (hn : n ≤ 150) (hrc : d < 6 → RcOK t n (d + 1) nd rcC rcR) (hbad : RcBad rcR) (hk : kk < 7) (h : LWS t n s d W SC SR) (hse : s + len = e) (he : e ≤ n) (hlen : 1 ≤ len) (h9 : SC1 = sF (sF SC 9 (nI s)) 8 (nI e)) :
    LRes t n s d W (1 + nd) SC SR (fC_Law_readPair_5 rcC (nI d) (nI (2000 + kk)) SC1) (fR_readTwo rcR (nI len) (nI (rcd (kk + 2))) SR) := by
  have h' := h
  obtain ⟨h1, h2, h3, h4, h5, h6, h7, h8, hW⟩ := h
  have hsn := h1.2.2.1
  by_cases q6 : d < 6
  · have eo := r_open_ok (len := len) h3 h4 q6 h2.2.1
    rw [hse] at eo
    have L0 : LWS t n e (d + 1) W SC1 (sF (sF SR 3 (nI e)) 6 (nI (d + 1))) := by
      rw [h9]
      have a := (h'.w (v := nI s)).mv (j := e) (by omega) he
      exact a.dep rfl
    have gC0 : frm [6, 8, 9, 19] [34] SC SC1 := by rw [h9]; exact (frm.rf.F (by simp)).F (by simp)
    have gR0 : frm [3, 6, 16] [9, 10] SR (sF (sF SR 3 (nI e)) 6 (nI (d + 1))) := (frm.rf.F (by simp)).F (by simp)
    rw [fC_Law_readPair_5, it_ltL (by omega) (by omega), if_pos q6, fR_readTwo, eo, ev_V, nI_1, show (91 : Int32) = nI 91 from rfl]
    -- a fault at once ends both
    have tail : ∀ (q : Nat) (U : St), q < 2 ^ 31 → U.1 4 = nI q → (nx (sF U 6 ((U.1 6) - 1)) fun T13 => (obV (fR_emit (nI (rcd (kk + 2))) 0 T13) fun T14 => (some (rV, T14)))) = some (rV, sF U 6 (U.1 6 - 1)) := fun q U hq hu => by
      rw [ev_nx, r_emit_bad (S := sF U 6 (U.1 6 - 1)) _ _ hq hu, ev_V]
    rcases l_sign L0 (b := 91) (by omega) (by omega) with ⟨i2, z1, z2, z3, z4⟩ | ⟨q, T, U, hq, z3, z4, t5, t4, u4, u5, g1, g2⟩
    · have L1 := L0.mv (j := i2) (by omega) z2
      rw [z3, ev_I, if_neg (show ¬ (1 : Int32) = 0 by decide), z4, ev_V]
      have gC1 : frm [6, 8, 9, 19] [34] SC (sF SC1 8 (nI i2)) := gC0.F (by simp)
      have gR1 : frm [3, 6, 16] [9, 10] SR (sF (sF (sF SR 3 (nI e)) 6 (nI (d + 1))) 3 (nI i2)) := gR0.F (by simp)
      rcases hrc q6 i2 W _ _ L1 with ⟨i3, l1, m1, ev1, T1, U1, e1, e2, L2, F1, k1, k2, g3, g4⟩ | ⟨q, k, T, U, e1, e2, hq, t5, t4, u4, u5, g1, g2⟩
      · rw [e1, ev_I, if_neg (show ¬ (1 : Int32) = 0 by decide), e2, ev_V, show (44 : Int32) = nI 44 from rfl]
        have gC2 := gC1.tr g3
        have gR2 := gR1.tr g4
        rcases l_sign L2 (b := 44) (by omega) (by omega) with ⟨i4, z5, z6, z7, z8⟩ | ⟨q, T, U, hq, z7, z8, t5, t4, u4, u5, g1, g2⟩
        · have L3 := L2.mv (j := i4) (by omega) z6
          rw [z7, ev_I, if_neg (show ¬ (1 : Int32) = 0 by decide), z8, ev_V]
          have gC3 : frm [6, 8, 9, 19] [34] SC (sF T1 8 (nI i4)) := gC2.F (by simp)
          have gR3 : frm [3, 6, 16] [9, 10] SR (sF U1 3 (nI i4)) := gR2.F (by simp)
          rcases hrc q6 i4 (W ++ l1) _ _ L3 with ⟨i5, l2, m2, ev2, T2, U2, e3, e4, L4, F2, k3, k4, g5, g6⟩ | ⟨q, k, T, U, e1, e2, hq, t5, t4, u4, u5, g1, g2⟩
          · rw [e3, ev_I, if_neg (show ¬ (1 : Int32) = 0 by decide), e4, ev_V, show (93 : Int32) = nI 93 from rfl]
            have gC4 := gC3.tr g5
            have gR4 := gR3.tr g6
            rcases l_sign L4 (b := 93) (by omega) (by omega) with ⟨i6, y1, y2, y3, y4⟩ | ⟨q, T, U, hq, y3, y4, t5, t4, u4, u5, g1, g2⟩
            · have L5 := L4.mv (j := i6) (by omega) y2
              have hop : (sF U2 3 (nI i6)).1 6 = nI (d + 1) := L5.2.2.2.1
              have L6 := L5.dep (p := d) (v := (sF U2 3 (nI i6)).1 6 - 1) (by rw [hop, nI_pred])
              have hl : (W ++ l1 ++ l2).length + 1 ≤ i6 := by
                have hh := L4.2.2.2.2.2.2.2.2
                omega
              obtain ⟨T3, U3, p1, p2, L7, g7, g8⟩ := l_put L6 hn hl (kk + 2, 0)
              have hcw : cwd (kk + 2, 0) = 2000 + kk := by
                unfold cwd
                rw [if_neg (show ¬ (kk + 2, 0).1 = 0 by show ¬ kk + 2 = 0; omega), if_neg (show ¬ (kk + 2, 0).1 = 1 by show ¬ kk + 2 = 1; omega)]
                show 1998 + (kk + 2) = 2000 + kk
                omega
              rw [hcw] at p1
              have p2' : fR_emit (nI (rcd (kk + 2))) 0 (sF (sF U2 3 (nI i6)) 6 ((sF U2 3 (nI i6)).1 6 - 1)) = some (rV, U3) := p2
              rw [y3, ev_I, if_neg (show ¬ (1 : Int32) = 0 by decide), y4, ev_V, ev_nx, p1, ev_I, if_neg (show ¬ (1 : Int32) = 0 by decide), p2', ev_V]
              rw [List.append_assoc, List.append_assoc] at L7
              refine Or.inl ⟨i6, l1 ++ (l2 ++ [(kk + 2, 0)]), max m1 (1 + m2), _, T3, U3, rfl, rfl, L7, frag_op hk F1 F2, Nat.max_le.mpr ⟨by omega, by omega⟩, ?_, (gC4.F (by simp)).tr (g7.wide (by simp) (by simp)), ((gR4.F (by simp)).F (by simp)).tr (g8.wide (by simp) (by simp))⟩
              rw [List.length_append, List.length_append]
              show s + (l1.length + (l2.length + 1)) ≤ i6
              omega
            · rw [y3, ev_I, if_pos rfl, y4, ev_V, tail q U (by omega) u4]
              exact Or.inr (LBad.pre gC4 gR4 ⟨q, 1, T, _, rfl, rfl, hq, t5, t4, u4, u5, g1.wide (by simp) (by simp), (g2.wide (by simp) (by simp)).F (by simp)⟩)
          · rw [e1, ev_I, if_pos rfl, e2, ev_V, r_sign_bad _ (p := q) (by omega) u4, ev_V, tail q U (by omega) u4]
            exact Or.inr (LBad.pre gC3 gR3 ⟨q, k, T, _, rfl, rfl, hq, t5, t4, u4, u5, g1, g2.F (by simp)⟩)
        · rw [z7, ev_I, if_pos rfl, z8, ev_V, hbad U q (by omega) u4, ev_V, r_sign_bad _ (p := q) (by omega) u4, ev_V, tail q U (by omega) u4]
          exact Or.inr (LBad.pre gC2 gR2 ⟨q, 1, T, _, rfl, rfl, hq, t5, t4, u4, u5, g1.wide (by simp) (by simp), (g2.wide (by simp) (by simp)).F (by simp)⟩)
      · rw [e1, ev_I, if_pos rfl, e2, ev_V, r_sign_bad _ (p := q) (by omega) u4, ev_V, hbad U q (by omega) u4, ev_V, r_sign_bad _ (p := q) (by omega) u4, ev_V, tail q U (by omega) u4]
        exact Or.inr (LBad.pre gC1 gR1 ⟨q, k, T, _, rfl, rfl, hq, t5, t4, u4, u5, g1, g2.F (by simp)⟩)
    · rw [z3, ev_I, if_pos rfl, z4, ev_V, hbad U q (by omega) u4, ev_V, r_sign_bad _ (p := q) (by omega) u4, ev_V, hbad U q (by omega) u4, ev_V, r_sign_bad _ (p := q) (by omega) u4, ev_V, tail q U (by omega) u4]
      exact Or.inr (LBad.pre gC0 gR0 ⟨q, 1, T, _, rfl, rfl, hq, t5, t4, u4, u5, g1.wide (by simp) (by simp), (g2.wide (by simp) (by simp)).F (by simp)⟩)
  · have e6 : d = 6 := by omega
    subst e6
    have eo := r_open_no (len := nI len) h3 h4 (s := s) (by omega) h2.2.1
    have b4 : (sF (sF (sF SR 4 (nI s)) 5 3) 6 (nI 7)).1 4 = nI s := rfl
    rw [fC_Law_readPair_5, if_neg (show ¬ nI 6 < 6 by decide), fR_readTwo, eo, ev_V, r_sign_bad _ (p := s) (by omega) b4, ev_V, hbad _ s (by omega) b4, ev_V, r_sign_bad _ (p := s) (by omega) b4, ev_V, hbad _ s (by omega) b4, ev_V, r_sign_bad _ (p := s) (by omega) b4, ev_V, ev_nx, r_emit_bad (q := s) _ _ (by omega) (show (sF (sF (sF (sF SR 4 (nI s)) 5 3) 6 (nI 7)) 6 _).1 4 = nI s from rfl), ev_V, fC_Tape_refuseWord, h9, show (sF (sF SC 9 (nI s)) 8 (nI e)).1 9 = nI s from rfl, fC_Tape_refuse, ev_nx, ev_nx, ev_I, gdT (by decide), ev_I, gdT (by decide)]
    exact Or.inr ⟨s, 3, _, _, rfl, rfl, by omega, rfl, rfl, rfl, rfl, (((frm.rf.F (by simp)).F (by simp)).F (by simp)).F (by simp), (((frm.rf.F (by simp)).F (by simp)).F (by simp)).F (by simp)⟩
end PVD
