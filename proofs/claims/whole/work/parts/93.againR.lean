/-! a work's reader: again (written by wip/whole/pure/p93.py) -/
section PVN
variable {V : Vy} {L : Lw} {S T U SC SR SC1 SR1 : St} {t : Nat → Nat} {n i j p q k s d b lo h1 h2 dd i0 : Nat} {W : List (Nat × Nat × Nat)} {f u : Oz} {rcC : Int32 → St → Oz} {rcR : St → Oz}
/-- a list of steps inside brackets: the class stands before ']' , the reference's loop has come there too -/
def QList (V : Vy) (L : Lw) (t : Nat → Nat) (n d dd : Nat) (rcC : Int32 → St → Oz) (rcR : St → Oz) : Prop := ∀ (i : Nat) (W : List (Nat × Nat × Nat)) (SC SR : St) (x3 : Int32), QS V t n i d W SC SR →
  (∃ i2 l d2 T U, rcC (nI d) SC = some (rI 1, T) ∧ fR_readStep_61 rcR FU x3 SR = fR_readStep_84 rcR x3 U ∧ QS V t n i2 d (W ++ l) T U ∧ Blk V L W.length l d2 ∧ d2 ≤ dd ∧ i + 4 * l.length ≤ i2 ∧ frm [6, 8, 9, 22] [43, 44, 45] SC T ∧ frm [3, 6, 18] [15] SR U) ∨
  (∃ q k T U, rcC (nI d) SC = some (rI 0, T) ∧ fR_readStep_61 rcR FU x3 SR = fR_readStep_84 rcR x3 U ∧ q ≤ 600 ∧ T.1 5 = nI q ∧ T.1 4 = nI k ∧ U.1 4 = nI q ∧ U.1 5 = nI k ∧ frm [4, 5, 6, 8, 9, 22] [43, 44, 45] SC T ∧ frm [3, 4, 5, 6, 18] [15] SR U)
theorem r_84_bad (x3 : Int32) (hq : q < 2 ^ 31) (h : S.1 4 = nI q) : fR_readStep_84 rcR x3 S = some (rV, sF S 6 (S.1 6 - 1)) := by
  rw [fR_readStep_84, r_sign_bad _ hq h, ev_V, ev_nx, r_fine0 (S := sF S 6 (S.1 6 - 1)) hq h, ev_I, if_pos rfl, fR_readStep_119, r_204_bad (S := sF S 6 (S.1 6 - 1)) hq h]
theorem r_61_bad (x3 : Int32) (hq : q < 2 ^ 31) (h : S.1 4 = nI q) : fR_readStep_61 rcR FU x3 S = some (rV, sF S 6 (S.1 6 - 1)) := by
  obtain ⟨m, hm⟩ := FU_s
  rw [hm, fR_readStep_61, r_fine0 hq h, ev_I, if_pos rfl, r_84_bad x3 hq h]
theorem q_again (hi0 : i0 + 3 ≤ i) (hd : d < 6) (hl : QList V L t n (d + 1) dd rcC rcR) (h : QS V t n i (d + 1) W SC SR) (hn : n ≤ 150) (hi : 4 * (W.length + 1) ≤ i + 1) :
    QRes V L t n i0 d W (dd + 1) SC SR (aft (fC_Work_readAgain rcC (nI d) SC)) (obI (fR_readNumber 0 40 SR) fun r10 T9 => (obV (fR_sign 91 T9) fun T11 => (nx (T11.1 18) fun v13 => (obV (fR_tellsStep 5 r10 0 T11) fun T14 => (fR_readStep_61 rcR FU v13 T14))))) := by
  rcases b_num (lo := 0) h.1 h.2.1 h.2.2.1 (HI.lit (h := 40) (by omega)) (by omega) (by omega) with ⟨i2, v, k1, k2, k3, k4, e1, e2⟩ | ⟨q, kk, T, U, e1, e2, hq, t5, t4, u4, u5, g1, g2⟩
  · have e1' : fC_Tape_needsNumber 0 40 SC = _ := e1
    have e2' : fR_readNumber 0 40 SR = _ := e2
    have Q1 := (h.mv (j := i2) (by omega) k2).v (v := nI v)
    obtain ⟨T, U, p1, p2, Q2, g1, g2⟩ := q_put Q1 hn (by omega) (5, v, 0) (by omega)
    have p1' : fC_Work_put 5 (nI v) 0 (sF (sF SC 8 (nI i2)) 6 (nI v)) = some (rI 1, T) := p1
    have gC1 : frm [6, 8, 9, 22] [43, 44, 45] SC T := ((frm.rf.F (by simp)).F (by simp)).tr (g1.wide (by simp) (by simp))
    have gR1 : frm [3, 6, 18] [15] SR (sF SR 3 (nI i2)) := frm.rf.F (by simp)
    rw [fC_Work_readAgain, h.2.2.2.2.1, ev_nx, e1', ev_I, if_neg (show ¬ (1 : Int32) = 0 by decide), show (sF (sF SC 8 (nI i2)) 6 (nI v)).1 6 = nI v from rfl, p1', ev_I, if_neg (show ¬ (1 : Int32) = 0 by decide), e2', ev_I, show (91 : Int32) = nI 91 from rfl]
    -- the bracket, on states that differ by the put
    have hT := Q2.1
    by_cases sg : sgn t n i2 91
    · have z1 := c_sign_ok hT (by omega) sg
      have z2 := r_sign_ok Q1.2.1 Q1.2.2.1 sg
      have hge := run_ge (c := bl) (t := t) hT.2.2.1
      have hlt := sg.1
      generalize run bl t n i2 = s at *
      have Q3 : QS V t n (s + 1) (d + 1) W (sF (sF (sF SC 8 (nI i2)) 6 (nI v)) 8 (nI (s + 1))) (sF (sF SR 3 (nI i2)) 3 (nI (s + 1))) := Q1.mv (by omega) (by omega)
      obtain ⟨T3, U3, r1, r2, Q4, g3, g4⟩ := q_put Q3 hn (by omega) (5, v, 0) (by omega)
      have r2' : fR_tellsStep 5 (nI v) 0 (sF (sF SR 3 (nI i2)) 3 (nI (s + 1))) = some (rV, U3) := r2
      have Q5 : QS V t n (s + 1) (d + 1) (W ++ [(5, v, 0)]) (sF T 8 (nI (s + 1))) U3 := by
        obtain ⟨a1, a2, a3, a4, a5, a6, a7, a8, a9, c1, c2, c3, c4, c5, c6⟩ := Q4
        obtain ⟨b1, b2, b3, b4, b5, b6, b7, b8, b9, d1, d2, d3, d4, d5, d6⟩ := Q2
        exact ⟨hT.mv (by omega), a2, a3, a4, b5, a6, b7, a8, a9, d1, d2, d3, c4, c5, c6⟩
      have gC2 : frm [6, 8, 9, 22] [43, 44, 45] SC (sF T 8 (nI (s + 1))) := gC1.F (by simp)
      have gR2 : frm [3, 6, 18] [15] SR U3 := (gR1.F (by simp)).tr (g4.wide (by simp) (by simp))
      rw [z1, ev_I, if_neg (show ¬ (1 : Int32) = 0 by decide), z2, ev_V, show (sF (sF SR 3 (nI i2)) 3 (nI (s + 1))).1 18 = nI (3 * W.length) from h.2.2.2.2.2.1, ev_nx, r2', ev_V, nI_1 d]
      rcases hl (s + 1) (W ++ [(5, v, 0)]) _ _ (nI (3 * W.length)) Q5 with ⟨i4, l, d2, T4, U4, e3, e4, Q6, B1, y1, y2, g5, g6⟩ | ⟨q, kk, T4, U4, e3, e4, hq, t5, t4, u4, u5, g5, g6⟩
      · rw [e3, ev_I, if_neg (show ¬ (1 : Int32) = 0 by decide), e4, fR_readStep_84, show (93 : Int32) = nI 93 from rfl]
        rcases q_sign Q6 (b := 93) (by omega) (by omega) with ⟨i5, z1, z2, z3, z4⟩ | ⟨q, T2, U2, hq, z3, z4, t5, t4, u4, u5, g7, g8⟩
        · have Q7 := Q6.mv (j := i5) (by omega) z2
          have hop : (sF U4 3 (nI i5)).1 6 = nI (d + 1) := Q7.2.2.2.1
          have Q8 := Q7.dep (p := d) (v := (sF U4 3 (nI i5)).1 6 - 1) (by rw [hop, nI_pred])
          have hcat : (W ++ [(5, v, 0)]) ++ l = W ++ ((5, v, 0) :: l) := by rw [List.append_assoc]; rfl
          rw [hcat] at Q8
          have hlen : (W ++ ((5, v, 0) :: l)).length = W.length + (l.length + 1) := by rw [List.length_append]; rfl
          have hwl : (W ++ [(5, v, 0)]).length = W.length + 1 := by rw [List.length_append]; rfl
          obtain ⟨a1, a2, a3, a4, a5, a6, a7, a8, a9, c1, c2, c3, c4, c5, c6⟩ := Q8
          rw [hlen] at a5 a6 a9
          have hin := a1.2.2.1
          have eU : (sF (sF U4 3 (nI i5)) 6 ((sF U4 3 (nI i5)).1 6 - 1)).1 18 = nI (3 * (W.length + (l.length + 1))) := a6
          rw [z3, ev_I, if_neg (show ¬ (1 : Int32) = 0 by decide), pz_gib (by omega) (by omega), ev_nx, show (sF T4 8 (nI i5)).1 22 = nI (W.length + (l.length + 1)) from a5, z4, ev_V, ev_nx, r_fine1 a3, ev_I, if_neg (show ¬ (1 : Int32) = 0 by decide), show (2 : Int32) = nI 2 from rfl, nI_add (3 * W.length) 2, pz_gib (by omega) (by omega), eU, ev_nx, fR_readStep_119]
          have hv6 : W.length + (l.length + 1) = W.length + 1 + l.length := by omega
          have blk := blk_again (V := V) (L := L) (b := W.length) (l := l) (dd := d2) (times := v) (by omega) (by rw [hwl] at B1; exact B1)
          have x45 : (sA (sF T4 8 (nI i5)) 45 (nI W.length) (nI (W.length + (l.length + 1)))).2.1 45 = upd ((sF T4 8 (nI i5)).2.1 45) W.length (nI (W.length + (l.length + 1))) := by rw [tA_21, if_pos rfl, nI_clamp (by omega)]
          have x15 : (sA (sF (sF U4 3 (nI i5)) 6 ((sF U4 3 (nI i5)).1 6 - 1)) 15 (nI (3 * W.length + 2)) (nI (3 * (W.length + (l.length + 1))))).2.1 15 = upd ((sF (sF U4 3 (nI i5)) 6 ((sF U4 3 (nI i5)).1 6 - 1)).2.1 15) (3 * W.length + 2) (nI (3 * (W.length + (l.length + 1)))) := by rw [tA_21, if_pos rfl, nI_clamp (by omega)]
          have hlen2 : (W ++ ((5, v, W.length + (l.length + 1)) :: l)).length = W.length + (l.length + 1) := by rw [List.length_append]; rfl
          have Q9 : QS V t n i5 d (W ++ ((5, v, W.length + (l.length + 1)) :: l)) (sA (sF T4 8 (nI i5)) 45 (nI W.length) (nI (W.length + (l.length + 1)))) (sA (sF (sF U4 3 (nI i5)) 6 ((sF U4 3 (nI i5)).1 6 - 1)) 15 (nI (3 * W.length + 2)) (nI (3 * (W.length + (l.length + 1))))) := by
            refine ⟨a1.fr (fs := []) (as := [45]) (frm.rf.A (by simp)) (by simp) (by simp) (by simp), a2.fr (fs := []) (as := [15]) (frm.rf.A (by simp)) (by simp) (by simp) (by simp), a3, a4, by rw [hlen2]; exact a5, by rw [hlen2]; exact a6, ?_, ?_, by rw [hlen2]; exact a9, c1, c2, c3, c4, c5, c6⟩
            · rw [x45]
              exact sc3_fix a7
            · rw [x15]
              exact sr3_fix a8
          rw [← hv6] at blk
          exact q_fin (l := (5, v, W.length + (l.length + 1)) :: l) Q9 blk (by omega) (by show i0 + 4 * (l.length + 1) ≤ i5 + 1 ∧ 1 ≤ l.length + 1; omega) (((gC2.tr g5).F (by simp)).A (by simp)) ((((gR2.tr g6).F (by simp)).F (by simp)).A (by simp))
        · rw [z3, ev_I, if_pos rfl, aft, ev_I, if_pos rfl, z4, ev_V, ev_nx, r_fine0 (S := sF U2 6 (U2.1 6 - 1)) (p := q) (by omega) u4, ev_I, if_pos rfl, fR_readStep_119, r_204_bad (S := sF U2 6 (U2.1 6 - 1)) (q := q) (by omega) u4]
          exact Or.inr (QBad.pre (gC2.tr g5) (gR2.tr g6) ⟨q, 1, T2, _, rfl, rfl, hq, t5, t4, u4, u5, g7.wide (by simp) (by simp), (g8.wide (by simp) (by simp)).F (by simp)⟩)
      · rw [e3, ev_I, if_pos rfl, aft, ev_I, if_pos rfl, e4, r_84_bad _ (q := q) (by omega) u4]
        exact Or.inr (QBad.pre gC2 gR2 ⟨q, kk, T4, _, rfl, rfl, hq, t5, t4, u4, u5, g5, g6.F (by simp)⟩)
    · obtain ⟨T2, z1, t5, t4, g3⟩ := c_sign_no hT (by omega) sg
      obtain ⟨U2, z2, u4, u5, g4⟩ := r_sign_no Q1.2.1 Q1.2.2.1 (by omega) (by omega) sg
      have hle := run_le (c := bl) (t := t) hT.2.2.1
      rw [z1, ev_I, if_pos rfl, aft, ev_I, if_pos rfl, z2, ev_V, ev_nx, r_tells_bad _ _ _ (q := run bl t n i2) (by omega) u4, ev_V, r_61_bad _ (q := run bl t n i2) (by omega) u4]
      exact Or.inr ⟨run bl t n i2, 1, T2, _, rfl, rfl, by omega, t5, t4, u4, u5, (gC1.wide (by simp) (by simp)).tr (g3.wide (by simp) (by simp)), ((gR1.wide (by simp) (by simp)).tr (g4.wide (by simp) (by simp))).F (by simp)⟩
  · have e1' : fC_Tape_needsNumber 0 40 SC = _ := e1
    have e2' : fR_readNumber 0 40 SR = _ := e2
    rw [fC_Work_readAgain, h.2.2.2.2.1, ev_nx, e1', ev_I, if_pos rfl, aft, ev_I, if_pos rfl, e2', ev_I, r_sign_bad _ (p := q) (by omega) u4, ev_V, ev_nx, r_tells_bad _ _ _ (q := q) (by omega) u4, ev_V, r_61_bad _ (q := q) (by omega) u4]
    exact Or.inr ⟨q, kk, T, _, rfl, rfl, hq, t5, t4, u4, u5, g1.wide (by simp) (by simp), (g2.wide (by simp) (by simp)).F (by simp)⟩
end PVN
