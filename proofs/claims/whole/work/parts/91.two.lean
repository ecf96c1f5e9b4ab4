/-! a work's reader: a step of two numbers (written by wip/whole/pure/p91.py) -/
section PVL
variable {V : Vy} {L : Lw} {S T U SC SR SC1 SR1 : St} {t : Nat → Nat} {n i j p q k s d b lo h1 h2 dd : Nat} {W : List (Nat × Nat × Nat)} {f u : Oz} {rcR : St → Oz}
/-- what follows a step on the class's side -/
def aft (f : Oz) : Oz := obI f fun r2 T1 => (if r2 = 0 then (some (rI 0, T1)) else (obI (fC_Tape_needs 59 T1) fun r4 T3 => (if r4 = 0 then (some (rI 0, T3)) else (some (rI 1, T3)))))
theorem q_fin {l : List (Nat × Nat × Nat)} {d2 : Nat} (h : QS V t n j d (W ++ l) T U) (hb : Blk V L W.length l d2) (hd : d2 ≤ dd) (hij : i + 4 * l.length ≤ j + 1 ∧ 1 ≤ l.length) (gC : frm [6, 8, 9, 22] [43, 44, 45] SC T) (gR : frm [3, 6, 18] [15] SR U) :
    QRes V L t n i d W dd SC SR (aft (some (rI 1, T))) (fR_readStep_204 rcR U) := by
  rw [aft, ev_I, if_neg (show ¬ (1 : Int32) = 0 by decide), fR_readStep_204, show (59 : Int32) = nI 59 from rfl]
  rcases q_sign h (b := 59) (by omega) (by omega) with ⟨i2, z1, z2, z3, z4⟩ | ⟨q, T2, U2, hq, z3, z4, t5, t4, u4, u5, g1, g2⟩
  · rw [z3, ev_I, if_neg (show ¬ (1 : Int32) = 0 by decide), z4, ev_V]
    exact Or.inl ⟨i2, l, d2, _, _, rfl, rfl, h.mv (by omega) z2, hb, hd, by omega, gC.F (by simp), gR.F (by simp)⟩
  · rw [z3, ev_I, if_pos rfl, z4, ev_V]
    exact Or.inr (QBad.pre gC gR ⟨q, 1, T2, U2, rfl, rfl, hq, t5, t4, u4, u5, g1.wide (by simp) (by simp), g2.wide (by simp) (by simp)⟩)
theorem r_204_bad (hq : q < 2 ^ 31) (h : S.1 4 = nI q) : fR_readStep_204 rcR S = some (rV, S) := by rw [fR_readStep_204, r_sign_bad _ hq h, ev_V]
theorem q_two {i0 : Nat} (hi0 : i0 + 3 ≤ i) (h : QS V t n i d W SC SR) (hn : n ≤ 150) (hi : 4 * (W.length + 1) ≤ i + 2) (hA : h1 < 1000) (hB : h2 < 1000) (hok : ∀ a b, a < h1 → b < h2 → SOK V (k, a, b)) (hk : k ≠ 5) :
    QRes V L t n i0 d W dd SC SR (aft (fC_Work_readNumbers (nI k) (nI h1) (nI h2) SC)) (obI (fR_readNumber 0 (nI h1 - 1) SR) fun r2 T1 => (obI (fR_readNumber 0 (nI h2 - 1) T1) fun r4 T3 => (fR_readStep_201 rcR r4 r2 (nI k) T3))) := by
  rw [fC_Work_readNumbers, show (0 : Int32) = nI 0 from rfl]
  rcases b_num (lo := 0) h.1 h.2.1 h.2.2.1 (HI.sub (h := h1) hA) (by omega) (by omega) with ⟨i2, v, k1, k2, k3, k4, e1, e2⟩ | ⟨q, kk, T, U, e1, e2, hq, t5, t4, u4, u5, g1, g2⟩
  · have Q1 := (h.mv (j := i2) (by omega) k2).v (v := nI v)
    rw [e1, ev_I, if_neg (show ¬ (1 : Int32) = nI 0 by decide), e2, ev_I, show (sF (sF SC 8 (nI i2)) 6 (nI v)).1 6 = nI v from rfl, ev_nx]
    rcases b_num (lo := 0) Q1.1 Q1.2.1 Q1.2.2.1 (HI.sub (h := h2) hB) (by omega) (by omega) with ⟨i3, v2, y1, y2, y3, y4, e3, e4⟩ | ⟨q, kk, T, U, e3, e4, hq, t5, t4, u4, u5, g1, g2⟩
    · have Q2 := (Q1.mv (j := i3) (by omega) y2).v (v := nI v2)
      obtain ⟨T, U, p1, p2, Q3, g1, g2⟩ := q_put Q2 hn (by omega) (k, v, v2) (by omega)
      rw [if_neg (show ¬ (k, v, v2).1 = 5 from hk)] at p2
      have p1' : fC_Work_put (nI k) (nI v) (nI v2) (sF (sF (sF (sF SC 8 (nI i2)) 6 (nI v)) 8 (nI i3)) 6 (nI v2)) = some (rI 1, T) := p1
      have p2' : fR_tellsStep (nI k) (nI v) (nI v2) (sF (sF SR 3 (nI i2)) 3 (nI i3)) = some (rV, U) := p2
      rw [e3, ev_I, if_neg (show ¬ (1 : Int32) = nI 0 by decide), e4, ev_I, show (sF (sF (sF (sF SC 8 (nI i2)) 6 (nI v)) 8 (nI i3)) 6 (nI v2)).1 6 = nI v2 from rfl, p1', ev_I, if_neg (show ¬ (1 : Int32) = nI 0 by decide), fR_readStep_201, p2', ev_V]
      exact q_fin (l := [(k, v, v2)]) Q3 (blk_one (hok v v2 k4 y4)) (Nat.zero_le _) (by show i0 + 4 * 1 ≤ i3 + 1 ∧ 1 ≤ 1; omega) (((((frm.rf.F (by simp)).F (by simp)).F (by simp)).F (by simp)).tr (g1.wide (by simp) (by simp))) (((frm.rf.F (by simp)).F (by simp)).tr (g2.wide (by simp) (by simp)))
    · rw [e3, ev_I, if_pos (show (0 : Int32) = nI 0 from rfl), aft, ev_I, if_pos (show nI 0 = 0 from rfl), e4, ev_I, fR_readStep_201, r_tells_bad _ _ _ (q := q) (by omega) u4, ev_V, r_204_bad (q := q) (by omega) u4]
      exact Or.inr ⟨q, kk, T, U, rfl, rfl, hq, t5, t4, u4, u5, ((frm.rf.F (by simp)).F (by simp)).tr (g1.wide (by simp) (by simp)), (frm.rf.F (by simp)).tr (g2.wide (by simp) (by simp))⟩
  · rw [e1, ev_I, if_pos (show (0 : Int32) = nI 0 from rfl), aft, ev_I, if_pos (show nI 0 = 0 from rfl), e2, ev_I, show fR_readNumber (nI 0) (nI h2 - 1) U = some (rI 0, U) from r_num_bad _ _ (p := q) (by omega) u4, ev_I, fR_readStep_201, r_tells_bad _ _ _ (q := q) (by omega) u4, ev_V, r_204_bad (q := q) (by omega) u4]
    exact Or.inr ⟨q, kk, T, U, rfl, rfl, hq, t5, t4, u4, u5, g1.wide (by simp) (by simp), g2.wide (by simp) (by simp)⟩
end PVL
