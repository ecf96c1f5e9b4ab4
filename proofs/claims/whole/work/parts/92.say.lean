/-! a work's reader: say and week (written by wip/whole/pure/p92.py) -/
section PVM
variable {V : Vy} {L : Lw} {S T U SC SR SC1 SR1 : St} {t : Nat → Nat} {n i j p q k s d b lo h1 h2 dd i0 : Nat} {W : List (Nat × Nat × Nat)} {f u : Oz} {rcR : St → Oz}
theorem q_say (hi0 : i0 + 3 ≤ i) (h : QS V t n i d W SC SR) (hn : n ≤ 150) (hi : 4 * (W.length + 1) ≤ i + 1) (hA : h1 < 1000) (hok : ∀ a, a < h1 → SOK V (2, a, 0)) :
    QRes V L t n i0 d W dd SC SR (aft (obI (fC_Tape_needsNumber 0 (nI h1 - 1) SC) fun r26 T25 => (if r26 = 0 then (some (rI 0, T25)) else (obI (fC_Work_put 2 (T25.1 6) 0 T25) fun r28 T27 => (if r28 = 0 then (some (rI 0, T27)) else (some (rI 1, T27))))))) (obI (fR_readNumber 0 (nI h1 - 1) SR) fun r2 T1 => (fR_readStep_201 rcR 0 r2 2 T1)) := by
  rcases b_num (lo := 0) h.1 h.2.1 h.2.2.1 (HI.sub (h := h1) hA) (by omega) (by omega) with ⟨i2, v, k1, k2, k3, k4, e1, e2⟩ | ⟨q, kk, T, U, e1, e2, hq, t5, t4, u4, u5, g1, g2⟩
  · have Q1 := (h.mv (j := i2) (by omega) k2).v (v := nI v)
    obtain ⟨T, U, p1, p2, Q3, g1, g2⟩ := q_put Q1 hn (by omega) (2, v, 0) (by omega)
    have p1' : fC_Work_put 2 (nI v) 0 (sF (sF SC 8 (nI i2)) 6 (nI v)) = some (rI 1, T) := p1
    have p2' : fR_tellsStep 2 (nI v) 0 (sF SR 3 (nI i2)) = some (rV, U) := p2
    have e1' : fC_Tape_needsNumber 0 (nI h1 - 1) SC = _ := e1
    have e2' : fR_readNumber 0 (nI h1 - 1) SR = _ := e2
    rw [e1', ev_I, if_neg (show ¬ (1 : Int32) = 0 by decide), show (sF (sF SC 8 (nI i2)) 6 (nI v)).1 6 = nI v from rfl, p1', ev_I, if_neg (show ¬ (1 : Int32) = 0 by decide), e2', ev_I, fR_readStep_201, p2', ev_V]
    exact q_fin (l := [(2, v, 0)]) Q3 (blk_one (hok v k4)) (Nat.zero_le _) (by show i0 + 4 * 1 ≤ i2 + 1 ∧ 1 ≤ 1; omega) ((((frm.rf.F (by simp)).F (by simp))).tr (g1.wide (by simp) (by simp))) ((frm.rf.F (by simp)).tr (g2.wide (by simp) (by simp)))
  · have e1' : fC_Tape_needsNumber 0 (nI h1 - 1) SC = _ := e1
    have e2' : fR_readNumber 0 (nI h1 - 1) SR = _ := e2
    rw [e1', ev_I, if_pos rfl, aft, ev_I, if_pos rfl, e2', ev_I, fR_readStep_201, r_tells_bad _ _ _ (q := q) (by omega) u4, ev_V, r_204_bad (q := q) (by omega) u4]
    exact Or.inr ⟨q, kk, T, U, rfl, rfl, hq, t5, t4, u4, u5, g1.wide (by simp) (by simp), g2.wide (by simp) (by simp)⟩
theorem q_week (hi0 : i0 + 3 ≤ i) (h : QS V t n i d W SC SR) (hn : n ≤ 150) (hi : 4 * (W.length + 1) ≤ i) :
    QRes V L t n i0 d W dd SC SR (aft (fC_Work_put 4 0 0 SC)) (fR_readStep_201 rcR 0 0 4 SR) := by
  obtain ⟨T, U, p1, p2, Q3, g1, g2⟩ := q_put h hn (by omega) (4, 0, 0) (by omega)
  have p1' : fC_Work_put 4 0 0 SC = some (rI 1, T) := p1
  have p2' : fR_tellsStep 4 0 0 SR = some (rV, U) := p2
  rw [p1', fR_readStep_201, p2', ev_V]
  exact q_fin (l := [(4, 0, 0)]) Q3 (blk_one (Or.inr (Or.inr (Or.inr (Or.inr ⟨rfl, rfl, rfl⟩))))) (Nat.zero_le _) (by show i0 + 4 * 1 ≤ i + 1 ∧ 1 ≤ 1; omega) (g1.wide (by simp) (by simp)) (g2.wide (by simp) (by simp))
end PVM
