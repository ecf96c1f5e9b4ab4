/-! a work's reader: lists of steps (written by wip/whole/pure/p96.py) -/
section PVQ
variable {V : Vy} {L : Lw} {S T U SC SR SC1 SR1 : St} {t : Nat → Nat} {n i j p q k s d b dd de i0 lo h1 : Nat} {hi : Int32} {W : List (Nat × Nat × Nat)} {f u : Oz} {rcC : Int32 → St → Oz} {rcR rcB : St → Oz}
theorem aft_35 {K : Int32 → Int32 → St → Oz} (x3 x4 : Int32) (S : St) : fC_Work_readSteps_35 rcC K x3 x4 S = obI (aft (fC_Work_readStep rcC x3 S)) fun r T => if r = 0 then some (rI 0, T) else K x3 (x4 + 1) T := by
  rw [fC_Work_readSteps_35]
  generalize fC_Work_readStep rcC x3 S = f
  rcases f with _ | ⟨r | r | r | r | r, T⟩
  · rfl
  · rfl
  · rw [aft, ev_I, ev_I]
    by_cases h : r = 0
    · rw [if_pos h, if_pos h, ev_I, if_pos rfl]
    · rw [if_neg h, if_neg h]
      generalize fC_Tape_needs 59 T = g
      rcases g with _ | ⟨r | r | r | r | r, T⟩
      · rfl
      · rfl
      · rw [ev_I, ev_I]
        by_cases h : r = 0
        · rw [if_pos h, if_pos h, ev_I, if_pos rfl]
        · rw [if_neg h, if_neg h, ev_I, if_neg (show ¬ (1 : Int32) = 0 by decide)]
      · rfl
      · rfl
      · rfl
  · rfl
  · rfl
  · rfl
def LBad2 (SC SR : St) (f : Oz) (u : Oz) (K : St → Oz) : Prop := ∃ q k T U, f = some (rI 0, T) ∧ u = K U ∧ q ≤ 600 ∧ T.1 5 = nI q ∧ T.1 4 = nI k ∧ U.1 4 = nI q ∧ U.1 5 = nI k ∧ frm [4, 5, 6, 8, 9, 22] [43, 44, 45] SC T ∧ frm [3, 4, 5, 6, 18] [15] SR U
theorem LBad2.pre {K : St → Oz} (gC : frm [6, 8, 9, 22] [43, 44, 45] SC SC1) (gR : frm [3, 6, 18] [15] SR SR1) (h : LBad2 SC1 SR1 f u K) : LBad2 SC SR f u K := by
  obtain ⟨q, k, T, U, e1, e2, h1, h2, h3, h4, h5, g1, g2⟩ := h
  exact ⟨q, k, T, U, e1, e2, h1, h2, h3, h4, h5, (gC.wide (by simp) (by simp)).tr g1, (gR.wide (by simp) (by simp)).tr g2⟩
def LRes2 (V : Vy) (L : Lw) (t : Nat → Nat) (n i d : Nat) (W : List (Nat × Nat × Nat)) (de : Nat) (SC SR : St) (f u : Oz) (K : St → Oz) : Prop :=
  (∃ i2 l d2 T U, f = some (rI 1, T) ∧ u = K U ∧ QS V t n i2 d (W ++ l) T U ∧ Blk V L W.length l d2 ∧ d2 ≤ de ∧ i + 4 * l.length ≤ i2 ∧ frm [6, 8, 9, 22] [43, 44, 45] SC T ∧ frm [3, 6, 18] [15] SR U) ∨ LBad2 SC SR f u K
theorem LRes2.pre {K : St → Oz} (gC : frm [6, 8, 9, 22] [43, 44, 45] SC SC1) (gR : frm [3, 6, 18] [15] SR SR1) (h : LRes2 V L t n i d W de SC1 SR1 f u K) : LRes2 V L t n i d W de SC SR f u K := by
  rcases h with ⟨i2, l, m, T, U, e1, e2, h1, h2, h3, h4, g1, g2⟩ | h
  · exact Or.inl ⟨i2, l, m, T, U, e1, e2, h1, h2, h3, h4, gC.tr g1, gR.tr g2⟩
  · exact Or.inr (h.pre gC gR)
theorem q_list (hB : ∀ S, rcB S = fR_readStep_B rcR S) (hV : VOK V) (hd1 : 1 ≤ d) (hd : d ≤ 6) (hn : n ≤ 150) (hrc : d < 6 → ∃ dd, dd + 1 ≤ de ∧ QList V L t n (d + 1) dd rcC rcR) (x3 : Int32) : ∀ k i l d2 c n1 n2 (SC SR : St), n - i < k → k < n1 → k < n2 → QS V t n i d (W ++ l) SC SR → Blk V L W.length l d2 → d2 ≤ de → 4 * c ≤ i → i0 + 4 * l.length ≤ i →
    LRes2 V L t n i0 d W de SC SR (fC_Work_readSteps_3 rcC n1 (nI d) (nI c) SC) (fR_readStep_61 rcB n2 x3 SR) (fR_readStep_84 rcB x3) := by
  intro k
  induction k with
  | zero => intro i l d2 c n1 n2 SC SR hk; omega
  | succ k ih =>
    intro i l d2 c n1 n2 SC SR hk h1 h2 h hb hd2 hc hi
    obtain ⟨n1, rfl⟩ := pz_fu h1
    obtain ⟨n2, rfl⟩ := pz_fu h2
    have hC := h.1
    have hR := h.2.1
    have h4 := h.2.2.1
    have hin := hC.2.2.1
    have hge := run_ge (c := bl) (t := t) hC.2.2.1
    have hle := run_le (c := bl) (t := t) hC.2.2.1
    have eC := c_sees hC (b := 93) (by omega)
    have eR := r_here hR
    have L1 := h.mv (j := run bl t n i) hge hle
    generalize run bl t n i = s at *
    have gC0 : frm [6, 8, 9, 22] [43, 44, 45] SC (sF SC 8 (nI s)) := frm.rf.F (by simp)
    have gR0 : frm [3, 6, 18] [15] SR (sF SR 3 (nI s)) := frm.rf.F (by simp)
    have cu : (cur t n s = nI 93) = (s < n ∧ t s = 93) := cur_eq L1.2.1 (by omega) (by omega)
    rw [fC_Work_readSteps_3, it_Llt (by omega) (by omega), if_neg (by omega), it_leL (by omega) (by omega), if_neg (by omega), show fC_Tape_sees 93 SC = _ from eC, ev_I, it_p0, fR_readStep_61, r_fine1 h4, ev_I, if_neg (show ¬ (1 : Int32) = 0 by decide), eR, ev_I]
    by_cases q : s < n ∧ t s = 93
    · rw [if_pos q, if_pos (show cur t n s = 93 by rw [show (93 : Int32) = nI 93 from rfl, cu]; exact q)]
      exact Or.inl ⟨s, l, d2, _, _, rfl, rfl, L1, hb, hd2, by omega, gC0, gR0⟩
    · rw [if_neg q, if_neg (show ¬ cur t n s = 93 by rw [show (93 : Int32) = nI 93 from rfl, cu]; exact q), aft_35, hB]
      rcases q_step (rcC := rcC) (rcR := rcR) hV hd hn hrc L1 with ⟨i2, l3, d3, T, U, e1, e2, k1, k2, k3, k4, g1, g2⟩ | ⟨q, k, T, U, e1, e2, hq, t5, t4, u4, u5, g1, g2⟩
      · rw [e1, ev_I, if_neg (show ¬ (1 : Int32) = 0 by decide), e2, ev_V, nI_1 c]
        rw [List.append_assoc] at k1
        have hin2 := k1.1.2.2.1
        have hlen : (l ++ l3).length = l.length + l3.length := List.length_append
        rw [show (W ++ l).length = W.length + l.length from List.length_append] at k2
        exact (ih i2 (l ++ l3) de (c + 1) n1 n2 T U (by omega) (by omega) (by omega) k1 (blk_app hb k2 hd2 k3) (Nat.le_refl _) (by omega) (by rw [hlen]; omega)).pre (gC0.tr g1) (gR0.tr g2)
      · obtain ⟨n2, rfl⟩ : ∃ z, n2 = z + 1 := ⟨n2 - 1, by omega⟩
        rw [e1, ev_I, if_pos rfl, e2, ev_V, fR_readStep_61, r_fine0 (p := q) (by omega) u4, ev_I, if_pos rfl]
        exact Or.inr (LBad2.pre gC0 gR0 ⟨q, k, T, U, rfl, rfl, hq, t5, t4, u4, u5, g1, g2⟩)
theorem q_rc (hV : VOK V) (hn : n ≤ 150) : ∀ D d, 1 ≤ d → d ≤ 6 → 6 - d < D → QList V L t n d (6 - d) (fun x3 S => fC_Work_readSteps D x3 S) (fun S => fR_readStep D S) := by
  intro D
  induction D with
  | zero => intro d h1 hd h; omega
  | succ D ih =>
    intro d h1 hd h i W SC SR x3 hQ
    have hin := hQ.1.2.2.1
    have hz := q_list (i0 := i) (W := W) (de := 6 - d) (L := L) (rcC := fun x3 S => fC_Work_readSteps D x3 S) (rcR := fun S => fR_readStep D S) (rcB := fun S => fR_readStep (D + 1) S) (fun S => by show fR_readStep (D + 1) S = _; rw [fR_readStep]) hV h1 hd hn (fun q => ⟨6 - (d + 1), by omega, ih (d + 1) (by omega) (by omega) (by omega)⟩) x3 (n + 1) i [] 0 0 FU FU SC SR (by omega) (by rw [pz_FU]; omega) (by rw [pz_FU]; omega) (by rw [List.append_nil]; exact hQ) blk_nil (Nat.zero_le _) (Nat.zero_le _) (Nat.le_refl _)
    show LRes2 V L t n i d W (6 - d) SC SR (fC_Work_readSteps (D + 1) (nI d) SC) (fR_readStep_61 (fun S => fR_readStep (D + 1) S) FU x3 SR) (fR_readStep_84 (fun S => fR_readStep (D + 1) S) x3)
    rw [fC_Work_readSteps, fC_Work_readSteps_B]
    exact hz
/-- the steps of the text itself -/
theorem q_top (hV : VOK V) (hn : n ≤ 150) : ∀ k i l d2 c n1 n2 (SC SR : St), n - i < k → k < n1 → k < n2 → QS V t n i 0 l SC SR → Blk V L 0 l d2 → d2 ≤ 6 → 4 * c ≤ i →
    LRes2 V L t n 0 0 [] 6 SC SR (fC_Work_readSteps_3 (fun x3 S => fC_Work_readSteps 11 x3 S) n1 0 (nI c) SC) (fR_work_68 n2 SR) fR_work_89 := by
  intro k
  induction k with
  | zero => intro i l d2 c n1 n2 SC SR hk; omega
  | succ k ih =>
    intro i l d2 c n1 n2 SC SR hk h1 h2 h hb hd2 hc
    obtain ⟨n1, rfl⟩ := pz_fu h1
    obtain ⟨n2, rfl⟩ := pz_fu h2
    have hC := h.1
    have hR := h.2.1
    have h4 := h.2.2.1
    have hin := hC.2.2.1
    have hW := h.2.2.2.2.2.2.2.2.1
    have hge := run_ge (c := bl) (t := t) hC.2.2.1
    have hle := run_le (c := bl) (t := t) hC.2.2.1
    have eC := c_ended hC
    have eR := r_isMore hR
    have L1 := h.mv (j := run bl t n i) hge hle
    generalize run bl t n i = s at *
    have gC0 : frm [6, 8, 9, 22] [43, 44, 45] SC (sF SC 8 (nI s)) := frm.rf.F (by simp)
    have gR0 : frm [3, 6, 18] [15] SR (sF SR 3 (nI s)) := frm.rf.F (by simp)
    rw [fC_Work_readSteps_3, it_Llt (by omega) (by omega), if_neg (by omega), if_pos (by decide), eC, ev_I, it_p1, fR_work_68, r_fine1 h4, ev_I, if_neg (show ¬ (1 : Int32) = 0 by decide), eR, ev_I, it_p0]
    by_cases q : s < n
    · rw [if_pos q, if_pos q, aft_35]
      have hq := q_step (de := 6) (L := L) (rcC := fun x3 S => fC_Work_readSteps 11 x3 S) (rcR := fun S => fR_readStep 11 S) (d := 0) hV (by omega) hn (fun _ => ⟨5, by omega, q_rc hV hn 11 1 (by omega) (by omega) (by omega)⟩) L1
      rw [show fR_readStep 12 (sF SR 3 (nI s)) = fR_readStep_B (fun S => fR_readStep 11 S) (sF SR 3 (nI s)) from by rw [fR_readStep]]
      rcases hq with ⟨i2, l3, d3, T, U, e1, e2, k1, k2, k3, k4, g1, g2⟩ | ⟨q, k, T, U, e1, e2, hq, t5, t4, u4, u5, g1, g2⟩
      · rw [show fC_Work_readStep (fun x3 S => fC_Work_readSteps 11 x3 S) 0 (sF SC 8 (nI s)) = fC_Work_readStep (fun x3 S => fC_Work_readSteps 11 x3 S) (nI 0) (sF SC 8 (nI s)) from rfl, e1, ev_I, if_neg (show ¬ (1 : Int32) = 0 by decide), e2, ev_V, nI_1 c]
        have hin2 := k1.1.2.2.1
        have k2' : Blk V L (0 + l.length) l3 d3 := by rw [Nat.zero_add]; exact k2
        exact (ih i2 (l ++ l3) 6 (c + 1) n1 n2 T U (by omega) (by omega) (by omega) k1 (blk_app hb k2' hd2 k3) (Nat.le_refl _) (by omega)).pre (gC0.tr g1) (gR0.tr g2)
      · obtain ⟨n2, rfl⟩ : ∃ z, n2 = z + 1 := ⟨n2 - 1, by omega⟩
        rw [show fC_Work_readStep (fun x3 S => fC_Work_readSteps 11 x3 S) 0 (sF SC 8 (nI s)) = fC_Work_readStep (fun x3 S => fC_Work_readSteps 11 x3 S) (nI 0) (sF SC 8 (nI s)) from rfl, e1, ev_I, if_pos rfl, e2, ev_V, fR_work_68, r_fine0 (p := q) (by omega) u4, ev_I, if_pos rfl]
        exact Or.inr (LBad2.pre gC0 gR0 ⟨q, k, T, U, rfl, rfl, hq, t5, t4, u4, u5, g1, g2⟩)
    · rw [if_neg q, if_neg q]
      exact Or.inl ⟨s, l, d2, _, _, rfl, rfl, L1, hb, hd2, by omega, gC0, gR0⟩
end PVQ
