/-! a work's reader: numbers and signs on both sides, the end of 'again' (written by wip/whole/pure/p90.py) -/
section PVK
variable {V : Vy} {L : Lw} {S T U SC SR SC1 SR1 : St} {t : Nat → Nat} {n i j p q k s d b lo h1 dd : Nat} {hi : Int32} {W : List (Nat × Nat × Nat)} {f u : Oz}
/-- one fault on both sides, seen from a state that stands at a place -/
def NBad (SC SR : St) (f : Oz) (u : Oz) (r : Int32) : Prop := ∃ q k T U, f = some (rI 0, T) ∧ u = some (rI r, U) ∧ q ≤ 600 ∧ T.1 5 = nI q ∧ T.1 4 = nI k ∧ U.1 4 = nI q ∧ U.1 5 = nI k ∧ frm [4, 5, 6, 8] [] SC T ∧ frm [3, 4, 5] [] SR U
theorem b_num (hC : CT t n i SC) (hR : RT t n i SR) (h4 : SR.1 4 = -1) (hh : HI hi h1) (hl : lo ≤ 1000) (hh1 : h1 ≤ 1000) :
    (∃ i2 v, i < i2 ∧ i2 ≤ n ∧ lo ≤ v ∧ v < h1 ∧ fC_Tape_needsNumber (nI lo) hi SC = some (rI 1, sF (sF SC 8 (nI i2)) 6 (nI v)) ∧ fR_readNumber (nI lo) hi SR = some (rI (nI v), sF SR 3 (nI i2))) ∨ NBad SC SR (fC_Tape_needsNumber (nI lo) hi SC) (fR_readNumber (nI lo) hi SR) 0 := by
  obtain ⟨a1, a2⟩ := c_num hC hh hl hh1
  obtain ⟨b1, b2⟩ := r_num hR h4 hh hl hh1
  have hin := hC.2.2.1
  have hn := hC.2.2.2.1
  by_cases ok : nOK t n i lo h1
  · have hge : i ≤ nS t n i := run_ge hin
    have hlt := ok.1
    exact Or.inl ⟨nE t n i, nV t n i, by omega, nE_le hin, ok.2.1, ok.2.2, a1 ok, b1 ok⟩
  · obtain ⟨T, e1, t5, t4, g1⟩ := a2 ok
    obtain ⟨U, e2, u4, u5, g2⟩ := b2 ok
    have hle := nS_le (t := t) hin
    exact Or.inr ⟨nS t n i, nK t n i, T, U, e1, e2, by omega, t5, t4, u4, u5, g1, g2⟩
def QBad (SC SR : St) (f u : Oz) : Prop := ∃ q k T U, f = some (rI 0, T) ∧ u = some (rV, U) ∧ q ≤ 600 ∧ T.1 5 = nI q ∧ T.1 4 = nI k ∧ U.1 4 = nI q ∧ U.1 5 = nI k ∧ frm [4, 5, 6, 8, 9, 22] [43, 44, 45] SC T ∧ frm [3, 4, 5, 6, 18] [15] SR U
def QRes (V : Vy) (L : Lw) (t : Nat → Nat) (n i d : Nat) (W : List (Nat × Nat × Nat)) (dd : Nat) (SC SR : St) (f u : Oz) : Prop :=
  (∃ i2 l d2 T U, f = some (rI 1, T) ∧ u = some (rV, U) ∧ QS V t n i2 d (W ++ l) T U ∧ Blk V L W.length l d2 ∧ d2 ≤ dd ∧ (i + 4 * l.length ≤ i2 ∧ 1 ≤ l.length) ∧ frm [6, 8, 9, 22] [43, 44, 45] SC T ∧ frm [3, 6, 18] [15] SR U) ∨ QBad SC SR f u
theorem QBad.pre (gC : frm [6, 8, 9, 22] [43, 44, 45] SC SC1) (gR : frm [3, 6, 18] [15] SR SR1) (h : QBad SC1 SR1 f u) : QBad SC SR f u := by
  obtain ⟨q, k, T, U, e1, e2, h1, h2, h3, h4, h5, g1, g2⟩ := h
  exact ⟨q, k, T, U, e1, e2, h1, h2, h3, h4, h5, (gC.wide (by simp) (by simp)).tr g1, (gR.wide (by simp) (by simp)).tr g2⟩
theorem QRes.pre (gC : frm [6, 8, 9, 22] [43, 44, 45] SC SC1) (gR : frm [3, 6, 18] [15] SR SR1) (hij : i ≤ j) (h : QRes V L t n j d W dd SC1 SR1 f u) : QRes V L t n i d W dd SC SR f u := by
  rcases h with ⟨i2, l, m, T, U, e1, e2, h1, h2, h3, h4, g1, g2⟩ | h
  · exact Or.inl ⟨i2, l, m, T, U, e1, e2, h1, h2, h3, by omega, gC.tr g1, gR.tr g2⟩
  · exact Or.inr (h.pre gC gR)
theorem QS.mv (h : QS V t n i d W SC SR) (hij : i ≤ j) (hj : j ≤ n) : QS V t n j d W (sF SC 8 (nI j)) (sF SR 3 (nI j)) := by
  obtain ⟨h1, h2, h3, h4, h5, h6, h7, h8, h9, hr⟩ := h
  exact ⟨h1.mv hj, h2.mv hj, h3, h4, h5, h6, h7, h8, by omega, hr⟩
theorem QS.v {v : Int32} (h : QS V t n i d W SC SR) : QS V t n i d W (sF SC 6 v) SR := by
  obtain ⟨h1, h2, h3, h4, h5, h6, h7, h8, h9, hr⟩ := h
  exact ⟨h1.fr (fs := [6]) (as := []) (frm.rf.F (by simp)) (by simp) (by simp) (by simp), h2, h3, h4, h5, h6, h7, h8, h9, hr⟩
theorem QS.w {v : Int32} (h : QS V t n i d W SC SR) : QS V t n i d W (sF SC 9 v) SR := by
  obtain ⟨h1, h2, h3, h4, h5, h6, h7, h8, h9, hr⟩ := h
  exact ⟨h1.fr (fs := [9]) (as := []) (frm.rf.F (by simp)) (by simp) (by simp) (by simp), h2, h3, h4, h5, h6, h7, h8, h9, hr⟩
theorem QS.dep {v : Int32} (h : QS V t n i d W SC SR) (e : v = nI p) : QS V t n i p W SC (sF SR 6 v) := by
  obtain ⟨h1, h2, h3, h4, h5, h6, h7, h8, h9, hr⟩ := h
  exact ⟨h1, h2.fr (fs := [6]) (as := []) (frm.rf.F (by simp)) (by simp) (by simp) (by simp), h3, e, h5, h6, h7, h8, h9, hr⟩
theorem q_sign (h : QS V t n i d W SC SR) (hb : b < 256) (hb0 : 0 < b) : (∃ i2, i < i2 ∧ i2 ≤ n ∧ fC_Tape_needs (nI b) SC = some (rI 1, sF SC 8 (nI i2)) ∧ fR_sign (nI b) SR = some (rV, sF SR 3 (nI i2))) ∨ (∃ q T U, q ≤ 600 ∧ fC_Tape_needs (nI b) SC = some (rI 0, T) ∧ fR_sign (nI b) SR = some (rV, U) ∧ T.1 5 = nI q ∧ T.1 4 = nI 1 ∧ U.1 4 = nI q ∧ U.1 5 = nI 1 ∧ frm [4, 5, 8] [] SC T ∧ frm [3, 4, 5] [] SR U) := by
  have h1 := h.1
  have h2 := h.2.1
  have h3 := h.2.2.1
  by_cases hs : sgn t n i b
  · have hge := run_ge (c := bl) (t := t) h1.2.2.1
    have hlt := hs.1
    exact Or.inl ⟨run bl t n i + 1, by omega, by omega, c_sign_ok h1 hb hs, r_sign_ok h2 h3 hs⟩
  · obtain ⟨T, e1, t5, t4, g1⟩ := c_sign_no h1 hb hs
    obtain ⟨U, e2, u4, u5, g2⟩ := r_sign_no h2 h3 hb hb0 hs
    have hle := run_le (c := bl) (t := t) h1.2.2.1
    have hn := h1.2.2.2.1
    exact Or.inr ⟨run bl t n i, T, U, by omega, e1, e2, t5, t4, u4, u5, g1, g2⟩
/-- the end of 'again', set afterwards -/
theorem sc3_fix {f g h : Nat → Int32} {a c v : Nat} {l : List (Nat × Nat × Nat)} (x : SC3 f g h 0 (W ++ ((a, c, 0) :: l))) : SC3 f g (upd h W.length (nI v)) 0 (W ++ ((a, c, v) :: l)) := by
  obtain ⟨x1, x2⟩ := SC3.app.mp x
  rw [Nat.zero_add] at x2
  have keep : ∀ (m : List (Nat × Nat × Nat)) (j : Nat), SC3 f g h j m → (j + m.length ≤ W.length ∨ W.length < j) → SC3 f g (upd h W.length (nI v)) j m := by
    intro m
    induction m with
    | nil => intro j _ _; trivial
    | cons y m ih =>
      intro j hm hj
      have e : (y :: m).length = m.length + 1 := rfl
      exact ⟨⟨hm.1.1, hm.1.2.1, (upd_n _ _ (by omega)).trans hm.1.2.2⟩, ih (j + 1) hm.2 (by omega)⟩
  refine SC3.app.mpr ⟨keep W 0 x1 (Or.inl (by omega)), ?_⟩
  rw [Nat.zero_add]
  exact ⟨⟨x2.1.1, x2.1.2.1, upd_s _ _ _⟩, keep l _ x2.2 (Or.inr (by omega))⟩
theorem sr3_fix {f : Nat → Int32} {c v : Nat} {l : List (Nat × Nat × Nat)} (x : SR3 f 0 (W ++ ((5, c, 0) :: l))) : SR3 (upd f (3 * W.length + 2) (nI (3 * v))) 0 (W ++ ((5, c, v) :: l)) := by
  obtain ⟨x1, x2⟩ := SR3.app.mp x
  rw [Nat.zero_add] at x2
  have keep : ∀ (m : List (Nat × Nat × Nat)) (j : Nat), SR3 f j m → (j + m.length ≤ W.length ∨ W.length < j) → SR3 (upd f (3 * W.length + 2) (nI (3 * v))) j m := by
    intro m
    induction m with
    | nil => intro j _ _; trivial
    | cons y m ih =>
      intro j hm hj
      have e : (y :: m).length = m.length + 1 := rfl
      exact ⟨⟨(upd_n _ _ (by omega)).trans hm.1.1, (upd_n _ _ (by omega)).trans hm.1.2.1, (upd_n _ _ (by omega)).trans hm.1.2.2⟩, ih (j + 1) hm.2 (by omega)⟩
  refine SR3.app.mpr ⟨keep W 0 x1 (Or.inl (by omega)), ?_⟩
  rw [Nat.zero_add]
  refine ⟨⟨?_, ?_, ?_⟩, keep l _ x2.2 (Or.inr (by omega))⟩
  · exact (upd_n _ _ (by omega)).trans x2.1.1
  · exact (upd_n _ _ (by omega)).trans x2.1.2.1
  · rw [upd_s, if_pos rfl]
end PVK
