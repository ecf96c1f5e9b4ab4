/-! a work's reader: a step put, which word (written by wip/whole/pure/p89.py) -/
section PVJ
variable {V : Vy} {S T U SC SR : St} {t : Nat → Nat} {n i j p q k s d b : Nat} {W : List (Nat × Nat × Nat)}
theorem SC3.upd {f g h : Nat → Int32} {x y z : Int32} : ∀ {l : List (Nat × Nat × Nat)} {j : Nat}, SC3 f g h j l → j + l.length ≤ p → SC3 (upd f p x) (upd g p y) (upd h p z) j l
  | [], _, _, _ => trivial
  | w :: l, j, a, hp => by
    have e : (w :: l).length = l.length + 1 := rfl
    exact ⟨⟨(upd_n _ _ (by omega)).trans a.1.1, (upd_n _ _ (by omega)).trans a.1.2.1, (upd_n _ _ (by omega)).trans a.1.2.2⟩, a.2.upd (by omega)⟩
theorem SR3.upd {f : Nat → Int32} {x : Int32} : ∀ {l : List (Nat × Nat × Nat)} {j : Nat}, SR3 f j l → 3 * (j + l.length) ≤ p → SR3 (upd f p x) j l
  | [], _, _, _ => trivial
  | w :: l, j, a, hp => by
    have e : (w :: l).length = l.length + 1 := rfl
    exact ⟨⟨(upd_n _ _ (by omega)).trans a.1.1, (upd_n _ _ (by omega)).trans a.1.2.1, (upd_n _ _ (by omega)).trans a.1.2.2⟩, a.2.upd (by omega)⟩
def QS (V : Vy) (t : Nat → Nat) (n i d : Nat) (W : List (Nat × Nat × Nat)) (SC SR : St) : Prop := CT t n i SC ∧ RT t n i SR ∧ SR.1 4 = -1 ∧ SR.1 6 = nI d ∧ SC.1 22 = nI W.length ∧ SR.1 18 = nI (3 * W.length) ∧ SC3 (SC.2.1 43) (SC.2.1 44) (SC.2.1 45) 0 W ∧ SR3 (SR.2.1 15) 0 W ∧ 4 * W.length ≤ i ∧ SC.1 10 = nI (y_P V) ∧ SC.1 11 = nI (y_M V) ∧ SC.1 12 = nI (y_D V) ∧ SR.1 12 = nI (y_P V) ∧ SR.1 13 = nI (y_M V) ∧ SR.1 14 = nI (y_D V)
theorem r_tells_bad (x y z : Int32) (hq : q < 2 ^ 31) (h : S.1 4 = nI q) : fR_tellsStep x y z S = some (rV, S) := by rw [fR_tellsStep, r_fine0 hq h, ev_I, if_pos rfl]
theorem q_put (h : QS V t n i d W SC SR) (hn : n ≤ 150) (hW : 4 * W.length + 3 ≤ i) (st : Nat × Nat × Nat) (hi : 4 * (W.length + 1) ≤ i) : ∃ T U, fC_Work_put (nI st.1) (nI st.2.1) (nI st.2.2) SC = some (rI 1, T) ∧ fR_tellsStep (nI st.1) (nI st.2.1) (nI (if st.1 = 5 then 3 * st.2.2 else st.2.2)) SR = some (rV, U) ∧ QS V t n i d (W ++ [st]) T U ∧ frm [22] [43, 44, 45] SC T ∧ frm [18] [15] SR U := by
  obtain ⟨h1, h2, h3, h4, h5, h6, h7, h8, h9, c1, c2, c3, d1, d2, d3⟩ := h
  have hin := h1.2.2.1
  have hlen : (W ++ [st]).length = W.length + 1 := by rw [List.length_append]; rfl
  have gT : frm [22] [43, 44, 45] SC (sF (sA (sA (sA SC 43 (nI W.length) (nI st.1)) 44 (nI W.length) (nI st.2.1)) 45 (nI W.length) (nI st.2.2)) 22 (nI (W.length + 1))) := (((frm.rf.A (by simp)).A (by simp)).A (by simp)).F (by simp)
  have gU : frm [18] [15] SR (sF (sA (sA (sA SR 15 (nI (3 * W.length)) (nI st.1)) 15 (nI (3 * W.length + 1)) (nI st.2.1)) 15 (nI (3 * W.length + 2)) (nI (if st.1 = 5 then 3 * st.2.2 else st.2.2))) 18 (nI (3 * W.length + 3))) := (((frm.rf.A (by simp)).A (by simp)).A (by simp)).F (by simp)
  refine ⟨_, _, ?_, ?_, ⟨h1.fr gT (by simp) (by simp) (by simp), h2.fr gU (by simp) (by simp) (by simp), h3, h4, ?_, ?_, ?_, ?_, by rw [hlen]; exact hi, c1, c2, c3, d1, d2, d3⟩, gT, gU⟩
  · rw [fC_Work_put, h5, it_ltL (by omega) (by omega), if_pos (by omega), pz_gib (by omega) (by omega), ev_nx, tA_1, h5, pz_gib (by omega) (by omega), ev_nx, tA_1, tA_1, h5, pz_gib (by omega) (by omega), ev_nx, tA_1, tA_1, tA_1, h5, nI_1, ev_nx]
  · rw [fR_tellsStep, r_fine1 h3, ev_I, if_neg (show ¬ (1 : Int32) = 0 by decide), h6, pz_gib (by omega) (by omega), ev_nx, tA_1, h6, nI_1, pz_gib (by omega) (by omega), ev_nx, tA_1, tA_1, h6, show (2 : Int32) = nI 2 from rfl, nI_add (3 * W.length) 2, pz_gib (by omega) (by omega), ev_nx, tA_1, tA_1, tA_1, h6, show (3 : Int32) = nI 3 from rfl, nI_add (3 * W.length) 3, ev_nx]
  · rw [hlen]; rfl
  · rw [hlen, show 3 * (W.length + 1) = 3 * W.length + 3 by omega]; rfl
  · have r43 : (sF (sA (sA (sA SC 43 (nI W.length) (nI st.1)) 44 (nI W.length) (nI st.2.1)) 45 (nI W.length) (nI st.2.2)) 22 (nI (W.length + 1))).2.1 43 = upd (SC.2.1 43) W.length (nI st.1) := by
      rw [tF_2, tA_21, if_neg (by decide), tA_21, if_neg (by decide), tA_21, if_pos rfl, nI_clamp (by omega)]
    have r44 : (sF (sA (sA (sA SC 43 (nI W.length) (nI st.1)) 44 (nI W.length) (nI st.2.1)) 45 (nI W.length) (nI st.2.2)) 22 (nI (W.length + 1))).2.1 44 = upd (SC.2.1 44) W.length (nI st.2.1) := by
      rw [tF_2, tA_21, if_neg (by decide), tA_21, if_pos rfl, nI_clamp (by omega), tA_21, if_neg (by decide)]
    have r45 : (sF (sA (sA (sA SC 43 (nI W.length) (nI st.1)) 44 (nI W.length) (nI st.2.1)) 45 (nI W.length) (nI st.2.2)) 22 (nI (W.length + 1))).2.1 45 = upd (SC.2.1 45) W.length (nI st.2.2) := by
      rw [tF_2, tA_21, if_pos rfl, nI_clamp (by omega), tA_21, if_neg (by decide), tA_21, if_neg (by decide)]
    rw [r43, r44, r45]
    refine SC3.app.mpr ⟨h7.upd (by omega), ⟨?_, ?_, ?_⟩, trivial⟩ <;> rw [Nat.zero_add, upd_s]
  · have r15 : (sF (sA (sA (sA SR 15 (nI (3 * W.length)) (nI st.1)) 15 (nI (3 * W.length + 1)) (nI st.2.1)) 15 (nI (3 * W.length + 2)) (nI (if st.1 = 5 then 3 * st.2.2 else st.2.2))) 18 (nI (3 * W.length + 3))).2.1 15 = upd (upd (upd (SR.2.1 15) (3 * W.length) (nI st.1)) (3 * W.length + 1) (nI st.2.1)) (3 * W.length + 2) (nI (if st.1 = 5 then 3 * st.2.2 else st.2.2)) := by
      rw [tF_2, tA_21, if_pos rfl, nI_clamp (by omega), tA_21, if_pos rfl, nI_clamp (by omega), tA_21, if_pos rfl, nI_clamp (by omega)]
    rw [r15]
    refine SR3.app.mpr ⟨((h8.upd (by omega)).upd (by omega)).upd (by omega), ⟨?_, ?_, ?_⟩, trivial⟩
    · rw [Nat.zero_add, upd_n _ _ (by omega), upd_n _ _ (by omega), upd_s]
    · rw [Nat.zero_add, upd_n _ _ (by omega), upd_s]
    · rw [Nat.zero_add, upd_s]
/-- which step -/
def stI (t : Nat → Nat) (s e : Nat) : Int32 := if wq 15 t s e = true then 0 else if wq 16 t s e = true then 1 else if wq 17 t s e = true then 2 else if wq 18 t s e = true then 3 else if wq 19 t s e = true then 4 else if wq 20 t s e = true then 5 else -1
theorem r_stepOf {e : Nat} (hl : ∀ j, s ≤ j → j < e → lt (t j) = true) : fR_stepOf (wcd t s e) S = some (rI (stI t s e), S) := by
  have st : ∀ {si sj : Nat} {X Y : Oz}, WK si → skN si ≤ 6 → wq si = wq sj → (if wcd t s e = nI (pk5 (skb si) 0 (skN si)) then X else Y) = if wq sj t s e = true then X else Y := fun {si sj X Y} hW h6 hq => by
    simp only [w_eq hW h6 hl, hq]
  rw [fR_stepOf, of_v249, r_of (wk_all 35 (by decide)) (by decide), ev_I, st (sj := 15) (wk_all 35 (by decide)) (by decide) (wq_same (by decide))]
  unfold stI
  by_cases h : wq 15 t s e = true
  · rw [if_pos h, if_pos h]
  · rw [if_neg h, if_neg h, of_v250, r_of (wk_all 36 (by decide)) (by decide), ev_I, st (sj := 16) (wk_all 36 (by decide)) (by decide) (wq_same (by decide))]
    by_cases h : wq 16 t s e = true
    · rw [if_pos h, if_pos h]
    · rw [if_neg h, if_neg h, of_v251, r_of (wk_all 37 (by decide)) (by decide), ev_I, st (sj := 17) (wk_all 37 (by decide)) (by decide) (wq_same (by decide))]
      by_cases h : wq 17 t s e = true
      · rw [if_pos h, if_pos h]
      · rw [if_neg h, if_neg h, of_v252, r_of (wk_all 38 (by decide)) (by decide), ev_I, st (sj := 18) (wk_all 38 (by decide)) (by decide) (wq_same (by decide))]
        by_cases h : wq 18 t s e = true
        · rw [if_pos h, if_pos h]
        · rw [if_neg h, if_neg h, of_v240, r_of (wk_all 34 (by decide)) (by decide), ev_I, st (sj := 19) (wk_all 34 (by decide)) (by decide) (wq_same (by decide))]
          by_cases h : wq 19 t s e = true
          · rw [if_pos h, if_pos h]
          · rw [if_neg h, if_neg h, of_v253, r_of (wk_all 39 (by decide)) (by decide), ev_I, st (sj := 20) (wk_all 39 (by decide)) (by decide) (wq_same (by decide))]
            by_cases h : wq 20 t s e = true
            · rw [if_pos h, if_pos h]
            · rw [if_neg h, if_neg h]
end PVJ
