/-! what is told, asked of poems, men, debts (written by wip/whole/pure/p61.py) -/
section PK
variable {SC SR S T U : St} {f u : Oz} {X : Nat → St → Oz} {b c x : Int32} {V : Vy} {w : Rw} {L : Lw}
theorem r_withinT {a b : Int32} (h : wi x a b = true) : fR_within x a b S = some (rI 1, S) := by rw [r_within, h]; rfl
theorem r_withinF {a b : Int32} (h : wi x a b = false) : fR_within x a b S = some (rI 0, S) := by rw [r_within, h]; rfl
theorem c_withinT {a b : Int32} (h : wi x a b = true) : fC_Main_isWithin x a b S = some (rI 1, S) := by rw [c_within, h]; rfl
theorem c_withinF {a b : Int32} (h : wi x a b = false) : fC_Main_isWithin x a b S = some (rI 0, S) := by rw [c_within, h]; rfl
theorem wi_ne {lo hi k : Nat} (h : wi x (nI lo) (nI hi) = false) (h1 : lo ≤ k) (h2 : k ≤ hi) (hh : hi < 2 ^ 31) : ¬ x = nI k := fun e => by
  rw [e, wi_of h1 h2 hh] at h
  cases h
theorem po_ill1 (hR : Rel SC SR) (e1 : f = some (rX 1, sF SC 2 (SC.1 2 + 1))) (e2 : u = some (rI 0, sA (sF (sF SR 0 0) 0 c) 1 (nI 1) ((sF SR 0 0).2.1 1 1 + 1))) (hX : ∀ T, X 1 T = some (rI c, T)) (hc : c ≠ 0) : Po f u X :=
  po_ill hR e1 (frx.rf.F (by simp)) rfl e2 (((frx.rf.F (by simp)).F (by simp)).A (by simp)) (by rw [tA_21, if_pos rfl, nI_clamp (by omega)]; rfl) rfl hX hc
theorem po_nos1 (hR : Rel SC SR) (e1 : f = some (rX 0, sF SC 1 (SC.1 1 + 1))) (e2 : u = some (rI 0, sA (sF (sF SR 0 0) 0 c) 1 (nI 0) ((sF SR 0 0).2.1 1 0 + 1))) (hX : ∀ T, X 0 T = some (rI c, T)) (hc : c ≠ 0) : Po f u X :=
  po_nos hR e1 (frx.rf.F (by simp)) rfl e2 (((frx.rf.F (by simp)).F (by simp)).A (by simp)) (by rw [tA_21, if_pos rfl, nI_clamp (by omega)]; rfl) rfl hX hc
/-- the reference when a call begins -/
theorem begR {m : Md} (h : RM m SR) : frx rF rA' SR (sF SR 0 0) ∧ (sF SR 0 0).1 0 = 0 ∧ RV m.1 (sF SR 0 0) ∧ RLw m.2.1 (sF SR 0 0) ∧ RR m.1 al m.2.2.1 ((sF SR 0 0).2.1 17) :=
  have g : frx rF rA' SR (sF SR 0 0) := frx.rf.F (by simp)
  have h2 := h.fr g (fun k hk => by simp only [hk, or_true]) (fun k hk => by simp only [hk, or_true])
  ⟨g, rfl, h2.1, h2.2.1, h2.2.2.1⟩
/-- the reference behind take -/
theorem begT {m : Md} (h : RM m SR) : ∃ T, fR_take (sF SR 0 0) = some (rV, T) ∧ frx rF rA' SR T ∧ T.1 0 = 0 ∧ RV m.1 T ∧ RLw m.2.1 T ∧ RR m.1 al m.2.2.1 (T.2.1 18) ∧ T.2.1 17 = SR.2.1 17 ∧ (∀ k, T.1 k = (sF SR 0 0).1 k) := by
  obtain ⟨g0, h0, hv, hL, hr⟩ := begR h
  obtain ⟨T, e, g, hr2⟩ := r_take hv.ok hr
  exact ⟨T, e, g0.tr (g.x (by simp) (by simp)), (g.1 0 (by simp)).trans h0, hv.fr g (by decide) (by decide), hL.fr g (by decide) (by decide), hr2, g.2.1 17 (by decide), fun k => g.1 k (by simp)⟩
theorem al_all : ∀ a, al a := fun _ => trivial
theorem c_needPoem (hv : CV V S) (x : Int32) : (∃ k, k < y_P V ∧ x = nI k ∧ fC_Main_needPoem x S = some (rV, S)) ∨ ((x < 0 ∨ nI (y_P V) ≤ x) ∧ fC_Main_needPoem x S = some (rX 0, sF S 1 (S.1 1 + 1))) := by
  have h := hv.ok.1
  rw [fC_Main_needPoem, hv.1]
  rcases pk_ix x (n := y_P V) (by omega) with h1 | h1 | ⟨k, hk, e⟩
  · exact Or.inr ⟨Or.inl h1, by rw [c_elF (Or.inl h1), ev_Vx]⟩
  · exact Or.inr ⟨Or.inr h1, by rw [c_elF (Or.inr h1), ev_Vx]⟩
  · exact Or.inl ⟨k, hk, e, by rw [e, c_elT hk (by omega), ev_V]⟩
theorem r_isPoemT (hv : RV V S) (h0 : S.1 0 = 0) {k : Nat} (hk : k < y_P V) (c : Int32) : fR_isPoem (nI k) c S = some (rI 1, S) := by
  have h := hv.ok.1
  rw [fR_isPoem, hv.1]
  have hw : wi (nI k) 0 (nI (y_P V) - 1) = true := by
    rcases wi_el (n := y_P V) (by omega) (nI k) with h1 | h1
    · exact h1.1
    · exact (h1.2.elim (fun q => absurd q (nI_pos (by omega))) (fun q => absurd q (nI_ge hk (by omega))))
  rw [r_withinT hw, ev_I, r_may1 _ _ h0, ev_I, gdT pz_isB1]
theorem r_isPoemF (hv : RV V S) (h0 : S.1 0 = 0) (hx : x < 0 ∨ nI (y_P V) ≤ x) (hc : c ≠ 0) : fR_isPoem x c S = some (rI 0, sA (sF S 0 c) 1 (nI 0) (S.2.1 1 0 + 1)) := by
  have h := hv.ok.1
  rw [fR_isPoem, hv.1]
  have hw : wi x 0 (nI (y_P V) - 1) = false := by
    rcases wi_el (n := y_P V) (by omega) x with h1 | h1
    · obtain ⟨-, k, hk, e⟩ := h1
      rw [e] at hx
      exact (hx.elim (fun q => absurd q (nI_pos (by omega))) (fun q => absurd q (nI_ge hk (by omega))))
    · exact h1.1
  rw [r_withinF hw, ev_I, show (0 : Int32) = nI 0 from rfl, show fR_may (nI 0) c (nI 0) S = _ from r_may0 c (k := 0) (by omega) h0 hc, ev_I]
  exact gdT pz_isB0
theorem c_needMan (hv : CV V S) (x : Int32) : (∃ k, k < y_M V ∧ x = nI k ∧ fC_Main_needMan x S = some (rV, S)) ∨ ((x < 0 ∨ nI (y_M V) ≤ x) ∧ fC_Main_needMan x S = some (rX 0, sF S 1 (S.1 1 + 1))) := by
  have h := hv.ok.2.1
  rw [fC_Main_needMan, hv.2.1]
  rcases pk_ix x (n := y_M V) (by omega) with h1 | h1 | ⟨k, hk, e⟩
  · exact Or.inr ⟨Or.inl h1, by rw [c_elF (Or.inl h1), ev_Vx]⟩
  · exact Or.inr ⟨Or.inr h1, by rw [c_elF (Or.inr h1), ev_Vx]⟩
  · exact Or.inl ⟨k, hk, e, by rw [e, c_elT hk (by omega), ev_V]⟩
theorem r_isManT (hv : RV V S) (h0 : S.1 0 = 0) {k : Nat} (hk : k < y_M V) (c : Int32) : fR_isMan (nI k) c S = some (rI 1, S) := by
  have h := hv.ok.2.1
  rw [fR_isMan, hv.2.1]
  have hw : wi (nI k) 0 (nI (y_M V) - 1) = true := by
    rcases wi_el (n := y_M V) (by omega) (nI k) with h1 | h1
    · exact h1.1
    · exact (h1.2.elim (fun q => absurd q (nI_pos (by omega))) (fun q => absurd q (nI_ge hk (by omega))))
  rw [r_withinT hw, ev_I, r_may1 _ _ h0, ev_I, gdT pz_isB1]
theorem r_isManF (hv : RV V S) (h0 : S.1 0 = 0) (hx : x < 0 ∨ nI (y_M V) ≤ x) (hc : c ≠ 0) : fR_isMan x c S = some (rI 0, sA (sF S 0 c) 1 (nI 0) (S.2.1 1 0 + 1)) := by
  have h := hv.ok.2.1
  rw [fR_isMan, hv.2.1]
  have hw : wi x 0 (nI (y_M V) - 1) = false := by
    rcases wi_el (n := y_M V) (by omega) x with h1 | h1
    · obtain ⟨-, k, hk, e⟩ := h1
      rw [e] at hx
      exact (hx.elim (fun q => absurd q (nI_pos (by omega))) (fun q => absurd q (nI_ge hk (by omega))))
    · exact h1.1
  rw [r_withinF hw, ev_I, show (0 : Int32) = nI 0 from rfl, show fR_may (nI 0) c (nI 0) S = _ from r_may0 c (k := 0) (by omega) h0 hc, ev_I]
  exact gdT pz_isB0
theorem c_needDebt (hv : CV V S) (x : Int32) : (∃ k, k < y_D V ∧ x = nI k ∧ fC_Main_needDebt x S = some (rV, S)) ∨ ((x < 0 ∨ nI (y_D V) ≤ x) ∧ fC_Main_needDebt x S = some (rX 0, sF S 1 (S.1 1 + 1))) := by
  have h := hv.ok.2.2.1
  rw [fC_Main_needDebt, hv.2.2.1]
  rcases pk_ix x (n := y_D V) (by omega) with h1 | h1 | ⟨k, hk, e⟩
  · exact Or.inr ⟨Or.inl h1, by rw [c_elF (Or.inl h1), ev_Vx]⟩
  · exact Or.inr ⟨Or.inr h1, by rw [c_elF (Or.inr h1), ev_Vx]⟩
  · exact Or.inl ⟨k, hk, e, by rw [e, c_elT hk (by omega), ev_V]⟩
theorem r_isDebtT (hv : RV V S) (h0 : S.1 0 = 0) {k : Nat} (hk : k < y_D V) (c : Int32) : fR_isDebt (nI k) c S = some (rI 1, S) := by
  have h := hv.ok.2.2.1
  rw [fR_isDebt, hv.2.2.1]
  have hw : wi (nI k) 0 (nI (y_D V) - 1) = true := by
    rcases wi_el (n := y_D V) (by omega) (nI k) with h1 | h1
    · exact h1.1
    · exact (h1.2.elim (fun q => absurd q (nI_pos (by omega))) (fun q => absurd q (nI_ge hk (by omega))))
  rw [r_withinT hw, ev_I, r_may1 _ _ h0, ev_I, gdT pz_isB1]
theorem r_isDebtF (hv : RV V S) (h0 : S.1 0 = 0) (hx : x < 0 ∨ nI (y_D V) ≤ x) (hc : c ≠ 0) : fR_isDebt x c S = some (rI 0, sA (sF S 0 c) 1 (nI 0) (S.2.1 1 0 + 1)) := by
  have h := hv.ok.2.2.1
  rw [fR_isDebt, hv.2.2.1]
  have hw : wi x 0 (nI (y_D V) - 1) = false := by
    rcases wi_el (n := y_D V) (by omega) x with h1 | h1
    · obtain ⟨-, k, hk, e⟩ := h1
      rw [e] at hx
      exact (hx.elim (fun q => absurd q (nI_pos (by omega))) (fun q => absurd q (nI_ge hk (by omega))))
    · exact h1.1
  rw [r_withinF hw, ev_I, show (0 : Int32) = nI 0 from rfl, show fR_may (nI 0) c (nI 0) S = _ from r_may0 c (k := 0) (by omega) h0 hc, ev_I]
  exact gdT pz_isB0
theorem po_told : PO_told Rel := by
  intro SC SR hR x
  show Po (fC_Main_told x SC) (fR_told x SR) (fun j T => if j = 1 then some (rI 1, T) else none)
  have hR' := hR
  obtain ⟨m, hC, hM, hB⟩ := hR'
  obtain ⟨g0, h0, hv0, hL0, hr0⟩ := begR hM
  obtain ⟨T, eT, gT, hT0, hvT, hLT, hrT, hT17, hTf⟩ := begT hM
  have hv := hC.1
  have hL := hC.2.1
  have hr := hC.2.2.1.1
  have b1 := hv.ok.1
  have b2 := hv.ok.2.1
  have b3 := hv.ok.2.2.1
  cases hw : wi x 0 11
  · refine po_ill1 (c := 1) hR ?_ ?_ (fun _ => rfl) (by decide)
    · rw [fC_Main_told, if_neg (show ¬ x = 0 from wi_ne (lo := 0) (hi := 11) (k := 0) hw (by omega) (by omega) (by omega)), if_neg (show ¬ x = 1 from wi_ne (lo := 0) (hi := 11) (k := 1) hw (by omega) (by omega) (by omega)), if_neg (show ¬ x = 2 from wi_ne (lo := 0) (hi := 11) (k := 2) hw (by omega) (by omega) (by omega)), if_neg (show ¬ x = 3 from wi_ne (lo := 0) (hi := 11) (k := 3) hw (by omega) (by omega) (by omega)), if_neg (show ¬ x = 4 from wi_ne (lo := 0) (hi := 11) (k := 4) hw (by omega) (by omega) (by omega)), if_neg (show ¬ x = 5 from wi_ne (lo := 0) (hi := 11) (k := 5) hw (by omega) (by omega) (by omega)), if_neg (show ¬ x = 6 from wi_ne (lo := 0) (hi := 11) (k := 6) hw (by omega) (by omega) (by omega)), if_neg (show ¬ x = 7 from wi_ne (lo := 0) (hi := 11) (k := 7) hw (by omega) (by omega) (by omega)), if_neg (show ¬ x = 8 from wi_ne (lo := 0) (hi := 11) (k := 8) hw (by omega) (by omega) (by omega)), if_neg (show ¬ x = 9 from wi_ne (lo := 0) (hi := 11) (k := 9) hw (by omega) (by omega) (by omega)), if_neg (show ¬ x = 10 from wi_ne (lo := 0) (hi := 11) (k := 10) hw (by omega) (by omega) (by omega)), if_neg (show ¬ x = 11 from wi_ne (lo := 0) (hi := 11) (k := 11) hw (by omega) (by omega) (by omega)), c_refuse, ev_Ix]
    · rw [fR_told, ev_nx, r_withinF hw, ev_I, show fR_may 0 1 1 (sF SR 0 0) = _ from r_may0 1 (k := 1) (by omega) h0 (by decide), ev_I]
      rfl
  · obtain ⟨k, -, hk, rfl⟩ := wi_nI (lo := 0) (hi := 11) (by omega) (by omega) hw
    have eR : ∀ b, (some (rI b, T) : Oz) = some (rI b, T) := fun _ => rfl
    match k, hk with
    | 0, _ =>
      refine po_ok (b := nI (y_P m.1)) (T := SC) (U := T) hR ?_ frx.rf ?_ gT hT0
      · rw [fC_Main_told]
        simp (config := {decide := true}) only [↓reduceIte]
        rw [hv.1]
      · rw [fR_told, ev_nx, r_withinT hw, ev_I, r_may1 _ _ h0, ev_I, if_neg (by decide), eT, ev_V]
        simp (config := {decide := true}) only [↓reduceIte]
        rw [hvT.1]
    | 1, _ =>
      refine po_ok (b := nI (y_M m.1)) (T := SC) (U := T) hR ?_ frx.rf ?_ gT hT0
      · rw [fC_Main_told]
        simp (config := {decide := true}) only [↓reduceIte]
        rw [hv.2.1]
      · rw [fR_told, ev_nx, r_withinT hw, ev_I, r_may1 _ _ h0, ev_I, if_neg (by decide), eT, ev_V]
        simp (config := {decide := true}) only [↓reduceIte]
        rw [hvT.2.1]
    | 2, _ =>
      refine po_ok (b := nI (y_D m.1)) (T := SC) (U := T) hR ?_ frx.rf ?_ gT hT0
      · rw [fC_Main_told]
        simp (config := {decide := true}) only [↓reduceIte]
        rw [hv.2.2.1]
      · rw [fR_told, ev_nx, r_withinT hw, ev_I, r_may1 _ _ h0, ev_I, if_neg (by decide), eT, ev_V]
        simp (config := {decide := true}) only [↓reduceIte]
        rw [hvT.2.2.1]
    | 3, _ =>
      refine po_ok (b := nI (w_t m.2.2.1)) (T := SC) (U := T) hR ?_ frx.rf ?_ gT hT0
      · rw [fC_Main_told]
        simp (config := {decide := true}) only [↓reduceIte]
        rw [show fC_State_week_9 SC = some (rI (nI (w_t m.2.2.1)), SC) from by rw [fC_State_week_9, show (73 : Int32) = nI 73 from rfl, pz_rA (by omega), hr.2.2.2.1], ev_I]
      · rw [fR_told, ev_nx, r_withinT hw, ev_I, r_may1 _ _ h0, ev_I, if_neg (by decide), eT, ev_V]
        simp (config := {decide := true}) only [↓reduceIte]
        rw [show (94 : Int32) = nI 94 from rfl, pz_rA (by omega), hrT.2.2.2.1]
    | 4, _ =>
      refine po_ok (b := orB (w_p m.2.2.1) (y_D m.1)) (T := SC) (U := T) hR ?_ frx.rf ?_ gT hT0
      · rw [fC_Main_told]
        simp (config := {decide := true}) only [↓reduceIte]
        rw [show fC_State_paidBits_9 SC = some (rI (orB (w_p m.2.2.1) (y_D m.1)), SC) from by rw [fC_State_paidBits_9, show (72 : Int32) = nI 72 from rfl, pz_rA (by omega), hr.2.2.1], ev_I]
      · rw [fR_told, ev_nx, r_withinT hw, ev_I, r_may1 _ _ h0, ev_I, if_neg (by decide), eT, ev_V]
        simp (config := {decide := true}) only [↓reduceIte]
        rw [r_bitsP hvT hrT, ev_I]
    | 5, _ =>
      refine po_ok (b := orB (w_late m.1 m.2.2.1) (y_D m.1)) (T := SC) (U := T) hR ?_ frx.rf ?_ gT hT0
      · rw [fC_Main_told]
        simp (config := {decide := true}) only [↓reduceIte]
        rw [e_lateBits_9 hv hr, ev_I]
      · rw [fR_told, ev_nx, r_withinT hw, ev_I, r_may1 _ _ h0, ev_I, if_neg (by decide), eT, ev_V]
        simp (config := {decide := true}) only [↓reduceIte]
        rw [r_lateNow hvT hrT, ev_I]
    | 6, _ =>
      refine po_ok (b := orB (w_old m.1 m.2.2.1) (y_M m.1)) (T := SC) (U := T) hR ?_ frx.rf ?_ gT hT0
      · rw [fC_Main_told]
        simp (config := {decide := true}) only [↓reduceIte]
        rw [e_oldBits_9 hv hr, ev_I]
      · rw [fR_told, ev_nx, r_withinT hw, ev_I, r_may1 _ _ h0, ev_I, if_neg (by decide), eT, ev_V]
        simp (config := {decide := true}) only [↓reduceIte]
        rw [r_bitsO hvT hrT al_all, ev_I]
    | 7, _ =>
      refine po_ok (b := smI (w_c m.2.2.1 2) (y_M m.1)) (T := SC) (U := T) hR ?_ frx.rf ?_ gT hT0
      · rw [fC_Main_told]
        simp (config := {decide := true}) only [↓reduceIte]
        rw [e_allSlips_9 hv hr al_all, ev_I]
      · rw [fR_told, ev_nx, r_withinT hw, ev_I, r_may1 _ _ h0, ev_I, if_neg (by decide), eT, ev_V]
        simp (config := {decide := true}) only [↓reduceIte]
        rw [r_slipsAll hvT hrT al_all, ev_I]
    | 8, _ =>
      refine po_ok (b := nI (w_every m.1 m.2.2.1)) (T := SC) (U := T) hR ?_ frx.rf ?_ gT hT0
      · rw [fC_Main_told]
        simp (config := {decide := true}) only [↓reduceIte]
        rw [e_everyLine_9 hv hr al_all, ev_I]
      · rw [fR_told, ev_nx, r_withinT hw, ev_I, r_may1 _ _ h0, ev_I, if_neg (by decide), eT, ev_V]
        simp (config := {decide := true}) only [↓reduceIte]
        rw [r_allLines hvT hrT al_all, ev_I]
    | 9, _ =>
      refine po_ok (b := nI m.2.2.2.1.1) (T := SC) (U := T) hR ?_ frx.rf ?_ gT hT0
      · rw [fC_Main_told]
        simp (config := {decide := true}) only [↓reduceIte]
        rw [hC.2.2.2.1.1]
      · rw [fR_told, ev_nx, r_withinT hw, ev_I, r_may1 _ _ h0, ev_I, if_neg (by decide), eT, ev_V]
        simp (config := {decide := true}) only [↓reduceIte]
        rw [hTf, show (sF SR 0 0).1 24 = SR.1 24 from rfl, hM.2.2.2.1.1]
    | 10, _ =>
      refine po_ok (b := SC.1 0) (T := SC) (U := T) hR ?_ frx.rf ?_ gT hT0
      · rw [fC_Main_told]
        simp (config := {decide := true}) only [↓reduceIte]
      · rw [fR_told, ev_nx, r_withinT hw, ev_I, r_may1 _ _ h0, ev_I, if_neg (by decide), eT, ev_V]
        simp (config := {decide := true}) only [↓reduceIte]
        rw [hTf, show (sF SR 0 0).1 20 = SR.1 20 from rfl, hB.1]
    | 11, _ =>
      refine po_ok (b := nI (y_F m.1)) (T := SC) (U := T) hR ?_ frx.rf ?_ gT hT0
      · rw [fC_Main_told]
        simp (config := {decide := true}) only [↓reduceIte]
        rw [hv.2.2.2.1]
      · rw [fR_told, ev_nx, r_withinT hw, ev_I, r_may1 _ _ h0, ev_I, if_neg (by decide), eT, ev_V]
        simp (config := {decide := true}) only [↓reduceIte]
        rw [hvT.2.2.2.1]
theorem po_poem : PO_poem Rel := by
  intro SC SR hR x y
  show Po (fC_Main_poem x y SC) (fR_poem x y SR) (fun j T => if j = 0 then some (rI 1, T) else (if j = 1 then some (rI 2, T) else none))
  have hR' := hR
  obtain ⟨m, hC, hM, hB⟩ := hR'
  obtain ⟨g0, h0, hv0, hL0, hr0⟩ := begR hM
  obtain ⟨T, eT, gT, hT0, hvT, hLT, hrT, hT17, hTf⟩ := begT hM
  have hv := hC.1
  have hL := hC.2.1
  have hr := hC.2.2.1.1
  have b1 := hv.ok.1
  have b2 := hv.ok.2.1
  have b3 := hv.ok.2.2.1
  rcases c_needPoem hv x with ⟨a, ha, rfl, e1⟩ | ⟨hx, e1⟩
  · have eP := r_isPoemT hv0 h0 ha 1
    cases hw : wi y 0 3
    · refine po_ill1 (c := 2) hR ?_ ?_ (fun _ => rfl) (by decide)
      · rw [fC_Main_poem, e1, ev_V, if_neg (show ¬ y = 0 from wi_ne (lo := 0) (hi := 3) (k := 0) hw (by omega) (by omega) (by omega)), if_neg (show ¬ y = 1 from wi_ne (lo := 0) (hi := 3) (k := 1) hw (by omega) (by omega) (by omega)), if_neg (show ¬ y = 2 from wi_ne (lo := 0) (hi := 3) (k := 2) hw (by omega) (by omega) (by omega)), if_neg (show ¬ y = 3 from wi_ne (lo := 0) (hi := 3) (k := 3) hw (by omega) (by omega) (by omega)), c_refuse, ev_Ix]
      · rw [fR_poem, ev_nx, eP, ev_I, if_neg (by decide), r_withinF hw, ev_I, show fR_may 0 2 1 (sF SR 0 0) = _ from r_may0 2 (k := 1) (by omega) h0 (by decide), ev_I]
        rfl
    · obtain ⟨k, -, hk, rfl⟩ := wi_nI (lo := 0) (hi := 3) (by omega) (by omega) hw
      match k, hk with
      | 0, _ =>
        refine po_ok (b := nI (y_l m.1 a)) (T := SC) (U := T) hR ?_ frx.rf ?_ gT hT0
        · rw [fC_Main_poem, e1, ev_V]
          simp (config := {decide := true}) only [↓reduceIte]
          rw [pz_gib (by omega) (by omega), pz_rA (by omega), (hv.2.2.2.2.1 a ha).1]
        · rw [fR_poem, ev_nx, eP, ev_I, if_neg (by decide), r_withinT hw, ev_I, r_may1 _ _ h0, ev_I, if_neg (by decide), eT, ev_V]
          simp (config := {decide := true}) only [↓reduceIte]
          rw [show (2 : Int32) * nI a + nI 0 = nI (2 * a) from by rw [r_i2, nI_add]; rfl, pz_gib (by omega) (by omega), pz_rA (by omega), (hvT.2.2.2.2.1 a ha).1]
      | 1, _ =>
        refine po_ok (b := nI (y_h m.1 a)) (T := SC) (U := T) hR ?_ frx.rf ?_ gT hT0
        · rw [fC_Main_poem, e1, ev_V]
          simp (config := {decide := true}) only [↓reduceIte]
          rw [pz_gib (by omega) (by omega), pz_rA (by omega), (hv.2.2.2.2.1 a ha).2]
        · rw [fR_poem, ev_nx, eP, ev_I, if_neg (by decide), r_withinT hw, ev_I, r_may1 _ _ h0, ev_I, if_neg (by decide), eT, ev_V]
          simp (config := {decide := true}) only [↓reduceIte]
          rw [show (2 : Int32) * nI a + nI 1 = nI (2 * a + 1) from by rw [r_i2, nI_add], pz_gib (by omega) (by omega), pz_rA (by omega), (hvT.2.2.2.2.1 a ha).2]
      | 2, _ =>
        refine po_ok (b := orB (w_all m.1 m.2.2.1 a) (y_M m.1)) (T := SC) (U := T) hR ?_ frx.rf ?_ gT hT0
        · rw [fC_Main_poem, e1, ev_V]
          simp (config := {decide := true}) only [↓reduceIte]
          rw [e_whoKnowAll_9 hv hr al_all ha, ev_I]
        · rw [fR_poem, ev_nx, eP, ev_I, if_neg (by decide), r_withinT hw, ev_I, r_may1 _ _ h0, ev_I, if_neg (by decide), eT, ev_V]
          simp (config := {decide := true}) only [↓reduceIte]
          rw [show fR_poem_68 FU (nI a) 0 0 T = _ from r_poem_68 hvT hrT al_all ha (y_M m.1) FU 0 (by omega) (by rw [pz_FU]; omega)]
      | 3, _ =>
        refine po_ok (b := orB (w_open m.1 m.2.2.1 (y_dp m.1) a) (y_D m.1)) (T := SC) (U := T) hR ?_ frx.rf ?_ gT hT0
        · rw [fC_Main_poem, e1, ev_V]
          simp (config := {decide := true}) only [↓reduceIte]
          rw [e_debtsByPoem_2 hv (by omega), ev_I, show fC_State_paidBits_9 SC = some (rI (orB (w_p m.2.2.1) (y_D m.1)), SC) from by rw [fC_State_paidBits_9, show (72 : Int32) = nI 72 from rfl, pz_rA (by omega), hr.2.2.1], ev_I, orB_andn (by omega)]
          rfl
        · rw [fR_poem, ev_nx, eP, ev_I, if_neg (by decide), r_withinT hw, ev_I, r_may1 _ _ h0, ev_I, if_neg (by decide), eT, ev_V]
          simp (config := {decide := true}) only [↓reduceIte]
          rw [r_openBy1 hvT hrT (by omega), ev_I]
  · refine po_nos1 (c := 1) hR ?_ ?_ (fun _ => rfl) (by decide)
    · rw [fC_Main_poem, e1, ev_Vx]
    · rw [fR_poem, ev_nx, r_isPoemF hv0 h0 hx (by decide), ev_I]
      rfl
theorem po_man : PO_man Rel := by
  intro SC SR hR x y
  show Po (fC_Main_man x y SC) (fR_man x y SR) (fun j T => if j = 0 then some (rI 1, T) else (if j = 1 then some (rI 2, T) else none))
  have hR' := hR
  obtain ⟨m, hC, hM, hB⟩ := hR'
  obtain ⟨g0, h0, hv0, hL0, hr0⟩ := begR hM
  obtain ⟨T, eT, gT, hT0, hvT, hLT, hrT, hT17, hTf⟩ := begT hM
  have hv := hC.1
  have hL := hC.2.1
  have hr := hC.2.2.1.1
  have b1 := hv.ok.1
  have b2 := hv.ok.2.1
  have b3 := hv.ok.2.2.1
  rcases c_needMan hv x with ⟨a, ha, rfl, e1⟩ | ⟨hx, e1⟩
  · have eP := r_isManT hv0 h0 ha 1
    have i48 : (48 : Int32) + nI a = nI (48 + a) := nI_add 48 a
    have i54 : (54 : Int32) + nI a = nI (54 + a) := nI_add 54 a
    have i60 : (60 : Int32) + nI a = nI (60 + a) := nI_add 60 a
    have i66 : (66 : Int32) + nI a = nI (66 + a) := nI_add 66 a
    have i72 : (72 : Int32) + nI a = nI (72 + a) := nI_add 72 a
    have i78 : (78 : Int32) + nI a = nI (78 + a) := nI_add 78 a
    have hra := hr.2.1 a trivial ha
    have hTa := hrT.2.1 a trivial ha
    cases hw : wi y 0 8
    · refine po_ill1 (c := 2) hR ?_ ?_ (fun _ => rfl) (by decide)
      · rw [fC_Main_man, e1, ev_V, if_neg (show ¬ y = 0 from wi_ne (lo := 0) (hi := 8) (k := 0) hw (by omega) (by omega) (by omega)), if_neg (show ¬ y = 1 from wi_ne (lo := 0) (hi := 8) (k := 1) hw (by omega) (by omega) (by omega)), if_neg (show ¬ y = 2 from wi_ne (lo := 0) (hi := 8) (k := 2) hw (by omega) (by omega) (by omega)), if_neg (show ¬ y = 3 from wi_ne (lo := 0) (hi := 8) (k := 3) hw (by omega) (by omega) (by omega)), if_neg (show ¬ y = 4 from wi_ne (lo := 0) (hi := 8) (k := 4) hw (by omega) (by omega) (by omega)), if_neg (show ¬ y = 5 from wi_ne (lo := 0) (hi := 8) (k := 5) hw (by omega) (by omega) (by omega)), if_neg (show ¬ y = 6 from wi_ne (lo := 0) (hi := 8) (k := 6) hw (by omega) (by omega) (by omega)), if_neg (show ¬ y = 7 from wi_ne (lo := 0) (hi := 8) (k := 7) hw (by omega) (by omega) (by omega)), if_neg (show ¬ y = 8 from wi_ne (lo := 0) (hi := 8) (k := 8) hw (by omega) (by omega) (by omega)), c_refuse, ev_Ix]
      · rw [fR_man, ev_nx, eP, ev_I, if_neg (by decide), r_withinF hw, ev_I, show fR_may 0 2 1 (sF SR 0 0) = _ from r_may0 2 (k := 1) (by omega) h0 (by decide), ev_I]
        rfl
    · obtain ⟨k, -, hk, rfl⟩ := wi_nI (lo := 0) (hi := 8) (by omega) (by omega) hw
      match k, hk with
      | 0, _ =>
        refine po_ok (b := nI (y_m m.1 a)) (T := SC) (U := T) hR ?_ frx.rf ?_ gT hT0
        · rw [fC_Main_man, e1, ev_V]
          simp (config := {decide := true}) only [↓reduceIte]
          rw [pz_gib (by omega) (by omega), pz_rA (by omega), (hv.2.2.2.2.2.1 a ha).1]
        · rw [fR_man, ev_nx, eP, ev_I, if_neg (by decide), r_withinT hw, ev_I, r_may1 _ _ h0, ev_I, if_neg (by decide), eT, ev_V]
          simp (config := {decide := true}) only [↓reduceIte]
          rw [r_i2, pz_gib (by omega) (by omega), pz_rA (by omega), (hvT.2.2.2.2.2.1 a ha).1]
      | 1, _ =>
        refine po_ok (b := nI (w_age m.1 m.2.2.1 a)) (T := SC) (U := T) hR ?_ frx.rf ?_ gT hT0
        · rw [fC_Main_man, e1, ev_V]
          simp (config := {decide := true}) only [↓reduceIte]
          rw [e_ageOf_9 hv hr ha, ev_I]
        · rw [fR_man, ev_nx, eP, ev_I, if_neg (by decide), r_withinT hw, ev_I, r_may1 _ _ h0, ev_I, if_neg (by decide), eT, ev_V]
          simp (config := {decide := true}) only [↓reduceIte]
          rw [i48, pz_gib (by omega) (by omega), pz_rA (by omega), hTa.1]
      | 2, _ =>
        refine po_ok (b := nI (w_room m.1 m.2.2.1 a)) (T := SC) (U := T) hR ?_ frx.rf ?_ gT hT0
        · rw [fC_Main_man, e1, ev_V]
          simp (config := {decide := true}) only [↓reduceIte]
          rw [e_roomOf_9 hv hr trivial ha, ev_I]
        · rw [fR_man, ev_nx, eP, ev_I, if_neg (by decide), r_withinT hw, ev_I, r_may1 _ _ h0, ev_I, if_neg (by decide), eT, ev_V]
          simp (config := {decide := true}) only [↓reduceIte]
          rw [r_roomOf hvT hrT trivial ha, ev_I]
      | 3, _ =>
        refine po_ok (b := nI (w_sum m.1 m.2.2.1 a)) (T := SC) (U := T) hR ?_ frx.rf ?_ gT hT0
        · rw [fC_Main_man, e1, ev_V]
          simp (config := {decide := true}) only [↓reduceIte]
          rw [e_linesOf_9 hv hr trivial ha, ev_I]
        · rw [fR_man, ev_nx, eP, ev_I, if_neg (by decide), r_withinT hw, ev_I, r_may1 _ _ h0, ev_I, if_neg (by decide), eT, ev_V]
          simp (config := {decide := true}) only [↓reduceIte]
          rw [r_allOf hvT hrT trivial ha, ev_I]
      | 4, _ =>
        refine po_ok (b := w_c m.2.2.1 0 a) (T := SC) (U := T) hR ?_ frx.rf ?_ gT hT0
        · rw [fC_Main_man, e1, ev_V]
          simp (config := {decide := true}) only [↓reduceIte]
          rw [fC_State_lessonsOf_9, i48, pz_gib (by omega) (by omega), pz_rA (by omega), hra.1, ev_I]
        · rw [fR_man, ev_nx, eP, ev_I, if_neg (by decide), r_withinT hw, ev_I, r_may1 _ _ h0, ev_I, if_neg (by decide), eT, ev_V]
          simp (config := {decide := true}) only [↓reduceIte]
          rw [i60, pz_gib (by omega) (by omega), pz_rA (by omega), hTa.2.2.1]
      | 5, _ =>
        refine po_ok (b := w_c m.2.2.1 1 a) (T := SC) (U := T) hR ?_ frx.rf ?_ gT hT0
        · rw [fC_Main_man, e1, ev_V]
          simp (config := {decide := true}) only [↓reduceIte]
          rw [fC_State_weekLessonsOf_9, i54, pz_gib (by omega) (by omega), pz_rA (by omega), hra.2.1, ev_I]
        · rw [fR_man, ev_nx, eP, ev_I, if_neg (by decide), r_withinT hw, ev_I, r_may1 _ _ h0, ev_I, if_neg (by decide), eT, ev_V]
          simp (config := {decide := true}) only [↓reduceIte]
          rw [i66, pz_gib (by omega) (by omega), pz_rA (by omega), hTa.2.2.2.1]
      | 6, _ =>
        refine po_ok (b := w_c m.2.2.1 2 a) (T := SC) (U := T) hR ?_ frx.rf ?_ gT hT0
        · rw [fC_Main_man, e1, ev_V]
          simp (config := {decide := true}) only [↓reduceIte]
          rw [fC_State_slipsOf_9, i60, pz_gib (by omega) (by omega), pz_rA (by omega), hra.2.2.1, ev_I]
        · rw [fR_man, ev_nx, eP, ev_I, if_neg (by decide), r_withinT hw, ev_I, r_may1 _ _ h0, ev_I, if_neg (by decide), eT, ev_V]
          simp (config := {decide := true}) only [↓reduceIte]
          rw [i72, pz_gib (by omega) (by omega), pz_rA (by omega), hTa.2.2.2.2.1]
      | 7, _ =>
        refine po_ok (b := orB (w_open m.1 m.2.2.1 (y_dm m.1) a) (y_D m.1)) (T := SC) (U := T) hR ?_ frx.rf ?_ gT hT0
        · rw [fC_Main_man, e1, ev_V]
          simp (config := {decide := true}) only [↓reduceIte]
          rw [e_debtsOfMan_2 hv (by omega), ev_I, show fC_State_paidBits_9 SC = some (rI (orB (w_p m.2.2.1) (y_D m.1)), SC) from by rw [fC_State_paidBits_9, show (72 : Int32) = nI 72 from rfl, pz_rA (by omega), hr.2.2.1], ev_I, orB_andn (by omega)]
          rfl
        · rw [fR_man, ev_nx, eP, ev_I, if_neg (by decide), r_withinT hw, ev_I, r_may1 _ _ h0, ev_I, if_neg (by decide), eT, ev_V]
          simp (config := {decide := true}) only [↓reduceIte]
          rw [r_openBy0 hvT hrT (by omega), ev_I]
      | 8, _ =>
        refine po_ok (b := w_c m.2.2.1 3 a) (T := SC) (U := T) hR ?_ frx.rf ?_ gT hT0
        · rw [fC_Main_man, e1, ev_V]
          simp (config := {decide := true}) only [↓reduceIte]
          rw [fC_State_freshBitsOf_9, i66, pz_gib (by omega) (by omega), pz_rA (by omega), hra.2.2.2, ev_I]
        · rw [fR_man, ev_nx, eP, ev_I, if_neg (by decide), r_withinT hw, ev_I, r_may1 _ _ h0, ev_I, if_neg (by decide), eT, ev_V]
          simp (config := {decide := true}) only [↓reduceIte]
          rw [i78, pz_gib (by omega) (by omega), pz_rA (by omega), hTa.2.2.2.2.2]
  · refine po_nos1 (c := 1) hR ?_ ?_ (fun _ => rfl) (by decide)
    · rw [fC_Main_man, e1, ev_Vx]
    · rw [fR_man, ev_nx, r_isManF hv0 h0 hx (by decide), ev_I]
      rfl
theorem po_debt : PO_debt Rel := by
  intro SC SR hR x y
  show Po (fC_Main_debt x y SC) (fR_debt x y SR) (fun j T => if j = 0 then some (rI 1, T) else (if j = 1 then some (rI 2, T) else none))
  have hR' := hR
  obtain ⟨m, hC, hM, hB⟩ := hR'
  obtain ⟨g0, h0, hv0, hL0, hr0⟩ := begR hM
  obtain ⟨T, eT, gT, hT0, hvT, hLT, hrT, hT17, hTf⟩ := begT hM
  have hv := hC.1
  have hL := hC.2.1
  have hr := hC.2.2.1.1
  have b1 := hv.ok.1
  have b2 := hv.ok.2.1
  have b3 := hv.ok.2.2.1
  rcases c_needDebt hv x with ⟨a, ha, rfl, e1⟩ | ⟨hx, e1⟩
  · have eP := r_isDebtT hv0 h0 ha 1
    have h6 := hv.2.2.2.2.2.2.1 a ha
    have h6T := hvT.2.2.2.2.2.2.1 a ha
    have i4 : ∀ j : Nat, (4 : Int32) * nI a + nI j = nI (4 * a + j) := fun j => by rw [r_i4, nI_add]
    cases hw : wi y 0 6
    · refine po_ill1 (c := 2) hR ?_ ?_ (fun _ => rfl) (by decide)
      · rw [fC_Main_debt, e1, ev_V, if_neg (show ¬ y = 0 from wi_ne (lo := 0) (hi := 6) (k := 0) hw (by omega) (by omega) (by omega)), if_neg (show ¬ y = 1 from wi_ne (lo := 0) (hi := 6) (k := 1) hw (by omega) (by omega) (by omega)), if_neg (show ¬ y = 2 from wi_ne (lo := 0) (hi := 6) (k := 2) hw (by omega) (by omega) (by omega)), if_neg (show ¬ y = 3 from wi_ne (lo := 0) (hi := 6) (k := 3) hw (by omega) (by omega) (by omega)), if_neg (show ¬ y = 4 from wi_ne (lo := 0) (hi := 6) (k := 4) hw (by omega) (by omega) (by omega)), if_neg (show ¬ y = 5 from wi_ne (lo := 0) (hi := 6) (k := 5) hw (by omega) (by omega) (by omega)), if_neg (show ¬ y = 6 from wi_ne (lo := 0) (hi := 6) (k := 6) hw (by omega) (by omega) (by omega)), c_refuse, ev_Ix]
      · rw [fR_debt, ev_nx, eP, ev_I, if_neg (by decide), r_withinF hw, ev_I, show fR_may 0 2 1 (sF SR 0 0) = _ from r_may0 2 (k := 1) (by omega) h0 (by decide), ev_I]
        rfl
    · obtain ⟨k, -, hk, rfl⟩ := wi_nI (lo := 0) (hi := 6) (by omega) (by omega) hw
      have hc : ∀ k : Nat, k < 4 → fR_debt (nI k) = fR_debt (nI k) := fun _ _ => rfl
      match k, hk with
      | 0, _ =>
        refine po_ok (b := nI (y_dm m.1 a)) (T := SC) (U := T) hR ?_ frx.rf ?_ gT hT0
        · rw [fC_Main_debt, e1, ev_V]
          simp (config := {decide := true}) only [↓reduceIte]
          rw [pz_gib (by omega) (by omega), pz_rA (by omega), h6.1]
        · rw [fR_debt, ev_nx, eP, ev_I, if_neg (by decide), r_withinT hw, ev_I, r_may1 _ _ h0, ev_I, if_neg (by decide), eT, ev_V]
          simp (config := {decide := true}) only [↓reduceIte]
          rw [i4, pz_gib (by omega) (by omega), pz_rA (by omega), Nat.add_zero, h6T.1]
      | 1, _ =>
        refine po_ok (b := nI (y_dp m.1 a)) (T := SC) (U := T) hR ?_ frx.rf ?_ gT hT0
        · rw [fC_Main_debt, e1, ev_V]
          simp (config := {decide := true}) only [↓reduceIte]
          rw [pz_gib (by omega) (by omega), pz_rA (by omega), h6.2.1]
        · rw [fR_debt, ev_nx, eP, ev_I, if_neg (by decide), r_withinT hw, ev_I, r_may1 _ _ h0, ev_I, if_neg (by decide), eT, ev_V]
          simp (config := {decide := true}) only [↓reduceIte]
          rw [i4, pz_gib (by omega) (by omega), pz_rA (by omega), h6T.2.1]
      | 2, _ =>
        refine po_ok (b := nI (y_dk m.1 a)) (T := SC) (U := T) hR ?_ frx.rf ?_ gT hT0
        · rw [fC_Main_debt, e1, ev_V]
          simp (config := {decide := true}) only [↓reduceIte]
          rw [pz_gib (by omega) (by omega), pz_rA (by omega), h6.2.2.1]
        · rw [fR_debt, ev_nx, eP, ev_I, if_neg (by decide), r_withinT hw, ev_I, r_may1 _ _ h0, ev_I, if_neg (by decide), eT, ev_V]
          simp (config := {decide := true}) only [↓reduceIte]
          rw [i4, pz_gib (by omega) (by omega), pz_rA (by omega), h6T.2.2.1]
      | 3, _ =>
        refine po_ok (b := nI (y_dd m.1 a)) (T := SC) (U := T) hR ?_ frx.rf ?_ gT hT0
        · rw [fC_Main_debt, e1, ev_V]
          simp (config := {decide := true}) only [↓reduceIte]
          rw [pz_gib (by omega) (by omega), pz_rA (by omega), h6.2.2.2]
        · rw [fR_debt, ev_nx, eP, ev_I, if_neg (by decide), r_withinT hw, ev_I, r_may1 _ _ h0, ev_I, if_neg (by decide), eT, ev_V]
          simp (config := {decide := true}) only [↓reduceIte]
          rw [i4, pz_gib (by omega) (by omega), pz_rA (by omega), h6T.2.2.2]
      | 4, _ =>
        refine po_ok (b := if w_p m.2.2.1 a then 1 else 0) (T := SC) (U := T) hR ?_ frx.rf ?_ gT hT0
        · rw [fC_Main_debt, e1, ev_V]
          simp (config := {decide := true}) only [↓reduceIte]
          rw [e_isPaid_9 hv hr ha, ev_I, it_b0]
          cases w_p m.2.2.1 a <;> rfl
        · rw [fR_debt, ev_nx, eP, ev_I, if_neg (by decide), r_withinT hw, ev_I, r_may1 _ _ h0, ev_I, if_neg (by decide), eT, ev_V]
          simp (config := {decide := true}) only [↓reduceIte]
          rw [show (84 : Int32) + nI a = nI (84 + a) from nI_add 84 a, pz_gib (by omega) (by omega), pz_rA (by omega), hrT.2.2.1 a ha]
      | 5, _ =>
        refine po_ok (b := if w_well m.1 m.2.2.1 a then 1 else 0) (T := SC) (U := T) hR ?_ frx.rf ?_ gT hT0
        · rw [fC_Main_debt, e1, ev_V]
          simp (config := {decide := true}) only [↓reduceIte]
          rw [e_isWellKnown_9 hv hr ha trivial, ev_I, it_b0]
          cases w_well m.1 m.2.2.1 a <;> rfl
        · rw [fR_debt, ev_nx, eP, ev_I, if_neg (by decide), r_withinT hw, ev_I, r_may1 _ _ h0, ev_I, if_neg (by decide), eT, ev_V]
          simp (config := {decide := true}) only [↓reduceIte]
          rw [r_isWell hvT hrT ha trivial, ev_I, it_b0]
          cases w_well m.1 m.2.2.1 a <;> rfl
      | 6, _ =>
        obtain ⟨T1, e2, g2⟩ := e_needOf_9 hv hL hr ha trivial
        obtain ⟨T2, e3, g3⟩ := r_needOf hvT hLT hrT ha trivial
        cases hp : w_p m.2.2.1 a
        · refine po_ok (b := nI (w_need m.1 m.2.1 m.2.2.1 a)) (T := T1) (U := T2) hR ?_ (g2.x (by simp) (by simp)) ?_ (gT.tr (g3.x (by simp) (by simp))) ((g3.1 0 (by simp)).trans hT0)
          · rw [fC_Main_debt, e1, ev_V]
            simp (config := {decide := true}) only [↓reduceIte]
            rw [e_isPaid_9 hv hr ha, ev_I, it_b0, hp, if_neg pz_ft, e2, ev_I]
          · rw [fR_debt, ev_nx, eP, ev_I, if_neg (by decide), r_withinT hw, ev_I, r_may1 _ _ h0, ev_I, if_neg (by decide), eT, ev_V]
            simp (config := {decide := true}) only [↓reduceIte]
            rw [r_paid hvT.ok hrT ha, hp, if_neg pz_ft, e3, ev_I]
        · refine po_ok (b := 0) (T := SC) (U := T) hR ?_ frx.rf ?_ gT hT0
          · rw [fC_Main_debt, e1, ev_V]
            simp (config := {decide := true}) only [↓reduceIte]
            rw [e_isPaid_9 hv hr ha, ev_I, it_b0, hp, if_pos rfl]
          · rw [fR_debt, ev_nx, eP, ev_I, if_neg (by decide), r_withinT hw, ev_I, r_may1 _ _ h0, ev_I, if_neg (by decide), eT, ev_V]
            simp (config := {decide := true}) only [↓reduceIte]
            rw [r_paid hvT.ok hrT ha, hp, if_pos rfl]
  · refine po_nos1 (c := 1) hR ?_ ?_ (fun _ => rfl) (by decide)
    · rw [fC_Main_debt, e1, ev_Vx]
    · rw [fR_debt, ev_nx, r_isDebtF hv0 h0 hx (by decide), ev_I]
      rfl
end PK
