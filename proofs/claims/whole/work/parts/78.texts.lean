/-! texts: how one is opened, how it ends; the plain law (written by wip/whole/pure/p78.py) -/
section PV8
variable {V : Vy} {S T U SC SR : St} {t : Nat → Nat} {n i j p q k c v s N : Nat} {f u : Oz} {x : Int32} {fs as fs' as' : List Nat}
def OC (S : St) (n : Nat) : St := sF (sF (sF (sF (sF S 7 (nI n)) 8 0) 3 0) 4 0) 5 (-1)
def OR (S : St) (n : Nat) : St := sF (sF (sF (sF (sF (sF S 1 0) 7 (-1)) 2 (nI n)) 3 0) 4 (-1)) 6 0
theorem c_open (x : Int32) {M : Nat} (h3 : SC.1 3 = nI N) (hN : N ≤ 600) (hM : M ≤ 600) :
    (∃ n, n ≤ N ∧ n ≤ M ∧ x = nI n ∧ fC_Main_openText x (nI M) SC = some (rV, OC SC n)) ∨ ((x < 0 ∨ nI N < x ∨ nI M < x) ∧ fC_Main_openText x (nI M) SC = some (rX 1, sF SC 2 (SC.1 2 + 1))) := by
  rw [fC_Main_openText, h3, nI_min (by omega) (by omega)]
  cases hw : wi x 0 (nI (min M N))
  · refine Or.inr ⟨?_, ?_⟩
    · by_cases h0 : x < 0
      · exact Or.inl h0
      · obtain ⟨z, hz, e⟩ := nI_of h0
        have h1 : ¬ z ≤ min M N := fun h => by
          rw [e, show (0 : Int32) = nI 0 from rfl, wi_of (Nat.zero_le _) h (by omega)] at hw
          exact absurd hw (by decide)
        rw [e, pz_lt (by omega) (by omega), pz_lt (by omega) (by omega)]
        omega
    · rw [c_withinF hw, ev_I, c_need0, ev_Vx]
  · obtain ⟨z, -, hz, e⟩ := wi_nI (lo := 0) (hi := min M N) (by omega) (by omega) hw
    refine Or.inl ⟨z, by omega, by omega, e, ?_⟩
    rw [c_withinT hw, ev_I, c_need1, ev_V, fC_Tape_open, ev_nx, ev_nx, ev_nx, ev_nx, ev_nx, ev_V, e]
    rfl
theorem r_begins : fR_begins (nI n) S = some (rV, OR S n) := rfl
def tp (S : St) (i : Nat) : Nat := (S.2.1 14 i).toNatClampNeg
theorem tp_of (hB : BM SC SR) {i : Nat} (hi : i < 600) : SC.2.1 14 i = nI (tp SC i) ∧ SR.2.1 2 i = nI (tp SC i) ∧ tp SC i < 256 := by
  obtain ⟨e1, b, hb, e2⟩ := hB.2.2.2.2.2.2 i hi
  have e3 : tp SC i = b := by rw [tp, e2, nI_clamp (by omega)]
  rw [e3]
  exact ⟨e2, e1.symm.trans e2, hb⟩
theorem open_tapes (hB : BM SC SR) (hn : n ≤ 600) : CT (tp SC) n 0 (OC SC n) ∧ RT (tp SC) n 0 (OR (sF SR 0 0) n) :=
  ⟨⟨rfl, rfl, Nat.zero_le _, hn, fun j hj => ⟨(tp_of hB hj).1, (tp_of hB hj).2.2⟩⟩, rfl, rfl, Nat.zero_le _, hn, fun j hj => ⟨(tp_of hB hj).2.1, (tp_of hB hj).2.2⟩⟩
theorem BM_end (hB : BM SC SR) (gC : frm fs as (OC SC n) T) (gR : frm fs' as' (OR (sF SR 0 0) n) U) (h0 : T.1 0 = U.1 20) (h5 : T.1 5 = U.1 7) (hf : 1 ∉ fs ∧ 2 ∉ fs ∧ 3 ∉ fs ∧ 14 ∉ as) (hg : 1 ∉ fs' ∧ 1 ∉ as' ∧ 2 ∉ as') : BM T U := by
  obtain ⟨b0, b1, b2, b3, b4, b5, b6⟩ := hB
  refine ⟨h0, ?_, ?_, ?_, ⟨0, by omega, ?_⟩, h5, ?_⟩
  · rw [gC.1 1 hf.1, gR.2.1 1 hg.2.1]; exact b1
  · rw [gC.1 2 hf.2.1, gR.2.1 1 hg.2.1]; exact b2
  · rw [gC.1 3 hf.2.2.1, gR.1 1 hg.1]; rfl
  · rw [gC.1 3 hf.2.2.1]; rfl
  · rw [gC.2.1 14 hf.2.2.2, gR.2.1 2 hg.2.2]; exact b6
theorem rel_end {m : Md} (hC : CM m SC) (hM : RM m SR) (hB : BM SC SR) (gC : frm fs as (OC SC n) T) (gR : frm fs' as' (OR (sF SR 0 0) n) U) (h5 : T.1 5 = U.1 7)
    (hf : ∀ k ∈ fs, k = 5 ∨ k ∈ cF) (ha : ∀ a ∈ as, a ∈ cA) (hf' : ∀ k ∈ fs', k = 7 ∨ k ∈ rF) (ha' : ∀ a ∈ as', a ∈ rA') : Rel T U := by
  have g1 : frx (3 :: 5 :: cF) cA SC (OC SC n) := ((((frx.rf.F (by simp)).F (by simp)).F (by simp)).F (by simp)).F (by simp)
  have g2 : frx (1 :: 7 :: rF) rA' SR (OR (sF SR 0 0) n) := ((((((frx.rf.F (by simp)).F (by simp)).F (by simp)).F (by simp)).F (by simp)).F (by simp)).F (by simp)
  have h1 : ∀ k, k ∉ (5 :: cF) → k ∉ fs := fun k hk h => hk ((hf k h).elim (fun e => by rw [e]; simp) (fun e => List.mem_cons_of_mem _ e))
  have h2 : ∀ k, k ∉ (7 :: rF) → k ∉ fs' := fun k hk h => hk ((hf' k h).elim (fun e => by rw [e]; simp) (fun e => List.mem_cons_of_mem _ e))
  have h3 : ∀ k, k ∉ cA → k ∉ as := fun k hk h => hk (ha k h)
  have h4 : ∀ k, k ∉ rA' → k ∉ as' := fun k hk h => hk (ha' k h)
  have k1 : frx (3 :: 5 :: cF) cA SC T := g1.tr (gC.x (fun k hk => (hf k hk).elim (fun e => by rw [e]; simp) (fun e => List.mem_cons_of_mem _ (List.mem_cons_of_mem _ e))) ha)
  have k2 : frx (1 :: 7 :: rF) rA' SR U := g2.tr (gR.x (fun k hk => (hf' k hk).elim (fun e => by rw [e]; simp) (fun e => List.mem_cons_of_mem _ (List.mem_cons_of_mem _ e))) ha')
  refine ⟨m, hC.fr k1 (fun k hk => ?_), hM.fr k2 (fun k hk => ?_) (fun k hk => Or.inr (Or.inr hk)), BM_end hB gC gR ?_ h5 ⟨h1 1 (by decide), h1 2 (by decide), h1 3 (by decide), h3 14 (by decide)⟩ ⟨h2 1 (by decide), h4 1 (by decide), h4 2 (by decide)⟩⟩
  · rcases List.mem_cons.mp hk with e | hk
    · omega
    · rcases List.mem_cons.mp hk with e | hk
      · omega
      · simp only [hk, or_true]
  · rcases List.mem_cons.mp hk with e | hk
    · omega
    · rcases List.mem_cons.mp hk with e | hk
      · omega
      · simp only [hk, or_true]
  · rw [gC.1 0 (h1 0 (by decide)), gR.1 20 (h2 20 (by decide))]
    exact hB.1
/-- the plain law -/
def clI (x : Int32) : Nat := if 0 ≤ x then (if x ≤ 20 then x.toNatClampNeg else 20) else 0
def Lpl : Lw := fun f => clI (9 - f 1)
theorem clI_le (x : Int32) : clI x ≤ 20 := by
  unfold clI
  by_cases h : 0 ≤ x
  · rw [if_pos h]
    by_cases h2 : x ≤ 20
    · rw [if_pos h2]
      obtain ⟨z, hz, e⟩ := nI_of (Int32.not_lt.mpr h)
      rw [e, nI_clamp hz]
      rw [e, show (20 : Int32) = nI 20 from rfl, pz_le (by omega) (by omega)] at h2
      exact h2
    · rw [if_neg h2]; omega
  · rw [if_neg h]; omega
theorem clI_e (x : Int32) : (if 0 ≤ x then (if x ≤ 20 then (some (rI x, S) : Oz) else (some (rI 20, S))) else (some (rI 0, S))) = some (rI (nI (clI x)), S) := by
  unfold clI
  by_cases h : 0 ≤ x
  · rw [if_pos h, if_pos h]
    by_cases h2 : x ≤ 20
    · rw [if_pos h2, if_pos h2]
      obtain ⟨z, hz, e⟩ := nI_of (Int32.not_lt.mpr h)
      rw [e, nI_clamp hz]
    · rw [if_neg h2, if_neg h2]
      rfl
  · rw [if_neg h, if_neg h]
    rfl
theorem CLw_pl (h18 : S.1 18 = 3) (w0 : S.2.1 31 0 = 9) (w1 : S.2.1 31 1 = 1001) (w2 : S.2.1 31 2 = 2001) : CLw Lpl S := by
  refine ⟨fun S1 e18 e31 f hf => ?_, fun f => clI_le _⟩
  rw [← e31] at w0 w1 w2
  rw [h18] at e18
  have r0 : ∀ T : St, T.2.1 31 = S1.2.1 31 → rA T 31 0 = 9 := fun T e => by rw [show (0 : Int32) = nI 0 from rfl, pz_rA (by omega), e]; exact w0
  have r1 : ∀ T : St, T.2.1 31 = S1.2.1 31 → rA T 31 1 = 1001 := fun T e => by rw [show (1 : Int32) = nI 1 from rfl, pz_rA (by omega), e]; exact w1
  have r2 : ∀ T : St, T.2.1 31 = S1.2.1 31 → rA T 31 2 = 2001 := fun T e => by rw [show (2 : Int32) = nI 2 from rfl, pz_rA (by omega), e]; exact w2
  have s1 : ∀ m, fC_Law_outcome_4_4 (m + 1) 0 0 S1 = fC_Law_outcome_4_4 m 1 1 (sA S1 33 0 9) := fun m => by
    rw [fC_Law_outcome_4_4, e18, if_neg (by decide), gdT (by decide), r0 S1 rfl, ev_nx, if_pos (by decide), if_pos (by decide), if_neg (by decide), fC_Law_outcome_4_99, gdT (by decide), ev_nx]
    rfl
  have s2 : ∀ m, fC_Law_outcome_4_4 (m + 1) 1 1 (sA S1 33 0 9) = fC_Law_outcome_4_4 m 2 2 (sA (sA S1 33 0 9) 33 1 (f 1)) := fun m => by
    have hf1 : rA (sA S1 33 0 9) 32 (1001 - 1000) = f 1 := by
      rw [show (1001 - 1000 : Int32) = nI 1 from by decide, pz_rA (by omega), tA_21, if_neg (by decide)]
      exact hf 1 (by omega)
    rw [fC_Law_outcome_4_4, tA_1, e18, if_neg (by decide), gdT (by decide), r1 (sA S1 33 0 9) (by rw [tA_21, if_neg (by decide)]), ev_nx, if_pos (by decide), if_pos (by decide), if_pos (by decide), gdT (by decide), hf1, fC_Law_outcome_4_99, gdT (by decide), ev_nx]
    rfl
  have s3 : ∀ m, fC_Law_outcome_4_4 (m + 1) 2 2 (sA (sA S1 33 0 9) 33 1 (f 1)) = fC_Law_outcome_4_4 m 1 3 (sA (sA (sA S1 33 0 9) 33 1 (f 1)) 33 0 (9 - f 1)) := fun m => by
    have h0 : rA (sA (sA S1 33 0 9) 33 1 (f 1)) 33 0 = 9 := by
      rw [show (0 : Int32) = nI 0 from rfl, pz_rA (by omega), show (1 : Int32) = nI 1 from rfl, tA_21, if_pos rfl, nI_clamp (by omega), upd_n _ _ (by omega), tA_21, if_pos rfl, nI_clamp (by omega), upd_s]
    have h1 : rA (sA (sA S1 33 0 9) 33 1 (f 1)) 33 1 = f 1 := by
      rw [show (1 : Int32) = nI 1 from rfl, pz_rA (by omega), tA_21, if_pos rfl, nI_clamp (by omega), upd_s]
    rw [fC_Law_outcome_4_4, tA_1, tA_1, e18, if_neg (by decide), gdT (by decide), r2 (sA (sA S1 33 0 9) 33 1 (f 1)) (by rw [tA_21, if_neg (by decide), tA_21, if_neg (by decide)]), ev_nx, if_neg (by decide), if_pos (by decide), show (2 + -1 : Int32) = 1 from by decide, show (1 - 1 : Int32) = 0 from by decide, gdT (by decide), gdT (by decide), h0, h1, fC_Law_joined, if_neg (by decide), if_pos rfl, ev_I, gdT (by decide), ev_nx, show (2 + 1 : Int32) = 3 from by decide]
  have s4 : ∀ m, fC_Law_outcome_4_4 (m + 1) 1 3 (sA (sA (sA S1 33 0 9) 33 1 (f 1)) 33 0 (9 - f 1)) = some (rI (nI (Lpl f)), sA (sA (sA S1 33 0 9) 33 1 (f 1)) 33 0 (9 - f 1)) := fun m => by
    have h0 : rA (sA (sA (sA S1 33 0 9) 33 1 (f 1)) 33 0 (9 - f 1)) 33 0 = 9 - f 1 := by
      rw [show (0 : Int32) = nI 0 from rfl, pz_rA (by omega), tA_21, if_pos rfl, nI_clamp (by omega), upd_s]
    rw [fC_Law_outcome_4_4, tA_1, tA_1, tA_1, e18, if_pos (by decide), h0, ev_nx, clI_e]
    rfl
  refine ⟨sA (sA (sA S1 33 0 9) 33 1 (f 1)) 33 0 (9 - f 1), ?_, ((frm.rf.A (by simp)).A (by simp)).A (by simp)⟩
  obtain ⟨m, hm⟩ : ∃ m, FU = m + 1 + 1 + 1 + 1 := ⟨1996, rfl⟩
  rw [fC_Law_outcome_4, hm, s1, s2, s3, s4]
theorem RLw_pl (h17 : S.1 17 = 0) : RLw Lpl S := by
  refine ⟨fun S1 e17 e11 e12 f hf => ?_, fun f => clI_le _⟩
  rw [h17] at e17
  refine ⟨S1, ?_, frm.rf⟩
  rw [fR_learnsNow, e17, if_pos rfl, fR_learnsNow_23, show (1 : Int32) = nI 1 from rfl, pz_rA (by omega), hf 1 (by omega), clI_e]
  rfl
end PV8
