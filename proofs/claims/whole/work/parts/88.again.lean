/-! a work's steps, again (written by wip/whole/pure/p88.py) -/
section PVI
variable {V : Vy} {L : Lw} {w : Rw} {S T U SC SR : St} {i j p q k s d b B D D' dd e : Nat} {l : List (Nat × Nat × Nat)}
theorem d6_idle {rc : Int32 → Int32 → Int32 → St → Oz} {x4 x5 e : Nat} (h : S.1 23 = nI B) (hB : 200 ≤ B) (hB2 : B < 2 ^ 31) (he : e < 2 ^ 20) : ∀ k n b, b + k ≤ e → fC_Work_doSteps_6 rc (n + k) (nI e) (nI x4) (nI x5) (nI b) S = fC_Work_doSteps_6 rc n (nI e) (nI x4) (nI x5) (nI (b + k)) S := by
  intro k
  induction k with
  | zero => intro n b _; rfl
  | succ k ih =>
    intro n b hb
    have hr := ih n (b + 1) (by omega)
    rw [show b + 1 + k = b + (k + 1) by omega] at hr
    rw [show n + (k + 1) = n + k + 1 by omega, fC_Work_doSteps_6, if_neg (nI_ge (by omega) (by omega)), nI_1]
    by_cases q : nI b < nI x5
    · rw [if_pos q, hr]
    · rw [if_neg q, h, it_ltL (by omega) (by omega), if_neg (Nat.not_lt.mpr hB), hr]
theorem d6_skip {rc : Int32 → Int32 → Int32 → St → Oz} {x4 x5 e : Nat} (he : e < 2 ^ 20) (h5 : x5 ≤ e) : ∀ k n b, b + k ≤ x5 → fC_Work_doSteps_6 rc (n + k) (nI e) (nI x4) (nI x5) (nI b) S = fC_Work_doSteps_6 rc n (nI e) (nI x4) (nI x5) (nI (b + k)) S := by
  intro k
  induction k with
  | zero => intro n b _; rfl
  | succ k ih =>
    intro n b hb
    have hr := ih n (b + 1) (by omega)
    rw [show b + 1 + k = b + (k + 1) by omega] at hr
    rw [show n + (k + 1) = n + k + 1 by omega, fC_Work_doSteps_6, if_neg (nI_ge (by omega) (by omega)), nI_1, if_pos (nI_lt (by omega) (by omega)), hr]
theorem blk_times {times v6 x4 : Nat} {KR : Int32 → Int32 → St → Oz} {x2 : Int32} (hl : Blk V L (b + 1) l dd) (hv : v6 = b + 1 + l.length) (hv2 : v6 ≤ 50) (ht : times ≤ 40) (hD : dd ≤ D) (hD' : dd ≤ D') (hx : x4 + 1 + dd ≤ 6) :
    ∀ k x7 nC nR (w : Rw) (B : Nat) (SC SR : St), x7 + k = times → k < nC → k < nR → WS V L w B SC SR → SC.2.1 44 b = nI times → SC.2.1 45 b = nI v6 → SR.2.1 16 (3 * b + 1) = nI times → SC3 (SC.2.1 43) (SC.2.1 44) (SC.2.1 45) (b + 1) l → SR3 (SR.2.1 16) (b + 1) l →
    ∃ (w2 : Rw) (B2 : Nat) (T U : St), fC_Work_doAgain_10 (fun x2 x3 x4 S => fC_Work_doSteps (D + 1) x2 x3 x4 S) nC (nI b) (nI x4) (nI x7) SC = some (rV, T) ∧ fR_goesSteps_50 (fun x1 x2 S => fR_goesSteps (D' + 1) x1 x2 S) KR nR x2 (nI (3 * b)) (nI (3 * v6)) (nI x7) SR = KR x2 (nI (3 * v6)) U ∧ frm [23, 24, 25] [32, 33, 46] SC T ∧ frm [21, 22, 23] [13, 14, 18] SR U ∧ WS V L w2 B2 T U := by
  intro k
  induction k with
  | zero =>
    intro x7 nC nR w B SC SR hx7 hC hR h f2 f3 g2 a1 a2
    obtain ⟨nC, rfl⟩ := pz_fu hC
    obtain ⟨nR, rfl⟩ := pz_fu hR
    refine ⟨w, B, SC, SR, ?_, ?_, frm.rf, frm.rf, h⟩
    · rw [fC_Work_doAgain_10, pz_gib (by omega) (by omega), pz_rA (by omega), f2, if_pos (nI_le (by omega) (by omega))]
    · rw [fR_goesSteps_50, nI_1, pz_gib (by omega) (by omega), pz_rA (by omega), g2, if_pos (nI_le (by omega) (by omega))]
  | succ k ih =>
    intro x7 nC nR w B SC SR hx7 hC hR h f2 f3 g2 a1 a2
    obtain ⟨nC, rfl⟩ := pz_fu hC
    obtain ⟨nR, rfl⟩ := pz_fu hR
    have h' := h
    obtain ⟨-, -, -, -, -, -, -, b1, b2, b3, b4, b5⟩ := h'
    rw [fC_Work_doAgain_10, pz_gib (by omega) (by omega), pz_rA (by omega), f2, if_neg (nI_ge (by omega) (by omega)), b1, it_Lle (by omega) (by omega), pz_gib (by omega) (by omega), pz_rA (by omega), f3, fR_goesSteps_50, nI_1 (3 * b), pz_gib (by omega) (by omega), pz_rA (by omega), g2, if_neg (nI_ge (by omega) (by omega)), b2, it_Lle (by omega) (by omega), nI_1 b]
    by_cases q : 200 ≤ B
    · rw [if_pos q, if_pos q]
      exact ⟨w, B, SC, SR, rfl, rfl, frm.rf, frm.rf, h⟩
    · rw [if_neg q, if_neg q]
      obtain ⟨nf, hnf⟩ : ∃ z, FU = (z + 1) + l.length := ⟨1999 - l.length, by rw [pz_FU]; omega⟩
      obtain ⟨x5', m', w1, B1, T, U, k1, k2, e1, e2, g3, g4, h1⟩ := hl D D' (x4 + 1) v6 (b + 1) (nf + 1) FU w B SC SR h a1 a2 hD hD' hx (by omega) hv2 (Nat.le_refl _) (by rw [pz_FU]; omega)
      rw [← hnf] at e1
      rw [← hv] at e1 e2
      obtain ⟨m', rfl⟩ : ∃ z, m' = z + 1 := ⟨m' - 1, by rw [pz_FU] at k2; omega⟩
      have c1 : fC_Work_doSteps (D + 1) (nI (b + 1)) (nI v6) (nI (x4 + 1)) SC = some (rV, T) := by
        rw [fC_Work_doSteps, fC_Work_doSteps_B, e1, fC_Work_doSteps_6, if_pos (nI_le (by omega) (by omega))]
      have c2 : fR_goesSteps (D' + 1) (nI (3 * b + 3)) (nI (3 * v6)) SR = some (rV, U) := by
        rw [fR_goesSteps, fR_goesSteps_B, show 3 * b + 3 = 3 * (b + 1) by omega, e2, fR_goesSteps_2, if_pos (nI_le (by omega) (by omega))]
      obtain ⟨w2, B2, T2, U2, e3, e4, g5, g6, h2⟩ := ih (x7 + 1) nC nR w1 B1 T U (by omega) (by omega) (by omega) h1 (by rw [g3.2.1 44 (by decide)]; exact f2) (by rw [g3.2.1 45 (by decide)]; exact f3) (by rw [g4.2.1 16 (by decide)]; exact g2) (by rw [g3.2.1 43 (by decide), g3.2.1 44 (by decide), g3.2.1 45 (by decide)]; exact a1) (by rw [g4.2.1 16 (by decide)]; exact a2)
      refine ⟨w2, B2, T2, U2, ?_, ?_, g3.tr g5, g4.tr g6, h2⟩
      · rw [nI_1 x4, c1, ev_V, nI_1 x7]
        exact e3
      · rw [show (3 : Int32) = nI 3 from rfl, nI_add (3 * b) 3, c2, ev_V, nI_1 x7]
        exact e4
theorem blk_again {times : Nat} (ht : times ≤ 40) (hl : Blk V L (b + 1) l dd) : Blk V L b ((5, times, b + 1 + l.length) :: l) (dd + 1) := by
  intro D D' x4 e x5 n m w B SC SR h a1 a2 hD hD' hx he he2 h5 hm
  obtain ⟨⟨f1, f2, f3⟩, a3⟩ := a1
  obtain ⟨⟨g1, g2, g3⟩, a4⟩ := a2
  rw [if_pos rfl] at g3
  dsimp only at f1 f2 f3 g1 g2 g3
  have he' : b + (l.length + 1) ≤ e := he
  have hm' : l.length + 1 < m := hm
  obtain ⟨D, rfl⟩ : ∃ z, D = z + 1 := ⟨D - 1, by omega⟩
  obtain ⟨D', rfl⟩ : ∃ z, D' = z + 1 := ⟨D' - 1, by omega⟩
  obtain ⟨m, rfl⟩ : ∃ z, m = z + 1 + 1 := ⟨m - 2, by omega⟩
  have h' := h
  obtain ⟨-, -, -, -, -, -, -, b1, b2, b3, b4, b5⟩ := h'
  show ∃ (x5' m' : Nat) (w2 : Rw) (B2 : Nat) (T U : St), x5' ≤ b + (l.length + 1) ∧ m + 1 + 1 ≤ m' + (l.length + 1) ∧ fC_Work_doSteps_6 (fun x2 x3 x4 S => fC_Work_doSteps (D + 1) x2 x3 x4 S) (n + (l.length + 1)) (nI e) (nI x4) (nI x5) (nI b) SC = fC_Work_doSteps_6 (fun x2 x3 x4 S => fC_Work_doSteps (D + 1) x2 x3 x4 S) n (nI e) (nI x4) (nI x5') (nI (b + (l.length + 1))) T ∧ fR_goesSteps_2 (fun x1 x2 S => fR_goesSteps (D' + 1) x1 x2 S) (m + 1 + 1) (nI (3 * e)) (nI (3 * b)) SR = fR_goesSteps_2 (fun x1 x2 S => fR_goesSteps (D' + 1) x1 x2 S) m' (nI (3 * e)) (nI (3 * (b + (l.length + 1)))) U ∧ frm [23, 24, 25] [32, 33, 46] SC T ∧ frm [21, 22, 23] [13, 14, 18] SR U ∧ WS V L w2 B2 T U
  by_cases q : 200 ≤ B
  · have hb : (200 : Int32) ≤ SR.1 21 := by rw [b2]; exact nI_le (a := 200) q (by omega)
    exact ⟨x5, m + 1, w, B, SC, SR, by omega, by omega, d6_idle b1 q (by omega) (by omega) (l.length + 1) n b (by omega), by rw [g2_stop _ _ hb, g2_stop _ _ hb], frm.rf, frm.rf, h⟩
  · have hb : ¬ (200 : Int32) ≤ SR.1 21 := by rw [b2]; exact nI_ge (b := 200) (by omega) (by omega)
    have gC0 : frm [23, 24, 25] [32, 33, 46] SC (sF SC 23 (nI (B + 1))) := frm.rf.F (by simp)
    have gR0 : frm [21, 22, 23] [13, 14, 18] SR (sF SR 21 (nI (B + 1))) := frm.rf.F (by simp)
    have h0 : WS V L w (B + 1) (sF SC 23 (nI (B + 1))) (sF SR 21 (nI (B + 1))) := h.fr gC0 gR0 h.2.2.1 h.2.2.2.2.2.2.1 h.2.2.2.1 rfl rfl (by omega) b4 b5
    obtain ⟨w2, B2, T, U, e1, e2, k1, k2, h2⟩ := blk_times (D := D) (D' := D') (v6 := b + 1 + l.length) (x4 := x4) (KR := fun x2 x3 S => fR_goesSteps_2 (fun x1 x2 S => fR_goesSteps (D' + 1) x1 x2 S) (m + 1) x2 x3 S) (x2 := nI (3 * e)) hl rfl (by omega) ht (by omega) (by omega) (by omega) times 0 FU FU w (B + 1) _ _ (by omega) (by rw [pz_FU]; omega) (by rw [pz_FU]; omega) h0 f2 f3 g2 a3 a4
    have f1' : rA (sF SC 23 (nI (B + 1))) 43 (nI b) = nI 5 := by rw [pz_rA (by omega)]; exact f1
    have f3' : rA (sF SC 23 (nI (B + 1))) 45 (nI b) = nI (b + 1 + l.length) := by rw [pz_rA (by omega)]; exact f3
    have g1' : rA (sF SR 21 (nI (B + 1))) 16 (nI (3 * b)) = nI 5 := by rw [pz_rA (by omega)]; exact g1
    have g3' : rA (sF SR 21 (nI (B + 1))) 16 (nI (3 * b + 2)) = nI (3 * (b + 1 + l.length)) := by rw [pz_rA (by omega)]; exact g3
    have c1 : fC_Work_doAgain (fun x2 x3 x4 S => fC_Work_doSteps (D + 1) x2 x3 x4 S) (nI b) (nI x4) (sF SC 23 (nI (B + 1))) = some (rV, T) := by
      rw [fC_Work_doAgain, it_ltL (by omega) (by omega), if_pos (by omega)]
      exact e1
    have eC : fC_Work_doSteps_6 (fun x2 x3 x4 S => fC_Work_doSteps (D + 1) x2 x3 x4 S) (n + (l.length + 1)) (nI e) (nI x4) (nI x5) (nI b) SC = fC_Work_doSteps_6 (fun x2 x3 x4 S => fC_Work_doSteps (D + 1) x2 x3 x4 S) (n + l.length) (nI e) (nI x4) (nI (b + 1 + l.length)) (nI (b + 1)) T := by
      rw [show n + (l.length + 1) = n + l.length + 1 by omega, fC_Work_doSteps_6, if_neg (nI_ge (by omega) (by omega)), if_neg (nI_nlt (by omega) (by omega)), b1, it_ltL (by omega) (by omega), if_pos (Nat.lt_of_not_le q), nI_1 B, ev_nx, pz_gib (by omega) (by omega), f1', if_pos (show nI 5 = 5 from rfl), pz_gib (by omega) (by omega), f3', ev_nx, c1, ev_V, nI_1 b]
    have eR : fR_goesSteps_2 (fun x1 x2 S => fR_goesSteps (D' + 1) x1 x2 S) (m + 1 + 1) (nI (3 * e)) (nI (3 * b)) SR = fR_goesSteps_2 (fun x1 x2 S => fR_goesSteps (D' + 1) x1 x2 S) (m + 1) (nI (3 * e)) (nI (3 * (b + 1 + l.length))) U := by
      rw [fR_goesSteps_2, if_neg (nI_ge (by omega) (by omega)), if_neg hb, b2, nI_1 B, ev_nx, pz_gib (by omega) (by omega), g1', if_pos (show nI 5 = 5 from rfl), show (2 : Int32) = nI 2 from rfl, nI_add, pz_gib (by omega) (by omega), g3', ev_nx]
      exact e2
    have sk := d6_skip (S := T) (rc := fun x2 x3 x4 S => fC_Work_doSteps (D + 1) x2 x3 x4 S) (x4 := x4) (x5 := b + 1 + l.length) (e := e) (by omega) (by omega) l.length n (b + 1) (Nat.le_refl _)
    refine ⟨b + 1 + l.length, m + 1, w2, B2, T, U, by omega, by omega, ?_, ?_, gC0.tr k1, gR0.tr k2, h2⟩
    · rw [eC, sk, show b + (l.length + 1) = b + 1 + l.length by omega]
    · rw [eR, show b + (l.length + 1) = b + 1 + l.length by omega]
end PVI
