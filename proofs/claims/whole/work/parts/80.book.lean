/-! book (written by wip/whole/pure/p80.py) -/
section PVA
variable {V : Vy} {S T U SC SR : St} {t : Nat → Nat} {n i j p q k c v s N : Nat} {f u : Oz} {x : Int32}
abbrev Bk : Type := Nat → Nat → Nat
def BC (V : Vy) (b : Bk) (c : Nat) (S : St) : Prop := S.1 21 = nI c ∧ S.1 11 = nI (y_M V) ∧ S.1 10 = nI (y_P V) ∧ ∀ i, i < c → S.2.1 40 i = nI (b i 0) ∧ S.2.1 41 i = nI (b i 1) ∧ S.2.1 42 i = nI (b i 2) ∧ b i 0 < y_M V ∧ b i 1 < y_P V ∧ b i 2 ≤ 99
def BR (V : Vy) (b : Bk) (c : Nat) (S : St) : Prop := S.1 13 = nI (y_M V) ∧ S.1 12 = nI (y_P V) ∧ ∀ i, i < c → S.2.1 20 (3 * i) = nI (b i 0) ∧ S.2.1 20 (3 * i + 1) = nI (b i 1) ∧ S.2.1 20 (3 * i + 2) = nI (b i 2)
theorem BC.fr {b : Bk} {fs as : List Nat} (h : BC V b c S) (g : frm fs as S T) (h1 : 21 ∉ fs ∧ 11 ∉ fs ∧ 10 ∉ fs) (h2 : 40 ∉ as ∧ 41 ∉ as ∧ 42 ∉ as) : BC V b c T := by
  unfold BC
  rw [g.1 21 h1.1, g.1 11 h1.2.1, g.1 10 h1.2.2, g.2.1 40 h2.1, g.2.1 41 h2.2.1, g.2.1 42 h2.2.2]
  exact h
theorem BR.fr {b : Bk} {fs as : List Nat} (h : BR V b c S) (g : frm fs as S T) (h1 : 13 ∉ fs ∧ 12 ∉ fs) (h2 : 20 ∉ as) : BR V b c T := by
  unfold BR
  rw [g.1 13 h1.1, g.1 12 h1.2, g.2.1 20 h2]
  exact h
def bset (b : Bk) (c m p w : Nat) : Bk := fun i k => if i = c then (if k = 0 then m else if k = 1 then p else w) else b i k
theorem r_180_bad (hq : q < 2 ^ 31) (x2 : Int32) (h4 : S.1 4 = nI q) (h5 : S.1 5 = nI k) : fR_book_180 x2 S = some (rI (nI k - 10), sF S 7 (nI q)) := by
  rw [fR_book_180, fR_result, h4, ev_nx, r_fine0 (S := sF S 7 (nI q)) (p := q) hq h4, ev_I, if_pos rfl, ev_I]
  rw [show (sF S 7 (nI q)).1 4 = nI q from h4, if_neg (nI_m1 hq), show (sF S 7 (nI q)).1 5 = nI k from h5]
theorem r_102_bad {K : Int32 → St → Oz} (hq : q < 2 ^ 31) (x2 x4 : Int32) (h4 : S.1 4 = nI q) (h5 : S.1 5 = nI k) : fR_book_102 K x2 x4 S = some (rI (nI k - 10), sF S 7 (nI q)) := by
  rw [fR_book_102, r_num_bad _ _ hq h4, ev_I, r_num_bad _ _ hq h4, ev_I, r_sign_bad _ hq h4, ev_V, r_fine0 hq h4, ev_I, if_pos rfl, r_180_bad hq x2 h4 h5]
/-- a line on both sides -/
def BStp (V : Vy) (t : Nat → Nat) (n c : Nat) (K1 K2 : Int32 → St → Oz) (SC SR : St) (f u : Oz) : Prop :=
  (∃ i b T U, f = K1 (nI (c + 1)) T ∧ u = K2 (nI (c + 1)) U ∧ c < 6 ∧ CT t n i T ∧ RT t n i U ∧ U.1 4 = -1 ∧ BC V b (c + 1) T ∧ BR V b (c + 1) U ∧ frm [6, 8, 21] [40, 41, 42] SC T ∧ frm [3] [20] SR U) ∨
  (∃ q k T U, f = some (rI 0, T) ∧ u = some (rI (nI k - 10), U) ∧ q ≤ 600 ∧ T.1 5 = nI q ∧ T.1 4 = nI k ∧ U.1 7 = nI q ∧ frm [4, 5, 6, 8, 21] [40, 41, 42] SC T ∧ frm [3, 4, 5, 7] [20] SR U)
def bC (K1 : Int32 → St → Oz) (x3 : Int32) (T1 : St) : Oz := obI (fC_Book_readLine_7 T1) fun r4 T3 => (if r4 = 0 then (some (rI 0, T3)) else (obI (fC_Tape_needs 59 T3) fun r6 T5 => (if r6 = 0 then (some (rI 0, T5)) else (K1 (x3 + 1) T5))))
def bR (K2 : Int32 → St → Oz) (x2 : Int32) (T3 : St) : Oz := obI (fR_here T3) fun r6 T5 => (nx (T5.1 3) fun v7 => (obI (fR_readNumber 0 ((T5.1 13) - 1) T5) fun r9 T8 => (obI (fR_fine T8) fun r11 T10 => (if r11 = 0 then (fR_book_102 K2 x2 r9 T10) else (if x2 = 6 then (obV (fR_wrong 3 v7 T10) fun T12 => (fR_book_102 K2 x2 r9 T12)) else (fR_book_102 K2 x2 r9 T10))))))
theorem b_step {b : Bk} {K1 K2 : Int32 → St → Oz} (hV : VOK V) (hc : c ≤ 6) (hs : nS t n s = s) (hC : CT t n s SC) (hR : RT t n s SR) (h4 : SR.1 4 = -1) (dC : BC V b c SC) (dR : BR V b c SR) :
    BStp V t n c K1 K2 SC SR (bC K1 (nI c) SC) (bR K2 (nI c) SR) := by
  have o1 := hV.1
  have o2 := hV.2.1
  have hn := hC.2.2.2.1
  have hsn := hC.2.2.1
  obtain ⟨c1, c2, c3, c4⟩ := dC
  obtain ⟨d2, d3, d4⟩ := dR
  have e0 : fC_Tape_place SC = some (rI (nI s), SC) := by
    rw [fC_Tape_place, c_skip hC, ev_V, show run bl t n s = s from hs, sF_id hC.2.1, hC.2.1]
  have e1 : fR_here SR = some (rI (cur t n s), SR) := by rw [r_here hR, show run bl t n s = s from hs, sF_id hR.2.1]
  have kc0 := c_num (lo := 0) hC (HI.sub (h := y_M V) (by omega)) (by omega) (by omega)
  have kr0 := r_num (lo := 0) hR h4 (HI.sub (h := y_M V) (by omega)) (by omega) (by omega)
  rw [bC, bR, e1, ev_I, ev_nx, hR.2.1, d2, fC_Book_readLine_7, e0, ev_I, c2]
  by_cases ok0 : nOK t n s 0 (y_M V)
  · have z0 : fC_Tape_needsNumber 0 (nI (y_M V) - 1) SC = some (rI 1, sF (sF SC 8 (nI (nE t n s))) 6 (nI (nV t n s))) := kc0.1 ok0
    have y0 : fR_readNumber 0 (nI (y_M V) - 1) SR = some (rI (nI (nV t n s)), sF SR 3 (nI (nE t n s))) := kr0.1 ok0
    rw [z0, ev_I, if_neg (show ¬ (1 : Int32) = 0 by decide), y0, ev_I, r_fine1 (S := sF SR 3 (nI (nE t n s))) h4, ev_I, if_neg (show ¬ (1 : Int32) = 0 by decide), show (sF (sF SC 8 (nI (nE t n s))) 6 (nI (nV t n s))).1 21 = nI c from c1, it_ltL (by omega) (by omega), it_eqL (by omega) (by omega)]
    by_cases q6 : c = 6
    · rw [if_neg (show ¬ c < 6 by omega), if_pos q6, fC_Tape_refuse, ev_nx, ev_nx, ev_I, gdT (by decide), ev_I, if_pos rfl, r_wrong1 (S := sF SR 3 (nI (nE t n s))) _ _ h4, ev_V, r_102_bad (q := s) (k := 3) (by omega) _ _ rfl rfl]
      exact Or.inr ⟨s, 3, _, _, rfl, rfl, by omega, rfl, rfl, rfl, (((frm.rf.F (by simp)).F (by simp)).F (by simp)).F (by simp), (((frm.rf.F (by simp)).F (by simp)).F (by simp)).F (by simp)⟩
    · rw [if_pos (show c < 6 by omega), if_neg q6, pz_gib (by omega) (by omega), ev_nx]
      have hC1 : CT t n (nE t n s) (sA (sF (sF SC 8 (nI (nE t n s))) 6 (nI (nV t n s))) 40 (nI c) (nI (nV t n s))) := (hC.mv (nE_le hsn)).fr (fs := [6]) (as := [40]) ((frm.rf.F (by simp)).A (by simp)) (by simp) (by simp) (by simp)
      have hR1 := hR.mv (nE_le (t := t) hsn)
      have kc1 := c_num (lo := 0) hC1 (HI.sub (h := y_P V) (by omega)) (by omega) (by omega)
      have kr1 := r_num (lo := 0) hR1 h4 (HI.sub (h := y_P V) (by omega)) (by omega) (by omega)
      rw [fR_book_102, show (sF SR 3 (nI (nE t n s))).1 12 = nI (y_P V) from d3, show (sF (sF SC 8 (nI (nE t n s))) 6 (nI (nV t n s))).1 6 = nI (nV t n s) from rfl, show (sA (sF (sF SC 8 (nI (nE t n s))) 6 (nI (nV t n s))) 40 (nI c) (nI (nV t n s))).1 10 = nI (y_P V) from c3]
      by_cases ok1 : nOK t n (nE t n s) 0 (y_P V)
      · have z1 : fC_Tape_needsNumber 0 (nI (y_P V) - 1) (sA (sF (sF SC 8 (nI (nE t n s))) 6 (nI (nV t n s))) 40 (nI c) (nI (nV t n s))) = some (rI 1, sF (sF (sA (sF (sF SC 8 (nI (nE t n s))) 6 (nI (nV t n s))) 40 (nI c) (nI (nV t n s))) 8 (nI (nE t n (nE t n s)))) 6 (nI (nV t n (nE t n s)))) := kc1.1 ok1
        have y1 : fR_readNumber 0 (nI (y_P V) - 1) (sF SR 3 (nI (nE t n s))) = some (rI (nI (nV t n (nE t n s))), sF (sF SR 3 (nI (nE t n s))) 3 (nI (nE t n (nE t n s)))) := kr1.1 ok1
        obtain ⟨S1, hS1⟩ : ∃ S1, S1 = sA (sF (sF SC 8 (nI (nE t n s))) 6 (nI (nV t n s))) 40 (nI c) (nI (nV t n s)) := ⟨_, rfl⟩
        have g1 : frm [6, 8, 21] [40, 41, 42] SC S1 := by rw [hS1]; exact ((frm.rf.F (by simp)).F (by simp)).A (by simp)
        have f1 : S1.1 21 = nI c := by rw [hS1]; exact c1
        have r40 : S1.2.1 40 = upd (SC.2.1 40) c (nI (nV t n s)) := by rw [hS1, tA_21, if_pos rfl, nI_clamp (by omega)]; rfl
        rw [← hS1] at z1 hC1
        rw [← hS1, z1, ev_I, if_neg (show ¬ (1 : Int32) = 0 by decide), y1, ev_I, show (sF (sF S1 8 (nI (nE t n (nE t n s)))) 6 (nI (nV t n (nE t n s)))).1 21 = nI c from f1, pz_gib (by omega) (by omega), ev_nx, show (sF (sF S1 8 (nI (nE t n (nE t n s)))) 6 (nI (nV t n (nE t n s)))).1 6 = nI (nV t n (nE t n s)) from rfl]
        have hC2 : CT t n (nE t n (nE t n s)) (sA (sF (sF S1 8 (nI (nE t n (nE t n s)))) 6 (nI (nV t n (nE t n s)))) 41 (nI c) (nI (nV t n (nE t n s)))) := (hC1.mv (nE_le hC1.2.2.1)).fr (fs := [6]) (as := [41]) ((frm.rf.F (by simp)).A (by simp)) (by simp) (by simp) (by simp)
        have hR2 := hR1.mv (nE_le (t := t) hR1.2.2.1)
        have kc2 := c_num (lo := 0) hC2 (HI.lit (h := 99) (by omega)) (by omega) (by omega)
        have kr2 := r_num (lo := 0) hR2 h4 (HI.lit (h := 99) (by omega)) (by omega) (by omega)
        obtain ⟨S2, hS2⟩ : ∃ S2, S2 = sA (sF (sF S1 8 (nI (nE t n (nE t n s)))) 6 (nI (nV t n (nE t n s)))) 41 (nI c) (nI (nV t n (nE t n s))) := ⟨_, rfl⟩
        have g2 : frm [6, 8, 21] [40, 41, 42] SC S2 := by rw [hS2]; exact ((g1.F (by simp)).F (by simp)).A (by simp)
        have f2 : S2.1 21 = nI c := by rw [hS2]; exact f1
        have r41 : S2.2.1 41 = upd (SC.2.1 41) c (nI (nV t n (nE t n s))) := by
          rw [hS2, tA_21, if_pos rfl, nI_clamp (by omega), show (sF (sF S1 8 (nI (nE t n (nE t n s)))) 6 (nI (nV t n (nE t n s)))).2.1 41 = S1.2.1 41 from rfl, hS1, tA_21, if_neg (by decide)]
          rfl
        have r40' : S2.2.1 40 = upd (SC.2.1 40) c (nI (nV t n s)) := by rw [hS2, tA_21, if_neg (by decide)]; exact r40
        rw [← hS2] at kc2 hC2
        rw [← hS2]
        have hlen : ((sF (sF SR 3 (nI (nE t n s))) 3 (nI (nE t n (nE t n s)))).1 4) = -1 := h4
        by_cases ok2 : nOK t n (nE t n (nE t n s)) 0 100
        · have z2 : fC_Tape_needsNumber 0 99 S2 = some (rI 1, sF (sF S2 8 (nI (nE t n (nE t n (nE t n s))))) 6 (nI (nV t n (nE t n (nE t n s))))) := kc2.1 ok2
          have y2 : fR_readNumber 0 99 (sF (sF SR 3 (nI (nE t n s))) 3 (nI (nE t n (nE t n s)))) = some (rI (nI (nV t n (nE t n (nE t n s)))), sF (sF (sF SR 3 (nI (nE t n s))) 3 (nI (nE t n (nE t n s)))) 3 (nI (nE t n (nE t n (nE t n s))))) := kr2.1 ok2
          rw [z2, ev_I, if_neg (show ¬ (1 : Int32) = 0 by decide), y2, ev_I, show (sF (sF S2 8 (nI (nE t n (nE t n (nE t n s))))) 6 (nI (nV t n (nE t n (nE t n s))))).1 21 = nI c from f2, pz_gib (by omega) (by omega), ev_nx, show (sF (sF S2 8 (nI (nE t n (nE t n (nE t n s))))) 6 (nI (nV t n (nE t n (nE t n s))))).1 6 = nI (nV t n (nE t n (nE t n s))) from rfl, tA_1, show (sF (sF S2 8 (nI (nE t n (nE t n (nE t n s))))) 6 (nI (nV t n (nE t n (nE t n s))))).1 21 = nI c from f2, nI_1, ev_nx, ev_I, if_neg (show ¬ (1 : Int32) = 0 by decide)]
          have hC3 : CT t n (nE t n (nE t n (nE t n s))) (sF (sA (sF (sF S2 8 (nI (nE t n (nE t n (nE t n s))))) 6 (nI (nV t n (nE t n (nE t n s))))) 42 (nI c) (nI (nV t n (nE t n (nE t n s))))) 21 (nI (c + 1))) := (hC2.mv (nE_le hC2.2.2.1)).fr (fs := [6, 21]) (as := [42]) (((frm.rf.F (by simp)).A (by simp)).F (by simp)) (by simp) (by simp) (by simp)
          have hR3 := hR2.mv (nE_le (t := t) hR2.2.2.1)
          have g3 : frm [6, 8, 21] [40, 41, 42] SC (sF (sA (sF (sF S2 8 (nI (nE t n (nE t n (nE t n s))))) 6 (nI (nV t n (nE t n (nE t n s))))) 42 (nI c) (nI (nV t n (nE t n (nE t n s))))) 21 (nI (c + 1))) := (((g2.F (by simp)).F (by simp)).A (by simp)).F (by simp)
          have gR3 : frm [3] [20] SR (sF (sF (sF SR 3 (nI (nE t n s))) 3 (nI (nE t n (nE t n s)))) 3 (nI (nE t n (nE t n (nE t n s))))) := ((frm.rf.F (by simp)).F (by simp)).F (by simp)
          obtain ⟨S3, hS3⟩ : ∃ S3, S3 = sF (sA (sF (sF S2 8 (nI (nE t n (nE t n (nE t n s))))) 6 (nI (nV t n (nE t n (nE t n s))))) 42 (nI c) (nI (nV t n (nE t n (nE t n s))))) 21 (nI (c + 1)) := ⟨_, rfl⟩
          have r42 : S3.2.1 42 = upd (SC.2.1 42) c (nI (nV t n (nE t n (nE t n s)))) := by
            rw [hS3, tF_2, tA_21, if_pos rfl, nI_clamp (by omega), show (sF (sF S2 8 (nI (nE t n (nE t n (nE t n s))))) 6 (nI (nV t n (nE t n (nE t n s))))).2.1 42 = S2.2.1 42 from rfl, hS2, tA_21, if_neg (by decide), show (sF (sF S1 8 (nI (nE t n (nE t n s)))) 6 (nI (nV t n (nE t n s)))).2.1 42 = S1.2.1 42 from rfl, hS1, tA_21, if_neg (by decide)]
            rfl
          have r40'' : S3.2.1 40 = upd (SC.2.1 40) c (nI (nV t n s)) := by rw [hS3, tF_2, tA_21, if_neg (by decide)]; exact r40'
          have r41'' : S3.2.1 41 = upd (SC.2.1 41) c (nI (nV t n (nE t n s))) := by rw [hS3, tF_2, tA_21, if_neg (by decide)]; exact r41
          have f3 : S3.1 21 = nI (c + 1) := by rw [hS3]; rfl
          rw [← hS3] at hC3 g3
          rw [← hS3]
          obtain ⟨U3, hU3⟩ : ∃ U3, U3 = sF (sF (sF SR 3 (nI (nE t n s))) 3 (nI (nE t n (nE t n s)))) 3 (nI (nE t n (nE t n (nE t n s)))) := ⟨_, rfl⟩
          have hU4 : U3.1 4 = -1 := by rw [hU3]; exact h4
          have hUr : U3.2.1 20 = SR.2.1 20 := by rw [hU3]; rfl
          rw [← hU3] at hR3 gR3
          rw [← hU3, show (59 : Int32) = nI 59 from rfl]
          by_cases sg : sgn t n (nE t n (nE t n (nE t n s))) 59
          · have hle : run bl t n (nE t n (nE t n (nE t n s))) + 1 ≤ n := sg.1
            rw [c_sign_ok hC3 (by omega) sg, ev_I, if_neg (show ¬ (1 : Int32) = 0 by decide), r_sign_ok hR3 hU4 sg, ev_V, r_fine1 (S := sF U3 3 _) hU4, ev_I, if_neg (show ¬ (1 : Int32) = 0 by decide), show (3 : Int32) = nI 3 from rfl, show (1 : Int32) = nI 1 from rfl, show (2 : Int32) = nI 2 from rfl, pk_mul, nI_add, nI_add, pz_gib (by omega) (by omega), ev_nx, pz_gib (by omega) (by omega), ev_nx, pz_gib (by omega) (by omega), ev_nx]
            obtain ⟨a0, a1⟩ : nV t n s < y_M V ∧ nV t n (nE t n s) < y_P V := ⟨ok0.2.2, ok1.2.2⟩
            have a2 : nV t n (nE t n (nE t n s)) ≤ 99 := by have := ok2.2.2; omega
            refine Or.inl ⟨_, bset b c (nV t n s) (nV t n (nE t n s)) (nV t n (nE t n (nE t n s))), _, _, rfl, rfl, by omega, hC3.mv hle, (hR3.mv hle).fr (fs := []) (as := [20]) (((frm.rf.A (by simp)).A (by simp)).A (by simp)) (by simp) (by simp) (by simp), hU4, ⟨f3, (g3.1 11 (by simp)).trans c2, (g3.1 10 (by simp)).trans c3, fun i hi => ?_⟩, ⟨(gR3.1 13 (by simp)).trans d2, (gR3.1 12 (by simp)).trans d3, fun i hi => ?_⟩, g3.F (by simp), (((gR3.F (by simp)).A (by simp)).A (by simp)).A (by simp)⟩
            · rw [tF_2, r40'', r41'', r42, upd_i, upd_i, upd_i]
              by_cases e : i = c
              · rw [if_pos e, if_pos e, if_pos e]
                unfold bset
                rw [if_pos e, if_pos e, if_pos e]
                exact ⟨rfl, rfl, rfl, a0, a1, a2⟩
              · rw [if_neg e, if_neg e, if_neg e]
                unfold bset
                rw [if_neg e, if_neg e, if_neg e]
                exact c4 i (by omega)
            · have hrow : (sA (sA (sA (sF U3 3 (nI (run bl t n (nE t n (nE t n (nE t n s))) + 1))) 20 (nI (3 * c)) (nI (nV t n s))) 20 (nI (3 * c + 1)) (nI (nV t n (nE t n s)))) 20 (nI (3 * c + 2)) (nI (nV t n (nE t n (nE t n s))))).2.1 20 = upd (upd (upd (SR.2.1 20) (3 * c) (nI (nV t n s))) (3 * c + 1) (nI (nV t n (nE t n s)))) (3 * c + 2) (nI (nV t n (nE t n (nE t n s)))) := by
                rw [tA_21, if_pos rfl, nI_clamp (by omega), tA_21, if_pos rfl, nI_clamp (by omega), tA_21, if_pos rfl, nI_clamp (by omega), tF_2, hUr]
              rw [hrow]
              by_cases e : i = c
              · unfold bset
                rw [if_pos e, if_pos e, if_pos e]
                subst e
                rw [upd_n _ _ (by omega), upd_n _ _ (by omega), upd_s, upd_n _ _ (by omega), upd_s, upd_s]
                exact ⟨rfl, rfl, rfl⟩
              · unfold bset
                rw [if_neg e, if_neg e, if_neg e, upd_n _ _ (by omega), upd_n _ _ (by omega), upd_n _ _ (by omega), upd_n _ _ (by omega), upd_n _ _ (by omega), upd_n _ _ (by omega), upd_n _ _ (by omega), upd_n _ _ (by omega), upd_n _ _ (by omega)]
                exact d4 i (by omega)
          · obtain ⟨T1, z3, t5, t4, gT⟩ := c_sign_no hC3 (by omega) sg
            obtain ⟨U1, y3, u4, u5, gU⟩ := r_sign_no hR3 hU4 (by omega) (by omega) sg
            have hq := run_le (c := bl) (t := t) hC3.2.2.1
            rw [z3, ev_I, if_pos rfl, y3, ev_V, r_fine0 (p := run bl t n (nE t n (nE t n (nE t n s)))) (by omega) u4, ev_I, if_pos rfl, r_180_bad (k := 1) (by omega) _ u4 u5]
            exact Or.inr ⟨_, 1, T1, _, rfl, rfl, by omega, t5, t4, rfl, (g3.wide (by simp) (by simp)).tr (gT.wide (by simp) (by simp)), ((gR3.wide (by simp) (by simp)).tr (gU.wide (by simp) (by simp))).F (by simp)⟩
        · obtain ⟨T1, z2, t5, t4, gT⟩ := kc2.2 ok2
          obtain ⟨U1, y2, u4, u5, gU⟩ := kr2.2 ok2
          have hq := nS_le (t := t) hC2.2.2.1
          have z2' : fC_Tape_needsNumber 0 99 S2 = some (rI 0, T1) := z2
          have y2' : fR_readNumber 0 99 (sF (sF SR 3 (nI (nE t n s))) 3 (nI (nE t n (nE t n s)))) = some (rI 0, U1) := y2
          rw [z2', ev_I, if_pos rfl, ev_I, if_pos rfl, y2', ev_I, r_sign_bad _ (p := nS t n (nE t n (nE t n s))) (by omega) u4, ev_V, r_fine0 (p := nS t n (nE t n (nE t n s))) (by omega) u4, ev_I, if_pos rfl, r_180_bad (by omega) _ u4 u5]
          exact Or.inr ⟨_, _, T1, _, rfl, rfl, by omega, t5, t4, rfl, (g2.wide (by simp) (by simp)).tr (gT.wide (by simp) (by simp)), (((frm.rf.F (by simp)).F (by simp)).tr (gU.wide (by simp) (by simp))).F (by simp)⟩
      · obtain ⟨T1, z1, t5, t4, gT⟩ := kc1.2 ok1
        obtain ⟨U1, y1, u4, u5, gU⟩ := kr1.2 ok1
        have hq := nS_le (t := t) hC1.2.2.1
        have z1' : fC_Tape_needsNumber 0 (nI (y_P V) - 1) (sA (sF (sF SC 8 (nI (nE t n s))) 6 (nI (nV t n s))) 40 (nI c) (nI (nV t n s))) = some (rI 0, T1) := z1
        have y1' : fR_readNumber 0 (nI (y_P V) - 1) (sF SR 3 (nI (nE t n s))) = some (rI 0, U1) := y1
        rw [z1', ev_I, if_pos rfl, ev_I, if_pos rfl, y1', ev_I, r_num_bad _ _ (p := nS t n (nE t n s)) (by omega) u4, ev_I, r_sign_bad _ (p := nS t n (nE t n s)) (by omega) u4, ev_V, r_fine0 (p := nS t n (nE t n s)) (by omega) u4, ev_I, if_pos rfl, r_180_bad (by omega) _ u4 u5]
        exact Or.inr ⟨_, _, T1, _, rfl, rfl, by omega, t5, t4, rfl, (((frm.rf.F (by simp)).F (by simp)).A (by simp)).tr (gT.wide (by simp) (by simp)), ((frm.rf.F (by simp)).tr (gU.wide (by simp) (by simp))).F (by simp)⟩
  · obtain ⟨T1, z0, t5, t4, gT⟩ := kc0.2 ok0
    obtain ⟨U1, y0, u4, u5, gU⟩ := kr0.2 ok0
    have hq := nS_le (t := t) hsn
    have z0' : fC_Tape_needsNumber 0 (nI (y_M V) - 1) SC = some (rI 0, T1) := z0
    have y0' : fR_readNumber 0 (nI (y_M V) - 1) SR = some (rI 0, U1) := y0
    rw [z0', ev_I, if_pos rfl, ev_I, if_pos rfl, y0', ev_I, r_fine0 (p := nS t n s) (by omega) u4, ev_I, if_pos rfl, r_102_bad (by omega) _ _ u4 u5]
    exact Or.inr ⟨_, _, T1, _, rfl, rfl, by omega, t5, t4, rfl, gT.wide (by simp) (by simp), (gU.wide (by simp) (by simp)).F (by simp)⟩
theorem b_loop (hV : VOK V) : ∀ k c m m' i (b : Bk) (SC SR : St), c + k = 6 → k < m → k < m' → CT t n i SC → RT t n i SR → SR.1 4 = -1 → BC V b c SC → BR V b c SR →
    (∃ c2 b2 T U, c2 ≤ 6 ∧ fC_Book_readFrom_7_7 m (nI c) SC = some (rI 1, T) ∧ fR_book_46 m' (nI c) SR = fR_book_180 (nI c2) U ∧ BC V b2 c2 T ∧ BR V b2 c2 U ∧ U.1 4 = -1 ∧ frm [6, 8, 21] [40, 41, 42] SC T ∧ frm [3] [20] SR U) ∨
    (∃ q k T U, fC_Book_readFrom_7_7 m (nI c) SC = some (rI 0, T) ∧ fR_book_46 m' (nI c) SR = some (rI (nI k - 10), U) ∧ q ≤ 600 ∧ T.1 5 = nI q ∧ T.1 4 = nI k ∧ U.1 7 = nI q ∧ frm [4, 5, 6, 8, 21] [40, 41, 42] SC T ∧ frm [3, 4, 5, 7] [20] SR U) := by
  intro k
  induction k with
  | zero =>
    intro c m m' i b SC SR hc hm hm' hC hR h4 dC dR
    obtain ⟨m, rfl⟩ := pz_fu hm
    obtain ⟨m', rfl⟩ := pz_fu hm'
    have hs : nS t n (run bl t n i) = run bl t n i := run_idem hC.2.2.1
    have hle := run_le (c := bl) (t := t) hC.2.2.1
    have gC : frm [6, 8, 21] [40, 41, 42] SC (sF SC 8 (nI (run bl t n i))) := frm.rf.F (by simp)
    have gR : frm [3] [20] SR (sF SR 3 (nI (run bl t n i))) := frm.rf.F (by simp)
    have dC1 := dC.fr (fs := [8]) (as := []) (T := sF SC 8 (nI (run bl t n i))) (frm.rf.F (by simp)) (by decide) (by decide)
    have dR1 := dR.fr (fs := [3]) (as := []) (T := sF SR 3 (nI (run bl t n i))) (frm.rf.F (by simp)) (by decide) (by decide)
    rw [fC_Book_readFrom_7_7, it_Llt (by omega) (by omega), if_neg (by omega), c_ended hC, ev_I, fR_book_46, r_fine1 h4, ev_I, if_neg (show ¬ (1 : Int32) = 0 by decide), r_isMore hR, ev_I]
    by_cases q : run bl t n i < n
    · rw [if_pos q, if_pos q, if_pos rfl, if_neg (show ¬ (1 : Int32) = 0 by decide)]
      have h := b_step (V := V) (K1 := fun x3 S => fC_Book_readFrom_7_7 m x3 S) (K2 := fun x2 S => fR_book_46 m' x2 S) (c := c) hV (by omega) hs (hC.mv hle) (hR.mv hle) h4 dC1 dR1
      rcases h with ⟨_, _, _, _, _, _, h9, _⟩ | ⟨q, k, T, U, e1, e2, z3, z4, z5, z6, g1, g2⟩
      · omega
      · exact Or.inr ⟨q, k, T, U, e1, e2, z3, z4, z5, z6, (gC.wide (by simp) (by simp)).tr g1, (gR.wide (by simp) (by simp)).tr g2⟩
    · rw [if_neg q, if_neg q, if_neg (show ¬ (1 : Int32) = 0 by decide), if_pos rfl]
      exact Or.inl ⟨c, b, _, _, by omega, rfl, rfl, dC1, dR1, h4, gC, gR⟩
  | succ k ih =>
    intro c m m' i b SC SR hc hm hm' hC hR h4 dC dR
    obtain ⟨m, rfl⟩ := pz_fu hm
    obtain ⟨m', rfl⟩ := pz_fu hm'
    have hs : nS t n (run bl t n i) = run bl t n i := run_idem hC.2.2.1
    have hle := run_le (c := bl) (t := t) hC.2.2.1
    have gC : frm [6, 8, 21] [40, 41, 42] SC (sF SC 8 (nI (run bl t n i))) := frm.rf.F (by simp)
    have gR : frm [3] [20] SR (sF SR 3 (nI (run bl t n i))) := frm.rf.F (by simp)
    have dC1 := dC.fr (fs := [8]) (as := []) (T := sF SC 8 (nI (run bl t n i))) (frm.rf.F (by simp)) (by decide) (by decide)
    have dR1 := dR.fr (fs := [3]) (as := []) (T := sF SR 3 (nI (run bl t n i))) (frm.rf.F (by simp)) (by decide) (by decide)
    rw [fC_Book_readFrom_7_7, it_Llt (by omega) (by omega), if_neg (by omega), c_ended hC, ev_I, fR_book_46, r_fine1 h4, ev_I, if_neg (show ¬ (1 : Int32) = 0 by decide), r_isMore hR, ev_I]
    by_cases q : run bl t n i < n
    · rw [if_pos q, if_pos q, if_pos rfl, if_neg (show ¬ (1 : Int32) = 0 by decide)]
      have h := b_step (V := V) (K1 := fun x3 S => fC_Book_readFrom_7_7 m x3 S) (K2 := fun x2 S => fR_book_46 m' x2 S) (c := c) hV (by omega) hs (hC.mv hle) (hR.mv hle) h4 dC1 dR1
      rcases h with ⟨i2, b2, T, U, e1, e2, h9, k1, k2, k3, k4, k5, g1, g2⟩ | ⟨q, k, T, U, e1, e2, z3, z4, z5, z6, g1, g2⟩
      · have eC : bC (fun x3 S => fC_Book_readFrom_7_7 m x3 S) (nI c) (sF SC 8 (nI (run bl t n i))) = fC_Book_readFrom_7_7 m (nI (c + 1)) T := e1
        have eR : bR (fun x2 S => fR_book_46 m' x2 S) (nI c) (sF SR 3 (nI (run bl t n i))) = fR_book_46 m' (nI (c + 1)) U := e2
        rcases ih (c + 1) m m' i2 b2 T U (by omega) (by omega) (by omega) k1 k2 k3 k4 k5 with ⟨c3, b3, T3, U3, r0, r1, r2, r3, r4, r5, r6, r7⟩ | ⟨q, k, T3, U3, r1, r2, r3, r4, r5, r6, r7, r8⟩
        · exact Or.inl ⟨c3, b3, T3, U3, r0, eC.trans r1, eR.trans r2, r3, r4, r5, (gC.tr g1).tr r6, (gR.tr g2).tr r7⟩
        · exact Or.inr ⟨q, k, T3, U3, eC.trans r1, eR.trans r2, r3, r4, r5, r6, ((gC.tr g1).wide (by simp) (by simp)).tr r7, ((gR.tr g2).wide (by simp) (by simp)).tr r8⟩
      · exact Or.inr ⟨q, k, T, U, e1, e2, z3, z4, z5, z6, (gC.wide (by simp) (by simp)).tr g1, (gR.wide (by simp) (by simp)).tr g2⟩
    · rw [if_neg q, if_neg q, if_neg (show ¬ (1 : Int32) = 0 by decide), if_pos rfl]
      exact Or.inl ⟨c, b, _, _, by omega, rfl, rfl, dC1, dR1, h4, gC, gR⟩
theorem CM_OC {m : Md} (h : CM m SC) (n : Nat) : CM m (OC SC n) := h.fr (fs := 3 :: 5 :: cF) (((((frx.rf.F (by simp)).F (by simp)).F (by simp)).F (by simp)).F (by simp)) (fun k hk => by
  rcases List.mem_cons.mp hk with e | hk
  · omega
  · rcases List.mem_cons.mp hk with e | hk
    · omega
    · simp only [hk, or_true])
theorem RM_OR {m : Md} (h : RM m SR) (n : Nat) : RM m (OR (sF SR 0 0) n) := h.fr (fs := 1 :: 7 :: rF) (as := rA') (((((((frx.rf.F (by simp)).F (by simp)).F (by simp)).F (by simp)).F (by simp)).F (by simp)).F (by simp)) (fun k hk => by
  rcases List.mem_cons.mp hk with e | hk
  · omega
  · rcases List.mem_cons.mp hk with e | hk
    · omega
    · simp only [hk, or_true]) (fun k hk => Or.inr (Or.inr hk))
theorem po_book : PO_book Rel := by
  intro SC SR hR x
  show Po (fC_Main_book x SC) (fR_book x SR) (fun j T => if j = 1 then some (rI 1, T) else none)
  have hR' := hR
  obtain ⟨m, hC, hM, hB⟩ := hR'
  obtain ⟨g0, h0, hv0, hL0, hr0⟩ := begR hM
  obtain ⟨N, hN, e3⟩ := hB.2.2.2.2.1
  have eR1 : (sF SR 0 0).1 1 = nI N := by rw [tF_1, if_neg (by decide), ← hB.2.2.2.1, e3]
  have hV := hC.1.ok
  rcases c_open x (M := 60) e3 hN (by omega) with ⟨n, hn, hn6, rfl, eO⟩ | ⟨hx, eO⟩
  · obtain ⟨hCT, hRT⟩ := open_tapes hB (n := n) (by omega)
    have hOC := CM_OC hC n
    have hOR := RM_OR hM n
    have gC0 : frm [21] [] (OC SC n) (sF (OC SC n) 21 0) := frm.rf.F (by simp)
    have dC0 : BC m.1 (fun _ _ => 0) 0 (sF (OC SC n) 21 0) := ⟨rfl, hOC.1.2.1, hOC.1.1, fun i hi => absurd hi (Nat.not_lt_zero _)⟩
    have dR0 : BR m.1 (fun _ _ => 0) 0 (OR (sF SR 0 0) n) := ⟨hOR.1.2.1, hOR.1.1, fun i hi => absurd hi (Nat.not_lt_zero _)⟩
    have eC0 : fC_Main_book (nI n) SC = obI (fC_Book_readFrom_7_7 FU 0 (sF (OC SC n) 21 0)) fun r4 T3 => (if r4 = 0 then (some (rI ((T3.1 4) - 10), T3)) else (obV (fC_Book_copyFrom_6 T3) fun T5 => (some (rI (T5.1 20), T5)))) := by
      rw [fC_Main_book, show (60 : Int32) = nI 60 from rfl, eO, ev_V, fC_Book_readFrom_7, ev_nx]
    have eR0 : fR_book (nI n) SR = fR_book_46 FU 0 (OR (sF SR 0 0) n) := by
      rw [fR_book, ev_nx, if_neg (nI_pos (by omega)), eR1, if_neg (nI_nlt hn (by omega)), it_Llt (by omega) (by omega), if_neg (by omega), fR_book_29, r_may1 _ _ h0, ev_I, if_neg (by decide), r_begins, ev_V]
    rcases b_loop (t := tp SC) hV 6 0 FU FU 0 _ _ _ (by omega) (by rw [pz_FU]; omega) (by rw [pz_FU]; omega) (hCT.fr gC0 (by simp) (by simp) (by simp)) hRT rfl dC0 dR0 with ⟨c2, b2, T, U, hc2, e1, e2, dC, dR, u4, gC, gR⟩ | ⟨q, k, T, U, e1, e2, hq, t5, t4, u7, gC, gR⟩
    · have e1' : fC_Book_readFrom_7_7 FU 0 (sF (OC SC n) 21 0) = some (rI 1, T) := e1
      have e2' : fR_book_46 FU 0 (OR (sF SR 0 0) n) = fR_book_180 (nI c2) U := e2
      obtain ⟨B1, s1, s2, s3, -⟩ := r_copies_v282 (N := 18) (by omega) (sF (sF U 7 (-1)) 24 (nI c2))
      have gCa : frm [6, 8, 20, 21] [37, 38, 39, 40, 41, 42] (OC SC n) (sC (sC (sC (sF T 20 (nI c2)) 40 37 0 0 6) 41 38 0 0 6) 42 39 0 0 6) := ((((((gC0.wide (by simp) (by simp)).tr (gC.wide (by simp) (by simp))).F (by simp)).C (by simp)).C (by simp)).C (by simp))
      have gRa : frm [3, 7, 24] [20, 21] (OR (sF SR 0 0) n) B1 := (((gR.wide (by simp) (by simp)).F (by simp)).F (by simp)).tr (s2.wide (by simp) (by simp))
      obtain ⟨V, L, w, bk, wk, im⟩ := m
      obtain ⟨p1, p2, p3, p4, p5, p6⟩ := hOC
      obtain ⟨q1, q2, q3, q4, q5, q6⟩ := hOR
      refine po_rel (b := nI c2) (T := sC (sC (sC (sF T 20 (nI c2)) 40 37 0 0 6) 41 38 0 0 6) 42 39 0 0 6) (U := B1) ?_ ?_ ?_ ?_
      · refine ⟨(V, L, w, (c2, b2), wk, im), ⟨p1.fr gCa (by decide) (by decide), p2.fr gCa (by decide) (by decide), ?_, ⟨rfl, hc2, fun i (hi : i < c2) => ?_⟩, ?_, ?_⟩, ⟨q1.fr gRa (by decide) (by decide), q2.fr gRa (by decide) (by decide), ?_, ⟨?_, fun i (hi : i < c2) => ?_⟩, ?_, ?_⟩, BM_end hB gCa gRa ?_ ?_ (by decide) (by decide)⟩
        · rw [gCa.2.1 46 (by decide)]; exact p3
        · have k37 : (sC (sC (sC (sF T 20 (nI c2)) 40 37 0 0 6) 41 38 0 0 6) 42 39 0 0 6).2.1 37 i = T.2.1 40 i := by
            rw [tC_21, if_neg (by decide), tC_21, if_neg (by decide), show (6 : Int32) = nI 6 from rfl, tC0 (by omega) (by omega)]
            rfl
          have k38 : (sC (sC (sC (sF T 20 (nI c2)) 40 37 0 0 6) 41 38 0 0 6) 42 39 0 0 6).2.1 38 i = T.2.1 41 i := by
            rw [tC_21, if_neg (by decide), show (6 : Int32) = nI 6 from rfl, tC0 (by omega) (by omega), tC_21, if_neg (by decide)]
            rfl
          have k39 : (sC (sC (sC (sF T 20 (nI c2)) 40 37 0 0 6) 41 38 0 0 6) 42 39 0 0 6).2.1 39 i = T.2.1 42 i := by
            rw [show (6 : Int32) = nI 6 from rfl, tC0 (by omega) (by omega), tC_21, if_neg (by decide), tC_21, if_neg (by decide)]
            rfl
          rw [k37, k38, k39]
          exact dC.2.2.2 i hi
        · rw [gCa.1 26 (by decide), gCa.2.1 47 (by decide)]; exact p5
        · rw [gCa.1 27 (by decide), gCa.2.1 48 (by decide), gCa.2.1 49 (by decide)]; exact p6
        · rw [gRa.2.1 17 (by decide)]; exact q3
        · rw [s2.1 24 (by decide)]; rfl
        · rw [s3 _ (by omega), s3 _ (by omega), s3 _ (by omega)]
          exact dR.2.2 i hi
        · rw [gRa.1 19 (by decide), gRa.2.1 19 (by decide)]; exact q5
        · rw [gRa.1 27 (by decide), gRa.2.1 25 (by decide)]; exact q6
        · rw [gCa.1 0 (by decide), gRa.1 20 (by decide)]
          exact hB.1
        · rw [gCa.1 5 (by decide), s2.1 7 (by decide)]
          rfl
      · rw [eC0, e1', ev_I, if_neg (by decide), fC_Book_copyFrom_6, dC.1, ev_nx, gdT (by decide), ev_nx, gdT (by decide), ev_nx, gdT (by decide), ev_nx, ev_V]
        rfl
      · rw [eR0, e2', fR_book_180, fR_result, u4, ev_nx, r_fine1 (S := sF U 7 (-1)) u4, ev_I, if_neg (by decide), ev_I, if_pos (show (sF U 7 (-1)).1 4 = -1 from u4), ev_nx, show (18 : Int32) = nI 18 from rfl, s1, ev_V]
      · rw [s2.1 0 (by decide), tF_1, if_neg (by decide), tF_1, if_neg (by decide), gR.1 0 (by decide)]
        rfl
    · refine po_rel (b := nI k - 10) (T := T) (U := U) ?_ ?_ ?_ ?_
      · exact rel_end hC hM hB (n := n) ((gC0.wide (by simp) (by simp)).tr gC) gR (t5.trans u7.symm) (by decide) (by decide) (by decide) (by decide)
      · have e1' : fC_Book_readFrom_7_7 FU 0 (sF (OC SC n) 21 0) = some (rI 0, T) := e1
        rw [eC0, e1', ev_I, if_pos rfl, t4]
      · rw [eR0]
        exact e2
      · rw [gR.1 0 (by decide)]
        rfl
  · refine po_ill1 (c := 1) hR ?_ ?_ (fun _ => rfl) (by decide)
    · rw [fC_Main_book, show (60 : Int32) = nI 60 from rfl, eO, ev_Vx]
    · have e22 : fR_book_28 x (sF SR 0 0) = some (rI 0, sA (sF (sF SR 0 0) 0 1) 1 (nI 1) ((sF SR 0 0).2.1 1 1 + 1)) := by
        rw [fR_book_28, fR_book_29, show fR_may 0 1 1 (sF SR 0 0) = _ from r_may0 1 (k := 1) (by omega) h0 (by decide), ev_I, if_pos rfl]
      rw [fR_book, ev_nx, eR1]
      by_cases q1 : x < 0
      · rw [if_pos q1, e22]
      · rw [if_neg q1]
        by_cases q2 : nI N < x
        · rw [if_pos q2, e22]
        · rw [if_neg q2, if_pos (show (60 : Int32) < x from (hx.resolve_left q1).resolve_left q2), e22]
end PVA
