/-! valley: the clauses (written by wip/whole/pure/p77.py) -/
section PV7
variable {V : Vy} {S T U SC SR : St} {t : Nat → Nat} {n i j p q k c v s : Nat} {f u : Oz}
theorem run_idem {cc : Nat → Bool} (h : i ≤ n) : run cc t n (run cc t n i) = run cc t n i := run_stop (fun z => by
  have := (run_all (c := cc) (t := t) (n - i) i (by omega)).2.2.2 z.1
  rw [this] at z
  exact absurd z.2 (by decide))
theorem wq_same {a b : Nat} (h : skBs a = skBs b) : wq a = wq b := by
  unfold wq skb skB skN
  rw [h]
theorem rd_fade {x : Int32} (hC : CT t n i SC) (hR : RT t n i SR) (h4 : SR.1 4 = -1) (dC : DC V SC) (dR : DR V SR) (hw22 : ¬ x = nI (pk5 (skb 22) 0 (skN 22))) (hw23 : ¬ x = nI (pk5 (skb 23) 0 (skN 23))) (hw24 : ¬ x = nI (pk5 (skb 24) 0 (skN 24))) : Res t n SC SR (fC_Valley_readFade_3 SC) (fR_readRow x SR) (fun T U => ∃ V2, DC V2 T ∧ DR V2 U) := by
  have hn := hC.2.2.2.1
  have kc := c_num (lo := 0) hC (HI.lit (h := 9) (by omega)) (by omega) (by omega)
  have kr := r_num (lo := 0) hR h4 (HI.lit (h := 9) (by omega)) (by omega) (by omega)
  have ent : ∀ r : Oz, fR_readNumber (nI 0) (nI 9) SR = r → fR_readRow x SR = obI r fun r8 T7 => (nx (sF T7 11 r8) fun T9 => (some (rV, T9))) := fun r hr => by
    rw [fR_readRow, r_of (wk_all 22 (by decide)) (by decide), ev_I, if_neg hw22, of_v212, r_of (wk_all 23 (by decide)) (by decide), ev_I, if_neg hw23, of_v213, r_of (wk_all 24 (by decide)) (by decide), ev_I, if_neg hw24, ← hr]
    rfl
  have enc : ∀ r : Oz, fC_Tape_needsNumber (nI 0) (nI 9) SC = r → fC_Valley_readFade_3 SC = obI r fun r2 T1 => (if r2 = 0 then (some (rI 0, T1)) else (nx (sF T1 17 (T1.1 6)) fun T3 => (some (rI 1, T3)))) := fun r hr => by
    rw [fC_Valley_readFade_3, ← hr]
    rfl
  by_cases ok0 : nOK t n i 0 10
  · have hv : nV t n i ≤ 9 := by have := ok0.2.2; omega
    refine Or.inl ⟨nE t n i, sF (sF (sF SC 8 (nI (nE t n i))) 6 (nI (nV t n i))) 17 (nI (nV t n i)), sF (sF SR 3 (nI (nE t n i))) 11 (nI (nV t n i)), ?_, ?_, (hC.mv (nE_le hC.2.2.1)).fr (fs := [6, 17]) (as := []) ((frm.rf.F (by simp)).F (by simp)) (by simp) (by simp) (by simp), (hR.mv (nE_le hR.2.2.1)).fr (fs := [11]) (as := []) (frm.rf.F (by simp)) (by simp) (by simp) (by simp), h4, ?_, ?_, vset V 0 3 (nV t n i), ?_, ?_⟩
    · rw [enc _ (kc.1 ok0), ev_I, if_neg (by decide), ev_nx]
      rfl
    · rw [ent _ (kr.1 ok0), ev_I, ev_nx]
    · exact ((frm.rf.F (by simp)).F (by simp)).F (by simp)
    · exact (frm.rf.F (by simp)).F (by simp)
    · obtain ⟨c1, c2, c3, c4, c5, c6, c7, o1, o2, o3, o4, o5, o6, o7⟩ := dC
      exact ⟨c1, c2, c3, rfl, c5, c6, c7, o1, o2, o3, hv, o5, o6, o7⟩
    · obtain ⟨c1, c2, c3, c4, c5, c6, c7⟩ := dR
      exact ⟨c1, c2, c3, rfl, c5, c6, c7⟩
  · obtain ⟨T1, e0, t5, t4, gT⟩ := kc.2 ok0
    obtain ⟨U1, f0, u4, u5, gU⟩ := kr.2 ok0
    have hq : nS t n i ≤ n := nS_le hC.2.2.1
    refine Or.inr ⟨nS t n i, nK t n i, T1, sF U1 11 0, ?_, ?_, by omega, t5, t4, u4, u5, gT.wide (by simp) (by simp), (gU.wide (by simp) (by simp)).F (by simp)⟩
    · rw [enc _ e0, ev_I, if_pos rfl]
    · rw [ent _ f0, ev_I, ev_nx]
def vT (K44 : Int32 → St → Oz) (x2 : Int32) (T3 : St) : Oz := obI (fR_word T3) fun r6 T5 => (obI (fR_isRow r6 T5) fun r8 T7 => (if r8 = 0 then (obV (fR_wrong 1 (T7.1 3) T7) fun T11 => (fR_valley_105 K44 x2 r6 T11)) else (if x2 = 60 then (fR_valley_96 K44 x2 r6 T7) else (obI (fR_isFull r6 T7) fun r10 T9 => (if r10 = 0 then (fR_valley_105 K44 x2 r6 T9) else (fR_valley_96 K44 x2 r6 T9))))))
theorem r_end_bad (hq : q < 2 ^ 31) (h4 : S.1 4 = nI q) (h5 : S.1 5 = nI k) : fR_valley_136 S = some (rI (nI k - 10), sF S 7 (nI q)) := by
  rw [fR_valley_136, fR_result, h4, ev_nx, r_fine0 (S := sF S 7 (nI q)) (p := q) hq h4, ev_I, if_pos rfl, ev_I]
  rw [show (sF S 7 (nI q)).1 4 = nI q from h4, if_neg (nI_m1 hq), show (sF S 7 (nI q)).1 5 = nI k from h5]
theorem r_105_bad {K : Int32 → St → Oz} {x2 x3 : Int32} (hq : q < 2 ^ 31) (h4 : S.1 4 = nI q) (h5 : S.1 5 = nI k) : fR_valley_105 K x2 x3 S = some (rI (nI k - 10), sF S 7 (nI q)) := by
  rw [fR_valley_105, r_fine0 hq h4, ev_I, if_pos rfl, r_end_bad hq h4 h5]
/-- one clause on both sides: on, or a fault -/
def VStp (t : Nat → Nat) (n c : Nat) (K1 K2 : Int32 → St → Oz) (SC SR : St) (f u : Oz) : Prop :=
  (∃ i V2 T U, f = K1 (nI (c + 1)) T ∧ u = K2 (nI (c + 1)) U ∧ c < 60 ∧ CT t n i T ∧ RT t n i U ∧ U.1 4 = -1 ∧ DC V2 T ∧ DR V2 U ∧ frm [6, 8, 9, 14, 15, 16, 17] [23, 24, 25, 26, 27, 28, 29, 30] SC T ∧ frm [3, 8, 9, 10, 11] [3, 4, 5] SR U) ∨
  (∃ q k T U, f = some (rI 0, T) ∧ u = some (rI (nI k - 10), U) ∧ q ≤ 600 ∧ T.1 5 = nI q ∧ T.1 4 = nI k ∧ U.1 7 = nI q ∧ frm [4, 5, 6, 8, 9, 14, 15, 16, 17] [23, 24, 25, 26, 27, 28, 29, 30] SC T ∧ frm [3, 4, 5, 7, 8, 9, 10, 11] [3, 4, 5] SR U)
theorem v_fin {SC1 SR1 : St} {s0 x : Int32} {m : Nat} {K1 : Int32 → St → Oz} (hc : c < 60) (h : Res t n SC1 SR1 f (fR_readRow x SR1) (fun T U => ∃ V2, DC V2 T ∧ DR V2 U)) (hcl : fC_Valley_readClause_3 s0 SC = f) (gC : frm [8, 9] [] SC SC1) (gR : frm [3] [] SR SR1) :
    VStp t n c K1 (fun x2 S => fR_valley_44 (m + 1) x2 S) SC SR (fC_Valley_readFrom_3_50 K1 (nI c) s0 SC) (obV (fR_readRow x SR1) fun T5 => (obV (fR_sign 59 T5) fun T7 => (fR_valley_44 (m + 1) (nI c + 1) T7))) := by
  rcases h with ⟨i, T, U, e1, e2, hC, hR, h4, g1, g2, V2, dC, dR⟩ | ⟨q, k, T, U, e1, e2, hq, t5, t4, u4, u5, g1, g2⟩
  · rw [fC_Valley_readFrom_3_50, hcl, e1, ev_I, if_neg (by decide), e2, ev_V, show (59 : Int32) = nI 59 from rfl, nI_1]
    by_cases hs : sgn t n i 59
    · rw [c_sign_ok hC (by omega) hs, ev_I, if_neg (by decide), r_sign_ok hR h4 hs, ev_V]
      have hle : run bl t n i + 1 ≤ n := hs.1
      exact Or.inl ⟨run bl t n i + 1, V2, _, _, rfl, rfl, hc, hC.mv hle, hR.mv hle, h4, dC.fr (fs := [8]) (as := []) (frm.rf.F (by simp)) (by decide) (by decide), dR.fr (fs := [3]) (as := []) (frm.rf.F (by simp)) (by decide) (by decide), ((gC.wide (by simp) (by simp)).tr g1).F (by simp), ((gR.wide (by simp) (by simp)).tr g2).F (by simp)⟩
    · obtain ⟨T2, e3, t5, t4, g3⟩ := c_sign_no hC (by omega) hs
      obtain ⟨U2, e4, u4, u5, g4⟩ := r_sign_no hR h4 (by omega) (by omega) hs
      have hle := run_le (c := bl) (t := t) hC.2.2.1
      have hn := hC.2.2.2.1
      rw [e3, ev_I, if_pos rfl, e4, ev_V]
      refine Or.inr ⟨run bl t n i, 1, T2, sF U2 7 (nI (run bl t n i)), rfl, ?_, by omega, t5, t4, rfl, ((gC.wide (by simp) (by simp)).tr (g1.wide (by simp) (by simp))).tr (g3.wide (by simp) (by simp)), (((gR.wide (by simp) (by simp)).tr (g2.wide (by simp) (by simp))).tr (g4.wide (by simp) (by simp))).F (by simp)⟩
      rw [fR_valley_44, r_fine0 (p := run bl t n i) (by omega) u4, ev_I, if_pos rfl, r_end_bad (k := 1) (by omega) u4 u5]
  · rw [fC_Valley_readFrom_3_50, hcl, e1, ev_I, if_pos rfl, e2, ev_V, r_sign_bad _ (p := q) (by omega) u4, ev_V]
    refine Or.inr ⟨q, k, T, sF U 7 (nI q), rfl, ?_, hq, t5, t4, rfl, (gC.wide (by simp) (by simp)).tr g1, ((gR.wide (by simp) (by simp)).tr (g2.wide (by simp) (by simp))).F (by simp)⟩
    rw [fR_valley_44, r_fine0 (p := q) (by omega) u4, ev_I, if_pos rfl, r_end_bad (by omega) u4 u5]
theorem v_bad {SR1 : St} {s0 x : Int32} {K1 K2 : Int32 → St → Oz} {T : St} {kk : Nat} (hs : s ≤ 600) (hcl : fC_Valley_readClause_3 s0 SC = some (rI 0, T)) (t5 : T.1 5 = nI s) (t4 : T.1 4 = nI kk) (gT : frm [4, 5, 6, 8, 9, 14, 15, 16, 17] [23, 24, 25, 26, 27, 28, 29, 30] SC T) (u4 : SR1.1 4 = nI s) (u5 : SR1.1 5 = nI kk) (gU : frm [3, 4, 5] [] SR SR1) :
    VStp t n c K1 K2 SC SR (fC_Valley_readFrom_3_50 K1 (nI c) s0 SC) (fR_valley_105 K2 (nI c) x SR1) := by
  rw [fC_Valley_readFrom_3_50, hcl, ev_I, if_pos rfl, r_105_bad (by omega) u4 u5]
  exact Or.inr ⟨s, kk, T, _, rfl, rfl, hs, t5, t4, rfl, gT, (gU.wide (by simp) (by simp)).F (by simp)⟩
theorem v_step {m : Nat} {K1 : Int32 → St → Oz} (hc : c ≤ 60) (hs : nS t n s = s) (hC : CT t n s SC) (hR : RT t n s SR) (h4 : SR.1 4 = -1) (dC : DC V SC) (dR : DR V SR) :
    VStp t n c K1 (fun x2 S => fR_valley_44 (m + 1) x2 S) SC SR (fC_Valley_readFrom_3_50 K1 (nI c) (if c = 60 then 1 else 0) SC) (vT (fun x2 S => fR_valley_44 (m + 1) x2 S) (nI c) SR) := by
  have ok := dC.2.2.2.2.2.2.2
  have o1 := ok.1
  have o2 := ok.2.1
  have o3 := ok.2.2.1
  have hn := hC.2.2.2.1
  have hsn := hC.2.2.1
  have hee := wE_le (t := t) hsn
  have heg := wE_ge (t := t) hsn
  rw [hs] at heg
  -- after the word
  have ew := c_takeWord hC
  have rw1 := r_word hR
  rw [hs] at ew rw1
  rw [sF_id (S := SR) hR.2.1] at rw1
  rw [sF_id (S := SC) hC.2.1] at ew
  have gC : frm [8, 9] [] SC (sF (sF SC 9 (nI s)) 8 (nI (wE t n s))) := (frm.rf.F (by simp)).F (by simp)
  have gR : frm [3] [] SR (sF SR 3 (nI (wE t n s))) := frm.rf.F (by simp)
  have hC1 : CT t n (wE t n s) (sF (sF SC 9 (nI s)) 8 (nI (wE t n s))) := hC.to gC (by simp) (by simp) rfl hee
  have hR1 : RT t n (wE t n s) (sF SR 3 (nI (wE t n s))) := hR.mv hee
  have dC1 := dC.fr gC (by decide) (by decide)
  have dR1 := dR.fr gR (by decide) (by decide)
  have hl : ∀ j, s ≤ j → j < wE t n s → lt (t j) = true := fun j h1 h2 => by
    unfold wE at h2
    rw [hs] at h2
    exact run_in hsn j h1 h2
  have iw : ∀ si, WK si → fC_Tape_isWord si (sF (sF SC 9 (nI s)) 8 (nI (wE t n s))) = some (rI (if wq si t s (wE t n s) = true then 1 else 0), sF (sF SC 9 (nI s)) 8 (nI (wE t n s))) := fun si hW => c_isWord hW hC.2.2.2.2 rfl rfl heg (by omega)
  have wx : ∀ si, WK si → skN si ≤ 6 → (wcd t s (wE t n s) = nI (pk5 (skb si) 0 (skN si))) = (wq si t s (wE t n s) = true) := fun si hW h6 => w_eq hW h6 hl
  have w22 := wx 22 (wk_all 22 (by decide)) (by decide)
  have w23 := wx 23 (wk_all 23 (by decide)) (by decide)
  have w24 := wx 24 (wk_all 24 (by decide)) (by decide)
  have w25 := wx 25 (wk_all 25 (by decide)) (by decide)
  rw [wq_same (a := 22) (b := 1) (by decide)] at w22
  rw [wq_same (a := 23) (b := 2) (by decide)] at w23
  rw [wq_same (a := 24) (b := 3) (by decide)] at w24
  rw [wq_same (a := 25) (b := 4) (by decide)] at w25
  have i1 := iw 1 (wk_all 1 (by decide))
  have i2 := iw 2 (wk_all 2 (by decide))
  have i3 := iw 3 (wk_all 3 (by decide))
  have i4 := iw 4 (wk_all 4 (by decide))
  have rWord : ∀ kk : Int32, fC_Tape_refuseWord kk (sF (sF SC 9 (nI s)) 8 (nI (wE t n s))) = some (rI 0, sF (sF (sF (sF SC 9 (nI s)) 8 (nI (wE t n s))) 5 (nI s)) 4 kk) := fun kk => by
    rw [fC_Tape_refuseWord, show (sF (sF SC 9 (nI s)) 8 (nI (wE t n s))).1 9 = nI s from rfl, fC_Tape_refuse, ev_nx, ev_nx, ev_I, gdT (by decide)]
  have gB : ∀ kk : Int32, frm [4, 5, 6, 8, 9, 14, 15, 16, 17] [23, 24, 25, 26, 27, 28, 29, 30] SC (sF (sF (sF (sF SC 9 (nI s)) 8 (nI (wE t n s))) 5 (nI s)) 4 kk) := fun kk => (((frm.rf.F (by simp)).F (by simp)).F (by simp)).F (by simp)
  have gW : ∀ kk : Int32, frm [3, 4, 5] [] SR (sF (sF SR 4 (nI s)) 5 kk) := fun kk => (frm.rf.F (by simp)).F (by simp)
  have w96 : ∀ (K2 : Int32 → St → Oz) (x : Int32), fR_valley_96 K2 (nI c) x SR = fR_valley_105 K2 (nI c) x (sF (sF SR 4 (nI s)) 5 3) := fun K2 x => by
    rw [fR_valley_96, hR.2.1, r_wrong1 _ _ h4, ev_V]
  have w105 : ∀ (K2 : Int32 → St → Oz) (x : Int32), fR_valley_105 K2 (nI c) x SR = obV (fR_readRow x (sF SR 3 (nI (wE t n s)))) fun T5 => (obV (fR_sign 59 T5) fun T7 => (K2 (nI c + 1) T7)) := fun K2 x => by
    have ep : fR_pass SR = some (rV, sF SR 3 (nI (wE t n s))) := by
      have e := r_pass hR
      unfold wE
      rw [hs]
      exact e
    rw [fR_valley_105, r_fine1 h4, ev_I, if_neg (by decide), ep, ev_V]
  have row22 : ∀ x, fR_isRow x SR = some (rI (if x = nI (pk5 (skb 22) 0 (skN 22)) then 1 else if x = nI (pk5 (skb 23) 0 (skN 23)) then 1 else if x = nI (pk5 (skb 24) 0 (skN 24)) then 1 else if x = nI (pk5 (skb 25) 0 (skN 25)) then 1 else 0), SR) := fun x => by
    rw [fR_isRow, r_of (wk_all 22 (by decide)) (by decide), ev_I, of_v212, r_of (wk_all 23 (by decide)) (by decide), ev_I, of_v213, r_of (wk_all 24 (by decide)) (by decide), ev_I, of_v214, r_of (wk_all 25 (by decide)) (by decide), ev_I]
    split
    · rfl
    · split
      · rfl
      · split
        · rfl
        · split <;> rfl
  rw [vT, rw1, ev_I, row22, ev_I]
  generalize hx : wcd t s (wE t n s) = x at *
  cases b1 : wq 1 t s (wE t n s)
  · have n22 : ¬ x = nI (pk5 (skb 22) 0 (skN 22)) := by rw [w22, b1]; decide
    rw [b1, if_neg pz_ft] at i1
    rw [if_neg n22]
    cases b2 : wq 2 t s (wE t n s)
    · have n23 : ¬ x = nI (pk5 (skb 23) 0 (skN 23)) := by rw [w23, b2]; decide
      rw [b2, if_neg pz_ft] at i2
      rw [if_neg n23]
      cases b3 : wq 3 t s (wE t n s)
      · have n24 : ¬ x = nI (pk5 (skb 24) 0 (skN 24)) := by rw [w24, b3]; decide
        rw [b3, if_neg pz_ft] at i3
        rw [if_neg n24]
        cases b4 : wq 4 t s (wE t n s)
        · have n25 : ¬ x = nI (pk5 (skb 25) 0 (skN 25)) := by rw [w25, b4]; decide
          rw [b4, if_neg pz_ft] at i4
          rw [if_neg n25, if_pos rfl, hR.2.1, r_wrong1 _ _ h4, ev_V]
          refine v_bad (s := s) (kk := 1) (T := sF (sF (sF (sF SC 9 (nI s)) 8 (nI (wE t n s))) 5 (nI s)) 4 1) (by omega) ?_ rfl rfl (gB 1) rfl rfl (gW 1)
          rw [fC_Valley_readClause_3, ew, ev_V, i1, ev_I, if_pos rfl, isW_v15, i2, ev_I, if_pos rfl, isW_v16, i3, ev_I, if_pos rfl, isW_v17, i4, ev_I, if_pos rfl, rWord, ev_I, gdT (by decide)]
        · have y25 : x = nI (pk5 (skb 25) 0 (skN 25)) := by rw [w25]; exact b4
          rw [b4, if_pos rfl] at i4
          rw [if_pos y25, if_neg (show ¬ (1 : Int32) = 0 by decide), show (60 : Int32) = nI 60 from rfl, it_eq (by omega) (by omega)]
          by_cases q6 : c = 60
          · rw [if_pos q6, if_pos q6, w96]
            refine v_bad (s := s) (kk := 3) (T := sF (sF (sF (sF SC 9 (nI s)) 8 (nI (wE t n s))) 5 (nI s)) 4 3) (by omega) ?_ rfl rfl (gB 3) rfl rfl (gW 3)
            rw [fC_Valley_readClause_3, ew, ev_V, i1, ev_I, if_pos rfl, isW_v15, i2, ev_I, if_pos rfl, isW_v16, i3, ev_I, if_pos rfl, isW_v17, i4, ev_I, if_neg (by decide), if_neg (by decide), rWord, ev_I, gdT (by decide)]
          · rw [if_neg q6, if_neg q6, fR_isFull, r_of (wk_all 22 (by decide)) (by decide), ev_I, if_neg n22, of_v212, r_of (wk_all 23 (by decide)) (by decide), ev_I, if_neg n23, of_v213, r_of (wk_all 24 (by decide)) (by decide), ev_I, if_neg n24, ev_I, if_pos rfl, w105]
            have hres := rd_fade hC1 hR1 h4 dC1 dR1 n22 n23 n24
            refine v_fin (by omega) hres ?_ gC gR
            rw [fC_Valley_readClause_3, ew, ev_V, i1, ev_I, if_pos rfl, isW_v15, i2, ev_I, if_pos rfl, isW_v16, i3, ev_I, if_pos rfl, isW_v17, i4, ev_I, if_neg (by decide), if_pos rfl]
            rcases hres with ⟨_, _, _, e, _⟩ | ⟨_, _, _, _, e, _⟩ <;> (rw [e, ev_I, gdT (by decide)])
      · have y24 : x = nI (pk5 (skb 24) 0 (skN 24)) := by rw [w24]; exact b3
        rw [b3, if_pos rfl] at i3
        rw [if_pos y24, if_neg (show ¬ (1 : Int32) = 0 by decide), show (60 : Int32) = nI 60 from rfl, it_eq (by omega) (by omega)]
        have k98 : fC_Valley_readClause_3_98 (sF (sF SC 9 (nI s)) 8 (nI (wE t n s))) = some (rI 0, sF (sF (sF (sF SC 9 (nI s)) 8 (nI (wE t n s))) 5 (nI s)) 4 3) := by rw [fC_Valley_readClause_3_98, rWord, ev_I, gdT (by decide)]
        by_cases q6 : c = 60
        · rw [if_pos q6, if_pos q6, w96]
          refine v_bad (s := s) (kk := 3) (T := sF (sF (sF (sF SC 9 (nI s)) 8 (nI (wE t n s))) 5 (nI s)) 4 3) (by omega) ?_ rfl rfl (gB 3) rfl rfl (gW 3)
          rw [fC_Valley_readClause_3, ew, ev_V, i1, ev_I, if_pos rfl, isW_v15, i2, ev_I, if_pos rfl, isW_v16, i3, ev_I, if_neg (by decide), if_neg (by decide), k98]
        · rw [if_neg q6, if_neg q6, fR_isFull, r_of (wk_all 22 (by decide)) (by decide), ev_I, if_neg n22, of_v212, r_of (wk_all 23 (by decide)) (by decide), ev_I, if_neg n23, of_v213, r_of (wk_all 24 (by decide)) (by decide), ev_I, if_pos y24, dR.2.2.1, show (10 : Int32) = nI 10 from rfl, it_eq (by omega) (by omega)]
          have cl : (sF (sF SC 9 (nI s)) 8 (nI (wE t n s))).1 16 = nI (y_D V) := dC.2.2.1
          by_cases q7 : y_D V = 10
          · rw [if_pos q7, ev_I, if_neg (by decide), w96]
            refine v_bad (s := s) (kk := 3) (T := sF (sF (sF (sF SC 9 (nI s)) 8 (nI (wE t n s))) 5 (nI s)) 4 3) (by omega) ?_ rfl rfl (gB 3) rfl rfl (gW 3)
            rw [fC_Valley_readClause_3, ew, ev_V, i1, ev_I, if_pos rfl, isW_v15, i2, ev_I, if_pos rfl, isW_v16, i3, ev_I, if_neg (by decide), if_pos rfl, cl, it_ltL (by omega) (by omega), if_neg (by omega), k98]
          · rw [if_neg q7, ev_I, if_pos rfl, w105]
            have hres := rd_debt hC1 hR1 h4 dC1 dR1 (by omega) n22 n23 y24
            refine v_fin (by omega) hres ?_ gC gR
            rw [fC_Valley_readClause_3, ew, ev_V, i1, ev_I, if_pos rfl, isW_v15, i2, ev_I, if_pos rfl, isW_v16, i3, ev_I, if_neg (by decide), if_pos rfl, cl, it_ltL (by omega) (by omega), if_pos (by omega)]
            rcases hres with ⟨_, _, _, e, _⟩ | ⟨_, _, _, _, e, _⟩ <;> (rw [e, ev_I, gdT (by decide)])
    · have y23 : x = nI (pk5 (skb 23) 0 (skN 23)) := by rw [w23]; exact b2
      rw [b2, if_pos rfl] at i2
      rw [if_pos y23, if_neg (show ¬ (1 : Int32) = 0 by decide), show (60 : Int32) = nI 60 from rfl, it_eq (by omega) (by omega)]
      have k62 : fC_Valley_readClause_3_62 (sF (sF SC 9 (nI s)) 8 (nI (wE t n s))) = some (rI 0, sF (sF (sF (sF SC 9 (nI s)) 8 (nI (wE t n s))) 5 (nI s)) 4 3) := by rw [fC_Valley_readClause_3_62, rWord, ev_I, gdT (by decide)]
      by_cases q6 : c = 60
      · rw [if_pos q6, if_pos q6, w96]
        refine v_bad (s := s) (kk := 3) (T := sF (sF (sF (sF SC 9 (nI s)) 8 (nI (wE t n s))) 5 (nI s)) 4 3) (by omega) ?_ rfl rfl (gB 3) rfl rfl (gW 3)
        rw [fC_Valley_readClause_3, ew, ev_V, i1, ev_I, if_pos rfl, isW_v15, i2, ev_I, if_neg (by decide), if_neg (by decide), k62]
      · rw [if_neg q6, if_neg q6, fR_isFull, r_of (wk_all 22 (by decide)) (by decide), ev_I, if_neg n22, of_v212, r_of (wk_all 23 (by decide)) (by decide), ev_I, if_pos y23, dR.2.1, show (6 : Int32) = nI 6 from rfl, it_eq (by omega) (by omega)]
        have cl : (sF (sF SC 9 (nI s)) 8 (nI (wE t n s))).1 15 = nI (y_M V) := dC.2.1
        by_cases q7 : y_M V = 6
        · rw [if_pos q7, ev_I, if_neg (by decide), w96]
          refine v_bad (s := s) (kk := 3) (T := sF (sF (sF (sF SC 9 (nI s)) 8 (nI (wE t n s))) 5 (nI s)) 4 3) (by omega) ?_ rfl rfl (gB 3) rfl rfl (gW 3)
          rw [fC_Valley_readClause_3, ew, ev_V, i1, ev_I, if_pos rfl, isW_v15, i2, ev_I, if_neg (by decide), if_pos rfl, cl, it_ltL (by omega) (by omega), if_neg (by omega), k62]
        · rw [if_neg q7, ev_I, if_pos rfl, w105]
          have hres := rd_man hC1 hR1 h4 dC1 dR1 (by omega) n22 y23
          refine v_fin (by omega) hres ?_ gC gR
          rw [fC_Valley_readClause_3, ew, ev_V, i1, ev_I, if_pos rfl, isW_v15, i2, ev_I, if_neg (by decide), if_pos rfl, cl, it_ltL (by omega) (by omega), if_pos (by omega)]
          rcases hres with ⟨_, _, _, e, _⟩ | ⟨_, _, _, _, e, _⟩ <;> (rw [e, ev_I, gdT (by decide)])
  · have y22 : x = nI (pk5 (skb 22) 0 (skN 22)) := by rw [w22]; exact b1
    rw [b1, if_pos rfl] at i1
    rw [if_pos y22, if_neg (show ¬ (1 : Int32) = 0 by decide), show (60 : Int32) = nI 60 from rfl, it_eq (by omega) (by omega)]
    have k26 : fC_Valley_readClause_3_26 (sF (sF SC 9 (nI s)) 8 (nI (wE t n s))) = some (rI 0, sF (sF (sF (sF SC 9 (nI s)) 8 (nI (wE t n s))) 5 (nI s)) 4 3) := by rw [fC_Valley_readClause_3_26, rWord, ev_I, gdT (by decide)]
    by_cases q6 : c = 60
    · rw [if_pos q6, if_pos q6, w96]
      refine v_bad (s := s) (kk := 3) (T := sF (sF (sF (sF SC 9 (nI s)) 8 (nI (wE t n s))) 5 (nI s)) 4 3) (by omega) ?_ rfl rfl (gB 3) rfl rfl (gW 3)
      rw [fC_Valley_readClause_3, ew, ev_V, i1, ev_I, if_neg (by decide), if_neg (by decide), k26]
    · rw [if_neg q6, if_neg q6, fR_isFull, r_of (wk_all 22 (by decide)) (by decide), ev_I, if_pos y22, dR.1, show (8 : Int32) = nI 8 from rfl, it_eq (by omega) (by omega)]
      have cl : (sF (sF SC 9 (nI s)) 8 (nI (wE t n s))).1 14 = nI (y_P V) := dC.1
      by_cases q7 : y_P V = 8
      · rw [if_pos q7, ev_I, if_neg (by decide), w96]
        refine v_bad (s := s) (kk := 3) (T := sF (sF (sF (sF SC 9 (nI s)) 8 (nI (wE t n s))) 5 (nI s)) 4 3) (by omega) ?_ rfl rfl (gB 3) rfl rfl (gW 3)
        rw [fC_Valley_readClause_3, ew, ev_V, i1, ev_I, if_neg (by decide), if_pos rfl, cl, it_ltL (by omega) (by omega), if_neg (by omega), k26]
      · rw [if_neg q7, ev_I, if_pos rfl, w105]
        have hres := rd_poem hC1 hR1 h4 dC1 dR1 (by omega)  y22
        refine v_fin (by omega) hres ?_ gC gR
        rw [fC_Valley_readClause_3, ew, ev_V, i1, ev_I, if_neg (by decide), if_pos rfl, cl, it_ltL (by omega) (by omega), if_pos (by omega)]
        rcases hres with ⟨_, _, _, e, _⟩ | ⟨_, _, _, _, e, _⟩ <;> (rw [e, ev_I, gdT (by decide)])
end PV7
