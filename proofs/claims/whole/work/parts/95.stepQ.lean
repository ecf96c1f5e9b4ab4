/-! a work's reader: which step stands here (written by wip/whole/pure/p95.py) -/
section PVP
variable {V : Vy} {L : Lw} {S T U SC SR SC1 SR1 : St} {t : Nat → Nat} {n i j p q k s d b dd de i0 lo h1 : Nat} {hi : Int32} {W : List (Nat × Nat × Nat)} {f u : Oz} {rcC : Int32 → St → Oz} {rcR : St → Oz}
/-- an answer that is a truth value, if it is a number -/
def b01 (f : Oz) : Prop := ∀ r T, f = some (rI r, T) → isB r = true
theorem aft_g (h : b01 f) : aft (obI f fun r T => gd (isB r) (some (rI r, T))) = aft f := by
  rcases f with _ | ⟨r | r | r | r | r, T⟩
  · rfl
  · rfl
  · rw [ev_I, gdT (h r T rfl)]
  · rfl
  · rfl
  · rfl
theorem b01_obI {K : Int32 → St → Oz} (h : ∀ r T, b01 (K r T)) : b01 (obI f K) := by
  rcases f with _ | ⟨r | r | r | r | r, T⟩
  · intro _ _ e; cases e
  · intro _ _ e; cases e
  · exact h r T
  · intro _ _ e; cases e
  · intro _ _ e; cases e
  · intro _ _ e; cases e
theorem b01_c {v : Int32} (h : isB v = true) : b01 (some (rI v, S)) := fun r T e => by
  cases e
  exact h
theorem b01_gd {b : Bool} (h : b01 f) : b01 (gd b f) := by
  cases b
  · intro _ _ e; cases e
  · exact h
theorem b01_if {c : Prop} {_ : Decidable c} (h : b01 f) (g : b01 u) : b01 (if c then f else u) := by
  by_cases q : c
  · rw [if_pos q]; exact h
  · rw [if_neg q]; exact g
theorem b01_put {x y z : Int32} : b01 (fC_Work_put x y z S) := by
  rw [fC_Work_put]
  exact b01_if (b01_gd (b01_gd (b01_gd (b01_c (by decide))))) (b01_c (by decide))
theorem b01_nums {x y z : Int32} : b01 (fC_Work_readNumbers x y z S) := by
  rw [fC_Work_readNumbers]
  exact b01_obI fun _ _ => b01_if (b01_c (by decide)) (b01_obI fun _ _ => b01_if (b01_c (by decide)) (b01_obI fun _ _ => b01_if (b01_c (by decide)) (b01_c (by decide))))
theorem b01_again {x : Int32} : b01 (fC_Work_readAgain rcC x S) := by
  rw [fC_Work_readAgain, ev_nx]
  exact b01_obI fun _ _ => b01_if (b01_c (by decide)) (b01_obI fun _ _ => b01_if (b01_c (by decide)) (b01_obI fun _ _ => b01_if (b01_c (by decide)) (b01_obI fun _ _ => b01_if (b01_c (by decide)) (b01_obI fun _ _ => b01_if (b01_c (by decide)) (b01_gd (b01_c (by decide)))))))
theorem c_refuseW {k : Int32} : aft (obI (fC_Tape_refuseWord k S) fun r T => gd (isB r) (some (rI r, T))) = some (rI 0, sF (sF S 5 (S.1 9)) 4 k) := by
  rw [fC_Tape_refuseWord, fC_Tape_refuse, ev_nx, ev_nx, ev_I, gdT (by decide), ev_I, gdT (by decide), aft, ev_I, if_pos rfl]
theorem num_fr (hR : RT t n i S) (h4 : S.1 4 = -1) (hh : HI hi h1) (hl : lo ≤ 1000) (hh1 : h1 ≤ 1000) : ∃ v T, fR_readNumber (nI lo) hi S = some (rI v, T) ∧ frm [3, 4, 5] [] S T := by
  obtain ⟨b1, b2⟩ := r_num hR h4 hh hl hh1
  by_cases ok : nOK t n i lo h1
  · exact ⟨_, _, b1 ok, frm.rf.F (by simp)⟩
  · obtain ⟨U, e2, u4, u5, g2⟩ := b2 ok
    exact ⟨_, _, e2, g2⟩
theorem QRes.mono (h : QRes V L t n i d W dd SC SR f u) (hd : dd ≤ de) : QRes V L t n i d W de SC SR f u := by
  rcases h with ⟨i2, l, m, T, U, e1, e2, h1, h2, h3, h4, g1, g2⟩ | h
  · exact Or.inl ⟨i2, l, m, T, U, e1, e2, h1, h2, Nat.le_trans h3 hd, h4, g1, g2⟩
  · exact Or.inr h
theorem q_step (hV : VOK V) (hd : d ≤ 6) (hn : n ≤ 150) (hrc : d < 6 → ∃ dd, dd + 1 ≤ de ∧ QList V L t n (d + 1) dd rcC rcR) (h : QS V t n i d W SC SR) :
    QRes V L t n i d W de SC SR (aft (fC_Work_readStep rcC (nI d) SC)) (fR_readStep_B rcR SR) := by
  have o1 := hV.1
  have o2 := hV.2.1
  have o3 := hV.2.2.1
  have hC := h.1
  have hR := h.2.1
  have hge : i ≤ nS t n i := run_ge (c := bl) hC.2.2.1
  have hle := nS_le (t := t) hC.2.2.1
  have eC := c_takeWord hC
  have eR := r_word hR
  have L1 := h.mv (j := nS t n i) hge hle
  have heg := wE_ge (t := t) hC.2.2.1
  have hen := wE_le (t := t) hC.2.2.1
  have hlt : ∀ j, nS t n i ≤ j → j < wE t n i → lt (t j) = true := run_in (nS_le (t := t) hC.2.2.1)
  have eP := r_pass L1.2.1
  rw [show run lt t n (nS t n i) = wE t n i from rfl] at eP
  generalize wE t n i = e at *
  generalize nS t n i = s at *
  refine QRes.pre (SC1 := sF SC 8 (nI s)) (SR1 := sF SR 3 (nI s)) (frm.rf.F (by simp)) (frm.rf.F (by simp)) hge ?_
  rw [fC_Work_readStep, eC, ev_V, fR_readStep_B, eR, ev_I]
  clear eC eR
  generalize sF SC 8 (nI s) = A at *
  generalize sF SR 3 (nI s) = B at *
  have hA := L1.1
  have hB := L1.2.1
  have g4 := L1.2.2.1
  have L2 := (L1.w (v := nI s)).mv (j := e) heg hen
  have iw : ∀ si, WK si → fC_Tape_isWord si (sF (sF A 9 (nI s)) 8 (nI e)) = some (rI (if wq si t s e = true then 1 else 0), sF (sF A 9 (nI s)) 8 (nI e)) := fun si hW => c_isWord hW hA.2.2.2.2 rfl rfl heg (by have := hA.2.2.2.1; omega)
  have f9 : (sF (sF A 9 (nI s)) 8 (nI e)).1 9 = nI s := rfl
  have gA : frm [6, 8, 9, 22] [43, 44, 45] A (sF (sF A 9 (nI s)) 8 (nI e)) := (frm.rf.F (by simp)).F (by simp)
  have gB : frm [3, 6, 18] [15] B (sF B 3 (nI e)) := frm.rf.F (by simp)
  have sl := stI_len (t := t) (s := s) (e := e)
  rw [r_stepOf hlt, ev_I, isW_v58, iw 15 (wk_all 15 (by decide)), ev_I, it_p0]
  generalize sF (sF A 9 (nI s)) 8 (nI e) = A1 at *
  have m10 : A1.1 10 = nI (y_P V) := L2.2.2.2.2.2.2.2.2.2.1
  have m11 : A1.1 11 = nI (y_M V) := L2.2.2.2.2.2.2.2.2.2.2.1
  have m12 : A1.1 12 = nI (y_D V) := L2.2.2.2.2.2.2.2.2.2.2.2.1
  have n12 : (sF B 3 (nI e)).1 12 = nI (y_P V) := L2.2.2.2.2.2.2.2.2.2.2.2.2.1
  have n13 : (sF B 3 (nI e)).1 13 = nI (y_M V) := L2.2.2.2.2.2.2.2.2.2.2.2.2.2.1
  have n14 : (sF B 3 (nI e)).1 14 = nI (y_D V) := L2.2.2.2.2.2.2.2.2.2.2.2.2.2.2
  have hWs := L1.2.2.2.2.2.2.2.2.1
  by_cases w15 : wq 15 t s e = true
  · have qs : stI t s e = 0 := by unfold stI; rw [if_pos w15]
    have hl3 := sl (by rw [qs]; decide)
    obtain ⟨v, T1, x1, x2⟩ := num_fr (lo := 0) L2.2.1 L2.2.2.1 (HI.sub (h := y_M V) (by omega)) (by omega) (by omega)
    have hq := q_two (L := L) (dd := de) (rcR := rcR) (i0 := s) hl3 L2 hn (by omega) (h1 := y_M V) (h2 := y_P V) (k := 0) (by omega) (by omega) (fun a b ha hb => Or.inl ⟨rfl, ha, hb⟩) (by omega)
    rw [show fR_readNumber 0 (nI (y_M V) - 1) (sF B 3 (nI e)) = _ from x1, ev_I] at hq
    rw [if_pos w15, aft_g b01_nums, m10, m11, qs, if_neg (by decide), if_neg (by decide), eP, ev_V, if_neg (by decide), if_neg (by decide), fR_readStep_153, n13, show fR_readNumber 0 (nI (y_M V) - 1) (sF B 3 (nI e)) = _ from x1, ev_I, fR_readStep_158, if_neg (by decide), x2.1 12 (by decide), n12]
    exact hq.pre gA gB (Nat.le_refl _)
  · rw [if_neg w15, isW_v59, iw 16 (wk_all 16 (by decide)), ev_I, it_p0]
    by_cases w16 : wq 16 t s e = true
    · have qs : stI t s e = 1 := by unfold stI; rw [if_neg w15, if_pos w16]
      have hl3 := sl (by rw [qs]; decide)
      obtain ⟨v, T1, x1, x2⟩ := num_fr (lo := 0) L2.2.1 L2.2.2.1 (HI.sub (h := y_M V) (by omega)) (by omega) (by omega)
      have hq := q_two (L := L) (dd := de) (rcR := rcR) (i0 := s) hl3 L2 hn (by omega) (h1 := y_M V) (h2 := y_P V) (k := 1) (by omega) (by omega) (fun a b ha hb => Or.inr (Or.inl ⟨rfl, ha, hb⟩)) (by omega)
      rw [show fR_readNumber 0 (nI (y_M V) - 1) (sF B 3 (nI e)) = _ from x1, ev_I] at hq
      rw [if_pos w16, aft_g b01_nums, m10, m11, qs, if_neg (by decide), if_neg (by decide), eP, ev_V, if_neg (by decide), if_neg (by decide), fR_readStep_153, n13, show fR_readNumber 0 (nI (y_M V) - 1) (sF B 3 (nI e)) = _ from x1, ev_I, fR_readStep_158, if_neg (by decide), x2.1 12 (by decide), n12]
      exact hq.pre gA gB (Nat.le_refl _)
    · rw [if_neg w16, isW_v60, iw 17 (wk_all 17 (by decide)), ev_I, it_p0]
      by_cases w17 : wq 17 t s e = true
      · have qs : stI t s e = 2 := by unfold stI; rw [if_neg w15, if_neg w16, if_pos w17]
        have hl3 := sl (by rw [qs]; decide)
        obtain ⟨v, T1, x1, x2⟩ := num_fr (lo := 0) L2.2.1 L2.2.2.1 (HI.sub (h := y_D V) (by omega)) (by omega) (by omega)
        have hq := q_say (L := L) (dd := de) (rcR := rcR) (i0 := s) hl3 L2 hn (by omega) (h1 := y_D V) (by omega) (fun a ha => Or.inr (Or.inr (Or.inl ⟨rfl, ha, rfl⟩)))
        rw [show fR_readNumber 0 (nI (y_D V) - 1) (sF B 3 (nI e)) = _ from x1, ev_I] at hq
        rw [if_pos w17, m12, qs, if_neg (by decide), if_neg (by decide), eP, ev_V, if_neg (by decide), if_pos (by decide), fR_readStep_153, n14, show fR_readNumber 0 (nI (y_D V) - 1) (sF B 3 (nI e)) = _ from x1, ev_I, fR_readStep_158, if_pos (by decide), if_neg (by decide)]
        exact hq.pre gA gB (Nat.le_refl _)
      · rw [if_neg w17, isW_v61, iw 18 (wk_all 18 (by decide)), ev_I, it_p0]
        by_cases w18 : wq 18 t s e = true
        · have qs : stI t s e = 3 := by unfold stI; rw [if_neg w15, if_neg w16, if_neg w17, if_pos w18]
          have hl3 := sl (by rw [qs]; decide)
          obtain ⟨v, T1, x1, x2⟩ := num_fr (lo := 0) L2.2.1 L2.2.2.1 (HI.sub (h := y_D V) (by omega)) (by omega) (by omega)
          have hq := q_two (L := L) (dd := de) (rcR := rcR) (i0 := s) hl3 L2 hn (by omega) (h1 := y_D V) (h2 := y_M V) (k := 3) (by omega) (by omega) (fun a b ha hb => Or.inr (Or.inr (Or.inr (Or.inl ⟨rfl, ha, hb⟩)))) (by omega)
          rw [show fR_readNumber 0 (nI (y_D V) - 1) (sF B 3 (nI e)) = _ from x1, ev_I] at hq
          rw [if_pos w18, aft_g b01_nums, m11, m12, qs, if_neg (by decide), if_neg (by decide), eP, ev_V, if_neg (by decide), if_pos (by decide), fR_readStep_153, n14, show fR_readNumber 0 (nI (y_D V) - 1) (sF B 3 (nI e)) = _ from x1, ev_I, fR_readStep_158, if_pos (by decide), if_pos rfl, x2.1 13 (by decide), n13]
          exact hq.pre gA gB (Nat.le_refl _)
        · rw [if_neg w18, isW_v62, iw 19 (wk_all 19 (by decide)), ev_I, it_p0]
          by_cases w19 : wq 19 t s e = true
          · have qs : stI t s e = 4 := by unfold stI; rw [if_neg w15, if_neg w16, if_neg w17, if_neg w18, if_pos w19]
            have hl3 := sl (by rw [qs]; decide)
            have hl4 : s + 4 ≤ e := by
              have := (of_decide_eq_true w19).1
              rw [show skN 19 = 4 by decide] at this
              omega
            have hq := q_week (L := L) (dd := de) (rcR := rcR) (i0 := s) hl3 L2 hn (by omega)
            rw [if_pos w19, aft_g b01_put, qs, if_neg (by decide), if_neg (by decide), eP, ev_V, if_pos rfl, fR_readStep_158, if_pos (by decide), if_neg (by decide)]
            exact hq.pre gA gB (Nat.le_refl _)
          · rw [if_neg w19, isW_v63, iw 20 (wk_all 20 (by decide)), ev_I, it_p0]
            by_cases w20 : wq 20 t s e = true
            · have qs : stI t s e = 5 := by unfold stI; rw [if_neg w15, if_neg w16, if_neg w17, if_neg w18, if_neg w19, if_pos w20]
              have hl3 := sl (by rw [qs]; decide)
              have hl5 : s + 5 = e := by
                have := (of_decide_eq_true w20).1
                rw [show skN 20 = 5 by decide] at this
                omega
              rw [if_pos w20, it_ltL (by omega) (by omega), qs, if_neg (show ¬ (5 : Int32) = -1 by decide), if_pos (show (5 : Int32) = 5 from rfl)]
              by_cases q6 : d < 6
              · obtain ⟨dd, hdd, hql⟩ := hrc q6
                have eo := r_open_ok (len := 5) g4 L1.2.2.2.1 q6 hB.2.1
                rw [hl5] at eo
                have L3 := L2.dep (p := d + 1) (v := nI (d + 1)) rfl
                have hq := (q_again (rcC := rcC) (rcR := rcR) (i0 := s) hl3 q6 hql L3 hn (by omega)).mono hdd
                rw [if_pos q6, aft_g b01_again, show fR_opensOne 5 B = _ from eo, ev_V]
                exact hq.pre gA (gB.F (by simp)) (Nat.le_refl _)
              · have e6 : d = 6 := by omega
                have h6 : B.1 6 = nI 6 := by rw [L1.2.2.2.1, e6]
                have hsn : s ≤ 150 := by omega
                have eo := r_open_no (len := 5) g4 h6 (s := s) (by omega) hB.2.1
                have b4 : (sF (sF (sF B 4 (nI s)) 5 3) 6 (nI 7)).1 4 = nI s := rfl
                rw [if_neg q6, c_refuseW, f9, show fR_opensOne 5 B = _ from eo, ev_V, r_num_bad _ _ (p := s) (by omega) b4, ev_I, r_sign_bad _ (p := s) (by omega) b4, ev_V, ev_nx, r_tells_bad _ _ _ (q := s) (by omega) b4, ev_V, r_61_bad _ (q := s) (by omega) b4]
                exact Or.inr ⟨s, 3, _, _, rfl, rfl, by omega, rfl, rfl, rfl, rfl, ((gA.wide (by simp) (by simp)).F (by simp)).F (by simp), (((frm.rf.F (by simp)).F (by simp)).F (by simp)).F (by simp)⟩
            · have qs : stI t s e = -1 := by unfold stI; rw [if_neg w15, if_neg w16, if_neg w17, if_neg w18, if_neg w19, if_neg w20]
              have hsn : s ≤ 150 := by omega
              have b4 : (sF (sF B 4 (nI s)) 5 1).1 4 = nI s := rfl
              rw [if_neg w20, c_refuseW, f9, qs, if_pos rfl, hB.2.1, r_wrong1 _ _ g4, ev_V, r_204_bad (q := s) (by omega) b4]
              exact Or.inr ⟨s, 1, _, _, rfl, rfl, by omega, rfl, rfl, rfl, rfl, ((gA.wide (by simp) (by simp)).F (by simp)).F (by simp), (frm.rf.F (by simp)).F (by simp)⟩
end PVP
