/-! a work's steps, run (written by wip/whole/pure/p87.py) -/
section PVH
variable {V : Vy} {L : Lw} {w : Rw} {S T U SC SR : St} {i j p q k s d b B D D' dd e : Nat}
def SOK (V : Vy) (s : Nat × Nat × Nat) : Prop := (s.1 = 0 ∧ s.2.1 < y_M V ∧ s.2.2 < y_P V) ∨ (s.1 = 1 ∧ s.2.1 < y_M V ∧ s.2.2 < y_P V) ∨ (s.1 = 2 ∧ s.2.1 < y_D V ∧ s.2.2 = 0) ∨ (s.1 = 3 ∧ s.2.1 < y_D V ∧ s.2.2 < y_M V) ∨ (s.1 = 4 ∧ s.2.1 = 0 ∧ s.2.2 = 0)
def SC3 (f g h : Nat → Int32) (j : Nat) : List (Nat × Nat × Nat) → Prop
  | [] => True
  | s :: l => (f j = nI s.1 ∧ g j = nI s.2.1 ∧ h j = nI s.2.2) ∧ SC3 f g h (j + 1) l
def SR3 (f : Nat → Int32) (j : Nat) : List (Nat × Nat × Nat) → Prop
  | [] => True
  | s :: l => (f (3 * j) = nI s.1 ∧ f (3 * j + 1) = nI s.2.1 ∧ f (3 * j + 2) = nI (if s.1 = 5 then 3 * s.2.2 else s.2.2)) ∧ SR3 f (j + 1) l
def WS (V : Vy) (L : Lw) (w : Rw) (B : Nat) (SC SR : St) : Prop := CV V SC ∧ CLw L SC ∧ RC V al w (SC.2.1 46) ∧ w_t w ≤ 400 ∧ RV V SR ∧ RLw L SR ∧ RR V al w (SR.2.1 18) ∧ SC.1 23 = nI B ∧ SR.1 21 = nI B ∧ B ≤ 200 ∧ SC.1 24 = SR.1 22 ∧ SC.1 25 = SR.1 23
theorem w_slip_t (w : Rw) (a p : Nat) : w_t (w_slip w a p) = w_t w := rfl
theorem w_forget_t (w : Rw) (a p : Nat) : w_t (w_forget w a p) = w_t w := by unfold w_forget; split <;> rfl
theorem w_duet_t (V : Vy) (w : Rw) (a p : Nat) : w_t (w_duet V w a p) = w_t w := by
  unfold w_duet
  split
  · rfl
  · split <;> rfl
theorem isB_01 (c : Prop) [Decidable c] : isB (if c then (0 : Int32) else 1) = true := by
  by_cases h : c
  · rw [if_pos h]; decide
  · rw [if_neg h]; decide
theorem one_step {s : Nat × Nat × Nat} (hs : SOK V s) (h : WS V L w B SC SR) (hj : j < 64) (h1 : SC.2.1 43 j = nI s.1) (h2 : SC.2.1 44 j = nI s.2.1) (h3 : SC.2.1 45 j = nI s.2.2) :
    ∃ (r : Int32) (w2 : Rw) (T U : St), fC_Work_doStep (nI j) SC = some (rI r, T) ∧ fR_isDone (nI s.1) (nI s.2.1) (nI s.2.2) SR = some (rI r, U) ∧ frm [] [32, 33, 46] SC T ∧ frm [] [13, 14, 18] SR U ∧ RC V al w2 (T.2.1 46) ∧ RR V al w2 (U.2.1 18) ∧ w_t w2 ≤ 400 := by
  obtain ⟨c1, c2, c3, c4, r1, r2, r3, -⟩ := h
  have o2 := c1.ok.2.1
  obtain ⟨k, a, b⟩ := s
  dsimp only at h1 h2 h3 ⊢
  have eD : ∀ o : Oz, (if nI k = 0 then (obI (fC_State_teach_9 (nI a) (nI b) SC) fun r5 T4 => (gd (isB r5) (some (rI r5, T4)))) else if nI k = 1 then (obI (fC_State_letGo_9 (nI a) (nI b) SC) fun r7 T6 => (gd (isB r7) (some (rI r7, T6)))) else if nI k = 2 then (obI (fC_State_sayAlone_9 (nI a) SC) fun r9 T8 => (gd (isB r9) (some (rI r9, T8)))) else if nI k = 3 then (obI (fC_State_sayWith_9 (nI a) (nI b) SC) fun r11 T10 => (gd (isB r11) (some (rI r11, T10)))) else (obI (fC_State_endWeekOfWork_9 SC) fun r13 T12 => (gd (isB r13) (some (rI r13, T12))))) = o → fC_Work_doStep (nI j) SC = o := fun o ho => by
    rw [fC_Work_doStep, pz_gib hj (by omega), pz_rA (by omega), h2, ev_nx, pz_gib hj (by omega), pz_rA (by omega), h3, ev_nx, pz_gib hj (by omega), pz_rA (by omega), h1, ev_nx]
    exact ho
  rcases hs with ⟨e, q1, q2⟩ | ⟨e, q1, q2⟩ | ⟨e, q1, q2⟩ | ⟨e, q1, q2⟩ | ⟨e, q1, q2⟩
  · have e : k = 0 := e
    subst e
    obtain ⟨T, e1, g1, k1⟩ := e_teach_9 c1 c2 c3 trivial q1 q2
    obtain ⟨U, e2, g2, k2⟩ := r_isTaught r1 r2 r3 trivial q1 q2
    refine ⟨if w_gain V L w a b = 0 then 0 else 1, w_teach V L w a b, T, U, eD _ ?_, ?_, g1, g2, k1, k2, by rw [w_teach_t]; exact c4⟩
    · rw [if_pos (show nI 0 = 0 from rfl)]
      rw [show fC_State_teach_9 (nI a) (nI b) SC = _ from e1, ev_I, gdT (isB_01 _)]
    · rw [fR_isDone, if_pos (show nI 0 = 0 from rfl)]
      rw [show fR_isTaught (nI a) (nI b) SR = _ from e2, ev_I, gdT (isB_01 _)]
  · have e : k = 1 := e
    subst e
    obtain ⟨T, e1, g1, k1⟩ := e_letGo_9 c1 c3 trivial q1 q2
    obtain ⟨U, e2, g2, k2⟩ := r_isForgotten r1 r3 trivial q1 q2
    refine ⟨if w_K w a b = 0 then 0 else 1, w_forget w a b, T, U, eD _ ?_, ?_, g1, g2, k1, k2, by rw [w_forget_t]; exact c4⟩
    · rw [if_neg (by decide), if_pos (by decide)]
      rw [show fC_State_letGo_9 (nI a) (nI b) SC = _ from e1, ev_I, gdT (isB_01 _)]
    · rw [fR_isDone, if_neg (by decide), if_pos (by decide)]
      rw [show fR_isForgotten (nI a) (nI b) SR = _ from e2, ev_I, gdT (isB_01 _)]
  · have e : k = 2 := e
    subst e
    obtain ⟨T, e1, g1, k1⟩ := e_sayAlone_9 c1 c3 q1 trivial
    obtain ⟨U, e2, g2, k2⟩ := r_isSaid r1 r3 q1 trivial
    refine ⟨if w_p w a then 0 else 1, w_say V w a, T, U, eD _ ?_, ?_, g1.wide (by simp) (by simp), g2.wide (by simp) (by simp), k1, k2, by rw [w_say_t]; exact c4⟩
    · rw [if_neg (by decide), if_neg (by decide), if_pos (by decide)]
      rw [show fC_State_sayAlone_9 (nI a) SC = _ from e1, ev_I]
      cases w_p w a <;> rw [gdT (by decide)]
    · rw [fR_isDone, if_neg (by decide), if_neg (by decide), if_pos (by decide)]
      rw [show fR_isSaid (nI a) SR = _ from e2, ev_I]
      cases w_p w a <;> rw [gdT (by decide)]
  · have e : k = 3 := e
    subst e
    obtain ⟨T, e1, g1, k1⟩ := e_sayWith_9 c1 c3 q1 trivial trivial q2
    obtain ⟨U, e2, g2, k2⟩ := r_isSung r1 r3 q1 trivial trivial q2
    refine ⟨if w_p w a || decide (b = y_dm V a) then 0 else 1, w_duet V w a b, T, U, eD _ ?_, ?_, g1.wide (by simp) (by simp), g2.wide (by simp) (by simp), k1, k2, by rw [w_duet_t]; exact c4⟩
    · rw [if_neg (by decide), if_neg (by decide), if_neg (by decide), if_pos (by decide)]
      rw [show fC_State_sayWith_9 (nI a) (nI b) SC = _ from e1, ev_I]
      cases (w_p w a || decide (b = y_dm V a)) <;> rw [gdT (by decide)]
    · rw [fR_isDone, if_neg (by decide), if_neg (by decide), if_neg (by decide), if_pos (by decide)]
      rw [show fR_isSung (nI a) (nI b) SR = _ from e2, ev_I]
      cases (w_p w a || decide (b = y_dm V a)) <;> rw [gdT (by decide)]
  · have e : k = 4 := e
    subst e
    have t1 : rA SC 46 73 = nI (w_t w) := by rw [show (73 : Int32) = nI 73 from rfl, pz_rA (by omega)]; exact c3.2.2.2.1
    have t2 : rA SR 18 94 = nI (w_t w) := by rw [show (94 : Int32) = nI 94 from rfl, pz_rA (by omega)]; exact r3.2.2.2.1
    by_cases q : w_t w < 400
    · obtain ⟨T, e1, g1, k1⟩ := e_endWeek_9 (x := 0) (y := y_M V) c1 c3 (by omega) (fun _ _ _ => trivial) (fun a _ ha => ⟨Nat.zero_le _, ha⟩) (Nat.zero_le _) (Nat.le_refl _)
      obtain ⟨U, e2, g2, k2⟩ := r_passes r1 r3 (by omega) (fun _ => trivial)
      refine ⟨1, w_week V w, T, U, eD _ ?_, ?_, g1.wide (by simp) (by simp), g2.wide (by simp) (by simp), k1, k2, by rw [w_week_t]; omega⟩
      · rw [if_neg (by decide), if_neg (by decide), if_neg (by decide), if_neg (by decide), fC_State_endWeekOfWork_9, t1, it_ltL (by omega) (by omega), if_pos q, c1.2.1]
        rw [show fC_State_endWeek_9 0 (nI (y_M V)) SC = _ from e1, ev_V, ev_I, gdT (by decide)]
      · rw [fR_isDone, if_neg (by decide), if_neg (by decide), if_neg (by decide), if_neg (by decide), t2, it_ltL (by omega) (by omega), if_pos q, e2, ev_V]
    · refine ⟨0, w, SC, SR, eD _ ?_, ?_, frm.rf, frm.rf, c3, r3, c4⟩
      · rw [if_neg (by decide), if_neg (by decide), if_neg (by decide), if_neg (by decide), fC_State_endWeekOfWork_9, t1, it_ltL (by omega) (by omega), if_neg q, ev_I, gdT (by decide)]
      · rw [fR_isDone, if_neg (by decide), if_neg (by decide), if_neg (by decide), if_neg (by decide), t2, it_ltL (by omega) (by omega), if_neg q]
theorem WS.fr {w2 : Rw} {B2 : Nat} (h : WS V L w B SC SR) (g : frm [23, 24, 25] [32, 33, 46] SC T) (g2 : frm [21, 22, 23] [13, 14, 18] SR U) (k1 : RC V al w2 (T.2.1 46)) (k2 : RR V al w2 (U.2.1 18)) (ht : w_t w2 ≤ 400) (hb : T.1 23 = nI B2) (hb2 : U.1 21 = nI B2) (hB : B2 ≤ 200) (hd : T.1 24 = U.1 22) (hr : T.1 25 = U.1 23) : WS V L w2 B2 T U := by
  obtain ⟨c1, c2, c3, c4, r1, r2, r3, -⟩ := h
  exact ⟨c1.fr g (by decide) (by decide), c2.fr g (by decide) (by decide), k1, ht, r1.fr g2 (by decide) (by decide), r2.fr g2 (by decide) (by decide), k2, hb, hb2, hB, hd, hr⟩
/-- a stretch of steps: both loops come over it -/
def Blk (V : Vy) (L : Lw) (b : Nat) (l : List (Nat × Nat × Nat)) (dd : Nat) : Prop := ∀ (D D' x4 e x5 n m : Nat) (w : Rw) (B : Nat) (SC SR : St), WS V L w B SC SR → SC3 (SC.2.1 43) (SC.2.1 44) (SC.2.1 45) b l → SR3 (SR.2.1 16) b l → dd ≤ D → dd ≤ D' → x4 + dd ≤ 6 → b + l.length ≤ e → e ≤ 50 → x5 ≤ b → l.length < m →
    ∃ (x5' m' : Nat) (w2 : Rw) (B2 : Nat) (T U : St), x5' ≤ b + l.length ∧ m ≤ m' + l.length ∧ fC_Work_doSteps_6 (fun x2 x3 x4 S => fC_Work_doSteps D x2 x3 x4 S) (n + l.length) (nI e) (nI x4) (nI x5) (nI b) SC = fC_Work_doSteps_6 (fun x2 x3 x4 S => fC_Work_doSteps D x2 x3 x4 S) n (nI e) (nI x4) (nI x5') (nI (b + l.length)) T ∧
      fR_goesSteps_2 (fun x1 x2 S => fR_goesSteps D' x1 x2 S) m (nI (3 * e)) (nI (3 * b)) SR = fR_goesSteps_2 (fun x1 x2 S => fR_goesSteps D' x1 x2 S) m' (nI (3 * e)) (nI (3 * (b + l.length))) U ∧ frm [23, 24, 25] [32, 33, 46] SC T ∧ frm [21, 22, 23] [13, 14, 18] SR U ∧ WS V L w2 B2 T U
theorem g2_stop {rc : Int32 → Int32 → St → Oz} {m : Nat} (x2 x3 : Int32) (h : 200 ≤ S.1 21) : fR_goesSteps_2 rc (m + 1) x2 x3 S = some (rV, S) := by
  rw [fR_goesSteps_2]
  by_cases q : x2 ≤ x3
  · rw [if_pos q]
  · rw [if_neg q, if_pos h]
theorem blk_nil : Blk V L b [] 0 := by
  intro D D' x4 e x5 n m w B SC SR h _ _ _ _ _ _ _ h5 hm
  exact ⟨x5, m, w, B, SC, SR, h5, Nat.le_refl _, rfl, rfl, frm.rf, frm.rf, h⟩
theorem SC3.app {f g h : Nat → Int32} : ∀ {l m : List (Nat × Nat × Nat)} {j : Nat}, SC3 f g h j (l ++ m) ↔ SC3 f g h j l ∧ SC3 f g h (j + l.length) m
  | [], m, j => ⟨fun z => ⟨trivial, z⟩, fun z => z.2⟩
  | s :: l, m, j => by
    have e : j + (s :: l).length = (j + 1) + l.length := by rw [List.length_cons]; omega
    rw [e]
    constructor
    · intro z
      have h2 := SC3.app.mp z.2
      exact ⟨⟨z.1, h2.1⟩, h2.2⟩
    · intro z
      exact ⟨z.1.1, SC3.app.mpr ⟨z.1.2, z.2⟩⟩
theorem SR3.app {f : Nat → Int32} : ∀ {l m : List (Nat × Nat × Nat)} {j : Nat}, SR3 f j (l ++ m) ↔ SR3 f j l ∧ SR3 f (j + l.length) m
  | [], m, j => ⟨fun z => ⟨trivial, z⟩, fun z => z.2⟩
  | s :: l, m, j => by
    have e : j + (s :: l).length = (j + 1) + l.length := by rw [List.length_cons]; omega
    rw [e]
    constructor
    · intro z
      have h2 := SR3.app.mp z.2
      exact ⟨⟨z.1, h2.1⟩, h2.2⟩
    · intro z
      exact ⟨z.1.1, SR3.app.mpr ⟨z.1.2, z.2⟩⟩
theorem blk_app {l1 l2 : List (Nat × Nat × Nat)} {d1 d2 : Nat} (h1 : Blk V L b l1 d1) (h2 : Blk V L (b + l1.length) l2 d2) (hd1 : d1 ≤ dd) (hd2 : d2 ≤ dd) : Blk V L b (l1 ++ l2) dd := by
  intro D D' x4 e x5 n m w B SC SR h a1 a2 hD hD' hx he he2 h5 hm
  rw [List.length_append] at he hm ⊢
  obtain ⟨a3, a4⟩ := SC3.app.mp a1
  obtain ⟨a5, a6⟩ := SR3.app.mp a2
  obtain ⟨x, m1, w1, B1, T, U, k1, k2, e1, e2, g1, g2, h3⟩ := h1 D D' x4 e x5 (n + l2.length) m w B SC SR h a3 a5 (by omega) (by omega) (by omega) (by omega) he2 h5 (by omega)
  obtain ⟨x', m2, w2, B2, T2, U2, k3, k4, e3, e4, g3, g4, h4⟩ := h2 D D' x4 e x n m1 w1 B1 T U h3 (by rw [g1.2.1 43 (by decide), g1.2.1 44 (by decide), g1.2.1 45 (by decide)]; exact a4) (by rw [g2.2.1 16 (by decide)]; exact a6) (by omega) (by omega) (by omega) (by omega) he2 k1 (by omega)
  refine ⟨x', m2, w2, B2, T2, U2, by omega, by omega, ?_, ?_, g1.tr g3, g2.tr g4, h4⟩
  · rw [show n + (l1.length + l2.length) = n + l2.length + l1.length by omega, e1, e3, Nat.add_assoc]
  · rw [e2, e4, Nat.add_assoc]
theorem blk_one {s : Nat × Nat × Nat} (hs : SOK V s) : Blk V L b [s] 0 := by
  intro D D' x4 e x5 n m w B SC SR h a1 a2 hD hD' hx he he2 h5 hm
  obtain ⟨⟨f1, f2, f3⟩, -⟩ := a1
  obtain ⟨⟨g1, g2, g3⟩, -⟩ := a2
  have he' : b + 1 ≤ e := he
  have hm' : 1 < m := hm
  obtain ⟨m, rfl⟩ : ∃ z, m = z + 1 := ⟨m - 1, by omega⟩
  have h' := h
  obtain ⟨-, -, -, -, -, -, -, b1, b2, b3, b4, b5⟩ := h'
  show ∃ (x5' m' : Nat) (w2 : Rw) (B2 : Nat) (T U : St), x5' ≤ b + 1 ∧ m + 1 ≤ m' + 1 ∧ fC_Work_doSteps_6 _ (n + 1) (nI e) (nI x4) (nI x5) (nI b) SC = fC_Work_doSteps_6 _ n (nI e) (nI x4) (nI x5') (nI (b + 1)) T ∧ fR_goesSteps_2 _ (m + 1) (nI (3 * e)) (nI (3 * b)) SR = fR_goesSteps_2 _ m' (nI (3 * e)) (nI (3 * (b + 1))) U ∧ _
  rw [fC_Work_doSteps_6, if_neg (nI_ge (by omega) (by omega)), if_neg (nI_nlt (by omega) (by omega)), b1, it_ltL (by omega) (by omega)]
  by_cases q : 200 ≤ B
  · have hb : (200 : Int32) ≤ SR.1 21 := by rw [b2]; exact nI_le (a := 200) q (by omega)
    obtain ⟨m, rfl⟩ : ∃ z, m = z + 1 := ⟨m - 1, by omega⟩
    rw [if_neg (Nat.not_lt.mpr q), nI_1]
    exact ⟨x5, m + 1, w, B, SC, SR, by omega, Nat.le_refl _, rfl, by rw [g2_stop _ _ hb, g2_stop _ _ hb], frm.rf, frm.rf, h⟩
  · have hb : ¬ (200 : Int32) ≤ SR.1 21 := by rw [b2]; exact nI_ge (b := 200) (by omega) (by omega)
    have hk5 : s.1 < 5 := by rcases hs with ⟨z, _⟩ | ⟨z, _⟩ | ⟨z, _⟩ | ⟨z, _⟩ | ⟨z, _⟩ <;> omega
    have gC0 : frm [23, 24, 25] [32, 33, 46] SC (sF SC 23 (nI (B + 1))) := frm.rf.F (by simp)
    have gR0 : frm [21, 22, 23] [13, 14, 18] SR (sF SR 21 (nI (B + 1))) := frm.rf.F (by simp)
    have h0 : WS V L w (B + 1) (sF SC 23 (nI (B + 1))) (sF SR 21 (nI (B + 1))) := h.fr gC0 gR0 h.2.2.1 h.2.2.2.2.2.2.1 h.2.2.2.1 rfl rfl (by omega) b4 b5
    obtain ⟨r, w2, T, U, e1, e2, k1, k2, k3, k4, k5⟩ := one_step (j := b) hs h0 (by omega) f1 f2 f3
    have f1' : rA (sF SC 23 (nI (B + 1))) 43 (nI b) = nI s.1 := by rw [pz_rA (by omega)]; exact f1
    have g1' : rA (sF SR 21 (nI (B + 1))) 16 (nI (3 * b)) = nI s.1 := by rw [pz_rA (by omega)]; exact g1
    have g2' : rA (sF SR 21 (nI (B + 1))) 16 (nI (3 * b + 1)) = nI s.2.1 := by rw [pz_rA (by omega)]; exact g2
    have g3' : rA (sF SR 21 (nI (B + 1))) 16 (nI (3 * b + 2)) = nI s.2.2 := by rw [pz_rA (by omega), if_neg (by omega)] at *; exact g3
    have eR : fR_goesSteps_2 (fun x1 x2 S => fR_goesSteps D' x1 x2 S) (m + 1) (nI (3 * e)) (nI (3 * b)) SR = if r = 0 then fR_goesSteps_2 (fun x1 x2 S => fR_goesSteps D' x1 x2 S) m (nI (3 * e)) (nI (3 * b + 3)) (sF U 23 (U.1 23 + 1)) else fR_goesSteps_2 (fun x1 x2 S => fR_goesSteps D' x1 x2 S) m (nI (3 * e)) (nI (3 * b + 3)) (sF U 22 (U.1 22 + 1)) := by
      rw [fR_goesSteps_2, if_neg (nI_ge (by omega) (by omega)), if_neg hb, b2, nI_1 B, ev_nx, pz_gib (by omega) (by omega), g1', it_eqL (by omega) (by omega), if_neg (by omega), nI_1 (3 * b), show (2 : Int32) = nI 2 from rfl, nI_add, pz_gib (by omega) (by omega), pz_gib (by omega) (by omega), pz_gib (by omega) (by omega), g2', g3', e2, ev_I, show (3 : Int32) = nI 3 from rfl, nI_add (3 * b) 3, ev_nx, ev_nx]
    rw [eR, if_pos (Nat.lt_of_not_le q), nI_1 B, ev_nx, pz_gib (by omega) (by omega), f1', it_eqL (by omega) (by omega), if_neg (by omega), e1, ev_I, nI_1 b]
    have kC := gC0.tr (k1.wide (fs' := [23, 24, 25]) (as' := [32, 33, 46]) (by simp) (by simp))
    have kR := gR0.tr (k2.wide (fs' := [21, 22, 23]) (as' := [13, 14, 18]) (by simp) (by simp))
    by_cases q0 : r = 0
    · rw [if_pos q0, if_pos q0, ev_nx]
      refine ⟨x5, m, w2, B + 1, _, _, by omega, Nat.le_refl _, rfl, by rw [show 3 * (b + 1) = 3 * b + 3 by omega], kC.F (by simp), kR.F (by simp), h.fr (kC.F (by simp)) (kR.F (by simp)) k3 k4 k5 ?_ ?_ (by omega) ?_ ?_⟩
      · exact k1.1 23 (by simp)
      · exact k2.1 21 (by simp)
      · show T.1 24 = U.1 22
        rw [k1.1 24 (by simp), k2.1 22 (by simp)]
        exact b4
      · show T.1 25 + 1 = U.1 23 + 1
        rw [k1.1 25 (by simp), k2.1 23 (by simp)]
        show SC.1 25 + 1 = SR.1 23 + 1
        rw [b5]
    · rw [if_neg q0, if_neg q0, ev_nx]
      refine ⟨x5, m, w2, B + 1, _, _, by omega, Nat.le_refl _, rfl, by rw [show 3 * (b + 1) = 3 * b + 3 by omega], kC.F (by simp), kR.F (by simp), h.fr (kC.F (by simp)) (kR.F (by simp)) k3 k4 k5 ?_ ?_ (by omega) ?_ ?_⟩
      · exact k1.1 23 (by simp)
      · exact k2.1 21 (by simp)
      · show T.1 24 + 1 = U.1 22 + 1
        rw [k1.1 24 (by simp), k2.1 22 (by simp)]
        show SC.1 24 + 1 = SR.1 22 + 1
        rw [b4]
      · show T.1 25 = U.1 23
        rw [k1.1 25 (by simp), k2.1 23 (by simp)]
        exact b5
end PVH
