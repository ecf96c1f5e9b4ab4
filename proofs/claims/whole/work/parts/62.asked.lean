/-! what men know and would learn; weeks ahead; lessons (written by wip/whole/pure/p62.py) -/
section PL
variable {SC SR S T U : St} {f u : Oz} {X : Nat → St → Oz} {b c x : Int32} {V : Vy} {A : Nat → Prop} {w : Rw} {L : Lw} {a p k : Nat}
theorem w_teach_t (V : Vy) (L : Lw) (w : Rw) (a p : Nat) : w_t (w_teach V L w a p) = w_t w := by
  unfold w_teach
  split <;> rfl
theorem CLw.fr0 (h : CLw L S) {as : List Nat} (g : frm [] as S T) (h2 : 31 ∉ as) : CLw L T := h.fr g (by simp) h2
theorem CV.fr0 (h : CV V S) {as : List Nat} (g : frm [] as S T) (h2 : 15 ∉ as ∧ 16 ∉ as ∧ 17 ∉ as ∧ 18 ∉ as ∧ 19 ∉ as ∧ 20 ∉ as ∧ 21 ∉ as ∧ 22 ∉ as) : CV V T := h.fr g (by simp) h2
theorem RV.fr0 (h : RV V S) {as : List Nat} (g : frm [] as S T) (h2 : 6 ∉ as ∧ 7 ∉ as ∧ 8 ∉ as) : RV V T := h.fr g (by simp) h2
theorem RLw.fr0 (h : RLw L S) {as : List Nat} (g : frm [] as S T) (h2 : 11 ∉ as ∧ 12 ∉ as) : RLw L T := h.fr g (by simp) h2
theorem e_copy13 (hV : VOK V) (hr : RC V A w (S.2.1 46)) : ∃ T, fC_State_copyFrom_13 S = some (rV, T) ∧ frm [] [52] S T ∧ RC V A w (T.2.1 52) := by
  rw [fC_State_copyFrom_13, gdT (by decide), ev_nx]
  refine ⟨_, rfl, frm.rf.C (by simp), ?_⟩
  rw [tC_21, if_pos rfl]
  refine hr.ptw hV (fun j hj => ?_)
  rw [show (0 : Int32).toNatClampNeg = 0 from rfl, show (74 : Int32).toNatClampNeg = 74 from rfl, pk_cpy_in (Nat.zero_le _) (by omega)]
  simp
/-- n weeks on -/
def w_wk (V : Vy) (w : Rw) : Nat → Rw
  | 0 => w
  | n + 1 => w_week V (w_wk V w n)
theorem w_wk_t (V : Vy) (w : Rw) : ∀ n, w_t (w_wk V w n) = w_t w + n := by
  intro n
  induction n with
  | zero => rfl
  | succ n ih => rw [w_wk, w_week_t, ih]; omega
theorem e_afterWeeks_13 (hA : ∀ a, A a) (ht : w_t w ≤ 400) {N : Nat} (hN : N ≤ 99) : ∀ k n i (S : St), i + k = N → k < n → CV V S → RC V A (w_wk V w i) (S.2.1 52) →
    ∃ T, fC_Outlook_afterWeeks_13 n (nI N) (nI i) S = some (rR 13, T) ∧ frm [] [52] S T ∧ RC V A (w_wk V w N) (T.2.1 52) := by
  intro k
  induction k with
  | zero =>
    intro n i S hi hn hv hr
    obtain ⟨n, rfl⟩ := pz_fu hn
    rw [fC_Outlook_afterWeeks_13, if_pos (nI_le (by omega) (by omega))]
    have e : i = N := by omega
    rw [e] at hr
    exact ⟨S, rfl, frm.rf, hr⟩
  | succ k ih =>
    intro n i S hi hn hv hr
    obtain ⟨n, rfl⟩ := pz_fu hn
    obtain ⟨T1, e1, g1, r1⟩ := e_endWeek_13 (x := 0) (y := y_M V) hv hr (by rw [w_wk_t]; omega) (fun a _ _ => hA a) (fun a _ h => ⟨Nat.zero_le _, h⟩) (Nat.zero_le _) (Nat.le_refl _)
    obtain ⟨T, e, g, r⟩ := ih n (i + 1) T1 (by omega) (by omega) (hv.fr0 g1 (by decide)) r1
    refine ⟨T, ?_, g1.tr g, r⟩
    rw [fC_Outlook_afterWeeks_13, if_neg (nI_ge (by omega) (by omega)), hv.2.1, show (0 : Int32) = nI 0 from rfl, e1, ev_V, nI_1, e]
theorem e_afterWeeks (hv : CV V S) (hr : RC V A w (S.2.1 46)) (hA : ∀ a, A a) (ht : w_t w ≤ 400) {N : Nat} (hN : N ≤ 99) : ∃ T, fC_Outlook_afterWeeks (nI N) S = some (rR 13, T) ∧ frm [] [52] S T ∧ RC V A (w_wk V w N) (T.2.1 52) := by
  obtain ⟨T1, e1, g1, r1⟩ := e_copy13 hv.ok hr
  obtain ⟨T, e, g, r⟩ := e_afterWeeks_13 hA ht hN N FU 0 T1 (by omega) (by rw [pz_FU]; omega) (hv.fr0 g1 (by decide)) r1
  refine ⟨T, ?_, g1.tr g, r⟩
  rw [fC_Outlook_afterWeeks, e1, ev_V, show (0 : Int32) = nI 0 from rfl, e]
/-- the row ahead of the k-th look -/
def lsr (V : Vy) (L : Lw) (w : Rw) (a p : Nat) : Nat → Rw
  | 0 => w
  | 1 => w_teach V L w a p
  | k + 2 => w_teach V L (w_week V (lsr V L w a p (k + 1))) a p
def lss (V : Vy) (L : Lw) (w : Rw) (a p : Nat) : Nat → Rw
  | 0 => w
  | 1 => w
  | k + 2 => w_week V (lsr V L w a p (k + 1))
def lesF (V : Vy) (L : Lw) (w : Rw) (a p : Nat) : Nat → Nat → Nat
  | 0, _ => 41
  | r + 1, k => if w_all V (lsr V L w a p k) p a then k else lesF V L w a p r (k + 1)
theorem lsr_t (V : Vy) (L : Lw) (w : Rw) (a p : Nat) : ∀ k, w_t (lsr V L w a p k) ≤ w_t w + k := by
  intro k
  induction k with
  | zero => exact Nat.le_refl _
  | succ k ih =>
    cases k with
    | zero => rw [lsr, w_teach_t]; omega
    | succ k => rw [lsr, w_teach_t, w_week_t]; omega
theorem lesF_le (V : Vy) (L : Lw) (w : Rw) (a p : Nat) : ∀ r k, k + r = 41 → lesF V L w a p r k ≤ 41 := by
  intro r
  induction r with
  | zero => intro k _; exact Nat.le_refl _
  | succ r ih =>
    intro k hk
    rw [lesF]
    split
    · omega
    · exact ih (k + 1) (by omega)
theorem e_lessonsFor_13 (ht : w_t w ≤ 400) (ha : a < y_M V) (hp : p < y_P V) : ∀ r k n (S : St), k + r = 41 → r < n → CV V S → CLw L S → RC V (fun b => b = a) (lsr V L w a p k) (S.2.1 52) →
    ∃ T, fC_Outlook_lessonsFor_13 n (nI a) (nI p) (nI k) S = some (rI (nI (lesF V L w a p r k)), T) ∧ frm [] [32, 33, 52] S T := by
  intro r
  induction r with
  | zero =>
    intro k n S hk hn hv hL hr
    obtain ⟨n, rfl⟩ := pz_fu hn
    have e : k = 41 := by omega
    subst e
    rw [fC_Outlook_lessonsFor_13, if_pos (by decide)]
    exact ⟨S, rfl, frm.rf⟩
  | succ r ih =>
    intro k n S hk hn hv hL hr
    have b2 := hv.ok.2.1
    obtain ⟨n, rfl⟩ := pz_fu hn
    rw [fC_Outlook_lessonsFor_13, it_Llt (by omega) (by omega), if_neg (by omega), e_knowsAll_13 hv hr rfl ha hp, ev_I, it_b0, lesF]
    cases hq : w_all V (lsr V L w a p k) p a
    · rw [if_neg pz_ft, if_neg pz_ft, it_leL (by omega) (by omega)]
      cases k with
      | zero =>
        obtain ⟨T1, e1, g1, r1⟩ := e_teach_13 hv hL hr rfl ha hp
        obtain ⟨T, e, g⟩ := ih 1 n T1 (by omega) (by omega) (hv.fr0 g1 (by decide)) (hL.fr0 g1 (by decide)) r1
        refine ⟨T, ?_, g1.tr g⟩
        rw [if_pos (Nat.le_refl 0), fC_Outlook_lessonsFor_48, e1, ev_I]
        exact e
      | succ k =>
        obtain ⟨T0, e0, g0, r0⟩ := e_endWeek_13 (x := a) (y := a + 1) hv hr (by have := lsr_t V L w a p (k + 1); omega) (fun b h1 h2 => by omega) (fun b h1 h2 => by omega) (by omega) (by omega)
        obtain ⟨T1, e1, g1, r1⟩ := e_teach_13 (hv.fr0 g0 (by decide)) (hL.fr0 g0 (by decide)) r0 rfl ha hp
        have g01 : frm [] [32, 33, 52] S T1 := (g0.wide (by simp) (by simp)).tr g1
        obtain ⟨T, e, g⟩ := ih (k + 2) n T1 (by omega) (by omega) (hv.fr0 g01 (by decide)) (hL.fr0 g01 (by decide)) r1
        refine ⟨T, ?_, g01.tr g⟩
        rw [if_neg (by omega), nI_1, e0, ev_V, fC_Outlook_lessonsFor_48, e1, ev_I, nI_1]
        exact e
    · rw [if_pos rfl, if_pos rfl]
      exact ⟨S, rfl, frm.rf⟩
theorem e_lessonsFor (hv : CV V S) (hL : CLw L S) (hr : RC V A w (S.2.1 46)) (hA : A a) (ht : w_t w ≤ 400) (ha : a < y_M V) (hp : p < y_P V) : ∃ T, fC_Outlook_lessonsFor (nI a) (nI p) S = some (rI (nI (lesF V L w a p 41 0)), T) ∧ frm [] [32, 33, 52] S T := by
  obtain ⟨T1, e1, g1, r1⟩ := e_copy13 hv.ok hr
  obtain ⟨T, e, g⟩ := e_lessonsFor_13 ht ha hp 41 0 FU T1 (by omega) (by rw [pz_FU]; omega) (hv.fr0 g1 (by decide)) (hL.fr0 g1 (by decide)) (RC.sub r1 (fun b _ e => by rw [e]; exact hA))
  refine ⟨T, ?_, (g1.wide (by simp) (by simp)).tr g⟩
  rw [fC_Outlook_lessonsFor, e1, ev_V]
  exact e
def lesI (n : Nat) : Int32 := if n = 41 then -1 else nI n
theorem r_lessonsTo_6 (ht : w_t w ≤ 400) (hA : ∀ a, A a) (ha : a < y_M V) (hp : p < y_P V) : ∀ r k n (S : St), k + r = 41 → r < n → RV V S → RLw L S → RR V A (lss V L w a p k) (S.2.1 18) →
    ∃ T, fR_lessonsTo_6 n (nI a) (nI p) (nI k) S = some (rI (lesI (lesF V L w a p r k)), T) ∧ frm [] [13, 14, 18] S T := by
  intro r
  induction r with
  | zero =>
    intro k n S hk hn hv hL hr
    obtain ⟨n, rfl⟩ := pz_fu hn
    have e : k = 41 := by omega
    subst e
    rw [fR_lessonsTo_6, if_pos (by decide)]
    exact ⟨S, rfl, frm.rf⟩
  | succ r ih =>
    intro k n S hk hn hv hL hr
    have b1 := hv.ok.1
    have b2 := hv.ok.2.1
    have b4 := hv.ok.l hp
    obtain ⟨n, rfl⟩ := pz_fu hn
    rw [fR_lessonsTo_6, it_Llt (by omega) (by omega), if_neg (by omega), it_leL (by omega) (by omega)]
    have key : ∀ S1, frm [] [13, 14, 18] S S1 → RR V A (lsr V L w a p k) (S1.2.1 18) → ∃ T, fR_lessonsTo_23 (fun x1 x2 x3 S => fR_lessonsTo_6 n x1 x2 x3 S) (nI a) (nI p) (nI k) S1 = some (rI (lesI (lesF V L w a p (r + 1) k)), T) ∧ frm [] [13, 14, 18] S T := by
      intro S1 g1 r1
      have hv1 := hv.fr0 g1 (by decide)
      have hL1 := hL.fr0 g1 (by decide)
      have b5 := r1.ok.1 a ha p hp
      rw [fR_lessonsTo_23, r_knownOf hv1.ok r1 (hA a) ha hp, ev_I, r_i2, pz_gib (by omega) (by omega), pz_rA (by omega), (hv1.2.2.2.2.1 p hp).1, it_eq (by omega) (by omega), lesF, w_all]
      by_cases q : w_K (lsr V L w a p k) a p = y_l V p
      · rw [if_pos q, decide_eq_true (by omega), if_pos rfl, lesI, if_neg (by omega)]
        exact ⟨S1, rfl, g1⟩
      · rw [if_neg q, decide_eq_false (by omega), if_neg pz_ft, it_leL (by omega) (by omega)]
        cases k with
        | zero =>
          obtain ⟨T, e, g⟩ := ih 1 n S1 (by omega) (by omega) hv1 hL1 r1
          refine ⟨T, ?_, g1.tr g⟩
          rw [if_pos (Nat.le_refl 0)]
          exact e
        | succ k =>
          obtain ⟨T2, e2, g2, r2⟩ := r_passes hv1 r1 (by have := lsr_t V L w a p (k + 1); omega) hA
          have g12 : frm [] [13, 14, 18] S T2 := g1.tr (g2.wide (by simp) (by simp))
          obtain ⟨T, e, g⟩ := ih (k + 2) n T2 (by omega) (by omega) (hv.fr0 g12 (by decide)) (hL.fr0 g12 (by decide)) r2
          refine ⟨T, ?_, g12.tr g⟩
          rw [if_neg (by omega), e2, ev_V, nI_1]
          exact e
    cases k with
    | zero =>
      rw [if_pos (Nat.le_refl 0)]
      exact key S frm.rf hr
    | succ k =>
      obtain ⟨T1, e1, g1, r1⟩ := r_isTaught hv hL hr (hA a) ha hp
      rw [if_neg (by omega), e1, ev_I]
      refine key T1 g1 ?_
      cases k with
      | zero => exact r1
      | succ k => exact r1
theorem r_lessonsTo (hv : RV V S) (hL : RLw L S) (hr : RR V A w (S.2.1 17)) (hA : ∀ a, A a) (ht : w_t w ≤ 400) (ha : a < y_M V) (hp : p < y_P V) : ∃ T, fR_lessonsTo (nI a) (nI p) S = some (rI (lesI (lesF V L w a p 41 0)), T) ∧ frm [] [13, 14, 18] S T := by
  obtain ⟨T1, e1, g1, r1⟩ := r_take hv.ok hr
  obtain ⟨T, e, g⟩ := r_lessonsTo_6 ht hA ha hp 41 0 FU T1 (by omega) (by rw [pz_FU]; omega) (hv.fr0 g1 (by decide)) (hL.fr0 g1 (by decide)) r1
  refine ⟨T, ?_, (g1.wide (by simp) (by simp)).tr g⟩
  rw [fR_lessonsTo, e1, ev_V]
  exact e
/-- the poem that takes most lessons among the first n -/
def hdF (V : Vy) (L : Lw) (w : Rw) (a : Nat) : Nat → Int32 × Int32
  | 0 => (-1, -1)
  | p + 1 => if nI (lesF V L w a p 41 0) ≤ (hdF V L w a p).2 then hdF V L w a p else (nI p, nI (lesF V L w a p 41 0))
theorem e_hardestFor_7 (hA : A a) (ht : w_t w ≤ 400) (ha : a < y_M V) : ∀ k n i (S : St), i + k = y_P V → k < n → CV V S → CLw L S → RC V A w (S.2.1 46) →
    ∃ T, fC_Outlook_hardestFor_7 n (nI a) (hdF V L w a i).1 (hdF V L w a i).2 (nI i) S = some (rI (hdF V L w a (y_P V)).1, T) ∧ frm [] [32, 33, 52] S T := by
  intro k
  induction k with
  | zero =>
    intro n i S hi hn hv hL hr
    have b1 := hv.ok.1
    obtain ⟨n, rfl⟩ := pz_fu hn
    have e : i = y_P V := by omega
    rw [fC_Outlook_hardestFor_7, hv.1, if_pos (nI_le (by omega) (by omega)), e]
    exact ⟨S, rfl, frm.rf⟩
  | succ k ih =>
    intro n i S hi hn hv hL hr
    have b1 := hv.ok.1
    obtain ⟨n, rfl⟩ := pz_fu hn
    obtain ⟨T1, e1, g1⟩ := e_lessonsFor hv hL hr hA ht ha (p := i) (by omega)
    obtain ⟨T, e, g⟩ := ih n (i + 1) T1 (by omega) (by omega) (hv.fr0 g1 (by decide)) (hL.fr0 g1 (by decide)) (by rw [g1.2.1 46 (by decide)]; exact hr)
    refine ⟨T, ?_, g1.tr g⟩
    rw [fC_Outlook_hardestFor_7, hv.1, if_neg (nI_ge (by omega) (by omega)), e1, ev_I, nI_1 i, ← e, hdF]
    by_cases q : nI (lesF V L w a i 41 0) ≤ (hdF V L w a i).2
    · rw [if_pos q, if_pos q]
    · rw [if_neg q, if_neg q]
theorem r_hardest_23 (hA : ∀ a, A a) (ht : w_t w ≤ 400) (ha : a < y_M V) : ∀ k n i (S : St), i + k = y_P V → k < n → RV V S → RLw L S → RR V A w (S.2.1 17) →
    ∃ T, fR_hardest_23 n (nI a) (hdF V L w a i).1 (hdF V L w a i).2 (nI i) S = some (rI (hdF V L w a (y_P V)).1, T) ∧ frm [] [13, 14, 18] S T := by
  intro k
  induction k with
  | zero =>
    intro n i S hi hn hv hL hr
    have b1 := hv.ok.1
    obtain ⟨n, rfl⟩ := pz_fu hn
    have e : i = y_P V := by omega
    rw [fR_hardest_23, hv.1, if_pos (nI_le (by omega) (by omega)), e]
    exact ⟨S, rfl, frm.rf⟩
  | succ k ih =>
    intro n i S hi hn hv hL hr
    have b1 := hv.ok.1
    obtain ⟨n, rfl⟩ := pz_fu hn
    have b6 := lesF_le V L w a i 41 0 (by omega)
    obtain ⟨T1, e1, g1⟩ := r_lessonsTo hv hL hr hA ht ha (p := i) (by omega)
    obtain ⟨T, e, g⟩ := ih n (i + 1) T1 (by omega) (by omega) (hv.fr0 g1 (by decide)) (hL.fr0 g1 (by decide)) (by rw [g1.2.1 17 (by decide)]; exact hr)
    refine ⟨T, ?_, g1.tr g⟩
    have key : fR_hardest_54 (fun x1 x2 x3 x4 S => fR_hardest_23 n x1 x2 x3 x4 S) (nI a) (hdF V L w a i).1 (hdF V L w a i).2 (nI i) (nI (lesF V L w a i 41 0)) T1 = some (rI (hdF V L w a (y_P V)).1, T) := by
      rw [fR_hardest_54, nI_1 i, ← e, hdF]
      by_cases q : nI (lesF V L w a i 41 0) ≤ (hdF V L w a i).2
      · rw [if_neg (Int32.not_lt.mpr q), if_pos q]
      · rw [if_pos (Int32.not_le.mp q), if_neg q]
    rw [fR_hardest_23, hv.1, if_neg (nI_ge (by omega) (by omega)), e1, ev_I]
    by_cases q : lesF V L w a i 41 0 = 41
    · rw [lesI, if_pos q, if_pos rfl]
      rw [q] at key
      exact key
    · rw [lesI, if_neg q, if_neg (show ¬ nI (lesF V L w a i 41 0) = -1 from of_eq_false (pz_nem1 (by omega)))]
      exact key
theorem po_fault : PO_fault Rel := by
  intro SC SR hR
  have hR' := hR
  obtain ⟨m, hC, hM, hB⟩ := hR'
  refine ⟨SC.1 5, SC, sF SR 0 0, rfl, ?_, hR.fr frx.rf (frx.rf.F (by simp))⟩
  rw [fR_fault, ev_nx, hB.2.2.2.2.2.1]
  rfl
theorem po_count : PO_count Rel := by
  intro SC SR hR x
  have hR' := hR
  obtain ⟨m, hC, hM, hB⟩ := hR'
  have g : Rel SC (sF SR 0 0) := hR.fr frx.rf (frx.rf.F (by simp))
  rw [fC_Main_count, fR_count, ev_nx, show (sF SR 0 0).1 27 = SR.1 27 from rfl, show (sF SR 0 0).1 1 = SR.1 1 from rfl, show (sF SR 0 0).1 19 = SR.1 19 from rfl, hC.2.2.2.2.2.1, hC.2.2.2.2.1.1, hM.2.2.2.2.2.1, hM.2.2.2.2.1.1, hB.2.2.2.1]
  by_cases q0 : x = 0
  · rw [if_pos q0, if_pos q0]; exact ⟨_, SC, sF SR 0 0, rfl, rfl, g⟩
  · rw [if_neg q0, if_neg q0]
    by_cases q1 : x = 1
    · rw [if_pos q1, if_pos q1]; exact ⟨_, SC, sF SR 0 0, rfl, rfl, g⟩
    · rw [if_neg q1, if_neg q1]
      by_cases q2 : x = 2
      · rw [if_pos q2, if_pos q2]; exact ⟨_, SC, sF SR 0 0, rfl, rfl, g⟩
      · rw [if_neg q2, if_neg q2]; exact ⟨_, SC, sF SR 0 0, rfl, rfl, g⟩
theorem po_status : PO_status Rel := by
  intro SC SR hR x
  have hR' := hR
  obtain ⟨m, hC, hM, hB⟩ := hR'
  have g : Rel SC (sF SR 0 0) := hR.fr frx.rf (frx.rf.F (by simp))
  rw [fC_Main_status, fR_status, ev_nx]
  cases hw : wi x 0 1
  · rw [if_neg (show ¬ x = 0 from wi_ne (lo := 0) (hi := 1) (k := 0) hw (by omega) (by omega) (by omega)), if_neg (show ¬ x = 1 from wi_ne (lo := 0) (hi := 1) (k := 1) hw (by omega) (by omega) (by omega)), r_withinF hw, ev_I, if_pos rfl]
    exact ⟨_, SC, sF SR 0 0, rfl, rfl, g⟩
  · obtain ⟨k, -, hk, rfl⟩ := wi_nI (lo := 0) (hi := 1) (by omega) (by omega) hw
    rw [r_withinT hw, ev_I, if_neg (show ¬ (1 : Int32) = 0 by decide), pz_gib (by omega) (by omega), pz_rA (by omega)]
    match k, hk with
    | 0, _ =>
      rw [if_pos (show nI 0 = 0 by decide), hB.2.1]
      exact ⟨_, SC, sF SR 0 0, rfl, rfl, g⟩
    | 1, _ =>
      rw [if_neg (show ¬ nI 1 = 0 by decide), if_pos (show nI 1 = 1 by decide), hB.2.2.1]
      exact ⟨_, SC, sF SR 0 0, rfl, rfl, g⟩
theorem po_knows : PO_knows Rel := by
  intro SC SR hR x y
  show Po (fC_Main_knows x y SC) (fR_knows x y SR) (fun j T => if j = 0 then some (rI 1, T) else none)
  have hR' := hR
  obtain ⟨m, hC, hM, hB⟩ := hR'
  obtain ⟨g0, h0, hv0, hL0, hr0⟩ := begR hM
  obtain ⟨T, eT, gT, hT0, hvT, hLT, hrT, hT17, hTf⟩ := begT hM
  have hv := hC.1
  have hL := hC.2.1
  have hr := hC.2.2.1.1
  have b1 := hv.ok.1
  have b2 := hv.ok.2.1
  have b3 := hv.ok.2.2.1
  have ht := hC.2.2.1.2
  rcases c_needMan hv x with ⟨a, ha, rfl, e1⟩ | ⟨hx, e1⟩
  · have eP := r_isManT hv0 h0 ha 1
    rcases c_needPoem hv y with ⟨p, hp, rfl, e2⟩ | ⟨hx, e2⟩
    · have eQ := r_isPoemT hv0 h0 hp 1
      refine po_ok (b := nI (w_K m.2.2.1 a p)) (T := SC) (U := sF SR 0 0) hR ?_ frx.rf ?_ g0 h0
      · rw [fC_Main_knows, e1, ev_V, e2, ev_V, e_linesKnown_9 hv hr trivial ha hp, ev_I]
      · rw [fR_knows, ev_nx, eP, ev_I, if_neg (by decide), eQ, ev_I, if_neg (by decide), r_ix, pz_gib (by omega) (by omega), pz_rA (by omega), hr0.1 a trivial ha p hp]
    · refine po_nos1 (c := 1) hR ?_ ?_ (fun _ => rfl) (by decide)
      · rw [fC_Main_knows, e1, ev_V, e2, ev_Vx]
      · rw [fR_knows, ev_nx, eP, ev_I, if_neg (by decide), r_isPoemF hv0 h0 hx (by decide), ev_I]
        rfl
  · refine po_nos1 (c := 1) hR ?_ ?_ (fun _ => rfl) (by decide)
    · rw [fC_Main_knows, e1, ev_Vx]
    · rw [fR_knows, ev_nx, r_isManF hv0 h0 hx (by decide), ev_I]
      rfl
theorem po_learns : PO_learns Rel := by
  intro SC SR hR x y
  show Po (fC_Main_learns x y SC) (fR_learns x y SR) (fun j T => if j = 0 then some (rI 1, T) else none)
  have hR' := hR
  obtain ⟨m, hC, hM, hB⟩ := hR'
  obtain ⟨g0, h0, hv0, hL0, hr0⟩ := begR hM
  obtain ⟨T, eT, gT, hT0, hvT, hLT, hrT, hT17, hTf⟩ := begT hM
  have hv := hC.1
  have hL := hC.2.1
  have hr := hC.2.2.1.1
  have b1 := hv.ok.1
  have b2 := hv.ok.2.1
  have b3 := hv.ok.2.2.1
  have ht := hC.2.2.1.2
  rcases c_needMan hv x with ⟨a, ha, rfl, e1⟩ | ⟨hx, e1⟩
  · have eP := r_isManT hv0 h0 ha 1
    rcases c_needPoem hv y with ⟨p, hp, rfl, e2⟩ | ⟨hx, e2⟩
    · have eQ := r_isPoemT hv0 h0 hp 1
      obtain ⟨T1, e3, g3⟩ := e_learnable_9 hv hL hr trivial ha hp
      obtain ⟨T2, e4, g4⟩ := r_learnsBy hvT hLT hrT trivial ha hp
      refine po_ok (b := nI (w_learn m.1 m.2.1 m.2.2.1 a p)) (T := T1) (U := T2) hR ?_ (g3.x (by simp) (by simp)) ?_ (gT.tr (g4.x (by simp) (by simp))) ((g4.1 0 (by simp)).trans hT0)
      · rw [fC_Main_learns, e1, ev_V, e2, ev_V, e_roomOf_9 hv hr trivial ha, ev_I, e3, ev_I]
      · rw [fR_learns, ev_nx, eP, ev_I, if_neg (by decide), eQ, ev_I, if_neg (by decide), eT, ev_V, e4, ev_I]
    · refine po_nos1 (c := 1) hR ?_ ?_ (fun _ => rfl) (by decide)
      · rw [fC_Main_learns, e1, ev_V, e2, ev_Vx]
      · rw [fR_learns, ev_nx, eP, ev_I, if_neg (by decide), r_isPoemF hv0 h0 hx (by decide), ev_I]
        rfl
  · refine po_nos1 (c := 1) hR ?_ ?_ (fun _ => rfl) (by decide)
    · rw [fC_Main_learns, e1, ev_Vx]
    · rw [fR_learns, ev_nx, r_isManF hv0 h0 hx (by decide), ev_I]
      rfl
theorem po_gains : PO_gains Rel := by
  intro SC SR hR x y
  show Po (fC_Main_gains x y SC) (fR_gains x y SR) (fun j T => if j = 0 then some (rI 1, T) else none)
  have hR' := hR
  obtain ⟨m, hC, hM, hB⟩ := hR'
  obtain ⟨g0, h0, hv0, hL0, hr0⟩ := begR hM
  obtain ⟨T, eT, gT, hT0, hvT, hLT, hrT, hT17, hTf⟩ := begT hM
  have hv := hC.1
  have hL := hC.2.1
  have hr := hC.2.2.1.1
  have b1 := hv.ok.1
  have b2 := hv.ok.2.1
  have b3 := hv.ok.2.2.1
  have ht := hC.2.2.1.2
  rcases c_needMan hv x with ⟨a, ha, rfl, e1⟩ | ⟨hx, e1⟩
  · have eP := r_isManT hv0 h0 ha 1
    rcases c_needPoem hv y with ⟨p, hp, rfl, e2⟩ | ⟨hx, e2⟩
    · have eQ := r_isPoemT hv0 h0 hp 1
      obtain ⟨T1, e3, g3⟩ := e_gainOf_9 hv hL hr trivial ha hp
      obtain ⟨T2, e4, g4⟩ := r_moreBy hvT hLT hrT trivial ha hp
      have b4 : w_gain m.1 m.2.1 m.2.2.1 a p ≤ 40 := Nat.le_trans (Nat.min_le_right _ _) (by have := hv.ok.l hp; omega)
      refine po_ok (b := nI (w_gain m.1 m.2.1 m.2.2.1 a p)) (T := T1) (U := T2) hR ?_ (g3.x (by simp) (by simp)) ?_ (gT.tr (g4.x (by simp) (by simp))) ((g4.1 0 (by simp)).trans hT0)
      · rw [fC_Main_gains, e1, ev_V, e2, ev_V, e3, ev_I]
      · rw [fR_gains, ev_nx, eP, ev_I, if_neg (by decide), eQ, ev_I, if_neg (by decide), eT, ev_V, e4, ev_I, if_pos (nI_pos' (by omega))]
    · refine po_nos1 (c := 1) hR ?_ ?_ (fun _ => rfl) (by decide)
      · rw [fC_Main_gains, e1, ev_V, e2, ev_Vx]
      · rw [fR_gains, ev_nx, eP, ev_I, if_neg (by decide), r_isPoemF hv0 h0 hx (by decide), ev_I]
        rfl
  · refine po_nos1 (c := 1) hR ?_ ?_ (fun _ => rfl) (by decide)
    · rw [fC_Main_gains, e1, ev_Vx]
    · rw [fR_gains, ev_nx, r_isManF hv0 h0 hx (by decide), ev_I]
      rfl
theorem po_fades : PO_fades Rel := by
  intro SC SR hR x y
  show Po (fC_Main_fades x y SC) (fR_fades x y SR) (fun j T => if j = 0 then some (rI 1, T) else none)
  have hR' := hR
  obtain ⟨m, hC, hM, hB⟩ := hR'
  obtain ⟨g0, h0, hv0, hL0, hr0⟩ := begR hM
  obtain ⟨T, eT, gT, hT0, hvT, hLT, hrT, hT17, hTf⟩ := begT hM
  have hv := hC.1
  have hL := hC.2.1
  have hr := hC.2.2.1.1
  have b1 := hv.ok.1
  have b2 := hv.ok.2.1
  have b3 := hv.ok.2.2.1
  have ht := hC.2.2.1.2
  rcases c_needMan hv x with ⟨a, ha, rfl, e1⟩ | ⟨hx, e1⟩
  · have eP := r_isManT hv0 h0 ha 1
    rcases c_needPoem hv y with ⟨p, hp, rfl, e2⟩ | ⟨hx, e2⟩
    · have eQ := r_isPoemT hv0 h0 hp 1
      obtain ⟨T1, e3, g3, r3⟩ := e_afterWeeks (N := 1) hv hr al_all ht (by omega)
      obtain ⟨T2, e4, g4, r4⟩ := r_passes hvT hrT (by omega) al_all
      have hr17 : RR m.1 al m.2.2.1 (T2.2.1 17) := by rw [g4.2.1 17 (by decide), hT17]; exact hM.2.2.1
      refine po_ok (b := nI (w_K m.2.2.1 a p) - nI (w_K (w_week m.1 m.2.2.1) a p)) (T := T1) (U := T2) hR ?_ (g3.x (by simp) (by simp)) ?_ (gT.tr (g4.x (by simp) (by simp))) ((g4.1 0 (by simp)).trans hT0)
      · rw [fC_Main_fades, e1, ev_V, e2, ev_V, e_linesKnown_9 hv hr trivial ha hp, ev_I, show (1 : Int32) = nI 1 from rfl, e3, ev_R, e_linesKnown_13 (hv.fr0 g3 (by decide)) r3 trivial ha hp, ev_I]
        rfl
      · rw [fR_fades, ev_nx, eP, ev_I, if_neg (by decide), eQ, ev_I, if_neg (by decide), eT, ev_V, e4, ev_V, r_ix, pz_gib (by omega) (by omega), r_knownOf hv.ok r4 trivial ha hp, ev_I, pz_rA (by omega), hr17.1 a trivial ha p hp]
    · refine po_nos1 (c := 1) hR ?_ ?_ (fun _ => rfl) (by decide)
      · rw [fC_Main_fades, e1, ev_V, e2, ev_Vx]
      · rw [fR_fades, ev_nx, eP, ev_I, if_neg (by decide), r_isPoemF hv0 h0 hx (by decide), ev_I]
        rfl
  · refine po_nos1 (c := 1) hR ?_ ?_ (fun _ => rfl) (by decide)
    · rw [fC_Main_fades, e1, ev_Vx]
    · rw [fR_fades, ev_nx, r_isManF hv0 h0 hx (by decide), ev_I]
      rfl
theorem po_lessons : PO_lessons Rel := by
  intro SC SR hR x y
  show Po (fC_Main_lessons x y SC) (fR_lessons x y SR) (fun j T => if j = 0 then some (rI 1, T) else none)
  have hR' := hR
  obtain ⟨m, hC, hM, hB⟩ := hR'
  obtain ⟨g0, h0, hv0, hL0, hr0⟩ := begR hM
  obtain ⟨T, eT, gT, hT0, hvT, hLT, hrT, hT17, hTf⟩ := begT hM
  have hv := hC.1
  have hL := hC.2.1
  have hr := hC.2.2.1.1
  have b1 := hv.ok.1
  have b2 := hv.ok.2.1
  have b3 := hv.ok.2.2.1
  have ht := hC.2.2.1.2
  rcases c_needMan hv x with ⟨a, ha, rfl, e1⟩ | ⟨hx, e1⟩
  · have eP := r_isManT hv0 h0 ha 1
    rcases c_needPoem hv y with ⟨p, hp, rfl, e2⟩ | ⟨hx, e2⟩
    · have eQ := r_isPoemT hv0 h0 hp 1
      obtain ⟨T1, e3, g3⟩ := e_lessonsFor hv hL hr trivial ht ha hp
      obtain ⟨T2, e4, g4⟩ := r_lessonsTo hv0 hL0 hr0 al_all ht ha hp
      have b4 := lesF_le m.1 m.2.1 m.2.2.1 a p 41 0 (by omega)
      refine po_ok (b := lesI (lesF m.1 m.2.1 m.2.2.1 a p 41 0)) (T := T1) (U := T2) hR ?_ (g3.x (by simp) (by simp)) ?_ (g0.tr (g4.x (by simp) (by simp))) ((g4.1 0 (by simp)).trans h0)
      · rw [fC_Main_lessons, e1, ev_V, e2, ev_V, e3, ev_I, it_eqL (by omega) (by omega), lesI]
        split <;> rfl
      · rw [fR_lessons, ev_nx, eP, ev_I, if_neg (by decide), eQ, ev_I, if_neg (by decide), e4, ev_I]
    · refine po_nos1 (c := 1) hR ?_ ?_ (fun _ => rfl) (by decide)
      · rw [fC_Main_lessons, e1, ev_V, e2, ev_Vx]
      · rw [fR_lessons, ev_nx, eP, ev_I, if_neg (by decide), r_isPoemF hv0 h0 hx (by decide), ev_I]
        rfl
  · refine po_nos1 (c := 1) hR ?_ ?_ (fun _ => rfl) (by decide)
    · rw [fC_Main_lessons, e1, ev_Vx]
    · rw [fR_lessons, ev_nx, r_isManF hv0 h0 hx (by decide), ev_I]
      rfl
theorem po_hardest : PO_hardest Rel := by
  intro SC SR hR x
  show Po (fC_Main_hardest x SC) (fR_hardest x SR) (fun j T => if j = 0 then some (rI 1, T) else none)
  have hR' := hR
  obtain ⟨m, hC, hM, hB⟩ := hR'
  obtain ⟨g0, h0, hv0, hL0, hr0⟩ := begR hM
  obtain ⟨T, eT, gT, hT0, hvT, hLT, hrT, hT17, hTf⟩ := begT hM
  have hv := hC.1
  have hL := hC.2.1
  have hr := hC.2.2.1.1
  have b1 := hv.ok.1
  have b2 := hv.ok.2.1
  have b3 := hv.ok.2.2.1
  have ht := hC.2.2.1.2
  rcases c_needMan hv x with ⟨a, ha, rfl, e1⟩ | ⟨hx, e1⟩
  · have eP := r_isManT hv0 h0 ha 1
    obtain ⟨T1, e3, g3⟩ := e_hardestFor_7 (A := al) trivial ht ha (y_P m.1) FU 0 SC (by omega) (by rw [pz_FU]; omega) hv hL hr
    obtain ⟨T2, e4, g4⟩ := r_hardest_23 al_all ht ha (y_P m.1) FU 0 (sF SR 0 0) (by omega) (by rw [pz_FU]; omega) hv0 hL0 hr0
    refine po_ok (b := (hdF m.1 m.2.1 m.2.2.1 a (y_P m.1)).1) (T := T1) (U := T2) hR ?_ (g3.x (by simp) (by simp)) ?_ (g0.tr (g4.x (by simp) (by simp))) ((g4.1 0 (by simp)).trans h0)
    · rw [fC_Main_hardest, e1, ev_V, fC_Outlook_hardestFor, show fC_Outlook_hardestFor_7 FU (nI a) (-1) (-1) 0 SC = _ from e3, ev_I]
    · rw [fR_hardest, ev_nx, eP, ev_I, if_neg (by decide)]
      exact e4
  · refine po_nos1 (c := 1) hR ?_ ?_ (fun _ => rfl) (by decide)
    · rw [fC_Main_hardest, e1, ev_Vx]
    · rw [fR_hardest, ev_nx, r_isManF hv0 h0 hx (by decide), ev_I]
      rfl
def aheadV (V : Vy) (w : Rw) (k : Nat) : Int32 := if k = 0 then nI (w_every V w) else if k = 1 then orB (w_late V w) (y_D V) else orB (w_old V w) (y_M V)
theorem r_ahead_46 (hA : ∀ a, A a) (ht : w_t w ≤ 400) {N j : Nat} (hN : N ≤ 99) (hj : j ≤ 2) : ∀ k n i (S : St), i + k = N → k < n → RV V S → RR V A (w_wk V w i) (S.2.1 18) →
    ∃ T, fR_ahead_46 n (nI N) (nI j) (nI i) S = some (rI (aheadV V (w_wk V w N) j), T) ∧ frm [] [18] S T := by
  intro k
  induction k with
  | zero =>
    intro n i S hi hn hv hr
    obtain ⟨n, rfl⟩ := pz_fu hn
    have e : i = N := by omega
    rw [e] at hr
    refine ⟨S, ?_, frm.rf⟩
    rw [fR_ahead_46, if_pos (nI_le (by omega) (by omega))]
    match j, hj with
    | 0, _ => rw [if_pos (by decide), r_allLines hv hr hA, ev_I]; rfl
    | 1, _ => rw [if_neg (by decide), if_pos (by decide), r_lateNow hv hr, ev_I]; rfl
    | 2, _ => rw [if_neg (by decide), if_neg (by decide), r_bitsO hv hr hA, ev_I]; rfl
  | succ k ih =>
    intro n i S hi hn hv hr
    obtain ⟨n, rfl⟩ := pz_fu hn
    obtain ⟨T1, e1, g1, r1⟩ := r_passes hv hr (by rw [w_wk_t]; omega) hA
    obtain ⟨T, e, g⟩ := ih n (i + 1) T1 (by omega) (by omega) (hv.fr0 g1 (by decide)) r1
    refine ⟨T, ?_, g1.tr g⟩
    rw [fR_ahead_46, if_neg (nI_ge (by omega) (by omega)), e1, ev_V, nI_1, e]
theorem po_ahead : PO_ahead Rel := by
  intro SC SR hR x y
  show Po (fC_Main_ahead x y SC) (fR_ahead x y SR) (fun j T => if j = 1 then some (rI 1, T) else none)
  have hR' := hR
  obtain ⟨m, hC, hM, hB⟩ := hR'
  obtain ⟨g0, h0, hv0, hL0, hr0⟩ := begR hM
  obtain ⟨T, eT, gT, hT0, hvT, hLT, hrT, hT17, hTf⟩ := begT hM
  have hv := hC.1
  have hL := hC.2.1
  have hr := hC.2.2.1.1
  have b1 := hv.ok.1
  have b2 := hv.ok.2.1
  have b3 := hv.ok.2.2.1
  have ht := hC.2.2.1.2
  have bad : fC_Main_ahead x y SC = fC_Main_ahead_25 x y 0 SC → fR_ahead x y SR = fR_ahead_30 x y 0 (sF SR 0 0) → Po (fC_Main_ahead x y SC) (fR_ahead x y SR) (fun j T => if j = 1 then some (rI 1, T) else none) := fun q1 q2 => by
    refine po_ill1 (c := 1) hR ?_ ?_ (fun _ => rfl) (by decide)
    · rw [q1, fC_Main_ahead_25, c_need0, ev_Vx]
    · rw [q2, fR_ahead_30, show fR_may 0 1 1 (sF SR 0 0) = _ from r_may0 1 (k := 1) (by omega) h0 (by decide), ev_I]
      rfl
  cases hx : wi x 0 99
  · exact bad (by rw [fC_Main_ahead, c_withinF hx, ev_I]; rfl) (by rw [fR_ahead, ev_nx, r_withinF hx, ev_I]; rfl)
  · cases hy : wi y 0 2
    · exact bad (by rw [fC_Main_ahead, c_withinT hx, ev_I, if_neg (by decide), c_withinF hy, ev_I]; rfl) (by rw [fR_ahead, ev_nx, r_withinT hx, ev_I, if_neg (by decide), r_withinF hy, ev_I]; rfl)
    · obtain ⟨N, -, hN, rfl⟩ := wi_nI (lo := 0) (hi := 99) (by omega) (by omega) hx
      obtain ⟨k, -, hk, rfl⟩ := wi_nI (lo := 0) (hi := 2) (by omega) (by omega) hy
      obtain ⟨T1, e3, g3, r3⟩ := e_afterWeeks hv hr al_all ht hN
      have hv1 := hv.fr0 g3 (by decide)
      have eC : fC_Main_ahead (nI N) (nI k) SC = some (rI (aheadV m.1 (w_wk m.1 m.2.2.1 N) k), T1) := by
        rw [fC_Main_ahead, c_withinT hx, ev_I, if_neg (by decide), c_withinT hy, ev_I, if_neg (by decide), fC_Main_ahead_25, c_need1, ev_V, e3, ev_R]
        match k, hk with
        | 0, _ => rw [if_pos (by decide), e_everyLine_13 hv1 r3 al_all, ev_I]; rfl
        | 1, _ => rw [if_neg (by decide), if_pos (by decide), e_lateBits_13 hv1 r3, ev_I]; rfl
        | 2, _ => rw [if_neg (by decide), if_neg (by decide), e_oldBits_13 hv1 r3, ev_I]; rfl
      obtain ⟨T2, e4, g4⟩ := r_ahead_46 al_all ht hN hk N FU 0 T (by omega) (by rw [pz_FU]; omega) hvT hrT
      refine po_ok hR eC (g3.x (by simp) (by simp)) ?_ (gT.tr (g4.x (by simp) (by simp))) ((g4.1 0 (by simp)).trans hT0)
      rw [fR_ahead, ev_nx, r_withinT hx, ev_I, if_neg (by decide), r_withinT hy, ev_I, if_neg (by decide), fR_ahead_30, r_may1 _ _ h0, ev_I, if_neg (by decide), eT, ev_V]
      exact e4
theorem po_would : PO_would Rel := by
  intro SC SR hR x1 x2 x3 x4 x5 x6 x7 x8
  show Po (fC_Main_would x1 x2 x3 x4 x5 x6 x7 x8 SC) (fR_would x1 x2 x3 x4 x5 x6 x7 x8 SR) (fun j T => if j = 1 then some (rI 1, T) else none)
  have hR' := hR
  obtain ⟨m, hC, hM, hB⟩ := hR'
  obtain ⟨g0, h0, hv0, hL0, hr0⟩ := begR hM
  obtain ⟨T, eT, gT, hT0, hvT, hLT, hrT, hT17, hTf⟩ := begT hM
  have hv := hC.1
  have hL := hC.2.1
  have hr := hC.2.2.1.1
  have b1 := hv.ok.1
  have b2 := hv.ok.2.1
  have b3 := hv.ok.2.2.1
  cases h1 : wi x1 1 40
  · refine po_ill1 (c := 1) hR ?_ ?_ (fun _ => rfl) (by decide)
    · rw [fC_Main_would, c_withinF h1, ev_I, if_pos rfl, fC_Main_would_35, fC_Main_would_36, c_need0, ev_Vx]
    · rw [fR_would, ev_nx, r_withinF h1, ev_I, if_pos rfl, fR_would_98, fR_would_99, show fR_may 0 1 1 (sF SR 0 0) = _ from r_may0 1 (k := 1) (by omega) h0 (by decide), ev_I]
      rfl
  · show Po _ _ _
    cases h2 : wi x2 0 9
    · refine po_ill1 (c := 1) hR ?_ ?_ (fun _ => rfl) (by decide)
      · rw [fC_Main_would, c_withinT h1, ev_I, if_neg (by decide), c_withinF h2, ev_I, if_pos rfl, fC_Main_would_35, fC_Main_would_36, c_need0, ev_Vx]
      · rw [fR_would, ev_nx, r_withinT h1, ev_I, if_neg (by decide), r_withinF h2, ev_I, if_pos rfl, fR_would_98, fR_would_99, show fR_may 0 1 1 (sF SR 0 0) = _ from r_may0 1 (k := 1) (by omega) h0 (by decide), ev_I]
        rfl
    · show Po _ _ _
      cases h3 : wi x3 0 40
      · refine po_ill1 (c := 1) hR ?_ ?_ (fun _ => rfl) (by decide)
        · rw [fC_Main_would, c_withinT h1, ev_I, if_neg (by decide), c_withinT h2, ev_I, if_neg (by decide), c_withinF h3, ev_I, if_pos rfl, fC_Main_would_35, fC_Main_would_36, c_need0, ev_Vx]
        · rw [fR_would, ev_nx, r_withinT h1, ev_I, if_neg (by decide), r_withinT h2, ev_I, if_neg (by decide), r_withinF h3, ev_I, if_pos rfl, fR_would_98, fR_would_99, show fR_may 0 1 1 (sF SR 0 0) = _ from r_may0 1 (k := 1) (by omega) h0 (by decide), ev_I]
          rfl
      · show Po _ _ _
        cases h4 : wi x4 0 99
        · refine po_ill1 (c := 1) hR ?_ ?_ (fun _ => rfl) (by decide)
          · rw [fC_Main_would, c_withinT h1, ev_I, if_neg (by decide), c_withinT h2, ev_I, if_neg (by decide), c_withinT h3, ev_I, if_neg (by decide), fC_Main_would_36, c_need1, ev_V, c_withinF h4, ev_I, if_pos rfl, fC_Main_would_80, fC_Main_would_81, c_need0, ev_Vx]
          · rw [fR_would, ev_nx, r_withinT h1, ev_I, if_neg (by decide), r_withinT h2, ev_I, if_neg (by decide), r_withinT h3, ev_I, if_neg (by decide), r_withinF h4, ev_I, if_pos rfl, fR_would_98, fR_would_99, show fR_may 0 1 1 (sF SR 0 0) = _ from r_may0 1 (k := 1) (by omega) h0 (by decide), ev_I]
            rfl
        · show Po _ _ _
          cases h5 : wi x5 10 150
          · refine po_ill1 (c := 1) hR ?_ ?_ (fun _ => rfl) (by decide)
            · rw [fC_Main_would, c_withinT h1, ev_I, if_neg (by decide), c_withinT h2, ev_I, if_neg (by decide), c_withinT h3, ev_I, if_neg (by decide), fC_Main_would_36, c_need1, ev_V, c_withinT h4, ev_I, if_neg (by decide), c_withinF h5, ev_I, if_pos rfl, fC_Main_would_80, fC_Main_would_81, c_need0, ev_Vx]
            · rw [fR_would, ev_nx, r_withinT h1, ev_I, if_neg (by decide), r_withinT h2, ev_I, if_neg (by decide), r_withinT h3, ev_I, if_neg (by decide), r_withinT h4, ev_I, if_neg (by decide), r_withinF h5, ev_I, if_pos rfl, fR_would_98, fR_would_99, show fR_may 0 1 1 (sF SR 0 0) = _ from r_may0 1 (k := 1) (by omega) h0 (by decide), ev_I]
              rfl
          · show Po _ _ _
            cases h6 : wi x6 0 999
            · refine po_ill1 (c := 1) hR ?_ ?_ (fun _ => rfl) (by decide)
              · rw [fC_Main_would, c_withinT h1, ev_I, if_neg (by decide), c_withinT h2, ev_I, if_neg (by decide), c_withinT h3, ev_I, if_neg (by decide), fC_Main_would_36, c_need1, ev_V, c_withinT h4, ev_I, if_neg (by decide), c_withinT h5, ev_I, if_neg (by decide), c_withinF h6, ev_I, if_pos rfl, fC_Main_would_80, fC_Main_would_81, c_need0, ev_Vx]
              · rw [fR_would, ev_nx, r_withinT h1, ev_I, if_neg (by decide), r_withinT h2, ev_I, if_neg (by decide), r_withinT h3, ev_I, if_neg (by decide), r_withinT h4, ev_I, if_neg (by decide), r_withinT h5, ev_I, if_neg (by decide), r_withinF h6, ev_I, if_pos rfl, fR_would_98, fR_would_99, show fR_may 0 1 1 (sF SR 0 0) = _ from r_may0 1 (k := 1) (by omega) h0 (by decide), ev_I]
                rfl
            · show Po _ _ _
              cases h7 : wi x7 0 400
              · refine po_ill1 (c := 1) hR ?_ ?_ (fun _ => rfl) (by decide)
                · rw [fC_Main_would, c_withinT h1, ev_I, if_neg (by decide), c_withinT h2, ev_I, if_neg (by decide), c_withinT h3, ev_I, if_neg (by decide), fC_Main_would_36, c_need1, ev_V, c_withinT h4, ev_I, if_neg (by decide), c_withinT h5, ev_I, if_neg (by decide), c_withinT h6, ev_I, if_neg (by decide), fC_Main_would_81, c_need1, ev_V, c_withinF h7, ev_I, if_pos rfl, fC_Main_would_111, fC_Main_would_112, c_need0, ev_Vx]
                · rw [fR_would, ev_nx, r_withinT h1, ev_I, if_neg (by decide), r_withinT h2, ev_I, if_neg (by decide), r_withinT h3, ev_I, if_neg (by decide), r_withinT h4, ev_I, if_neg (by decide), r_withinT h5, ev_I, if_neg (by decide), r_withinT h6, ev_I, if_neg (by decide), r_withinF h7, ev_I, if_pos rfl, fR_would_98, fR_would_99, show fR_may 0 1 1 (sF SR 0 0) = _ from r_may0 1 (k := 1) (by omega) h0 (by decide), ev_I]
                  rfl
              · show Po _ _ _
                cases h8 : wi x8 0 5
                · refine po_ill1 (c := 1) hR ?_ ?_ (fun _ => rfl) (by decide)
                  · rw [fC_Main_would, c_withinT h1, ev_I, if_neg (by decide), c_withinT h2, ev_I, if_neg (by decide), c_withinT h3, ev_I, if_neg (by decide), fC_Main_would_36, c_need1, ev_V, c_withinT h4, ev_I, if_neg (by decide), c_withinT h5, ev_I, if_neg (by decide), c_withinT h6, ev_I, if_neg (by decide), fC_Main_would_81, c_need1, ev_V, c_withinT h7, ev_I, if_neg (by decide), c_withinF h8, ev_I, if_pos rfl, fC_Main_would_111, fC_Main_would_112, c_need0, ev_Vx]
                  · rw [fR_would, ev_nx, r_withinT h1, ev_I, if_neg (by decide), r_withinT h2, ev_I, if_neg (by decide), r_withinT h3, ev_I, if_neg (by decide), r_withinT h4, ev_I, if_neg (by decide), r_withinT h5, ev_I, if_neg (by decide), r_withinT h6, ev_I, if_neg (by decide), r_withinT h7, ev_I, if_neg (by decide), r_withinF h8, ev_I, if_pos rfl, fR_would_98, fR_would_99, show fR_may 0 1 1 (sF SR 0 0) = _ from r_may0 1 (k := 1) (by omega) h0 (by decide), ev_I]
                    rfl
                · show Po _ _ _
                  obtain ⟨T1, e3, g3⟩ := t8_law hL x1 x2 x3 x4 x5 x6 x7 x8
                  obtain ⟨T2, e4, g4⟩ := r_learnsOf hL0 x1 x2 x3 x4 x5 x6 x7 x8
                  refine po_ok (b := nI (m.2.1 (fct x1 x2 x3 x4 x5 x6 x7 x8))) (T := T1) (U := T2) hR ?_ (g3.x (by simp) (by simp)) ?_ (g0.tr (g4.x (by simp) (by simp))) ((g4.1 0 (by simp)).trans h0)
                  · rw [fC_Main_would, c_withinT h1, ev_I, if_neg (by decide), c_withinT h2, ev_I, if_neg (by decide), c_withinT h3, ev_I, if_neg (by decide), fC_Main_would_36, c_need1, ev_V, c_withinT h4, ev_I, if_neg (by decide), c_withinT h5, ev_I, if_neg (by decide), c_withinT h6, ev_I, if_neg (by decide), fC_Main_would_81, c_need1, ev_V, c_withinT h7, ev_I, if_neg (by decide), c_withinT h8, ev_I, if_neg (by decide), fC_Main_would_112, c_need1, ev_V, fC_Law_tellPoem_4, ev_nx, ev_nx, ev_nx, ev_V, fC_Law_tellMan_4, ev_nx, ev_nx, ev_nx, ev_nx, ev_nx, ev_V]
                    change obI (fC_Law_outcome_4 (t8 SC x1 x2 x3 x4 x5 x6 x7 x8)) _ = _
                    rw [e3, ev_I]
                  · rw [fR_would, ev_nx, r_withinT h1, ev_I, if_neg (by decide), r_withinT h2, ev_I, if_neg (by decide), r_withinT h3, ev_I, if_neg (by decide), r_withinT h4, ev_I, if_neg (by decide), r_withinT h5, ev_I, if_neg (by decide), r_withinT h6, ev_I, if_neg (by decide), r_withinT h7, ev_I, if_neg (by decide), r_withinT h8, ev_I, if_neg (by decide), fR_would_99, r_may1 _ _ h0, ev_I, if_neg (by decide), e4, ev_I]
end PL
