/-! who is first; men by bits (written by wip/whole/pure/p63.py) -/
section PM2
variable {SC SR S T U : St} {f u : Oz} {X : Nat → St → Oz} {b c x : Int32} {V : Vy} {A : Nat → Prop} {w : Rw} {L : Lw} {a p d k : Nat}
/-- the chosen one among those below, 0 for none, else one more than it -/
def sel (el : Nat → Bool) (bt : Nat → Nat → Bool) : Nat → Nat
  | 0 => 0
  | i + 1 => if el i && (decide (sel el bt i = 0) || bt i (sel el bt i - 1)) then i + 1 else sel el bt i
theorem sel_le (el : Nat → Bool) (bt : Nat → Nat → Bool) : ∀ i, sel el bt i ≤ i := by
  intro i
  induction i with
  | zero => exact Nat.le_refl _
  | succ i ih => rw [sel]; split <;> omega
def en (n : Nat) : Int32 := if n = 0 then -1 else nI (n - 1)
theorem en_s (k : Nat) : en (k + 1) = nI k := by rw [en, if_neg (by omega)]; rfl
theorem en_z : en 0 = -1 := rfl
theorem nle_m1 {n : Nat} (h : n < 2 ^ 31) : ¬ nI n ≤ (-1 : Int32) := by
  intro q
  rw [Int32.le_iff_toInt_le, nI_toInt h] at q
  have : (-1 : Int32).toInt = -1 := by decide
  omega
theorem sel_T {el : Nat → Bool} {bt : Nat → Nat → Bool} {i : Nat} (h1 : el i = true) (h2 : sel el bt i = 0 ∨ bt i (sel el bt i - 1) = true) : sel el bt (i + 1) = i + 1 := by
  rw [sel, h1]
  rcases h2 with h | h
  · rw [decide_eq_true h]; rfl
  · rw [h]; simp
theorem sel_F {el : Nat → Bool} {bt : Nat → Nat → Bool} {i : Nat} (h : el i = false ∨ (¬ sel el bt i = 0 ∧ bt i (sel el bt i - 1) = false)) : sel el bt (i + 1) = sel el bt i := by
  rw [sel]
  rcases h with h | ⟨h, h2⟩
  · rw [h]; rfl
  · rw [decide_eq_false h, h2]; simp
/-- fullest -/
def fuS (V : Vy) (w : Rw) : Nat → Nat := sel (fun _ => true) (fun i j => decide (w_sum V w j < w_sum V w i))
def fuV (V : Vy) (w : Rw) (s : Nat) : Int32 := if s = 0 then -1 else nI (w_sum V w (s - 1))
theorem fuV_s (V : Vy) (w : Rw) (j : Nat) : fuV V w (j + 1) = nI (w_sum V w j) := by rw [fuV, if_neg (by omega)]; rfl
theorem fuV_z (V : Vy) (w : Rw) : fuV V w 0 = -1 := rfl
theorem fu_step (V : Vy) (w : Rw) (i : Nat) : (fuS V w i = 0 ∧ fuS V w (i + 1) = i + 1) ∨ (∃ j, fuS V w i = j + 1 ∧ j < i ∧ ((w_sum V w j < w_sum V w i ∧ fuS V w (i + 1) = i + 1) ∨ (w_sum V w i ≤ w_sum V w j ∧ fuS V w (i + 1) = fuS V w i))) := by
  cases h : fuS V w i with
  | zero => exact Or.inl ⟨rfl, sel_T rfl (Or.inl h)⟩
  | succ j =>
    have hj := sel_le (fun _ => true) (fun i j => decide (w_sum V w j < w_sum V w i)) i
    rw [show sel (fun _ => true) (fun i j => decide (w_sum V w j < w_sum V w i)) i = j + 1 from h] at hj
    refine Or.inr ⟨j, rfl, by omega, ?_⟩
    by_cases q : w_sum V w j < w_sum V w i
    · exact Or.inl ⟨q, sel_T rfl (Or.inr (by rw [show sel (fun _ => true) (fun i j => decide (w_sum V w j < w_sum V w i)) i = j + 1 from h]; exact decide_eq_true q))⟩
    · refine Or.inr ⟨by omega, ?_⟩
      rw [← h]
      exact sel_F (Or.inr ⟨by rw [show sel (fun _ => true) (fun i j => decide (w_sum V w j < w_sum V w i)) i = j + 1 from h]; omega, by rw [show sel (fun _ => true) (fun i j => decide (w_sum V w j < w_sum V w i)) i = j + 1 from h]; exact decide_eq_false q⟩)
theorem e_fullest_17 (hv : CV V S) (hr : RC V A w (S.2.1 46)) (hA : ∀ a, A a) (x : Int32) : ∀ k n i, i + k = y_M V → k < n → fC_Main_fullest_17 n x (en (fuS V w i)) (fuV V w (fuS V w i)) (nI i) S = some (rI (if x = 0 then en (fuS V w (y_M V)) else fuV V w (fuS V w (y_M V))), S) := by
  have b2 := hv.ok.2.1
  intro k
  induction k with
  | zero =>
    intro n i hi hn
    obtain ⟨n, rfl⟩ := pz_fu hn
    have e : i = y_M V := by omega
    rw [fC_Main_fullest_17, hv.2.1, if_pos (nI_le (by omega) (by omega)), e]
    by_cases q : x = 0
    · rw [if_pos q, if_pos q]
    · rw [if_neg q, if_neg q]
  | succ k ih =>
    intro n i hi hn
    obtain ⟨n, rfl⟩ := pz_fu hn
    have h1 := w_sum_le hv.ok hr.ok (a := i) (by omega)
    rw [fC_Main_fullest_17, hv.2.1, if_neg (nI_ge (by omega) (by omega)), e_linesOf_9 hv hr (hA i) (by omega), ev_I, nI_1 i, ← ih n (i + 1) (by omega) (by omega)]
    rcases fu_step V w i with ⟨q1, q2⟩ | ⟨j, q1, hj, ⟨q3, q2⟩ | ⟨q3, q2⟩⟩
    · rw [q1, q2, fuV_z, if_neg (nle_m1 (by omega)), en_s, fuV_s]
    · have h2 := w_sum_le hv.ok hr.ok (a := j) (by omega)
      rw [q1, q2, fuV_s, if_neg (nI_ge q3 (by omega)), en_s, fuV_s]
    · have h2 := w_sum_le hv.ok hr.ok (a := j) (by omega)
      rw [q2, q1, fuV_s, if_pos (nI_le q3 (by omega))]
theorem r_fullest_30 (hv : RV V S) (hr : RR V A w (S.2.1 18)) (hA : ∀ a, A a) (x : Int32) : ∀ k n i, i + k = y_M V → k < n → fR_fullest_30 n x (en (fuS V w i)) (nI i) S = some (rI (if x = 0 then en (fuS V w (y_M V)) else fuV V w (fuS V w (y_M V))), S) := by
  have b2 := hv.ok.2.1
  intro k
  induction k with
  | zero =>
    intro n i hi hn
    obtain ⟨n, rfl⟩ := pz_fu hn
    have e : i = y_M V := by omega
    rw [fR_fullest_30, hv.2.1, if_pos (nI_le (by omega) (by omega)), e]
    by_cases q : x = 0
    · rw [if_pos q, if_pos q]
    · rw [if_neg q, if_neg q, fuV]
      have hj := sel_le (fun _ => true) (fun i j => decide (w_sum V w j < w_sum V w i)) (y_M V)
      cases h : fuS V w (y_M V) with
      | zero => rw [en_z, if_pos rfl, if_pos rfl]
      | succ j =>
        rw [show sel (fun _ => true) (fun i j => decide (w_sum V w j < w_sum V w i)) (y_M V) = j + 1 from h] at hj
        rw [en_s, if_neg (show ¬ nI j = -1 from of_eq_false (pz_nem1 (by omega))), r_allOf hv hr (hA j) (by omega), ev_I, if_neg (by omega), Nat.add_sub_cancel]
  | succ k ih =>
    intro n i hi hn
    obtain ⟨n, rfl⟩ := pz_fu hn
    have h1 := w_sum_le hv.ok hr.ok (a := i) (by omega)
    rw [fR_fullest_30, hv.2.1, if_neg (nI_ge (by omega) (by omega)), nI_1 i, ← ih n (i + 1) (by omega) (by omega)]
    rcases fu_step V w i with ⟨q1, q2⟩ | ⟨j, q1, hj, ⟨q3, q2⟩ | ⟨q3, q2⟩⟩
    · rw [q1, q2, en_z, if_pos rfl, en_s]
    · have h2 := w_sum_le hv.ok hr.ok (a := j) (by omega)
      rw [q1, q2, en_s, if_neg (show ¬ nI j = -1 from of_eq_false (pz_nem1 (by omega))), r_allOf hv hr (hA i) (by omega), ev_I, r_allOf hv hr (hA j) (by omega), ev_I, if_neg (nI_ge q3 (by omega)), en_s]
    · have h2 := w_sum_le hv.ok hr.ok (a := j) (by omega)
      rw [q2, q1, en_s, if_neg (show ¬ nI j = -1 from of_eq_false (pz_nem1 (by omega))), r_allOf hv hr (hA i) (by omega), ev_I, r_allOf hv hr (hA j) (by omega), ev_I, if_pos (nI_le q3 (by omega))]
/-- best -/
def beS (w : Rw) (p : Nat) : Nat → Nat := sel (fun i => decide (0 < w_K w i p)) (fun i j => decide (w_K w j p < w_K w i p))
def beV (w : Rw) (p : Nat) (s : Nat) : Nat := if s = 0 then 0 else w_K w (s - 1) p
theorem be_step (w : Rw) (p i : Nat) : (beV w p (beS w p i) < w_K w i p ∧ beS w p (i + 1) = i + 1) ∨ (w_K w i p ≤ beV w p (beS w p i) ∧ beS w p (i + 1) = beS w p i) := by
  by_cases q : beV w p (beS w p i) < w_K w i p
  · refine Or.inl ⟨q, sel_T (decide_eq_true (by omega)) ?_⟩
    cases h : beS w p i with
    | zero => exact Or.inl h
    | succ j =>
      rw [h, beV, if_neg (by omega)] at q
      right
      rw [show sel (fun i => decide (0 < w_K w i p)) (fun i j => decide (w_K w j p < w_K w i p)) i = j + 1 from h]
      exact decide_eq_true q
  · refine Or.inr ⟨by omega, sel_F ?_⟩
    cases h : beS w p i with
    | zero =>
      rw [h, beV, if_pos rfl] at q
      exact Or.inl (decide_eq_false q)
    | succ j =>
      rw [h, beV, if_neg (by omega)] at q
      rw [show sel (fun i => decide (0 < w_K w i p)) (fun i j => decide (w_K w j p < w_K w i p)) i = j + 1 from h]
      exact Or.inr ⟨by omega, decide_eq_false q⟩
theorem beV_le (hV : VOK V) (hk : ROK V w) (hp : p < y_P V) {i : Nat} (hi : i ≤ y_M V) : beV w p (beS w p i) ≤ 40 := by
  unfold beV
  split
  · omega
  · have h := sel_le (fun i => decide (0 < w_K w i p)) (fun i j => decide (w_K w j p < w_K w i p)) i
    have h2 : beS w p i ≤ i := h
    exact Nat.le_trans (hk.1 _ (by omega) p hp) (hV.l hp).2.1
theorem e_best_23 (hv : CV V S) (hr : RC V A w (S.2.1 46)) (hA : ∀ a, A a) (hp : p < y_P V) (x : Int32) : ∀ k n i, i + k = y_M V → k < n → fC_Main_best_23 n (nI p) x (en (beS w p i)) (nI (beV w p (beS w p i))) (nI i) S = some (rI (if beS w p (y_M V) = 0 then -1 else if x = 0 then en (beS w p (y_M V)) else nI (beV w p (beS w p (y_M V)))), S) := by
  have b2 := hv.ok.2.1
  intro k
  induction k with
  | zero =>
    intro n i hi hn
    obtain ⟨n, rfl⟩ := pz_fu hn
    have e : i = y_M V := by omega
    have hj : beS w p (y_M V) ≤ y_M V := sel_le _ _ _
    rw [fC_Main_best_23, hv.2.1, if_pos (nI_le (by omega) (by omega)), e]
    cases h : beS w p (y_M V) with
    | zero => rw [en_z, if_pos rfl, if_pos rfl]
    | succ j =>
      rw [en_s, if_neg (show ¬ nI j = -1 from of_eq_false (pz_nem1 (by omega))), if_neg (show ¬ j + 1 = 0 by omega)]
      by_cases q : x = 0
      · rw [if_pos q, if_pos q]
      · rw [if_neg q, if_neg q]
  | succ k ih =>
    intro n i hi hn
    obtain ⟨n, rfl⟩ := pz_fu hn
    have h1 := hr.ok.1 i (by omega) p hp
    have h2 := hv.ok.l hp
    have h3 := beV_le hv.ok hr.ok hp (i := i) (by omega)
    rw [fC_Main_best_23, hv.2.1, if_neg (nI_ge (by omega) (by omega)), e_linesKnown_9 hv hr (hA i) (by omega) hp, ev_I, nI_1 i, ← ih n (i + 1) (by omega) (by omega)]
    rcases be_step w p i with ⟨q3, q2⟩ | ⟨q3, q2⟩
    · rw [q2, if_neg (nI_ge q3 (by omega)), en_s, beV, if_neg (show ¬ i + 1 = 0 by omega)]
      rfl
    · rw [q2, if_pos (nI_le q3 (by omega))]
theorem r_best_43 (hv : RV V S) (hr : RR V A w (S.2.1 18)) (hA : ∀ a, A a) (hp : p < y_P V) (x : Int32) : ∀ k n i, i + k = y_M V → k < n → fR_best_43 n (nI p) x (en (beS w p i)) (nI (beV w p (beS w p i))) (nI i) S = some (rI (if beS w p (y_M V) = 0 then -1 else if x = 0 then en (beS w p (y_M V)) else nI (beV w p (beS w p (y_M V)))), S) := by
  have b2 := hv.ok.2.1
  intro k
  induction k with
  | zero =>
    intro n i hi hn
    obtain ⟨n, rfl⟩ := pz_fu hn
    have e : i = y_M V := by omega
    have hj : beS w p (y_M V) ≤ y_M V := sel_le _ _ _
    rw [fR_best_43, hv.2.1, if_pos (nI_le (by omega) (by omega)), e]
    cases h : beS w p (y_M V) with
    | zero =>
      rw [en_z, if_pos rfl, if_pos rfl]
      by_cases q : x = 0
      · rw [if_pos q]
      · rw [if_neg q]
    | succ j =>
      rw [en_s, if_neg (show ¬ nI j = -1 from of_eq_false (pz_nem1 (by omega))), if_neg (show ¬ j + 1 = 0 by omega)]
      by_cases q : x = 0
      · rw [if_pos q, if_pos q]
      · rw [if_neg q, if_neg q]
  | succ k ih =>
    intro n i hi hn
    obtain ⟨n, rfl⟩ := pz_fu hn
    have h1 := hr.ok.1 i (by omega) p hp
    have h2 := hv.ok.l hp
    have h3 := beV_le hv.ok hr.ok hp (i := i) (by omega)
    rw [fR_best_43, hv.2.1, if_neg (nI_ge (by omega) (by omega)), r_knownOf hv.ok hr (hA i) (by omega) hp, ev_I, r_knownOf hv.ok hr (hA i) (by omega) hp, ev_I, nI_1 i, ← ih n (i + 1) (by omega) (by omega)]
    rcases be_step w p i with ⟨q3, q2⟩ | ⟨q3, q2⟩
    · rw [q2, if_pos (nI_lt q3 (by omega)), en_s, beV, if_neg (show ¬ i + 1 = 0 by omega)]
      rfl
    · rw [q2, if_neg (nI_nlt q3 (by omega))]
/-- the debt that is due first; the one of least need -/
def dbS (el : Nat → Bool) (g : Nat → Nat) : Nat → Nat := sel el (fun i j => decide (g i < g j))
def dbV (g : Nat → Nat) (s : Nat) : Int32 := if s = 0 then -1 else nI (g (s - 1))
theorem dbV_s (g : Nat → Nat) (j : Nat) : dbV g (j + 1) = nI (g j) := by rw [dbV, if_neg (by omega)]; rfl
theorem dbV_z (g : Nat → Nat) : dbV g 0 = -1 := rfl
theorem db_step (el : Nat → Bool) (g : Nat → Nat) (i : Nat) : (el i = false ∧ dbS el g (i + 1) = dbS el g i) ∨ (el i = true ∧ ((dbS el g i = 0 ∧ dbS el g (i + 1) = i + 1) ∨ (∃ j, dbS el g i = j + 1 ∧ j < i ∧ ((g i < g j ∧ dbS el g (i + 1) = i + 1) ∨ (g j ≤ g i ∧ dbS el g (i + 1) = dbS el g i))))) := by
  cases he : el i with
  | false => exact Or.inl ⟨rfl, sel_F (Or.inl he)⟩
  | true =>
    refine Or.inr ⟨rfl, ?_⟩
    cases h : dbS el g i with
    | zero => exact Or.inl ⟨rfl, sel_T he (Or.inl h)⟩
    | succ j =>
      have hs : sel el (fun i j => decide (g i < g j)) i = j + 1 := h
      have hj := sel_le el (fun i j => decide (g i < g j)) i
      rw [hs] at hj
      refine Or.inr ⟨j, rfl, by omega, ?_⟩
      by_cases q : g i < g j
      · exact Or.inl ⟨q, sel_T he (Or.inr (by rw [hs]; exact decide_eq_true q))⟩
      · refine Or.inr ⟨by omega, ?_⟩
        rw [← h]
        exact sel_F (Or.inr ⟨by rw [hs]; omega, by rw [hs]; exact decide_eq_false q⟩)
theorem e_next_17 (hv : CV V S) (hr : RC V A w (S.2.1 46)) (x : Int32) : ∀ k n i, i + k = y_D V → k < n → fC_Main_next_17 n x (en (dbS (fun d => !w_p w d) (y_dd V) i)) (dbV (y_dd V) (dbS (fun d => !w_p w d) (y_dd V) i)) (nI i) S = some (rI (if x = 0 then en (dbS (fun d => !w_p w d) (y_dd V) (y_D V)) else dbV (y_dd V) (dbS (fun d => !w_p w d) (y_dd V) (y_D V))), S) := by
  have b3 := hv.ok.2.2.1
  intro k
  induction k with
  | zero =>
    intro n i hi hn
    obtain ⟨n, rfl⟩ := pz_fu hn
    have e : i = y_D V := by omega
    rw [fC_Main_next_17, hv.2.2.1, if_pos (nI_le (by omega) (by omega)), e]
    by_cases q : x = 0
    · rw [if_pos q, if_pos q]
    · rw [if_neg q, if_neg q]
  | succ k ih =>
    intro n i hi hn
    obtain ⟨n, rfl⟩ := pz_fu hn
    have h1 := hv.ok.d (d := i) (by omega)
    have h6 := hv.2.2.2.2.2.2.1 i (by omega)
    rw [fC_Main_next_17, hv.2.2.1, if_neg (nI_ge (by omega) (by omega)), e_isPaid_9 hv hr (by omega), ev_I, it_b0, nI_1 i, ← ih n (i + 1) (by omega) (by omega)]
    have kk : fC_Main_next_60 (fun x1 x2 x3 x4 S => fC_Main_next_17 n x1 x2 x3 x4 S) x (nI i) S = fC_Main_next_17 n x (en (i + 1)) (dbV (y_dd V) (i + 1)) (nI (i + 1)) S := by
      rw [fC_Main_next_60, pz_gib (by omega) (by omega), pz_rA (by omega), h6.2.2.2, ev_nx, nI_1, en_s, dbV_s]
    rcases db_step (fun d => !w_p w d) (y_dd V) i with ⟨q0, q2⟩ | ⟨q0, ⟨q1, q2⟩ | ⟨j, q1, hj, ⟨q3, q2⟩ | ⟨q3, q2⟩⟩⟩
    · rw [if_pos (by simpa using q0), q2]
    · rw [if_neg (by simpa using q0), q1, q2, en_z, if_pos rfl, kk]
    · have h2 := hv.ok.d (d := j) (by omega)
      rw [if_neg (by simpa using q0), q1, q2, en_s, if_neg (show ¬ nI j = -1 from of_eq_false (pz_nem1 (by omega))), pz_gib (by omega) (by omega), pz_rA (by omega), h6.2.2.2, dbV_s, if_neg (nI_ge q3 (by omega)), kk]
    · have h2 := hv.ok.d (d := j) (by omega)
      rw [if_neg (by simpa using q0), q2, q1, en_s, if_neg (show ¬ nI j = -1 from of_eq_false (pz_nem1 (by omega))), pz_gib (by omega) (by omega), pz_rA (by omega), h6.2.2.2, dbV_s, if_pos (nI_le q3 (by omega))]
theorem r_next_26 (hv : RV V S) (hr : RR V A w (S.2.1 17)) (x : Int32) : ∀ k n i, i + k = y_D V → k < n → fR_next_26 n x (en (dbS (fun d => !w_p w d) (y_dd V) i)) (nI i) S = some (rI (if x = 0 then en (dbS (fun d => !w_p w d) (y_dd V) (y_D V)) else dbV (y_dd V) (dbS (fun d => !w_p w d) (y_dd V) (y_D V))), S) := by
  have b3 := hv.ok.2.2.1
  intro k
  induction k with
  | zero =>
    intro n i hi hn
    obtain ⟨n, rfl⟩ := pz_fu hn
    have e : i = y_D V := by omega
    have hj : dbS (fun d => !w_p w d) (y_dd V) (y_D V) ≤ y_D V := sel_le _ _ _
    rw [fR_next_26, hv.2.2.1, if_pos (nI_le (by omega) (by omega)), e]
    by_cases q : x = 0
    · rw [if_pos q, if_pos q]
    · rw [if_neg q, if_neg q, dbV]
      cases h : dbS (fun d => !w_p w d) (y_dd V) (y_D V) with
      | zero => rw [en_z, if_pos rfl, if_pos rfl]
      | succ j => rw [en_s, if_neg (show ¬ nI j = -1 from of_eq_false (pz_nem1 (by omega))), r_i43, pz_gib (by omega) (by omega), pz_rA (by omega), (hv.2.2.2.2.2.2.1 j (by omega)).2.2.2, if_neg (by omega), Nat.add_sub_cancel]
  | succ k ih =>
    intro n i hi hn
    obtain ⟨n, rfl⟩ := pz_fu hn
    have h1 := hv.ok.d (d := i) (by omega)
    have h6 := hv.2.2.2.2.2.2.1 i (by omega)
    rw [fR_next_26, hv.2.2.1, if_neg (nI_ge (by omega) (by omega)), show (84 : Int32) + nI i = nI (84 + i) from nI_add 84 i, pz_gib (by omega) (by omega), pz_rA (by omega), hr.2.2.1 i (by omega), it_b0, nI_1 i, ← ih n (i + 1) (by omega) (by omega)]
    rcases db_step (fun d => !w_p w d) (y_dd V) i with ⟨q0, q2⟩ | ⟨q0, ⟨q1, q2⟩ | ⟨j, q1, hj, ⟨q3, q2⟩ | ⟨q3, q2⟩⟩⟩
    · rw [if_pos (by simpa using q0), q2]
    · rw [if_neg (by simpa using q0), q1, q2, en_z, if_pos rfl, en_s]
    · have h2 := hv.ok.d (d := j) (by omega)
      have h62 := hv.2.2.2.2.2.2.1 j (by omega)
      rw [if_neg (by simpa using q0), q1, q2, en_s, if_neg (show ¬ nI j = -1 from of_eq_false (pz_nem1 (by omega))), r_i43, r_i43, pz_gib (by omega) (by omega), pz_gib (by omega) (by omega), pz_rA (by omega), pz_rA (by omega), h6.2.2.2, h62.2.2.2, if_neg (nI_ge q3 (by omega)), en_s]
    · have h2 := hv.ok.d (d := j) (by omega)
      have h62 := hv.2.2.2.2.2.2.1 j (by omega)
      rw [if_neg (by simpa using q0), q2, q1, en_s, if_neg (show ¬ nI j = -1 from of_eq_false (pz_nem1 (by omega))), r_i43, r_i43, pz_gib (by omega) (by omega), pz_gib (by omega) (by omega), pz_rA (by omega), pz_rA (by omega), h6.2.2.2, h62.2.2.2, if_pos (nI_le q3 (by omega))]
theorem w_need_le (hV : VOK V) (hd : d < y_D V) : w_need V L w d ≤ 60 := by
  have h5 := hV.d hd
  have h7 := hV.l h5.2.1
  unfold w_need
  split
  · omega
  · split
    · omega
    · next h1 h2 =>
      rw [Nat.div_le_iff_le_mul_add_pred (by omega)]
      have h8 : w_learn V L w (y_dm V d) (y_dp V d) * 1 ≤ w_learn V L w (y_dm V d) (y_dp V d) * 60 := Nat.mul_le_mul_left _ (by omega)
      have h9 : 1 * 60 ≤ w_learn V L w (y_dm V d) (y_dp V d) * 60 := Nat.mul_le_mul_right _ (by omega)
      omega
theorem e_closest_23 (hA : ∀ a, A a) (ha : a < y_M V) (x : Int32) : ∀ k n i (S : St), i + k = y_D V → k < n → CV V S → CLw L S → RC V A w (S.2.1 46) →
    ∃ T, fC_Main_closest_23 n (nI a) x (en (dbS (w_open V w (y_dm V) a) (w_need V L w) i)) (dbV (w_need V L w) (dbS (w_open V w (y_dm V) a) (w_need V L w) i)) (nI i) S = some (rI (if x = 0 then en (dbS (w_open V w (y_dm V) a) (w_need V L w) (y_D V)) else dbV (w_need V L w) (dbS (w_open V w (y_dm V) a) (w_need V L w) (y_D V))), T) ∧ frm [] [32, 33] S T := by
  intro k
  induction k with
  | zero =>
    intro n i S hi hn hv hL hr
    have b3 := hv.ok.2.2.1
    obtain ⟨n, rfl⟩ := pz_fu hn
    have e : i = y_D V := by omega
    rw [fC_Main_closest_23, hv.2.2.1, if_pos (nI_le (by omega) (by omega)), e]
    refine ⟨S, ?_, frm.rf⟩
    by_cases q : x = 0
    · rw [if_pos q, if_pos q]
    · rw [if_neg q, if_neg q]
  | succ k ih =>
    intro n i S hi hn hv hL hr
    have b2 := hv.ok.2.1
    have b3 := hv.ok.2.2.1
    obtain ⟨n, rfl⟩ := pz_fu hn
    have h1 := hv.ok.d (d := i) (by omega)
    have h6 := hv.2.2.2.2.2.2.1 i (by omega)
    rw [fC_Main_closest_23, hv.2.2.1, if_neg (nI_ge (by omega) (by omega)), pz_gib (by omega) (by omega), pz_rA (by omega), h6.1, it_eq (by omega) (by omega), e_isPaid_9 hv hr (by omega), ev_I, it_b0, nI_1 i]
    rcases db_step (w_open V w (y_dm V) a) (w_need V L w) i with ⟨q0, q2⟩ | ⟨q0, q4⟩
    · obtain ⟨T, e, g⟩ := ih n (i + 1) S (by omega) (by omega) hv hL hr
      rw [q2] at e
      refine ⟨T, ?_, g⟩
      rw [← e]
      by_cases q5 : y_dm V i = a
      · rw [w_open, decide_eq_true q5, Bool.true_and] at q0
        rw [if_pos q5, if_pos (by simpa using q0)]
      · rw [if_neg q5]
    · have q5 : y_dm V i = a ∧ w_p w i = false := by simpa [w_open] using q0
      obtain ⟨T1, e1, g1⟩ := e_needOf_9 hv hL hr (d := i) (by omega) (hA _)
      have hb := w_need_le (L := L) (w := w) hv.ok (d := i) (by omega)
      obtain ⟨T, e, g⟩ := ih n (i + 1) T1 (by omega) (by omega) (hv.fr0 g1 (by decide)) (hL.fr0 g1 (by decide)) (by rw [g1.2.1 46 (by decide)]; exact hr)
      refine ⟨T, ?_, g1.tr g⟩
      rw [if_pos q5.1, q5.2, if_neg pz_ft, e1, ev_I, ← e]
      have kk : fC_Main_closest_84 (fun x1 x2 x3 x4 x5 S => fC_Main_closest_23 n x1 x2 x3 x4 x5 S) (nI a) x (nI i) (nI (w_need V L w i)) T1 = fC_Main_closest_23 n (nI a) x (en (i + 1)) (dbV (w_need V L w) (i + 1)) (nI (i + 1)) T1 := by
        rw [fC_Main_closest_84, nI_1, en_s, dbV_s]
      rcases q4 with ⟨q1, q2⟩ | ⟨j, q1, hj, ⟨q3, q2⟩ | ⟨q3, q2⟩⟩
      · rw [q1, q2, en_z, if_pos rfl, kk]
      · have h2 := w_need_le (L := L) (w := w) hv.ok (d := j) (by omega)
        rw [q1, q2, en_s, if_neg (show ¬ nI j = -1 from of_eq_false (pz_nem1 (by omega))), dbV_s, if_neg (nI_ge q3 (by omega)), kk]
      · have h2 := w_need_le (L := L) (w := w) hv.ok (d := j) (by omega)
        rw [q2, q1, en_s, if_neg (show ¬ nI j = -1 from of_eq_false (pz_nem1 (by omega))), dbV_s, if_pos (nI_le q3 (by omega))]
theorem r_closest_48 (hA : ∀ a, A a) (x : Int32) : ∀ k n i (S : St), i + k = y_D V → k < n → RV V S → RLw L S → RR V A w (S.2.1 18) →
    ∃ T, fR_closest_48 n x (orB (w_open V w (y_dm V) a) (y_D V)) (en (dbS (w_open V w (y_dm V) a) (w_need V L w) i)) (nI i) S = some (rI (if x = 0 then en (dbS (w_open V w (y_dm V) a) (w_need V L w) (y_D V)) else dbV (w_need V L w) (dbS (w_open V w (y_dm V) a) (w_need V L w) (y_D V))), T) ∧ frm [] [13, 14] S T := by
  intro k
  induction k with
  | zero =>
    intro n i S hi hn hv hL hr
    have b3 := hv.ok.2.2.1
    obtain ⟨n, rfl⟩ := pz_fu hn
    have e : i = y_D V := by omega
    have hj : dbS (w_open V w (y_dm V) a) (w_need V L w) (y_D V) ≤ y_D V := sel_le _ _ _
    rw [fR_closest_48, hv.2.2.1, if_pos (nI_le (by omega) (by omega)), e]
    by_cases q : x = 0
    · rw [if_pos q, if_pos q]
      exact ⟨S, rfl, frm.rf⟩
    · rw [if_neg q, if_neg q, dbV]
      cases h : dbS (w_open V w (y_dm V) a) (w_need V L w) (y_D V) with
      | zero =>
        rw [en_z, if_pos rfl, if_pos rfl]
        exact ⟨S, rfl, frm.rf⟩
      | succ j =>
        obtain ⟨T1, e1, g1⟩ := r_needOf hv hL hr (d := j) (by omega) (hA _)
        rw [en_s, if_neg (show ¬ nI j = -1 from of_eq_false (pz_nem1 (by omega))), e1, ev_I, if_neg (by omega), Nat.add_sub_cancel]
        exact ⟨T1, rfl, g1⟩
  | succ k ih =>
    intro n i S hi hn hv hL hr
    have b3 := hv.ok.2.2.1
    obtain ⟨n, rfl⟩ := pz_fu hn
    have h1 := hv.ok.d (d := i) (by omega)
    rw [fR_closest_48, hv.2.2.1, if_neg (nI_ge (by omega) (by omega)), it_t1 (by omega), tb_orB (by omega) (by omega), decide_eq_true (show i < y_D V by omega), Bool.true_and, nI_1 i]
    rcases db_step (w_open V w (y_dm V) a) (w_need V L w) i with ⟨q0, q2⟩ | ⟨q0, q4⟩
    · obtain ⟨T, e, g⟩ := ih n (i + 1) S (by omega) (by omega) hv hL hr
      rw [q2] at e
      rw [q0, if_neg pz_ft]
      exact ⟨T, e, g⟩
    · rw [q0, if_pos rfl]
      rcases q4 with ⟨q1, q2⟩ | ⟨j, q1, hj, q3⟩
      · obtain ⟨T, e, g⟩ := ih n (i + 1) S (by omega) (by omega) hv hL hr
        rw [q2, en_s] at e
        rw [q1, en_z, if_pos rfl]
        exact ⟨T, e, g⟩
      · have hb := w_need_le (L := L) (w := w) hv.ok (d := i) (by omega)
        have h2 := w_need_le (L := L) (w := w) hv.ok (d := j) (by omega)
        obtain ⟨T1, e1, g1⟩ := r_needOf hv hL hr (d := i) (by omega) (hA _)
        have hv1 := hv.fr0 g1 (by decide)
        have hL1 := hL.fr0 g1 (by decide)
        have hr1 : RR V A w (T1.2.1 18) := by rw [g1.2.1 18 (by decide)]; exact hr
        obtain ⟨T2, e2, g2⟩ := r_needOf hv1 hL1 hr1 (d := j) (by omega) (hA _)
        obtain ⟨T, e, g⟩ := ih n (i + 1) T2 (by omega) (by omega) (hv1.fr0 g2 (by decide)) (hL1.fr0 g2 (by decide)) (by rw [g2.2.1 18 (by decide)]; exact hr1)
        refine ⟨T, ?_, g1.tr (g2.tr g)⟩
        rw [q1, en_s, if_neg (show ¬ nI j = -1 from of_eq_false (pz_nem1 (by omega))), e1, ev_I, e2, ev_I, ← e]
        rcases q3 with ⟨q3, q2⟩ | ⟨q3, q2⟩
        · rw [q2, if_neg (nI_ge q3 (by omega)), en_s]
        · rw [q2, q1, if_pos (nI_le q3 (by omega)), en_s]
theorem po_fullest : PO_fullest Rel := by
  intro SC SR hR x
  show Po (fC_Main_fullest x SC) (fR_fullest x SR) (fun j T => if j = 1 then some (rI 1, T) else none)
  have hR' := hR
  obtain ⟨m, hC, hM, hB⟩ := hR'
  obtain ⟨g0, h0, hv0, hL0, hr0⟩ := begR hM
  obtain ⟨T, eT, gT, hT0, hvT, hLT, hrT, hT17, hTf⟩ := begT hM
  have hv := hC.1
  have hL := hC.2.1
  have hr := hC.2.2.1.1
  have b1 := hv.ok.1
  have b2 := hv.ok.2.1
  have b3 := hv.ok.2.2.1
  cases hw : wi x 0 1
  · refine po_ill1 (c := 1) hR ?_ ?_ (fun _ => rfl) (by decide)
    · rw [fC_Main_fullest, c_withinF hw, ev_I, c_need0, ev_Vx]
    · rw [fR_fullest, ev_nx, r_withinF hw, ev_I, show fR_may 0 1 1 (sF SR 0 0) = _ from r_may0 1 (k := 1) (by omega) h0 (by decide), ev_I]
      rfl
  · refine po_ok (b := (if x = 0 then en (fuS m.1 m.2.2.1 (y_M m.1)) else fuV m.1 m.2.2.1 (fuS m.1 m.2.2.1 (y_M m.1)))) (T := SC) (U := T) hR ?_ frx.rf ?_ gT hT0
    · rw [fC_Main_fullest, c_withinT hw, ev_I, c_need1, ev_V]
      exact e_fullest_17 hv hr al_all x (y_M m.1) FU 0 (by omega) (by rw [pz_FU]; omega)
    · rw [fR_fullest, ev_nx, r_withinT hw, ev_I, r_may1 _ _ h0, ev_I, if_neg (by decide), eT, ev_V]
      exact r_fullest_30 hvT hrT al_all x (y_M m.1) FU 0 (by omega) (by rw [pz_FU]; omega)
theorem po_next : PO_next Rel := by
  intro SC SR hR x
  show Po (fC_Main_next x SC) (fR_next x SR) (fun j T => if j = 1 then some (rI 1, T) else none)
  have hR' := hR
  obtain ⟨m, hC, hM, hB⟩ := hR'
  obtain ⟨g0, h0, hv0, hL0, hr0⟩ := begR hM
  obtain ⟨T, eT, gT, hT0, hvT, hLT, hrT, hT17, hTf⟩ := begT hM
  have hv := hC.1
  have hL := hC.2.1
  have hr := hC.2.2.1.1
  have b1 := hv.ok.1
  have b2 := hv.ok.2.1
  have b3 := hv.ok.2.2.1
  cases hw : wi x 0 1
  · refine po_ill1 (c := 1) hR ?_ ?_ (fun _ => rfl) (by decide)
    · rw [fC_Main_next, c_withinF hw, ev_I, c_need0, ev_Vx]
    · rw [fR_next, ev_nx, r_withinF hw, ev_I, show fR_may 0 1 1 (sF SR 0 0) = _ from r_may0 1 (k := 1) (by omega) h0 (by decide), ev_I]
      rfl
  · refine po_ok (b := (if x = 0 then en (dbS (fun d => !w_p m.2.2.1 d) (y_dd m.1) (y_D m.1)) else dbV (y_dd m.1) (dbS (fun d => !w_p m.2.2.1 d) (y_dd m.1) (y_D m.1)))) (T := SC) (U := sF SR 0 0) hR ?_ frx.rf ?_ g0 h0
    · rw [fC_Main_next, c_withinT hw, ev_I, c_need1, ev_V]
      exact e_next_17 hv hr x (y_D m.1) FU 0 (by omega) (by rw [pz_FU]; omega)
    · rw [fR_next, ev_nx, r_withinT hw, ev_I, r_may1 _ _ h0, ev_I, if_neg (by decide)]
      exact r_next_26 hv0 hr0 x (y_D m.1) FU 0 (by omega) (by rw [pz_FU]; omega)
theorem po_best : PO_best Rel := by
  intro SC SR hR x y
  show Po (fC_Main_best x y SC) (fR_best x y SR) (fun j T => if j = 0 then some (rI 1, T) else (if j = 1 then some (rI 2, T) else none))
  have hR' := hR
  obtain ⟨m, hC, hM, hB⟩ := hR'
  obtain ⟨g0, h0, hv0, hL0, hr0⟩ := begR hM
  obtain ⟨T, eT, gT, hT0, hvT, hLT, hrT, hT17, hTf⟩ := begT hM
  have hv := hC.1
  have hL := hC.2.1
  have hr := hC.2.2.1.1
  have b1 := hv.ok.1
  have b2 := hv.ok.2.1
  have b3 := hv.ok.2.2.1
  rcases c_needPoem hv x with ⟨p, hp, rfl, e1⟩ | ⟨hx, e1⟩
  · have eP := r_isPoemT hv0 h0 hp 1
    cases hw : wi y 0 1
    · refine po_ill1 (c := 2) hR ?_ ?_ (fun _ => rfl) (by decide)
      · rw [fC_Main_best, e1, ev_V, c_withinF hw, ev_I, c_need0, ev_Vx]
      · rw [fR_best, ev_nx, eP, ev_I, if_neg (by decide), r_withinF hw, ev_I, show fR_may 0 2 1 (sF SR 0 0) = _ from r_may0 2 (k := 1) (by omega) h0 (by decide), ev_I]
        rfl
    · refine po_ok (b := if beS m.2.2.1 p (y_M m.1) = 0 then -1 else if y = 0 then en (beS m.2.2.1 p (y_M m.1)) else nI (beV m.2.2.1 p (beS m.2.2.1 p (y_M m.1)))) (T := SC) (U := T) hR ?_ frx.rf ?_ gT hT0
      · rw [fC_Main_best, e1, ev_V, c_withinT hw, ev_I, c_need1, ev_V]
        exact e_best_23 hv hr al_all hp y (y_M m.1) FU 0 (by omega) (by rw [pz_FU]; omega)
      · rw [fR_best, ev_nx, eP, ev_I, if_neg (by decide), r_withinT hw, ev_I, r_may1 _ _ h0, ev_I, if_neg (by decide), eT, ev_V]
        exact r_best_43 hvT hrT al_all hp y (y_M m.1) FU 0 (by omega) (by rw [pz_FU]; omega)
  · refine po_nos1 (c := 1) hR ?_ ?_ (fun _ => rfl) (by decide)
    · rw [fC_Main_best, e1, ev_Vx]
    · rw [fR_best, ev_nx, r_isPoemF hv0 h0 hx (by decide), ev_I]
      rfl
theorem po_closest : PO_closest Rel := by
  intro SC SR hR x y
  show Po (fC_Main_closest x y SC) (fR_closest x y SR) (fun j T => if j = 0 then some (rI 1, T) else (if j = 1 then some (rI 2, T) else none))
  have hR' := hR
  obtain ⟨m, hC, hM, hB⟩ := hR'
  obtain ⟨g0, h0, hv0, hL0, hr0⟩ := begR hM
  obtain ⟨T, eT, gT, hT0, hvT, hLT, hrT, hT17, hTf⟩ := begT hM
  have hv := hC.1
  have hL := hC.2.1
  have hr := hC.2.2.1.1
  have b1 := hv.ok.1
  have b2 := hv.ok.2.1
  have b3 := hv.ok.2.2.1
  rcases c_needMan hv x with ⟨a, ha, rfl, e1⟩ | ⟨hx, e1⟩
  · have eP := r_isManT hv0 h0 ha 1
    cases hw : wi y 0 1
    · refine po_ill1 (c := 2) hR ?_ ?_ (fun _ => rfl) (by decide)
      · rw [fC_Main_closest, e1, ev_V, c_withinF hw, ev_I, c_need0, ev_Vx]
      · rw [fR_closest, ev_nx, eP, ev_I, if_neg (by decide), r_withinF hw, ev_I, show fR_may 0 2 1 (sF SR 0 0) = _ from r_may0 2 (k := 1) (by omega) h0 (by decide), ev_I]
        rfl
    · obtain ⟨T1, e3, g3⟩ := e_closest_23 (A := al) al_all ha y (y_D m.1) FU 0 SC (by omega) (by rw [pz_FU]; omega) hv hL hr
      obtain ⟨T2, e4, g4⟩ := r_closest_48 (A := al) (a := a) al_all y (y_D m.1) FU 0 T (by omega) (by rw [pz_FU]; omega) hvT hLT hrT
      refine po_ok (b := (if y = 0 then en (dbS (w_open m.1 m.2.2.1 (y_dm m.1) a) (w_need m.1 m.2.1 m.2.2.1) (y_D m.1)) else dbV (w_need m.1 m.2.1 m.2.2.1) (dbS (w_open m.1 m.2.2.1 (y_dm m.1) a) (w_need m.1 m.2.1 m.2.2.1) (y_D m.1)))) hR ?_ (g3.x (by simp) (by simp)) ?_ (gT.tr (g4.x (by simp) (by simp))) ((g4.1 0 (by simp)).trans hT0)
      · rw [fC_Main_closest, e1, ev_V, c_withinT hw, ev_I, c_need1, ev_V]
        exact e3
      · rw [fR_closest, ev_nx, eP, ev_I, if_neg (by decide), r_withinT hw, ev_I, r_may1 _ _ h0, ev_I, if_neg (by decide), eT, ev_V, r_openBy0 hvT hrT (by omega), ev_I]
        exact e4
  · refine po_nos1 (c := 1) hR ?_ ?_ (fun _ => rfl) (by decide)
    · rw [fC_Main_closest, e1, ev_Vx]
    · rw [fR_closest, ev_nx, r_isManF hv0 h0 hx (by decide), ev_I]
      rfl
end PM2
