/-! folds over debts, men and poems: the class's and the reference's (written by wip/whole/pure/p60.py) -/
section PJ
theorem orB_T {c : Nat → Bool} {n : Nat} (h : c n = true) : orB c n ||| ((1 : Int32) <<< (nI n &&& 31)) = orB c (n + 1) := by rw [orB, if_pos h]
theorem orB_F {c : Nat → Bool} {n : Nat} (h : c n = false) : orB c n = orB c (n + 1) := by rw [orB, h, if_neg pz_ft]
theorem or0_F {c : Nat → Bool} {n : Nat} (h : c n = false) : orB c n ||| 0 = orB c (n + 1) := by rw [orB, h, if_neg pz_ft, Int32.or_zero]
variable {V : Vy} {A : Nat → Prop} {w : Rw} {S : St} {L : Lw} {a b p d v : Nat} {f g : Nat → Int32}
theorem RC.ptw (hV : VOK V) (h : RC V A w f) (e : ∀ j, j < 74 → g j = f j) : RC V A w g := by
  have h1 := hV.1
  have h2 := hV.2.1
  refine ⟨fun a hA ha p hp => ?_, fun a hA ha => ?_, ?_, ?_, h.2.2.2.2⟩
  · rw [e _ (by omega)]; exact h.1 a hA ha p hp
  · rw [e _ (by omega), e _ (by omega), e _ (by omega), e _ (by omega)]; exact h.2.1 a hA ha
  · rw [e _ (by omega)]; exact h.2.2.1
  · rw [e _ (by omega)]; exact h.2.2.2.1
theorem RR.ptw (hV : VOK V) (h : RR V A w f) (e : ∀ j, j < 95 → g j = f j) : RR V A w g := by
  have h1 := hV.1
  have h2 := hV.2.1
  have h3 := hV.2.2.1
  refine ⟨fun a hA ha p hp => ?_, fun a hA ha => ?_, fun d hd => ?_, ?_, h.2.2.2.2⟩
  · rw [e _ (by omega)]; exact h.1 a hA ha p hp
  · rw [e _ (by omega), e _ (by omega), e _ (by omega), e _ (by omega), e _ (by omega), e _ (by omega)]; exact h.2.1 a hA ha
  · rw [e _ (by omega)]; exact h.2.2.1 d hd
  · rw [e _ (by omega)]; exact h.2.2.2.1
def w_late (V : Vy) (w : Rw) (d : Nat) : Bool := !w_p w d && decide (y_dd V d < w_t w)
def w_every (V : Vy) (w : Rw) : Nat := smN (w_sum V w) (y_M V)
def w_all (V : Vy) (w : Rw) (p a : Nat) : Bool := decide (y_l V p ≤ w_K w a p)
def w_open (V : Vy) (w : Rw) (u : Nat → Nat) (v d : Nat) : Bool := decide (u d = v) && !w_p w d
def w_need (V : Vy) (L : Lw) (w : Rw) (d : Nat) : Nat := if y_l V (y_dp V d) ≤ w_K w (y_dm V d) (y_dp V d) then 0 else if w_learn V L w (y_dm V d) (y_dp V d) = 0 then 41 else (y_l V (y_dp V d) - w_K w (y_dm V d) (y_dp V d) + w_learn V L w (y_dm V d) (y_dp V d) - 1) / w_learn V L w (y_dm V d) (y_dp V d)
theorem e_lateBits_9_4 (hv : CV V S) (hr : RC V A w (S.2.1 46)) : ∀ k n i, i + k = y_D V → k < n → fC_State_lateBits_9_4 n (orB (w_late V w) i) (nI i) S = some (rI (orB (w_late V w) (y_D V)), S) := by
  have h1 := hv.ok.1
  have h2 := hv.ok.2.1
  have h3 := hv.ok.2.2.1
  have h4 := hr.ok.2
  intro k
  induction k with
  | zero =>
    intro n i hi hn
    obtain ⟨n, rfl⟩ := pz_fu hn
    rw [fC_State_lateBits_9_4, hv.2.2.1, if_pos (nI_le (by omega) (by omega))]
    have e : i = y_D V := by omega
    rw [e]
  | succ k ih =>
    intro n i hi hn
    obtain ⟨n, rfl⟩ := pz_fu hn
    rw [fC_State_lateBits_9_4, hv.2.2.1, if_neg (nI_ge (by omega) (by omega))]
    have h6 := hv.2.2.2.2.2.2.1 i (by omega)
    have h7 := hv.ok.d (d := i) (by omega)
    rw [e_isPaid_9 hv hr (by omega), ev_I, it_b0]
    cases hp : w_p w i
    · rw [if_neg pz_ft, pz_gib (by omega) (by omega), show (73 : Int32) = nI 73 from rfl, pz_rA (by omega), pz_rA (by omega), hr.2.2.2.1, h6.2.2.2, it_le (by omega) (by omega)]
      by_cases q : w_t w ≤ y_dd V i
      · rw [if_pos q, orB_F (c := w_late V w) (by rw [w_late, decide_eq_false (by omega), Bool.and_false]), nI_1 i]
        exact ih n (i + 1) (by omega) (by omega)
      · rw [if_neg q, ev_nx, orB_T (c := w_late V w) (by rw [w_late, hp, decide_eq_true (by omega)]; rfl), nI_1 i]
        exact ih n (i + 1) (by omega) (by omega)
    · rw [if_pos rfl, orB_F (c := w_late V w) (by rw [w_late, hp]; rfl), nI_1 i]
      exact ih n (i + 1) (by omega) (by omega)
theorem e_lateBits_9 (hv : CV V S) (hr : RC V A w (S.2.1 46)) : fC_State_lateBits_9 S = some (rI (orB (w_late V w) (y_D V)), S) := e_lateBits_9_4 hv hr (y_D V) FU 0 (by omega) (by have := hv.ok.2.2.1; rw [pz_FU]; omega)
theorem e_oldBits_9_4 (hv : CV V S) (hr : RC V A w (S.2.1 46)) : ∀ k n i, i + k = y_M V → k < n → fC_State_oldBits_9_4 n (orB (w_old V w) i) (nI i) S = some (rI (orB (w_old V w) (y_M V)), S) := by
  have h1 := hv.ok.1
  have h2 := hv.ok.2.1
  have h3 := hv.ok.2.2.1
  intro k
  induction k with
  | zero =>
    intro n i hi hn
    obtain ⟨n, rfl⟩ := pz_fu hn
    rw [fC_State_oldBits_9_4, hv.2.1, if_pos (nI_le (by omega) (by omega))]
    have e : i = y_M V := by omega
    rw [e]
  | succ k ih =>
    intro n i hi hn
    obtain ⟨n, rfl⟩ := pz_fu hn
    rw [fC_State_oldBits_9_4, hv.2.1, if_neg (nI_ge (by omega) (by omega))]
    rw [e_isOld_9 hv hr (by omega), ev_I, it_b0]
    cases hp : w_old V w i
    · rw [if_neg pz_ft, orB_F (c := w_old V w) hp, nI_1 i]
      exact ih n (i + 1) (by omega) (by omega)
    · rw [if_pos rfl, ev_nx, orB_T (c := w_old V w) hp, nI_1 i]
      exact ih n (i + 1) (by omega) (by omega)
theorem e_oldBits_9 (hv : CV V S) (hr : RC V A w (S.2.1 46)) : fC_State_oldBits_9 S = some (rI (orB (w_old V w) (y_M V)), S) := e_oldBits_9_4 hv hr (y_M V) FU 0 (by omega) (by have := hv.ok.2.1; rw [pz_FU]; omega)
theorem e_everyLine_9_4 (hv : CV V S) (hr : RC V A w (S.2.1 46)) (hA : ∀ a, A a) : ∀ k n i, i + k = y_M V → k < n → fC_State_everyLine_9_4 n (nI (smN (w_sum V w) i)) (nI i) S = some (rI (nI (w_every V w)), S) := by
  have h1 := hv.ok.1
  have h2 := hv.ok.2.1
  have h3 := hv.ok.2.2.1
  intro k
  induction k with
  | zero =>
    intro n i hi hn
    obtain ⟨n, rfl⟩ := pz_fu hn
    rw [fC_State_everyLine_9_4, hv.2.1, if_pos (nI_le (by omega) (by omega))]
    have e : i = y_M V := by omega
    rw [e]; rfl
  | succ k ih =>
    intro n i hi hn
    obtain ⟨n, rfl⟩ := pz_fu hn
    rw [fC_State_everyLine_9_4, hv.2.1, if_neg (nI_ge (by omega) (by omega))]
    rw [e_linesOf_9 hv hr (hA i) (by omega), ev_I, ev_nx, nI_add, nI_1 i]
    exact ih n (i + 1) (by omega) (by omega)
theorem e_everyLine_9 (hv : CV V S) (hr : RC V A w (S.2.1 46)) (hA : ∀ a, A a) : fC_State_everyLine_9 S = some (rI (nI (w_every V w)), S) := e_everyLine_9_4 hv hr hA (y_M V) FU 0 (by omega) (by have := hv.ok.2.1; rw [pz_FU]; omega)
theorem e_allSlips_9_4 (hv : CV V S) (hr : RC V A w (S.2.1 46)) (hA : ∀ a, A a) : ∀ k n i, i + k = y_M V → k < n → fC_State_allSlips_9_4 n (smI (w_c w 2) i) (nI i) S = some (rI (smI (w_c w 2) (y_M V)), S) := by
  have h1 := hv.ok.1
  have h2 := hv.ok.2.1
  have h3 := hv.ok.2.2.1
  intro k
  induction k with
  | zero =>
    intro n i hi hn
    obtain ⟨n, rfl⟩ := pz_fu hn
    rw [fC_State_allSlips_9_4, hv.2.1, if_pos (nI_le (by omega) (by omega))]
    have e : i = y_M V := by omega
    rw [e]
  | succ k ih =>
    intro n i hi hn
    obtain ⟨n, rfl⟩ := pz_fu hn
    rw [fC_State_allSlips_9_4, hv.2.1, if_neg (nI_ge (by omega) (by omega))]
    rw [show (60 : Int32) + nI i = nI (60 + i) from nI_add 60 i, pz_gib (by omega) (by omega), pz_rA (by omega), (hr.2.1 i (hA i) (by omega)).2.2.1, ev_nx, nI_1 i]
    exact ih n (i + 1) (by omega) (by omega)
theorem e_allSlips_9 (hv : CV V S) (hr : RC V A w (S.2.1 46)) (hA : ∀ a, A a) : fC_State_allSlips_9 S = some (rI (smI (w_c w 2) (y_M V)), S) := e_allSlips_9_4 hv hr hA (y_M V) FU 0 (by omega) (by have := hv.ok.2.1; rw [pz_FU]; omega)
theorem e_allLessons_9_4 (hv : CV V S) (hr : RC V A w (S.2.1 46)) (hA : ∀ a, A a) : ∀ k n i, i + k = y_M V → k < n → fC_State_allLessons_9_4 n (smI (w_c w 0) i) (nI i) S = some (rI (smI (w_c w 0) (y_M V)), S) := by
  have h1 := hv.ok.1
  have h2 := hv.ok.2.1
  have h3 := hv.ok.2.2.1
  intro k
  induction k with
  | zero =>
    intro n i hi hn
    obtain ⟨n, rfl⟩ := pz_fu hn
    rw [fC_State_allLessons_9_4, hv.2.1, if_pos (nI_le (by omega) (by omega))]
    have e : i = y_M V := by omega
    rw [e]
  | succ k ih =>
    intro n i hi hn
    obtain ⟨n, rfl⟩ := pz_fu hn
    rw [fC_State_allLessons_9_4, hv.2.1, if_neg (nI_ge (by omega) (by omega))]
    rw [show (48 : Int32) + nI i = nI (48 + i) from nI_add 48 i, pz_gib (by omega) (by omega), pz_rA (by omega), (hr.2.1 i (hA i) (by omega)).1, ev_nx, nI_1 i]
    exact ih n (i + 1) (by omega) (by omega)
theorem e_allLessons_9 (hv : CV V S) (hr : RC V A w (S.2.1 46)) (hA : ∀ a, A a) : fC_State_allLessons_9 S = some (rI (smI (w_c w 0) (y_M V)), S) := e_allLessons_9_4 hv hr hA (y_M V) FU 0 (by omega) (by have := hv.ok.2.1; rw [pz_FU]; omega)
theorem e_knowsAll_9 (hv : CV V S) (hr : RC V A w (S.2.1 46)) (hA : A a) (ha : a < y_M V) (hp : p < y_P V) : fC_State_knowsAll_9 (nI a) (nI p) S = some (rI (if w_all V w p a then 1 else 0), S) := by
  have h1 := hv.ok.1
  have h2 := hv.ok.2.1
  have h4 := hv.ok.l hp
  have h5 := hr.ok.1 a ha p hp
  rw [fC_State_knowsAll_9, fC_State_place, ev_I, e_ix, pz_gib (by omega) (by omega), pz_gib (by omega) (by omega), pz_rA (by omega), pz_rA (by omega), hr.1 a hA ha p hp, (hv.2.2.2.2.1 p hp).1, it_lt (by omega) (by omega)]
  unfold w_all
  by_cases q : w_K w a p < y_l V p
  · rw [if_pos q, decide_eq_false (by omega)]; rfl
  · rw [if_neg q, decide_eq_true (by omega)]; rfl
theorem e_linesKnown_9 (hv : CV V S) (hr : RC V A w (S.2.1 46)) (hA : A a) (ha : a < y_M V) (hp : p < y_P V) : fC_State_linesKnown_9 (nI a) (nI p) S = some (rI (nI (w_K w a p)), S) := by
  have h1 := hv.ok.1
  have h2 := hv.ok.2.1
  rw [fC_State_linesKnown_9, fC_State_place, ev_I, e_ix, pz_gib (by omega) (by omega), pz_rA (by omega), hr.1 a hA ha p hp]
theorem e_lateBits_13_4 (hv : CV V S) (hr : RC V A w (S.2.1 52)) : ∀ k n i, i + k = y_D V → k < n → fC_State_lateBits_13_4 n (orB (w_late V w) i) (nI i) S = some (rI (orB (w_late V w) (y_D V)), S) := by
  have h1 := hv.ok.1
  have h2 := hv.ok.2.1
  have h3 := hv.ok.2.2.1
  have h4 := hr.ok.2
  intro k
  induction k with
  | zero =>
    intro n i hi hn
    obtain ⟨n, rfl⟩ := pz_fu hn
    rw [fC_State_lateBits_13_4, hv.2.2.1, if_pos (nI_le (by omega) (by omega))]
    have e : i = y_D V := by omega
    rw [e]
  | succ k ih =>
    intro n i hi hn
    obtain ⟨n, rfl⟩ := pz_fu hn
    rw [fC_State_lateBits_13_4, hv.2.2.1, if_neg (nI_ge (by omega) (by omega))]
    have h6 := hv.2.2.2.2.2.2.1 i (by omega)
    have h7 := hv.ok.d (d := i) (by omega)
    rw [e_isPaid_13 hv hr (by omega), ev_I, it_b0]
    cases hp : w_p w i
    · rw [if_neg pz_ft, pz_gib (by omega) (by omega), show (73 : Int32) = nI 73 from rfl, pz_rA (by omega), pz_rA (by omega), hr.2.2.2.1, h6.2.2.2, it_le (by omega) (by omega)]
      by_cases q : w_t w ≤ y_dd V i
      · rw [if_pos q, orB_F (c := w_late V w) (by rw [w_late, decide_eq_false (by omega), Bool.and_false]), nI_1 i]
        exact ih n (i + 1) (by omega) (by omega)
      · rw [if_neg q, ev_nx, orB_T (c := w_late V w) (by rw [w_late, hp, decide_eq_true (by omega)]; rfl), nI_1 i]
        exact ih n (i + 1) (by omega) (by omega)
    · rw [if_pos rfl, orB_F (c := w_late V w) (by rw [w_late, hp]; rfl), nI_1 i]
      exact ih n (i + 1) (by omega) (by omega)
theorem e_lateBits_13 (hv : CV V S) (hr : RC V A w (S.2.1 52)) : fC_State_lateBits_13 S = some (rI (orB (w_late V w) (y_D V)), S) := e_lateBits_13_4 hv hr (y_D V) FU 0 (by omega) (by have := hv.ok.2.2.1; rw [pz_FU]; omega)
theorem e_oldBits_13_4 (hv : CV V S) (hr : RC V A w (S.2.1 52)) : ∀ k n i, i + k = y_M V → k < n → fC_State_oldBits_13_4 n (orB (w_old V w) i) (nI i) S = some (rI (orB (w_old V w) (y_M V)), S) := by
  have h1 := hv.ok.1
  have h2 := hv.ok.2.1
  have h3 := hv.ok.2.2.1
  intro k
  induction k with
  | zero =>
    intro n i hi hn
    obtain ⟨n, rfl⟩ := pz_fu hn
    rw [fC_State_oldBits_13_4, hv.2.1, if_pos (nI_le (by omega) (by omega))]
    have e : i = y_M V := by omega
    rw [e]
  | succ k ih =>
    intro n i hi hn
    obtain ⟨n, rfl⟩ := pz_fu hn
    rw [fC_State_oldBits_13_4, hv.2.1, if_neg (nI_ge (by omega) (by omega))]
    rw [e_isOld_13 hv hr (by omega), ev_I, it_b0]
    cases hp : w_old V w i
    · rw [if_neg pz_ft, orB_F (c := w_old V w) hp, nI_1 i]
      exact ih n (i + 1) (by omega) (by omega)
    · rw [if_pos rfl, ev_nx, orB_T (c := w_old V w) hp, nI_1 i]
      exact ih n (i + 1) (by omega) (by omega)
theorem e_oldBits_13 (hv : CV V S) (hr : RC V A w (S.2.1 52)) : fC_State_oldBits_13 S = some (rI (orB (w_old V w) (y_M V)), S) := e_oldBits_13_4 hv hr (y_M V) FU 0 (by omega) (by have := hv.ok.2.1; rw [pz_FU]; omega)
theorem e_everyLine_13_4 (hv : CV V S) (hr : RC V A w (S.2.1 52)) (hA : ∀ a, A a) : ∀ k n i, i + k = y_M V → k < n → fC_State_everyLine_13_4 n (nI (smN (w_sum V w) i)) (nI i) S = some (rI (nI (w_every V w)), S) := by
  have h1 := hv.ok.1
  have h2 := hv.ok.2.1
  have h3 := hv.ok.2.2.1
  intro k
  induction k with
  | zero =>
    intro n i hi hn
    obtain ⟨n, rfl⟩ := pz_fu hn
    rw [fC_State_everyLine_13_4, hv.2.1, if_pos (nI_le (by omega) (by omega))]
    have e : i = y_M V := by omega
    rw [e]; rfl
  | succ k ih =>
    intro n i hi hn
    obtain ⟨n, rfl⟩ := pz_fu hn
    rw [fC_State_everyLine_13_4, hv.2.1, if_neg (nI_ge (by omega) (by omega))]
    rw [e_linesOf_13 hv hr (hA i) (by omega), ev_I, ev_nx, nI_add, nI_1 i]
    exact ih n (i + 1) (by omega) (by omega)
theorem e_everyLine_13 (hv : CV V S) (hr : RC V A w (S.2.1 52)) (hA : ∀ a, A a) : fC_State_everyLine_13 S = some (rI (nI (w_every V w)), S) := e_everyLine_13_4 hv hr hA (y_M V) FU 0 (by omega) (by have := hv.ok.2.1; rw [pz_FU]; omega)
theorem e_allSlips_13_4 (hv : CV V S) (hr : RC V A w (S.2.1 52)) (hA : ∀ a, A a) : ∀ k n i, i + k = y_M V → k < n → fC_State_allSlips_13_4 n (smI (w_c w 2) i) (nI i) S = some (rI (smI (w_c w 2) (y_M V)), S) := by
  have h1 := hv.ok.1
  have h2 := hv.ok.2.1
  have h3 := hv.ok.2.2.1
  intro k
  induction k with
  | zero =>
    intro n i hi hn
    obtain ⟨n, rfl⟩ := pz_fu hn
    rw [fC_State_allSlips_13_4, hv.2.1, if_pos (nI_le (by omega) (by omega))]
    have e : i = y_M V := by omega
    rw [e]
  | succ k ih =>
    intro n i hi hn
    obtain ⟨n, rfl⟩ := pz_fu hn
    rw [fC_State_allSlips_13_4, hv.2.1, if_neg (nI_ge (by omega) (by omega))]
    rw [show (60 : Int32) + nI i = nI (60 + i) from nI_add 60 i, pz_gib (by omega) (by omega), pz_rA (by omega), (hr.2.1 i (hA i) (by omega)).2.2.1, ev_nx, nI_1 i]
    exact ih n (i + 1) (by omega) (by omega)
theorem e_allSlips_13 (hv : CV V S) (hr : RC V A w (S.2.1 52)) (hA : ∀ a, A a) : fC_State_allSlips_13 S = some (rI (smI (w_c w 2) (y_M V)), S) := e_allSlips_13_4 hv hr hA (y_M V) FU 0 (by omega) (by have := hv.ok.2.1; rw [pz_FU]; omega)
theorem e_allLessons_13_4 (hv : CV V S) (hr : RC V A w (S.2.1 52)) (hA : ∀ a, A a) : ∀ k n i, i + k = y_M V → k < n → fC_State_allLessons_13_4 n (smI (w_c w 0) i) (nI i) S = some (rI (smI (w_c w 0) (y_M V)), S) := by
  have h1 := hv.ok.1
  have h2 := hv.ok.2.1
  have h3 := hv.ok.2.2.1
  intro k
  induction k with
  | zero =>
    intro n i hi hn
    obtain ⟨n, rfl⟩ := pz_fu hn
    rw [fC_State_allLessons_13_4, hv.2.1, if_pos (nI_le (by omega) (by omega))]
    have e : i = y_M V := by omega
    rw [e]
  | succ k ih =>
    intro n i hi hn
    obtain ⟨n, rfl⟩ := pz_fu hn
    rw [fC_State_allLessons_13_4, hv.2.1, if_neg (nI_ge (by omega) (by omega))]
    rw [show (48 : Int32) + nI i = nI (48 + i) from nI_add 48 i, pz_gib (by omega) (by omega), pz_rA (by omega), (hr.2.1 i (hA i) (by omega)).1, ev_nx, nI_1 i]
    exact ih n (i + 1) (by omega) (by omega)
theorem e_allLessons_13 (hv : CV V S) (hr : RC V A w (S.2.1 52)) (hA : ∀ a, A a) : fC_State_allLessons_13 S = some (rI (smI (w_c w 0) (y_M V)), S) := e_allLessons_13_4 hv hr hA (y_M V) FU 0 (by omega) (by have := hv.ok.2.1; rw [pz_FU]; omega)
theorem e_knowsAll_13 (hv : CV V S) (hr : RC V A w (S.2.1 52)) (hA : A a) (ha : a < y_M V) (hp : p < y_P V) : fC_State_knowsAll_13 (nI a) (nI p) S = some (rI (if w_all V w p a then 1 else 0), S) := by
  have h1 := hv.ok.1
  have h2 := hv.ok.2.1
  have h4 := hv.ok.l hp
  have h5 := hr.ok.1 a ha p hp
  rw [fC_State_knowsAll_13, fC_State_place, ev_I, e_ix, pz_gib (by omega) (by omega), pz_gib (by omega) (by omega), pz_rA (by omega), pz_rA (by omega), hr.1 a hA ha p hp, (hv.2.2.2.2.1 p hp).1, it_lt (by omega) (by omega)]
  unfold w_all
  by_cases q : w_K w a p < y_l V p
  · rw [if_pos q, decide_eq_false (by omega)]; rfl
  · rw [if_neg q, decide_eq_true (by omega)]; rfl
theorem e_linesKnown_13 (hv : CV V S) (hr : RC V A w (S.2.1 52)) (hA : A a) (ha : a < y_M V) (hp : p < y_P V) : fC_State_linesKnown_13 (nI a) (nI p) S = some (rI (nI (w_K w a p)), S) := by
  have h1 := hv.ok.1
  have h2 := hv.ok.2.1
  rw [fC_State_linesKnown_13, fC_State_place, ev_I, e_ix, pz_gib (by omega) (by omega), pz_rA (by omega), hr.1 a hA ha p hp]
theorem e_whoKnowAll_9_4 (hv : CV V S) (hr : RC V A w (S.2.1 46)) (hA : ∀ a, A a) (hp : p < y_P V) : ∀ k n i, i + k = y_M V → k < n → fC_State_whoKnowAll_9_4 n (nI p) (orB (w_all V w p) i) (nI i) S = some (rI (orB (w_all V w p) (y_M V)), S) := by
  have h1 := hv.ok.1
  have h2 := hv.ok.2.1
  have h3 := hv.ok.2.2.1
  intro k
  induction k with
  | zero =>
    intro n i hi hn
    obtain ⟨n, rfl⟩ := pz_fu hn
    rw [fC_State_whoKnowAll_9_4, hv.2.1, if_pos (nI_le (by omega) (by omega))]
    have e : i = y_M V := by omega
    rw [e]
  | succ k ih =>
    intro n i hi hn
    obtain ⟨n, rfl⟩ := pz_fu hn
    rw [fC_State_whoKnowAll_9_4, hv.2.1, if_neg (nI_ge (by omega) (by omega))]
    rw [e_knowsAll_9 hv hr (hA i) (by omega) hp, ev_I, it_b0]
    cases hq : w_all V w p i
    · rw [if_neg pz_ft, orB_F (c := w_all V w p) hq, nI_1 i]
      exact ih n (i + 1) (by omega) (by omega)
    · rw [if_pos rfl, ev_nx, orB_T (c := w_all V w p) hq, nI_1 i]
      exact ih n (i + 1) (by omega) (by omega)
theorem e_whoKnowAll_9 (hv : CV V S) (hr : RC V A w (S.2.1 46)) (hA : ∀ a, A a) (hp : p < y_P V) : fC_State_whoKnowAll_9 (nI p) S = some (rI (orB (w_all V w p) (y_M V)), S) := e_whoKnowAll_9_4 hv hr hA hp (y_M V) FU 0 (by omega) (by have := hv.ok.2.1; rw [pz_FU]; omega)
theorem e_debtsOfMan_2_4 (hv : CV V S) (hb : v < 2 ^ 31) : ∀ k n i, i + k = y_D V → k < n → fC_Valley_debtsOfMan_2_4 n (nI v) (orB (fun d => decide (y_dm V d = v)) i) (nI i) S = some (rI (orB (fun d => decide (y_dm V d = v)) (y_D V)), S) := by
  have h1 := hv.ok.1
  have h2 := hv.ok.2.1
  have h3 := hv.ok.2.2.1
  intro k
  induction k with
  | zero =>
    intro n i hi hn
    obtain ⟨n, rfl⟩ := pz_fu hn
    rw [fC_Valley_debtsOfMan_2_4, hv.2.2.1, if_pos (nI_le (by omega) (by omega))]
    have e : i = y_D V := by omega
    rw [e]
  | succ k ih =>
    intro n i hi hn
    obtain ⟨n, rfl⟩ := pz_fu hn
    rw [fC_Valley_debtsOfMan_2_4, hv.2.2.1, if_neg (nI_ge (by omega) (by omega))]
    have h6 := hv.2.2.2.2.2.2.1 i (by omega)
    have h7 := hv.ok.d (d := i) (by omega)
    rw [pz_gib (by omega) (by omega), pz_rA (by omega), h6.1, it_eq (by omega) (by omega)]
    by_cases q : y_dm V i = v
    · rw [if_pos q, ev_nx, orB_T (c := fun d => decide (y_dm V d = v)) (decide_eq_true q), nI_1 i]
      exact ih n (i + 1) (by omega) (by omega)
    · rw [if_neg q, orB_F (c := fun d => decide (y_dm V d = v)) (decide_eq_false q), nI_1 i]
      exact ih n (i + 1) (by omega) (by omega)
theorem e_debtsOfMan_2 (hv : CV V S) (hb : v < 2 ^ 31) : fC_Valley_debtsOfMan_2 (nI v) S = some (rI (orB (fun d => decide (y_dm V d = v)) (y_D V)), S) := e_debtsOfMan_2_4 hv hb (y_D V) FU 0 (by omega) (by have := hv.ok.2.2.1; rw [pz_FU]; omega)
theorem e_debtsByPoem_2_4 (hv : CV V S) (hb : v < 2 ^ 31) : ∀ k n i, i + k = y_D V → k < n → fC_Valley_debtsByPoem_2_4 n (nI v) (orB (fun d => decide (y_dp V d = v)) i) (nI i) S = some (rI (orB (fun d => decide (y_dp V d = v)) (y_D V)), S) := by
  have h1 := hv.ok.1
  have h2 := hv.ok.2.1
  have h3 := hv.ok.2.2.1
  intro k
  induction k with
  | zero =>
    intro n i hi hn
    obtain ⟨n, rfl⟩ := pz_fu hn
    rw [fC_Valley_debtsByPoem_2_4, hv.2.2.1, if_pos (nI_le (by omega) (by omega))]
    have e : i = y_D V := by omega
    rw [e]
  | succ k ih =>
    intro n i hi hn
    obtain ⟨n, rfl⟩ := pz_fu hn
    rw [fC_Valley_debtsByPoem_2_4, hv.2.2.1, if_neg (nI_ge (by omega) (by omega))]
    have h6 := hv.2.2.2.2.2.2.1 i (by omega)
    have h7 := hv.ok.d (d := i) (by omega)
    rw [pz_gib (by omega) (by omega), pz_rA (by omega), h6.2.1, it_eq (by omega) (by omega)]
    by_cases q : y_dp V i = v
    · rw [if_pos q, ev_nx, orB_T (c := fun d => decide (y_dp V d = v)) (decide_eq_true q), nI_1 i]
      exact ih n (i + 1) (by omega) (by omega)
    · rw [if_neg q, orB_F (c := fun d => decide (y_dp V d = v)) (decide_eq_false q), nI_1 i]
      exact ih n (i + 1) (by omega) (by omega)
theorem e_debtsByPoem_2 (hv : CV V S) (hb : v < 2 ^ 31) : fC_Valley_debtsByPoem_2 (nI v) S = some (rI (orB (fun d => decide (y_dp V d = v)) (y_D V)), S) := e_debtsByPoem_2_4 hv hb (y_D V) FU 0 (by omega) (by have := hv.ok.2.2.1; rw [pz_FU]; omega)
theorem e_needOf_9 (hv : CV V S) (hL : CLw L S) (hr : RC V A w (S.2.1 46)) (hd : d < y_D V) (hA : A (y_dm V d)) : ∃ T, fC_State_needOf_9 (nI d) S = some (rI (nI (w_need V L w d)), T) ∧ frm [] [32, 33] S T := by
  have h1 := hv.ok.1
  have h2 := hv.ok.2.1
  have h3 := hv.ok.2.2.1
  have h5 := hv.ok.d hd
  have h6 := hv.2.2.2.2.2.2.1 d hd
  have h7 := hv.ok.l h5.2.1
  have h8 := hr.1 _ hA h5.1 _ h5.2.1
  have h9 := hr.ok.1 _ h5.1 _ h5.2.1
  have h10 : w_learn V L w (y_dm V d) (y_dp V d) ≤ 20 := hL.2 _
  obtain ⟨T, e, g⟩ := e_learnable_9 hv hL hr hA h5.1 h5.2.1
  rw [fC_State_needOf_9, pz_gib (by omega) (by omega), pz_rA (by omega), h6.1, ev_nx, pz_gib (by omega) (by omega), pz_rA (by omega), h6.2.1, ev_nx, pz_gib (by omega) (by omega), fC_State_place, ev_I, e_ix, pz_gib (by omega) (by omega), pz_rA (by omega), pz_rA (by omega), h8, (hv.2.2.2.2.1 _ h5.2.1).1, pk_sub h9, ev_nx, it_Llt (by omega) (by omega)]
  unfold w_need
  by_cases q : y_l V (y_dp V d) ≤ w_K w (y_dm V d) (y_dp V d)
  · rw [if_pos q, if_neg (by omega)]
    exact ⟨S, rfl, frm.rf⟩
  · rw [if_neg q, if_pos (by omega), e_roomOf_9 hv hr hA h5.1, ev_I, e, ev_I, it_Llt (by omega) (by omega)]
    by_cases q2 : w_learn V L w (y_dm V d) (y_dp V d) = 0
    · rw [if_pos q2, if_neg (by omega)]
      exact ⟨T, rfl, g⟩
    · rw [if_neg q2, if_pos (by omega), gdT (pz_nz (by omega) (by omega)), nI_add, show (1 : Int32) = nI 1 from rfl, pk_sub (by omega), pk_div (by omega) (by omega) (by omega)]
      exact ⟨T, rfl, g⟩
theorem r_copies_3 {N : Nat} (hN : N ≤ 16) : ∀ k n i (S : St), i + k = N → k < n → ∃ T, fR_copies_3 n (nI N) (nI i) S = some (rV, T) ∧ frm [] [6] S T ∧ (∀ j, i ≤ j → j < N → T.2.1 6 j = S.2.1 3 j) ∧ ∀ j, (j < i ∨ N ≤ j) → T.2.1 6 j = S.2.1 6 j := by
  intro k
  induction k with
  | zero =>
    intro n i S hi hn
    obtain ⟨n, rfl⟩ := pz_fu hn
    rw [fR_copies_3, if_pos (nI_le (by omega) (by omega))]
    exact ⟨S, rfl, frm.rf, fun j h1 h2 => by omega, fun _ _ => rfl⟩
  | succ k ih =>
    intro n i S hi hn
    obtain ⟨n, rfl⟩ := pz_fu hn
    rw [fR_copies_3, if_neg (nI_ge (by omega) (by omega)), pz_gib (by omega) (by omega), pz_gib (by omega) (by omega), pz_rA (by omega), ev_nx, nI_1 i]
    obtain ⟨T, e, g, h, h2⟩ := ih n (i + 1) (sA S 6 (nI i) (S.2.1 3 i)) (by omega) (by omega)
    refine ⟨T, e, (frm.rf.A (by simp)).tr g, fun j h3 h4 => ?_, fun j h3 => ?_⟩
    · by_cases q : j = i
      · rw [h2 j (by omega), tA_21, if_pos rfl, nI_clamp (by omega), q, upd_s]
      · rw [h j (by omega) h4, tA_21, if_neg (by decide)]
    · rw [h2 j (by omega), tA_21, if_pos rfl, nI_clamp (by omega), upd_n _ _ (by omega)]
theorem r_copies {N : Nat} (hN : N ≤ 16) (S : St) : ∃ T, fR_copies (nI N) S = some (rV, T) ∧ frm [] [6] S T ∧ (∀ j, j < N → T.2.1 6 j = S.2.1 3 j) ∧ ∀ j, N ≤ j → T.2.1 6 j = S.2.1 6 j := by
  obtain ⟨T, e, g, h, h2⟩ := r_copies_3 hN N FU 0 S (by omega) (by rw [pz_FU]; omega)
  exact ⟨T, e, g, fun j hj => h j (Nat.zero_le _) hj, fun j hj => h2 j (Or.inr hj)⟩
theorem r_copies_v220_3 {N : Nat} (hN : N ≤ 12) : ∀ k n i (S : St), i + k = N → k < n → ∃ T, fR_copies_v220_3 n (nI N) (nI i) S = some (rV, T) ∧ frm [] [7] S T ∧ (∀ j, i ≤ j → j < N → T.2.1 7 j = S.2.1 4 j) ∧ ∀ j, (j < i ∨ N ≤ j) → T.2.1 7 j = S.2.1 7 j := by
  intro k
  induction k with
  | zero =>
    intro n i S hi hn
    obtain ⟨n, rfl⟩ := pz_fu hn
    rw [fR_copies_v220_3, if_pos (nI_le (by omega) (by omega))]
    exact ⟨S, rfl, frm.rf, fun j h1 h2 => by omega, fun _ _ => rfl⟩
  | succ k ih =>
    intro n i S hi hn
    obtain ⟨n, rfl⟩ := pz_fu hn
    rw [fR_copies_v220_3, if_neg (nI_ge (by omega) (by omega)), pz_gib (by omega) (by omega), pz_gib (by omega) (by omega), pz_rA (by omega), ev_nx, nI_1 i]
    obtain ⟨T, e, g, h, h2⟩ := ih n (i + 1) (sA S 7 (nI i) (S.2.1 4 i)) (by omega) (by omega)
    refine ⟨T, e, (frm.rf.A (by simp)).tr g, fun j h3 h4 => ?_, fun j h3 => ?_⟩
    · by_cases q : j = i
      · rw [h2 j (by omega), tA_21, if_pos rfl, nI_clamp (by omega), q, upd_s]
      · rw [h j (by omega) h4, tA_21, if_neg (by decide)]
    · rw [h2 j (by omega), tA_21, if_pos rfl, nI_clamp (by omega), upd_n _ _ (by omega)]
theorem r_copies_v220 {N : Nat} (hN : N ≤ 12) (S : St) : ∃ T, fR_copies_v220 (nI N) S = some (rV, T) ∧ frm [] [7] S T ∧ (∀ j, j < N → T.2.1 7 j = S.2.1 4 j) ∧ ∀ j, N ≤ j → T.2.1 7 j = S.2.1 7 j := by
  obtain ⟨T, e, g, h, h2⟩ := r_copies_v220_3 hN N FU 0 S (by omega) (by rw [pz_FU]; omega)
  exact ⟨T, e, g, fun j hj => h j (Nat.zero_le _) hj, fun j hj => h2 j (Or.inr hj)⟩
theorem r_copies_v221_3 {N : Nat} (hN : N ≤ 40) : ∀ k n i (S : St), i + k = N → k < n → ∃ T, fR_copies_v221_3 n (nI N) (nI i) S = some (rV, T) ∧ frm [] [8] S T ∧ (∀ j, i ≤ j → j < N → T.2.1 8 j = S.2.1 5 j) ∧ ∀ j, (j < i ∨ N ≤ j) → T.2.1 8 j = S.2.1 8 j := by
  intro k
  induction k with
  | zero =>
    intro n i S hi hn
    obtain ⟨n, rfl⟩ := pz_fu hn
    rw [fR_copies_v221_3, if_pos (nI_le (by omega) (by omega))]
    exact ⟨S, rfl, frm.rf, fun j h1 h2 => by omega, fun _ _ => rfl⟩
  | succ k ih =>
    intro n i S hi hn
    obtain ⟨n, rfl⟩ := pz_fu hn
    rw [fR_copies_v221_3, if_neg (nI_ge (by omega) (by omega)), pz_gib (by omega) (by omega), pz_gib (by omega) (by omega), pz_rA (by omega), ev_nx, nI_1 i]
    obtain ⟨T, e, g, h, h2⟩ := ih n (i + 1) (sA S 8 (nI i) (S.2.1 5 i)) (by omega) (by omega)
    refine ⟨T, e, (frm.rf.A (by simp)).tr g, fun j h3 h4 => ?_, fun j h3 => ?_⟩
    · by_cases q : j = i
      · rw [h2 j (by omega), tA_21, if_pos rfl, nI_clamp (by omega), q, upd_s]
      · rw [h j (by omega) h4, tA_21, if_neg (by decide)]
    · rw [h2 j (by omega), tA_21, if_pos rfl, nI_clamp (by omega), upd_n _ _ (by omega)]
theorem r_copies_v221 {N : Nat} (hN : N ≤ 40) (S : St) : ∃ T, fR_copies_v221 (nI N) S = some (rV, T) ∧ frm [] [8] S T ∧ (∀ j, j < N → T.2.1 8 j = S.2.1 5 j) ∧ ∀ j, N ≤ j → T.2.1 8 j = S.2.1 8 j := by
  obtain ⟨T, e, g, h, h2⟩ := r_copies_v221_3 hN N FU 0 S (by omega) (by rw [pz_FU]; omega)
  exact ⟨T, e, g, fun j hj => h j (Nat.zero_le _) hj, fun j hj => h2 j (Or.inr hj)⟩
theorem r_copies_v244_3 {N : Nat} (hN : N ≤ 150) : ∀ k n i (S : St), i + k = N → k < n → ∃ T, fR_copies_v244_3 n (nI N) (nI i) S = some (rV, T) ∧ frm [] [11] S T ∧ (∀ j, i ≤ j → j < N → T.2.1 11 j = S.2.1 9 j) ∧ ∀ j, (j < i ∨ N ≤ j) → T.2.1 11 j = S.2.1 11 j := by
  intro k
  induction k with
  | zero =>
    intro n i S hi hn
    obtain ⟨n, rfl⟩ := pz_fu hn
    rw [fR_copies_v244_3, if_pos (nI_le (by omega) (by omega))]
    exact ⟨S, rfl, frm.rf, fun j h1 h2 => by omega, fun _ _ => rfl⟩
  | succ k ih =>
    intro n i S hi hn
    obtain ⟨n, rfl⟩ := pz_fu hn
    rw [fR_copies_v244_3, if_neg (nI_ge (by omega) (by omega)), pz_gib (by omega) (by omega), pz_gib (by omega) (by omega), pz_rA (by omega), ev_nx, nI_1 i]
    obtain ⟨T, e, g, h, h2⟩ := ih n (i + 1) (sA S 11 (nI i) (S.2.1 9 i)) (by omega) (by omega)
    refine ⟨T, e, (frm.rf.A (by simp)).tr g, fun j h3 h4 => ?_, fun j h3 => ?_⟩
    · by_cases q : j = i
      · rw [h2 j (by omega), tA_21, if_pos rfl, nI_clamp (by omega), q, upd_s]
      · rw [h j (by omega) h4, tA_21, if_neg (by decide)]
    · rw [h2 j (by omega), tA_21, if_pos rfl, nI_clamp (by omega), upd_n _ _ (by omega)]
theorem r_copies_v244 {N : Nat} (hN : N ≤ 150) (S : St) : ∃ T, fR_copies_v244 (nI N) S = some (rV, T) ∧ frm [] [11] S T ∧ (∀ j, j < N → T.2.1 11 j = S.2.1 9 j) ∧ ∀ j, N ≤ j → T.2.1 11 j = S.2.1 11 j := by
  obtain ⟨T, e, g, h, h2⟩ := r_copies_v244_3 hN N FU 0 S (by omega) (by rw [pz_FU]; omega)
  exact ⟨T, e, g, fun j hj => h j (Nat.zero_le _) hj, fun j hj => h2 j (Or.inr hj)⟩
theorem r_copies_v245_3 {N : Nat} (hN : N ≤ 150) : ∀ k n i (S : St), i + k = N → k < n → ∃ T, fR_copies_v245_3 n (nI N) (nI i) S = some (rV, T) ∧ frm [] [12] S T ∧ (∀ j, i ≤ j → j < N → T.2.1 12 j = S.2.1 10 j) ∧ ∀ j, (j < i ∨ N ≤ j) → T.2.1 12 j = S.2.1 12 j := by
  intro k
  induction k with
  | zero =>
    intro n i S hi hn
    obtain ⟨n, rfl⟩ := pz_fu hn
    rw [fR_copies_v245_3, if_pos (nI_le (by omega) (by omega))]
    exact ⟨S, rfl, frm.rf, fun j h1 h2 => by omega, fun _ _ => rfl⟩
  | succ k ih =>
    intro n i S hi hn
    obtain ⟨n, rfl⟩ := pz_fu hn
    rw [fR_copies_v245_3, if_neg (nI_ge (by omega) (by omega)), pz_gib (by omega) (by omega), pz_gib (by omega) (by omega), pz_rA (by omega), ev_nx, nI_1 i]
    obtain ⟨T, e, g, h, h2⟩ := ih n (i + 1) (sA S 12 (nI i) (S.2.1 10 i)) (by omega) (by omega)
    refine ⟨T, e, (frm.rf.A (by simp)).tr g, fun j h3 h4 => ?_, fun j h3 => ?_⟩
    · by_cases q : j = i
      · rw [h2 j (by omega), tA_21, if_pos rfl, nI_clamp (by omega), q, upd_s]
      · rw [h j (by omega) h4, tA_21, if_neg (by decide)]
    · rw [h2 j (by omega), tA_21, if_pos rfl, nI_clamp (by omega), upd_n _ _ (by omega)]
theorem r_copies_v245 {N : Nat} (hN : N ≤ 150) (S : St) : ∃ T, fR_copies_v245 (nI N) S = some (rV, T) ∧ frm [] [12] S T ∧ (∀ j, j < N → T.2.1 12 j = S.2.1 10 j) ∧ ∀ j, N ≤ j → T.2.1 12 j = S.2.1 12 j := by
  obtain ⟨T, e, g, h, h2⟩ := r_copies_v245_3 hN N FU 0 S (by omega) (by rw [pz_FU]; omega)
  exact ⟨T, e, g, fun j hj => h j (Nat.zero_le _) hj, fun j hj => h2 j (Or.inr hj)⟩
theorem r_copies_v255_3 {N : Nat} (hN : N ≤ 150) : ∀ k n i (S : St), i + k = N → k < n → ∃ T, fR_copies_v255_3 n (nI N) (nI i) S = some (rV, T) ∧ frm [] [16] S T ∧ (∀ j, i ≤ j → j < N → T.2.1 16 j = S.2.1 15 j) ∧ ∀ j, (j < i ∨ N ≤ j) → T.2.1 16 j = S.2.1 16 j := by
  intro k
  induction k with
  | zero =>
    intro n i S hi hn
    obtain ⟨n, rfl⟩ := pz_fu hn
    rw [fR_copies_v255_3, if_pos (nI_le (by omega) (by omega))]
    exact ⟨S, rfl, frm.rf, fun j h1 h2 => by omega, fun _ _ => rfl⟩
  | succ k ih =>
    intro n i S hi hn
    obtain ⟨n, rfl⟩ := pz_fu hn
    rw [fR_copies_v255_3, if_neg (nI_ge (by omega) (by omega)), pz_gib (by omega) (by omega), pz_gib (by omega) (by omega), pz_rA (by omega), ev_nx, nI_1 i]
    obtain ⟨T, e, g, h, h2⟩ := ih n (i + 1) (sA S 16 (nI i) (S.2.1 15 i)) (by omega) (by omega)
    refine ⟨T, e, (frm.rf.A (by simp)).tr g, fun j h3 h4 => ?_, fun j h3 => ?_⟩
    · by_cases q : j = i
      · rw [h2 j (by omega), tA_21, if_pos rfl, nI_clamp (by omega), q, upd_s]
      · rw [h j (by omega) h4, tA_21, if_neg (by decide)]
    · rw [h2 j (by omega), tA_21, if_pos rfl, nI_clamp (by omega), upd_n _ _ (by omega)]
theorem r_copies_v255 {N : Nat} (hN : N ≤ 150) (S : St) : ∃ T, fR_copies_v255 (nI N) S = some (rV, T) ∧ frm [] [16] S T ∧ (∀ j, j < N → T.2.1 16 j = S.2.1 15 j) ∧ ∀ j, N ≤ j → T.2.1 16 j = S.2.1 16 j := by
  obtain ⟨T, e, g, h, h2⟩ := r_copies_v255_3 hN N FU 0 S (by omega) (by rw [pz_FU]; omega)
  exact ⟨T, e, g, fun j hj => h j (Nat.zero_le _) hj, fun j hj => h2 j (Or.inr hj)⟩
theorem r_copies_v257_3 {N : Nat} (hN : N ≤ 95) : ∀ k n i (S : St), i + k = N → k < n → ∃ T, fR_copies_v257_3 n (nI N) (nI i) S = some (rV, T) ∧ frm [] [18] S T ∧ (∀ j, i ≤ j → j < N → T.2.1 18 j = S.2.1 17 j) ∧ ∀ j, (j < i ∨ N ≤ j) → T.2.1 18 j = S.2.1 18 j := by
  intro k
  induction k with
  | zero =>
    intro n i S hi hn
    obtain ⟨n, rfl⟩ := pz_fu hn
    rw [fR_copies_v257_3, if_pos (nI_le (by omega) (by omega))]
    exact ⟨S, rfl, frm.rf, fun j h1 h2 => by omega, fun _ _ => rfl⟩
  | succ k ih =>
    intro n i S hi hn
    obtain ⟨n, rfl⟩ := pz_fu hn
    rw [fR_copies_v257_3, if_neg (nI_ge (by omega) (by omega)), pz_gib (by omega) (by omega), pz_gib (by omega) (by omega), pz_rA (by omega), ev_nx, nI_1 i]
    obtain ⟨T, e, g, h, h2⟩ := ih n (i + 1) (sA S 18 (nI i) (S.2.1 17 i)) (by omega) (by omega)
    refine ⟨T, e, (frm.rf.A (by simp)).tr g, fun j h3 h4 => ?_, fun j h3 => ?_⟩
    · by_cases q : j = i
      · rw [h2 j (by omega), tA_21, if_pos rfl, nI_clamp (by omega), q, upd_s]
      · rw [h j (by omega) h4, tA_21, if_neg (by decide)]
    · rw [h2 j (by omega), tA_21, if_pos rfl, nI_clamp (by omega), upd_n _ _ (by omega)]
theorem r_copies_v257 {N : Nat} (hN : N ≤ 95) (S : St) : ∃ T, fR_copies_v257 (nI N) S = some (rV, T) ∧ frm [] [18] S T ∧ (∀ j, j < N → T.2.1 18 j = S.2.1 17 j) ∧ ∀ j, N ≤ j → T.2.1 18 j = S.2.1 18 j := by
  obtain ⟨T, e, g, h, h2⟩ := r_copies_v257_3 hN N FU 0 S (by omega) (by rw [pz_FU]; omega)
  exact ⟨T, e, g, fun j hj => h j (Nat.zero_le _) hj, fun j hj => h2 j (Or.inr hj)⟩
theorem r_copies_v280_3 {N : Nat} (hN : N ≤ 95) : ∀ k n i (S : St), i + k = N → k < n → ∃ T, fR_copies_v280_3 n (nI N) (nI i) S = some (rV, T) ∧ frm [] [17] S T ∧ (∀ j, i ≤ j → j < N → T.2.1 17 j = S.2.1 18 j) ∧ ∀ j, (j < i ∨ N ≤ j) → T.2.1 17 j = S.2.1 17 j := by
  intro k
  induction k with
  | zero =>
    intro n i S hi hn
    obtain ⟨n, rfl⟩ := pz_fu hn
    rw [fR_copies_v280_3, if_pos (nI_le (by omega) (by omega))]
    exact ⟨S, rfl, frm.rf, fun j h1 h2 => by omega, fun _ _ => rfl⟩
  | succ k ih =>
    intro n i S hi hn
    obtain ⟨n, rfl⟩ := pz_fu hn
    rw [fR_copies_v280_3, if_neg (nI_ge (by omega) (by omega)), pz_gib (by omega) (by omega), pz_gib (by omega) (by omega), pz_rA (by omega), ev_nx, nI_1 i]
    obtain ⟨T, e, g, h, h2⟩ := ih n (i + 1) (sA S 17 (nI i) (S.2.1 18 i)) (by omega) (by omega)
    refine ⟨T, e, (frm.rf.A (by simp)).tr g, fun j h3 h4 => ?_, fun j h3 => ?_⟩
    · by_cases q : j = i
      · rw [h2 j (by omega), tA_21, if_pos rfl, nI_clamp (by omega), q, upd_s]
      · rw [h j (by omega) h4, tA_21, if_neg (by decide)]
    · rw [h2 j (by omega), tA_21, if_pos rfl, nI_clamp (by omega), upd_n _ _ (by omega)]
theorem r_copies_v280 {N : Nat} (hN : N ≤ 95) (S : St) : ∃ T, fR_copies_v280 (nI N) S = some (rV, T) ∧ frm [] [17] S T ∧ (∀ j, j < N → T.2.1 17 j = S.2.1 18 j) ∧ ∀ j, N ≤ j → T.2.1 17 j = S.2.1 17 j := by
  obtain ⟨T, e, g, h, h2⟩ := r_copies_v280_3 hN N FU 0 S (by omega) (by rw [pz_FU]; omega)
  exact ⟨T, e, g, fun j hj => h j (Nat.zero_le _) hj, fun j hj => h2 j (Or.inr hj)⟩
theorem r_copies_v282_3 {N : Nat} (hN : N ≤ 18) : ∀ k n i (S : St), i + k = N → k < n → ∃ T, fR_copies_v282_3 n (nI N) (nI i) S = some (rV, T) ∧ frm [] [21] S T ∧ (∀ j, i ≤ j → j < N → T.2.1 21 j = S.2.1 20 j) ∧ ∀ j, (j < i ∨ N ≤ j) → T.2.1 21 j = S.2.1 21 j := by
  intro k
  induction k with
  | zero =>
    intro n i S hi hn
    obtain ⟨n, rfl⟩ := pz_fu hn
    rw [fR_copies_v282_3, if_pos (nI_le (by omega) (by omega))]
    exact ⟨S, rfl, frm.rf, fun j h1 h2 => by omega, fun _ _ => rfl⟩
  | succ k ih =>
    intro n i S hi hn
    obtain ⟨n, rfl⟩ := pz_fu hn
    rw [fR_copies_v282_3, if_neg (nI_ge (by omega) (by omega)), pz_gib (by omega) (by omega), pz_gib (by omega) (by omega), pz_rA (by omega), ev_nx, nI_1 i]
    obtain ⟨T, e, g, h, h2⟩ := ih n (i + 1) (sA S 21 (nI i) (S.2.1 20 i)) (by omega) (by omega)
    refine ⟨T, e, (frm.rf.A (by simp)).tr g, fun j h3 h4 => ?_, fun j h3 => ?_⟩
    · by_cases q : j = i
      · rw [h2 j (by omega), tA_21, if_pos rfl, nI_clamp (by omega), q, upd_s]
      · rw [h j (by omega) h4, tA_21, if_neg (by decide)]
    · rw [h2 j (by omega), tA_21, if_pos rfl, nI_clamp (by omega), upd_n _ _ (by omega)]
theorem r_copies_v282 {N : Nat} (hN : N ≤ 18) (S : St) : ∃ T, fR_copies_v282 (nI N) S = some (rV, T) ∧ frm [] [21] S T ∧ (∀ j, j < N → T.2.1 21 j = S.2.1 20 j) ∧ ∀ j, N ≤ j → T.2.1 21 j = S.2.1 21 j := by
  obtain ⟨T, e, g, h, h2⟩ := r_copies_v282_3 hN N FU 0 S (by omega) (by rw [pz_FU]; omega)
  exact ⟨T, e, g, fun j hj => h j (Nat.zero_le _) hj, fun j hj => h2 j (Or.inr hj)⟩
theorem r_take (hV : VOK V) (hr : RR V A w (S.2.1 17)) : ∃ T, fR_take S = some (rV, T) ∧ frm [] [18] S T ∧ RR V A w (T.2.1 18) := by
  obtain ⟨T, e, g, h, -⟩ := r_copies_v257 (N := 95) (by omega) S
  refine ⟨T, ?_, g, hr.ptw hV h⟩
  rw [fR_take, show (95 : Int32) = nI 95 from rfl, e, ev_V]
theorem r_allLines_4 (hv : RV V S) (hr : RR V A w (S.2.1 18)) (hA : ∀ a, A a) : ∀ k n i, i + k = y_M V → k < n → fR_allLines_4 n (nI (smN (w_sum V w) i)) (nI i) S = some (rI (nI (w_every V w)), S) := by
  have h1 := hv.ok.1
  have h2 := hv.ok.2.1
  have h3 := hv.ok.2.2.1
  intro k
  induction k with
  | zero =>
    intro n i hi hn
    obtain ⟨n, rfl⟩ := pz_fu hn
    rw [fR_allLines_4, hv.2.1, if_pos (nI_le (by omega) (by omega))]
    have e : i = y_M V := by omega
    rw [e]; rfl
  | succ k ih =>
    intro n i hi hn
    obtain ⟨n, rfl⟩ := pz_fu hn
    rw [fR_allLines_4, hv.2.1, if_neg (nI_ge (by omega) (by omega))]
    rw [r_allOf hv hr (hA i) (by omega), ev_I, ev_nx, nI_add, nI_1 i]
    exact ih n (i + 1) (by omega) (by omega)
theorem r_allLines (hv : RV V S) (hr : RR V A w (S.2.1 18)) (hA : ∀ a, A a) : fR_allLines S = some (rI (nI (w_every V w)), S) := r_allLines_4 hv hr hA (y_M V) FU 0 (by omega) (by have := hv.ok.2.1; rw [pz_FU]; omega)
theorem r_lateNow_4 (hv : RV V S) (hr : RR V A w (S.2.1 18)) : ∀ k n i, i + k = y_D V → k < n → fR_lateNow_4 n (orB (w_late V w) i) (nI i) S = some (rI (orB (w_late V w) (y_D V)), S) := by
  have h1 := hv.ok.1
  have h2 := hv.ok.2.1
  have h3 := hv.ok.2.2.1
  have h4 := hr.ok.2
  intro k
  induction k with
  | zero =>
    intro n i hi hn
    obtain ⟨n, rfl⟩ := pz_fu hn
    rw [fR_lateNow_4, hv.2.2.1, if_pos (nI_le (by omega) (by omega))]
    have e : i = y_D V := by omega
    rw [e]
  | succ k ih =>
    intro n i hi hn
    obtain ⟨n, rfl⟩ := pz_fu hn
    rw [fR_lateNow_4, hv.2.2.1, if_neg (nI_ge (by omega) (by omega))]
    have h6 := hv.2.2.2.2.2.2.1 i (by omega)
    have h7 := hv.ok.d (d := i) (by omega)
    rw [show (84 : Int32) + nI i = nI (84 + i) from nI_add 84 i, pz_gib (by omega) (by omega), pz_rA (by omega), hr.2.2.1 i (by omega), it_b0]
    cases hp : w_p w i
    · rw [if_neg pz_ft, r_i43, pz_gib (by omega) (by omega), show (94 : Int32) = nI 94 from rfl, pz_rA (by omega), pz_rA (by omega), hr.2.2.2.1, h6.2.2.2, it_le (by omega) (by omega)]
      by_cases q : w_t w ≤ y_dd V i
      · rw [if_pos q, ev_nx, or0_F (c := w_late V w) (by rw [w_late, decide_eq_false (by omega), Bool.and_false]), nI_1 i]
        exact ih n (i + 1) (by omega) (by omega)
      · rw [if_neg q, ev_nx, orB_T (c := w_late V w) (by rw [w_late, hp, decide_eq_true (by omega)]; rfl), nI_1 i]
        exact ih n (i + 1) (by omega) (by omega)
    · rw [if_pos rfl, ev_nx, or0_F (c := w_late V w) (by rw [w_late, hp]; rfl), nI_1 i]
      exact ih n (i + 1) (by omega) (by omega)
theorem r_lateNow (hv : RV V S) (hr : RR V A w (S.2.1 18)) : fR_lateNow S = some (rI (orB (w_late V w) (y_D V)), S) := r_lateNow_4 hv hr (y_D V) FU 0 (by omega) (by have := hv.ok.2.2.1; rw [pz_FU]; omega)
theorem sh_0 : ∀ d, d < 32 → (0 : Int32) <<< (nI d &&& 31) = 0 := by decide +kernel
theorem r_bitsOf_5 {o N : Nat} {c : Nat → Bool} (hN : N ≤ 31) (ho : o + N ≤ 95) (hc : ∀ j, j < N → S.2.1 18 (o + j) = if c j then 1 else 0) : ∀ k n i, i + k = N → k < n → fR_bitsOf_5 n (nI o) (nI N) (orB c i) (nI i) S = some (rI (orB c N), S) := by
  intro k
  induction k with
  | zero =>
    intro n i hi hn
    obtain ⟨n, rfl⟩ := pz_fu hn
    rw [fR_bitsOf_5, if_pos (nI_le (by omega) (by omega))]
    have e : i = N := by omega
    rw [e]
  | succ k ih =>
    intro n i hi hn
    obtain ⟨n, rfl⟩ := pz_fu hn
    rw [fR_bitsOf_5, if_neg (nI_ge (by omega) (by omega)), nI_add, pz_gib (by omega) (by omega), pz_rA (by omega), hc i (by omega)]
    cases q : c i
    · rw [if_neg pz_ft, sh_0 i (by omega), ev_nx, or0_F (c := c) q, nI_1 i]
      exact ih n (i + 1) (by omega) (by omega)
    · rw [if_pos rfl, ev_nx, orB_T (c := c) q, nI_1 i]
      exact ih n (i + 1) (by omega) (by omega)
theorem r_bitsOf {o N : Nat} {c : Nat → Bool} (hN : N ≤ 31) (ho : o + N ≤ 95) (hc : ∀ j, j < N → S.2.1 18 (o + j) = if c j then 1 else 0) : fR_bitsOf (nI o) (nI N) S = some (rI (orB c N), S) := r_bitsOf_5 hN ho hc N FU 0 (by omega) (by rw [pz_FU]; omega)
theorem r_bitsP (hv : RV V S) (hr : RR V A w (S.2.1 18)) : fR_bitsOf 84 (S.1 14) S = some (rI (orB (w_p w) (y_D V)), S) := by
  have h3 := hv.ok.2.2.1
  rw [hv.2.2.1]
  exact r_bitsOf (o := 84) (by omega) (by omega) (fun j hj => hr.2.2.1 j hj)
theorem r_bitsO (hv : RV V S) (hr : RR V A w (S.2.1 18)) (hA : ∀ a, A a) : fR_bitsOf 54 (S.1 13) S = some (rI (orB (w_old V w) (y_M V)), S) := by
  have h3 := hv.ok.2.1
  rw [hv.2.1]
  exact r_bitsOf (o := 54) (by omega) (by omega) (fun j hj => (hr.2.1 j (hA j) hj).2.1)
theorem r_sumI {o N : Nat} {g : Nat → Int32} (hN : o + N ≤ 95) (hc : ∀ j, j < N → S.2.1 18 (o + j) = g j) : ∀ k n i, i + k = N → k < n → fR_sumOf_5 n (nI o) (nI N) (smI g i) (nI i) S = some (rI (smI g N), S) := by
  intro k
  induction k with
  | zero =>
    intro n i hi hn
    obtain ⟨n, rfl⟩ := pz_fu hn
    rw [fR_sumOf_5, if_pos (nI_le (by omega) (by omega))]
    have e : i = N := by omega
    rw [e]
  | succ k ih =>
    intro n i hi hn
    obtain ⟨n, rfl⟩ := pz_fu hn
    rw [fR_sumOf_5, if_neg (nI_ge (by omega) (by omega)), nI_add, pz_gib (by omega) (by omega), pz_rA (by omega), hc i (by omega), ev_nx, nI_1 i]
    exact ih n (i + 1) (by omega) (by omega)
theorem r_slipsAll (hv : RV V S) (hr : RR V A w (S.2.1 18)) (hA : ∀ a, A a) : fR_sumOf 72 (S.1 13) S = some (rI (smI (w_c w 2) (y_M V)), S) := by
  have h3 := hv.ok.2.1
  rw [hv.2.1]
  exact r_sumI (o := 72) (by omega) (fun j hj => (hr.2.1 j (hA j) hj).2.2.2.2.1) (y_M V) FU 0 (by omega) (by rw [pz_FU]; omega)
theorem r_openBy_50 (hv : RV V S) (hr : RR V A w (S.2.1 18)) (hb : v < 2 ^ 31) : ∀ k n i, i + k = y_D V → k < n → fR_openBy_5 n 0 (nI v) (orB (w_open V w (y_dm V) v) i) (nI i) S = some (rI (orB (w_open V w (y_dm V) v) (y_D V)), S) := by
  have h1 := hv.ok.1
  have h2 := hv.ok.2.1
  have h3 := hv.ok.2.2.1
  intro k
  induction k with
  | zero =>
    intro n i hi hn
    obtain ⟨n, rfl⟩ := pz_fu hn
    rw [fR_openBy_5, hv.2.2.1, if_pos (nI_le (by omega) (by omega))]
    have e : i = y_D V := by omega
    rw [e]
  | succ k ih =>
    intro n i hi hn
    obtain ⟨n, rfl⟩ := pz_fu hn
    rw [fR_openBy_5, hv.2.2.1, if_neg (nI_ge (by omega) (by omega))]
    have h6 := hv.2.2.2.2.2.2.1 i (by omega)
    have h7 := hv.ok.d (d := i) (by omega)
    rw [show (84 : Int32) + nI i = nI (84 + i) from nI_add 84 i, pz_gib (by omega) (by omega), pz_rA (by omega), hr.2.2.1 i (by omega), it_b0]
    cases hp : w_p w i
    · rw [if_neg pz_ft, show (4 : Int32) * nI i + 0 = nI (4 * i) from (by rw [r_i4, Int32.add_zero]), pz_gib (by omega) (by omega), pz_rA (by omega), h6.1, it_eq (by omega) (by omega)]
      by_cases q : y_dm V i = v
      · rw [if_pos q, ev_nx, orB_T (c := w_open V w (y_dm V) v) (by rw [w_open, hp, decide_eq_true q]; rfl), nI_1 i]
        exact ih n (i + 1) (by omega) (by omega)
      · rw [if_neg q, ev_nx, or0_F (c := w_open V w (y_dm V) v) (by rw [w_open, decide_eq_false q]; rfl), nI_1 i]
        exact ih n (i + 1) (by omega) (by omega)
    · rw [if_pos rfl, ev_nx, or0_F (c := w_open V w (y_dm V) v) (by rw [w_open, hp]; exact Bool.and_false _), nI_1 i]
      exact ih n (i + 1) (by omega) (by omega)
theorem r_openBy0 (hv : RV V S) (hr : RR V A w (S.2.1 18)) (hb : v < 2 ^ 31) : fR_openBy 0 (nI v) S = some (rI (orB (w_open V w (y_dm V) v) (y_D V)), S) := r_openBy_50 hv hr hb (y_D V) FU 0 (by omega) (by have := hv.ok.2.2.1; rw [pz_FU]; omega)
theorem r_openBy_51 (hv : RV V S) (hr : RR V A w (S.2.1 18)) (hb : v < 2 ^ 31) : ∀ k n i, i + k = y_D V → k < n → fR_openBy_5 n 1 (nI v) (orB (w_open V w (y_dp V) v) i) (nI i) S = some (rI (orB (w_open V w (y_dp V) v) (y_D V)), S) := by
  have h1 := hv.ok.1
  have h2 := hv.ok.2.1
  have h3 := hv.ok.2.2.1
  intro k
  induction k with
  | zero =>
    intro n i hi hn
    obtain ⟨n, rfl⟩ := pz_fu hn
    rw [fR_openBy_5, hv.2.2.1, if_pos (nI_le (by omega) (by omega))]
    have e : i = y_D V := by omega
    rw [e]
  | succ k ih =>
    intro n i hi hn
    obtain ⟨n, rfl⟩ := pz_fu hn
    rw [fR_openBy_5, hv.2.2.1, if_neg (nI_ge (by omega) (by omega))]
    have h6 := hv.2.2.2.2.2.2.1 i (by omega)
    have h7 := hv.ok.d (d := i) (by omega)
    rw [show (84 : Int32) + nI i = nI (84 + i) from nI_add 84 i, pz_gib (by omega) (by omega), pz_rA (by omega), hr.2.2.1 i (by omega), it_b0]
    cases hp : w_p w i
    · rw [if_neg pz_ft, show (4 : Int32) * nI i + 1 = nI (4 * i + 1) from r_i41 i, pz_gib (by omega) (by omega), pz_rA (by omega), h6.2.1, it_eq (by omega) (by omega)]
      by_cases q : y_dp V i = v
      · rw [if_pos q, ev_nx, orB_T (c := w_open V w (y_dp V) v) (by rw [w_open, hp, decide_eq_true q]; rfl), nI_1 i]
        exact ih n (i + 1) (by omega) (by omega)
      · rw [if_neg q, ev_nx, or0_F (c := w_open V w (y_dp V) v) (by rw [w_open, decide_eq_false q]; rfl), nI_1 i]
        exact ih n (i + 1) (by omega) (by omega)
    · rw [if_pos rfl, ev_nx, or0_F (c := w_open V w (y_dp V) v) (by rw [w_open, hp]; exact Bool.and_false _), nI_1 i]
      exact ih n (i + 1) (by omega) (by omega)
theorem r_openBy1 (hv : RV V S) (hr : RR V A w (S.2.1 18)) (hb : v < 2 ^ 31) : fR_openBy 1 (nI v) S = some (rI (orB (w_open V w (y_dp V) v) (y_D V)), S) := r_openBy_51 hv hr hb (y_D V) FU 0 (by omega) (by have := hv.ok.2.2.1; rw [pz_FU]; omega)
theorem r_poem_68 (hv : RV V S) (hr : RR V A w (S.2.1 18)) (hA : ∀ a, A a) (hp : p < y_P V) : ∀ k n i, i + k = y_M V → k < n → fR_poem_68 n (nI p) (orB (w_all V w p) i) (nI i) S = some (rI (orB (w_all V w p) (y_M V)), S) := by
  have h1 := hv.ok.1
  have h2 := hv.ok.2.1
  have h3 := hv.ok.2.2.1
  intro k
  induction k with
  | zero =>
    intro n i hi hn
    obtain ⟨n, rfl⟩ := pz_fu hn
    rw [fR_poem_68, hv.2.1, if_pos (nI_le (by omega) (by omega))]
    have e : i = y_M V := by omega
    rw [e]
  | succ k ih =>
    intro n i hi hn
    obtain ⟨n, rfl⟩ := pz_fu hn
    rw [fR_poem_68, hv.2.1, if_neg (nI_ge (by omega) (by omega))]
    have h4 := hv.ok.l hp
    have h5 := hr.ok.1 i (by omega) p hp
    rw [r_knownOf hv.ok hr (hA i) (by omega) hp, ev_I, r_i2, pz_gib (by omega) (by omega), pz_rA (by omega), (hv.2.2.2.2.1 p hp).1, it_eq (by omega) (by omega)]
    by_cases q : w_K w i p = y_l V p
    · rw [if_pos q, ev_nx, orB_T (c := w_all V w p) (decide_eq_true (by omega)), nI_1 i]
      exact ih n (i + 1) (by omega) (by omega)
    · rw [if_neg q, ev_nx, or0_F (c := w_all V w p) (decide_eq_false (by omega)), nI_1 i]
      exact ih n (i + 1) (by omega) (by omega)
theorem r_needOf (hv : RV V S) (hL : RLw L S) (hr : RR V A w (S.2.1 18)) (hd : d < y_D V) (hA : A (y_dm V d)) : ∃ T, fR_needOf (nI d) S = some (rI (nI (w_need V L w d)), T) ∧ frm [] [13, 14] S T := by
  have h1 := hv.ok.1
  have h2 := hv.ok.2.1
  have h3 := hv.ok.2.2.1
  have h5 := hv.ok.d hd
  have h6 := hv.2.2.2.2.2.2.1 d hd
  have h7 := hv.ok.l h5.2.1
  have h8 := r_knownOf hv.ok hr hA h5.1 h5.2.1
  have h9 := hr.ok.1 _ h5.1 _ h5.2.1
  have h10 : w_learn V L w (y_dm V d) (y_dp V d) ≤ 20 := hL.2 _
  obtain ⟨T, e, g⟩ := r_learnsBy hv hL hr hA h5.1 h5.2.1
  refine ⟨T, ?_, g⟩
  rw [fR_needOf, r_i41, r_i4, pz_gib (by omega) (by omega), pz_rA (by omega), h6.1, ev_nx, pz_gib (by omega) (by omega), pz_rA (by omega), h6.2.1, ev_nx, r_i2, pz_gib (by omega) (by omega), h8, ev_I, pz_rA (by omega), (hv.2.2.2.2.1 _ h5.2.1).1, pk_sub h9, ev_nx, e, ev_I, it_eqL (by omega) (by omega), it_eqL (by omega) (by omega)]
  unfold w_need
  by_cases q : y_l V (y_dp V d) ≤ w_K w (y_dm V d) (y_dp V d)
  · rw [if_pos q, if_pos (by omega)]
    rfl
  · rw [if_neg q, if_neg (by omega)]
    by_cases q2 : w_learn V L w (y_dm V d) (y_dp V d) = 0
    · rw [if_pos q2, if_pos q2]
      rfl
    · rw [if_neg q2, if_neg q2, gdT (pz_nz (by omega) (by omega)), nI_add, show (1 : Int32) = nI 1 from rfl, pk_sub (by omega), pk_div (by omega) (by omega) (by omega)]
end PJ
