/-! kept (written by wip/whole/pure/p68.py) -/
section PR2
variable {SC SR S T U : St} {f u : Oz} {X : Nat → St → Oz} {b c x : Int32}
theorem frx.Bl {fs as : List Nat} {S T : St} (h : frx fs as S T) {a : Nat} {i : Int32} {v : Int64} : frx fs as S (sB T a i v) := h
/-- powers, choices -/
def powN (b : Nat) : Nat → Nat
  | 0 => 1
  | e + 1 => powN b e * b
def chN (n j : Nat) : Nat → Nat
  | 0 => 1
  | i + 1 => chN n j i * (n - j + (i + 1)) / (i + 1)
def bin : Nat → Nat → Nat
  | _, 0 => 1
  | 0, _ + 1 => 0
  | n + 1, j + 1 => bin n j + bin n (j + 1)
theorem ch_bin : ∀ n, n < 13 → ∀ j, j < n + 1 → chN n j j = bin n j := by decide +kernel
theorem ch_bd : ∀ n, n < 13 → ∀ j, j < n + 1 → ∀ i, i < j + 1 → chN n j i * (n - j + (i + 1)) < 2 ^ 40 := by decide +kernel
theorem bin_0 : ∀ n j, n < j → bin n j = 0 := by
  intro n
  induction n with
  | zero => intro j hj; cases j with
    | zero => omega
    | succ j => rfl
  | succ n ih => intro j hj; cases j with
    | zero => omega
    | succ j => rw [bin, ih j (by omega), ih (j + 1) (by omega)]
theorem bin_bd : ∀ n, n < 13 → ∀ j, j < 14 → bin n j < 2 ^ 10 := by decide +kernel
theorem powN_add (b : Nat) (m : Nat) : ∀ n, powN b (m + n) = powN b m * powN b n := by
  intro n
  induction n with
  | zero => exact (Nat.mul_one _).symm
  | succ n ih => rw [← Nat.add_assoc, powN, ih, powN, Nat.mul_assoc]
def kbT (n q j : Nat) : Nat := bin n j * powN (16 - q) j * powN q (n - j)
theorem kb_0 (n q : Nat) : kbT (n + 1) q 0 = kbT n q 0 * q := by
  unfold kbT
  rw [show bin (n + 1) 0 = 1 from rfl, show bin n 0 = 1 by cases n <;> rfl, Nat.sub_zero, Nat.sub_zero, powN, powN, Nat.one_mul, Nat.one_mul]
theorem kb_s (n q j : Nat) : kbT (n + 1) q (j + 1) = kbT n q (j + 1) * q + kbT n q j * (16 - q) := by
  unfold kbT
  rw [bin]
  by_cases h : j + 1 ≤ n
  · have e1 : n + 1 - (j + 1) = n - (j + 1) + 1 := by omega
    have e2 : n - j = n - (j + 1) + 1 := by omega
    rw [e1, e2, powN, powN, Nat.add_mul, Nat.add_mul, Nat.add_comm]
    congr 1 <;> ac_rfl
  · rw [bin_0 n (j + 1) (by omega), Nat.add_zero, Nat.zero_mul, Nat.zero_mul, Nat.zero_mul, Nat.zero_add, powN]
    by_cases h2 : j ≤ n
    · have e1 : n + 1 - (j + 1) = 0 := by omega
      have e2 : n - j = 0 := by omega
      rw [e1, e2, powN]
      ac_rfl
    · rw [bin_0 n j (by omega)]
      simp
/-- the class -/
theorem e_power_5 {bb e : Nat} (hb : bb < 2 ^ 31) (he : e < 1000) : ∀ k n i, i + k = e → k < n → fC_Main_power_5 n (nI bb) (nI e) (lN (powN bb i)) (nI i) S = some (rL (lN (powN bb e)), S) := by
  intro k
  induction k with
  | zero =>
    intro n i hi hn
    obtain ⟨n, rfl⟩ := pz_fu hn
    have e' : i = e := by omega
    rw [fC_Main_power_5, if_pos (nI_le (by omega) (by omega)), e']
  | succ k ih =>
    intro n i hi hn
    obtain ⟨n, rfl⟩ := pz_fu hn
    rw [fC_Main_power_5, if_neg (nI_ge (by omega) (by omega)), nI_l hb, lN_mul, ev_nx, nI_1]
    exact ih n (i + 1) (by omega) (by omega)
theorem e_power {bb e : Nat} (hb : bb < 2 ^ 31) (he : e < 1000) : fC_Main_power (nI bb) (nI e) S = some (rL (lN (powN bb e)), S) := e_power_5 hb he e FU 0 (by omega) (by rw [pz_FU]; omega)
theorem e_choices_5 {m j : Nat} (hm : m < 13) (hj : j ≤ m) : ∀ k n i, i + k = j → k < n → fC_Main_choices_5 n (nI m) (nI j) (lN (chN m j i)) (nI (i + 1)) S = some (rL (lN (chN m j j)), S) := by
  intro k
  induction k with
  | zero =>
    intro n i hi hn
    obtain ⟨n, rfl⟩ := pz_fu hn
    have e' : i = j := by omega
    rw [fC_Main_choices_5, if_pos (nI_lt (by omega) (by omega)), e']
  | succ k ih =>
    intro n i hi hn
    obtain ⟨n, rfl⟩ := pz_fu hn
    have hb := ch_bd m hm j (by omega) i (by omega)
    have hz : nzL (lN (i + 1)) = true := by
      simp only [nzL, Bool.not_eq_true', decide_eq_false_iff_not]
      intro h
      have := (lN_eq (a := i + 1) (b := 0) (by omega) (by omega)).mp h
      omega
    rw [fC_Main_choices_5, if_neg (nI_nlt (by omega) (by omega)), pk_sub hj, nI_add, nI_l (by omega), nI_l (by omega), gdT hz, lN_mul, pk_lDiv (by omega) (by omega) (by omega), ev_nx, nI_1]
    exact ih n (i + 1) (by omega) (by omega)
theorem e_choices {m j : Nat} (hm : m < 13) (hj : j ≤ m) : fC_Main_choices (nI m) (nI j) S = some (rL (lN (bin m j)), S) := by
  rw [← ch_bin m hm j (by omega)]
  exact e_choices_5 hm hj j FU 0 (by omega) (by rw [pz_FU]; omega)
def smR (f : Nat → Nat) : Nat → Nat → Nat
  | 0, _ => 0
  | r + 1, j => f j + smR f r (j + 1)
theorem smR_0 (f : Nat → Nat) : ∀ r j, (∀ i, j ≤ i → f i = 0) → smR f r j = 0 := by
  intro r
  induction r with
  | zero => intro j _; rfl
  | succ r ih => intro j h; rw [smR, h j (Nat.le_refl _), ih (j + 1) (fun i hi => h i (by omega))]
theorem smR_add (f : Nat → Nat) : ∀ r s j, smR f (r + s) j = smR f r j + smR f s (j + r) := by
  intro r
  induction r with
  | zero => intro s j; rw [Nat.zero_add, smR, Nat.zero_add, Nat.add_zero]
  | succ r ih =>
    intro s j
    rw [show r + 1 + s = (r + s) + 1 by omega, smR, smR, ih, show j + 1 + r = j + (r + 1) by omega]
    omega
/-- halving -/
def hvF : Nat → Nat → Nat → Nat × Nat
  | 0, a, b => (a, b)
  | r + 1, a, b => if a % 2 = 0 then hvF r (a / 2) (b / 2) else (a, b)
theorem hv_gcd : ∀ r a, hvF r a (2 ^ r) = (a / Nat.gcd a (2 ^ r), 2 ^ r / Nat.gcd a (2 ^ r)) := by
  intro r
  induction r with
  | zero => intro a; rw [hvF, Nat.pow_zero, Nat.gcd_one_right, Nat.div_one]
  | succ r ih =>
    intro a
    rw [hvF]
    by_cases h : a % 2 = 0
    · obtain ⟨m, rfl⟩ : ∃ m, a = 2 * m := ⟨a / 2, by omega⟩
      have hg : 0 < Nat.gcd m (2 ^ r) := Nat.gcd_pos_of_pos_right _ (Nat.two_pow_pos r)
      rw [if_pos h, Nat.mul_div_cancel_left m (by omega), Nat.pow_succ, Nat.mul_div_cancel _ (by omega : 0 < 2), ih m, Nat.mul_comm (2 ^ r) 2, Nat.gcd_mul_left, Nat.mul_div_mul_left _ _ (by omega), Nat.mul_div_mul_left _ _ (by omega)]
    · have hc : Nat.gcd a (2 ^ (r + 1)) = 1 := by
        apply Nat.Coprime.pow_right
        show Nat.gcd a 2 = 1
        rw [Nat.gcd_comm, Nat.gcd_rec, show a % 2 = 1 by omega]
        decide
      rw [if_neg h, hc, Nat.div_one, Nat.div_one]
def halfV (x : Int32) (z : Nat × Nat) : Int64 := if x = 0 then lN z.1 else lN z.2
theorem lg_0 {a : Nat} (ha : a < 2 ^ 62) : (lg_cmp (lN a) 0 = 0) = (a = 0) := by
  have h0 : (0 : Int64) = lN 0 := rfl
  rw [h0]
  unfold lg_cmp
  apply propext
  by_cases h : a = 0
  · subst h
    simp
  · have h1 : lN 0 < lN a := by rw [pk_lLT (by omega) (by omega)]; omega
    have h2 : ¬ lN a = lN 0 := by rw [pk_lEQ (by omega) (by omega)]; exact h
    simp [h1, h2, h]
theorem e_kept_149 (x : Int32) (z : Nat × Nat) : fC_Main_kept_149 x (lN z.1) (lN z.2) S = some (rL (halfV x z), S) := by
  rw [fC_Main_kept_149, halfV]
  by_cases h : x = 0
  · rw [if_pos h, if_pos h]
  · rw [if_neg h, if_neg h]
theorem e_kept_108 {m : Nat} (hm : m < 13) (x : Int32) : ∀ k n i a bb, i + k = 4 * m → k < n → a < 2 ^ 62 → bb < 2 ^ 62 → fC_Main_kept_108 n (nI m) x (lN a) (lN bb) (nI i) S = some (rL (halfV x (hvF k a bb)), S) := by
  intro k
  induction k with
  | zero =>
    intro n i a bb hi hn ha hb
    obtain ⟨n, rfl⟩ := pz_fu hn
    rw [fC_Main_kept_108, r_i4, if_pos (nI_le (by omega) (by omega))]
    exact e_kept_149 x (a, bb)
  | succ k ih =>
    intro n i a bb hi hn ha hb
    obtain ⟨n, rfl⟩ := pz_fu hn
    have h2 : (2 : Int64) = lN 2 := rfl
    have e3 := e_kept_149 (S := S) x (a, bb)
    rw [fC_Main_kept_108, r_i4, if_neg (nI_ge (by omega) (by omega)), h2, pk_lRem (by omega) (by omega) (by omega), hvF]
    have hc := lg_0 (a := a % 2) (by omega)
    by_cases h : a % 2 = 0
    · rw [if_pos (hc.mpr h), if_pos h, pk_lDiv (by omega) (by omega) (by omega), ev_nx, pk_lDiv (by omega) (by omega) (by omega), ev_nx, nI_1]
      exact ih n (i + 1) (a / 2) (bb / 2) (by omega) (by omega) (by omega) (by omega)
    · rw [if_neg (fun g => h (hc.mp g)), if_neg h]
      exact e3
theorem p16 : ∀ m, powN 16 m = 2 ^ (4 * m) := by
  intro m
  induction m with
  | zero => rfl
  | succ m ih => rw [powN, ih, show 4 * (m + 1) = 4 * m + 4 by omega, Nat.pow_add]
theorem p16_lt {m : Nat} (hm : m < 13) : powN 16 m < 2 ^ 60 := by
  rw [p16]
  exact Nat.pow_lt_pow_right (by omega) (by omega)
theorem kb_bd : ∀ m, m < 13 → ∀ q, q < 17 → smR (kbT m q) 14 0 < 2 ^ 60 := by decide +kernel
theorem kb_part {m q : Nat} (hm : m < 13) (hq : q < 17) {r j : Nat} (h : j + r ≤ 14) : smR (kbT m q) r j < 2 ^ 60 := by
  have h1 := kb_bd m hm q hq
  have h2 := smR_add (kbT m q) j (14 - j) 0
  have h3 := smR_add (kbT m q) r (14 - j - r) j
  rw [show j + (14 - j) = 14 by omega, Nat.zero_add] at h2
  rw [show r + (14 - j - r) = 14 - j by omega] at h3
  omega
theorem e_kept_55 {m q : Nat} (hm : m < 13) (hq : q < 17) (x : Int32) : ∀ k n j acc, (j + k = m + 1 ∨ (k = 0 ∧ m < j)) → j < 2 ^ 20 → k < n → acc + smR (kbT m q) k j < 2 ^ 62 → fC_Main_kept_55 n (nI m) (nI q) x (lN acc) (nI j) S = some (rL (halfV x (hvF (4 * m) (acc + smR (kbT m q) k j) (powN 16 m))), S) := by
  intro k
  induction k with
  | zero =>
    intro n j acc hi hj hn hb
    obtain ⟨n, rfl⟩ := pz_fu hn
    have hp := p16_lt hm
    rw [fC_Main_kept_55, if_pos (nI_lt (by omega) (by omega)), show (16 : Int32) = nI 16 from rfl, e_power (by omega) (by omega), ev_L]
    rw [smR, Nat.add_zero] at hb ⊢
    exact e_kept_108 hm x (4 * m) FU 0 acc (powN 16 m) (by omega) (by rw [pz_FU]; omega) hb (by omega)
  | succ k ih =>
    intro n j acc hi hj hn hb
    obtain ⟨n, rfl⟩ := pz_fu hn
    rw [smR] at hb ⊢
    rw [fC_Main_kept_55, if_neg (nI_nlt (by omega) (by omega)), e_choices hm (by omega), ev_L, show (16 : Int32) = nI 16 from rfl, pk_sub (by omega), e_power (by omega) (by omega), ev_L, pk_sub (by omega), e_power (by omega) (by omega), ev_L, lN_mul, lN_mul, lN_add, ev_nx, nI_1]
    have h9 := ih n (j + 1) (acc + kbT m q j) (by omega) (by omega) (by omega) (by omega)
    rw [Nat.add_assoc] at h9
    exact h9
/-- the reference -/
def Kb (n q : Nat) (S : St) : Prop := ∀ j, j < 14 → S.2.2 24 j = lN (kbT n q j)
theorem sB_at (S : St) (i : Nat) (v : Int64) (j : Nat) (hi : i < 2 ^ 31) : (sB S 24 (nI i) v).2.2 24 j = if j = i then v else S.2.2 24 j := by
  show upB S.2.2 24 (vp_updL (S.2.2 24) (nI i).toNatClampNeg v) 24 j = _
  rw [upB, if_pos rfl, nI_clamp hi]
  rfl
theorem rB_at (S : St) (i : Nat) (hi : i < 2 ^ 31) : rB S 24 (nI i) = S.2.2 24 i := by rw [rB, nI_clamp hi]
def frB (S T : St) : Prop := T.1 = S.1 ∧ T.2.1 = S.2.1
theorem frB.rf {S : St} : frB S S := ⟨rfl, rfl⟩
theorem frB.Bl {S : St} {a : Nat} {i : Int32} {v : Int64} : frB S (sB S a i v) := ⟨rfl, rfl⟩
theorem frB.tr {S T U : St} (h : frB S T) (g : frB T U) : frB S U := ⟨g.1.trans h.1, g.2.trans h.2⟩
theorem frB.wd {fs as : List Nat} {S T : St} (h : frB S T) : frx fs as S T := ⟨fun k _ => by rw [h.1], fun a _ => by rw [h.2]⟩
theorem r_kept_64 {m q : Nat} (x2 x4 : Int32) : ∀ k n i (S : St), i + k = 14 → k < n → (∀ j, j < i → S.2.2 24 j = lN (kbT 0 q j)) →
    ∃ T, fR_kept_64 n (nI m) x2 (nI q) x4 (nI i) S = fR_kept_100 FU (nI m) x2 (nI q) x4 1 0 T ∧ frB S T ∧ Kb 0 q T := by
  intro k
  induction k with
  | zero =>
    intro n i S hi hn h
    obtain ⟨n, rfl⟩ := pz_fu hn
    rw [fR_kept_64, it_Lle (by omega) (by omega), if_pos (by omega)]
    exact ⟨S, rfl, frB.rf, fun j hj => h j (by omega)⟩
  | succ k ih =>
    intro n i S hi hn h
    obtain ⟨n, rfl⟩ := pz_fu hn
    rw [fR_kept_64, it_Lle (by omega) (by omega), if_neg (by omega), it_eqL (by omega) (by omega)]
    have key : ∀ v : Int64, v = lN (kbT 0 q i) → ∃ T, fR_kept_87 (fun x1 x2 x3 x4 x5 S => fR_kept_64 n x1 x2 x3 x4 x5 S) (nI m) x2 (nI q) x4 (nI i) v (nI i) S = fR_kept_100 FU (nI m) x2 (nI q) x4 1 0 T ∧ frB S T ∧ Kb 0 q T := fun v hv => by
      obtain ⟨T, e, g, hT⟩ := ih n (i + 1) (sB S 24 (nI i) v) (by omega) (by omega) (fun j hj => by
        rw [sB_at _ _ _ _ (by omega)]
        by_cases h1 : j = i
        · rw [if_pos h1, hv, h1]
        · rw [if_neg h1]; exact h j (by omega))
      refine ⟨T, ?_, frB.Bl.tr g, hT⟩
      rw [fR_kept_87, pz_gib (by omega) (by omega), ev_nx, nI_1]
      exact e
    by_cases h0 : i = 0
    · rw [if_pos h0]
      refine key 1 ?_
      subst h0
      unfold kbT
      rw [show bin 0 0 = 1 from rfl]
      rfl
    · rw [if_neg h0]
      refine key 0 ?_
      unfold kbT
      rw [bin_0 0 i (by omega)]
      simp
      rfl
theorem en_p {c : Nat} (h : 0 < c) : en c + (-1) = en (c - 1) := by
  obtain ⟨d, rfl⟩ : ∃ d, c = d + 1 := ⟨c - 1, by omega⟩
  rw [en_s, Nat.add_sub_cancel]
  cases d with
  | zero => rfl
  | succ d => rw [pk_m1, en_s]
theorem r_kept_110 {K : Int32 → Int32 → Int32 → Int32 → Int64 → Int32 → St → Oz} {q i : Nat} (hq : q < 17) (x1 x2 x4 : Int32) (x5 : Int64) (x7 : Int32) : ∀ c n (S : St), c ≤ 14 → c < n → (∀ j, j < 14 → S.2.2 24 j = if c ≤ j then lN (kbT (i + 1) q j) else lN (kbT i q j)) →
    ∃ T, fR_kept_110 K n x1 x2 (nI q) x4 x5 x7 (en c) S = K x1 x2 (nI q) x4 (x5 * 16) (x7 + 1) T ∧ frB S T ∧ Kb (i + 1) q T := by
  intro c
  induction c with
  | zero =>
    intro n S hc hn h
    obtain ⟨n, rfl⟩ := pz_fu hn
    rw [fR_kept_110, en_z, if_pos (by decide), ev_nx]
    exact ⟨S, rfl, frB.rf, fun j hj => (h j hj).trans (if_pos (Nat.zero_le _))⟩
  | succ c ih =>
    intro n S hc hn h
    obtain ⟨n, rfl⟩ := pz_fu hn
    have hcell := h c (by omega)
    rw [if_neg (by omega)] at hcell
    have key : ∀ v : Int64, v = lN (kbT (i + 1) q c) → ∃ T, fR_kept_110 K n x1 x2 (nI q) x4 x5 x7 (nI c + (-1)) (sB S 24 (nI c) v) = K x1 x2 (nI q) x4 (x5 * 16) (x7 + 1) T ∧ frB S T ∧ Kb (i + 1) q T := fun v hv => by
      obtain ⟨T, e, g, hT⟩ := ih n (sB S 24 (nI c) v) (by omega) (by omega) (fun j hj => by
        rw [sB_at _ _ _ _ (by omega)]
        by_cases h1 : j = c
        · rw [if_pos h1, if_pos (by omega), hv, h1]
        · rw [if_neg h1, h j hj]
          by_cases h2 : c + 1 ≤ j
          · rw [if_pos h2, if_pos (by omega)]
          · rw [if_neg h2, if_neg (by omega)])
      refine ⟨T, ?_, frB.Bl.tr g, hT⟩
      rw [← en_s c, en_p (by omega), Nat.add_sub_cancel]
      exact e
    rw [fR_kept_110, en_s, if_neg (nI_pos (by omega)), pz_gib (by omega) (by omega), rB_at _ _ (by omega), hcell, nI_l (by omega), lN_mul, it_leL (by omega) (by omega)]
    by_cases h0 : c ≤ 0
    · have e0 : c = 0 := by omega
      subst e0
      rw [if_pos h0, fR_kept_155, pz_gib (by omega) (by omega), ev_nx]
      exact key _ (by rw [kb_0]; exact Int64.add_zero _)
    · obtain ⟨d, rfl⟩ : ∃ d, c = d + 1 := ⟨c - 1, by omega⟩
      have hcell2 := h d (by omega)
      rw [if_neg (by omega)] at hcell2
      rw [if_neg h0, nI_pred, pz_gib (by omega) (by omega), rB_at _ _ (by omega), hcell2, show (16 : Int32) = nI 16 from rfl, pk_sub (by omega), nI_l (by omega), lN_mul, fR_kept_155, pz_gib (by omega) (by omega), ev_nx, lN_add]
      exact key _ (by rw [kb_s])
theorem r_kept_100 {m q : Nat} (hm : m < 13) (hq : q < 17) (x2 x4 : Int32) : ∀ k n i (S : St), i + k = m → k < n → Kb i q S →
    ∃ T, fR_kept_100 n (nI m) x2 (nI q) x4 (lN (powN 16 i)) (nI i) S = fR_kept_183 FU x4 (lN (powN 16 m)) 0 x2 T ∧ frB S T ∧ Kb m q T := by
  intro k
  induction k with
  | zero =>
    intro n i S hi hn h
    obtain ⟨n, rfl⟩ := pz_fu hn
    have e : i = m := by omega
    subst e
    rw [fR_kept_100, if_pos (nI_le (by omega) (by omega))]
    exact ⟨S, rfl, frB.rf, h⟩
  | succ k ih =>
    intro n i S hi hn h
    obtain ⟨n, rfl⟩ := pz_fu hn
    obtain ⟨T1, e1, g1, h1⟩ := r_kept_110 (K := fun x1 x2 x3 x4 x5 x7 S => fR_kept_100 n x1 x2 x3 x4 x5 x7 S) (i := i) hq (nI m) x2 x4 (lN (powN 16 i)) (nI i) 14 FU S (by omega) (by rw [pz_FU]; omega) (fun j hj => by rw [if_neg (by omega)]; exact h j hj)
    obtain ⟨T, e, g, hT⟩ := ih n (i + 1) T1 (by omega) (by omega) h1
    refine ⟨T, ?_, g1.tr g, hT⟩
    rw [fR_kept_100, if_neg (nI_ge (by omega) (by omega)), ← e, powN, ← lN_mul, ← nI_1]
    exact e1
theorem gcd_step (x y : Nat) : Nat.gcd x y = Nat.gcd y (x % y) := by rw [Nat.gcd_comm x y, Nat.gcd_rec y x, Nat.gcd_comm]
theorem nzL_of {a : Nat} (h : 0 < a) (ha : a < 2 ^ 62) : nzL (lN a) = true := by
  simp only [nzL, Bool.not_eq_true', decide_eq_false_iff_not]
  intro q
  have := (pk_lEQ (a := a) (b := 0) (by omega) (by omega)).mp q
  omega
def lstV (x4 : Int32) (x0 x2 : Int64) (g : Nat) : Int64 := if x4 = 0 then x0 / lN g else x2 / lN g
theorem r_least_0 (x0 x2 : Int64) (x4 : Int32) {x n : Nat} (hx : 0 < x) (hx2 : x < 2 ^ 62) (S : St) : fR_least_6 (n + 1) x0 x2 x4 (lN x) (lN 0) S = some (rL (lstV x4 x0 x2 x), S) := by
  rw [fR_least_6, if_pos ((lg_0 (a := 0) (by omega)).mpr rfl), gdT (nzL_of hx hx2), gdT (nzL_of hx hx2), lstV]
  by_cases h : x4 = 0
  · rw [if_pos h, if_pos h]
  · rw [if_neg h, if_neg h]
theorem r_least_6 (x0 x2 : Int64) (x4 : Int32) (S : St) : ∀ bb x y n, y < 2 ^ bb → 2 * bb + 1 < n → (0 < x ∨ 0 < y) → x < 2 ^ 62 → y < 2 ^ 62 → fR_least_6 n x0 x2 x4 (lN x) (lN y) S = some (rL (lstV x4 x0 x2 (Nat.gcd x y)), S) := by
  intro bb
  induction bb with
  | zero =>
    intro x y n hy hn h0 hx hy2
    obtain ⟨n, rfl⟩ : ∃ m, n = m + 1 := ⟨n - 1, by omega⟩
    have e : y = 0 := by omega
    subst e
    rw [Nat.gcd_zero_right]
    exact r_least_0 x0 x2 x4 (by omega) hx S
  | succ bb ih =>
    intro x y n hy hn h0 hx hy2
    obtain ⟨n, rfl⟩ : ∃ m, n = m + 1 + 1 := ⟨n - 2, by omega⟩
    by_cases e : y = 0
    · subst e
      rw [Nat.gcd_zero_right]
      exact r_least_0 x0 x2 x4 (by omega) hx S
    · have hr : x % y < y := Nat.mod_lt _ (by omega)
      rw [fR_least_6, if_neg (fun h => e ((lg_0 (a := y) hy2).mp h)), gdT (nzL_of (by omega) hy2), pk_lRem (by omega) (by omega) (by omega), ev_nx, gcd_step]
      by_cases e2 : x % y = 0
      · rw [e2, Nat.gcd_zero_right]
        exact r_least_0 x0 x2 x4 (by omega) hy2 S
      · have hr2 : y % (x % y) < x % y := Nat.mod_lt _ (by omega)
        have hh : 2 * (y % (x % y)) < y := by
          by_cases q : x % y ≤ y - x % y
          · omega
          · rw [Nat.mod_eq_sub_mod (by omega), Nat.mod_eq_of_lt (by omega)]
            omega
        rw [fR_least_6, if_neg (fun h => e2 ((lg_0 (a := x % y) (by omega)).mp h)), gdT (nzL_of (by omega) (by omega)), pk_lRem (by omega) (by omega) (by omega), ev_nx, gcd_step y]
        have hpow : 2 ^ (bb + 1) = 2 * 2 ^ bb := by rw [Nat.pow_succ, Nat.mul_comm]
        exact ih (x % y) (y % (x % y)) n (by omega) (by omega) (by omega) (by omega) (by omega)
theorem r_kept_183 {m q K : Nat} (hm : m < 13) (hq : q < 17) (x4 : Int32) : ∀ k n j acc, j + k = 14 → k < n → Kb m q S → acc + smR (kbT m q) k j < 2 ^ 61 → fR_kept_183 n x4 (lN (powN 16 m)) (lN acc) (nI j) S = some (rL (lstV x4 (lN (acc + smR (kbT m q) k j)) (lN (powN 16 m)) (Nat.gcd (acc + smR (kbT m q) k j) (powN 16 m))), S) := by
  intro k
  induction k with
  | zero =>
    intro n j acc hi hn h hb
    obtain ⟨n, rfl⟩ := pz_fu hn
    have hp := p16_lt hm
    have hp0 : 0 < powN 16 m := by rw [p16]; exact Nat.two_pow_pos _
    rw [smR, Nat.add_zero] at hb ⊢
    rw [fR_kept_183, it_Lle (by omega) (by omega), if_pos (by omega), fR_least, r_least_6 _ _ _ _ 60 acc (powN 16 m) FU (by omega) (by rw [pz_FU]; omega) (Or.inr hp0) (by omega) (by omega), ev_L]
    rfl
  | succ k ih =>
    intro n j acc hi hn h hb
    obtain ⟨n, rfl⟩ := pz_fu hn
    rw [smR] at hb ⊢
    have h9 := ih n (j + 1) (acc + kbT m q j) (by omega) (by omega) h (by omega)
    rw [Nat.add_assoc] at h9
    rw [fR_kept_183, it_Lle (by omega) (by omega), if_neg (by omega), pz_gib (by omega) (by omega), rB_at _ _ (by omega), h j (by omega), lN_add, ev_nx, nI_1]
    exact h9
theorem kb_eq {m q K : Nat} (hK : K ≤ 13) (hm : m < 13) : smR (kbT m q) (m + 1 - K) K = smR (kbT m q) (14 - K) K := by
  have hz : ∀ i, m + 1 ≤ i → kbT m q i = 0 := fun i hi => by
    unfold kbT
    rw [bin_0 m i (by omega), Nat.zero_mul, Nat.zero_mul]
  by_cases h : K ≤ m + 1
  · have h2 := smR_add (kbT m q) (m + 1 - K) (14 - (m + 1)) K
    rw [show m + 1 - K + (14 - (m + 1)) = 14 - K by omega, smR_0 (kbT m q) (14 - (m + 1)) (K + (m + 1 - K)) (fun i hi => hz i (by omega))] at h2
    omega
  · rw [show m + 1 - K = 0 by omega, smR, smR_0 (kbT m q) (14 - K) K (fun i hi => hz i (by omega))]
def Kol : Int64 → St → Oz := fun v T => gd (ib 0 1) (nx (sB T 53 0 v) fun T1 => some (rI 0, T1))
theorem po_kept : PO_kept Rel := by
  intro SC SR hR x y z t
  have hR' := hR
  obtain ⟨m, hC, hM, hB⟩ := hR'
  obtain ⟨g0, h0, hv0, hL0, hr0⟩ := begR hM
  have bad : fC_Main_kept x y z t SC = fC_Main_kept_46 x y z t 0 SC → fR_kept x y z t SR = fR_kept_51 x y z t 0 (sF SR 0 0) → ∃ (v : Int32) (b : Int64) (SC1 SR1 : St), fH_kept x y z t SC = some (rI v, SC1) ∧ fR_kept x y z t SR = some (rL b, SR1) ∧ SR1.1 0 = v ∧ (v = 0 → rB SC1 53 0 = b) ∧ Rel SC1 SR1 := fun q1 q2 => by
    have e1 : fC_Main_kept x y z t SC = some (rX 1, sF SC 2 (SC.1 2 + 1)) := by rw [q1, fC_Main_kept_46, c_need0, ev_Vx]
    have e2 : fR_kept x y z t SR = some (rL 0, sA (sF (sF SR 0 0) 0 1) 1 (nI 1) ((sF SR 0 0).2.1 1 1 + 1)) := by
      rw [q2, fR_kept_51, show fR_may 0 1 1 (sF SR 0 0) = _ from r_may0 1 (k := 1) (by omega) h0 (by decide), ev_I]
      rfl
    obtain ⟨v, b, S1, S2, w1, w2, w3, w4, w5⟩ := po_ill1 (f := some (rX 1, sF SC 2 (SC.1 2 + 1))) (u := some (rI 0, sA (sF (sF SR 0 0) 0 1) 1 (nI 1) ((sF SR 0 0).2.1 1 1 + 1))) (X := fun j T => if j = 1 then some (rI 1, T) else none) (c := 1) hR rfl rfl (fun _ => rfl) (by decide)
    have hv1 : (some (rI 1, sF SC 2 (SC.1 2 + 1)) : Oz) = some (rI v, S1) := w1
    have hv2 : (some (rI 0, sA (sF (sF SR 0 0) 0 1) 1 (nI 1) ((sF SR 0 0).2.1 1 1 + 1)) : Oz) = some (rI b, S2) := w2
    cases hv1
    cases hv2
    refine ⟨1, 0, _, _, ?_, e2, w3, fun h => absurd h (by decide), w5⟩
    rw [fH_kept, e1, ev_HLx]
    rfl
  cases hx : wi x 0 12
  · exact bad (by rw [fC_Main_kept, c_withinF hx, ev_I]; rfl) (by rw [fR_kept, ev_nx, r_withinF hx, ev_I]; rfl)
  · cases hy : wi y 0 13
    · exact bad (by rw [fC_Main_kept, c_withinT hx, ev_I, if_neg (by decide), c_withinF hy, ev_I]; rfl) (by rw [fR_kept, ev_nx, r_withinT hx, ev_I, if_neg (by decide), r_withinF hy, ev_I]; rfl)
    · cases hz : wi z 0 16
      · exact bad (by rw [fC_Main_kept, c_withinT hx, ev_I, if_neg (by decide), c_withinT hy, ev_I, if_neg (by decide), c_withinF hz, ev_I]; rfl) (by rw [fR_kept, ev_nx, r_withinT hx, ev_I, if_neg (by decide), r_withinT hy, ev_I, if_neg (by decide), r_withinF hz, ev_I]; rfl)
      · cases hw : wi t 0 1
        · exact bad (by rw [fC_Main_kept, c_withinT hx, ev_I, if_neg (by decide), c_withinT hy, ev_I, if_neg (by decide), c_withinT hz, ev_I, if_neg (by decide), c_withinF hw, ev_I]; rfl) (by rw [fR_kept, ev_nx, r_withinT hx, ev_I, if_neg (by decide), r_withinT hy, ev_I, if_neg (by decide), r_withinT hz, ev_I, if_neg (by decide), r_withinF hw, ev_I]; rfl)
        · obtain ⟨n, -, hn, rfl⟩ := wi_nI (lo := 0) (hi := 12) (by omega) (by omega) hx
          obtain ⟨K, -, hK, rfl⟩ := wi_nI (lo := 0) (hi := 13) (by omega) (by omega) hy
          obtain ⟨q, -, hq, rfl⟩ := wi_nI (lo := 0) (hi := 16) (by omega) (by omega) hz
          have hb := kb_part (m := n) (q := q) (by omega) (by omega) (r := 14 - K) (j := K) (by omega)
          have hp := p16_lt (m := n) (by omega)
          have hp0 : 0 < powN 16 n := by rw [p16]; exact Nat.two_pow_pos _
          have hg0 : 0 < Nat.gcd (smR (kbT n q) (14 - K) K) (powN 16 n) := Nat.gcd_pos_of_pos_right _ hp0
          have hg1 : Nat.gcd (smR (kbT n q) (14 - K) K) (powN 16 n) ≤ powN 16 n := Nat.gcd_le_right _ hp0
          have e1 := e_kept_55 (S := SC) (m := n) (q := q) (by omega) (by omega) t (n + 1 - K) FU K 0 (by omega) (by omega) (by rw [pz_FU]; omega) (by rw [kb_eq hK (by omega)]; omega)
          rw [kb_eq hK (by omega), Nat.zero_add, p16, hv_gcd, ← p16] at e1
          have eC : fC_Main_kept (nI n) (nI K) (nI q) t SC = some (rL (halfV t (smR (kbT n q) (14 - K) K / Nat.gcd (smR (kbT n q) (14 - K) K) (powN 16 n), powN 16 n / Nat.gcd (smR (kbT n q) (14 - K) K) (powN 16 n))), SC) := by
            rw [fC_Main_kept, c_withinT hx, ev_I, if_neg (by decide), c_withinT hy, ev_I, if_neg (by decide), c_withinT hz, ev_I, if_neg (by decide), c_withinT hw, ev_I, if_neg (by decide), fC_Main_kept_46, c_need1, ev_V]
            exact e1
          obtain ⟨T1, e2, g2, k2⟩ := r_kept_64 (m := n) (q := q) (nI K) t 14 FU 0 (sF SR 0 0) (by omega) (by rw [pz_FU]; omega) (fun j hj => by omega)
          obtain ⟨T2, e3, g3, k3⟩ := r_kept_100 (m := n) (q := q) (by omega) (by omega) (nI K) t n FU 0 T1 (by omega) (by rw [pz_FU]; omega) k2
          have e4 := r_kept_183 (S := T2) (K := K) (m := n) (q := q) (by omega) (by omega) t (14 - K) FU K 0 (by omega) (by rw [pz_FU]; omega) k3 (by omega)
          rw [Nat.zero_add] at e4
          have hval : lstV t (lN (smR (kbT n q) (14 - K) K)) (lN (powN 16 n)) (Nat.gcd (smR (kbT n q) (14 - K) K) (powN 16 n)) = halfV t (smR (kbT n q) (14 - K) K / Nat.gcd (smR (kbT n q) (14 - K) K) (powN 16 n), powN 16 n / Nat.gcd (smR (kbT n q) (14 - K) K) (powN 16 n)) := by
            rw [lstV, halfV, pk_lDiv (by omega) hg0 (by omega), pk_lDiv (by omega) hg0 (by omega)]
          rw [hval] at e4
          have eR : fR_kept (nI n) (nI K) (nI q) t SR = some (rL (halfV t (smR (kbT n q) (14 - K) K / Nat.gcd (smR (kbT n q) (14 - K) K) (powN 16 n), powN 16 n / Nat.gcd (smR (kbT n q) (14 - K) K) (powN 16 n))), T2) := by
            rw [fR_kept, ev_nx, r_withinT hx, ev_I, if_neg (by decide), r_withinT hy, ev_I, if_neg (by decide), r_withinT hz, ev_I, if_neg (by decide), r_withinT hw, ev_I, if_neg (by decide), fR_kept_51, r_may1 _ _ h0, ev_I, if_neg (by decide)]
            exact e2.trans (e3.trans e4)
          have gB := g2.tr g3
          have gR : frx rF rA' SR T2 := g0.tr gB.wd
          have h0' : T2.1 0 = 0 := by rw [gB.1]; exact h0
          generalize halfV t (smR (kbT n q) (14 - K) K / Nat.gcd (smR (kbT n q) (14 - K) K) (powN 16 n), powN 16 n / Nat.gcd (smR (kbT n q) (14 - K) K) (powN 16 n)) = r at eC eR
          refine ⟨0, r, sB SC 53 0 r, T2, ?_, eR, h0', fun _ => ?_, hR.fr (frx.Bl frx.rf) gR⟩
          · rw [fH_kept, eC, ev_HL, gdT (by decide), ev_nx]
          · show upB SC.2.2 53 (vp_updL (SC.2.2 53) (0 : Int32).toNatClampNeg r) 53 (0 : Int32).toNatClampNeg = _
            rw [upB, if_pos rfl]
            exact if_pos rfl
end PR2
