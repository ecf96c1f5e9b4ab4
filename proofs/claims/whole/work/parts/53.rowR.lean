/-! the reference's functions of a row -/
section PR
def u8 (S : St) (x0 x1 x2 x3 x4 x5 x6 x7 : Int32) : St := sA (sA (sA (sA (sA (sA (sA (sA S 14 0 x0) 14 1 x1) 14 2 x2) 14 3 x3) 14 4 x4) 14 5 x5) 14 6 x6) 14 7 x7
theorem u8_law {L : Lw} {S : St} (hL : RLw L S) (x0 x1 x2 x3 x4 x5 x6 x7 : Int32) : ∃ T, fR_learnsNow (u8 S x0 x1 x2 x3 x4 x5 x6 x7) = some (rI (nI (L (fct x0 x1 x2 x3 x4 x5 x6 x7))), T) ∧ frm [] [13, 14] S T := by
  obtain ⟨T, e, g⟩ := hL.1 (u8 S x0 x1 x2 x3 x4 x5 x6 x7) rfl rfl rfl (fct x0 x1 x2 x3 x4 x5 x6 x7) (fun i hi => by
    match i, hi with
    | 0, _ => rfl
    | 1, _ => rfl
    | 2, _ => rfl
    | 3, _ => rfl
    | 4, _ => rfl
    | 5, _ => rfl
    | 6, _ => rfl
    | 7, _ => rfl)
  refine ⟨T, e, frm.tr ?_ (g.wide (by simp) (by simp))⟩
  unfold u8
  exact frm.A (frm.A (frm.A (frm.A (frm.A (frm.A (frm.A (frm.A frm.rf (by simp)) (by simp)) (by simp)) (by simp)) (by simp)) (by simp)) (by simp)) (by simp)
theorem r_learnsOf {L : Lw} {S : St} (hL : RLw L S) (x0 x1 x2 x3 x4 x5 x6 x7 : Int32) : ∃ T, fR_learnsOf x0 x1 x2 x3 x4 x5 x6 x7 S = some (rI (nI (L (fct x0 x1 x2 x3 x4 x5 x6 x7))), T) ∧ frm [] [13, 14] S T := by
  obtain ⟨T, e, g⟩ := u8_law hL x0 x1 x2 x3 x4 x5 x6 x7
  refine ⟨T, ?_, g⟩
  rw [fR_learnsOf, ev_nx, ev_nx, ev_nx, ev_nx, ev_nx, ev_nx, ev_nx, ev_nx]
  change obI (fR_learnsNow (u8 S x0 x1 x2 x3 x4 x5 x6 x7)) _ = _
  rw [e, ev_I]
variable {V : Vy} {A : Nat → Prop} {w : Rw} {S : St} {L : Lw} {a p d : Nat}
theorem r_ix (a p : Nat) : (0 : Int32) + 8 * nI a + nI p = nI (0 + 8 * a + p) := by simp only [pz_li, pk_mul, nI_add]
theorem r_i2 (a : Nat) : (2 : Int32) * nI a = nI (2 * a) := pk_mul 2 a
theorem r_i21 (a : Nat) : (2 : Int32) * nI a + 1 = nI (2 * a + 1) := by rw [r_i2]; exact nI_add (2 * a) 1
theorem r_i4 (a : Nat) : (4 : Int32) * nI a = nI (4 * a) := pk_mul 4 a
theorem r_i41 (a : Nat) : (4 : Int32) * nI a + 1 = nI (4 * a + 1) := by rw [r_i4]; exact nI_add (4 * a) 1
theorem r_i42 (a : Nat) : (4 : Int32) * nI a + 2 = nI (4 * a + 2) := by rw [r_i4]; exact nI_add (4 * a) 2
theorem r_i43 (a : Nat) : (4 : Int32) * nI a + 3 = nI (4 * a + 3) := by rw [r_i4]; exact nI_add (4 * a) 3
theorem r_knownOf (hV : VOK V) (hr : RR V A w (S.2.1 18)) (hA : A a) (ha : a < y_M V) (hp : p < y_P V) : fR_knownOf (nI a) (nI p) S = some (rI (nI (w_K w a p)), S) := by
  have h1 := hr.1 a hA ha p hp
  have h3 := hV.1
  have h4 := hV.2.1
  rw [fR_knownOf, r_ix, pz_gib (by omega) (by omega), pz_rA (by omega), h1]
theorem r_sumOf_5 (hV : VOK V) (hr : RR V A w (S.2.1 18)) (hA : A a) (ha : a < y_M V) : ∀ k n i, i + k = y_P V → k < n → fR_sumOf_5 n (nI (0 + 8 * a)) (nI (y_P V)) (nI (smN (w_K w a) i)) (nI i) S = some (rI (nI (w_sum V w a)), S) := by
  have h3 := hV.1
  have h4 := hV.2.1
  intro k
  induction k with
  | zero =>
    intro n i hi hn
    obtain ⟨n, rfl⟩ := pz_fu hn
    rw [fR_sumOf_5, if_pos (nI_le (by omega) (by omega))]
    have e : i = y_P V := by omega
    rw [e]
    rfl
  | succ k ih =>
    intro n i hi hn
    obtain ⟨n, rfl⟩ := pz_fu hn
    rw [fR_sumOf_5, if_neg (nI_ge (by omega) (by omega))]
    have h1 := hr.1 a hA ha i (by omega)
    simp (disch := omega) only [pz_li, nI_add, pz_gib, ev_nx, pz_rA, h1]
    exact ih n (i + 1) (by omega) (by omega)
theorem r_allOf (hv : RV V S) (hr : RR V A w (S.2.1 18)) (hA : A a) (ha : a < y_M V) : fR_allOf (nI a) S = some (rI (nI (w_sum V w a)), S) := by
  rw [fR_allOf, hv.1, show (0 : Int32) + 8 * nI a = nI (0 + 8 * a) from by simp only [pz_li, pk_mul, nI_add], fR_sumOf]
  rw [show fR_sumOf_5 FU (nI (0 + 8 * a)) (nI (y_P V)) 0 0 S = _ from r_sumOf_5 hv.ok hr hA ha (y_P V) FU 0 (by omega) (by have := hv.ok.1; rw [pz_FU]; omega), ev_I]
theorem r_memoryOf (hv : RV V S) (hr : RR V A w (S.2.1 18)) (hA : A a) (ha : a < y_M V) : fR_memoryOf (nI a) S = some (rI (nI (w_mem V w a)), S) := by
  have h1 := (hv.2.2.2.2.2.1 a ha).1
  have h2 := (hr.2.1 a hA ha).2.1
  have h3 := hv.ok.2.1
  have h4 := hv.ok.m ha
  rw [fR_memoryOf, show (54 : Int32) + nI a = nI (54 + a) from nI_add 54 a, pz_gib (by omega) (by omega), pz_rA (by omega), h2, r_i2]
  cases h5 : w_old V w a
  · simp (disch := omega) only [pz_li, pz_gib, pz_rA, h1, w_mem, h5]
    rfl
  · simp (disch := omega) only [pz_li, pz_gib, pz_rA, h1, w_mem, h5, pk_div]
    rfl
theorem r_roomOf (hv : RV V S) (hr : RR V A w (S.2.1 18)) (hA : A a) (ha : a < y_M V) : fR_roomOf (nI a) S = some (rI (nI (w_room V w a)), S) := by
  have h1 := w_sum_le hv.ok hr.2.2.2.2 ha
  have h2 := w_mem_le (w := w) hv.ok ha
  rw [fR_roomOf, r_memoryOf hv hr hA ha, ev_I, r_allOf hv hr hA ha, ev_I]
  by_cases h : w_sum V w a ≤ w_mem V w a
  · rw [if_pos (nI_le (by omega) (by omega)), r_memoryOf hv hr hA ha, ev_I, r_allOf hv hr hA ha, ev_I, pk_sub h]
    rfl
  · rw [if_neg (nI_ge (by omega) (by omega))]
    have e : w_room V w a = 0 := by unfold w_room; omega
    rw [e]
    rfl
theorem r_learnsBy (hv : RV V S) (hL : RLw L S) (hr : RR V A w (S.2.1 18)) (hA : A a) (ha : a < y_M V) (hp : p < y_P V) : ∃ T, fR_learnsBy (nI a) (nI p) S = some (rI (nI (w_learn V L w a p)), T) ∧ frm [] [13, 14] S T := by
  have h1 := hv.2.2.2.2.1 p hp
  have h2 := hr.2.2.2.1
  have h3 := hv.ok.1
  have h4 := hv.ok.2.1
  have h6 := hr.2.1 a hA ha
  obtain ⟨T, e, g⟩ := r_learnsOf hL (nI (y_l V p)) (nI (y_h V p)) (nI (w_K w a p)) (nI (w_room V w a)) (nI (w_age V w a)) (w_c w 0 a) (nI (w_t w)) (nI a)
  refine ⟨T, ?_, g⟩
  rw [fR_learnsBy, r_i2, nI_1, pz_gib (by omega) (by omega), pz_gib (by omega) (by omega), r_knownOf hv.ok hr hA ha hp, ev_I, r_roomOf hv hr hA ha, ev_I]
  rw [show (48 : Int32) + nI a = nI (48 + a) from nI_add 48 a, show (60 : Int32) + nI a = nI (60 + a) from nI_add 60 a, show (94 : Int32) = nI 94 from rfl, pz_gib (by omega) (by omega), pz_gib (by omega) (by omega), pz_rA (by omega), pz_rA (by omega), pz_rA (by omega), pz_rA (by omega), pz_rA (by omega), h1.1, h1.2, h6.1, h6.2.2.1, h2, e, ev_I]
  rfl
theorem r_moreBy (hv : RV V S) (hL : RLw L S) (hr : RR V A w (S.2.1 18)) (hA : A a) (ha : a < y_M V) (hp : p < y_P V) : ∃ T, fR_moreBy (nI a) (nI p) S = some (rI (nI (w_gain V L w a p)), T) ∧ frm [] [13, 14] S T := by
  have h3 := hv.ok.1
  have h4 := hv.ok.2.1
  have h6 := hr.2.2.2.2.1 a ha p hp
  have h7 := hv.ok.l hp
  have h8 := w_mem_le (w := w) hv.ok ha
  have h9 : w_room V w a ≤ 99 := by unfold w_room; omega
  have h10 : w_learn V L w a p ≤ 20 := hL.2 _
  obtain ⟨T, e, g⟩ := r_learnsBy hv hL hr hA ha hp
  refine ⟨T, ?_, g⟩
  have hr' : RR V A w (T.2.1 18) := by rw [g.2.1 18 (by decide)]; exact hr
  have hv' : RV V T := hv.fr g (by decide) (by decide)
  have h1 := hv'.2.2.2.2.1 p hp
  rw [fR_moreBy, e, ev_I, r_i2, pz_gib (by omega) (by omega), r_knownOf hv.ok hr' hA ha hp, ev_I, pz_rA (by omega), h1.1, pk_sub h6, ev_nx, r_roomOf hv' hr' hA ha, ev_I, r_roomOf hv' hr' hA ha, ev_I]
  simp (disch := omega) only [fR_moreBy_42, pz_le]
  unfold w_gain
  by_cases q1 : w_learn V L w a p ≤ w_room V w a
  · rw [if_pos q1]
    by_cases q2 : w_learn V L w a p ≤ y_l V p - w_K w a p
    · rw [if_pos q2]; exact pz_sn (by omega)
    · rw [if_neg q2]; exact pz_sn (by omega)
  · rw [if_neg q1]
    by_cases q2 : w_room V w a ≤ y_l V p - w_K w a p
    · rw [if_pos q2]; exact pz_sn (by omega)
    · rw [if_neg q2]; exact pz_sn (by omega)
end PR
