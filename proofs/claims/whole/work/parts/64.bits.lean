/-! men by bits: free, partners, chorus, candles (written by wip/whole/pure/p64.py) -/
section PN2
variable {SC SR S T U : St} {f u : Oz} {X : Nat → St → Oz} {b c x : Int32} {V : Vy} {A : Nat → Prop} {w : Rw} {L : Lw} {a p d k : Nat}
def w_free (V : Vy) (w : Rw) (a : Nat) : Bool := decide (orB (w_open V w (y_dm V) a) (y_D V) = 0)
theorem e_free_14 (hv : CV V S) : ∀ k n i, i + k = y_M V → k < n → fC_Main_free_14 n (orB (w_p w) (y_D V) ^^^ (-1)) (orB (w_free V w) i) (nI i) S = some (rI (orB (w_free V w) (y_M V)), S) := by
  have b1 := hv.ok.1
  have b2 := hv.ok.2.1
  have b3 := hv.ok.2.2.1
  intro k
  induction k with
  | zero =>
    intro n i hi hn
    obtain ⟨n, rfl⟩ := pz_fu hn
    rw [fC_Main_free_14, hv.2.1, if_pos (nI_le (by omega) (by omega))]
    have e : i = y_M V := by omega
    rw [e]
  | succ k ih =>
    intro n i hi hn
    obtain ⟨n, rfl⟩ := pz_fu hn
    rw [fC_Main_free_14, hv.2.1, if_neg (nI_ge (by omega) (by omega))]
    rw [e_debtsOfMan_2 hv (by omega), ev_I, orB_andn (by omega), nI_1 i]
    by_cases q : orB (fun j => decide (y_dm V j = i) && !w_p w j) (y_D V) = 0
    · rw [if_pos q, ev_nx, orB_T (c := w_free V w) (decide_eq_true q)]
      exact ih n (i + 1) (by omega) (by omega)
    · rw [if_neg q, orB_F (c := w_free V w) (decide_eq_false q)]
      exact ih n (i + 1) (by omega) (by omega)
theorem r_free_13 (hv : RV V S) (hr : RR V A w (S.2.1 18)) : ∀ k n i, i + k = y_M V → k < n → fR_free_13 n (orB (w_free V w) i) (nI i) S = some (rI (orB (w_free V w) (y_M V)), S) := by
  have b1 := hv.ok.1
  have b2 := hv.ok.2.1
  have b3 := hv.ok.2.2.1
  intro k
  induction k with
  | zero =>
    intro n i hi hn
    obtain ⟨n, rfl⟩ := pz_fu hn
    rw [fR_free_13, hv.2.1, if_pos (nI_le (by omega) (by omega))]
    have e : i = y_M V := by omega
    rw [e]
  | succ k ih =>
    intro n i hi hn
    obtain ⟨n, rfl⟩ := pz_fu hn
    rw [fR_free_13, hv.2.1, if_neg (nI_ge (by omega) (by omega))]
    rw [r_openBy0 hv hr (by omega), ev_I, nI_1 i]
    by_cases q : orB (w_open V w (y_dm V) i) (y_D V) = 0
    · rw [if_pos q, ev_nx, orB_T (c := w_free V w) (decide_eq_true q)]
      exact ih n (i + 1) (by omega) (by omega)
    · rw [if_neg q, ev_nx, or0_F (c := w_free V w) (decide_eq_false q)]
      exact ih n (i + 1) (by omega) (by omega)
theorem po_free : PO_free Rel := by
  intro SC SR hR
  have hR' := hR
  obtain ⟨m, hC, hM, hB⟩ := hR'
  obtain ⟨T, eT, gT, hT0, hvT, hLT, hrT, hT17, hTf⟩ := begT hM
  have hv := hC.1
  have hr := hC.2.2.1.1
  have b2 := hv.ok.2.1
  refine ⟨orB (w_free m.1 m.2.2.1) (y_M m.1), SC, T, ?_, ?_, hR.fr frx.rf gT⟩
  · rw [fC_Main_free, show fC_State_paidBits_9 SC = some (rI (orB (w_p m.2.2.1) (y_D m.1)), SC) from by rw [fC_State_paidBits_9, show (72 : Int32) = nI 72 from rfl, pz_rA (by omega), hr.2.2.1], ev_I, ev_nx]
    exact e_free_14 hv (y_M m.1) FU 0 (by omega) (by rw [pz_FU]; omega)
  · rw [fR_free, ev_nx, eT, ev_V]
    exact r_free_13 hvT hrT (y_M m.1) FU 0 (by omega) (by rw [pz_FU]; omega)
def w_part (V : Vy) (w : Rw) (d b : Nat) : Bool := !w_p w d && (!decide (b = y_dm V d) && w_two V w d b)
theorem e_partners_22 (hv : CV V S) (hr : RC V A w (S.2.1 46)) (hA : ∀ a, A a) (hd : d < y_D V) (hp : w_p w d = false) : ∀ k n i, i + k = y_M V → k < n → fC_Main_partners_22 n (nI d) (orB (w_part V w d) i) (nI i) S = some (rI (orB (w_part V w d) (y_M V)), S) := by
  have b1 := hv.ok.1
  have b2 := hv.ok.2.1
  have b3 := hv.ok.2.2.1
  intro k
  induction k with
  | zero =>
    intro n i hi hn
    obtain ⟨n, rfl⟩ := pz_fu hn
    rw [fC_Main_partners_22, hv.2.1, if_pos (nI_le (by omega) (by omega))]
    have e : i = y_M V := by omega
    rw [e]
  | succ k ih =>
    intro n i hi hn
    obtain ⟨n, rfl⟩ := pz_fu hn
    rw [fC_Main_partners_22, hv.2.1, if_neg (nI_ge (by omega) (by omega))]
    have h5 := hv.ok.d hd
    have h6 := hv.2.2.2.2.2.2.1 d hd
    rw [pz_gib (by omega) (by omega), pz_rA (by omega), h6.1, it_eq (by omega) (by omega), nI_1 i]
    by_cases q : i = y_dm V d
    · rw [if_pos q, orB_F (c := w_part V w d) (by rw [w_part, decide_eq_true q, hp]; rfl)]
      exact ih n (i + 1) (by omega) (by omega)
    · rw [if_neg q, e_isSungBy_9 hv hr hd (hA _) (hA i) (by omega), ev_I, it_b0]
      cases q2 : w_two V w d i
      · rw [if_neg pz_ft, orB_F (c := w_part V w d) (by rw [w_part, decide_eq_false q, hp, q2]; rfl)]
        exact ih n (i + 1) (by omega) (by omega)
      · rw [if_pos rfl, ev_nx, orB_T (c := w_part V w d) (by rw [w_part, decide_eq_false q, hp, q2]; rfl)]
        exact ih n (i + 1) (by omega) (by omega)
theorem r_partners_24 (hv : RV V S) (hr : RR V A w (S.2.1 18)) (hA : ∀ a, A a) (hd : d < y_D V) : ∀ k n i, i + k = y_M V → k < n → fR_partners_24 n (nI d) (orB (w_part V w d) i) (nI i) S = some (rI (orB (w_part V w d) (y_M V)), S) := by
  have b1 := hv.ok.1
  have b2 := hv.ok.2.1
  have b3 := hv.ok.2.2.1
  intro k
  induction k with
  | zero =>
    intro n i hi hn
    obtain ⟨n, rfl⟩ := pz_fu hn
    rw [fR_partners_24, hv.2.1, if_pos (nI_le (by omega) (by omega))]
    have e : i = y_M V := by omega
    rw [e]
  | succ k ih =>
    intro n i hi hn
    obtain ⟨n, rfl⟩ := pz_fu hn
    rw [fR_partners_24, hv.2.1, if_neg (nI_ge (by omega) (by omega))]
    have h5 := hv.ok.d hd
    have h6 := hv.2.2.2.2.2.2.1 d hd
    rw [r_i4, pz_gib (by omega) (by omega), pz_rA (by omega), h6.1, it_eq (by omega) (by omega), nI_1 i]
    by_cases q : i = y_dm V d
    · rw [if_pos q, ev_nx, or0_F (c := w_part V w d) (by rw [w_part, decide_eq_true q]; simp)]
      exact ih n (i + 1) (by omega) (by omega)
    · rw [if_neg q, show (84 : Int32) + nI d = nI (84 + d) from nI_add 84 d, pz_gib (by omega) (by omega), pz_rA (by omega), hr.2.2.1 d hd, it_b0]
      cases hp : w_p w d
      · rw [if_neg pz_ft, r_isByTwo hv hr hd (hA _) (hA i) (by omega), ev_I, it_b0]
        cases q2 : w_two V w d i
        · rw [if_neg pz_ft, ev_nx, or0_F (c := w_part V w d) (by rw [w_part, decide_eq_false q, hp, q2]; rfl)]
          exact ih n (i + 1) (by omega) (by omega)
        · rw [if_pos rfl, ev_nx, orB_T (c := w_part V w d) (by rw [w_part, decide_eq_false q, hp, q2]; rfl)]
          exact ih n (i + 1) (by omega) (by omega)
      · rw [if_pos rfl, ev_nx, or0_F (c := w_part V w d) (by rw [w_part, hp]; rfl)]
        exact ih n (i + 1) (by omega) (by omega)
theorem po_partners : PO_partners Rel := by
  intro SC SR hR x
  show Po (fC_Main_partners x SC) (fR_partners x SR) (fun j T => if j = 0 then some (rI 1, T) else none)
  have hR' := hR
  obtain ⟨m, hC, hM, hB⟩ := hR'
  obtain ⟨g0, h0, hv0, hL0, hr0⟩ := begR hM
  obtain ⟨T, eT, gT, hT0, hvT, hLT, hrT, hT17, hTf⟩ := begT hM
  have hv := hC.1
  have hL := hC.2.1
  have hr := hC.2.2.1.1
  have b1 := hv.ok.1
  have b2 := hv.ok.2.1
  have b3 := hv.ok.2.2.1
  rcases c_needDebt hv x with ⟨d, hd, rfl, e1⟩ | ⟨hx, e1⟩
  · have eP := r_isDebtT hv0 h0 hd 1
    have eQ : fR_partners (nI d) SR = some (rI (orB (w_part m.1 m.2.2.1 d) (y_M m.1)), T) := by
      rw [fR_partners, ev_nx, eP, ev_I, if_neg (by decide), eT, ev_V]
      exact r_partners_24 hvT hrT al_all hd (y_M m.1) FU 0 (by omega) (by rw [pz_FU]; omega)
    refine po_ok hR ?_ frx.rf eQ gT hT0
    rw [fC_Main_partners, e1, ev_V, e_isPaid_9 hv hr hd, ev_I, it_b0]
    cases hp : w_p m.2.2.1 d
    · rw [if_neg pz_ft]
      exact e_partners_22 hv hr al_all hd hp (y_M m.1) FU 0 (by omega) (by rw [pz_FU]; omega)
    · rw [if_pos rfl, (orB_zero (by omega)).mpr (fun i hi => by rw [w_part, hp]; rfl)]
  · refine po_nos1 (c := 1) hR ?_ ?_ (fun _ => rfl) (by decide)
    · rw [fC_Main_partners, e1, ev_Vx]
    · rw [fR_partners, ev_nx, r_isDebtF hv0 h0 hx (by decide), ev_I]
      rfl
/-- men as bits -/
theorem sh_1 : ∀ d, d < 31 → (1 : Int32) <<< (nI d &&& 31) = nI (2 ^ d) := by decide +kernel
theorem ush_k : ∀ d, d < 32 → ((((nI d).toUInt32 &&& Int32.toUInt32 31)).toBitVec % 32).toNat = d := by decide +kernel
theorem men_iff {M : Nat} (hM : M ≤ 6) (x : Int32) : (((x.toUInt32 >>> ((nI M).toUInt32 &&& Int32.toUInt32 31)).toInt32 = 0) ∧ ¬ x < 0 ∧ ¬ (1 : Int32) <<< (nI M &&& 31) ≤ x) ∨ (¬ ((x.toUInt32 >>> ((nI M).toUInt32 &&& Int32.toUInt32 31)).toInt32 = 0) ∧ (x < 0 ∨ (1 : Int32) <<< (nI M &&& 31) ≤ x)) := by
  have hu := pk_ushr x (nI M) M (ush_k M (by omega))
  have h2 : 2 ^ M ≤ 2 ^ 6 := Nat.pow_le_pow_right (by omega) hM
  have h3 : 0 < 2 ^ M := Nat.two_pow_pos M
  have hz : (x.toUInt32 >>> ((nI M).toUInt32 &&& Int32.toUInt32 31)).toInt32 = 0 ↔ x.toBitVec.toNat / 2 ^ M = 0 := by
    rw [← hu]
    constructor
    · intro h; rw [h]; rfl
    · intro h
      exact Int32.toBitVec_inj.1 (BitVec.eq_of_toNat_eq (by rw [h]; rfl))
  rw [hz, sh_1 M (by omega), Nat.div_eq_zero_iff]
  by_cases h0 : x < 0
  · have h4 : 2 ^ 31 ≤ x.toBitVec.toNat := by
      rw [Int32.lt_iff_toInt_lt] at h0
      have e : x.toInt = x.toBitVec.toInt := rfl
      rw [e, BitVec.toInt_eq_toNat_cond] at h0
      have e0 : (0 : Int32).toInt = 0 := rfl
      split at h0
      · omega
      · omega
    exact Or.inr ⟨by omega, Or.inl h0⟩
  · obtain ⟨j, hj, rfl⟩ := nI_of h0
    rw [pz_le (by omega) hj, pk_tn (by omega)]
    by_cases q : 2 ^ M ≤ j
    · exact Or.inr ⟨by omega, Or.inr q⟩
    · exact Or.inl ⟨by omega, h0, q⟩
theorem c_areMen (hv : CV V S) (x : Int32) : (fC_Valley_areMen_2 x S = some (rI 1, S) ∧ ¬ x < 0 ∧ ¬ (1 : Int32) <<< (nI (y_M V) &&& 31) ≤ x) ∨ (fC_Valley_areMen_2 x S = some (rI 0, S) ∧ (x < 0 ∨ (1 : Int32) <<< (nI (y_M V) &&& 31) ≤ x)) := by
  rw [fC_Valley_areMen_2, hv.2.1]
  rcases men_iff hv.ok.2.1 x with ⟨h1, h2⟩ | ⟨h1, h2⟩
  · exact Or.inl ⟨if_pos h1, h2⟩
  · exact Or.inr ⟨if_neg h1, h2⟩
def w_ch (w : Rw) (p : Nat) (x : Int32) (a : Nat) : Nat := if tb x a then w_K w a p else 0
theorem bit_mul (x : Int32) {d v : Nat} (h : d < 32) : ((x >>> (nI d &&& 31)) &&& 1) * nI v = nI (if tb x d then v else 0) := by
  rw [tb_shr x h]
  cases tb x d
  · rw [if_neg pz_ft, if_neg pz_ft, Int32.zero_mul]; rfl
  · rw [if_pos rfl, if_pos rfl, Int32.one_mul]
theorem ch_le (hV : VOK V) (hk : ROK V w) (hp : p < y_P V) (x : Int32) {i : Nat} (hi : i ≤ y_M V) : smN (w_ch w p x) i ≤ 240 := by
  have h := smN_le (f := w_ch w p x) (b := 40) i (fun j hj => by
    unfold w_ch
    split
    · exact Nat.le_trans (hk.1 j (by omega) p hp) (hV.l hp).2.1
    · omega)
  have h2 := hV.2.1
  have h3 : i * 40 ≤ 6 * 40 := Nat.mul_le_mul_right _ (by omega)
  omega
theorem e_chorus_22 (hv : CV V S) (hr : RC V A w (S.2.1 46)) (hA : ∀ a, A a) (hp : p < y_P V) (x : Int32) : ∀ k n i, i + k = y_M V → k < n → fC_Main_chorus_22 n (nI p) x (nI (smN (w_ch w p x) i)) (nI i) S = some (rI (nI (min (smN (w_ch w p x) (y_M V)) (y_l V p))), S) := by
  have b1 := hv.ok.1
  have b2 := hv.ok.2.1
  have b4 := hv.ok.l hp
  intro k
  induction k with
  | zero =>
    intro n i hi hn
    obtain ⟨n, rfl⟩ := pz_fu hn
    have e : i = y_M V := by omega
    have b5 := ch_le hv.ok hr.ok hp x (Nat.le_refl (y_M V))
    rw [fC_Main_chorus_22, hv.2.1, if_pos (nI_le (by omega) (by omega)), e, pz_gib (by omega) (by omega), pz_rA (by omega), (hv.2.2.2.2.1 p hp).1]
    by_cases q : y_l V p < smN (w_ch w p x) (y_M V)
    · rw [if_pos (nI_lt q (by omega)), Nat.min_eq_right (by omega)]
    · rw [if_neg (nI_nlt (by omega) (by omega)), Nat.min_eq_left (by omega)]
  | succ k ih =>
    intro n i hi hn
    obtain ⟨n, rfl⟩ := pz_fu hn
    rw [fC_Main_chorus_22, hv.2.1, if_neg (nI_ge (by omega) (by omega)), it_t1 (by omega), nI_1 i, ← ih n (i + 1) (by omega) (by omega), smN, w_ch]
    cases q : tb x i
    · rw [if_neg pz_ft, if_neg pz_ft]; rfl
    · rw [if_pos rfl, if_pos rfl, e_linesKnown_9 hv hr (hA i) (by omega) hp, ev_I, ev_nx, nI_add]
theorem r_chorus_53 (hv : RV V S) (hr : RR V A w (S.2.1 18)) (hA : ∀ a, A a) (hp : p < y_P V) (x : Int32) : ∀ k n i, i + k = y_M V → k < n → fR_chorus_53 n (nI p) x (nI (smN (w_ch w p x) i)) (nI i) S = some (rI (nI (min (smN (w_ch w p x) (y_M V)) (y_l V p))), S) := by
  have b1 := hv.ok.1
  have b2 := hv.ok.2.1
  have b4 := hv.ok.l hp
  intro k
  induction k with
  | zero =>
    intro n i hi hn
    obtain ⟨n, rfl⟩ := pz_fu hn
    have e : i = y_M V := by omega
    have b5 := ch_le hv.ok hr.ok hp x (Nat.le_refl (y_M V))
    rw [fR_chorus_53, hv.2.1, if_pos (nI_le (by omega) (by omega)), e, r_i2, pz_gib (by omega) (by omega), pz_rA (by omega), (hv.2.2.2.2.1 p hp).1, it_le (by omega) (by omega)]
    by_cases q : smN (w_ch w p x) (y_M V) ≤ y_l V p
    · rw [if_pos q, Nat.min_eq_left q]
    · rw [if_neg q, Nat.min_eq_right (by omega), pz_gib (by omega) (by omega)]
  | succ k ih =>
    intro n i hi hn
    obtain ⟨n, rfl⟩ := pz_fu hn
    rw [fR_chorus_53, hv.2.1, if_neg (nI_ge (by omega) (by omega)), r_knownOf hv.ok hr (hA i) (by omega) hp, ev_I, bit_mul x (by omega), ev_nx, nI_add, nI_1 i, ← ih n (i + 1) (by omega) (by omega)]
    rfl
theorem po_chorus : PO_chorus Rel := by
  intro SC SR hR x y
  show Po (fC_Main_chorus x y SC) (fR_chorus x y SR) (fun j T => if j = 0 then some (rI 1, T) else (if j = 1 then some (rI 2, T) else none))
  have hR' := hR
  obtain ⟨m, hC, hM, hB⟩ := hR'
  obtain ⟨g0, h0, hv0, hL0, hr0⟩ := begR hM
  obtain ⟨T, eT, gT, hT0, hvT, hLT, hrT, hT17, hTf⟩ := begT hM
  have hv := hC.1
  have hL := hC.2.1
  have hr := hC.2.2.1.1
  have b1 := hv.ok.1
  have b2 := hv.ok.2.1
  have b3 := hv.ok.2.2.1
  rcases c_needPoem hv x with ⟨p, hp, rfl, e1⟩ | ⟨hx, e1⟩
  · have eP := r_isPoemT hv0 h0 hp 1
    rcases c_areMen hv y with ⟨e2, h2, h3⟩ | ⟨e2, h2⟩
    · refine po_ok (b := nI (min (smN (w_ch m.2.2.1 p y) (y_M m.1)) (y_l m.1 p))) (T := SC) (U := T) hR ?_ frx.rf ?_ gT hT0
      · rw [fC_Main_chorus, e1, ev_V, e2, ev_I, c_need1, ev_V]
        exact e_chorus_22 hv hr al_all hp y (y_M m.1) FU 0 (by omega) (by rw [pz_FU]; omega)
      · rw [fR_chorus, ev_nx, eP, ev_I, if_neg (by decide), if_neg h2, hv0.2.1, if_neg h3, fR_chorus_34, r_may1 _ _ h0, ev_I, if_neg (by decide), eT, ev_V]
        exact r_chorus_53 hvT hrT al_all hp y (y_M m.1) FU 0 (by omega) (by rw [pz_FU]; omega)
    · refine po_ill1 (c := 2) hR ?_ ?_ (fun _ => rfl) (by decide)
      · rw [fC_Main_chorus, e1, ev_V, e2, ev_I, c_need0, ev_Vx]
      · have e3 : fR_chorus_33 (nI p) y (sF SR 0 0) = some (rI 0, sA (sF (sF SR 0 0) 0 2) 1 (nI 1) ((sF SR 0 0).2.1 1 1 + 1)) := by
          rw [fR_chorus_33, fR_chorus_34, show fR_may 0 2 1 (sF SR 0 0) = _ from r_may0 2 (k := 1) (by omega) h0 (by decide), ev_I]
          rfl
        rw [fR_chorus, ev_nx, eP, ev_I, if_neg (by decide), hv0.2.1]
        by_cases q : y < 0
        · rw [if_pos q]; exact e3
        · rw [if_neg q, if_pos (h2.resolve_left q)]; exact e3
  · refine po_nos1 (c := 1) hR ?_ ?_ (fun _ => rfl) (by decide)
    · rw [fC_Main_chorus, e1, ev_Vx]
    · rw [fR_chorus, ev_nx, r_isPoemF hv0 h0 hx (by decide), ev_I]
      rfl
/-- candles -/
def w_cn (V : Vy) (w : Rw) (x : Int32) (b a : Nat) : Nat := if tb x a then min (w_sum V w a) b else 0
def cbF (V : Vy) (w : Rw) (x : Int32) (N : Nat) : Nat → Nat
  | 0 => 0
  | b + 1 => if smN (w_cn V w x (b + 1)) (y_M V) ≤ N then b + 1 else cbF V w x N b
theorem cn_le (hV : VOK V) (x : Int32) {i bd : Nat} (hb : bd ≤ 99) (hi : i ≤ y_M V) : smN (w_cn V w x bd) i ≤ 600 := by
  have h := smN_le (f := w_cn V w x bd) (b := 99) i (fun j hj => by
    unfold w_cn
    split
    · exact Nat.le_trans (Nat.min_le_right _ _) hb
    · omega)
  have h2 := hV.2.1
  have h3 : i * 99 ≤ 6 * 99 := Nat.mul_le_mul_right _ (by omega)
  omega
theorem cbF_le (V : Vy) (w : Rw) (x : Int32) (N : Nat) : ∀ b, cbF V w x N b ≤ b := by
  intro b
  induction b with
  | zero => exact Nat.le_refl _
  | succ b ih =>
    rw [cbF]
    split <;> omega
theorem nI_min {x y : Nat} (hx : x < 2 ^ 31) (hy : y < 2 ^ 31) : (if nI y < nI x then nI y else nI x) = nI (min x y) := by
  by_cases q : y < x
  · rw [if_pos (nI_lt q hx), Nat.min_eq_right (by omega)]
  · rw [if_neg (nI_nlt (by omega) hy), Nat.min_eq_left (by omega)]
theorem e_candlesGiven_5 (hv : CV V S) (hr : RC V A w (S.2.1 46)) (hA : ∀ a, A a) (x : Int32) {bd : Nat} (hb : bd ≤ 99) : ∀ k n i, i + k = y_M V → k < n → fC_Main_candlesGiven_5 n x (nI bd) (nI (smN (w_cn V w x bd) i)) (nI i) S = some (rI (nI (smN (w_cn V w x bd) (y_M V))), S) := by
  have b1 := hv.ok.1
  have b2 := hv.ok.2.1
  have b3 := hv.ok.2.2.1
  intro k
  induction k with
  | zero =>
    intro n i hi hn
    obtain ⟨n, rfl⟩ := pz_fu hn
    rw [fC_Main_candlesGiven_5, hv.2.1, if_pos (nI_le (by omega) (by omega))]
    have e : i = y_M V := by omega
    rw [e]
  | succ k ih =>
    intro n i hi hn
    obtain ⟨n, rfl⟩ := pz_fu hn
    rw [fC_Main_candlesGiven_5, hv.2.1, if_neg (nI_ge (by omega) (by omega))]
    have h1 := w_sum_le hv.ok hr.ok (a := i) (by omega)
    rw [it_t1 (by omega), nI_1 i, ← ih n (i + 1) (by omega) (by omega), smN, w_cn]
    cases q : tb x i
    · rw [if_neg pz_ft, if_neg pz_ft]; rfl
    · rw [if_pos rfl, if_pos rfl, e_linesOf_9 hv hr (hA i) (by omega), ev_I, ev_nx, nI_min (by omega) (by omega), nI_add]
theorem r_bounded (hv : RV V S) (hr : RR V A w (S.2.1 18)) (hA : ∀ a, A a) (ha : a < y_M V) {bd : Nat} (hb : bd ≤ 99) : fR_bounded (nI a) (nI bd) S = some (rI (nI (min (w_sum V w a) bd)), S) := by
  have h1 := w_sum_le hv.ok hr.ok ha
  rw [fR_bounded, r_allOf hv hr (hA a) ha, ev_I, r_allOf hv hr (hA a) ha, ev_I, it_le (by omega) (by omega)]
  by_cases q : bd ≤ w_sum V w a
  · rw [if_pos q, Nat.min_eq_right q]
  · rw [if_neg q, Nat.min_eq_left (by omega)]
theorem r_candlesBy_5 (hv : RV V S) (hr : RR V A w (S.2.1 18)) (hA : ∀ a, A a) (x : Int32) {bd : Nat} (hb : bd ≤ 99) : ∀ k n i, i + k = y_M V → k < n → fR_candlesBy_5 n x (nI bd) (nI (smN (w_cn V w x bd) i)) (nI i) S = some (rI (nI (smN (w_cn V w x bd) (y_M V))), S) := by
  have b1 := hv.ok.1
  have b2 := hv.ok.2.1
  have b3 := hv.ok.2.2.1
  intro k
  induction k with
  | zero =>
    intro n i hi hn
    obtain ⟨n, rfl⟩ := pz_fu hn
    rw [fR_candlesBy_5, hv.2.1, if_pos (nI_le (by omega) (by omega))]
    have e : i = y_M V := by omega
    rw [e]
  | succ k ih =>
    intro n i hi hn
    obtain ⟨n, rfl⟩ := pz_fu hn
    rw [fR_candlesBy_5, hv.2.1, if_neg (nI_ge (by omega) (by omega))]
    rw [r_bounded hv hr hA (by omega) hb, ev_I, bit_mul x (by omega), ev_nx, nI_add, nI_1 i, ← ih n (i + 1) (by omega) (by omega)]
    rfl
theorem e_candles_50 (hv : CV V S) (hr : RC V A w (S.2.1 46)) (hA : ∀ a, A a) (ha : a < y_M V) (x : Int32) {N : Nat} (hN : N ≤ 999) : ∀ bd n, bd ≤ 99 → bd < n → fC_Main_candles_50 n (nI a) x (nI N) (nI bd) S = some (rI (nI (min (w_sum V w a) (cbF V w x N bd))), S) := by
  have b2 := hv.ok.2.1
  have h1 := w_sum_le hv.ok hr.ok ha
  have fin : ∀ bd, bd ≤ 99 → fC_Main_candles_72 (nI a) (nI bd) S = some (rI (nI (min (w_sum V w a) bd)), S) := fun bd hb => by
    rw [fC_Main_candles_72, e_linesOf_9 hv hr (hA a) ha, ev_I, nI_min (by omega) (by omega)]
  intro bd
  induction bd with
  | zero =>
    intro n hb hn
    obtain ⟨n, rfl⟩ := pz_fu hn
    rw [fC_Main_candles_50, if_pos (by decide), fin 0 hb]
    rfl
  | succ bd ih =>
    intro n hb hn
    obtain ⟨n, rfl⟩ := pz_fu hn
    have h2 := cn_le (w := w) hv.ok x hb (Nat.le_refl (y_M V))
    rw [fC_Main_candles_50, if_neg (nI_nle (by omega) (by omega)), fC_Main_candlesGiven, show fC_Main_candlesGiven_5 FU x (nI (bd + 1)) 0 0 S = _ from e_candlesGiven_5 hv hr hA x hb (y_M V) FU 0 (by omega) (by rw [pz_FU]; omega), ev_I, it_le (by omega) (by omega), cbF]
    by_cases q : smN (w_cn V w x (bd + 1)) (y_M V) ≤ N
    · rw [if_pos q, if_pos q, fin _ hb]
    · rw [if_neg q, if_neg q, pk_m1]
      exact ih n (by omega) (by omega)
theorem r_candles_63 (hv : RV V S) (hr : RR V A w (S.2.1 18)) (hA : ∀ a, A a) (ha : a < y_M V) (x : Int32) {N : Nat} (hN : N ≤ 999) : ∀ bd n, bd ≤ 99 → bd < n → fR_candles_63 n (nI a) x (nI N) (nI bd) S = some (rI (if tb x a then nI (min (w_sum V w a) (cbF V w x N bd)) else 0), S) := by
  have b2 := hv.ok.2.1
  have fin : ∀ bd, bd ≤ 99 → (if ((x >>> (nI a &&& 31)) &&& 1) = 0 then some (rI 0, S) else (obI (fR_bounded (nI a) (nI bd) S) fun r4 T3 => (some (rI r4, T3)))) = some (rI (if tb x a then nI (min (w_sum V w a) bd) else 0), S) := fun bd hb => by
    rw [it_t0 (by omega), r_bounded hv hr hA ha hb, ev_I]
    cases tb x a <;> rfl
  intro bd
  induction bd with
  | zero =>
    intro n hb hn
    obtain ⟨n, rfl⟩ := pz_fu hn
    have hz : smN (w_cn V w x 0) (y_M V) ≤ (y_M V) * 0 := smN_le _ (fun i _ => by
      unfold w_cn
      split
      · exact Nat.min_le_right _ _
      · exact Nat.le_refl _)
    rw [fR_candles_63, fR_candlesBy, show fR_candlesBy_5 FU x (nI 0) 0 0 S = _ from r_candlesBy_5 hv hr hA x hb (y_M V) FU 0 (by omega) (by rw [pz_FU]; omega), ev_I, if_pos (nI_le (by omega) (by omega)), fin 0 hb]
    rfl
  | succ bd ih =>
    intro n hb hn
    obtain ⟨n, rfl⟩ := pz_fu hn
    have h2 := cn_le (w := w) hv.ok x hb (Nat.le_refl (y_M V))
    rw [fR_candles_63, fR_candlesBy, show fR_candlesBy_5 FU x (nI (bd + 1)) 0 0 S = _ from r_candlesBy_5 hv hr hA x hb (y_M V) FU 0 (by omega) (by rw [pz_FU]; omega), ev_I, it_le (by omega) (by omega), cbF]
    by_cases q : smN (w_cn V w x (bd + 1)) (y_M V) ≤ N
    · rw [if_pos q, if_pos q, fin _ hb]
    · rw [if_neg q, if_neg q, pk_m1]
      exact ih n (by omega) (by omega)
theorem po_candles : PO_candles Rel := by
  intro SC SR hR x y z
  show Po (fC_Main_candles x y z SC) (fR_candles x y z SR) (fun j T => if j = 0 then some (rI 1, T) else (if j = 1 then some (rI 2, T) else none))
  have hR' := hR
  obtain ⟨m, hC, hM, hB⟩ := hR'
  obtain ⟨g0, h0, hv0, hL0, hr0⟩ := begR hM
  obtain ⟨T, eT, gT, hT0, hvT, hLT, hrT, hT17, hTf⟩ := begT hM
  have hv := hC.1
  have hL := hC.2.1
  have hr := hC.2.2.1.1
  have b1 := hv.ok.1
  have b2 := hv.ok.2.1
  have b3 := hv.ok.2.2.1
  rcases c_needMan hv x with ⟨a, ha, rfl, e1⟩ | ⟨hx, e1⟩
  · have eP := r_isManT hv0 h0 ha 1
    have e3 : fR_candles_44 (nI a) y z (sF SR 0 0) = some (rI 0, sA (sF (sF SR 0 0) 0 2) 1 (nI 1) ((sF SR 0 0).2.1 1 1 + 1)) := by
      rw [fR_candles_44, fR_candles_45, show fR_may 0 2 1 (sF SR 0 0) = _ from r_may0 2 (k := 1) (by omega) h0 (by decide), ev_I]
      rfl
    rcases c_areMen hv y with ⟨e2, h2, h3⟩ | ⟨e2, h2⟩
    · cases hw : wi z 0 999
      · refine po_ill1 (c := 2) hR ?_ ?_ (fun _ => rfl) (by decide)
        · rw [fC_Main_candles, e1, ev_V, e2, ev_I, if_neg (by decide), c_withinF hw, ev_I, if_pos rfl, fC_Main_candles_32, fC_Main_candles_33, c_need0, ev_Vx]
        · rw [fR_candles, ev_nx, eP, ev_I, if_neg (by decide), if_neg h2, hv0.2.1, if_neg h3, r_withinF hw, ev_I, if_pos rfl, e3]
      · obtain ⟨N, -, hN, rfl⟩ := wi_nI (lo := 0) (hi := 999) (by omega) (by omega) hw
        refine po_ok (b := if tb y a then nI (min (w_sum m.1 m.2.2.1 a) (cbF m.1 m.2.2.1 y N 99)) else 0) (T := SC) (U := T) hR ?_ frx.rf ?_ gT hT0
        · rw [fC_Main_candles, e1, ev_V, e2, ev_I, if_neg (by decide), c_withinT hw, ev_I, if_neg (by decide), fC_Main_candles_33, c_need1, ev_V, it_t0 (by omega)]
          cases q : tb y a
          · rfl
          · rw [if_pos rfl, if_pos rfl]
            exact e_candles_50 hv hr al_all ha y hN 99 FU (by omega) (by rw [pz_FU]; omega)
        · rw [fR_candles, ev_nx, eP, ev_I, if_neg (by decide), if_neg h2, hv0.2.1, if_neg h3, r_withinT hw, ev_I, if_neg (by decide), fR_candles_45, r_may1 _ _ h0, ev_I, if_neg (by decide), eT, ev_V]
          exact r_candles_63 hvT hrT al_all ha y hN 99 FU (by omega) (by rw [pz_FU]; omega)
    · refine po_ill1 (c := 2) hR ?_ ?_ (fun _ => rfl) (by decide)
      · rw [fC_Main_candles, e1, ev_V, e2, ev_I, if_pos rfl, fC_Main_candles_32, fC_Main_candles_33, c_need0, ev_Vx]
      · rw [fR_candles, ev_nx, eP, ev_I, if_neg (by decide), hv0.2.1]
        by_cases q : y < 0
        · rw [if_pos q]; exact e3
        · rw [if_neg q, if_pos (h2.resolve_left q)]; exact e3
  · refine po_nos1 (c := 1) hR ?_ ?_ (fun _ => rfl) (by decide)
    · rw [fC_Main_candles, e1, ev_Vx]
    · rw [fR_candles, ev_nx, r_isManF hv0 h0 hx (by decide), ev_I]
      rfl
end PN2
