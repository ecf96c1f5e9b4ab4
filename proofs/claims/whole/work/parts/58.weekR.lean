/-! a week's end in the reference -/
section PG
variable {V : Vy} {A : Nat → Prop} {w : Rw} {S : St} {f : Nat → Int32} {a b p d v m q : Nat} {ag : Nat → Nat} {od : Nat → Bool}
theorem w_old_iff (V : Vy) (w : Rw) (a : Nat) : w_old V w a = true ↔ y_a V a < 60 ∧ 60 ≤ y_a V a + w_t w / 10 := by
  unfold w_old
  split
  · constructor
    · intro h; cases h
    · intro h; omega
  · split
    · constructor
      · intro h; cases h
      · intro h; omega
    · constructor
      · intro _; omega
      · intro _; rfl
theorem w_bec_iff (V : Vy) (w : Rw) (a : Nat) : w_bec V w a = true ↔ (w_t w + 1) % 10 = 0 ∧ y_a V a + (w_t w + 1) / 10 = 60 := by simp [w_bec]
theorem w_week_t (V : Vy) (w : Rw) : w_t (w_week V w) = w_t w + 1 := rfl
theorem old_bec (h : w_bec V w a = true) : w_old V (w_week V w) a = true := by
  rw [w_bec_iff] at h
  rw [w_old_iff, w_week_t]
  omega
theorem old_nbec (h : ¬ w_bec V w a = true) : w_old V (w_week V w) a = w_old V w a := by
  rw [w_bec_iff] at h
  rw [Bool.eq_iff_iff, w_old_iff, w_old_iff, w_week_t]
  omega
def w_m1 (V : Vy) (w : Rw) (m q : Nat) : Rw := (fun a p => if a < m ∨ (a = m ∧ p < q) then w_fad V w a p else w_K w a p, fun i a => if (i = 1 ∨ i = 3) ∧ a < m then 0 else w_c w i a, w.2.2.1, w_t w)
def w_m2 (V : Vy) (w : Rw) (m q : Nat) : Rw := (fun a p => if (a < m ∨ (a = m ∧ p < q)) ∧ w_bec V w a = true then 0 else w_fad V w a p, fun i a => if i = 1 ∨ i = 3 then 0 else w_c w i a, w.2.2.1, w_t w + 1)
def ag2 (V : Vy) (w : Rw) (m b : Nat) : Nat := if b < m then y_a V b + (w_t w + 1) / 10 else y_a V b + w_t w / 10
def od2 (V : Vy) (w : Rw) (m b : Nat) : Bool := if b < m then w_old V (w_week V w) b else w_old V w b
theorem w_m1_K (V : Vy) (w : Rw) (m q a p : Nat) : w_K (w_m1 V w m q) a p = if a < m ∨ (a = m ∧ p < q) then w_fad V w a p else w_K w a p := rfl
theorem w_m1_c (V : Vy) (w : Rw) (m q i a : Nat) : w_c (w_m1 V w m q) i a = if (i = 1 ∨ i = 3) ∧ a < m then 0 else w_c w i a := rfl
theorem w_m2_K (V : Vy) (w : Rw) (m q a p : Nat) : w_K (w_m2 V w m q) a p = if (a < m ∨ (a = m ∧ p < q)) ∧ w_bec V w a = true then 0 else w_fad V w a p := rfl
theorem w_m1_ok (h : ROK V w) (m q : Nat) : ROK V (w_m1 V w m q) := ⟨fun a ha p hp => by
  rw [w_m1_K]
  split
  · exact Nat.le_trans (w_fad_le V w a p) (h.1 a ha p hp)
  · exact h.1 a ha p hp, h.2⟩
theorem w_m2_ok (h : ROK V w) (ht : w_t w < 1000) (m q : Nat) : ROK V (w_m2 V w m q) := ⟨fun a ha p hp => by
  rw [w_m2_K]
  split
  · exact Nat.zero_le _
  · exact Nat.le_trans (w_fad_le V w a p) (h.1 a ha p hp), ht⟩
theorem w_m1_at (V : Vy) (w : Rw) (m q : Nat) : w_K (w_m1 V w m q) m q = w_K w m q := by rw [w_m1_K, if_neg (by omega)]
theorem RR.m1q (h : RR V A (w_sK (w_m1 V w m q) m q (w_fad V w m q)) f) (hk : ROK V w) : RR V A (w_m1 V w m (q + 1)) f :=
  RRg.congr h (w_m1_ok hk m (q + 1)) (fun a hA ha p hp => by
    rw [w_sK_K, w_m1_K, w_m1_K]
    by_cases e : a = m ∧ p = q
    · rw [if_pos e, if_pos (by omega), e.1, e.2]
    · rw [if_neg e]
      by_cases e2 : a < m ∨ (a = m ∧ p < q)
      · rw [if_pos e2, if_pos (by omega)]
      · rw [if_neg e2, if_neg (by omega)]) (fun i hi a hA ha => rfl) (fun d hd => rfl) rfl (fun _ _ _ => rfl) (fun _ _ _ => rfl)
theorem RR.m1s (h : RR V A (w_m1 V w m q) f) (hk : ROK V w) (he : w_fad V w m q = w_K w m q) : RR V A (w_m1 V w m (q + 1)) f :=
  RRg.congr h (w_m1_ok hk m (q + 1)) (fun a hA ha p hp => by
    rw [w_m1_K, w_m1_K]
    by_cases e : a = m ∧ p = q
    · rw [if_neg (by omega), if_pos (by omega), e.1, e.2, he]
    · by_cases e2 : a < m ∨ (a = m ∧ p < q)
      · rw [if_pos e2, if_pos (by omega)]
      · rw [if_neg e2, if_neg (by omega)]) (fun i hi a hA ha => rfl) (fun d hd => rfl) rfl (fun _ _ _ => rfl) (fun _ _ _ => rfl)
theorem RR.m1m (h : RR V A (w_sc (w_sc (w_m1 V w m (y_P V)) 3 m 0) 1 m 0) f) (hk : ROK V w) : RR V A (w_m1 V w (m + 1) 0) f :=
  RRg.congr h (w_m1_ok hk (m + 1) 0) (fun a hA ha p hp => by
    show w_K (w_m1 V w m (y_P V)) a p = _
    rw [w_m1_K, w_m1_K]
    by_cases e2 : a < m ∨ (a = m ∧ p < y_P V)
    · rw [if_pos e2, if_pos (by omega)]
    · rw [if_neg e2, if_neg (by omega)]) (fun i hi a hA ha => by
    rw [w_sc_c, w_sc_c, w_m1_c, w_m1_c]
    by_cases e1 : i = 1 ∧ a = m
    · rw [if_pos e1, if_pos (by omega)]
    · rw [if_neg e1]
      by_cases e3 : i = 3 ∧ a = m
      · rw [if_pos e3, if_pos (by omega)]
      · rw [if_neg e3]
        by_cases e4 : (i = 1 ∨ i = 3) ∧ a < m
        · rw [if_pos e4, if_pos (by omega)]
        · rw [if_neg e4, if_neg (by omega)]) (fun d hd => rfl) rfl (fun _ _ _ => rfl) (fun _ _ _ => rfl)
theorem RR.tick (hV : VOK V) (h : RR V A (w_m1 V w (y_M V) 0) f) (hk : ROK V w) (ht : w_t w < 1000) : RRg V A (w_m2 V w 0 0) (ag2 V w 0) (od2 V w 0) (upd f 94 (nI (w_t w + 1))) := by
  have h1 := hV.1
  have h2 := hV.2.1
  have h3 := hV.2.2.1
  refine ⟨fun b hA hb q hq => ?_, fun b hA hb => ?_, fun e he => ?_, ?_, w_m2_ok hk ht 0 0⟩
  · rw [upd_n _ _ (by omega), w_m2_K, if_neg (by omega), h.1 b hA hb q hq, w_m1_K, if_pos (Or.inl hb)]
  · have h9 := h.2.1 b hA hb
    have c0 : w_c (w_m1 V w (y_M V) 0) 0 b = w_c (w_m2 V w 0 0) 0 b := by rw [w_m1_c, if_neg (by omega)]; rfl
    have c1 : w_c (w_m1 V w (y_M V) 0) 1 b = w_c (w_m2 V w 0 0) 1 b := by rw [w_m1_c, if_pos ⟨Or.inl rfl, hb⟩]; rfl
    have c2 : w_c (w_m1 V w (y_M V) 0) 2 b = w_c (w_m2 V w 0 0) 2 b := by rw [w_m1_c, if_neg (by omega)]; rfl
    have c3 : w_c (w_m1 V w (y_M V) 0) 3 b = w_c (w_m2 V w 0 0) 3 b := by rw [w_m1_c, if_pos ⟨Or.inr rfl, hb⟩]; rfl
    have a0 : w_age V (w_m1 V w (y_M V) 0) b = ag2 V w 0 b := by rw [ag2, if_neg (by omega)]; rfl
    have o0 : w_old V (w_m1 V w (y_M V) 0) b = od2 V w 0 b := by rw [od2, if_neg (by omega)]; rfl
    rw [c0, c1, c2, c3, a0, o0] at h9
    rw [upd_n _ _ (by omega), upd_n _ _ (by omega), upd_n _ _ (by omega), upd_n _ _ (by omega), upd_n _ _ (by omega), upd_n _ _ (by omega)]
    exact h9
  · rw [upd_n _ _ (by omega)]; exact h.2.2.1 e he
  · rw [upd_s]; rfl
theorem r_passes_12 {K : Int32 → St → Oz} (hk : ROK V w) (hA : ∀ a, A a) (hm : m < y_M V) : ∀ k n q (S : St), q + k = y_P V → k < n → RV V S → RR V A (w_m1 V w m q) (S.2.1 18) →
    ∃ T, fR_passes_12 K n (nI m) (nI q) S = K (nI m + 1) T ∧ frm [] [18] S T ∧ RR V A (w_m1 V w (m + 1) 0) (T.2.1 18) := by
  intro k
  induction k with
  | zero =>
    intro n q S hq hn hv hr
    have h3 := hv.ok.1
    have h4 := hv.ok.2.1
    obtain ⟨n, rfl⟩ := pz_fu hn
    have e : q = y_P V := by omega
    subst e
    rw [fR_passes_12, hv.1, if_pos (nI_le (by omega) (by omega)), show (78 : Int32) + nI m = nI (78 + m) from nI_add 78 m, show (66 : Int32) + nI m = nI (66 + m) from nI_add 66 m, pz_gib (by omega) (by omega), ev_nx, pz_gib (by omega) (by omega), ev_nx]
    refine ⟨_, rfl, (frm.rf.A (by simp)).A (by simp), ?_⟩
    refine RR.m1m ?_ hk
    rw [tA_21, if_pos rfl, nI_clamp (by omega), tA_21, if_pos rfl, nI_clamp (by omega)]
    exact (hr.sc (i := 3) hv.ok hm (by omega)).sc (i := 1) hv.ok hm (by omega)
  | succ k ih =>
    intro n q S hq hn hv hr
    have h3 := hv.ok.1
    have h4 := hv.ok.2.1
    have h8 := hv.ok.2.2.2.1
    obtain ⟨n, rfl⟩ := pz_fu hn
    have h5 := hk.1 m hm q (by omega)
    have h6 := hv.ok.l (p := q) (by omega)
    have h7 := (hr.2.1 m (hA m) hm).2.2.2.2.2
    rw [w_m1_c, if_neg (by omega)] at h7
    rw [fR_passes_12, hv.1, if_neg (nI_ge (by omega) (by omega)), show (78 : Int32) + nI m = nI (78 + m) from nI_add 78 m, pz_gib (by omega) (by omega), pz_rA (by omega), h7, it_t0 (by omega), nI_1 q]
    by_cases ht2 : tb (w_c w 3 m) q = true
    · rw [if_pos ht2]
      exact ih n (q + 1) S (by omega) (by omega) hv (hr.m1s hk (by rw [w_fad, if_pos ht2]))
    · rw [if_neg ht2, hv.2.2.2.1, it_leL (by omega) (by omega)]
      by_cases hF : y_F V ≤ 0
      · rw [if_pos hF]
        exact ih n (q + 1) S (by omega) (by omega) hv (hr.m1s hk (by rw [w_fad, if_neg ht2, show y_F V = 0 by omega, Nat.div_zero]; rfl))
      · have hd : y_h V q / y_F V ≤ 9 := Nat.le_trans (Nat.div_le_self _ _) (by omega)
        have h9 := (hv.2.2.2.2.1 q (by omega)).2
        rw [if_neg hF, r_knownOf hv.ok hr (hA m) hm (by omega), ev_I, w_m1_at, r_i21, pz_gib (by omega) (by omega), pz_rA (by omega), h9, hv.2.2.2.1, gdT (pz_nz (by omega) (by omega)), pk_div (by omega) (by omega) (by omega), r_knowsThenD hv.ok hm (by omega) (by omega) (by omega), ev_V]
        have hr2 : RR V A (w_m1 V w m (q + 1)) ((sA S 18 (nI (0 + 8 * m + q)) (nI (w_K w m q - y_h V q / y_F V))).2.1 18) := by
          refine RR.m1q ?_ hk
          rw [w_fad, if_neg ht2]
          exact hr.sK' hv.ok hm (by omega) (Nat.le_trans (Nat.sub_le _ _) h5)
        obtain ⟨T, e, g, r⟩ := ih n (q + 1) (sA S 18 (nI (0 + 8 * m + q)) (nI (w_K w m q - y_h V q / y_F V))) (by omega) (by omega) hv hr2
        exact ⟨T, e, (frm.rf.A (by simp)).tr g, r⟩
theorem r_passes_179 {K : Int32 → St → Oz} (hk : ROK V w) (ht : w_t w < 1000) (hm : m < y_M V) (hb : w_bec V w m = true) : ∀ k n q (S : St), q + k = y_P V → k < n → RV V S → RRg V A (w_m2 V w m q) (ag2 V w (m + 1)) (od2 V w (m + 1)) (S.2.1 18) →
    ∃ T, fR_passes_179 K n (nI m) (nI q) S = K (nI m + 1) T ∧ frm [] [18] S T ∧ RRg V A (w_m2 V w (m + 1) 0) (ag2 V w (m + 1)) (od2 V w (m + 1)) (T.2.1 18) := by
  intro k
  induction k with
  | zero =>
    intro n q S hq hn hv hr
    have h3 := hv.ok.1
    obtain ⟨n, rfl⟩ := pz_fu hn
    have e : q = y_P V := by omega
    subst e
    rw [fR_passes_179, hv.1, if_pos (nI_le (by omega) (by omega))]
    refine ⟨S, rfl, frm.rf, hr.congr (w_m2_ok hk ht (m + 1) 0) (fun a hA ha p hp => ?_) (fun i hi a hA ha => rfl) (fun d hd => rfl) rfl (fun _ _ _ => rfl) (fun _ _ _ => rfl)⟩
    rw [w_m2_K, w_m2_K]
    by_cases e2 : (a < m ∨ (a = m ∧ p < y_P V)) ∧ w_bec V w a = true
    · rw [if_pos e2, if_pos ⟨by omega, e2.2⟩]
    · rw [if_neg e2, if_neg (fun h9 => e2 ⟨by omega, h9.2⟩)]
  | succ k ih =>
    intro n q S hq hn hv hr
    have h3 := hv.ok.1
    have h4 := hv.ok.2.1
    obtain ⟨n, rfl⟩ := pz_fu hn
    have h6 := hv.ok.l (p := q) (by omega)
    rw [fR_passes_179, hv.1, if_neg (nI_ge (by omega) (by omega)), show fR_knowsThen (nI m) (nI q) 0 S = _ from r_knowsThen (v := 0) hv.ok hm (by omega) (by omega), ev_V, nI_1 q]
    have hr2 : RRg V A (w_m2 V w m (q + 1)) (ag2 V w (m + 1)) (od2 V w (m + 1)) ((sA S 18 (nI (0 + 8 * m + q)) (nI 0)).2.1 18) := by
      rw [tA_21, if_pos rfl, nI_clamp (by omega)]
      refine (hr.sK (v := 0) hv.ok hm (by omega) (by omega)).congr (w_m2_ok hk ht m (q + 1)) (fun a hA ha p hp => ?_) (fun i hi a hA ha => rfl) (fun d hd => rfl) rfl (fun _ _ _ => rfl) (fun _ _ _ => rfl)
      rw [w_sK_K, w_m2_K, w_m2_K]
      by_cases e : a = m ∧ p = q
      · rw [if_pos e, if_pos ⟨by omega, by rw [e.1]; exact hb⟩]
      · rw [if_neg e]
        by_cases e2 : (a < m ∨ (a = m ∧ p < q)) ∧ w_bec V w a = true
        · rw [if_pos e2, if_pos ⟨by omega, e2.2⟩]
        · rw [if_neg e2, if_neg (fun h9 => e2 ⟨by omega, h9.2⟩)]
    obtain ⟨T, e, g, r⟩ := ih n (q + 1) (sA S 18 (nI (0 + 8 * m + q)) (nI 0)) (by omega) (by omega) hv hr2
    exact ⟨T, e, (frm.rf.A (by simp)).tr g, r⟩
theorem RRg.age1 (hV : VOK V) (hk : ROK V w) (ht : w_t w < 1000) (h10 : (w_t w + 1) % 10 = 0) (hm : m < y_M V) (h : RRg V A (w_m2 V w m 0) (ag2 V w m) (od2 V w m) f) : RRg V A (w_m2 V w m 0) (ag2 V w (m + 1)) (od2 V w m) (upd f (48 + m) (nI (y_a V m + w_t w / 10 + 1))) := by
  refine (h.sa (v := y_a V m + w_t w / 10 + 1) hV (a := m) hm).congr (w_m2_ok hk ht m 0) (fun _ _ _ _ _ => rfl) (fun _ _ _ _ _ => rfl) (fun _ _ => rfl) rfl (fun b _ hb => ?_) (fun _ _ _ => rfl)
  show (if b = m then y_a V m + w_t w / 10 + 1 else ag2 V w m b) = ag2 V w (m + 1) b
  unfold ag2
  by_cases e : b = m
  · rw [if_pos e, if_pos (by omega), e]; omega
  · rw [if_neg e]
    by_cases e2 : b < m
    · rw [if_pos e2, if_pos (by omega)]
    · rw [if_neg e2, if_neg (by omega)]
theorem RRg.bec1 (hV : VOK V) (hk : ROK V w) (ht : w_t w < 1000) (hb : w_bec V w m = true) (hm : m < y_M V) (h : RRg V A (w_m2 V w m 0) (ag2 V w (m + 1)) (od2 V w m) f) : RRg V A (w_m2 V w m 0) (ag2 V w (m + 1)) (od2 V w (m + 1)) (upd f (54 + m) 1) := by
  refine (h.so hV (a := m) hm).congr (w_m2_ok hk ht m 0) (fun _ _ _ _ _ => rfl) (fun _ _ _ _ _ => rfl) (fun _ _ => rfl) rfl (fun _ _ _ => rfl) (fun b _ hb2 => ?_)
  show (decide (b = m) || od2 V w m b) = od2 V w (m + 1) b
  by_cases e : b = m
  · subst e
    rw [od2, od2, if_pos (by omega : b < b + 1), old_bec hb, decide_eq_true rfl, Bool.true_or]
  · rw [decide_eq_false e, Bool.false_or, od2, od2]
    by_cases e2 : b < m
    · rw [if_pos e2, if_pos (by omega)]
    · rw [if_neg e2, if_neg (by omega)]
theorem RRg.nbec1 (hk : ROK V w) (ht : w_t w < 1000) (hb : ¬ w_bec V w m = true) (h : RRg V A (w_m2 V w m 0) (ag2 V w (m + 1)) (od2 V w m) f) : RRg V A (w_m2 V w (m + 1) 0) (ag2 V w (m + 1)) (od2 V w (m + 1)) f := by
  refine h.congr (w_m2_ok hk ht (m + 1) 0) (fun a _ ha p hp => ?_) (fun _ _ _ _ _ => rfl) (fun _ _ => rfl) rfl (fun _ _ _ => rfl) (fun b _ hb2 => ?_)
  · rw [w_m2_K, w_m2_K]
    by_cases e : a = m
    · rw [e, if_neg (fun h => hb h.2), if_neg (fun h => hb h.2)]
    · by_cases e2 : a < m ∧ w_bec V w a = true
      · rw [if_pos ⟨Or.inl e2.1, e2.2⟩, if_pos ⟨by omega, e2.2⟩]
      · rw [if_neg (fun h => e2 ⟨by omega, h.2⟩), if_neg (fun h => e2 ⟨by omega, h.2⟩)]
  · unfold od2
    by_cases e : b = m
    · rw [if_neg (by omega), if_pos (by omega), e, old_nbec hb]
    · by_cases e2 : b < m
      · rw [if_pos e2, if_pos (by omega)]
      · rw [if_neg e2, if_neg (by omega)]
theorem r_passes_116 (hk : ROK V w) (ht : w_t w < 1000) (h10 : (w_t w + 1) % 10 = 0) (hA : ∀ a, A a) : ∀ k n m (S : St), m + k = y_M V → k < n → RV V S → RRg V A (w_m2 V w m 0) (ag2 V w m) (od2 V w m) (S.2.1 18) →
    ∃ T, fR_passes_116 n (nI m) S = some (rV, T) ∧ frm [] [18] S T ∧ RRg V A (w_m2 V w (y_M V) 0) (ag2 V w (y_M V)) (od2 V w (y_M V)) (T.2.1 18) := by
  intro k
  induction k with
  | zero =>
    intro n m S hq hn hv hr
    have h4 := hv.ok.2.1
    obtain ⟨n, rfl⟩ := pz_fu hn
    have e : m = y_M V := by omega
    subst e
    rw [fR_passes_116, hv.2.1, if_pos (nI_le (by omega) (by omega))]
    exact ⟨S, rfl, frm.rf, hr⟩
  | succ k ih =>
    intro n m S hq hn hv hr
    have h3 := hv.ok.1
    have h4 := hv.ok.2.1
    have h5 := hv.ok.m (a := m) (by omega)
    obtain ⟨n, rfl⟩ := pz_fu hn
    have hag := (hr.2.1 m (hA m) (by omega)).1
    rw [ag2, if_neg (by omega)] at hag
    rw [fR_passes_116, hv.2.1, if_neg (nI_ge (by omega) (by omega)), show (94 : Int32) = nI 94 from rfl, pz_rA (by omega), hr.2.2.2.1, show w_t (w_m2 V w m 0) = w_t w + 1 from rfl, show (10 : Int32) = nI 10 from rfl, pk_rem (by omega) (by omega) (by omega), it_eqL (by omega) (by omega), if_pos h10, show (48 : Int32) + nI m = nI (48 + m) from nI_add 48 m, show (54 : Int32) + nI m = nI (54 + m) from nI_add 54 m, pz_gib (by omega) (by omega), pz_gib (by omega) (by omega), pz_rA (by omega), hag, nI_1, ev_nx, pz_gib (by omega) (by omega)]
    have hr2 : RRg V A (w_m2 V w m 0) (ag2 V w (m + 1)) (od2 V w m) ((sA S 18 (nI (48 + m)) (nI (y_a V m + w_t w / 10 + 1))).2.1 18) := by
      rw [tA_21, if_pos rfl, nI_clamp (by omega)]
      exact hr.age1 hv.ok hk ht h10 (by omega)
    have g1 : frm [] [18] S (sA S 18 (nI (48 + m)) (nI (y_a V m + w_t w / 10 + 1))) := frm.rf.A (by simp)
    have hv2 : RV V (sA S 18 (nI (48 + m)) (nI (y_a V m + w_t w / 10 + 1))) := hv
    have hag2 := (hr2.2.1 m (hA m) (by omega)).1
    rw [ag2, if_pos (by omega)] at hag2
    generalize sA S 18 (nI (48 + m)) (nI (y_a V m + w_t w / 10 + 1)) = T1 at hr2 g1 hv2 hag2 ⊢
    rw [pz_rA (by omega), hag2, it_eqL (by omega) (by omega)]
    by_cases h60 : y_a V m + (w_t w + 1) / 10 = 60
    · have hb : w_bec V w m = true := (w_bec_iff V w m).mpr ⟨h10, h60⟩
      rw [if_pos h60, pz_gib (by omega) (by omega), ev_nx]
      have hr3 : RRg V A (w_m2 V w m 0) (ag2 V w (m + 1)) (od2 V w (m + 1)) ((sA T1 18 (nI (54 + m)) 1).2.1 18) := by
        rw [tA_21, if_pos rfl, nI_clamp (by omega)]
        exact hr2.bec1 hv.ok hk ht hb (by omega)
      have g3 : frm [] [18] T1 (sA T1 18 (nI (54 + m)) 1) := frm.rf.A (by simp)
      have hv3 : RV V (sA T1 18 (nI (54 + m)) 1) := hv2.fr g3 (by decide) (by decide)
      generalize sA T1 18 (nI (54 + m)) 1 = T3 at hr3 g3 hv3 ⊢
      obtain ⟨T2, e2, g2, r2⟩ := r_passes_179 (K := fun x1 S => fR_passes_116 n x1 S) hk ht (m := m) (by omega) hb (y_P V) FU 0 T3 (by omega) (by rw [pz_FU]; omega) hv3 hr3
      have hv4 : RV V T2 := hv3.fr g2 (by decide) (by decide)
      obtain ⟨T, e, g, r⟩ := ih n (m + 1) T2 (by omega) (by omega) hv4 r2
      refine ⟨T, ?_, g1.tr (g3.tr (g2.tr g)), r⟩
      exact e2.trans ((congrArg (fun z => fR_passes_116 n z T2) (nI_1 m)).trans e)
    · have hb : ¬ w_bec V w m = true := fun h => h60 ((w_bec_iff V w m).mp h).2
      rw [if_neg h60]
      have hr3 := hr2.nbec1 hk ht hb
      obtain ⟨T, e, g, r⟩ := ih n (m + 1) T1 (by omega) (by omega) hv2 hr3
      exact ⟨T, by rw [nI_1, e], g1.tr g, r⟩
theorem r_passes_2 (hk : ROK V w) (ht : w_t w < 1000) (hA : ∀ a, A a) : ∀ k n m (S : St), m + k = y_M V → k < n → RV V S → RR V A (w_m1 V w m 0) (S.2.1 18) →
    ∃ T, fR_passes_2 n (nI m) S = some (rV, T) ∧ frm [] [18] S T ∧ RR V A (w_week V w) (T.2.1 18) := by
  intro k
  induction k with
  | zero =>
    intro n m S hq hn hv hr
    have h4 := hv.ok.2.1
    obtain ⟨n, rfl⟩ := pz_fu hn
    have e : m = y_M V := by omega
    subst e
    rw [fR_passes_2, hv.2.1, if_pos (nI_le (by omega) (by omega)), show (94 : Int32) = nI 94 from rfl, pz_rA (by omega), hr.2.2.2.1, show w_t (w_m1 V w (y_M V) 0) = w_t w from rfl, nI_1, ev_nx]
    have hr2 : RRg V A (w_m2 V w 0 0) (ag2 V w 0) (od2 V w 0) ((sA S 18 (nI 94) (nI (w_t w + 1))).2.1 18) := by
      rw [tA_21, if_pos rfl, nI_clamp (by omega)]
      exact hr.tick hv.ok hk ht
    have g1 : frm [] [18] S (sA S 18 (nI 94) (nI (w_t w + 1))) := frm.rf.A (by simp)
    have hv2 : RV V (sA S 18 (nI 94) (nI (w_t w + 1))) := hv
    generalize sA S 18 (nI 94) (nI (w_t w + 1)) = T1 at hr2 g1 hv2 ⊢
    by_cases h10 : (w_t w + 1) % 10 = 0
    · obtain ⟨T, e, g, r⟩ := r_passes_116 hk ht h10 hA (y_M V) FU 0 T1 (by omega) (by rw [pz_FU]; omega) hv2 hr2
      refine ⟨T, e, g1.tr g, r.congr (w_week_ok hk ht) (fun a _ ha p hp => ?_) (fun _ _ _ _ _ => rfl) (fun _ _ => rfl) rfl (fun b _ hb => ?_) (fun b _ hb => ?_)⟩
      · rw [w_m2_K]
        show _ = w_new V w a p
        unfold w_new
        by_cases e2 : w_bec V w a = true
        · rw [if_pos ⟨Or.inl ha, e2⟩, if_pos e2]
        · rw [if_neg (fun h => e2 h.2), if_neg e2]
      · rw [ag2, if_pos hb]; rfl
      · rw [od2, if_pos hb]
    · refine ⟨T1, ?_, g1, hr2.congr (w_week_ok hk ht) (fun a _ ha p hp => ?_) (fun _ _ _ _ _ => rfl) (fun _ _ => rfl) rfl (fun b _ hb => ?_) (fun b _ hb => ?_)⟩
      · rw [show (FU : Nat) = 1999 + 1 from rfl, fR_passes_116, hv2.2.1]
        by_cases hM : nI (y_M V) ≤ 0
        · rw [if_pos hM]
        · rw [if_neg hM, show (94 : Int32) = nI 94 from rfl, pz_rA (by omega), hr2.2.2.2.1, show w_t (w_m2 V w 0 0) = w_t w + 1 from rfl, show (10 : Int32) = nI 10 from rfl, pk_rem (by omega) (by omega) (by omega), it_eqL (by omega) (by omega), if_neg h10]
      · have hb : ¬ w_bec V w a = true := fun h => h10 ((w_bec_iff V w a).mp h).1
        rw [w_m2_K, if_neg (fun h => hb h.2)]
        show _ = w_new V w a p
        rw [w_new, if_neg hb]
      · show ag2 V w 0 b = y_a V b + (w_t w + 1) / 10
        rw [ag2, if_neg (by omega)]
        omega
      · have hb2 : ¬ w_bec V w b = true := fun h => h10 ((w_bec_iff V w b).mp h).1
        rw [od2, if_neg (by omega), old_nbec hb2]
  | succ k ih =>
    intro n m S hq hn hv hr
    have h3 := hv.ok.1
    have h4 := hv.ok.2.1
    obtain ⟨n, rfl⟩ := pz_fu hn
    rw [fR_passes_2, hv.2.1, if_neg (nI_ge (by omega) (by omega))]
    obtain ⟨T1, e1, g1, r1⟩ := r_passes_12 (K := fun x1 S => fR_passes_2 n x1 S) hk hA (m := m) (by omega) (y_P V) FU 0 S (by omega) (by rw [pz_FU]; omega) hv hr
    obtain ⟨T, e, g, r⟩ := ih n (m + 1) T1 (by omega) (by omega) (hv.fr g1 (by decide) (by decide)) r1
    refine ⟨T, ?_, g1.tr g, r⟩
    rw [show (0 : Int32) = nI 0 from rfl, e1, ← e, nI_1]
theorem r_passes (hv : RV V S) (hr : RR V A w (S.2.1 18)) (ht : w_t w < 1000) (hA : ∀ a, A a) : ∃ T, fR_passes S = some (rV, T) ∧ frm [] [18] S T ∧ RR V A (w_week V w) (T.2.1 18) := by
  have h4 := hv.ok.2.1
  rw [fR_passes]
  refine r_passes_2 hr.ok ht hA (y_M V) FU 0 S (by omega) (by rw [pz_FU]; omega) hv ?_
  exact RRg.congr hr (w_m1_ok hr.ok 0 0) (fun a _ ha p hp => by rw [w_m1_K, if_neg (by omega)]) (fun i _ a _ _ => by rw [w_m1_c, if_neg (by omega)]) (fun _ _ => rfl) rfl (fun _ _ _ => rfl) (fun _ _ _ => rfl)
end PG
