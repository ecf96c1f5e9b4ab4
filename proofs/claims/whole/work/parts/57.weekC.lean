/-! a week's end in the class (written by wip/whole/pure/p57.py) -/
section PF
variable {V : Vy} {A : Nat → Prop} {w : Rw} {S : St} {f : Nat → Int32} {a b p d v m q x y : Nat}
/-- the row while a week ends: men below m are through, of m the poems below q -/
def w_mix (V : Vy) (w : Rw) (m q : Nat) : Rw := (fun a p => if a < m ∨ (a = m ∧ p < q) then w_new V w a p else w_K w a p, fun i a => if (i = 1 ∨ i = 3) ∧ a < m then 0 else w_c w i a, w.2.2.1, w_t w + 1)
theorem w_mix_K (V : Vy) (w : Rw) (m q a p : Nat) : w_K (w_mix V w m q) a p = if a < m ∨ (a = m ∧ p < q) then w_new V w a p else w_K w a p := rfl
theorem w_mix_c (V : Vy) (w : Rw) (m q i a : Nat) : w_c (w_mix V w m q) i a = if (i = 1 ∨ i = 3) ∧ a < m then 0 else w_c w i a := rfl
theorem w_mix_ok (h : ROK V w) (ht : w_t w < 1000) (m q : Nat) : ROK V (w_mix V w m q) := ⟨fun a ha p hp => by
  rw [w_mix_K]
  split
  · exact Nat.le_trans (w_new_le V w a p) (h.1 a ha p hp)
  · exact h.1 a ha p hp, ht⟩
theorem w_mix_at (V : Vy) (w : Rw) (m q : Nat) : w_K (w_mix V w m q) m q = w_K w m q := by rw [w_mix_K, if_neg (by omega)]
theorem RC.tick (hV : VOK V) (h : RC V A w f) (ht : w_t w < 1000) (hx : ∀ a, A a → a < y_M V → x ≤ a) : RC V A (w_mix V w x 0) (upd f 73 (nI (w_t w + 1))) := by
  have h1 := hV.1
  have h2 := hV.2.1
  refine ⟨fun b hA hb q hq => ?_, fun b hA hb => ?_, ?_, ?_, w_mix_ok h.ok ht x 0⟩
  · have h3 := hx b hA hb
    rw [upd_n _ _ (by omega), w_mix_K, if_neg (by omega)]
    exact h.1 b hA hb q hq
  · have h3 := hx b hA hb
    rw [upd_n _ _ (by omega), upd_n _ _ (by omega), upd_n _ _ (by omega), upd_n _ _ (by omega), w_mix_c, w_mix_c, w_mix_c, w_mix_c, if_neg (by omega), if_neg (by omega), if_neg (by omega), if_neg (by omega)]
    exact h.2.1 b hA hb
  · rw [upd_n _ _ (by omega)]
    exact h.2.2.1
  · rw [upd_s]
    rfl
theorem RC.mixq (h : RC V A (w_sK (w_mix V w m q) m q (w_new V w m q)) f) (hk : ROK V w) (ht : w_t w < 1000) : RC V A (w_mix V w m (q + 1)) f :=
  h.congr (w_mix_ok hk ht m (q + 1)) (fun a hA ha p hp => by
    rw [w_sK_K, w_mix_K, w_mix_K]
    by_cases e : a = m ∧ p = q
    · rw [if_pos e, if_pos (by omega), e.1, e.2]
    · rw [if_neg e]
      by_cases e2 : a < m ∨ (a = m ∧ p < q)
      · rw [if_pos e2, if_pos (by omega)]
      · rw [if_neg e2, if_neg (by omega)]) (fun i hi a hA ha => rfl) (fun d hd => rfl) rfl
theorem RC.mixs (h : RC V A (w_mix V w m q) f) (hk : ROK V w) (ht : w_t w < 1000) (he : w_new V w m q = w_K w m q) : RC V A (w_mix V w m (q + 1)) f :=
  h.congr (w_mix_ok hk ht m (q + 1)) (fun a hA ha p hp => by
    rw [w_mix_K, w_mix_K]
    by_cases e : a = m ∧ p = q
    · rw [if_neg (by omega), if_pos (by omega), e.1, e.2, he]
    · by_cases e2 : a < m ∨ (a = m ∧ p < q)
      · rw [if_pos e2, if_pos (by omega)]
      · rw [if_neg e2, if_neg (by omega)]) (fun i hi a hA ha => rfl) (fun d hd => rfl) rfl
theorem RC.mixm (h : RC V A (w_sc (w_sc (w_mix V w m (y_P V)) 3 m 0) 1 m 0) f) (hk : ROK V w) (ht : w_t w < 1000) : RC V A (w_mix V w (m + 1) 0) f :=
  h.congr (w_mix_ok hk ht (m + 1) 0) (fun a hA ha p hp => by
    show w_K (w_mix V w m (y_P V)) a p = _
    rw [w_mix_K, w_mix_K]
    by_cases e2 : a < m ∨ (a = m ∧ p < y_P V)
    · rw [if_pos e2, if_pos (by omega)]
    · rw [if_neg e2, if_neg (by omega)]) (fun i hi a hA ha => by
    rw [w_sc_c, w_sc_c, w_mix_c, w_mix_c]
    by_cases e1 : i = 1 ∧ a = m
    · rw [if_pos e1, if_pos (by omega)]
    · rw [if_neg e1]
      by_cases e3 : i = 3 ∧ a = m
      · rw [if_pos e3, if_pos (by omega)]
      · rw [if_neg e3]
        by_cases e4 : (i = 1 ∨ i = 3) ∧ a < m
        · rw [if_pos e4, if_pos (by omega)]
        · rw [if_neg e4, if_neg (by omega)]) (fun d hd => rfl) rfl
theorem e_fadedLines_2 (hv : CV V S) (hp : p < y_P V) : fC_Valley_fadedLines_2 (nI p) S = some (rI (nI (y_h V p / y_F V)), S) := by
  have h1 := hv.ok.1
  have h2 := hv.ok.2.2.2.1
  have h3 := hv.ok.l hp
  have h4 := (hv.2.2.2.2.1 p hp).2
  rw [fC_Valley_fadedLines_2, hv.2.2.2.1, it_eqL (by omega) (by omega)]
  by_cases h : y_F V = 0
  · rw [if_pos h, h, Nat.div_zero]; rfl
  · rw [if_neg h, pz_gib (by omega) (by omega), gdT (pz_nz (by omega) (by omega)), pz_rA (by omega), h4, pk_div (by omega) (by omega) (by omega)]
theorem e_endWeek_9_84 {K : Int32 → Int32 → Int32 → St → Oz} (x2 x3 : Int32) (hk : ROK V w) (ht : w_t w < 1000) (hA : A m) (hm : m < y_M V) : ∀ k n q (S : St), q + k = y_P V → k < n → CV V S → RC V A (w_mix V w m q) (S.2.1 46) →
    ∃ T, fC_State_endWeek_9_84 K n x2 x3 (nI m) (if w_bec V w m then 1 else 0) (nI (0 + m * 8 + 0)) (w_c w 3 m) (nI q) S = K x2 x3 (nI m + 1) T ∧ frm [] [46] S T ∧ RC V A (w_mix V w (m + 1) 0) (T.2.1 46) := by
  intro k
  induction k with
  | zero =>
    intro n q S hq hn hv hr
    have h3 := hv.ok.1
    have h4 := hv.ok.2.1
    obtain ⟨n, rfl⟩ := pz_fu hn
    have e : q = y_P V := by omega
    subst e
    rw [fC_State_endWeek_9_84, hv.1, if_pos (nI_le (by omega) (by omega)), show (66 : Int32) + nI m = nI (66 + m) from nI_add 66 m, show (54 : Int32) + nI m = nI (54 + m) from nI_add 54 m, pz_gib (by omega) (by omega), ev_nx, pz_gib (by omega) (by omega), ev_nx]
    refine ⟨_, rfl, (frm.rf.A (by simp)).A (by simp), ?_⟩
    refine RC.mixm ?_ hk ht
    rw [tA_21, if_pos rfl, nI_clamp (by omega), tA_21, if_pos rfl, nI_clamp (by omega)]
    exact (hr.sc (i := 3) hv.ok hm (by omega)).sc (i := 1) hv.ok hm (by omega)
  | succ k ih =>
    intro n q S hq hn hv hr
    have h3 := hv.ok.1
    have h4 := hv.ok.2.1
    obtain ⟨n, rfl⟩ := pz_fu hn
    have h1 := hr.1 m hA hm q (by omega)
    have h5 := hk.1 m hm q (by omega)
    have h6 := hv.ok.l (p := q) (by omega)
    rw [w_mix_at] at h1
    rw [fC_State_endWeek_9_84, hv.1, if_neg (nI_ge (by omega) (by omega)), show nI (0 + m * 8 + 0) + nI q = nI (0 + m * 8 + q) from nI_add _ _, pz_gib (by omega) (by omega), pz_rA (by omega), h1, it_leL (by omega) (by omega), nI_1 q]
    by_cases h0 : w_K w m q ≤ 0
    · rw [if_pos h0]
      exact ih n (q + 1) S (by omega) (by omega) hv (hr.mixs hk ht (by have := w_new_le V w m q; omega))
    · rw [if_neg h0, it_b0]
      by_cases hb : w_bec V w m = true
      · rw [if_pos hb, pz_gib (by omega) (by omega), ev_nx]
        have hr2 : RC V A (w_mix V w m (q + 1)) ((sA S 46 (nI (0 + m * 8 + q)) 0).2.1 46) := by
          refine RC.mixq ?_ hk ht
          rw [tA_21, if_pos rfl, nI_clamp (by omega), w_new, if_pos hb]
          exact hr.sK (v := 0) hv.ok hm (by omega) (by omega)
        obtain ⟨T, e, g, r⟩ := ih n (q + 1) (sA S 46 (nI (0 + m * 8 + q)) 0) (by omega) (by omega) hv hr2
        exact ⟨T, e, (frm.rf.A (by simp)).tr g, r⟩
      · rw [if_neg hb, it_t0 (by omega)]
        by_cases ht2 : tb (w_c w 3 m) q = true
        · rw [if_pos ht2]
          exact ih n (q + 1) S (by omega) (by omega) hv (hr.mixs hk ht (by rw [w_new, if_neg hb, w_fad, if_pos ht2]))
        · have hd : y_h V q / y_F V ≤ 9 := Nat.le_trans (Nat.div_le_self _ _) (by omega)
          obtain ⟨T1, e1, g1, r1⟩ := e_lose_9 (v := y_h V q / y_F V) hv hr hA hm (p := q) (by omega) (by omega)
          rw [if_neg ht2, e_fadedLines_2 hv (by omega), ev_I, e1, ev_V]
          have hr2 : RC V A (w_mix V w m (q + 1)) (T1.2.1 46) := by
            refine RC.mixq ?_ hk ht
            rw [w_new, if_neg hb, w_fad, if_neg ht2]
            rw [w_mix_at] at r1
            exact r1
          obtain ⟨T, e, g, r⟩ := ih n (q + 1) T1 (by omega) (by omega) (hv.fr g1 (by decide) (by decide)) hr2
          exact ⟨T, e, g1.tr g, r⟩
theorem e_endWeek_9_59 {K : Int32 → Int32 → Int32 → St → Oz} (x2 x3 : Int32) (hk : ROK V w) (ht : w_t w < 1000) (hA : A m) (hm : m < y_M V) (hv : CV V S) (hr : RC V A (w_mix V w m 0) (S.2.1 46)) :
    ∃ T, fC_State_endWeek_9_59 K x2 x3 (nI m) (if w_bec V w m then 1 else 0) S = K x2 x3 (nI m + 1) T ∧ frm [] [46] S T ∧ RC V A (w_mix V w (m + 1) 0) (T.2.1 46) := by
  have h3 := hv.ok.1
  have h4 := hv.ok.2.1
  have h5 := (hr.2.1 m hA hm).2.2.2
  rw [w_mix_c, if_neg (by omega)] at h5
  rw [fC_State_endWeek_9_59, fC_State_place, ev_I, show (0 : Int32) + nI m * 8 + 0 = nI (0 + m * 8 + 0) from e_ix m 0, show (66 : Int32) + nI m = nI (66 + m) from nI_add 66 m, pz_gib (by omega) (by omega), pz_rA (by omega), h5, ev_nx]
  exact e_endWeek_9_84 x2 x3 hk ht hA hm (y_P V) FU 0 S (by omega) (by rw [pz_FU]; omega) hv hr
theorem e_endWeek_9_33 (hk : ROK V w) (ht : w_t w < 1000) (hA : ∀ a, x ≤ a → a < y → A a) (hy : y ≤ y_M V) : ∀ k n m (S : St), m + k = y → x ≤ m → k < n → CV V S → RC V A (w_mix V w m 0) (S.2.1 46) →
    ∃ T, fC_State_endWeek_9_33 n (nI y) (if (w_t w + 1) % 10 = 0 then 1 else 0) (nI m) S = some (rV, T) ∧ frm [] [46] S T ∧ RC V A (w_mix V w y 0) (T.2.1 46) := by
  intro k
  induction k with
  | zero =>
    intro n m S hq hx hn hv hr
    have h4 := hv.ok.2.1
    obtain ⟨n, rfl⟩ := pz_fu hn
    have e : m = y := by omega
    subst e
    rw [fC_State_endWeek_9_33, if_pos (nI_le (by omega) (by omega))]
    exact ⟨S, rfl, frm.rf, hr⟩
  | succ k ih =>
    intro n m S hq hx hn hv hr
    have h4 := hv.ok.2.1
    obtain ⟨n, rfl⟩ := pz_fu hn
    have h5 := hv.ok.m (a := m) (by omega)
    have key : ∀ s0 : Int32, s0 = (if w_bec V w m then 1 else 0) → ∃ T, fC_State_endWeek_9_59 (fun x2 x3 x4 S => fC_State_endWeek_9_33 n x2 x3 x4 S) (nI y) (if (w_t w + 1) % 10 = 0 then 1 else 0) (nI m) s0 S = some (rV, T) ∧ frm [] [46] S T ∧ RC V A (w_mix V w y 0) (T.2.1 46) := by
      intro s0 hs
      rw [hs]
      obtain ⟨T1, e1, g1, r1⟩ := e_endWeek_9_59 (K := fun x2 x3 x4 S => fC_State_endWeek_9_33 n x2 x3 x4 S) (nI y) (if (w_t w + 1) % 10 = 0 then 1 else 0) hk ht (hA m hx (by omega)) (by omega) hv hr
      obtain ⟨T, e, g, r⟩ := ih n (m + 1) T1 (by omega) (by omega) (by omega) (hv.fr g1 (by decide) (by decide)) r1
      refine ⟨T, ?_, g1.tr g, r⟩
      rw [e1, ← e, nI_1]
    rw [fC_State_endWeek_9_33, if_neg (nI_ge (by omega) (by omega)), it_p0, fC_State_endWeek_9_58, e_ageOf_9 hv hr (by omega), ev_I]
    by_cases h10 : (w_t w + 1) % 10 = 0
    · rw [if_pos h10, it_eqL (by show y_a V m + (w_t w + 1) / 10 < _; omega) (by omega)]
      by_cases h60 : w_age V (w_mix V w m 0) m = 60
      · rw [if_pos h60]
        exact key 1 (by rw [w_bec, decide_eq_true h10, decide_eq_true (show y_a V m + (w_t w + 1) / 10 = 60 from h60)]; rfl)
      · rw [if_neg h60, fC_State_endWeek_9_58]
        exact key 0 (by rw [w_bec, decide_eq_true h10, decide_eq_false (show ¬ y_a V m + (w_t w + 1) / 10 = 60 from h60)]; rfl)
    · rw [if_neg h10]
      exact key 0 (by rw [w_bec, decide_eq_false h10]; rfl)
theorem e_endWeek_9 (hv : CV V S) (hr : RC V A w (S.2.1 46)) (ht : w_t w < 1000) (hA : ∀ a, x ≤ a → a < y → A a) (hA2 : ∀ a, A a → a < y_M V → x ≤ a ∧ a < y) (hxy : x ≤ y) (hy : y ≤ y_M V) :
    ∃ T, fC_State_endWeek_9 (nI x) (nI y) S = some (rV, T) ∧ frm [] [46] S T ∧ RC V A (w_week V w) (T.2.1 46) := by
  have h4 := hv.ok.2.1
  have h5 := hr.2.2.2.1
  have hr2 : RC V A (w_mix V w x 0) ((sA S 46 (nI 73) (nI (w_t w + 1))).2.1 46) := by
    rw [tA_21, if_pos rfl, nI_clamp (by omega)]
    exact hr.tick hv.ok ht (fun a h1 h2 => (hA2 a h1 h2).1)
  have g0 : frm [] [46] S (sA S 46 (nI 73) (nI (w_t w + 1))) := frm.rf.A (by simp)
  have hv2 : CV V (sA S 46 (nI 73) (nI (w_t w + 1))) := hv
  rw [fC_State_endWeek_9, show (73 : Int32) = nI 73 from rfl, pz_rA (by omega), h5, nI_1, ev_nx]
  generalize sA S 46 (nI 73) (nI (w_t w + 1)) = T0 at hr2 g0 hv2 ⊢
  obtain ⟨T, e, g, r⟩ := e_endWeek_9_33 hr.ok ht hA hy (y - x) FU x T0 (by omega) (by omega) (by rw [pz_FU]; omega) hv2 hr2
  refine ⟨T, ?_, g0.tr g, ?_⟩
  · rw [pz_rA (by omega), hr2.2.2.2.1, show w_t (w_mix V w x 0) = w_t w + 1 from rfl, show (10 : Int32) = nI 10 from rfl, pk_rem (by omega) (by omega) (by omega), it_eqL (by omega) (by omega), ← e]
    by_cases h10 : (w_t w + 1) % 10 = 0
    · rw [if_pos h10, if_pos h10]
    · rw [if_neg h10, if_neg h10]
  · refine r.congr (w_week_ok hr.ok ht) (fun a h1 h2 p hp => ?_) (fun i hi a h1 h2 => ?_) (fun d hd => rfl) rfl
    · rw [w_mix_K, if_pos (Or.inl (hA2 a h1 h2).2)]
      rfl
    · rw [w_mix_c]
      have h9 := (hA2 a h1 h2).2
      show _ = if i = 1 ∨ i = 3 then 0 else w_c w i a
      by_cases hi1 : i = 1 ∨ i = 3
      · rw [if_pos ⟨hi1, h9⟩, if_pos hi1]
      · rw [if_neg (fun h => hi1 h.1), if_neg hi1]
theorem e_endWeek_13_84 {K : Int32 → Int32 → Int32 → St → Oz} (x2 x3 : Int32) (hk : ROK V w) (ht : w_t w < 1000) (hA : A m) (hm : m < y_M V) : ∀ k n q (S : St), q + k = y_P V → k < n → CV V S → RC V A (w_mix V w m q) (S.2.1 52) →
    ∃ T, fC_State_endWeek_13_84 K n x2 x3 (nI m) (if w_bec V w m then 1 else 0) (nI (0 + m * 8 + 0)) (w_c w 3 m) (nI q) S = K x2 x3 (nI m + 1) T ∧ frm [] [52] S T ∧ RC V A (w_mix V w (m + 1) 0) (T.2.1 52) := by
  intro k
  induction k with
  | zero =>
    intro n q S hq hn hv hr
    have h3 := hv.ok.1
    have h4 := hv.ok.2.1
    obtain ⟨n, rfl⟩ := pz_fu hn
    have e : q = y_P V := by omega
    subst e
    rw [fC_State_endWeek_13_84, hv.1, if_pos (nI_le (by omega) (by omega)), show (66 : Int32) + nI m = nI (66 + m) from nI_add 66 m, show (54 : Int32) + nI m = nI (54 + m) from nI_add 54 m, pz_gib (by omega) (by omega), ev_nx, pz_gib (by omega) (by omega), ev_nx]
    refine ⟨_, rfl, (frm.rf.A (by simp)).A (by simp), ?_⟩
    refine RC.mixm ?_ hk ht
    rw [tA_21, if_pos rfl, nI_clamp (by omega), tA_21, if_pos rfl, nI_clamp (by omega)]
    exact (hr.sc (i := 3) hv.ok hm (by omega)).sc (i := 1) hv.ok hm (by omega)
  | succ k ih =>
    intro n q S hq hn hv hr
    have h3 := hv.ok.1
    have h4 := hv.ok.2.1
    obtain ⟨n, rfl⟩ := pz_fu hn
    have h1 := hr.1 m hA hm q (by omega)
    have h5 := hk.1 m hm q (by omega)
    have h6 := hv.ok.l (p := q) (by omega)
    rw [w_mix_at] at h1
    rw [fC_State_endWeek_13_84, hv.1, if_neg (nI_ge (by omega) (by omega)), show nI (0 + m * 8 + 0) + nI q = nI (0 + m * 8 + q) from nI_add _ _, pz_gib (by omega) (by omega), pz_rA (by omega), h1, it_leL (by omega) (by omega), nI_1 q]
    by_cases h0 : w_K w m q ≤ 0
    · rw [if_pos h0]
      exact ih n (q + 1) S (by omega) (by omega) hv (hr.mixs hk ht (by have := w_new_le V w m q; omega))
    · rw [if_neg h0, it_b0]
      by_cases hb : w_bec V w m = true
      · rw [if_pos hb, pz_gib (by omega) (by omega), ev_nx]
        have hr2 : RC V A (w_mix V w m (q + 1)) ((sA S 52 (nI (0 + m * 8 + q)) 0).2.1 52) := by
          refine RC.mixq ?_ hk ht
          rw [tA_21, if_pos rfl, nI_clamp (by omega), w_new, if_pos hb]
          exact hr.sK (v := 0) hv.ok hm (by omega) (by omega)
        obtain ⟨T, e, g, r⟩ := ih n (q + 1) (sA S 52 (nI (0 + m * 8 + q)) 0) (by omega) (by omega) hv hr2
        exact ⟨T, e, (frm.rf.A (by simp)).tr g, r⟩
      · rw [if_neg hb, it_t0 (by omega)]
        by_cases ht2 : tb (w_c w 3 m) q = true
        · rw [if_pos ht2]
          exact ih n (q + 1) S (by omega) (by omega) hv (hr.mixs hk ht (by rw [w_new, if_neg hb, w_fad, if_pos ht2]))
        · have hd : y_h V q / y_F V ≤ 9 := Nat.le_trans (Nat.div_le_self _ _) (by omega)
          obtain ⟨T1, e1, g1, r1⟩ := e_lose_13 (v := y_h V q / y_F V) hv hr hA hm (p := q) (by omega) (by omega)
          rw [if_neg ht2, e_fadedLines_2 hv (by omega), ev_I, e1, ev_V]
          have hr2 : RC V A (w_mix V w m (q + 1)) (T1.2.1 52) := by
            refine RC.mixq ?_ hk ht
            rw [w_new, if_neg hb, w_fad, if_neg ht2]
            rw [w_mix_at] at r1
            exact r1
          obtain ⟨T, e, g, r⟩ := ih n (q + 1) T1 (by omega) (by omega) (hv.fr g1 (by decide) (by decide)) hr2
          exact ⟨T, e, g1.tr g, r⟩
theorem e_endWeek_13_59 {K : Int32 → Int32 → Int32 → St → Oz} (x2 x3 : Int32) (hk : ROK V w) (ht : w_t w < 1000) (hA : A m) (hm : m < y_M V) (hv : CV V S) (hr : RC V A (w_mix V w m 0) (S.2.1 52)) :
    ∃ T, fC_State_endWeek_13_59 K x2 x3 (nI m) (if w_bec V w m then 1 else 0) S = K x2 x3 (nI m + 1) T ∧ frm [] [52] S T ∧ RC V A (w_mix V w (m + 1) 0) (T.2.1 52) := by
  have h3 := hv.ok.1
  have h4 := hv.ok.2.1
  have h5 := (hr.2.1 m hA hm).2.2.2
  rw [w_mix_c, if_neg (by omega)] at h5
  rw [fC_State_endWeek_13_59, fC_State_place, ev_I, show (0 : Int32) + nI m * 8 + 0 = nI (0 + m * 8 + 0) from e_ix m 0, show (66 : Int32) + nI m = nI (66 + m) from nI_add 66 m, pz_gib (by omega) (by omega), pz_rA (by omega), h5, ev_nx]
  exact e_endWeek_13_84 x2 x3 hk ht hA hm (y_P V) FU 0 S (by omega) (by rw [pz_FU]; omega) hv hr
theorem e_endWeek_13_33 (hk : ROK V w) (ht : w_t w < 1000) (hA : ∀ a, x ≤ a → a < y → A a) (hy : y ≤ y_M V) : ∀ k n m (S : St), m + k = y → x ≤ m → k < n → CV V S → RC V A (w_mix V w m 0) (S.2.1 52) →
    ∃ T, fC_State_endWeek_13_33 n (nI y) (if (w_t w + 1) % 10 = 0 then 1 else 0) (nI m) S = some (rV, T) ∧ frm [] [52] S T ∧ RC V A (w_mix V w y 0) (T.2.1 52) := by
  intro k
  induction k with
  | zero =>
    intro n m S hq hx hn hv hr
    have h4 := hv.ok.2.1
    obtain ⟨n, rfl⟩ := pz_fu hn
    have e : m = y := by omega
    subst e
    rw [fC_State_endWeek_13_33, if_pos (nI_le (by omega) (by omega))]
    exact ⟨S, rfl, frm.rf, hr⟩
  | succ k ih =>
    intro n m S hq hx hn hv hr
    have h4 := hv.ok.2.1
    obtain ⟨n, rfl⟩ := pz_fu hn
    have h5 := hv.ok.m (a := m) (by omega)
    have key : ∀ s0 : Int32, s0 = (if w_bec V w m then 1 else 0) → ∃ T, fC_State_endWeek_13_59 (fun x2 x3 x4 S => fC_State_endWeek_13_33 n x2 x3 x4 S) (nI y) (if (w_t w + 1) % 10 = 0 then 1 else 0) (nI m) s0 S = some (rV, T) ∧ frm [] [52] S T ∧ RC V A (w_mix V w y 0) (T.2.1 52) := by
      intro s0 hs
      rw [hs]
      obtain ⟨T1, e1, g1, r1⟩ := e_endWeek_13_59 (K := fun x2 x3 x4 S => fC_State_endWeek_13_33 n x2 x3 x4 S) (nI y) (if (w_t w + 1) % 10 = 0 then 1 else 0) hk ht (hA m hx (by omega)) (by omega) hv hr
      obtain ⟨T, e, g, r⟩ := ih n (m + 1) T1 (by omega) (by omega) (by omega) (hv.fr g1 (by decide) (by decide)) r1
      refine ⟨T, ?_, g1.tr g, r⟩
      rw [e1, ← e, nI_1]
    rw [fC_State_endWeek_13_33, if_neg (nI_ge (by omega) (by omega)), it_p0, fC_State_endWeek_13_58, e_ageOf_13 hv hr (by omega), ev_I]
    by_cases h10 : (w_t w + 1) % 10 = 0
    · rw [if_pos h10, it_eqL (by show y_a V m + (w_t w + 1) / 10 < _; omega) (by omega)]
      by_cases h60 : w_age V (w_mix V w m 0) m = 60
      · rw [if_pos h60]
        exact key 1 (by rw [w_bec, decide_eq_true h10, decide_eq_true (show y_a V m + (w_t w + 1) / 10 = 60 from h60)]; rfl)
      · rw [if_neg h60, fC_State_endWeek_13_58]
        exact key 0 (by rw [w_bec, decide_eq_true h10, decide_eq_false (show ¬ y_a V m + (w_t w + 1) / 10 = 60 from h60)]; rfl)
    · rw [if_neg h10]
      exact key 0 (by rw [w_bec, decide_eq_false h10]; rfl)
theorem e_endWeek_13 (hv : CV V S) (hr : RC V A w (S.2.1 52)) (ht : w_t w < 1000) (hA : ∀ a, x ≤ a → a < y → A a) (hA2 : ∀ a, A a → a < y_M V → x ≤ a ∧ a < y) (hxy : x ≤ y) (hy : y ≤ y_M V) :
    ∃ T, fC_State_endWeek_13 (nI x) (nI y) S = some (rV, T) ∧ frm [] [52] S T ∧ RC V A (w_week V w) (T.2.1 52) := by
  have h4 := hv.ok.2.1
  have h5 := hr.2.2.2.1
  have hr2 : RC V A (w_mix V w x 0) ((sA S 52 (nI 73) (nI (w_t w + 1))).2.1 52) := by
    rw [tA_21, if_pos rfl, nI_clamp (by omega)]
    exact hr.tick hv.ok ht (fun a h1 h2 => (hA2 a h1 h2).1)
  have g0 : frm [] [52] S (sA S 52 (nI 73) (nI (w_t w + 1))) := frm.rf.A (by simp)
  have hv2 : CV V (sA S 52 (nI 73) (nI (w_t w + 1))) := hv
  rw [fC_State_endWeek_13, show (73 : Int32) = nI 73 from rfl, pz_rA (by omega), h5, nI_1, ev_nx]
  generalize sA S 52 (nI 73) (nI (w_t w + 1)) = T0 at hr2 g0 hv2 ⊢
  obtain ⟨T, e, g, r⟩ := e_endWeek_13_33 hr.ok ht hA hy (y - x) FU x T0 (by omega) (by omega) (by rw [pz_FU]; omega) hv2 hr2
  refine ⟨T, ?_, g0.tr g, ?_⟩
  · rw [pz_rA (by omega), hr2.2.2.2.1, show w_t (w_mix V w x 0) = w_t w + 1 from rfl, show (10 : Int32) = nI 10 from rfl, pk_rem (by omega) (by omega) (by omega), it_eqL (by omega) (by omega), ← e]
    by_cases h10 : (w_t w + 1) % 10 = 0
    · rw [if_pos h10, if_pos h10]
    · rw [if_neg h10, if_neg h10]
  · refine r.congr (w_week_ok hr.ok ht) (fun a h1 h2 p hp => ?_) (fun i hi a h1 h2 => ?_) (fun d hd => rfl) rfl
    · rw [w_mix_K, if_pos (Or.inl (hA2 a h1 h2).2)]
      rfl
    · rw [w_mix_c]
      have h9 := (hA2 a h1 h2).2
      show _ = if i = 1 ∨ i = 3 then 0 else w_c w i a
      by_cases hi1 : i = 1 ∨ i = 3
      · rw [if_pos ⟨hi1, h9⟩, if_pos hi1]
      · rw [if_neg (fun h => hi1 h.1), if_neg hi1]
end PF
