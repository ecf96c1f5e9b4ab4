/-! the class's functions of a row (written by wip/whole/pure/p52.py) -/
section PC
def t8 (S : St) (x0 x1 x2 x3 x4 x5 x6 x7 : Int32) : St := sA (sA (sA (sA (sA (sA (sA (sA S 32 0 x0) 32 1 x1) 32 2 x2) 32 3 x3) 32 4 x4) 32 5 x5) 32 6 x6) 32 7 x7
theorem t8_law {L : Lw} {S : St} (hL : CLw L S) (x0 x1 x2 x3 x4 x5 x6 x7 : Int32) : ∃ T, fC_Law_outcome_4 (t8 S x0 x1 x2 x3 x4 x5 x6 x7) = some (rI (nI (L (fct x0 x1 x2 x3 x4 x5 x6 x7))), T) ∧ frm [] [32, 33] S T := by
  obtain ⟨T, e, g⟩ := hL.1 (t8 S x0 x1 x2 x3 x4 x5 x6 x7) rfl rfl (fct x0 x1 x2 x3 x4 x5 x6 x7) (fun i hi => by
    match i, hi with
    | 0, _ => rfl
    | 1, _ => rfl
    | 2, _ => rfl
    | 3, _ => rfl
    | 4, _ => rfl
    | 5, _ => rfl
    | 6, _ => rfl
    | 7, _ => rfl)
  refine ⟨T, e, frm.tr ?_ (g.wide (by simp) (by simp))⟩
  unfold t8
  exact frm.A (frm.A (frm.A (frm.A (frm.A (frm.A (frm.A (frm.A frm.rf (by simp)) (by simp)) (by simp)) (by simp)) (by simp)) (by simp)) (by simp)) (by simp)
variable {V : Vy} {A : Nat → Prop} {w : Rw} {S : St} {L : Lw} {a p d : Nat}
theorem e_isOld_9 (hv : CV V S) (hr : RC V A w (S.2.1 46)) (ha : a < y_M V) : fC_State_isOld_9 (nI a) S = some (rI (if w_old V w a then 1 else 0), S) := by
  have h1 := (hv.2.2.2.2.2.1 a ha).2
  have h2 := hr.2.2.2.1
  have h3 := hv.ok.2.1
  have h4 := hv.ok.m ha
  have h5 := hr.2.2.2.2.2
  simp (disch := omega) only [fC_State_isOld_9, pz_gib, ev_nx, pz_li, pz_rA, h1, h2, pk_div, nI_add, pz_le, pz_lt, w_old]
  by_cases h6 : 60 ≤ y_a V a <;> by_cases h7 : y_a V a + w_t w / 10 < 60 <;> simp [h6, h7]
theorem e_memoryOf_9 (hv : CV V S) (hr : RC V A w (S.2.1 46)) (ha : a < y_M V) : fC_State_memoryOf_9 (nI a) S = some (rI (nI (w_mem V w a)), S) := by
  have h1 := (hv.2.2.2.2.2.1 a ha).1
  have h3 := hv.ok.2.1
  have h4 := hv.ok.m ha
  rw [fC_State_memoryOf_9, e_isOld_9 hv hr ha, ev_I]
  cases h5 : w_old V w a
  · simp (disch := omega) only [pz_li, pz_gib, pz_rA, h1, w_mem, h5]
    rfl
  · simp (disch := omega) only [pz_li, pz_gib, pz_rA, h1, w_mem, h5, pk_div]
    rfl
theorem e_linesOf_9_4 (hv : CV V S) (hr : RC V A w (S.2.1 46)) (hA : A a) (ha : a < y_M V) : ∀ k n i, i + k = y_P V → k < n → fC_State_linesOf_9_4 n (nI a) (nI (smN (w_K w a) i)) (nI i) S = some (rI (nI (w_sum V w a)), S) := by
  have h3 := hv.ok.1
  have h4 := hv.ok.2.1
  intro k
  induction k with
  | zero =>
    intro n i hi hn
    obtain ⟨n, rfl⟩ := pz_fu hn
    rw [fC_State_linesOf_9_4, hv.1, if_pos (nI_le (by omega) (by omega))]
    have e : i = y_P V := by omega
    rw [e]
    rfl
  | succ k ih =>
    intro n i hi hn
    obtain ⟨n, rfl⟩ := pz_fu hn
    rw [fC_State_linesOf_9_4, hv.1, if_neg (nI_ge (by omega) (by omega))]
    have h1 := hr.1 a hA ha i (by omega)
    simp (disch := omega) only [fC_State_place, ev_I, pz_li, pk_mul, nI_add, pz_gib, ev_nx, pz_rA, h1]
    exact ih n (i + 1) (by omega) (by omega)
theorem e_linesOf_9 (hv : CV V S) (hr : RC V A w (S.2.1 46)) (hA : A a) (ha : a < y_M V) : fC_State_linesOf_9 (nI a) S = some (rI (nI (w_sum V w a)), S) := by
  rw [fC_State_linesOf_9]
  exact e_linesOf_9_4 hv hr hA ha (y_P V) FU 0 (by omega) (by have := hv.ok.1; rw [pz_FU]; omega)
theorem e_roomOf_9 (hv : CV V S) (hr : RC V A w (S.2.1 46)) (hA : A a) (ha : a < y_M V) : fC_State_roomOf_9 (nI a) S = some (rI (nI (w_room V w a)), S) := by
  have h1 := w_sum_le hv.ok hr.2.2.2.2 ha
  have h2 := w_mem_le (w := w) hv.ok ha
  rw [fC_State_roomOf_9, e_memoryOf_9 hv hr ha, ev_I, e_linesOf_9 hv hr hA ha, ev_I, ev_nx]
  by_cases h : w_sum V w a ≤ w_mem V w a
  · rw [pk_sub h, if_pos (nI_pos' (by omega))]
    rfl
  · rw [if_neg (Int32.not_le.mpr (pk_sneg (by omega) (by omega)))]
    have e : w_room V w a = 0 := by unfold w_room; omega
    rw [e]
    rfl
theorem e_ageOf_9 (hv : CV V S) (hr : RC V A w (S.2.1 46)) (ha : a < y_M V) : fC_State_ageOf_9 (nI a) S = some (rI (nI (w_age V w a)), S) := by
  have h1 := (hv.2.2.2.2.2.1 a ha).2
  have h2 := hr.2.2.2.1
  have h3 := hv.ok.2.1
  have h4 := hv.ok.m ha
  have h5 := hr.2.2.2.2.2
  simp (disch := omega) only [fC_State_ageOf_9, pz_gib, pz_li, pz_rA, h1, h2, pk_div, nI_add, w_age]
theorem e_learnable_9 (hv : CV V S) (hL : CLw L S) (hr : RC V A w (S.2.1 46)) (hA : A a) (ha : a < y_M V) (hp : p < y_P V) : ∃ T, fC_State_learnable_9 (nI a) (nI p) (nI (w_room V w a)) S = some (rI (nI (w_learn V L w a p)), T) ∧ frm [] [32, 33] S T := by
  have h1 := hv.2.2.2.2.1 p hp
  have h2 := hr.2.2.2.1
  have h3 := hv.ok.1
  have h4 := hv.ok.2.1
  have h5 := hr.1 a hA ha p hp
  have h6 := (hr.2.1 a hA ha).1
  obtain ⟨T, e, g⟩ := t8_law (S := S) hL (nI (y_l V p)) (nI (y_h V p)) (nI (w_K w a p)) (nI (w_room V w a)) (nI (w_age V w a)) (w_c w 0 a) (nI (w_t w)) (nI a)
  refine ⟨T, ?_, g⟩
  have hs : (sA (sA (sA S 32 0 (nI (y_l V p))) 32 1 (nI (y_h V p))) 32 2 (nI (w_K w a p))).2.1 46 = S.2.1 46 := rfl
  have hv3 : CV V (sA (sA (sA S 32 0 (nI (y_l V p))) 32 1 (nI (y_h V p))) 32 2 (nI (w_K w a p))) := hv
  rw [fC_State_learnable_9, pz_gib (by omega) (by omega), pz_gib (by omega) (by omega), fC_State_place, ev_I]
  rw [show (0 : Int32) + nI a * 8 + nI p = nI (0 + a * 8 + p) from by simp only [pz_li, pk_mul, nI_add], pz_gib (by omega) (by omega), pz_rA (by omega), pz_rA (by omega), pz_rA (by omega), h1.1, h1.2, h5, fC_Law_tellPoem_4, ev_nx, ev_nx, ev_nx, ev_V, e_ageOf_9 hv3 hr ha, ev_I]
  rw [show (48 : Int32) + nI a = nI (48 + a) from nI_add 48 a, show (73 : Int32) = nI 73 from rfl, pz_gib (by omega) (by omega), pz_rA (by omega), pz_rA (by omega), hs, h6, h2, fC_Law_tellMan_4, ev_nx, ev_nx, ev_nx, ev_nx, ev_nx, ev_V]
  change obI (fC_Law_outcome_4 (t8 S (nI (y_l V p)) (nI (y_h V p)) (nI (w_K w a p)) (nI (w_room V w a)) (nI (w_age V w a)) (w_c w 0 a) (nI (w_t w)) (nI a))) _ = _
  rw [e, ev_I]
  rfl
theorem e_gainOf_9 (hv : CV V S) (hL : CLw L S) (hr : RC V A w (S.2.1 46)) (hA : A a) (ha : a < y_M V) (hp : p < y_P V) : ∃ T, fC_State_gainOf_9 (nI a) (nI p) S = some (rI (nI (w_gain V L w a p)), T) ∧ frm [] [32, 33] S T := by
  have h1 := hv.2.2.2.2.1 p hp
  have h3 := hv.ok.1
  have h4 := hv.ok.2.1
  have h5 := hr.1 a hA ha p hp
  have h6 := hr.2.2.2.2.1 a ha p hp
  have h7 := hv.ok.l hp
  have h8 := w_mem_le (w := w) hv.ok ha
  have h9 : w_room V w a ≤ 99 := by unfold w_room; omega
  have h10 : w_learn V L w a p ≤ 20 := hL.2 _
  obtain ⟨T, e, g⟩ := e_learnable_9 hv hL hr hA ha hp
  refine ⟨T, ?_, g⟩
  have g15 := g.2.1 15 (by decide)
  have gR := g.2.1 46 (by decide)
  rw [fC_State_gainOf_9, e_roomOf_9 hv hr hA ha, ev_I, e, ev_I, pz_gib (by omega) (by omega), fC_State_place, ev_I, show (0 : Int32) + nI a * 8 + nI p = nI (0 + a * 8 + p) from by simp only [pz_li, pk_mul, nI_add], pz_gib (by omega) (by omega), pz_rA (by omega), pz_rA (by omega), g15, gR, h1.1, h5, pk_sub h6, ev_nx]
  simp (disch := omega) only [fC_State_gainOf_9_49, pz_le]
  unfold w_gain
  by_cases q1 : w_room V w a ≤ w_learn V L w a p
  · rw [if_pos q1]
    by_cases q2 : y_l V p - w_K w a p ≤ w_room V w a
    · rw [if_pos q2]; exact pz_sn (by omega)
    · rw [if_neg q2]; exact pz_sn (by omega)
  · rw [if_neg q1]
    by_cases q2 : y_l V p - w_K w a p ≤ w_learn V L w a p
    · rw [if_pos q2]; exact pz_sn (by omega)
    · rw [if_neg q2]; exact pz_sn (by omega)
theorem e_isOld_13 (hv : CV V S) (hr : RC V A w (S.2.1 52)) (ha : a < y_M V) : fC_State_isOld_13 (nI a) S = some (rI (if w_old V w a then 1 else 0), S) := by
  have h1 := (hv.2.2.2.2.2.1 a ha).2
  have h2 := hr.2.2.2.1
  have h3 := hv.ok.2.1
  have h4 := hv.ok.m ha
  have h5 := hr.2.2.2.2.2
  simp (disch := omega) only [fC_State_isOld_13, pz_gib, ev_nx, pz_li, pz_rA, h1, h2, pk_div, nI_add, pz_le, pz_lt, w_old]
  by_cases h6 : 60 ≤ y_a V a <;> by_cases h7 : y_a V a + w_t w / 10 < 60 <;> simp [h6, h7]
theorem e_memoryOf_13 (hv : CV V S) (hr : RC V A w (S.2.1 52)) (ha : a < y_M V) : fC_State_memoryOf_13 (nI a) S = some (rI (nI (w_mem V w a)), S) := by
  have h1 := (hv.2.2.2.2.2.1 a ha).1
  have h3 := hv.ok.2.1
  have h4 := hv.ok.m ha
  rw [fC_State_memoryOf_13, e_isOld_13 hv hr ha, ev_I]
  cases h5 : w_old V w a
  · simp (disch := omega) only [pz_li, pz_gib, pz_rA, h1, w_mem, h5]
    rfl
  · simp (disch := omega) only [pz_li, pz_gib, pz_rA, h1, w_mem, h5, pk_div]
    rfl
theorem e_linesOf_13_4 (hv : CV V S) (hr : RC V A w (S.2.1 52)) (hA : A a) (ha : a < y_M V) : ∀ k n i, i + k = y_P V → k < n → fC_State_linesOf_13_4 n (nI a) (nI (smN (w_K w a) i)) (nI i) S = some (rI (nI (w_sum V w a)), S) := by
  have h3 := hv.ok.1
  have h4 := hv.ok.2.1
  intro k
  induction k with
  | zero =>
    intro n i hi hn
    obtain ⟨n, rfl⟩ := pz_fu hn
    rw [fC_State_linesOf_13_4, hv.1, if_pos (nI_le (by omega) (by omega))]
    have e : i = y_P V := by omega
    rw [e]
    rfl
  | succ k ih =>
    intro n i hi hn
    obtain ⟨n, rfl⟩ := pz_fu hn
    rw [fC_State_linesOf_13_4, hv.1, if_neg (nI_ge (by omega) (by omega))]
    have h1 := hr.1 a hA ha i (by omega)
    simp (disch := omega) only [fC_State_place, ev_I, pz_li, pk_mul, nI_add, pz_gib, ev_nx, pz_rA, h1]
    exact ih n (i + 1) (by omega) (by omega)
theorem e_linesOf_13 (hv : CV V S) (hr : RC V A w (S.2.1 52)) (hA : A a) (ha : a < y_M V) : fC_State_linesOf_13 (nI a) S = some (rI (nI (w_sum V w a)), S) := by
  rw [fC_State_linesOf_13]
  exact e_linesOf_13_4 hv hr hA ha (y_P V) FU 0 (by omega) (by have := hv.ok.1; rw [pz_FU]; omega)
theorem e_roomOf_13 (hv : CV V S) (hr : RC V A w (S.2.1 52)) (hA : A a) (ha : a < y_M V) : fC_State_roomOf_13 (nI a) S = some (rI (nI (w_room V w a)), S) := by
  have h1 := w_sum_le hv.ok hr.2.2.2.2 ha
  have h2 := w_mem_le (w := w) hv.ok ha
  rw [fC_State_roomOf_13, e_memoryOf_13 hv hr ha, ev_I, e_linesOf_13 hv hr hA ha, ev_I, ev_nx]
  by_cases h : w_sum V w a ≤ w_mem V w a
  · rw [pk_sub h, if_pos (nI_pos' (by omega))]
    rfl
  · rw [if_neg (Int32.not_le.mpr (pk_sneg (by omega) (by omega)))]
    have e : w_room V w a = 0 := by unfold w_room; omega
    rw [e]
    rfl
theorem e_ageOf_13 (hv : CV V S) (hr : RC V A w (S.2.1 52)) (ha : a < y_M V) : fC_State_ageOf_13 (nI a) S = some (rI (nI (w_age V w a)), S) := by
  have h1 := (hv.2.2.2.2.2.1 a ha).2
  have h2 := hr.2.2.2.1
  have h3 := hv.ok.2.1
  have h4 := hv.ok.m ha
  have h5 := hr.2.2.2.2.2
  simp (disch := omega) only [fC_State_ageOf_13, pz_gib, pz_li, pz_rA, h1, h2, pk_div, nI_add, w_age]
theorem e_learnable_13 (hv : CV V S) (hL : CLw L S) (hr : RC V A w (S.2.1 52)) (hA : A a) (ha : a < y_M V) (hp : p < y_P V) : ∃ T, fC_State_learnable_13 (nI a) (nI p) (nI (w_room V w a)) S = some (rI (nI (w_learn V L w a p)), T) ∧ frm [] [32, 33] S T := by
  have h1 := hv.2.2.2.2.1 p hp
  have h2 := hr.2.2.2.1
  have h3 := hv.ok.1
  have h4 := hv.ok.2.1
  have h5 := hr.1 a hA ha p hp
  have h6 := (hr.2.1 a hA ha).1
  obtain ⟨T, e, g⟩ := t8_law (S := S) hL (nI (y_l V p)) (nI (y_h V p)) (nI (w_K w a p)) (nI (w_room V w a)) (nI (w_age V w a)) (w_c w 0 a) (nI (w_t w)) (nI a)
  refine ⟨T, ?_, g⟩
  have hs : (sA (sA (sA S 32 0 (nI (y_l V p))) 32 1 (nI (y_h V p))) 32 2 (nI (w_K w a p))).2.1 52 = S.2.1 52 := rfl
  have hv3 : CV V (sA (sA (sA S 32 0 (nI (y_l V p))) 32 1 (nI (y_h V p))) 32 2 (nI (w_K w a p))) := hv
  rw [fC_State_learnable_13, pz_gib (by omega) (by omega), pz_gib (by omega) (by omega), fC_State_place, ev_I]
  rw [show (0 : Int32) + nI a * 8 + nI p = nI (0 + a * 8 + p) from by simp only [pz_li, pk_mul, nI_add], pz_gib (by omega) (by omega), pz_rA (by omega), pz_rA (by omega), pz_rA (by omega), h1.1, h1.2, h5, fC_Law_tellPoem_4, ev_nx, ev_nx, ev_nx, ev_V, e_ageOf_13 hv3 hr ha, ev_I]
  rw [show (48 : Int32) + nI a = nI (48 + a) from nI_add 48 a, show (73 : Int32) = nI 73 from rfl, pz_gib (by omega) (by omega), pz_rA (by omega), pz_rA (by omega), hs, h6, h2, fC_Law_tellMan_4, ev_nx, ev_nx, ev_nx, ev_nx, ev_nx, ev_V]
  change obI (fC_Law_outcome_4 (t8 S (nI (y_l V p)) (nI (y_h V p)) (nI (w_K w a p)) (nI (w_room V w a)) (nI (w_age V w a)) (w_c w 0 a) (nI (w_t w)) (nI a))) _ = _
  rw [e, ev_I]
  rfl
theorem e_gainOf_13 (hv : CV V S) (hL : CLw L S) (hr : RC V A w (S.2.1 52)) (hA : A a) (ha : a < y_M V) (hp : p < y_P V) : ∃ T, fC_State_gainOf_13 (nI a) (nI p) S = some (rI (nI (w_gain V L w a p)), T) ∧ frm [] [32, 33] S T := by
  have h1 := hv.2.2.2.2.1 p hp
  have h3 := hv.ok.1
  have h4 := hv.ok.2.1
  have h5 := hr.1 a hA ha p hp
  have h6 := hr.2.2.2.2.1 a ha p hp
  have h7 := hv.ok.l hp
  have h8 := w_mem_le (w := w) hv.ok ha
  have h9 : w_room V w a ≤ 99 := by unfold w_room; omega
  have h10 : w_learn V L w a p ≤ 20 := hL.2 _
  obtain ⟨T, e, g⟩ := e_learnable_13 hv hL hr hA ha hp
  refine ⟨T, ?_, g⟩
  have g15 := g.2.1 15 (by decide)
  have gR := g.2.1 52 (by decide)
  rw [fC_State_gainOf_13, e_roomOf_13 hv hr hA ha, ev_I, e, ev_I, pz_gib (by omega) (by omega), fC_State_place, ev_I, show (0 : Int32) + nI a * 8 + nI p = nI (0 + a * 8 + p) from by simp only [pz_li, pk_mul, nI_add], pz_gib (by omega) (by omega), pz_rA (by omega), pz_rA (by omega), g15, gR, h1.1, h5, pk_sub h6, ev_nx]
  simp (disch := omega) only [fC_State_gainOf_13_49, pz_le]
  unfold w_gain
  by_cases q1 : w_room V w a ≤ w_learn V L w a p
  · rw [if_pos q1]
    by_cases q2 : y_l V p - w_K w a p ≤ w_room V w a
    · rw [if_pos q2]; exact pz_sn (by omega)
    · rw [if_neg q2]; exact pz_sn (by omega)
  · rw [if_neg q1]
    by_cases q2 : y_l V p - w_K w a p ≤ w_learn V L w a p
    · rw [if_pos q2]; exact pz_sn (by omega)
    · rw [if_neg q2]; exact pz_sn (by omega)
end PC
