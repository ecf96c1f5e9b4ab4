/-! the tape: blanks, words, numbers, signs (written by wip/whole/pure/p74.py) -/
section PT4
variable {S T U SC SR : St} {t u : Nat → Nat} {n i j p lo h1 : Nat} {c : Nat → Bool} {hi : Int32} {fs as : List Nat}
theorem sF_sF (S : St) (k : Nat) (x y : Int32) : sF (sF S k x) k y = sF S k y := by
  have e : upd (upd S.1 k x) k y = upd S.1 k y := funext fun j => by
    rw [upd_i, upd_i, upd_i]
    by_cases h : j = k
    · rw [if_pos h, if_pos h]
    · rw [if_neg h, if_neg h, if_neg h]
  show (upd (upd S.1 k x) k y, S.2) = (upd S.1 k y, S.2)
  rw [e]
theorem sF_id {k : Nat} {v : Int32} (h : S.1 k = v) : sF S k v = S := by
  have e : upd S.1 k v = S.1 := funext fun j => by
    rw [upd_i]
    by_cases q : j = k
    · rw [if_pos q, q, h]
    · rw [if_neg q]
  show (upd S.1 k v, S.2) = S
  rw [e]
def scan (c : Nat → Bool) (t : Nat → Nat) (n : Nat) : Nat → Nat → Nat
  | 0, i => i
  | k + 1, i => if i < n ∧ c (t i) = true then scan c t n k (i + 1) else i
def run (c : Nat → Bool) (t : Nat → Nat) (n i : Nat) : Nat := scan c t n (n - i) i
theorem run_step (h : i < n) (hc : c (t i) = true) : run c t n i = run c t n (i + 1) := by
  unfold run
  rw [show n - i = (n - (i + 1)) + 1 by omega, scan, if_pos ⟨h, hc⟩]
theorem run_stop (h : ¬ (i < n ∧ c (t i) = true)) : run c t n i = i := by
  unfold run
  by_cases q : i < n
  · rw [show n - i = (n - (i + 1)) + 1 by omega, scan, if_neg h]
  · rw [show n - i = 0 by omega, scan]
theorem run_all : ∀ k i, i + k = n → i ≤ run c t n i ∧ run c t n i ≤ n ∧ (∀ j, i ≤ j → j < run c t n i → c (t j) = true) ∧ (run c t n i < n → c (t (run c t n i)) = false) := by
  intro k
  induction k with
  | zero =>
    intro i hi
    rw [run_stop (fun h => by omega)]
    exact ⟨Nat.le_refl _, by omega, fun j h1 h2 => by omega, fun h => by omega⟩
  | succ k ih =>
    intro i hi
    by_cases h : i < n ∧ c (t i) = true
    · rw [run_step h.1 h.2]
      obtain ⟨h1, h2, h3, h4⟩ := ih (i + 1) (by omega)
      refine ⟨by omega, h2, fun j q1 q2 => ?_, h4⟩
      by_cases e : j = i
      · rw [e]; exact h.2
      · exact h3 j (by omega) q2
    · rw [run_stop h]
      refine ⟨Nat.le_refl _, by omega, fun j h1 h2 => by omega, fun h5 => ?_⟩
      cases hc : c (t i)
      · rfl
      · exact absurd ⟨h5, hc⟩ h
theorem run_ge (h : i ≤ n) : i ≤ run c t n i := (run_all (n - i) i (by omega)).1
theorem run_le (h : i ≤ n) : run c t n i ≤ n := (run_all (n - i) i (by omega)).2.1
theorem run_in (h : i ≤ n) : ∀ j, i ≤ j → j < run c t n i → c (t j) = true := (run_all (n - i) i (by omega)).2.2.1
theorem run_lt (h : i ≤ n) : i < run c t n i ↔ i < n ∧ c (t i) = true := by
  constructor
  · intro q
    refine ⟨?_, run_in h i (Nat.le_refl _) q⟩
    have := run_le (c := c) (t := t) h
    omega
  · intro q
    rw [run_step q.1 q.2]
    have := run_ge (c := c) (t := t) (i := i + 1) (n := n) q.1
    omega
def bl (b : Nat) : Bool := decide (b = 32)
def lt (b : Nat) : Bool := decide (97 ≤ b) && decide (b ≤ 122)
def dg (b : Nat) : Bool := decide (48 ≤ b) && decide (b ≤ 57)
/-- the two tapes -/
def CT (t : Nat → Nat) (n i : Nat) (S : St) : Prop := S.1 7 = nI n ∧ S.1 8 = nI i ∧ i ≤ n ∧ n ≤ 600 ∧ ∀ j, j < 600 → S.2.1 14 j = nI (t j) ∧ t j < 256
def RT (t : Nat → Nat) (n i : Nat) (S : St) : Prop := S.1 2 = nI n ∧ S.1 3 = nI i ∧ i ≤ n ∧ n ≤ 600 ∧ ∀ j, j < 600 → S.2.1 2 j = nI (t j) ∧ t j < 256
theorem CT.to (h : CT t n i S) (g : frm fs as S T) (h7 : 7 ∉ fs) (h14 : 14 ∉ as) (e : T.1 8 = nI j) (hj : j ≤ n) : CT t n j T := ⟨(g.1 7 h7).trans h.1, e, hj, h.2.2.2.1, fun j hj => by rw [g.2.1 14 h14]; exact h.2.2.2.2 j hj⟩
theorem RT.to (h : RT t n i S) (g : frm fs as S T) (h7 : 2 ∉ fs) (h14 : 2 ∉ as) (e : T.1 3 = nI j) (hj : j ≤ n) : RT t n j T := ⟨(g.1 2 h7).trans h.1, e, hj, h.2.2.2.1, fun j hj => by rw [g.2.1 2 h14]; exact h.2.2.2.2 j hj⟩
theorem CT.fr (h : CT t n i S) (g : frm fs as S T) (h7 : 7 ∉ fs) (h8 : 8 ∉ fs) (h14 : 14 ∉ as) : CT t n i T := h.to g h7 h14 ((g.1 8 h8).trans h.2.1) h.2.2.1
theorem RT.fr (h : RT t n i S) (g : frm fs as S T) (h7 : 2 ∉ fs) (h8 : 3 ∉ fs) (h14 : 2 ∉ as) : RT t n i T := h.to g h7 h14 ((g.1 3 h8).trans h.2.1) h.2.2.1
theorem CT.mv (h : CT t n i S) (hj : j ≤ n) : CT t n j (sF S 8 (nI j)) := h.to (fs := [8]) (as := []) (frm.rf.F (by simp)) (by simp) (by simp) rfl hj
theorem RT.mv (h : RT t n i S) (hj : j ≤ n) : RT t n j (sF S 3 (nI j)) := h.to (fs := [3]) (as := []) (frm.rf.F (by simp)) (by simp) (by simp) rfl hj
/-- blanks -/
theorem c_skip_0 : ∀ k m i (S : St), i + k = n → k < m → CT t n i S → fC_Tape_skipBlanks_0 m S = some (rV, sF S 8 (nI (run bl t n i))) := by
  intro k
  induction k with
  | zero =>
    intro m i S hi hm h
    obtain ⟨m, rfl⟩ := pz_fu hm
    obtain ⟨e7, e8, h3, h4, h5⟩ := h
    rw [fC_Tape_skipBlanks_0, e7, e8, if_pos (nI_le (by omega) (by omega)), run_stop (fun q => by omega), sF_id e8]
  | succ k ih =>
    intro m i S hi hm h
    have h' := h
    obtain ⟨m, rfl⟩ := pz_fu hm
    obtain ⟨e7, e8, h3, h4, h5⟩ := h
    obtain ⟨e9, b9⟩ := h5 i (by omega)
    rw [fC_Tape_skipBlanks_0, e7, e8, if_neg (nI_ge (by omega) (by omega)), pz_gib (by omega) (by omega), pz_rA (by omega), e9, it_eqL (by omega) (by omega)]
    by_cases q : t i = 32
    · rw [if_pos q, ev_nx, nI_1, ih m (i + 1) _ (by omega) (by omega) (h'.mv (by omega)), sF_sF, run_step (c := bl) (by omega) (decide_eq_true q)]
    · rw [if_neg q, run_stop (fun z => q (of_decide_eq_true z.2)), sF_id e8]
theorem c_skip (h : CT t n i S) : fC_Tape_skipBlanks S = some (rV, sF S 8 (nI (run bl t n i))) := c_skip_0 (n - i) FU i S (by have := h.2.2.1; omega) (by have := h.2.2.2.1; rw [pz_FU]; omega) h
def cur (t : Nat → Nat) (n i : Nat) : Int32 := if i < n then nI (t i) else 0
theorem r_here_38 (h : RT t n i S) : fR_here_38 S = some (rI (cur t n i), S) := by
  obtain ⟨e7, e8, h3, h4, h5⟩ := h
  rw [fR_here_38, e7, e8, it_le (by omega) (by omega), cur]
  by_cases q : n ≤ i
  · rw [if_pos q, if_neg (by omega)]
  · rw [if_neg q, if_pos (by omega), pz_gib (by omega) (by omega), pz_rA (by omega), (h5 i (by omega)).1]
theorem r_here_0 : ∀ k m i (S : St), i + k = n → k < m → RT t n i S → fR_here_0 m S = some (rI (cur t n (run bl t n i)), sF S 3 (nI (run bl t n i))) := by
  intro k
  induction k with
  | zero =>
    intro m i S hi hm h
    have h' := h
    obtain ⟨m, rfl⟩ := pz_fu hm
    obtain ⟨e7, e8, h3, h4, h5⟩ := h
    rw [fR_here_0, e7, e8, if_pos (nI_le (by omega) (by omega)), run_stop (fun q => by omega), sF_id e8, r_here_38 h']
  | succ k ih =>
    intro m i S hi hm h
    have h' := h
    obtain ⟨m, rfl⟩ := pz_fu hm
    obtain ⟨e7, e8, h3, h4, h5⟩ := h
    obtain ⟨e9, b9⟩ := h5 i (by omega)
    rw [fR_here_0, e7, e8, if_neg (nI_ge (by omega) (by omega)), pz_gib (by omega) (by omega), pz_rA (by omega), e9, it_eqL (by omega) (by omega)]
    by_cases q : t i = 32
    · rw [if_pos q, ev_nx, nI_1, ih m (i + 1) _ (by omega) (by omega) (h'.mv (by omega)), sF_sF, run_step (c := bl) (by omega) (decide_eq_true q)]
    · rw [if_neg q, run_stop (fun z => q (of_decide_eq_true z.2)), sF_id e8, r_here_38 h']
theorem r_here (h : RT t n i S) : fR_here S = some (rI (cur t n (run bl t n i)), sF S 3 (nI (run bl t n i))) := r_here_0 (n - i) FU i S (by have := h.2.2.1; omega) (by have := h.2.2.2.1; rw [pz_FU]; omega) h
/-- the end -/
theorem c_ended (h : CT t n i S) : fC_Tape_ended S = some (rI (if run bl t n i < n then 0 else 1), sF S 8 (nI (run bl t n i))) := by
  have h2 := h.mv (run_le (c := bl) (t := t) h.2.2.1)
  obtain ⟨e7, e8, h3, h4, h5⟩ := h2
  rw [fC_Tape_ended, c_skip h, ev_V, e7, e8, it_lt (by omega) (by omega)]
  split <;> rfl
theorem r_isMore (h : RT t n i S) : fR_isMore S = some (rI (if run bl t n i < n then 1 else 0), sF S 3 (nI (run bl t n i))) := by
  have h2 := h.mv (run_le (c := bl) (t := t) h.2.2.1)
  obtain ⟨e7, e8, h3, h4, h5⟩ := h2
  rw [fR_isMore, r_here h, ev_I, e7, e8, it_le (by omega) (by omega)]
  by_cases q : n ≤ run bl t n i
  · rw [if_pos q, if_neg (by omega)]
  · rw [if_neg q, if_pos (by omega)]
/-- fine or not -/
theorem r_fine1 (h : S.1 4 = -1) : fR_fine S = some (rI 1, S) := by rw [fR_fine, if_pos h]
theorem nI_m1 (hp : p < 2 ^ 31) : ¬ nI p = -1 := by
  have h := pz_nem1 hp
  rw [pz_m1e] at h
  exact of_eq_false h
theorem r_fine0 (hp : p < 2 ^ 31) (h : S.1 4 = nI p) : fR_fine S = some (rI 0, S) := by rw [fR_fine, h, if_neg (nI_m1 hp)]
theorem r_wrong1 (x y : Int32) (h : S.1 4 = -1) : fR_wrong x y S = some (rV, sF (sF S 4 y) 5 x) := by rw [fR_wrong, if_pos h]; rfl
theorem r_wrong0 (x y : Int32) (hp : p < 2 ^ 31) (h : S.1 4 = nI p) : fR_wrong x y S = some (rV, S) := by rw [fR_wrong, h, if_neg (nI_m1 hp)]
/-- signs -/
def sgn (t : Nat → Nat) (n i : Nat) (b : Nat) : Prop := run bl t n i < n ∧ t (run bl t n i) = b
theorem c_sign_ok {b : Nat} (h : CT t n i S) (hb : b < 256) (hs : sgn t n i b) : fC_Tape_needs (nI b) S = some (rI 1, sF S 8 (nI (run bl t n i + 1))) := by
  have h2 := h.mv (run_le (c := bl) (t := t) h.2.2.1)
  obtain ⟨e7, e8, h3, h4, h5⟩ := h2
  have h9 := hs.1
  rw [fC_Tape_needs, c_skip h, ev_V, e7, e8, if_neg (nI_ge (by omega) (by omega)), pz_gib (by omega) (by omega), pz_rA (by omega), (h5 _ (by omega)).1, if_pos (by rw [hs.2]), nI_1, ev_nx, sF_sF]
theorem c_sign_no {b : Nat} (h : CT t n i S) (hb : b < 256) (hs : ¬ sgn t n i b) : ∃ T, fC_Tape_needs (nI b) S = some (rI 0, T) ∧ T.1 5 = nI (run bl t n i) ∧ T.1 4 = 1 ∧ frm [4, 5, 8] [] S T := by
  have h2 := h.mv (run_le (c := bl) (t := t) h.2.2.1)
  have h2' := h2
  obtain ⟨e7, e8, h3, h4, h5⟩ := h2
  refine ⟨sF (sF (sF S 8 (nI (run bl t n i))) 5 (nI (run bl t n i))) 4 1, ?_, rfl, rfl, ((frm.rf.F (by simp)).F (by simp)).F (by simp)⟩
  have e40 : fC_Tape_needs_40 (sF S 8 (nI (run bl t n i))) = some (rI 0, sF (sF (sF S 8 (nI (run bl t n i))) 5 (nI (run bl t n i))) 4 1) := by
    rw [fC_Tape_needs_40, e8, fC_Tape_refuse, ev_nx, ev_nx, ev_I, gdT (by decide)]
  rw [fC_Tape_needs, c_skip h, ev_V, e7, e8, it_le (n := n) (m := run bl t n i) (by omega) (by omega)]
  by_cases q : n ≤ run bl t n i
  · rw [if_pos q, e40]
  · have b9 := (h5 (run bl t n i) (by omega)).2
    rw [if_neg q, pz_gib (n := run bl t n i) (by omega) (by omega), pz_rA (n := run bl t n i) (by omega), (h5 _ (by omega)).1, if_neg (fun e => hs ⟨by omega, (nI_eq (by omega) (by omega)).mp e⟩), e40]
theorem r_sign_ok {b : Nat} (h : RT t n i S) (h4 : S.1 4 = -1) (hs : sgn t n i b) : fR_sign (nI b) S = some (rV, sF S 3 (nI (run bl t n i + 1))) := by
  rw [fR_sign, r_fine1 h4, ev_I, if_neg (by decide), r_here h, ev_I, cur, if_pos hs.1, if_pos (by rw [hs.2]), fR_sign_24, r_fine1 (S := sF S 3 (nI (run bl t n i))) h4, ev_I, if_neg (by decide), tF_1, if_pos rfl, nI_1, ev_nx, sF_sF]
theorem r_sign_no {b : Nat} (h : RT t n i S) (h4 : S.1 4 = -1) (hb : b < 256) (hb0 : 0 < b) (hs : ¬ sgn t n i b) : ∃ T, fR_sign (nI b) S = some (rV, T) ∧ T.1 4 = nI (run bl t n i) ∧ T.1 5 = 1 ∧ frm [3, 4, 5] [] S T := by
  have h2 := h.mv (run_le (c := bl) (t := t) h.2.2.1)
  obtain ⟨e7, e8, h3, h5, h6⟩ := h2
  refine ⟨sF (sF (sF S 3 (nI (run bl t n i))) 4 (nI (run bl t n i))) 5 1, ?_, rfl, rfl, ((frm.rf.F (by simp)).F (by simp)).F (by simp)⟩
  have hne : ¬ cur t n (run bl t n i) = nI b := fun e => by
    unfold cur at e
    by_cases q : run bl t n i < n
    · rw [if_pos q] at e
      have := (h6 (run bl t n i) (by omega)).2
      exact hs ⟨q, (nI_eq (by omega) (by omega)).mp e⟩
    · rw [if_neg q] at e
      exact nI_ne0 hb0 (by omega) e.symm
  rw [fR_sign, r_fine1 h4, ev_I, if_neg (by decide), r_here h, ev_I, if_neg hne, e8, r_wrong1 (S := sF S 3 (nI (run bl t n i))) _ _ h4, ev_V, fR_sign_24, r_fine0 (p := run bl t n i) (by omega) rfl, ev_I, if_pos rfl]
theorem r_sign_bad (b : Int32) (hp : p < 2 ^ 31) (h : S.1 4 = nI p) : fR_sign b S = some (rV, S) := by
  rw [fR_sign, r_fine0 hp h, ev_I, if_pos rfl, fR_sign_24, r_fine0 hp h, ev_I, if_pos rfl]
/-- numbers -/
def vl (t : Nat → Nat) (i : Nat) : Nat → Nat
  | 0 => 0
  | k + 1 => vl t i k * 10 + (t (i + k) - 48)
def nS (t : Nat → Nat) (n i : Nat) : Nat := run bl t n i
def nE (t : Nat → Nat) (n i : Nat) : Nat := run dg t n (nS t n i)
def nV (t : Nat → Nat) (n i : Nat) : Nat := vl t (nS t n i) (nE t n i - nS t n i)
def nOK (t : Nat → Nat) (n i lo h1 : Nat) : Prop := nS t n i < nE t n i ∧ lo ≤ nV t n i ∧ nV t n i < h1
def nK (t : Nat → Nat) (n i : Nat) : Nat := if nS t n i < nE t n i then 2 else 1
theorem nS_le (h : i ≤ n) : nS t n i ≤ n := run_le h
theorem nE_le (h : i ≤ n) : nE t n i ≤ n := run_le (nS_le h)
theorem dg_of {b : Nat} : dg b = true ↔ 48 ≤ b ∧ b ≤ 57 := by simp [dg]
theorem lt_of {b : Nat} : lt b = true ↔ 97 ≤ b ∧ b ≤ 122 := by simp [lt]
/-- what a last number means -/
def HI (hi : Int32) (h1 : Nat) : Prop := ∀ v : Nat, v < 2 ^ 20 → (nI v ≤ hi ↔ v < h1)
theorem HI.lit {h : Nat} (hh : h < 1000) : HI (nI h) (h + 1) := fun v hv => by rw [pz_le (by omega) (by omega)]; omega
theorem HI.sub {h : Nat} (hh : h < 1000) : HI (nI h - 1) h := fun v hv => by
  cases h with
  | zero =>
    constructor
    · intro q
      rw [Int32.le_iff_toInt_le, nI_toInt (by omega), show (nI 0 - 1 : Int32).toInt = -1 from by decide] at q
      omega
    · intro q; omega
  | succ h => rw [nI_pred, pz_le (by omega) (by omega)]; omega
theorem c_num_12 (lo hi : Int32) {s : Nat} : ∀ k m p v (S : St), p + k = n → k < m → CT t n p S → s ≤ p → v ≤ 9999 → (v = vl t s (p - s) ∨ (999 < v ∧ 999 < vl t s (p - s))) →
    ∃ v', fC_Tape_needsNumber_12 m lo hi (nI s) (nI v) S = fC_Tape_needsNumber_92 lo hi (nI s) (nI v') (sF S 8 (nI (run dg t n p))) ∧ v' ≤ 9999 ∧ (v' = vl t s (run dg t n p - s) ∨ (999 < v' ∧ 999 < vl t s (run dg t n p - s))) := by
  intro k
  induction k with
  | zero =>
    intro m p v S hp hm h hs hv hr
    obtain ⟨m, rfl⟩ := pz_fu hm
    obtain ⟨e7, e8, h3, h4, h5⟩ := h
    rw [fC_Tape_needsNumber_12, e7, e8, if_pos (nI_le (by omega) (by omega)), run_stop (fun q => by omega), sF_id e8]
    exact ⟨v, rfl, hv, hr⟩
  | succ k ih =>
    intro m p v S hp hm h hs hv hr
    have h' := h
    obtain ⟨m, rfl⟩ := pz_fu hm
    obtain ⟨e7, e8, h3, h4, h5⟩ := h
    obtain ⟨e9, b9⟩ := h5 p (by omega)
    rw [fC_Tape_needsNumber_12, e7, e8, if_neg (nI_ge (by omega) (by omega)), pz_gib (by omega) (by omega), pz_rA (by omega), e9, it_ltL (by omega) (by omega)]
    by_cases q1 : t p < 48
    · rw [if_pos q1, run_stop (fun z => by have := (dg_of.mp z.2).1; omega), sF_id e8]
      exact ⟨v, rfl, hv, hr⟩
    · rw [if_neg q1, pz_gib (by omega) (by omega), it_Llt (by omega) (by omega)]
      by_cases q2 : 57 < t p
      · rw [if_pos q2, run_stop (fun z => by have := (dg_of.mp z.2).2; omega), sF_id e8]
        exact ⟨v, rfl, hv, hr⟩
      · have hstep : run dg t n p = run dg t n (p + 1) := run_step (by omega) (dg_of.mpr ⟨by omega, by omega⟩)
        have hvl : vl t s (p + 1 - s) = vl t s (p - s) * 10 + (t p - 48) := by
          rw [show p + 1 - s = (p - s) + 1 by omega, vl, show s + (p - s) = p by omega]
        rw [if_neg q2, it_Llt (by omega) (by omega), hstep]
        by_cases q3 : 999 < v
        · rw [if_pos q3, fC_Tape_needsNumber_79, e8, nI_1, ev_nx]
          obtain ⟨v', z1, z2, z3⟩ := ih m (p + 1) v _ (by omega) (by omega) (h'.mv (by omega)) (by omega) hv (by rw [hvl]; omega)
          rw [sF_sF] at z1
          exact ⟨v', z1, z2, z3⟩
        · rw [if_neg q3, pz_gib (by omega) (by omega), show (10 : Int32) = nI 10 from rfl, pk_mul, nI_add, show (48 : Int32) = nI 48 from rfl, pk_sub (by omega), ev_nx, fC_Tape_needsNumber_79, e8, nI_1, ev_nx]
          obtain ⟨v', z1, z2, z3⟩ := ih m (p + 1) (v * 10 + t p - 48) _ (by omega) (by omega) (h'.mv (by omega)) (by omega) (by omega) (by rw [hvl]; omega)
          rw [sF_sF] at z1
          exact ⟨v', z1, z2, z3⟩
theorem c_num (h : CT t n i S) (hh : HI hi h1) (hl : lo ≤ 1000) (hh1 : h1 ≤ 1000) :
    (nOK t n i lo h1 → fC_Tape_needsNumber (nI lo) hi S = some (rI 1, sF (sF S 8 (nI (nE t n i))) 6 (nI (nV t n i)))) ∧
    (¬ nOK t n i lo h1 → ∃ T, fC_Tape_needsNumber (nI lo) hi S = some (rI 0, T) ∧ T.1 5 = nI (nS t n i) ∧ T.1 4 = nI (nK t n i) ∧ frm [4, 5, 6, 8] [] S T) := by
  have h2 := h.mv (nS_le (t := t) h.2.2.1)
  have hle := nE_le (t := t) h.2.2.1
  have hge : nS t n i ≤ nE t n i := run_ge (nS_le h.2.2.1)
  have hn := h.2.2.2.1
  obtain ⟨v, e1, hv, hr⟩ := c_num_12 (nI lo) hi (s := nS t n i) (n - nS t n i) FU (nS t n i) 0 _ (by have := h2.2.2.1; omega) (by rw [pz_FU]; omega) h2 (Nat.le_refl _) (by omega) (Or.inl (by rw [Nat.sub_self]; rfl))
  have e0 : fC_Tape_needsNumber (nI lo) hi S = fC_Tape_needsNumber_92 (nI lo) hi (nI (nS t n i)) (nI v) (sF S 8 (nI (nE t n i))) := by
    rw [fC_Tape_needsNumber, c_skip h, ev_V, ev_nx]
    rw [sF_sF] at e1
    exact e1
  have hr2 : v = nV t n i ∨ (999 < v ∧ 999 < nV t n i) := hr
  rw [e0]
  have e8 : (sF S 8 (nI (nE t n i))).1 8 = nI (nE t n i) := rfl
  constructor
  · intro ok
    have ev : v = nV t n i := by have := ok.2.2; omega
    rw [fC_Tape_needsNumber_92, e8, if_neg (fun e => by have := (nI_eq (by omega) (by omega)).mp e; have := ok.1; omega), ev_nx, if_neg (nI_nlt (by have := ok.2.1; omega) (by omega)), if_pos ((hh v (by omega)).mpr (by have := ok.2.2; omega)), ev]
  · intro no
    rw [fC_Tape_needsNumber_92, e8, it_eq (by omega) (by omega)]
    by_cases q : nE t n i = nS t n i
    · rw [if_pos q, fC_Tape_refuse, ev_nx, ev_nx, ev_I, gdT (by decide)]
      exact ⟨_, rfl, rfl, by rw [nK, if_neg (by omega)]; rfl, ((frm.rf.F (by simp)).F (by simp)).F (by simp)⟩
    · have e125 : fC_Tape_needsNumber_125 (nI (nS t n i)) (sF (sF S 8 (nI (nE t n i))) 6 (nI v)) = some (rI 0, sF (sF (sF (sF S 8 (nI (nE t n i))) 6 (nI v)) 5 (nI (nS t n i))) 4 2) := by
        rw [fC_Tape_needsNumber_125, fC_Tape_refuse, ev_nx, ev_nx, ev_I, if_pos rfl]
      refine ⟨sF (sF (sF (sF S 8 (nI (nE t n i))) 6 (nI v)) 5 (nI (nS t n i))) 4 2, ?_, rfl, by rw [nK, if_pos (by omega)]; rfl, (((frm.rf.F (by simp)).F (by simp)).F (by simp)).F (by simp)⟩
      rw [if_neg q, ev_nx, it_lt (by omega) (by omega)]
      by_cases q2 : v < lo
      · rw [if_pos q2, e125]
      · rw [if_neg q2, if_neg (fun e => no ⟨by omega, by have := (hh v (by omega)).mp e; omega, by have := (hh v (by omega)).mp e; omega⟩), e125]
theorem r_num_41 (lo hi x4 : Int32) {s : Nat} : ∀ k m p v (S : St), p + k = n → k < m → RT t n p S → s ≤ p → v ≤ 99999 → (v = vl t s (p - s) ∨ (9999 < v ∧ 9999 < vl t s (p - s))) →
    ∃ v', fR_readNumber_41 m lo hi x4 (nI v) S = fR_readNumber_114 lo hi x4 (nI v') (sF S 3 (nI (run dg t n p))) ∧ v' ≤ 99999 ∧ (v' = vl t s (run dg t n p - s) ∨ (9999 < v' ∧ 9999 < vl t s (run dg t n p - s))) := by
  intro k
  induction k with
  | zero =>
    intro m p v S hp hm h hs hv hr
    obtain ⟨m, rfl⟩ := pz_fu hm
    obtain ⟨e7, e8, h3, h4, h5⟩ := h
    rw [fR_readNumber_41, e7, e8, if_pos (nI_le (by omega) (by omega)), run_stop (fun q => by omega), sF_id e8]
    exact ⟨v, rfl, hv, hr⟩
  | succ k ih =>
    intro m p v S hp hm h hs hv hr
    have h' := h
    obtain ⟨m, rfl⟩ := pz_fu hm
    obtain ⟨e7, e8, h3, h4, h5⟩ := h
    obtain ⟨e9, b9⟩ := h5 p (by omega)
    rw [fR_readNumber_41, e7, e8, if_neg (nI_ge (by omega) (by omega)), pz_gib (by omega) (by omega), pz_rA (by omega), e9, fR_isDigit, it_ltL (by omega) (by omega)]
    by_cases q1 : t p < 48
    · rw [if_pos q1, ev_I, if_pos rfl, run_stop (fun z => by have := (dg_of.mp z.2).1; omega), sF_id e8]
      exact ⟨v, rfl, hv, hr⟩
    · rw [if_neg q1, it_Llt (by omega) (by omega)]
      by_cases q2 : 57 < t p
      · rw [if_pos q2, ev_I, if_pos rfl, run_stop (fun z => by have := (dg_of.mp z.2).2; omega), sF_id e8]
        exact ⟨v, rfl, hv, hr⟩
      · have hstep : run dg t n p = run dg t n (p + 1) := run_step (by omega) (dg_of.mpr ⟨by omega, by omega⟩)
        have hvl : vl t s (p + 1 - s) = vl t s (p - s) * 10 + (t p - 48) := by
          rw [show p + 1 - s = (p - s) + 1 by omega, vl, show s + (p - s) = p by omega]
        rw [if_neg q2, ev_I, if_neg (by decide), it_leL (by omega) (by omega), hstep]
        by_cases q3 : v ≤ 9999
        · rw [if_pos q3, e8, pz_gib (by omega) (by omega), pz_rA (by omega), e9, show (10 : Int32) = nI 10 from rfl, pk_mul, nI_add, show (48 : Int32) = nI 48 from rfl, pk_sub (by omega), fR_readNumber_99, e8, nI_1, ev_nx]
          obtain ⟨v', z1, z2, z3⟩ := ih m (p + 1) (10 * v + t p - 48) _ (by omega) (by omega) (h'.mv (by omega)) (by omega) (by omega) (by rw [hvl]; omega)
          rw [sF_sF] at z1
          exact ⟨v', z1, z2, z3⟩
        · rw [if_neg q3, fR_readNumber_99, e8, nI_1, ev_nx]
          obtain ⟨v', z1, z2, z3⟩ := ih m (p + 1) 10000 _ (by omega) (by omega) (h'.mv (by omega)) (by omega) (by omega) (by rw [hvl]; omega)
          rw [sF_sF] at z1
          exact ⟨v', z1, z2, z3⟩
theorem r_num (h : RT t n i S) (h4 : S.1 4 = -1) (hh : HI hi h1) (hl : lo ≤ 1000) (hh1 : h1 ≤ 1000) :
    (nOK t n i lo h1 → fR_readNumber (nI lo) hi S = some (rI (nI (nV t n i)), sF S 3 (nI (nE t n i)))) ∧
    (¬ nOK t n i lo h1 → ∃ T, fR_readNumber (nI lo) hi S = some (rI 0, T) ∧ T.1 4 = nI (nS t n i) ∧ T.1 5 = nI (nK t n i) ∧ frm [3, 4, 5] [] S T) := by
  have h2 := h.mv (nS_le (t := t) h.2.2.1)
  have h2' := h2
  have hle := nE_le (t := t) h.2.2.1
  have hge : nS t n i ≤ nE t n i := run_ge (nS_le h.2.2.1)
  have hn := h.2.2.2.1
  have hlt : nS t n i < nE t n i ↔ nS t n i < n ∧ dg (t (nS t n i)) = true := run_lt (nS_le h.2.2.1)
  obtain ⟨v, e1, hv, hr⟩ := r_num_41 (nI lo) hi (nI (nS t n i)) (s := nS t n i) (n - nS t n i) FU (nS t n i) 0 _ (by have := h2.2.2.1; omega) (by rw [pz_FU]; omega) h2 (Nat.le_refl _) (by omega) (Or.inl (by rw [Nat.sub_self]; rfl))
  have hr2 : v = nV t n i ∨ (9999 < v ∧ 9999 < nV t n i) := hr
  obtain ⟨e7, e8, h3, h5, h6⟩ := h2'
  have hd : fR_isDigit (cur t n (nS t n i)) (sF S 3 (nI (nS t n i))) = some (rI (if nS t n i < nE t n i then 1 else 0), sF S 3 (nI (nS t n i))) := by
    unfold cur
    by_cases q : nS t n i < n
    · have b9 := (h6 (nS t n i) (by omega)).2
      rw [if_pos q, fR_isDigit, it_ltL (by omega) (by omega)]
      by_cases q1 : t (nS t n i) < 48
      · rw [if_pos q1, if_neg (fun z => by have := (dg_of.mp (hlt.mp z).2).1; omega)]
      · rw [if_neg q1, it_Llt (by omega) (by omega)]
        by_cases q2 : 57 < t (nS t n i)
        · rw [if_pos q2, if_neg (fun z => by have := (dg_of.mp (hlt.mp z).2).2; omega)]
        · rw [if_neg q2, if_pos (hlt.mpr ⟨q, dg_of.mpr ⟨by omega, by omega⟩⟩)]
    · rw [if_neg q, fR_isDigit, if_pos (by decide), if_neg (fun z => q (hlt.mp z).1)]
  have e0 : fR_readNumber (nI lo) hi S = if nS t n i < nE t n i then fR_readNumber_114 (nI lo) hi (nI (nS t n i)) (nI v) (sF S 3 (nI (nE t n i))) else some (rI 0, sF (sF (sF S 3 (nI (nS t n i))) 4 (nI (nS t n i))) 5 1) := by
    rw [fR_readNumber, r_fine1 h4, ev_I, if_neg (by decide), r_here h, ev_I, ev_nx]
    rw [show fR_isDigit (cur t n (run bl t n i)) (sF S 3 (nI (run bl t n i))) = _ from hd, ev_I]
    by_cases q : nS t n i < nE t n i
    · rw [if_pos q, if_neg (show ¬ (1 : Int32) = 0 by decide), if_pos q]
      rw [sF_sF] at e1
      exact e1
    · rw [if_neg q, if_pos rfl, if_neg q, r_wrong1 (S := sF S 3 (nI (nS t n i))) _ _ h4, ev_V]
      rfl
  rw [e0]
  constructor
  · intro ok
    have ev : v = nV t n i := by have := ok.2.2; omega
    rw [if_pos ok.1, fR_readNumber_114, if_neg (nI_nlt (by have := ok.2.1; omega) (by omega)), if_pos ((hh v (by omega)).mpr (by have := ok.2.2; omega)), ev]
  · intro no
    by_cases q : nS t n i < nE t n i
    · have e126 : fR_readNumber_126 (nI (nS t n i)) (sF S 3 (nI (nE t n i))) = some (rI 0, sF (sF (sF S 3 (nI (nE t n i))) 4 (nI (nS t n i))) 5 2) := by
        rw [fR_readNumber_126, r_wrong1 (S := sF S 3 (nI (nE t n i))) _ _ h4, ev_V]
      refine ⟨sF (sF (sF S 3 (nI (nE t n i))) 4 (nI (nS t n i))) 5 2, ?_, rfl, by rw [nK, if_pos q]; rfl, ((frm.rf.F (by simp)).F (by simp)).F (by simp)⟩
      rw [if_pos q, fR_readNumber_114, it_lt (by omega) (by omega)]
      by_cases q2 : v < lo
      · rw [if_pos q2, e126]
      · rw [if_neg q2, if_neg (fun e => no ⟨q, by have := (hh v (by omega)).mp e; omega, by have := (hh v (by omega)).mp e; omega⟩), e126]
    · rw [if_neg q]
      exact ⟨_, rfl, rfl, by rw [nK, if_neg q]; rfl, ((frm.rf.F (by simp)).F (by simp)).F (by simp)⟩
theorem r_num_bad (lo hi : Int32) (hp : p < 2 ^ 31) (h : S.1 4 = nI p) : fR_readNumber lo hi S = some (rI 0, S) := by rw [fR_readNumber, r_fine0 hp h, ev_I, if_pos rfl]
end PT4
