/-! the tape: words (written by wip/whole/pure/p75.py) -/
section PT5
variable {S T U SC SR : St} {t u : Nat → Nat} {n i j p q a b si : Nat}
/-- letters, five bits each -/
def pk5 (t : Nat → Nat) (i : Nat) : Nat → Nat
  | 0 => 0
  | k + 1 => pk5 t i k * 32 + (t (i + k) - 96)
theorem pk5_lt (h : ∀ m, m < a → t (i + m) ≤ 122) : pk5 t i a < 32 ^ a := by
  induction a with
  | zero => exact Nat.one_pos
  | succ a ih =>
    have h1 := ih (fun m hm => h m (by omega))
    have h2 := h a (by omega)
    rw [pk5, Nat.pow_succ]
    omega
theorem pk5_inj : ∀ a b, (∀ m, m < a → 97 ≤ t (i + m) ∧ t (i + m) ≤ 122) → (∀ m, m < b → 97 ≤ u (j + m) ∧ u (j + m) ≤ 122) → (pk5 t i a = pk5 u j b ↔ a = b ∧ ∀ m, m < a → t (i + m) = u (j + m)) := by
  intro a
  induction a with
  | zero =>
    intro b h1 h2
    constructor
    · intro e
      cases b with
      | zero => exact ⟨rfl, fun m hm => by omega⟩
      | succ b =>
        have := h2 b (by omega)
        rw [pk5, pk5] at e
        omega
    · intro e
      rw [← e.1]
      rfl
  | succ a ih =>
    intro b h1 h2
    cases b with
    | zero =>
      have := h1 a (by omega)
      constructor
      · intro e
        rw [pk5, pk5] at e
        omega
      · intro e; omega
    | succ b =>
      have k1 := h1 a (by omega)
      have k2 := h2 b (by omega)
      have ih' := ih b (fun m hm => h1 m (by omega)) (fun m hm => h2 m (by omega))
      rw [pk5, pk5]
      constructor
      · intro e
        have e1 : pk5 t i a = pk5 u j b := by omega
        have e2 : t (i + a) = u (j + b) := by omega
        obtain ⟨e3, e4⟩ := ih'.mp e1
        subst e3
        refine ⟨rfl, fun m hm => ?_⟩
        by_cases e : m = a
        · rw [e]; exact e2
        · exact e4 m (by omega)
      · rintro ⟨e1, e2⟩
        have e3 : a = b := by omega
        subst e3
        rw [ih'.mpr ⟨rfl, fun m hm => e2 m (by omega)⟩, e2 a (by omega)]
theorem or_low {x y : Nat} (hx : x < 2 ^ 25) (hy : y < 32) : (nI x <<< ((5 : Int32) &&& 31)) ||| nI y = nI (x * 32 + y) := by
  have e : nI x <<< ((5 : Int32) &&& 31) = nI (x * 2 ^ 5) := pk_shlN _ 5 (by decide) (by omega)
  rw [e]
  apply Int32.toBitVec_inj.mp
  apply BitVec.eq_of_toNat_eq
  rw [Int32.toBitVec_or, BitVec.toNat_or, pk_tn (by omega), pk_tn (by omega), pk_tn (by omega), Nat.mul_comm x, ← Nat.two_pow_add_eq_or_of_lt (i := 5) (by omega)]
/-- the reference's word -/
def wcd (t : Nat → Nat) (i e : Nat) : Int32 := if e - i ≤ 6 then nI (pk5 t i (e - i)) else 0
theorem r_small {x : Nat} (hx : x < 256) : fR_isSmall (nI x) S = some (rI (if lt x = true then 1 else 0), S) := by
  rw [fR_isSmall, it_ltL (by omega) (by omega)]
  by_cases q1 : x < 97
  · rw [if_pos q1, if_neg (fun z => by have := (lt_of.mp z).1; omega)]
  · rw [if_neg q1, it_Llt (by omega) (by omega)]
    by_cases q2 : 122 < x
    · rw [if_pos q2, if_neg (fun z => by have := (lt_of.mp z).2; omega)]
    · rw [if_neg q2, if_pos (lt_of.mpr ⟨by omega, by omega⟩)]
theorem r_word_14 {s : Nat} (h : RT t n i S) : ∀ k m p, p + k = n → k < m → s ≤ p → (∀ j, s ≤ j → j < p → lt (t j) = true) →
    fR_word_14 m (if p - s ≤ 6 then nI (pk5 t s (p - s)) else 0) (nI (p - s)) (nI p) S = some (rI (wcd t s (run lt t n p)), S) := by
  obtain ⟨e7, e8, h3, h4, h5⟩ := h
  have base : ∀ p, s ≤ p → p ≤ n → fR_word_67 (if p - s ≤ 6 then nI (pk5 t s (p - s)) else 0) (nI (p - s)) S = some (rI (wcd t s p), S) := fun p hp hp2 => by
    rw [fR_word_67, it_leL (by omega) (by omega), wcd]
    by_cases q : p - s ≤ 6
    · rw [if_pos q, if_pos q]
    · rw [if_neg q, if_neg q]
  intro k
  induction k with
  | zero =>
    intro m p hp hm hs hl
    obtain ⟨m, rfl⟩ := pz_fu hm
    rw [fR_word_14, e7, if_pos (nI_le (by omega) (by omega)), run_stop (fun q => by omega)]
    exact base p hs (by omega)
  | succ k ih =>
    intro m p hp hm hs hl
    obtain ⟨m, rfl⟩ := pz_fu hm
    obtain ⟨e9, b9⟩ := h5 p (by omega)
    rw [fR_word_14, e7, if_neg (nI_ge (by omega) (by omega)), pz_gib (by omega) (by omega), pz_rA (by omega), e9, r_small b9, ev_I, it_p0]
    by_cases q : lt (t p) = true
    · rw [if_pos q, run_step (by omega) q, it_Lle (by omega) (by omega), nI_1, nI_1, show p - s + 1 = p + 1 - s by omega]
      have hl2 : ∀ j, s ≤ j → j < p + 1 → lt (t j) = true := fun j h1 h2 => by
        by_cases e : j = p
        · rw [e]; exact q
        · exact hl j h1 (by omega)
      have hnext := ih m (p + 1) (by omega) (by omega) (by omega) hl2
      by_cases q6 : 6 ≤ p - s
      · rw [if_pos q6]
        rw [if_neg (show ¬ p + 1 - s ≤ 6 by omega)] at hnext
        exact hnext
      · have hq := lt_of.mp q
        have hb : pk5 t s (p - s) < 32 ^ (p - s) := pk5_lt (fun m hm => (lt_of.mp (hl (s + m) (by omega) (by omega))).2)
        have hb2 : 32 ^ (p - s) ≤ 32 ^ 5 := Nat.pow_le_pow_right (by omega) (by omega)
        rw [if_neg q6, if_pos (show p - s ≤ 6 by omega), pz_gib (by omega) (by omega), pz_rA (by omega), e9, show (96 : Int32) = nI 96 from rfl, pk_sub (by omega), or_low (by omega) (by omega), ev_nx]
        rw [if_pos (show p + 1 - s ≤ 6 by omega), show p + 1 - s = (p - s) + 1 by omega, pk5, show s + (p - s) = p by omega] at hnext
        rw [show p + 1 - s = (p - s) + 1 by omega]
        exact hnext
    · rw [if_neg q, run_stop (fun z => q z.2)]
      exact base p hs (by omega)
def wE (t : Nat → Nat) (n i : Nat) : Nat := run lt t n (nS t n i)
theorem wE_le (h : i ≤ n) : wE t n i ≤ n := run_le (nS_le h)
theorem wE_ge (h : i ≤ n) : nS t n i ≤ wE t n i := run_ge (nS_le h)
theorem r_word (h : RT t n i S) : fR_word S = some (rI (wcd t (nS t n i) (wE t n i)), sF S 3 (nI (nS t n i))) := by
  have h2 := h.mv (nS_le (t := t) h.2.2.1)
  have e := r_word_14 (s := nS t n i) h2 (n - nS t n i) FU (nS t n i) (by have := h2.2.2.1; omega) (by have := h2.2.2.2.1; rw [pz_FU]; omega) (Nat.le_refl _) (fun j h1 h3 => by omega)
  rw [Nat.sub_self] at e
  rw [fR_word, r_here h, ev_I, ev_nx]
  exact e
theorem r_pass_0 : ∀ k m i (S : St), i + k = n → k < m → RT t n i S → fR_pass_0 m S = some (rV, sF S 3 (nI (run lt t n i))) := by
  intro k
  induction k with
  | zero =>
    intro m i S hi hm h
    obtain ⟨m, rfl⟩ := pz_fu hm
    obtain ⟨e7, e8, h3, h4, h5⟩ := h
    rw [fR_pass_0, e7, e8, if_pos (nI_le (by omega) (by omega)), run_stop (fun q => by omega), sF_id e8]
  | succ k ih =>
    intro m i S hi hm h
    have h' := h
    obtain ⟨m, rfl⟩ := pz_fu hm
    obtain ⟨e7, e8, h3, h4, h5⟩ := h
    obtain ⟨e9, b9⟩ := h5 i (by omega)
    rw [fR_pass_0, e7, e8, if_neg (nI_ge (by omega) (by omega)), pz_gib (by omega) (by omega), pz_rA (by omega), e9, r_small b9, ev_I, it_p0]
    by_cases q : lt (t i) = true
    · rw [if_pos q, ev_nx, e8, nI_1, ih m (i + 1) _ (by omega) (by omega) (h'.mv (by omega)), sF_sF, run_step (by omega) q]
    · rw [if_neg q, run_stop (fun z => q z.2), sF_id e8]
theorem r_pass (h : RT t n i S) : fR_pass S = some (rV, sF S 3 (nI (run lt t n i))) := r_pass_0 (n - i) FU i S (by have := h.2.2.1; omega) (by have := h.2.2.2.1; rw [pz_FU]; omega) h
/-- the class's word -/
theorem c_takeWord_12 : ∀ k m i (S : St), i + k = n → k < m → CT t n i S → fC_Tape_takeWord_12 m S = some (rV, sF S 8 (nI (run lt t n i))) := by
  intro k
  induction k with
  | zero =>
    intro m i S hi hm h
    obtain ⟨m, rfl⟩ := pz_fu hm
    obtain ⟨e7, e8, h3, h4, h5⟩ := h
    rw [fC_Tape_takeWord_12, e7, e8, if_pos (nI_le (by omega) (by omega)), run_stop (fun q => by omega), sF_id e8]
  | succ k ih =>
    intro m i S hi hm h
    have h' := h
    obtain ⟨m, rfl⟩ := pz_fu hm
    obtain ⟨e7, e8, h3, h4, h5⟩ := h
    obtain ⟨e9, b9⟩ := h5 i (by omega)
    rw [fC_Tape_takeWord_12, e7, e8, if_neg (nI_ge (by omega) (by omega)), pz_gib (by omega) (by omega), pz_rA (by omega), e9, it_ltL (by omega) (by omega)]
    by_cases q1 : t i < 97
    · rw [if_pos q1, run_stop (fun z => by have := (lt_of.mp z.2).1; omega), sF_id e8]
    · rw [if_neg q1, pz_gib (by omega) (by omega), it_Llt (by omega) (by omega)]
      by_cases q2 : 122 < t i
      · rw [if_pos q2, run_stop (fun z => by have := (lt_of.mp z.2).2; omega), sF_id e8]
      · rw [if_neg q2, ev_nx, nI_1, ih m (i + 1) _ (by omega) (by omega) (h'.mv (by omega)), sF_sF, run_step (c := lt) (i := i) (by omega) (lt_of.mpr ⟨by omega, by omega⟩)]
theorem c_takeWord (h : CT t n i S) : fC_Tape_takeWord S = some (rV, sF (sF (sF S 8 (nI (nS t n i))) 9 (nI (nS t n i))) 8 (nI (wE t n i))) := by
  have h2 := h.mv (nS_le (t := t) h.2.2.1)
  have h3 : CT t n (nS t n i) (sF (sF S 8 (nI (nS t n i))) 9 (nI (nS t n i))) := h2.fr (fs := [9]) (as := []) (frm.rf.F (by simp)) (by simp) (by simp) (by simp)
  have e := c_takeWord_12 (n - nS t n i) FU (nS t n i) _ (by have := h2.2.2.1; omega) (by have := h2.2.2.2.1; rw [pz_FU]; omega) h3
  rw [fC_Tape_takeWord, c_skip h, ev_V, ev_nx]
  exact e
/-- the given words -/
def skb (si k : Nat) : Nat := (skB si (nI k)).toNatClampNeg
def WK (si : Nat) : Prop := skN si ≤ 10 ∧ 1 ≤ skN si ∧ ∀ k, k < skN si → skB si (nI k) = nI (skb si k) ∧ 97 ≤ skb si k ∧ skb si k ≤ 122
def wq (si : Nat) (t : Nat → Nat) (i e : Nat) : Bool := decide (e - i = skN si ∧ ∀ k, k < skN si → t (i + k) = skb si k)
theorem c_isWord_20 (hW : WK si) (h5 : ∀ j, j < 600 → S.2.1 14 j = nI (t j) ∧ t j < 256) (h9 : S.1 9 = nI i) (hi : i + skN si ≤ 600) : ∀ k m j, j + k = skN si → k < m → fC_Tape_isWord_20 si m (nI j) S = some (rI (if ∀ r, r < skN si → j ≤ r → t (i + r) = skb si r then 1 else 0), S) := by
  obtain ⟨w1, w2, w3⟩ := hW
  intro k
  induction k with
  | zero =>
    intro m j hj hm
    obtain ⟨m, rfl⟩ := pz_fu hm
    rw [fC_Tape_isWord_20, if_pos (nI_le (by omega) (by omega)), if_pos (fun r h2 h1 => by omega)]
  | succ k ih =>
    intro m j hj hm
    obtain ⟨m, rfl⟩ := pz_fu hm
    obtain ⟨k1, k2, k3⟩ := w3 j (by omega)
    obtain ⟨e9, b9⟩ := h5 (i + j) (by omega)
    rw [fC_Tape_isWord_20, if_neg (nI_ge (by omega) (by omega)), h9, nI_add, pz_gib (by omega) (by omega), pz_gib (by omega) (by omega), pz_rA (by omega), e9, k1, it_eq (by omega) (by omega), nI_1, ih m (j + 1) (by omega) (by omega)]
    by_cases q : t (i + j) = skb si j
    · rw [if_pos q]
      by_cases q2 : ∀ r, r < skN si → j + 1 ≤ r → t (i + r) = skb si r
      · rw [if_pos q2, if_pos (fun r h2 h1 => by
          by_cases e : r = j
          · rw [e]; exact q
          · exact q2 r h2 (by omega))]
      · rw [if_neg q2, if_neg (fun z => q2 (fun r h2 h1 => z r h2 (by omega)))]
    · rw [if_neg q, if_neg (fun z => q (z j (by omega) (Nat.le_refl _)))]
theorem c_isWord (hW : WK si) {e : Nat} (h5 : ∀ j, j < 600 → S.2.1 14 j = nI (t j) ∧ t j < 256) (h9 : S.1 9 = nI i) (h8 : S.1 8 = nI e) (hi : i ≤ e) (he : e ≤ 600) : fC_Tape_isWord si S = some (rI (if wq si t i e = true then 1 else 0), S) := by
  have w1 := hW.1
  rw [fC_Tape_isWord, h8, h9, pk_sub hi, it_eq (by omega) (by omega), wq]
  by_cases q : e - i = skN si
  · rw [if_pos q, show (0 : Int32) = nI 0 from rfl, c_isWord_20 hW h5 h9 (by omega) (skN si) FU 0 (by omega) (by rw [pz_FU]; omega)]
    by_cases q2 : ∀ r, r < skN si → t (i + r) = skb si r
    · rw [if_pos (fun r h _ => q2 r h), if_pos (decide_eq_true ⟨q, q2⟩)]
    · rw [if_neg (fun z => q2 (fun r h => z r h (Nat.zero_le _))), if_neg (fun z => q2 (of_decide_eq_true z).2)]
      rfl
  · rw [if_neg q, if_neg (fun z => q (of_decide_eq_true z).1)]
theorem r_of_4 (hW : WK si) (h6 : skN si ≤ 6) : ∀ k m j, j + k = skN si → k < m → fR_of_4 si m (nI (pk5 (skb si) 0 j)) (nI j) S = some (rI (nI (pk5 (skb si) 0 (skN si))), S) := by
  obtain ⟨w1, w2, w3⟩ := hW
  intro k
  induction k with
  | zero =>
    intro m j hj hm
    obtain ⟨m, rfl⟩ := pz_fu hm
    have e : j = skN si := by omega
    rw [fR_of_4, if_pos (nI_le (by omega) (by omega)), e]
  | succ k ih =>
    intro m j hj hm
    obtain ⟨m, rfl⟩ := pz_fu hm
    obtain ⟨k1, k2, k3⟩ := w3 j (by omega)
    have hb : pk5 (skb si) 0 j < 32 ^ j := pk5_lt (fun m hm => by rw [Nat.zero_add]; exact (w3 m (by omega)).2.2)
    have hb2 : 32 ^ j ≤ 32 ^ 5 := Nat.pow_le_pow_right (by omega) (by omega)
    rw [fR_of_4, if_neg (nI_ge (by omega) (by omega)), pz_gib (by omega) (by omega), k1, show (96 : Int32) = nI 96 from rfl, pk_sub (by omega), or_low (by omega) (by omega), ev_nx, nI_1]
    have h9 := ih m (j + 1) (by omega) (by omega)
    rw [pk5, Nat.zero_add] at h9
    exact h9
theorem r_of (hW : WK si) (h6 : skN si ≤ 6) : fR_of si S = some (rI (nI (pk5 (skb si) 0 (skN si))), S) := r_of_4 hW h6 (skN si) FU 0 (by omega) (by rw [pz_FU]; omega)
theorem w_eq (hW : WK si) (h6 : skN si ≤ 6) {e : Nat} (hl : ∀ j, i ≤ j → j < e → lt (t j) = true) : (wcd t i e = nI (pk5 (skb si) 0 (skN si))) = (wq si t i e = true) := propext (by
  obtain ⟨w1, w2, w3⟩ := hW
  have hb : pk5 (skb si) 0 (skN si) < 32 ^ skN si := pk5_lt (fun m hm => by rw [Nat.zero_add]; exact (w3 m (by omega)).2.2)
  have hb2 : 32 ^ skN si ≤ 32 ^ 6 := Nat.pow_le_pow_right (by omega) h6
  have hi : ∀ k, k ≤ 6 → e - i = k → (pk5 t i k = pk5 (skb si) 0 (skN si) ↔ k = skN si ∧ ∀ m, m < k → t (i + m) = skb si (0 + m)) := fun k hk6 hk => pk5_inj k (skN si) (fun m hm => lt_of.mp (hl (i + m) (by omega) (by omega))) (fun m hm => by rw [Nat.zero_add]; exact (w3 m hm).2)
  rw [wcd, wq, decide_eq_true_eq]
  by_cases q : e - i ≤ 6
  · have hb3 : pk5 t i (e - i) < 32 ^ (e - i) := pk5_lt (fun m hm => (lt_of.mp (hl (i + m) (by omega) (by omega))).2)
    have hb4 : 32 ^ (e - i) ≤ 32 ^ 6 := Nat.pow_le_pow_right (by omega) q
    rw [if_pos q, nI_eq (by omega) (by omega), hi (e - i) q rfl]
    constructor
    · rintro ⟨z1, z2⟩
      exact ⟨z1, fun k hk => by have := z2 k (by omega); rw [Nat.zero_add] at this; exact this⟩
    · rintro ⟨z1, z2⟩
      exact ⟨z1, fun k hk => by rw [Nat.zero_add]; exact z2 k (by omega)⟩
  · rw [if_neg q]
    constructor
    · intro z
      have z2 := (nI_eq (a := 0) (b := pk5 (skb si) 0 (skN si)) (by omega) (by omega)).mp z
      obtain ⟨r, hr⟩ : ∃ r, skN si = r + 1 := ⟨skN si - 1, by omega⟩
      have := w3 r (by omega)
      rw [hr, pk5, Nat.zero_add] at z2
      omega
    · rintro ⟨z1, -⟩
      omega)
/-- the same under other names -/
theorem isW_v15_20 (si : Nat) : ∀ m x (S : St), fC_Tape_isWord_v15_20 si m x S = fC_Tape_isWord_20 si m x S := by
  intro m
  induction m with
  | zero => intro x S; rfl
  | succ m ih => intro x S; rw [fC_Tape_isWord_v15_20, fC_Tape_isWord_20, ih]
theorem isW_v15 (si : Nat) (S : St) : fC_Tape_isWord_v15 si S = fC_Tape_isWord si S := by rw [fC_Tape_isWord_v15, fC_Tape_isWord, isW_v15_20]
theorem isW_v16_20 (si : Nat) : ∀ m x (S : St), fC_Tape_isWord_v16_20 si m x S = fC_Tape_isWord_20 si m x S := by
  intro m
  induction m with
  | zero => intro x S; rfl
  | succ m ih => intro x S; rw [fC_Tape_isWord_v16_20, fC_Tape_isWord_20, ih]
theorem isW_v16 (si : Nat) (S : St) : fC_Tape_isWord_v16 si S = fC_Tape_isWord si S := by rw [fC_Tape_isWord_v16, fC_Tape_isWord, isW_v16_20]
theorem isW_v17_20 (si : Nat) : ∀ m x (S : St), fC_Tape_isWord_v17_20 si m x S = fC_Tape_isWord_20 si m x S := by
  intro m
  induction m with
  | zero => intro x S; rfl
  | succ m ih => intro x S; rw [fC_Tape_isWord_v17_20, fC_Tape_isWord_20, ih]
theorem isW_v17 (si : Nat) (S : St) : fC_Tape_isWord_v17 si S = fC_Tape_isWord si S := by rw [fC_Tape_isWord_v17, fC_Tape_isWord, isW_v17_20]
theorem of_v212_4 (si : Nat) : ∀ m x y (S : St), fR_of_v212_4 si m x y S = fR_of_4 si m x y S := by
  intro m
  induction m with
  | zero => intro x y S; rfl
  | succ m ih => intro x y S; rw [fR_of_v212_4, fR_of_4]; simp only [ih]
theorem of_v212 (si : Nat) (S : St) : fR_of_v212 si S = fR_of si S := by rw [fR_of_v212, fR_of, of_v212_4]
theorem of_v213_4 (si : Nat) : ∀ m x y (S : St), fR_of_v213_4 si m x y S = fR_of_4 si m x y S := by
  intro m
  induction m with
  | zero => intro x y S; rfl
  | succ m ih => intro x y S; rw [fR_of_v213_4, fR_of_4]; simp only [ih]
theorem of_v213 (si : Nat) (S : St) : fR_of_v213 si S = fR_of si S := by rw [fR_of_v213, fR_of, of_v213_4]
theorem of_v214_4 (si : Nat) : ∀ m x y (S : St), fR_of_v214_4 si m x y S = fR_of_4 si m x y S := by
  intro m
  induction m with
  | zero => intro x y S; rfl
  | succ m ih => intro x y S; rw [fR_of_v214_4, fR_of_4]; simp only [ih]
theorem of_v214 (si : Nat) (S : St) : fR_of_v214 si S = fR_of si S := by rw [fR_of_v214, fR_of, of_v214_4]
theorem wk_all : ∀ si ∈ [1, 2, 3, 4, 5, 6, 7, 8, 9, 10, 11, 12, 13, 14, 15, 16, 17, 18, 19, 20, 22, 23, 24, 25, 26, 27, 28, 29, 30, 31, 32, 33, 34, 35, 36, 37, 38, 39], skN si ≤ 10 ∧ 1 ≤ skN si ∧ ∀ k, k < skN si → skB si (nI k) = nI (skb si k) ∧ 97 ≤ skb si k ∧ skb si k ≤ 122 := by decide +kernel
end PT5
