/-! what a law's reader sees (written by wip/whole/pure/p82.py) -/
section PVC
variable {S T U SC SR : St} {t : Nat → Nat} {n i j p q k s d b si : Nat} {W : List (Nat × Nat)}
theorem isW_v38_20 (si : Nat) : ∀ m x (S : St), fC_Tape_isWord_v38_20 si m x S = fC_Tape_isWord_20 si m x S := by
  intro m
  induction m with
  | zero => intro x S; rfl
  | succ m ih => intro x S; rw [fC_Tape_isWord_v38_20, fC_Tape_isWord_20, ih]
theorem isW_v38 (si : Nat) (S : St) : fC_Tape_isWord_v38 si S = fC_Tape_isWord si S := by rw [fC_Tape_isWord_v38, fC_Tape_isWord, isW_v38_20]
theorem isW_v39_20 (si : Nat) : ∀ m x (S : St), fC_Tape_isWord_v39_20 si m x S = fC_Tape_isWord_20 si m x S := by
  intro m
  induction m with
  | zero => intro x S; rfl
  | succ m ih => intro x S; rw [fC_Tape_isWord_v39_20, fC_Tape_isWord_20, ih]
theorem isW_v39 (si : Nat) (S : St) : fC_Tape_isWord_v39 si S = fC_Tape_isWord si S := by rw [fC_Tape_isWord_v39, fC_Tape_isWord, isW_v39_20]
theorem isW_v41_20 (si : Nat) : ∀ m x (S : St), fC_Tape_isWord_v41_20 si m x S = fC_Tape_isWord_20 si m x S := by
  intro m
  induction m with
  | zero => intro x S; rfl
  | succ m ih => intro x S; rw [fC_Tape_isWord_v41_20, fC_Tape_isWord_20, ih]
theorem isW_v41 (si : Nat) (S : St) : fC_Tape_isWord_v41 si S = fC_Tape_isWord si S := by rw [fC_Tape_isWord_v41, fC_Tape_isWord, isW_v41_20]
theorem isW_v42_20 (si : Nat) : ∀ m x (S : St), fC_Tape_isWord_v42_20 si m x S = fC_Tape_isWord_20 si m x S := by
  intro m
  induction m with
  | zero => intro x S; rfl
  | succ m ih => intro x S; rw [fC_Tape_isWord_v42_20, fC_Tape_isWord_20, ih]
theorem isW_v42 (si : Nat) (S : St) : fC_Tape_isWord_v42 si S = fC_Tape_isWord si S := by rw [fC_Tape_isWord_v42, fC_Tape_isWord, isW_v42_20]
theorem isW_v43_20 (si : Nat) : ∀ m x (S : St), fC_Tape_isWord_v43_20 si m x S = fC_Tape_isWord_20 si m x S := by
  intro m
  induction m with
  | zero => intro x S; rfl
  | succ m ih => intro x S; rw [fC_Tape_isWord_v43_20, fC_Tape_isWord_20, ih]
theorem isW_v43 (si : Nat) (S : St) : fC_Tape_isWord_v43 si S = fC_Tape_isWord si S := by rw [fC_Tape_isWord_v43, fC_Tape_isWord, isW_v43_20]
theorem isW_v44_20 (si : Nat) : ∀ m x (S : St), fC_Tape_isWord_v44_20 si m x S = fC_Tape_isWord_20 si m x S := by
  intro m
  induction m with
  | zero => intro x S; rfl
  | succ m ih => intro x S; rw [fC_Tape_isWord_v44_20, fC_Tape_isWord_20, ih]
theorem isW_v44 (si : Nat) (S : St) : fC_Tape_isWord_v44 si S = fC_Tape_isWord si S := by rw [fC_Tape_isWord_v44, fC_Tape_isWord, isW_v44_20]
theorem isW_v45_20 (si : Nat) : ∀ m x (S : St), fC_Tape_isWord_v45_20 si m x S = fC_Tape_isWord_20 si m x S := by
  intro m
  induction m with
  | zero => intro x S; rfl
  | succ m ih => intro x S; rw [fC_Tape_isWord_v45_20, fC_Tape_isWord_20, ih]
theorem isW_v45 (si : Nat) (S : St) : fC_Tape_isWord_v45 si S = fC_Tape_isWord si S := by rw [fC_Tape_isWord_v45, fC_Tape_isWord, isW_v45_20]
theorem isW_v46_20 (si : Nat) : ∀ m x (S : St), fC_Tape_isWord_v46_20 si m x S = fC_Tape_isWord_20 si m x S := by
  intro m
  induction m with
  | zero => intro x S; rfl
  | succ m ih => intro x S; rw [fC_Tape_isWord_v46_20, fC_Tape_isWord_20, ih]
theorem isW_v46 (si : Nat) (S : St) : fC_Tape_isWord_v46 si S = fC_Tape_isWord si S := by rw [fC_Tape_isWord_v46, fC_Tape_isWord, isW_v46_20]
theorem isW_v47_20 (si : Nat) : ∀ m x (S : St), fC_Tape_isWord_v47_20 si m x S = fC_Tape_isWord_20 si m x S := by
  intro m
  induction m with
  | zero => intro x S; rfl
  | succ m ih => intro x S; rw [fC_Tape_isWord_v47_20, fC_Tape_isWord_20, ih]
theorem isW_v47 (si : Nat) (S : St) : fC_Tape_isWord_v47 si S = fC_Tape_isWord si S := by rw [fC_Tape_isWord_v47, fC_Tape_isWord, isW_v47_20]
theorem isW_v48_20 (si : Nat) : ∀ m x (S : St), fC_Tape_isWord_v48_20 si m x S = fC_Tape_isWord_20 si m x S := by
  intro m
  induction m with
  | zero => intro x S; rfl
  | succ m ih => intro x S; rw [fC_Tape_isWord_v48_20, fC_Tape_isWord_20, ih]
theorem isW_v48 (si : Nat) (S : St) : fC_Tape_isWord_v48 si S = fC_Tape_isWord si S := by rw [fC_Tape_isWord_v48, fC_Tape_isWord, isW_v48_20]
theorem isW_v58_20 (si : Nat) : ∀ m x (S : St), fC_Tape_isWord_v58_20 si m x S = fC_Tape_isWord_20 si m x S := by
  intro m
  induction m with
  | zero => intro x S; rfl
  | succ m ih => intro x S; rw [fC_Tape_isWord_v58_20, fC_Tape_isWord_20, ih]
theorem isW_v58 (si : Nat) (S : St) : fC_Tape_isWord_v58 si S = fC_Tape_isWord si S := by rw [fC_Tape_isWord_v58, fC_Tape_isWord, isW_v58_20]
theorem isW_v59_20 (si : Nat) : ∀ m x (S : St), fC_Tape_isWord_v59_20 si m x S = fC_Tape_isWord_20 si m x S := by
  intro m
  induction m with
  | zero => intro x S; rfl
  | succ m ih => intro x S; rw [fC_Tape_isWord_v59_20, fC_Tape_isWord_20, ih]
theorem isW_v59 (si : Nat) (S : St) : fC_Tape_isWord_v59 si S = fC_Tape_isWord si S := by rw [fC_Tape_isWord_v59, fC_Tape_isWord, isW_v59_20]
theorem isW_v60_20 (si : Nat) : ∀ m x (S : St), fC_Tape_isWord_v60_20 si m x S = fC_Tape_isWord_20 si m x S := by
  intro m
  induction m with
  | zero => intro x S; rfl
  | succ m ih => intro x S; rw [fC_Tape_isWord_v60_20, fC_Tape_isWord_20, ih]
theorem isW_v60 (si : Nat) (S : St) : fC_Tape_isWord_v60 si S = fC_Tape_isWord si S := by rw [fC_Tape_isWord_v60, fC_Tape_isWord, isW_v60_20]
theorem isW_v61_20 (si : Nat) : ∀ m x (S : St), fC_Tape_isWord_v61_20 si m x S = fC_Tape_isWord_20 si m x S := by
  intro m
  induction m with
  | zero => intro x S; rfl
  | succ m ih => intro x S; rw [fC_Tape_isWord_v61_20, fC_Tape_isWord_20, ih]
theorem isW_v61 (si : Nat) (S : St) : fC_Tape_isWord_v61 si S = fC_Tape_isWord si S := by rw [fC_Tape_isWord_v61, fC_Tape_isWord, isW_v61_20]
theorem isW_v62_20 (si : Nat) : ∀ m x (S : St), fC_Tape_isWord_v62_20 si m x S = fC_Tape_isWord_20 si m x S := by
  intro m
  induction m with
  | zero => intro x S; rfl
  | succ m ih => intro x S; rw [fC_Tape_isWord_v62_20, fC_Tape_isWord_20, ih]
theorem isW_v62 (si : Nat) (S : St) : fC_Tape_isWord_v62 si S = fC_Tape_isWord si S := by rw [fC_Tape_isWord_v62, fC_Tape_isWord, isW_v62_20]
theorem isW_v63_20 (si : Nat) : ∀ m x (S : St), fC_Tape_isWord_v63_20 si m x S = fC_Tape_isWord_20 si m x S := by
  intro m
  induction m with
  | zero => intro x S; rfl
  | succ m ih => intro x S; rw [fC_Tape_isWord_v63_20, fC_Tape_isWord_20, ih]
theorem isW_v63 (si : Nat) (S : St) : fC_Tape_isWord_v63 si S = fC_Tape_isWord si S := by rw [fC_Tape_isWord_v63, fC_Tape_isWord, isW_v63_20]
theorem of_v231_4 (si : Nat) : ∀ m x y (S : St), fR_of_v231_4 si m x y S = fR_of_4 si m x y S := by
  intro m
  induction m with
  | zero => intro x y S; rfl
  | succ m ih => intro x y S; rw [fR_of_v231_4, fR_of_4]; simp only [ih]
theorem of_v231 (si : Nat) (S : St) : fR_of_v231 si S = fR_of si S := by rw [fR_of_v231, fR_of, of_v231_4]
theorem of_v232_4 (si : Nat) : ∀ m x y (S : St), fR_of_v232_4 si m x y S = fR_of_4 si m x y S := by
  intro m
  induction m with
  | zero => intro x y S; rfl
  | succ m ih => intro x y S; rw [fR_of_v232_4, fR_of_4]; simp only [ih]
theorem of_v232 (si : Nat) (S : St) : fR_of_v232 si S = fR_of si S := by rw [fR_of_v232, fR_of, of_v232_4]
theorem of_v235_4 (si : Nat) : ∀ m x y (S : St), fR_of_v235_4 si m x y S = fR_of_4 si m x y S := by
  intro m
  induction m with
  | zero => intro x y S; rfl
  | succ m ih => intro x y S; rw [fR_of_v235_4, fR_of_4]; simp only [ih]
theorem of_v235 (si : Nat) (S : St) : fR_of_v235 si S = fR_of si S := by rw [fR_of_v235, fR_of, of_v235_4]
theorem of_v236_4 (si : Nat) : ∀ m x y (S : St), fR_of_v236_4 si m x y S = fR_of_4 si m x y S := by
  intro m
  induction m with
  | zero => intro x y S; rfl
  | succ m ih => intro x y S; rw [fR_of_v236_4, fR_of_4]; simp only [ih]
theorem of_v236 (si : Nat) (S : St) : fR_of_v236 si S = fR_of si S := by rw [fR_of_v236, fR_of, of_v236_4]
theorem of_v237_4 (si : Nat) : ∀ m x y (S : St), fR_of_v237_4 si m x y S = fR_of_4 si m x y S := by
  intro m
  induction m with
  | zero => intro x y S; rfl
  | succ m ih => intro x y S; rw [fR_of_v237_4, fR_of_4]; simp only [ih]
theorem of_v237 (si : Nat) (S : St) : fR_of_v237 si S = fR_of si S := by rw [fR_of_v237, fR_of, of_v237_4]
theorem of_v238_4 (si : Nat) : ∀ m x y (S : St), fR_of_v238_4 si m x y S = fR_of_4 si m x y S := by
  intro m
  induction m with
  | zero => intro x y S; rfl
  | succ m ih => intro x y S; rw [fR_of_v238_4, fR_of_4]; simp only [ih]
theorem of_v238 (si : Nat) (S : St) : fR_of_v238 si S = fR_of si S := by rw [fR_of_v238, fR_of, of_v238_4]
theorem of_v239_4 (si : Nat) : ∀ m x y (S : St), fR_of_v239_4 si m x y S = fR_of_4 si m x y S := by
  intro m
  induction m with
  | zero => intro x y S; rfl
  | succ m ih => intro x y S; rw [fR_of_v239_4, fR_of_4]; simp only [ih]
theorem of_v239 (si : Nat) (S : St) : fR_of_v239 si S = fR_of si S := by rw [fR_of_v239, fR_of, of_v239_4]
theorem of_v240_4 (si : Nat) : ∀ m x y (S : St), fR_of_v240_4 si m x y S = fR_of_4 si m x y S := by
  intro m
  induction m with
  | zero => intro x y S; rfl
  | succ m ih => intro x y S; rw [fR_of_v240_4, fR_of_4]; simp only [ih]
theorem of_v240 (si : Nat) (S : St) : fR_of_v240 si S = fR_of si S := by rw [fR_of_v240, fR_of, of_v240_4]
theorem of_v249_4 (si : Nat) : ∀ m x y (S : St), fR_of_v249_4 si m x y S = fR_of_4 si m x y S := by
  intro m
  induction m with
  | zero => intro x y S; rfl
  | succ m ih => intro x y S; rw [fR_of_v249_4, fR_of_4]; simp only [ih]
theorem of_v249 (si : Nat) (S : St) : fR_of_v249 si S = fR_of si S := by rw [fR_of_v249, fR_of, of_v249_4]
theorem of_v250_4 (si : Nat) : ∀ m x y (S : St), fR_of_v250_4 si m x y S = fR_of_4 si m x y S := by
  intro m
  induction m with
  | zero => intro x y S; rfl
  | succ m ih => intro x y S; rw [fR_of_v250_4, fR_of_4]; simp only [ih]
theorem of_v250 (si : Nat) (S : St) : fR_of_v250 si S = fR_of si S := by rw [fR_of_v250, fR_of, of_v250_4]
theorem of_v251_4 (si : Nat) : ∀ m x y (S : St), fR_of_v251_4 si m x y S = fR_of_4 si m x y S := by
  intro m
  induction m with
  | zero => intro x y S; rfl
  | succ m ih => intro x y S; rw [fR_of_v251_4, fR_of_4]; simp only [ih]
theorem of_v251 (si : Nat) (S : St) : fR_of_v251 si S = fR_of si S := by rw [fR_of_v251, fR_of, of_v251_4]
theorem of_v252_4 (si : Nat) : ∀ m x y (S : St), fR_of_v252_4 si m x y S = fR_of_4 si m x y S := by
  intro m
  induction m with
  | zero => intro x y S; rfl
  | succ m ih => intro x y S; rw [fR_of_v252_4, fR_of_4]; simp only [ih]
theorem of_v252 (si : Nat) (S : St) : fR_of_v252 si S = fR_of si S := by rw [fR_of_v252, fR_of, of_v252_4]
theorem of_v253_4 (si : Nat) : ∀ m x y (S : St), fR_of_v253_4 si m x y S = fR_of_4 si m x y S := by
  intro m
  induction m with
  | zero => intro x y S; rfl
  | succ m ih => intro x y S; rw [fR_of_v253_4, fR_of_4]; simp only [ih]
theorem of_v253 (si : Nat) (S : St) : fR_of_v253 si S = fR_of si S := by rw [fR_of_v253, fR_of, of_v253_4]
theorem c_sees (h : CT t n i S) (hb : b < 256) : fC_Tape_sees (nI b) S = some (rI (if run bl t n i < n ∧ t (run bl t n i) = b then 1 else 0), sF S 8 (nI (run bl t n i))) := by
  have h2 := h.mv (run_le (c := bl) (t := t) h.2.2.1)
  obtain ⟨e7, e8, h3, h4, h5⟩ := h2
  rw [fC_Tape_sees, c_skip h, ev_V, e7, e8, it_le (by omega) (by omega)]
  by_cases q : n ≤ run bl t n i
  · rw [if_pos q, if_neg (by omega)]
  · have b9 := (h5 (run bl t n i) (by omega)).2
    rw [if_neg q, pz_gib (by omega) (by omega), pz_rA (by omega), (h5 _ (by omega)).1, it_eq (by omega) (by omega)]
    by_cases q2 : t (run bl t n i) = b
    · rw [if_pos q2, if_pos ⟨by omega, q2⟩]
    · rw [if_neg q2, if_neg (fun z => q2 z.2)]
theorem c_takes (h : CT t n i S) (hb : b < 256) : fC_Tape_takes (nI b) S = if run bl t n i < n ∧ t (run bl t n i) = b then some (rI 1, sF S 8 (nI (run bl t n i + 1))) else some (rI 0, sF S 8 (nI (run bl t n i))) := by
  have h2 := h.mv (run_le (c := bl) (t := t) h.2.2.1)
  obtain ⟨e7, e8, h3, h4, h5⟩ := h2
  rw [fC_Tape_takes, c_skip h, ev_V, e7, e8, it_le (by omega) (by omega)]
  by_cases q : n ≤ run bl t n i
  · rw [if_pos q, if_neg (by omega)]
  · have b9 := (h5 (run bl t n i) (by omega)).2
    rw [if_neg q, pz_gib (by omega) (by omega), pz_rA (by omega), (h5 _ (by omega)).1, it_eq (by omega) (by omega)]
    by_cases q2 : t (run bl t n i) = b
    · rw [if_pos q2, if_pos ⟨by omega, q2⟩, nI_1, ev_nx, sF_sF]
    · rw [if_neg q2, if_neg (fun z => q2 z.2)]
theorem c_seesDigit (h : CT t n i S) : fC_Tape_seesDigit S = some (rI (if run bl t n i < n ∧ dg (t (run bl t n i)) = true then 1 else 0), sF S 8 (nI (run bl t n i))) := by
  have h2 := h.mv (run_le (c := bl) (t := t) h.2.2.1)
  obtain ⟨e7, e8, h3, h4, h5⟩ := h2
  rw [fC_Tape_seesDigit, c_skip h, ev_V, e7, e8, it_le (by omega) (by omega)]
  by_cases q : n ≤ run bl t n i
  · rw [if_pos q, if_neg (by omega)]
  · have b9 := (h5 (run bl t n i) (by omega)).2
    rw [if_neg q, pz_gib (by omega) (by omega), pz_rA (by omega), (h5 _ (by omega)).1, it_ltL (by omega) (by omega)]
    by_cases q1 : t (run bl t n i) < 48
    · rw [if_pos q1, if_neg (fun z => by have := (dg_of.mp z.2).1; omega)]
    · rw [if_neg q1, pz_gib (by omega) (by omega), it_Llt (by omega) (by omega)]
      by_cases q2 : 57 < t (run bl t n i)
      · rw [if_pos q2, if_neg (fun z => by have := (dg_of.mp z.2).2; omega)]
      · rw [if_neg q2, if_pos ⟨by omega, dg_of.mpr ⟨by omega, by omega⟩⟩]
theorem c_place (h : CT t n i S) : fC_Tape_place S = some (rI (nI (run bl t n i)), sF S 8 (nI (run bl t n i))) := by rw [fC_Tape_place, c_skip h, ev_V]; rfl
theorem r_digit (h : RT t n i U) : fR_isDigit (cur t n i) S = some (rI (if i < n ∧ dg (t i) = true then 1 else 0), S) := by
  obtain ⟨e7, e8, h3, h4, h5⟩ := h
  unfold cur
  by_cases q : i < n
  · have b9 := (h5 i (by omega)).2
    rw [if_pos q, fR_isDigit, it_ltL (by omega) (by omega)]
    by_cases q1 : t i < 48
    · rw [if_pos q1, if_neg (fun z => by have := (dg_of.mp z.2).1; omega)]
    · rw [if_neg q1, it_Llt (by omega) (by omega)]
      by_cases q2 : 57 < t i
      · rw [if_pos q2, if_neg (fun z => by have := (dg_of.mp z.2).2; omega)]
      · rw [if_neg q2, if_pos ⟨q, dg_of.mpr ⟨by omega, by omega⟩⟩]
  · rw [if_neg q, fR_isDigit, if_pos (by decide), if_neg (fun z => q z.1)]
theorem cur_eq (h : RT t n i U) (hb : 0 < b) (hb2 : b < 256) : (cur t n i = nI b) = (i < n ∧ t i = b) := propext (by
  obtain ⟨e7, e8, h3, h4, h5⟩ := h
  unfold cur
  by_cases q : i < n
  · have b9 := (h5 i (by omega)).2
    rw [if_pos q, nI_eq (by omega) (by omega)]
    exact ⟨fun z => ⟨q, z⟩, fun z => z.2⟩
  · rw [if_neg q]
    exact ⟨fun z => absurd z.symm (nI_ne0 hb (by omega)), fun z => absurd z.1 q⟩)
/-- a word that stands here -/
theorem run_eq : ∀ (len s : Nat), (∀ r, r < len → s + r < n ∧ lt (t (s + r)) = true) → ¬ (s + len < n ∧ lt (t (s + len)) = true) → run lt t n s = s + len := by
  intro len
  induction len with
  | zero => intro s h1 h2; exact run_stop h2
  | succ len ih =>
    intro s h1 h2
    have h0 := h1 0 (by omega)
    rw [Nat.add_zero] at h0
    rw [run_step h0.1 h0.2, ih (s + 1) (fun r hr => by rw [show s + 1 + r = s + (r + 1) by omega]; exact h1 (r + 1) (by omega)) (by rw [show s + 1 + len = s + (len + 1) by omega]; exact h2)]
    omega
theorem r_stands_7 (hW : WK si) (h : RT t n s S) : ∀ k m j, j + k = skN si → k < m → fR_standsHere_7 si m (nI j) S = some (rI (if (∀ r, r < skN si → j ≤ r → s + r < n ∧ t (s + r) = skb si r) ∧ ¬ (s + skN si < n ∧ lt (t (s + skN si)) = true) then 1 else 0), S) := by
  obtain ⟨w1, w2, w3⟩ := hW
  obtain ⟨e7, e8, h3, h4, h5⟩ := h
  intro k
  induction k with
  | zero =>
    intro m j hj hm
    obtain ⟨m, rfl⟩ := pz_fu hm
    have e : j = skN si := by omega
    subst e
    rw [fR_standsHere_7, if_pos (nI_le (by omega) (by omega)), e7, e8, nI_add, it_le (by omega) (by omega)]
    by_cases q : n ≤ s + skN si
    · rw [if_pos q, if_pos ⟨fun r h1 h2 => by omega, fun z => by omega⟩]
    · obtain ⟨e9, b9⟩ := h5 (s + skN si) (by omega)
      rw [if_neg q, pz_gib (by omega) (by omega), pz_rA (by omega), e9, r_small b9, ev_I, it_p0]
      by_cases q2 : lt (t (s + skN si)) = true
      · rw [if_pos q2, if_neg (fun z => z.2 ⟨by omega, q2⟩)]
      · rw [if_neg q2, if_pos ⟨fun r h1 h2 => by omega, fun z => q2 z.2⟩]
  | succ k ih =>
    intro m j hj hm
    obtain ⟨m, rfl⟩ := pz_fu hm
    obtain ⟨k1, k2, k3⟩ := w3 j (by omega)
    rw [fR_standsHere_7, if_neg (nI_ge (by omega) (by omega)), e7, e8, nI_add, it_le (by omega) (by omega)]
    by_cases q : n ≤ s + j
    · rw [if_pos q, if_neg (fun z => by have := (z.1 j (by omega) (Nat.le_refl _)).1; omega)]
    · obtain ⟨e9, b9⟩ := h5 (s + j) (by omega)
      rw [if_neg q, pz_gib (by omega) (by omega), pz_gib (by omega) (by omega), pz_rA (by omega), e9, k1, it_eq (by omega) (by omega), nI_1, ih m (j + 1) (by omega) (by omega)]
      by_cases q3 : t (s + j) = skb si j
      · rw [if_pos q3]
        by_cases q2 : (∀ r, r < skN si → j + 1 ≤ r → s + r < n ∧ t (s + r) = skb si r) ∧ ¬ (s + skN si < n ∧ lt (t (s + skN si)) = true)
        · rw [if_pos q2, if_pos ⟨fun r h2 h1 => by
            by_cases e : r = j
            · rw [e]; exact ⟨by omega, q3⟩
            · exact q2.1 r h2 (by omega), q2.2⟩]
        · rw [if_neg q2, if_neg (fun z => q2 ⟨fun r h2 h1 => z.1 r h2 (by omega), z.2⟩)]
      · rw [if_neg q3, if_neg (fun z => q3 (z.1 j (by omega) (Nat.le_refl _)).2)]
theorem r_stands (hW : WK si) (h : RT t n s S) (hs : run bl t n s = s) : fR_standsHere si S = some (rI (if wq si t s (run lt t n s) = true then 1 else 0), S) := by
  have hW' := hW
  obtain ⟨w1, w2, w3⟩ := hW
  have e := r_stands_7 hW' h (skN si) FU 0 (by omega) (by rw [pz_FU]; omega)
  have hge := run_ge (c := lt) (t := t) h.2.2.1
  have hle := run_le (c := lt) (t := t) h.2.2.1
  have key : ((∀ r, r < skN si → 0 ≤ r → s + r < n ∧ t (s + r) = skb si r) ∧ ¬ (s + skN si < n ∧ lt (t (s + skN si)) = true)) ↔ wq si t s (run lt t n s) = true := by
    rw [wq, decide_eq_true_eq]
    constructor
    · rintro ⟨z1, z2⟩
      have z3 := run_eq (skN si) s (fun r hr => ⟨(z1 r hr (Nat.zero_le _)).1, by rw [(z1 r hr (Nat.zero_le _)).2]; exact lt_of.mpr ⟨(w3 r hr).2.1, (w3 r hr).2.2⟩⟩) z2
      exact ⟨by omega, fun r hr => (z1 r hr (Nat.zero_le _)).2⟩
    · rintro ⟨z1, z2⟩
      have z3 : run lt t n s = s + skN si := by omega
      refine ⟨fun r hr _ => ⟨by omega, z2 r hr⟩, fun z => ?_⟩
      have z4 := (run_all (c := lt) (t := t) (n := n) (n - s) s (by have := h.2.2.1; omega)).2.2.2 (by rw [z3]; exact z.1)
      rw [z3, z.2] at z4
      exact absurd z4 (by decide)
  rw [fR_standsHere, r_here h, ev_I, hs, sF_id h.2.1, show fR_standsHere_7 si FU 0 S = _ from e]
  by_cases q : wq si t s (run lt t n s) = true
  · rw [if_pos q, if_pos (key.mpr q)]
  · rw [if_neg q, if_neg (fun z => q (key.mp z))]
/-- which fact -/
def fxI (t : Nat → Nat) (s e : Nat) : Int32 := if wq 7 t s e = true then 0 else if wq 8 t s e = true then 1 else if wq 9 t s e = true then 2 else if wq 10 t s e = true then 3 else if wq 11 t s e = true then 4 else if wq 12 t s e = true then 5 else if wq 13 t s e = true then 6 else if wq 14 t s e = true then 7 else -1
theorem fx_cases (t : Nat → Nat) (s e : Nat) : fxI t s e = -1 ∨ ∃ k, k < 8 ∧ fxI t s e = nI k := by
  unfold fxI
  by_cases h : wq 7 t s e = true
  · rw [if_pos h]; exact Or.inr ⟨0, by omega, rfl⟩
  · rw [if_neg h]
    by_cases h : wq 8 t s e = true
    · rw [if_pos h]; exact Or.inr ⟨1, by omega, rfl⟩
    · rw [if_neg h]
      by_cases h : wq 9 t s e = true
      · rw [if_pos h]; exact Or.inr ⟨2, by omega, rfl⟩
      · rw [if_neg h]
        by_cases h : wq 10 t s e = true
        · rw [if_pos h]; exact Or.inr ⟨3, by omega, rfl⟩
        · rw [if_neg h]
          by_cases h : wq 11 t s e = true
          · rw [if_pos h]; exact Or.inr ⟨4, by omega, rfl⟩
          · rw [if_neg h]
            by_cases h : wq 12 t s e = true
            · rw [if_pos h]; exact Or.inr ⟨5, by omega, rfl⟩
            · rw [if_neg h]
              by_cases h : wq 13 t s e = true
              · rw [if_pos h]; exact Or.inr ⟨6, by omega, rfl⟩
              · rw [if_neg h]
                by_cases h : wq 14 t s e = true
                · rw [if_pos h]; exact Or.inr ⟨7, by omega, rfl⟩
                · rw [if_neg h]; exact Or.inl rfl
theorem c_factNamed {e : Nat} (h5 : ∀ j, j < 600 → S.2.1 14 j = nI (t j) ∧ t j < 256) (h9 : S.1 9 = nI s) (h8 : S.1 8 = nI e) (hi : s ≤ e) (he : e ≤ 600) : fC_Law_factNamed S = some (rI (fxI t s e), S) := by
  have iw : ∀ si, WK si → fC_Tape_isWord si S = some (rI (if wq si t s e = true then 1 else 0), S) := fun si hW => c_isWord hW h5 h9 h8 hi he
  rw [fC_Law_factNamed, isW_v41, iw 7 (wk_all 7 (by decide)), ev_I, it_p0]
  unfold fxI
  by_cases h : wq 7 t s e = true
  · rw [if_pos h, if_pos h]
  · rw [if_neg h, if_neg h, isW_v42, iw 8 (wk_all 8 (by decide)), ev_I, it_p0]
    by_cases h : wq 8 t s e = true
    · rw [if_pos h, if_pos h]
    · rw [if_neg h, if_neg h, isW_v43, iw 9 (wk_all 9 (by decide)), ev_I, it_p0]
      by_cases h : wq 9 t s e = true
      · rw [if_pos h, if_pos h]
      · rw [if_neg h, if_neg h, isW_v44, iw 10 (wk_all 10 (by decide)), ev_I, it_p0]
        by_cases h : wq 10 t s e = true
        · rw [if_pos h, if_pos h]
        · rw [if_neg h, if_neg h, isW_v45, iw 11 (wk_all 11 (by decide)), ev_I, it_p0]
          by_cases h : wq 11 t s e = true
          · rw [if_pos h, if_pos h]
          · rw [if_neg h, if_neg h, isW_v46, iw 12 (wk_all 12 (by decide)), ev_I, it_p0]
            by_cases h : wq 12 t s e = true
            · rw [if_pos h, if_pos h]
            · rw [if_neg h, if_neg h, isW_v47, iw 13 (wk_all 13 (by decide)), ev_I, it_p0]
              by_cases h : wq 13 t s e = true
              · rw [if_pos h, if_pos h]
              · rw [if_neg h, if_neg h, isW_v48, iw 14 (wk_all 14 (by decide)), ev_I, it_p0]
                by_cases h : wq 14 t s e = true
                · rw [if_pos h, if_pos h]
                · rw [if_neg h, if_neg h]
theorem wq_len {a b e : Nat} (h : wq a t s e = true) (hn : skN a ≠ skN b) : ¬ wq b t s e = true := fun z => hn ((of_decide_eq_true h).1.symm.trans (of_decide_eq_true z).1)
theorem r_factHere (h : RT t n s S) (hs : run bl t n s = s) : fR_factHere S = some (rI (fxI t s (run lt t n s)), S) := by
  have hsn := h.2.2.1
  have hns : nS t n s = s := hs
  have hl : ∀ j, s ≤ j → j < run lt t n s → lt (t j) = true := fun j h1 h2 => run_in hsn j h1 h2
  have rw1 := r_word h
  unfold wE at rw1
  rw [hns, sF_id h.2.1] at rw1
  have wx : ∀ si, WK si → skN si ≤ 6 → (wcd t s (run lt t n s) = nI (pk5 (skb si) 0 (skN si))) = (wq si t s (run lt t n s) = true) := fun si hW h6 => w_eq hW h6 hl
  have i0 := r_stands (wk_all 28 (by decide)) h hs
  rw [wq_same (a := 28) (b := 12) (by decide)] at i0
  have st : ∀ {si sj : Nat} {X Y : Oz}, WK si → skN si ≤ 6 → wq si = wq sj → (if wcd t s (run lt t n s) = nI (pk5 (skb si) 0 (skN si)) then X else Y) = if wq sj t s (run lt t n s) = true then X else Y := fun {si sj X Y} hW h6 hq => by
    simp only [wx si hW h6, hq]
  rw [fR_factHere, i0, ev_I, it_p0]
  by_cases h12 : wq 12 t s (run lt t n s) = true
  · rw [if_pos h12]
    unfold fxI
    rw [if_neg (wq_len h12 (by decide)), if_neg (wq_len h12 (by decide)), if_neg (wq_len h12 (by decide)), if_neg (wq_len h12 (by decide)), if_neg (wq_len h12 (by decide)), if_pos h12]
  · rw [if_neg h12, rw1, ev_I, of_v235, r_of (wk_all 29 (by decide)) (by decide), ev_I, st (sj := 7) (wk_all 29 (by decide)) (by decide) (wq_same (by decide))]
    unfold fxI
    by_cases h : wq 7 t s (run lt t n s) = true
    · rw [if_pos h, if_pos h]
    · rw [if_neg h, if_neg h, of_v236, r_of (wk_all 30 (by decide)) (by decide), ev_I, st (sj := 8) (wk_all 30 (by decide)) (by decide) (wq_same (by decide))]
      by_cases h : wq 8 t s (run lt t n s) = true
      · rw [if_pos h, if_pos h]
      · rw [if_neg h, if_neg h, of_v237, r_of (wk_all 31 (by decide)) (by decide), ev_I, st (sj := 9) (wk_all 31 (by decide)) (by decide) (wq_same (by decide))]
        by_cases h : wq 9 t s (run lt t n s) = true
        · rw [if_pos h, if_pos h]
        · rw [if_neg h, if_neg h, of_v238, r_of (wk_all 32 (by decide)) (by decide), ev_I, st (sj := 10) (wk_all 32 (by decide)) (by decide) (wq_same (by decide))]
          by_cases h : wq 10 t s (run lt t n s) = true
          · rw [if_pos h, if_pos h]
          · rw [if_neg h, if_neg h, of_v239, r_of (wk_all 33 (by decide)) (by decide), ev_I, st (sj := 11) (wk_all 33 (by decide)) (by decide) (wq_same (by decide))]
            by_cases h : wq 11 t s (run lt t n s) = true
            · rw [if_pos h, if_pos h]
            · rw [if_neg h, if_neg h, if_neg h12, of_v240, r_of (wk_all 34 (by decide)) (by decide), ev_I, st (sj := 13) (wk_all 34 (by decide)) (by decide) (wq_same (by decide))]
              by_cases h : wq 13 t s (run lt t n s) = true
              · rw [if_pos h, if_pos h]
              · rw [if_neg h, if_neg h, of_v212, r_of (wk_all 23 (by decide)) (by decide), ev_I, st (sj := 14) (wk_all 23 (by decide)) (by decide) (wq_same (by decide))]
                by_cases h : wq 14 t s (run lt t n s) = true
                · rw [if_pos h, if_pos h]
                · rw [if_neg h, if_neg h]
end PVC
