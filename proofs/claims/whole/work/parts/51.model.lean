/-! the pure level: a valley and a row of its men, apart from how they are held; how the class and the reference hold them -/
section PM
abbrev Vy : Type := Nat → Nat → Nat
def y_P (V : Vy) : Nat := V 0 0
def y_M (V : Vy) : Nat := V 0 1
def y_D (V : Vy) : Nat := V 0 2
def y_F (V : Vy) : Nat := V 0 3
def y_l (V : Vy) (p : Nat) : Nat := V 1 p
def y_h (V : Vy) (p : Nat) : Nat := V 2 p
def y_m (V : Vy) (a : Nat) : Nat := V 3 a
def y_a (V : Vy) (a : Nat) : Nat := V 4 a
def y_dm (V : Vy) (d : Nat) : Nat := V 5 d
def y_dp (V : Vy) (d : Nat) : Nat := V 6 d
def y_dk (V : Vy) (d : Nat) : Nat := V 7 d
def y_dd (V : Vy) (d : Nat) : Nat := V 8 d
def VOK (V : Vy) : Prop := y_P V ≤ 8 ∧ y_M V ≤ 6 ∧ y_D V ≤ 10 ∧ y_F V ≤ 9 ∧ (∀ p, p < y_P V → 1 ≤ y_l V p ∧ y_l V p ≤ 40 ∧ y_h V p ≤ 9) ∧ (∀ a, a < y_M V → 1 ≤ y_m V a ∧ y_m V a ≤ 99 ∧ 10 ≤ y_a V a ∧ y_a V a ≤ 70) ∧ (∀ d, d < y_D V → y_dm V d < y_M V ∧ y_dp V d < y_P V ∧ y_dk V d ≤ 3 ∧ y_dd V d ≤ 40)
/-- lines known, counts (0 lessons, 1 of this week, 2 slips, 3 fresh bits), paid, the week -/
abbrev Rw : Type := (Nat → Nat → Nat) × (Nat → Nat → Int32) × (Nat → Bool) × Nat
def w_K (w : Rw) (a p : Nat) : Nat := w.1 a p
def w_c (w : Rw) (i a : Nat) : Int32 := w.2.1 i a
def w_p (w : Rw) (d : Nat) : Bool := w.2.2.1 d
def w_t (w : Rw) : Nat := w.2.2.2
def ROK (V : Vy) (w : Rw) : Prop := (∀ a, a < y_M V → ∀ p, p < y_P V → w_K w a p ≤ y_l V p) ∧ w_t w ≤ 1000
def w_old (V : Vy) (w : Rw) (a : Nat) : Bool := if 60 ≤ y_a V a then false else if y_a V a + w_t w / 10 < 60 then false else true
def w_age (V : Vy) (w : Rw) (a : Nat) : Nat := y_a V a + w_t w / 10
def w_mem (V : Vy) (w : Rw) (a : Nat) : Nat := if w_old V w a then y_m V a / 2 else y_m V a
def w_sum (V : Vy) (w : Rw) (a : Nat) : Nat := smN (w_K w a) (y_P V)
def w_room (V : Vy) (w : Rw) (a : Nat) : Nat := w_mem V w a - w_sum V w a
def fct (x0 x1 x2 x3 x4 x5 x6 x7 : Int32) : Nat → Int32 := fun i => [x0, x1, x2, x3, x4, x5, x6, x7].getD i 0
/-- a law: how many lines, by its eight facts -/
abbrev Lw : Type := (Nat → Int32) → Nat
def w_learn (V : Vy) (L : Lw) (w : Rw) (a p : Nat) : Nat := L (fct (nI (y_l V p)) (nI (y_h V p)) (nI (w_K w a p)) (nI (w_room V w a)) (nI (w_age V w a)) (w_c w 0 a) (nI (w_t w)) (nI a))
def w_gain (V : Vy) (L : Lw) (w : Rw) (a p : Nat) : Nat := min (min (w_learn V L w a p) (w_room V w a)) (y_l V p - w_K w a p)
/-- the class's valley, its law, a row of its cells, for the men of A -/
def CV (V : Vy) (S : St) : Prop := S.1 10 = nI (y_P V) ∧ S.1 11 = nI (y_M V) ∧ S.1 12 = nI (y_D V) ∧ S.1 13 = nI (y_F V) ∧ (∀ p, p < y_P V → S.2.1 15 p = nI (y_l V p) ∧ S.2.1 16 p = nI (y_h V p)) ∧ (∀ a, a < y_M V → S.2.1 17 a = nI (y_m V a) ∧ S.2.1 18 a = nI (y_a V a)) ∧ (∀ d, d < y_D V → S.2.1 19 d = nI (y_dm V d) ∧ S.2.1 20 d = nI (y_dp V d) ∧ S.2.1 21 d = nI (y_dk V d) ∧ S.2.1 22 d = nI (y_dd V d)) ∧ VOK V
def CLw (L : Lw) (S : St) : Prop := (∀ S1 : St, S1.1 18 = S.1 18 → S1.2.1 31 = S.2.1 31 → ∀ f : Nat → Int32, (∀ i, i < 8 → S1.2.1 32 i = f i) → ∃ S2, fC_Law_outcome_4 S1 = some (rI (nI (L f)), S2) ∧ frm [] [33] S1 S2) ∧ ∀ f, L f ≤ 20
def RC (V : Vy) (A : Nat → Prop) (w : Rw) (f : Nat → Int32) : Prop := (∀ a, A a → a < y_M V → ∀ p, p < y_P V → f (0 + a * 8 + p) = nI (w_K w a p)) ∧ (∀ a, A a → a < y_M V → f (48 + a) = w_c w 0 a ∧ f (54 + a) = w_c w 1 a ∧ f (60 + a) = w_c w 2 a ∧ f (66 + a) = w_c w 3 a) ∧ f 72 = orB (w_p w) (y_D V) ∧ f 73 = nI (w_t w) ∧ ROK V w
/-- the reference's -/
def RV (V : Vy) (S : St) : Prop := S.1 12 = nI (y_P V) ∧ S.1 13 = nI (y_M V) ∧ S.1 14 = nI (y_D V) ∧ S.1 15 = nI (y_F V) ∧ (∀ p, p < y_P V → S.2.1 6 (2 * p) = nI (y_l V p) ∧ S.2.1 6 (2 * p + 1) = nI (y_h V p)) ∧ (∀ a, a < y_M V → S.2.1 7 (2 * a) = nI (y_m V a) ∧ S.2.1 7 (2 * a + 1) = nI (y_a V a)) ∧ (∀ d, d < y_D V → S.2.1 8 (4 * d) = nI (y_dm V d) ∧ S.2.1 8 (4 * d + 1) = nI (y_dp V d) ∧ S.2.1 8 (4 * d + 2) = nI (y_dk V d) ∧ S.2.1 8 (4 * d + 3) = nI (y_dd V d)) ∧ VOK V
def RLw (L : Lw) (S : St) : Prop := (∀ S1 : St, S1.1 17 = S.1 17 → S1.2.1 11 = S.2.1 11 → S1.2.1 12 = S.2.1 12 → ∀ f : Nat → Int32, (∀ i, i < 8 → S1.2.1 14 i = f i) → ∃ S2, fR_learnsNow S1 = some (rI (nI (L f)), S2) ∧ frm [] [13] S1 S2) ∧ ∀ f, L f ≤ 20
def RRg (V : Vy) (A : Nat → Prop) (w : Rw) (ag : Nat → Nat) (od : Nat → Bool) (f : Nat → Int32) : Prop := (∀ a, A a → a < y_M V → ∀ p, p < y_P V → f (0 + 8 * a + p) = nI (w_K w a p)) ∧ (∀ a, A a → a < y_M V → f (48 + a) = nI (ag a) ∧ f (54 + a) = (if od a then 1 else 0) ∧ f (60 + a) = w_c w 0 a ∧ f (66 + a) = w_c w 1 a ∧ f (72 + a) = w_c w 2 a ∧ f (78 + a) = w_c w 3 a) ∧ (∀ d, d < y_D V → f (84 + d) = if w_p w d then 1 else 0) ∧ f 94 = nI (w_t w) ∧ ROK V w
def RR (V : Vy) (A : Nat → Prop) (w : Rw) (f : Nat → Int32) : Prop := RRg V A w (w_age V w) (w_old V w) f
theorem VOK.l {V : Vy} (h : VOK V) {p : Nat} (hp : p < y_P V) : 1 ≤ y_l V p ∧ y_l V p ≤ 40 ∧ y_h V p ≤ 9 := h.2.2.2.2.1 p hp
theorem VOK.m {V : Vy} (h : VOK V) {a : Nat} (ha : a < y_M V) : 1 ≤ y_m V a ∧ y_m V a ≤ 99 ∧ 10 ≤ y_a V a ∧ y_a V a ≤ 70 := h.2.2.2.2.2.1 a ha
theorem VOK.d {V : Vy} (h : VOK V) {d : Nat} (hd : d < y_D V) : y_dm V d < y_M V ∧ y_dp V d < y_P V ∧ y_dk V d ≤ 3 ∧ y_dd V d ≤ 40 := h.2.2.2.2.2.2 d hd
theorem CV.ok {V : Vy} {S : St} (h : CV V S) : VOK V := h.2.2.2.2.2.2.2
theorem RV.ok {V : Vy} {S : St} (h : RV V S) : VOK V := h.2.2.2.2.2.2.2
theorem CV.fr {V : Vy} {S T : St} {fs as : List Nat} (h : CV V S) (g : frm fs as S T) (h1 : 10 ∉ fs ∧ 11 ∉ fs ∧ 12 ∉ fs ∧ 13 ∉ fs) (h2 : 15 ∉ as ∧ 16 ∉ as ∧ 17 ∉ as ∧ 18 ∉ as ∧ 19 ∉ as ∧ 20 ∉ as ∧ 21 ∉ as ∧ 22 ∉ as) : CV V T := by
  unfold CV
  rw [g.1 10 h1.1, g.1 11 h1.2.1, g.1 12 h1.2.2.1, g.1 13 h1.2.2.2, g.2.1 15 h2.1, g.2.1 16 h2.2.1, g.2.1 17 h2.2.2.1, g.2.1 18 h2.2.2.2.1, g.2.1 19 h2.2.2.2.2.1, g.2.1 20 h2.2.2.2.2.2.1, g.2.1 21 h2.2.2.2.2.2.2.1, g.2.1 22 h2.2.2.2.2.2.2.2]
  exact h
theorem RV.fr {V : Vy} {S T : St} {fs as : List Nat} (h : RV V S) (g : frm fs as S T) (h1 : 12 ∉ fs ∧ 13 ∉ fs ∧ 14 ∉ fs ∧ 15 ∉ fs) (h2 : 6 ∉ as ∧ 7 ∉ as ∧ 8 ∉ as) : RV V T := by
  unfold RV
  rw [g.1 12 h1.1, g.1 13 h1.2.1, g.1 14 h1.2.2.1, g.1 15 h1.2.2.2, g.2.1 6 h2.1, g.2.1 7 h2.2.1, g.2.1 8 h2.2.2]
  exact h
theorem CLw.fr {L : Lw} {S T : St} {fs as : List Nat} (h : CLw L S) (g : frm fs as S T) (h1 : 18 ∉ fs) (h2 : 31 ∉ as) : CLw L T := by
  unfold CLw
  rw [g.1 18 h1, g.2.1 31 h2]
  exact h
theorem RLw.fr {L : Lw} {S T : St} {fs as : List Nat} (h : RLw L S) (g : frm fs as S T) (h1 : 17 ∉ fs) (h2 : 11 ∉ as ∧ 12 ∉ as) : RLw L T := by
  unfold RLw
  rw [g.1 17 h1, g.2.1 11 h2.1, g.2.1 12 h2.2]
  exact h
theorem w_sum_le {V : Vy} {w : Rw} (hV : VOK V) (hw : ROK V w) {a : Nat} (ha : a < y_M V) : w_sum V w a ≤ 320 := by
  have h := smN_le (f := w_K w a) (b := 40) (y_P V) (fun i hi => Nat.le_trans (hw.1 a ha i hi) (hV.l hi).2.1)
  have h2 := hV.1
  unfold w_sum
  omega
theorem w_mem_le {V : Vy} {w : Rw} (hV : VOK V) {a : Nat} (ha : a < y_M V) : w_mem V w a ≤ 99 := by
  have h := hV.m ha
  unfold w_mem
  split <;> omega
end PM
