/-! the book: fits, look (written by wip/whole/pure/p66.py) -/
section PP
variable {SC SR S T U : St} {f u : Oz} {X : Nat → St → Oz} {b c x : Int32} {V : Vy} {A : Nat → Prop} {w : Rw} {L : Lw} {a p d k : Nat}
abbrev Bo : Type := Nat × (Nat → Nat → Nat)
def BkC (V : Vy) (o : Bo) (S : St) : Prop := S.1 20 = nI o.1 ∧ o.1 ≤ 6 ∧ ∀ i, i < o.1 → S.2.1 37 i = nI (o.2 i 0) ∧ S.2.1 38 i = nI (o.2 i 1) ∧ S.2.1 39 i = nI (o.2 i 2) ∧ o.2 i 0 < y_M V ∧ o.2 i 1 < y_P V ∧ o.2 i 2 ≤ 99
def BkR (o : Bo) (S : St) : Prop := S.1 24 = nI o.1 ∧ ∀ i, i < o.1 → S.2.1 21 (3 * i) = nI (o.2 i 0) ∧ S.2.1 21 (3 * i + 1) = nI (o.2 i 1) ∧ S.2.1 21 (3 * i + 2) = nI (o.2 i 2)
def BkO (V : Vy) (o : Bo) : Prop := o.1 ≤ 6 ∧ ∀ i, i < o.1 → o.2 i 0 < y_M V ∧ o.2 i 1 < y_P V ∧ o.2 i 2 ≤ 99
def HC (V : Vy) (L : Lw) (w : Rw) (A : Nat → Prop) (o : Bo) (S : St) : Prop := CV V S ∧ CLw L S ∧ RC V A w (S.2.1 46) ∧ BkC V o S
def HR (V : Vy) (L : Lw) (w : Rw) (A : Nat → Prop) (o : Bo) (S : St) : Prop := RV V S ∧ RLw L S ∧ RR V A w (S.2.1 18) ∧ BkR o S
variable {o : Bo}
theorem HC.fr (h : HC V L w A o S) (g : frm [] [32, 33] S T) : HC V L w A o T := by
  refine ⟨h.1.fr0 g (by decide), h.2.1.fr0 g (by decide), by rw [g.2.1 46 (by decide)]; exact h.2.2.1, ?_⟩
  unfold BkC
  rw [g.1 20 (by simp), g.2.1 37 (by decide), g.2.1 38 (by decide), g.2.1 39 (by decide)]
  exact h.2.2.2
theorem HR.fr (h : HR V L w A o S) (g : frm [] [13, 14, 23] S T) : HR V L w A o T := by
  refine ⟨h.1.fr0 g (by decide), h.2.1.fr0 g (by decide), by rw [g.2.1 18 (by decide)]; exact h.2.2.1, ?_⟩
  unfold BkR
  rw [g.1 24 (by simp), g.2.1 21 (by decide)]
  exact h.2.2.2
theorem frm.w3 (g : frm [] [13, 14] S T) : frm [] [13, 14, 23] S T := g.wide (by simp) (by simp)
/-- what one knows, had another one had a lesson -/
def w_kt (V : Vy) (L : Lw) (w : Rw) (x y a p : Nat) : Nat := w_K w x y + (if x = a ∧ y = p then w_gain V L w a p else 0)
def allF (c : Nat → Bool) : Nat → Nat → Bool
  | 0, _ => true
  | k + 1, i => c i && allF c k (i + 1)
def w_fl (V : Vy) (L : Lw) (w : Rw) (o : Bo) (a p i : Nat) : Bool := decide (w_kt V L w (o.2 i 0) (o.2 i 1) a p = o.2 i 2)
def w_fit (V : Vy) (L : Lw) (w : Rw) (o : Bo) (a p : Nat) : Bool := allF (w_fl V L w o a p) o.1 0
theorem w_gain_le (hV : VOK V) (hp : p < y_P V) : w_gain V L w a p ≤ y_l V p - w_K w a p := Nat.min_le_right _ _
theorem w_kt_le (hV : VOK V) (hk : ROK V w) {x y : Nat} (hx : x < y_M V) (hy : y < y_P V) : w_kt V L w x y a p ≤ 40 := by
  have h1 := hk.1 x hx y hy
  have h2 := hV.l hy
  unfold w_kt
  split
  · next h =>
    rw [h.1, h.2] at h1 ⊢
    have h3 : w_gain V L w a p ≤ y_l V p - w_K w a p := Nat.min_le_right _ _
    rw [h.2] at h2
    omega
  · omega
theorem e_agrees_6_3 (hA : ∀ a, A a) (ha : a < y_M V) (hp : p < y_P V) : ∀ k n i (S : St), i + k = o.1 → k < n → HC V L w A o S →
    ∃ T, fC_Book_agrees_6_3 n (nI a) (nI p) (nI i) S = some (rI (if allF (w_fl V L w o a p) k i then 1 else 0), T) ∧ frm [] [32, 33] S T := by
  intro k
  induction k with
  | zero =>
    intro n i S hi hn hh
    obtain ⟨n, rfl⟩ := pz_fu hn
    have b6 := hh.2.2.2.2.1
    rw [fC_Book_agrees_6_3, hh.2.2.2.1, if_pos (nI_le (by omega) (by omega))]
    exact ⟨S, rfl, frm.rf⟩
  | succ k ih =>
    intro n i S hi hn hh
    obtain ⟨n, rfl⟩ := pz_fu hn
    obtain ⟨hv, hL, hr, b1, b2, b3⟩ := id hh
    have bm := hv.ok.2.1
    have bp := hv.ok.1
    obtain ⟨q1, q2, q3, q4, q5, q6⟩ := b3 i (by omega)
    have hK := hr.ok.1 _ q4 _ q5
    have hl := hv.ok.l q5
    have hkt := w_kt_le (L := L) (a := a) (p := p) hv.ok hr.ok q4 q5
    have fin : ∀ (S1 : St), frm [] [32, 33] S S1 → ∃ T, fC_Book_agrees_6_65 (fun x2 x3 x4 S => fC_Book_agrees_6_3 n x2 x3 x4 S) (nI a) (nI p) (nI i) (nI (w_kt V L w (o.2 i 0) (o.2 i 1) a p)) S1 = some (rI (if allF (w_fl V L w o a p) (k + 1) i then 1 else 0), T) ∧ frm [] [32, 33] S T := by
      intro S1 g1
      have e39 : S1.2.1 39 i = nI (o.2 i 2) := by rw [g1.2.1 39 (by decide)]; exact q3
      rw [fC_Book_agrees_6_65, pz_gib (by omega) (by omega), pz_rA (by omega), e39, it_eq (by omega) (by omega), allF, w_fl, nI_1 i]
      by_cases q : w_kt V L w (o.2 i 0) (o.2 i 1) a p = o.2 i 2
      · obtain ⟨T, e, g⟩ := ih n (i + 1) S1 (by omega) (by omega) (hh.fr g1)
        rw [if_pos q, decide_eq_true q, Bool.true_and]
        exact ⟨T, e, g1.tr g⟩
      · rw [if_neg q, decide_eq_false q, Bool.false_and]
        exact ⟨S1, rfl, g1⟩
    rw [fC_Book_agrees_6_3, b1, if_neg (nI_ge (by omega) (by omega)), pz_gib (by omega) (by omega), pz_gib (by omega) (by omega), pz_rA (by omega), pz_rA (by omega), q1, q2, e_linesKnown_9 hv hr (hA _) q4 q5, ev_I, pz_gib (by omega) (by omega), pz_rA (by omega), q1, it_eq (by omega) (by omega)]
    by_cases c1 : o.2 i 0 = a
    · rw [if_pos c1, pz_gib (by omega) (by omega), pz_rA (by omega), q2, it_eq (by omega) (by omega)]
      by_cases c2 : o.2 i 1 = p
      · obtain ⟨T1, e1, g1⟩ := e_gainOf_9 hv hL hr (hA a) ha hp
        rw [if_pos c2, e1, ev_I, nI_add, ev_nx]
        obtain ⟨T, e, g⟩ := fin T1 g1
        rw [w_kt, if_pos ⟨c1, c2⟩] at e
        exact ⟨T, e, g⟩
      · rw [if_neg c2]
        obtain ⟨T, e, g⟩ := fin S frm.rf
        rw [w_kt, if_neg (fun h => c2 h.2)] at e
        exact ⟨T, e, g⟩
    · rw [if_neg c1]
      obtain ⟨T, e, g⟩ := fin S frm.rf
      rw [w_kt, if_neg (fun h => c1 h.1)] at e
      exact ⟨T, e, g⟩
theorem e_agrees_6 (hh : HC V L w A o S) (hA : ∀ a, A a) (ha : a < y_M V) (hp : p < y_P V) : ∃ T, fC_Book_agrees_6 (nI a) (nI p) S = some (rI (if w_fit V L w o a p then 1 else 0), T) ∧ frm [] [32, 33] S T :=
  e_agrees_6_3 hA ha hp o.1 FU 0 S (by omega) (by have := hh.2.2.2.2.1; rw [pz_FU]; omega) hh
theorem r_knownThen (hv : RV V S) (hL : RLw L S) (hr : RR V A w (S.2.1 18)) (hA : ∀ a, A a) {x y : Nat} (hx : x < y_M V) (hy : y < y_P V) (ha : a < y_M V) (hp : p < y_P V) : ∃ T, fR_knownThen (nI x) (nI y) (nI a) (nI p) S = some (rI (nI (w_kt V L w x y a p)), T) ∧ frm [] [13, 14] S T := by
  have bm := hv.ok.2.1
  have bp := hv.ok.1
  have hl := hv.ok.l hy
  rw [fR_knownThen, r_knownOf hv.ok hr (hA x) hx hy, ev_I, it_eq (by omega) (by omega), it_eq (by omega) (by omega), Int32.add_zero]
  unfold w_kt
  by_cases c1 : x = a
  · by_cases c2 : y = p
    · subst c1
      subst c2
      obtain ⟨T1, e1, g1⟩ := r_moreBy hv hL hr (hA x) hx hy
      have hg : w_gain V L w x y ≤ y_l V y - w_K w x y := Nat.min_le_right _ _
      rw [if_pos rfl, if_pos rfl, if_pos ⟨rfl, rfl⟩, e1, ev_I, it_leL (by omega) (by omega)]
      by_cases c3 : w_gain V L w x y ≤ 0
      · rw [if_pos c3, show w_gain V L w x y = 0 by omega]
        exact ⟨T1, rfl, g1⟩
      · obtain ⟨T2, e2, g2⟩ := r_moreBy (hv.fr0 g1 (by decide)) (hL.fr0 g1 (by decide)) (by rw [g1.2.1 18 (by decide)]; exact hr) (hA x) hx hy
        rw [if_neg c3, e2, ev_I, nI_add]
        exact ⟨T2, rfl, g1.tr g2⟩
    · rw [if_pos c1, if_neg c2, if_neg (fun h => c2 h.2)]
      exact ⟨S, rfl, frm.rf⟩
  · rw [if_neg c1, if_neg (fun h => c1 h.1)]
    exact ⟨S, rfl, frm.rf⟩
theorem r_isFit_5 (hO : BkO V o) (hA : ∀ a, A a) (ha : a < y_M V) (hp : p < y_P V) : ∀ k n i (S : St) (f : Bool), i + k = o.1 → k < n → HR V L w A o S →
    ∃ T, fR_isFit_5 n (nI a) (nI p) (if f then 1 else 0) (nI i) S = some (rI (if f && allF (w_fl V L w o a p) k i then 1 else 0), T) ∧ frm [] [13, 14] S T := by
  intro k
  induction k with
  | zero =>
    intro n i S f hi hn hh
    obtain ⟨n, rfl⟩ := pz_fu hn
    have b6 := hO.1
    rw [fR_isFit_5, hh.2.2.2.1, if_pos (nI_le (by omega) (by omega)), gdT (pz_isB f), allF, Bool.and_true]
    exact ⟨S, rfl, frm.rf⟩
  | succ k ih =>
    intro n i S f hi hn hh
    obtain ⟨n, rfl⟩ := pz_fu hn
    obtain ⟨hv, hL, hr, b1, b3⟩ := id hh
    have b6 := hO.1
    obtain ⟨q4, q5, q6⟩ := hO.2 i (by omega)
    obtain ⟨q1, q2, q3⟩ := b3 i (by omega)
    have hkt := w_kt_le (L := L) (a := a) (p := p) hv.ok hr.ok q4 q5
    rw [fR_isFit_5, b1, if_neg (nI_ge (by omega) (by omega)), it_b0, nI_1 i]
    cases f
    · obtain ⟨T, e, g⟩ := ih n (i + 1) S false (by omega) (by omega) hh
      rw [if_neg pz_ft]
      exact ⟨T, e, g⟩
    · obtain ⟨T1, e1, g1⟩ := r_knownThen hv hL hr hA q4 q5 ha hp
      have e21 : T1.2.1 21 (3 * i + 2) = nI (o.2 i 2) := by rw [g1.2.1 21 (by decide)]; exact q3
      rw [if_pos rfl, show (3 : Int32) * nI i = nI (3 * i) from pk_mul 3 i, show nI (3 * i) + 1 = nI (3 * i + 1) from nI_1 _, show nI (3 * i) + 2 = nI (3 * i + 2) from nI_add _ 2, pz_gib (by omega) (by omega), pz_gib (by omega) (by omega), pz_rA (by omega), pz_rA (by omega), q1, q2, e1, ev_I, pz_gib (by omega) (by omega), pz_rA (by omega), e21, it_eq (by omega) (by omega), allF, w_fl]
      by_cases q : w_kt V L w (o.2 i 0) (o.2 i 1) a p = o.2 i 2
      · obtain ⟨T, e, g⟩ := ih n (i + 1) T1 true (by omega) (by omega) (hh.fr g1.w3)
        rw [if_pos q, decide_eq_true q]
        exact ⟨T, e, g1.tr g⟩
      · obtain ⟨T, e, g⟩ := ih n (i + 1) T1 false (by omega) (by omega) (hh.fr g1.w3)
        rw [if_neg q, decide_eq_false q]
        exact ⟨T, e, g1.tr g⟩
theorem r_isFit (hh : HR V L w A o S) (hO : BkO V o) (hA : ∀ a, A a) (ha : a < y_M V) (hp : p < y_P V) : ∃ T, fR_isFit (nI a) (nI p) S = some (rI (if w_fit V L w o a p then 1 else 0), T) ∧ frm [] [13, 14] S T :=
  r_isFit_5 hO hA ha hp o.1 FU 0 S true (by omega) (by have := hO.1; rw [pz_FU]; omega) hh
/-- folds over pairs of a man and a poem -/
def pI {σ : Type} (f : σ → Nat → Nat → σ) (b : Nat) (st : σ) : Nat → σ
  | 0 => st
  | q + 1 => f (pI f b st q) b q
def pO {σ : Type} (f : σ → Nat → Nat → σ) (P : Nat) (st : σ) : Nat → σ
  | 0 => st
  | b + 1 => pI f b (pO f P st b) P
def fitS (V : Vy) (L : Lw) (w : Rw) (o : Bo) (st : Int32 × Int32) (a p : Nat) : Int32 × Int32 := if w_fit V L w o a p then (st.1 + 1, if st.2 = -1 then 10 * nI a + nI p else st.2) else st
theorem e_fits_in {K : Int32 → Int32 → Int32 → Int32 → St → Oz} (x1 : Int32) (st : Int32 × Int32) (hA : ∀ a, A a) (ha : a < y_M V) : ∀ k n q (S : St), q + k = y_P V → k < n → HC V L w A o S →
    ∃ T, fC_Main_fits_32 K n x1 (pI (fitS V L w o) a st q).1 (pI (fitS V L w o) a st q).2 (nI a) (nI q) S = K x1 (pI (fitS V L w o) a st (y_P V)).1 (pI (fitS V L w o) a st (y_P V)).2 (nI (a + 1)) T ∧ frm [] [32, 33] S T := by
  intro k
  induction k with
  | zero =>
    intro n q S hi hn hh
    obtain ⟨n, rfl⟩ := pz_fu hn
    have b1 := hh.1.ok.1
    have e : q = y_P V := by omega
    rw [fC_Main_fits_32, hh.1.1, if_pos (nI_le (by omega) (by omega)), e, nI_1 a]
    exact ⟨S, rfl, frm.rf⟩
  | succ k ih =>
    intro n q S hi hn hh
    obtain ⟨n, rfl⟩ := pz_fu hn
    have b1 := hh.1.ok.1
    obtain ⟨T1, e1, g1'⟩ := e_agrees_6 hh hA ha (p := q) (by omega)
    have g1 : frm [] [32, 33] S T1 := g1'.wide (by simp) (by simp)
    obtain ⟨T, e, g⟩ := ih n (q + 1) T1 (by omega) (by omega) (hh.fr g1)
    refine ⟨T, ?_, g1.tr g⟩
    rw [fC_Main_fits_32, hh.1.1, if_neg (nI_ge (by omega) (by omega)), e1, ev_I, it_b0, nI_1 q, ← e, pI, fitS]
    cases w_fit V L w o a q
    · rw [if_neg pz_ft, if_neg pz_ft]
    · rw [if_pos rfl, if_pos rfl, ev_nx]
      by_cases h : (pI (fitS V L w o) a st q).2 = -1
      · rw [if_pos h, if_pos h]
      · rw [if_neg h, if_neg h]
theorem e_fits_out (x1 : Int32) (hA : ∀ a, A a) : ∀ k n i (S : St), i + k = y_M V → k < n → HC V L w A o S →
    ∃ T, fC_Main_fits_17 n x1 (pO (fitS V L w o) (y_P V) (0, -1) i).1 (pO (fitS V L w o) (y_P V) (0, -1) i).2 (nI i) S = some (rI (if x1 = 0 then (pO (fitS V L w o) (y_P V) (0, -1) (y_M V)).1 else (pO (fitS V L w o) (y_P V) (0, -1) (y_M V)).2), T) ∧ frm [] [32, 33] S T := by
  intro k
  induction k with
  | zero =>
    intro n i S hi hn hh
    obtain ⟨n, rfl⟩ := pz_fu hn
    have b2 := hh.1.ok.2.1
    have e : i = y_M V := by omega
    rw [fC_Main_fits_17, hh.1.2.1, if_pos (nI_le (by omega) (by omega)), e]
    refine ⟨S, ?_, frm.rf⟩
    by_cases h : x1 = 0
    · rw [if_pos h, if_pos h]
    · rw [if_neg h, if_neg h]
  | succ k ih =>
    intro n i S hi hn hh
    obtain ⟨n, rfl⟩ := pz_fu hn
    have b1 := hh.1.ok.1
    have b2 := hh.1.ok.2.1
    obtain ⟨T1, e1, g1⟩ := e_fits_in (K := fun x1 x2 x3 x4 S => fC_Main_fits_17 n x1 x2 x3 x4 S) x1 (pO (fitS V L w o) (y_P V) (0, -1) i) hA (a := i) (by omega) (y_P V) FU 0 S (by omega) (by rw [pz_FU]; omega) hh
    obtain ⟨T, e, g⟩ := ih n (i + 1) T1 (by omega) (by omega) (hh.fr g1)
    refine ⟨T, ?_, g1.tr g⟩
    rw [fC_Main_fits_17, hh.1.2.1, if_neg (nI_ge (by omega) (by omega))]
    exact e1.trans e
theorem r_fits_in {K : Int32 → Int32 → Int32 → Int32 → St → Oz} (x1 : Int32) (st : Int32 × Int32) (hO : BkO V o) (hA : ∀ a, A a) (ha : a < y_M V) : ∀ k n q (S : St), q + k = y_P V → k < n → HR V L w A o S →
    ∃ T, fR_fits_45 K n x1 (pI (fitS V L w o) a st q).1 (pI (fitS V L w o) a st q).2 (nI a) (nI q) S = K x1 (pI (fitS V L w o) a st (y_P V)).1 (pI (fitS V L w o) a st (y_P V)).2 (nI (a + 1)) T ∧ frm [] [13, 14, 23] S T := by
  intro k
  induction k with
  | zero =>
    intro n q S hi hn hh
    obtain ⟨n, rfl⟩ := pz_fu hn
    have b1 := hh.1.ok.1
    have e : q = y_P V := by omega
    rw [fR_fits_45, hh.1.1, if_pos (nI_le (by omega) (by omega)), e, nI_1 a]
    exact ⟨S, rfl, frm.rf⟩
  | succ k ih =>
    intro n q S hi hn hh
    obtain ⟨n, rfl⟩ := pz_fu hn
    have b1 := hh.1.ok.1
    obtain ⟨T1, e1, g1'⟩ := r_isFit hh hO hA ha (p := q) (by omega)
    have g1 : frm [] [13, 14, 23] S T1 := g1'.wide (by simp) (by simp)
    obtain ⟨T, e, g⟩ := ih n (q + 1) T1 (by omega) (by omega) (hh.fr g1)
    refine ⟨T, ?_, g1.tr g⟩
    rw [fR_fits_45, hh.1.1, if_neg (nI_ge (by omega) (by omega)), e1, ev_I, it_b0, nI_1 q, ← e, pI, fitS]
    cases w_fit V L w o a q
    · rw [if_neg pz_ft, if_neg pz_ft]
    · rw [if_pos rfl, if_pos rfl, ev_nx]
      by_cases h : (pI (fitS V L w o) a st q).2 = -1
      · rw [if_pos h, if_pos h]
      · rw [if_neg h, if_neg h]
theorem r_fits_out (x1 : Int32) (hO : BkO V o) (hA : ∀ a, A a) : ∀ k n i (S : St), i + k = y_M V → k < n → HR V L w A o S →
    ∃ T, fR_fits_33 n x1 (pO (fitS V L w o) (y_P V) (0, -1) i).1 (pO (fitS V L w o) (y_P V) (0, -1) i).2 (nI i) S = some (rI (if x1 = 0 then (pO (fitS V L w o) (y_P V) (0, -1) (y_M V)).1 else (pO (fitS V L w o) (y_P V) (0, -1) (y_M V)).2), T) ∧ frm [] [13, 14, 23] S T := by
  intro k
  induction k with
  | zero =>
    intro n i S hi hn hh
    obtain ⟨n, rfl⟩ := pz_fu hn
    have b2 := hh.1.ok.2.1
    have e : i = y_M V := by omega
    rw [fR_fits_33, hh.1.2.1, if_pos (nI_le (by omega) (by omega)), e]
    refine ⟨S, ?_, frm.rf⟩
    by_cases h : x1 = 0
    · rw [if_pos h, if_pos h]
    · rw [if_neg h, if_neg h]
  | succ k ih =>
    intro n i S hi hn hh
    obtain ⟨n, rfl⟩ := pz_fu hn
    have b1 := hh.1.ok.1
    have b2 := hh.1.ok.2.1
    obtain ⟨T1, e1, g1⟩ := r_fits_in (K := fun x1 x2 x3 x4 S => fR_fits_33 n x1 x2 x3 x4 S) x1 (pO (fitS V L w o) (y_P V) (0, -1) i) hO hA (a := i) (by omega) (y_P V) FU 0 S (by omega) (by rw [pz_FU]; omega) hh
    obtain ⟨T, e, g⟩ := ih n (i + 1) T1 (by omega) (by omega) (hh.fr g1)
    refine ⟨T, ?_, g1.tr g⟩
    rw [fR_fits_33, hh.1.2.1, if_neg (nI_ge (by omega) (by omega))]
    exact e1.trans e
/-- all pairs that fit, and those by which a pair's lines are as now, or more -/
def b1 (b : Bool) : Nat := if b then 1 else 0
def cnA (V : Vy) (L : Lw) (w : Rw) (o : Bo) (b q : Nat) : Nat := b1 (w_fit V L w o b q)
def own (V : Vy) (L : Lw) (w : Rw) (a p b q : Nat) : Bool := decide (b = a ∧ q = p) && decide (0 < w_gain V L w a p)
def cn0 (V : Vy) (L : Lw) (w : Rw) (o : Bo) (a p b q : Nat) : Nat := b1 (w_fit V L w o b q && !own V L w a p b q)
def cn1 (V : Vy) (L : Lw) (w : Rw) (o : Bo) (a p b q : Nat) : Nat := b1 (w_fit V L w o b q && own V L w a p b q)
def sm2 (f : Nat → Nat → Nat) (P b q : Nat) : Nat := smN (fun i => smN (f i) P) b + smN (f b) q
theorem sm2_o (f : Nat → Nat → Nat) (P b : Nat) : sm2 f P b P = sm2 f P (b + 1) 0 := rfl
theorem sm2_i (f : Nat → Nat → Nat) (P b q : Nat) : sm2 f P b (q + 1) = sm2 f P b q + f b q := by unfold sm2; rw [smN]; omega
theorem smN_add (f g : Nat → Nat) : ∀ n, smN f n + smN g n = smN (fun i => f i + g i) n := by
  intro n
  induction n with
  | zero => rfl
  | succ n ih => rw [smN, smN, smN, ← ih]; omega
theorem smN_one (f : Nat → Nat) (p x : Nat) : ∀ n, (∀ i, i < n → f i = if i = p then x else 0) → smN f n = if p < n then x else 0 := by
  intro n
  induction n with
  | zero => intro _; rfl
  | succ n ih =>
    intro h
    rw [smN, ih (fun i hi => h i (by omega)), h n (by omega)]
    by_cases e : n = p
    · rw [if_pos e, if_neg (by omega), if_pos (by omega)]; omega
    · rw [if_neg e]
      by_cases e2 : p < n
      · rw [if_pos e2, if_pos (by omega)]; rfl
      · rw [if_neg e2, if_neg (by omega)]
theorem cn_add (V : Vy) (L : Lw) (w : Rw) (o : Bo) (a p b q : Nat) : cn0 V L w o a p b q + cn1 V L w o a p b q = cnA V L w o b q := by
  unfold cn0 cn1 cnA b1
  cases w_fit V L w o b q <;> cases own V L w a p b q <;> rfl
theorem sm2_add (V : Vy) (L : Lw) (w : Rw) (o : Bo) (a p P b q : Nat) : sm2 (cn0 V L w o a p) P b q + sm2 (cn1 V L w o a p) P b q = sm2 (cnA V L w o) P b q := by
  have h1 : smN (fun i => smN (cn0 V L w o a p i) P) b + smN (fun i => smN (cn1 V L w o a p i) P) b = smN (fun i => smN (cnA V L w o i) P) b := by
    rw [smN_add]
    exact smN_congr b (fun i _ => by rw [smN_add]; exact smN_congr P (fun j _ => cn_add V L w o a p i j))
  have h2 : smN (cn0 V L w o a p b) q + smN (cn1 V L w o a p b) q = smN (cnA V L w o b) q := by
    rw [smN_add]
    exact smN_congr q (fun j _ => cn_add V L w o a p b j)
  unfold sm2
  omega
theorem cn1_tot (V : Vy) (L : Lw) (w : Rw) (o : Bo) {a p P M : Nat} (ha : a < M) (hp : p < P) : sm2 (cn1 V L w o a p) P M 0 = if w_fit V L w o a p && decide (0 < w_gain V L w a p) then 1 else 0 := by
  show smN (fun i => smN (cn1 V L w o a p i) P) M + 0 = _
  rw [Nat.add_zero, smN_one _ a (if w_fit V L w o a p && decide (0 < w_gain V L w a p) then 1 else 0) M (fun i _ => ?_), if_pos ha]
  by_cases e : i = a
  · rw [if_pos e, smN_one _ p (if w_fit V L w o a p && decide (0 < w_gain V L w a p) then 1 else 0) P (fun j _ => ?_), if_pos hp]
    unfold cn1 own b1
    by_cases e2 : j = p
    · rw [if_pos e2, decide_eq_true (show i = a ∧ j = p from ⟨e, e2⟩), Bool.true_and, e, e2]
    · rw [if_neg e2, decide_eq_false (fun h => e2 h.2), Bool.false_and, Bool.and_false]; rfl
  · rw [if_neg e, smN_one _ p 0 P (fun j _ => ?_)]
    · split <;> rfl
    · unfold cn1 own b1
      rw [decide_eq_false (fun h => e h.1), Bool.false_and, Bool.and_false]
      by_cases e3 : j = p
      · rw [if_pos e3]; rfl
      · rw [if_neg e3]; rfl
theorem b1_le (b : Bool) : b1 b ≤ 1 := by cases b <;> decide
theorem sm2_le {f : Nat → Nat → Nat} (h : ∀ b q, f b q ≤ 1) {P M b q : Nat} (hP : P ≤ 8) (hM : M ≤ 6) (hb : b ≤ M) (hq : q ≤ P) : sm2 f P b q ≤ 100 := by
  have h1 := smN_le (f := fun i => smN (f i) P) (b := 8) b (fun i _ => by
    have := smN_le (f := f i) (b := 1) P (fun j _ => h i j)
    omega)
  have h2 := smN_le (f := f b) (b := 1) q (fun j _ => h b j)
  have h3 : b * 8 ≤ 6 * 8 := Nat.mul_le_mul_right _ (by omega)
  unfold sm2
  omega
def w_fall (V : Vy) (L : Lw) (w : Rw) (o : Bo) : Nat := sm2 (cnA V L w o) (y_P V) (y_M V) 0
def w_lw (V : Vy) (L : Lw) (w : Rw) (o : Bo) (a p : Nat) : Nat := if w_fit V L w o a p && decide (0 < w_gain V L w a p) then max (w_fall V L w o - 1) 1 else w_fall V L w o
theorem e_pairs_in {K : Int32 → Int32 → St → Oz} (hA : ∀ a, A a) (ha : a < y_M V) : ∀ k n q (S : St), q + k = y_P V → k < n → HC V L w A o S →
    ∃ T, fC_Main_pairsThatFit_17 K n (nI (sm2 (cnA V L w o) (y_P V) a q)) (nI a) (nI q) S = K (nI (sm2 (cnA V L w o) (y_P V) (a + 1) 0)) (nI (a + 1)) T ∧ frm [] [32, 33] S T := by
  intro k
  induction k with
  | zero =>
    intro n q S hi hn hh
    obtain ⟨n, rfl⟩ := pz_fu hn
    have b1 := hh.1.ok.1
    have e : q = y_P V := by omega
    rw [fC_Main_pairsThatFit_17, hh.1.1, if_pos (nI_le (by omega) (by omega)), e, nI_1 a, sm2_o]
    exact ⟨S, rfl, frm.rf⟩
  | succ k ih =>
    intro n q S hi hn hh
    obtain ⟨n, rfl⟩ := pz_fu hn
    have b1' := hh.1.ok.1
    obtain ⟨T1, e1, g1⟩ := e_agrees_6 hh hA ha (p := q) (by omega)
    obtain ⟨T, e, g⟩ := ih n (q + 1) T1 (by omega) (by omega) (hh.fr g1)
    refine ⟨T, ?_, g1.tr g⟩
    rw [fC_Main_pairsThatFit_17, hh.1.1, if_neg (nI_ge (by omega) (by omega)), e1, ev_I, it_b0, nI_1 q, ← e, sm2_i, cnA]
    cases w_fit V L w o a q
    · rw [if_neg pz_ft, ev_nx, Int32.add_zero]; rfl
    · rw [if_pos rfl, ev_nx, nI_1]; rfl
theorem e_pairs_out (hA : ∀ a, A a) : ∀ k n i (S : St), i + k = y_M V → k < n → HC V L w A o S →
    ∃ T, fC_Main_pairsThatFit_4 n (nI (sm2 (cnA V L w o) (y_P V) i 0)) (nI i) S = some (rI (nI (w_fall V L w o)), T) ∧ frm [] [32, 33] S T := by
  intro k
  induction k with
  | zero =>
    intro n i S hi hn hh
    obtain ⟨n, rfl⟩ := pz_fu hn
    have b2 := hh.1.ok.2.1
    have e : i = y_M V := by omega
    rw [fC_Main_pairsThatFit_4, hh.1.2.1, if_pos (nI_le (by omega) (by omega)), e]
    exact ⟨S, rfl, frm.rf⟩
  | succ k ih =>
    intro n i S hi hn hh
    obtain ⟨n, rfl⟩ := pz_fu hn
    have b1 := hh.1.ok.1
    have b2 := hh.1.ok.2.1
    obtain ⟨T1, e1, g1⟩ := e_pairs_in (K := fun x1 x2 S => fC_Main_pairsThatFit_4 n x1 x2 S) hA (a := i) (by omega) (y_P V) FU 0 S (by omega) (by rw [pz_FU]; omega) hh
    obtain ⟨T, e, g⟩ := ih n (i + 1) T1 (by omega) (by omega) (hh.fr g1)
    refine ⟨T, ?_, g1.tr g⟩
    rw [fC_Main_pairsThatFit_4, hh.1.2.1, if_neg (nI_ge (by omega) (by omega))]
    exact e1.trans e
theorem w_fall_le (hV : VOK V) : w_fall V L w o ≤ 100 := sm2_le (fun b q => b1_le _) hV.1 hV.2.1 (Nat.le_refl _) (Nat.zero_le _)
theorem e_leftAtWorst (hh : HC V L w A o S) (hA : ∀ a, A a) (ha : a < y_M V) (hp : p < y_P V) : ∃ T, fC_Main_leftAtWorst (nI a) (nI p) (nI (w_fall V L w o)) S = some (rI (nI (w_lw V L w o a p)), T) ∧ frm [] [32, 33] S T := by
  have hl := hh.1.ok.l hp
  have hg : w_gain V L w a p ≤ y_l V p - w_K w a p := Nat.min_le_right _ _
  have hall := w_fall_le (L := L) (w := w) (o := o) hh.1.ok
  obtain ⟨T1, e1, g1⟩ := e_gainOf_9 hh.1 hh.2.1 hh.2.2.1 (hA a) ha hp
  rw [fC_Main_leftAtWorst, e1, ev_I, it_leL (by omega) (by omega), w_lw]
  by_cases c : w_gain V L w a p ≤ 0
  · rw [if_pos c, decide_eq_false (show ¬ 0 < w_gain V L w a p by omega), Bool.and_false]
    exact ⟨T1, rfl, g1⟩
  · obtain ⟨T2, e2, g2⟩ := e_agrees_6 (hh.fr g1) hA ha hp
    rw [if_neg c, decide_eq_true (show 0 < w_gain V L w a p by omega), Bool.and_true, e2, ev_I, it_b0]
    cases w_fit V L w o a p
    · rw [if_neg pz_ft]
      exact ⟨T2, rfl, g1.tr g2⟩
    · rw [if_pos rfl, if_pos rfl]
      refine ⟨T2, ?_, g1.tr g2⟩
      by_cases h0 : w_fall V L w o = 0
      · rw [h0]; rfl
      · rw [show (1 : Int32) = nI 1 from rfl, pk_sub (by omega)]
        by_cases h1 : w_fall V L w o - 1 < 1
        · rw [if_pos (nI_lt h1 (by omega)), Nat.max_eq_right (by omega)]
        · rw [if_neg (nI_nlt (by omega) (by omega)), Nat.max_eq_left (by omega)]
def anyF (c : Nat → Bool) : Nat → Nat → Bool
  | 0, _ => false
  | k + 1, i => c i || anyF c k (i + 1)
def w_tell (o : Bo) (a p : Nat) : Bool := anyF (fun j => decide (o.2 j 0 = a) && decide (o.2 j 1 = p)) o.1 0
theorem e_tells_2 (hb : BkC V o S) (ha : a < 2 ^ 31) (hp : p < 2 ^ 31) (hV : VOK V) : ∀ k n i, i + k = o.1 → k < n → fC_Book_tells_6_2 n (nI a) (nI p) (nI i) S = some (rI (if anyF (fun j => decide (o.2 j 0 = a) && decide (o.2 j 1 = p)) k i then 1 else 0), S) := by
  intro k
  have b6 : o.1 ≤ 6 := hb.2.1
  have bm := hV.2.1
  have bp := hV.1
  induction k with
  | zero =>
    intro n i hi hn
    obtain ⟨n, rfl⟩ := pz_fu hn
    rw [fC_Book_tells_6_2, hb.1, if_pos (nI_le (by omega) (by omega))]
    rfl
  | succ k ih =>
    intro n i hi hn
    obtain ⟨n, rfl⟩ := pz_fu hn
    have q := hb.2.2 i (by omega)
    have q4 := (hb.2.2 i (by omega)).2.2.2.1
    have q5 := (hb.2.2 i (by omega)).2.2.2.2.1
    rw [fC_Book_tells_6_2, hb.1, if_neg (nI_ge (by omega) (by omega)), pz_gib (by omega) (by omega), pz_rA (by omega), q.1, it_eq (by omega) (by omega), nI_1 i, anyF]
    by_cases c1 : o.2 i 0 = a
    · rw [if_pos c1, pz_gib (by omega) (by omega), pz_rA (by omega), q.2.1, it_eq (by omega) (by omega)]
      by_cases c2 : o.2 i 1 = p
      · rw [if_pos c2, decide_eq_true c1, decide_eq_true c2]; rfl
      · rw [if_neg c2, decide_eq_false c2, Bool.and_false, Bool.false_or]
        exact ih n (i + 1) (by omega) (by omega)
    · rw [if_neg c1, decide_eq_false c1, Bool.false_and, Bool.false_or]
      exact ih n (i + 1) (by omega) (by omega)
theorem r_isWritten_2 (hO : BkO V o) (hb : BkR o S) (ha : a < 2 ^ 31) (hp : p < 2 ^ 31) (hV : VOK V) : ∀ k n i, i + k = o.1 → k < n → fR_isWritten_2 n (nI a) (nI p) (nI i) S = some (rI (if anyF (fun j => decide (o.2 j 0 = a) && decide (o.2 j 1 = p)) k i then 1 else 0), S) := by
  intro k
  have b6 : o.1 ≤ 6 := hO.1
  have bm := hV.2.1
  have bp := hV.1
  induction k with
  | zero =>
    intro n i hi hn
    obtain ⟨n, rfl⟩ := pz_fu hn
    rw [fR_isWritten_2, hb.1, if_pos (nI_le (by omega) (by omega))]
    rfl
  | succ k ih =>
    intro n i hi hn
    obtain ⟨n, rfl⟩ := pz_fu hn
    have q := hb.2 i (by omega)
    have q4 := (hO.2 i (by omega)).1
    have q5 := (hO.2 i (by omega)).2.1
    rw [fR_isWritten_2, hb.1, if_neg (nI_ge (by omega) (by omega)), show (3 : Int32) * nI i = nI (3 * i) from pk_mul 3 i, show nI (3 * i) + 1 = nI (3 * i + 1) from nI_1 _, pz_gib (by omega) (by omega), pz_rA (by omega), q.1, it_eq (by omega) (by omega), nI_1 i, anyF]
    by_cases c1 : o.2 i 0 = a
    · rw [if_pos c1, pz_gib (by omega) (by omega), pz_rA (by omega), q.2.1, it_eq (by omega) (by omega)]
      by_cases c2 : o.2 i 1 = p
      · rw [if_pos c2, decide_eq_true c1, decide_eq_true c2]; rfl
      · rw [if_neg c2, decide_eq_false c2, Bool.and_false, Bool.false_or]
        exact ih n (i + 1) (by omega) (by omega)
    · rw [if_neg c1, decide_eq_false c1, Bool.false_and, Bool.false_or]
      exact ih n (i + 1) (by omega) (by omega)
theorem r_worst_0 (x1 x2 : Int32) : ∀ k n i (S : St), i + k = 41 → k < n → (∀ j, j < i → S.2.1 23 j = 0) → ∃ T, fR_worstOf_2 n x1 x2 (nI i) S = fR_worstOf_26 FU x1 x2 0 0 T ∧ frm [] [13, 14, 23] S T ∧ ∀ j, j < 41 → T.2.1 23 j = 0 := by
  intro k
  induction k with
  | zero =>
    intro n i S hi hn h
    obtain ⟨n, rfl⟩ := pz_fu hn
    rw [fR_worstOf_2, it_Llt (by omega) (by omega), if_pos (by omega)]
    exact ⟨S, rfl, frm.rf, fun j hj => h j (by omega)⟩
  | succ k ih =>
    intro n i S hi hn h
    obtain ⟨n, rfl⟩ := pz_fu hn
    obtain ⟨T, e, g, h2⟩ := ih n (i + 1) (sA S 23 (nI i) 0) (by omega) (by omega) (fun j hj => by
      rw [tA_21, if_pos rfl, nI_clamp (by omega), upd_i]
      by_cases q : j = i
      · rw [if_pos q]
      · rw [if_neg q]; exact h j (by omega))
    refine ⟨T, ?_, (frm.rf.A (by simp)).tr g, h2⟩
    rw [fR_worstOf_2, it_Llt (by omega) (by omega), if_neg (by omega), pz_gib (by omega) (by omega), ev_nx, nI_1, e]
/-- what the histogram holds -/
def Hi (V : Vy) (L : Lw) (w : Rw) (a p n0 n1 : Nat) (S : St) : Prop := S.2.1 23 (w_K w a p) = nI n0 ∧ (0 < w_gain V L w a p → S.2.1 23 (w_K w a p + w_gain V L w a p) = nI n1)
theorem r_worst_in {K : Int32 → Int32 → Int32 → Int32 → St → Oz} (hO : BkO V o) (hA : ∀ a, A a) (ha : a < y_M V) (hp : p < y_P V) {b : Nat} (hb : b < y_M V) : ∀ k n q (S : St), q + k = y_P V → k < n → HR V L w A o S → Hi V L w a p (sm2 (cn0 V L w o a p) (y_P V) b q) (sm2 (cn1 V L w o a p) (y_P V) b q) S →
    ∃ T, fR_worstOf_38 K n (nI a) (nI p) (nI (max (sm2 (cn0 V L w o a p) (y_P V) b q) (sm2 (cn1 V L w o a p) (y_P V) b q))) (nI b) (nI q) S = K (nI a) (nI p) (nI (max (sm2 (cn0 V L w o a p) (y_P V) (b + 1) 0) (sm2 (cn1 V L w o a p) (y_P V) (b + 1) 0))) (nI (b + 1)) T ∧ frm [] [13, 14, 23] S T ∧ Hi V L w a p (sm2 (cn0 V L w o a p) (y_P V) (b + 1) 0) (sm2 (cn1 V L w o a p) (y_P V) (b + 1) 0) T := by
  intro k
  induction k with
  | zero =>
    intro n q S hi hn hh hH
    obtain ⟨n, rfl⟩ := pz_fu hn
    have b1 := hh.1.ok.1
    have e : q = y_P V := by omega
    subst e
    rw [fR_worstOf_38, hh.1.1, if_pos (nI_le (by omega) (by omega)), nI_1 b, sm2_o, sm2_o]
    exact ⟨S, rfl, frm.rf, hH⟩
  | succ k ih =>
    intro n q S hi hn hh hH
    obtain ⟨n, rfl⟩ := pz_fu hn
    have hP := hh.1.ok.1
    have hM := hh.1.ok.2.1
    obtain ⟨T1, e1, g1⟩ := r_isFit hh hO hA hb (p := q) (by omega)
    have hh1 := hh.fr g1.w3
    have e23 : T1.2.1 23 = S.2.1 23 := g1.2.1 23 (by decide)
    have s0 := sm2_le (f := cn0 V L w o a p) (fun b q => b1_le _) hP hM (b := b) (q := q) (by omega) (by omega)
    have s1 := sm2_le (f := cn1 V L w o a p) (fun b q => b1_le _) hP hM (b := b) (q := q) (by omega) (by omega)
    rw [fR_worstOf_38, hh.1.1, if_neg (nI_ge (by omega) (by omega)), e1, ev_I, it_b0, nI_1 q]
    cases hf : w_fit V L w o b q
    · have t0 : sm2 (cn0 V L w o a p) (y_P V) b (q + 1) = sm2 (cn0 V L w o a p) (y_P V) b q := by rw [sm2_i, cn0, hf]; rfl
      have t1 : sm2 (cn1 V L w o a p) (y_P V) b (q + 1) = sm2 (cn1 V L w o a p) (y_P V) b q := by rw [sm2_i, cn1, hf]; rfl
      obtain ⟨T, e, g, hT⟩ := ih n (q + 1) T1 (by omega) (by omega) hh1 (by rw [t0, t1]; unfold Hi; rw [e23]; exact hH)
      rw [t0, t1] at e
      rw [if_neg pz_ft]
      exact ⟨T, e, g1.w3.tr g, hT⟩
    · obtain ⟨T2, e2, g2⟩ := r_knownThen hh1.1 hh1.2.1 hh1.2.2.1 hA ha hp hb (p := q) (by omega)
      have g12 : frm [] [13, 14, 23] S T2 := g1.w3.tr g2.w3
      have hh2 := hh.fr g12
      have e23' : T2.2.1 23 = S.2.1 23 := (g2.2.1 23 (by decide)).trans e23
      have hv40 := w_kt_le (L := L) (a := b) (p := q) hh.1.ok hh.2.2.1.ok ha hp
      rw [if_pos rfl, e2, ev_I]
      have key : ∀ v c M : Nat, v < 41 → c ≤ 1000 → M ≤ 1000 → T2.2.1 23 v = nI c → (gd (ib (nI v) 41) (gd (ib (nI v) 41) (nx (sA T2 23 (nI v) ((rA T2 23 (nI v)) + 1)) fun T5 => (gd (ib (nI v) 41) (if (rA T5 23 (nI v)) ≤ nI M then (fR_worstOf_38 K n (nI a) (nI p) (nI M) (nI b) (nI (q + 1)) T5) else (gd (ib (nI v) 41) (nx (rA T5 23 (nI v)) fun v6 => (fR_worstOf_38 K n (nI a) (nI p) v6 (nI b) (nI (q + 1)) T5)))))))) = fR_worstOf_38 K n (nI a) (nI p) (nI (max M (c + 1))) (nI b) (nI (q + 1)) (sA T2 23 (nI v) (nI (c + 1))) := by
        intro v c M hv hc hM hcell
        have ec : (sA T2 23 (nI v) (nI (c + 1))).2.1 23 v = nI (c + 1) := by rw [tA_21, if_pos rfl, nI_clamp (by omega), upd_s]
        rw [pz_gib hv (by omega), pz_gib hv (by omega), pz_rA (by omega), hcell, nI_1, ev_nx, pz_gib hv (by omega), pz_rA (by omega), ec, pz_gib hv (by omega), ev_nx, it_le (by omega) (by omega)]
        by_cases h : c + 1 ≤ M
        · rw [if_pos h, Nat.max_eq_left h]
        · rw [if_neg h, Nat.max_eq_right (by omega)]
      have i0 : sm2 (cn0 V L w o a p) (y_P V) b (q + 1) = sm2 (cn0 V L w o a p) (y_P V) b q + b1 (!own V L w a p b q) := by rw [sm2_i, cn0, hf, Bool.true_and]
      have i1 : sm2 (cn1 V L w o a p) (y_P V) b (q + 1) = sm2 (cn1 V L w o a p) (y_P V) b q + b1 (own V L w a p b q) := by rw [sm2_i, cn1, hf, Bool.true_and]
      cases ho : own V L w a p b q
      · rw [ho] at i0 i1
        have i0' : sm2 (cn0 V L w o a p) (y_P V) b (q + 1) = sm2 (cn0 V L w o a p) (y_P V) b q + 1 := i0
        have i1' : sm2 (cn1 V L w o a p) (y_P V) b (q + 1) = sm2 (cn1 V L w o a p) (y_P V) b q := i1
        have ev : w_kt V L w a p b q = w_K w a p := by
          unfold w_kt
          by_cases h : a = b ∧ p = q
          · rw [if_pos h]
            simp only [own, h.1, h.2, and_self, decide_true, Bool.true_and, decide_eq_false_iff_not] at ho
            omega
          · rw [if_neg h, Nat.add_zero]
        rw [ev] at hv40
        rw [ev, key (w_K w a p) (sm2 (cn0 V L w o a p) (y_P V) b q) _ (by omega) (by omega) (by omega) (by rw [e23']; exact hH.1)]
        obtain ⟨T, e, g, hT⟩ := ih n (q + 1) (sA T2 23 (nI (w_K w a p)) (nI (sm2 (cn0 V L w o a p) (y_P V) b q + 1))) (by omega) (by omega) (hh2.fr (frm.rf.A (by simp))) (by
          rw [i0', i1']
          refine ⟨by rw [tA_21, if_pos rfl, nI_clamp (by omega), upd_s], fun h => ?_⟩
          rw [tA_21, if_pos rfl, nI_clamp (by omega), upd_n _ _ (by omega), e23']
          exact hH.2 h)
        refine ⟨T, ?_, g12.tr ((frm.rf.A (by simp)).tr g), hT⟩
        rw [← e, i0', i1']
        congr 2
        omega
      · rw [ho] at i0 i1
        have i0' : sm2 (cn0 V L w o a p) (y_P V) b (q + 1) = sm2 (cn0 V L w o a p) (y_P V) b q := i0
        have i1' : sm2 (cn1 V L w o a p) (y_P V) b (q + 1) = sm2 (cn1 V L w o a p) (y_P V) b q + 1 := i1
        have ho2 : (b = a ∧ q = p) ∧ 0 < w_gain V L w a p := by simpa [own] using ho
        have ev : w_kt V L w a p b q = w_K w a p + w_gain V L w a p := by
          unfold w_kt
          rw [if_pos ⟨ho2.1.1.symm, ho2.1.2.symm⟩, ho2.1.1, ho2.1.2]
        rw [ev] at hv40
        rw [ev, key (w_K w a p + w_gain V L w a p) (sm2 (cn1 V L w o a p) (y_P V) b q) _ (by omega) (by omega) (by omega) (by rw [e23']; exact hH.2 ho2.2)]
        obtain ⟨T, e, g, hT⟩ := ih n (q + 1) (sA T2 23 (nI (w_K w a p + w_gain V L w a p)) (nI (sm2 (cn1 V L w o a p) (y_P V) b q + 1))) (by omega) (by omega) (hh2.fr (frm.rf.A (by simp))) (by
          rw [i0', i1']
          refine ⟨?_, fun h => by rw [tA_21, if_pos rfl, nI_clamp (by omega), upd_s]⟩
          rw [tA_21, if_pos rfl, nI_clamp (by omega), upd_n _ _ (by omega), e23']
          exact hH.1)
        refine ⟨T, ?_, g12.tr ((frm.rf.A (by simp)).tr g), hT⟩
        rw [← e, i0', i1']
        congr 2
        omega
theorem r_worst_out (hO : BkO V o) (hA : ∀ a, A a) (ha : a < y_M V) (hp : p < y_P V) : ∀ k n b (S : St), b + k = y_M V → k < n → HR V L w A o S → Hi V L w a p (sm2 (cn0 V L w o a p) (y_P V) b 0) (sm2 (cn1 V L w o a p) (y_P V) b 0) S →
    ∃ T, fR_worstOf_26 n (nI a) (nI p) (nI (max (sm2 (cn0 V L w o a p) (y_P V) b 0) (sm2 (cn1 V L w o a p) (y_P V) b 0))) (nI b) S = some (rI (nI (max (sm2 (cn0 V L w o a p) (y_P V) (y_M V) 0) (sm2 (cn1 V L w o a p) (y_P V) (y_M V) 0))), T) ∧ frm [] [13, 14, 23] S T := by
  intro k
  induction k with
  | zero =>
    intro n b S hi hn hh hH
    obtain ⟨n, rfl⟩ := pz_fu hn
    have b2 := hh.1.ok.2.1
    have e : b = y_M V := by omega
    rw [fR_worstOf_26, hh.1.2.1, if_pos (nI_le (by omega) (by omega)), e]
    exact ⟨S, rfl, frm.rf⟩
  | succ k ih =>
    intro n b S hi hn hh hH
    obtain ⟨n, rfl⟩ := pz_fu hn
    have b1 := hh.1.ok.1
    have b2 := hh.1.ok.2.1
    obtain ⟨T1, e1, g1, h1⟩ := r_worst_in (K := fun x1 x2 x3 x4 S => fR_worstOf_26 n x1 x2 x3 x4 S) hO hA ha hp (b := b) (by omega) (y_P V) FU 0 S (by omega) (by rw [pz_FU]; omega) hh hH
    obtain ⟨T, e, g⟩ := ih n (b + 1) T1 (by omega) (by omega) (hh.fr g1) h1
    refine ⟨T, ?_, g1.tr g⟩
    rw [fR_worstOf_26, hh.1.2.1, if_neg (nI_ge (by omega) (by omega))]
    exact e1.trans e
theorem r_worstOf (hh : HR V L w A o S) (hO : BkO V o) (hA : ∀ a, A a) (ha : a < y_M V) (hp : p < y_P V) : ∃ T, fR_worstOf (nI a) (nI p) S = some (rI (nI (w_lw V L w o a p)), T) ∧ frm [] [13, 14, 23] S T := by
  have hk := w_kt_le (L := L) (a := a) (p := p) hh.1.ok hh.2.2.1.ok ha hp
  rw [w_kt, if_pos ⟨rfl, rfl⟩] at hk
  obtain ⟨T1, e1, g1, h1⟩ := r_worst_0 (nI a) (nI p) 41 FU 0 S (by omega) (by rw [pz_FU]; omega) (fun j hj => by omega)
  obtain ⟨T, e, g⟩ := r_worst_out hO hA ha hp (y_M V) FU 0 T1 (by omega) (by have := hh.1.ok.2.1; rw [pz_FU]; omega) (hh.fr g1) ⟨h1 _ (by omega), fun h => h1 _ (by omega)⟩
  refine ⟨T, ?_, g1.tr g⟩
  rw [fR_worstOf, show (0 : Int32) = nI 0 from rfl, e1]
  refine Eq.trans e (pz_sn ?_)
  have t := sm2_add V L w o a p (y_P V) (y_M V) 0
  have t1 := cn1_tot V L w o ha hp
  unfold w_lw w_fall
  rw [← t, t1]
  cases w_fit V L w o a p && decide (0 < w_gain V L w a p)
  · rw [if_neg pz_ft, if_neg pz_ft, Nat.add_zero]; omega
  · rw [if_pos rfl, if_pos rfl, Nat.add_sub_cancel]
theorem w_lw_le (hV : VOK V) : w_lw V L w o a p ≤ 100 := by
  have h := w_fall_le (L := L) (w := w) (o := o) hV
  unfold w_lw
  split <;> omega
def lkS (V : Vy) (L : Lw) (w : Rw) (o : Bo) (st : Int32 × Int32) (a p : Nat) : Int32 × Int32 := if w_tell o a p then st else if st.1 = -1 ∨ nI (w_lw V L w o a p) < st.2 then (10 * nI a + nI p, nI (w_lw V L w o a p)) else st
theorem e_look_in {K : Int32 → Int32 → Int32 → Int32 → Int32 → St → Oz} (x1 : Int32) (st : Int32 × Int32) (hA : ∀ a, A a) (ha : a < y_M V) : ∀ k n q (S : St), q + k = y_P V → k < n → HC V L w A o S →
    ∃ T, fC_Main_look_38 K n x1 (nI (w_fall V L w o)) (pI (lkS V L w o) a st q).1 (pI (lkS V L w o) a st q).2 (nI a) (nI q) S = K x1 (nI (w_fall V L w o)) (pI (lkS V L w o) a st (y_P V)).1 (pI (lkS V L w o) a st (y_P V)).2 (nI (a + 1)) T ∧ frm [] [32, 33] S T := by
  intro k
  induction k with
  | zero =>
    intro n q S hi hn hh
    obtain ⟨n, rfl⟩ := pz_fu hn
    have b1 := hh.1.ok.1
    have e : q = y_P V := by omega
    rw [fC_Main_look_38, hh.1.1, if_pos (nI_le (by omega) (by omega)), e, nI_1 a]
    exact ⟨S, rfl, frm.rf⟩
  | succ k ih =>
    intro n q S hi hn hh
    obtain ⟨n, rfl⟩ := pz_fu hn
    have bp := hh.1.ok.1
    have bm := hh.1.ok.2.1
    have et : fC_Book_tells_6 (nI a) (nI q) S = some (rI (if w_tell o a q then 1 else 0), S) := e_tells_2 hh.2.2.2 (by omega) (by omega) hh.1.ok o.1 FU 0 (by omega) (by have := hh.2.2.2.2.1; rw [pz_FU]; omega)
    rw [fC_Main_look_38, hh.1.1, if_neg (nI_ge (by omega) (by omega)), et, ev_I, it_b0, nI_1 q]
    cases hq : w_tell o a q
    · obtain ⟨T1, e1, g1⟩ := e_leftAtWorst hh hA ha (p := q) (by omega)
      obtain ⟨T, e, g⟩ := ih n (q + 1) T1 (by omega) (by omega) (hh.fr g1)
      refine ⟨T, ?_, g1.tr g⟩
      rw [if_neg pz_ft, e1, ev_I, ← e, pI, lkS, hq, if_neg pz_ft, fC_Main_look_87, ev_nx, nI_1 q]
      by_cases h1 : (pI (lkS V L w o) a st q).1 = -1
      · rw [if_pos h1, if_pos (Or.inl h1)]
      · rw [if_neg h1]
        by_cases h2 : (pI (lkS V L w o) a st q).2 ≤ nI (w_lw V L w o a q)
        · rw [if_pos h2, if_neg (fun h => h.elim h1 (fun h => absurd h2 (Int32.not_le.mpr h)))]
        · rw [if_neg h2, if_pos (Or.inr (Int32.not_le.mp h2))]
    · obtain ⟨T, e, g⟩ := ih n (q + 1) S (by omega) (by omega) hh
      refine ⟨T, ?_, g⟩
      rw [if_pos rfl, ← e, pI, lkS, hq, if_pos rfl]
theorem e_look_out (x1 : Int32) (hA : ∀ a, A a) : ∀ k n i (S : St), i + k = y_M V → k < n → HC V L w A o S →
    ∃ T, fC_Main_look_23 n x1 (nI (w_fall V L w o)) (pO (lkS V L w o) (y_P V) (-1, -1) i).1 (pO (lkS V L w o) (y_P V) (-1, -1) i).2 (nI i) S = some (rI (if x1 = 0 then (pO (lkS V L w o) (y_P V) (-1, -1) (y_M V)).1 else (pO (lkS V L w o) (y_P V) (-1, -1) (y_M V)).2), T) ∧ frm [] [32, 33] S T := by
  intro k
  induction k with
  | zero =>
    intro n i S hi hn hh
    obtain ⟨n, rfl⟩ := pz_fu hn
    have b2 := hh.1.ok.2.1
    have e : i = y_M V := by omega
    rw [fC_Main_look_23, hh.1.2.1, if_pos (nI_le (by omega) (by omega)), e]
    refine ⟨S, ?_, frm.rf⟩
    by_cases h : x1 = 0
    · rw [if_pos h, if_pos h]
    · rw [if_neg h, if_neg h]
  | succ k ih =>
    intro n i S hi hn hh
    obtain ⟨n, rfl⟩ := pz_fu hn
    have b1 := hh.1.ok.1
    have b2 := hh.1.ok.2.1
    obtain ⟨T1, e1, g1⟩ := e_look_in (K := fun x1 x2 x3 x4 x5 S => fC_Main_look_23 n x1 x2 x3 x4 x5 S) x1 (pO (lkS V L w o) (y_P V) (-1, -1) i) hA (a := i) (by omega) (y_P V) FU 0 S (by omega) (by rw [pz_FU]; omega) hh
    obtain ⟨T, e, g⟩ := ih n (i + 1) T1 (by omega) (by omega) (hh.fr g1)
    refine ⟨T, ?_, g1.tr g⟩
    rw [fC_Main_look_23, hh.1.2.1, if_neg (nI_ge (by omega) (by omega))]
    exact e1.trans e
theorem r_look_in {K : Int32 → Int32 → Int32 → Int32 → St → Oz} (x1 : Int32) (st : Int32 × Int32) (hO : BkO V o) (hA : ∀ a, A a) (ha : a < y_M V) : ∀ k n q (S : St), q + k = y_P V → k < n → HR V L w A o S →
    ∃ T, fR_look_45 K n x1 (pI (lkS V L w o) a st q).1 (pI (lkS V L w o) a st q).2 (nI a) (nI q) S = K x1 (pI (lkS V L w o) a st (y_P V)).1 (pI (lkS V L w o) a st (y_P V)).2 (nI (a + 1)) T ∧ frm [] [13, 14, 23] S T := by
  intro k
  induction k with
  | zero =>
    intro n q S hi hn hh
    obtain ⟨n, rfl⟩ := pz_fu hn
    have b1 := hh.1.ok.1
    have e : q = y_P V := by omega
    rw [fR_look_45, hh.1.1, if_pos (nI_le (by omega) (by omega)), e, nI_1 a]
    exact ⟨S, rfl, frm.rf⟩
  | succ k ih =>
    intro n q S hi hn hh
    obtain ⟨n, rfl⟩ := pz_fu hn
    have bp := hh.1.ok.1
    have bm := hh.1.ok.2.1
    have et : fR_isWritten (nI a) (nI q) S = some (rI (if w_tell o a q then 1 else 0), S) := r_isWritten_2 hO hh.2.2.2 (by omega) (by omega) hh.1.ok o.1 FU 0 (by omega) (by have := hO.1; rw [pz_FU]; omega)
    rw [fR_look_45, hh.1.1, if_neg (nI_ge (by omega) (by omega)), et, ev_I, it_b0]
    cases hq : w_tell o a q
    · have hlw := w_lw_le (L := L) (w := w) (o := o) (a := a) (p := q) hh.1.ok
      obtain ⟨T1, e1, g1⟩ := r_worstOf hh hO hA ha (p := q) (by omega)
      obtain ⟨T, e, g⟩ := ih n (q + 1) T1 (by omega) (by omega) (hh.fr g1)
      refine ⟨T, ?_, g1.tr g⟩
      rw [if_neg pz_ft, e1, ev_I, fR_look_77, if_neg (show ¬ nI (w_lw V L w o a q) = -1 from of_eq_false (pz_nem1 (by omega))), fR_look_99, ev_nx, nI_1 q, ← e, pI, lkS, hq, if_neg pz_ft]
      by_cases h1 : (pI (lkS V L w o) a st q).1 = -1
      · rw [if_pos h1, if_pos (Or.inl h1)]
      · rw [if_neg h1]
        by_cases h2 : nI (w_lw V L w o a q) < (pI (lkS V L w o) a st q).2
        · rw [if_pos h2, if_pos (Or.inr h2)]
        · rw [if_neg h2, if_neg (fun h => h.elim h1 h2)]
    · obtain ⟨T, e, g⟩ := ih n (q + 1) S (by omega) (by omega) hh
      refine ⟨T, ?_, g⟩
      rw [if_pos rfl, fR_look_77, if_pos rfl, nI_1 q, ← e, pI, lkS, hq, if_pos rfl]
theorem r_look_out (x1 : Int32) (hO : BkO V o) (hA : ∀ a, A a) : ∀ k n i (S : St), i + k = y_M V → k < n → HR V L w A o S →
    ∃ T, fR_look_33 n x1 (pO (lkS V L w o) (y_P V) (-1, -1) i).1 (pO (lkS V L w o) (y_P V) (-1, -1) i).2 (nI i) S = some (rI (if x1 = 0 then (pO (lkS V L w o) (y_P V) (-1, -1) (y_M V)).1 else (pO (lkS V L w o) (y_P V) (-1, -1) (y_M V)).2), T) ∧ frm [] [13, 14, 23] S T := by
  intro k
  induction k with
  | zero =>
    intro n i S hi hn hh
    obtain ⟨n, rfl⟩ := pz_fu hn
    have b2 := hh.1.ok.2.1
    have e : i = y_M V := by omega
    rw [fR_look_33, hh.1.2.1, if_pos (nI_le (by omega) (by omega)), e]
    refine ⟨S, ?_, frm.rf⟩
    by_cases h : x1 = 0
    · rw [if_pos h, if_pos h]
    · rw [if_neg h, if_neg h]
  | succ k ih =>
    intro n i S hi hn hh
    obtain ⟨n, rfl⟩ := pz_fu hn
    have b1 := hh.1.ok.1
    have b2 := hh.1.ok.2.1
    obtain ⟨T1, e1, g1⟩ := r_look_in (K := fun x1 x2 x3 x4 S => fR_look_33 n x1 x2 x3 x4 S) x1 (pO (lkS V L w o) (y_P V) (-1, -1) i) hO hA (a := i) (by omega) (y_P V) FU 0 S (by omega) (by rw [pz_FU]; omega) hh
    obtain ⟨T, e, g⟩ := ih n (i + 1) T1 (by omega) (by omega) (hh.fr g1)
    refine ⟨T, ?_, g1.tr g⟩
    rw [fR_look_33, hh.1.2.1, if_neg (nI_ge (by omega) (by omega))]
    exact e1.trans e
theorem po_fits : PO_fits Rel := by
  intro SC SR hR x
  show Po (fC_Main_fits x SC) (fR_fits x SR) (fun j T => if j = 1 then some (rI 1, T) else none)
  have hR' := hR
  obtain ⟨m, hC, hM, hB⟩ := hR'
  obtain ⟨g0, h0, hv0, hL0, hr0⟩ := begR hM
  obtain ⟨T, eT, gT, hT0, hvT, hLT, hrT, hT17, hTf⟩ := begT hM
  have hv := hC.1
  have hL := hC.2.1
  have hr := hC.2.2.1.1
  have b1 := hv.ok.1
  have b2 := hv.ok.2.1
  have b3 := hv.ok.2.2.1
  have hhC : HC m.1 m.2.1 m.2.2.1 al m.2.2.2.1 SC := ⟨hv, hL, hr, hC.2.2.2.1⟩
  have hO : BkO m.1 m.2.2.2.1 := ⟨hC.2.2.2.1.2.1, fun i hi => (hC.2.2.2.1.2.2 i hi).2.2.2⟩
  have hT21 : ∀ k, T.1 k = (sF SR 0 0).1 k := hTf
  have hhR : HR m.1 m.2.1 m.2.2.1 al m.2.2.2.1 T := ⟨hvT, hLT, hrT, by
    unfold BkR
    rw [gT.1 24 (by decide), gT.2 21 (by decide)]
    exact hM.2.2.2.1⟩
  cases hw : wi x 0 1
  · refine po_ill1 (c := 1) hR ?_ ?_ (fun _ => rfl) (by decide)
    · rw [fC_Main_fits, c_withinF hw, ev_I, c_need0, ev_Vx]
    · rw [fR_fits, ev_nx, r_withinF hw, ev_I, show fR_may 0 1 1 (sF SR 0 0) = _ from r_may0 1 (k := 1) (by omega) h0 (by decide), ev_I]
      rfl
  · obtain ⟨T1, e1, g1⟩ := e_fits_out x al_all (y_M m.1) FU 0 SC (by omega) (by rw [pz_FU]; omega) hhC
    obtain ⟨T2, e2, g2⟩ := r_fits_out x hO al_all (y_M m.1) FU 0 T (by omega) (by rw [pz_FU]; omega) hhR
    refine po_ok (b := (if x = 0 then (pO (fitS m.1 m.2.1 m.2.2.1 m.2.2.2.1) (y_P m.1) (0, -1) (y_M m.1)).1 else (pO (fitS m.1 m.2.1 m.2.2.1 m.2.2.2.1) (y_P m.1) (0, -1) (y_M m.1)).2)) (T := T1) (U := T2) hR ?_ (g1.x (by simp) (by simp)) ?_ (gT.tr (g2.x (by simp) (by simp))) ((g2.1 0 (by simp)).trans hT0)
    · rw [fC_Main_fits, c_withinT hw, ev_I, c_need1, ev_V]
      exact e1
    · rw [fR_fits, ev_nx, r_withinT hw, ev_I, r_may1 _ _ h0, ev_I, if_neg (by decide), eT, ev_V]
      exact e2
theorem po_look : PO_look Rel := by
  intro SC SR hR x
  show Po (fC_Main_look x SC) (fR_look x SR) (fun j T => if j = 1 then some (rI 1, T) else none)
  have hR' := hR
  obtain ⟨m, hC, hM, hB⟩ := hR'
  obtain ⟨g0, h0, hv0, hL0, hr0⟩ := begR hM
  obtain ⟨T, eT, gT, hT0, hvT, hLT, hrT, hT17, hTf⟩ := begT hM
  have hv := hC.1
  have hL := hC.2.1
  have hr := hC.2.2.1.1
  have b1 := hv.ok.1
  have b2 := hv.ok.2.1
  have b3 := hv.ok.2.2.1
  have hhC : HC m.1 m.2.1 m.2.2.1 al m.2.2.2.1 SC := ⟨hv, hL, hr, hC.2.2.2.1⟩
  have hO : BkO m.1 m.2.2.2.1 := ⟨hC.2.2.2.1.2.1, fun i hi => (hC.2.2.2.1.2.2 i hi).2.2.2⟩
  have hT21 : ∀ k, T.1 k = (sF SR 0 0).1 k := hTf
  have hhR : HR m.1 m.2.1 m.2.2.1 al m.2.2.2.1 T := ⟨hvT, hLT, hrT, by
    unfold BkR
    rw [gT.1 24 (by decide), gT.2 21 (by decide)]
    exact hM.2.2.2.1⟩
  cases hw : wi x 0 1
  · refine po_ill1 (c := 1) hR ?_ ?_ (fun _ => rfl) (by decide)
    · rw [fC_Main_look, c_withinF hw, ev_I, c_need0, ev_Vx]
    · rw [fR_look, ev_nx, r_withinF hw, ev_I, show fR_may 0 1 1 (sF SR 0 0) = _ from r_may0 1 (k := 1) (by omega) h0 (by decide), ev_I]
      rfl
  · obtain ⟨T0, e0, g0'⟩ := e_pairs_out al_all (y_M m.1) FU 0 SC (by omega) (by rw [pz_FU]; omega) hhC
    obtain ⟨T1, e1, g1⟩ := e_look_out x al_all (y_M m.1) FU 0 T0 (by omega) (by rw [pz_FU]; omega) (hhC.fr g0')
    obtain ⟨T2, e2, g2⟩ := r_look_out x hO al_all (y_M m.1) FU 0 T (by omega) (by rw [pz_FU]; omega) hhR
    refine po_ok (b := (if x = 0 then (pO (lkS m.1 m.2.1 m.2.2.1 m.2.2.2.1) (y_P m.1) (-1, -1) (y_M m.1)).1 else (pO (lkS m.1 m.2.1 m.2.2.1 m.2.2.2.1) (y_P m.1) (-1, -1) (y_M m.1)).2)) (T := T1) (U := T2) hR ?_ ((g0'.tr g1).x (by simp) (by simp)) ?_ (gT.tr (g2.x (by simp) (by simp))) ((g2.1 0 (by simp)).trans hT0)
    · rw [fC_Main_look, c_withinT hw, ev_I, c_need1, ev_V, fC_Main_pairsThatFit, show fC_Main_pairsThatFit_4 FU 0 0 SC = _ from e0, ev_I]
      exact e1
    · rw [fR_look, ev_nx, r_withinT hw, ev_I, r_may1 _ _ h0, ev_I, if_neg (by decide), eT, ev_V]
      exact e2
end PP
