/-! a law's value (written by wip/whole/pure/p81.py) -/
section PVB
variable {S T U SC SR : St} {n i j p q k x N d : Nat} {F : Nat → Int32}
def opI (k : Nat) (x y : Int32) : Int32 := if k = 0 then x + y else if k = 1 then x - y else if k = 2 then x * y else if k = 3 then (if y = 0 then 0 else x / y) else if k = 4 then (if y = 0 then 0 else x - x / y * y) else if k = 5 then (if y ≤ x then y else x) else (if x ≤ y then y else x)
def cwd (w : Nat × Nat) : Nat := if w.1 = 0 then w.2 else if w.1 = 1 then 1000 + w.2 else 1998 + w.1
def rcd (c : Nat) : Nat := [0, 1, 2, 3, 4, 5, 8, 6, 7].getD c 0
def LC (f : Nat → Int32) (j : Nat) : List (Nat × Nat) → Prop
  | [] => True
  | w :: l => f j = nI (cwd w) ∧ LC f (j + 1) l
def LD (f g : Nat → Int32) (j : Nat) : List (Nat × Nat) → Prop
  | [] => True
  | w :: l => (f j = nI (rcd w.1) ∧ g j = nI w.2) ∧ LD f g (j + 1) l
theorem LC.app {f : Nat → Int32} : ∀ {l : List (Nat × Nat)} {j : Nat} {m : List (Nat × Nat)}, LC f j (l ++ m) ↔ LC f j l ∧ LC f (j + l.length) m
  | [], j, m => ⟨fun h => ⟨trivial, h⟩, fun h => h.2⟩
  | w :: l, j, m => by
    have e : j + (w :: l).length = (j + 1) + l.length := by rw [List.length_cons]; omega
    rw [e]
    constructor
    · intro h
      have h2 := LC.app.mp h.2
      exact ⟨⟨h.1, h2.1⟩, h2.2⟩
    · intro h
      exact ⟨h.1.1, LC.app.mpr ⟨h.1.2, h.2⟩⟩
theorem LD.app {f g : Nat → Int32} : ∀ {l : List (Nat × Nat)} {j : Nat} {m : List (Nat × Nat)}, LD f g j (l ++ m) ↔ LD f g j l ∧ LD f g (j + l.length) m
  | [], j, m => ⟨fun h => ⟨trivial, h⟩, fun h => h.2⟩
  | w :: l, j, m => by
    have e : j + (w :: l).length = (j + 1) + l.length := by rw [List.length_cons]; omega
    rw [e]
    constructor
    · intro h
      have h2 := LD.app.mp h.2
      exact ⟨⟨h.1, h2.1⟩, h2.2⟩
    · intro h
      exact ⟨h.1.1, LD.app.mpr ⟨h.1.2, h.2⟩⟩
theorem c_joined (hk : k < 7) (x y : Int32) (S : St) : fC_Law_joined (nI (2000 + k)) x y S = some (rI (opI k x y), S) := by
  have h := hk
  have hnz : ∀ v : Int32, ¬ v = 0 → nz v = true := fun v hv => by simp only [nz, Bool.not_eq_true', decide_eq_false_iff_not]; exact hv
  rcases (show k = 0 ∨ k = 1 ∨ k = 2 ∨ k = 3 ∨ k = 4 ∨ k = 5 ∨ k = 6 by omega) with e | e | e | e | e | e | e <;> subst e
  · rw [fC_Law_joined, if_pos (by decide)]; rfl
  · rw [fC_Law_joined, if_neg (by decide), if_pos (by decide)]; rfl
  · rw [fC_Law_joined, if_neg (by decide), if_neg (by decide), if_pos (by decide)]; rfl
  · rw [fC_Law_joined, if_neg (by decide), if_neg (by decide), if_neg (by decide), if_pos (by decide)]
    show _ = some (rI (if y = 0 then 0 else x / y), S)
    by_cases q : y = 0
    · rw [if_pos q, if_pos q]
    · rw [if_neg q, if_neg q, gdT (hnz y q)]
  · rw [fC_Law_joined, if_neg (by decide), if_neg (by decide), if_neg (by decide), if_neg (by decide), if_pos (by decide)]
    show _ = some (rI (if y = 0 then 0 else x - x / y * y), S)
    by_cases q : y = 0
    · rw [if_pos q, if_pos q]
    · rw [if_neg q, if_neg q, gdT (hnz y q)]
  · rw [fC_Law_joined, if_neg (by decide), if_neg (by decide), if_neg (by decide), if_neg (by decide), if_neg (by decide), if_pos (by decide)]
    show _ = some (rI (if y ≤ x then y else x), S)
    by_cases q : y ≤ x
    · rw [if_pos q, if_pos q]
    · rw [if_neg q, if_neg q]
  · rw [fC_Law_joined, if_neg (by decide), if_neg (by decide), if_neg (by decide), if_neg (by decide), if_neg (by decide), if_neg (by decide)]
    show _ = some (rI (if x ≤ y then y else x), S)
    by_cases q : x ≤ y
    · rw [if_pos q, if_pos q]
    · rw [if_neg q, if_neg q]
theorem r_both (hk : k < 7) (x y : Int32) (S : St) : fR_both (nI (rcd (k + 2))) x y S = some (rI (opI k x y), S) := by
  have hnz : ∀ v : Int32, ¬ v = 0 → nz v = true := fun v hv => by simp only [nz, Bool.not_eq_true', decide_eq_false_iff_not]; exact hv
  rcases (show k = 0 ∨ k = 1 ∨ k = 2 ∨ k = 3 ∨ k = 4 ∨ k = 5 ∨ k = 6 by omega) with e | e | e | e | e | e | e <;> subst e
  · rw [fR_both, if_pos (by decide)]; rfl
  · rw [fR_both, if_neg (by decide), if_pos (by decide)]; rfl
  · rw [fR_both, if_neg (by decide), if_neg (by decide), if_pos (by decide)]; rfl
  · rw [fR_both, if_neg (by decide), if_neg (by decide), if_neg (by decide), if_pos (by decide), fR_both_38]
    show _ = some (rI (if y = 0 then 0 else x / y), S)
    by_cases q : y = 0
    · rw [if_pos q, if_pos q]
    · rw [if_neg q, if_neg q, if_pos (by decide), gdT (hnz y q)]
  · rw [fR_both, if_neg (by decide), if_neg (by decide), if_neg (by decide), if_neg (by decide), if_pos (by decide), fR_both_38]
    show _ = some (rI (if y = 0 then 0 else x - x / y * y), S)
    by_cases q : y = 0
    · rw [if_pos q, if_pos q]
    · rw [if_neg q, if_neg q, if_neg (by decide), gdT (hnz y q)]
  · rw [fR_both, if_neg (by decide), if_neg (by decide), if_neg (by decide), if_neg (by decide), if_neg (by decide)]
    show _ = some (rI (if y ≤ x then y else x), S)
    by_cases q : y ≤ x
    · rw [if_pos q, if_pos q, fR_both_71, if_pos (by decide), fR_both_82, if_neg (by decide)]
    · rw [if_neg q, if_neg q, fR_both_71, if_pos (by decide), fR_both_82, if_pos (by decide)]
  · rw [fR_both, if_neg (by decide), if_neg (by decide), if_neg (by decide), if_neg (by decide), if_neg (by decide)]
    show _ = some (rI (if x ≤ y then y else x), S)
    by_cases q : y ≤ x
    · rw [if_pos q, fR_both_71, if_neg (by decide), fR_both_82, if_pos (by decide)]
      by_cases q2 : x ≤ y
      · rw [if_pos q2, Int32.le_antisymm q2 q]
      · rw [if_neg q2]
    · rw [if_neg q, fR_both_71, if_neg (by decide), fR_both_82, if_neg (by decide), if_pos ((Int32.le_total x y).resolve_right q)]
def FrC (l : List (Nat × Nat)) (nd : Nat) (ev : (Nat → Int32) → Int32) : Prop := ∀ (F : Nat → Int32) (x j n N : Nat) (S : St), x + nd ≤ 40 → (∀ i, i < 8 → S.2.1 32 i = F i) → LC (S.2.1 31) j l → S.1 18 = nI N → j + l.length ≤ N → N ≤ 160 →
    ∃ T, fC_Law_outcome_4_4 (n + l.length) (nI x) (nI j) S = fC_Law_outcome_4_4 n (nI (x + 1)) (nI (j + l.length)) T ∧ frm [] [33] S T ∧ T.2.1 33 x = ev F ∧ ∀ y, y < x → T.2.1 33 y = S.2.1 33 y
def FrR (l : List (Nat × Nat)) (nd : Nat) (ev : (Nat → Int32) → Int32) : Prop := ∀ (F : Nat → Int32) (x j n N : Nat) (S : St), x + nd ≤ 40 → (∀ i, i < 8 → S.2.1 14 i = F i) → LD (S.2.1 11) (S.2.1 12) j l → S.1 17 = nI N → j + l.length ≤ N → N ≤ 150 →
    ∃ T, fR_valueNow_4 (n + l.length) (nI x) (nI j) S = fR_valueNow_4 n (nI (x + 1)) (nI (j + l.length)) T ∧ frm [] [13] S T ∧ T.2.1 13 x = ev F ∧ ∀ y, y < x → T.2.1 13 y = S.2.1 13 y
/-- a piece of a law that leaves one value -/
def Frag (l : List (Nat × Nat)) (nd : Nat) (ev : (Nat → Int32) → Int32) : Prop := 1 ≤ l.length ∧ 1 ≤ nd ∧ FrC l nd ev ∧ FrR l nd ev
theorem frag_fig {v : Nat} (hw' : v ≤ 999) : Frag [(0, v)] 1 (fun _ => nI v) := by
  refine ⟨Nat.le_refl 1, Nat.le_refl 1, ?_, ?_⟩
  · intro F x j n N S hx' hF hl h18 hj' hN
    have hj' : j + 1 ≤ N := hj'
    have h1 : S.2.1 31 j = nI v := hl.1
    refine ⟨sA S 33 (nI x) (nI v), ?_, frm.rf.A (by simp), ?_, fun y hy => ?_⟩
    · show fC_Law_outcome_4_4 (n + 1) (nI x) (nI j) S = fC_Law_outcome_4_4 n (nI (x + 1)) (nI (j + 1)) _
      rw [fC_Law_outcome_4_4, h18, if_neg (nI_ge (by omega) (by omega)), pz_gib (by omega) (by omega), pz_rA (by omega), h1, ev_nx, it_ltL (by omega) (by omega), if_pos (by omega), it_ltL (by omega) (by omega), if_pos (by omega), it_Lle (by omega) (by omega), if_neg (by omega), fC_Law_outcome_4_99, pz_gib (by omega) (by omega), ev_nx, nI_1, nI_1]
    · rw [tA_21, if_pos rfl, nI_clamp (by omega), upd_s]
    · rw [tA_21, if_pos rfl, nI_clamp (by omega), upd_n _ _ (by omega)]
  · intro F x j n N S hx' hF hl h18 hj' hN
    have hj' : j + 1 ≤ N := hj'
    have h1 : S.2.1 11 j = nI 0 := hl.1.1
    have h2 : S.2.1 12 j = nI v := hl.1.2
    refine ⟨sA S 13 (nI x) (nI v), ?_, frm.rf.A (by simp), ?_, fun y hy => ?_⟩
    · show fR_valueNow_4 (n + 1) (nI x) (nI j) S = fR_valueNow_4 n (nI (x + 1)) (nI (j + 1)) _
      rw [fR_valueNow_4, h18, if_neg (nI_ge (by omega) (by omega)), pz_gib (by omega) (by omega), pz_rA (by omega), h1, ev_nx, if_neg (by decide), if_pos (by decide), pz_gib (by omega) (by omega), pz_rA (by omega), h2, fR_valueNow_53, pz_gib (by omega) (by omega), ev_nx, nI_1, nI_1]
    · rw [tA_21, if_pos rfl, nI_clamp (by omega), upd_s]
    · rw [tA_21, if_pos rfl, nI_clamp (by omega), upd_n _ _ (by omega)]
theorem frag_fact {k : Nat} (hw' : k < 8) : Frag [(1, k)] 1 (fun F => F k) := by
  refine ⟨Nat.le_refl 1, Nat.le_refl 1, ?_, ?_⟩
  · intro F x j n N S hx' hF hl h18 hj' hN
    have hj' : j + 1 ≤ N := hj'
    have h1 : S.2.1 31 j = nI (1000 + k) := hl.1
    refine ⟨sA S 33 (nI x) (F k), ?_, frm.rf.A (by simp), ?_, fun y hy => ?_⟩
    · show fC_Law_outcome_4_4 (n + 1) (nI x) (nI j) S = fC_Law_outcome_4_4 n (nI (x + 1)) (nI (j + 1)) _
      rw [fC_Law_outcome_4_4, h18, if_neg (nI_ge (by omega) (by omega)), pz_gib (by omega) (by omega), pz_rA (by omega), h1, ev_nx, it_ltL (by omega) (by omega), if_pos (by omega), it_ltL (by omega) (by omega), if_pos (by omega), it_Lle (by omega) (by omega), if_pos (by omega), show (1000 : Int32) = nI 1000 from rfl, pk_sub (by omega), Nat.add_sub_cancel_left, pz_gib (by omega) (by omega), pz_rA (by omega), hF k hw', fC_Law_outcome_4_99, pz_gib (by omega) (by omega), ev_nx, nI_1, nI_1]
    · rw [tA_21, if_pos rfl, nI_clamp (by omega), upd_s]
    · rw [tA_21, if_pos rfl, nI_clamp (by omega), upd_n _ _ (by omega)]
  · intro F x j n N S hx' hF hl h18 hj' hN
    have hj' : j + 1 ≤ N := hj'
    have h1 : S.2.1 11 j = nI 1 := hl.1.1
    have h2 : S.2.1 12 j = nI k := hl.1.2
    refine ⟨sA S 13 (nI x) (F k), ?_, frm.rf.A (by simp), ?_, fun y hy => ?_⟩
    · show fR_valueNow_4 (n + 1) (nI x) (nI j) S = fR_valueNow_4 n (nI (x + 1)) (nI (j + 1)) _
      rw [fR_valueNow_4, h18, if_neg (nI_ge (by omega) (by omega)), pz_gib (by omega) (by omega), pz_rA (by omega), h1, ev_nx, if_neg (by decide), if_neg (by decide), pz_gib (by omega) (by omega), pz_rA (by omega), h2, pz_gib (by omega) (by omega), pz_rA (by omega), hF k hw', fR_valueNow_53, pz_gib (by omega) (by omega), ev_nx, nI_1, nI_1]
    · rw [tA_21, if_pos rfl, nI_clamp (by omega), upd_s]
    · rw [tA_21, if_pos rfl, nI_clamp (by omega), upd_n _ _ (by omega)]
theorem frag_op {k n1 n2 : Nat} {a b : List (Nat × Nat)} {ea eb : (Nat → Int32) → Int32} (hk : k < 7) (ha : Frag a n1 ea) (hb : Frag b n2 eb) : Frag (a ++ (b ++ [(k + 2, 0)])) (max n1 (1 + n2)) (fun F => opI k (ea F) (eb F)) := by
  obtain ⟨a1, a2, a3, a4⟩ := ha
  obtain ⟨b1, b2, b3, b4⟩ := hb
  have hlen : (a ++ (b ++ [(k + 2, 0)])).length = a.length + (b.length + 1) := by
    rw [List.length_append, List.length_append]
    rfl
  have hm1 := Nat.le_max_left n1 (1 + n2)
  have hm2 := Nat.le_max_right n1 (1 + n2)
  refine ⟨by rw [hlen]; omega, by omega, ?_, ?_⟩
  · intro F x j n N S hx hF hl h18 hj hN
    rw [hlen] at hj ⊢
    obtain ⟨l1, l2⟩ := LC.app.mp hl
    obtain ⟨l3, l4⟩ := LC.app.mp l2
    obtain ⟨T1, e1, g1, v1, u1⟩ := a3 F x j (n + (b.length + 1)) N S (by omega) hF l1 h18 (by omega) hN
    obtain ⟨T2, e2, g2, v2, u2⟩ := b3 F (x + 1) (j + a.length) (n + 1) N T1 (by omega) (fun i hi => by rw [g1.2.1 32 (by decide)]; exact hF i hi) (by rw [g1.2.1 31 (by decide)]; exact l3) ((g1.1 18 (by decide)).trans h18) (by omega) hN
    have g12 := g1.tr g2
    have h2k : cwd (k + 2, 0) = 2000 + k := by
      unfold cwd
      rw [if_neg (show ¬ (k + 2, 0).1 = 0 by show ¬ k + 2 = 0; omega), if_neg (show ¬ (k + 2, 0).1 = 1 by show ¬ k + 2 = 1; omega)]
      show 1998 + (k + 2) = 2000 + k
      omega
    have h1 : T2.2.1 31 (j + a.length + b.length) = nI (2000 + k) := by rw [g12.2.1 31 (by decide), l4.1, h2k]
    refine ⟨sA T2 33 (nI x) (opI k (ea F) (eb F)), ?_, g12.A (by simp), ?_, fun y hy => ?_⟩
    · have e3 : fC_Law_outcome_4_4 (n + 1) (nI (x + 1 + 1)) (nI (j + a.length + b.length)) T2 = fC_Law_outcome_4_4 n (nI (x + 1)) (nI (j + a.length + b.length + 1)) (sA T2 33 (nI x) (opI k (ea F) (eb F))) := by
        rw [fC_Law_outcome_4_4, (g12.1 18 (by decide)).trans h18, if_neg (nI_ge (by omega) (by omega)), pz_gib (by omega) (by omega), pz_rA (by omega), h1, ev_nx, it_ltL (by omega) (by omega), if_neg (by omega), it_Lle (by omega) (by omega), if_pos (by omega), pk_m1, nI_pred, pz_gib (by omega) (by omega), pz_gib (by omega) (by omega), pz_rA (by omega), pz_rA (by omega), v2, u2 x (by omega), v1, c_joined hk, ev_I, pz_gib (by omega) (by omega), ev_nx, nI_1]
      rw [show n + (a.length + (b.length + 1)) = n + (b.length + 1) + a.length by omega, e1, show n + (b.length + 1) = n + 1 + b.length by omega, e2, e3, show j + (a.length + (b.length + 1)) = j + a.length + b.length + 1 by omega]
    · rw [tA_21, if_pos rfl, nI_clamp (by omega), upd_s]
    · rw [tA_21, if_pos rfl, nI_clamp (by omega), upd_n _ _ (by omega), u2 y (by omega), u1 y hy]
  · intro F x j n N S hx hF hl h18 hj hN
    rw [hlen] at hj ⊢
    obtain ⟨l1, l2⟩ := LD.app.mp hl
    obtain ⟨l3, l4⟩ := LD.app.mp l2
    obtain ⟨T1, e1, g1, v1, u1⟩ := a4 F x j (n + (b.length + 1)) N S (by omega) hF l1 h18 (by omega) hN
    obtain ⟨T2, e2, g2, v2, u2⟩ := b4 F (x + 1) (j + a.length) (n + 1) N T1 (by omega) (fun i hi => by rw [g1.2.1 14 (by decide)]; exact hF i hi) (by rw [g1.2.1 11 (by decide), g1.2.1 12 (by decide)]; exact l3) ((g1.1 17 (by decide)).trans h18) (by omega) hN
    have g12 := g1.tr g2
    have h1 : T2.2.1 11 (j + a.length + b.length) = nI (rcd (k + 2)) := by rw [g12.2.1 11 (by decide)]; exact l4.1.1
    have hr : 1 < rcd (k + 2) ∧ rcd (k + 2) < 9 := by
      rcases (show k = 0 ∨ k = 1 ∨ k = 2 ∨ k = 3 ∨ k = 4 ∨ k = 5 ∨ k = 6 by omega) with e | e | e | e | e | e | e <;> subst e <;> decide
    refine ⟨sA T2 13 (nI x) (opI k (ea F) (eb F)), ?_, g12.A (by simp), ?_, fun y hy => ?_⟩
    · have e3 : fR_valueNow_4 (n + 1) (nI (x + 1 + 1)) (nI (j + a.length + b.length)) T2 = fR_valueNow_4 n (nI (x + 1)) (nI (j + a.length + b.length + 1)) (sA T2 13 (nI x) (opI k (ea F) (eb F))) := by
        rw [fR_valueNow_4, (g12.1 17 (by decide)).trans h18, if_neg (nI_ge (by omega) (by omega)), pz_gib (by omega) (by omega), pz_rA (by omega), h1, ev_nx, it_Llt (by omega) (by omega), if_pos (by omega), pk_m1, nI_pred, pz_gib (by omega) (by omega), pz_gib (by omega) (by omega), pz_rA (by omega), pz_rA (by omega), v2, u2 x (by omega), v1, r_both hk, ev_I, pz_gib (by omega) (by omega), ev_nx, nI_1]
      rw [show n + (a.length + (b.length + 1)) = n + (b.length + 1) + a.length by omega, e1, show n + (b.length + 1) = n + 1 + b.length by omega, e2, e3, show j + (a.length + (b.length + 1)) = j + a.length + b.length + 1 by omega]
    · rw [tA_21, if_pos rfl, nI_clamp (by omega), upd_s]
    · rw [tA_21, if_pos rfl, nI_clamp (by omega), upd_n _ _ (by omega), u2 y (by omega), u1 y hy]
def Lev (ev : (Nat → Int32) → Int32) : Lw := fun F => clI (ev F)
theorem CLw_ev {l : List (Nat × Nat)} {nd : Nat} {ev : (Nat → Int32) → Int32} (hf : Frag l nd ev) (hn : nd ≤ 40) (hl : l.length ≤ 150) (h18 : S.1 18 = nI l.length) (hL : LC (S.2.1 31) 0 l) : CLw (Lev ev) S := by
  refine ⟨fun S1 e18 e31 F hF => ?_, fun F => clI_le _⟩
  obtain ⟨m, hm⟩ : ∃ m, FU = (m + 1) + l.length := ⟨1999 - l.length, by rw [pz_FU]; omega⟩
  obtain ⟨T, e1, g, v, -⟩ := hf.2.2.1 F 0 0 (m + 1) l.length S1 (by omega) hF (by rw [e31]; exact hL) (e18.trans h18) (by omega) (by omega)
  refine ⟨T, ?_, g⟩
  rw [Nat.zero_add, Nat.zero_add] at e1
  rw [fC_Law_outcome_4, hm, show fC_Law_outcome_4_4 (m + 1 + l.length) 0 0 S1 = _ from e1, fC_Law_outcome_4_4, (g.1 18 (by decide)).trans (e18.trans h18), if_pos (nI_le (by omega) (by omega)), show (0 : Int32) = nI 0 from rfl, pz_rA (by omega), v, ev_nx]
  exact clI_e _
theorem RLw_ev {l : List (Nat × Nat)} {nd : Nat} {ev : (Nat → Int32) → Int32} (hf : Frag l nd ev) (hn : nd ≤ 40) (hl : l.length ≤ 150) (h17 : S.1 17 = nI l.length) (hL : LD (S.2.1 11) (S.2.1 12) 0 l) : RLw (Lev ev) S := by
  refine ⟨fun S1 e17 e11 e12 F hF => ?_, fun F => clI_le _⟩
  obtain ⟨m, hm⟩ : ∃ m, FU = (m + 1) + l.length := ⟨1999 - l.length, by rw [pz_FU]; omega⟩
  obtain ⟨T, e1, g, v, -⟩ := hf.2.2.2 F 0 0 (m + 1) l.length S1 (by omega) hF (by rw [e11, e12]; exact hL) (e17.trans h17) (by omega) (by omega)
  refine ⟨T, ?_, g⟩
  have hl0 := hf.1
  rw [Nat.zero_add, Nat.zero_add] at e1
  have ev' : fR_valueNow S1 = some (rI (ev F), T) := by
    rw [fR_valueNow, hm, show fR_valueNow_4 (m + 1 + l.length) 0 0 S1 = _ from e1, fR_valueNow_4, (g.1 17 (by decide)).trans (e17.trans h17), if_pos (nI_le (by omega) (by omega)), show (0 : Int32) = nI 0 from rfl, pz_rA (by omega), v]
  rw [fR_learnsNow, e17.trans h17, if_neg (nI_ne0 (by omega) (by omega)), ev', ev_I, fR_learnsNow_23]
  exact clI_e _
end PVB
