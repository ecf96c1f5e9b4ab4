/-! how the two states belong together; what a call that only asks leaves of it -/
section PH
abbrev Md : Type := Vy × Lw × Rw × (Nat × (Nat → Nat → Nat)) × (Nat × (Nat → Rw)) × (Nat × (Nat → Rw) × (Nat → Nat) × (Nat → Nat → Rw))
def al : Nat → Prop := fun _ => True
/-- a valley, a law, a row; the book; works; images -/
def CM (m : Md) (S : St) : Prop := CV m.1 S ∧ CLw m.2.1 S ∧ (RC m.1 al m.2.2.1 (S.2.1 46) ∧ w_t m.2.2.1 ≤ 400) ∧
  (S.1 20 = nI m.2.2.2.1.1 ∧ m.2.2.2.1.1 ≤ 6 ∧ ∀ i, i < m.2.2.2.1.1 → S.2.1 37 i = nI (m.2.2.2.1.2 i 0) ∧ S.2.1 38 i = nI (m.2.2.2.1.2 i 1) ∧ S.2.1 39 i = nI (m.2.2.2.1.2 i 2) ∧ m.2.2.2.1.2 i 0 < y_M m.1 ∧ m.2.2.2.1.2 i 1 < y_P m.1 ∧ m.2.2.2.1.2 i 2 ≤ 99) ∧
  (S.1 26 = nI m.2.2.2.2.1.1 ∧ m.2.2.2.2.1.1 ≤ 16 ∧ ∀ i, i < m.2.2.2.2.1.1 → RC m.1 al (m.2.2.2.2.1.2 i) (fun k => S.2.1 47 (i * 74 + k)) ∧ w_t (m.2.2.2.2.1.2 i) ≤ 400) ∧
  (S.1 27 = nI m.2.2.2.2.2.1 ∧ m.2.2.2.2.2.1 ≤ 3 ∧ ∀ g, g < m.2.2.2.2.2.1 → (RC m.1 al (m.2.2.2.2.2.2.1 g) (fun k => S.2.1 48 (g * 1258 + k)) ∧ w_t (m.2.2.2.2.2.2.1 g) ≤ 400) ∧ S.2.1 49 g = nI (m.2.2.2.2.2.2.2.1 g) ∧ m.2.2.2.2.2.2.2.1 g ≤ 16 ∧ ∀ i, i < m.2.2.2.2.2.2.2.1 g → RC m.1 al (m.2.2.2.2.2.2.2.2 g i) (fun k => S.2.1 48 (g * 1258 + 74 + (i * 74 + k))) ∧ w_t (m.2.2.2.2.2.2.2.2 g i) ≤ 400)
def RM (m : Md) (S : St) : Prop := RV m.1 S ∧ RLw m.2.1 S ∧ RR m.1 al m.2.2.1 (S.2.1 17) ∧
  (S.1 24 = nI m.2.2.2.1.1 ∧ ∀ i, i < m.2.2.2.1.1 → S.2.1 21 (3 * i) = nI (m.2.2.2.1.2 i 0) ∧ S.2.1 21 (3 * i + 1) = nI (m.2.2.2.1.2 i 1) ∧ S.2.1 21 (3 * i + 2) = nI (m.2.2.2.1.2 i 2)) ∧
  (S.1 19 = nI m.2.2.2.2.1.1 ∧ ∀ i, i < m.2.2.2.2.1.1 → RR m.1 al (m.2.2.2.2.1.2 i) (fun k => S.2.1 19 (95 * i + k))) ∧
  (S.1 27 = nI m.2.2.2.2.2.1 ∧ ∀ g, g < m.2.2.2.2.2.1 → RR m.1 al (m.2.2.2.2.2.2.1 g) (fun k => S.2.1 25 (1616 * g + k)) ∧ S.2.1 25 (1616 * g + 1615) = nI (m.2.2.2.2.2.2.2.1 g) ∧ ∀ i, i < m.2.2.2.2.2.2.2.1 g → RR m.1 al (m.2.2.2.2.2.2.2.2 g i) (fun k => S.2.1 25 (1616 * g + 95 + (95 * i + k))))
/-- what both hold alike: the tape, the fault's place, counts -/
def BM (SC SR : St) : Prop := SC.1 0 = SR.1 20 ∧ SC.1 1 = SR.2.1 1 0 ∧ SC.1 2 = SR.2.1 1 1 ∧ SC.1 3 = SR.1 1 ∧ (∃ n : Nat, n ≤ 600 ∧ SC.1 3 = nI n) ∧ SC.1 5 = SR.1 7 ∧ ∀ i, i < 600 → SC.2.1 14 i = SR.2.1 2 i ∧ ∃ b : Nat, b < 256 ∧ SC.2.1 14 i = nI b
def Rel (SC SR : St) : Prop := ∃ m : Md, CM m SC ∧ RM m SR ∧ BM SC SR
def frx (fs as : List Nat) (S T : St) : Prop := (∀ k, k ∉ fs → T.1 k = S.1 k) ∧ (∀ a, a ∉ as → T.2.1 a = S.2.1 a)
theorem frx.rf {fs as : List Nat} {S : St} : frx fs as S S := ⟨fun _ _ => rfl, fun _ _ => rfl⟩
theorem frx.tr {fs as : List Nat} {S T U : St} (h : frx fs as S T) (g : frx fs as T U) : frx fs as S U :=
  ⟨fun k hk => (g.1 k hk).trans (h.1 k hk), fun a ha => (g.2 a ha).trans (h.2 a ha)⟩
theorem frm.x {fs as fs' as' : List Nat} {S T : St} (h : frm fs as S T) (hf : ∀ k ∈ fs, k ∈ fs') (ha : ∀ k ∈ as, k ∈ as') : frx fs' as' S T :=
  ⟨fun k hk => h.1 k (fun h9 => hk (hf k h9)), fun a h9 => h.2.1 a (fun g => h9 (ha a g))⟩
theorem frx.wide {fs as fs' as' : List Nat} {S T : St} (h : frx fs as S T) (hf : ∀ k ∈ fs, k ∈ fs') (ha : ∀ k ∈ as, k ∈ as') : frx fs' as' S T :=
  ⟨fun k hk => h.1 k (fun h9 => hk (hf k h9)), fun a h9 => h.2 a (fun g => h9 (ha a g))⟩
theorem frx.F {fs as : List Nat} {S T : St} (h : frx fs as S T) {k : Nat} {v : Int32} (hk : k ∈ fs) : frx fs as S (sF T k v) :=
  ⟨fun j hj => by rw [tF_1, if_neg (show ¬ j = k from fun e => hj (e ▸ hk))]; exact h.1 j hj, h.2⟩
theorem frx.A {fs as : List Nat} {S T : St} (h : frx fs as S T) {a : Nat} {i v : Int32} (hk : a ∈ as) : frx fs as S (sA T a i v) :=
  ⟨h.1, fun j hj => by rw [tA_21, if_neg (show ¬ j = a from fun e => hj (e ▸ hk))]; exact h.2 j hj⟩
theorem frx.B {fs as : List Nat} {S T : St} (h : frx fs as S T) {a : Nat} {i : Int32} {v : Int64} : frx fs as S (sB T a i v) := h
abbrev cF : List Nat := [4, 6, 7, 8, 9, 14, 15, 16, 17, 19, 21, 22, 23, 24, 25, 28, 29]
abbrev cA : List Nat := [23, 24, 25, 26, 27, 28, 29, 30, 32, 33, 34, 35, 36, 40, 41, 42, 43, 44, 45, 50, 51, 52]
abbrev rF : List Nat := [0, 2, 3, 4, 5, 6, 8, 9, 10, 11, 16, 18, 21, 22, 23, 25, 26]
abbrev rA' : List Nat := [3, 4, 5, 9, 10, 13, 14, 15, 16, 18, 20, 22, 23]
theorem CM.fr {m : Md} {S T : St} {fs : List Nat} (h : CM m S) (g : frx fs cA S T) (hf : ∀ k ∈ fs, k = 0 ∨ k = 1 ∨ k = 2 ∨ k = 3 ∨ k = 5 ∨ k ∈ cF) : CM m T := by
  have q : ∀ k, (k = 10 ∨ k = 11 ∨ k = 12 ∨ k = 13 ∨ k = 18 ∨ k = 20 ∨ k = 26 ∨ k = 27) → T.1 k = S.1 k := fun k hk => g.1 k (fun h9 => by
    have := hf k h9
    simp only [List.mem_cons, List.not_mem_nil, or_false] at this
    omega)
  unfold CM CV CLw
  rw [q 10 (by omega), q 11 (by omega), q 12 (by omega), q 13 (by omega), q 18 (by omega), q 20 (by omega), q 26 (by omega), q 27 (by omega), g.2 15 (by decide), g.2 16 (by decide), g.2 17 (by decide), g.2 18 (by decide), g.2 19 (by decide), g.2 20 (by decide), g.2 21 (by decide), g.2 22 (by decide), g.2 31 (by decide), g.2 37 (by decide), g.2 38 (by decide), g.2 39 (by decide), g.2 46 (by decide), g.2 47 (by decide), g.2 48 (by decide), g.2 49 (by decide)]
  exact h
theorem RM.fr {m : Md} {S T : St} {fs as : List Nat} (h : RM m S) (g : frx fs as S T) (hf : ∀ k ∈ fs, k = 1 ∨ k = 7 ∨ k = 20 ∨ k ∈ rF) (ha : ∀ k ∈ as, k = 1 ∨ k = 2 ∨ k ∈ rA') : RM m T := by
  have q : ∀ k, (k = 12 ∨ k = 13 ∨ k = 14 ∨ k = 15 ∨ k = 17 ∨ k = 19 ∨ k = 24 ∨ k = 27) → T.1 k = S.1 k := fun k hk => g.1 k (fun h9 => by
    have := hf k h9
    simp only [List.mem_cons, List.not_mem_nil, or_false] at this
    omega)
  have q2 : ∀ k, (k = 6 ∨ k = 7 ∨ k = 8 ∨ k = 11 ∨ k = 12 ∨ k = 17 ∨ k = 19 ∨ k = 21 ∨ k = 25) → T.2.1 k = S.2.1 k := fun k hk => g.2 k (fun h9 => by
    have := ha k h9
    simp only [List.mem_cons, List.not_mem_nil, or_false] at this
    omega)
  unfold RM RV RLw
  rw [q 12 (by omega), q 13 (by omega), q 14 (by omega), q 15 (by omega), q 17 (by omega), q 19 (by omega), q 24 (by omega), q 27 (by omega), q2 6 (by omega), q2 7 (by omega), q2 8 (by omega), q2 11 (by omega), q2 12 (by omega), q2 17 (by omega), q2 19 (by omega), q2 21 (by omega), q2 25 (by omega)]
  exact h
theorem Rel.fr {SC SR SC' SR' : St} (h : Rel SC SR) (g : frx cF cA SC SC') (g2 : frx rF rA' SR SR') : Rel SC' SR' := by
  obtain ⟨m, h1, h2, h3⟩ := h
  refine ⟨m, h1.fr g (fun k hk => by simp only [hk, or_true]), h2.fr g2 (fun k hk => by simp only [hk, or_true]) (fun k hk => by simp only [hk, or_true]), ?_⟩
  unfold BM
  rw [g.1 0 (by decide), g.1 1 (by decide), g.1 2 (by decide), g.1 3 (by decide), g.1 5 (by decide), g.2 14 (by decide), g2.1 20 (by decide), g2.1 1 (by decide), g2.1 7 (by decide), g2.2 1 (by decide), g2.2 2 (by decide)]
  exact h3
def Kok : Int32 → St → Oz := fun v T => gd (ib 0 1) (nx (sB T 53 0 v.toInt64) fun T1 => some (rI 0, T1))
/-- what PO wants of a call -/
def Po (f u : Oz) (X : Nat → St → Oz) : Prop := ∃ (v b : Int32) (SC1 SR1 : St), obH f Kok X = some (rI v, SC1) ∧ u = some (rI b, SR1) ∧ SR1.1 0 = v ∧ (v = 0 → rB SC1 53 0 = b.toInt64) ∧ Rel SC1 SR1
variable {SC SR T U : St} {f u : Oz} {X : Nat → St → Oz} {b c : Int32}
theorem po_rel (hR : Rel T U) (e1 : f = some (rI b, T)) (e2 : u = some (rI b, U)) (h0 : U.1 0 = 0) : Po f u X := by
  refine ⟨0, b, sB T 53 0 b.toInt64, U, ?_, e2, h0, fun _ => ?_, hR.fr (frx.rf.B) frx.rf⟩
  · rw [e1, ev_H, Kok, gdT (by decide), ev_nx]
  · show upB T.2.2 53 (vp_updL (T.2.2 53) (0 : Int32).toNatClampNeg b.toInt64) 53 (0 : Int32).toNatClampNeg = _
    rw [upB, if_pos rfl]
    exact if_pos rfl
theorem po_ok (hR : Rel SC SR) (e1 : f = some (rI b, T)) (g1 : frx cF cA SC T) (e2 : u = some (rI b, U)) (g2 : frx rF rA' SR U) (h0 : U.1 0 = 0) : Po f u X := po_rel (hR.fr g1 g2) e1 e2 h0
theorem po_ill (hR : Rel SC SR) (e1 : f = some (rX 1, T)) (g1 : frx (2 :: cF) cA SC T) (h1 : T.1 2 = SC.1 2 + 1) (e2 : u = some (rI 0, U)) (g2 : frx rF (1 :: rA') SR U) (h2 : U.2.1 1 = upd (SR.2.1 1) 1 (SR.2.1 1 1 + 1)) (h0 : U.1 0 = c) (hX : ∀ T, X 1 T = some (rI c, T)) (hc : c ≠ 0) : Po f u X := by
  refine ⟨c, 0, T, U, by rw [e1, ev_Hx, hX], e2, h0, fun h => absurd h hc, ?_⟩
  obtain ⟨m, k1, k2, k3⟩ := hR
  refine ⟨m, k1.fr g1 (fun k hk => (List.mem_cons.mp hk).elim (fun e => by omega) (fun e => by simp only [e, or_true])), k2.fr g2 (fun k hk => by simp only [hk, or_true]) (fun k hk => (List.mem_cons.mp hk).elim (fun e => by omega) (fun e => by simp only [e, or_true])), ?_⟩
  unfold BM
  rw [g1.1 0 (by decide), g1.1 1 (by decide), h1, g1.1 3 (by decide), g1.1 5 (by decide), g1.2 14 (by decide), g2.1 20 (by decide), g2.1 1 (by decide), g2.1 7 (by decide), h2, g2.2 2 (by decide), upd_s, upd_n _ _ (by decide), k3.2.2.1]
  exact ⟨k3.1, k3.2.1, rfl, k3.2.2.2⟩
theorem po_nos (hR : Rel SC SR) (e1 : f = some (rX 0, T)) (g1 : frx (1 :: cF) cA SC T) (h1 : T.1 1 = SC.1 1 + 1) (e2 : u = some (rI 0, U)) (g2 : frx rF (1 :: rA') SR U) (h2 : U.2.1 1 = upd (SR.2.1 1) 0 (SR.2.1 1 0 + 1)) (h0 : U.1 0 = c) (hX : ∀ T, X 0 T = some (rI c, T)) (hc : c ≠ 0) : Po f u X := by
  refine ⟨c, 0, T, U, by rw [e1, ev_Hx, hX], e2, h0, fun h => absurd h hc, ?_⟩
  obtain ⟨m, k1, k2, k3⟩ := hR
  refine ⟨m, k1.fr g1 (fun k hk => (List.mem_cons.mp hk).elim (fun e => by omega) (fun e => by simp only [e, or_true])), k2.fr g2 (fun k hk => by simp only [hk, or_true]) (fun k hk => (List.mem_cons.mp hk).elim (fun e => by omega) (fun e => by simp only [e, or_true])), ?_⟩
  unfold BM
  rw [g1.1 0 (by decide), h1, g1.1 2 (by decide), g1.1 3 (by decide), g1.1 5 (by decide), g1.2 14 (by decide), g2.1 20 (by decide), g2.1 1 (by decide), g2.1 7 (by decide), h2, g2.2 2 (by decide), upd_s, upd_n _ _ (by decide), k3.2.1]
  exact ⟨k3.1, rfl, k3.2.2.1, k3.2.2.2⟩
end PH
/-! arguments -/
section PI
variable {S : St} {x a b : Int32} {n : Nat}
def wi (x a b : Int32) : Bool := decide (a ≤ x) && decide (x ≤ b)
theorem wi_eq (x a b : Int32) {X Y : Oz} : (if x < a then Y else (if b < x then Y else X)) = if wi x a b then X else Y := by
  unfold wi
  by_cases h : a ≤ x
  · rw [if_neg (Int32.not_lt.mpr h), decide_eq_true h]
    by_cases h2 : x ≤ b
    · rw [if_neg (Int32.not_lt.mpr h2), decide_eq_true h2]; rfl
    · rw [if_pos (Int32.not_le.mp h2), decide_eq_false h2]; rfl
  · rw [if_pos (Int32.not_le.mp h), decide_eq_false h]; rfl
theorem c_within (x a b : Int32) (S : St) : fC_Main_isWithin x a b S = some (rI (if wi x a b then 1 else 0), S) := by
  rw [fC_Main_isWithin, wi_eq]
  cases wi x a b <;> rfl
theorem r_within (x a b : Int32) (S : St) : fR_within x a b S = some (rI (if wi x a b then 1 else 0), S) := by
  rw [fR_within, wi_eq]
  cases wi x a b <;> rfl
theorem wi_nI {lo hi : Nat} (hl : lo < 2 ^ 31) (hh : hi < 2 ^ 31) (h : wi x (nI lo) (nI hi) = true) : ∃ k : Nat, lo ≤ k ∧ k ≤ hi ∧ x = nI k := by
  simp only [wi, Bool.and_eq_true, decide_eq_true_eq] at h
  have h0 : ¬ x < 0 := Int32.not_lt.mpr (Int32.le_trans (nI_pos' hl) h.1)
  obtain ⟨j, hj, e⟩ := nI_of h0
  rw [e, pz_le hl hj, pz_le hj hh] at h
  exact ⟨j, h.1, h.2, e⟩
theorem wi_of {lo hi k : Nat} (h1 : lo ≤ k) (h2 : k ≤ hi) (hh : hi < 2 ^ 31) : wi (nI k) (nI lo) (nI hi) = true := by
  simp only [wi, Bool.and_eq_true, decide_eq_true_eq, pz_le (show lo < 2 ^ 31 by omega) (show k < 2 ^ 31 by omega), pz_le (show k < 2 ^ 31 by omega) hh]
  exact ⟨h1, h2⟩
/-- an element of n -/
theorem wi_el {n : Nat} (hn : n < 2 ^ 31) (x : Int32) : (wi x 0 (nI n - 1) = true ∧ ∃ k : Nat, k < n ∧ x = nI k) ∨ (wi x 0 (nI n - 1) = false ∧ (x < 0 ∨ nI n ≤ x)) := by
  rcases pk_ix x hn with h | h | ⟨k, hk, e⟩
  · refine Or.inr ⟨?_, Or.inl h⟩
    rw [wi, decide_eq_false (Int32.not_le.mpr h)]; rfl
  · refine Or.inr ⟨?_, Or.inr h⟩
    have h2 : ¬ x ≤ nI n - 1 := by
      rw [Int32.le_iff_toInt_le] at h ⊢
      rw [nI_toInt hn] at h
      by_cases h0 : n = 0
      · subst h0
        have : (nI 0 - 1 : Int32).toInt = -1 := by decide
        omega
      · have e : nI n - 1 = nI (n - 1) := by
          obtain ⟨j, rfl⟩ : ∃ j, n = j + 1 := ⟨n - 1, by omega⟩
          exact nI_pred j
        rw [e, nI_toInt (by omega)]
        omega
    rw [wi, decide_eq_false h2, Bool.and_false]
  · refine Or.inl ⟨?_, k, hk, e⟩
    obtain ⟨j, rfl⟩ : ∃ j, n = j + 1 := ⟨n - 1, by omega⟩
    rw [nI_pred, e]
    exact wi_of (Nat.zero_le _) (by omega) (by omega)
theorem c_need1 (S : St) : fC_Main_need 1 S = some (rV, S) := by rw [fC_Main_need, if_neg (by decide)]
theorem c_need0 (S : St) : fC_Main_need 0 S = some (rX 1, sF S 2 (S.1 2 + 1)) := by rw [fC_Main_need, if_pos rfl, fC_Main_refuseArgument, ev_nx, ev_Ix]
theorem c_refuse (S : St) : fC_Main_refuseArgument S = some (rX 1, sF S 2 (S.1 2 + 1)) := by rw [fC_Main_refuseArgument, ev_nx]
theorem c_elT {k n : Nat} (h : k < n) (hn : n < 2 ^ 31) : fC_Main_needElement (nI k) (nI n) S = some (rV, S) := by rw [fC_Main_needElement, if_neg (nI_pos (by omega)), if_pos (nI_lt h hn)]
theorem c_elF {x y : Int32} (h : x < 0 ∨ y ≤ x) : fC_Main_needElement x y S = some (rX 0, sF S 1 (S.1 1 + 1)) := by
  rw [fC_Main_needElement, fC_Main_needElement_9, ev_nx]
  by_cases h0 : x < 0
  · rw [if_pos h0]
  · rw [if_neg h0, if_neg (Int32.not_lt.mpr (h.resolve_left h0))]
theorem r_may1 (c k : Int32) (h : S.1 0 = 0) : fR_may 1 c k S = some (rI 1, S) := by rw [fR_may, if_neg (by decide), fR_may_26, if_pos h]
theorem r_may0 (c : Int32) {k : Nat} (hk : k < 2) (h : S.1 0 = 0) (hc : c ≠ 0) : fR_may 0 c (nI k) S = some (rI 0, sA (sF S 0 c) 1 (nI k) (S.2.1 1 k + 1)) := by
  rw [fR_may, if_pos rfl, if_pos h, ev_nx, pz_gib hk (by omega), pz_gib hk (by omega), ev_nx, fR_may_26, pz_rA (by omega)]
  exact if_neg hc
end PI
