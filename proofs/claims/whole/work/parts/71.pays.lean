/-! pays (written by wip/whole/pure/p71.py) -/
section PP2
variable {V : Vy} {L : Lw} {w : Rw} {S SC SR : St} {f : Nat → Int32} {x y : Int32} {d e p q N v : Nat} {o : Nat → Bool}
/-- a row held by the list of what lies in it, the last first -/
def Arr (f : Nat → Int32) : List Nat → Prop
  | [] => True
  | e :: r => f r.length = nI e ∧ Arr f r
def ArP (f : Nat → Int32) (p : Nat) : List Nat → Prop
  | [] => True
  | e :: r => f (p + r.length + 1) = nI e ∧ ArP f p r
def ArF (f : Nat → Int32) (i : Nat) : List Nat → Prop
  | [] => True
  | e :: l => f i = nI e ∧ ArF f (i + 1) l
theorem Arr.upd : ∀ {l : List Nat}, Arr f l → l.length ≤ p → Arr (upd f p x) l
  | [], _, _ => trivial
  | e :: l, h, hp => ⟨(upd_n _ _ (by have : (e :: l).length = l.length + 1 := rfl; omega)).trans h.1, h.2.upd (by have : (e :: l).length = l.length + 1 := rfl; omega)⟩
theorem ArP.upd : ∀ {l : List Nat}, ArP f q l → p ≤ q → ArP (upd f p x) q l
  | [], _, _ => trivial
  | e :: l, h, hp => ⟨(upd_n _ _ (by omega)).trans h.1, h.2.upd hp⟩
theorem ArP.snoc (h2 : f (p + 1) = nI e) : ∀ {l : List Nat}, ArP f (p + 1) l → ArP f p (l ++ [e])
  | [], _ => ⟨h2, trivial⟩
  | a :: l, h => ⟨by show f (p + (l ++ [e]).length + 1) = nI a; rw [List.length_append]; exact (congrArg f (by have : [e].length = 1 := rfl; omega)).trans h.1, h.2.snoc h2⟩
theorem Arr.app {s : List Nat} (h2 : f s.length = nI d) (h3 : Arr f s) : ∀ {l : List Nat}, ArP f s.length l → Arr f (l ++ d :: s)
  | [], _ => ⟨h2, h3⟩
  | a :: l, h => ⟨by show f (l ++ d :: s).length = nI a; rw [List.length_append]; exact (congrArg f (by have : (d :: s).length = s.length + 1 := rfl; omega)).trans h.1, h3.app h2 h.2⟩
theorem Arr.fwd : ∀ {r l : List Nat}, Arr f r → ArF f r.length l → ArF f 0 (r.reverse ++ l)
  | [], _, _, h => h
  | e :: r, l, h, h2 => by
    rw [List.reverse_cons, List.append_assoc]
    exact h.2.fwd (l := e :: l) ⟨h.1, h2⟩
def ins (u : Nat → Nat) : List Nat → Nat → List Nat
  | [], d => [d]
  | e :: r, d => if u e ≤ u d then d :: e :: r else e :: ins u r d
theorem ins_len {u : Nat → Nat} : ∀ (l : List Nat), (ins u l d).length = l.length + 1
  | [] => rfl
  | e :: r => by
    rw [ins]
    by_cases h : u e ≤ u d
    · rw [if_pos h]; rfl
    · rw [if_neg h, List.length_cons, ins_len r]; rfl
theorem ins_mem {u : Nat → Nat} : ∀ (l : List Nat) (a : Nat), a ∈ ins u l d ↔ a = d ∨ a ∈ l
  | [], a => by simp [ins]
  | e :: r, a => by
    rw [ins]
    by_cases h : u e ≤ u d
    · rw [if_pos h, List.mem_cons]
    · rw [if_neg h, List.mem_cons, ins_mem r a, List.mem_cons]
      constructor
      · rintro (h1 | h1 | h1)
        · exact Or.inr (Or.inl h1)
        · exact Or.inl h1
        · exact Or.inr (Or.inr h1)
      · rintro (h1 | h1 | h1)
        · exact Or.inr (Or.inl h1)
        · exact Or.inl h1
        · exact Or.inr (Or.inr h1)
theorem ins_all {u : Nat → Nat} : ∀ (l : List Nat), (∀ a ∈ l, u a ≤ u d) → ins u l d = d :: l
  | [], _ => rfl
  | e :: r, h => by rw [ins, if_pos (h e (by simp))]
def Srt (u : Nat → Nat) : List Nat → Prop
  | [] => True
  | e :: r => (∀ a ∈ r, u a ≤ u e) ∧ Srt u r
theorem Srt.insd {u : Nat → Nat} : ∀ {l : List Nat}, Srt u l → Srt u (ins u l d)
  | [], _ => ⟨fun a h => by simp at h, trivial⟩
  | e :: r, h => by
    rw [ins]
    by_cases q : u e ≤ u d
    · rw [if_pos q]
      exact ⟨fun a ha => (List.mem_cons.mp ha).elim (fun g => by rw [g]; exact q) (fun g => Nat.le_trans (h.1 a g) q), h⟩
    · rw [if_neg q]
      exact ⟨fun a ha => ((ins_mem r a).mp ha).elim (fun g => by rw [g]; omega) (fun g => h.1 a g), h.2.insd⟩
theorem ins_fil {u : Nat → Nat} : ∀ {l : List Nat}, Srt u l → (ins u l d).filter o = if o d then ins u (l.filter o) d else l.filter o
  | [], _ => by
    cases hd : o d <;> simp [ins, hd]
  | e :: r, h => by
    rw [ins]
    by_cases q : u e ≤ u d
    · rw [if_pos q, List.filter_cons (x := d)]
      cases hd : o d
      · simp
      · have h2 : ins u ((e :: r).filter o) d = d :: (e :: r).filter o := ins_all _ (fun a ha => by
          have h3 := (List.mem_filter.mp ha).1
          exact (List.mem_cons.mp h3).elim (fun g => by rw [g]; exact q) (fun g => Nat.le_trans (h.1 a g) q))
        rw [if_pos rfl, if_pos rfl, h2]
    · rw [if_neg q, List.filter_cons, List.filter_cons, ins_fil h.2]
      cases he : o e
      · simp
      · cases hd : o d
        · simp
        · rw [if_pos rfl, if_pos rfl, if_pos rfl, if_pos rfl, ins, if_neg q]
/-- all debts, by their weeks -/
def lay (V : Vy) (o : Nat → Bool) : Nat → List Nat
  | 0 => []
  | i + 1 => if o i then ins (y_dd V) (lay V o i) i else lay V o i
def tt : Nat → Bool := fun _ => true
theorem lay_le : ∀ i, (lay V o i).length ≤ i
  | 0 => Nat.le_refl _
  | i + 1 => by
    have h := lay_le i
    rw [lay]
    cases o i
    · rw [if_neg pz_ft]; omega
    · rw [if_pos rfl, ins_len]; omega
theorem lay_t : ∀ i, (lay V tt i).length = i
  | 0 => rfl
  | i + 1 => by rw [lay, if_pos (show tt i = true from rfl), ins_len, lay_t i]
theorem lay_mem : ∀ i a, a ∈ lay V o i → a < i ∧ o a = true
  | 0, a, h => by simp [lay] at h
  | i + 1, a, h => by
    rw [lay] at h
    cases ho : o i
    · rw [ho, if_neg pz_ft] at h
      have := lay_mem i a h
      exact ⟨by omega, this.2⟩
    · rw [ho, if_pos rfl, ins_mem] at h
      rcases h with h | h
      · rw [h]; exact ⟨by omega, ho⟩
      · have := lay_mem i a h
        exact ⟨by omega, this.2⟩
theorem lay_srt : ∀ i, Srt (y_dd V) (lay V o i)
  | 0 => trivial
  | i + 1 => by
    rw [lay]
    cases o i
    · exact lay_srt i
    · exact (lay_srt i).insd
theorem lay_fil : ∀ i, lay V o i = (lay V tt i).filter o
  | 0 => rfl
  | i + 1 => by rw [lay, lay, if_pos (show tt i = true from rfl), ins_fil (lay_srt i), lay_fil i]
/-- the class's insertion -/
theorem c_ins_w {K : Int32 → Int32 → St → Oz} {d c : Nat} (x1 : Int32) {k : Nat} {s pre : List Nat} {S : St} (hk : k = s.length) (hs : k ≤ 9) (h : Arr (S.2.1 50) s) (h2 : ArP (S.2.1 50) k pre) (h3 : S.1 29 = nI c) :
    ∃ T, fC_PayChoice_sortByDue_98 K x1 (nI d) (nI k) S = K x1 (nI (d + 1)) T ∧ frm [29] [50] S T ∧ T.1 29 = nI (c + 1) ∧ Arr (T.2.1 50) (pre ++ d :: s) := by
  refine ⟨sF (sA S 50 (nI k) (nI d)) 29 (nI (c + 1)), ?_, (frm.rf.A (by simp)).F (by simp), rfl, ?_⟩
  · rw [fC_PayChoice_sortByDue_98, pz_gib (by omega) (by omega), ev_nx, tA_1, h3, nI_1, ev_nx, nI_1]
  · rw [tF_2, tA_21, if_pos rfl, nI_clamp (by omega)]
    subst hk
    exact Arr.app (upd_s _ _ _) (h.upd (Nat.le_refl _)) (h2.upd (Nat.le_refl _))
theorem c_ins {K : Int32 → Int32 → St → Oz} {d c : Nat} (x1 : Int32) (hD : y_D V ≤ 10) (hu : ∀ e, e < y_D V → y_dd V e ≤ 40) (hd : d < y_D V) : ∀ (s pre : List Nat) (k n : Nat) (S : St), k = s.length → (∀ e, e < y_D V → S.2.1 22 e = nI (y_dd V e)) → (∀ e ∈ s, e < y_D V) → Arr (S.2.1 50) s → ArP (S.2.1 50) k pre → k ≤ 9 → k < n → S.1 29 = nI c →
    ∃ T, fC_PayChoice_sortByDue_46 K n x1 (nI d) (nI k) S = K x1 (nI (d + 1)) T ∧ frm [29] [50] S T ∧ T.1 29 = nI (c + 1) ∧ Arr (T.2.1 50) (pre ++ ins (y_dd V) s d) := by
  intro s
  induction s with
  | nil =>
    intro pre k n S hk hdue hm h h2 h9 hn h3
    obtain ⟨n, rfl⟩ := pz_fu hn
    have e0 : k = 0 := hk
    rw [fC_PayChoice_sortByDue_46, it_leL (by omega) (by omega), if_pos (by omega)]
    exact c_ins_w x1 hk h9 h h2 h3
  | cons e s ih =>
    intro pre k n S hk hdue hm h h2 h9 hn h3
    obtain ⟨n, rfl⟩ := pz_fu hn
    obtain ⟨k, rfl⟩ : ∃ j, k = j + 1 := ⟨s.length, hk⟩
    have hk' : k = s.length := Nat.succ.inj hk
    have he := hm e (by simp)
    have hc : S.2.1 50 k = nI e := by rw [hk']; exact h.1
    have u1 := hu e he
    have u2 := hu d hd
    rw [fC_PayChoice_sortByDue_46, it_leL (by omega) (by omega), if_neg (by omega), nI_pred, pz_rA (n := k) (by omega), hc, pz_gib (by omega) (by omega), pz_gib (by omega) (by omega), pz_gib (by omega) (by omega), pz_rA (by omega), pz_rA (by omega), hdue e he, hdue d hd, it_le (by omega) (by omega), ins]
    by_cases q : y_dd V e ≤ y_dd V d
    · rw [if_pos q, if_pos q]
      exact c_ins_w x1 hk h9 h h2 h3
    · rw [if_neg q, if_neg q, pz_gib (by omega) (by omega), pz_gib (by omega) (by omega), ev_nx, pk_m1]
      have hrow : (sA S 50 (nI (k + 1)) (nI e)).2.1 50 = upd (S.2.1 50) (k + 1) (nI e) := by rw [tA_21, if_pos rfl, nI_clamp (by omega)]
      obtain ⟨T, e1, g, g1, g2⟩ := ih (pre ++ [e]) k n (sA S 50 (nI (k + 1)) (nI e)) hk' (fun e he => by rw [tA_21, if_neg (by decide)]; exact hdue e he) (fun a ha => hm a (by simp [ha])) (by rw [hrow]; exact h.2.upd (by omega)) (by rw [hrow]; exact (h2.upd (Nat.le_refl _)).snoc (upd_s _ _ _)) (by omega) (by omega) h3
      refine ⟨T, e1, (frm.rf.A (by simp)).tr g, g1, ?_⟩
      rw [List.append_assoc] at g2
      exact g2
/-- the reference's -/
theorem r_ins_w {K : Int32 → St → Oz} {d : Nat} {k : Nat} {s pre : List Nat} {S : St} (hk : k = s.length) (hs : k ≤ 9) (h : Arr (S.2.1 22) s) (h2 : ArP (S.2.1 22) k pre) :
    ∃ T, fR_laysDue_66 K (nI d) (nI k) S = K (nI (d + 1)) T ∧ frm [] [22] S T ∧ Arr (T.2.1 22) (pre ++ d :: s) := by
  refine ⟨sA S 22 (nI k) (nI d), ?_, frm.rf.A (by simp), ?_⟩
  · rw [fR_laysDue_66, pz_gib (by omega) (by omega), ev_nx, nI_1]
  · rw [tA_21, if_pos rfl, nI_clamp (by omega)]
    subst hk
    exact Arr.app (upd_s _ _ _) (h.upd (Nat.le_refl _)) (h2.upd (Nat.le_refl _))
theorem r_ins {K : Int32 → St → Oz} {d : Nat} (hD : y_D V ≤ 10) (hu : ∀ e, e < y_D V → y_dd V e ≤ 40) (hd : d < y_D V) : ∀ (s pre : List Nat) (k n : Nat) (S : St), k = s.length → (∀ e, e < y_D V → S.2.1 8 (4 * e + 3) = nI (y_dd V e)) → (∀ e ∈ s, e < y_D V) → Arr (S.2.1 22) s → ArP (S.2.1 22) k pre → k ≤ 9 → k < n →
    ∃ T, fR_laysDue_12 K n (nI d) (nI k) S = K (nI (d + 1)) T ∧ frm [] [22] S T ∧ Arr (T.2.1 22) (pre ++ ins (y_dd V) s d) := by
  intro s
  induction s with
  | nil =>
    intro pre k n S hk hdue hm h h2 h9 hn
    obtain ⟨n, rfl⟩ := pz_fu hn
    have e0 : k = 0 := hk
    rw [fR_laysDue_12, it_leL (by omega) (by omega), if_pos (by omega)]
    exact r_ins_w hk h9 h h2
  | cons e s ih =>
    intro pre k n S hk hdue hm h h2 h9 hn
    obtain ⟨n, rfl⟩ := pz_fu hn
    obtain ⟨k, rfl⟩ : ∃ j, k = j + 1 := ⟨s.length, hk⟩
    have hk' : k = s.length := Nat.succ.inj hk
    have he := hm e (by simp)
    have hc : S.2.1 22 k = nI e := by rw [hk']; exact h.1
    have u1 := hu e he
    have u2 := hu d hd
    rw [fR_laysDue_12, it_leL (by omega) (by omega), if_neg (by omega), nI_pred, pz_rA (n := k) (by omega), hc, show (4 : Int32) = nI 4 from rfl, show (3 : Int32) = nI 3 from rfl, pk_mul, pk_mul, nI_add, nI_add, pz_gib (by omega) (by omega), pz_gib (by omega) (by omega), pz_gib (by omega) (by omega), pz_rA (by omega), pz_rA (by omega), hdue e he, hdue d hd, it_le (by omega) (by omega), ins]
    by_cases q : y_dd V e ≤ y_dd V d
    · rw [if_pos q, if_pos q]
      exact r_ins_w hk h9 h h2
    · rw [if_neg q, if_neg q, pz_gib (by omega) (by omega), pz_gib (by omega) (by omega), ev_nx, pk_m1]
      have hrow : (sA S 22 (nI (k + 1)) (nI e)).2.1 22 = upd (S.2.1 22) (k + 1) (nI e) := by rw [tA_21, if_pos rfl, nI_clamp (by omega)]
      obtain ⟨T, e1, g, g2⟩ := ih (pre ++ [e]) k n (sA S 22 (nI (k + 1)) (nI e)) hk' (fun e he => by rw [tA_21, if_neg (by decide)]; exact hdue e he) (fun a ha => hm a (by simp [ha])) (by rw [hrow]; exact h.2.upd (by omega)) (by rw [hrow]; exact (h2.upd (Nat.le_refl _)).snoc (upd_s _ _ _)) (by omega) (by omega)
      refine ⟨T, e1, (frm.rf.A (by simp)).tr g, ?_⟩
      rw [List.append_assoc] at g2
      exact g2
theorem r_lays_2 : ∀ k n i (S : St), RV V S → i + k = y_D V → k < n → Arr (S.2.1 22) (lay V tt i) → ∃ T, fR_laysDue_2 n (nI i) S = some (rV, T) ∧ frm [] [22] S T ∧ Arr (T.2.1 22) (lay V tt (y_D V)) := by
  intro k
  induction k with
  | zero =>
    intro n i S hv hi hn h
    obtain ⟨n, rfl⟩ := pz_fu hn
    have h3 := hv.ok.2.2.1
    have e : i = y_D V := by omega
    subst e
    rw [fR_laysDue_2, hv.2.2.1, if_pos (nI_le (by omega) (by omega))]
    exact ⟨S, rfl, frm.rf, h⟩
  | succ k ih =>
    intro n i S hv hi hn h
    obtain ⟨n, rfl⟩ := pz_fu hn
    have h3 := hv.ok.2.2.1
    rw [fR_laysDue_2, hv.2.2.1, if_neg (nI_ge (by omega) (by omega))]
    obtain ⟨T, e1, g, g2⟩ := r_ins (V := V) (K := fun x1 S => fR_laysDue_2 n x1 S) (d := i) h3 (fun e he => (hv.ok.d he).2.2.2) (by omega) (lay V tt i) [] i FU S (lay_t i).symm (fun e he => (hv.2.2.2.2.2.2.1 e he).2.2.2) (fun e he => by have := (lay_mem i e he).1; omega) h trivial (by omega) (by rw [pz_FU]; omega)
    have g3 : Arr (T.2.1 22) (lay V tt (i + 1)) := g2
    obtain ⟨T2, e2, g4, g5⟩ := ih n (i + 1) T (hv.fr g (by decide) (by decide)) (by omega) (by omega) g3
    exact ⟨T2, e1.trans e2, g.tr g4, g5⟩
theorem r_lays (hv : RV V S) : ∃ T, fR_laysDue S = some (rV, T) ∧ frm [] [22] S T ∧ Arr (T.2.1 22) (lay V tt (y_D V)) := r_lays_2 (y_D V) FU 0 S hv (by omega) (by have := hv.ok.2.2.1; rw [pz_FU]; omega) trivial
theorem c_sort_7 : ∀ k n i (S : St), CV V S → CLw L S → RC V al w (S.2.1 46) → i + k = y_D V → k < n → S.1 29 = nI (lay V o i).length → Arr (S.2.1 50) (lay V o i) → (∀ e ∈ lay V o i, S.2.1 51 e = nI (w_need V L w e)) →
    ∃ T, fC_PayChoice_sortByDue_7 n (orB o (y_D V)) (nI i) S = some (rV, T) ∧ frm [29] [32, 33, 50, 51] S T ∧ T.1 29 = nI (lay V o (y_D V)).length ∧ Arr (T.2.1 50) (lay V o (y_D V)) ∧ ∀ e ∈ lay V o (y_D V), T.2.1 51 e = nI (w_need V L w e) := by
  intro k
  induction k with
  | zero =>
    intro n i S hv hL hr hi hn h9 h h5
    obtain ⟨n, rfl⟩ := pz_fu hn
    have h3 := hv.ok.2.2.1
    have e : i = y_D V := by omega
    subst e
    rw [fC_PayChoice_sortByDue_7, hv.2.2.1, if_pos (nI_le (by omega) (by omega))]
    exact ⟨S, rfl, frm.rf, h9, h, h5⟩
  | succ k ih =>
    intro n i S hv hL hr hi hn h9 h h5
    obtain ⟨n, rfl⟩ := pz_fu hn
    have h3 := hv.ok.2.2.1
    have hlen := lay_le (V := V) (o := o) i
    rw [fC_PayChoice_sortByDue_7, hv.2.2.1, if_neg (nI_ge (by omega) (by omega)), it_t1 (by omega), tb_orB (by omega) (by omega), decide_eq_true (show i < y_D V by omega), Bool.true_and]
    have hstep : lay V o (i + 1) = if o i then ins (y_dd V) (lay V o i) i else lay V o i := rfl
    cases ho : o i
    · rw [if_neg pz_ft, nI_1]
      rw [ho, if_neg pz_ft] at hstep
      exact ih n (i + 1) S hv hL hr (by omega) (by omega) (by rw [hstep]; exact h9) (by rw [hstep]; exact h) (by rw [hstep]; exact h5)
    · rw [ho, if_pos rfl] at hstep
      obtain ⟨T1, e1, g1⟩ := e_needOf_9 hv hL hr (d := i) (by omega) trivial
      have hb := w_need_le (L := L) (w := w) hv.ok (d := i) (by omega)
      have g2 : frm [] [32, 33, 51] S (sA T1 51 (nI i) (nI (w_need V L w i))) := (g1.wide (by simp) (by simp)).A (by simp)
      have hv2 := hv.fr g2 (by decide) (by decide)
      rw [if_pos rfl, e1, ev_I, pz_gib (by omega) (by omega), ev_nx, ev_nx, tA_1, g1.1 29 (by simp), h9]
      obtain ⟨T2, e3, g3, g4, g5⟩ := c_ins (V := V) (K := fun x1 x2 S => fC_PayChoice_sortByDue_7 n x1 x2 S) (d := i) (c := (lay V o i).length) (orB o (y_D V)) h3 (fun e he => (hv.ok.d he).2.2.2) (by omega) (lay V o i) [] (lay V o i).length FU (sA T1 51 (nI i) (nI (w_need V L w i))) rfl (fun e he => (hv2.2.2.2.2.2.2.1 e he).2.2.2) (fun e he => by have := (lay_mem i e he).1; omega) (by rw [g2.2.1 50 (by decide)]; exact h) trivial (by omega) (by rw [pz_FU]; omega) (by rw [g2.1 29 (by simp)]; exact h9)
      have g6 : frm [29] [32, 33, 50, 51] S T2 := (g2.wide (by simp) (by simp)).tr (g3.wide (by simp) (by simp))
      have w51 : ∀ e, T2.2.1 51 e = if e = i then nI (w_need V L w i) else S.2.1 51 e := fun e => by
        rw [g3.2.1 51 (by decide), tA_21, if_pos rfl, nI_clamp (by omega), upd_i, g1.2.1 51 (by decide)]
      obtain ⟨T3, e4, g7, g8, g9, g10⟩ := ih n (i + 1) T2 (hv.fr g6 (by decide) (by decide)) (hL.fr g6 (by decide) (by decide)) (by rw [g6.2.1 46 (by decide)]; exact hr) (by omega) (by omega) (by rw [hstep, ins_len]; exact g4) (by rw [hstep]; exact g5) (fun e he => by
        rw [hstep, ins_mem] at he
        rw [w51]
        by_cases q : e = i
        · rw [if_pos q, q]
        · rw [if_neg q]; exact h5 e (he.resolve_left q))
      exact ⟨T3, e3.trans e4, g6.tr g7, g8, g9, g10⟩
theorem c_sort (hv : CV V S) (hL : CLw L S) (hr : RC V al w (S.2.1 46)) : ∃ T, fC_PayChoice_sortByDue (orB o (y_D V)) S = some (rV, T) ∧ frm [29] [32, 33, 50, 51] S T ∧ T.1 29 = nI (lay V o (y_D V)).length ∧ Arr (T.2.1 50) (lay V o (y_D V)) ∧ ∀ e ∈ lay V o (y_D V), T.2.1 51 e = nI (w_need V L w e) := by
  have g : frm [29] [32, 33, 50, 51] S (sF S 29 0) := frm.rf.F (by simp)
  obtain ⟨T, e1, g1, h⟩ := c_sort_7 (o := o) (y_D V) FU 0 (sF S 29 0) (hv.fr g (by decide) (by decide)) (hL.fr g (by decide) (by decide)) hr (by omega) (by have := hv.ok.2.2.1; rw [pz_FU]; omega) rfl trivial (fun e he => by simp [lay] at he)
  refine ⟨T, ?_, g.tr g1, h⟩
  rw [fC_PayChoice_sortByDue, ev_nx]
  exact e1
end PP2
