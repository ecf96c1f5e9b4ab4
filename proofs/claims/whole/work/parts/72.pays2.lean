/-! pays: the choice (written by wip/whole/pure/p72.py) -/
section PP3
variable {V : Vy} {L : Lw} {w : Rw} {S SC SR : St} {f : Nat → Int32} {x y : Int32} {d e p q N v : Nat} {o : Nat → Bool}
/-- of the debts of x in a list: their lines; the lines of their poems; in time -/
def lnS (V : Vy) (x : Int32) : List Nat → Nat
  | [] => 0
  | e :: l => (if tb x e then y_l V (y_dp V e) else 0) + lnS V x l
def mmS (V : Vy) (x : Int32) : List Nat → Int32 → Nat → Nat
  | [], _, s => s
  | e :: l, b, s => if tb x e then (if tb b (y_dp V e) then mmS V x l b s else mmS V x l (b ||| ((1 : Int32) <<< (nI (y_dp V e) &&& 31))) (s + y_l V (y_dp V e))) else mmS V x l b s
def ttS (V : Vy) (L : Lw) (w : Rw) (x : Int32) : List Nat → Nat → Bool
  | [], _ => true
  | e :: l, a => if tb x e then decide (nI (a + w_need V L w e) ≤ nI (y_dd V e) - nI (w_t w)) && ttS V L w x l (a + w_need V L w e) else ttS V L w x l a
theorem lnS_fil : ∀ (l : List Nat), (∀ e ∈ l, tb x e = true → o e = true) → lnS V x (l.filter o) = lnS V x l
  | [], _ => rfl
  | e :: l, h => by
    have ih := lnS_fil l (fun a ha => h a (by simp [ha]))
    rw [List.filter_cons, lnS]
    cases ho : o e
    · rw [if_neg pz_ft, ih]
      cases ht : tb x e
      · rw [if_neg pz_ft, Nat.zero_add]
      · exact absurd (h e (by simp) ht) (by rw [ho]; exact pz_ft)
    · rw [if_pos rfl, lnS, ih]
theorem mmS_fil : ∀ (l : List Nat) (b : Int32) (s : Nat), (∀ e ∈ l, tb x e = true → o e = true) → mmS V x (l.filter o) b s = mmS V x l b s
  | [], _, _, _ => rfl
  | e :: l, b, s, h => by
    have ih := fun b s => mmS_fil l b s (fun a ha => h a (by simp [ha]))
    rw [List.filter_cons, mmS]
    cases ho : o e
    · rw [if_neg pz_ft, ih]
      cases ht : tb x e
      · rw [if_neg pz_ft]
      · exact absurd (h e (by simp) ht) (by rw [ho]; exact pz_ft)
    · rw [if_pos rfl, mmS, ih, ih]
theorem ttS_fil : ∀ (l : List Nat) (a : Nat), (∀ e ∈ l, tb x e = true → o e = true) → ttS V L w x (l.filter o) a = ttS V L w x l a
  | [], _, _ => rfl
  | e :: l, a, h => by
    have ih := fun a => ttS_fil l a (fun a ha => h a (by simp [ha]))
    rw [List.filter_cons, ttS]
    cases ho : o e
    · rw [if_neg pz_ft, ih]
      cases ht : tb x e
      · rw [if_neg pz_ft]
      · exact absurd (h e (by simp) ht) (by rw [ho]; exact pz_ft)
    · rw [if_pos rfl, ttS, ih, ih]
theorem lnS_le (hV : VOK V) : ∀ (l : List Nat), (∀ e ∈ l, e < y_D V) → lnS V x l ≤ 40 * l.length
  | [], _ => Nat.le_refl _
  | e :: l, h => by
    have ih := lnS_le hV l (fun a ha => h a (by simp [ha]))
    have h1 := (hV.l (hV.d (h e (by simp))).2.1).2.1
    have h2 : (e :: l).length = l.length + 1 := rfl
    rw [lnS, h2]
    cases tb x e
    · rw [if_neg pz_ft]; omega
    · rw [if_pos rfl]; omega
/-- the class -/
theorem c_lns (hv : CV V S) (h9 : S.1 29 = nI N) (hN : N ≤ 10) : ∀ (l : List Nat) (n i acc : Nat), ArF (S.2.1 50) i l → i + l.length = N → (∀ e ∈ l, e < y_D V) → acc ≤ 40 * i → l.length < n → fC_PayChoice_linesOfEach_4 n x (nI acc) (nI i) S = some (rI (nI (acc + lnS V x l)), S) := by
  have hD := hv.ok.2.2.1
  have hP := hv.ok.1
  intro l
  induction l with
  | nil =>
    intro n i acc h hi hm ha hn
    obtain ⟨n, rfl⟩ := pz_fu hn
    have e0 : i = N := hi
    rw [fC_PayChoice_linesOfEach_4, h9, if_pos (nI_le (by omega) (by omega))]
    rfl
  | cons e l ih =>
    intro n i acc h hi hm ha hn
    obtain ⟨n, rfl⟩ := pz_fu hn
    have hi2 : i + (l.length + 1) = N := hi
    have hn2 : l.length + 1 < n + 1 := hn
    have he := hm e (by simp)
    have h7 := hv.ok.d he
    have h8 := (hv.ok.l h7.2.1).2.1
    rw [fC_PayChoice_linesOfEach_4, h9, if_neg (nI_ge (by omega) (by omega)), pz_rA (n := i) (by omega), h.1, pz_gib (by omega) (by omega), it_t1 (by omega), lnS]
    cases ht : tb x e
    · rw [if_neg pz_ft, if_neg pz_ft, nI_1, Nat.zero_add]
      exact ih n (i + 1) acc h.2 (by omega) (fun a ha => hm a (by simp [ha])) (by omega) (by omega)
    · rw [if_pos rfl, if_pos rfl, pz_gib (by omega) (by omega), pz_gib (by omega) (by omega), pz_rA (by omega), (hv.2.2.2.2.2.2.1 e he).2.1, pz_gib (by omega) (by omega), pz_rA (by omega), (hv.2.2.2.2.1 _ h7.2.1).1, nI_add, ev_nx, nI_1, ← Nat.add_assoc]
      exact ih n (i + 1) (acc + y_l V (y_dp V e)) h.2 (by omega) (fun a ha => hm a (by simp [ha])) (by omega) (by omega)
theorem c_mem (hv : CV V S) (hr : RC V al w (S.2.1 46)) (hm0 : v < y_M V) (h9 : S.1 29 = nI N) (hN : N ≤ 10) : ∀ (l : List Nat) (n i s : Nat) (b : Int32), ArF (S.2.1 50) i l → i + l.length = N → (∀ e ∈ l, e < y_D V) → s ≤ 40 * i → l.length < n → fC_PayChoice_hasMemory_8 n (nI v) x (nI s) b (nI i) S = some (rI (if mmS V x l b s ≤ w_mem V w v then 1 else 0), S) := by
  have hD := hv.ok.2.2.1
  have hP := hv.ok.1
  have hM := hv.ok.2.1
  have hw := w_mem_le (w := w) hv.ok hm0
  intro l
  induction l with
  | nil =>
    intro n i s b h hi hm ha hn
    obtain ⟨n, rfl⟩ := pz_fu hn
    have e0 : i = N := hi
    rw [fC_PayChoice_hasMemory_8, h9, if_pos (nI_le (by omega) (by omega)), e_memoryOf_9 hv hr hm0, ev_I, it_lt (by omega) (by omega), mmS]
    by_cases q : w_mem V w v < s
    · rw [if_pos q, if_neg (by omega)]
    · rw [if_neg q, if_pos (by omega)]
  | cons e l ih =>
    intro n i s b h hi hm ha hn
    obtain ⟨n, rfl⟩ := pz_fu hn
    have hi2 : i + (l.length + 1) = N := hi
    have hn2 : l.length + 1 < n + 1 := hn
    have he := hm e (by simp)
    have h7 := hv.ok.d he
    have h8 := (hv.ok.l h7.2.1).2.1
    rw [fC_PayChoice_hasMemory_8, h9, if_neg (nI_ge (by omega) (by omega)), pz_rA (n := i) (by omega), h.1, pz_gib (by omega) (by omega), pz_gib (by omega) (by omega), pz_rA (by omega), (hv.2.2.2.2.2.2.1 e he).2.1, ev_nx, pz_gib (by omega) (by omega), it_t1 (by omega), mmS]
    cases ht : tb x e
    · rw [if_neg pz_ft, if_neg pz_ft, nI_1]
      exact ih n (i + 1) s b h.2 (by omega) (fun a ha => hm a (by simp [ha])) (by omega) (by omega)
    · rw [if_pos rfl, if_pos rfl, it_t0 (by omega)]
      cases hb : tb b (y_dp V e)
      · rw [if_neg pz_ft, if_neg pz_ft, ev_nx, pz_gib (by omega) (by omega), pz_rA (by omega), (hv.2.2.2.2.1 _ h7.2.1).1, nI_add, ev_nx, nI_1]
        exact ih n (i + 1) _ _ h.2 (by omega) (fun a ha => hm a (by simp [ha])) (by omega) (by omega)
      · rw [if_pos rfl, if_pos rfl, nI_1]
        exact ih n (i + 1) s b h.2 (by omega) (fun a ha => hm a (by simp [ha])) (by omega) (by omega)
theorem c_tim (hv : CV V S) (hr : RC V al w (S.2.1 46)) (h9 : S.1 29 = nI N) (hN : N ≤ 10) : ∀ (l : List Nat) (n i a : Nat), ArF (S.2.1 50) i l → i + l.length = N → (∀ e ∈ l, e < y_D V ∧ S.2.1 51 e = nI (w_need V L w e)) → l.length < n → fC_PayChoice_isInTime_4 n x (nI a) (nI i) S = some (rI (if ttS V L w x l a then 1 else 0), S) := by
  have hD := hv.ok.2.2.1
  intro l
  induction l with
  | nil =>
    intro n i a h hi hm hn
    obtain ⟨n, rfl⟩ := pz_fu hn
    have e0 : i = N := hi
    rw [fC_PayChoice_isInTime_4, h9, if_pos (nI_le (by omega) (by omega)), ttS, if_pos rfl]
  | cons e l ih =>
    intro n i a h hi hm hn
    obtain ⟨n, rfl⟩ := pz_fu hn
    have hi2 : i + (l.length + 1) = N := hi
    have hn2 : l.length + 1 < n + 1 := hn
    obtain ⟨he, hne⟩ := hm e (by simp)
    rw [fC_PayChoice_isInTime_4, h9, if_neg (nI_ge (by omega) (by omega)), pz_rA (n := i) (by omega), h.1, pz_gib (by omega) (by omega), ev_nx, it_t1 (by omega), ttS]
    cases ht : tb x e
    · rw [if_neg pz_ft, if_neg pz_ft, nI_1]
      exact ih n (i + 1) a h.2 (by omega) (fun a ha => hm a (by simp [ha])) (by omega)
    · rw [if_pos rfl, if_pos rfl, pz_gib (by omega) (by omega), pz_rA (by omega), hne, nI_add, ev_nx, pz_gib (by omega) (by omega), fC_State_week_9, show (73 : Int32) = nI 73 from rfl, pz_rA (by omega), hr.2.2.2.1, ev_I, pz_rA (by omega), (hv.2.2.2.2.2.2.1 e he).2.2.2]
      by_cases q : nI (a + w_need V L w e) ≤ nI (y_dd V e) - nI (w_t w)
      · rw [if_pos q, decide_eq_true q, Bool.true_and, nI_1]
        exact ih n (i + 1) _ h.2 (by omega) (fun a ha => hm a (by simp [ha])) (by omega)
      · rw [if_neg q, decide_eq_false q, Bool.false_and, if_neg pz_ft]
/-- the reference -/
theorem or_same {b : Int32} {p : Nat} (hp : p < 32) (h : tb b p = true) : b ||| ((1 : Int32) <<< (nI p &&& 31)) = b := tb_ext (fun i hi => by
  rw [tb_or, tb_k1 p hp i hi]
  by_cases e : i = p
  · rw [e, h]; rfl
  · rw [decide_eq_false e, Bool.or_false])
theorem r_pay_87 {K : Int32 → Int32 → Int32 → Int32 → Int32 → Int32 → Int32 → St → Oz} (hv : RV V S) (hL : RLw L S) (hr : RR V al w (S.2.1 18)) (he : e < y_D V) {a s z ln i : Nat} {b x1 : Int32} {ok : Bool} (hln : S.1 25 = nI ln) :
    ∃ T, fR_isPayable_87 K x1 x (nI a) b (if ok then 1 else 0) (nI i) (nI e) (nI (y_dp V e)) (nI z) (nI s) S = K x1 x (nI (a + w_need V L w e)) (b ||| ((1 : Int32) <<< (nI (y_dp V e) &&& 31))) (nI (s + z)) (if ok && decide (nI (a + w_need V L w e) ≤ nI (y_dd V e) - nI (w_t w)) then 1 else 0) (nI (i + 1)) T ∧ frm [25] [13, 14] S T ∧ T.1 25 = nI (ln + y_l V (y_dp V e)) := by
  have hD := hv.ok.2.2.1
  have hP := hv.ok.1
  have h7 := hv.ok.d he
  have g0 : frm [25] [13, 14] S (sF S 25 (nI (ln + y_l V (y_dp V e)))) := frm.rf.F (by simp)
  obtain ⟨T, e1, g1⟩ := r_needOf (hv.fr g0 (by decide) (by decide)) (hL.fr g0 (by decide) (by decide)) hr he trivial
  have g2 : frm [25] [13, 14] S T := g0.tr (g1.wide (by simp) (by simp))
  refine ⟨T, ?_, g2, g1.1 25 (by simp)⟩
  have hv2 := hv.fr g2 (by decide) (by decide)
  have hr2 : RR V al w (T.2.1 18) := by rw [g2.2.1 18 (by decide)]; exact hr
  rw [fR_isPayable_87, nI_add, ev_nx, ev_nx, show (2 : Int32) = nI 2 from rfl, pk_mul, pz_gib (by omega) (by omega), pz_rA (by omega), (hv.2.2.2.2.1 _ h7.2.1).1, hln, nI_add, ev_nx, e1, ev_I, nI_add, ev_nx, it_b0, nI_1]
  cases ok
  · rw [if_neg pz_ft]
    rfl
  · rw [if_pos rfl, show (4 : Int32) = nI 4 from rfl, show (3 : Int32) = nI 3 from rfl, pk_mul, nI_add, pz_gib (by omega) (by omega), pz_rA (by omega), (hv2.2.2.2.2.2.2.1 e he).2.2.2, show (94 : Int32) = nI 94 from rfl, pz_rA (by omega), hr2.2.2.2.1]
    by_cases q : nI (a + w_need V L w e) ≤ nI (y_dd V e) - nI (w_t w)
    · rw [if_neg (Int32.not_lt.mpr q), decide_eq_true q]
      rfl
    · rw [if_pos (Int32.not_le.mp q), decide_eq_false q]
      rfl
theorem r_pay_19 (hm0 : v < y_M V) : ∀ (l : List Nat) (n i a s ln : Nat) (b : Int32) (ok : Bool) (S : St), RV V S → RLw L S → RR V al w (S.2.1 18) → S.1 25 = nI ln → ArF (S.2.1 22) i l → i + l.length = y_D V → (∀ e ∈ l, e < y_D V) → s ≤ 40 * i → l.length < n →
    ∃ T, fR_isPayable_19 n (nI v) x (nI a) b (nI s) (if ok then 1 else 0) (nI i) S = some (rI (if ok && ttS V L w x l a && decide (mmS V x l b s ≤ w_mem V w v) then 1 else 0), T) ∧ frm [25] [13, 14] S T ∧ T.1 25 = nI (ln + lnS V x l) := by
  intro l
  induction l with
  | nil =>
    intro n i a s ln b ok S hv hL hr hln h hi hm hs hn
    obtain ⟨n, rfl⟩ := pz_fu hn
    have hD := hv.ok.2.2.1
    have hM := hv.ok.2.1
    have hw := w_mem_le (w := w) hv.ok hm0
    have e0 : i = y_D V := hi
    refine ⟨S, ?_, frm.rf, hln⟩
    rw [fR_isPayable_19, hv.2.2.1, if_pos (nI_le (by omega) (by omega)), it_b0, ttS, mmS, Bool.and_true]
    cases ok
    · rw [if_neg pz_ft, Bool.false_and, if_neg pz_ft]
    · rw [if_pos rfl, r_memoryOf hv hr trivial hm0, ev_I, it_lt (by omega) (by omega), Bool.true_and]
      by_cases q : w_mem V w v < s
      · rw [if_pos q, decide_eq_false (by omega), if_neg pz_ft]
      · rw [if_neg q, decide_eq_true (by omega), if_pos rfl]
  | cons e l ih =>
    intro n i a s ln b ok S hv hL hr hln h hi hm hs hn
    obtain ⟨n, rfl⟩ := pz_fu hn
    have hD := hv.ok.2.2.1
    have hP := hv.ok.1
    have hi2 : i + (l.length + 1) = y_D V := hi
    have hn2 : l.length + 1 < n + 1 := hn
    have he := hm e (by simp)
    have h7 := hv.ok.d he
    have h8 := (hv.ok.l h7.2.1).2.1
    rw [fR_isPayable_19, hv.2.2.1, if_neg (nI_ge (by omega) (by omega)), pz_rA (n := i) (by omega), h.1, pz_gib (by omega) (by omega), ev_nx, it_t0 (by omega), ttS, mmS, lnS]
    cases ht : tb x e
    · rw [if_neg pz_ft, if_neg pz_ft, if_neg pz_ft, if_neg pz_ft, nI_1, Nat.zero_add]
      exact ih n (i + 1) a s ln b ok S hv hL hr hln h.2 (by omega) (fun a ha => hm a (by simp [ha])) (by omega) (by omega)
    · rw [if_pos rfl, if_pos rfl, if_pos rfl, if_pos rfl, show (4 : Int32) = nI 4 from rfl, pk_mul, nI_1, pz_gib (by omega) (by omega), pz_rA (by omega), (hv.2.2.2.2.2.2.1 e he).2.1, ev_nx, it_t0 (by omega), ← Nat.add_assoc, ← Bool.and_assoc]
      have go : ∀ (z : Nat), s + z ≤ 40 * (i + 1) → ∀ m, mmS V x l (b ||| ((1 : Int32) <<< (nI (y_dp V e) &&& 31))) (s + z) = m → ∃ T, fR_isPayable_87 (fun x1 x2 x3 x4 x5 x6 x7 S => fR_isPayable_19 n x1 x2 x3 x4 x5 x6 x7 S) (nI v) x (nI a) b (if ok then 1 else 0) (nI i) (nI e) (nI (y_dp V e)) (nI z) (nI s) S = some (rI (if ok && decide (nI (a + w_need V L w e) ≤ nI (y_dd V e) - nI (w_t w)) && ttS V L w x l (a + w_need V L w e) && decide (m ≤ w_mem V w v) then 1 else 0), T) ∧ frm [25] [13, 14] S T ∧ T.1 25 = nI (ln + y_l V (y_dp V e) + lnS V x l) := fun z hz m hm9 => by
        obtain ⟨T, e1, g1, h1⟩ := r_pay_87 (K := fun x1 x2 x3 x4 x5 x6 x7 S => fR_isPayable_19 n x1 x2 x3 x4 x5 x6 x7 S) (x := x) (x1 := nI v) (a := a) (s := s) (z := z) (i := i) (b := b) (ok := ok) hv hL hr he hln
        obtain ⟨T2, e2, g2, h2⟩ := ih n (i + 1) (a + w_need V L w e) (s + z) (ln + y_l V (y_dp V e)) (b ||| ((1 : Int32) <<< (nI (y_dp V e) &&& 31))) (ok && decide (nI (a + w_need V L w e) ≤ nI (y_dd V e) - nI (w_t w))) T (hv.fr g1 (by decide) (by decide)) (hL.fr g1 (by decide) (by decide)) (by rw [g1.2.1 18 (by decide)]; exact hr) h1 (by rw [g1.2.1 22 (by decide)]; exact h.2) (by omega) (fun a ha => hm a (by simp [ha])) hz (by omega)
        rw [hm9] at e2
        exact ⟨T2, e1.trans e2, g1.tr g2, h2⟩
      cases hb : tb b (y_dp V e)
      · rw [if_neg pz_ft, if_neg pz_ft, show (2 : Int32) = nI 2 from rfl, pk_mul, pz_gib (by omega) (by omega), pz_rA (by omega), (hv.2.2.2.2.1 _ h7.2.1).1]
        exact go (y_l V (y_dp V e)) (by omega) _ rfl
      · rw [if_pos rfl, if_pos rfl]
        exact go 0 (by omega) _ (by rw [or_same (by omega) hb, Nat.add_zero])
theorem r_pay (hv : RV V S) (hL : RLw L S) (hr : RR V al w (S.2.1 18)) (hm0 : v < y_M V) {l : List Nat} (h : ArF (S.2.1 22) 0 l) (hl : l.length = y_D V) (hm : ∀ e ∈ l, e < y_D V) (x : Int32) :
    ∃ T, fR_isPayable (nI v) x S = some (rI (if ttS V L w x l 0 && decide (mmS V x l 0 0 ≤ w_mem V w v) then 1 else 0), T) ∧ frm [25] [13, 14] S T ∧ T.1 25 = nI (lnS V x l) := by
  have g : frm [25] [13, 14] S (sF S 25 0) := frm.rf.F (by simp)
  have hD := hv.ok.2.2.1
  obtain ⟨T, e1, g1, h1⟩ := r_pay_19 (x := x) hm0 l FU 0 0 0 0 0 true (sF S 25 0) (hv.fr g (by decide) (by decide)) (hL.fr g (by decide) (by decide)) hr rfl h (by omega) hm (by omega) (by rw [pz_FU]; omega)
  rw [Bool.true_and, Nat.zero_add] at *
  refine ⟨T, ?_, g.tr g1, h1⟩
  rw [fR_isPayable, ev_nx]
  exact e1
end PP3
