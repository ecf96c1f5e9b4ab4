/-! pays: the loop over sets (written by wip/whole/pure/p73.py) -/
section PP4
variable {V : Vy} {L : Lw} {w : Rw} {S SC SR : St} {f : Nat → Int32} {x y : Int32} {d e p q N v : Nat} {o : Nat → Bool}
def cnN : Nat → Nat → Nat
  | 0, _ => 0
  | r + 1, k => k % 2 + cnN r (k / 2)
theorem cnN_le : ∀ r k, cnN r k ≤ r
  | 0, _ => Nat.le_refl _
  | r + 1, k => by
    have := cnN_le r (k / 2)
    have h2 : k % 2 < 2 := Nat.mod_lt _ (by omega)
    rw [cnN]
    omega
def onI (x : Int32) : Nat → Int32
  | 0 => 0
  | i + 1 => onI x i + ((x >>> (nI i &&& 31)) &&& 1)
def bcI (x0 : Int32) : Int32 :=
  let v1 := x0 - ((((x0 : Int32).toUInt32 >>> ((1 : Int32).toUInt32 &&& Int32.toUInt32 31)).toInt32) &&& 1431655765)
  let v2 := (v1 &&& 858993459) + ((((v1 : Int32).toUInt32 >>> ((2 : Int32).toUInt32 &&& Int32.toUInt32 31)).toInt32) &&& 858993459)
  let v3 := (v2 + (((v2 : Int32).toUInt32 >>> ((4 : Int32).toUInt32 &&& Int32.toUInt32 31)).toInt32)) &&& 252645135
  let v4 := v3 + (((v3 : Int32).toUInt32 >>> ((8 : Int32).toUInt32 &&& Int32.toUInt32 31)).toInt32)
  let v5 := v4 + (((v4 : Int32).toUInt32 >>> ((16 : Int32).toUInt32 &&& Int32.toUInt32 31)).toInt32)
  v5 &&& 63
theorem bc_all : ∀ a, a < 32 → ∀ b, b < 32 → bcI (nI (32 * a + b)) = nI (cnN 10 (32 * a + b)) := by decide +kernel
theorem on_all : ∀ a, a < 32 → ∀ b, b < 32 → onI (nI (32 * a + b)) 10 = nI (cnN 10 (32 * a + b)) := by decide +kernel
theorem c_bits {k : Nat} (hk : k < 1024) : fC_Integer_bitCount (nI k) S = some (rI (nI (cnN 10 k)), S) := by
  have h := bc_all (k / 32) (by omega) (k % 32) (by omega)
  rw [Nat.div_add_mod] at h
  rw [← h]
  rfl
theorem r_ones_4 (x : Int32) : ∀ k n i, i + k = 10 → k < n → fR_ones_4 n x (onI x i) (nI i) S = some (rI (onI x 10), S) := by
  intro k
  induction k with
  | zero =>
    intro n i hi hn
    obtain ⟨n, rfl⟩ := pz_fu hn
    have e : i = 10 := by omega
    subst e
    rw [fR_ones_4, if_pos (by decide)]
  | succ k ih =>
    intro n i hi hn
    obtain ⟨n, rfl⟩ := pz_fu hn
    rw [fR_ones_4, it_Lle (by omega) (by omega), if_neg (by omega), ev_nx, nI_1]
    exact ih n (i + 1) (by omega) (by omega)
theorem r_ones {k : Nat} (hk : k < 1024) : fR_ones (nI k) S = some (rI (nI (cnN 10 k)), S) := by
  have h := on_all (k / 32) (by omega) (k % 32) (by omega)
  rw [Nat.div_add_mod] at h
  rw [← h]
  exact r_ones_4 (nI k) 10 FU 0 (by omega) (by rw [pz_FU]; omega)
theorem tb_1023 : ∀ i, i < 32 → tb 1023 i = decide (i < 10) := by decide +kernel
theorem orB_nI {n : Nat} (hn : n ≤ 10) : ∃ k : Nat, k < 1024 ∧ orB o n = nI k := by
  obtain ⟨k, hk, e⟩ := pk_andE (orB o n) (m := 1023) 10 rfl
  refine ⟨k, hk, ?_⟩
  rw [← e]
  refine tb_ext (fun i hi => ?_)
  rw [tb_and, tb_1023 i hi, tb_orB (by omega) hi]
  by_cases h : i < n
  · rw [decide_eq_true h, decide_eq_true (show i < 10 by omega), Bool.and_true]
  · rw [decide_eq_false h, Bool.false_and, Bool.false_and]
theorem sb_lt {a b : Nat} (ha : a < 100) (hb : b < 100) : (0 < nI a - nI b) = (b < a) := propext (by
  rw [Int32.lt_iff_toInt_lt, pk_sub_toInt (by omega) (by omega), show (0 : Int32).toInt = 0 from rfl]
  omega)
theorem sb_eq {a b : Nat} (ha : a < 100) (hb : b < 100) : (nI a - nI b = 0) = (a = b) := propext (by
  rw [← Int32.toInt_inj, pk_sub_toInt (by omega) (by omega), show (0 : Int32).toInt = 0 from rfl]
  omega)
theorem c_better (hv : CV V S) {l : List Nat} (h9 : S.1 29 = nI l.length) (hN : l.length ≤ 10) (hA : ArF (S.2.1 50) 0 l) (hm : ∀ e ∈ l, e < y_D V) {a b : Nat} (ha : a < 1024) (hb : b < 1024) :
    fC_PayChoice_isBetter (nI a) (nI b) S = some (rI (if cnN 10 b < cnN 10 a then 1 else if cnN 10 a = cnN 10 b then (if lnS V (nI a) l ≤ lnS V (nI b) l then 0 else 1) else 0), S) := by
  have h1 := cnN_le 10 a
  have h2 := cnN_le 10 b
  have e : ∀ x, fC_PayChoice_linesOfEach x S = some (rI (nI (lnS V x l)), S) := fun x => by
    have h := c_lns (x := x) hv h9 hN l FU 0 0 hA (by omega) hm (by omega) (by rw [pz_FU]; omega)
    rw [Nat.zero_add] at h
    exact h
  have la := lnS_le (x := nI a) hv.ok l hm
  have lb := lnS_le (x := nI b) hv.ok l hm
  rw [fC_PayChoice_isBetter, c_bits ha, ev_I, c_bits hb, ev_I, ev_nx]
  by_cases q : cnN 10 b < cnN 10 a
  · rw [if_pos (by rw [sb_lt (by omega) (by omega)]; exact q), if_pos q]
  · rw [if_neg (by rw [sb_lt (by omega) (by omega)]; exact q), if_neg q]
    by_cases q2 : cnN 10 a = cnN 10 b
    · rw [if_pos (by rw [sb_eq (by omega) (by omega)]; exact q2), if_pos q2, e, ev_I, e, ev_I, it_le (by omega) (by omega)]
      by_cases q3 : lnS V (nI a) l ≤ lnS V (nI b) l
      · rw [if_pos q3, if_pos q3]
      · rw [if_neg q3, if_neg q3]
    · rw [if_neg (by rw [sb_eq (by omega) (by omega)]; exact q2), if_neg q2]
theorem pays_loop {O : Nat} (hO : O < 1024) (hv : CV V SC) (hr : RC V al w (SC.2.1 46)) (hm0 : v < y_M V) {lf lc : List Nat} (hlc : lc = lf.filter o) (h9 : SC.1 29 = nI lc.length) (hA : ArF (SC.2.1 50) 0 lc) (h51 : ∀ e ∈ lc, SC.2.1 51 e = nI (w_need V L w e)) (hlf : lf.length = y_D V) (hm : ∀ e ∈ lf, e < y_D V) (hop : ∀ e ∈ lf, tb (nI O) e = true → o e = true) :
    ∀ k n m x bn (SR : St), x + k = O + 1 → k < n → k < m → bn < 1024 → (∀ e ∈ lf, tb (nI bn) e = true → o e = true) → RV V SR → RLw L SR → RR V al w (SR.2.1 18) → ArF (SR.2.1 22) 0 lf →
    ∃ r T, fC_PayChoice_chosenFor_29 n (nI v) (nI O) (nI bn) (nI x) SC = some (rI r, SC) ∧ fR_pays_39 m (nI v) (nI O) (nI bn) (nI (lnS V (nI bn) lf)) (nI x) SR = some (rI r, T) ∧ frm [25] [13, 14] SR T := by
  have hD := hv.ok.2.2.1
  have hlc10 : lc.length ≤ 10 := by
    have h := List.length_filter_le o lf
    rw [← hlc] at h
    omega
  have hmc : ∀ e ∈ lc, e < y_D V := fun e he => hm e (by rw [hlc] at he; exact (List.mem_filter.mp he).1)
  intro k
  induction k with
  | zero =>
    intro n m x bn SR hx hn hk hb hbs rv rL rr rA2
    obtain ⟨n, rfl⟩ := pz_fu hn
    obtain ⟨m, rfl⟩ := pz_fu hk
    refine ⟨nI bn, SR, ?_, ?_, frm.rf⟩
    · rw [fC_PayChoice_chosenFor_29, if_pos (nI_lt (by omega) (by omega))]
    · rw [fR_pays_39, if_pos (nI_lt (by omega) (by omega))]
  | succ k ih =>
    intro n m x bn SR hx hn hk hb hbs rv rL rr rA2
    obtain ⟨n, rfl⟩ := pz_fu hn
    obtain ⟨m, rfl⟩ := pz_fu hk
    have next : ∀ c, c < 1024 → (∀ e ∈ lf, tb (nI c) e = true → o e = true) → ∀ SR', frm [25] [13, 14] SR SR' → ∃ r T, fC_PayChoice_chosenFor_29 n (nI v) (nI O) (nI c) (nI (x + 1)) SC = some (rI r, SC) ∧ fR_pays_39 m (nI v) (nI O) (nI c) (nI (lnS V (nI c) lf)) (nI (x + 1)) SR' = some (rI r, T) ∧ frm [25] [13, 14] SR T := fun c hc hcs SR' g => by
      obtain ⟨r, T, e1, e2, g2⟩ := ih n m (x + 1) c SR' (by omega) (by omega) (by omega) hc hcs (rv.fr g (by decide) (by decide)) (rL.fr g (by decide) (by decide)) (by rw [g.2.1 18 (by decide)]; exact rr) (by rw [g.2.1 22 (by decide)]; exact rA2)
      exact ⟨r, T, e1, e2, g.tr g2⟩
    rw [fC_PayChoice_chosenFor_29, fR_pays_39, if_neg (nI_nlt (by omega) (by omega)), if_neg (nI_nlt (by omega) (by omega)), nI_1]
    by_cases q : nI x &&& (nI O ^^^ (-1)) = 0
    · have hxs : ∀ e ∈ lf, tb (nI x) e = true → o e = true := fun e he ht => by
        have h1 : tb (nI x &&& (nI O ^^^ (-1))) e = false := by rw [q, tb_0]
        have h2 := hm e he
        rw [tb_and, tb_not _ (by omega), ht, Bool.true_and] at h1
        refine hop e he ?_
        cases h : tb (nI O) e
        · rw [h] at h1; exact absurd h1 (by decide)
        · rfl
      have hx2 : x < 1024 := by omega
      obtain ⟨T, e1, g1, h1⟩ := r_pay rv rL rr hm0 rA2 hlf hm (nI x)
      have c1 := c_better hv h9 hlc10 hA hmc hx2 hb
      have c2 : fC_PayChoice_hasMemory (nI v) (nI x) SC = _ := c_mem (x := nI x) hv hr hm0 h9 hlc10 lc FU 0 0 0 hA (by omega) hmc (by omega) (by rw [pz_FU]; omega)
      have c3 : fC_PayChoice_isInTime (nI x) SC = _ := c_tim (L := L) (x := nI x) hv hr h9 hlc10 lc FU 0 0 hA (by omega) (fun e he => ⟨hmc e he, h51 e he⟩) (by rw [pz_FU]; omega)
      have f1 : lnS V (nI x) lc = lnS V (nI x) lf := by rw [hlc]; exact lnS_fil lf hxs
      have f2 : lnS V (nI bn) lc = lnS V (nI bn) lf := by rw [hlc]; exact lnS_fil lf hbs
      have f3 : mmS V (nI x) lc 0 0 = mmS V (nI x) lf 0 0 := by rw [hlc]; exact mmS_fil lf 0 0 hxs
      have f4 : ttS V L w (nI x) lc 0 = ttS V L w (nI x) lf 0 := by rw [hlc]; exact ttS_fil lf 0 hxs
      rw [f1, f2] at c1
      rw [f3] at c2
      rw [f4] at c3
      have n1 := cnN_le 10 x
      have n2 := cnN_le 10 bn
      have l1 := lnS_le (x := nI x) hv.ok lf hm
      have l2 := lnS_le (x := nI bn) hv.ok lf hm
      have same := fun SR' g => next bn hb hbs SR' g
      have choose := fun SR' g => next x hx2 hxs SR' g
      rw [if_pos q, if_pos q, c1, ev_I, r_ones hx2, ev_I, r_ones hb, ev_I, it_lt (by omega) (by omega)]
      by_cases q1 : cnN 10 x < cnN 10 bn
      · rw [if_pos q1, if_neg (show ¬ cnN 10 bn < cnN 10 x by omega), if_neg (show ¬ cnN 10 x = cnN 10 bn by omega), if_pos rfl]
        exact same SR frm.rf
      · rw [if_neg q1, e1, ev_I, it_b0]
        cases hP : (ttS V L w (nI x) lf 0 && decide (mmS V (nI x) lf 0 0 ≤ w_mem V w v))
        · rw [if_neg pz_ft]
          obtain ⟨r, T2, k1, k2, k3⟩ := same T g1
          refine ⟨r, T2, ?_, k2, k3⟩
          have skip : (obI (fC_PayChoice_hasMemory (nI v) (nI x) SC) fun r4 T3 => (if r4 = 0 then (fC_PayChoice_chosenFor_29 n (nI v) (nI O) (nI bn) (nI (x + 1)) T3) else (obI (fC_PayChoice_isInTime (nI x) T3) fun r6 T5 => (if r6 = 0 then (fC_PayChoice_chosenFor_29 n (nI v) (nI O) (nI bn) (nI (x + 1)) T5) else (fC_PayChoice_chosenFor_29 n (nI v) (nI O) (nI x) (nI (x + 1)) T5))))) = some (rI r, SC) := by
            rw [c2, ev_I, it_p0]
            by_cases q3 : mmS V (nI x) lf 0 0 ≤ w_mem V w v
            · rw [if_pos q3, c3, ev_I, it_b0]
              rw [decide_eq_true q3, Bool.and_true] at hP
              rw [hP, if_neg pz_ft]
              exact k1
            · rw [if_neg q3]
              exact k1
          by_cases q4 : cnN 10 bn < cnN 10 x
          · rw [if_pos q4, if_neg (by decide)]
            exact skip
          · rw [if_neg q4]
            by_cases q5 : cnN 10 x = cnN 10 bn
            · rw [if_pos q5]
              by_cases q6 : lnS V (nI x) lf ≤ lnS V (nI bn) lf
              · rw [if_pos q6, if_pos rfl]
                exact k1
              · rw [if_neg q6, if_neg (by decide)]
                exact skip
            · rw [if_neg q5, if_pos rfl]
              exact k1
        · rw [if_pos rfl, r_ones hx2, ev_I, r_ones hb, ev_I, it_eq (by omega) (by omega), h1, it_lt (by omega) (by omega), fR_pays_103, h1, ev_nx, nI_1]
          rw [Bool.and_eq_true, decide_eq_true_eq] at hP
          have take : ∀ r, fC_PayChoice_chosenFor_29 n (nI v) (nI O) (nI x) (nI (x + 1)) SC = some (rI r, SC) → (obI (fC_PayChoice_hasMemory (nI v) (nI x) SC) fun r4 T3 => (if r4 = 0 then (fC_PayChoice_chosenFor_29 n (nI v) (nI O) (nI bn) (nI (x + 1)) T3) else (obI (fC_PayChoice_isInTime (nI x) T3) fun r6 T5 => (if r6 = 0 then (fC_PayChoice_chosenFor_29 n (nI v) (nI O) (nI bn) (nI (x + 1)) T5) else (fC_PayChoice_chosenFor_29 n (nI v) (nI O) (nI x) (nI (x + 1)) T5))))) = some (rI r, SC) := fun r hr5 => by
            rw [c2, ev_I, it_p0, if_pos hP.2, c3, ev_I, it_b0, if_pos hP.1]
            exact hr5
          by_cases q4 : cnN 10 bn < cnN 10 x
          · rw [if_pos q4, if_neg (show ¬ (1 : Int32) = 0 by decide), if_neg (show ¬ cnN 10 x = cnN 10 bn by omega)]
            obtain ⟨r, T2, k1, k2, k3⟩ := choose T g1
            exact ⟨r, T2, take r k1, k2, k3⟩
          · have q5 : cnN 10 x = cnN 10 bn := by omega
            rw [if_neg q4, if_pos q5, if_pos q5]
            by_cases q6 : lnS V (nI x) lf ≤ lnS V (nI bn) lf
            · rw [if_pos q6, if_pos rfl, if_neg (show ¬ lnS V (nI bn) lf < lnS V (nI x) lf by omega)]
              exact same T g1
            · rw [if_neg q6, if_neg (show ¬ (1 : Int32) = 0 by decide), if_pos (show lnS V (nI bn) lf < lnS V (nI x) lf by omega)]
              obtain ⟨r, T2, k1, k2, k3⟩ := choose T g1
              exact ⟨r, T2, take r k1, k2, k3⟩
    · rw [if_neg q, if_neg q]
      exact next bn hb hbs SR frm.rf
theorem po_pays : PO_pays Rel := by
  intro SC SR hR x
  show Po (fC_Main_pays x SC) (fR_pays x SR) (fun j T => if j = 0 then some (rI 1, T) else none)
  have hR' := hR
  obtain ⟨m, hC, hM, hB⟩ := hR'
  obtain ⟨g0, h0, hv0, hL0, hr0⟩ := begR hM
  obtain ⟨T, eT, gT, hT0, hvT, hLT, hrT, hT17, hTf⟩ := begT hM
  have hv := hC.1
  have hL := hC.2.1
  have hr := hC.2.2.1.1
  have b2 := hv.ok.2.1
  have b3 := hv.ok.2.2.1
  rcases c_needMan hv x with ⟨a, ha, rfl, e1⟩ | ⟨hx, e1⟩
  · have eP := r_isManT hv0 h0 ha 1
    obtain ⟨O, hO, eO⟩ := orB_nI (o := w_open m.1 m.2.2.1 (y_dm m.1) a) (n := y_D m.1) b3
    obtain ⟨T1, s1, s2, s3, s4, s5⟩ := c_sort (o := w_open m.1 m.2.2.1 (y_dm m.1) a) hv hL hr
    obtain ⟨T2, t1, t2, t3⟩ := r_lays hvT
    have hlc : (lay m.1 (w_open m.1 m.2.2.1 (y_dm m.1) a) (y_D m.1)).reverse = (lay m.1 tt (y_D m.1)).reverse.filter (w_open m.1 m.2.2.1 (y_dm m.1) a) := by rw [lay_fil, List.filter_reverse]
    have A1 := s4.fwd (l := []) trivial
    have A2 := t3.fwd (l := []) trivial
    rw [List.append_nil] at A1 A2
    obtain ⟨r, T3, c1, c2, c3⟩ := pays_loop (O := O) (SC := T1) (v := a) (w := m.2.2.1) (L := m.2.1) hO (hv.fr s2 (by decide) (by decide)) (by rw [s2.2.1 46 (by decide)]; exact hr) ha hlc (by rw [List.length_reverse]; exact s3) A1 (fun e he => s5 e (List.mem_reverse.mp he)) (by rw [List.length_reverse, lay_t]) (fun e he => (lay_mem _ e (List.mem_reverse.mp he)).1) (fun e he ht => by
      rw [← eO, tb_orB (by omega) (by have := (lay_mem _ e (List.mem_reverse.mp he)).1; omega), Bool.and_eq_true] at ht
      exact ht.2) O FU FU 1 0 T2 (by omega) (by rw [pz_FU]; omega) (by rw [pz_FU]; omega) (by omega) (fun e he ht => by
      rw [show nI 0 = 0 from rfl, tb_0] at ht
      exact absurd ht pz_ft) (hvT.fr t2 (by decide) (by decide)) (hLT.fr t2 (by decide) (by decide)) (by rw [t2.2.1 18 (by decide)]; exact hrT) A2
    have z0 : ∀ l, lnS m.1 (nI 0) l = 0 := fun l => by
      induction l with
      | nil => rfl
      | cons e l ih => rw [lnS, ih, show nI 0 = 0 from rfl, tb_0, if_neg pz_ft]
    rw [z0] at c2
    refine po_ok (b := r) (T := T1) (U := T3) hR ?_ (s2.x (by simp) (by simp)) ?_ (gT.tr ((t2.x (by simp) (by simp)).tr (c3.x (by simp) (by simp)))) ((c3.1 0 (by simp)).trans ((t2.1 0 (by simp)).trans hT0))
    · rw [fC_Main_pays, e1, ev_V, fC_PayChoice_chosenFor, e_debtsOfMan_2 hv (by omega), ev_I, show fC_State_paidBits_9 SC = some (rI (orB (w_p m.2.2.1) (y_D m.1)), SC) from by rw [fC_State_paidBits_9, show (72 : Int32) = nI 72 from rfl, pz_rA (by omega), hr.2.2.1], ev_I, orB_andn (by omega), ev_nx]
      rw [show fC_PayChoice_sortByDue (orB (fun i => decide (y_dm m.1 i = a) && !w_p m.2.2.1 i) (y_D m.1)) SC = some (rV, T1) from s1, ev_V, show orB (fun i => decide (y_dm m.1 i = a) && !w_p m.2.2.1 i) (y_D m.1) = nI O from eO]
      rw [show fC_PayChoice_chosenFor_29 FU (nI a) (nI O) 0 1 T1 = some (rI r, T1) from c1, ev_I]
    · rw [fR_pays, ev_nx, eP, ev_I, if_neg (by decide), eT, ev_V, t1, ev_V, r_openBy0 (hvT.fr t2 (by decide) (by decide)) (w := m.2.2.1) (A := al) (by rw [t2.2.1 18 (by decide)]; exact hrT) (by omega), ev_I, eO]
      exact c2
  · refine po_nos1 (c := 1) hR ?_ ?_ (fun _ => rfl) (by decide)
    · rw [fC_Main_pays, e1, ev_Vx]
    · rw [fR_pays, ev_nx, r_isManF hv0 h0 hx (by decide), ev_I]
      rfl
end PP4
