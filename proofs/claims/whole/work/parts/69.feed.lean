/-! feed, undo, image, restore (written by wip/whole/pure/p69.py) -/
section PF2
variable {SC SR S T U : St} {f u : Oz} {X : Nat → St → Oz} {b c : Int32}
/-- one byte on a tape -/
def bt (x : Int32) (k : Nat) : Int32 := nI (x.toBitVec.toNat / 2 ^ (24 - 8 * k) % 256)
def PS (S : St) (a f c : Nat) (v : Int32) : St := sF (sA S a (nI c) v) f (nI (c + 1))
def PSn (a f : Nat) (b : Nat → Int32) (c : Nat) : Nat → St → St
  | 0, S => S
  | k + 1, S => PS (PSn a f b c k S) a f (c + k) (b k)
theorem PSn_p (a f : Nat) (b : Nat → Int32) {c : Nat} {S : St} (h : S.1 f = nI c) : ∀ k, c + k < 2 ^ 31 → (PSn a f b c k S).1 f = nI (c + k) ∧ frm [f] [a] S (PSn a f b c k S) ∧ ∀ j, (PSn a f b c k S).2.1 a j = if c ≤ j ∧ j < c + k then b (j - c) else S.2.1 a j := by
  intro k
  induction k with
  | zero => intro _; exact ⟨h, frm.rf, fun j => (if_neg (by omega)).symm⟩
  | succ k ih =>
    intro hk
    obtain ⟨h1, h2, h3⟩ := ih (by omega)
    refine ⟨?_, (h2.A (by simp)).F (by simp), fun j => ?_⟩
    · rw [PSn, PS, tF_1, if_pos rfl, Nat.add_assoc]
    · show (sA (PSn a f b c k S) a (nI (c + k)) (b k)).2.1 a j = _
      rw [tA_21, if_pos rfl, nI_clamp (by omega), upd_i, h3]
      by_cases q : j = c + k
      · rw [if_pos q, if_pos (by omega), q, Nat.add_sub_cancel_left]
      · rw [if_neg q]
        by_cases q2 : c ≤ j ∧ j < c + k
        · rw [if_pos q2, if_pos (by omega)]
        · rw [if_neg q2, if_neg (by omega)]
theorem sshr_low (y : BitVec 32) (d : Nat) (hd : d ≤ 24) : (y.sshiftRight d).toNat % 2 ^ 8 = y.toNat / 2 ^ d % 2 ^ 8 := by
  have e : (BitVec.setWidth 8 (y.sshiftRight d)) = BitVec.setWidth 8 (y >>> d) := by
    apply BitVec.eq_of_getLsbD_eq
    intro i hi
    rw [BitVec.getLsbD_setWidth, BitVec.getLsbD_setWidth, BitVec.getLsbD_sshiftRight, BitVec.getLsbD_ushiftRight]
    have h1 : ¬ 32 ≤ i := by omega
    have h2 : d + i < 32 := by omega
    simp [h1, h2]
  have e2 := congrArg BitVec.toNat e
  rw [BitVec.toNat_setWidth, BitVec.toNat_setWidth, BitVec.toNat_ushiftRight, Nat.shiftRight_eq_div_pow] at e2
  exact e2
theorem r_bt (x : Int32) {i : Nat} (hi : i < 20) : (x >>> ((24 - (8 * (nI i - nI i / 4 * 4)) : Int32) &&& 31)) &&& 255 = bt x (i % 4) := by
  have h4 : i % 4 < 4 := Nat.mod_lt _ (by omega)
  rw [show (4 : Int32) = nI 4 from rfl, pk_rem (by omega) (by omega) (by omega), show (8 : Int32) = nI 8 from rfl, pk_mul, show (24 : Int32) = nI 24 from rfl, pk_sub (by omega), pk_and _ 8 rfl, Int32.toBitVec_shiftRight]
  show nI ((x.toBitVec.sshiftRight (((nI (24 - 8 * (i % 4)) &&& 31).toBitVec.smod 32).toNat)).toNat % 2 ^ 8) = _
  rw [tb_k _ (by omega), sshr_low _ _ (by omega)]
  rfl
theorem c_put_s (x : Int32) {n c : Nat} {S : St} {y : Int32} (d : Nat) (h : S.1 3 = nI c) (hc : c < 600) (hy : y = nI d) (hd : d = 24 ∨ d = 16 ∨ d = 8 ∨ d = 0) : fC_Tape_put_3 (n + 1) x y S = fC_Tape_put_3 n x (y + (-8)) (PS S 14 3 c (nI (x.toBitVec.toNat / 2 ^ d % 256))) := by
  have hd2 : d < 25 := by omega
  have hk : (((nI d).toUInt32 &&& Int32.toUInt32 31).toBitVec % 32).toNat = d := by
    rcases hd with h | h | h | h <;> subst h <;> decide
  rw [fC_Tape_put_3, hy, if_neg (nI_pos (by omega)), h, it_Lle (by omega) (by omega), if_neg (by omega), pz_gib hc (by omega), ev_nx, ev_nx, pk_and _ 8 rfl, pk_ushr _ _ d hk]
  rw [show (sA S 14 (nI c) (nI (x.toBitVec.toNat / 2 ^ d % 2 ^ 8))).1 3 = nI c from h, nI_1]
  rfl
theorem PS_3 {S : St} {a f c : Nat} {v : Int32} : (PS S a f c v).1 f = nI (c + 1) := if_pos rfl
theorem c_put (x : Int32) {c : Nat} {S : St} (h : S.1 3 = nI c) (hc : c + 4 ≤ 600) : fC_Tape_put x S = some (rV, PSn 14 3 (bt x) c 4 S) := by
  obtain ⟨m, hm⟩ : ∃ m, FU = m + 1 + 1 + 1 + 1 + 1 := ⟨1995, rfl⟩
  have e1 := c_put_s (n := m + 1 + 1 + 1 + 1) x (y := 24) 24 h (by omega) rfl (by omega)
  have e2 := c_put_s (n := m + 1 + 1 + 1) x (y := 24 + (-8)) (c := c + 1) (S := PSn 14 3 (bt x) c 1 S) 16 PS_3 (by omega) (by decide) (by omega)
  have e3 := c_put_s (n := m + 1 + 1) x (y := 24 + (-8) + (-8)) (c := c + 2) (S := PSn 14 3 (bt x) c 2 S) 8 PS_3 (by omega) (by decide) (by omega)
  have e4 := c_put_s (n := m + 1) x (y := 24 + (-8) + (-8) + (-8)) (c := c + 3) (S := PSn 14 3 (bt x) c 3 S) 0 PS_3 (by omega) (by decide) (by omega)
  have e5 : fC_Tape_put_3 (m + 1) x (24 + (-8) + (-8) + (-8) + (-8)) (PSn 14 3 (bt x) c 4 S) = some (rV, PSn 14 3 (bt x) c 4 S) := by rw [fC_Tape_put_3, if_pos (by decide)]
  rw [fC_Tape_put, hm]
  exact e1.trans (e2.trans (e3.trans (e4.trans e5)))
def wd (x0 x1 x2 x3 x4 : Int32) (i : Nat) : Int32 := [x0, x1, x2, x3, x4].getD i 0
def bts (x0 x1 x2 x3 x4 : Int32) (k : Nat) : Int32 := bt (wd x0 x1 x2 x3 x4 (k / 4)) (k % 4)
theorem c_feed (x1 x2 x3 x4 x5 : Int32) {c : Nat} {S : St} (h : S.1 3 = nI c) (hc : c + 20 ≤ 600) : fC_Main_feed x1 x2 x3 x4 x5 S = some (rI (nI (c + 20)), PSn 14 3 (bts x1 x2 x3 x4 x5) c 20 S) := by
  have p1 := (PSn_p 14 3 (bt x1) h 4 (by omega)).1
  have p2 := (PSn_p 14 3 (bt x2) p1 4 (by omega)).1
  have p3 := (PSn_p 14 3 (bt x3) p2 4 (by omega)).1
  have p4 := (PSn_p 14 3 (bt x4) p3 4 (by omega)).1
  have p5 := (PSn_p 14 3 (bt x5) p4 4 (by omega)).1
  rw [fC_Main_feed, h, pz_addL, it_leL (by omega) (by omega), if_pos hc, c_put x1 h (by omega), ev_V, c_put x2 p1 (by omega), ev_V, c_put x3 p2 (by omega), ev_V, c_put x4 p3 (by omega), ev_V, c_put x5 p4 (by omega), ev_V, p5]
  rfl
theorem r_feed_s (x1 x2 x3 x4 x5 : Int32) {n c i : Nat} {S : St} (h : S.1 1 = nI c) (hc : c < 600) (hi : i < 20) : fR_feed_23 (n + 1) x1 x2 x3 x4 x5 (nI i) S = fR_feed_23 n x1 x2 x3 x4 x5 (nI (i + 1)) (PS S 2 1 c (bts x1 x2 x3 x4 x5 i)) := by
  have key : ∀ K : Int32 → Int32 → Int32 → Int32 → Int32 → Int32 → St → Oz, ∀ x : Int32, wd x1 x2 x3 x4 x5 (i / 4) = x → fR_feed_76 K x1 x2 x3 x4 x5 (nI i) x S = K x1 x2 x3 x4 x5 (nI (i + 1)) (PS S 2 1 c (bts x1 x2 x3 x4 x5 i)) := fun K x hx => by
    rw [fR_feed_76, h, pz_gib hc (by omega), ev_nx, ev_nx, r_bt x hi, nI_1, show (sA S 2 (nI c) (bt x (i % 4))).1 1 = nI c from h, nI_1, bts, hx]
    rfl
  rw [fR_feed_23, it_Lle (by omega) (by omega), if_neg (by omega), it_Lle (by omega) (by omega)]
  by_cases q1 : 4 ≤ i
  · rw [if_pos q1, it_Lle (by omega) (by omega)]
    by_cases q2 : 8 ≤ i
    · rw [if_pos q2, it_Lle (by omega) (by omega)]
      by_cases q3 : 12 ≤ i
      · rw [if_pos q3, it_Lle (by omega) (by omega)]
        by_cases q4 : 16 ≤ i
        · rw [if_pos q4]
          exact key _ x5 (by rw [show i / 4 = 4 by omega]; rfl)
        · rw [if_neg q4]
          exact key _ x4 (by rw [show i / 4 = 3 by omega]; rfl)
      · rw [if_neg q3]
        exact key _ x3 (by rw [show i / 4 = 2 by omega]; rfl)
    · rw [if_neg q2]
      exact key _ x2 (by rw [show i / 4 = 1 by omega]; rfl)
  · rw [if_neg q1]
    exact key _ x1 (by rw [show i / 4 = 0 by omega]; rfl)
theorem r_feed_23 (x1 x2 x3 x4 x5 : Int32) {c : Nat} {S : St} (h : S.1 1 = nI c) (hc : c + 20 ≤ 600) : ∀ k n i, i + k = 20 → k < n → fR_feed_23 n x1 x2 x3 x4 x5 (nI i) (PSn 2 1 (bts x1 x2 x3 x4 x5) c i S) = some (rI (nI (c + 20)), PSn 2 1 (bts x1 x2 x3 x4 x5) c 20 S) := by
  intro k
  induction k with
  | zero =>
    intro n i hi hn
    obtain ⟨n, rfl⟩ := pz_fu hn
    have e : i = 20 := by omega
    subst e
    rw [fR_feed_23, if_pos (by decide), (PSn_p 2 1 _ h 20 (by omega)).1]
  | succ k ih =>
    intro n i hi hn
    obtain ⟨n, rfl⟩ := pz_fu hn
    rw [r_feed_s x1 x2 x3 x4 x5 (PSn_p 2 1 _ h i (by omega)).1 (by omega) (by omega)]
    exact ih n (i + 1) (by omega) (by omega)
theorem CM.fr' {m : Md} {S T : St} {fs as : List Nat} (h : CM m S) (g : frx fs as S T) (hf : ∀ k ∈ fs, k = 0 ∨ k = 1 ∨ k = 2 ∨ k = 3 ∨ k = 5 ∨ k ∈ cF) (ha : ∀ a ∈ as, a = 14 ∨ a ∈ cA) : CM m T := by
  have g' : frx fs cA S (T.1, fun a => if a = 14 then S.2.1 14 else T.2.1 a, T.2.2) := ⟨g.1, fun a h9 => by
    show (if a = 14 then S.2.1 14 else T.2.1 a) = S.2.1 a
    by_cases q : a = 14
    · rw [if_pos q, q]
    · rw [if_neg q]
      exact g.2 a (fun h8 => (ha a h8).elim q h9)⟩
  have h2 := h.fr g' hf
  have g2 : frx [] [14] (T.1, fun a => if a = 14 then S.2.1 14 else T.2.1 a, T.2.2) T := ⟨fun _ _ => rfl, fun a h9 => by
    show T.2.1 a = if a = 14 then S.2.1 14 else T.2.1 a
    rw [if_neg (fun q => h9 (by rw [q]; simp))]⟩
  unfold CM CV CLw at h2 ⊢
  rw [g2.2 15 (by decide), g2.2 16 (by decide), g2.2 17 (by decide), g2.2 18 (by decide), g2.2 19 (by decide), g2.2 20 (by decide), g2.2 21 (by decide), g2.2 22 (by decide), g2.2 31 (by decide), g2.2 37 (by decide), g2.2 38 (by decide), g2.2 39 (by decide), g2.2 46 (by decide), g2.2 47 (by decide), g2.2 48 (by decide), g2.2 49 (by decide)]
  exact h2
theorem bts_b (x1 x2 x3 x4 x5 : Int32) (k : Nat) : ∃ b : Nat, b < 256 ∧ bts x1 x2 x3 x4 x5 k = nI b := ⟨_, Nat.mod_lt _ (by omega), rfl⟩
theorem po_feed : PO_feed Rel := by
  intro SC SR hR x1 x2 x3 x4 x5
  have hR' := hR
  obtain ⟨m, hC, hM, hB⟩ := hR
  obtain ⟨g0, h0, -, -, -⟩ := begR hM
  obtain ⟨b0, b1, b2, b3, ⟨c, hc, hc3⟩, b5, b6⟩ := hB
  have e1 : (sF SR 0 0).1 1 = nI c := by rw [tF_1, if_neg (by decide), ← b3, hc3]
  by_cases q : c + 20 ≤ 600
  · obtain ⟨p1, p2, p3⟩ := PSn_p 14 3 (bts x1 x2 x3 x4 x5) hc3 20 (by omega)
    obtain ⟨s1, s2, s3⟩ := PSn_p 2 1 (bts x1 x2 x3 x4 x5) e1 20 (by omega)
    have c1 := c_feed x1 x2 x3 x4 x5 hc3 q
    have r1 := r_feed_23 x1 x2 x3 x4 x5 e1 q 20 FU 0 (by omega) (by rw [pz_FU]; omega)
    refine ⟨nI (c + 20), _, _, c1, ?_, m, hC.fr' (p2.x (fs' := [3]) (as' := [14]) (fun _ h => h) (fun _ h => h)) (by simp) (by simp), hM.fr (g0.wide (fs' := 1 :: rF) (as' := 2 :: rA') (fun k h => List.mem_cons_of_mem _ h) (fun k h => List.mem_cons_of_mem _ h) |>.tr (s2.x (by simp) (by simp))) (fun k hk => (List.mem_cons.mp hk).elim (fun e => by omega) (fun e => by simp only [e, or_true])) (fun k hk => (List.mem_cons.mp hk).elim (fun e => by omega) (fun e => by simp only [e, or_true])), ?_⟩
    · rw [fR_feed, ev_nx, e1, pz_addL, it_leL (by omega) (by omega), if_pos q]
      exact r1
    · unfold BM
      rw [p1, s1, p2.1 0 (by decide), p2.1 1 (by decide), p2.1 2 (by decide), p2.1 5 (by decide), s2.1 20 (by decide), s2.1 7 (by decide), s2.2.1 1 (by decide)]
      refine ⟨b0, b1, b2, rfl, ⟨c + 20, q, rfl⟩, b5, fun i hi => ?_⟩
      rw [p3, s3]
      by_cases q2 : c ≤ i ∧ i < c + 20
      · rw [if_pos q2, if_pos q2]
        exact ⟨rfl, bts_b x1 x2 x3 x4 x5 _⟩
      · rw [if_neg q2, if_neg q2]
        exact b6 i hi
  · refine ⟨-1, SC, sF SR 0 0, ?_, ?_, hR'.fr frx.rf g0⟩
    · rw [fC_Main_feed, hc3, pz_addL, it_leL (by omega) (by omega), if_neg q]
    · rw [fR_feed, ev_nx, e1, pz_addL, it_leL (by omega) (by omega), if_neg q]
end PF2
