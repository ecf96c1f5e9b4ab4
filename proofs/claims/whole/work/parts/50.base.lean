/-! the pure level: evaluation, numbers, bits -/
section PB
variable {v : Int32} {w : Int64} {S : St} {k : Nat} {o : Oz}
theorem ev_I {K : Int32 → St → Oz} : obI (some (rI v, S)) K = K v S := rfl
theorem ev_Ix {K : Int32 → St → Oz} : obI (some (rX k, S)) K = some (rX k, S) := rfl
theorem ev_L {K : Int64 → St → Oz} : obL (some (rL w, S)) K = K w S := rfl
theorem ev_Lx {K : Int64 → St → Oz} : obL (some (rX k, S)) K = some (rX k, S) := rfl
theorem ev_V {K : St → Oz} : obV (some (rV, S)) K = K S := rfl
theorem ev_Vx {K : St → Oz} : obV (some (rX k, S)) K = some (rX k, S) := rfl
theorem ev_R {K : St → Oz} : obR k (some (rR k, S)) K = K S := if_pos rfl
theorem ev_Rx {j : Nat} {K : St → Oz} : obR j (some (rX k, S)) K = some (rX k, S) := rfl
theorem ev_H {K : Int32 → St → Oz} {X : Nat → St → Oz} : obH (some (rI v, S)) K X = K v S := rfl
theorem ev_Hx {K : Int32 → St → Oz} {X : Nat → St → Oz} : obH (some (rX k, S)) K X = X k S := rfl
theorem ev_HL {K : Int64 → St → Oz} {X : Nat → St → Oz} : obHL (some (rL w, S)) K X = K w S := rfl
theorem ev_HLx {K : Int64 → St → Oz} {X : Nat → St → Oz} : obHL (some (rX k, S)) K X = X k S := rfl
theorem ev_gd : gd true o = o := rfl
theorem gdT {b : Bool} (h : b = true) : gd b o = o := by rw [h]; rfl
theorem ev_nx {α : Type} {a : α} {f : α → Oz} : nx a f = f a := rfl
end PB
/-! numbers -/
section PN
theorem pz_li (n : Nat) : (OfNat.ofNat n : Int32) = nI (OfNat.ofNat n) := rfl
def pz_m1 : Int32 := -1
theorem pz_neg1 : -(nI 1) = pz_m1 := rfl
theorem pz_m1e : pz_m1 = -1 := rfl
theorem pz_addm1 {n : Nat} (h : 0 < n) : nI n + pz_m1 = nI (n - 1) := by
  obtain ⟨m, rfl⟩ : ∃ m, n = m + 1 := ⟨n - 1, by omega⟩
  exact pk_m1 m
theorem pz_nem1 {n : Nat} (h : n < 2 ^ 31) : (nI n = pz_m1) = False := eq_false (fun e => by
  have h1 := congrArg Int32.toInt e
  rw [nI_toInt h] at h1
  have h2 : pz_m1.toInt = -1 := by decide
  omega)
theorem pz_ib {n m : Nat} (h : n < m) (hm : m < 2 ^ 31) : ib (nI n) m = true := by
  simp only [ib, Bool.and_eq_true, decide_eq_true_eq, nI_toInt (Nat.lt_trans h hm)]
  omega
theorem pz_gib {n m : Nat} {o : Oz} (h : n < m) (hm : m < 2 ^ 31) : gd (ib (nI n) m) o = o := gdT (pz_ib h hm)
theorem pz_rA {S : St} {a n : Nat} (h : n < 2 ^ 31) : rA S a (nI n) = S.2.1 a n := by rw [rA, nI_clamp h]
theorem pz_le {a b : Nat} (ha : a < 2 ^ 31) (hb : b < 2 ^ 31) : (nI a ≤ nI b) = (a ≤ b) := propext (nI_leI ha hb)
theorem pz_lt {a b : Nat} (ha : a < 2 ^ 31) (hb : b < 2 ^ 31) : (nI a < nI b) = (a < b) := propext (nI_ltI ha hb)
theorem pz_eq {a b : Nat} (ha : a < 2 ^ 31) (hb : b < 2 ^ 31) : (nI a = nI b) = (a = b) := propext (nI_eq ha hb)
theorem pz_nz {n : Nat} (h : 0 < n) (hn : n < 2 ^ 31) : nz (nI n) = true := by
  simp only [nz, Bool.not_eq_true', decide_eq_false_iff_not]
  exact nI_ne0 h hn
theorem pz_isB (b : Bool) : isB (if b then 1 else 0) = true := by cases b <;> decide
theorem pz_isB0 : isB 0 = true := by decide
theorem pz_isB1 : isB 1 = true := by decide
theorem pz_fu {n k : Nat} (h : k < n) : ∃ m, n = m + 1 := ⟨n - 1, by omega⟩
theorem pz_FU : FU = 2000 := rfl
theorem pz_eqL {n k : Nat} (hn : n < 2 ^ 31) (hk : (OfNat.ofNat k : Nat) < 2 ^ 31) : (nI n = (OfNat.ofNat k : Int32)) = (n = (OfNat.ofNat k : Nat)) := pz_eq hn hk
theorem pz_leL {n k : Nat} (hn : n < 2 ^ 31) (hk : (OfNat.ofNat k : Nat) < 2 ^ 31) : (nI n ≤ (OfNat.ofNat k : Int32)) = (n ≤ (OfNat.ofNat k : Nat)) := pz_le hn hk
theorem pz_ltL {n k : Nat} (hn : n < 2 ^ 31) (hk : (OfNat.ofNat k : Nat) < 2 ^ 31) : (nI n < (OfNat.ofNat k : Int32)) = (n < (OfNat.ofNat k : Nat)) := pz_lt hn hk
theorem pz_Lle {n k : Nat} (hn : n < 2 ^ 31) (hk : (OfNat.ofNat k : Nat) < 2 ^ 31) : ((OfNat.ofNat k : Int32) ≤ nI n) = ((OfNat.ofNat k : Nat) ≤ n) := pz_le hk hn
theorem pz_Llt {n k : Nat} (hn : n < 2 ^ 31) (hk : (OfNat.ofNat k : Nat) < 2 ^ 31) : ((OfNat.ofNat k : Int32) < nI n) = ((OfNat.ofNat k : Nat) < n) := pz_lt hk hn
theorem pz_addL (n k : Nat) : nI n + (OfNat.ofNat k : Int32) = nI (n + (OfNat.ofNat k : Nat)) := nI_add n k
theorem pz_Ladd (n k : Nat) : (OfNat.ofNat k : Int32) + nI n = nI ((OfNat.ofNat k : Nat) + n) := nI_add k n
theorem pz_b0 (b : Bool) : ((if b = true then (1 : Int32) else 0) = 0) = (b = false) := by cases b <;> decide
theorem pz_b0' (b : Bool) : ((if b = true then (0 : Int32) else 1) = 0) = (b = true) := by cases b <;> decide
theorem pz_p0 {c : Prop} {_ : Decidable c} : ((if c then (1 : Int32) else 0) = 0) = ¬ c := by
  by_cases h : c
  · rw [if_pos h]; simp [h]
  · rw [if_neg h]; simp [h]
theorem pz_p0' {c : Prop} {_ : Decidable c} : ((if c then (0 : Int32) else 1) = 0) = c := by
  by_cases h : c
  · rw [if_pos h]; simp [h]
  · rw [if_neg h]; simp [h]
theorem pz_tf : ¬ (true = false) := by decide
theorem pz_ft : ¬ (false = true) := by decide
theorem it_le {n m : Nat} {x y : Oz} {_ : Decidable (nI n ≤ nI m)} (hn : n < 2 ^ 31) (hm : m < 2 ^ 31) : (if nI n ≤ nI m then x else y) = if n ≤ m then x else y := by simp only [pz_le hn hm]
theorem it_lt {n m : Nat} {x y : Oz} {_ : Decidable (nI n < nI m)} (hn : n < 2 ^ 31) (hm : m < 2 ^ 31) : (if nI n < nI m then x else y) = if n < m then x else y := by simp only [pz_lt hn hm]
theorem it_eq {n m : Nat} {x y : Oz} {_ : Decidable (nI n = nI m)} (hn : n < 2 ^ 31) (hm : m < 2 ^ 31) : (if nI n = nI m then x else y) = if n = m then x else y := by simp only [pz_eq hn hm]
theorem it_leL {n m : Nat} {x y : Oz} {_ : Decidable (nI n ≤ (OfNat.ofNat m : Int32))} (hn : n < 2 ^ 31) (hm : (OfNat.ofNat m : Nat) < 2 ^ 31) : (if nI n ≤ (OfNat.ofNat m : Int32) then x else y) = if n ≤ (OfNat.ofNat m : Nat) then x else y := by simp only [pz_leL hn hm]
theorem it_ltL {n m : Nat} {x y : Oz} {_ : Decidable (nI n < (OfNat.ofNat m : Int32))} (hn : n < 2 ^ 31) (hm : (OfNat.ofNat m : Nat) < 2 ^ 31) : (if nI n < (OfNat.ofNat m : Int32) then x else y) = if n < (OfNat.ofNat m : Nat) then x else y := by simp only [pz_ltL hn hm]
theorem it_eqL {n m : Nat} {x y : Oz} {_ : Decidable (nI n = (OfNat.ofNat m : Int32))} (hn : n < 2 ^ 31) (hm : (OfNat.ofNat m : Nat) < 2 ^ 31) : (if nI n = (OfNat.ofNat m : Int32) then x else y) = if n = (OfNat.ofNat m : Nat) then x else y := by simp only [pz_eqL hn hm]
theorem it_Lle {n m : Nat} {x y : Oz} {_ : Decidable ((OfNat.ofNat m : Int32) ≤ nI n)} (hn : n < 2 ^ 31) (hm : (OfNat.ofNat m : Nat) < 2 ^ 31) : (if (OfNat.ofNat m : Int32) ≤ nI n then x else y) = if (OfNat.ofNat m : Nat) ≤ n then x else y := by simp only [pz_Lle hn hm]
theorem it_Llt {n m : Nat} {x y : Oz} {_ : Decidable ((OfNat.ofNat m : Int32) < nI n)} (hn : n < 2 ^ 31) (hm : (OfNat.ofNat m : Nat) < 2 ^ 31) : (if (OfNat.ofNat m : Int32) < nI n then x else y) = if (OfNat.ofNat m : Nat) < n then x else y := by simp only [pz_Llt hn hm]
theorem it_b0 {b : Bool} {x y : Oz} {_ : Decidable ((if b = true then (1 : Int32) else 0) = 0)} : (if (if b = true then (1 : Int32) else 0) = 0 then x else y) = if b = true then y else x := by
  simp only [pz_b0]
  cases b <;> rfl
theorem it_b1 {b : Bool} {x y : Oz} {_ : Decidable ((if b = true then (0 : Int32) else 1) = 0)} : (if (if b = true then (0 : Int32) else 1) = 0 then x else y) = if b = true then x else y := by simp only [pz_b0']
theorem it_p0 {c : Prop} {_ : Decidable c} {x y : Oz} {_ : Decidable ((if c then (1 : Int32) else 0) = 0)} : (if (if c then (1 : Int32) else 0) = 0 then x else y) = if c then y else x := by
  simp only [pz_p0]
  by_cases h : c
  · rw [if_pos h, if_neg (fun g => g h)]
  · rw [if_neg h, if_pos h]
theorem it_p1 {c : Prop} {_ : Decidable c} {x y : Oz} {_ : Decidable ((if c then (0 : Int32) else 1) = 0)} : (if (if c then (0 : Int32) else 1) = 0 then x else y) = if c then x else y := by simp only [pz_p0']
theorem pz_sn {m n : Nat} {T : St} (h : m = n) : (some (rI (nI m), T) : Oz) = some (rI (nI n), T) := by rw [h]
/-- states -/
theorem tF_1 (S : St) (k : Nat) (v : Int32) (j : Nat) : (sF S k v).1 j = if j = k then v else S.1 j := rfl
theorem tF_2 (S : St) (k : Nat) (v : Int32) : (sF S k v).2 = S.2 := rfl
theorem tA_1 (S : St) (a : Nat) (i v : Int32) : (sA S a i v).1 = S.1 := rfl
theorem tA_21 (S : St) (a : Nat) (i v : Int32) (b : Nat) : (sA S a i v).2.1 b = if b = a then upd (S.2.1 a) i.toNatClampNeg v else S.2.1 b := rfl
theorem tA_22 (S : St) (a : Nat) (i v : Int32) : (sA S a i v).2.2 = S.2.2 := rfl
theorem tB_1 (S : St) (a : Nat) (i : Int32) (v : Int64) : (sB S a i v).1 = S.1 := rfl
theorem tB_21 (S : St) (a : Nat) (i : Int32) (v : Int64) : (sB S a i v).2.1 = S.2.1 := rfl
theorem tC_1 (S : St) (a b : Nat) (x y z : Int32) : (sC S a b x y z).1 = S.1 := rfl
theorem tC_21 (S : St) (a b : Nat) (x y z : Int32) (c : Nat) : (sC S a b x y z).2.1 c = if c = b then va_cpy (S.2.1 a) (S.2.1 b) x.toNatClampNeg y.toNatClampNeg z.toNatClampNeg else S.2.1 c := rfl
theorem tC_22 (S : St) (a b : Nat) (x y z : Int32) : (sC S a b x y z).2.2 = S.2.2 := rfl
theorem upd_s (f : Nat → Int32) (k : Nat) (x : Int32) : upd f k x k = x := if_pos rfl
theorem upd_n (f : Nat → Int32) {k j : Nat} (x : Int32) (h : j ≠ k) : upd f k x j = f j := if_neg h
theorem upd_i (f : Nat → Int32) (k j : Nat) (x : Int32) : upd f k x j = if j = k then x else f j := rfl
/-- two states that differ at most in these fields and rows -/
def frm (fs as : List Nat) (S T : St) : Prop := (∀ k, k ∉ fs → T.1 k = S.1 k) ∧ (∀ a, a ∉ as → T.2.1 a = S.2.1 a) ∧ T.2.2 = S.2.2
theorem frm.rf {fs as : List Nat} {S : St} : frm fs as S S := ⟨fun _ _ => rfl, fun _ _ => rfl, rfl⟩
theorem frm.tr {fs as : List Nat} {S T U : St} (h : frm fs as S T) (g : frm fs as T U) : frm fs as S U :=
  ⟨fun k hk => (g.1 k hk).trans (h.1 k hk), fun a ha => (g.2.1 a ha).trans (h.2.1 a ha), g.2.2.trans h.2.2⟩
theorem frm.wide {fs as fs' as' : List Nat} {S T : St} (h : frm fs as S T) (hf : ∀ k ∈ fs, k ∈ fs') (ha : ∀ k ∈ as, k ∈ as') : frm fs' as' S T :=
  ⟨fun k hk => h.1 k (fun h9 => hk (hf k h9)), fun a h9 => h.2.1 a (fun g => h9 (ha a g)), h.2.2⟩
theorem frm.F {fs as : List Nat} {S T : St} (h : frm fs as S T) {k : Nat} {v : Int32} (hk : k ∈ fs) : frm fs as S (sF T k v) :=
  ⟨fun j hj => by rw [tF_1, if_neg (show ¬ j = k from fun e => hj (e ▸ hk))]; exact h.1 j hj, h.2.1, h.2.2⟩
theorem frm.A {fs as : List Nat} {S T : St} (h : frm fs as S T) {a : Nat} {i v : Int32} (hk : a ∈ as) : frm fs as S (sA T a i v) :=
  ⟨h.1, fun j hj => by rw [tA_21, if_neg (show ¬ j = a from fun e => hj (e ▸ hk))]; exact h.2.1 j hj, h.2.2⟩
theorem frm.C {fs as : List Nat} {S T : St} (h : frm fs as S T) {a b : Nat} {x y z : Int32} (hk : b ∈ as) : frm fs as S (sC T a b x y z) :=
  ⟨h.1, fun j hj => by rw [tC_21, if_neg (show ¬ j = b from fun e => hj (e ▸ hk))]; exact h.2.1 j hj, h.2.2⟩
/-- sums of naturals -/
def smN (f : Nat → Nat) : Nat → Nat
  | 0 => 0
  | n + 1 => smN f n + f n
theorem smN_le {f : Nat → Nat} {b : Nat} : ∀ n : Nat, (∀ i, i < n → f i ≤ b) → smN f n ≤ n * b := by
  intro n
  induction n with
  | zero => intro _; exact Nat.zero_le _
  | succ n ih =>
    intro h
    have h1 := ih (fun i hi => h i (by omega))
    have h2 := h n (by omega)
    show smN f n + f n ≤ (n + 1) * b
    rw [Nat.succ_mul]
    omega
theorem smN_congr {f g : Nat → Nat} : ∀ n : Nat, (∀ i, i < n → f i = g i) → smN f n = smN g n := by
  intro n
  induction n with
  | zero => intro _; rfl
  | succ n ih =>
    intro h
    show smN f n + f n = smN g n + g n
    rw [ih (fun i hi => h i (by omega)), h n (by omega)]
/-- sums of wrapping ints -/
def smI (f : Nat → Int32) : Nat → Int32
  | 0 => 0
  | n + 1 => smI f n + f n
theorem smI_congr {f g : Nat → Int32} : ∀ n : Nat, (∀ i, i < n → f i = g i) → smI f n = smI g n := by
  intro n
  induction n with
  | zero => intro _; rfl
  | succ n ih =>
    intro h
    show smI f n + f n = smI g n + g n
    rw [ih (fun i hi => h i (by omega)), h n (by omega)]
end PN
/-! bits -/
section PT
def tb (x : Int32) (i : Nat) : Bool := x.toBitVec.getLsbD i
theorem tb_ext {x y : Int32} (h : ∀ i, i < 32 → tb x i = tb y i) : x = y := Int32.toBitVec_inj.1 (BitVec.eq_of_getLsbD_eq h)
theorem tb_or (x y : Int32) (i : Nat) : tb (x ||| y) i = (tb x i || tb y i) := by simp only [tb, Int32.toBitVec_or, BitVec.getLsbD_or]
theorem tb_and (x y : Int32) (i : Nat) : tb (x &&& y) i = (tb x i && tb y i) := by simp only [tb, Int32.toBitVec_and, BitVec.getLsbD_and]
theorem tb_xor (x y : Int32) (i : Nat) : tb (x ^^^ y) i = (tb x i ^^ tb y i) := by simp only [tb, Int32.toBitVec_xor, BitVec.getLsbD_xor]
theorem tb_0 (i : Nat) : tb 0 i = false := by simp [tb]
theorem tb_m1 {i : Nat} (h : i < 32) : tb (-1) i = true := by
  have e : (-1 : Int32).toBitVec = BitVec.allOnes 32 := by decide
  rw [tb, e, BitVec.getLsbD_allOnes]
  exact decide_eq_true h
theorem tb_not (x : Int32) {i : Nat} (h : i < 32) : tb (x ^^^ (-1)) i = !tb x i := by
  rw [tb_xor, tb_m1 h]
  cases tb x i <;> rfl
theorem tb_k : ∀ d, d < 32 → ((nI d &&& 31).toBitVec.smod 32).toNat = d := by decide +kernel
theorem tb_k1 : ∀ d, d < 32 → ∀ i, i < 32 → tb ((1 : Int32) <<< (nI d &&& 31)) i = decide (i = d) := by decide +kernel
theorem tb_shr (x : Int32) {d : Nat} (h : d < 32) : (x >>> (nI d &&& 31)) &&& 1 = if tb x d then 1 else 0 := by
  refine tb_ext (fun i hi => ?_)
  have e : (x >>> (nI d &&& 31)).toBitVec.getLsbD 0 = tb x d := by
    rw [Int32.toBitVec_shiftRight]
    show (x.toBitVec.sshiftRight (((nI d &&& 31).toBitVec.smod 32).toNat)).getLsbD 0 = _
    rw [tb_k d h, BitVec.getLsbD_sshiftRight]
    simp [tb, h]
  rw [tb_and]
  have e1 : tb 1 i = decide (i = 0) := by simp [tb]
  rw [e1]
  by_cases h0 : i = 0
  · subst h0
    rw [show tb (x >>> (nI d &&& 31)) 0 = tb x d from e]
    cases tb x d <;> rfl
  · simp only [h0, decide_false, Bool.and_false]
    cases tb x d
    · simp [tb]
    · simp [tb, h0]
theorem tb_t1 (x : Int32) {d : Nat} (h : d < 32) : ((x >>> (nI d &&& 31)) &&& 1 = 1) = (tb x d = true) := by
  rw [tb_shr x h]
  cases tb x d <;> decide
theorem tb_t0 (x : Int32) {d : Nat} (h : d < 32) : ((x >>> (nI d &&& 31)) &&& 1 = 0) = (tb x d = false) := by
  rw [tb_shr x h]
  cases tb x d <;> decide
theorem it_t1 {x : Int32} {d : Nat} {X Y : Oz} {_ : Decidable ((x >>> (nI d &&& 31)) &&& 1 = 1)} (h : d < 32) : (if (x >>> (nI d &&& 31)) &&& 1 = 1 then X else Y) = if tb x d = true then X else Y := by simp only [tb_t1 x h]
theorem it_t0 {x : Int32} {d : Nat} {X Y : Oz} {_ : Decidable ((x >>> (nI d &&& 31)) &&& 1 = 0)} (h : d < 32) : (if (x >>> (nI d &&& 31)) &&& 1 = 0 then X else Y) = if tb x d = true then Y else X := by
  simp only [tb_t0 x h]
  cases tb x d <;> rfl
/-- the bits of those below n of which c holds -/
def orB (c : Nat → Bool) : Nat → Int32
  | 0 => 0
  | n + 1 => if c n then orB c n ||| ((1 : Int32) <<< (nI n &&& 31)) else orB c n
theorem tb_orB {c : Nat → Bool} : ∀ {n : Nat}, n ≤ 32 → ∀ {i : Nat}, i < 32 → tb (orB c n) i = (decide (i < n) && c i) := by
  intro n
  induction n with
  | zero => intro _ i hi; rw [orB, tb_0]; simp
  | succ n ih =>
    intro hn i hi
    rw [orB]
    by_cases hc : c n = true
    · rw [if_pos hc, tb_or, ih (by omega) hi, tb_k1 n (by omega) i hi]
      by_cases e : i = n
      · subst e; simp [hc]
      · have : decide (i < n + 1) = decide (i < n) := by rw [decide_eq_decide]; omega
        rw [this]; simp [e]
    · rw [if_neg hc, ih (by omega) hi]
      by_cases e : i = n
      · subst e; simp [hc]
      · have : decide (i < n + 1) = decide (i < n) := by rw [decide_eq_decide]; omega
        rw [this]
theorem orB_congr {c e : Nat → Bool} : ∀ {n : Nat}, (∀ i, i < n → c i = e i) → orB c n = orB e n := by
  intro n
  induction n with
  | zero => intro _; rfl
  | succ n ih => intro h; rw [orB, orB, ih (fun i hi => h i (by omega)), h n (by omega)]
theorem orB_eq {x : Int32} {c : Nat → Bool} {n : Nat} (hn : n ≤ 32) (h : ∀ i, i < 32 → tb x i = (decide (i < n) && c i)) : x = orB c n :=
  tb_ext (fun i hi => (h i hi).trans (tb_orB hn hi).symm)
theorem orB_set {c : Nat → Bool} {n d : Nat} (hn : n ≤ 32) (hd : d < n) : orB c n ||| ((1 : Int32) <<< (nI d &&& 31)) = orB (fun i => decide (i = d) || c i) n :=
  orB_eq hn (fun i hi => by
    rw [tb_or, tb_orB hn hi, tb_k1 d (by omega) i hi]
    by_cases e : i = d
    · subst e; simp [hd]
    · simp [e])
theorem orB_andn {c e : Nat → Bool} {n : Nat} (hn : n ≤ 32) : orB c n &&& (orB e n ^^^ (-1)) = orB (fun i => c i && !e i) n :=
  orB_eq hn (fun i hi => by
    rw [tb_and, tb_not _ hi, tb_orB hn hi, tb_orB hn hi]
    by_cases h : i < n
    · simp [h]
    · simp [h])
theorem orB_zero {c : Nat → Bool} : ∀ {n : Nat}, n ≤ 32 → (orB c n = 0 ↔ ∀ i, i < n → c i = false) := by
  intro n hn
  constructor
  · intro h i hi
    have h1 := tb_orB (c := c) hn (i := i) (by omega)
    rw [h, tb_0] at h1
    simpa [hi] using h1.symm
  · intro h
    refine tb_ext (fun i hi => ?_)
    rw [tb_orB hn hi, tb_0]
    by_cases q : i < n
    · simp [h i q]
    · simp [q]
end PT
