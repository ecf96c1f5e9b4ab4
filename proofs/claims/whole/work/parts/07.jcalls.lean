/-! rows of J: fields, arrays, answers, calls -/
section JX
variable {E : Ec} {V : Vc} {cc : ByteArray} {L : Nat} {ret : Option FieldType} {k n pc : Nat} {loc : List (Nat × Value)} {st : List Value} {S : St} {o : Oz}
theorem JC.wok (C : JC E V cc L ret) : Wok V.1 V.2.1 V.2.2.1 := C.2.2.2.2.2.2.1
theorem JC.ex (C : JC E V cc L ret) : ex V.1 (vA E V) (eS E) (eS E).heap := C.2.2.2.2.2.2.2.1
theorem JC.locks (C : JC E V cc L ret) : E.2.2.2.2.2.2.2.2.1.locks = false := C.2.2.2.2.2.2.2.2.1
theorem JC.noTable (C : JC E V cc L ret) : ∀ x ∈ E.2.2.2.2.2.2.2.2.2.exceptionTable.toList, False := C.2.2.2.2.2.2.2.2.2.1
theorem JC.room (C : JC E V cc L ret) : E.2.2.2.1 = rmL L V.2.2.2.2.1 V.2.2.2.2.2.1 := C.2.2.2.2.2.2.2.2.2.2.1
theorem JC.flags (C : JC E V cc L ret) : E.2.1.stackTraces = false := C.2.2.2.2.2.2.2.2.2.2.2.1
theorem JC.rty (C : JC E V cc L ret) : E.2.2.2.2.2.2.2.2.1.sig.returnType = ret := C.2.2.2.2.2.2.2.2.2.2.2.2
theorem ib_in {i : Int32} {m : Nat} (h : ib i m = true) : vp_in i m := by
  simp only [ib, Bool.and_eq_true, decide_eq_true_eq] at h
  exact vp_in_iff.mpr h
theorem j_get {Cn : String} {T : u_T} {N ci ix a : Nat} {fs : List Value} {v : Value} (q0 kf : Nat) (he : (vW V S)[q0]? = some (a, .inr (ci, fs))) (hc : vwCl[ci]? = some (Cn, T, N)) (hk : kf < N) (hin : ∀ q ∈ u_ws Cn T N, q ∈ tblG) (hv : fs[kf]? = some v)
    (C : JC E V cc L ret) (hd : decode cc pc = .ok (.getfield ix, 3)) (hq : Cond.fieldLink V.2.2.2.2.2.2 ix (T kf).1 (T kf).2.1 (T kf).2.2.1 ∈ tblG)
    (kk : J E V k n (pc + 3) loc (v :: st) S o) : J E V k n pc loc (.ref a :: st) S o := fun r S' ho ls H locs hl hP hS =>
  va_get (D := V.1.1) (ci := ci) (v := v) (C := Cn) (T := T) (N := N) C.1 C.2.1 C.2.2.2.2.1 hin C.2.2.2.1 C.2.2.2.2.2.1 hP q0 he hc kf hk (C.2.2.2.2.1 _ hq) (fun _ h9 => h9) hv hd (kk r S' ho ls H locs hl hP hS)
theorem j_put {Cn : String} {T : u_T} {N ci ix a : Nat} {fs : List Value} {v : Int32} (S1 : St) (q0 kf : Nat) (he : (vW V S)[q0]? = some (a, .inr (ci, fs))) (hc : vwCl[ci]? = some (Cn, T, N)) (hk : kf < N) (hin : ∀ q ∈ u_ws Cn T N, q ∈ tblG) (ty0 : Nat → FieldType) (hty : ∀ k, k < N → parseFieldDescriptor (T k).2.2.1 = some (ty0 k)) (hnm : ∀ a, a < N → ∀ b, b < N → a ≠ b → (T a).2.1 ≠ (T b).2.1) (hfin : (T kf).2.2.2 = false) (hti : parseFieldDescriptor (T kf).2.2.1 = some .int) (hlen : kf < fs.length) (hw : (vW V S).set q0 (a, .inr (ci, fs.set kf (.int v))) = vW V S1)
    (C : JC E V cc L ret) (hd : decode cc pc = .ok (.putfield ix, 3)) (hq : Cond.fieldLink V.2.2.2.2.2.2 ix (T kf).1 (T kf).2.1 (T kf).2.2.1 ∈ tblG)
    (kk : J E V k n (pc + 3) loc st S1 o) : J E V k n pc loc (.int v :: .ref a :: st) S o := fun r S' ho ls H locs hl hP hS =>
  va_put (D := V.1.1) (ci := ci) (v := .int v) (ty := .int) (C := Cn) (T := T) (N := N) C.1 C.2.1 C.2.2.2.2.1 hin ty0 hty hnm C.2.2.2.1 C.2.2.2.2.2.1 hP (C.wok.D S) hS q0 he hc kf hk (C.2.2.2.2.1 _ hq) (fun _ h9 => h9) hfin hti rfl rfl hlen hd (fun H1 locs1 hP1 hD1 hS1 => kk r S' ho ls H1 locs1 hl (by rw [← hw]; exact hP1) hS1)
theorem j_iald {a m : Nat} {f : Nat → Int32} {i v : Int32} (q0 : Nat) (ha : (vW V S)[q0]? = some (a, .inl (V.1.2.1, m, .inl f))) (hv : f i.toNatClampNeg = v) (C : JC E V cc L ret) (hd : decode cc pc = .ok (.iaload, 1))
    (kk : J E V k n (pc + 1) loc (.int v :: st) S o) : J E V k n pc loc (.int i :: .ref a :: st) S (gd (ib i m) o) := by
  intro r S' ho ls H locs hl hP hS
  cases hg : ib i m with
  | false => rw [hg] at ho; cases ho
  | true =>
    rw [hg] at ho
    refine va_iald C.1 C.2.1 C.2.2.2.2.2.1 hP q0 0 ha rfl (ib_in hg) hd ?_
    rw [hv]
    exact kk r S' ho ls H locs hl hP hS
theorem j_ialdc {a m : Nat} {f : Nat → Int32} {i v : Int32} (q0 : Nat) (ha : (vW V S)[q0]? = some (a, .inl (V.1.2.1, m, .inl f))) (hv : f i.toNatClampNeg = v) (C : JC E V cc L ret) (hd : decode cc pc = .ok (.iaload, 1)) (hg : ib i m = true)
    (kk : J E V k n (pc + 1) loc (.int v :: st) S o) : J E V k n pc loc (.int i :: .ref a :: st) S o := by
  intro r S' ho ls H locs hl hP hS
  refine va_iald C.1 C.2.1 C.2.2.2.2.2.1 hP q0 0 ha rfl (ib_in hg) hd ?_
  rw [hv]
  exact kk r S' ho ls H locs hl hP hS
theorem j_iast {a m : Nat} {f : Nat → Int32} {i v : Int32} (S1 : St) (q0 : Nat) (ha : (vW V S)[q0]? = some (a, .inl (V.1.2.1, m, .inl f))) (hw : (vW V S).set q0 (a, .inl (V.1.2.1, m, .inl (upd f i.toNatClampNeg v))) = vW V S1) (C : JC E V cc L ret) (hd : decode cc pc = .ok (.iastore, 1))
    (kk : J E V k n (pc + 1) loc st S1 o) : J E V k n pc loc (.int v :: .int i :: .ref a :: st) S (gd (ib i m) o) := by
  intro r S' ho ls H locs hl hP hS
  cases hg : ib i m with
  | false => rw [hg] at ho; cases ho
  | true =>
    rw [hg] at ho
    exact va_iast C.1 C.2.1 C.2.2.2.2.2.1 hP (C.wok.D S) hS q0 0 ha rfl (ib_in hg) hd (fun H1 locs1 hP1 hD1 hS1 => kk r S' ho ls H1 locs1 hl (by rw [← hw]; exact hP1) hS1)
theorem j_iastc {a m : Nat} {f : Nat → Int32} {i v : Int32} (S1 : St) (q0 : Nat) (ha : (vW V S)[q0]? = some (a, .inl (V.1.2.1, m, .inl f))) (hw : (vW V S).set q0 (a, .inl (V.1.2.1, m, .inl (upd f i.toNatClampNeg v))) = vW V S1) (C : JC E V cc L ret) (hd : decode cc pc = .ok (.iastore, 1)) (hg : ib i m = true)
    (kk : J E V k n (pc + 1) loc st S1 o) : J E V k n pc loc (.int v :: .int i :: .ref a :: st) S o := by
  intro r S' ho ls H locs hl hP hS
  exact va_iast C.1 C.2.1 C.2.2.2.2.2.1 hP (C.wok.D S) hS q0 0 ha rfl (ib_in hg) hd (fun H1 locs1 hP1 hD1 hS1 => kk r S' ho ls H1 locs1 hl (by rw [← hw]; exact hP1) hS1)
theorem j_lald {a m : Nat} {f : Nat → Int64} {i : Int32} {v : Int64} (q0 : Nat) (ha : (vW V S)[q0]? = some (a, .inl (V.1.2.2.1, m, .inr (.inl f)))) (hv : f i.toNatClampNeg = v) (C : JC E V cc L ret) (hd : decode cc pc = .ok (.laload, 1))
    (kk : J E V k n (pc + 1) loc (.long v :: st) S o) : J E V k n pc loc (.int i :: .ref a :: st) S (gd (ib i m) o) := by
  intro r S' ho ls H locs hl hP hS
  cases hg : ib i m with
  | false => rw [hg] at ho; cases ho
  | true =>
    rw [hg] at ho
    refine va_lald C.1 C.2.1 C.2.2.2.2.2.1 hP q0 1 ha rfl (ib_in hg) hd ?_
    rw [hv]
    exact kk r S' ho ls H locs hl hP hS
theorem j_last {a m : Nat} {f : Nat → Int64} {i : Int32} {v : Int64} (S1 : St) (q0 : Nat) (ha : (vW V S)[q0]? = some (a, .inl (V.1.2.2.1, m, .inr (.inl f)))) (hw : (vW V S).set q0 (a, .inl (V.1.2.2.1, m, .inr (.inl (vp_updL f i.toNatClampNeg v)))) = vW V S1) (C : JC E V cc L ret) (hd : decode cc pc = .ok (.lastore, 1))
    (kk : J E V k n (pc + 1) loc st S1 o) : J E V k n pc loc (.long v :: .int i :: .ref a :: st) S (gd (ib i m) o) := by
  intro r S' ho ls H locs hl hP hS
  cases hg : ib i m with
  | false => rw [hg] at ho; cases ho
  | true =>
    rw [hg] at ho
    exact va_last C.1 C.2.1 C.2.2.2.2.2.1 hP (C.wok.D S) hS q0 1 ha rfl (ib_in hg) hd (fun H1 locs1 hP1 hD1 hS1 => kk r S' ho ls H1 locs1 hl (by rw [← hw]; exact hP1) hS1)
/-- answers -/
theorem j_iret {v : Int32} (C : JC E V cc L ret) (hd : decode cc pc = .ok (.ireturn, 1)) (hr : ret = some .int) (h1 : k ≤ V.2.2.2.2.1) (h2 : n ≤ V.2.2.2.2.2.1) : J E V k n pc loc [.int v] S (some (rI v, S)) := by
  intro r S' ho ls H locs hl hP hS
  cases ho
  exact W.widen h1 h2 (vx_ret (W.iret C.1 C.2.1 (C.rty.trans hr) (fun t ht hW => ⟨⟨_, rfl, rfl, by rw [ht]; exact hP⟩, hS.F ht⟩) hS.2.2 hd C.locks))
def isB (v : Int32) : Bool := decide (v &&& 1 = v)
theorem j_zret {v : Int32} (C : JC E V cc L ret) (hd : decode cc pc = .ok (.ireturn, 1)) (hr : ret = some .boolean) (h1 : k ≤ V.2.2.2.2.1) (h2 : n ≤ V.2.2.2.2.2.1) : J E V k n pc loc [.int v] S (gd (isB v) (some (rI v, S))) := by
  intro r S' ho ls H locs hl hP hS
  cases hg : isB v with
  | false => rw [hg] at ho; cases ho
  | true =>
    rw [hg] at ho
    cases ho
    exact W.widen h1 h2 (vx_ret (W.zret (ty := .boolean) C.1 C.2.1 (C.rty.trans hr) (by simp only [isB, decide_eq_true_eq] at hg; simp only [narrow, hg]) (fun t ht hW => ⟨⟨_, rfl, rfl, by rw [ht]; exact hP⟩, hS.F ht⟩) hS.2.2 hd C.locks))
theorem j_zretc {v : Int32} (C : JC E V cc L ret) (hd : decode cc pc = .ok (.ireturn, 1)) (hr : ret = some .boolean) (h1 : k ≤ V.2.2.2.2.1) (h2 : n ≤ V.2.2.2.2.2.1) (hg : isB v = true) : J E V k n pc loc [.int v] S (some (rI v, S)) := by
  have h := j_zret (v := v) (loc := loc) (S := S) C hd hr h1 h2
  rw [hg] at h
  exact h
theorem j_lret {v : Int64} (C : JC E V cc L ret) (hd : decode cc pc = .ok (.lreturn, 1)) (hr : ret = some .long) (h1 : k ≤ V.2.2.2.2.1) (h2 : n ≤ V.2.2.2.2.2.1) : J E V k n pc loc [.long v] S (some (rL v, S)) := by
  intro r S' ho ls H locs hl hP hS
  cases ho
  exact W.widen h1 h2 (vx_ret (W.lret C.1 C.2.1 (C.rty.trans hr) (fun t ht hW => ⟨⟨_, rfl, rfl, by rw [ht]; exact hP⟩, hS.F ht⟩) hS.2.2 hd C.locks))
theorem j_vret (C : JC E V cc L ret) (hd : decode cc pc = .ok (.return_, 1)) (hr : ret = none) (h1 : k ≤ V.2.2.2.2.1) (h2 : n ≤ V.2.2.2.2.2.1) : J E V k n pc loc [] S (some (rV, S)) := by
  intro r S' ho ls H locs hl hP hS
  cases ho
  exact W.widen h1 h2 (vx_ret (W.vret C.1 C.2.1 (C.rty.trans hr) (fun t ht hW => ⟨⟨_, rfl, rfl, by rw [ht]; exact hP⟩, hS.F ht⟩) hS.2.2 hd C.locks))
theorem j_aret {j : Nat} {cn : String} (C : JC E V cc L ret) (hd : decode cc pc = .ok (.areturn, 1)) (hr : ret = some (.object cn)) (h1 : k ≤ V.2.2.2.2.1) (h2 : n ≤ V.2.2.2.2.2.1) : J E V k n pc loc [.ref (gA V.1 j)] S (some (rR j, S)) := by
  intro r S' ho ls H locs hl hP hS
  cases ho
  exact W.widen h1 h2 (vx_ret (W.aret C.1 C.2.1 (C.rty.trans hr) (Or.inl ⟨_, rfl⟩) (Or.inr ⟨_, rfl⟩) (fun t ht hW => ⟨⟨_, rfl, rfl, by rw [ht]; exact hP⟩, hS.F ht⟩) hS.2.2 hd C.locks))
/-- arraycopy between two rows of the world -/
def cpOK (sp dp m : Int32) (n0 n1 : Nat) : Bool := !decide (sp < 0) && !decide (dp < 0) && !decide (m < 0) && decide (sp.toNatClampNeg + m.toNatClampNeg ≤ n0) && decide (dp.toNatClampNeg + m.toNatClampNeg ≤ n1)
theorem j_copy {a0 a1 n0 n1 ix : Nat} {f g : Nat → Int32} {sp dp m : Int32} (S1 : St) (q0 q1 : Nat) (ha0 : (vW V S)[q0]? = some (a0, .inl (V.1.2.1, n0, .inl f))) (ha1 : (vW V S)[q1]? = some (a1, .inl (V.1.2.1, n1, .inl g))) (hw : (vW V S).set q1 (a1, .inl (V.1.2.1, n1, .inl (va_cpy f g sp.toNatClampNeg dp.toNatClampNeg m.toNatClampNeg))) = vW V S1)
    (C : JC E V cc L ret) (hd : decode cc pc = .ok (.invokestatic ix, 3)) (hq : Cond.methodLink V.2.2.2.2.2.2 ix arraycopyName ∈ tblG) (hnat : Cond.native arraycopyName ∈ tblG) (hstat : Cond.static arraycopyName ∈ tblG) (hini : Cond.initialized "java/lang/System" ∈ tblG) (hL : 1 ≤ L) (hloc : (st.map fun v => v.category).sum + (nativeFrameWords "java/lang/System" "arraycopy" 5 + 11) ≤ 40)
    (kk : J E V k n (pc + 3) loc st S1 o) : J E V k n pc loc (.int m :: .int dp :: .ref a1 :: .int sp :: .ref a0 :: st) S (gd (cpOK sp dp m n0 n1) o) := by
  intro r S' ho ls H locs hl hP hS
  cases hg : cpOK sp dp m n0 n1 with
  | false => rw [hg] at ho; cases ho
  | true =>
    rw [hg] at ho
    simp only [cpOK, Bool.and_eq_true, Bool.not_eq_true', decide_eq_false_iff_not, decide_eq_true_eq] at hg
    obtain ⟨⟨⟨⟨g1, g2⟩, g3⟩, g4⟩, g5⟩ := hg
    exact va_copyi (ty := .int) C.1 C.2.1 (C.2.2.1.trans hl.1.symm) C.2.2.2.1 (C.2.2.2.2.1 _ hq) (C.2.2.2.2.1 _ hnat) (C.2.2.2.2.1 _ hstat) (C.2.2.2.2.1 _ hini) C.2.2.2.2.2.1 hP (C.wok.D S) hS q0 q1 0 0 ha0 ha1 rfl rfl rfl g1 g2 g3 g4 g5 (fun _ _ => rfl)
      (by rw [C.room]; exact hL) (by rw [C.room]; exact Nat.le_trans hloc (Nat.le_mul_of_pos_right 40 hL)) hd (fun H1 locs1 hP1 hD1 hS1 => kk r S' ho ls H1 locs1 hl (by rw [← hw]; exact hP1) hS1)
theorem j_mmin {x y : Int32} {ix : Nat} (C : JC E V cc L ret) (hd : decode cc pc = .ok (.invokestatic ix, 3)) (hq : Cond.methodLink V.2.2.2.2.2.2 ix Lib.Math.min.name ∈ tblG) (hs : Cond.static Lib.Math.min.name ∈ tblG) (hi : Cond.initialized "java/lang/Math" ∈ tblG) (hc : Cond.code Lib.Math.min.name Lib.Math.min.code 2 (some .int) ∈ tblG) (hL : 1 ≤ L) (hloc : (st.map fun v => v.category).sum + 13 ≤ 40) (h1 : k ≤ V.2.2.2.2.1) (h2 : n ≤ V.2.2.2.2.2.1)
    (kk : J E V k n (pc + 3) loc (.int (if y < x then y else x) :: st) S o) : J E V k n pc loc (.int y :: .int x :: st) S o := fun r S' ho ls H locs hl hP hS =>
  va_mmin C.1 C.2.1 (C.2.2.1.trans hl.1.symm) C.2.2.2.1 (C.2.2.2.2.1 _ hq) (C.2.2.2.2.1 _ hs) (C.2.2.2.2.1 _ hi) (C.2.2.2.2.1 _ hc) (by rw [C.room]; exact hL) (by rw [C.room]; exact Nat.le_trans hloc (Nat.le_mul_of_pos_right 40 hL)) (by rw [C.room]; exact h1) (by rw [C.room]; exact h2) hd (kk r S' ho ls H locs hl hP hS)
theorem j_mmax {x y : Int32} {ix : Nat} (C : JC E V cc L ret) (hd : decode cc pc = .ok (.invokestatic ix, 3)) (hq : Cond.methodLink V.2.2.2.2.2.2 ix Lib.Math.max.name ∈ tblG) (hs : Cond.static Lib.Math.max.name ∈ tblG) (hi : Cond.initialized "java/lang/Math" ∈ tblG) (hc : Cond.code Lib.Math.max.name Lib.Math.max.code 2 (some .int) ∈ tblG) (hL : 1 ≤ L) (hloc : (st.map fun v => v.category).sum + 13 ≤ 40) (h1 : k ≤ V.2.2.2.2.1) (h2 : n ≤ V.2.2.2.2.2.1)
    (kk : J E V k n (pc + 3) loc (.int (if x < y then y else x) :: st) S o) : J E V k n pc loc (.int y :: .int x :: st) S o := fun r S' ho ls H locs hl hP hS =>
  va_mmax C.1 C.2.1 (C.2.2.1.trans hl.1.symm) C.2.2.2.1 (C.2.2.2.2.1 _ hq) (C.2.2.2.2.1 _ hs) (C.2.2.2.2.1 _ hi) (C.2.2.2.2.1 _ hc) (by rw [C.room]; exact hL) (by rw [C.room]; exact Nat.le_trans hloc (Nat.le_mul_of_pos_right 40 hL)) (by rw [C.room]; exact h1) (by rw [C.room]; exact h2) hd (kk r S' ho ls H locs hl hP hS)
end JX
