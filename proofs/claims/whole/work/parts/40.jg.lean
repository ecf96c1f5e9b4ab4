/-! JG: a walk over a world that grows (constructors) -/
section JGK
/-- D, the types of the rows, the class, locals, bounds of cells and slots, the world at the start, what the end must be -/
abbrev Uc : Type := va_G × List (ClassId × FieldType) × String × Nat × Nat × Nat × va_W × (va_W → Prop) × Gc
abbrev uA (E : Ec) (U : Uc) : Nat → Prop := va_A U.2.2.2.2.2.2.1 (eS E).heap.size
def nstL : List (String × Nat × MethodName × String) := [("PaidByHeart", 9, yX7_init, "PaidByHeart"), ("PaidByHeart", 20, yX6_init, "PaidByHeart"), ("PaidByHeart", 43, yX0_init, "PaidByHeart"), ("PaidByHeart", 53, yX8_init, "PaidByHeart"), ("PaidByHeart", 64, yX4_init, "PaidByHeart")]
def nsx (U : State) : Prop := ∀ q ∈ nstL, va_Nw (.methodLinkNest q.1 q.2.1 q.2.2.1 q.2.2.2) U
def ZG (E : Ec) (U : Uc) : State → Prop := MQ E.2.2.2.2.2.2.2.1 (va_Qv U.2.2.2.2.2.2.2.1 (fun u t => va_P U.1 vwCl u t.heap ∧ va_D (uA E U) u) (uA E U)) E.2.2.2.2.2.2.1 (eS E) U.2.2.2.2.1 U.2.2.2.2.2.1 (uA E U)
def JGC (E : Ec) (U : Uc) (cc : ByteArray) (L : Nat) : Prop :=
  E.1.tables.exec = Jvm.exec ∧ E.2.2.2.2.2.2.2.2.2.code = cc ∧ E.2.2.2.2.2.2.2.2.2.maxLocals = U.2.2.2.1 ∧ (eS E).vm.findClass U.2.2.1 = some E.2.2.2.2.2.1.cls ∧ (∀ q ∈ tblG, q.before E.2.2.2.2.2.2.1 (eS E) = true) ∧ va_K U.1 vwCl U.2.1 (eS E) ∧ E.2.2.2.2.2.2.2.2.1.locks = false ∧ E.2.2.2.1 = rmL L U.2.2.2.2.1 U.2.2.2.2.2.1 ∧ E.2.2.2.2.2.2.2.2.1.sig.returnType = none ∧ E.2.2.2.2.2.2.2.2.1.name = "<init>" ∧ (∀ q, (eS E).heap.size ≤ q → uA E U q) ∧ ex U.2.2.2.2.2.2.2.2 (uA E U) (eS E) (eS E).heap ∧ E.2.1.stackTraces = false ∧ nsx (eS E)
def JG (E : Ec) (U : Uc) (k n pc : Nat) (loc : List (Nat × Value)) (st : List Value) (ws : va_W) : Prop :=
  ∀ (ls : Array Slot) (H : Heap) (locs : List Loc), lv_has ls U.2.2.2.1 loc → va_P U.1 vwCl ws H → va_D (uA E U) ws → va_S (uA E U) (eS E).heap H locs → WE E H locs k n (ZG E U) (F0 E.2.2.2.2.2.1 pc ls st)
def CtG (l : Launch) (y : MethodName) (cc : ByteArray) (maxL L mc ms : Nat) (D : va_G) (tys : List (ClassId × FieldType)) (as : List Value) (w0 : va_W) (post : va_W → Prop) (G0 : Gc) : Prop :=
  ∀ sz, Met l y (Cond.code y cc maxL none :: tblG) (rmL L mc ms) (va_Pc as (fun U => U.heap.size = sz ∧ va_P D vwCl w0 U.heap ∧ va_K D vwCl tys U ∧ va_D (fun _ => True) w0 ∧ ex G0 (va_A w0 sz) U U.heap ∧ nsx U)) (va_Qv post (fun u t => va_P D vwCl u t.heap ∧ va_D (va_A w0 sz) u) (va_A w0 sz)) mc ms (va_A w0 sz)
variable {E : Ec} {U : Uc} {cc : ByteArray} {L : Nat} {k n pc ix : Nat} {loc : List (Nat × Value)} {st : List Value} {ws : va_W}
theorem jg_aload_n {x : Nat} {f : Fin 4} (j : Nat) {i : Nat} (C : JGC E U cc L) (hd : decode cc pc = .ok (.aload_n f, 1)) (hi : (f : Nat) = i) (hx : loc[j]? = some (i, .ref x)) (kk : JG E U k n (pc + 1) loc (.ref x :: st) ws) : JG E U k n pc loc st ws := fun ls H locs hl hP hD hS => lv_aload_n C.1 C.2.1 hd hi (lv_at hl j hx) (kk ls H locs hl hP hD hS)
theorem jg_dup {v : Value} (C : JGC E U cc L) (hd : decode cc pc = .ok (.dup, 1)) (hc : v.category = 1) (kk : JG E U k n (pc + 1) loc (v :: v :: st) ws) : JG E U k n pc loc (v :: st) ws := fun ls H locs hl hP hD hS => lv_dup C.1 C.2.1 hd hc (kk ls H locs hl hP hD hS)
theorem jg_iconst {i : Int} (v : Int32) (C : JGC E U cc L) (hd : decode cc pc = .ok (.iconst i, 1)) (hv : Int32.ofInt i = v) (kk : JG E U k n (pc + 1) loc (.int v :: st) ws) : JG E U k n pc loc st ws := fun ls H locs hl hP hD hS => lv_iconst C.1 C.2.1 hd hv (kk ls H locs hl hP hD hS)
theorem jg_bipush {i : Int} (v : Int32) (C : JGC E U cc L) (hd : decode cc pc = .ok (.bipush i, 2)) (hv : (Int8.ofInt i).toInt32 = v) (kk : JG E U k n (pc + 2) loc (.int v :: st) ws) : JG E U k n pc loc st ws := fun ls H locs hl hP hD hS => lv_bipush C.1 C.2.1 hd hv (kk ls H locs hl hP hD hS)
theorem jg_sipush {i : Int} (v : Int32) (C : JGC E U cc L) (hd : decode cc pc = .ok (.sipush i, 3)) (hv : (Int16.ofInt i).toInt32 = v) (kk : JG E U k n (pc + 3) loc (.int v :: st) ws) : JG E U k n pc loc st ws := fun ls H locs hl hP hD hS => lv_sipush C.1 C.2.1 hd hv (kk ls H locs hl hP hD hS)
theorem jg_astore_n {x : Nat} {f : Fin 4} {i : Nat} (lv' : List (Nat × Value)) (C : JGC E U cc L) (hd : decode cc pc = .ok (.astore_n f, 1)) (hi : (f : Nat) = i) (hn : i < U.2.2.2.1) (hv : (i, Value.ref x) :: loc.filter (fun q => !(q.1 == i) && !(q.1 + 1 == i && q.2.category == 2)) = lv') (kk : JG E U k n (pc + 1) lv' st ws) : JG E U k n pc loc (.ref x :: st) ws := fun ls H locs hl hP hD hS => lv_astore_n C.1 C.2.1 hd hi hl hn hv (fun ls' hl' => kk ls' H locs hl' hP hD hS)
theorem jg_objInit {x : Nat} (C : JGC E U cc L) (hd : decode cc pc = .ok (.invokespecial ix, 3)) (hq : Cond.methodLink U.2.2.1 ix objectInit ∈ tblG) (hi : Cond.instanceMethod objectInit ∈ tblG) (hc : Cond.code objectInit ⟨#[0xb1]⟩ 1 none ∈ tblG) (hL : 1 ≤ L) (hsm : (st.map fun v => v.category).sum ≤ 8) (kk : JG E U k n (pc + 3) loc st ws) : JG E U k n pc loc (.ref x :: st) ws := fun ls H locs hl hP hD hS =>
  W.objInit C.1 C.2.1 C.2.2.2.1 (C.2.2.2.2.1 _ hq) (C.2.2.2.2.1 _ hi) (C.2.2.2.2.1 _ hc) rfl (hl.1.trans C.2.2.1.symm) rfl hd (by rw [C.2.2.2.2.2.2.2.1]; exact hL) (by rw [C.2.2.2.2.2.2.2.1]; show 2 * 0 + _ + _ ≤ 40 * L; omega) (kk ls H locs hl hP hD hS)
theorem jg_new {Cn : String} {T : u_T} {N ci : Nat} {fs : List Value} (C : JGC E U cc L) (hd : decode cc pc = .ok (.new ix, 3)) (hc : vwCl[ci]? = some (Cn, T, N)) (hin : ∀ q ∈ u_ws Cn T N, q ∈ tblG) (ty : Nat → FieldType) (hty : ∀ k, k < N → parseFieldDescriptor (T k).2.2.1 = some (ty k)) (hfs : ∀ j, j < N → defaultValue (ty j) = vp_V fs j) (hq : Cond.classLink U.2.2.1 ix Cn ∈ tblG) (hins : Cond.instantiable Cn N ∈ tblG) (hini : Cond.initialized Cn ∈ tblG) (h1 : k + 1 ≤ U.2.2.2.2.1) (h2 : n + N ≤ U.2.2.2.2.2.1)
    (kk : ∀ q : Nat, JG E U (k + 1) (n + N) (pc + 3) loc (.ref q :: st) (ws ++ [(q, .inr (ci, fs))])) : JG E U k n pc loc st ws := fun ls H locs hl hP hD hS =>
  va_new (ci := ci) (fs := fs) (C := Cn) (T := T) (N := N) C.1 C.2.1 C.2.2.2.2.1 hin ty hty C.2.2.2.1 (C.2.2.2.2.1 _ hq) (C.2.2.2.2.1 _ hins) (C.2.2.2.2.1 _ hini) C.2.2.2.2.2.1 hP hD hS C.2.2.2.2.2.2.2.2.2.2.1 hc hfs (by rw [C.2.2.2.2.2.2.2.1]; exact h1) (by rw [C.2.2.2.2.2.2.2.1]; exact h2) hd (fun q H1 hP1 hD1 hS1 => kk q ls H1 locs hl hP1 hD1 hS1)
theorem jg_newI {cI : ClassId} {v : Int32} {N : Nat} (t0 : Nat) (ht : U.2.1[t0]? = some (cI, .int)) (C : JGC E U cc L) (hd : decode cc pc = .ok (.newarray .int, 2)) (hq : Cond.arrayClass .int ∈ tblG) (hn : ¬ v < 0) (hN : v.toNatClampNeg = N) (hb : N * componentBytes .int ≤ 536870912) (h1 : k + 1 ≤ U.2.2.2.2.1) (h2 : n + N ≤ U.2.2.2.2.2.1)
    (kk : ∀ q : Nat, JG E U (k + 1) (n + N) (pc + 2) loc (.ref q :: st) (ws ++ [(q, .inl (cI, N, .inl (fun _ => 0)))])) : JG E U k n pc loc (.int v :: st) ws := fun ls H locs hl hP hD hS =>
  va_newa (atype := .int) (ty := .int) (N' := N) (a0 := (N, .inl (fun _ => 0))) C.1 C.2.1 (C.2.2.2.2.1 _ hq) rfl C.2.2.2.2.2.1 hP hD hS C.2.2.2.2.2.2.2.2.2.2.1 (fun cA => rfl) hn hN hb (by rw [C.2.2.2.2.2.2.2.1]; exact h1) (by rw [C.2.2.2.2.2.2.2.1]; exact h2) hd (fun q cA H1 hK1 hP1 hD1 hS1 => by
    have e1 := (hK1.2 U.2.1.length (cA, .int) (by simp)).2
    have e2 := (C.2.2.2.2.2.1.2 t0 (cI, .int) ht).2
    have e : cA = cI := Option.some.inj ((show (eS E).vm.findClass _ = some cA from e1).symm.trans e2)
    subst e
    exact kk q ls H1 locs hl hP1 hD1 hS1)
theorem jg_newJ {cJ : ClassId} {v : Int32} {N : Nat} (t0 : Nat) (ht : U.2.1[t0]? = some (cJ, .long)) (C : JGC E U cc L) (hd : decode cc pc = .ok (.newarray .long, 2)) (hq : Cond.arrayClass .long ∈ tblG) (hn : ¬ v < 0) (hN : v.toNatClampNeg = N) (hb : N * componentBytes .long ≤ 536870912) (h1 : k + 1 ≤ U.2.2.2.2.1) (h2 : n + N ≤ U.2.2.2.2.2.1)
    (kk : ∀ q : Nat, JG E U (k + 1) (n + N) (pc + 2) loc (.ref q :: st) (ws ++ [(q, .inl (cJ, N, .inr (.inl (fun _ => 0))))])) : JG E U k n pc loc (.int v :: st) ws := fun ls H locs hl hP hD hS =>
  va_newa (atype := .long) (ty := .long) (N' := N) (a0 := (N, .inr (.inl (fun _ => 0)))) C.1 C.2.1 (C.2.2.2.2.1 _ hq) rfl C.2.2.2.2.2.1 hP hD hS C.2.2.2.2.2.2.2.2.2.2.1 (fun cA => rfl) hn hN hb (by rw [C.2.2.2.2.2.2.2.1]; exact h1) (by rw [C.2.2.2.2.2.2.2.1]; exact h2) hd (fun q cA H1 hK1 hP1 hD1 hS1 => by
    have e1 := (hK1.2 U.2.1.length (cA, .long) (by simp)).2
    have e2 := (C.2.2.2.2.2.1.2 t0 (cJ, .long) ht).2
    have e : cA = cJ := Option.some.inj ((show (eS E).vm.findClass _ = some cA from e1).symm.trans e2)
    subst e
    exact kk q ls H1 locs hl hP1 hD1 hS1)
theorem jg_putF {T : u_T} {N ci a : Nat} {Cn : String} {fs : List Value} {v : Value} {ty : FieldType} (ws1 : va_W) (q0 kf : Nat) (C : JGC E U cc L) (hd : decode cc pc = .ok (.putfield ix, 3)) (he : ws[q0]? = some (a, .inr (ci, fs))) (hc : vwCl[ci]? = some (Cn, T, N)) (hk : kf < N) (hin : ∀ q ∈ u_ws Cn T N, q ∈ tblG) (ty0 : Nat → FieldType) (hty : ∀ k, k < N → parseFieldDescriptor (T k).2.2.1 = some (ty0 k)) (hnm : ∀ a, a < N → ∀ b, b < N → a ≠ b → (T a).2.1 ≠ (T b).2.1) (hq : Cond.fieldLink U.2.2.1 ix (T kf).1 (T kf).2.1 (T kf).2.2.1 ∈ tblG) (hfin : (T kf).2.2.2 = true) (hdecl : (T kf).1 = U.2.2.1) (hti : parseFieldDescriptor (T kf).2.2.1 = some ty) (hn : narrow ty v = v) (hfit : fits ty v = true) (hlen : kf < fs.length) (hw : ws.set q0 (a, .inr (ci, fs.set kf v)) = ws1)
    (kk : JG E U k n (pc + 3) loc st ws1) : JG E U k n pc loc (v :: .ref a :: st) ws := fun ls H locs hl hP hD hS =>
  va_putF (D := U.1) (ci := ci) (v := v) (ty := ty) (C := Cn) (T := T) (N := N) C.1 C.2.1 C.2.2.2.2.1 hin ty0 hty hnm C.2.2.2.1 C.2.2.2.2.2.1 hP hD hS q0 he hc kf hk (C.2.2.2.2.1 _ hq) (fun _ h9 => h9) hfin C.2.2.2.2.2.2.2.2.2.1 hdecl hti hn hfit hlen hd (fun H1 locs1 hP1 hD1 hS1 => kk ls H1 locs1 hl (by rw [← hw]; exact hP1) (by rw [← hw]; exact hD1) hS1)
theorem jg_put {T : u_T} {N ci a : Nat} {Cn : String} {fs : List Value} {v : Int32} (ws1 : va_W) (q0 kf : Nat) (C : JGC E U cc L) (hd : decode cc pc = .ok (.putfield ix, 3)) (he : ws[q0]? = some (a, .inr (ci, fs))) (hc : vwCl[ci]? = some (Cn, T, N)) (hk : kf < N) (hin : ∀ q ∈ u_ws Cn T N, q ∈ tblG) (ty0 : Nat → FieldType) (hty : ∀ k, k < N → parseFieldDescriptor (T k).2.2.1 = some (ty0 k)) (hnm : ∀ a, a < N → ∀ b, b < N → a ≠ b → (T a).2.1 ≠ (T b).2.1) (hq : Cond.fieldLink U.2.2.1 ix (T kf).1 (T kf).2.1 (T kf).2.2.1 ∈ tblG) (hfin : (T kf).2.2.2 = false) (hti : parseFieldDescriptor (T kf).2.2.1 = some .int) (hlen : kf < fs.length) (hw : ws.set q0 (a, .inr (ci, fs.set kf (.int v))) = ws1)
    (kk : JG E U k n (pc + 3) loc st ws1) : JG E U k n pc loc (.int v :: .ref a :: st) ws := fun ls H locs hl hP hD hS =>
  va_put (D := U.1) (ci := ci) (v := .int v) (ty := .int) (C := Cn) (T := T) (N := N) C.1 C.2.1 C.2.2.2.2.1 hin ty0 hty hnm C.2.2.2.1 C.2.2.2.2.2.1 hP hD hS q0 he hc kf hk (C.2.2.2.2.1 _ hq) (fun _ h9 => h9) hfin hti rfl rfl hlen hd (fun H1 locs1 hP1 hD1 hS1 => kk ls H1 locs1 hl (by rw [← hw]; exact hP1) (by rw [← hw]; exact hD1) hS1)
theorem jg_vret (C : JGC E U cc L) (hd : decode cc pc = .ok (.return_, 1)) (h1 : k ≤ U.2.2.2.2.1) (h2 : n ≤ U.2.2.2.2.2.1) (hp : U.2.2.2.2.2.2.2.1 ws) : JG E U k n pc loc [] ws := fun ls H locs hl hP hD hS =>
  W.widen h1 h2 (W.vret C.1 C.2.1 C.2.2.2.2.2.2.2.2.1 (fun t ht hW => ⟨⟨ws, rfl, hp, by rw [ht]; exact hP, hD⟩, hS.F ht⟩) hS.2.2 hd C.2.2.2.2.2.2.1)
theorem jg_widen {k1 n1 : Nat} (h1 : k ≤ k1) (h2 : n ≤ n1) (kk : JG E U k1 n1 pc loc st ws) : JG E U k n pc loc st ws := fun ls H locs hl hP hD hS => W.widen h1 h2 (kk ls H locs hl hP hD hS)
/-- what a constructor's call needs of the caller's words: linked plainly, or to a nest mate -/
def LkG (own : String) (ix : Nat) (y : MethodName) (s : State) : Prop := Cond.methodLink own ix y ∈ tblG ∨ ∃ host, va_Nw (.methodLinkNest own ix y host) s
theorem jg_ctor {y : MethodName} {bytes : ByteArray} {maxL m L' mc ms a : Nat} {As st0 : List Value} {wc wr : va_W} {post : va_W → Prop} (isC isR : List Nat) (C : JGC E U cc L) (hM : CtG E.2.1 y bytes maxL L' mc ms U.1 U.2.1 (.ref a :: As) wc post U.2.2.2.2.2.2.2.2) (hd : decode cc pc = .ok (.invokespecial ix, 3)) (hK : Kn y bytes maxL none m) (hi : Cond.instanceMethod y ∈ tblG) (hy : y.name = "<init>") (hq : LkG U.2.2.1 ix y (eS E)) (hL : L' + 1 ≤ L) (hn : As.length = m) (hst : st0 = As.reverse ++ .ref a :: st) (hsm : (st.map fun v => v.category).sum ≤ 8) (hC : isC.map (fun i => ws[i]?) = wc.map some) (hR : isR.map (fun i => ws[i]?) = wr.map some) (hnd : va_nd isR = true) (hndC : va_nd isC = true) (hdis : ∀ i ∈ isR, i ∉ isC) (hf : k + mc ≤ U.2.2.2.2.1 ∧ n + ms ≤ U.2.2.2.2.2.1)
    (kk : ∀ w1, post w1 → JG E U (k + mc) (n + ms) (pc + 3) loc st (wr ++ w1)) : JG E U k n pc loc st0 ws := by
  intro ls H locs hl hP hD hS
  have hs : isC.filterMap (fun i => ws[i]?) = wc := by
    have := congrArg (fun l => l.filterMap id) hC
    simpa [List.filterMap_map, Function.comp_def] using this
  have hPc := hP.sub (ws' := wc) isC hs
  have hDc := hD.sub (ws' := wc) isC hndC hC
  have hFc := va_free (wc := wc) hD hS C.2.2.2.2.2.2.2.2.2.2.1 isC hC
  have hp : PreS (eS E) H (va_Pc (.ref a :: As) (fun U9 => U9.heap.size = H.size ∧ va_P U.1 vwCl wc U9.heap ∧ va_K U.1 vwCl U.2.1 U9 ∧ va_D (fun _ => True) wc ∧ ex U.2.2.2.2.2.2.2.2 (va_A wc H.size) U9 U9.heap ∧ nsx U9)) (.ref a :: As) := by
    refine ⟨fun a U g mk q => ?_, fun U hU hW => ⟨rfl, by rw [hU], by rw [hU]; exact hPc, va_K.moved hW.alike C.2.2.2.2.2.1, hDc.weaken (fun _ _ _ _ => trivial), by rw [hU]; exact ((C.2.2.2.2.2.2.2.2.2.2.2.1.kept hS.2.1).narrow hFc).warm hW, fun q hq => va_Nw.warmM hW (C.2.2.2.2.2.2.2.2.2.2.2.2.2 q hq)⟩⟩
    obtain ⟨q0, q1, qP, qK, qD, qX, qN⟩ := q
    exact ⟨q0, q1, qP, va_K.moved (u := U) (U := U.calling g mk a) (Vm.Alike.refl U.vm) qK, qD, ex.same rfl qX, fun q hq => va_Nw.same rfl rfl (qN q hq)⟩
  have hroom : (rmL L' mc ms).frames + 1 ≤ E.2.2.2.1.frames ∧ 8 + (maxL + 11) + (rmL L' mc ms).locals ≤ E.2.2.2.1.locals := by
    rw [C.2.2.2.2.2.2.2.1]
    exact ⟨hL, by show 8 + (maxL + 11) + 40 * L' ≤ 40 * L; have := hK.2.2.2; omega⟩
  have hrun : va_Run E.1 E.2.1 E.2.2.1 E.2.2.2.1 E.2.2.2.2.1 E.2.2.2.2.2.1 E.2.2.2.2.2.2.1 E.2.2.2.2.2.2.2.1 E.2.2.2.2.2.2.2.2.1 E.2.2.2.2.2.2.2.2.2 H locs k n mc ms (F0 E.2.2.2.2.2.1 pc ls st0) st (va_Qv post (fun u t => va_P U.1 vwCl u t.heap ∧ va_D (va_A wc H.size) u) (va_A wc H.size) (Value.ref a :: As).toArray) (va_A wc H.size) := by
    rcases hq with hq | ⟨host, hq⟩
    · exact va_runI (Ts := tblG) ⟨C.1, C.2.1, C.2.2.1, C.2.2.2.1, C.2.2.2.2.1⟩ (hM H.size) ⟨callB_of m C.2.2.2.2.1 (gin hK.1) rfl rfl rfl (C.2.2.2.2.1 _ hK.2.1) (C.2.2.2.2.1 _ hq) hK.2.2.1 hroom, hy, C.2.2.2.2.1 _ hi⟩ hp rfl hn hl.1 hst (lv_room hsm) hd (by rw [C.2.2.2.2.2.2.2.1]; exact hf)
    · exact va_runIN (Ts := tblG) (host := host) ⟨C.1, C.2.1, C.2.2.1, C.2.2.2.1, C.2.2.2.2.1⟩ (hM H.size) ⟨va_cnB m C.2.2.2.2.1 (gin hK.1) rfl rfl rfl hq (C.2.2.2.2.1 _ hK.2.1) hK.2.2.1 hroom, hy, C.2.2.2.2.1 _ hi⟩ hp rfl hn hl.1 hst (lv_room hsm) hd (by rw [C.2.2.2.2.2.2.2.1]; exact hf)
  exact va_callv hrun hS (fun q _ h => hFc q h) hFc (fun u t H1 locs1 ht hvm hw hB hz1 hk1 hS1 => by
    obtain ⟨hP1, hD1⟩ := hB
    rw [ht] at hP1
    obtain ⟨hP2, hD2⟩ := va_join (wr := wr) (w1 := u) hP hD isC isR hC hR hnd hdis hk1 hFc hP1 hD1
    exact kk u hw ls H1 locs1 hl hP2 hD2 hS1)
theorem ctg_of {l : Launch} {y : MethodName} {maxL mc ms : Nat} {own : String} {D : va_G} {tys : List (ClassId × FieldType)} {as : List Value} {w0 : va_W} {post : va_W → Prop} {G0 : Gc} (hfl : l.stackTraces = false) (hy : plainName y.cls = true) (hown : y.cls = own) (hini : y.name = "<init>") (hlen : (lg_sl as).length ≤ maxL)
    (body : ∀ E : Ec, E.2.1 = l → JGC E (D, tys, own, maxL, mc, ms, w0, post, G0) cc L → JG E (D, tys, own, maxL, mc, ms, w0, post, G0) 0 0 0 (lv_args 0 as) [] w0) : CtG l y cc maxL L mc ms D tys as w0 post G0 := by
  intro sz
  refine Met.ofW (cc := cc) (maxL := maxL) (ret := none) hy rfl ?_
  intro p e s m args below meth c s₁ B hml hv
  obtain ⟨rfl, hsz, hP, hK, hD0, hX, hN⟩ := hv
  subst hsz
  have hts := atoms_spec (ws := Cond.code y cc maxL none :: tblG) B.pre
  have hl := lv_entry as (n := maxL) hlen
  rw [lg_entry_eq]
  exact body (p, l, e, (headSpec (Cond.code y cc maxL none :: tblG) (rmL L mc ms)).room, s, m, as.toArray, below, meth, c) rfl
    ⟨B.exec, B.bytes, hml, by rw [← hown]; exact findClass_of_methodNamed B.named, fun q hq => hts q (List.mem_cons_of_mem _ hq), hK, B.notSynchronized, rfl, B.returns, (name_of_methodNamed B.named B.method).1.trans hini, fun q h => Or.inr h, hX, hfl, hN⟩ _ _ _ hl hP (hD0.self) va_S.rf
theorem w_key {G : Gc} {w : Gc → St → va_W} {N : Nat} {S : St} (h1 : ∀ S, (w G S).map Prod.fst = (List.range N).map (gA G)) {i : Nat} (hi : i < N) : ∃ p, (w G S)[i]? = some p ∧ p.1 = gA G i := by
  have h2 := congrArg (fun l => l[i]?) (h1 S)
  simp only [List.getElem?_map, List.getElem?_range hi, Option.map_some] at h2
  cases h3 : (w G S)[i]? with
  | none => rw [h3] at h2; cases h2
  | some p => rw [h3] at h2; exact ⟨p, rfl, Option.some.inj h2⟩
theorem wok_of {G : Gc} {w : Gc → St → va_W} {N : Nat} {A : Nat → Prop} {S : St} (h1 : ∀ S, (w G S).map Prod.fst = (List.range N).map (gA G)) (hD : va_D A (w G S)) : Wok G w N := by
  refine ⟨h1, fun i j hi hj e => ?_⟩
  obtain ⟨p, hp, ep⟩ := w_key (S := S) h1 hi
  obtain ⟨q, hq, eq⟩ := w_key (S := S) h1 hj
  exact hD.1 i j p q hp hq (by rw [ep, eq, e])
/-- a method of a whole world, called by its constructor -/
theorem jg_callJ {y : MethodName} {bytes : ByteArray} {maxL m L' : Nat} {G : Gc} {w : Gc → St → va_W} {N : Nat} {S S' : St} {ci : Nat} {fs : List Value} {Cq : vw_C} (C : JGC E U cc L) (hM : Wok G w N → Ct E.2.1 y (Cond.code y bytes maxL none :: tblG) L' 0 0 G w N [.ref (gA G 0)] S (some (rV, S'))) (hG : U.1 = G.1 ∧ U.2.1 = tysG G ∧ U.2.2.2.2.2.2.2.2.2.2.2.2 = G.2.2.2.2) (h1 : ∀ S, (w G S).map Prod.fst = (List.range N).map (gA G)) (hd : decode cc pc = .ok (.invokevirtual ix, 3)) (hK : Kn y bytes maxL none m) (hi : Cond.instanceMethod y ∈ tblG ∧ Cond.selects Cq.1 y y ∈ tblG) (he : (w G S)[0]? = some (gA G 0, .inr (ci, fs))) (hc : vwCl[ci]? = some Cq) (hq : Cond.methodLink U.2.2.1 ix y ∈ tblG) (hL : L' + 1 ≤ L) (hm : m = 0) (hsm : (st.map fun v => v.category).sum ≤ 8) (hf : k ≤ U.2.2.2.2.1 ∧ n ≤ U.2.2.2.2.2.1) (hws : ws = w G S)
    (kk : JG E U k n (pc + 3) loc st (w G S')) : JG E U k n pc loc (.ref (gA G 0) :: st) ws := by
  subst hws
  intro ls H locs hl hP hD hS
  obtain ⟨g1, g2, g3⟩ := hG
  have hW : Wok G w N := wok_of h1 hD
  have hAW : ∀ q, AW G N H.size q → uA E U q := fun q h => h.elim (fun h => by
    obtain ⟨j, hj, rfl⟩ := h
    obtain ⟨p, hp, ep⟩ := w_key (S := S) h1 hj
    rw [← ep]
    exact hD.2 j _ hp) (fun h => C.2.2.2.2.2.2.2.2.2.2.1 q (Nat.le_trans hS.1 h))
  have hP' : va_P G.1 vwCl (w G S) H := by rw [← g1]; exact hP
  have hX : ∀ U9 : State, U9.heap = H → (eS E).WarmedH U9.vm → ex G (AW G N H.size) U9 U9.heap := fun U9 hU hW9 => by
    rw [hU]
    have h9 := ((C.2.2.2.2.2.2.2.2.2.2.2.1.kept hS.2.1).narrow hAW).warm hW9
    unfold ex exS at h9 ⊢
    rw [g3] at h9
    exact h9
  have hrun := vx_runV (C := Cq.1) (As := []) (rest := st) (g := F0 E.2.2.2.2.2.1 pc ls (.ref (gA G 0) :: st)) (R := E.2.2.2.1) (locs := locs) (cells := k) (slots := n) (H := H) (p := E.1) (l := E.2.1) (e := E.2.2.1) (below := E.2.2.2.2.2.2.2.1) (meth := E.2.2.2.2.2.2.2.2.1) ⟨C.1, C.2.1, C.2.2.1, C.2.2.2.1, C.2.2.2.2.1⟩ (hM hW _ _ rfl H.size) ⟨callB_of m C.2.2.2.2.1 (gin hK.1) rfl rfl rfl (C.2.2.2.2.1 _ hK.2.1) (C.2.2.2.2.1 _ hq) hK.2.2.1 (by rw [C.2.2.2.2.2.2.2.1]; exact ⟨hL, by show 8 + (maxL + 11) + 40 * L' ≤ 40 * L; have := hK.2.2.2; omega⟩), C.2.2.2.2.1 _ hi.1, C.2.2.2.2.1 _ hi.2⟩ ⟨pcw_blind, by rw [← g1] at hP'; exact va_recv C.2.2.2.2.2.1 hP' hc he, fun U9 hU hW9 => ⟨rfl, by rw [hU], by rw [hU]; exact hP', by rw [← g1, ← g2]; exact va_K.moved hW9.alike C.2.2.2.2.2.1, hX U9 hU hW9⟩⟩ rfl hm.symm hl.1 rfl (lv_room hsm) hd (by rw [C.2.2.2.2.2.2.2.1]; exact hf)
  intro T hT X
  rcases hrun T hT X with ⟨v, st₀, t, T', L9, h0, X', hL9, e1, e2, ⟨⟨ov, z1, z2, z3⟩, hF⟩, stp⟩ | ⟨q, st₀, t, T', L9, En, ce, h0, X', hL9, e1, e2, ⟨j, z1, z2, z3, hF⟩, hce, hcv, hcl, stp⟩
  · cases z2
    cases z1
    obtain ⟨-, -, k3⟩ := vx_keep h0 e1 hS (fun q _ h => hAW q h) (fun q h => hAW q h) hL9 hF
    have hP9 : va_P U.1 vwCl (w G S') T'.heap := by rw [e1, g1]; exact z3
    have hD9 : va_D (uA E U) (w G S') := ⟨(hW.D (sz := 0) S').1, fun i q hq => hAW q.1 (Or.inl ⟨i, hW.at hq⟩)⟩
    obtain ⟨t2, a1, b1⟩ := kk ls T'.heap (locs ++ L9) hl hP9 hD9 k3 T' rfl X'
    exact ⟨t2, stp t2 a1, b1⟩
  · cases z1
theorem jg_ws (ws1 : va_W) (h : ws = ws1) (kk : JG E U k n pc loc st ws1) : JG E U k n pc loc st ws := h ▸ kk
end JGK
