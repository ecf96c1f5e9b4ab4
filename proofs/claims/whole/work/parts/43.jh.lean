/-! rows of J for a method with handlers -/
section JHK
def JH (E : Ec) (V : Vc) (cc : ByteArray) (L : Nat) (ret : Option FieldType) (hh : List (Nat × Nat × Nat × Nat)) : Prop :=
  E.1.tables.exec = Jvm.exec ∧ E.2.2.2.2.2.2.2.2.2.code = cc ∧ E.2.2.2.2.2.2.2.2.2.maxLocals = V.2.2.2.1 ∧ (eS E).vm.findClass V.2.2.2.2.2.2 = some E.2.2.2.2.2.1.cls ∧ (∀ q ∈ tblG, q.before E.2.2.2.2.2.2.1 (eS E) = true) ∧ va_K V.1.1 vwCl (tysG V.1) (eS E) ∧ Wok V.1 V.2.1 V.2.2.1 ∧ ex V.1 (vA E V) (eS E) (eS E).heap ∧ E.2.2.2.2.2.2.2.2.1.locks = false ∧ E.2.2.2.2.2.2.2.2.2.exceptionTable.toList = tableOf hh ∧ E.2.2.2.1 = rmL L V.2.2.2.2.1 V.2.2.2.2.2.1 ∧ E.2.1.stackTraces = false ∧ E.2.2.2.2.2.2.2.2.1.sig.returnType = ret
variable {E : Ec} {V : Vc} {cc : ByteArray} {L : Nat} {ret : Option FieldType} {hh : List (Nat × Nat × Nat × Nat)} {k n pc : Nat} {loc : List (Nat × Value)} {st : List Value} {S : St} {o : Oz}
theorem JH.wok (C : JH E V cc L ret hh) : Wok V.1 V.2.1 V.2.2.1 := C.2.2.2.2.2.2.1
theorem JH.ex (C : JH E V cc L ret hh) : ex V.1 (vA E V) (eS E) (eS E).heap := C.2.2.2.2.2.2.2.1
theorem JH.locks (C : JH E V cc L ret hh) : E.2.2.2.2.2.2.2.2.1.locks = false := C.2.2.2.2.2.2.2.2.1
theorem JH.room (C : JH E V cc L ret hh) : E.2.2.2.1 = rmL L V.2.2.2.2.1 V.2.2.2.2.2.1 := C.2.2.2.2.2.2.2.2.2.2.1
theorem JH.flags (C : JH E V cc L ret hh) : E.2.1.stackTraces = false := C.2.2.2.2.2.2.2.2.2.2.2.1
theorem JH.rty (C : JH E V cc L ret hh) : E.2.2.2.2.2.2.2.2.1.sig.returnType = ret := C.2.2.2.2.2.2.2.2.2.2.2.2
theorem jh_aload_n {x : Nat} {f : Fin 4} (j : Nat) {i : Nat} (C : JH E V cc L ret hh) (hd : decode cc pc = .ok (.aload_n f, 1)) (hi : (f : Nat) = i) (hx : loc[j]? = some (i, .ref x)) (kk : J E V k n (pc + 1) loc (.ref x :: st) S o) : J E V k n pc loc (st) S o := fun r S' ho ls H locs hl hP hS => lv_aload_n C.1 C.2.1 hd hi (lv_at hl j hx) (kk r S' ho ls H locs hl hP hS)
theorem jh_aload {x : Nat} (j : Nat) {i : Nat} (C : JH E V cc L ret hh) (hd : decode cc pc = .ok (.aload i, 2)) (hx : loc[j]? = some (i, .ref x)) (kk : J E V k n (pc + 2) loc (.ref x :: st) S o) : J E V k n pc loc (st) S o := fun r S' ho ls H locs hl hP hS => lv_aload C.1 C.2.1 hd (lv_at hl j hx) (kk r S' ho ls H locs hl hP hS)
theorem jh_iconst {i : Int} (v : Int32) (C : JH E V cc L ret hh) (hd : decode cc pc = .ok (.iconst i, 1)) (hv : Int32.ofInt i = v) (kk : J E V k n (pc + 1) loc (.int v :: st) S o) : J E V k n pc loc (st) S o := fun r S' ho ls H locs hl hP hS => lv_iconst C.1 C.2.1 hd hv (kk r S' ho ls H locs hl hP hS)
theorem jh_iload_n {x : Int32} {f : Fin 4} (j : Nat) {i : Nat} (C : JH E V cc L ret hh) (hd : decode cc pc = .ok (.iload_n f, 1)) (hi : (f : Nat) = i) (hx : loc[j]? = some (i, .int x)) (kk : J E V k n (pc + 1) loc (.int x :: st) S o) : J E V k n pc loc (st) S o := fun r S' ho ls H locs hl hP hS => lv_iload_n C.1 C.2.1 hd hi (lv_at hl j hx) (kk r S' ho ls H locs hl hP hS)
theorem jh_iload {x : Int32} (j : Nat) {i : Nat} (C : JH E V cc L ret hh) (hd : decode cc pc = .ok (.iload i, 2)) (hx : loc[j]? = some (i, .int x)) (kk : J E V k n (pc + 2) loc (.int x :: st) S o) : J E V k n pc loc (st) S o := fun r S' ho ls H locs hl hP hS => lv_iload C.1 C.2.1 hd (lv_at hl j hx) (kk r S' ho ls H locs hl hP hS)
theorem jh_i2l {x : Int32} (C : JH E V cc L ret hh) (hd : decode cc pc = .ok (.i2l, 1))  (kk : J E V k n (pc + 1) loc (.long x.toInt64 :: st) S o) : J E V k n pc loc (.int x :: st) S o := fun r S' ho ls H locs hl hP hS => lv_i2l C.1 C.2.1 hd rfl (kk r S' ho ls H locs hl hP hS)
theorem jh_goto {off : Int} (tgt : Nat) (C : JH E V cc L ret hh) (hd : decode cc pc = .ok (.goto off, 3)) (ht : (pc : Int) + off = (tgt : Int)) (kk : J E V k n tgt loc st S o) : J E V k n pc loc st S o := fun r S' ho ls H locs hl hP hS => lv_goto C.1 C.2.1 hd ht (kk r S' ho ls H locs hl hP hS)
theorem jh_astore_n {x : Nat} {f : Fin 4} {i : Nat} (lv' : List (Nat × Value)) (C : JH E V cc L ret hh) (hd : decode cc pc = .ok (.astore_n f, 1)) (hi : (f : Nat) = i) (hn : i < V.2.2.2.1) (hv : (i, Value.ref x) :: loc.filter (fun q => !(q.1 == i) && !(q.1 + 1 == i && q.2.category == 2)) = lv') (kk : J E V k n (pc + 1) lv' st S o) : J E V k n pc loc (.ref x :: st) S o := fun r S' ho ls H locs hl hP hS => lv_astore_n C.1 C.2.1 hd hi hl hn hv (fun ls' hl' => kk r S' ho ls' H locs hl' hP hS)
theorem jh_astore {x : Nat} {i : Nat} (lv' : List (Nat × Value)) (C : JH E V cc L ret hh) (hd : decode cc pc = .ok (.astore i, 2)) (hn : i < V.2.2.2.1) (hv : (i, Value.ref x) :: loc.filter (fun q => !(q.1 == i) && !(q.1 + 1 == i && q.2.category == 2)) = lv') (kk : J E V k n (pc + 2) lv' st S o) : J E V k n pc loc (.ref x :: st) S o := fun r S' ho ls H locs hl hP hS => lv_astore C.1 C.2.1 hd hl hn hv (fun ls' hl' => kk r S' ho ls' H locs hl' hP hS)
theorem jh_iret {v : Int32} (C : JH E V cc L ret hh) (hd : decode cc pc = .ok (.ireturn, 1)) (hr : ret = some .int) (h1 : k ≤ V.2.2.2.2.1) (h2 : n ≤ V.2.2.2.2.2.1) : J E V k n pc loc [.int v] S (some (rI v, S)) := by
  intro r S' ho ls H locs hl hP hS
  cases ho
  exact W.widen h1 h2 (vx_ret (W.iret C.1 C.2.1 (C.rty.trans hr) (fun t ht hW => ⟨⟨_, rfl, rfl, by rw [ht]; exact hP⟩, hS.F ht⟩) hS.2.2 hd C.locks))
theorem jh_last {a m : Nat} {f : Nat → Int64} {i : Int32} {v : Int64} (S1 : St) (q0 : Nat) (ha : (vW V S)[q0]? = some (a, .inl (V.1.2.2.1, m, .inr (.inl f)))) (hw : (vW V S).set q0 (a, .inl (V.1.2.2.1, m, .inr (.inl (vp_updL f i.toNatClampNeg v)))) = vW V S1) (C : JH E V cc L ret hh) (hd : decode cc pc = .ok (.lastore, 1))
    (kk : J E V k n (pc + 1) loc st S1 o) : J E V k n pc loc (.long v :: .int i :: .ref a :: st) S (gd (ib i m) o) := by
  intro r S' ho ls H locs hl hP hS
  cases hg : ib i m with
  | false => rw [hg] at ho; cases ho
  | true =>
    rw [hg] at ho
    exact va_last C.1 C.2.1 C.2.2.2.2.2.1 hP (C.wok.D S) hS q0 1 ha rfl (ib_in hg) hd (fun H1 locs1 hP1 hD1 hS1 => kk r S' ho ls H1 locs1 hl (by rw [← hw]; exact hP1) hS1)
theorem hpcw_of (C : JH E V cc L ret hh) {H : Heap} {locs : List Loc} (hP : va_P V.1.1 vwCl (vW V S) H) (hS : va_S (vA E V) (eS E).heap H locs) (as : List Value) : ∀ U : State, U.heap = H → (eS E).WarmedH U.vm → PcW V.1 V.2.1 V.2.2.1 as S H.size as.toArray U := fun U hU hW =>
  ⟨rfl, by rw [hU], by rw [hU]; exact hP, va_K.moved hW.alike C.2.2.2.2.2.1, by rw [hU]; exact ((C.ex.kept hS.2.1).narrow (AW_mono hS.1)).warm hW⟩
theorem hcb_of (C : JH E V cc L ret hh) {y : MethodName} {bytes : ByteArray} {maxL m L' mc ms ix : Nat} {rt : Option FieldType} (hK : Kn y bytes maxL rt m) (hq : Cond.methodLink V.2.2.2.2.2.2 ix y ∈ tblG) (hL : L' + 1 ≤ L) : CallB E.2.2.2.1 (eS E) E.2.2.2.2.2.2.1 V.2.2.2.2.2.2 ix y bytes maxL rt (Cond.code y bytes maxL rt :: tblG) (rmL L' mc ms) mc ms m :=
  callB_of m C.2.2.2.2.1 (gin hK.1) rfl rfl rfl (C.2.2.2.2.1 _ hK.2.1) (C.2.2.2.2.1 _ hq) hK.2.2.1 (by rw [C.room]; exact ⟨hL, by show 8 + (maxL + 11) + 40 * L' ≤ 40 * L; have := hK.2.2.2; omega⟩)
theorem hrn_V {y : MethodName} {bytes : ByteArray} {maxL m L' mc ms ix b : Nat} {rt : Option FieldType} {As st0 rest : List Value} {ci : Nat} {fs : List Value} {Cq : vw_C} (q0 : Nat) (hM : Ct E.2.1 y (Cond.code y bytes maxL rt :: tblG) L' mc ms V.1 V.2.1 V.2.2.1 (.ref b :: As) S o) (hK : Kn y bytes maxL rt m) (hi : Cond.instanceMethod y ∈ tblG ∧ Cond.selects Cq.1 y y ∈ tblG) (he : (vW V S)[q0]? = some (b, .inr (ci, fs))) (hc : vwCl[ci]? = some Cq)
    (C : JH E V cc L ret hh) (hd : decode cc pc = .ok (.invokevirtual ix, 3)) (hq : Cond.methodLink V.2.2.2.2.2.2 ix y ∈ tblG) (hL : L' + 1 ≤ L) (hn : As.length = m) (hst : st0 = As.reverse ++ .ref b :: rest) (hW : (rest.map fun v => v.category).sum ≤ 8) (hf : k + mc ≤ V.2.2.2.2.1 ∧ n + ms ≤ V.2.2.2.2.2.1) : Rn E V k n mc ms pc loc st0 rest S o := by
  intro r S' ho ls H locs hl hP hS
  exact ⟨_, vx_runV (C := Cq.1) (As := As) (rest := rest) ⟨C.1, C.2.1, C.2.2.1, C.2.2.2.1, C.2.2.2.2.1⟩ (hM r S' ho H.size) ⟨hcb_of C hK hq hL, C.2.2.2.2.1 _ hi.1, C.2.2.2.2.1 _ hi.2⟩ ⟨pcw_blind, va_recv C.2.2.2.2.2.1 hP hc he, hpcw_of C hP hS _⟩ rfl hn hl.1 hst (lv_room hW) hd (by rw [C.room]; exact hf)⟩
/-- the handler that takes a thrown xN j, behind those that let it go by -/
def Hd (E : Ec) (V : Vc) (hh : List (Nat × Nat × Nat × Nat)) (pc j hp : Nat) : Prop :=
  ∃ (pre : List ExceptionTableEntry) (x : ExceptionTableEntry) (suf : List ExceptionTableEntry), tableOf hh = pre ++ x :: suf ∧ (∀ z ∈ pre, covers z pc = false ∨ (z.catchType ≠ 0 ∧ ∃ nm : String, Cond.classLink V.2.2.2.2.2.2 z.catchType nm ∈ tblG ∧ va_Nc (xN j) nm (eS E))) ∧ covers x pc = true ∧ x.catchType ≠ 0 ∧ Cond.classLink V.2.2.2.2.2.2 x.catchType (xN j) ∈ tblG ∧ Cond.initialized (xN j) ∈ tblG ∧ x.handlerPc = hp
theorem jh_caught (C : JH E V cc L ret hh) {j hp : Nat} (h : Hd E V hh pc j hp) {ce : Cell} {q : Addr} {ls : Array Slot} {H : Heap} {locs : List Loc} {rest : List Value} {Q : State → Prop} (hcell : H[q]? = some ce) (hv : ce.vm = .none) (hcl : (eS E).vm.findClass (xN j) = some ce.cls) (kk : WE E H locs k n Q (F0 E.2.2.2.2.2.1 hp ls [.ref q])) : vx_W E.1 E.2.1 E.2.2.1 E.2.2.2.1 E.2.2.2.2.1 E.2.2.2.2.2.1 E.2.2.2.2.2.2.1 E.2.2.2.2.2.2.2.1 E.2.2.2.2.2.2.2.2.1 E.2.2.2.2.2.2.2.2.2 H locs k n Q (F0 E.2.2.2.2.2.1 pc ls rest) q := by
  obtain ⟨pre, x, suf, h1, h2, h3, h4, h5, h6, h7⟩ := h
  subst h7
  exact vx_catch C.2.2.2.1 pre x suf (C.2.2.2.2.2.2.2.2.2.1.trans h1) (fun z hz => (h2 z hz).elim Or.inl (fun g => Or.inr ⟨g.1, g.2.choose, C.2.2.2.2.1 _ g.2.choose_spec.1, g.2.choose_spec.2⟩)) h3 h4 (C.2.2.2.2.1 _ h5) (castable_self (C.2.2.2.2.1 _ h6)) hcell hv hcl kk
theorem jh_after (C : JH E V cc L ret hh) {mc ms : Nat} {st0 rest : List Value} {r1 : Rz} {S1 : St} {a : Array Value} {ls : Array Slot} {H : Heap} {locs : List Loc} {Z : State → Prop} (hS : va_S (vA E V) (eS E).heap H locs)
    (hr : vx_Run E.1 E.2.1 E.2.2.1 E.2.2.2.1 E.2.2.2.2.1 E.2.2.2.2.2.1 E.2.2.2.2.2.2.1 E.2.2.2.2.2.2.2.1 E.2.2.2.2.2.2.2.2.1 E.2.2.2.2.2.2.2.2.2 H locs k n mc ms (F0 E.2.2.2.2.2.1 pc ls st0) rest (QcW V.1 V.2.1 V.2.2.1 r1 S1 H.size a) (XcW V.1 V.2.1 V.2.2.1 r1 S1 H.size) (AW V.1 V.2.2.1 H.size))
    (hv : ∀ ov, enc V.1 r1 = some ov → ∀ H1 locs1, va_P V.1.1 vwCl (vW V S1) H1 → va_S (vA E V) (eS E).heap H1 locs1 → WE E H1 locs1 (k + mc) (n + ms) Z (F0 E.2.2.2.2.2.1 (pc + 3) ls (ov.toList ++ rest)))
    (hx : ∀ j, r1 = rX j → ∃ hp, Hd E V hh pc j hp ∧ ∀ q H1 locs1, va_P V.1.1 vwCl (vW V S1) H1 → va_S (vA E V) (eS E).heap H1 locs1 → WE E H1 locs1 (k + mc) (n + ms) Z (F0 E.2.2.2.2.2.1 hp ls [.ref q])) : WE E H locs k n Z (F0 E.2.2.2.2.2.1 pc ls st0) := by
  intro T hT X
  rcases hr T hT X with ⟨v, st₀, t, T', L9, h0, X', hL, e1, e2, ⟨⟨ov, h1, h2, h3⟩, hF⟩, stp⟩ | ⟨q, st₀, t, T', L9, En, ce, h0, X', hL, e1, e2, ⟨j, h1, h2, h3, hF⟩, hce, hcv, hcl, stp⟩
  · cases h2
    obtain ⟨-, -, k3⟩ := vx_keep h0 e1 hS (fun q _ h => AW_mono hS.1 q h) (fun q h => AW_mono hS.1 q h) hL hF
    obtain ⟨t2, a1, b1⟩ := hv _ h1 T'.heap (locs ++ L9) (by rw [e1]; exact h3) k3 T' rfl X'
    exact ⟨t2, stp t2 a1, b1⟩
  · obtain ⟨-, -, k3⟩ := vx_keep h0 e1 hS (fun q _ h => AW_mono hS.1 q h) (fun q h => AW_mono hS.1 q h) hL hF
    obtain ⟨hp, hH, hk⟩ := hx j h1
    subst h2
    obtain ⟨t2, a1, b1⟩ := jh_caught (rest := rest) C hH (by rw [e1]; exact hce) hcv hcl (hk q T'.heap (locs ++ L9) (by rw [e1]; exact h3) k3) T' rfl X'
    exact ⟨t2, stp.trans a1, b1⟩
theorem jh_callI (C : JH E V cc L ret hh) {mc ms : Nat} {st0 rest : List Value} {K : Int32 → St → Oz} {KX : Nat → St → Oz} (hr : Rn E V k n mc ms pc loc st0 rest S o) (kk : ∀ v S1, J E V (k + mc) (n + ms) (pc + 3) loc (.int v :: rest) S1 (K v S1)) (kx : ∀ j S1 r S', KX j S1 = some (r, S') → ∃ hp, Hd E V hh pc j hp ∧ ∀ q, J E V (k + mc) (n + ms) hp loc [.ref q] S1 (KX j S1)) : J E V k n pc loc st0 S (obH o K KX) := by
  intro r S' ho ls H locs hl hP hS
  match o, hr, ho with
  | some (.inr (.inl v), S1), hr, ho =>
    obtain ⟨a, hrun⟩ := hr _ _ rfl ls H locs hl hP hS
    exact jh_after C hS hrun (fun ov h1 H1 locs1 hP1 hS1 => by cases h1; exact kk v S1 r S' ho ls H1 locs1 hl hP1 hS1) (fun j h => by cases h)
  | some (.inr (.inr (.inr (.inr j))), S1), hr, ho =>
    obtain ⟨a, hrun⟩ := hr _ _ rfl ls H locs hl hP hS
    obtain ⟨hp, hH, hk⟩ := kx j S1 r S' ho
    exact jh_after C hS hrun (fun ov h1 => by cases h1) (fun j2 h => by cases h; exact ⟨hp, hH, fun q H1 locs1 hP1 hS1 => hk q r S' ho ls H1 locs1 hl hP1 hS1⟩)
theorem jh_callL (C : JH E V cc L ret hh) {mc ms : Nat} {st0 rest : List Value} {K : Int64 → St → Oz} {KX : Nat → St → Oz} (hr : Rn E V k n mc ms pc loc st0 rest S o) (kk : ∀ v S1, J E V (k + mc) (n + ms) (pc + 3) loc (.long v :: rest) S1 (K v S1)) (kx : ∀ j S1 r S', KX j S1 = some (r, S') → ∃ hp, Hd E V hh pc j hp ∧ ∀ q, J E V (k + mc) (n + ms) hp loc [.ref q] S1 (KX j S1)) : J E V k n pc loc st0 S (obHL o K KX) := by
  intro r S' ho ls H locs hl hP hS
  match o, hr, ho with
  | some (.inr (.inr (.inl v)), S1), hr, ho =>
    obtain ⟨a, hrun⟩ := hr _ _ rfl ls H locs hl hP hS
    exact jh_after C hS hrun (fun ov h1 H1 locs1 hP1 hS1 => by cases h1; exact kk v S1 r S' ho ls H1 locs1 hl hP1 hS1) (fun j h => by cases h)
  | some (.inr (.inr (.inr (.inr j))), S1), hr, ho =>
    obtain ⟨a, hrun⟩ := hr _ _ rfl ls H locs hl hP hS
    obtain ⟨hp, hH, hk⟩ := kx j S1 r S' ho
    exact jh_after C hS hrun (fun ov h1 => by cases h1) (fun j2 h => by cases h; exact ⟨hp, hH, fun q H1 locs1 hP1 hS1 => hk q r S' ho ls H1 locs1 hl hP1 hS1⟩)
/-- the helpers' contract: as Ct, for a method with handlers, at a start where one exception isn't the other -/
def ncx (U : State) : Prop := va_Nc "java/lang/IllegalArgumentException" "java/util/NoSuchElementException" U
def PcH (G : Gc) (w : Gc → St → va_W) (N : Nat) (as : List Value) (S : St) (sz : Nat) : Array Value → State → Prop := fun v U => PcW G w N as S sz v U ∧ ncx U
def CtH (l : Launch) (y : MethodName) (ws : List Cond) (L mc ms : Nat) (G : Gc) (w : Gc → St → va_W) (N : Nat) (as : List Value) (S : St) (o : Oz) : Prop :=
  ∀ r S', o = some (r, S') → ∀ sz, vx_Met l y ws (rmL L mc ms) (PcH G w N as S sz) (QcW G w N r S' sz) (XcW G w N r S' sz) mc ms (AW G N sz)
theorem cth_of {l : Launch} {y : MethodName} {maxL mc ms N : Nat} {own : String} {G : Gc} {w : Gc → St → va_W} {as : List Value} (hfl : l.stackTraces = false) (hy : plainName y.cls = true) (hown : y.cls = own) (hWk : Wok G w N) (hlen : (lg_sl as).length ≤ maxL)
    (body : ∀ E : Ec, E.2.1 = l → JH E (G, w, N, maxL, mc, ms, own) cc L ret hh → ncx (eS E) → J E (G, w, N, maxL, mc, ms, own) 0 0 0 (lv_args 0 as) [] S o) : CtH l y (Cond.codeWith y cc maxL ret hh :: tblG) L mc ms G w N as S o := by
  intro r S' ho sz
  refine vx_ofWH (cc := cc) (maxL := maxL) (ret := ret) (hh := hh) hy rfl ?_
  intro p e s m args below meth c s₁ B hml hv
  obtain ⟨⟨rfl, hsz, hP, hK, hX⟩, hN⟩ := hv
  subst hsz
  have hts := atoms_spec (ws := Cond.codeWith y cc maxL ret hh :: tblG) B.pre
  have hl := lv_entry as (n := maxL) hlen
  rw [lg_entry_eq]
  exact body (p, l, e, (headSpec (Cond.codeWith y cc maxL ret hh :: tblG) (rmL L mc ms)).room, s, m, as.toArray, below, meth, c) rfl
    ⟨B.exec, B.bytes, hml, by rw [← hown]; exact findClass_of_methodNamed B.named, fun q hq => hts q (List.mem_cons_of_mem _ hq), hK, hWk, hX, B.notSynchronized, vx_table (x := y) B (hts _ List.mem_cons_self), rfl, hfl, B.returns⟩ hN r S' ho _ _ _ hl hP va_S.rf
end JHK
