/-! rows of J: a throw, string constants -/
section JT
variable {E : Ec} {V : Vc} {cc : ByteArray} {L : Nat} {ret : Option FieldType} {k n pc : Nat} {loc : List (Nat × Value)} {st : List Value} {S : St} {o : Oz}
theorem vaP_grow {D : va_G} {ws : va_W} {H H1 : Heap} (h : va_P D vwCl ws H) (hq : ∀ q : Nat, q < H.size → H1[q]? = H[q]?) : va_P D vwCl ws H1 := fun i q hi => (h i q hi).kept (hq _ (h i q hi).lt)
def xNames : List String := ["java/lang/RuntimeException", "java/lang/Exception"]
theorem xNames_fit : ∀ m ∈ xNames, Bundle.fit m = true := by decide +kernel
theorem castable_self {args : Array Value} {s : State} {X : String} (h : (Cond.initialized X).before args s = true) : (Cond.castable X X).before args s = true := by
  simp only [Cond.before, Cond.holds, Cond.value] at h ⊢
  cases hc : s.vm.findClass X with
  | none => simp [hc] at h
  | some c => simp [va_asg]
theorem j_throwSW {ik is ic kx si : Nat} {q : String × Nat × String × List Int32} (C : JC E V cc L ret) (hfit : Bundle.fit (xN kx) = true) (hk : Cond.classLink V.2.2.2.2.2.2 ik (xN kx) ∈ tblG) (hini : Cond.initialized (xN kx) ∈ tblG) (hs : skT[si]? = some q) (hs1 : q.1 = V.2.2.2.2.2.2) (hs2 : q.2.1 = is)
    (hat : ∀ m ∈ (vx_atS V.2.2.2.2.2.2 ic (xN kx) xNames).filter goodWord, m ∈ tblG) (hat2 : ∀ m ∈ (vx_atS V.2.2.2.2.2.2 ic (xN kx) xNames).filter (fun w => !goodWord w), m ∈ Cond.castable (xN kx) (xN kx) :: xDecl.map Cond.declares)
    (d0 : decode cc pc = .ok (.new ik, 3)) (d3 : decode cc (pc + 3) = .ok (.dup, 1)) (d4 : decode cc (pc + 4) = .ok (.ldc_w is, 3)) (d7 : decode cc (pc + 7) = .ok (.invokespecial ic, 3)) (d10 : decode cc (pc + 10) = .ok (.athrow, 1))
    (hL : 6 ≤ L) (hloc : (st.map fun v => v.category).sum ≤ 8) (h1 : k + 1 ≤ V.2.2.2.2.1) (h2 : n + 6 ≤ V.2.2.2.2.2.1) : J E V k n pc loc st S (some (rX kx, S)) := by
  intro r S' ho ls H locs hl hP hS
  cases ho
  have hg : ∀ m ∈ tblG, vx_ot m = true := fun m hm => by simp only [vx_ot, Bool.or_eq_true]; exact Or.inr (List.mem_filter.mp hm).2
  have hstr := (C.ex.1 si q hs).1
  rw [hs1, hs2] at hstr
  exact vx_throwSW (names := xNames) (A := vA E V) C.1 C.2.1 C.flags C.2.2.2.1 hfit xNames_fit (C.2.2.2.2.1 _ hk) (C.2.2.2.2.1 _ hini) hstr (vx_hat (fun m hm => C.2.2.2.2.1 _ (hat m hm)) hat2 (vx_c (castable_self (C.2.2.2.2.1 _ hini)) (fun m hm => by obtain ⟨y, hy, rfl⟩ := List.mem_map.mp hm; exact va_Nw.use rfl (C.ex.2.2.2.2.2.1 y hy))))
    (fun m hm => by
      rcases List.mem_cons.mp hm with e | hm
      · rw [e]; exact hg _ hk
      · rcases List.mem_cons.mp hm with e | hm
        · rw [e]; exact hg _ hini
        · by_cases g : goodWord m = true
          · exact hg _ (hat m (List.mem_filter.mpr ⟨hm, g⟩))
          · have h9 := hat2 m (List.mem_filter.mpr ⟨hm, by simpa using g⟩)
            rcases List.mem_cons.mp h9 with e | h9
            · rw [e]; rfl
            · obtain ⟨y, hy, rfl⟩ := List.mem_map.mp h9
              rfl)
    C.ex.2.2.2.1 C.ex.2.2.2.2.1 hS (hl.1.trans C.2.2.1.symm) d0 d3 d4 d7 d10 (fun x hx => (C.noTable x hx).elim)
    (by rw [C.room]; show 2 + 3 < L; omega) (by rw [C.room]; show _ + (13 * (2 + 1) + 43) ≤ 40 * L; omega) (by rw [C.room]; exact h1) (by rw [C.room]; exact h2) C.locks
    (fun t _ hz hq => ⟨kx, rfl, rfl, vaP_grow hP hq, Nat.le_trans hS.1 hz, fun a ha hA => by rw [hq a (Nat.lt_of_lt_of_le ha hS.1)]; exact hS.2.1 a ha hA⟩) hS.2.2 h1 h2
theorem hat_IAE : ∀ w ∈ (vx_atS "PaidByHeart" 384 "java/lang/IllegalArgumentException" xNames).filter goodWord, w ∈ tblG := by decide +kernel
theorem hat_IAE2 : ∀ w ∈ (vx_atS "PaidByHeart" 384 "java/lang/IllegalArgumentException" xNames).filter (fun w => !goodWord w), w ∈ Cond.castable "java/lang/IllegalArgumentException" "java/lang/IllegalArgumentException" :: xDecl.map Cond.declares := by decide +kernel
end JT
/-! 'throw new E("text")', where E's constructor calls its super's by another place than 7 (BundleOwnThrow's ctorThrowS and the kit's vx_throwSW know 7 alone) -/
section PXN
/-- the words: the throwable's, the first constructor's by its own place, the others', then what the library asks of the class itself -/
def nW (own : String) (ic : Nat) (X Y : String) (ix : Nat) (rx : ByteArray) (r : List String) : List Cond := Bundle.throwableAtoms ++ (Bundle.throwableSAtoms ++ ((Bundle.passSAtoms X Y ix rx ++ Bundle.chainSAtoms Y r) ++ (Bundle.ownAtoms own ic X []).drop (Bundle.throwableAtoms.length + Bundle.throwableSAtoms.length + 5)))
section PXM
variable {p : Program} {l : Launch} {e : Env} {R : Room} {s : State} {m : MethodId} {args : Array Value} {below : List Frame} {meth : Method} {c : Code} {W : State} {cells slots : Nat}
theorem nW_last {own : String} {ic : Nat} {X Y : String} {ix : Nat} {rx : ByteArray} {r : List String} {w : Cond} (i : Nat) (h : ((Bundle.ownAtoms own ic X []).drop (Bundle.throwableAtoms.length + Bundle.throwableSAtoms.length + 5))[i]? = some w) : w ∈ nW own ic X Y ix rx r := List.mem_append_right _ (List.mem_append_right _ (List.mem_append_right _ (List.mem_of_getElem? h)))
set_option maxHeartbeats 1000000 in
theorem ctorN (X : Stand p l e R s m args below meth c W [] cells slots) (hexec : p.tables.exec = Jvm.exec) (htr : e.platform.stackTraces = false) {own cls sup : String} {names : List String} {ic ix : Nat} {rx : ByteArray}
    (x0 : decode rx 0 = .ok (.aload_n 0, 1)) (x1 : decode rx 1 = .ok (.aload_n 1, 1)) (x2 : decode rx 2 = .ok (.invokespecial ix, 3)) (x5 : decode rx 5 = .ok (.return_, 1))
    (hown : s.vm.findClass own = some m.cls) (hcls : Bundle.fit cls = true) (hsup : Bundle.fit sup = true) (hnames : ∀ n ∈ names, Bundle.fit n = true) (h : ∀ w ∈ nW own ic cls sup ix rx names, w.before args s = true)
    {a : Addr} {cX : ClassId} {kX : Class} (hfX : s.vm.findClass cls = some cX) (hkX : s.vm.classes[cX]? = some kX) (hcell : W.heap[a]? = some (freshCell cX kX)) (hnew : s.heap.size ≤ a) {msg : Value} (hmsg : msg.isRef = true)
    {g : JFrame} (hg : g.method = m) (hsize : g.locals.size = c.maxLocals) (hl1 : g.locked = none) (hl2 : g.entered = []) {rest : List Value} (hstack : g.stack = msg :: .ref a :: .ref a :: rest)
    (hd6 : decode c.code g.pc = .ok (.invokespecial ic, 3)) (hd9 : decode c.code (g.pc + 3) = .ok (.athrow, 1)) (hout : ∀ x ∈ c.exceptionTable.toList, covers x (g.pc + 3) = false)
    (hRf : names.length + 4 < R.frames) (hRl : 2 * g.monitorRoom + ((Value.ref a :: rest).map fun v => v.category).sum + (13 * (names.length + 2) + 42) ≤ R.locals) (hlocks : meth.locks = false) :
    ∃ U : State, Steps p.tables e below (W.setTop g) U ∧ U.status = .running ∧ Ended U below (.threw a) ∧ s.WarmedH U.vm ∧ s.sameButNew ({ U with vm := s.vm } : State) [] cells slots ∧ ∃ ce, U.heap[a]? = some ce ∧ s.vm.findClass cls = some ce.cls ∧ ce.vm = .none := by
  have hpl : e.platform.magicAccessors = ({} : Platform).magicAccessors := by rw [X.admits.platform]
  have tl : ∀ (i : Nat) (w : Cond), ((Bundle.ownAtoms own ic cls []).drop (Bundle.throwableAtoms.length + Bundle.throwableSAtoms.length + 5))[i]? = some w → w.before args s = true := fun i w hi => h w (nW_last i hi)
  obtain ⟨T, Z0, L, -, Y⟩ := ThrowableC.of_atoms (args := args) (pl := e.platform) (by rw [X.admits.platform]) (by rw [X.admits.platform]) hpl (fun w hw => h w (List.mem_append_left _ hw))
  obtain ⟨Z, M, LZ, LM, hnZ⟩ := Init0T.ofS_atoms (args := args) hpl L Y (fun w hw => h w (List.mem_append_right _ (List.mem_append_left _ hw)))
  have pass : ∀ w ∈ Bundle.passSAtoms cls sup ix rx, w.before args s = true := fun w hw => h w (List.mem_append_right _ (List.mem_append_right _ (List.mem_append_left _ (List.mem_append_left _ hw))))
  obtain ⟨P, LP, hPm, hPs⟩ := PassC.ofS_atoms (args := args) hpl (Bundle.fit_spec hcls).1 (Bundle.fit_spec hsup).2 x0 x1 x2 x5 pass
  obtain ⟨P', Ps, hlen, LP', hLs, hPm', hs1, hs2⟩ := Bundle.chainS (args := args) hpl hnZ names sup hsup hnames (fun w hw => h w (List.mem_append_right _ (List.mem_append_right _ (List.mem_append_left _ (List.mem_append_right _ hw)))))
  have hLall : ∀ Q, Q ∈ P :: P' :: Ps → Q.LinksS e.platform s := List.forall_mem_cons.mpr ⟨LP, List.forall_mem_cons.mpr ⟨LP', hLs⟩⟩
  have hon : PassesOn (Z.m T.toThrowableT) ((P :: P' :: Ps).map (·.toPassT)) := ⟨Option.some.inj (hPs.symm.trans hPm'), hs1, hs2⟩
  have hfd : s.vm.findClass cls = some P.m.cls := findClass_of_methodNamed hPm
  have ecX : cX = P.m.cls := Option.some.inj (hfX.symm.trans hfd)
  subst ecX
  obtain ⟨c1, k1, hc1, hk1, hord, -, -, -⟩ := Cond.instantiable_spec (tl 1 (.instantiable cls 6) rfl)
  cases Option.some.inj (hc1.symm.trans hfd)
  cases Option.some.inj (hkX.symm.trans hk1)
  have sel : ∀ (t : MethodName) (q : MethodId), s.methodNamed? t = some q → (Cond.selects cls t t).before args s = true → (t.cls ≠ "java/lang/invoke/MethodHandle" ∧ t.cls ≠ "java/lang/invoke/VarHandle") → selectMethod e.platform s.vm P.m.cls q = .method q := fun t q hq hw ht => by
    obtain ⟨c2, r2, m2, q1, q2, q3, q4, -⟩ := Cond.selects_spec hw
    cases Option.some.inj (q1.symm.trans hfd)
    cases Option.some.inj (q2.symm.trans (State.methodFound?_of_named hq ht))
    cases Option.some.inj (q3.symm.trans hq)
    rw [Launch.admits_selectMethod X.admits]
    exact q4
  obtain ⟨cellS0, hcS0, hiss⟩ := Y.statics
  obtain ⟨u0, hu0⟩ := Cond.staticRefV Y.unassigned L.unassignedStatic L.statics hcS0 hiss (tl 9 (.isRef (.static Bundle.tN "UNASSIGNED_STACK" Bundle.steD)) rfl)
  obtain ⟨sen, hsen⟩ := Cond.staticRefV Y.sentinel L.sentinelStatic L.statics hcS0 hiss (tl 10 (.isRef (.static Bundle.tN "SUPPRESSED_SENTINEL" Bundle.listD)) rfl)
  obtain ⟨ci, ib, fB, hB1, hB2, hB3, hB4, -, hnB, htB, hfB⟩ := Cond.ownField (t := .object "java/lang/Object") Y.found L.cls (by decide +kernel) (tl 11 (.fieldLink Bundle.tN 198 Bundle.tN "backtrace" "Ljava/lang/Object;") rfl) (tl 12 (.lays Bundle.tN Bundle.tN "backtrace" "Ljava/lang/Object;") rfl) e.platform hpl
  obtain ⟨cellS, hcellS, heS, -, hkeep⟩ := X.same.2.2.2.2.2 T.aS cellS0 hcS0
  have hno : ∀ i, (⟨T.aS, i⟩ : Loc) ∉ ([] : List Loc) := fun i hm => nomatch hm
  obtain ⟨iM, hfM⟩ := Y.msg
  obtain ⟨tyC, dC, hdC, hnC⟩ := Cond.laysAt hfd hkX Y.cause (tl 5 (.lays cls Bundle.tN "cause" "Ljava/lang/Throwable;") rfl)
  obtain ⟨tyS, dS, hdS, hnS⟩ := Cond.laysAt hfd hkX Y.stack (tl 6 (.lays cls Bundle.tN "stackTrace" Bundle.steD) rfl)
  obtain ⟨tyP, dP, hdP, hnP⟩ := Cond.laysAt hfd hkX Y.supp (tl 7 (.lays cls Bundle.tN "suppressedExceptions" Bundle.listD) rfl)
  obtain ⟨tyM, dM, hdM, hnM⟩ := Cond.laysAt hfd hkX hfM (tl 8 (.lays cls Bundle.tN "detailMessage" "Ljava/lang/String;") rfl)
  obtain ⟨tyB, dB, hdB, hnB2⟩ := Cond.laysAt hfd hkX hfB (tl 13 (.lays cls Bundle.tN "backtrace" "Ljava/lang/Object;") rfl)
  have bC := Cond.laysApart hdB hdC hnB2 hnC (by rw [hnB, Y.causeName]; decide)
  have bS := Cond.laysApart hdB hdS hnB2 hnS (by rw [hnB, Y.stackName]; decide)
  have bP := Cond.laysApart hdB hdP hnB2 hnP (by rw [hnB, Y.suppName]; decide)
  have hskip : SkipFacts T e.platform s (fun u => u) u0 ((preparedCellV T.toThrowableT (freshCell P.m.cls kX) a u0 sen).withEntry W.cur) :=
    ⟨{ ci198 := ci, i198 := ib, fBack := fB }, ⟨hB1, hB2, hB3, hB4⟩, by
      have hz := fresh_default (c := P.m.cls) tyB
      rw [htB] at hz
      simpa [preparedCellV, Cell.setSlot, Cell.withEntry, Array.getElem?_setIfInBounds, bC, bS, bP, bC.symm, bS.symm, bP.symm, defaultValue] using hz, fun _ _ => rfl⟩
  obtain ⟨tm, mC, cdC, kC, vm₁, hnC1, -, -, -, -, -, -, -, hW₁, st1⟩ := Steps.initColdS (tb := p.tables) (e := e) (below := below) (s := s) (U := W) X.here hexec X.warmed hpl hown (t := Bundle.initS cls) rfl rfl (Bundle.fit_spec hcls).2
    (tl 0 (.methodLink own ic (Bundle.initS cls)) rfl) (pass (.instanceMethod (Bundle.initS cls)) (List.mem_of_getElem? (i := 0) rfl)) (bytes := rx) (maxL := 2) (pass (.code (Bundle.initS cls) rx 2 none) (List.mem_of_getElem? (i := 1) rfl)) (f := g) hg (a := a) (msg := msg) (rest := .ref a :: rest) hstack hd6
  cases Option.some.inj (hnC1.symm.trans hPm)
  have X₁ := X.noted hW₁
  have hlt : a < (W.setVm vm₁).heap.size := (Array.getElem?_eq_some_iff.mp hcell).1
  obtain ⟨vm₂, X₂, st2⟩ := X₁.ctorMessageOffV hexec (g := { g with stack := .ref a :: rest }) hg hsize T L Z LZ M LM (P :: P' :: Ps) hLall hon (u0 := u0) (sen := sen) (self := a) hmsg (cell := freshCell P.m.cls kX) (cellS := cellS)
    hcell (fun _ => by simp) (by simp) rfl rfl (sel _ _ Y.fill0 (tl 3 (.selects cls Bundle.tFill0 Bundle.tFill0) rfl) (by decide)) (sel _ _ Y.fill (tl 4 (.selects cls Bundle.tFill Bundle.tFill) rfl) (by decide)) hcellS
    (Nat.ne_of_lt (Nat.lt_of_lt_of_le (Array.getElem?_eq_some_iff.mp hcS0).1 hnew)) (by
      rw [heS]
      intro hu
      rw [show cellS0.vm = .unknown from hu] at hiss
      cases hiss)
    (by rw [hkeep _ (hno _)]; exact hu0) (by rw [hkeep _ (hno _)]; exact hsen)
    (Takes.of_laid hkX hord tyC (by rw [Y.causeType]; rfl)) (Takes.of_laid hkX hord tyS (by rw [Y.stackType]; exact fits_refV_array _ u0)) (Takes.of_laid hkX hord tyP (by rw [Y.suppType]; exact fits_refV_object _ sen)) (Takes.of_laid hkX hord tyM (by rw [Y.msgType]; exact fits_refV_object _ ⟨msg, hmsg⟩))
    Y.objLocals hskip htr [] hd6 (by simp only [List.length_cons, hlen]; omega) (by simp only [List.length_cons, hlen]; exact hRl)
  obtain ⟨hwalk, hrun, hended, hWU, hsame⟩ := X₂.athrowLeaves hexec (g := { g with stack := .ref a :: rest, pc := g.pc + 3 }) hg hl1 hl2 hout (a := a) (rest := rest) rfl hd9
  have hU := heapAt_setCell_self (s := (W.setVm vm₁).setVm vm₂) (plainBareV T.toThrowableT (freshCell P.m.cls kX) a u0 sen msg) hlt
  refine ⟨_, st1 _ (fun acts => ?_), hrun, hended, hWU, hsame.weaken (fun y hy hlt' => ?_) (Nat.le_refl _) (Nat.le_refl _), _, hU, hfd, rfl⟩
  · rw [doInvoke_state]
    exact st2 _ hwalk
  · refine absurd hlt' (Nat.not_lt.mpr ?_)
    have hb : y.base = a := by
      simp only [List.nil_append, List.mem_cons, List.not_mem_nil, or_false] at hy
      rcases hy with rfl | rfl | rfl | rfl | rfl <;> rfl
    rw [hb]
    exact hnew
end PXM
section PXO
variable {p : Program} {l : Launch} {e : Env} {R : Room} {s : State} {m : MethodId} {args : Array Value} {below : List Frame} {meth : Method} {c : Code} {H : Heap} {locs : List Loc} {cells slots : Nat}
variable {free : Addr → Prop} {ls : Array Slot} {rest : List Value} {Qc : Array Value → State → Outcome → State → Prop} {XC : String → State → State → Prop}
theorem throwNW {cc : ByteArray} {pc : Nat} (hexec : p.tables.exec = Jvm.exec) (hb : c.code = cc) (hl : l.stackTraces = false) {own cls sup text : String} {names : List String} {ik is ic ix mc ms sa : Nat} {rx : ByteArray} {A : Nat → Prop}
    (x0 : decode rx 0 = .ok (.aload_n 0, 1)) (x1 : decode rx 1 = .ok (.aload_n 1, 1)) (x2 : decode rx 2 = .ok (.invokespecial ix, 3)) (x5 : decode rx 5 = .ok (.return_, 1))
    (hown : s.vm.findClass own = some m.cls) (hcls : Bundle.fit cls = true) (hsup : Bundle.fit sup = true) (hnames : ∀ n ∈ names, Bundle.fit n = true)
    (hk : (Cond.classLink own ik cls).before args s = true) (hini : (Cond.initialized cls).before args s = true) (hstr : vk_R own is text sa s) (hat : ∀ w ∈ (nW own ic cls sup ix rx names).filter vx_no, w.before args s = true)
    (hgood : ∀ w ∈ Cond.classLink own ik cls :: Cond.initialized cls :: (nW own ic cls sup ix rx names).filter vx_no, vx_ot w = true)
    (hU : vx_Zq Bundle.tN "UNASSIGNED_STACK" Bundle.steD A s s.heap) (hN : vx_Zq Bundle.tN "SUPPRESSED_SENTINEL" Bundle.listD A s s.heap) (hS : va_S A s.heap H locs) (hsize : ls.size = c.maxLocals)
    (d0 : decode cc pc = .ok (.new ik, 3)) (d3 : decode cc (pc + 3) = .ok (.dup, 1)) (d4 : decode cc (pc + 4) = .ok (.ldc_w is, 3)) (d7 : decode cc (pc + 7) = .ok (.invokespecial ic, 3)) (d10 : decode cc (pc + 10) = .ok (.athrow, 1))
    (hout : ∀ x ∈ c.exceptionTable.toList, covers x (pc + 10) = false)
    (hRframes : names.length + 4 < R.frames) (hRlocals : (rest.map fun v => v.category).sum + (13 * (names.length + 2) + 43) ≤ R.locals) (hRcells : cells + 1 ≤ R.cells) (hRslots : slots + 6 ≤ R.slots) (hlocks : meth.locks = false)
    (hx : ∀ t : State, s.vm.Alike t.vm → H.size ≤ t.heap.size → (∀ q : Nat, q < H.size → t.heap[q]? = H[q]?) → XC cls s t)
    (hf : ∀ z ∈ locs, free z.base) (hc : cells + 1 ≤ mc) (hs : slots + 6 ≤ ms) :
    W p l e R s m args below meth c H locs cells slots (vx_MQ below Qc XC args s mc ms free) (F0 m pc ls rest) := by
  intro T hT X
  have htr : e.platform.stackTraces = false := (show e.platform.stackTraces = l.stackTraces by rw [X.admits.platform]).trans hl
  have Y := vx_rebase X (R' := { frames := R.frames, locals := R.locals, cells := 1, slots := 6 }) (Nat.le_refl _) (Nat.le_refl _) hRcells hRslots
  obtain ⟨s', hA⟩ : ∃ z, z = (T.setVm s.vm).setFrames (.invoking m args :: below) := ⟨_, rfl⟩
  rw [← hA] at Y
  have hvm : s'.vm = s.vm := by rw [hA]; rfl
  have hhp : s'.heap = H := by rw [hA]; exact hT
  have hW0 : s.WarmedH s'.vm := by rw [hvm]; exact State.WarmedH.refl s
  have hat' : ∀ w ∈ (nW own ic cls sup ix rx names).filter vx_no, w.before args s' = true := fun w hw => vx_ot_at hW0 hvm.symm (hgood w (List.mem_cons_of_mem _ (List.mem_cons_of_mem _ hw))) (hat w hw)
  have hk' : (Cond.classLink own ik cls).before args s' = true := vx_ot_at hW0 hvm.symm (hgood _ List.mem_cons_self) hk
  have hini' : (Cond.initialized cls).before args s' = true := vx_ot_at hW0 hvm.symm (hgood _ (List.mem_cons_of_mem _ List.mem_cons_self)) hini
  have hU' : vx_Zq Bundle.tN "UNASSIGNED_STACK" Bundle.steD A s' s'.heap := by rw [hhp]; exact vx_Zq.moved hW0.alike (hU.kept hS.2.1)
  have hN' : vx_Zq Bundle.tN "SUPPRESSED_SENTINEL" Bundle.listD A s' s'.heap := by rw [hhp]; exact vx_Zq.moved hW0.alike (hN.kept hS.2.1)
  have h : ∀ w ∈ nW own ic cls sup ix rx names, w.before args s' = true := vx_own hat' (vx_isRefq hU'.1) (vx_isRefq hN'.1) hU'.2.word hN'.2.word
  have hown' : s'.vm.findClass own = some m.cls := by rw [hvm]; exact hown
  have hins : (Cond.instantiable cls 6).before args s' = true := h _ (nW_last 1 rfl)
  obtain ⟨vm₁, cX, kX, hfX, hkX, -, -, X₁, st1⟩ := Y.newCold hexec (own := own) (C := cls) (index := ik) (n := 6) hown' hk' hins hini'
    (g := F0 m pc ls rest) rfl (by rw [hb]; exact d0) (Nat.le_refl _) (Nat.le_refl _)
  generalize hT1 : (T.setVm vm₁).pushCell { cls := cX, slots := kX.instanceTypes.map defaultValue, vm := .none } = T1 at X₁ st1
  have hcat : (Value.ref T.heap.size).category = 1 := rfl
  have hcellA : T1.heap[T.heap.size]? = some (freshCell cX kX) := by rw [← hT1]; exact State.heap_pushCell_size _ _
  have d3' : decode c.code (pc + 3) = .ok (.dup, 1) := by rw [hb]; exact d3
  have d4' : decode c.code (pc + 4) = .ok (.ldc_w is, 3) := by rw [hb]; exact d4
  have hstr' : vk_R own is text sa s' := vk_R.warm hW0 hstr
  obtain ⟨U, hsteps, hrun, hend, hW, hsame, ce, hce, hO1, hO2⟩ := ctorN X₁ hexec htr (own := own) (cls := cls) (names := names) (ic := ic) x0 x1 x2 x5 hown' hcls hsup hnames h hfX hkX hcellA (by rw [hhp, hT]; exact Nat.le_refl _) (msg := .ref sa) rfl
    (g := { method := m, pc := pc + 7, locals := ls, stack := .ref sa :: .ref T.heap.size :: .ref T.heap.size :: rest, locked := none }) rfl hsize rfl rfl (rest := rest) rfl
    (by rw [hb]; exact d7) (by rw [hb]; exact d10) hout hRframes (by simp only [List.map_cons, List.sum_cons, hcat]; omega) hlocks
  obtain ⟨f1, f2⟩ := vx_frame hsame
  rw [hhp] at f1 f2
  have hWs : s.WarmedH U.vm := State.WarmedH.trans hW0 hW
  rw [hvm] at hO1
  have hall : s.sameButNew ({ U with vm := s.vm } : State) locs mc ms := by
    subst hA
    obtain ⟨e1, e2⟩ := hsame
    rw [State.setFrames_setFrames] at e1
    have h2 : (T.setVm s.vm).sameButNew ({ U with vm := s.vm } : State) [] (0 + 1) (0 + 6) := ⟨e1, e2⟩
    have h3 := X.same.trans h2
    rw [List.append_nil] at h3
    exact h3.mono hc hs
  refine ⟨U, ?_, .threw T.heap.size, hrun, hend, Or.inr ⟨T.heap.size, rfl, cls, ce, locs, hx U hWs.alike f1 (fun q hq => f2 q hq (fun z hz => nomatch hz)), hce, hO2, hO1, hWs, hall, hf⟩⟩
  refine st1 _ ?_
  show Steps p.tables e below (T1.setTop { method := m, pc := pc + 3, locals := ls, stack := .ref T.heap.size :: rest, locked := none }) _
  jvm_step X₁.here [X₁.here.top, hexec, d3', Value.category]
  exact X₁.ldcStringW hexec (own := own) (text := text) (index := is) (a := sa) hown' hstr'.1 hstr'.2
    (g := { method := m, pc := pc + 4, locals := ls, stack := .ref T.heap.size :: .ref T.heap.size :: rest, locked := none }) rfl d4' _ hsteps
end PXO
section PXP
variable {E : Ec} {V : Vc} {cc : ByteArray} {L : Nat} {ret : Option FieldType} {k n pc : Nat} {loc : List (Nat × Value)} {st : List Value} {S : St} {o : Oz}
def nsB : ByteArray := ⟨#[0x2a, 0x2b, 0xb7, 0x00, 0x0d, 0xb1]⟩
theorem nsB_0 : decode nsB 0 = .ok (.aload_n 0, 1) := by decide +kernel
theorem nsB_1 : decode nsB 1 = .ok (.aload_n 1, 1) := by decide +kernel
theorem nsB_2 : decode nsB 2 = .ok (.invokespecial 13, 3) := by decide +kernel
theorem nsB_5 : decode nsB 5 = .ok (.return_, 1) := by decide +kernel
def atN (own : String) (ic : Nat) (X : String) : List Cond := (nW own ic X "java/lang/RuntimeException" 13 nsB ["java/lang/Exception"]).filter vx_no
theorem hat_NSE : ∀ w ∈ (atN "PaidByHeart" 394 "java/util/NoSuchElementException").filter goodWord, w ∈ tblG := by decide +kernel
theorem hat_NSE2 : ∀ w ∈ (atN "PaidByHeart" 394 "java/util/NoSuchElementException").filter (fun w => !goodWord w), w ∈ Cond.castable "java/util/NoSuchElementException" "java/util/NoSuchElementException" :: xDecl.map Cond.declares := by decide +kernel
theorem j_throwN {ik is ic kx si : Nat} {q : String × Nat × String × List Int32} (C : JC E V cc L ret) (hfit : Bundle.fit (xN kx) = true) (hk : Cond.classLink V.2.2.2.2.2.2 ik (xN kx) ∈ tblG) (hini : Cond.initialized (xN kx) ∈ tblG) (hs : skT[si]? = some q) (hs1 : q.1 = V.2.2.2.2.2.2) (hs2 : q.2.1 = is)
    (hat : ∀ m ∈ (atN V.2.2.2.2.2.2 ic (xN kx)).filter goodWord, m ∈ tblG) (hat2 : ∀ m ∈ (atN V.2.2.2.2.2.2 ic (xN kx)).filter (fun w => !goodWord w), m ∈ Cond.castable (xN kx) (xN kx) :: xDecl.map Cond.declares)
    (d0 : decode cc pc = .ok (.new ik, 3)) (d3 : decode cc (pc + 3) = .ok (.dup, 1)) (d4 : decode cc (pc + 4) = .ok (.ldc_w is, 3)) (d7 : decode cc (pc + 7) = .ok (.invokespecial ic, 3)) (d10 : decode cc (pc + 10) = .ok (.athrow, 1))
    (hL : 6 ≤ L) (hloc : (st.map fun v => v.category).sum ≤ 8) (h1 : k + 1 ≤ V.2.2.2.2.1) (h2 : n + 6 ≤ V.2.2.2.2.2.1) : J E V k n pc loc st S (some (rX kx, S)) := by
  intro r S' ho ls H locs hl hP hS
  cases ho
  have hg : ∀ m ∈ tblG, vx_ot m = true := fun m hm => by simp only [vx_ot, Bool.or_eq_true]; exact Or.inr (List.mem_filter.mp hm).2
  have hstr := (C.ex.1 si q hs).1
  rw [hs1, hs2] at hstr
  exact throwNW (sup := "java/lang/RuntimeException") (names := ["java/lang/Exception"]) (A := vA E V) C.1 C.2.1 C.flags nsB_0 nsB_1 nsB_2 nsB_5 C.2.2.2.1 hfit (by decide +kernel) (by decide +kernel) (C.2.2.2.2.1 _ hk) (C.2.2.2.2.1 _ hini) hstr (vx_hat (fun m hm => C.2.2.2.2.1 _ (hat m hm)) hat2 (vx_c (castable_self (C.2.2.2.2.1 _ hini)) (fun m hm => by obtain ⟨y, hy, rfl⟩ := List.mem_map.mp hm; exact va_Nw.use rfl (C.ex.2.2.2.2.2.1 y hy))))
    (fun m hm => by
      rcases List.mem_cons.mp hm with e | hm
      · rw [e]; exact hg _ hk
      · rcases List.mem_cons.mp hm with e | hm
        · rw [e]; exact hg _ hini
        · by_cases g : goodWord m = true
          · exact hg _ (hat m (List.mem_filter.mpr ⟨hm, g⟩))
          · have h9 := hat2 m (List.mem_filter.mpr ⟨hm, by simpa using g⟩)
            rcases List.mem_cons.mp h9 with e | h9
            · rw [e]; rfl
            · obtain ⟨y, hy, rfl⟩ := List.mem_map.mp h9
              rfl)
    C.ex.2.2.2.1 C.ex.2.2.2.2.1 hS (hl.1.trans C.2.2.1.symm) d0 d3 d4 d7 d10 (fun x hx => (C.noTable x hx).elim)
    (by rw [C.room]; show 1 + 4 < L; omega) (by rw [C.room]; show _ + (13 * (1 + 2) + 43) ≤ 40 * L; omega) (by rw [C.room]; exact h1) (by rw [C.room]; exact h2) C.locks
    (fun t _ hz hq => ⟨kx, rfl, rfl, vaP_grow hP hq, Nat.le_trans hS.1 hz, fun a ha hA => by rw [hq a (Nat.lt_of_lt_of_le ha hS.1)]; exact hS.2.1 a ha hA⟩) hS.2.2 h1 h2
end PXP
end PXN
