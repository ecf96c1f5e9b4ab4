/-! THE CLAIM OUT OF ONE WALK OF THE LAW'S BODY. Your part is whole_start (and what it stands on); all else here is the same for every law, but numbers. -/
def R_law : String := "PaidByHeartLaw"
def lw_P (b : Addr) (xs : List Int32) (args : Array Value) (s : State) : Prop := args = #[.ref b] ∧ s.IntsAt b xs ∧ xs.length ≤ 4608 ∧ (Jvm.Cond.and given_1 narrow_1).before args s = true
def lw_Q (_ : Array Value) (s : State) (o : Outcome) (t : State) : Prop := o = .returned (some (.int 1)) ∧ Framed s o t [] 601024 7293034
def lw_Z (below : List Frame) (a : Array Value) (s : State) : State → Prop := fun t => ∃ o, t.status = .running ∧ Ended t below o ∧ lw_Q a s o t
/-- the law's own end, with 1 on the stack, nothing written that was there before, its room as the claim has it -/
theorem lw_ret {p : Program} {l : Launch} {e : Env} {s : State} {m : MethodId} {below : List Frame} {meth : Method} {c : Code} {b : Nat} (hx : p.tables.exec = Jvm.exec) (hb : c.code = code) (hr : meth.sig.returnType = ret) (hlocks : meth.locks = false) {pc : Nat} {H : Heap} {ls : Array Slot} (hdg : decode code pc = .ok (.ireturn, 1)) : W p l e room_1 s m #[Value.ref b] below meth c H [] 601024 7293034 (lw_Z below #[Value.ref b] s) (F0 m pc ls [.int 1]) := by
  intro T hT X
  obtain ⟨fs, hret, hrun, hended, hW, hframe⟩ := X.leave (v := some (.int 1)) (hlocks := hlocks) (fun h => by rw [hr] at h; cases h)
  have hmeth' : T.vm.method? m = some meth := X.method'
  refine ⟨T.setFrames fs, ?_, .returned (some (.int 1)), hrun, hended, rfl, ⟨_, rfl⟩, hW, hframe⟩
  jvm_step X.here [X.here.top, hx, hb, hdg, hmeth', hr, ret, narrow_b1]
  (try refine ⟨rfl, ?_⟩); (try refine ⟨rfl, ?_⟩)
  first | (intro acts; rw [hret _ acts rfl rfl rfl]) | rw [hret _ _ rfl rfl rfl]
  exact Steps.refl _
/-- what holds at the law's entry: the machine, the code, the tables' words (any of lw_tbl by 'hts w (by decide +kernel)'), the script of L ints xs at the cell b, what the Statement gives of the start (any of its parts by flat_of_before) -/
def lw_At (p : Program) (s : State) (m : MethodId) (meth : Method) (c : Code) (b L : Nat) (xs : Nat → Int32) : Prop :=
  p.tables.exec = Jvm.exec ∧ c.code = code ∧ meth.sig.returnType = ret ∧ c.maxLocals = 8 ∧ s.vm.findClass R_law = some m.cls ∧ (∀ w ∈ lw_tbl, w.before #[Value.ref b] s = true) ∧ va_X b L xs s s.heap ∧ b < s.heap.size ∧ meth.locks = false ∧ (Jvm.Cond.and given_1 narrow_1).before #[Value.ref b] s = true

/-! JL: the law's own walk, over both worlds -/
section JLK
abbrev aL (E : Ec) : Nat → Prop := fun q => (eS E).heap.size ≤ q
/-- the two worlds' places, the script -/
abbrev Lc : Type := Gc × Gc × Nat × Nat × (Nat → Int32)
def JLC (E : Ec) (Y : Lc) : Prop :=
  E.1.tables.exec = Jvm.exec ∧ E.2.2.2.2.2.2.2.2.2.code = code ∧ E.2.2.2.2.2.2.2.2.2.maxLocals = 8 ∧ (eS E).vm.findClass RL = some E.2.2.2.2.2.1.cls ∧ (∀ q ∈ tblG, q.before E.2.2.2.2.2.2.1 (eS E) = true) ∧ va_K Y.1.1 vwCl (tysG Y.1) (eS E) ∧ (Y.2.1.1 = Y.1.1 ∧ Y.2.1.2.1 = Y.1.2.1 ∧ Y.2.1.2.2.1 = Y.1.2.2.1 ∧ Y.2.1.2.2.2.2 = Y.1.2.2.2.2) ∧ Wok Y.1 wC 54 ∧ Wok Y.2.1 wR 26 ∧ (∀ i j : Nat, i < 54 → j < 26 → gA Y.1 i ≠ gA Y.2.1 j) ∧ (∀ i : Nat, i < 54 → (eS E).heap.size ≤ gA Y.1 i) ∧ (∀ i : Nat, i < 26 → (eS E).heap.size ≤ gA Y.2.1 i) ∧ ex Y.1 (aL E) (eS E) (eS E).heap ∧ ncx (eS E) ∧ va_X Y.2.2.1 Y.2.2.2.1 Y.2.2.2.2 (eS E) (eS E).heap ∧ Y.2.2.1 < (eS E).heap.size ∧ E.2.2.2.2.2.2.2.2.1.locks = false ∧ E.2.2.2.2.2.2.2.2.1.sig.returnType = ret ∧ E.2.2.2.1 = room_1 ∧ E.2.1.stackTraces = false ∧ E.2.2.2.2.2.2.1 = #[Value.ref Y.2.2.1]
def JL (E : Ec) (Y : Lc) (k n pc : Nat) (loc : List (Nat × Value)) (st : List Value) (SC SR : St) : Prop :=
  ∀ (ls : Array Slot) (H : Heap) (locs : List Loc), lv_has ls 8 loc → va_P Y.1.1 vwCl (wC Y.1 SC) H → va_P Y.1.1 vwCl (wR Y.2.1 SR) H → va_S (aL E) (eS E).heap H locs → WE E H locs k n (lw_Z E.2.2.2.2.2.2.2.1 E.2.2.2.2.2.2.1 (eS E)) (F0 E.2.2.2.2.2.1 pc ls st)
variable {E : Ec} {Y : Lc} {k n pc ix : Nat} {loc : List (Nat × Value)} {st : List Value} {SC SR : St}
theorem jl_iadd {x y : Int32} (C : JLC E Y) (hd : decode code pc = .ok (.iadd, 1))  (kk : JL E Y k n (pc + 1) loc (.int (x + y) :: st) SC SR) : JL E Y k n pc loc (.int y :: .int x :: st) SC SR := fun ls H locs hl hP hQ hS => lv_iadd C.1 C.2.1 hd (kk ls H locs hl hP hQ hS)
theorem jl_isub {x y : Int32} (C : JLC E Y) (hd : decode code pc = .ok (.isub, 1))  (kk : JL E Y k n (pc + 1) loc (.int (x - y) :: st) SC SR) : JL E Y k n pc loc (.int y :: .int x :: st) SC SR := fun ls H locs hl hP hQ hS => lv_isub C.1 C.2.1 hd (kk ls H locs hl hP hQ hS)
theorem jl_iand {x y : Int32} (C : JLC E Y) (hd : decode code pc = .ok (.iand, 1))  (kk : JL E Y k n (pc + 1) loc (.int (x &&& y) :: st) SC SR) : JL E Y k n pc loc (.int y :: .int x :: st) SC SR := fun ls H locs hl hP hQ hS => lv_iand C.1 C.2.1 hd (kk ls H locs hl hP hQ hS)
theorem jl_iconst {i : Int} (v : Int32) (C : JLC E Y) (hd : decode code pc = .ok (.iconst i, 1)) (hv : Int32.ofInt i = v) (kk : JL E Y k n (pc + 1) loc (.int v :: st) SC SR) : JL E Y k n pc loc (st) SC SR := fun ls H locs hl hP hQ hS => lv_iconst C.1 C.2.1 hd hv (kk ls H locs hl hP hQ hS)
theorem jl_bipush {i : Int} (v : Int32) (C : JLC E Y) (hd : decode code pc = .ok (.bipush i, 2)) (hv : (Int8.ofInt i).toInt32 = v) (kk : JL E Y k n (pc + 2) loc (.int v :: st) SC SR) : JL E Y k n pc loc (st) SC SR := fun ls H locs hl hP hQ hS => lv_bipush C.1 C.2.1 hd hv (kk ls H locs hl hP hQ hS)
theorem jl_i2l {x : Int32} (C : JLC E Y) (hd : decode code pc = .ok (.i2l, 1))  (kk : JL E Y k n (pc + 1) loc (.long x.toInt64 :: st) SC SR) : JL E Y k n pc loc (.int x :: st) SC SR := fun ls H locs hl hP hQ hS => lv_i2l C.1 C.2.1 hd rfl (kk ls H locs hl hP hQ hS)
theorem jl_lcmp {x y : Int64} (C : JLC E Y) (hd : decode code pc = .ok (.lcmp, 1))  (kk : JL E Y k n (pc + 1) loc (.int (lg_cmp x y) :: st) SC SR) : JL E Y k n pc loc (.long y :: .long x :: st) SC SR := fun ls H locs hl hP hQ hS => W.lcmp C.1 C.2.1 hd (kk ls H locs hl hP hQ hS)
theorem jl_dup {v : Value} (C : JLC E Y) (hd : decode code pc = .ok (.dup, 1)) (hc : v.category = 1) (kk : JL E Y k n (pc + 1) loc (v :: v :: st) SC SR) : JL E Y k n pc loc (v :: st) SC SR := fun ls H locs hl hP hQ hS => lv_dup C.1 C.2.1 hd hc (kk ls H locs hl hP hQ hS)
theorem jl_iload_n {x : Int32} {f : Fin 4} (j : Nat) {i : Nat} (C : JLC E Y) (hd : decode code pc = .ok (.iload_n f, 1)) (hi : (f : Nat) = i) (hx : loc[j]? = some (i, .int x)) (kk : JL E Y k n (pc + 1) loc (.int x :: st) SC SR) : JL E Y k n pc loc (st) SC SR := fun ls H locs hl hP hQ hS => lv_iload_n C.1 C.2.1 hd hi (lv_at hl j hx) (kk ls H locs hl hP hQ hS)
theorem jl_iload {x : Int32} (j : Nat) {i : Nat} (C : JLC E Y) (hd : decode code pc = .ok (.iload i, 2)) (hx : loc[j]? = some (i, .int x)) (kk : JL E Y k n (pc + 2) loc (.int x :: st) SC SR) : JL E Y k n pc loc (st) SC SR := fun ls H locs hl hP hQ hS => lv_iload C.1 C.2.1 hd (lv_at hl j hx) (kk ls H locs hl hP hQ hS)
theorem jl_istore_n {x : Int32} {f : Fin 4} {i : Nat} (lv' : List (Nat × Value)) (C : JLC E Y) (hd : decode code pc = .ok (.istore_n f, 1)) (hi : (f : Nat) = i) (hn : i < 8) (hv : (i, Value.int x) :: loc.filter (fun q => !(q.1 == i) && !(q.1 + 1 == i && q.2.category == 2)) = lv') (kk : JL E Y k n (pc + 1) lv' st SC SR) : JL E Y k n pc loc (.int x :: st) SC SR := fun ls H locs hl hP hQ hS => lv_istore_n C.1 C.2.1 hd hi hl hn hv (fun ls' hl' => kk ls' H locs hl' hP hQ hS)
theorem jl_istore {x : Int32} {i : Nat} (lv' : List (Nat × Value)) (C : JLC E Y) (hd : decode code pc = .ok (.istore i, 2)) (hn : i < 8) (hv : (i, Value.int x) :: loc.filter (fun q => !(q.1 == i) && !(q.1 + 1 == i && q.2.category == 2)) = lv') (kk : JL E Y k n (pc + 2) lv' st SC SR) : JL E Y k n pc loc (.int x :: st) SC SR := fun ls H locs hl hP hQ hS => lv_istore C.1 C.2.1 hd hl hn hv (fun ls' hl' => kk ls' H locs hl' hP hQ hS)
theorem jl_aload_n {x : Nat} {f : Fin 4} (j : Nat) {i : Nat} (C : JLC E Y) (hd : decode code pc = .ok (.aload_n f, 1)) (hi : (f : Nat) = i) (hx : loc[j]? = some (i, .ref x)) (kk : JL E Y k n (pc + 1) loc (.ref x :: st) SC SR) : JL E Y k n pc loc (st) SC SR := fun ls H locs hl hP hQ hS => lv_aload_n C.1 C.2.1 hd hi (lv_at hl j hx) (kk ls H locs hl hP hQ hS)
theorem jl_aload {x : Nat} (j : Nat) {i : Nat} (C : JLC E Y) (hd : decode code pc = .ok (.aload i, 2)) (hx : loc[j]? = some (i, .ref x)) (kk : JL E Y k n (pc + 2) loc (.ref x :: st) SC SR) : JL E Y k n pc loc (st) SC SR := fun ls H locs hl hP hQ hS => lv_aload C.1 C.2.1 hd (lv_at hl j hx) (kk ls H locs hl hP hQ hS)
theorem jl_astore_n {x : Nat} {f : Fin 4} {i : Nat} (lv' : List (Nat × Value)) (C : JLC E Y) (hd : decode code pc = .ok (.astore_n f, 1)) (hi : (f : Nat) = i) (hn : i < 8) (hv : (i, Value.ref x) :: loc.filter (fun q => !(q.1 == i) && !(q.1 + 1 == i && q.2.category == 2)) = lv') (kk : JL E Y k n (pc + 1) lv' st SC SR) : JL E Y k n pc loc (.ref x :: st) SC SR := fun ls H locs hl hP hQ hS => lv_astore_n C.1 C.2.1 hd hi hl hn hv (fun ls' hl' => kk ls' H locs hl' hP hQ hS)
theorem jl_astore {x : Nat} {i : Nat} (lv' : List (Nat × Value)) (C : JLC E Y) (hd : decode code pc = .ok (.astore i, 2)) (hn : i < 8) (hv : (i, Value.ref x) :: loc.filter (fun q => !(q.1 == i) && !(q.1 + 1 == i && q.2.category == 2)) = lv') (kk : JL E Y k n (pc + 2) lv' st SC SR) : JL E Y k n pc loc (.ref x :: st) SC SR := fun ls H locs hl hP hQ hS => lv_astore C.1 C.2.1 hd hl hn hv (fun ls' hl' => kk ls' H locs hl' hP hQ hS)
theorem jl_lload_n {x : Int64} {f : Fin 4} (j : Nat) {i : Nat} (C : JLC E Y) (hd : decode code pc = .ok (.lload_n f, 1)) (hi : (f : Nat) = i) (hx : loc[j]? = some (i, .long x)) (kk : JL E Y k n (pc + 1) loc (.long x :: st) SC SR) : JL E Y k n pc loc (st) SC SR := fun ls H locs hl hP hQ hS => lv_lload_n C.1 C.2.1 hd hi (lv_at hl j hx) (kk ls H locs hl hP hQ hS)
theorem jl_lload {x : Int64} (j : Nat) {i : Nat} (C : JLC E Y) (hd : decode code pc = .ok (.lload i, 2)) (hx : loc[j]? = some (i, .long x)) (kk : JL E Y k n (pc + 2) loc (.long x :: st) SC SR) : JL E Y k n pc loc (st) SC SR := fun ls H locs hl hP hQ hS => lv_lload C.1 C.2.1 hd (lv_at hl j hx) (kk ls H locs hl hP hQ hS)
theorem jl_lstore {x : Int64} {i : Nat} (lv' : List (Nat × Value)) (C : JLC E Y) (hd : decode code pc = .ok (.lstore i, 2)) (hn : i + 1 < 8) (hv : (i, Value.long x) :: loc.filter (fun q => !(q.1 == i) && (!(q.1 == i + 1) && !(q.1 + 1 == i && q.2.category == 2))) = lv') (kk : JL E Y k n (pc + 2) lv' st SC SR) : JL E Y k n pc loc (.long x :: st) SC SR := fun ls H locs hl hP hQ hS => lv_lstore C.1 C.2.1 hd hl hn hv (fun ls' hl' => kk ls' H locs hl' hP hQ hS)
theorem jl_iinc {x : Int32} {i : Nat} {d : Int} (j : Nat) (v : Int32) (lv' : List (Nat × Value)) (C : JLC E Y) (hd : decode code pc = .ok (.iinc i d, 3)) (hj : loc[j]? = some (i, .int x)) (hx : x + Int32.ofInt d = v) (hn : i < 8) (hv : (i, Value.int v) :: loc.filter (fun q => !(q.1 == i) && !(q.1 + 1 == i && q.2.category == 2)) = lv') (kk : JL E Y k n (pc + 3) lv' st SC SR) : JL E Y k n pc loc st SC SR := fun ls H locs hl hP hQ hS => lv_iinc C.1 C.2.1 hd hl hj hx hn hv (fun ls' hl' => kk ls' H locs hl' hP hQ hS)
theorem jl_sub {lv' : List (Nat × Value)} (ks : List Nat) (hv : lv_pick loc ks = lv') (kk : JL E Y k n pc lv' st SC SR) : JL E Y k n pc loc st SC SR := fun ls H locs hl hP hQ hS => kk ls H locs (lv_sub hl ks hv) hP hQ hS
theorem jl_widen {k1 n1 : Nat} (h1 : k ≤ k1) (h2 : n ≤ n1) (kk : JL E Y k1 n1 pc loc st SC SR) : JL E Y k n pc loc st SC SR := fun ls H locs hl hP hQ hS => W.widen h1 h2 (kk ls H locs hl hP hQ hS)
theorem jl_goto {off : Int} (tgt : Nat) (C : JLC E Y) (hd : decode code pc = .ok (.goto off, 3)) (ht : (pc : Int) + off = (tgt : Int)) (kk : JL E Y k n tgt loc st SC SR) : JL E Y k n pc loc st SC SR := fun ls H locs hl hP hQ hS => lv_goto C.1 C.2.1 hd ht (kk ls H locs hl hP hQ hS)
theorem jl_icmp_eq {x y : Int32} {off : Int} (tgt : Nat) (C : JLC E Y) (hd : decode code pc = .ok (.if_icmp .eq off, 3)) (ht : (pc : Int) + off = (tgt : Int)) (kt : x = y → JL E Y k n tgt loc st SC SR) (kf : ¬ (x = y) → JL E Y k n (pc + 3) loc st SC SR) : JL E Y k n pc loc (.int y :: .int x :: st) SC SR := fun ls H locs hl hP hQ hS => lv_icmp_eq C.1 C.2.1 hd ht (fun h => kt h ls H locs hl hP hQ hS) (fun h => kf h ls H locs hl hP hQ hS)
theorem jl_icmp_gt {x y : Int32} {off : Int} (tgt : Nat) (C : JLC E Y) (hd : decode code pc = .ok (.if_icmp .gt off, 3)) (ht : (pc : Int) + off = (tgt : Int)) (kt : y < x → JL E Y k n tgt loc st SC SR) (kf : ¬ (y < x) → JL E Y k n (pc + 3) loc st SC SR) : JL E Y k n pc loc (.int y :: .int x :: st) SC SR := fun ls H locs hl hP hQ hS => lv_icmp_gt C.1 C.2.1 hd ht (fun h => kt h ls H locs hl hP hQ hS) (fun h => kf h ls H locs hl hP hQ hS)
theorem jl_if_eq {x : Int32} {off : Int} (tgt : Nat) (C : JLC E Y) (hd : decode code pc = .ok (.ifCond .eq off, 3)) (ht : (pc : Int) + off = (tgt : Int)) (kt : x = 0 → JL E Y k n tgt loc st SC SR) (kf : ¬ (x = 0) → JL E Y k n (pc + 3) loc st SC SR) : JL E Y k n pc loc (.int x :: st) SC SR := fun ls H locs hl hP hQ hS => lv_if_eq C.1 C.2.1 hd ht (fun h => kt h ls H locs hl hP hQ hS) (fun h => kf h ls H locs hl hP hQ hS)
theorem jl_if_ne {x : Int32} {off : Int} (tgt : Nat) (C : JLC E Y) (hd : decode code pc = .ok (.ifCond .ne off, 3)) (ht : (pc : Int) + off = (tgt : Int)) (kt : ¬ x = 0 → JL E Y k n tgt loc st SC SR) (kf : x = 0 → JL E Y k n (pc + 3) loc st SC SR) : JL E Y k n pc loc (.int x :: st) SC SR := fun ls H locs hl hP hQ hS => lv_if_ne C.1 C.2.1 hd ht (fun h => kt h ls H locs hl hP hQ hS) (fun h => kf h ls H locs hl hP hQ hS)
theorem jl_tsw {x : Int32} {dflt lo hi off : Int} {offs : Array Int} {len : Nat} (tgt : Nat) (v : Int32) (C : JLC E Y) (hd : decode code pc = .ok (.tableswitch dflt lo hi offs, len)) (h1 : ¬ v.toInt < lo) (h2 : ¬ hi < v.toInt) (h3 : offs[(v.toInt - lo).toNat]? = some off) (ht : (pc : Int) + off = (tgt : Int)) (kA : x = v → JL E Y k n tgt loc st SC SR) (kB : ¬ x = v → JL E Y k n pc loc (.int x :: st) SC SR) : JL E Y k n pc loc (.int x :: st) SC SR := by
  intro ls H locs hl hP hQ hS
  by_cases e : x = v
  · subst e
    exact lv_tableIn C.1 C.2.1 hd h1 h2 h3 ht (kA rfl ls H locs hl hP hQ hS)
  · exact kB e ls H locs hl hP hQ hS
theorem jl_tswD {x : Int32} {dflt lo hi : Int} {offs : Array Int} {len : Nat} (tgt : Nat) (C : JLC E Y) (hd : decode code pc = .ok (.tableswitch dflt lo hi offs, len)) (h : x.toInt < lo ∨ hi < x.toInt) (ht : (pc : Int) + dflt = (tgt : Int)) (kk : JL E Y k n tgt loc st SC SR) : JL E Y k n pc loc (.int x :: st) SC SR := fun ls H locs hl hP hQ hS => lv_tableOut C.1 C.2.1 hd h ht (kk ls H locs hl hP hQ hS)
theorem jl_slen (C : JLC E Y) (hd : decode code pc = .ok (.arraylength, 1)) (kk : JL E Y k n (pc + 1) loc (.int (nI Y.2.2.2.1) :: st) SC SR) : JL E Y k n pc loc (.ref Y.2.2.1 :: st) SC SR := fun ls H locs hl hP hQ hS =>
  va_slen C.1 C.2.1 C.2.2.2.2.2.2.2.2.2.2.2.2.2.2.1 C.2.2.2.2.2.2.2.2.2.2.2.2.2.2.2.1 (Nat.not_le.mpr C.2.2.2.2.2.2.2.2.2.2.2.2.2.2.2.1) hS hd (kk ls H locs hl hP hQ hS)
theorem jl_sld {i : Int32} (C : JLC E Y) (hd : decode code pc = .ok (.iaload, 1)) (hi : vp_in i Y.2.2.2.1) (kk : JL E Y k n (pc + 1) loc (.int (Y.2.2.2.2 i.toNatClampNeg) :: st) SC SR) : JL E Y k n pc loc (.int i :: .ref Y.2.2.1 :: st) SC SR := fun ls H locs hl hP hQ hS =>
  va_sld C.1 C.2.1 C.2.2.2.2.2.2.2.2.2.2.2.2.2.2.1 C.2.2.2.2.2.2.2.2.2.2.2.2.2.2.2.1 (Nat.not_le.mpr C.2.2.2.2.2.2.2.2.2.2.2.2.2.2.2.1) hS hi hd (kk ls H locs hl hP hQ hS)
theorem jl_lald {i : Int32} (C : JLC E Y) (hd : decode code pc = .ok (.laload, 1)) (hg : ib i 1 = true) (kk : JL E Y k n (pc + 1) loc (.long (rB SC 53 i) :: st) SC SR) : JL E Y k n pc loc (.int i :: .ref (gA Y.1 53) :: st) SC SR := fun ls H locs hl hP hQ hS =>
  va_lald (n := 1) (f := SC.2.2 53) C.1 C.2.1 C.2.2.2.2.2.1 hP 53 1 rfl rfl (ib_in hg) hd (kk ls H locs hl hP hQ hS)
/-- the law's end -/
theorem jl_ret (C : JLC E Y) (hd : decode code pc = .ok (.ireturn, 1)) (h1 : k ≤ 601024) (h2 : n ≤ 7293034) : JL E Y k n pc loc [.int 1] SC SR := fun ls H locs hl hP hQ hS => by
  have hb := C.2.2.2.2.2.2.2.2.2.2.2.2.2.2.2.2
  refine va_forget (fun q hq => hS.2.2 q hq) ?_
  refine W.widen (k := 601024) (n := 7293034) h1 h2 ?_
  have h9 := lw_ret (p := E.1) (l := E.2.1) (e := E.2.2.1) (s := eS E) (m := E.2.2.2.2.2.1) (below := E.2.2.2.2.2.2.2.1) (b := Y.2.2.1) (H := H) (ls := ls) (pc := pc) C.1 C.2.1 hb.2.1 hb.1 hd
  rw [← hb.2.2.1, ← hb.2.2.2.2] at h9
  exact h9
/-- what a call of one world leaves of the other -/
theorem jl_keep {D : va_G} {ws : va_W} {G : Gc} {N : Nat} {H H1 : Heap} (hP : va_P D vwCl ws H) (hn : ∀ (i : Nat) (q : Nat × va_E), ws[i]? = some q → ∀ j, j < N → q.1 ≠ gA G j) (hk : ∀ q : Nat, q < H.size → ¬ AW G N H.size q → H1[q]? = H[q]?) : va_P D vwCl ws H1 := fun i q hi =>
  (hP i q hi).kept (hk q.1 (hP i q hi).lt (fun h => h.elim (fun ⟨j, hj, e⟩ => hn i q hi j hj e) (fun h => absurd (hP i q hi).lt (Nat.not_lt.mpr h))))
theorem jl_pcC (C : JLC E Y) {H : Heap} {locs : List Loc} (hP : va_P Y.1.1 vwCl (wC Y.1 SC) H) (hS : va_S (aL E) (eS E).heap H locs) (as : List Value) : ∀ U : State, U.heap = H → (eS E).WarmedH U.vm → PcW Y.1 wC 54 as SC H.size as.toArray U := fun U hU hW =>
  ⟨rfl, by rw [hU], by rw [hU]; exact hP, va_K.moved hW.alike C.2.2.2.2.2.1, by
    rw [hU]
    exact ((C.2.2.2.2.2.2.2.2.2.2.2.2.1.kept hS.2.1).narrow (fun q h => h.elim (fun ⟨j, hj, e⟩ => by rw [e]; exact C.2.2.2.2.2.2.2.2.2.2.1 j hj) (fun h => Nat.le_trans hS.1 h))).warm hW⟩
theorem jl_pcR (C : JLC E Y) {H : Heap} {locs : List Loc} (hP : va_P Y.1.1 vwCl (wR Y.2.1 SR) H) (hS : va_S (aL E) (eS E).heap H locs) (as : List Value) : ∀ U : State, U.heap = H → (eS E).WarmedH U.vm → PcW Y.2.1 wR 26 as SR H.size as.toArray U := fun U hU hW => by
  obtain ⟨g1, g2, g3, g4⟩ := C.2.2.2.2.2.2.1
  refine ⟨rfl, by rw [hU], by rw [hU, g1]; exact hP, ?_, ?_⟩
  · show va_K Y.2.1.1 vwCl [(Y.2.1.2.1, .int), (Y.2.1.2.2.1, .long)] U
    rw [g1, g2, g3]
    exact va_K.moved hW.alike C.2.2.2.2.2.1
  · rw [hU]
    have h9 := ((C.2.2.2.2.2.2.2.2.2.2.2.2.1.kept hS.2.1).narrow (B := AW Y.2.1 26 H.size) (fun q h => h.elim (fun ⟨j, hj, e⟩ => by rw [e]; exact C.2.2.2.2.2.2.2.2.2.2.2.1 j hj) (fun h => Nat.le_trans hS.1 h))).warm hW
    unfold ex exS at h9 ⊢
    rw [g4]
    exact h9
def rmOK (L mc ms : Nat) : Prop := L + 1 ≤ 2048 ∧ 40 * L + 40 ≤ 84000
theorem jl_room {L mc ms maxL : Nat} (C : JLC E Y) (h : L ≤ 2000) (hm : maxL ≤ 21) : (rmL L mc ms).frames + 1 ≤ E.2.2.2.1.frames ∧ 8 + (maxL + 11) + (rmL L mc ms).locals ≤ E.2.2.2.1.locals := by
  rw [C.2.2.2.2.2.2.2.2.2.2.2.2.2.2.2.2.2.2.1]
  exact ⟨by show L + 1 ≤ 2048; omega, by show 8 + (maxL + 11) + 40 * L ≤ 84000; omega⟩
theorem jl_fit (C : JLC E Y) {mc ms : Nat} (h : k + mc ≤ 601024 ∧ n + ms ≤ 7293034) : k + mc ≤ E.2.2.2.1.cells ∧ n + ms ≤ E.2.2.2.1.slots := by
  rw [C.2.2.2.2.2.2.2.2.2.2.2.2.2.2.2.2.2.2.1]
  exact h
/-- behind a call of the class -/
theorem jl_afterC (C : JLC E Y) {mc ms : Nat} {st0 rest : List Value} {r1 : Rz} {S1 : St} {ov : Option Value} {a : Array Value} {ls : Array Slot} {H : Heap} {locs : List Loc} (hl : lv_has ls 8 loc) (hQ : va_P Y.1.1 vwCl (wR Y.2.1 SR) H) (hS : va_S (aL E) (eS E).heap H locs) (hov : enc Y.1 r1 = some ov)
    (hr : vx_Run E.1 E.2.1 E.2.2.1 E.2.2.2.1 E.2.2.2.2.1 E.2.2.2.2.2.1 E.2.2.2.2.2.2.1 E.2.2.2.2.2.2.2.1 E.2.2.2.2.2.2.2.2.1 E.2.2.2.2.2.2.2.2.2 H locs k n mc ms (F0 E.2.2.2.2.2.1 pc ls st0) rest (QcW Y.1 wC 54 r1 S1 H.size a) (XcW Y.1 wC 54 r1 S1 H.size) (AW Y.1 54 H.size))
    (kk : JL E Y (k + mc) (n + ms) (pc + 3) loc (ov.toList ++ rest) S1 SR) : WE E H locs k n (lw_Z E.2.2.2.2.2.2.2.1 E.2.2.2.2.2.2.1 (eS E)) (F0 E.2.2.2.2.2.1 pc ls st0) := by
  have hAW : ∀ q, AW Y.1 54 H.size q → aL E q := fun q h => h.elim (fun ⟨j, hj, e⟩ => by rw [e]; exact C.2.2.2.2.2.2.2.2.2.2.1 j hj) (fun h => Nat.le_trans hS.1 h)
  intro T hT X
  rcases hr T hT X with ⟨v, st₀, t, T', L9, h0, X', hL, e1, e2, ⟨⟨ov2, h1, h2, h3⟩, hF⟩, stp⟩ | ⟨q, st₀, t, T', L9, En, ce, h0, X', hL, e1, e2, ⟨j, h1, h2, h3, hF⟩, hce, hcv, hcl, stp⟩
  · cases h2
    cases hov.symm.trans h1
    obtain ⟨-, k2, k3⟩ := vx_keep h0 e1 hS (fun q _ h => hAW q h) (fun q h => hAW q h) hL hF
    have hQ9 : va_P Y.1.1 vwCl (wR Y.2.1 SR) T'.heap := jl_keep hQ (fun i q hi j hj e => by
      obtain ⟨g1, g2⟩ := C.2.2.2.2.2.2.2.2.1.at hi
      exact C.2.2.2.2.2.2.2.2.2.1 j i hj g1 (by rw [← g2]; exact e.symm)) k2
    obtain ⟨t2, a1, b1⟩ := kk ls T'.heap (locs ++ L9) hl (by rw [e1]; exact h3) hQ9 k3 T' rfl X'
    exact ⟨t2, stp t2 a1, b1⟩
  · rw [h1] at hov; cases hov
theorem jl_afterR (C : JLC E Y) {mc ms : Nat} {st0 rest : List Value} {r1 : Rz} {S1 : St} {ov : Option Value} {a : Array Value} {ls : Array Slot} {H : Heap} {locs : List Loc} (hl : lv_has ls 8 loc) (hP : va_P Y.1.1 vwCl (wC Y.1 SC) H) (hS : va_S (aL E) (eS E).heap H locs) (hov : enc Y.2.1 r1 = some ov)
    (hr : vx_Run E.1 E.2.1 E.2.2.1 E.2.2.2.1 E.2.2.2.2.1 E.2.2.2.2.2.1 E.2.2.2.2.2.2.1 E.2.2.2.2.2.2.2.1 E.2.2.2.2.2.2.2.2.1 E.2.2.2.2.2.2.2.2.2 H locs k n mc ms (F0 E.2.2.2.2.2.1 pc ls st0) rest (QcW Y.2.1 wR 26 r1 S1 H.size a) (XcW Y.2.1 wR 26 r1 S1 H.size) (AW Y.2.1 26 H.size))
    (kk : JL E Y (k + mc) (n + ms) (pc + 3) loc (ov.toList ++ rest) SC S1) : WE E H locs k n (lw_Z E.2.2.2.2.2.2.2.1 E.2.2.2.2.2.2.1 (eS E)) (F0 E.2.2.2.2.2.1 pc ls st0) := by
  have hAW : ∀ q, AW Y.2.1 26 H.size q → aL E q := fun q h => h.elim (fun ⟨j, hj, e⟩ => by rw [e]; exact C.2.2.2.2.2.2.2.2.2.2.2.1 j hj) (fun h => Nat.le_trans hS.1 h)
  intro T hT X
  rcases hr T hT X with ⟨v, st₀, t, T', L9, h0, X', hL, e1, e2, ⟨⟨ov2, h1, h2, h3⟩, hF⟩, stp⟩ | ⟨q, st₀, t, T', L9, En, ce, h0, X', hL, e1, e2, ⟨j, h1, h2, h3, hF⟩, hce, hcv, hcl, stp⟩
  · cases h2
    cases hov.symm.trans h1
    obtain ⟨-, k2, k3⟩ := vx_keep h0 e1 hS (fun q _ h => hAW q h) (fun q h => hAW q h) hL hF
    have hP9 : va_P Y.1.1 vwCl (wC Y.1 SC) T'.heap := jl_keep hP (fun i q hi j hj e => by
      obtain ⟨g1, g2⟩ := C.2.2.2.2.2.2.2.1.at hi
      exact C.2.2.2.2.2.2.2.2.2.1 i j g1 hj (by rw [← g2]; exact e)) k2
    obtain ⟨t2, a1, b1⟩ := kk ls T'.heap (locs ++ L9) hl hP9 (by rw [e1, ← C.2.2.2.2.2.2.1.1]; exact h3) k3 T' rfl X'
    exact ⟨t2, stp t2 a1, b1⟩
  · rw [h1] at hov; cases hov
theorem jl_callC {y : MethodName} {bytes : ByteArray} {maxL m L' mc ms : Nat} {rt : Option FieldType} {As st0 rest : List Value} {o : Oz} {r1 : Rz} {S1 : St} {ov : Option Value} (C : JLC E Y) (hd : decode code pc = .ok (.invokevirtual ix, 3)) (hM : Ct E.2.1 y (Cond.code y bytes maxL rt :: tblG) L' mc ms Y.1 wC 54 (.ref (gA Y.1 0) :: As) SC o) (ho : o = some (r1, S1)) (hov : enc Y.1 r1 = some ov) (hK : Kn y bytes maxL rt m) (hi : Cond.instanceMethod y ∈ tblG ∧ Cond.selects RX9 y y ∈ tblG) (hq : Cond.methodLink RL ix y ∈ tblG) (hL : L' ≤ 2000) (hn : As.length = m) (hst : st0 = As.reverse ++ .ref (gA Y.1 0) :: rest) (hsm : (rest.map fun v => v.category).sum ≤ 8) (hf : k + mc ≤ 601024 ∧ n + ms ≤ 7293034)
    (kk : JL E Y (k + mc) (n + ms) (pc + 3) loc (ov.toList ++ rest) S1 SR) : JL E Y k n pc loc st0 SC SR := fun ls H locs hl hP hQ hS =>
  jl_afterC C hl hQ hS hov (vx_runV (Ts := tblG) (C := RX9) (As := As) (rest := rest) ⟨C.1, C.2.1, C.2.2.1, C.2.2.2.1, C.2.2.2.2.1⟩ (hM r1 S1 ho H.size) ⟨callB_of m C.2.2.2.2.1 (gin hK.1) rfl rfl rfl (C.2.2.2.2.1 _ hK.2.1) (C.2.2.2.2.1 _ hq) hK.2.2.1 (jl_room C hL hK.2.2.2), C.2.2.2.2.1 _ hi.1, C.2.2.2.2.1 _ hi.2⟩ ⟨pcw_blind, va_recv (ci := 9) (q := (RX9, TX9, 15)) (q0 := 0) C.2.2.2.2.2.1 hP rfl rfl, jl_pcC C hP hS _⟩ rfl hn hl.1 hst (lv_room hsm) hd (jl_fit C hf)) kk
theorem jl_callR {y : MethodName} {bytes : ByteArray} {maxL m L' : Nat} {rt : Option FieldType} {As st0 rest : List Value} {o : Oz} {r1 : Rz} {S1 : St} {ov : Option Value} (C : JLC E Y) (hd : decode code pc = .ok (.invokevirtual ix, 3)) (hM : Ct E.2.1 y (Cond.code y bytes maxL rt :: tblG) L' 0 0 Y.2.1 wR 26 (.ref (gA Y.2.1 0) :: As) SR o) (ho : o = some (r1, S1)) (hov : enc Y.2.1 r1 = some ov) (hK : Kn y bytes maxL rt m) (hi : Cond.instanceMethod y ∈ tblG ∧ Cond.selects RX10 y y ∈ tblG) (hq : Cond.methodLink RL ix y ∈ tblG) (hL : L' ≤ 2000) (hn : As.length = m) (hst : st0 = As.reverse ++ .ref (gA Y.2.1 0) :: rest) (hsm : (rest.map fun v => v.category).sum ≤ 8) (hf : k ≤ 601024 ∧ n ≤ 7293034)
    (kk : JL E Y k n (pc + 3) loc (ov.toList ++ rest) SC S1) : JL E Y k n pc loc st0 SC SR := fun ls H locs hl hP hQ hS =>
  jl_afterR C hl hP hS hov (vx_runV (Ts := tblG) (C := RX10) (As := As) (rest := rest) ⟨C.1, C.2.1, C.2.2.1, C.2.2.2.1, C.2.2.2.2.1⟩ (hM r1 S1 ho H.size) ⟨callB_of m C.2.2.2.2.1 (gin hK.1) rfl rfl rfl (C.2.2.2.2.1 _ hK.2.1) (C.2.2.2.2.1 _ hq) hK.2.2.1 (jl_room C hL hK.2.2.2), C.2.2.2.2.1 _ hi.1, C.2.2.2.2.1 _ hi.2⟩ ⟨pcw_blind, va_recv (ci := 10) (q := (RX10, TX10, 53)) (q0 := 0) C.2.2.2.2.2.1 hQ rfl rfl, jl_pcR C hQ hS _⟩ rfl hn hl.1 hst (lv_room hsm) hd (jl_fit C hf)) kk
theorem pch_blind {G : Gc} {w : Gc → St → va_W} {N : Nat} {as : List Value} {S : St} {sz : Nat} : FrameBlind (PcH G w N as S sz) := fun a U g mk q => ⟨pcw_blind a U g mk q.1, va_Nc.moved (u := U) (U := U.calling g mk a) (Vm.Alike.refl U.vm) q.2⟩
theorem jl_callH {y : MethodName} {bytes : ByteArray} {maxL m L' mc ms : Nat} {rt : Option FieldType} {hh : List (Nat × Nat × Nat × Nat)} {As st0 rest : List Value} {o : Oz} {v : Int32} {S1 : St} (C : JLC E Y) (hd : decode code pc = .ok (.invokestatic ix, 3)) (hM : CtH E.2.1 y (Cond.codeWith y bytes maxL rt hh :: tblG) L' mc ms Y.1 wC 54 As SC o) (ho : o = some (rI v, S1)) (hcw : Cond.codeWith y bytes maxL rt hh ∈ tblG) (hin : Cond.initialized y.cls ∈ tblG) (hdsc : y.cls ≠ "java/lang/invoke/MethodHandle" ∧ y.cls ≠ "java/lang/invoke/VarHandle" ∧ (parseMethodDescriptor y.desc).map (fun d => d.parameters.length) = some m) (hmx : maxL ≤ 21) (hst1 : Cond.static y ∈ tblG) (hq : Cond.methodLink RL ix y ∈ tblG) (hL : L' ≤ 2000) (hn : As.length = m) (hst : st0 = As.reverse ++ rest) (hsm : (rest.map fun v => v.category).sum ≤ 8) (hf : k + mc ≤ 601024 ∧ n + ms ≤ 7293034)
    (kk : JL E Y (k + mc) (n + ms) (pc + 3) loc (.int v :: rest) S1 SR) : JL E Y k n pc loc st0 SC SR := fun ls H locs hl hP hQ hS =>
  jl_afterC (r1 := rI v) (ov := some (.int v)) C hl hQ hS rfl (vx_runSX (Ts := tblG) (own := RL) (As := As) (rest := rest) (hh := hh) ⟨C.1, C.2.1, C.2.2.1, C.2.2.2.1, C.2.2.2.2.1⟩ (hM _ S1 ho H.size) (vx_cwSW (Ts := tblG) m C.2.2.2.2.1 (fun w hw => by
      have hm : w ∈ tblG := by
        rcases List.mem_append.mp hw with h | h
        · simp only [List.mem_cons, List.not_mem_nil, or_false] at h
          rcases h with rfl | rfl | rfl
          · exact hq
          · exact hst1
          · exact hin
        · rcases List.mem_cons.mp h with rfl | h
          · exact hcw
          · exact h
      exact ⟨hm, good_of_word (List.mem_filter.mp hm).2⟩) rfl rfl rfl hdsc (jl_room C hL hmx)) ⟨pch_blind, fun U hU hW => ⟨jl_pcC C hP hS _ U hU hW, va_Nc.moved hW.alike C.2.2.2.2.2.2.2.2.2.2.2.2.2.1⟩⟩ rfl hn hl.1 hst (lv_room hsm) hd (jl_fit C hf)) kk
end JLK
