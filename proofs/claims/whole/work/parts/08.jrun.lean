/-! rows of J: calls, and a method's contract out of its walk -/
section JN
variable {E : Ec} {V : Vc} {cc : ByteArray} {L : Nat} {ret : Option FieldType} {k n pc : Nat} {loc : List (Nat × Value)} {st : List Value} {S : St} {o : Oz}
/-- a call, with what it answers -/
def Rn (E : Ec) (V : Vc) (k n mc ms pc : Nat) (loc : List (Nat × Value)) (st0 rest : List Value) (S : St) (o : Oz) : Prop :=
  ∀ r S', o = some (r, S') → ∀ (ls : Array Slot) (H : Heap) (locs : List Loc), lv_has ls V.2.2.2.1 loc → va_P V.1.1 vwCl (vW V S) H → va_S (vA E V) (eS E).heap H locs → ∃ a : Array Value,
    vx_Run E.1 E.2.1 E.2.2.1 E.2.2.2.1 E.2.2.2.2.1 E.2.2.2.2.2.1 E.2.2.2.2.2.2.1 E.2.2.2.2.2.2.2.1 E.2.2.2.2.2.2.2.2.1 E.2.2.2.2.2.2.2.2.2 H locs k n mc ms (F0 E.2.2.2.2.2.1 pc ls st0) rest (QcW V.1 V.2.1 V.2.2.1 r S' H.size a) (XcW V.1 V.2.1 V.2.2.1 r S' H.size) (AW V.1 V.2.2.1 H.size)
theorem AW_mono {G : Gc} {N a b : Nat} (h : a ≤ b) : ∀ q, AW G N b q → AW G N a q := fun _ hq => hq.elim Or.inl (fun h2 => Or.inr (Nat.le_trans h h2))
theorem pcw_blind {G : Gc} {w : Gc → St → va_W} {N : Nat} {as : List Value} {S : St} {sz : Nat} : FrameBlind (PcW G w N as S sz) := fun a U g mk q => by
  obtain ⟨q0, q1, qP, qK, qX⟩ := q
  exact ⟨q0, q1, qP, va_K.moved (u := U) (U := U.calling g mk a) (Vm.Alike.refl U.vm) qK, ex.same rfl qX⟩
theorem pcw_of (C : JC E V cc L ret) {H : Heap} {locs : List Loc} (hP : va_P V.1.1 vwCl (vW V S) H) (hS : va_S (vA E V) (eS E).heap H locs) (as : List Value) : ∀ U : State, U.heap = H → (eS E).WarmedH U.vm → PcW V.1 V.2.1 V.2.2.1 as S H.size as.toArray U := fun U hU hW =>
  ⟨rfl, by rw [hU], by rw [hU]; exact hP, va_K.moved hW.alike C.2.2.2.2.2.1, by rw [hU]; exact ((C.ex.kept hS.2.1).narrow (AW_mono hS.1)).warm hW⟩
theorem gin {y : MethodName} {bytes : ByteArray} {maxL : Nat} {rt : Option FieldType} (h : Cond.code y bytes maxL rt ∈ tblG) : GoodIn tblG (Cond.code y bytes maxL rt :: tblG) := fun w hw => by
  have hm : w ∈ tblG := (List.mem_cons.mp hw).elim (fun e => by rw [e]; exact h) id
  exact ⟨hm, good_of_word (List.mem_filter.mp hm).2⟩
/-- what the caller's tables must say of a callee -/
def Kn (y : MethodName) (bytes : ByteArray) (maxL : Nat) (rt : Option FieldType) (m : Nat) : Prop :=
  Cond.code y bytes maxL rt ∈ tblG ∧ Cond.initialized y.cls ∈ tblG ∧ (y.cls ≠ "java/lang/invoke/MethodHandle" ∧ y.cls ≠ "java/lang/invoke/VarHandle" ∧ (parseMethodDescriptor y.desc).map (fun d => d.parameters.length) = some m) ∧ maxL ≤ 21
theorem cb_of (C : JC E V cc L ret) {y : MethodName} {bytes : ByteArray} {maxL m L' mc ms ix : Nat} {rt : Option FieldType} (hK : Kn y bytes maxL rt m) (hq : Cond.methodLink V.2.2.2.2.2.2 ix y ∈ tblG) (hL : L' + 1 ≤ L) : CallB E.2.2.2.1 (eS E) E.2.2.2.2.2.2.1 V.2.2.2.2.2.2 ix y bytes maxL rt (Cond.code y bytes maxL rt :: tblG) (rmL L' mc ms) mc ms m :=
  callB_of m C.2.2.2.2.1 (gin hK.1) rfl rfl rfl (C.2.2.2.2.1 _ hK.2.1) (C.2.2.2.2.1 _ hq) hK.2.2.1 (by rw [C.room]; exact ⟨hL, by show 8 + (maxL + 11) + 40 * L' ≤ 40 * L; have := hK.2.2.2; omega⟩)
theorem rn_V {y : MethodName} {bytes : ByteArray} {maxL m L' mc ms ix b : Nat} {rt : Option FieldType} {As st0 rest : List Value} {ci : Nat} {fs : List Value} {Cq : vw_C} (q0 : Nat) (hM : Ct E.2.1 y (Cond.code y bytes maxL rt :: tblG) L' mc ms V.1 V.2.1 V.2.2.1 (.ref b :: As) S o) (hK : Kn y bytes maxL rt m) (hi : Cond.instanceMethod y ∈ tblG ∧ Cond.selects Cq.1 y y ∈ tblG) (he : (vW V S)[q0]? = some (b, .inr (ci, fs))) (hc : vwCl[ci]? = some Cq)
    (C : JC E V cc L ret) (hd : decode cc pc = .ok (.invokevirtual ix, 3)) (hq : Cond.methodLink V.2.2.2.2.2.2 ix y ∈ tblG) (hL : L' + 1 ≤ L) (hn : As.length = m) (hst : st0 = As.reverse ++ .ref b :: rest) (hW : (rest.map fun v => v.category).sum ≤ 8) (hf : k + mc ≤ V.2.2.2.2.1 ∧ n + ms ≤ V.2.2.2.2.2.1) : Rn E V k n mc ms pc loc st0 rest S o := by
  intro r S' ho ls H locs hl hP hS
  exact ⟨_, vx_runV (C := Cq.1) (As := As) (rest := rest) ⟨C.1, C.2.1, C.2.2.1, C.2.2.2.1, C.2.2.2.2.1⟩ (hM r S' ho H.size) ⟨cb_of C hK hq hL, C.2.2.2.2.1 _ hi.1, C.2.2.2.2.1 _ hi.2⟩ ⟨pcw_blind, va_recv C.2.2.2.2.2.1 hP hc he, pcw_of C hP hS _⟩ rfl hn hl.1 hst (lv_room hW) hd (by rw [C.room]; exact hf)⟩
theorem cbN_of (C : JC E V cc L ret) {y : MethodName} {bytes : ByteArray} {maxL m L' mc ms ix : Nat} {rt : Option FieldType} {host : String} (hK : Kn y bytes maxL rt m) (hq : va_Nw (.methodLinkNest V.2.2.2.2.2.2 ix y host) (eS E)) (hL : L' + 1 ≤ L) : va_CN E.2.2.2.1 (eS E) E.2.2.2.2.2.2.1 V.2.2.2.2.2.2 ix y host bytes maxL rt (Cond.code y bytes maxL rt :: tblG) (rmL L' mc ms) mc ms m :=
  va_cnB m C.2.2.2.2.1 (gin hK.1) rfl rfl rfl hq (C.2.2.2.2.1 _ hK.2.1) hK.2.2.1 (by rw [C.room]; exact ⟨hL, by show 8 + (maxL + 11) + 40 * L' ≤ 40 * L; have := hK.2.2.2; omega⟩)
theorem rn_VN {y : MethodName} {bytes : ByteArray} {maxL m L' mc ms ix b : Nat} {rt : Option FieldType} {As st0 rest : List Value} {ci : Nat} {fs : List Value} {Cq : vw_C} (q0 : Nat) (hM : Ct E.2.1 y (Cond.code y bytes maxL rt :: tblG) L' mc ms V.1 V.2.1 V.2.2.1 (.ref b :: As) S o) (hK : Kn y bytes maxL rt m) (hi : Cond.instanceMethod y ∈ tblG ∧ Cond.selects Cq.1 y y ∈ tblG) (he : (vW V S)[q0]? = some (b, .inr (ci, fs))) (hc : vwCl[ci]? = some Cq)
    (C : JC E V cc L ret) (hd : decode cc pc = .ok (.invokevirtual ix, 3)) {host : String} (hq : va_Nw (.methodLinkNest V.2.2.2.2.2.2 ix y host) (eS E)) (hL : L' + 1 ≤ L) (hn : As.length = m) (hst : st0 = As.reverse ++ .ref b :: rest) (hW : (rest.map fun v => v.category).sum ≤ 8) (hf : k + mc ≤ V.2.2.2.2.1 ∧ n + ms ≤ V.2.2.2.2.2.1) : Rn E V k n mc ms pc loc st0 rest S o := by
  intro r S' ho ls H locs hl hP hS
  exact ⟨_, vx_runVN (C := Cq.1) (host := host) (As := As) (rest := rest) ⟨C.1, C.2.1, C.2.2.1, C.2.2.2.1, C.2.2.2.2.1⟩ (hM r S' ho H.size) ⟨cbN_of C hK hq hL, C.2.2.2.2.1 _ hi.1, C.2.2.2.2.1 _ hi.2⟩ ⟨pcw_blind, va_recv C.2.2.2.2.2.1 hP hc he, pcw_of C hP hS _⟩ rfl hn hl.1 hst (lv_room hW) hd (by rw [C.room]; exact hf)⟩
theorem rn_S {y : MethodName} {bytes : ByteArray} {maxL m L' mc ms ix : Nat} {rt : Option FieldType} {As st0 rest : List Value} (hM : Ct E.2.1 y (Cond.code y bytes maxL rt :: tblG) L' mc ms V.1 V.2.1 V.2.2.1 As S o) (hK : Kn y bytes maxL rt m) (hi : Cond.static y ∈ tblG)
    (C : JC E V cc L ret) (hd : decode cc pc = .ok (.invokestatic ix, 3)) (hq : Cond.methodLink V.2.2.2.2.2.2 ix y ∈ tblG) (hL : L' + 1 ≤ L) (hn : As.length = m) (hst : st0 = As.reverse ++ rest) (hW : (rest.map fun v => v.category).sum ≤ 8) (hf : k + mc ≤ V.2.2.2.2.1 ∧ n + ms ≤ V.2.2.2.2.2.1) : Rn E V k n mc ms pc loc st0 rest S o := by
  intro r S' ho ls H locs hl hP hS
  exact ⟨_, vx_runS (As := As) (rest := rest) ⟨C.1, C.2.1, C.2.2.1, C.2.2.2.1, C.2.2.2.2.1⟩ (hM r S' ho H.size) ⟨cb_of C hK hq hL, C.2.2.2.2.1 _ hi⟩ ⟨pcw_blind, pcw_of C hP hS _⟩ rfl hn hl.1 hst (lv_room hW) hd (by rw [C.room]; exact hf)⟩
/-- what comes behind a call, whatever it answers -/
theorem j_after (C : JC E V cc L ret) {mc ms : Nat} {st0 rest : List Value} {r1 : Rz} {S1 : St} {a : Array Value} {ls : Array Slot} {H : Heap} {locs : List Loc} {Z : State → Prop} (hl : lv_has ls V.2.2.2.1 loc) (hS : va_S (vA E V) (eS E).heap H locs)
    (hr : vx_Run E.1 E.2.1 E.2.2.1 E.2.2.2.1 E.2.2.2.2.1 E.2.2.2.2.2.1 E.2.2.2.2.2.2.1 E.2.2.2.2.2.2.2.1 E.2.2.2.2.2.2.2.2.1 E.2.2.2.2.2.2.2.2.2 H locs k n mc ms (F0 E.2.2.2.2.2.1 pc ls st0) rest (QcW V.1 V.2.1 V.2.2.1 r1 S1 H.size a) (XcW V.1 V.2.1 V.2.2.1 r1 S1 H.size) (AW V.1 V.2.2.1 H.size))
    (hv : ∀ ov, enc V.1 r1 = some ov → ∀ H1 locs1, va_P V.1.1 vwCl (vW V S1) H1 → va_S (vA E V) (eS E).heap H1 locs1 → WE E H1 locs1 (k + mc) (n + ms) Z (F0 E.2.2.2.2.2.1 (pc + 3) ls (ov.toList ++ rest)))
    (hx : ∀ j, r1 = rX j → Z = Zv E V (rX j) S1 ∧ k + mc ≤ V.2.2.2.2.1 ∧ n + ms ≤ V.2.2.2.2.2.1) : WE E H locs k n Z (F0 E.2.2.2.2.2.1 pc ls st0) := by
  intro T hT X
  rcases hr T hT X with ⟨v, st₀, t, T', L9, h0, X', hL, e1, e2, ⟨⟨ov, h1, h2, h3⟩, hF⟩, stp⟩ | ⟨q, st₀, t, T', L9, En, ce, h0, X', hL, e1, e2, ⟨j, h1, h2, h3, hF⟩, hce, hcv, hcl, stp⟩
  · cases h2
    obtain ⟨-, -, k3⟩ := vx_keep h0 e1 hS (fun q _ h => AW_mono hS.1 q h) (fun q h => AW_mono hS.1 q h) hL hF
    obtain ⟨t2, a1, b1⟩ := hv _ h1 T'.heap (locs ++ L9) (by rw [e1]; exact h3) k3 T' rfl X'
    exact ⟨t2, stp t2 a1, b1⟩
  · obtain ⟨-, -, k3⟩ := vx_keep h0 e1 hS (fun q _ h => AW_mono hS.1 q h) (fun q h => AW_mono hS.1 q h) hL hF
    obtain ⟨hZ, g1, g2⟩ := hx j h1
    rw [hZ]
    subst h1
    obtain ⟨t2, a1, b1⟩ := vx_out (E := En) (ce := ce) (q := q) (pc := pc) (ls := ls) (rest := rest) (Qc := QcW V.1 V.2.1 V.2.2.1 (rX j) S1 (eS E).heap.size) (XC := XcW V.1 V.2.1 V.2.2.1 (rX j) S1 (eS E).heap.size) (mc := V.2.2.2.2.1) (ms := V.2.2.2.2.2.1) (free := vA E V) (fun x hx => (C.noTable x hx).elim) C.locks (by rw [e1]; exact hce) hcv hcl (fun t9 ht9 _ => ⟨j, rfl, h2, by rw [ht9, e1]; exact h3, k3.F ht9⟩) k3.2.2 g1 g2 T' rfl X'
    exact ⟨t2, stp.trans a1, b1⟩
theorem j_callI (C : JC E V cc L ret) {mc ms : Nat} {st0 rest : List Value} {K : Int32 → St → Oz} (hr : Rn E V k n mc ms pc loc st0 rest S o) (hf : k + mc ≤ V.2.2.2.2.1 ∧ n + ms ≤ V.2.2.2.2.2.1) (kk : ∀ v S1, J E V (k + mc) (n + ms) (pc + 3) loc (.int v :: rest) S1 (K v S1)) : J E V k n pc loc st0 S (obI o K) := by
  intro r S' ho ls H locs hl hP hS
  match o, hr, ho with
  | some (.inr (.inl v), S1), hr, ho =>
    obtain ⟨a, hrun⟩ := hr _ _ rfl ls H locs hl hP hS
    exact j_after C hl hS hrun (fun ov h1 H1 locs1 hP1 hS1 => by cases h1; exact kk v S1 r S' ho ls H1 locs1 hl hP1 hS1) (fun j h => by cases h)
  | some (.inr (.inr (.inr (.inr j))), S1), hr, ho =>
    obtain ⟨a, hrun⟩ := hr _ _ rfl ls H locs hl hP hS
    cases ho
    exact j_after C hl hS hrun (fun ov h1 => by cases h1) (fun j h => by cases h; exact ⟨rfl, hf⟩)
theorem j_callL (C : JC E V cc L ret) {mc ms : Nat} {st0 rest : List Value} {K : Int64 → St → Oz} (hr : Rn E V k n mc ms pc loc st0 rest S o) (hf : k + mc ≤ V.2.2.2.2.1 ∧ n + ms ≤ V.2.2.2.2.2.1) (kk : ∀ v S1, J E V (k + mc) (n + ms) (pc + 3) loc (.long v :: rest) S1 (K v S1)) : J E V k n pc loc st0 S (obL o K) := by
  intro r S' ho ls H locs hl hP hS
  match o, hr, ho with
  | some (.inr (.inr (.inl v)), S1), hr, ho =>
    obtain ⟨a, hrun⟩ := hr _ _ rfl ls H locs hl hP hS
    exact j_after C hl hS hrun (fun ov h1 H1 locs1 hP1 hS1 => by cases h1; exact kk v S1 r S' ho ls H1 locs1 hl hP1 hS1) (fun j h => by cases h)
  | some (.inr (.inr (.inr (.inr j))), S1), hr, ho =>
    obtain ⟨a, hrun⟩ := hr _ _ rfl ls H locs hl hP hS
    cases ho
    exact j_after C hl hS hrun (fun ov h1 => by cases h1) (fun j h => by cases h; exact ⟨rfl, hf⟩)
theorem j_callv (C : JC E V cc L ret) {mc ms : Nat} {st0 rest : List Value} {K : St → Oz} (hr : Rn E V k n mc ms pc loc st0 rest S o) (hf : k + mc ≤ V.2.2.2.2.1 ∧ n + ms ≤ V.2.2.2.2.2.1) (kk : ∀ S1, J E V (k + mc) (n + ms) (pc + 3) loc rest S1 (K S1)) : J E V k n pc loc st0 S (obV o K) := by
  intro r S' ho ls H locs hl hP hS
  match o, hr, ho with
  | some (.inl (), S1), hr, ho =>
    obtain ⟨a, hrun⟩ := hr _ _ rfl ls H locs hl hP hS
    exact j_after C hl hS hrun (fun ov h1 H1 locs1 hP1 hS1 => by cases h1; exact kk S1 r S' ho ls H1 locs1 hl hP1 hS1) (fun j h => by cases h)
  | some (.inr (.inr (.inr (.inr j))), S1), hr, ho =>
    obtain ⟨a, hrun⟩ := hr _ _ rfl ls H locs hl hP hS
    cases ho
    exact j_after C hl hS hrun (fun ov h1 => by cases h1) (fun j h => by cases h; exact ⟨rfl, hf⟩)
theorem j_callR {j : Nat} (C : JC E V cc L ret) {mc ms : Nat} {st0 rest : List Value} {K : St → Oz} (hr : Rn E V k n mc ms pc loc st0 rest S o) (hf : k + mc ≤ V.2.2.2.2.1 ∧ n + ms ≤ V.2.2.2.2.2.1) (kk : ∀ S1, J E V (k + mc) (n + ms) (pc + 3) loc (.ref (gA V.1 j) :: rest) S1 (K S1)) : J E V k n pc loc st0 S (obR j o K) := by
  intro r S' ho ls H locs hl hP hS
  match o, hr, ho with
  | some (.inr (.inr (.inr (.inl v))), S1), hr, ho =>
    obtain ⟨a, hrun⟩ := hr _ _ rfl ls H locs hl hP hS
    by_cases hv : v = j
    · subst hv
      have ho : K S1 = some (r, S') := by rw [← ho]; simp [obR]
      exact j_after C hl hS hrun (fun ov h1 H1 locs1 hP1 hS1 => by cases h1; exact kk S1 r S' ho ls H1 locs1 hl hP1 hS1) (fun j h => by cases h)
    · simp [obR, hv] at ho
  | some (.inr (.inr (.inr (.inr j))), S1), hr, ho =>
    obtain ⟨a, hrun⟩ := hr _ _ rfl ls H locs hl hP hS
    cases ho
    exact j_after C hl hS hrun (fun ov h1 => by cases h1) (fun j h => by cases h; exact ⟨rfl, hf⟩)
/-- a method's contract out of its walk -/
theorem ct_of {l : Launch} {y : MethodName} {maxL mc ms N : Nat} {own : String} {G : Gc} {w : Gc → St → va_W} {as : List Value} (hfl : l.stackTraces = false) (hy : plainName y.cls = true) (hown : y.cls = own) (hWk : Wok G w N) (hlen : (lg_sl as).length ≤ maxL)
    (body : ∀ E : Ec, E.2.1 = l → JC E (G, w, N, maxL, mc, ms, own) cc L ret → J E (G, w, N, maxL, mc, ms, own) 0 0 0 (lv_args 0 as) [] S o) : Ct l y (Cond.code y cc maxL ret :: tblG) L mc ms G w N as S o := by
  intro r S' ho sz
  refine vx_ofW (cc := cc) (maxL := maxL) (ret := ret) hy rfl ?_
  intro p e s m args below meth c s₁ B hml htb hv
  obtain ⟨rfl, hsz, hP, hK, hX⟩ := hv
  subst hsz
  have hts := atoms_spec (ws := Cond.code y cc maxL ret :: tblG) B.pre
  have hl := lv_entry as (n := maxL) hlen
  rw [lg_entry_eq]
  exact body (p, l, e, (headSpec (Cond.code y cc maxL ret :: tblG) (rmL L mc ms)).room, s, m, as.toArray, below, meth, c) rfl
    ⟨B.exec, B.bytes, hml, by rw [← hown]; exact findClass_of_methodNamed B.named, fun q hq => hts q (List.mem_cons_of_mem _ hq), hK, hWk, hX, B.notSynchronized, htb, rfl, hfl, B.returns⟩ r S' ho _ _ _ hl hP va_S.rf
end JN
