/-! J: a walk over one world of fixed cells, against a pure answer -/
section JK
abbrev St : Type := (Nat → Int32) × (Nat → Nat → Int32) × (Nat → Nat → Int64)
abbrev Rz : Type := Unit ⊕ Int32 ⊕ Int64 ⊕ Nat ⊕ Nat
abbrev rV : Rz := .inl ()
abbrev rI (v : Int32) : Rz := .inr (.inl v)
abbrev rL (v : Int64) : Rz := .inr (.inr (.inl v))
abbrev rR (k : Nat) : Rz := .inr (.inr (.inr (.inl k)))
abbrev rX (k : Nat) : Rz := .inr (.inr (.inr (.inr k)))
abbrev Oz : Type := Option (Rz × St)
def gd (b : Bool) (o : Oz) : Oz := match b with
  | true => o
  | false => none
def ib (i : Int32) (n : Nat) : Bool := decide (0 ≤ i.toInt) && decide (i.toInt < (n : Int))
def nz (i : Int32) : Bool := !decide (i = 0)
def nzL (i : Int64) : Bool := !decide (i = 0)
def sF (S : St) (k : Nat) (v : Int32) : St := (upd S.1 k v, S.2)
def upA (F : Nat → Nat → Int32) (a : Nat) (f : Nat → Int32) : Nat → Nat → Int32 := fun b => if b = a then f else F b
def upB (F : Nat → Nat → Int64) (a : Nat) (f : Nat → Int64) : Nat → Nat → Int64 := fun b => if b = a then f else F b
def sA (S : St) (a : Nat) (i : Int32) (v : Int32) : St := (S.1, upA S.2.1 a (upd (S.2.1 a) i.toNatClampNeg v), S.2.2)
def sB (S : St) (a : Nat) (i : Int32) (v : Int64) : St := (S.1, S.2.1, upB S.2.2 a (vp_updL (S.2.2 a) i.toNatClampNeg v))
def sC (S : St) (a b : Nat) (sp dp n : Int32) : St := (S.1, upA S.2.1 b (va_cpy (S.2.1 a) (S.2.1 b) sp.toNatClampNeg dp.toNatClampNeg n.toNatClampNeg), S.2.2)
def rA (S : St) (a : Nat) (i : Int32) : Int32 := S.2.1 a i.toNatClampNeg
def rB (S : St) (a : Nat) (i : Int32) : Int64 := S.2.2 a i.toNatClampNeg
def obI (o : Oz) (K : Int32 → St → Oz) : Oz := match o with
  | some (.inr (.inl v), S) => K v S
  | some (.inr (.inr (.inr (.inr k))), S) => some (rX k, S)
  | _ => none
def obL (o : Oz) (K : Int64 → St → Oz) : Oz := match o with
  | some (.inr (.inr (.inl v)), S) => K v S
  | some (.inr (.inr (.inr (.inr k))), S) => some (rX k, S)
  | _ => none
def obV (o : Oz) (K : St → Oz) : Oz := match o with
  | some (.inl (), S) => K S
  | some (.inr (.inr (.inr (.inr k))), S) => some (rX k, S)
  | _ => none
def obR (j : Nat) (o : Oz) (K : St → Oz) : Oz := match o with
  | some (.inr (.inr (.inr (.inl v))), S) => if v = j then K S else none
  | some (.inr (.inr (.inr (.inr k))), S) => some (rX k, S)
  | _ => none
def tblG : List Cond := lw_tbl.filter goodWord
abbrev Gc : Type := va_G × ClassId × ClassId × (Nat → Nat) × (Nat → Nat) × (Nat → Nat)
abbrev gA (G : Gc) (k : Nat) : Nat := G.2.2.2.1 k
abbrev tysG (G : Gc) : List (ClassId × FieldType) := [(G.2.1, .int), (G.2.2.1, .long)]
def AW (G : Gc) (N sz : Nat) : Nat → Prop := fun q => (∃ k : Nat, k < N ∧ q = gA G k) ∨ sz ≤ q
/-- the string constants: where each stands in a class's pool, its text as bytes -/
def exS (G : Gc) (A : Nat → Prop) (U : State) (H : Heap) : Prop := ∀ (i : Nat) (q : String × Nat × String × List Int32), skT[i]? = some q →
  vk_R q.1 q.2.1 q.2.2.1 (G.2.2.2.2.1 i) U ∧ va_O "java/lang/String" (G.2.2.2.2.1 i) A U H ∧ va_OF "java/lang/String" "coder" "B" (.int 0) (G.2.2.2.2.1 i) A U H ∧ va_OF "java/lang/String" "value" "[B" (.ref (G.2.2.2.2.2 i)) (G.2.2.2.2.1 i) A U H ∧ va_T .byte (G.2.2.2.2.2 i) q.2.2.2.length (fun j => .int (q.2.2.2.getD j 0)) A U H
def xDecl : List MethodName := [Bundle.initS "java/lang/RuntimeException", Bundle.initS "java/lang/Exception", Bundle.initS Bundle.tN]
theorem nwd_moved {y : MethodName} {u U : State} (hvm : u.vm.Alike U.vm) (h : va_Nw (.declares y) u) : va_Nw (.declares y) U := by
  have e := Cond.onTables_vm (A := #[]) (A' := #[]) (U := u) (U' := U) U.vm (.declares y) rfl
  have hU : U.setVm U.vm = U := rfl
  rw [hU] at e
  show (Cond.declares y).before #[] U = true
  rw [← e, Cond.declares_setVm hvm]
  exact h
def ex (G : Gc) (A : Nat → Prop) (U : State) (H : Heap) : Prop := exS G A U H ∧ va_Z "java/lang/String" "COMPACT_STRINGS" "Z" (.int 1) A U H ∧ va_Zq "jdk/internal/util/Preconditions" "SIOOBE_FORMATTER" "Ljava/util/function/BiFunction;" A U H ∧ vx_Zq Bundle.tN "UNASSIGNED_STACK" Bundle.steD A U H ∧ vx_Zq Bundle.tN "SUPPRESSED_SENTINEL" Bundle.listD A U H ∧ (∀ y ∈ xDecl, va_Nw (.declares y) U) ∧ va_Nw (.methodLinkNest "PaidByHeart" 143 yX8_doSteps "PaidByHeart") U
theorem ex.warm {G : Gc} {A : Nat → Prop} {s U : State} {H : Heap} (hW : s.WarmedH U.vm) (h : ex G A s H) : ex G A U H :=
  ⟨fun i q hq => ⟨(h.1 i q hq).1.warm hW, (h.1 i q hq).2.1.moved hW.alike, (h.1 i q hq).2.2.1.moved hW.alike, (h.1 i q hq).2.2.2.1.moved hW.alike, (h.1 i q hq).2.2.2.2.moved hW.alike⟩, h.2.1.moved hW.alike, h.2.2.1.moved hW.alike, h.2.2.2.1.moved hW.alike, h.2.2.2.2.1.moved hW.alike, fun y hy => nwd_moved hW.alike (h.2.2.2.2.2.1 y hy), va_Nw.warmM hW h.2.2.2.2.2.2⟩
theorem ex.same {G : Gc} {A : Nat → Prop} {s U : State} {H : Heap} (hv : U.vm = s.vm) (h : ex G A s H) : ex G A U H :=
  have ha : s.vm.Alike U.vm := by rw [hv]; exact Vm.Alike.refl s.vm
  ⟨fun i q hq => ⟨(h.1 i q hq).1.same hv, (h.1 i q hq).2.1.moved ha, (h.1 i q hq).2.2.1.moved ha, (h.1 i q hq).2.2.2.1.moved ha, (h.1 i q hq).2.2.2.2.moved ha⟩, h.2.1.moved ha, h.2.2.1.moved ha, h.2.2.2.1.moved ha, h.2.2.2.2.1.moved ha, fun y hy => nwd_moved ha (h.2.2.2.2.2.1 y hy), va_Nw.same rfl hv.symm h.2.2.2.2.2.2⟩
theorem ex.kept {G : Gc} {A : Nat → Prop} {U : State} {H H1 : Heap} (h : ex G A U H) (hq : ∀ a : Nat, a < H.size → ¬ A a → H1[a]? = H[a]?) : ex G A U H1 :=
  ⟨fun i q hi => ⟨(h.1 i q hi).1, (h.1 i q hi).2.1.kept hq, (h.1 i q hi).2.2.1.kept hq, (h.1 i q hi).2.2.2.1.kept hq, (h.1 i q hi).2.2.2.2.kept hq⟩, h.2.1.kept hq, h.2.2.1.kept hq, h.2.2.2.1.kept hq, h.2.2.2.2.1.kept hq, h.2.2.2.2.2⟩
theorem ex.narrow {G : Gc} {A B : Nat → Prop} {U : State} {H : Heap} (h : ex G A U H) (hAB : ∀ q, B q → A q) : ex G B U H :=
  ⟨fun i q hi => ⟨(h.1 i q hi).1, (h.1 i q hi).2.1.narrow hAB, (h.1 i q hi).2.2.1.narrow hAB, (h.1 i q hi).2.2.2.1.narrow hAB, (h.1 i q hi).2.2.2.2.narrow hAB⟩, h.2.1.narrow hAB, h.2.2.1.narrow hAB, h.2.2.2.1.narrow hAB, h.2.2.2.2.1.narrow hAB, h.2.2.2.2.2⟩
/-- a world: N cells at fixed addresses, all apart -/
def Wok (G : Gc) (w : Gc → St → va_W) (N : Nat) : Prop := (∀ S, (w G S).map Prod.fst = (List.range N).map (gA G)) ∧ ∀ i j : Nat, i < N → j < N → gA G i = gA G j → i = j
theorem Wok.at {G : Gc} {w : Gc → St → va_W} {N : Nat} (h : Wok G w N) {S : St} {k : Nat} {q : Nat × va_E} (hk : (w G S)[k]? = some q) : k < N ∧ q.1 = gA G k := by
  have h1 := congrArg (fun l => l[k]?) (h.1 S)
  simp only [List.getElem?_map, hk, Option.map_some] at h1
  rcases Nat.lt_or_ge k N with hlt | hge
  · rw [List.getElem?_range hlt] at h1
    exact ⟨hlt, Option.some.inj h1⟩
  · rw [List.getElem?_eq_none (by simpa using hge)] at h1
    cases h1
theorem Wok.D {G : Gc} {w : Gc → St → va_W} {N sz : Nat} (h : Wok G w N) (S : St) : va_D (AW G N sz) (w G S) := by
  refine ⟨fun i j p q hi hj e => ?_, fun k q hk => Or.inl ⟨k, h.at hk⟩⟩
  obtain ⟨h1, h2⟩ := h.at hi
  obtain ⟨h3, h4⟩ := h.at hj
  exact h.2 i j h1 h3 (by rw [← h2, ← h4, e])
abbrev Ec : Type := Program × Launch × Env × Room × State × MethodId × Array Value × List Frame × Method × Code
/-- G, the world, how many cells, locals, bounds of cells and slots, the class -/
abbrev Vc : Type := Gc × (Gc → St → va_W) × Nat × Nat × Nat × Nat × String
abbrev eS (E : Ec) : State := E.2.2.2.2.1
abbrev vA (E : Ec) (V : Vc) : Nat → Prop := AW V.1 V.2.2.1 (eS E).heap.size
abbrev vW (V : Vc) : St → va_W := V.2.1 V.1
def xN (k : Nat) : String := match k with
  | 0 => "java/util/NoSuchElementException"
  | _ => "java/lang/IllegalArgumentException"
/-- a pure answer as the machine's -/
def enc (G : Gc) (r : Rz) : Option (Option Value) := match r with
  | .inl () => some none
  | .inr (.inl v) => some (some (.int v))
  | .inr (.inr (.inl v)) => some (some (.long v))
  | .inr (.inr (.inr (.inl k))) => some (some (.ref (gA G k)))
  | .inr (.inr (.inr (.inr _))) => none
def QcW (G : Gc) (w : Gc → St → va_W) (N : Nat) (r : Rz) (S' : St) (sz : Nat) : Array Value → State → Outcome → State → Prop := fun _ st oc t =>
  (∃ ov, enc G r = some ov ∧ oc = .returned ov ∧ va_P G.1 vwCl (w G S') t.heap) ∧ va_F (AW G N sz) st t
def XcW (G : Gc) (w : Gc → St → va_W) (N : Nat) (r : Rz) (S' : St) (sz : Nat) : String → State → State → Prop := fun E st t =>
  ∃ k : Nat, r = rX k ∧ E = xN k ∧ va_P G.1 vwCl (w G S') t.heap ∧ va_F (AW G N sz) st t
def PcW (G : Gc) (w : Gc → St → va_W) (N : Nat) (as : List Value) (S : St) (sz : Nat) : Array Value → State → Prop := fun v U =>
  v = as.toArray ∧ U.heap.size = sz ∧ va_P G.1 vwCl (w G S) U.heap ∧ va_K G.1 vwCl (tysG G) U ∧ ex G (AW G N sz) U U.heap
def rmL (L mc ms : Nat) : Room := { frames := L, cells := mc, slots := ms, locals := 40 * L }
/-- a method's contract: where the pure answer is there, the method gives it -/
def Ct (l : Launch) (y : MethodName) (ws : List Cond) (L mc ms : Nat) (G : Gc) (w : Gc → St → va_W) (N : Nat) (as : List Value) (S : St) (o : Oz) : Prop :=
  ∀ r S', o = some (r, S') → ∀ sz, vx_Met l y ws (rmL L mc ms) (PcW G w N as S sz) (QcW G w N r S' sz) (XcW G w N r S' sz) mc ms (AW G N sz)
def WE (E : Ec) (H : Heap) (locs : List Loc) (k n : Nat) (Q : State → Prop) (g : JFrame) : Prop :=
  W E.1 E.2.1 E.2.2.1 E.2.2.2.1 E.2.2.2.2.1 E.2.2.2.2.2.1 E.2.2.2.2.2.2.1 E.2.2.2.2.2.2.2.1 E.2.2.2.2.2.2.2.2.1 E.2.2.2.2.2.2.2.2.2 H locs k n Q g
def Zv (E : Ec) (V : Vc) (r : Rz) (S' : St) : State → Prop :=
  vx_MQ E.2.2.2.2.2.2.2.1 (QcW V.1 V.2.1 V.2.2.1 r S' (eS E).heap.size) (XcW V.1 V.2.1 V.2.2.1 r S' (eS E).heap.size) E.2.2.2.2.2.2.1 (eS E) V.2.2.2.2.1 V.2.2.2.2.2.1 (vA E V)
/-- what holds of a method's body all along -/
def JC (E : Ec) (V : Vc) (cc : ByteArray) (L : Nat) (ret : Option FieldType) : Prop :=
  E.1.tables.exec = Jvm.exec ∧ E.2.2.2.2.2.2.2.2.2.code = cc ∧ E.2.2.2.2.2.2.2.2.2.maxLocals = V.2.2.2.1 ∧ (eS E).vm.findClass V.2.2.2.2.2.2 = some E.2.2.2.2.2.1.cls ∧ (∀ q ∈ tblG, q.before E.2.2.2.2.2.2.1 (eS E) = true) ∧ va_K V.1.1 vwCl (tysG V.1) (eS E) ∧ Wok V.1 V.2.1 V.2.2.1 ∧ ex V.1 (vA E V) (eS E) (eS E).heap ∧ E.2.2.2.2.2.2.2.2.1.locks = false ∧ (∀ x ∈ E.2.2.2.2.2.2.2.2.2.exceptionTable.toList, False) ∧ E.2.2.2.1 = rmL L V.2.2.2.2.1 V.2.2.2.2.2.1 ∧ E.2.1.stackTraces = false ∧ E.2.2.2.2.2.2.2.2.1.sig.returnType = ret
def J (E : Ec) (V : Vc) (k n pc : Nat) (loc : List (Nat × Value)) (st : List Value) (S : St) (o : Oz) : Prop :=
  ∀ r S', o = some (r, S') → ∀ (ls : Array Slot) (H : Heap) (locs : List Loc), lv_has ls V.2.2.2.1 loc → va_P V.1.1 vwCl (vW V S) H → va_S (vA E V) (eS E).heap H locs → WE E H locs k n (Zv E V r S') (F0 E.2.2.2.2.2.1 pc ls st)
end JK
