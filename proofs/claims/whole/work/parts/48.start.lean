/-! the start: what the tables and the Statement give -/
theorem str_of {args : Array Value} {s : State} {tm : Term} {byt : List Int32} {A : Nat → Prop} (hN : byt.length < 2 ^ 31) (hex : (Cond.exactly tm "java/lang/String").before args s = true) (hco : (Cond.eq (.field tm "java/lang/String" "coder" "B") (.int 0)).before args s = true)
    (har : (Cond.arrayOf (.field tm "java/lang/String" "value" "[B") .byte).before args s = true) (hle : (Cond.eq (.length (.field tm "java/lang/String" "value" "[B")) (.int (Int32.ofNat byt.length))).before args s = true)
    (hel : ∀ j : Nat, j < byt.length → (Cond.eq (.elem (.field tm "java/lang/String" "value" "[B") (.int (Int32.ofNat j))) (.int (byt.getD j 0))).before args s = true) (hA : ∀ a : Nat, a < s.heap.size → ¬ A a) :
    ∃ q : Nat × Nat, tm.eval args s none [] s = some (.ref q.1) ∧ va_O "java/lang/String" q.1 A s s.heap ∧ va_OF "java/lang/String" "coder" "B" (.int 0) q.1 A s s.heap ∧ va_OF "java/lang/String" "value" "[B" (.ref q.2) q.1 A s s.heap ∧ va_T .byte q.2 byt.length (fun j => .int (byt.getD j 0)) A s s.heap := by
  obtain ⟨a, c, cA, kA, q1, q2, q3, q4, q5, q6, -⟩ := Cond.exactly_spec (args := args) (first := s) (o := none) (s := s) (idx := []) (t := tm) (cls := "java/lang/String") hex
  obtain ⟨t, ht, hT⟩ := va_Tof (f := fun j => .int (byt.getD j 0)) (A := A) hN har (va_eqt hle) (fun j hj => va_eqt (hel j hj)) hA
  exact ⟨(a, t), q1, ⟨cA, q3, q5, by rw [q6]; exact q2, hA a (Array.getElem?_eq_some_iff.mp q3).1⟩, vk_OFof q1 (va_eqt hco) hA, vk_OFof q1 ht hA, hT⟩
def skC (q : String × Nat × String × List Int32) : List Cond := [Cond.exactly (.string q.1 q.2.1) "java/lang/String", Cond.eq (.field (.string q.1 q.2.1) "java/lang/String" "coder" "B") (.int 0), Cond.arrayOf (.field (.string q.1 q.2.1) "java/lang/String" "value" "[B") .byte, Cond.eq (.length (.field (.string q.1 q.2.1) "java/lang/String" "value" "[B")) (.int (Int32.ofNat q.2.2.2.length))] ++ (List.range q.2.2.2.length).map (fun j => Cond.eq (.elem (.field (.string q.1 q.2.1) "java/lang/String" "value" "[B") (.int (Int32.ofNat j))) (.int (q.2.2.2.getD j 0)))
def flatN : List Cond := flatC (Jvm.Cond.and given_1 narrow_1)
theorem sk_in : (skT.all fun q => (skC q).all fun w => decide (w ∈ flatN)) = true := by decide +kernel
theorem sk_ref : (skT.all fun q => decide (Cond.stringRef q.1 q.2.1 q.2.2.1 ∈ lw_tbl)) = true := by decide +kernel
theorem sk_len : (skT.all fun q => decide (q.2.2.2.length < 2 ^ 31)) = true := by decide +kernel
theorem st_w0 : Cond.laysStatic "java/lang/String" "COMPACT_STRINGS" "Z" ∈ lw_tbl := by decide +kernel
theorem st_w1 : Cond.initialized "java/lang/String" ∈ lw_tbl := by decide +kernel
theorem st_w2 : Cond.eq (.static "java/lang/String" "COMPACT_STRINGS" "Z") (.int 1) ∈ flatN := by decide +kernel
theorem st_w3 : Cond.laysStatic "jdk/internal/util/Preconditions" "SIOOBE_FORMATTER" "Ljava/util/function/BiFunction;" ∈ lw_tbl := by decide +kernel
theorem st_w4 : Cond.initialized "jdk/internal/util/Preconditions" ∈ lw_tbl := by decide +kernel
theorem st_w5 : Cond.isRef (.static "jdk/internal/util/Preconditions" "SIOOBE_FORMATTER" "Ljava/util/function/BiFunction;") ∈ flatN := by decide +kernel
theorem st_w6 : Cond.laysStatic Bundle.tN "UNASSIGNED_STACK" Bundle.steD ∈ lw_tbl := by decide +kernel
theorem st_w7 : Cond.initialized Bundle.tN ∈ lw_tbl := by decide +kernel
theorem st_w8 : Cond.isRef (.static Bundle.tN "UNASSIGNED_STACK" Bundle.steD) ∈ flatN := by decide +kernel
theorem st_w9 : Cond.laysStatic Bundle.tN "SUPPRESSED_SENTINEL" Bundle.listD ∈ lw_tbl := by decide +kernel
theorem st_w10 : Cond.isRef (.static Bundle.tN "SUPPRESSED_SENTINEL" Bundle.listD) ∈ flatN := by decide +kernel
theorem st_w11 : (xDecl.all fun y => decide (Cond.declares y ∈ lw_tbl)) = true := by decide +kernel
theorem st_w12 : Cond.not (.castable "java/lang/IllegalArgumentException" "java/util/NoSuchElementException") ∈ flatN := by decide +kernel
theorem st_w13 : (nstL.all fun q => decide (Cond.methodLinkNest q.1 q.2.1 q.2.2.1 q.2.2.2 ∈ lw_tbl)) = true := by decide +kernel
theorem start_ex {args : Array Value} {s : State} {A : Nat → Prop} (hts : ∀ w ∈ lw_tbl, w.before args s = true) (hgv : (Jvm.Cond.and given_1 narrow_1).before args s = true) (hA : ∀ a : Nat, a < s.heap.size → ¬ A a) : ∃ ad : (Nat → Nat) × (Nat → Nat), ∀ (D : va_G) (cI cJ : ClassId) (f : Nat → Nat), ex (D, cI, cJ, f, ad) A s s.heap := by
  have hfl : ∀ w ∈ flatN, w.before args s = true := flat_of_before _ hgv
  have h0 : ∀ i : Nat, ∃ q : Nat × Nat, ∀ e, skT[i]? = some e → vk_R e.1 e.2.1 e.2.2.1 q.1 s ∧ va_O "java/lang/String" q.1 A s s.heap ∧ va_OF "java/lang/String" "coder" "B" (.int 0) q.1 A s s.heap ∧ va_OF "java/lang/String" "value" "[B" (.ref q.2) q.1 A s s.heap ∧ va_T .byte q.2 e.2.2.2.length (fun j => .int (e.2.2.2.getD j 0)) A s s.heap := by
    intro i
    cases hi : skT[i]? with
    | none => exact ⟨(0, 0), fun e h => by cases h⟩
    | some e =>
      have hm := List.mem_of_getElem? hi
      have hc : ∀ w ∈ skC e, w.before args s = true := fun w hw => hfl w (of_decide_eq_true (List.all_eq_true.mp (List.all_eq_true.mp sk_in e hm) w hw))
      obtain ⟨q, h1, h2, h3, h4, h5⟩ := str_of (tm := .string e.1 e.2.1) (byt := e.2.2.2) (A := A) (of_decide_eq_true (List.all_eq_true.mp sk_len e hm)) (hc _ (by simp [skC])) (hc _ (by simp [skC])) (hc _ (by simp [skC])) (hc _ (by simp [skC]))
        (fun j hj => hc _ (List.mem_append_right _ (List.mem_map.mpr ⟨j, List.mem_range.mpr hj, rfl⟩))) hA
      exact ⟨q, fun e2 h => by cases h; exact ⟨vk_R.of (hts _ (of_decide_eq_true (List.all_eq_true.mp sk_ref e hm))) h1, h2, h3, h4, h5⟩⟩
  obtain ⟨ad, had⟩ := Classical.axiomOfChoice h0
  refine ⟨(fun i => (ad i).1, fun i => (ad i).2), fun D cI cJ f => ⟨fun i q hq => had i q hq, va_Zof (hts _ st_w0) (hts _ st_w1) (va_eqt (hfl _ st_w2)) hA, va_Zqof (hts _ st_w3) (hts _ st_w4) (hfl _ st_w5) hA, vx_Zqof (hts _ st_w6) (hts _ st_w7) (hfl _ st_w8) hA, vx_Zqof (hts _ st_w9) (hts _ st_w7) (hfl _ st_w10) hA, fun y hy => va_Nw.of rfl (hts _ (of_decide_eq_true (List.all_eq_true.mp st_w11 y hy)))⟩⟩
theorem va_disj {A : Nat → Prop} {ws w1 w2 : va_W} (hD : va_D A ws) (is js : List Nat) (h1 : is.map (fun i => ws[i]?) = w1.map some) (h2 : js.map (fun i => ws[i]?) = w2.map some) (hd : ∀ i ∈ is, i ∉ js) : ∀ (i j : Nat) (p q : Nat × va_E), w1[i]? = some p → w2[j]? = some q → p.1 ≠ q.1 := by
  intro i j p q hp hq e
  have key : ∀ (ks : List Nat) (w : va_W), ks.map (fun i => ws[i]?) = w.map some → ∀ (i : Nat) (p : Nat × va_E), w[i]? = some p → ∃ k, k ∈ ks ∧ ws[k]? = some p := by
    intro ks w h i p hp
    have a1 : (ks.map (fun i => ws[i]?))[i]? = some (some p) := by rw [h, List.getElem?_map, hp]; rfl
    rw [List.getElem?_map] at a1
    cases hk : ks[i]? with
    | none => rw [hk] at a1; cases a1
    | some k => rw [hk] at a1; exact ⟨k, List.mem_of_getElem? hk, Option.some.inj a1⟩
  obtain ⟨i1, m1, e1⟩ := key is w1 h1 i p hp
  obtain ⟨j1, m2, e2⟩ := key js w2 h2 j q hq
  have := hD.1 i1 j1 p q e1 e2 e
  subst this
  exact hd _ m1 m2
theorem flags_ok {l : Launch} (h : l.flags = flags0) : l.stackTraces = false := by
  unfold Launch.stackTraces
  rw [h]
  decide +kernel
theorem arr_of {args : Array Value} {s : State} {ty : FieldType} (h : (Cond.arrayClass ty).before args s = true) : ∃ cA : ClassId, ArrOfT s cA ty ∧ s.vm.findClass ("[" ++ ty.toString) = some cA := by
  obtain ⟨cA, kA, comp, hfind, hk, hkind⟩ := Cond.arrayClass_spec h
  exact ⟨cA, fun n z => ⟨fun k h => (by cases h), kA, hk, comp, hkind⟩, hfind⟩
