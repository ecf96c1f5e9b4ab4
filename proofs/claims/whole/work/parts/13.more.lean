/-! rows of J: calls that make nothing, switches, strings -/
def FU : Nat := 2000
def skBs (si : Nat) : List Int32 := (skT.getD si ("", 0, "", [])).2.2.2
def skN (si : Nat) : Nat := (skBs si).length
def skB (si : Nat) (i : Int32) : Int32 := (skBs si).getD i.toNatClampNeg 0
abbrev gK (G : Gc) (si : Nat) : Nat := G.2.2.2.2.1 si
section JM
variable {E : Ec} {V : Vc} {cc : ByteArray} {L : Nat} {ret : Option FieldType} {k n pc : Nat} {loc : List (Nat × Value)} {st : List Value} {S : St} {o : Oz}
theorem j_callI0 (C : JC E V cc L ret) {st0 rest : List Value} {K : Int32 → St → Oz} (hr : Rn E V k n 0 0 pc loc st0 rest S o) (hf : k + 0 ≤ V.2.2.2.2.1 ∧ n + 0 ≤ V.2.2.2.2.2.1) (kk : ∀ v S1, J E V k n (pc + 3) loc (.int v :: rest) S1 (K v S1)) : J E V k n pc loc st0 S (obI o K) := j_callI C hr hf kk
theorem j_callL0 (C : JC E V cc L ret) {st0 rest : List Value} {K : Int64 → St → Oz} (hr : Rn E V k n 0 0 pc loc st0 rest S o) (hf : k + 0 ≤ V.2.2.2.2.1 ∧ n + 0 ≤ V.2.2.2.2.2.1) (kk : ∀ v S1, J E V k n (pc + 3) loc (.long v :: rest) S1 (K v S1)) : J E V k n pc loc st0 S (obL o K) := j_callL C hr hf kk
theorem j_callv0 (C : JC E V cc L ret) {st0 rest : List Value} {K : St → Oz} (hr : Rn E V k n 0 0 pc loc st0 rest S o) (hf : k + 0 ≤ V.2.2.2.2.1 ∧ n + 0 ≤ V.2.2.2.2.2.1) (kk : ∀ S1, J E V k n (pc + 3) loc rest S1 (K S1)) : J E V k n pc loc st0 S (obV o K) := j_callv C hr hf kk
theorem j_callR0 {j : Nat} (C : JC E V cc L ret) {st0 rest : List Value} {K : St → Oz} (hr : Rn E V k n 0 0 pc loc st0 rest S o) (hf : k + 0 ≤ V.2.2.2.2.1 ∧ n + 0 ≤ V.2.2.2.2.2.1) (kk : ∀ S1, J E V k n (pc + 3) loc (.ref (gA V.1 j) :: rest) S1 (K S1)) : J E V k n pc loc st0 S (obR j o K) := j_callR C hr hf kk
theorem j_eq {o1 : Oz} (h : o = o1) (kk : J E V k n pc loc st S o1) : J E V k n pc loc st S o := h ▸ kk
theorem ne_i {x v : Int32} {z : Int} (h : ¬ x = v) (hv : v.toInt = z) : x.toInt ≠ z := fun e => h (Int32.toInt_inj.mp (e.trans hv.symm))
theorem j_tswC {x : Int32} {dflt lo hi off : Int} {offs : Array Int} {len : Nat} {oA oB : Oz} (tgt : Nat) (v : Int32) (C : JC E V cc L ret) (hd : decode cc pc = .ok (.tableswitch dflt lo hi offs, len)) (h1 : ¬ v.toInt < lo) (h2 : ¬ hi < v.toInt) (h3 : offs[(v.toInt - lo).toNat]? = some off) (ht : (pc : Int) + off = (tgt : Int)) (kA : J E V k n tgt loc st S oA) (kB : ¬ x = v → J E V k n pc loc (.int x :: st) S oB) : J E V k n pc loc (.int x :: st) S (if x = v then oA else oB) := by
  intro r S' ho ls H locs hl hP hS
  by_cases e : x = v
  · rw [if_pos e] at ho
    subst e
    exact lv_tableIn C.1 C.2.1 hd h1 h2 h3 ht (kA r S' ho ls H locs hl hP hS)
  · rw [if_neg e] at ho
    exact kB e r S' ho ls H locs hl hP hS
theorem j_tswD {x : Int32} {dflt lo hi : Int} {offs : Array Int} {len : Nat} (tgt : Nat) (C : JC E V cc L ret) (hd : decode cc pc = .ok (.tableswitch dflt lo hi offs, len)) (h : x.toInt < lo ∨ hi < x.toInt) (ht : (pc : Int) + dflt = (tgt : Int)) (kA : J E V k n tgt loc st S o) : J E V k n pc loc (.int x :: st) S o := fun r S' ho ls H locs hl hP hS =>
  lv_tableOut C.1 C.2.1 hd h ht (kA r S' ho ls H locs hl hP hS)
theorem j_lswC {x : Int32} {dflt off : Int} {ps : Array (Int × Int)} {len : Nat} {oA oB : Oz} (tgt : Nat) (v : Int32) (C : JC E V cc L ret) (hd : decode cc pc = .ok (.lookupswitch dflt ps, len)) (hp : (ps.toList.zip (ps.toList.drop 1)).all (fun (a, next) => a.1 < next.1) = true) (h3 : Op.lookupswitch.offset ps.toList dflt v.toInt = off) (ht : (pc : Int) + off = (tgt : Int)) (kA : J E V k n tgt loc st S oA) (kB : ¬ x = v → J E V k n pc loc (.int x :: st) S oB) : J E V k n pc loc (.int x :: st) S (if x = v then oA else oB) := by
  intro r S' ho ls H locs hl hP hS
  by_cases e : x = v
  · rw [if_pos e] at ho
    subst e
    exact lv_lookup C.1 C.2.1 hd hp h3 ht (kA r S' ho ls H locs hl hP hS)
  · rw [if_neg e] at ho
    exact kB e r S' ho ls H locs hl hP hS
theorem j_lswD {x : Int32} {dflt : Int} {ps : Array (Int × Int)} {len : Nat} (tgt : Nat) (C : JC E V cc L ret) (hd : decode cc pc = .ok (.lookupswitch dflt ps, len)) (hp : (ps.toList.zip (ps.toList.drop 1)).all (fun (a, next) => a.1 < next.1) = true) (h : Op.lookupswitch.offset ps.toList dflt x.toInt = dflt) (ht : (pc : Int) + dflt = (tgt : Int)) (kA : J E V k n tgt loc st S o) : J E V k n pc loc (.int x :: st) S o := fun r S' ho ls H locs hl hP hS =>
  lv_lookup C.1 C.2.1 hd hp h ht (kA r S' ho ls H locs hl hP hS)
end JM
