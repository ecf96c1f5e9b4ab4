/-! rows of J: a throw, string constants -/
section JT
variable {E : Ec} {V : Vc} {cc : ByteArray} {L : Nat} {ret : Option FieldType} {k n pc : Nat} {loc : List (Nat × Value)} {st : List Value} {S : St} {o : Oz}
theorem vaP_grow {D : va_G} {ws : va_W} {H H1 : Heap} (h : va_P D vwCl ws H) (hq : ∀ q : Nat, q < H.size → H1[q]? = H[q]?) : va_P D vwCl ws H1 := fun i q hi => (h i q hi).kept (hq _ (h i q hi).lt)
def xNames : List String := ["java/lang/RuntimeException", "java/lang/Exception"]
theorem xNames_fit : ∀ m ∈ xNames, Bundle.fit m = true := by decide +kernel
theorem castable_self {args : Array Value} {s : State} {X : String} (h : (Cond.initialized X).before args s = true) : (Cond.castable X X).before args s = true := by
  simp only [Cond.before, Cond.holds, Cond.value] at h ⊢
  cases hc : s.vm.findClass X with
  | none => simp [hc] at h
  | some c => simp [va_asg]
theorem j_throwSW {ik is ic kx si : Nat} {q : String × Nat × String × List Int32} (C : JC E V cc L ret) (hfit : Bundle.fit (xN kx) = true) (hk : Cond.classLink V.2.2.2.2.2.2 ik (xN kx) ∈ tblG) (hini : Cond.initialized (xN kx) ∈ tblG) (hs : skT[si]? = some q) (hs1 : q.1 = V.2.2.2.2.2.2) (hs2 : q.2.1 = is)
    (hat : ∀ m ∈ (vx_atS V.2.2.2.2.2.2 ic (xN kx) xNames).filter goodWord, m ∈ tblG) (hat2 : ∀ m ∈ (vx_atS V.2.2.2.2.2.2 ic (xN kx) xNames).filter (fun w => !goodWord w), m ∈ Cond.castable (xN kx) (xN kx) :: xDecl.map Cond.declares)
    (d0 : decode cc pc = .ok (.new ik, 3)) (d3 : decode cc (pc + 3) = .ok (.dup, 1)) (d4 : decode cc (pc + 4) = .ok (.ldc_w is, 3)) (d7 : decode cc (pc + 7) = .ok (.invokespecial ic, 3)) (d10 : decode cc (pc + 10) = .ok (.athrow, 1))
    (hL : 6 ≤ L) (hloc : (st.map fun v => v.category).sum ≤ 8) (h1 : k + 1 ≤ V.2.2.2.2.1) (h2 : n + 6 ≤ V.2.2.2.2.2.1) : J E V k n pc loc st S (some (rX kx, S)) := by
  intro r S' ho ls H locs hl hP hS
  cases ho
  have hg : ∀ m ∈ tblG, vx_ot m = true := fun m hm => by simp only [vx_ot, Bool.or_eq_true]; exact Or.inr (List.mem_filter.mp hm).2
  have hstr := (C.ex.1 si q hs).1
  rw [hs1, hs2] at hstr
  exact vx_throwSW (names := xNames) (A := vA E V) C.1 C.2.1 C.flags C.2.2.2.1 hfit xNames_fit (C.2.2.2.2.1 _ hk) (C.2.2.2.2.1 _ hini) hstr (vx_hat (fun m hm => C.2.2.2.2.1 _ (hat m hm)) hat2 (vx_c (castable_self (C.2.2.2.2.1 _ hini)) (fun m hm => by obtain ⟨y, hy, rfl⟩ := List.mem_map.mp hm; exact va_Nw.use rfl (C.ex.2.2.2.2.2 y hy))))
    (fun m hm => by
      rcases List.mem_cons.mp hm with e | hm
      · rw [e]; exact hg _ hk
      · rcases List.mem_cons.mp hm with e | hm
        · rw [e]; exact hg _ hini
        · by_cases g : goodWord m = true
          · exact hg _ (hat m (List.mem_filter.mpr ⟨hm, g⟩))
          · have h9 := hat2 m (List.mem_filter.mpr ⟨hm, by simpa using g⟩)
            rcases List.mem_cons.mp h9 with e | h9
            · rw [e]; rfl
            · obtain ⟨y, hy, rfl⟩ := List.mem_map.mp h9
              rfl)
    C.ex.2.2.2.1 C.ex.2.2.2.2.1 hS (hl.1.trans C.2.2.1.symm) d0 d3 d4 d7 d10 (fun x hx => (C.noTable x hx).elim)
    (by rw [C.room]; show 2 + 3 < L; omega) (by rw [C.room]; show _ + (13 * (2 + 1) + 43) ≤ 40 * L; omega) (by rw [C.room]; exact h1) (by rw [C.room]; exact h2) C.locks
    (fun t _ hz hq => ⟨kx, rfl, rfl, vaP_grow hP hq, Nat.le_trans hS.1 hz, fun a ha hA => by rw [hq a (Nat.lt_of_lt_of_le ha hS.1)]; exact hS.2.1 a ha hA⟩) hS.2.2 h1 h2
theorem hat_IAE : ∀ w ∈ (vx_atS "PaidByHeart" 384 "java/lang/IllegalArgumentException" xNames).filter goodWord, w ∈ tblG := by decide +kernel
theorem hat_IAE2 : ∀ w ∈ (vx_atS "PaidByHeart" 384 "java/lang/IllegalArgumentException" xNames).filter (fun w => !goodWord w), w ∈ Cond.castable "java/lang/IllegalArgumentException" "java/lang/IllegalArgumentException" :: xDecl.map Cond.declares := by decide +kernel
theorem hat_NSE : True := trivial
theorem hat_NSE2 : True := trivial
theorem j_throwN {ik is ic kx si : Nat} {q : String × Nat × String × List Int32} (C : JC E V cc L ret) (hfit : Bundle.fit (xN kx) = true) (hk : Cond.classLink V.2.2.2.2.2.2 ik (xN kx) ∈ tblG) (hini : Cond.initialized (xN kx) ∈ tblG) (hs : skT[si]? = some q) (hs1 : q.1 = V.2.2.2.2.2.2) (hs2 : q.2.1 = is) (h8 h9 : True)
    (d0 : decode cc pc = .ok (.new ik, 3)) (d3 : decode cc (pc + 3) = .ok (.dup, 1)) (d4 : decode cc (pc + 4) = .ok (.ldc_w is, 3)) (d7 : decode cc (pc + 7) = .ok (.invokespecial ic, 3)) (d10 : decode cc (pc + 10) = .ok (.athrow, 1))
    (hL : 6 ≤ L) (hloc : (st.map fun v => v.category).sum ≤ 8) (h1 : k + 1 ≤ V.2.2.2.2.1) (h2 : n + 6 ≤ V.2.2.2.2.2.1) : J E V k n pc loc st S (some (rX kx, S)) := sorry
end JT
