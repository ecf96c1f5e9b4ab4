/-! a work's reader: a step (written by wip/whole/pure/p94.py) -/
section PVO
variable {V : Vy} {L : Lw} {S T U SC SR SC1 SR1 : St} {t : Nat → Nat} {n i j p q k s d b dd i0 : Nat} {W : List (Nat × Nat × Nat)} {f u : Oz} {rcC : Int32 → St → Oz} {rcR : St → Oz}
theorem aft_gd (f : Oz) (h : (∃ T, f = some (rI 1, T)) ∨ (∃ T, f = some (rI 0, T)) ∨ f = none ∨ ∃ k T, f = some (rX k, T)) : (obI f fun r T => gd (isB r) (some (rI r, T))) = f := by
  rcases h with ⟨T, e⟩ | ⟨T, e⟩ | e | ⟨k, T, e⟩ <;> rw [e]
  · rw [ev_I, gdT (by decide)]
  · rw [ev_I, gdT (by decide)]
  · rfl
  · rfl
theorem stI_len {e : Nat} (h : stI t s e ≠ -1) : s + 3 ≤ e := by
  unfold stI at h
  have key : ∀ si, 3 ≤ skN si → wq si t s e = true → s + 3 ≤ e := fun si h3 hw => by
    have := (of_decide_eq_true hw).1
    omega
  by_cases h1 : wq 15 t s e = true
  · exact key 15 (by decide) h1
  · rw [if_neg h1] at h
    by_cases h2 : wq 16 t s e = true
    · exact key 16 (by decide) h2
    · rw [if_neg h2] at h
      by_cases h3 : wq 17 t s e = true
      · exact key 17 (by decide) h3
      · rw [if_neg h3] at h
        by_cases h4 : wq 18 t s e = true
        · exact key 18 (by decide) h4
        · rw [if_neg h4] at h
          by_cases h5 : wq 19 t s e = true
          · exact key 19 (by decide) h5
          · rw [if_neg h5] at h
            by_cases h6 : wq 20 t s e = true
            · exact key 20 (by decide) h6
            · rw [if_neg h6] at h
              exact absurd rfl h
end PVO
