/-! valley: a clause (written by wip/whole/pure/p76.py) -/
section PV6
variable {V : Vy} {S T U SC SR : St} {t : Nat → Nat} {n i j p q k c v : Nat} {f u : Oz}
def DC (V : Vy) (S : St) : Prop := S.1 14 = nI (y_P V) ∧ S.1 15 = nI (y_M V) ∧ S.1 16 = nI (y_D V) ∧ S.1 17 = nI (y_F V) ∧ (∀ p, p < y_P V → S.2.1 23 p = nI (y_l V p) ∧ S.2.1 24 p = nI (y_h V p)) ∧ (∀ a, a < y_M V → S.2.1 25 a = nI (y_m V a) ∧ S.2.1 26 a = nI (y_a V a)) ∧ (∀ d, d < y_D V → S.2.1 27 d = nI (y_dm V d) ∧ S.2.1 28 d = nI (y_dp V d) ∧ S.2.1 29 d = nI (y_dk V d) ∧ S.2.1 30 d = nI (y_dd V d)) ∧ VOK V
def DR (V : Vy) (S : St) : Prop := S.1 8 = nI (y_P V) ∧ S.1 9 = nI (y_M V) ∧ S.1 10 = nI (y_D V) ∧ S.1 11 = nI (y_F V) ∧ (∀ p, p < y_P V → S.2.1 3 (2 * p) = nI (y_l V p) ∧ S.2.1 3 (2 * p + 1) = nI (y_h V p)) ∧ (∀ a, a < y_M V → S.2.1 4 (2 * a) = nI (y_m V a) ∧ S.2.1 4 (2 * a + 1) = nI (y_a V a)) ∧ (∀ d, d < y_D V → S.2.1 5 (4 * d) = nI (y_dm V d) ∧ S.2.1 5 (4 * d + 1) = nI (y_dp V d) ∧ S.2.1 5 (4 * d + 2) = nI (y_dk V d) ∧ S.2.1 5 (4 * d + 3) = nI (y_dd V d))
theorem DC.fr {fs as : List Nat} (h : DC V S) (g : frm fs as S T) (h1 : 14 ∉ fs ∧ 15 ∉ fs ∧ 16 ∉ fs ∧ 17 ∉ fs) (h2 : 23 ∉ as ∧ 24 ∉ as ∧ 25 ∉ as ∧ 26 ∉ as ∧ 27 ∉ as ∧ 28 ∉ as ∧ 29 ∉ as ∧ 30 ∉ as) : DC V T := by
  unfold DC
  rw [g.1 14 h1.1, g.1 15 h1.2.1, g.1 16 h1.2.2.1, g.1 17 h1.2.2.2, g.2.1 23 h2.1, g.2.1 24 h2.2.1, g.2.1 25 h2.2.2.1, g.2.1 26 h2.2.2.2.1, g.2.1 27 h2.2.2.2.2.1, g.2.1 28 h2.2.2.2.2.2.1, g.2.1 29 h2.2.2.2.2.2.2.1, g.2.1 30 h2.2.2.2.2.2.2.2]
  exact h
theorem DR.fr {fs as : List Nat} (h : DR V S) (g : frm fs as S T) (h1 : 8 ∉ fs ∧ 9 ∉ fs ∧ 10 ∉ fs ∧ 11 ∉ fs) (h2 : 3 ∉ as ∧ 4 ∉ as ∧ 5 ∉ as) : DR V T := by
  unfold DR
  rw [g.1 8 h1.1, g.1 9 h1.2.1, g.1 10 h1.2.2.1, g.1 11 h1.2.2.2, g.2.1 3 h2.1, g.2.1 4 h2.2.1, g.2.1 5 h2.2.2]
  exact h
def vset (V : Vy) (k x v : Nat) : Vy := fun k' x' => if k' = k ∧ x' = x then v else V k' x'
theorem vset_s (V : Vy) (k x v : Nat) : vset V k x v k x = v := if_pos ⟨rfl, rfl⟩
theorem vset_k (V : Vy) {k x v k' x' : Nat} (h : k' ≠ k) : vset V k x v k' x' = V k' x' := if_neg (fun q => h q.1)
theorem vset_x (V : Vy) {k x v k' x' : Nat} (h : x' ≠ x) : vset V k x v k' x' = V k' x' := if_neg (fun q => h q.2)
/-- how a row read ends: alike, or with one fault -/
def Res (t : Nat → Nat) (n : Nat) (SC SR : St) (f u : Oz) (G : St → St → Prop) : Prop :=
  (∃ i T U, f = some (rI 1, T) ∧ u = some (rV, U) ∧ CT t n i T ∧ RT t n i U ∧ U.1 4 = -1 ∧ frm [6, 8, 9, 14, 15, 16, 17] [23, 24, 25, 26, 27, 28, 29, 30] SC T ∧ frm [3, 8, 9, 10, 11] [3, 4, 5] SR U ∧ G T U) ∨
  (∃ q k T U, f = some (rI 0, T) ∧ u = some (rV, U) ∧ q ≤ 600 ∧ T.1 5 = nI q ∧ T.1 4 = nI k ∧ U.1 4 = nI q ∧ U.1 5 = nI k ∧ frm [4, 5, 6, 8, 9, 14, 15, 16, 17] [23, 24, 25, 26, 27, 28, 29, 30] SC T ∧ frm [3, 4, 5, 8, 9, 10, 11] [3, 4, 5] SR U)
theorem cell_s {f : Nat → Int32} {k : Nat} {x : Int32} (hk : k < 2 ^ 31) : upd f (nI k).toNatClampNeg x k = x := by rw [nI_clamp hk, upd_s]
theorem cell_n {f : Nat → Int32} {k j : Nat} {x : Int32} (hk : k < 2 ^ 31) (h : j ≠ k) : upd f (nI k).toNatClampNeg x j = f j := by rw [nI_clamp hk, upd_n _ _ h]
theorem V_poem {v0 v1 : Nat} : (y_P (vset (vset (vset V 0 0 (y_P V + 1)) 1 (y_P V) v0) 2 (y_P V) v1) = y_P V + 1 ∧ y_M (vset (vset (vset V 0 0 (y_P V + 1)) 1 (y_P V) v0) 2 (y_P V) v1) = y_M V ∧ y_D (vset (vset (vset V 0 0 (y_P V + 1)) 1 (y_P V) v0) 2 (y_P V) v1) = y_D V ∧ y_F (vset (vset (vset V 0 0 (y_P V + 1)) 1 (y_P V) v0) 2 (y_P V) v1) = y_F V) ∧ (y_l (vset (vset (vset V 0 0 (y_P V + 1)) 1 (y_P V) v0) 2 (y_P V) v1) (y_P V) = v0 ∧ ∀ z, z ≠ y_P V → y_l (vset (vset (vset V 0 0 (y_P V + 1)) 1 (y_P V) v0) 2 (y_P V) v1) z = y_l V z) ∧ (y_h (vset (vset (vset V 0 0 (y_P V + 1)) 1 (y_P V) v0) 2 (y_P V) v1) (y_P V) = v1 ∧ ∀ z, z ≠ y_P V → y_h (vset (vset (vset V 0 0 (y_P V + 1)) 1 (y_P V) v0) 2 (y_P V) v1) z = y_h V z) ∧ (∀ z, y_m (vset (vset (vset V 0 0 (y_P V + 1)) 1 (y_P V) v0) 2 (y_P V) v1) z = y_m V z) ∧ (∀ z, y_a (vset (vset (vset V 0 0 (y_P V + 1)) 1 (y_P V) v0) 2 (y_P V) v1) z = y_a V z) ∧ (∀ z, y_dm (vset (vset (vset V 0 0 (y_P V + 1)) 1 (y_P V) v0) 2 (y_P V) v1) z = y_dm V z) ∧ (∀ z, y_dp (vset (vset (vset V 0 0 (y_P V + 1)) 1 (y_P V) v0) 2 (y_P V) v1) z = y_dp V z) ∧ (∀ z, y_dk (vset (vset (vset V 0 0 (y_P V + 1)) 1 (y_P V) v0) 2 (y_P V) v1) z = y_dk V z) ∧ (∀ z, y_dd (vset (vset (vset V 0 0 (y_P V + 1)) 1 (y_P V) v0) 2 (y_P V) v1) z = y_dd V z) := by
  refine ⟨⟨?_, ?_, ?_, ?_⟩, ⟨?_, fun z hz => ?_⟩, ⟨?_, fun z hz => ?_⟩, fun z => ?_, fun z => ?_, fun z => ?_, fun z => ?_, fun z => ?_, fun z => ?_⟩
  · rw [show y_P (vset (vset (vset V 0 0 (y_P V + 1)) 1 (y_P V) v0) 2 (y_P V) v1) = (vset (vset (vset V 0 0 (y_P V + 1)) 1 (y_P V) v0) 2 (y_P V) v1) 0 0 from rfl, vset_k _ (by decide), vset_k _ (by decide), vset_s]
  · unfold y_M
    rw [vset_k _ (by decide), vset_k _ (by decide), vset_x _ (by decide)]
  · unfold y_D
    rw [vset_k _ (by decide), vset_k _ (by decide), vset_x _ (by decide)]
  · unfold y_F
    rw [vset_k _ (by decide), vset_k _ (by decide), vset_x _ (by decide)]
  · rw [show y_l (vset (vset (vset V 0 0 (y_P V + 1)) 1 (y_P V) v0) 2 (y_P V) v1) (y_P V) = (vset (vset (vset V 0 0 (y_P V + 1)) 1 (y_P V) v0) 2 (y_P V) v1) 1 (y_P V) from rfl, vset_k _ (by decide), vset_s]
  · rw [show y_l (vset (vset (vset V 0 0 (y_P V + 1)) 1 (y_P V) v0) 2 (y_P V) v1) z = (vset (vset (vset V 0 0 (y_P V + 1)) 1 (y_P V) v0) 2 (y_P V) v1) 1 z from rfl, vset_k _ (by decide), vset_x _ hz, vset_k _ (by decide)]
    rfl
  · rw [show y_h (vset (vset (vset V 0 0 (y_P V + 1)) 1 (y_P V) v0) 2 (y_P V) v1) (y_P V) = (vset (vset (vset V 0 0 (y_P V + 1)) 1 (y_P V) v0) 2 (y_P V) v1) 2 (y_P V) from rfl, vset_s]
  · rw [show y_h (vset (vset (vset V 0 0 (y_P V + 1)) 1 (y_P V) v0) 2 (y_P V) v1) z = (vset (vset (vset V 0 0 (y_P V + 1)) 1 (y_P V) v0) 2 (y_P V) v1) 2 z from rfl, vset_x _ hz, vset_k _ (by decide), vset_k _ (by decide)]
    rfl
  · rw [show y_m (vset (vset (vset V 0 0 (y_P V + 1)) 1 (y_P V) v0) 2 (y_P V) v1) z = (vset (vset (vset V 0 0 (y_P V + 1)) 1 (y_P V) v0) 2 (y_P V) v1) 3 z from rfl, vset_k _ (by decide), vset_k _ (by decide), vset_k _ (by decide)]
    rfl
  · rw [show y_a (vset (vset (vset V 0 0 (y_P V + 1)) 1 (y_P V) v0) 2 (y_P V) v1) z = (vset (vset (vset V 0 0 (y_P V + 1)) 1 (y_P V) v0) 2 (y_P V) v1) 4 z from rfl, vset_k _ (by decide), vset_k _ (by decide), vset_k _ (by decide)]
    rfl
  · rw [show y_dm (vset (vset (vset V 0 0 (y_P V + 1)) 1 (y_P V) v0) 2 (y_P V) v1) z = (vset (vset (vset V 0 0 (y_P V + 1)) 1 (y_P V) v0) 2 (y_P V) v1) 5 z from rfl, vset_k _ (by decide), vset_k _ (by decide), vset_k _ (by decide)]
    rfl
  · rw [show y_dp (vset (vset (vset V 0 0 (y_P V + 1)) 1 (y_P V) v0) 2 (y_P V) v1) z = (vset (vset (vset V 0 0 (y_P V + 1)) 1 (y_P V) v0) 2 (y_P V) v1) 6 z from rfl, vset_k _ (by decide), vset_k _ (by decide), vset_k _ (by decide)]
    rfl
  · rw [show y_dk (vset (vset (vset V 0 0 (y_P V + 1)) 1 (y_P V) v0) 2 (y_P V) v1) z = (vset (vset (vset V 0 0 (y_P V + 1)) 1 (y_P V) v0) 2 (y_P V) v1) 7 z from rfl, vset_k _ (by decide), vset_k _ (by decide), vset_k _ (by decide)]
    rfl
  · rw [show y_dd (vset (vset (vset V 0 0 (y_P V + 1)) 1 (y_P V) v0) 2 (y_P V) v1) z = (vset (vset (vset V 0 0 (y_P V + 1)) 1 (y_P V) v0) 2 (y_P V) v1) 8 z from rfl, vset_k _ (by decide), vset_k _ (by decide), vset_k _ (by decide)]
    rfl
theorem DC_poem {v0 v1 : Nat} {x0 x1 : Int32} (dC : DC V SC) (hlt : y_P V < 8) (l0 : 1 ≤ v0) (m0 : v0 < 41) (l1 : 0 ≤ v1) (m1 : v1 < 10) : DC (vset (vset (vset V 0 0 (y_P V + 1)) 1 (y_P V) v0) 2 (y_P V) v1) (sF (sA (sF (sF (sA (sF (sF SC 8 x0) 6 (nI v0)) 23 (nI (y_P V)) (nI v0)) 8 x1) 6 (nI v1)) 24 (nI (y_P V)) (nI v1)) 14 (nI (y_P V + 1))) := by
  obtain ⟨⟨z1, z2, z3, z4⟩, ⟨q0s, q0n⟩, ⟨q1s, q1n⟩, q2, q3, q4, q5, q6, q7⟩ := V_poem (V := V) (v0 := v0) (v1 := v1)
  obtain ⟨c1, c2, c3, c4, c5, c6, c7, ok⟩ := dC
  generalize (vset (vset (vset V 0 0 (y_P V + 1)) 1 (y_P V) v0) 2 (y_P V) v1) = W at *
  have o1 := ok.1
  have o2 := ok.2.1
  have o3 := ok.2.2.1
  refine ⟨(by rw [z1]; rfl), (by rw [z2]; exact c2), (by rw [z3]; exact c3), (by rw [z4]; exact c4), ?_, ?_, ?_, ?_⟩
  · intro y hy
    rw [z1] at hy
    by_cases hne : y = y_P V
    · subst hne
      refine ⟨?_, ?_⟩
      · rw [q0s]
        exact cell_s (by omega)
      · rw [q1s]
        exact cell_s (by omega)
    · obtain ⟨k0, k1⟩ := c5 y (by omega)
      refine ⟨?_, ?_⟩
      · rw [q0n y hne]
        exact (cell_n (by omega) hne).trans k0
      · rw [q1n y hne]
        exact (cell_n (by omega) hne).trans k1
  · intro y hy
    rw [z2] at hy
    obtain ⟨k0, k1⟩ := c6 y hy
    rw [q2 y, q3 y]
    exact ⟨k0, k1⟩
  · intro y hy
    rw [z3] at hy
    obtain ⟨k0, k1, k2, k3⟩ := c7 y hy
    rw [q4 y, q5 y, q6 y, q7 y]
    exact ⟨k0, k1, k2, k3⟩
  · obtain ⟨_, _, _, o4, o5, o6, o7⟩ := ok
    refine ⟨by omega, by omega, by omega, by omega, ?_, ?_, ?_⟩
    · intro y hy
      rw [z1] at hy
      by_cases hne : y = y_P V
      · subst hne
        rw [q0s, q1s]
        omega
      · have := o5 y (by omega)
        rw [q0n y hne, q1n y hne]
        omega
    · intro y hy
      rw [z2] at hy
      have := o6 y hy
      rw [q2 y, q3 y]
      omega
    · intro y hy
      rw [z3] at hy
      have := o7 y hy
      rw [q4 y, q5 y, q6 y, q7 y, z1, z2]
      omega
theorem DR_poem {v0 v1 : Nat} {x0 x1 : Int32} (dR : DR V SR) (dC : DC V SC) (hlt : y_P V < 8) : DR (vset (vset (vset V 0 0 (y_P V + 1)) 1 (y_P V) v0) 2 (y_P V) v1) (sF (sA (sF (sA (sF SR 3 x0) 3 (nI (2 * (y_P V))) (nI v0)) 3 x1) 3 (nI (2 * (y_P V) + 1)) (nI v1)) 8 (nI (y_P V + 1))) := by
  obtain ⟨⟨z1, z2, z3, z4⟩, ⟨q0s, q0n⟩, ⟨q1s, q1n⟩, q2, q3, q4, q5, q6, q7⟩ := V_poem (V := V) (v0 := v0) (v1 := v1)
  obtain ⟨c1, c2, c3, c4, c5, c6, c7⟩ := dR
  have ok := dC.2.2.2.2.2.2.2
  generalize (vset (vset (vset V 0 0 (y_P V + 1)) 1 (y_P V) v0) 2 (y_P V) v1) = W at *
  have o1 := ok.1
  have o2 := ok.2.1
  have o3 := ok.2.2.1
  refine ⟨(by rw [z1]; rfl), (by rw [z2]; exact c2), (by rw [z3]; exact c3), (by rw [z4]; exact c4), ?_, ?_, ?_⟩
  · intro y hy
    rw [z1] at hy
    have hrow : ((sF (sA (sF (sA (sF SR 3 x0) 3 (nI (2 * (y_P V))) (nI v0)) 3 x1) 3 (nI (2 * (y_P V) + 1)) (nI v1)) 8 (nI (y_P V + 1)))).2.1 3 = (upd (upd (SR.2.1 3) (2 * (y_P V)) (nI v0)) (2 * (y_P V) + 1) (nI v1)) := by
      rw [tF_2]
      rw [tA_21, if_pos rfl, nI_clamp (by omega), tF_2]
      rw [tA_21, if_pos rfl, nI_clamp (by omega), tF_2]
    rw [hrow]
    by_cases hne : y = y_P V
    · subst hne
      refine ⟨?_, ?_⟩
      · rw [q0s, upd_n _ _ (by omega), upd_s]
      · rw [q1s, upd_s]
    · obtain ⟨k0, k1⟩ := c5 y (by omega)
      refine ⟨?_, ?_⟩
      · rw [q0n y hne, upd_n _ _ (by omega), upd_n _ _ (by omega)]
        exact k0
      · rw [q1n y hne, upd_n _ _ (by omega), upd_n _ _ (by omega)]
        exact k1
  · intro y hy
    rw [z2] at hy
    obtain ⟨k0, k1⟩ := c6 y hy
    rw [q2 y, q3 y]
    exact ⟨k0, k1⟩
  · intro y hy
    rw [z3] at hy
    obtain ⟨k0, k1, k2, k3⟩ := c7 y hy
    rw [q4 y, q5 y, q6 y, q7 y]
    exact ⟨k0, k1, k2, k3⟩
theorem rd_poem {x : Int32} (hC : CT t n i SC) (hR : RT t n i SR) (h4 : SR.1 4 = -1) (dC : DC V SC) (dR : DR V SR) (hlt : y_P V < 8)  (hx : x = nI (pk5 (skb 22) 0 (skN 22))) : Res t n SC SR (fC_Valley_readPoem_3 SC) (fR_readRow x SR) (fun T U => ∃ V2, DC V2 T ∧ DR V2 U) := by
  have ok := dC.2.2.2.2.2.2.2
  have o1 := ok.1
  have o2 := ok.2.1
  have o3 := ok.2.2.1
  have hn := hC.2.2.2.1
  have c0 := dC.1
  have r0 := dR.1
  have C0 := hC
  have R0 := hR
  have kc0 := c_num (lo := 1) C0 (HI.lit (h := 40) (by omega)) (by omega) (by omega)
  have kr0 := r_num (lo := 1) R0 (show SR.1 4 = -1 from h4) (HI.lit (h := 40) (by omega)) (by omega) (by omega)
  by_cases ok0 : nOK t n i 1 41
  · have e0 := kc0.1 ok0
    have f0 := kr0.1 ok0
    have C1 : CT t n (nE t n i) (sA (sF (sF SC 8 (nI (nE t n i))) 6 (nI (nV t n i))) 23 (nI (y_P V)) (nI (nV t n i))) := (C0.mv (nE_le C0.2.2.1)).fr (fs := [6]) (as := [23]) ((frm.rf.F (by simp)).A (by simp)) (by simp) (by simp) (by simp)
    have R1 : RT t n (nE t n i) (sA (sF SR 3 (nI (nE t n i))) 3 (nI (2 * (y_P V))) (nI (nV t n i))) := (R0.mv (nE_le R0.2.2.1)).fr (fs := []) (as := [3]) (frm.rf.A (by simp)) (by simp) (by simp) (by simp)
    have kc1 := c_num (lo := 0) C1 (HI.lit (h := 9) (by omega)) (by omega) (by omega)
    have kr1 := r_num (lo := 0) R1 (show (sA (sF SR 3 (nI (nE t n i))) 3 (nI (2 * (y_P V))) (nI (nV t n i))).1 4 = -1 from h4) (HI.lit (h := 9) (by omega)) (by omega) (by omega)
    by_cases ok1 : nOK t n (nE t n i) 0 10
    · have e1 := kc1.1 ok1
      have f1 := kr1.1 ok1
      have C2 : CT t n (nE t n (nE t n i)) (sA (sF (sF (sA (sF (sF SC 8 (nI (nE t n i))) 6 (nI (nV t n i))) 23 (nI (y_P V)) (nI (nV t n i))) 8 (nI (nE t n (nE t n i)))) 6 (nI (nV t n (nE t n i)))) 24 (nI (y_P V)) (nI (nV t n (nE t n i)))) := (C1.mv (nE_le C1.2.2.1)).fr (fs := [6]) (as := [24]) ((frm.rf.F (by simp)).A (by simp)) (by simp) (by simp) (by simp)
      have R2 : RT t n (nE t n (nE t n i)) (sA (sF (sA (sF SR 3 (nI (nE t n i))) 3 (nI (2 * (y_P V))) (nI (nV t n i))) 3 (nI (nE t n (nE t n i)))) 3 (nI (2 * (y_P V) + 1)) (nI (nV t n (nE t n i)))) := (R1.mv (nE_le R1.2.2.1)).fr (fs := []) (as := [3]) (frm.rf.A (by simp)) (by simp) (by simp) (by simp)
      refine Or.inl ⟨(nE t n (nE t n i)), (sF (sA (sF (sF (sA (sF (sF SC 8 (nI (nE t n i))) 6 (nI (nV t n i))) 23 (nI (y_P V)) (nI (nV t n i))) 8 (nI (nE t n (nE t n i)))) 6 (nI (nV t n (nE t n i)))) 24 (nI (y_P V)) (nI (nV t n (nE t n i)))) 14 (nI (y_P V + 1))), (sF (sA (sF (sA (sF SR 3 (nI (nE t n i))) 3 (nI (2 * (y_P V))) (nI (nV t n i))) 3 (nI (nE t n (nE t n i)))) 3 (nI (2 * (y_P V) + 1)) (nI (nV t n (nE t n i)))) 8 (nI (y_P V + 1))), ?_, ?_, C2.fr (fs := [14]) (as := []) (frm.rf.F (by simp)) (by simp) (by simp) (by simp), R2.fr (fs := [8]) (as := []) (frm.rf.F (by simp)) (by simp) (by simp) (by simp), h4, ?_, ?_, (vset (vset (vset V 0 0 (y_P V + 1)) 1 (y_P V) (nV t n i)) 2 (y_P V) (nV t n (nE t n i))), ?_, ?_⟩
      · rw [fC_Valley_readPoem_3, show fC_Tape_needsNumber 1 40 SC = fC_Tape_needsNumber (nI 1) (nI 40) SC from rfl, e0, ev_I, if_neg (show ¬ (1 : Int32) = 0 by decide), show ((sF (sF SC 8 (nI (nE t n i))) 6 (nI (nV t n i)))).1 14 = nI (y_P V) from c0, pz_gib (by omega) (by omega), show ((sF (sF SC 8 (nI (nE t n i))) 6 (nI (nV t n i)))).1 6 = nI (nV t n i) from rfl, ev_nx, show fC_Tape_needsNumber 0 9 (sA (sF (sF SC 8 (nI (nE t n i))) 6 (nI (nV t n i))) 23 (nI (y_P V)) (nI (nV t n i))) = fC_Tape_needsNumber (nI 0) (nI 9) (sA (sF (sF SC 8 (nI (nE t n i))) 6 (nI (nV t n i))) 23 (nI (y_P V)) (nI (nV t n i))) from rfl, e1, ev_I, if_neg (show ¬ (1 : Int32) = 0 by decide), show ((sF (sF (sA (sF (sF SC 8 (nI (nE t n i))) 6 (nI (nV t n i))) 23 (nI (y_P V)) (nI (nV t n i))) 8 (nI (nE t n (nE t n i)))) 6 (nI (nV t n (nE t n i))))).1 14 = nI (y_P V) from c0, pz_gib (by omega) (by omega), show ((sF (sF (sA (sF (sF SC 8 (nI (nE t n i))) 6 (nI (nV t n i))) 23 (nI (y_P V)) (nI (nV t n i))) 8 (nI (nE t n (nE t n i)))) 6 (nI (nV t n (nE t n i))))).1 6 = nI (nV t n (nE t n i)) from rfl, ev_nx, ev_nx, show (sA (sF (sF (sA (sF (sF SC 8 (nI (nE t n i))) 6 (nI (nV t n i))) 23 (nI (y_P V)) (nI (nV t n i))) 8 (nI (nE t n (nE t n i)))) 6 (nI (nV t n (nE t n i)))) 24 (nI (y_P V)) (nI (nV t n (nE t n i)))).1 14 = nI (y_P V) from c0, nI_1]
      · rw [fR_readRow, r_of (wk_all 22 (by decide)) (by decide), ev_I, if_pos hx, show fR_readNumber 1 40 SR = fR_readNumber (nI 1) (nI 40) SR from rfl, f0, ev_I, show SR.1 8 = nI (y_P V) from r0, show (2 : Int32) = nI 2 from rfl, pk_mul, pz_gib (by omega) (by omega), ev_nx, show fR_readNumber 0 9 (sA (sF SR 3 (nI (nE t n i))) 3 (nI (2 * (y_P V))) (nI (nV t n i))) = fR_readNumber (nI 0) (nI 9) (sA (sF SR 3 (nI (nE t n i))) 3 (nI (2 * (y_P V))) (nI (nV t n i))) from rfl, f1, ev_I, show (sA (sF SR 3 (nI (nE t n i))) 3 (nI (2 * (y_P V))) (nI (nV t n i))).1 8 = nI (y_P V) from r0, pk_mul, show (1 : Int32) = nI 1 from rfl, nI_add, pz_gib (by omega) (by omega), ev_nx, show (sA (sF (sA (sF SR 3 (nI (nE t n i))) 3 (nI (2 * (y_P V))) (nI (nV t n i))) 3 (nI (nE t n (nE t n i)))) 3 (nI (2 * (y_P V) + 1)) (nI (nV t n (nE t n i)))).1 8 = nI (y_P V) from r0, nI_add, ev_nx]
      · exact ((((((frm.rf.F (by simp)).F (by simp)).A (by simp)).F (by simp)).F (by simp)).A (by simp)).F (by simp)
      · exact ((((frm.rf.F (by simp)).A (by simp)).F (by simp)).A (by simp)).F (by simp)
      · exact DC_poem dC hlt ok0.2.1 ok0.2.2 ok1.2.1 ok1.2.2
      · exact DR_poem dR dC hlt
    · obtain ⟨T1, e1, t5, t4, gT⟩ := kc1.2 ok1
      obtain ⟨U1, f1, u4, u5, gU⟩ := kr1.2 ok1
      have hq : nS t n (nE t n i) ≤ n := nS_le C1.2.2.1
      have rU : U1.1 8 = nI (y_P V) := (gU.1 8 (by simp)).trans r0
      refine Or.inr ⟨nS t n (nE t n i), nK t n (nE t n i), T1, (sF (sA U1 3 (nI (2 * (y_P V) + 1)) 0) 8 (nI (y_P V + 1))), ?_, ?_, by omega, t5, t4, u4, u5, ?_, ?_⟩
      · rw [fC_Valley_readPoem_3, show fC_Tape_needsNumber 1 40 SC = fC_Tape_needsNumber (nI 1) (nI 40) SC from rfl, e0, ev_I, if_neg (show ¬ (1 : Int32) = 0 by decide), show ((sF (sF SC 8 (nI (nE t n i))) 6 (nI (nV t n i)))).1 14 = nI (y_P V) from c0, pz_gib (by omega) (by omega), show ((sF (sF SC 8 (nI (nE t n i))) 6 (nI (nV t n i)))).1 6 = nI (nV t n i) from rfl, ev_nx, show fC_Tape_needsNumber 0 9 (sA (sF (sF SC 8 (nI (nE t n i))) 6 (nI (nV t n i))) 23 (nI (y_P V)) (nI (nV t n i))) = fC_Tape_needsNumber (nI 0) (nI 9) (sA (sF (sF SC 8 (nI (nE t n i))) 6 (nI (nV t n i))) 23 (nI (y_P V)) (nI (nV t n i))) from rfl, e1, ev_I, if_pos rfl]
      · rw [fR_readRow, r_of (wk_all 22 (by decide)) (by decide), ev_I, if_pos hx, show fR_readNumber 1 40 SR = fR_readNumber (nI 1) (nI 40) SR from rfl, f0, ev_I, show SR.1 8 = nI (y_P V) from r0, show (2 : Int32) = nI 2 from rfl, pk_mul, pz_gib (by omega) (by omega), ev_nx, show fR_readNumber 0 9 (sA (sF SR 3 (nI (nE t n i))) 3 (nI (2 * (y_P V))) (nI (nV t n i))) = fR_readNumber (nI 0) (nI 9) (sA (sF SR 3 (nI (nE t n i))) 3 (nI (2 * (y_P V))) (nI (nV t n i))) from rfl, f1, ev_I, show (sA (sF SR 3 (nI (nE t n i))) 3 (nI (2 * (y_P V))) (nI (nV t n i))).1 8 = nI (y_P V) from r0, pk_mul, show (1 : Int32) = nI 1 from rfl, nI_add, pz_gib (by omega) (by omega), ev_nx, show (sA U1 3 (nI (2 * (y_P V) + 1)) 0).1 8 = nI (y_P V) from rU, nI_add, ev_nx]
      · exact ((((frm.rf.F (by simp)).F (by simp)).A (by simp))).tr (gT.wide (by simp) (by simp))
      · exact (((((frm.rf.F (by simp)).A (by simp))).tr (gU.wide (by simp) (by simp))).A (by simp)).F (by simp)
  · obtain ⟨T1, e0, t5, t4, gT⟩ := kc0.2 ok0
    obtain ⟨U1, f0, u4, u5, gU⟩ := kr0.2 ok0
    have hq : nS t n i ≤ n := nS_le C0.2.2.1
    have rU : U1.1 8 = nI (y_P V) := (gU.1 8 (by simp)).trans r0
    refine Or.inr ⟨nS t n i, nK t n i, T1, (sF (sA (sA U1 3 (nI (2 * (y_P V))) 0) 3 (nI (2 * (y_P V) + 1)) 0) 8 (nI (y_P V + 1))), ?_, ?_, by omega, t5, t4, u4, u5, ?_, ?_⟩
    · rw [fC_Valley_readPoem_3, show fC_Tape_needsNumber 1 40 SC = fC_Tape_needsNumber (nI 1) (nI 40) SC from rfl, e0, ev_I, if_pos rfl]
    · rw [fR_readRow, r_of (wk_all 22 (by decide)) (by decide), ev_I, if_pos hx, show fR_readNumber 1 40 SR = fR_readNumber (nI 1) (nI 40) SR from rfl, f0, ev_I, show SR.1 8 = nI (y_P V) from r0, show (2 : Int32) = nI 2 from rfl, pk_mul, pz_gib (by omega) (by omega), ev_nx, r_num_bad (S := (sA U1 3 (nI (2 * (y_P V))) 0)) (p := nS t n i) _ _ (by omega) u4, ev_I, show (sA U1 3 (nI (2 * (y_P V))) 0).1 8 = nI (y_P V) from rU, pk_mul, show (1 : Int32) = nI 1 from rfl, nI_add, pz_gib (by omega) (by omega), ev_nx, show (sA (sA U1 3 (nI (2 * (y_P V))) 0) 3 (nI (2 * (y_P V) + 1)) 0).1 8 = nI (y_P V) from rU, nI_add, ev_nx]
    · exact (frm.rf (S := SC)).tr (gT.wide (by simp) (by simp))
    · exact ((((frm.rf (S := SR)).tr (gU.wide (by simp) (by simp))).A (by simp)).A (by simp)).F (by simp)
theorem V_man {v0 v1 : Nat} : (y_P (vset (vset (vset V 0 1 (y_M V + 1)) 3 (y_M V) v0) 4 (y_M V) v1) = y_P V ∧ y_M (vset (vset (vset V 0 1 (y_M V + 1)) 3 (y_M V) v0) 4 (y_M V) v1) = y_M V + 1 ∧ y_D (vset (vset (vset V 0 1 (y_M V + 1)) 3 (y_M V) v0) 4 (y_M V) v1) = y_D V ∧ y_F (vset (vset (vset V 0 1 (y_M V + 1)) 3 (y_M V) v0) 4 (y_M V) v1) = y_F V) ∧ (∀ z, y_l (vset (vset (vset V 0 1 (y_M V + 1)) 3 (y_M V) v0) 4 (y_M V) v1) z = y_l V z) ∧ (∀ z, y_h (vset (vset (vset V 0 1 (y_M V + 1)) 3 (y_M V) v0) 4 (y_M V) v1) z = y_h V z) ∧ (y_m (vset (vset (vset V 0 1 (y_M V + 1)) 3 (y_M V) v0) 4 (y_M V) v1) (y_M V) = v0 ∧ ∀ z, z ≠ y_M V → y_m (vset (vset (vset V 0 1 (y_M V + 1)) 3 (y_M V) v0) 4 (y_M V) v1) z = y_m V z) ∧ (y_a (vset (vset (vset V 0 1 (y_M V + 1)) 3 (y_M V) v0) 4 (y_M V) v1) (y_M V) = v1 ∧ ∀ z, z ≠ y_M V → y_a (vset (vset (vset V 0 1 (y_M V + 1)) 3 (y_M V) v0) 4 (y_M V) v1) z = y_a V z) ∧ (∀ z, y_dm (vset (vset (vset V 0 1 (y_M V + 1)) 3 (y_M V) v0) 4 (y_M V) v1) z = y_dm V z) ∧ (∀ z, y_dp (vset (vset (vset V 0 1 (y_M V + 1)) 3 (y_M V) v0) 4 (y_M V) v1) z = y_dp V z) ∧ (∀ z, y_dk (vset (vset (vset V 0 1 (y_M V + 1)) 3 (y_M V) v0) 4 (y_M V) v1) z = y_dk V z) ∧ (∀ z, y_dd (vset (vset (vset V 0 1 (y_M V + 1)) 3 (y_M V) v0) 4 (y_M V) v1) z = y_dd V z) := by
  refine ⟨⟨?_, ?_, ?_, ?_⟩, fun z => ?_, fun z => ?_, ⟨?_, fun z hz => ?_⟩, ⟨?_, fun z hz => ?_⟩, fun z => ?_, fun z => ?_, fun z => ?_, fun z => ?_⟩
  · unfold y_P
    rw [vset_k _ (by decide), vset_k _ (by decide), vset_x _ (by decide)]
  · rw [show y_M (vset (vset (vset V 0 1 (y_M V + 1)) 3 (y_M V) v0) 4 (y_M V) v1) = (vset (vset (vset V 0 1 (y_M V + 1)) 3 (y_M V) v0) 4 (y_M V) v1) 0 1 from rfl, vset_k _ (by decide), vset_k _ (by decide), vset_s]
  · unfold y_D
    rw [vset_k _ (by decide), vset_k _ (by decide), vset_x _ (by decide)]
  · unfold y_F
    rw [vset_k _ (by decide), vset_k _ (by decide), vset_x _ (by decide)]
  · rw [show y_l (vset (vset (vset V 0 1 (y_M V + 1)) 3 (y_M V) v0) 4 (y_M V) v1) z = (vset (vset (vset V 0 1 (y_M V + 1)) 3 (y_M V) v0) 4 (y_M V) v1) 1 z from rfl, vset_k _ (by decide), vset_k _ (by decide), vset_k _ (by decide)]
    rfl
  · rw [show y_h (vset (vset (vset V 0 1 (y_M V + 1)) 3 (y_M V) v0) 4 (y_M V) v1) z = (vset (vset (vset V 0 1 (y_M V + 1)) 3 (y_M V) v0) 4 (y_M V) v1) 2 z from rfl, vset_k _ (by decide), vset_k _ (by decide), vset_k _ (by decide)]
    rfl
  · rw [show y_m (vset (vset (vset V 0 1 (y_M V + 1)) 3 (y_M V) v0) 4 (y_M V) v1) (y_M V) = (vset (vset (vset V 0 1 (y_M V + 1)) 3 (y_M V) v0) 4 (y_M V) v1) 3 (y_M V) from rfl, vset_k _ (by decide), vset_s]
  · rw [show y_m (vset (vset (vset V 0 1 (y_M V + 1)) 3 (y_M V) v0) 4 (y_M V) v1) z = (vset (vset (vset V 0 1 (y_M V + 1)) 3 (y_M V) v0) 4 (y_M V) v1) 3 z from rfl, vset_k _ (by decide), vset_x _ hz, vset_k _ (by decide)]
    rfl
  · rw [show y_a (vset (vset (vset V 0 1 (y_M V + 1)) 3 (y_M V) v0) 4 (y_M V) v1) (y_M V) = (vset (vset (vset V 0 1 (y_M V + 1)) 3 (y_M V) v0) 4 (y_M V) v1) 4 (y_M V) from rfl, vset_s]
  · rw [show y_a (vset (vset (vset V 0 1 (y_M V + 1)) 3 (y_M V) v0) 4 (y_M V) v1) z = (vset (vset (vset V 0 1 (y_M V + 1)) 3 (y_M V) v0) 4 (y_M V) v1) 4 z from rfl, vset_x _ hz, vset_k _ (by decide), vset_k _ (by decide)]
    rfl
  · rw [show y_dm (vset (vset (vset V 0 1 (y_M V + 1)) 3 (y_M V) v0) 4 (y_M V) v1) z = (vset (vset (vset V 0 1 (y_M V + 1)) 3 (y_M V) v0) 4 (y_M V) v1) 5 z from rfl, vset_k _ (by decide), vset_k _ (by decide), vset_k _ (by decide)]
    rfl
  · rw [show y_dp (vset (vset (vset V 0 1 (y_M V + 1)) 3 (y_M V) v0) 4 (y_M V) v1) z = (vset (vset (vset V 0 1 (y_M V + 1)) 3 (y_M V) v0) 4 (y_M V) v1) 6 z from rfl, vset_k _ (by decide), vset_k _ (by decide), vset_k _ (by decide)]
    rfl
  · rw [show y_dk (vset (vset (vset V 0 1 (y_M V + 1)) 3 (y_M V) v0) 4 (y_M V) v1) z = (vset (vset (vset V 0 1 (y_M V + 1)) 3 (y_M V) v0) 4 (y_M V) v1) 7 z from rfl, vset_k _ (by decide), vset_k _ (by decide), vset_k _ (by decide)]
    rfl
  · rw [show y_dd (vset (vset (vset V 0 1 (y_M V + 1)) 3 (y_M V) v0) 4 (y_M V) v1) z = (vset (vset (vset V 0 1 (y_M V + 1)) 3 (y_M V) v0) 4 (y_M V) v1) 8 z from rfl, vset_k _ (by decide), vset_k _ (by decide), vset_k _ (by decide)]
    rfl
theorem DC_man {v0 v1 : Nat} {x0 x1 : Int32} (dC : DC V SC) (hlt : y_M V < 6) (l0 : 1 ≤ v0) (m0 : v0 < 100) (l1 : 10 ≤ v1) (m1 : v1 < 71) : DC (vset (vset (vset V 0 1 (y_M V + 1)) 3 (y_M V) v0) 4 (y_M V) v1) (sF (sA (sF (sF (sA (sF (sF SC 8 x0) 6 (nI v0)) 25 (nI (y_M V)) (nI v0)) 8 x1) 6 (nI v1)) 26 (nI (y_M V)) (nI v1)) 15 (nI (y_M V + 1))) := by
  obtain ⟨⟨z1, z2, z3, z4⟩, q0, q1, ⟨q2s, q2n⟩, ⟨q3s, q3n⟩, q4, q5, q6, q7⟩ := V_man (V := V) (v0 := v0) (v1 := v1)
  obtain ⟨c1, c2, c3, c4, c5, c6, c7, ok⟩ := dC
  generalize (vset (vset (vset V 0 1 (y_M V + 1)) 3 (y_M V) v0) 4 (y_M V) v1) = W at *
  have o1 := ok.1
  have o2 := ok.2.1
  have o3 := ok.2.2.1
  refine ⟨(by rw [z1]; exact c1), (by rw [z2]; rfl), (by rw [z3]; exact c3), (by rw [z4]; exact c4), ?_, ?_, ?_, ?_⟩
  · intro y hy
    rw [z1] at hy
    obtain ⟨k0, k1⟩ := c5 y hy
    rw [q0 y, q1 y]
    exact ⟨k0, k1⟩
  · intro y hy
    rw [z2] at hy
    by_cases hne : y = y_M V
    · subst hne
      refine ⟨?_, ?_⟩
      · rw [q2s]
        exact cell_s (by omega)
      · rw [q3s]
        exact cell_s (by omega)
    · obtain ⟨k0, k1⟩ := c6 y (by omega)
      refine ⟨?_, ?_⟩
      · rw [q2n y hne]
        exact (cell_n (by omega) hne).trans k0
      · rw [q3n y hne]
        exact (cell_n (by omega) hne).trans k1
  · intro y hy
    rw [z3] at hy
    obtain ⟨k0, k1, k2, k3⟩ := c7 y hy
    rw [q4 y, q5 y, q6 y, q7 y]
    exact ⟨k0, k1, k2, k3⟩
  · obtain ⟨_, _, _, o4, o5, o6, o7⟩ := ok
    refine ⟨by omega, by omega, by omega, by omega, ?_, ?_, ?_⟩
    · intro y hy
      rw [z1] at hy
      have := o5 y hy
      rw [q0 y, q1 y]
      omega
    · intro y hy
      rw [z2] at hy
      by_cases hne : y = y_M V
      · subst hne
        rw [q2s, q3s]
        omega
      · have := o6 y (by omega)
        rw [q2n y hne, q3n y hne]
        omega
    · intro y hy
      rw [z3] at hy
      have := o7 y hy
      rw [q4 y, q5 y, q6 y, q7 y, z1, z2]
      omega
theorem DR_man {v0 v1 : Nat} {x0 x1 : Int32} (dR : DR V SR) (dC : DC V SC) (hlt : y_M V < 6) : DR (vset (vset (vset V 0 1 (y_M V + 1)) 3 (y_M V) v0) 4 (y_M V) v1) (sF (sA (sF (sA (sF SR 3 x0) 4 (nI (2 * (y_M V))) (nI v0)) 3 x1) 4 (nI (2 * (y_M V) + 1)) (nI v1)) 9 (nI (y_M V + 1))) := by
  obtain ⟨⟨z1, z2, z3, z4⟩, q0, q1, ⟨q2s, q2n⟩, ⟨q3s, q3n⟩, q4, q5, q6, q7⟩ := V_man (V := V) (v0 := v0) (v1 := v1)
  obtain ⟨c1, c2, c3, c4, c5, c6, c7⟩ := dR
  have ok := dC.2.2.2.2.2.2.2
  generalize (vset (vset (vset V 0 1 (y_M V + 1)) 3 (y_M V) v0) 4 (y_M V) v1) = W at *
  have o1 := ok.1
  have o2 := ok.2.1
  have o3 := ok.2.2.1
  refine ⟨(by rw [z1]; exact c1), (by rw [z2]; rfl), (by rw [z3]; exact c3), (by rw [z4]; exact c4), ?_, ?_, ?_⟩
  · intro y hy
    rw [z1] at hy
    obtain ⟨k0, k1⟩ := c5 y hy
    rw [q0 y, q1 y]
    exact ⟨k0, k1⟩
  · intro y hy
    rw [z2] at hy
    have hrow : ((sF (sA (sF (sA (sF SR 3 x0) 4 (nI (2 * (y_M V))) (nI v0)) 3 x1) 4 (nI (2 * (y_M V) + 1)) (nI v1)) 9 (nI (y_M V + 1)))).2.1 4 = (upd (upd (SR.2.1 4) (2 * (y_M V)) (nI v0)) (2 * (y_M V) + 1) (nI v1)) := by
      rw [tF_2]
      rw [tA_21, if_pos rfl, nI_clamp (by omega), tF_2]
      rw [tA_21, if_pos rfl, nI_clamp (by omega), tF_2]
    rw [hrow]
    by_cases hne : y = y_M V
    · subst hne
      refine ⟨?_, ?_⟩
      · rw [q2s, upd_n _ _ (by omega), upd_s]
      · rw [q3s, upd_s]
    · obtain ⟨k0, k1⟩ := c6 y (by omega)
      refine ⟨?_, ?_⟩
      · rw [q2n y hne, upd_n _ _ (by omega), upd_n _ _ (by omega)]
        exact k0
      · rw [q3n y hne, upd_n _ _ (by omega), upd_n _ _ (by omega)]
        exact k1
  · intro y hy
    rw [z3] at hy
    obtain ⟨k0, k1, k2, k3⟩ := c7 y hy
    rw [q4 y, q5 y, q6 y, q7 y]
    exact ⟨k0, k1, k2, k3⟩
theorem rd_man {x : Int32} (hC : CT t n i SC) (hR : RT t n i SR) (h4 : SR.1 4 = -1) (dC : DC V SC) (dR : DR V SR) (hlt : y_M V < 6) (hw22 : ¬ x = nI (pk5 (skb 22) 0 (skN 22))) (hx : x = nI (pk5 (skb 23) 0 (skN 23))) : Res t n SC SR (fC_Valley_readMan_3 SC) (fR_readRow x SR) (fun T U => ∃ V2, DC V2 T ∧ DR V2 U) := by
  have ok := dC.2.2.2.2.2.2.2
  have o1 := ok.1
  have o2 := ok.2.1
  have o3 := ok.2.2.1
  have hn := hC.2.2.2.1
  have c0 := dC.2.1
  have r0 := dR.2.1
  have C0 := hC
  have R0 := hR
  have kc0 := c_num (lo := 1) C0 (HI.lit (h := 99) (by omega)) (by omega) (by omega)
  have kr0 := r_num (lo := 1) R0 (show SR.1 4 = -1 from h4) (HI.lit (h := 99) (by omega)) (by omega) (by omega)
  by_cases ok0 : nOK t n i 1 100
  · have e0 := kc0.1 ok0
    have f0 := kr0.1 ok0
    have C1 : CT t n (nE t n i) (sA (sF (sF SC 8 (nI (nE t n i))) 6 (nI (nV t n i))) 25 (nI (y_M V)) (nI (nV t n i))) := (C0.mv (nE_le C0.2.2.1)).fr (fs := [6]) (as := [25]) ((frm.rf.F (by simp)).A (by simp)) (by simp) (by simp) (by simp)
    have R1 : RT t n (nE t n i) (sA (sF SR 3 (nI (nE t n i))) 4 (nI (2 * (y_M V))) (nI (nV t n i))) := (R0.mv (nE_le R0.2.2.1)).fr (fs := []) (as := [4]) (frm.rf.A (by simp)) (by simp) (by simp) (by simp)
    have kc1 := c_num (lo := 10) C1 (HI.lit (h := 70) (by omega)) (by omega) (by omega)
    have kr1 := r_num (lo := 10) R1 (show (sA (sF SR 3 (nI (nE t n i))) 4 (nI (2 * (y_M V))) (nI (nV t n i))).1 4 = -1 from h4) (HI.lit (h := 70) (by omega)) (by omega) (by omega)
    by_cases ok1 : nOK t n (nE t n i) 10 71
    · have e1 := kc1.1 ok1
      have f1 := kr1.1 ok1
      have C2 : CT t n (nE t n (nE t n i)) (sA (sF (sF (sA (sF (sF SC 8 (nI (nE t n i))) 6 (nI (nV t n i))) 25 (nI (y_M V)) (nI (nV t n i))) 8 (nI (nE t n (nE t n i)))) 6 (nI (nV t n (nE t n i)))) 26 (nI (y_M V)) (nI (nV t n (nE t n i)))) := (C1.mv (nE_le C1.2.2.1)).fr (fs := [6]) (as := [26]) ((frm.rf.F (by simp)).A (by simp)) (by simp) (by simp) (by simp)
      have R2 : RT t n (nE t n (nE t n i)) (sA (sF (sA (sF SR 3 (nI (nE t n i))) 4 (nI (2 * (y_M V))) (nI (nV t n i))) 3 (nI (nE t n (nE t n i)))) 4 (nI (2 * (y_M V) + 1)) (nI (nV t n (nE t n i)))) := (R1.mv (nE_le R1.2.2.1)).fr (fs := []) (as := [4]) (frm.rf.A (by simp)) (by simp) (by simp) (by simp)
      refine Or.inl ⟨(nE t n (nE t n i)), (sF (sA (sF (sF (sA (sF (sF SC 8 (nI (nE t n i))) 6 (nI (nV t n i))) 25 (nI (y_M V)) (nI (nV t n i))) 8 (nI (nE t n (nE t n i)))) 6 (nI (nV t n (nE t n i)))) 26 (nI (y_M V)) (nI (nV t n (nE t n i)))) 15 (nI (y_M V + 1))), (sF (sA (sF (sA (sF SR 3 (nI (nE t n i))) 4 (nI (2 * (y_M V))) (nI (nV t n i))) 3 (nI (nE t n (nE t n i)))) 4 (nI (2 * (y_M V) + 1)) (nI (nV t n (nE t n i)))) 9 (nI (y_M V + 1))), ?_, ?_, C2.fr (fs := [15]) (as := []) (frm.rf.F (by simp)) (by simp) (by simp) (by simp), R2.fr (fs := [9]) (as := []) (frm.rf.F (by simp)) (by simp) (by simp) (by simp), h4, ?_, ?_, (vset (vset (vset V 0 1 (y_M V + 1)) 3 (y_M V) (nV t n i)) 4 (y_M V) (nV t n (nE t n i))), ?_, ?_⟩
      · rw [fC_Valley_readMan_3, show fC_Tape_needsNumber 1 99 SC = fC_Tape_needsNumber (nI 1) (nI 99) SC from rfl, e0, ev_I, if_neg (show ¬ (1 : Int32) = 0 by decide), show ((sF (sF SC 8 (nI (nE t n i))) 6 (nI (nV t n i)))).1 15 = nI (y_M V) from c0, pz_gib (by omega) (by omega), show ((sF (sF SC 8 (nI (nE t n i))) 6 (nI (nV t n i)))).1 6 = nI (nV t n i) from rfl, ev_nx, show fC_Tape_needsNumber 10 70 (sA (sF (sF SC 8 (nI (nE t n i))) 6 (nI (nV t n i))) 25 (nI (y_M V)) (nI (nV t n i))) = fC_Tape_needsNumber (nI 10) (nI 70) (sA (sF (sF SC 8 (nI (nE t n i))) 6 (nI (nV t n i))) 25 (nI (y_M V)) (nI (nV t n i))) from rfl, e1, ev_I, if_neg (show ¬ (1 : Int32) = 0 by decide), show ((sF (sF (sA (sF (sF SC 8 (nI (nE t n i))) 6 (nI (nV t n i))) 25 (nI (y_M V)) (nI (nV t n i))) 8 (nI (nE t n (nE t n i)))) 6 (nI (nV t n (nE t n i))))).1 15 = nI (y_M V) from c0, pz_gib (by omega) (by omega), show ((sF (sF (sA (sF (sF SC 8 (nI (nE t n i))) 6 (nI (nV t n i))) 25 (nI (y_M V)) (nI (nV t n i))) 8 (nI (nE t n (nE t n i)))) 6 (nI (nV t n (nE t n i))))).1 6 = nI (nV t n (nE t n i)) from rfl, ev_nx, ev_nx, show (sA (sF (sF (sA (sF (sF SC 8 (nI (nE t n i))) 6 (nI (nV t n i))) 25 (nI (y_M V)) (nI (nV t n i))) 8 (nI (nE t n (nE t n i)))) 6 (nI (nV t n (nE t n i)))) 26 (nI (y_M V)) (nI (nV t n (nE t n i)))).1 15 = nI (y_M V) from c0, nI_1]
      · rw [fR_readRow, r_of (wk_all 22 (by decide)) (by decide), ev_I, if_neg hw22, of_v212, r_of (wk_all 23 (by decide)) (by decide), ev_I, if_pos hx, show fR_readNumber 1 99 SR = fR_readNumber (nI 1) (nI 99) SR from rfl, f0, ev_I, show SR.1 9 = nI (y_M V) from r0, show (2 : Int32) = nI 2 from rfl, pk_mul, pz_gib (by omega) (by omega), ev_nx, show fR_readNumber 10 70 (sA (sF SR 3 (nI (nE t n i))) 4 (nI (2 * (y_M V))) (nI (nV t n i))) = fR_readNumber (nI 10) (nI 70) (sA (sF SR 3 (nI (nE t n i))) 4 (nI (2 * (y_M V))) (nI (nV t n i))) from rfl, f1, ev_I, show (sA (sF SR 3 (nI (nE t n i))) 4 (nI (2 * (y_M V))) (nI (nV t n i))).1 9 = nI (y_M V) from r0, pk_mul, show (1 : Int32) = nI 1 from rfl, nI_add, pz_gib (by omega) (by omega), ev_nx, show (sA (sF (sA (sF SR 3 (nI (nE t n i))) 4 (nI (2 * (y_M V))) (nI (nV t n i))) 3 (nI (nE t n (nE t n i)))) 4 (nI (2 * (y_M V) + 1)) (nI (nV t n (nE t n i)))).1 9 = nI (y_M V) from r0, nI_add, ev_nx]
      · exact ((((((frm.rf.F (by simp)).F (by simp)).A (by simp)).F (by simp)).F (by simp)).A (by simp)).F (by simp)
      · exact ((((frm.rf.F (by simp)).A (by simp)).F (by simp)).A (by simp)).F (by simp)
      · exact DC_man dC hlt ok0.2.1 ok0.2.2 ok1.2.1 ok1.2.2
      · exact DR_man dR dC hlt
    · obtain ⟨T1, e1, t5, t4, gT⟩ := kc1.2 ok1
      obtain ⟨U1, f1, u4, u5, gU⟩ := kr1.2 ok1
      have hq : nS t n (nE t n i) ≤ n := nS_le C1.2.2.1
      have rU : U1.1 9 = nI (y_M V) := (gU.1 9 (by simp)).trans r0
      refine Or.inr ⟨nS t n (nE t n i), nK t n (nE t n i), T1, (sF (sA U1 4 (nI (2 * (y_M V) + 1)) 0) 9 (nI (y_M V + 1))), ?_, ?_, by omega, t5, t4, u4, u5, ?_, ?_⟩
      · rw [fC_Valley_readMan_3, show fC_Tape_needsNumber 1 99 SC = fC_Tape_needsNumber (nI 1) (nI 99) SC from rfl, e0, ev_I, if_neg (show ¬ (1 : Int32) = 0 by decide), show ((sF (sF SC 8 (nI (nE t n i))) 6 (nI (nV t n i)))).1 15 = nI (y_M V) from c0, pz_gib (by omega) (by omega), show ((sF (sF SC 8 (nI (nE t n i))) 6 (nI (nV t n i)))).1 6 = nI (nV t n i) from rfl, ev_nx, show fC_Tape_needsNumber 10 70 (sA (sF (sF SC 8 (nI (nE t n i))) 6 (nI (nV t n i))) 25 (nI (y_M V)) (nI (nV t n i))) = fC_Tape_needsNumber (nI 10) (nI 70) (sA (sF (sF SC 8 (nI (nE t n i))) 6 (nI (nV t n i))) 25 (nI (y_M V)) (nI (nV t n i))) from rfl, e1, ev_I, if_pos rfl]
      · rw [fR_readRow, r_of (wk_all 22 (by decide)) (by decide), ev_I, if_neg hw22, of_v212, r_of (wk_all 23 (by decide)) (by decide), ev_I, if_pos hx, show fR_readNumber 1 99 SR = fR_readNumber (nI 1) (nI 99) SR from rfl, f0, ev_I, show SR.1 9 = nI (y_M V) from r0, show (2 : Int32) = nI 2 from rfl, pk_mul, pz_gib (by omega) (by omega), ev_nx, show fR_readNumber 10 70 (sA (sF SR 3 (nI (nE t n i))) 4 (nI (2 * (y_M V))) (nI (nV t n i))) = fR_readNumber (nI 10) (nI 70) (sA (sF SR 3 (nI (nE t n i))) 4 (nI (2 * (y_M V))) (nI (nV t n i))) from rfl, f1, ev_I, show (sA (sF SR 3 (nI (nE t n i))) 4 (nI (2 * (y_M V))) (nI (nV t n i))).1 9 = nI (y_M V) from r0, pk_mul, show (1 : Int32) = nI 1 from rfl, nI_add, pz_gib (by omega) (by omega), ev_nx, show (sA U1 4 (nI (2 * (y_M V) + 1)) 0).1 9 = nI (y_M V) from rU, nI_add, ev_nx]
      · exact ((((frm.rf.F (by simp)).F (by simp)).A (by simp))).tr (gT.wide (by simp) (by simp))
      · exact (((((frm.rf.F (by simp)).A (by simp))).tr (gU.wide (by simp) (by simp))).A (by simp)).F (by simp)
  · obtain ⟨T1, e0, t5, t4, gT⟩ := kc0.2 ok0
    obtain ⟨U1, f0, u4, u5, gU⟩ := kr0.2 ok0
    have hq : nS t n i ≤ n := nS_le C0.2.2.1
    have rU : U1.1 9 = nI (y_M V) := (gU.1 9 (by simp)).trans r0
    refine Or.inr ⟨nS t n i, nK t n i, T1, (sF (sA (sA U1 4 (nI (2 * (y_M V))) 0) 4 (nI (2 * (y_M V) + 1)) 0) 9 (nI (y_M V + 1))), ?_, ?_, by omega, t5, t4, u4, u5, ?_, ?_⟩
    · rw [fC_Valley_readMan_3, show fC_Tape_needsNumber 1 99 SC = fC_Tape_needsNumber (nI 1) (nI 99) SC from rfl, e0, ev_I, if_pos rfl]
    · rw [fR_readRow, r_of (wk_all 22 (by decide)) (by decide), ev_I, if_neg hw22, of_v212, r_of (wk_all 23 (by decide)) (by decide), ev_I, if_pos hx, show fR_readNumber 1 99 SR = fR_readNumber (nI 1) (nI 99) SR from rfl, f0, ev_I, show SR.1 9 = nI (y_M V) from r0, show (2 : Int32) = nI 2 from rfl, pk_mul, pz_gib (by omega) (by omega), ev_nx, r_num_bad (S := (sA U1 4 (nI (2 * (y_M V))) 0)) (p := nS t n i) _ _ (by omega) u4, ev_I, show (sA U1 4 (nI (2 * (y_M V))) 0).1 9 = nI (y_M V) from rU, pk_mul, show (1 : Int32) = nI 1 from rfl, nI_add, pz_gib (by omega) (by omega), ev_nx, show (sA (sA U1 4 (nI (2 * (y_M V))) 0) 4 (nI (2 * (y_M V) + 1)) 0).1 9 = nI (y_M V) from rU, nI_add, ev_nx]
    · exact (frm.rf (S := SC)).tr (gT.wide (by simp) (by simp))
    · exact ((((frm.rf (S := SR)).tr (gU.wide (by simp) (by simp))).A (by simp)).A (by simp)).F (by simp)
theorem V_debt {v0 v1 v2 v3 : Nat} : (y_P (vset (vset (vset (vset (vset V 0 2 (y_D V + 1)) 5 (y_D V) v0) 6 (y_D V) v1) 7 (y_D V) v2) 8 (y_D V) v3) = y_P V ∧ y_M (vset (vset (vset (vset (vset V 0 2 (y_D V + 1)) 5 (y_D V) v0) 6 (y_D V) v1) 7 (y_D V) v2) 8 (y_D V) v3) = y_M V ∧ y_D (vset (vset (vset (vset (vset V 0 2 (y_D V + 1)) 5 (y_D V) v0) 6 (y_D V) v1) 7 (y_D V) v2) 8 (y_D V) v3) = y_D V + 1 ∧ y_F (vset (vset (vset (vset (vset V 0 2 (y_D V + 1)) 5 (y_D V) v0) 6 (y_D V) v1) 7 (y_D V) v2) 8 (y_D V) v3) = y_F V) ∧ (∀ z, y_l (vset (vset (vset (vset (vset V 0 2 (y_D V + 1)) 5 (y_D V) v0) 6 (y_D V) v1) 7 (y_D V) v2) 8 (y_D V) v3) z = y_l V z) ∧ (∀ z, y_h (vset (vset (vset (vset (vset V 0 2 (y_D V + 1)) 5 (y_D V) v0) 6 (y_D V) v1) 7 (y_D V) v2) 8 (y_D V) v3) z = y_h V z) ∧ (∀ z, y_m (vset (vset (vset (vset (vset V 0 2 (y_D V + 1)) 5 (y_D V) v0) 6 (y_D V) v1) 7 (y_D V) v2) 8 (y_D V) v3) z = y_m V z) ∧ (∀ z, y_a (vset (vset (vset (vset (vset V 0 2 (y_D V + 1)) 5 (y_D V) v0) 6 (y_D V) v1) 7 (y_D V) v2) 8 (y_D V) v3) z = y_a V z) ∧ (y_dm (vset (vset (vset (vset (vset V 0 2 (y_D V + 1)) 5 (y_D V) v0) 6 (y_D V) v1) 7 (y_D V) v2) 8 (y_D V) v3) (y_D V) = v0 ∧ ∀ z, z ≠ y_D V → y_dm (vset (vset (vset (vset (vset V 0 2 (y_D V + 1)) 5 (y_D V) v0) 6 (y_D V) v1) 7 (y_D V) v2) 8 (y_D V) v3) z = y_dm V z) ∧ (y_dp (vset (vset (vset (vset (vset V 0 2 (y_D V + 1)) 5 (y_D V) v0) 6 (y_D V) v1) 7 (y_D V) v2) 8 (y_D V) v3) (y_D V) = v1 ∧ ∀ z, z ≠ y_D V → y_dp (vset (vset (vset (vset (vset V 0 2 (y_D V + 1)) 5 (y_D V) v0) 6 (y_D V) v1) 7 (y_D V) v2) 8 (y_D V) v3) z = y_dp V z) ∧ (y_dk (vset (vset (vset (vset (vset V 0 2 (y_D V + 1)) 5 (y_D V) v0) 6 (y_D V) v1) 7 (y_D V) v2) 8 (y_D V) v3) (y_D V) = v2 ∧ ∀ z, z ≠ y_D V → y_dk (vset (vset (vset (vset (vset V 0 2 (y_D V + 1)) 5 (y_D V) v0) 6 (y_D V) v1) 7 (y_D V) v2) 8 (y_D V) v3) z = y_dk V z) ∧ (y_dd (vset (vset (vset (vset (vset V 0 2 (y_D V + 1)) 5 (y_D V) v0) 6 (y_D V) v1) 7 (y_D V) v2) 8 (y_D V) v3) (y_D V) = v3 ∧ ∀ z, z ≠ y_D V → y_dd (vset (vset (vset (vset (vset V 0 2 (y_D V + 1)) 5 (y_D V) v0) 6 (y_D V) v1) 7 (y_D V) v2) 8 (y_D V) v3) z = y_dd V z) := by
  refine ⟨⟨?_, ?_, ?_, ?_⟩, fun z => ?_, fun z => ?_, fun z => ?_, fun z => ?_, ⟨?_, fun z hz => ?_⟩, ⟨?_, fun z hz => ?_⟩, ⟨?_, fun z hz => ?_⟩, ⟨?_, fun z hz => ?_⟩⟩
  · unfold y_P
    rw [vset_k _ (by decide), vset_k _ (by decide), vset_k _ (by decide), vset_k _ (by decide), vset_x _ (by decide)]
  · unfold y_M
    rw [vset_k _ (by decide), vset_k _ (by decide), vset_k _ (by decide), vset_k _ (by decide), vset_x _ (by decide)]
  · rw [show y_D (vset (vset (vset (vset (vset V 0 2 (y_D V + 1)) 5 (y_D V) v0) 6 (y_D V) v1) 7 (y_D V) v2) 8 (y_D V) v3) = (vset (vset (vset (vset (vset V 0 2 (y_D V + 1)) 5 (y_D V) v0) 6 (y_D V) v1) 7 (y_D V) v2) 8 (y_D V) v3) 0 2 from rfl, vset_k _ (by decide), vset_k _ (by decide), vset_k _ (by decide), vset_k _ (by decide), vset_s]
  · unfold y_F
    rw [vset_k _ (by decide), vset_k _ (by decide), vset_k _ (by decide), vset_k _ (by decide), vset_x _ (by decide)]
  · rw [show y_l (vset (vset (vset (vset (vset V 0 2 (y_D V + 1)) 5 (y_D V) v0) 6 (y_D V) v1) 7 (y_D V) v2) 8 (y_D V) v3) z = (vset (vset (vset (vset (vset V 0 2 (y_D V + 1)) 5 (y_D V) v0) 6 (y_D V) v1) 7 (y_D V) v2) 8 (y_D V) v3) 1 z from rfl, vset_k _ (by decide), vset_k _ (by decide), vset_k _ (by decide), vset_k _ (by decide), vset_k _ (by decide)]
    rfl
  · rw [show y_h (vset (vset (vset (vset (vset V 0 2 (y_D V + 1)) 5 (y_D V) v0) 6 (y_D V) v1) 7 (y_D V) v2) 8 (y_D V) v3) z = (vset (vset (vset (vset (vset V 0 2 (y_D V + 1)) 5 (y_D V) v0) 6 (y_D V) v1) 7 (y_D V) v2) 8 (y_D V) v3) 2 z from rfl, vset_k _ (by decide), vset_k _ (by decide), vset_k _ (by decide), vset_k _ (by decide), vset_k _ (by decide)]
    rfl
  · rw [show y_m (vset (vset (vset (vset (vset V 0 2 (y_D V + 1)) 5 (y_D V) v0) 6 (y_D V) v1) 7 (y_D V) v2) 8 (y_D V) v3) z = (vset (vset (vset (vset (vset V 0 2 (y_D V + 1)) 5 (y_D V) v0) 6 (y_D V) v1) 7 (y_D V) v2) 8 (y_D V) v3) 3 z from rfl, vset_k _ (by decide), vset_k _ (by decide), vset_k _ (by decide), vset_k _ (by decide), vset_k _ (by decide)]
    rfl
  · rw [show y_a (vset (vset (vset (vset (vset V 0 2 (y_D V + 1)) 5 (y_D V) v0) 6 (y_D V) v1) 7 (y_D V) v2) 8 (y_D V) v3) z = (vset (vset (vset (vset (vset V 0 2 (y_D V + 1)) 5 (y_D V) v0) 6 (y_D V) v1) 7 (y_D V) v2) 8 (y_D V) v3) 4 z from rfl, vset_k _ (by decide), vset_k _ (by decide), vset_k _ (by decide), vset_k _ (by decide), vset_k _ (by decide)]
    rfl
  · rw [show y_dm (vset (vset (vset (vset (vset V 0 2 (y_D V + 1)) 5 (y_D V) v0) 6 (y_D V) v1) 7 (y_D V) v2) 8 (y_D V) v3) (y_D V) = (vset (vset (vset (vset (vset V 0 2 (y_D V + 1)) 5 (y_D V) v0) 6 (y_D V) v1) 7 (y_D V) v2) 8 (y_D V) v3) 5 (y_D V) from rfl, vset_k _ (by decide), vset_k _ (by decide), vset_k _ (by decide), vset_s]
  · rw [show y_dm (vset (vset (vset (vset (vset V 0 2 (y_D V + 1)) 5 (y_D V) v0) 6 (y_D V) v1) 7 (y_D V) v2) 8 (y_D V) v3) z = (vset (vset (vset (vset (vset V 0 2 (y_D V + 1)) 5 (y_D V) v0) 6 (y_D V) v1) 7 (y_D V) v2) 8 (y_D V) v3) 5 z from rfl, vset_k _ (by decide), vset_k _ (by decide), vset_k _ (by decide), vset_x _ hz, vset_k _ (by decide)]
    rfl
  · rw [show y_dp (vset (vset (vset (vset (vset V 0 2 (y_D V + 1)) 5 (y_D V) v0) 6 (y_D V) v1) 7 (y_D V) v2) 8 (y_D V) v3) (y_D V) = (vset (vset (vset (vset (vset V 0 2 (y_D V + 1)) 5 (y_D V) v0) 6 (y_D V) v1) 7 (y_D V) v2) 8 (y_D V) v3) 6 (y_D V) from rfl, vset_k _ (by decide), vset_k _ (by decide), vset_s]
  · rw [show y_dp (vset (vset (vset (vset (vset V 0 2 (y_D V + 1)) 5 (y_D V) v0) 6 (y_D V) v1) 7 (y_D V) v2) 8 (y_D V) v3) z = (vset (vset (vset (vset (vset V 0 2 (y_D V + 1)) 5 (y_D V) v0) 6 (y_D V) v1) 7 (y_D V) v2) 8 (y_D V) v3) 6 z from rfl, vset_k _ (by decide), vset_k _ (by decide), vset_x _ hz, vset_k _ (by decide), vset_k _ (by decide)]
    rfl
  · rw [show y_dk (vset (vset (vset (vset (vset V 0 2 (y_D V + 1)) 5 (y_D V) v0) 6 (y_D V) v1) 7 (y_D V) v2) 8 (y_D V) v3) (y_D V) = (vset (vset (vset (vset (vset V 0 2 (y_D V + 1)) 5 (y_D V) v0) 6 (y_D V) v1) 7 (y_D V) v2) 8 (y_D V) v3) 7 (y_D V) from rfl, vset_k _ (by decide), vset_s]
  · rw [show y_dk (vset (vset (vset (vset (vset V 0 2 (y_D V + 1)) 5 (y_D V) v0) 6 (y_D V) v1) 7 (y_D V) v2) 8 (y_D V) v3) z = (vset (vset (vset (vset (vset V 0 2 (y_D V + 1)) 5 (y_D V) v0) 6 (y_D V) v1) 7 (y_D V) v2) 8 (y_D V) v3) 7 z from rfl, vset_k _ (by decide), vset_x _ hz, vset_k _ (by decide), vset_k _ (by decide), vset_k _ (by decide)]
    rfl
  · rw [show y_dd (vset (vset (vset (vset (vset V 0 2 (y_D V + 1)) 5 (y_D V) v0) 6 (y_D V) v1) 7 (y_D V) v2) 8 (y_D V) v3) (y_D V) = (vset (vset (vset (vset (vset V 0 2 (y_D V + 1)) 5 (y_D V) v0) 6 (y_D V) v1) 7 (y_D V) v2) 8 (y_D V) v3) 8 (y_D V) from rfl, vset_s]
  · rw [show y_dd (vset (vset (vset (vset (vset V 0 2 (y_D V + 1)) 5 (y_D V) v0) 6 (y_D V) v1) 7 (y_D V) v2) 8 (y_D V) v3) z = (vset (vset (vset (vset (vset V 0 2 (y_D V + 1)) 5 (y_D V) v0) 6 (y_D V) v1) 7 (y_D V) v2) 8 (y_D V) v3) 8 z from rfl, vset_x _ hz, vset_k _ (by decide), vset_k _ (by decide), vset_k _ (by decide), vset_k _ (by decide)]
    rfl
theorem DC_debt {v0 v1 v2 v3 : Nat} {x0 x1 x2 x3 : Int32} (dC : DC V SC) (hlt : y_D V < 10) (l0 : 0 ≤ v0) (m0 : v0 < (y_M V)) (l1 : 0 ≤ v1) (m1 : v1 < (y_P V)) (l2 : 0 ≤ v2) (m2 : v2 < 4) (l3 : 0 ≤ v3) (m3 : v3 < 41) : DC (vset (vset (vset (vset (vset V 0 2 (y_D V + 1)) 5 (y_D V) v0) 6 (y_D V) v1) 7 (y_D V) v2) 8 (y_D V) v3) (sF (sA (sF (sF (sA (sF (sF (sA (sF (sF (sA (sF (sF SC 8 x0) 6 (nI v0)) 27 (nI (y_D V)) (nI v0)) 8 x1) 6 (nI v1)) 28 (nI (y_D V)) (nI v1)) 8 x2) 6 (nI v2)) 29 (nI (y_D V)) (nI v2)) 8 x3) 6 (nI v3)) 30 (nI (y_D V)) (nI v3)) 16 (nI (y_D V + 1))) := by
  obtain ⟨⟨z1, z2, z3, z4⟩, q0, q1, q2, q3, ⟨q4s, q4n⟩, ⟨q5s, q5n⟩, ⟨q6s, q6n⟩, ⟨q7s, q7n⟩⟩ := V_debt (V := V) (v0 := v0) (v1 := v1) (v2 := v2) (v3 := v3)
  obtain ⟨c1, c2, c3, c4, c5, c6, c7, ok⟩ := dC
  generalize (vset (vset (vset (vset (vset V 0 2 (y_D V + 1)) 5 (y_D V) v0) 6 (y_D V) v1) 7 (y_D V) v2) 8 (y_D V) v3) = W at *
  have o1 := ok.1
  have o2 := ok.2.1
  have o3 := ok.2.2.1
  refine ⟨(by rw [z1]; exact c1), (by rw [z2]; exact c2), (by rw [z3]; rfl), (by rw [z4]; exact c4), ?_, ?_, ?_, ?_⟩
  · intro y hy
    rw [z1] at hy
    obtain ⟨k0, k1⟩ := c5 y hy
    rw [q0 y, q1 y]
    exact ⟨k0, k1⟩
  · intro y hy
    rw [z2] at hy
    obtain ⟨k0, k1⟩ := c6 y hy
    rw [q2 y, q3 y]
    exact ⟨k0, k1⟩
  · intro y hy
    rw [z3] at hy
    by_cases hne : y = y_D V
    · subst hne
      refine ⟨?_, ?_, ?_, ?_⟩
      · rw [q4s]
        exact cell_s (by omega)
      · rw [q5s]
        exact cell_s (by omega)
      · rw [q6s]
        exact cell_s (by omega)
      · rw [q7s]
        exact cell_s (by omega)
    · obtain ⟨k0, k1, k2, k3⟩ := c7 y (by omega)
      refine ⟨?_, ?_, ?_, ?_⟩
      · rw [q4n y hne]
        exact (cell_n (by omega) hne).trans k0
      · rw [q5n y hne]
        exact (cell_n (by omega) hne).trans k1
      · rw [q6n y hne]
        exact (cell_n (by omega) hne).trans k2
      · rw [q7n y hne]
        exact (cell_n (by omega) hne).trans k3
  · obtain ⟨_, _, _, o4, o5, o6, o7⟩ := ok
    refine ⟨by omega, by omega, by omega, by omega, ?_, ?_, ?_⟩
    · intro y hy
      rw [z1] at hy
      have := o5 y hy
      rw [q0 y, q1 y]
      omega
    · intro y hy
      rw [z2] at hy
      have := o6 y hy
      rw [q2 y, q3 y]
      omega
    · intro y hy
      rw [z3] at hy
      by_cases hne : y = y_D V
      · subst hne
        rw [q4s, q5s, q6s, q7s, z1, z2]
        omega
      · have := o7 y (by omega)
        rw [q4n y hne, q5n y hne, q6n y hne, q7n y hne, z1, z2]
        omega
theorem DR_debt {v0 v1 v2 v3 : Nat} {x0 x1 x2 x3 : Int32} (dR : DR V SR) (dC : DC V SC) (hlt : y_D V < 10) : DR (vset (vset (vset (vset (vset V 0 2 (y_D V + 1)) 5 (y_D V) v0) 6 (y_D V) v1) 7 (y_D V) v2) 8 (y_D V) v3) (sF (sA (sF (sA (sF (sA (sF (sA (sF SR 3 x0) 5 (nI (4 * (y_D V))) (nI v0)) 3 x1) 5 (nI (4 * (y_D V) + 1)) (nI v1)) 3 x2) 5 (nI (4 * (y_D V) + 2)) (nI v2)) 3 x3) 5 (nI (4 * (y_D V) + 3)) (nI v3)) 10 (nI (y_D V + 1))) := by
  obtain ⟨⟨z1, z2, z3, z4⟩, q0, q1, q2, q3, ⟨q4s, q4n⟩, ⟨q5s, q5n⟩, ⟨q6s, q6n⟩, ⟨q7s, q7n⟩⟩ := V_debt (V := V) (v0 := v0) (v1 := v1) (v2 := v2) (v3 := v3)
  obtain ⟨c1, c2, c3, c4, c5, c6, c7⟩ := dR
  have ok := dC.2.2.2.2.2.2.2
  generalize (vset (vset (vset (vset (vset V 0 2 (y_D V + 1)) 5 (y_D V) v0) 6 (y_D V) v1) 7 (y_D V) v2) 8 (y_D V) v3) = W at *
  have o1 := ok.1
  have o2 := ok.2.1
  have o3 := ok.2.2.1
  refine ⟨(by rw [z1]; exact c1), (by rw [z2]; exact c2), (by rw [z3]; rfl), (by rw [z4]; exact c4), ?_, ?_, ?_⟩
  · intro y hy
    rw [z1] at hy
    obtain ⟨k0, k1⟩ := c5 y hy
    rw [q0 y, q1 y]
    exact ⟨k0, k1⟩
  · intro y hy
    rw [z2] at hy
    obtain ⟨k0, k1⟩ := c6 y hy
    rw [q2 y, q3 y]
    exact ⟨k0, k1⟩
  · intro y hy
    rw [z3] at hy
    have hrow : ((sF (sA (sF (sA (sF (sA (sF (sA (sF SR 3 x0) 5 (nI (4 * (y_D V))) (nI v0)) 3 x1) 5 (nI (4 * (y_D V) + 1)) (nI v1)) 3 x2) 5 (nI (4 * (y_D V) + 2)) (nI v2)) 3 x3) 5 (nI (4 * (y_D V) + 3)) (nI v3)) 10 (nI (y_D V + 1)))).2.1 5 = (upd (upd (upd (upd (SR.2.1 5) (4 * (y_D V)) (nI v0)) (4 * (y_D V) + 1) (nI v1)) (4 * (y_D V) + 2) (nI v2)) (4 * (y_D V) + 3) (nI v3)) := by
      rw [tF_2]
      rw [tA_21, if_pos rfl, nI_clamp (by omega), tF_2]
      rw [tA_21, if_pos rfl, nI_clamp (by omega), tF_2]
      rw [tA_21, if_pos rfl, nI_clamp (by omega), tF_2]
      rw [tA_21, if_pos rfl, nI_clamp (by omega), tF_2]
    rw [hrow]
    by_cases hne : y = y_D V
    · subst hne
      refine ⟨?_, ?_, ?_, ?_⟩
      · rw [q4s, upd_n _ _ (by omega), upd_n _ _ (by omega), upd_n _ _ (by omega), upd_s]
      · rw [q5s, upd_n _ _ (by omega), upd_n _ _ (by omega), upd_s]
      · rw [q6s, upd_n _ _ (by omega), upd_s]
      · rw [q7s, upd_s]
    · obtain ⟨k0, k1, k2, k3⟩ := c7 y (by omega)
      refine ⟨?_, ?_, ?_, ?_⟩
      · rw [q4n y hne, upd_n _ _ (by omega), upd_n _ _ (by omega), upd_n _ _ (by omega), upd_n _ _ (by omega)]
        exact k0
      · rw [q5n y hne, upd_n _ _ (by omega), upd_n _ _ (by omega), upd_n _ _ (by omega), upd_n _ _ (by omega)]
        exact k1
      · rw [q6n y hne, upd_n _ _ (by omega), upd_n _ _ (by omega), upd_n _ _ (by omega), upd_n _ _ (by omega)]
        exact k2
      · rw [q7n y hne, upd_n _ _ (by omega), upd_n _ _ (by omega), upd_n _ _ (by omega), upd_n _ _ (by omega)]
        exact k3
theorem rd_debt {x : Int32} (hC : CT t n i SC) (hR : RT t n i SR) (h4 : SR.1 4 = -1) (dC : DC V SC) (dR : DR V SR) (hlt : y_D V < 10) (hw22 : ¬ x = nI (pk5 (skb 22) 0 (skN 22))) (hw23 : ¬ x = nI (pk5 (skb 23) 0 (skN 23))) (hx : x = nI (pk5 (skb 24) 0 (skN 24))) : Res t n SC SR (fC_Valley_readDebt_3 SC) (fR_readRow x SR) (fun T U => ∃ V2, DC V2 T ∧ DR V2 U) := by
  have ok := dC.2.2.2.2.2.2.2
  have o1 := ok.1
  have o2 := ok.2.1
  have o3 := ok.2.2.1
  have hn := hC.2.2.2.1
  have c0 := dC.2.2.1
  have r0 := dR.2.2.1
  have C0 := hC
  have R0 := hR
  have kc0 := c_num (lo := 0) C0 (HI.sub (h := y_M V) (by omega)) (by omega) (by omega)
  have kr0 := r_num (lo := 0) R0 (show SR.1 4 = -1 from h4) (HI.sub (h := y_M V) (by omega)) (by omega) (by omega)
  by_cases ok0 : nOK t n i 0 (y_M V)
  · have e0 := kc0.1 ok0
    have f0 := kr0.1 ok0
    have C1 : CT t n (nE t n i) (sA (sF (sF SC 8 (nI (nE t n i))) 6 (nI (nV t n i))) 27 (nI (y_D V)) (nI (nV t n i))) := (C0.mv (nE_le C0.2.2.1)).fr (fs := [6]) (as := [27]) ((frm.rf.F (by simp)).A (by simp)) (by simp) (by simp) (by simp)
    have R1 : RT t n (nE t n i) (sA (sF SR 3 (nI (nE t n i))) 5 (nI (4 * (y_D V))) (nI (nV t n i))) := (R0.mv (nE_le R0.2.2.1)).fr (fs := []) (as := [5]) (frm.rf.A (by simp)) (by simp) (by simp) (by simp)
    have kc1 := c_num (lo := 0) C1 (HI.sub (h := y_P V) (by omega)) (by omega) (by omega)
    have kr1 := r_num (lo := 0) R1 (show (sA (sF SR 3 (nI (nE t n i))) 5 (nI (4 * (y_D V))) (nI (nV t n i))).1 4 = -1 from h4) (HI.sub (h := y_P V) (by omega)) (by omega) (by omega)
    by_cases ok1 : nOK t n (nE t n i) 0 (y_P V)
    · have e1 := kc1.1 ok1
      have f1 := kr1.1 ok1
      have C2 : CT t n (nE t n (nE t n i)) (sA (sF (sF (sA (sF (sF SC 8 (nI (nE t n i))) 6 (nI (nV t n i))) 27 (nI (y_D V)) (nI (nV t n i))) 8 (nI (nE t n (nE t n i)))) 6 (nI (nV t n (nE t n i)))) 28 (nI (y_D V)) (nI (nV t n (nE t n i)))) := (C1.mv (nE_le C1.2.2.1)).fr (fs := [6]) (as := [28]) ((frm.rf.F (by simp)).A (by simp)) (by simp) (by simp) (by simp)
      have R2 : RT t n (nE t n (nE t n i)) (sA (sF (sA (sF SR 3 (nI (nE t n i))) 5 (nI (4 * (y_D V))) (nI (nV t n i))) 3 (nI (nE t n (nE t n i)))) 5 (nI (4 * (y_D V) + 1)) (nI (nV t n (nE t n i)))) := (R1.mv (nE_le R1.2.2.1)).fr (fs := []) (as := [5]) (frm.rf.A (by simp)) (by simp) (by simp) (by simp)
      have kc2 := c_num (lo := 0) C2 (HI.lit (h := 3) (by omega)) (by omega) (by omega)
      have kr2 := r_num (lo := 0) R2 (show (sA (sF (sA (sF SR 3 (nI (nE t n i))) 5 (nI (4 * (y_D V))) (nI (nV t n i))) 3 (nI (nE t n (nE t n i)))) 5 (nI (4 * (y_D V) + 1)) (nI (nV t n (nE t n i)))).1 4 = -1 from h4) (HI.lit (h := 3) (by omega)) (by omega) (by omega)
      by_cases ok2 : nOK t n (nE t n (nE t n i)) 0 4
      · have e2 := kc2.1 ok2
        have f2 := kr2.1 ok2
        have C3 : CT t n (nE t n (nE t n (nE t n i))) (sA (sF (sF (sA (sF (sF (sA (sF (sF SC 8 (nI (nE t n i))) 6 (nI (nV t n i))) 27 (nI (y_D V)) (nI (nV t n i))) 8 (nI (nE t n (nE t n i)))) 6 (nI (nV t n (nE t n i)))) 28 (nI (y_D V)) (nI (nV t n (nE t n i)))) 8 (nI (nE t n (nE t n (nE t n i))))) 6 (nI (nV t n (nE t n (nE t n i))))) 29 (nI (y_D V)) (nI (nV t n (nE t n (nE t n i))))) := (C2.mv (nE_le C2.2.2.1)).fr (fs := [6]) (as := [29]) ((frm.rf.F (by simp)).A (by simp)) (by simp) (by simp) (by simp)
        have R3 : RT t n (nE t n (nE t n (nE t n i))) (sA (sF (sA (sF (sA (sF SR 3 (nI (nE t n i))) 5 (nI (4 * (y_D V))) (nI (nV t n i))) 3 (nI (nE t n (nE t n i)))) 5 (nI (4 * (y_D V) + 1)) (nI (nV t n (nE t n i)))) 3 (nI (nE t n (nE t n (nE t n i))))) 5 (nI (4 * (y_D V) + 2)) (nI (nV t n (nE t n (nE t n i))))) := (R2.mv (nE_le R2.2.2.1)).fr (fs := []) (as := [5]) (frm.rf.A (by simp)) (by simp) (by simp) (by simp)
        have kc3 := c_num (lo := 0) C3 (HI.lit (h := 40) (by omega)) (by omega) (by omega)
        have kr3 := r_num (lo := 0) R3 (show (sA (sF (sA (sF (sA (sF SR 3 (nI (nE t n i))) 5 (nI (4 * (y_D V))) (nI (nV t n i))) 3 (nI (nE t n (nE t n i)))) 5 (nI (4 * (y_D V) + 1)) (nI (nV t n (nE t n i)))) 3 (nI (nE t n (nE t n (nE t n i))))) 5 (nI (4 * (y_D V) + 2)) (nI (nV t n (nE t n (nE t n i))))).1 4 = -1 from h4) (HI.lit (h := 40) (by omega)) (by omega) (by omega)
        by_cases ok3 : nOK t n (nE t n (nE t n (nE t n i))) 0 41
        · have e3 := kc3.1 ok3
          have f3 := kr3.1 ok3
          have C4 : CT t n (nE t n (nE t n (nE t n (nE t n i)))) (sA (sF (sF (sA (sF (sF (sA (sF (sF (sA (sF (sF SC 8 (nI (nE t n i))) 6 (nI (nV t n i))) 27 (nI (y_D V)) (nI (nV t n i))) 8 (nI (nE t n (nE t n i)))) 6 (nI (nV t n (nE t n i)))) 28 (nI (y_D V)) (nI (nV t n (nE t n i)))) 8 (nI (nE t n (nE t n (nE t n i))))) 6 (nI (nV t n (nE t n (nE t n i))))) 29 (nI (y_D V)) (nI (nV t n (nE t n (nE t n i))))) 8 (nI (nE t n (nE t n (nE t n (nE t n i)))))) 6 (nI (nV t n (nE t n (nE t n (nE t n i)))))) 30 (nI (y_D V)) (nI (nV t n (nE t n (nE t n (nE t n i)))))) := (C3.mv (nE_le C3.2.2.1)).fr (fs := [6]) (as := [30]) ((frm.rf.F (by simp)).A (by simp)) (by simp) (by simp) (by simp)
          have R4 : RT t n (nE t n (nE t n (nE t n (nE t n i)))) (sA (sF (sA (sF (sA (sF (sA (sF SR 3 (nI (nE t n i))) 5 (nI (4 * (y_D V))) (nI (nV t n i))) 3 (nI (nE t n (nE t n i)))) 5 (nI (4 * (y_D V) + 1)) (nI (nV t n (nE t n i)))) 3 (nI (nE t n (nE t n (nE t n i))))) 5 (nI (4 * (y_D V) + 2)) (nI (nV t n (nE t n (nE t n i))))) 3 (nI (nE t n (nE t n (nE t n (nE t n i)))))) 5 (nI (4 * (y_D V) + 3)) (nI (nV t n (nE t n (nE t n (nE t n i)))))) := (R3.mv (nE_le R3.2.2.1)).fr (fs := []) (as := [5]) (frm.rf.A (by simp)) (by simp) (by simp) (by simp)
          refine Or.inl ⟨(nE t n (nE t n (nE t n (nE t n i)))), (sF (sA (sF (sF (sA (sF (sF (sA (sF (sF (sA (sF (sF SC 8 (nI (nE t n i))) 6 (nI (nV t n i))) 27 (nI (y_D V)) (nI (nV t n i))) 8 (nI (nE t n (nE t n i)))) 6 (nI (nV t n (nE t n i)))) 28 (nI (y_D V)) (nI (nV t n (nE t n i)))) 8 (nI (nE t n (nE t n (nE t n i))))) 6 (nI (nV t n (nE t n (nE t n i))))) 29 (nI (y_D V)) (nI (nV t n (nE t n (nE t n i))))) 8 (nI (nE t n (nE t n (nE t n (nE t n i)))))) 6 (nI (nV t n (nE t n (nE t n (nE t n i)))))) 30 (nI (y_D V)) (nI (nV t n (nE t n (nE t n (nE t n i)))))) 16 (nI (y_D V + 1))), (sF (sA (sF (sA (sF (sA (sF (sA (sF SR 3 (nI (nE t n i))) 5 (nI (4 * (y_D V))) (nI (nV t n i))) 3 (nI (nE t n (nE t n i)))) 5 (nI (4 * (y_D V) + 1)) (nI (nV t n (nE t n i)))) 3 (nI (nE t n (nE t n (nE t n i))))) 5 (nI (4 * (y_D V) + 2)) (nI (nV t n (nE t n (nE t n i))))) 3 (nI (nE t n (nE t n (nE t n (nE t n i)))))) 5 (nI (4 * (y_D V) + 3)) (nI (nV t n (nE t n (nE t n (nE t n i)))))) 10 (nI (y_D V + 1))), ?_, ?_, C4.fr (fs := [16]) (as := []) (frm.rf.F (by simp)) (by simp) (by simp) (by simp), R4.fr (fs := [10]) (as := []) (frm.rf.F (by simp)) (by simp) (by simp) (by simp), h4, ?_, ?_, (vset (vset (vset (vset (vset V 0 2 (y_D V + 1)) 5 (y_D V) (nV t n i)) 6 (y_D V) (nV t n (nE t n i))) 7 (y_D V) (nV t n (nE t n (nE t n i)))) 8 (y_D V) (nV t n (nE t n (nE t n (nE t n i))))), ?_, ?_⟩
          · rw [fC_Valley_readDebt_3, show SC.1 15 = nI (y_M V) from dC.2.1, show fC_Tape_needsNumber 0 (nI (y_M V) - 1) SC = fC_Tape_needsNumber (nI 0) (nI (y_M V) - 1) SC from rfl, e0, ev_I, if_neg (show ¬ (1 : Int32) = 0 by decide), show ((sF (sF SC 8 (nI (nE t n i))) 6 (nI (nV t n i)))).1 16 = nI (y_D V) from c0, pz_gib (by omega) (by omega), show ((sF (sF SC 8 (nI (nE t n i))) 6 (nI (nV t n i)))).1 6 = nI (nV t n i) from rfl, ev_nx, show (sA (sF (sF SC 8 (nI (nE t n i))) 6 (nI (nV t n i))) 27 (nI (y_D V)) (nI (nV t n i))).1 14 = nI (y_P V) from dC.1, show fC_Tape_needsNumber 0 (nI (y_P V) - 1) (sA (sF (sF SC 8 (nI (nE t n i))) 6 (nI (nV t n i))) 27 (nI (y_D V)) (nI (nV t n i))) = fC_Tape_needsNumber (nI 0) (nI (y_P V) - 1) (sA (sF (sF SC 8 (nI (nE t n i))) 6 (nI (nV t n i))) 27 (nI (y_D V)) (nI (nV t n i))) from rfl, e1, ev_I, if_neg (show ¬ (1 : Int32) = 0 by decide), show ((sF (sF (sA (sF (sF SC 8 (nI (nE t n i))) 6 (nI (nV t n i))) 27 (nI (y_D V)) (nI (nV t n i))) 8 (nI (nE t n (nE t n i)))) 6 (nI (nV t n (nE t n i))))).1 16 = nI (y_D V) from c0, pz_gib (by omega) (by omega), show ((sF (sF (sA (sF (sF SC 8 (nI (nE t n i))) 6 (nI (nV t n i))) 27 (nI (y_D V)) (nI (nV t n i))) 8 (nI (nE t n (nE t n i)))) 6 (nI (nV t n (nE t n i))))).1 6 = nI (nV t n (nE t n i)) from rfl, ev_nx, show fC_Tape_needsNumber 0 3 (sA (sF (sF (sA (sF (sF SC 8 (nI (nE t n i))) 6 (nI (nV t n i))) 27 (nI (y_D V)) (nI (nV t n i))) 8 (nI (nE t n (nE t n i)))) 6 (nI (nV t n (nE t n i)))) 28 (nI (y_D V)) (nI (nV t n (nE t n i)))) = fC_Tape_needsNumber (nI 0) (nI 3) (sA (sF (sF (sA (sF (sF SC 8 (nI (nE t n i))) 6 (nI (nV t n i))) 27 (nI (y_D V)) (nI (nV t n i))) 8 (nI (nE t n (nE t n i)))) 6 (nI (nV t n (nE t n i)))) 28 (nI (y_D V)) (nI (nV t n (nE t n i)))) from rfl, e2, ev_I, if_neg (show ¬ (1 : Int32) = 0 by decide), show ((sF (sF (sA (sF (sF (sA (sF (sF SC 8 (nI (nE t n i))) 6 (nI (nV t n i))) 27 (nI (y_D V)) (nI (nV t n i))) 8 (nI (nE t n (nE t n i)))) 6 (nI (nV t n (nE t n i)))) 28 (nI (y_D V)) (nI (nV t n (nE t n i)))) 8 (nI (nE t n (nE t n (nE t n i))))) 6 (nI (nV t n (nE t n (nE t n i)))))).1 16 = nI (y_D V) from c0, pz_gib (by omega) (by omega), show ((sF (sF (sA (sF (sF (sA (sF (sF SC 8 (nI (nE t n i))) 6 (nI (nV t n i))) 27 (nI (y_D V)) (nI (nV t n i))) 8 (nI (nE t n (nE t n i)))) 6 (nI (nV t n (nE t n i)))) 28 (nI (y_D V)) (nI (nV t n (nE t n i)))) 8 (nI (nE t n (nE t n (nE t n i))))) 6 (nI (nV t n (nE t n (nE t n i)))))).1 6 = nI (nV t n (nE t n (nE t n i))) from rfl, ev_nx, show fC_Tape_needsNumber 0 40 (sA (sF (sF (sA (sF (sF (sA (sF (sF SC 8 (nI (nE t n i))) 6 (nI (nV t n i))) 27 (nI (y_D V)) (nI (nV t n i))) 8 (nI (nE t n (nE t n i)))) 6 (nI (nV t n (nE t n i)))) 28 (nI (y_D V)) (nI (nV t n (nE t n i)))) 8 (nI (nE t n (nE t n (nE t n i))))) 6 (nI (nV t n (nE t n (nE t n i))))) 29 (nI (y_D V)) (nI (nV t n (nE t n (nE t n i))))) = fC_Tape_needsNumber (nI 0) (nI 40) (sA (sF (sF (sA (sF (sF (sA (sF (sF SC 8 (nI (nE t n i))) 6 (nI (nV t n i))) 27 (nI (y_D V)) (nI (nV t n i))) 8 (nI (nE t n (nE t n i)))) 6 (nI (nV t n (nE t n i)))) 28 (nI (y_D V)) (nI (nV t n (nE t n i)))) 8 (nI (nE t n (nE t n (nE t n i))))) 6 (nI (nV t n (nE t n (nE t n i))))) 29 (nI (y_D V)) (nI (nV t n (nE t n (nE t n i))))) from rfl, e3, ev_I, if_neg (show ¬ (1 : Int32) = 0 by decide), show ((sF (sF (sA (sF (sF (sA (sF (sF (sA (sF (sF SC 8 (nI (nE t n i))) 6 (nI (nV t n i))) 27 (nI (y_D V)) (nI (nV t n i))) 8 (nI (nE t n (nE t n i)))) 6 (nI (nV t n (nE t n i)))) 28 (nI (y_D V)) (nI (nV t n (nE t n i)))) 8 (nI (nE t n (nE t n (nE t n i))))) 6 (nI (nV t n (nE t n (nE t n i))))) 29 (nI (y_D V)) (nI (nV t n (nE t n (nE t n i))))) 8 (nI (nE t n (nE t n (nE t n (nE t n i)))))) 6 (nI (nV t n (nE t n (nE t n (nE t n i))))))).1 16 = nI (y_D V) from c0, pz_gib (by omega) (by omega), show ((sF (sF (sA (sF (sF (sA (sF (sF (sA (sF (sF SC 8 (nI (nE t n i))) 6 (nI (nV t n i))) 27 (nI (y_D V)) (nI (nV t n i))) 8 (nI (nE t n (nE t n i)))) 6 (nI (nV t n (nE t n i)))) 28 (nI (y_D V)) (nI (nV t n (nE t n i)))) 8 (nI (nE t n (nE t n (nE t n i))))) 6 (nI (nV t n (nE t n (nE t n i))))) 29 (nI (y_D V)) (nI (nV t n (nE t n (nE t n i))))) 8 (nI (nE t n (nE t n (nE t n (nE t n i)))))) 6 (nI (nV t n (nE t n (nE t n (nE t n i))))))).1 6 = nI (nV t n (nE t n (nE t n (nE t n i)))) from rfl, ev_nx, ev_nx, show (sA (sF (sF (sA (sF (sF (sA (sF (sF (sA (sF (sF SC 8 (nI (nE t n i))) 6 (nI (nV t n i))) 27 (nI (y_D V)) (nI (nV t n i))) 8 (nI (nE t n (nE t n i)))) 6 (nI (nV t n (nE t n i)))) 28 (nI (y_D V)) (nI (nV t n (nE t n i)))) 8 (nI (nE t n (nE t n (nE t n i))))) 6 (nI (nV t n (nE t n (nE t n i))))) 29 (nI (y_D V)) (nI (nV t n (nE t n (nE t n i))))) 8 (nI (nE t n (nE t n (nE t n (nE t n i)))))) 6 (nI (nV t n (nE t n (nE t n (nE t n i)))))) 30 (nI (y_D V)) (nI (nV t n (nE t n (nE t n (nE t n i)))))).1 16 = nI (y_D V) from c0, nI_1]
          · rw [fR_readRow, r_of (wk_all 22 (by decide)) (by decide), ev_I, if_neg hw22, of_v212, r_of (wk_all 23 (by decide)) (by decide), ev_I, if_neg hw23, of_v213, r_of (wk_all 24 (by decide)) (by decide), ev_I, if_pos hx, show SR.1 9 = nI (y_M V) from dR.2.1, show fR_readNumber 0 (nI (y_M V) - 1) SR = fR_readNumber (nI 0) (nI (y_M V) - 1) SR from rfl, f0, ev_I, show SR.1 10 = nI (y_D V) from r0, show (4 : Int32) = nI 4 from rfl, pk_mul, pz_gib (by omega) (by omega), ev_nx, show (sA (sF SR 3 (nI (nE t n i))) 5 (nI (4 * (y_D V))) (nI (nV t n i))).1 8 = nI (y_P V) from dR.1, show fR_readNumber 0 (nI (y_P V) - 1) (sA (sF SR 3 (nI (nE t n i))) 5 (nI (4 * (y_D V))) (nI (nV t n i))) = fR_readNumber (nI 0) (nI (y_P V) - 1) (sA (sF SR 3 (nI (nE t n i))) 5 (nI (4 * (y_D V))) (nI (nV t n i))) from rfl, f1, ev_I, show (sA (sF SR 3 (nI (nE t n i))) 5 (nI (4 * (y_D V))) (nI (nV t n i))).1 10 = nI (y_D V) from r0, pk_mul, show (1 : Int32) = nI 1 from rfl, nI_add, pz_gib (by omega) (by omega), ev_nx, show fR_readNumber 0 3 (sA (sF (sA (sF SR 3 (nI (nE t n i))) 5 (nI (4 * (y_D V))) (nI (nV t n i))) 3 (nI (nE t n (nE t n i)))) 5 (nI (4 * (y_D V) + 1)) (nI (nV t n (nE t n i)))) = fR_readNumber (nI 0) (nI 3) (sA (sF (sA (sF SR 3 (nI (nE t n i))) 5 (nI (4 * (y_D V))) (nI (nV t n i))) 3 (nI (nE t n (nE t n i)))) 5 (nI (4 * (y_D V) + 1)) (nI (nV t n (nE t n i)))) from rfl, f2, ev_I, show (sA (sF (sA (sF SR 3 (nI (nE t n i))) 5 (nI (4 * (y_D V))) (nI (nV t n i))) 3 (nI (nE t n (nE t n i)))) 5 (nI (4 * (y_D V) + 1)) (nI (nV t n (nE t n i)))).1 10 = nI (y_D V) from r0, pk_mul, show (2 : Int32) = nI 2 from rfl, nI_add, pz_gib (by omega) (by omega), ev_nx, show fR_readNumber 0 40 (sA (sF (sA (sF (sA (sF SR 3 (nI (nE t n i))) 5 (nI (4 * (y_D V))) (nI (nV t n i))) 3 (nI (nE t n (nE t n i)))) 5 (nI (4 * (y_D V) + 1)) (nI (nV t n (nE t n i)))) 3 (nI (nE t n (nE t n (nE t n i))))) 5 (nI (4 * (y_D V) + 2)) (nI (nV t n (nE t n (nE t n i))))) = fR_readNumber (nI 0) (nI 40) (sA (sF (sA (sF (sA (sF SR 3 (nI (nE t n i))) 5 (nI (4 * (y_D V))) (nI (nV t n i))) 3 (nI (nE t n (nE t n i)))) 5 (nI (4 * (y_D V) + 1)) (nI (nV t n (nE t n i)))) 3 (nI (nE t n (nE t n (nE t n i))))) 5 (nI (4 * (y_D V) + 2)) (nI (nV t n (nE t n (nE t n i))))) from rfl, f3, ev_I, show (sA (sF (sA (sF (sA (sF SR 3 (nI (nE t n i))) 5 (nI (4 * (y_D V))) (nI (nV t n i))) 3 (nI (nE t n (nE t n i)))) 5 (nI (4 * (y_D V) + 1)) (nI (nV t n (nE t n i)))) 3 (nI (nE t n (nE t n (nE t n i))))) 5 (nI (4 * (y_D V) + 2)) (nI (nV t n (nE t n (nE t n i))))).1 10 = nI (y_D V) from r0, pk_mul, show (3 : Int32) = nI 3 from rfl, nI_add, pz_gib (by omega) (by omega), ev_nx, show (sA (sF (sA (sF (sA (sF (sA (sF SR 3 (nI (nE t n i))) 5 (nI (4 * (y_D V))) (nI (nV t n i))) 3 (nI (nE t n (nE t n i)))) 5 (nI (4 * (y_D V) + 1)) (nI (nV t n (nE t n i)))) 3 (nI (nE t n (nE t n (nE t n i))))) 5 (nI (4 * (y_D V) + 2)) (nI (nV t n (nE t n (nE t n i))))) 3 (nI (nE t n (nE t n (nE t n (nE t n i)))))) 5 (nI (4 * (y_D V) + 3)) (nI (nV t n (nE t n (nE t n (nE t n i)))))).1 10 = nI (y_D V) from r0, nI_add, ev_nx]
          · exact ((((((((((((frm.rf.F (by simp)).F (by simp)).A (by simp)).F (by simp)).F (by simp)).A (by simp)).F (by simp)).F (by simp)).A (by simp)).F (by simp)).F (by simp)).A (by simp)).F (by simp)
          · exact ((((((((frm.rf.F (by simp)).A (by simp)).F (by simp)).A (by simp)).F (by simp)).A (by simp)).F (by simp)).A (by simp)).F (by simp)
          · exact DC_debt dC hlt ok0.2.1 ok0.2.2 ok1.2.1 ok1.2.2 ok2.2.1 ok2.2.2 ok3.2.1 ok3.2.2
          · exact DR_debt dR dC hlt
        · obtain ⟨T1, e3, t5, t4, gT⟩ := kc3.2 ok3
          obtain ⟨U1, f3, u4, u5, gU⟩ := kr3.2 ok3
          have hq : nS t n (nE t n (nE t n (nE t n i))) ≤ n := nS_le C3.2.2.1
          have rU : U1.1 10 = nI (y_D V) := (gU.1 10 (by simp)).trans r0
          refine Or.inr ⟨nS t n (nE t n (nE t n (nE t n i))), nK t n (nE t n (nE t n (nE t n i))), T1, (sF (sA U1 5 (nI (4 * (y_D V) + 3)) 0) 10 (nI (y_D V + 1))), ?_, ?_, by omega, t5, t4, u4, u5, ?_, ?_⟩
          · rw [fC_Valley_readDebt_3, show SC.1 15 = nI (y_M V) from dC.2.1, show fC_Tape_needsNumber 0 (nI (y_M V) - 1) SC = fC_Tape_needsNumber (nI 0) (nI (y_M V) - 1) SC from rfl, e0, ev_I, if_neg (show ¬ (1 : Int32) = 0 by decide), show ((sF (sF SC 8 (nI (nE t n i))) 6 (nI (nV t n i)))).1 16 = nI (y_D V) from c0, pz_gib (by omega) (by omega), show ((sF (sF SC 8 (nI (nE t n i))) 6 (nI (nV t n i)))).1 6 = nI (nV t n i) from rfl, ev_nx, show (sA (sF (sF SC 8 (nI (nE t n i))) 6 (nI (nV t n i))) 27 (nI (y_D V)) (nI (nV t n i))).1 14 = nI (y_P V) from dC.1, show fC_Tape_needsNumber 0 (nI (y_P V) - 1) (sA (sF (sF SC 8 (nI (nE t n i))) 6 (nI (nV t n i))) 27 (nI (y_D V)) (nI (nV t n i))) = fC_Tape_needsNumber (nI 0) (nI (y_P V) - 1) (sA (sF (sF SC 8 (nI (nE t n i))) 6 (nI (nV t n i))) 27 (nI (y_D V)) (nI (nV t n i))) from rfl, e1, ev_I, if_neg (show ¬ (1 : Int32) = 0 by decide), show ((sF (sF (sA (sF (sF SC 8 (nI (nE t n i))) 6 (nI (nV t n i))) 27 (nI (y_D V)) (nI (nV t n i))) 8 (nI (nE t n (nE t n i)))) 6 (nI (nV t n (nE t n i))))).1 16 = nI (y_D V) from c0, pz_gib (by omega) (by omega), show ((sF (sF (sA (sF (sF SC 8 (nI (nE t n i))) 6 (nI (nV t n i))) 27 (nI (y_D V)) (nI (nV t n i))) 8 (nI (nE t n (nE t n i)))) 6 (nI (nV t n (nE t n i))))).1 6 = nI (nV t n (nE t n i)) from rfl, ev_nx, show fC_Tape_needsNumber 0 3 (sA (sF (sF (sA (sF (sF SC 8 (nI (nE t n i))) 6 (nI (nV t n i))) 27 (nI (y_D V)) (nI (nV t n i))) 8 (nI (nE t n (nE t n i)))) 6 (nI (nV t n (nE t n i)))) 28 (nI (y_D V)) (nI (nV t n (nE t n i)))) = fC_Tape_needsNumber (nI 0) (nI 3) (sA (sF (sF (sA (sF (sF SC 8 (nI (nE t n i))) 6 (nI (nV t n i))) 27 (nI (y_D V)) (nI (nV t n i))) 8 (nI (nE t n (nE t n i)))) 6 (nI (nV t n (nE t n i)))) 28 (nI (y_D V)) (nI (nV t n (nE t n i)))) from rfl, e2, ev_I, if_neg (show ¬ (1 : Int32) = 0 by decide), show ((sF (sF (sA (sF (sF (sA (sF (sF SC 8 (nI (nE t n i))) 6 (nI (nV t n i))) 27 (nI (y_D V)) (nI (nV t n i))) 8 (nI (nE t n (nE t n i)))) 6 (nI (nV t n (nE t n i)))) 28 (nI (y_D V)) (nI (nV t n (nE t n i)))) 8 (nI (nE t n (nE t n (nE t n i))))) 6 (nI (nV t n (nE t n (nE t n i)))))).1 16 = nI (y_D V) from c0, pz_gib (by omega) (by omega), show ((sF (sF (sA (sF (sF (sA (sF (sF SC 8 (nI (nE t n i))) 6 (nI (nV t n i))) 27 (nI (y_D V)) (nI (nV t n i))) 8 (nI (nE t n (nE t n i)))) 6 (nI (nV t n (nE t n i)))) 28 (nI (y_D V)) (nI (nV t n (nE t n i)))) 8 (nI (nE t n (nE t n (nE t n i))))) 6 (nI (nV t n (nE t n (nE t n i)))))).1 6 = nI (nV t n (nE t n (nE t n i))) from rfl, ev_nx, show fC_Tape_needsNumber 0 40 (sA (sF (sF (sA (sF (sF (sA (sF (sF SC 8 (nI (nE t n i))) 6 (nI (nV t n i))) 27 (nI (y_D V)) (nI (nV t n i))) 8 (nI (nE t n (nE t n i)))) 6 (nI (nV t n (nE t n i)))) 28 (nI (y_D V)) (nI (nV t n (nE t n i)))) 8 (nI (nE t n (nE t n (nE t n i))))) 6 (nI (nV t n (nE t n (nE t n i))))) 29 (nI (y_D V)) (nI (nV t n (nE t n (nE t n i))))) = fC_Tape_needsNumber (nI 0) (nI 40) (sA (sF (sF (sA (sF (sF (sA (sF (sF SC 8 (nI (nE t n i))) 6 (nI (nV t n i))) 27 (nI (y_D V)) (nI (nV t n i))) 8 (nI (nE t n (nE t n i)))) 6 (nI (nV t n (nE t n i)))) 28 (nI (y_D V)) (nI (nV t n (nE t n i)))) 8 (nI (nE t n (nE t n (nE t n i))))) 6 (nI (nV t n (nE t n (nE t n i))))) 29 (nI (y_D V)) (nI (nV t n (nE t n (nE t n i))))) from rfl, e3, ev_I, if_pos rfl]
          · rw [fR_readRow, r_of (wk_all 22 (by decide)) (by decide), ev_I, if_neg hw22, of_v212, r_of (wk_all 23 (by decide)) (by decide), ev_I, if_neg hw23, of_v213, r_of (wk_all 24 (by decide)) (by decide), ev_I, if_pos hx, show SR.1 9 = nI (y_M V) from dR.2.1, show fR_readNumber 0 (nI (y_M V) - 1) SR = fR_readNumber (nI 0) (nI (y_M V) - 1) SR from rfl, f0, ev_I, show SR.1 10 = nI (y_D V) from r0, show (4 : Int32) = nI 4 from rfl, pk_mul, pz_gib (by omega) (by omega), ev_nx, show (sA (sF SR 3 (nI (nE t n i))) 5 (nI (4 * (y_D V))) (nI (nV t n i))).1 8 = nI (y_P V) from dR.1, show fR_readNumber 0 (nI (y_P V) - 1) (sA (sF SR 3 (nI (nE t n i))) 5 (nI (4 * (y_D V))) (nI (nV t n i))) = fR_readNumber (nI 0) (nI (y_P V) - 1) (sA (sF SR 3 (nI (nE t n i))) 5 (nI (4 * (y_D V))) (nI (nV t n i))) from rfl, f1, ev_I, show (sA (sF SR 3 (nI (nE t n i))) 5 (nI (4 * (y_D V))) (nI (nV t n i))).1 10 = nI (y_D V) from r0, pk_mul, show (1 : Int32) = nI 1 from rfl, nI_add, pz_gib (by omega) (by omega), ev_nx, show fR_readNumber 0 3 (sA (sF (sA (sF SR 3 (nI (nE t n i))) 5 (nI (4 * (y_D V))) (nI (nV t n i))) 3 (nI (nE t n (nE t n i)))) 5 (nI (4 * (y_D V) + 1)) (nI (nV t n (nE t n i)))) = fR_readNumber (nI 0) (nI 3) (sA (sF (sA (sF SR 3 (nI (nE t n i))) 5 (nI (4 * (y_D V))) (nI (nV t n i))) 3 (nI (nE t n (nE t n i)))) 5 (nI (4 * (y_D V) + 1)) (nI (nV t n (nE t n i)))) from rfl, f2, ev_I, show (sA (sF (sA (sF SR 3 (nI (nE t n i))) 5 (nI (4 * (y_D V))) (nI (nV t n i))) 3 (nI (nE t n (nE t n i)))) 5 (nI (4 * (y_D V) + 1)) (nI (nV t n (nE t n i)))).1 10 = nI (y_D V) from r0, pk_mul, show (2 : Int32) = nI 2 from rfl, nI_add, pz_gib (by omega) (by omega), ev_nx, show fR_readNumber 0 40 (sA (sF (sA (sF (sA (sF SR 3 (nI (nE t n i))) 5 (nI (4 * (y_D V))) (nI (nV t n i))) 3 (nI (nE t n (nE t n i)))) 5 (nI (4 * (y_D V) + 1)) (nI (nV t n (nE t n i)))) 3 (nI (nE t n (nE t n (nE t n i))))) 5 (nI (4 * (y_D V) + 2)) (nI (nV t n (nE t n (nE t n i))))) = fR_readNumber (nI 0) (nI 40) (sA (sF (sA (sF (sA (sF SR 3 (nI (nE t n i))) 5 (nI (4 * (y_D V))) (nI (nV t n i))) 3 (nI (nE t n (nE t n i)))) 5 (nI (4 * (y_D V) + 1)) (nI (nV t n (nE t n i)))) 3 (nI (nE t n (nE t n (nE t n i))))) 5 (nI (4 * (y_D V) + 2)) (nI (nV t n (nE t n (nE t n i))))) from rfl, f3, ev_I, show (sA (sF (sA (sF (sA (sF SR 3 (nI (nE t n i))) 5 (nI (4 * (y_D V))) (nI (nV t n i))) 3 (nI (nE t n (nE t n i)))) 5 (nI (4 * (y_D V) + 1)) (nI (nV t n (nE t n i)))) 3 (nI (nE t n (nE t n (nE t n i))))) 5 (nI (4 * (y_D V) + 2)) (nI (nV t n (nE t n (nE t n i))))).1 10 = nI (y_D V) from r0, pk_mul, show (3 : Int32) = nI 3 from rfl, nI_add, pz_gib (by omega) (by omega), ev_nx, show (sA U1 5 (nI (4 * (y_D V) + 3)) 0).1 10 = nI (y_D V) from rU, nI_add, ev_nx]
          · exact ((((((((((frm.rf.F (by simp)).F (by simp)).A (by simp)).F (by simp)).F (by simp)).A (by simp)).F (by simp)).F (by simp)).A (by simp))).tr (gT.wide (by simp) (by simp))
          · exact (((((((((frm.rf.F (by simp)).A (by simp)).F (by simp)).A (by simp)).F (by simp)).A (by simp))).tr (gU.wide (by simp) (by simp))).A (by simp)).F (by simp)
      · obtain ⟨T1, e2, t5, t4, gT⟩ := kc2.2 ok2
        obtain ⟨U1, f2, u4, u5, gU⟩ := kr2.2 ok2
        have hq : nS t n (nE t n (nE t n i)) ≤ n := nS_le C2.2.2.1
        have rU : U1.1 10 = nI (y_D V) := (gU.1 10 (by simp)).trans r0
        refine Or.inr ⟨nS t n (nE t n (nE t n i)), nK t n (nE t n (nE t n i)), T1, (sF (sA (sA U1 5 (nI (4 * (y_D V) + 2)) 0) 5 (nI (4 * (y_D V) + 3)) 0) 10 (nI (y_D V + 1))), ?_, ?_, by omega, t5, t4, u4, u5, ?_, ?_⟩
        · rw [fC_Valley_readDebt_3, show SC.1 15 = nI (y_M V) from dC.2.1, show fC_Tape_needsNumber 0 (nI (y_M V) - 1) SC = fC_Tape_needsNumber (nI 0) (nI (y_M V) - 1) SC from rfl, e0, ev_I, if_neg (show ¬ (1 : Int32) = 0 by decide), show ((sF (sF SC 8 (nI (nE t n i))) 6 (nI (nV t n i)))).1 16 = nI (y_D V) from c0, pz_gib (by omega) (by omega), show ((sF (sF SC 8 (nI (nE t n i))) 6 (nI (nV t n i)))).1 6 = nI (nV t n i) from rfl, ev_nx, show (sA (sF (sF SC 8 (nI (nE t n i))) 6 (nI (nV t n i))) 27 (nI (y_D V)) (nI (nV t n i))).1 14 = nI (y_P V) from dC.1, show fC_Tape_needsNumber 0 (nI (y_P V) - 1) (sA (sF (sF SC 8 (nI (nE t n i))) 6 (nI (nV t n i))) 27 (nI (y_D V)) (nI (nV t n i))) = fC_Tape_needsNumber (nI 0) (nI (y_P V) - 1) (sA (sF (sF SC 8 (nI (nE t n i))) 6 (nI (nV t n i))) 27 (nI (y_D V)) (nI (nV t n i))) from rfl, e1, ev_I, if_neg (show ¬ (1 : Int32) = 0 by decide), show ((sF (sF (sA (sF (sF SC 8 (nI (nE t n i))) 6 (nI (nV t n i))) 27 (nI (y_D V)) (nI (nV t n i))) 8 (nI (nE t n (nE t n i)))) 6 (nI (nV t n (nE t n i))))).1 16 = nI (y_D V) from c0, pz_gib (by omega) (by omega), show ((sF (sF (sA (sF (sF SC 8 (nI (nE t n i))) 6 (nI (nV t n i))) 27 (nI (y_D V)) (nI (nV t n i))) 8 (nI (nE t n (nE t n i)))) 6 (nI (nV t n (nE t n i))))).1 6 = nI (nV t n (nE t n i)) from rfl, ev_nx, show fC_Tape_needsNumber 0 3 (sA (sF (sF (sA (sF (sF SC 8 (nI (nE t n i))) 6 (nI (nV t n i))) 27 (nI (y_D V)) (nI (nV t n i))) 8 (nI (nE t n (nE t n i)))) 6 (nI (nV t n (nE t n i)))) 28 (nI (y_D V)) (nI (nV t n (nE t n i)))) = fC_Tape_needsNumber (nI 0) (nI 3) (sA (sF (sF (sA (sF (sF SC 8 (nI (nE t n i))) 6 (nI (nV t n i))) 27 (nI (y_D V)) (nI (nV t n i))) 8 (nI (nE t n (nE t n i)))) 6 (nI (nV t n (nE t n i)))) 28 (nI (y_D V)) (nI (nV t n (nE t n i)))) from rfl, e2, ev_I, if_pos rfl]
        · rw [fR_readRow, r_of (wk_all 22 (by decide)) (by decide), ev_I, if_neg hw22, of_v212, r_of (wk_all 23 (by decide)) (by decide), ev_I, if_neg hw23, of_v213, r_of (wk_all 24 (by decide)) (by decide), ev_I, if_pos hx, show SR.1 9 = nI (y_M V) from dR.2.1, show fR_readNumber 0 (nI (y_M V) - 1) SR = fR_readNumber (nI 0) (nI (y_M V) - 1) SR from rfl, f0, ev_I, show SR.1 10 = nI (y_D V) from r0, show (4 : Int32) = nI 4 from rfl, pk_mul, pz_gib (by omega) (by omega), ev_nx, show (sA (sF SR 3 (nI (nE t n i))) 5 (nI (4 * (y_D V))) (nI (nV t n i))).1 8 = nI (y_P V) from dR.1, show fR_readNumber 0 (nI (y_P V) - 1) (sA (sF SR 3 (nI (nE t n i))) 5 (nI (4 * (y_D V))) (nI (nV t n i))) = fR_readNumber (nI 0) (nI (y_P V) - 1) (sA (sF SR 3 (nI (nE t n i))) 5 (nI (4 * (y_D V))) (nI (nV t n i))) from rfl, f1, ev_I, show (sA (sF SR 3 (nI (nE t n i))) 5 (nI (4 * (y_D V))) (nI (nV t n i))).1 10 = nI (y_D V) from r0, pk_mul, show (1 : Int32) = nI 1 from rfl, nI_add, pz_gib (by omega) (by omega), ev_nx, show fR_readNumber 0 3 (sA (sF (sA (sF SR 3 (nI (nE t n i))) 5 (nI (4 * (y_D V))) (nI (nV t n i))) 3 (nI (nE t n (nE t n i)))) 5 (nI (4 * (y_D V) + 1)) (nI (nV t n (nE t n i)))) = fR_readNumber (nI 0) (nI 3) (sA (sF (sA (sF SR 3 (nI (nE t n i))) 5 (nI (4 * (y_D V))) (nI (nV t n i))) 3 (nI (nE t n (nE t n i)))) 5 (nI (4 * (y_D V) + 1)) (nI (nV t n (nE t n i)))) from rfl, f2, ev_I, show (sA (sF (sA (sF SR 3 (nI (nE t n i))) 5 (nI (4 * (y_D V))) (nI (nV t n i))) 3 (nI (nE t n (nE t n i)))) 5 (nI (4 * (y_D V) + 1)) (nI (nV t n (nE t n i)))).1 10 = nI (y_D V) from r0, pk_mul, show (2 : Int32) = nI 2 from rfl, nI_add, pz_gib (by omega) (by omega), ev_nx, r_num_bad (S := (sA U1 5 (nI (4 * (y_D V) + 2)) 0)) (p := nS t n (nE t n (nE t n i))) _ _ (by omega) u4, ev_I, show (sA U1 5 (nI (4 * (y_D V) + 2)) 0).1 10 = nI (y_D V) from rU, pk_mul, show (3 : Int32) = nI 3 from rfl, nI_add, pz_gib (by omega) (by omega), ev_nx, show (sA (sA U1 5 (nI (4 * (y_D V) + 2)) 0) 5 (nI (4 * (y_D V) + 3)) 0).1 10 = nI (y_D V) from rU, nI_add, ev_nx]
        · exact (((((((frm.rf.F (by simp)).F (by simp)).A (by simp)).F (by simp)).F (by simp)).A (by simp))).tr (gT.wide (by simp) (by simp))
        · exact ((((((((frm.rf.F (by simp)).A (by simp)).F (by simp)).A (by simp))).tr (gU.wide (by simp) (by simp))).A (by simp)).A (by simp)).F (by simp)
    · obtain ⟨T1, e1, t5, t4, gT⟩ := kc1.2 ok1
      obtain ⟨U1, f1, u4, u5, gU⟩ := kr1.2 ok1
      have hq : nS t n (nE t n i) ≤ n := nS_le C1.2.2.1
      have rU : U1.1 10 = nI (y_D V) := (gU.1 10 (by simp)).trans r0
      refine Or.inr ⟨nS t n (nE t n i), nK t n (nE t n i), T1, (sF (sA (sA (sA U1 5 (nI (4 * (y_D V) + 1)) 0) 5 (nI (4 * (y_D V) + 2)) 0) 5 (nI (4 * (y_D V) + 3)) 0) 10 (nI (y_D V + 1))), ?_, ?_, by omega, t5, t4, u4, u5, ?_, ?_⟩
      · rw [fC_Valley_readDebt_3, show SC.1 15 = nI (y_M V) from dC.2.1, show fC_Tape_needsNumber 0 (nI (y_M V) - 1) SC = fC_Tape_needsNumber (nI 0) (nI (y_M V) - 1) SC from rfl, e0, ev_I, if_neg (show ¬ (1 : Int32) = 0 by decide), show ((sF (sF SC 8 (nI (nE t n i))) 6 (nI (nV t n i)))).1 16 = nI (y_D V) from c0, pz_gib (by omega) (by omega), show ((sF (sF SC 8 (nI (nE t n i))) 6 (nI (nV t n i)))).1 6 = nI (nV t n i) from rfl, ev_nx, show (sA (sF (sF SC 8 (nI (nE t n i))) 6 (nI (nV t n i))) 27 (nI (y_D V)) (nI (nV t n i))).1 14 = nI (y_P V) from dC.1, show fC_Tape_needsNumber 0 (nI (y_P V) - 1) (sA (sF (sF SC 8 (nI (nE t n i))) 6 (nI (nV t n i))) 27 (nI (y_D V)) (nI (nV t n i))) = fC_Tape_needsNumber (nI 0) (nI (y_P V) - 1) (sA (sF (sF SC 8 (nI (nE t n i))) 6 (nI (nV t n i))) 27 (nI (y_D V)) (nI (nV t n i))) from rfl, e1, ev_I, if_pos rfl]
      · rw [fR_readRow, r_of (wk_all 22 (by decide)) (by decide), ev_I, if_neg hw22, of_v212, r_of (wk_all 23 (by decide)) (by decide), ev_I, if_neg hw23, of_v213, r_of (wk_all 24 (by decide)) (by decide), ev_I, if_pos hx, show SR.1 9 = nI (y_M V) from dR.2.1, show fR_readNumber 0 (nI (y_M V) - 1) SR = fR_readNumber (nI 0) (nI (y_M V) - 1) SR from rfl, f0, ev_I, show SR.1 10 = nI (y_D V) from r0, show (4 : Int32) = nI 4 from rfl, pk_mul, pz_gib (by omega) (by omega), ev_nx, show (sA (sF SR 3 (nI (nE t n i))) 5 (nI (4 * (y_D V))) (nI (nV t n i))).1 8 = nI (y_P V) from dR.1, show fR_readNumber 0 (nI (y_P V) - 1) (sA (sF SR 3 (nI (nE t n i))) 5 (nI (4 * (y_D V))) (nI (nV t n i))) = fR_readNumber (nI 0) (nI (y_P V) - 1) (sA (sF SR 3 (nI (nE t n i))) 5 (nI (4 * (y_D V))) (nI (nV t n i))) from rfl, f1, ev_I, show (sA (sF SR 3 (nI (nE t n i))) 5 (nI (4 * (y_D V))) (nI (nV t n i))).1 10 = nI (y_D V) from r0, pk_mul, show (1 : Int32) = nI 1 from rfl, nI_add, pz_gib (by omega) (by omega), ev_nx, r_num_bad (S := (sA U1 5 (nI (4 * (y_D V) + 1)) 0)) (p := nS t n (nE t n i)) _ _ (by omega) u4, ev_I, show (sA U1 5 (nI (4 * (y_D V) + 1)) 0).1 10 = nI (y_D V) from rU, pk_mul, show (2 : Int32) = nI 2 from rfl, nI_add, pz_gib (by omega) (by omega), ev_nx, r_num_bad (S := (sA (sA U1 5 (nI (4 * (y_D V) + 1)) 0) 5 (nI (4 * (y_D V) + 2)) 0)) (p := nS t n (nE t n i)) _ _ (by omega) u4, ev_I, show (sA (sA U1 5 (nI (4 * (y_D V) + 1)) 0) 5 (nI (4 * (y_D V) + 2)) 0).1 10 = nI (y_D V) from rU, pk_mul, show (3 : Int32) = nI 3 from rfl, nI_add, pz_gib (by omega) (by omega), ev_nx, show (sA (sA (sA U1 5 (nI (4 * (y_D V) + 1)) 0) 5 (nI (4 * (y_D V) + 2)) 0) 5 (nI (4 * (y_D V) + 3)) 0).1 10 = nI (y_D V) from rU, nI_add, ev_nx]
      · exact ((((frm.rf.F (by simp)).F (by simp)).A (by simp))).tr (gT.wide (by simp) (by simp))
      · exact (((((((frm.rf.F (by simp)).A (by simp))).tr (gU.wide (by simp) (by simp))).A (by simp)).A (by simp)).A (by simp)).F (by simp)
  · obtain ⟨T1, e0, t5, t4, gT⟩ := kc0.2 ok0
    obtain ⟨U1, f0, u4, u5, gU⟩ := kr0.2 ok0
    have hq : nS t n i ≤ n := nS_le C0.2.2.1
    have rU : U1.1 10 = nI (y_D V) := (gU.1 10 (by simp)).trans r0
    refine Or.inr ⟨nS t n i, nK t n i, T1, (sF (sA (sA (sA (sA U1 5 (nI (4 * (y_D V))) 0) 5 (nI (4 * (y_D V) + 1)) 0) 5 (nI (4 * (y_D V) + 2)) 0) 5 (nI (4 * (y_D V) + 3)) 0) 10 (nI (y_D V + 1))), ?_, ?_, by omega, t5, t4, u4, u5, ?_, ?_⟩
    · rw [fC_Valley_readDebt_3, show SC.1 15 = nI (y_M V) from dC.2.1, show fC_Tape_needsNumber 0 (nI (y_M V) - 1) SC = fC_Tape_needsNumber (nI 0) (nI (y_M V) - 1) SC from rfl, e0, ev_I, if_pos rfl]
    · rw [fR_readRow, r_of (wk_all 22 (by decide)) (by decide), ev_I, if_neg hw22, of_v212, r_of (wk_all 23 (by decide)) (by decide), ev_I, if_neg hw23, of_v213, r_of (wk_all 24 (by decide)) (by decide), ev_I, if_pos hx, show SR.1 9 = nI (y_M V) from dR.2.1, show fR_readNumber 0 (nI (y_M V) - 1) SR = fR_readNumber (nI 0) (nI (y_M V) - 1) SR from rfl, f0, ev_I, show SR.1 10 = nI (y_D V) from r0, show (4 : Int32) = nI 4 from rfl, pk_mul, pz_gib (by omega) (by omega), ev_nx, r_num_bad (S := (sA U1 5 (nI (4 * (y_D V))) 0)) (p := nS t n i) _ _ (by omega) u4, ev_I, show (sA U1 5 (nI (4 * (y_D V))) 0).1 10 = nI (y_D V) from rU, pk_mul, show (1 : Int32) = nI 1 from rfl, nI_add, pz_gib (by omega) (by omega), ev_nx, r_num_bad (S := (sA (sA U1 5 (nI (4 * (y_D V))) 0) 5 (nI (4 * (y_D V) + 1)) 0)) (p := nS t n i) _ _ (by omega) u4, ev_I, show (sA (sA U1 5 (nI (4 * (y_D V))) 0) 5 (nI (4 * (y_D V) + 1)) 0).1 10 = nI (y_D V) from rU, pk_mul, show (2 : Int32) = nI 2 from rfl, nI_add, pz_gib (by omega) (by omega), ev_nx, r_num_bad (S := (sA (sA (sA U1 5 (nI (4 * (y_D V))) 0) 5 (nI (4 * (y_D V) + 1)) 0) 5 (nI (4 * (y_D V) + 2)) 0)) (p := nS t n i) _ _ (by omega) u4, ev_I, show (sA (sA (sA U1 5 (nI (4 * (y_D V))) 0) 5 (nI (4 * (y_D V) + 1)) 0) 5 (nI (4 * (y_D V) + 2)) 0).1 10 = nI (y_D V) from rU, pk_mul, show (3 : Int32) = nI 3 from rfl, nI_add, pz_gib (by omega) (by omega), ev_nx, show (sA (sA (sA (sA U1 5 (nI (4 * (y_D V))) 0) 5 (nI (4 * (y_D V) + 1)) 0) 5 (nI (4 * (y_D V) + 2)) 0) 5 (nI (4 * (y_D V) + 3)) 0).1 10 = nI (y_D V) from rU, nI_add, ev_nx]
    · exact (frm.rf (S := SC)).tr (gT.wide (by simp) (by simp))
    · exact ((((((frm.rf (S := SR)).tr (gU.wide (by simp) (by simp))).A (by simp)).A (by simp)).A (by simp)).A (by simp)).F (by simp)
end PV6
