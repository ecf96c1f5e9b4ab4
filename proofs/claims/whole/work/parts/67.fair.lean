/-! fair, kept (written by wip/whole/pure/p67.py) -/
section PQ
variable {SC SR S T U : St} {f u : Oz} {X : Nat → St → Oz} {b c x : Int32}
def fairV (v w x : Int32) : Int32 := if x = 0 then (if v < w then 3 else if w < v then 2 else 4) else if x = 1 then (if v < w then 1 else 0) else (if v < w then 0 + w else v + v)
theorem c_sh00 {v w : Int32} : fC_Main_fairShare 0 0 v w S = some (rI v, S) := by rw [fC_Main_fairShare, if_neg (by decide), if_pos rfl]
theorem r_has00 {v w : Int32} : fR_hasBy 0 0 v w S = some (rI v, S) := by rw [fR_hasBy, if_pos rfl, if_pos rfl]
theorem c_sh01 {v w : Int32} : fC_Main_fairShare 0 1 v w S = some (rI 0, S) := by rw [fC_Main_fairShare, if_pos rfl]
theorem r_has01 {v w : Int32} : fR_hasBy 0 1 v w S = some (rI 0, S) := by rw [fR_hasBy, if_neg (by decide), if_pos rfl]
theorem c_sh10 {v w : Int32} : fC_Main_fairShare 1 0 v w S = some (rI w, S) := by rw [fC_Main_fairShare, if_neg (by decide), if_neg (by decide)]
theorem r_has10 {v w : Int32} : fR_hasBy 1 0 v w S = some (rI w, S) := by rw [fR_hasBy, if_neg (by decide), if_neg (by decide)]
theorem c_sh11 {v w : Int32} : fC_Main_fairShare 1 1 v w S = some (rI 0, S) := by rw [fC_Main_fairShare, if_pos rfl]
theorem r_has11 {v w : Int32} : fR_hasBy 1 1 v w S = some (rI 0, S) := by rw [fR_hasBy, if_pos rfl, if_neg (by decide)]
theorem e_fair_50 (v w x : Int32) (S : St) : fC_Main_fair_50 FU v w x 0 (-1) 0 0 S = some (rI (fairV v w x), S) := by
  obtain ⟨m, hm⟩ : ∃ m, FU = m + 1 + 1 + 1 := ⟨1997, rfl⟩
  rw [hm]
  by_cases h1 : v < w
  · have h2 : ¬ w < v := Int32.not_lt.mpr (Int32.le_of_lt h1)
    rw [fC_Main_fair_50, if_neg (show ¬ (1 : Int32) < 0 by decide), hm]
    rw [fC_Main_fair_59, if_neg (show ¬ (1 : Int32) < 0 by decide), c_sh00, ev_I, c_sh00, ev_I, show (1 : Int32) - 0 = 1 from rfl, c_sh10, ev_I, if_pos h1, show (0 : Int32) + 1 = 1 from rfl]
    rw [fC_Main_fair_59, if_neg (show ¬ (1 : Int32) < 1 by decide), c_sh01, ev_I, c_sh10, ev_I, show (1 : Int32) - 0 = 1 from rfl, c_sh11, ev_I, if_neg (show ¬ (0 : Int32) < 0 from Int32.not_lt.mpr (Int32.le_refl _)), show (1 : Int32) - 1 = 0 from rfl, c_sh00, ev_I, if_neg h2, if_pos rfl, ev_nx, ev_nx, show (10 : Int32) * 0 + 1 = 1 from rfl, show (0 : Int32) + 1 = 1 from rfl, show (1 : Int32) + 1 = 2 from rfl]
    rw [fC_Main_fair_59, if_pos (show (1 : Int32) < 2 by decide), show (0 : Int32) + 1 = 1 from rfl]
    rw [fC_Main_fair_50, if_neg (show ¬ (1 : Int32) < 1 by decide), hm]
    rw [fC_Main_fair_59, if_neg (show ¬ (1 : Int32) < 0 by decide), c_sh10, ev_I, c_sh01, ev_I, show (1 : Int32) - 1 = 0 from rfl, c_sh00, ev_I, if_neg h2, show (1 : Int32) - 0 = 1 from rfl, c_sh11, ev_I, if_neg (show ¬ (0 : Int32) < 0 from Int32.not_lt.mpr (Int32.le_refl _)), if_neg (show ¬ (1 : Int32) = -1 by decide), show (1 : Int32) + 1 = 2 from rfl, show (0 : Int32) + 1 = 1 from rfl]
    rw [fC_Main_fair_59, if_neg (show ¬ (1 : Int32) < 1 by decide), c_sh11, ev_I, c_sh11, ev_I, show (1 : Int32) - 1 = 0 from rfl, c_sh01, ev_I, if_neg (show ¬ (0 : Int32) < 0 from Int32.not_lt.mpr (Int32.le_refl _)), c_sh01, ev_I, if_neg (show ¬ (0 : Int32) < 0 from Int32.not_lt.mpr (Int32.le_refl _)), if_neg (show ¬ (1 : Int32) = -1 by decide), show (2 : Int32) + 1 = 3 from rfl, show (1 : Int32) + 1 = 2 from rfl]
    rw [fC_Main_fair_59, if_pos (show (1 : Int32) < 2 by decide), show (1 : Int32) + 1 = 2 from rfl]
    rw [fC_Main_fair_50, if_pos (show (1 : Int32) < 2 by decide)]
    rw [fairV, if_pos h1, if_pos h1, if_pos h1]
    by_cases q0 : x = 0
    · rw [if_pos q0, if_pos q0]
    · rw [if_neg q0, if_neg q0]
      by_cases q1 : x = 1
      · rw [if_pos q1, if_pos q1]
      · rw [if_neg q1, if_neg q1]
  · by_cases h2 : w < v
    · skip
      rw [fC_Main_fair_50, if_neg (show ¬ (1 : Int32) < 0 by decide), hm]
      rw [fC_Main_fair_59, if_neg (show ¬ (1 : Int32) < 0 by decide), c_sh00, ev_I, c_sh00, ev_I, show (1 : Int32) - 0 = 1 from rfl, c_sh10, ev_I, if_neg h1, c_sh10, ev_I, if_neg h1, if_pos rfl, ev_nx, ev_nx, show (10 : Int32) * 0 + 0 = 0 from rfl, show (0 : Int32) + 1 = 1 from rfl]
      rw [fC_Main_fair_59, if_neg (show ¬ (1 : Int32) < 1 by decide), c_sh01, ev_I, c_sh10, ev_I, show (1 : Int32) - 0 = 1 from rfl, c_sh11, ev_I, if_neg (show ¬ (0 : Int32) < 0 from Int32.not_lt.mpr (Int32.le_refl _)), show (1 : Int32) - 1 = 0 from rfl, c_sh00, ev_I, if_pos h2, show (1 : Int32) + 1 = 2 from rfl]
      rw [fC_Main_fair_59, if_pos (show (1 : Int32) < 2 by decide), show (0 : Int32) + 1 = 1 from rfl]
      rw [fC_Main_fair_50, if_neg (show ¬ (1 : Int32) < 1 by decide), hm]
      rw [fC_Main_fair_59, if_neg (show ¬ (1 : Int32) < 0 by decide), c_sh10, ev_I, c_sh01, ev_I, show (1 : Int32) - 1 = 0 from rfl, c_sh00, ev_I, if_pos h2, show (0 : Int32) + 1 = 1 from rfl]
      rw [fC_Main_fair_59, if_neg (show ¬ (1 : Int32) < 1 by decide), c_sh11, ev_I, c_sh11, ev_I, show (1 : Int32) - 1 = 0 from rfl, c_sh01, ev_I, if_neg (show ¬ (0 : Int32) < 0 from Int32.not_lt.mpr (Int32.le_refl _)), c_sh01, ev_I, if_neg (show ¬ (0 : Int32) < 0 from Int32.not_lt.mpr (Int32.le_refl _)), if_neg (show ¬ (0 : Int32) = -1 by decide), show (1 : Int32) + 1 = 2 from rfl]
      rw [fC_Main_fair_59, if_pos (show (1 : Int32) < 2 by decide), show (1 : Int32) + 1 = 2 from rfl]
      rw [fC_Main_fair_50, if_pos (show (1 : Int32) < 2 by decide)]
      rw [fairV, if_neg h1, if_pos h2, if_neg h1, if_neg h1]
      by_cases q0 : x = 0
      · rw [if_pos q0, if_pos q0]
      · rw [if_neg q0, if_neg q0]
        by_cases q1 : x = 1
        · rw [if_pos q1, if_pos q1]
        · rw [if_neg q1, if_neg q1]
    · skip
      rw [fC_Main_fair_50, if_neg (show ¬ (1 : Int32) < 0 by decide), hm]
      rw [fC_Main_fair_59, if_neg (show ¬ (1 : Int32) < 0 by decide), c_sh00, ev_I, c_sh00, ev_I, show (1 : Int32) - 0 = 1 from rfl, c_sh10, ev_I, if_neg h1, c_sh10, ev_I, if_neg h1, if_pos rfl, ev_nx, ev_nx, show (10 : Int32) * 0 + 0 = 0 from rfl, show (0 : Int32) + 1 = 1 from rfl]
      rw [fC_Main_fair_59, if_neg (show ¬ (1 : Int32) < 1 by decide), c_sh01, ev_I, c_sh10, ev_I, show (1 : Int32) - 0 = 1 from rfl, c_sh11, ev_I, if_neg (show ¬ (0 : Int32) < 0 from Int32.not_lt.mpr (Int32.le_refl _)), show (1 : Int32) - 1 = 0 from rfl, c_sh00, ev_I, if_neg h2, if_neg (show ¬ (0 : Int32) = -1 by decide), show (1 : Int32) + 1 = 2 from rfl]
      rw [fC_Main_fair_59, if_pos (show (1 : Int32) < 2 by decide), show (0 : Int32) + 1 = 1 from rfl]
      rw [fC_Main_fair_50, if_neg (show ¬ (1 : Int32) < 1 by decide), hm]
      rw [fC_Main_fair_59, if_neg (show ¬ (1 : Int32) < 0 by decide), c_sh10, ev_I, c_sh01, ev_I, show (1 : Int32) - 1 = 0 from rfl, c_sh00, ev_I, if_neg h2, show (1 : Int32) - 0 = 1 from rfl, c_sh11, ev_I, if_neg (show ¬ (0 : Int32) < 0 from Int32.not_lt.mpr (Int32.le_refl _)), if_neg (show ¬ (0 : Int32) = -1 by decide), show (2 : Int32) + 1 = 3 from rfl, show (0 : Int32) + 1 = 1 from rfl]
      rw [fC_Main_fair_59, if_neg (show ¬ (1 : Int32) < 1 by decide), c_sh11, ev_I, c_sh11, ev_I, show (1 : Int32) - 1 = 0 from rfl, c_sh01, ev_I, if_neg (show ¬ (0 : Int32) < 0 from Int32.not_lt.mpr (Int32.le_refl _)), c_sh01, ev_I, if_neg (show ¬ (0 : Int32) < 0 from Int32.not_lt.mpr (Int32.le_refl _)), if_neg (show ¬ (0 : Int32) = -1 by decide), show (3 : Int32) + 1 = 4 from rfl, show (1 : Int32) + 1 = 2 from rfl]
      rw [fC_Main_fair_59, if_pos (show (1 : Int32) < 2 by decide), show (1 : Int32) + 1 = 2 from rfl]
      rw [fC_Main_fair_50, if_pos (show (1 : Int32) < 2 by decide)]
      rw [fairV, if_neg h1, if_neg h2, if_neg h1, if_neg h1]
      by_cases q0 : x = 0
      · rw [if_pos q0, if_pos q0]
      · rw [if_neg q0, if_neg q0]
        by_cases q1 : x = 1
        · rw [if_pos q1, if_pos q1]
        · rw [if_neg q1, if_neg q1]
theorem r_fair_59 (v w x : Int32) (S : St) : fR_fair_59 FU v w x 0 (-1) 0 S = some (rI (fairV v w x), S) := by
  obtain ⟨m, hm⟩ : ∃ m, FU = m + 1 + 1 + 1 + 1 + 1 := ⟨1995, rfl⟩
  rw [hm]
  by_cases h1 : v < w
  · have h2 : ¬ w < v := Int32.not_lt.mpr (Int32.le_of_lt h1)
    rw [fR_fair_59, if_neg (show ¬ (4 : Int32) ≤ 0 by decide), show (0 : Int32) / 2 = 0 from by decide, ev_nx, show (0 : Int32) - 0 * 2 = 0 from by decide, ev_nx, show (1 : Int32) - 0 = 1 from rfl, r_has10, ev_I, r_has00, ev_I, if_pos h1, show (0 : Int32) + 1 = 1 from rfl]
    rw [fR_fair_59, if_neg (show ¬ (4 : Int32) ≤ 1 by decide), show (1 : Int32) / 2 = 0 from by decide, ev_nx, show (1 : Int32) - 0 * 2 = 1 from by decide, ev_nx, show (1 : Int32) - 0 = 1 from rfl, r_has11, ev_I, r_has01, ev_I, if_neg (show ¬ (0 : Int32) < 0 from Int32.not_lt.mpr (Int32.le_refl _)), show (1 : Int32) - 1 = 0 from rfl, r_has00, ev_I, r_has10, ev_I, if_pos (Int32.not_lt.mp h2), if_pos rfl, ev_nx, show (10 : Int32) * 0 + 1 = 1 from rfl, show (0 : Int32) + 1 = 1 from rfl, show (1 : Int32) + 1 = 2 from rfl]
    rw [fR_fair_59, if_neg (show ¬ (4 : Int32) ≤ 2 by decide), show (2 : Int32) / 2 = 1 from by decide, ev_nx, show (2 : Int32) - 1 * 2 = 0 from by decide, ev_nx, show (1 : Int32) - 1 = 0 from rfl, r_has00, ev_I, r_has10, ev_I, if_neg h2, show (1 : Int32) - 0 = 1 from rfl, r_has11, ev_I, r_has01, ev_I, if_pos (show (0 : Int32) ≤ 0 from Int32.le_refl _), if_neg (show ¬ (1 : Int32) = -1 by decide), show (1 : Int32) + 1 = 2 from rfl, show (2 : Int32) + 1 = 3 from rfl]
    rw [fR_fair_59, if_neg (show ¬ (4 : Int32) ≤ 3 by decide), show (3 : Int32) / 2 = 1 from by decide, ev_nx, show (3 : Int32) - 1 * 2 = 1 from by decide, ev_nx, show (1 : Int32) - 1 = 0 from rfl, r_has01, ev_I, r_has11, ev_I, if_neg (show ¬ (0 : Int32) < 0 from Int32.not_lt.mpr (Int32.le_refl _)), r_has01, ev_I, r_has11, ev_I, if_pos (show (0 : Int32) ≤ 0 from Int32.le_refl _), if_neg (show ¬ (1 : Int32) = -1 by decide), show (2 : Int32) + 1 = 3 from rfl, show (3 : Int32) + 1 = 4 from rfl]
    rw [fR_fair_59, if_pos (show (4 : Int32) ≤ 4 by decide)]
    rw [fairV, if_pos h1, if_pos h1, if_pos h1]
    by_cases q0 : x = 0
    · rw [if_pos q0, if_pos q0]
    · rw [if_neg q0, if_neg q0]
      by_cases q1 : x = 1
      · rw [if_pos q1, if_pos q1]
      · rw [if_neg q1, if_neg q1, if_neg (show ¬ (1 : Int32) = -1 by decide), show (1 : Int32) / 10 = 0 from by decide, show (1 : Int32) - 0 * 10 = 1 from by decide, r_has01, ev_I, r_has10, ev_I]
  · by_cases h2 : w < v
    · skip
      rw [fR_fair_59, if_neg (show ¬ (4 : Int32) ≤ 0 by decide), show (0 : Int32) / 2 = 0 from by decide, ev_nx, show (0 : Int32) - 0 * 2 = 0 from by decide, ev_nx, show (1 : Int32) - 0 = 1 from rfl, r_has10, ev_I, r_has00, ev_I, if_neg h1, r_has10, ev_I, r_has00, ev_I, if_pos (Int32.not_lt.mp h1), if_pos rfl, ev_nx, show (10 : Int32) * 0 + 0 = 0 from rfl, show (0 : Int32) + 1 = 1 from rfl]
      rw [fR_fair_59, if_neg (show ¬ (4 : Int32) ≤ 1 by decide), show (1 : Int32) / 2 = 0 from by decide, ev_nx, show (1 : Int32) - 0 * 2 = 1 from by decide, ev_nx, show (1 : Int32) - 0 = 1 from rfl, r_has11, ev_I, r_has01, ev_I, if_neg (show ¬ (0 : Int32) < 0 from Int32.not_lt.mpr (Int32.le_refl _)), show (1 : Int32) - 1 = 0 from rfl, r_has00, ev_I, r_has10, ev_I, if_neg (Int32.not_le.mpr h2), show (1 : Int32) + 1 = 2 from rfl]
      rw [fR_fair_59, if_neg (show ¬ (4 : Int32) ≤ 2 by decide), show (2 : Int32) / 2 = 1 from by decide, ev_nx, show (2 : Int32) - 1 * 2 = 0 from by decide, ev_nx, show (1 : Int32) - 1 = 0 from rfl, r_has00, ev_I, r_has10, ev_I, if_pos h2, show (2 : Int32) + 1 = 3 from rfl]
      rw [fR_fair_59, if_neg (show ¬ (4 : Int32) ≤ 3 by decide), show (3 : Int32) / 2 = 1 from by decide, ev_nx, show (3 : Int32) - 1 * 2 = 1 from by decide, ev_nx, show (1 : Int32) - 1 = 0 from rfl, r_has01, ev_I, r_has11, ev_I, if_neg (show ¬ (0 : Int32) < 0 from Int32.not_lt.mpr (Int32.le_refl _)), r_has01, ev_I, r_has11, ev_I, if_pos (show (0 : Int32) ≤ 0 from Int32.le_refl _), if_neg (show ¬ (0 : Int32) = -1 by decide), show (1 : Int32) + 1 = 2 from rfl, show (3 : Int32) + 1 = 4 from rfl]
      rw [fR_fair_59, if_pos (show (4 : Int32) ≤ 4 by decide)]
      rw [fairV, if_neg h1, if_pos h2, if_neg h1, if_neg h1]
      by_cases q0 : x = 0
      · rw [if_pos q0, if_pos q0]
      · rw [if_neg q0, if_neg q0]
        by_cases q1 : x = 1
        · rw [if_pos q1, if_pos q1]
        · rw [if_neg q1, if_neg q1, if_neg (show ¬ (0 : Int32) = -1 by decide), show (0 : Int32) / 10 = 0 from by decide, show (0 : Int32) - 0 * 10 = 0 from by decide, r_has00, ev_I, r_has00, ev_I]
    · skip
      rw [fR_fair_59, if_neg (show ¬ (4 : Int32) ≤ 0 by decide), show (0 : Int32) / 2 = 0 from by decide, ev_nx, show (0 : Int32) - 0 * 2 = 0 from by decide, ev_nx, show (1 : Int32) - 0 = 1 from rfl, r_has10, ev_I, r_has00, ev_I, if_neg h1, r_has10, ev_I, r_has00, ev_I, if_pos (Int32.not_lt.mp h1), if_pos rfl, ev_nx, show (10 : Int32) * 0 + 0 = 0 from rfl, show (0 : Int32) + 1 = 1 from rfl]
      rw [fR_fair_59, if_neg (show ¬ (4 : Int32) ≤ 1 by decide), show (1 : Int32) / 2 = 0 from by decide, ev_nx, show (1 : Int32) - 0 * 2 = 1 from by decide, ev_nx, show (1 : Int32) - 0 = 1 from rfl, r_has11, ev_I, r_has01, ev_I, if_neg (show ¬ (0 : Int32) < 0 from Int32.not_lt.mpr (Int32.le_refl _)), show (1 : Int32) - 1 = 0 from rfl, r_has00, ev_I, r_has10, ev_I, if_pos (Int32.not_lt.mp h2), if_neg (show ¬ (0 : Int32) = -1 by decide), show (1 : Int32) + 1 = 2 from rfl]
      rw [fR_fair_59, if_neg (show ¬ (4 : Int32) ≤ 2 by decide), show (2 : Int32) / 2 = 1 from by decide, ev_nx, show (2 : Int32) - 1 * 2 = 0 from by decide, ev_nx, show (1 : Int32) - 1 = 0 from rfl, r_has00, ev_I, r_has10, ev_I, if_neg h2, show (1 : Int32) - 0 = 1 from rfl, r_has11, ev_I, r_has01, ev_I, if_pos (show (0 : Int32) ≤ 0 from Int32.le_refl _), if_neg (show ¬ (0 : Int32) = -1 by decide), show (2 : Int32) + 1 = 3 from rfl]
      rw [fR_fair_59, if_neg (show ¬ (4 : Int32) ≤ 3 by decide), show (3 : Int32) / 2 = 1 from by decide, ev_nx, show (3 : Int32) - 1 * 2 = 1 from by decide, ev_nx, show (1 : Int32) - 1 = 0 from rfl, r_has01, ev_I, r_has11, ev_I, if_neg (show ¬ (0 : Int32) < 0 from Int32.not_lt.mpr (Int32.le_refl _)), r_has01, ev_I, r_has11, ev_I, if_pos (show (0 : Int32) ≤ 0 from Int32.le_refl _), if_neg (show ¬ (0 : Int32) = -1 by decide), show (3 : Int32) + 1 = 4 from rfl]
      rw [fR_fair_59, if_pos (show (4 : Int32) ≤ 4 by decide)]
      rw [fairV, if_neg h1, if_neg h2, if_neg h1, if_neg h1]
      by_cases q0 : x = 0
      · rw [if_pos q0, if_pos q0]
      · rw [if_neg q0, if_neg q0]
        by_cases q1 : x = 1
        · rw [if_pos q1, if_pos q1]
        · rw [if_neg q1, if_neg q1, if_neg (show ¬ (0 : Int32) = -1 by decide), show (0 : Int32) / 10 = 0 from by decide, show (0 : Int32) - 0 * 10 = 0 from by decide, r_has00, ev_I, r_has00, ev_I]
theorem po_fair : PO_fair Rel := by
  intro SC SR hR x y z
  show Po (fC_Main_fair x y z SC) (fR_fair x y z SR) (fun j T => if j = 1 then some (rI 1, T) else none)
  have hR' := hR
  obtain ⟨m, hC, hM, hB⟩ := hR'
  obtain ⟨g0, h0, hv0, hL0, hr0⟩ := begR hM
  obtain ⟨T, eT, gT, hT0, hvT, hLT, hrT, hT17, hTf⟩ := begT hM
  have hv := hC.1
  have hL := hC.2.1
  have hr := hC.2.2.1.1
  have b1 := hv.ok.1
  have b2 := hv.ok.2.1
  have b3 := hv.ok.2.2.1
  have bad : fC_Main_fair x y z SC = fC_Main_fair_35 x y z 0 SC → fR_fair x y z SR = fR_fair_40 x y z 0 (sF SR 0 0) → Po (fC_Main_fair x y z SC) (fR_fair x y z SR) (fun j T => if j = 1 then some (rI 1, T) else none) := fun q1 q2 => by
    refine po_ill1 (c := 1) hR ?_ ?_ (fun _ => rfl) (by decide)
    · rw [q1, fC_Main_fair_35, c_need0, ev_Vx]
    · rw [q2, fR_fair_40, show fR_may 0 1 1 (sF SR 0 0) = _ from r_may0 1 (k := 1) (by omega) h0 (by decide), ev_I]
      rfl
  cases hx : wi x 0 99
  · exact bad (by rw [fC_Main_fair, c_withinF hx, ev_I]; rfl) (by rw [fR_fair, ev_nx, r_withinF hx, ev_I]; rfl)
  · cases hy : wi y 0 99
    · exact bad (by rw [fC_Main_fair, c_withinT hx, ev_I, if_neg (by decide), c_withinF hy, ev_I]; rfl) (by rw [fR_fair, ev_nx, r_withinT hx, ev_I, if_neg (by decide), r_withinF hy, ev_I]; rfl)
    · cases hz : wi z 0 2
      · exact bad (by rw [fC_Main_fair, c_withinT hx, ev_I, if_neg (by decide), c_withinT hy, ev_I, if_neg (by decide), c_withinF hz, ev_I]; rfl) (by rw [fR_fair, ev_nx, r_withinT hx, ev_I, if_neg (by decide), r_withinT hy, ev_I, if_neg (by decide), r_withinF hz, ev_I]; rfl)
      · refine po_ok (b := fairV x y z) (T := SC) (U := sF SR 0 0) hR ?_ frx.rf ?_ g0 h0
        · rw [fC_Main_fair, c_withinT hx, ev_I, if_neg (by decide), c_withinT hy, ev_I, if_neg (by decide), c_withinT hz, ev_I, if_neg (by decide), fC_Main_fair_35, c_need1, ev_V]
          exact e_fair_50 x y z SC
        · rw [fR_fair, ev_nx, r_withinT hx, ev_I, if_neg (by decide), r_withinT hy, ev_I, if_neg (by decide), r_withinT hz, ev_I, if_neg (by decide), fR_fair_40, r_may1 _ _ h0, ev_I, if_neg (by decide)]
          exact r_fair_59 x y z (sF SR 0 0)
end PQ
