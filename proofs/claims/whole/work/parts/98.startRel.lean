/-! the two states at the start belong together (written by wip/whole/pure/p98.py) -/
section PVS
variable {SC S1 : St}
def Vst : Vy := fun i k => if i = 0 then (if k = 3 then 3 else 0) else 0
theorem Vst_ok : VOK Vst := ⟨Nat.zero_le _, Nat.zero_le _, Nat.zero_le _, (by decide), fun p hp => absurd hp (Nat.not_lt_zero _), fun a ha => absurd ha (Nat.not_lt_zero _), fun d hd => absurd hd (Nat.not_lt_zero _)⟩
theorem rel_start (f5 : SC.1 5 = -1) (f13 : SC.1 13 = 3) (f18 : SC.1 18 = 3) (fz : ∀ k ∈ [0, 1, 2, 3, 10, 11, 12, 20, 26, 27], SC.1 k = 0) (w0 : SC.2.1 31 0 = 9) (w1 : SC.2.1 31 1 = 1001) (w2 : SC.2.1 31 2 = 2001) (r14 : ∀ j, j < 600 → SC.2.1 14 j = 0) (r46 : ∀ j, j < 74 → SC.2.1 46 j = 0)
    (g8 : S1.1 8 = 0) (g9 : S1.1 9 = 0) (g10 : S1.1 10 = 0) (g11 : S1.1 11 = 3) (g1 : S1.1 1 = 0) (g7 : S1.1 7 = -1) (t2 : ∀ j, j < 600 → S1.2.1 2 j = 0) (t0 : S1.2.1 1 0 = 0) (t1 : S1.2.1 1 1 = 0) : ∃ S2, fR_sets S1 = some (rV, S2) ∧ Rel SC S2 := by
  have dR : DR Vst S1 := ⟨g8, g9, g10, g11, fun p hp => absurd hp (Nat.not_lt_zero _), fun a ha => absurd ha (Nat.not_lt_zero _), fun d hd => absurd hd (Nat.not_lt_zero _)⟩
  obtain ⟨S2, s1, s2, s3, s4, s5, s6, s7, s8, s9⟩ := r_sets dR Vst_ok
  refine ⟨S2, s1, (Vst, Lpl, w00, (0, fun _ _ => 0), (0, fun _ => w00), (0, fun _ => w00, fun _ => 0, fun _ _ => w00)), ⟨⟨fz 10 (by decide), fz 11 (by decide), fz 12 (by decide), f13, fun p hp => absurd hp (Nat.not_lt_zero _), fun a ha => absurd ha (Nat.not_lt_zero _), fun d hd => absurd hd (Nat.not_lt_zero _), Vst_ok⟩, CLw_pl f18 w0 w1 w2, ⟨RC_00 r46 Vst_ok, Nat.zero_le _⟩, ⟨fz 20 (by decide), Nat.zero_le _, fun i hi => absurd hi (Nat.not_lt_zero _)⟩, ⟨fz 26 (by decide), Nat.zero_le _, fun i hi => absurd hi (Nat.not_lt_zero _)⟩, ⟨fz 27 (by decide), Nat.zero_le _, fun i hi => absurd hi (Nat.not_lt_zero _)⟩⟩, ⟨s3, RLw_pl s4, s9, ⟨s7, fun i hi => absurd hi (Nat.not_lt_zero _)⟩, ⟨s5, fun i hi => absurd hi (Nat.not_lt_zero _)⟩, ⟨s8, fun i hi => absurd hi (Nat.not_lt_zero _)⟩⟩, ?_⟩
  refine ⟨?_, ?_, ?_, ?_, ⟨0, Nat.zero_le _, fz 3 (by decide)⟩, ?_, fun i hi => ⟨?_, 0, by omega, ?_⟩⟩
  · rw [s6]; exact fz 0 (by decide)
  · rw [s2.2.1 1 (by decide), t0]; exact fz 1 (by decide)
  · rw [s2.2.1 1 (by decide), t1]; exact fz 2 (by decide)
  · rw [s2.1 1 (by decide), g1]; exact fz 3 (by decide)
  · rw [s2.1 7 (by decide), g7]; exact f5
  · rw [s2.2.1 2 (by decide), t2 i hi]; exact r14 i hi
  · exact r14 i hi
/-- all calls -/
theorem ops_all : OPS Rel := ⟨po_feed, po_valley, po_law, po_work, po_book, po_fault, po_undo, po_told, po_poem, po_man, po_debt, po_knows, po_learns, po_would, po_ahead, po_lessons, po_pays, po_hardest, po_fits, po_look, po_kept, po_fair, po_candles, po_fullest, po_free, po_partners, po_fades, po_next, po_gains, po_closest, po_best, po_chorus, po_season, po_span, po_image, po_restore, po_status, po_count⟩
end PVS
