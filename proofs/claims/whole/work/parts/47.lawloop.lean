theorem dL_law__23 : decode code 23 = .ok (.iload 4, 2) := by decide +kernel
theorem dL_law__25 : decode code 25 = .ok (.aload_n 0, 1) := by decide +kernel
theorem dL_law__26 : decode code 26 = .ok (.arraylength, 1) := by decide +kernel
theorem dL_law__27 : decode code 27 = .ok (.bipush 9, 2) := by decide +kernel
theorem dL_law__29 : decode code 29 = .ok (.isub, 1) := by decide +kernel
theorem dL_law__30 : decode code 30 = .ok (.if_icmp .gt 2467, 3) := by decide +kernel
theorem dL_law__33 : decode code 33 = .ok (.aload_n 0, 1) := by decide +kernel
theorem dL_law__34 : decode code 34 = .ok (.iload 4, 2) := by decide +kernel
theorem dL_law__36 : decode code 36 = .ok (.iaload, 1) := by decide +kernel
theorem dL_law__37 : decode code 37 = .ok (.bipush 63, 2) := by decide +kernel
theorem dL_law__39 : decode code 39 = .ok (.iand, 1) := by decide +kernel
theorem dL_law__40 : decode code 40 = .ok (.tableswitch 2451 0 37 #[168, 241, 297, 353, 409, 465, 478, 491, 547, 615, 683, 751, 819, 887, 1033, 1101, 1169, 1225, 1281, 1337, 1393, 1484, 1564, 1644, 1700, 1713, 1769, 1837, 1893, 1961, 2029, 2097, 2165, 2257, 2375, 2388, 2401, 2426], 168) := by decide +kernel
theorem dL_law__2491 : decode code 2491 = .ok (.iinc 4 9, 3) := by decide +kernel
theorem dL_law__2494 : decode code 2494 = .ok (.goto (-2471), 3) := by decide +kernel
theorem dL_law__2497 : decode code 2497 = .ok (.iconst 1, 1) := by decide +kernel
theorem dL_law__2498 : decode code 2498 = .ok (.ireturn, 1) := by decide +kernel
theorem dL_law__0 : decode code 0 = .ok (.new 8, 3) := by decide +kernel
theorem dL_law__3 : decode code 3 = .ok (.dup, 1) := by decide +kernel
theorem dL_law__4 : decode code 4 = .ok (.invokespecial 110, 3) := by decide +kernel
theorem dL_law__7 : decode code 7 = .ok (.astore_n 1, 1) := by decide +kernel
theorem dL_law__8 : decode code 8 = .ok (.new 111, 3) := by decide +kernel
theorem dL_law__11 : decode code 11 = .ok (.dup, 1) := by decide +kernel
theorem dL_law__12 : decode code 12 = .ok (.invokespecial 113, 3) := by decide +kernel
theorem dL_law__15 : decode code 15 = .ok (.astore_n 2, 1) := by decide +kernel
theorem dL_law__16 : decode code 16 = .ok (.iconst 1, 1) := by decide +kernel
theorem dL_law__17 : decode code 17 = .ok (.newarray .long, 2) := by decide +kernel
theorem dL_law__19 : decode code 19 = .ok (.astore_n 3, 1) := by decide +kernel
theorem dL_law__20 : decode code 20 = .ok (.iconst 0, 1) := by decide +kernel
theorem dL_law__21 : decode code 21 = .ok (.istore 4, 2) := by decide +kernel
/-! the law's loop -/
theorem loop_end {L i : Nat} {x4 : Int32} (hL : L ≤ 4608) (hi : 9 * i ≤ L) (hx : x4 = nI (9 * i)) (h : ¬ (nI L - 9 < x4)) : 9 * i + 9 ≤ L := by
  rcases Nat.lt_or_ge L (9 * i + 9) with q | q
  · refine absurd ?_ h
    rw [hx, Int32.lt_iff_toInt_lt, show (9 : Int32) = nI 9 from rfl, pk_sub_toInt (by omega) (by omega), nI_toInt (by omega)]
    omega
  · exact q
set_option maxHeartbeats 4000000 in
set_option maxRecDepth 100000 in
theorem law_loop {Rel : St → St → Prop} {E : Ec} {Y : Lc} (C : JLC E Y) (hops : OPS Rel) (hL : Y.2.2.2.1 ≤ 4608) : ∀ (n i : Nat) (x4 : Int32) (SC SR : St), 9 * i ≤ Y.2.2.2.1 → Y.2.2.2.1 + 9 ≤ 9 * i + 9 * n → x4 = nI (9 * i) → Rel SC SR → JL E Y (100 + 3 * i) (20000 + 18 * i) 23 [(0, .ref Y.2.2.1), (1, .ref (gA Y.1 0)), (2, .ref (gA Y.2.1 0)), (3, .ref (gA Y.1 53)), (4, .int x4)] [] SC SR := by
  intro n
  induction n with
  | zero => intro i x4 SC SR h1 h2; omega
  | succ n ih =>
    intro i x4 SC SR h1 h2 hx hR
    refine jl_iload (pc := 23) 4 C dL_law__23 rfl ?_
    refine jl_aload_n (pc := 25) 0 C dL_law__25 rfl rfl ?_
    refine jl_slen (pc := 26) C dL_law__26 ?_
    refine jl_bipush (pc := 27) 9 C dL_law__27 (by decide) ?_
    refine jl_isub (pc := 29) C dL_law__29 ?_
    refine jl_icmp_gt (pc := 30) 2497 C dL_law__30 (by decide) (fun _ => ?_) (fun h => ?_)
    · refine jl_iconst (pc := 2497) 1 C dL_law__2497 (by decide) ?_
      exact jl_ret C dL_law__2498 (by omega) (by omega)
    have hi9 := loop_end hL h1 hx h
    have hin : ∀ j : Nat, j ≤ 8 → vp_in (x4 + nI j) Y.2.2.2.1 := fun j hj => by rw [hx, nI_add]; exact vp_in_nI (by omega) (by omega)
    have hin0 : vp_in x4 Y.2.2.2.1 := by rw [hx]; exact vp_in_nI (by omega) (by omega)
    have tail : ∀ SC1 SR1, Rel SC1 SR1 → JL E Y (100 + 3 * i + 3) (20000 + 18 * i + 18) 2491 [(0, .ref Y.2.2.1), (1, .ref (gA Y.1 0)), (2, .ref (gA Y.2.1 0)), (3, .ref (gA Y.1 53)), (4, .int x4)] [] SC1 SR1 := by
      intro SC1 SR1 hR1
      refine jl_iinc (pc := 2491) 4 (x4 + 9) [(4, .int (x4 + 9)), (0, .ref Y.2.2.1), (1, .ref (gA Y.1 0)), (2, .ref (gA Y.2.1 0)), (3, .ref (gA Y.1 53))] C dL_law__2491 rfl rfl (by decide) rfl ?_
      refine jl_goto (pc := 2494) 23 C dL_law__2494 (by decide) ?_
      refine jl_sub [1, 2, 3, 4, 0] rfl ?_
      exact jl_widen (by omega) (by omega) (ih (i + 1) (x4 + 9) SC1 SR1 (by omega) (by omega) (by rw [hx, show (9 : Int32) = nI 9 from rfl, nI_add]; congr 1) hR1)
    refine jl_aload_n (pc := 33) 0 C dL_law__33 rfl rfl ?_
    refine jl_iload (pc := 34) 4 C dL_law__34 rfl ?_
    refine jl_sld (pc := 36) C dL_law__36 hin0 ?_
    refine jl_bipush (pc := 37) 63 C dL_law__37 (by decide) ?_
    refine jl_iand (pc := 39) C dL_law__39 ?_
    refine jl_tsw (pc := 40) (off := 168) 208 0 C dL_law__40 (by decide) (by decide) (by decide) (by decide) (fun _ => lawcase_0 C hin ⟨by omega, by omega⟩ hops.1 hR tail) (fun h0 => ?_)
    refine jl_tsw (pc := 40) (off := 241) 281 1 C dL_law__40 (by decide) (by decide) (by decide) (by decide) (fun _ => lawcase_1 C hin ⟨by omega, by omega⟩ hops.2.1 hR tail) (fun h1 => ?_)
    refine jl_tsw (pc := 40) (off := 297) 337 2 C dL_law__40 (by decide) (by decide) (by decide) (by decide) (fun _ => lawcase_2 C hin ⟨by omega, by omega⟩ hops.2.2.1 hR tail) (fun h2 => ?_)
    refine jl_tsw (pc := 40) (off := 353) 393 3 C dL_law__40 (by decide) (by decide) (by decide) (by decide) (fun _ => lawcase_3 C hin ⟨by omega, by omega⟩ hops.2.2.2.1 hR tail) (fun h3 => ?_)
    refine jl_tsw (pc := 40) (off := 409) 449 4 C dL_law__40 (by decide) (by decide) (by decide) (by decide) (fun _ => lawcase_4 C hin ⟨by omega, by omega⟩ hops.2.2.2.2.1 hR tail) (fun h4 => ?_)
    refine jl_tsw (pc := 40) (off := 465) 505 5 C dL_law__40 (by decide) (by decide) (by decide) (by decide) (fun _ => lawcase_5 C hin ⟨by omega, by omega⟩ hops.2.2.2.2.2.1 hR tail) (fun h5 => ?_)
    refine jl_tsw (pc := 40) (off := 478) 518 6 C dL_law__40 (by decide) (by decide) (by decide) (by decide) (fun _ => lawcase_6 C hin ⟨by omega, by omega⟩ hops.2.2.2.2.2.2.1 hR tail) (fun h6 => ?_)
    refine jl_tsw (pc := 40) (off := 491) 531 7 C dL_law__40 (by decide) (by decide) (by decide) (by decide) (fun _ => lawcase_7 C hin ⟨by omega, by omega⟩ hops.2.2.2.2.2.2.2.1 hR tail) (fun h7 => ?_)
    refine jl_tsw (pc := 40) (off := 547) 587 8 C dL_law__40 (by decide) (by decide) (by decide) (by decide) (fun _ => lawcase_8 C hin ⟨by omega, by omega⟩ hops.2.2.2.2.2.2.2.2.1 hR tail) (fun h8 => ?_)
    refine jl_tsw (pc := 40) (off := 615) 655 9 C dL_law__40 (by decide) (by decide) (by decide) (by decide) (fun _ => lawcase_9 C hin ⟨by omega, by omega⟩ hops.2.2.2.2.2.2.2.2.2.1 hR tail) (fun h9 => ?_)
    refine jl_tsw (pc := 40) (off := 683) 723 10 C dL_law__40 (by decide) (by decide) (by decide) (by decide) (fun _ => lawcase_10 C hin ⟨by omega, by omega⟩ hops.2.2.2.2.2.2.2.2.2.2.1 hR tail) (fun h10 => ?_)
    refine jl_tsw (pc := 40) (off := 751) 791 11 C dL_law__40 (by decide) (by decide) (by decide) (by decide) (fun _ => lawcase_11 C hin ⟨by omega, by omega⟩ hops.2.2.2.2.2.2.2.2.2.2.2.1 hR tail) (fun h11 => ?_)
    refine jl_tsw (pc := 40) (off := 819) 859 12 C dL_law__40 (by decide) (by decide) (by decide) (by decide) (fun _ => lawcase_12 C hin ⟨by omega, by omega⟩ hops.2.2.2.2.2.2.2.2.2.2.2.2.1 hR tail) (fun h12 => ?_)
    refine jl_tsw (pc := 40) (off := 887) 927 13 C dL_law__40 (by decide) (by decide) (by decide) (by decide) (fun _ => lawcase_13 C hin ⟨by omega, by omega⟩ hops.2.2.2.2.2.2.2.2.2.2.2.2.2.1 hR tail) (fun h13 => ?_)
    refine jl_tsw (pc := 40) (off := 1033) 1073 14 C dL_law__40 (by decide) (by decide) (by decide) (by decide) (fun _ => lawcase_14 C hin ⟨by omega, by omega⟩ hops.2.2.2.2.2.2.2.2.2.2.2.2.2.2.1 hR tail) (fun h14 => ?_)
    refine jl_tsw (pc := 40) (off := 1101) 1141 15 C dL_law__40 (by decide) (by decide) (by decide) (by decide) (fun _ => lawcase_15 C hin ⟨by omega, by omega⟩ hops.2.2.2.2.2.2.2.2.2.2.2.2.2.2.2.1 hR tail) (fun h15 => ?_)
    refine jl_tsw (pc := 40) (off := 1169) 1209 16 C dL_law__40 (by decide) (by decide) (by decide) (by decide) (fun _ => lawcase_16 C hin ⟨by omega, by omega⟩ hops.2.2.2.2.2.2.2.2.2.2.2.2.2.2.2.2.1 hR tail) (fun h16 => ?_)
    refine jl_tsw (pc := 40) (off := 1225) 1265 17 C dL_law__40 (by decide) (by decide) (by decide) (by decide) (fun _ => lawcase_17 C hin ⟨by omega, by omega⟩ hops.2.2.2.2.2.2.2.2.2.2.2.2.2.2.2.2.2.1 hR tail) (fun h17 => ?_)
    refine jl_tsw (pc := 40) (off := 1281) 1321 18 C dL_law__40 (by decide) (by decide) (by decide) (by decide) (fun _ => lawcase_18 C hin ⟨by omega, by omega⟩ hops.2.2.2.2.2.2.2.2.2.2.2.2.2.2.2.2.2.2.1 hR tail) (fun h18 => ?_)
    refine jl_tsw (pc := 40) (off := 1337) 1377 19 C dL_law__40 (by decide) (by decide) (by decide) (by decide) (fun _ => lawcase_19 C hin ⟨by omega, by omega⟩ hops.2.2.2.2.2.2.2.2.2.2.2.2.2.2.2.2.2.2.2.1 hR tail) (fun h19 => ?_)
    refine jl_tsw (pc := 40) (off := 1393) 1433 20 C dL_law__40 (by decide) (by decide) (by decide) (by decide) (fun _ => lawcase_20 C hin ⟨by omega, by omega⟩ hops.2.2.2.2.2.2.2.2.2.2.2.2.2.2.2.2.2.2.2.2.1 hR tail) (fun h20 => ?_)
    refine jl_tsw (pc := 40) (off := 1484) 1524 21 C dL_law__40 (by decide) (by decide) (by decide) (by decide) (fun _ => lawcase_21 C hin ⟨by omega, by omega⟩ hops.2.2.2.2.2.2.2.2.2.2.2.2.2.2.2.2.2.2.2.2.2.1 hR tail) (fun h21 => ?_)
    refine jl_tsw (pc := 40) (off := 1564) 1604 22 C dL_law__40 (by decide) (by decide) (by decide) (by decide) (fun _ => lawcase_22 C hin ⟨by omega, by omega⟩ hops.2.2.2.2.2.2.2.2.2.2.2.2.2.2.2.2.2.2.2.2.2.2.1 hR tail) (fun h22 => ?_)
    refine jl_tsw (pc := 40) (off := 1644) 1684 23 C dL_law__40 (by decide) (by decide) (by decide) (by decide) (fun _ => lawcase_23 C hin ⟨by omega, by omega⟩ hops.2.2.2.2.2.2.2.2.2.2.2.2.2.2.2.2.2.2.2.2.2.2.2.1 hR tail) (fun h23 => ?_)
    refine jl_tsw (pc := 40) (off := 1700) 1740 24 C dL_law__40 (by decide) (by decide) (by decide) (by decide) (fun _ => lawcase_24 C hin ⟨by omega, by omega⟩ hops.2.2.2.2.2.2.2.2.2.2.2.2.2.2.2.2.2.2.2.2.2.2.2.2.1 hR tail) (fun h24 => ?_)
    refine jl_tsw (pc := 40) (off := 1713) 1753 25 C dL_law__40 (by decide) (by decide) (by decide) (by decide) (fun _ => lawcase_25 C hin ⟨by omega, by omega⟩ hops.2.2.2.2.2.2.2.2.2.2.2.2.2.2.2.2.2.2.2.2.2.2.2.2.2.1 hR tail) (fun h25 => ?_)
    refine jl_tsw (pc := 40) (off := 1769) 1809 26 C dL_law__40 (by decide) (by decide) (by decide) (by decide) (fun _ => lawcase_26 C hin ⟨by omega, by omega⟩ hops.2.2.2.2.2.2.2.2.2.2.2.2.2.2.2.2.2.2.2.2.2.2.2.2.2.2.1 hR tail) (fun h26 => ?_)
    refine jl_tsw (pc := 40) (off := 1837) 1877 27 C dL_law__40 (by decide) (by decide) (by decide) (by decide) (fun _ => lawcase_27 C hin ⟨by omega, by omega⟩ hops.2.2.2.2.2.2.2.2.2.2.2.2.2.2.2.2.2.2.2.2.2.2.2.2.2.2.2.1 hR tail) (fun h27 => ?_)
    refine jl_tsw (pc := 40) (off := 1893) 1933 28 C dL_law__40 (by decide) (by decide) (by decide) (by decide) (fun _ => lawcase_28 C hin ⟨by omega, by omega⟩ hops.2.2.2.2.2.2.2.2.2.2.2.2.2.2.2.2.2.2.2.2.2.2.2.2.2.2.2.2.1 hR tail) (fun h28 => ?_)
    refine jl_tsw (pc := 40) (off := 1961) 2001 29 C dL_law__40 (by decide) (by decide) (by decide) (by decide) (fun _ => lawcase_29 C hin ⟨by omega, by omega⟩ hops.2.2.2.2.2.2.2.2.2.2.2.2.2.2.2.2.2.2.2.2.2.2.2.2.2.2.2.2.2.1 hR tail) (fun h29 => ?_)
    refine jl_tsw (pc := 40) (off := 2029) 2069 30 C dL_law__40 (by decide) (by decide) (by decide) (by decide) (fun _ => lawcase_30 C hin ⟨by omega, by omega⟩ hops.2.2.2.2.2.2.2.2.2.2.2.2.2.2.2.2.2.2.2.2.2.2.2.2.2.2.2.2.2.2.1 hR tail) (fun h30 => ?_)
    refine jl_tsw (pc := 40) (off := 2097) 2137 31 C dL_law__40 (by decide) (by decide) (by decide) (by decide) (fun _ => lawcase_31 C hin ⟨by omega, by omega⟩ hops.2.2.2.2.2.2.2.2.2.2.2.2.2.2.2.2.2.2.2.2.2.2.2.2.2.2.2.2.2.2.2.1 hR tail) (fun h31 => ?_)
    refine jl_tsw (pc := 40) (off := 2165) 2205 32 C dL_law__40 (by decide) (by decide) (by decide) (by decide) (fun _ => lawcase_32 C hin ⟨by omega, by omega⟩ hops.2.2.2.2.2.2.2.2.2.2.2.2.2.2.2.2.2.2.2.2.2.2.2.2.2.2.2.2.2.2.2.2.1 hR tail) (fun h32 => ?_)
    refine jl_tsw (pc := 40) (off := 2257) 2297 33 C dL_law__40 (by decide) (by decide) (by decide) (by decide) (fun _ => lawcase_33 C hin ⟨by omega, by omega⟩ hops.2.2.2.2.2.2.2.2.2.2.2.2.2.2.2.2.2.2.2.2.2.2.2.2.2.2.2.2.2.2.2.2.2.1 hR tail) (fun h33 => ?_)
    refine jl_tsw (pc := 40) (off := 2375) 2415 34 C dL_law__40 (by decide) (by decide) (by decide) (by decide) (fun _ => lawcase_34 C hin ⟨by omega, by omega⟩ hops.2.2.2.2.2.2.2.2.2.2.2.2.2.2.2.2.2.2.2.2.2.2.2.2.2.2.2.2.2.2.2.2.2.2.1 hR tail) (fun h34 => ?_)
    refine jl_tsw (pc := 40) (off := 2388) 2428 35 C dL_law__40 (by decide) (by decide) (by decide) (by decide) (fun _ => lawcase_35 C hin ⟨by omega, by omega⟩ hops.2.2.2.2.2.2.2.2.2.2.2.2.2.2.2.2.2.2.2.2.2.2.2.2.2.2.2.2.2.2.2.2.2.2.2.1 hR tail) (fun h35 => ?_)
    refine jl_tsw (pc := 40) (off := 2401) 2441 36 C dL_law__40 (by decide) (by decide) (by decide) (by decide) (fun _ => lawcase_36 C hin ⟨by omega, by omega⟩ hops.2.2.2.2.2.2.2.2.2.2.2.2.2.2.2.2.2.2.2.2.2.2.2.2.2.2.2.2.2.2.2.2.2.2.2.2.1 hR tail) (fun h36 => ?_)
    refine jl_tsw (pc := 40) (off := 2426) 2466 37 C dL_law__40 (by decide) (by decide) (by decide) (by decide) (fun _ => lawcase_37 C hin ⟨by omega, by omega⟩ hops.2.2.2.2.2.2.2.2.2.2.2.2.2.2.2.2.2.2.2.2.2.2.2.2.2.2.2.2.2.2.2.2.2.2.2.2.2 hR tail) (fun h37 => ?_)
    refine jl_tswD (pc := 40) 2491 C dL_law__40 (by have := ne_i (z := 0) h0 (by decide); have := ne_i (z := 1) h1 (by decide); have := ne_i (z := 2) h2 (by decide); have := ne_i (z := 3) h3 (by decide); have := ne_i (z := 4) h4 (by decide); have := ne_i (z := 5) h5 (by decide); have := ne_i (z := 6) h6 (by decide); have := ne_i (z := 7) h7 (by decide); have := ne_i (z := 8) h8 (by decide); have := ne_i (z := 9) h9 (by decide); have := ne_i (z := 10) h10 (by decide); have := ne_i (z := 11) h11 (by decide); have := ne_i (z := 12) h12 (by decide); have := ne_i (z := 13) h13 (by decide); have := ne_i (z := 14) h14 (by decide); have := ne_i (z := 15) h15 (by decide); have := ne_i (z := 16) h16 (by decide); have := ne_i (z := 17) h17 (by decide); have := ne_i (z := 18) h18 (by decide); have := ne_i (z := 19) h19 (by decide); have := ne_i (z := 20) h20 (by decide); have := ne_i (z := 21) h21 (by decide); have := ne_i (z := 22) h22 (by decide); have := ne_i (z := 23) h23 (by decide); have := ne_i (z := 24) h24 (by decide); have := ne_i (z := 25) h25 (by decide); have := ne_i (z := 26) h26 (by decide); have := ne_i (z := 27) h27 (by decide); have := ne_i (z := 28) h28 (by decide); have := ne_i (z := 29) h29 (by decide); have := ne_i (z := 30) h30 (by decide); have := ne_i (z := 31) h31 (by decide); have := ne_i (z := 32) h32 (by decide); have := ne_i (z := 33) h33 (by decide); have := ne_i (z := 34) h34 (by decide); have := ne_i (z := 35) h35 (by decide); have := ne_i (z := 36) h36 (by decide); have := ne_i (z := 37) h37 (by decide); omega) (by decide) ?_
    exact jl_widen (by omega) (by omega) (tail SC SR hR)
