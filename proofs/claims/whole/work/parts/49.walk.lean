/-! the start of the law -/
theorem q_1525 : Cond.classLink RL 8 RX9 ∈ tblG := tg 133 (by decide +kernel) rfl
theorem q_1526 : Cond.instantiable RX9 15 ∈ tblG := tg 134 (by decide +kernel) rfl
theorem q_1527 : Cond.classLink RL 111 RX10 ∈ tblG := tg 1389 (by decide +kernel) rfl
theorem q_1528 : Cond.instantiable RX10 53 ∈ tblG := tg 1390 (by decide +kernel) rfl
theorem q_1529 : Cond.methodLink RL 110 yX9_init ∈ tblG := tg 135 (by decide +kernel) rfl
theorem q_1530 : Cond.methodLink RL 113 yX10_init ∈ tblG := tg 1391 (by decide +kernel) rfl

def adC (b0 b1 b2 b3 b4 b5 b6 b7 b8 b9 b10 b11 b12 b13 b14 b15 b16 b17 b18 b19 b20 b21 b22 b23 b24 b25 b26 b27 b28 b29 b30 b31 b32 b33 b34 b35 b36 b37 b38 b39 b40 b41 b42 b43 b44 b45 b46 b47 b48 b49 b50 b51 b52 b53 : Nat) : Nat → Nat := fun i => match i with
  | 0 => b0
  | 1 => b1
  | 2 => b2
  | 3 => b3
  | 4 => b4
  | 5 => b5
  | 6 => b6
  | 7 => b7
  | 8 => b8
  | 9 => b9
  | 10 => b10
  | 11 => b11
  | 12 => b12
  | 13 => b13
  | 14 => b14
  | 15 => b15
  | 16 => b16
  | 17 => b17
  | 18 => b18
  | 19 => b19
  | 20 => b20
  | 21 => b21
  | 22 => b22
  | 23 => b23
  | 24 => b24
  | 25 => b25
  | 26 => b26
  | 27 => b27
  | 28 => b28
  | 29 => b29
  | 30 => b30
  | 31 => b31
  | 32 => b32
  | 33 => b33
  | 34 => b34
  | 35 => b35
  | 36 => b36
  | 37 => b37
  | 38 => b38
  | 39 => b39
  | 40 => b40
  | 41 => b41
  | 42 => b42
  | 43 => b43
  | 44 => b44
  | 45 => b45
  | 46 => b46
  | 47 => b47
  | 48 => b48
  | 49 => b49
  | 50 => b50
  | 51 => b51
  | 52 => b52
  | _ => b53
def clsS0 : St := (fun k => if k = 5 then (-1) else if k = 13 then 3 else if k = 17 then 3 else if k = 18 then 3 else if k = 19 then 3 else 0, fun a => if a = 31 then lawS.2.1 1 else if a = 34 then lawS.2.1 1 else fun _ => 0, fun _ _ => 0)
set_option maxHeartbeats 8000000 in
set_option maxRecDepth 100000 in
/-- from the law's entry to its loop: both objects made, the worlds told apart -/
theorem start_walk {Rel : St → St → Prop} (hops : OPS Rel) {S2 : St} (hS2 : fR_sets refS1 = some (rV, S2)) (hR0 : Rel clsS0 S2) {p : Program} {e : Env} {s : State} {m : MethodId} {below : List Frame} {meth : Method} {c : Code} (l : Launch) (hflags : l.flags = flags0) {b L : Nat} {xs : Nat → Int32} (hL : L ≤ 4608) (C0 : lw_At p s m meth c b L xs) : W p l e room_1 s m #[Value.ref b] below meth c s.heap [] 0 0 (lw_Z below #[Value.ref b] s) (entryFrame m ([Value.ref b] : List Value).toArray 8) := by
  obtain ⟨hx, hb, hr, hml, hown, htl, hX, hbl, hlocks, hgv⟩ := id C0
  have hfl := flags_ok hflags
  have hts : ∀ q ∈ tblG, q.before #[Value.ref b] s = true := fun q hq => htl q (List.mem_filter.mp hq).1
  have hA : ∀ q : Nat, s.heap.size ≤ q → (fun q : Nat => s.heap.size ≤ q) q := fun _ h => h
  have hown : s.vm.findClass RL = some m.cls := hown
  obtain ⟨k0, iS0, hKn0⟩ := u_known (C := RX0) (T := TX0) (N := 4) (n := 4) hts inRX0 (hts _ q_1323)
  obtain ⟨k1, iS1, hKn1⟩ := u_known (C := RX1) (T := TX1) (N := 4) (n := 4) hts inRX1 (hts _ q_1305)
  obtain ⟨k2, iS2, hKn2⟩ := u_known (C := RX2) (T := TX2) (N := 4) (n := 4) hts inRX2 (hts _ q_1338)
  obtain ⟨k3, iS3, hKn3⟩ := u_known (C := RX3) (T := TX3) (N := 5) (n := 5) hts inRX3 (hts _ q_1344)
  obtain ⟨k4, iS4, hKn4⟩ := u_known (C := RX4) (T := TX4) (N := 5) (n := 5) hts inRX4 (hts _ q_1333)
  obtain ⟨k5, iS5, hKn5⟩ := u_known (C := RX5) (T := TX5) (N := 3) (n := 3) hts inRX5 (hts _ q_1312)
  obtain ⟨k6, iS6, hKn6⟩ := u_known (C := RX6) (T := TX6) (N := 8) (n := 8) hts inRX6 (hts _ q_1318)
  obtain ⟨k7, iS7, hKn7⟩ := u_known (C := RX7) (T := TX7) (N := 12) (n := 12) hts inRX7 (hts _ q_1299)
  obtain ⟨k8, iS8, hKn8⟩ := u_known (C := RX8) (T := TX8) (N := 7) (n := 7) hts inRX8 (hts _ q_1328)
  obtain ⟨k9, iS9, hKn9⟩ := u_known (C := RX9) (T := TX9) (N := 15) (n := 15) hts inRX9 (hts _ q_1526)
  obtain ⟨k10, iS10, hKn10⟩ := u_known (C := RX10) (T := TX10) (N := 53) (n := 53) hts inRX10 (hts _ q_1528)
  obtain ⟨dC, dI, hKc⟩ : ∃ (dC : Nat → ClassId) (dI : Nat → Nat → Nat), ∀ (k : Nat) (q : vw_C), vwCl[k]? = some q → u_Kn s q.1 q.2.1 q.2.2 (dC k) (dI k) := by
    refine ⟨fun k => if k = 0 then k0 else if k = 1 then k1 else if k = 2 then k2 else if k = 3 then k3 else if k = 4 then k4 else if k = 5 then k5 else if k = 6 then k6 else if k = 7 then k7 else if k = 8 then k8 else if k = 9 then k9 else k10, fun k => if k = 0 then iS0 else if k = 1 then iS1 else if k = 2 then iS2 else if k = 3 then iS3 else if k = 4 then iS4 else if k = 5 then iS5 else if k = 6 then iS6 else if k = 7 then iS7 else if k = 8 then iS8 else if k = 9 then iS9 else iS10, ?_⟩
    intro k q hq
    match k, hq with
    | 0, hq => cases hq; exact hKn0
    | 1, hq => cases hq; exact hKn1
    | 2, hq => cases hq; exact hKn2
    | 3, hq => cases hq; exact hKn3
    | 4, hq => cases hq; exact hKn4
    | 5, hq => cases hq; exact hKn5
    | 6, hq => cases hq; exact hKn6
    | 7, hq => cases hq; exact hKn7
    | 8, hq => cases hq; exact hKn8
    | 9, hq => cases hq; exact hKn9
    | 10, hq => cases hq; exact hKn10
    | k + 11, hq => simp [vwCl] at hq
  obtain ⟨cI, hI1, hI2⟩ := arr_of (hts _ q_1301)
  obtain ⟨cJ, hJ1, hJ2⟩ := arr_of (hts _ q_1352)
  obtain ⟨ad, hex⟩ := start_ex (A := fun q : Nat => s.heap.size ≤ q) htl hgv (fun a h => Nat.not_le.mpr h)
  generalize hDe : (dC, dI) = D at *
  have hKc : ∀ (k : Nat) (q : vw_C), vwCl[k]? = some q → u_Kn s q.1 q.2.1 q.2.2 (D.1 k) (D.2 k) := by rw [← hDe]; exact hKc
  have hK : va_K D vwCl [(cI, .int), (cJ, .long)] s := ⟨hKc, fun k q h => by
    match k, h with
    | 0, h => cases h; exact ⟨hI1, hI2⟩
    | 1, h => cases h; exact ⟨hJ1, hJ2⟩
    | k + 2, h => simp at h⟩
  have hnc : ncx s := va_Nc.of (flat_of_before _ hgv _ st_w12)
  have hns : nsx s := fun q hq => va_Nw.of rfl (htl _ (st_w13 q hq))
  have hS : va_S (fun q : Nat => s.heap.size ≤ q) s.heap s.heap [] := va_S.rf
  have hP : va_P D vwCl [] s.heap := fun k q h => by simp at h
  have hD : va_D (fun q : Nat => s.heap.size ≤ q) [] := ⟨fun i j p q h => by simp at h, fun k q h => by simp at h⟩
  have hl := lv_entry ([.ref b]) (n := 8) (Nat.le_of_ble_eq_true rfl)
  rw [lg_entry_eq]
  generalize (lg_sl ([.ref b]) ++ List.replicate (8 - (lg_sl ([.ref b])).length) Slot.unset).toArray = ls at hl ⊢
  have hl : lv_has ls 8 [(0, .ref b)] := hl
  refine va_new (ci := 9) (fs := [.null, .null, .null, .null, .null, .null, .null, .null, .null, .null, .null, .null, .int 0, .int 0, .int 0]) (C := RX9) (T := TX9) (N := 15) hx hb hts inRX9 tyX9 tyX9_ok hown (hts _ q_1525) (hts _ q_1526) (hts _ q_40) hK hP hD hS hA rfl (by decide +kernel) (Nat.le_of_ble_eq_true rfl) (Nat.le_of_ble_eq_true rfl) dL_law__0 (fun x0 H hP hD hS => ?_)
  have hP : va_P D vwCl [(x0, .inr (9, [.null, .null, .null, .null, .null, .null, .null, .null, .null, .null, .null, .null, .int 0, .int 0, .int 0]))] H := hP
  have hD : va_D (fun q : Nat => s.heap.size ≤ q) [(x0, .inr (9, [.null, .null, .null, .null, .null, .null, .null, .null, .null, .null, .null, .null, .int 0, .int 0, .int 0]))] := hD
  refine lv_dup hx hb dL_law__3 rfl ?_
  have hFc := va_free (wc := [(x0, .inr (9, [.null, .null, .null, .null, .null, .null, .null, .null, .null, .null, .null, .null, .int 0, .int 0, .int 0]))]) hD hS hA [0] rfl
  have hPc := hP.sub (ws' := [(x0, .inr (9, [.null, .null, .null, .null, .null, .null, .null, .null, .null, .null, .null, .null, .int 0, .int 0, .int 0]))]) [0] rfl
  have hDc := hD.sub (ws' := [(x0, .inr (9, [.null, .null, .null, .null, .null, .null, .null, .null, .null, .null, .null, .null, .int 0, .int 0, .int 0]))]) [0] (by decide) rfl
  refine va_callv (va_runI (Ts := tblG) (As := []) (rest := [.ref x0]) ⟨hx, hb, hml, hown, hts⟩ (i_Main (cI := cI) (cJ := cJ) (D := D) (G0 := (D, cI, cJ, fun _ => 0, ad)) hfl x0 H.size) ⟨callB_of 0 hts (gin knX9_init.1) rfl rfl rfl (hts _ knX9_init.2.1) (hts _ q_1529) knX9_init.2.2.1 ⟨Nat.le_of_ble_eq_true rfl, Nat.le_of_ble_eq_true rfl⟩, rfl, hts _ q_1350⟩ ⟨fun a U g mk q => by obtain ⟨q0, q1, qP, qK, qD, qX, qN⟩ := q; exact ⟨q0, q1, qP, va_K.moved (u := U) (U := U.calling g mk a) (Vm.Alike.refl U.vm) qK, qD, ex.same rfl qX, fun q hq => va_Nw.same rfl rfl (qN q hq)⟩, fun U hU hW => ⟨rfl, by rw [hU], by rw [hU]; exact hPc, va_K.moved hW.alike hK, hDc.weaken (fun _ _ _ _ => trivial), by rw [hU]; exact (((hex D cI cJ (fun _ => 0)).kept hS.2.1).narrow hFc).warm hW, fun q hq => va_Nw.warmM hW (hns q hq)⟩⟩ rfl rfl hl.1 rfl (lv_room (Nat.le_of_ble_eq_true rfl)) dL_law__4 ⟨Nat.le_of_ble_eq_true rfl, Nat.le_of_ble_eq_true rfl⟩) hS (fun q _ h => hFc q h) hFc (fun u t H1 locs1 ht hvm hw hB hz1 hk1 hS => ?_)
  obtain ⟨hP1, hD1⟩ := hB
  rw [ht] at hP1
  obtain ⟨hP, hD⟩ := va_join (wr := []) (w1 := u) hP hD [0] [] rfl rfl (by decide) (by decide) hk1 hFc hP1 hD1
  obtain ⟨ca1, ca2, ca3, ca4, ca5, ca6, ca7, ca8, ca9, ca10, ca11, ca12, ca13, ca14, ca15, ca16, ca17, ca18, ca19, ca20, ca21, ca22, ca23, ca24, ca25, ca26, ca27, ca28, ca29, ca30, ca31, ca32, ca33, ca34, ca35, ca36, ca37, ca38, ca39, ca40, ca41, ca42, ca43, ca44, ca45, ca46, ca47, ca48, ca49, ca50, ca51, ca52, rfl⟩ := hw
  clear hP1 hD1 hk1 hFc hPc hDc
  generalize H1 = H at hP hS ⊢
  have hP : va_P D vwCl [(x0, .inr (9, [.ref ca16, .ref ca1, .ref ca18, .ref ca10, .ref ca27, .ref ca31, .ref ca35, .ref ca39, .ref ca14, .ref ca43, .ref ca47, .ref ca50, .int 0, .int 0, .int 0])), (ca1, .inr (7, [.int 0, .int 0, .int 0, .int 3, .ref ca2, .ref ca3, .ref ca4, .ref ca5, .ref ca6, .ref ca7, .ref ca8, .ref ca9])), (ca2, .inl (cI, 8, .inl (fun _ => 0))), (ca3, .inl (cI, 8, .inl (fun _ => 0))), (ca4, .inl (cI, 6, .inl (fun _ => 0))), (ca5, .inl (cI, 6, .inl (fun _ => 0))), (ca6, .inl (cI, 10, .inl (fun _ => 0))), (ca7, .inl (cI, 10, .inl (fun _ => 0))), (ca8, .inl (cI, 10, .inl (fun _ => 0))), (ca9, .inl (cI, 10, .inl (fun _ => 0))), (ca10, .inr (1, [.ref ca11, .int 3, .ref ca12, .ref ca13])), (ca11, .inl (cI, 160, .inl (lawS.2.1 1))), (ca12, .inl (cI, 8, .inl (fun _ => 0))), (ca13, .inl (cI, 40, .inl (fun _ => 0))), (ca14, .inr (5, [.ref ca15, .ref ca1, .ref ca10])), (ca15, .inl (cI, 74, .inl (fun _ => 0))), (ca16, .inr (6, [.ref ca17, .int 0, .int 0, .int (-1), .int 0, .int 0, .int 0, .int 0])), (ca17, .inl (cI, 600, .inl (fun _ => 0))), (ca18, .inr (7, [.int 0, .int 0, .int 0, .int 3, .ref ca19, .ref ca20, .ref ca21, .ref ca22, .ref ca23, .ref ca24, .ref ca25, .ref ca26])), (ca19, .inl (cI, 8, .inl (fun _ => 0))), (ca20, .inl (cI, 8, .inl (fun _ => 0))), (ca21, .inl (cI, 6, .inl (fun _ => 0))), (ca22, .inl (cI, 6, .inl (fun _ => 0))), (ca23, .inl (cI, 10, .inl (fun _ => 0))), (ca24, .inl (cI, 10, .inl (fun _ => 0))), (ca25, .inl (cI, 10, .inl (fun _ => 0))), (ca26, .inl (cI, 10, .inl (fun _ => 0))), (ca27, .inr (1, [.ref ca28, .int 3, .ref ca29, .ref ca30])), (ca28, .inl (cI, 160, .inl (lawS.2.1 1))), (ca29, .inl (cI, 8, .inl (fun _ => 0))), (ca30, .inl (cI, 40, .inl (fun _ => 0))), (ca31, .inr (0, [.int 0, .ref ca32, .ref ca33, .ref ca34])), (ca32, .inl (cI, 6, .inl (fun _ => 0))), (ca33, .inl (cI, 6, .inl (fun _ => 0))), (ca34, .inl (cI, 6, .inl (fun _ => 0))), (ca35, .inr (0, [.int 0, .ref ca36, .ref ca37, .ref ca38])), (ca36, .inl (cI, 6, .inl (fun _ => 0))), (ca37, .inl (cI, 6, .inl (fun _ => 0))), (ca38, .inl (cI, 6, .inl (fun _ => 0))), (ca39, .inr (8, [.ref ca40, .ref ca41, .ref ca42, .int 0, .int 0, .int 0, .int 0])), (ca40, .inl (cI, 64, .inl (fun _ => 0))), (ca41, .inl (cI, 64, .inl (fun _ => 0))), (ca42, .inl (cI, 64, .inl (fun _ => 0))), (ca43, .inr (4, [.int 0, .int 0, .ref ca44, .ref ca45, .ref ca46])), (ca44, .inl (cI, 1184, .inl (fun _ => 0))), (ca45, .inl (cI, 3774, .inl (fun _ => 0))), (ca46, .inl (cI, 3, .inl (fun _ => 0))), (ca48, .inr (5, [.ref ca49, .ref ca1, .ref ca10])), (ca49, .inl (cI, 74, .inl (fun _ => 0))), (ca47, .inr (2, [.ref ca1, .ref ca14, .ref ca48, .int 0])), (ca50, .inr (3, [.ref ca1, .ref ca14, .ref ca51, .ref ca52, .int 0])), (ca51, .inl (cI, 10, .inl (fun _ => 0))), (ca52, .inl (cI, 10, .inl (fun _ => 0)))] H := hP
  have hD : va_D (fun q : Nat => s.heap.size ≤ q) [(x0, .inr (9, [.ref ca16, .ref ca1, .ref ca18, .ref ca10, .ref ca27, .ref ca31, .ref ca35, .ref ca39, .ref ca14, .ref ca43, .ref ca47, .ref ca50, .int 0, .int 0, .int 0])), (ca1, .inr (7, [.int 0, .int 0, .int 0, .int 3, .ref ca2, .ref ca3, .ref ca4, .ref ca5, .ref ca6, .ref ca7, .ref ca8, .ref ca9])), (ca2, .inl (cI, 8, .inl (fun _ => 0))), (ca3, .inl (cI, 8, .inl (fun _ => 0))), (ca4, .inl (cI, 6, .inl (fun _ => 0))), (ca5, .inl (cI, 6, .inl (fun _ => 0))), (ca6, .inl (cI, 10, .inl (fun _ => 0))), (ca7, .inl (cI, 10, .inl (fun _ => 0))), (ca8, .inl (cI, 10, .inl (fun _ => 0))), (ca9, .inl (cI, 10, .inl (fun _ => 0))), (ca10, .inr (1, [.ref ca11, .int 3, .ref ca12, .ref ca13])), (ca11, .inl (cI, 160, .inl (lawS.2.1 1))), (ca12, .inl (cI, 8, .inl (fun _ => 0))), (ca13, .inl (cI, 40, .inl (fun _ => 0))), (ca14, .inr (5, [.ref ca15, .ref ca1, .ref ca10])), (ca15, .inl (cI, 74, .inl (fun _ => 0))), (ca16, .inr (6, [.ref ca17, .int 0, .int 0, .int (-1), .int 0, .int 0, .int 0, .int 0])), (ca17, .inl (cI, 600, .inl (fun _ => 0))), (ca18, .inr (7, [.int 0, .int 0, .int 0, .int 3, .ref ca19, .ref ca20, .ref ca21, .ref ca22, .ref ca23, .ref ca24, .ref ca25, .ref ca26])), (ca19, .inl (cI, 8, .inl (fun _ => 0))), (ca20, .inl (cI, 8, .inl (fun _ => 0))), (ca21, .inl (cI, 6, .inl (fun _ => 0))), (ca22, .inl (cI, 6, .inl (fun _ => 0))), (ca23, .inl (cI, 10, .inl (fun _ => 0))), (ca24, .inl (cI, 10, .inl (fun _ => 0))), (ca25, .inl (cI, 10, .inl (fun _ => 0))), (ca26, .inl (cI, 10, .inl (fun _ => 0))), (ca27, .inr (1, [.ref ca28, .int 3, .ref ca29, .ref ca30])), (ca28, .inl (cI, 160, .inl (lawS.2.1 1))), (ca29, .inl (cI, 8, .inl (fun _ => 0))), (ca30, .inl (cI, 40, .inl (fun _ => 0))), (ca31, .inr (0, [.int 0, .ref ca32, .ref ca33, .ref ca34])), (ca32, .inl (cI, 6, .inl (fun _ => 0))), (ca33, .inl (cI, 6, .inl (fun _ => 0))), (ca34, .inl (cI, 6, .inl (fun _ => 0))), (ca35, .inr (0, [.int 0, .ref ca36, .ref ca37, .ref ca38])), (ca36, .inl (cI, 6, .inl (fun _ => 0))), (ca37, .inl (cI, 6, .inl (fun _ => 0))), (ca38, .inl (cI, 6, .inl (fun _ => 0))), (ca39, .inr (8, [.ref ca40, .ref ca41, .ref ca42, .int 0, .int 0, .int 0, .int 0])), (ca40, .inl (cI, 64, .inl (fun _ => 0))), (ca41, .inl (cI, 64, .inl (fun _ => 0))), (ca42, .inl (cI, 64, .inl (fun _ => 0))), (ca43, .inr (4, [.int 0, .int 0, .ref ca44, .ref ca45, .ref ca46])), (ca44, .inl (cI, 1184, .inl (fun _ => 0))), (ca45, .inl (cI, 3774, .inl (fun _ => 0))), (ca46, .inl (cI, 3, .inl (fun _ => 0))), (ca48, .inr (5, [.ref ca49, .ref ca1, .ref ca10])), (ca49, .inl (cI, 74, .inl (fun _ => 0))), (ca47, .inr (2, [.ref ca1, .ref ca14, .ref ca48, .int 0])), (ca50, .inr (3, [.ref ca1, .ref ca14, .ref ca51, .ref ca52, .int 0])), (ca51, .inl (cI, 10, .inl (fun _ => 0))), (ca52, .inl (cI, 10, .inl (fun _ => 0)))] := hD
  refine lv_astore_n (lv' := [(1, .ref x0), (0, .ref b)]) hx hb dL_law__7 rfl hl (by decide) rfl (fun ls hl => ?_)
  refine va_new (ci := 10) (fs := [.int 0, .null, .int 0, .int 0, .int 0, .int 0, .int 0, .int 0, .int 0, .null, .null, .null, .null, .null, .null, .null, .int 0, .int 0, .int 0, .int 0, .int 0, .int 0, .int 0, .int 0, .null, .null, .null, .null, .null, .int 0, .int 0, .null, .null, .null, .int 0, .int 0, .int 0, .int 0, .int 0, .int 0, .null, .null, .null, .null, .null, .int 0, .null, .int 0, .null, .null, .int 0, .null, .int 0]) (C := RX10) (T := TX10) (N := 53) hx hb hts inRX10 tyX10 tyX10_ok hown (hts _ q_1527) (hts _ q_1528) (hts _ q_815) hK hP hD hS hA rfl (by decide +kernel) (Nat.le_of_ble_eq_true rfl) (Nat.le_of_ble_eq_true rfl) dL_law__8 (fun m0 H hP hD hS => ?_)
  refine lv_dup hx hb dL_law__11 rfl ?_
  have hFc := va_free (wc := [(m0, .inr (10, [.int 0, .null, .int 0, .int 0, .int 0, .int 0, .int 0, .int 0, .int 0, .null, .null, .null, .null, .null, .null, .null, .int 0, .int 0, .int 0, .int 0, .int 0, .int 0, .int 0, .int 0, .null, .null, .null, .null, .null, .int 0, .int 0, .null, .null, .null, .int 0, .int 0, .int 0, .int 0, .int 0, .int 0, .null, .null, .null, .null, .null, .int 0, .null, .int 0, .null, .null, .int 0, .null, .int 0]))]) hD hS hA [53] rfl
  have hPc := hP.sub (ws' := [(m0, .inr (10, [.int 0, .null, .int 0, .int 0, .int 0, .int 0, .int 0, .int 0, .int 0, .null, .null, .null, .null, .null, .null, .null, .int 0, .int 0, .int 0, .int 0, .int 0, .int 0, .int 0, .int 0, .null, .null, .null, .null, .null, .int 0, .int 0, .null, .null, .null, .int 0, .int 0, .int 0, .int 0, .int 0, .int 0, .null, .null, .null, .null, .null, .int 0, .null, .int 0, .null, .null, .int 0, .null, .int 0]))]) [53] rfl
  have hDc := hD.sub (ws' := [(m0, .inr (10, [.int 0, .null, .int 0, .int 0, .int 0, .int 0, .int 0, .int 0, .int 0, .null, .null, .null, .null, .null, .null, .null, .int 0, .int 0, .int 0, .int 0, .int 0, .int 0, .int 0, .int 0, .null, .null, .null, .null, .null, .int 0, .int 0, .null, .null, .null, .int 0, .int 0, .int 0, .int 0, .int 0, .int 0, .null, .null, .null, .null, .null, .int 0, .null, .int 0, .null, .null, .int 0, .null, .int 0]))]) [53] (by decide) rfl
  refine va_callv (va_runI (Ts := tblG) (As := []) (rest := [.ref m0]) ⟨hx, hb, hml, hown, hts⟩ (i_Model (cI := cI) (cJ := cJ) (D := D) (G0 := (D, cI, cJ, fun _ => 0, ad)) hfl hS2 m0 H.size) ⟨callB_of 0 hts (gin knX10_init.1) rfl rfl rfl (hts _ knX10_init.2.1) (hts _ q_1530) knX10_init.2.2.1 ⟨Nat.le_of_ble_eq_true rfl, Nat.le_of_ble_eq_true rfl⟩, rfl, hts _ q_1354⟩ ⟨fun a U g mk q => by obtain ⟨q0, q1, qP, qK, qD, qX, qN⟩ := q; exact ⟨q0, q1, qP, va_K.moved (u := U) (U := U.calling g mk a) (Vm.Alike.refl U.vm) qK, qD, ex.same rfl qX, fun q hq => va_Nw.same rfl rfl (qN q hq)⟩, fun U hU hW => ⟨rfl, by rw [hU], by rw [hU]; exact hPc, va_K.moved hW.alike hK, hDc.weaken (fun _ _ _ _ => trivial), by rw [hU]; exact (((hex D cI cJ (fun _ => 0)).kept hS.2.1).narrow hFc).warm hW, fun q hq => va_Nw.warmM hW (hns q hq)⟩⟩ rfl rfl hl.1 rfl (lv_room (Nat.le_of_ble_eq_true rfl)) dL_law__12 ⟨Nat.le_of_ble_eq_true rfl, Nat.le_of_ble_eq_true rfl⟩) hS (fun q _ h => hFc q h) hFc (fun u t H1 locs1 ht hvm hw hB hz1 hk1 hS => ?_)
  obtain ⟨hP1, hD1⟩ := hB
  rw [ht] at hP1
  obtain ⟨hP, hD⟩ := va_join (wr := [(x0, .inr (9, [.ref ca16, .ref ca1, .ref ca18, .ref ca10, .ref ca27, .ref ca31, .ref ca35, .ref ca39, .ref ca14, .ref ca43, .ref ca47, .ref ca50, .int 0, .int 0, .int 0])), (ca1, .inr (7, [.int 0, .int 0, .int 0, .int 3, .ref ca2, .ref ca3, .ref ca4, .ref ca5, .ref ca6, .ref ca7, .ref ca8, .ref ca9])), (ca2, .inl (cI, 8, .inl (fun _ => 0))), (ca3, .inl (cI, 8, .inl (fun _ => 0))), (ca4, .inl (cI, 6, .inl (fun _ => 0))), (ca5, .inl (cI, 6, .inl (fun _ => 0))), (ca6, .inl (cI, 10, .inl (fun _ => 0))), (ca7, .inl (cI, 10, .inl (fun _ => 0))), (ca8, .inl (cI, 10, .inl (fun _ => 0))), (ca9, .inl (cI, 10, .inl (fun _ => 0))), (ca10, .inr (1, [.ref ca11, .int 3, .ref ca12, .ref ca13])), (ca11, .inl (cI, 160, .inl (lawS.2.1 1))), (ca12, .inl (cI, 8, .inl (fun _ => 0))), (ca13, .inl (cI, 40, .inl (fun _ => 0))), (ca14, .inr (5, [.ref ca15, .ref ca1, .ref ca10])), (ca15, .inl (cI, 74, .inl (fun _ => 0))), (ca16, .inr (6, [.ref ca17, .int 0, .int 0, .int (-1), .int 0, .int 0, .int 0, .int 0])), (ca17, .inl (cI, 600, .inl (fun _ => 0))), (ca18, .inr (7, [.int 0, .int 0, .int 0, .int 3, .ref ca19, .ref ca20, .ref ca21, .ref ca22, .ref ca23, .ref ca24, .ref ca25, .ref ca26])), (ca19, .inl (cI, 8, .inl (fun _ => 0))), (ca20, .inl (cI, 8, .inl (fun _ => 0))), (ca21, .inl (cI, 6, .inl (fun _ => 0))), (ca22, .inl (cI, 6, .inl (fun _ => 0))), (ca23, .inl (cI, 10, .inl (fun _ => 0))), (ca24, .inl (cI, 10, .inl (fun _ => 0))), (ca25, .inl (cI, 10, .inl (fun _ => 0))), (ca26, .inl (cI, 10, .inl (fun _ => 0))), (ca27, .inr (1, [.ref ca28, .int 3, .ref ca29, .ref ca30])), (ca28, .inl (cI, 160, .inl (lawS.2.1 1))), (ca29, .inl (cI, 8, .inl (fun _ => 0))), (ca30, .inl (cI, 40, .inl (fun _ => 0))), (ca31, .inr (0, [.int 0, .ref ca32, .ref ca33, .ref ca34])), (ca32, .inl (cI, 6, .inl (fun _ => 0))), (ca33, .inl (cI, 6, .inl (fun _ => 0))), (ca34, .inl (cI, 6, .inl (fun _ => 0))), (ca35, .inr (0, [.int 0, .ref ca36, .ref ca37, .ref ca38])), (ca36, .inl (cI, 6, .inl (fun _ => 0))), (ca37, .inl (cI, 6, .inl (fun _ => 0))), (ca38, .inl (cI, 6, .inl (fun _ => 0))), (ca39, .inr (8, [.ref ca40, .ref ca41, .ref ca42, .int 0, .int 0, .int 0, .int 0])), (ca40, .inl (cI, 64, .inl (fun _ => 0))), (ca41, .inl (cI, 64, .inl (fun _ => 0))), (ca42, .inl (cI, 64, .inl (fun _ => 0))), (ca43, .inr (4, [.int 0, .int 0, .ref ca44, .ref ca45, .ref ca46])), (ca44, .inl (cI, 1184, .inl (fun _ => 0))), (ca45, .inl (cI, 3774, .inl (fun _ => 0))), (ca46, .inl (cI, 3, .inl (fun _ => 0))), (ca48, .inr (5, [.ref ca49, .ref ca1, .ref ca10])), (ca49, .inl (cI, 74, .inl (fun _ => 0))), (ca47, .inr (2, [.ref ca1, .ref ca14, .ref ca48, .int 0])), (ca50, .inr (3, [.ref ca1, .ref ca14, .ref ca51, .ref ca52, .int 0])), (ca51, .inl (cI, 10, .inl (fun _ => 0))), (ca52, .inl (cI, 10, .inl (fun _ => 0)))]) (w1 := u) hP hD [53] [0, 1, 2, 3, 4, 5, 6, 7, 8, 9, 10, 11, 12, 13, 14, 15, 16, 17, 18, 19, 20, 21, 22, 23, 24, 25, 26, 27, 28, 29, 30, 31, 32, 33, 34, 35, 36, 37, 38, 39, 40, 41, 42, 43, 44, 45, 46, 47, 48, 49, 50, 51, 52] rfl rfl (by decide) (by decide) hk1 hFc hP1 hD1
  obtain ⟨ma1, ma2, ma3, ma4, ma5, ma6, ma7, ma8, ma9, ma10, ma11, ma12, ma13, ma14, ma15, ma16, ma17, ma18, ma19, ma20, ma21, ma22, ma23, ma24, ma25, rfl⟩ := hw
  clear hP1 hD1 hk1 hFc hPc hDc
  generalize H1 = H at hP hS ⊢
  refine lv_astore_n (lv' := [(2, .ref m0), (1, .ref x0), (0, .ref b)]) hx hb dL_law__15 rfl hl (by decide) rfl (fun ls hl => ?_)
  refine lv_iconst (v := 1) hx hb dL_law__16 (by decide) ?_
  refine va_newa (atype := .long) (ty := .long) (N' := 1) (a0 := (1, .inr (.inl (fun _ => 0)))) hx hb (hts _ q_1352) rfl hK hP hD hS hA (fun cA => rfl) (by decide) (by decide) (by decide) (Nat.le_of_ble_eq_true rfl) (Nat.le_of_ble_eq_true rfl) dL_law__17 (fun o0 cA H hK1 hP hD hS => ?_)
  have e : cA = cJ := Option.some.inj ((show s.vm.findClass _ = some cA from (hK1.2 2 (cA, .long) rfl).2).symm.trans hJ2)
  subst e
  refine lv_astore_n (lv' := [(3, .ref o0), (2, .ref m0), (1, .ref x0), (0, .ref b)]) hx hb dL_law__19 rfl hl (by decide) rfl (fun ls hl => ?_)
  refine lv_iconst (v := 0) hx hb dL_law__20 (by decide) ?_
  refine lv_istore (lv' := [(4, .int 0), (3, .ref o0), (2, .ref m0), (1, .ref x0), (0, .ref b)]) hx hb dL_law__21 hl (by decide) rfl (fun ls hl => ?_)
  have hPC := hP.sub (ws' := wC (D, cI, cA, adC x0 ca16 ca1 ca18 ca10 ca27 ca31 ca35 ca39 ca14 ca43 ca47 ca50 ca48 ca17 ca2 ca3 ca4 ca5 ca6 ca7 ca8 ca9 ca19 ca20 ca21 ca22 ca23 ca24 ca25 ca26 ca11 ca12 ca13 ca28 ca29 ca30 ca32 ca33 ca34 ca36 ca37 ca38 ca40 ca41 ca42 ca15 ca44 ca45 ca46 ca51 ca52 ca49 o0, ad) clsS0) [0, 16, 1, 18, 10, 27, 31, 35, 39, 14, 43, 49, 50, 47, 17, 2, 3, 4, 5, 6, 7, 8, 9, 19, 20, 21, 22, 23, 24, 25, 26, 11, 12, 13, 28, 29, 30, 32, 33, 34, 36, 37, 38, 40, 41, 42, 15, 44, 45, 46, 51, 52, 48, 79] rfl
  have hDC := hD.sub (ws' := wC (D, cI, cA, adC x0 ca16 ca1 ca18 ca10 ca27 ca31 ca35 ca39 ca14 ca43 ca47 ca50 ca48 ca17 ca2 ca3 ca4 ca5 ca6 ca7 ca8 ca9 ca19 ca20 ca21 ca22 ca23 ca24 ca25 ca26 ca11 ca12 ca13 ca28 ca29 ca30 ca32 ca33 ca34 ca36 ca37 ca38 ca40 ca41 ca42 ca15 ca44 ca45 ca46 ca51 ca52 ca49 o0, ad) clsS0) [0, 16, 1, 18, 10, 27, 31, 35, 39, 14, 43, 49, 50, 47, 17, 2, 3, 4, 5, 6, 7, 8, 9, 19, 20, 21, 22, 23, 24, 25, 26, 11, 12, 13, 28, 29, 30, 32, 33, 34, 36, 37, 38, 40, 41, 42, 15, 44, 45, 46, 51, 52, 48, 79] (by decide) rfl
  have hPR := hP.sub (ws' := wR (D, cI, cA, adR m0 ma1 ma2 ma3 ma4 ma5 ma6 ma7 ma8 ma9 ma10 ma11 ma12 ma13 ma14 ma15 ma16 ma17 ma18 ma19 ma20 ma21 ma22 ma23 ma24 ma25, ad) S2) [53, 54, 55, 56, 57, 58, 59, 60, 61, 62, 63, 64, 65, 66, 67, 68, 69, 70, 71, 72, 73, 74, 75, 76, 77, 78] rfl
  have hDR := hD.sub (ws' := wR (D, cI, cA, adR m0 ma1 ma2 ma3 ma4 ma5 ma6 ma7 ma8 ma9 ma10 ma11 ma12 ma13 ma14 ma15 ma16 ma17 ma18 ma19 ma20 ma21 ma22 ma23 ma24 ma25, ad) S2) [53, 54, 55, 56, 57, 58, 59, 60, 61, 62, 63, 64, 65, 66, 67, 68, 69, 70, 71, 72, 73, 74, 75, 76, 77, 78] (by decide) rfl
  have hdj := va_disj (w1 := wC (D, cI, cA, adC x0 ca16 ca1 ca18 ca10 ca27 ca31 ca35 ca39 ca14 ca43 ca47 ca50 ca48 ca17 ca2 ca3 ca4 ca5 ca6 ca7 ca8 ca9 ca19 ca20 ca21 ca22 ca23 ca24 ca25 ca26 ca11 ca12 ca13 ca28 ca29 ca30 ca32 ca33 ca34 ca36 ca37 ca38 ca40 ca41 ca42 ca15 ca44 ca45 ca46 ca51 ca52 ca49 o0, ad) clsS0) (w2 := wR (D, cI, cA, adR m0 ma1 ma2 ma3 ma4 ma5 ma6 ma7 ma8 ma9 ma10 ma11 ma12 ma13 ma14 ma15 ma16 ma17 ma18 ma19 ma20 ma21 ma22 ma23 ma24 ma25, ad) S2) hD [0, 16, 1, 18, 10, 27, 31, 35, 39, 14, 43, 49, 50, 47, 17, 2, 3, 4, 5, 6, 7, 8, 9, 19, 20, 21, 22, 23, 24, 25, 26, 11, 12, 13, 28, 29, 30, 32, 33, 34, 36, 37, 38, 40, 41, 42, 15, 44, 45, 46, 51, 52, 48, 79] [53, 54, 55, 56, 57, 58, 59, 60, 61, 62, 63, 64, 65, 66, 67, 68, 69, 70, 71, 72, 73, 74, 75, 76, 77, 78] rfl rfl (by decide)
  have wkC : Wok (D, cI, cA, adC x0 ca16 ca1 ca18 ca10 ca27 ca31 ca35 ca39 ca14 ca43 ca47 ca50 ca48 ca17 ca2 ca3 ca4 ca5 ca6 ca7 ca8 ca9 ca19 ca20 ca21 ca22 ca23 ca24 ca25 ca26 ca11 ca12 ca13 ca28 ca29 ca30 ca32 ca33 ca34 ca36 ca37 ca38 ca40 ca41 ca42 ca15 ca44 ca45 ca46 ca51 ca52 ca49 o0, ad) wC 54 := wok_of (fun _ => rfl) hDC
  have wkR : Wok (D, cI, cA, adR m0 ma1 ma2 ma3 ma4 ma5 ma6 ma7 ma8 ma9 ma10 ma11 ma12 ma13 ma14 ma15 ma16 ma17 ma18 ma19 ma20 ma21 ma22 ma23 ma24 ma25, ad) wR 26 := wok_of (fun _ => rfl) hDR
  refine W.widen (k := 100 + 3 * 0) (n := 20000 + 18 * 0) (Nat.le_of_ble_eq_true rfl) (Nat.le_of_ble_eq_true rfl) ?_
  refine law_loop (E := (p, l, e, room_1, s, m, #[Value.ref b], below, meth, c)) (Y := ((D, cI, cA, adC x0 ca16 ca1 ca18 ca10 ca27 ca31 ca35 ca39 ca14 ca43 ca47 ca50 ca48 ca17 ca2 ca3 ca4 ca5 ca6 ca7 ca8 ca9 ca19 ca20 ca21 ca22 ca23 ca24 ca25 ca26 ca11 ca12 ca13 ca28 ca29 ca30 ca32 ca33 ca34 ca36 ca37 ca38 ca40 ca41 ca42 ca15 ca44 ca45 ca46 ca51 ca52 ca49 o0, ad), (D, cI, cA, adR m0 ma1 ma2 ma3 ma4 ma5 ma6 ma7 ma8 ma9 ma10 ma11 ma12 ma13 ma14 ma15 ma16 ma17 ma18 ma19 ma20 ma21 ma22 ma23 ma24 ma25, ad), b, L, xs)) ⟨hx, hb, hml, hown, hts, hK, ⟨rfl, rfl, rfl, rfl⟩, wkC, wkR, fun i j hi hj => ?_, fun i hi => ?_, fun i hi => ?_, hex _ _ _ _, hnc, hX, hbl, hlocks, hr, rfl, hfl, rfl⟩ hops hL (L + 1) 0 0 clsS0 S2 (Nat.zero_le _) (by show L + 9 ≤ _; omega) nI_0.symm hR0 ls H _ (lv_sub hl [4, 3, 2, 1, 0] rfl) hPC hPR hS
  · obtain ⟨p1, hp1, ep⟩ := w_key (w := wC) (S := clsS0) wkC.1 hi
    obtain ⟨q1, hq1, eq⟩ := w_key (w := wR) (S := S2) wkR.1 hj
    rw [← ep, ← eq]
    exact hdj i j p1 q1 hp1 hq1
  · obtain ⟨p1, hp1, ep⟩ := w_key (w := wC) (S := clsS0) wkC.1 hi
    show s.heap.size ≤ gA _ i
    rw [← ep]
    exact hDC.2 i p1 hp1
  · obtain ⟨q1, hq1, eq⟩ := w_key (w := wR) (S := S2) wkR.1 hi
    show s.heap.size ≤ gA _ i
    rw [← eq]
    exact hDR.2 i q1 hq1
