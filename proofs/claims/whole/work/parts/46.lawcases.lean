/-! the law's cases -/
theorem cmp_self (x : Int64) : lg_cmp x x = 0 := by simp [lg_cmp]
theorem lawcase_0 {Rel : St → St → Prop} {E : Ec} {Y : Lc} {k n : Nat} {x4 : Int32} {SC SR : St} (C : JLC E Y) (hin : ∀ j : Nat, j ≤ 8 → vp_in (x4 + nI j) Y.2.2.2.1) (hf : k + 3 ≤ 601024 ∧ n + 18 ≤ 7293034) (hO : PO_feed Rel) (hR : Rel SC SR) (tail : ∀ SC1 SR1, Rel SC1 SR1 → JL E Y (k + 3) (n + 18) 2491 [(0, .ref Y.2.2.1), (1, .ref (gA Y.1 0)), (2, .ref (gA Y.2.1 0)), (3, .ref (gA Y.1 53)), (4, .int x4)] [] SC1 SR1) : JL E Y k n 208 [(0, .ref Y.2.2.1), (1, .ref (gA Y.1 0)), (2, .ref (gA Y.2.1 0)), (3, .ref (gA Y.1 53)), (4, .int x4)] [] SC SR := by
  refine jl_aload_n (pc := 208) 1 C dL_law__208 rfl rfl ?_
  refine jl_aload_n (pc := 209) 0 C dL_law__209 rfl rfl ?_
  refine jl_iload (pc := 210) 4 C dL_law__210 rfl ?_
  refine jl_iconst (pc := 212) 1 C dL_law__212 (by decide) ?_
  refine jl_iadd (pc := 213) C dL_law__213 ?_
  refine jl_sld (pc := 214) C dL_law__214 (hin 1 (by decide)) ?_
  refine jl_aload_n (pc := 215) 0 C dL_law__215 rfl rfl ?_
  refine jl_iload (pc := 216) 4 C dL_law__216 rfl ?_
  refine jl_iconst (pc := 218) 2 C dL_law__218 (by decide) ?_
  refine jl_iadd (pc := 219) C dL_law__219 ?_
  refine jl_sld (pc := 220) C dL_law__220 (hin 2 (by decide)) ?_
  refine jl_aload_n (pc := 221) 0 C dL_law__221 rfl rfl ?_
  refine jl_iload (pc := 222) 4 C dL_law__222 rfl ?_
  refine jl_iconst (pc := 224) 3 C dL_law__224 (by decide) ?_
  refine jl_iadd (pc := 225) C dL_law__225 ?_
  refine jl_sld (pc := 226) C dL_law__226 (hin 3 (by decide)) ?_
  refine jl_aload_n (pc := 227) 0 C dL_law__227 rfl rfl ?_
  refine jl_iload (pc := 228) 4 C dL_law__228 rfl ?_
  refine jl_iconst (pc := 230) 4 C dL_law__230 (by decide) ?_
  refine jl_iadd (pc := 231) C dL_law__231 ?_
  refine jl_sld (pc := 232) C dL_law__232 (hin 4 (by decide)) ?_
  refine jl_aload_n (pc := 233) 0 C dL_law__233 rfl rfl ?_
  refine jl_iload (pc := 234) 4 C dL_law__234 rfl ?_
  refine jl_iconst (pc := 236) 5 C dL_law__236 (by decide) ?_
  refine jl_iadd (pc := 237) C dL_law__237 ?_
  refine jl_sld (pc := 238) C dL_law__238 (hin 5 (by decide)) ?_
  obtain ⟨v, SC1, SR1, e1, e2, hR1⟩ := hO SC SR hR (Y.2.2.2.2 (x4 + 1).toNatClampNeg) (Y.2.2.2.2 (x4 + 2).toNatClampNeg) (Y.2.2.2.2 (x4 + 3).toNatClampNeg) (Y.2.2.2.2 (x4 + 4).toNatClampNeg) (Y.2.2.2.2 (x4 + 5).toNatClampNeg)
  refine jl_callC (pc := 239) (As := [.int (Y.2.2.2.2 (x4 + 1).toNatClampNeg), .int (Y.2.2.2.2 (x4 + 2).toNatClampNeg), .int (Y.2.2.2.2 (x4 + 3).toNatClampNeg), .int (Y.2.2.2.2 (x4 + 4).toNatClampNeg), .int (Y.2.2.2.2 (x4 + 5).toNatClampNeg)]) (rest := []) C dL_law__239 (cC_Main_feed C.2.2.2.2.2.2.2.2.2.2.2.2.2.2.2.2.2.2.2.1 C.2.2.2.2.2.2.2.1 (Y.2.2.2.2 (x4 + 1).toNatClampNeg) (Y.2.2.2.2 (x4 + 2).toNatClampNeg) (Y.2.2.2.2 (x4 + 3).toNatClampNeg) (Y.2.2.2.2 (x4 + 4).toNatClampNeg) (Y.2.2.2.2 (x4 + 5).toNatClampNeg) SC) e1 rfl knX9_feed ⟨q_41, q_42⟩ q_1387 (by decide) rfl rfl (Nat.le_of_ble_eq_true rfl) ⟨by omega, by omega⟩ ?_
  refine jl_aload_n (pc := 242) 2 C dL_law__242 rfl rfl ?_
  refine jl_aload_n (pc := 243) 0 C dL_law__243 rfl rfl ?_
  refine jl_iload (pc := 244) 4 C dL_law__244 rfl ?_
  refine jl_iconst (pc := 246) 1 C dL_law__246 (by decide) ?_
  refine jl_iadd (pc := 247) C dL_law__247 ?_
  refine jl_sld (pc := 248) C dL_law__248 (hin 1 (by decide)) ?_
  refine jl_aload_n (pc := 249) 0 C dL_law__249 rfl rfl ?_
  refine jl_iload (pc := 250) 4 C dL_law__250 rfl ?_
  refine jl_iconst (pc := 252) 2 C dL_law__252 (by decide) ?_
  refine jl_iadd (pc := 253) C dL_law__253 ?_
  refine jl_sld (pc := 254) C dL_law__254 (hin 2 (by decide)) ?_
  refine jl_aload_n (pc := 255) 0 C dL_law__255 rfl rfl ?_
  refine jl_iload (pc := 256) 4 C dL_law__256 rfl ?_
  refine jl_iconst (pc := 258) 3 C dL_law__258 (by decide) ?_
  refine jl_iadd (pc := 259) C dL_law__259 ?_
  refine jl_sld (pc := 260) C dL_law__260 (hin 3 (by decide)) ?_
  refine jl_aload_n (pc := 261) 0 C dL_law__261 rfl rfl ?_
  refine jl_iload (pc := 262) 4 C dL_law__262 rfl ?_
  refine jl_iconst (pc := 264) 4 C dL_law__264 (by decide) ?_
  refine jl_iadd (pc := 265) C dL_law__265 ?_
  refine jl_sld (pc := 266) C dL_law__266 (hin 4 (by decide)) ?_
  refine jl_aload_n (pc := 267) 0 C dL_law__267 rfl rfl ?_
  refine jl_iload (pc := 268) 4 C dL_law__268 rfl ?_
  refine jl_iconst (pc := 270) 5 C dL_law__270 (by decide) ?_
  refine jl_iadd (pc := 271) C dL_law__271 ?_
  refine jl_sld (pc := 272) C dL_law__272 (hin 5 (by decide)) ?_
  refine jl_callR (pc := 273) (As := [.int (Y.2.2.2.2 (x4 + 1).toNatClampNeg), .int (Y.2.2.2.2 (x4 + 2).toNatClampNeg), .int (Y.2.2.2.2 (x4 + 3).toNatClampNeg), .int (Y.2.2.2.2 (x4 + 4).toNatClampNeg), .int (Y.2.2.2.2 (x4 + 5).toNatClampNeg)]) (rest := [.int v]) C dL_law__273 (cR_feed C.2.2.2.2.2.2.2.2.2.2.2.2.2.2.2.2.2.2.2.1 C.2.2.2.2.2.2.2.2.1 (Y.2.2.2.2 (x4 + 1).toNatClampNeg) (Y.2.2.2.2 (x4 + 2).toNatClampNeg) (Y.2.2.2.2 (x4 + 3).toNatClampNeg) (Y.2.2.2.2 (x4 + 4).toNatClampNeg) (Y.2.2.2.2 (x4 + 5).toNatClampNeg) SR) e2 rfl knX10_feed ⟨q_816, q_817⟩ q_1388 (by decide) rfl rfl (Nat.le_of_ble_eq_true rfl) ⟨by omega, by omega⟩ ?_
  refine jl_icmp_eq (pc := 276) 2491 C dL_law__276 (by decide) (fun _ => ?_) (fun h => absurd rfl h)
  refine jl_sub [0, 1, 2, 3, 4] rfl ?_
  exact jl_widen (by omega) (by omega) (tail _ _ hR1)

theorem lawcase_1 {Rel : St → St → Prop} {E : Ec} {Y : Lc} {k n : Nat} {x4 : Int32} {SC SR : St} (C : JLC E Y) (hin : ∀ j : Nat, j ≤ 8 → vp_in (x4 + nI j) Y.2.2.2.1) (hf : k + 3 ≤ 601024 ∧ n + 18 ≤ 7293034) (hO : PO_valley Rel) (hR : Rel SC SR) (tail : ∀ SC1 SR1, Rel SC1 SR1 → JL E Y (k + 3) (n + 18) 2491 [(0, .ref Y.2.2.1), (1, .ref (gA Y.1 0)), (2, .ref (gA Y.2.1 0)), (3, .ref (gA Y.1 53)), (4, .int x4)] [] SC1 SR1) : JL E Y k n 281 [(0, .ref Y.2.2.1), (1, .ref (gA Y.1 0)), (2, .ref (gA Y.2.1 0)), (3, .ref (gA Y.1 53)), (4, .int x4)] [] SC SR := by
  refine jl_aload_n (pc := 281) 1 C dL_law__281 rfl rfl ?_
  refine jl_aload_n (pc := 282) 0 C dL_law__282 rfl rfl ?_
  refine jl_iload (pc := 283) 4 C dL_law__283 rfl ?_
  refine jl_iconst (pc := 285) 1 C dL_law__285 (by decide) ?_
  refine jl_iadd (pc := 286) C dL_law__286 ?_
  refine jl_sld (pc := 287) C dL_law__287 (hin 1 (by decide)) ?_
  refine jl_aload_n (pc := 288) 3 C dL_law__288 rfl rfl ?_
  obtain ⟨v, b9, SC1, SR1, e1, e2, e3, e4, hR1⟩ := hO SC SR hR (Y.2.2.2.2 (x4 + 1).toNatClampNeg)
  refine jl_callH (pc := 289) (m := 3) (As := [.ref (gA Y.1 0), .int (Y.2.2.2.2 (x4 + 1).toNatClampNeg), .ref (gA Y.1 53)]) (rest := []) C dL_law__289 (cH_valley C.2.2.2.2.2.2.2.2.2.2.2.2.2.2.2.2.2.2.2.1 C.2.2.2.2.2.2.2.1 (Y.2.2.2.2 (x4 + 1).toNatClampNeg) SC) e1 q_1390 q_1391 (by decide +kernel) (by decide) q_1392 q_1389 (by decide) rfl rfl (Nat.le_of_ble_eq_true rfl) ⟨by omega, by omega⟩ ?_
  refine jl_istore (pc := 292) [(5, .int v), (0, .ref Y.2.2.1), (1, .ref (gA Y.1 0)), (2, .ref (gA Y.2.1 0)), (3, .ref (gA Y.1 53)), (4, .int x4)] C dL_law__292 (by decide) rfl ?_
  refine jl_aload_n (pc := 294) 3 C dL_law__294 rfl rfl ?_
  refine jl_aload_n (pc := 295) 1 C dL_law__295 rfl rfl ?_
  refine jl_iload (pc := 296) 5 C dL_law__296 rfl ?_
  refine jl_iconst (pc := 298) 1 C dL_law__298 (by decide) ?_
  refine jl_iadd (pc := 299) C dL_law__299 ?_
  refine jl_sld (pc := 300) C dL_law__300 (hin 1 (by decide)) ?_
  refine jl_callR (pc := 301) (As := [.int (Y.2.2.2.2 (x4 + 1).toNatClampNeg)]) (rest := []) C dL_law__301 (cR_valley C.2.2.2.2.2.2.2.2.2.2.2.2.2.2.2.2.2.2.2.1 C.2.2.2.2.2.2.2.2.1 (Y.2.2.2.2 (x4 + 1).toNatClampNeg) SR) e2 rfl knX10_valley ⟨q_924, q_925⟩ q_1393 (by decide) rfl rfl (Nat.le_of_ble_eq_true rfl) ⟨by omega, by omega⟩ ?_
  refine jl_istore (pc := 304) [(6, .int b9), (5, .int v), (0, .ref Y.2.2.1), (1, .ref (gA Y.1 0)), (2, .ref (gA Y.2.1 0)), (3, .ref (gA Y.1 53)), (4, .int x4)] C dL_law__304 (by decide) rfl ?_
  refine jl_aload_n (pc := 306) 4 C dL_law__306 rfl rfl ?_
  refine jl_callR (pc := 307) (As := []) (rest := []) C dL_law__307 (cR_thrown C.2.2.2.2.2.2.2.2.2.2.2.2.2.2.2.2.2.2.2.1 C.2.2.2.2.2.2.2.2.1 SR1) (show fR_thrown SR1 = some (rI (SR1.1 0), SR1) from rfl) rfl knX10_thrown ⟨q_1293, q_1294⟩ q_1394 (by decide) rfl rfl (Nat.le_of_ble_eq_true rfl) ⟨by omega, by omega⟩ ?_
  refine jl_iload (pc := 310) 1 C dL_law__310 rfl ?_
  refine jl_icmp_eq (pc := 312) 317 C dL_law__312 (by decide) (fun _ => ?_) (fun h => absurd e3 h)
  refine jl_iload (pc := 317) 1 C dL_law__317 rfl ?_
  refine jl_if_ne (pc := 319) 334 C dL_law__319 (by decide) (fun _ => ?_) (fun h => ?_)
  · refine jl_sub [2, 3, 4, 5, 6] rfl ?_
    refine jl_goto (pc := 334) 2491 C dL_law__334 (by decide) ?_
    exact jl_widen (by omega) (by omega) (tail _ _ hR1)
  · have e5 := e4 h
    refine jl_aload_n (pc := 322) 5 C dL_law__322 rfl rfl ?_
    refine jl_iconst (pc := 323) 0 C dL_law__323 (by decide) ?_
    refine jl_lald (pc := 324) C dL_law__324 rfl ?_
    refine jl_iload (pc := 325) 0 C dL_law__325 rfl ?_
    refine jl_i2l (pc := 327) C dL_law__327 ?_
    refine jl_lcmp (pc := 328) C dL_law__328 ?_
    refine jl_if_eq (pc := 329) 334 C dL_law__329 (by decide) (fun _ => ?_) (fun h => absurd (by rw [e5]; exact cmp_self _) h)
    refine jl_sub [2, 3, 4, 5, 6] rfl ?_
    refine jl_goto (pc := 334) 2491 C dL_law__334 (by decide) ?_
    exact jl_widen (by omega) (by omega) (tail _ _ hR1)

theorem lawcase_2 {Rel : St → St → Prop} {E : Ec} {Y : Lc} {k n : Nat} {x4 : Int32} {SC SR : St} (C : JLC E Y) (hin : ∀ j : Nat, j ≤ 8 → vp_in (x4 + nI j) Y.2.2.2.1) (hf : k + 3 ≤ 601024 ∧ n + 18 ≤ 7293034) (hO : PO_law Rel) (hR : Rel SC SR) (tail : ∀ SC1 SR1, Rel SC1 SR1 → JL E Y (k + 3) (n + 18) 2491 [(0, .ref Y.2.2.1), (1, .ref (gA Y.1 0)), (2, .ref (gA Y.2.1 0)), (3, .ref (gA Y.1 53)), (4, .int x4)] [] SC1 SR1) : JL E Y k n 337 [(0, .ref Y.2.2.1), (1, .ref (gA Y.1 0)), (2, .ref (gA Y.2.1 0)), (3, .ref (gA Y.1 53)), (4, .int x4)] [] SC SR := by
  refine jl_aload_n (pc := 337) 1 C dL_law__337 rfl rfl ?_
  refine jl_aload_n (pc := 338) 0 C dL_law__338 rfl rfl ?_
  refine jl_iload (pc := 339) 4 C dL_law__339 rfl ?_
  refine jl_iconst (pc := 341) 1 C dL_law__341 (by decide) ?_
  refine jl_iadd (pc := 342) C dL_law__342 ?_
  refine jl_sld (pc := 343) C dL_law__343 (hin 1 (by decide)) ?_
  refine jl_aload_n (pc := 344) 3 C dL_law__344 rfl rfl ?_
  obtain ⟨v, b9, SC1, SR1, e1, e2, e3, e4, hR1⟩ := hO SC SR hR (Y.2.2.2.2 (x4 + 1).toNatClampNeg)
  refine jl_callH (pc := 345) (m := 3) (As := [.ref (gA Y.1 0), .int (Y.2.2.2.2 (x4 + 1).toNatClampNeg), .ref (gA Y.1 53)]) (rest := []) C dL_law__345 (cH_law C.2.2.2.2.2.2.2.2.2.2.2.2.2.2.2.2.2.2.2.1 C.2.2.2.2.2.2.2.1 (Y.2.2.2.2 (x4 + 1).toNatClampNeg) SC) e1 q_1396 q_1391 (by decide +kernel) (by decide) q_1397 q_1395 (by decide) rfl rfl (Nat.le_of_ble_eq_true rfl) ⟨by omega, by omega⟩ ?_
  refine jl_istore (pc := 348) [(5, .int v), (0, .ref Y.2.2.1), (1, .ref (gA Y.1 0)), (2, .ref (gA Y.2.1 0)), (3, .ref (gA Y.1 53)), (4, .int x4)] C dL_law__348 (by decide) rfl ?_
  refine jl_aload_n (pc := 350) 3 C dL_law__350 rfl rfl ?_
  refine jl_aload_n (pc := 351) 1 C dL_law__351 rfl rfl ?_
  refine jl_iload (pc := 352) 5 C dL_law__352 rfl ?_
  refine jl_iconst (pc := 354) 1 C dL_law__354 (by decide) ?_
  refine jl_iadd (pc := 355) C dL_law__355 ?_
  refine jl_sld (pc := 356) C dL_law__356 (hin 1 (by decide)) ?_
  refine jl_callR (pc := 357) (As := [.int (Y.2.2.2.2 (x4 + 1).toNatClampNeg)]) (rest := []) C dL_law__357 (cR_law C.2.2.2.2.2.2.2.2.2.2.2.2.2.2.2.2.2.2.2.1 C.2.2.2.2.2.2.2.2.1 (Y.2.2.2.2 (x4 + 1).toNatClampNeg) SR) e2 rfl knX10_law ⟨q_964, q_965⟩ q_1398 (by decide) rfl rfl (Nat.le_of_ble_eq_true rfl) ⟨by omega, by omega⟩ ?_
  refine jl_istore (pc := 360) [(6, .int b9), (5, .int v), (0, .ref Y.2.2.1), (1, .ref (gA Y.1 0)), (2, .ref (gA Y.2.1 0)), (3, .ref (gA Y.1 53)), (4, .int x4)] C dL_law__360 (by decide) rfl ?_
  refine jl_aload_n (pc := 362) 4 C dL_law__362 rfl rfl ?_
  refine jl_callR (pc := 363) (As := []) (rest := []) C dL_law__363 (cR_thrown C.2.2.2.2.2.2.2.2.2.2.2.2.2.2.2.2.2.2.2.1 C.2.2.2.2.2.2.2.2.1 SR1) (show fR_thrown SR1 = some (rI (SR1.1 0), SR1) from rfl) rfl knX10_thrown ⟨q_1293, q_1294⟩ q_1394 (by decide) rfl rfl (Nat.le_of_ble_eq_true rfl) ⟨by omega, by omega⟩ ?_
  refine jl_iload (pc := 366) 1 C dL_law__366 rfl ?_
  refine jl_icmp_eq (pc := 368) 373 C dL_law__368 (by decide) (fun _ => ?_) (fun h => absurd e3 h)
  refine jl_iload (pc := 373) 1 C dL_law__373 rfl ?_
  refine jl_if_ne (pc := 375) 390 C dL_law__375 (by decide) (fun _ => ?_) (fun h => ?_)
  · refine jl_sub [2, 3, 4, 5, 6] rfl ?_
    refine jl_goto (pc := 390) 2491 C dL_law__390 (by decide) ?_
    exact jl_widen (by omega) (by omega) (tail _ _ hR1)
  · have e5 := e4 h
    refine jl_aload_n (pc := 378) 5 C dL_law__378 rfl rfl ?_
    refine jl_iconst (pc := 379) 0 C dL_law__379 (by decide) ?_
    refine jl_lald (pc := 380) C dL_law__380 rfl ?_
    refine jl_iload (pc := 381) 0 C dL_law__381 rfl ?_
    refine jl_i2l (pc := 383) C dL_law__383 ?_
    refine jl_lcmp (pc := 384) C dL_law__384 ?_
    refine jl_if_eq (pc := 385) 390 C dL_law__385 (by decide) (fun _ => ?_) (fun h => absurd (by rw [e5]; exact cmp_self _) h)
    refine jl_sub [2, 3, 4, 5, 6] rfl ?_
    refine jl_goto (pc := 390) 2491 C dL_law__390 (by decide) ?_
    exact jl_widen (by omega) (by omega) (tail _ _ hR1)

theorem lawcase_3 {Rel : St → St → Prop} {E : Ec} {Y : Lc} {k n : Nat} {x4 : Int32} {SC SR : St} (C : JLC E Y) (hin : ∀ j : Nat, j ≤ 8 → vp_in (x4 + nI j) Y.2.2.2.1) (hf : k + 3 ≤ 601024 ∧ n + 18 ≤ 7293034) (hO : PO_work Rel) (hR : Rel SC SR) (tail : ∀ SC1 SR1, Rel SC1 SR1 → JL E Y (k + 3) (n + 18) 2491 [(0, .ref Y.2.2.1), (1, .ref (gA Y.1 0)), (2, .ref (gA Y.2.1 0)), (3, .ref (gA Y.1 53)), (4, .int x4)] [] SC1 SR1) : JL E Y k n 393 [(0, .ref Y.2.2.1), (1, .ref (gA Y.1 0)), (2, .ref (gA Y.2.1 0)), (3, .ref (gA Y.1 53)), (4, .int x4)] [] SC SR := by
  refine jl_aload_n (pc := 393) 1 C dL_law__393 rfl rfl ?_
  refine jl_aload_n (pc := 394) 0 C dL_law__394 rfl rfl ?_
  refine jl_iload (pc := 395) 4 C dL_law__395 rfl ?_
  refine jl_iconst (pc := 397) 1 C dL_law__397 (by decide) ?_
  refine jl_iadd (pc := 398) C dL_law__398 ?_
  refine jl_sld (pc := 399) C dL_law__399 (hin 1 (by decide)) ?_
  refine jl_aload_n (pc := 400) 3 C dL_law__400 rfl rfl ?_
  obtain ⟨v, b9, SC1, SR1, e1, e2, e3, e4, hR1⟩ := hO SC SR hR (Y.2.2.2.2 (x4 + 1).toNatClampNeg)
  refine jl_callH (pc := 401) (m := 3) (As := [.ref (gA Y.1 0), .int (Y.2.2.2.2 (x4 + 1).toNatClampNeg), .ref (gA Y.1 53)]) (rest := []) C dL_law__401 (cH_work C.2.2.2.2.2.2.2.2.2.2.2.2.2.2.2.2.2.2.2.1 C.2.2.2.2.2.2.2.1 (Y.2.2.2.2 (x4 + 1).toNatClampNeg) SC) e1 q_1400 q_1391 (by decide +kernel) (by decide) q_1401 q_1399 (by decide) rfl rfl (Nat.le_of_ble_eq_true rfl) ⟨by omega, by omega⟩ ?_
  refine jl_istore (pc := 404) [(5, .int v), (0, .ref Y.2.2.1), (1, .ref (gA Y.1 0)), (2, .ref (gA Y.2.1 0)), (3, .ref (gA Y.1 53)), (4, .int x4)] C dL_law__404 (by decide) rfl ?_
  refine jl_aload_n (pc := 406) 3 C dL_law__406 rfl rfl ?_
  refine jl_aload_n (pc := 407) 1 C dL_law__407 rfl rfl ?_
  refine jl_iload (pc := 408) 5 C dL_law__408 rfl ?_
  refine jl_iconst (pc := 410) 1 C dL_law__410 (by decide) ?_
  refine jl_iadd (pc := 411) C dL_law__411 ?_
  refine jl_sld (pc := 412) C dL_law__412 (hin 1 (by decide)) ?_
  refine jl_callR (pc := 413) (As := [.int (Y.2.2.2.2 (x4 + 1).toNatClampNeg)]) (rest := []) C dL_law__413 (cR_work C.2.2.2.2.2.2.2.2.2.2.2.2.2.2.2.2.2.2.2.1 C.2.2.2.2.2.2.2.2.1 (Y.2.2.2.2 (x4 + 1).toNatClampNeg) SR) e2 rfl knX10_work ⟨q_1079, q_1080⟩ q_1402 (by decide) rfl rfl (Nat.le_of_ble_eq_true rfl) ⟨by omega, by omega⟩ ?_
  refine jl_istore (pc := 416) [(6, .int b9), (5, .int v), (0, .ref Y.2.2.1), (1, .ref (gA Y.1 0)), (2, .ref (gA Y.2.1 0)), (3, .ref (gA Y.1 53)), (4, .int x4)] C dL_law__416 (by decide) rfl ?_
  refine jl_aload_n (pc := 418) 4 C dL_law__418 rfl rfl ?_
  refine jl_callR (pc := 419) (As := []) (rest := []) C dL_law__419 (cR_thrown C.2.2.2.2.2.2.2.2.2.2.2.2.2.2.2.2.2.2.2.1 C.2.2.2.2.2.2.2.2.1 SR1) (show fR_thrown SR1 = some (rI (SR1.1 0), SR1) from rfl) rfl knX10_thrown ⟨q_1293, q_1294⟩ q_1394 (by decide) rfl rfl (Nat.le_of_ble_eq_true rfl) ⟨by omega, by omega⟩ ?_
  refine jl_iload (pc := 422) 1 C dL_law__422 rfl ?_
  refine jl_icmp_eq (pc := 424) 429 C dL_law__424 (by decide) (fun _ => ?_) (fun h => absurd e3 h)
  refine jl_iload (pc := 429) 1 C dL_law__429 rfl ?_
  refine jl_if_ne (pc := 431) 446 C dL_law__431 (by decide) (fun _ => ?_) (fun h => ?_)
  · refine jl_sub [2, 3, 4, 5, 6] rfl ?_
    refine jl_goto (pc := 446) 2491 C dL_law__446 (by decide) ?_
    exact jl_widen (by omega) (by omega) (tail _ _ hR1)
  · have e5 := e4 h
    refine jl_aload_n (pc := 434) 5 C dL_law__434 rfl rfl ?_
    refine jl_iconst (pc := 435) 0 C dL_law__435 (by decide) ?_
    refine jl_lald (pc := 436) C dL_law__436 rfl ?_
    refine jl_iload (pc := 437) 0 C dL_law__437 rfl ?_
    refine jl_i2l (pc := 439) C dL_law__439 ?_
    refine jl_lcmp (pc := 440) C dL_law__440 ?_
    refine jl_if_eq (pc := 441) 446 C dL_law__441 (by decide) (fun _ => ?_) (fun h => absurd (by rw [e5]; exact cmp_self _) h)
    refine jl_sub [2, 3, 4, 5, 6] rfl ?_
    refine jl_goto (pc := 446) 2491 C dL_law__446 (by decide) ?_
    exact jl_widen (by omega) (by omega) (tail _ _ hR1)

theorem lawcase_4 {Rel : St → St → Prop} {E : Ec} {Y : Lc} {k n : Nat} {x4 : Int32} {SC SR : St} (C : JLC E Y) (hin : ∀ j : Nat, j ≤ 8 → vp_in (x4 + nI j) Y.2.2.2.1) (hf : k + 3 ≤ 601024 ∧ n + 18 ≤ 7293034) (hO : PO_book Rel) (hR : Rel SC SR) (tail : ∀ SC1 SR1, Rel SC1 SR1 → JL E Y (k + 3) (n + 18) 2491 [(0, .ref Y.2.2.1), (1, .ref (gA Y.1 0)), (2, .ref (gA Y.2.1 0)), (3, .ref (gA Y.1 53)), (4, .int x4)] [] SC1 SR1) : JL E Y k n 449 [(0, .ref Y.2.2.1), (1, .ref (gA Y.1 0)), (2, .ref (gA Y.2.1 0)), (3, .ref (gA Y.1 53)), (4, .int x4)] [] SC SR := by
  refine jl_aload_n (pc := 449) 1 C dL_law__449 rfl rfl ?_
  refine jl_aload_n (pc := 450) 0 C dL_law__450 rfl rfl ?_
  refine jl_iload (pc := 451) 4 C dL_law__451 rfl ?_
  refine jl_iconst (pc := 453) 1 C dL_law__453 (by decide) ?_
  refine jl_iadd (pc := 454) C dL_law__454 ?_
  refine jl_sld (pc := 455) C dL_law__455 (hin 1 (by decide)) ?_
  refine jl_aload_n (pc := 456) 3 C dL_law__456 rfl rfl ?_
  obtain ⟨v, b9, SC1, SR1, e1, e2, e3, e4, hR1⟩ := hO SC SR hR (Y.2.2.2.2 (x4 + 1).toNatClampNeg)
  refine jl_callH (pc := 457) (m := 3) (As := [.ref (gA Y.1 0), .int (Y.2.2.2.2 (x4 + 1).toNatClampNeg), .ref (gA Y.1 53)]) (rest := []) C dL_law__457 (cH_book C.2.2.2.2.2.2.2.2.2.2.2.2.2.2.2.2.2.2.2.1 C.2.2.2.2.2.2.2.1 (Y.2.2.2.2 (x4 + 1).toNatClampNeg) SC) e1 q_1404 q_1391 (by decide +kernel) (by decide) q_1405 q_1403 (by decide) rfl rfl (Nat.le_of_ble_eq_true rfl) ⟨by omega, by omega⟩ ?_
  refine jl_istore (pc := 460) [(5, .int v), (0, .ref Y.2.2.1), (1, .ref (gA Y.1 0)), (2, .ref (gA Y.2.1 0)), (3, .ref (gA Y.1 53)), (4, .int x4)] C dL_law__460 (by decide) rfl ?_
  refine jl_aload_n (pc := 462) 3 C dL_law__462 rfl rfl ?_
  refine jl_aload_n (pc := 463) 1 C dL_law__463 rfl rfl ?_
  refine jl_iload (pc := 464) 5 C dL_law__464 rfl ?_
  refine jl_iconst (pc := 466) 1 C dL_law__466 (by decide) ?_
  refine jl_iadd (pc := 467) C dL_law__467 ?_
  refine jl_sld (pc := 468) C dL_law__468 (hin 1 (by decide)) ?_
  refine jl_callR (pc := 469) (As := [.int (Y.2.2.2.2 (x4 + 1).toNatClampNeg)]) (rest := []) C dL_law__469 (cR_book C.2.2.2.2.2.2.2.2.2.2.2.2.2.2.2.2.2.2.2.1 C.2.2.2.2.2.2.2.2.1 (Y.2.2.2.2 (x4 + 1).toNatClampNeg) SR) e2 rfl knX10_book ⟨q_1084, q_1085⟩ q_1406 (by decide) rfl rfl (Nat.le_of_ble_eq_true rfl) ⟨by omega, by omega⟩ ?_
  refine jl_istore (pc := 472) [(6, .int b9), (5, .int v), (0, .ref Y.2.2.1), (1, .ref (gA Y.1 0)), (2, .ref (gA Y.2.1 0)), (3, .ref (gA Y.1 53)), (4, .int x4)] C dL_law__472 (by decide) rfl ?_
  refine jl_aload_n (pc := 474) 4 C dL_law__474 rfl rfl ?_
  refine jl_callR (pc := 475) (As := []) (rest := []) C dL_law__475 (cR_thrown C.2.2.2.2.2.2.2.2.2.2.2.2.2.2.2.2.2.2.2.1 C.2.2.2.2.2.2.2.2.1 SR1) (show fR_thrown SR1 = some (rI (SR1.1 0), SR1) from rfl) rfl knX10_thrown ⟨q_1293, q_1294⟩ q_1394 (by decide) rfl rfl (Nat.le_of_ble_eq_true rfl) ⟨by omega, by omega⟩ ?_
  refine jl_iload (pc := 478) 1 C dL_law__478 rfl ?_
  refine jl_icmp_eq (pc := 480) 485 C dL_law__480 (by decide) (fun _ => ?_) (fun h => absurd e3 h)
  refine jl_iload (pc := 485) 1 C dL_law__485 rfl ?_
  refine jl_if_ne (pc := 487) 502 C dL_law__487 (by decide) (fun _ => ?_) (fun h => ?_)
  · refine jl_sub [2, 3, 4, 5, 6] rfl ?_
    refine jl_goto (pc := 502) 2491 C dL_law__502 (by decide) ?_
    exact jl_widen (by omega) (by omega) (tail _ _ hR1)
  · have e5 := e4 h
    refine jl_aload_n (pc := 490) 5 C dL_law__490 rfl rfl ?_
    refine jl_iconst (pc := 491) 0 C dL_law__491 (by decide) ?_
    refine jl_lald (pc := 492) C dL_law__492 rfl ?_
    refine jl_iload (pc := 493) 0 C dL_law__493 rfl ?_
    refine jl_i2l (pc := 495) C dL_law__495 ?_
    refine jl_lcmp (pc := 496) C dL_law__496 ?_
    refine jl_if_eq (pc := 497) 502 C dL_law__497 (by decide) (fun _ => ?_) (fun h => absurd (by rw [e5]; exact cmp_self _) h)
    refine jl_sub [2, 3, 4, 5, 6] rfl ?_
    refine jl_goto (pc := 502) 2491 C dL_law__502 (by decide) ?_
    exact jl_widen (by omega) (by omega) (tail _ _ hR1)

theorem lawcase_5 {Rel : St → St → Prop} {E : Ec} {Y : Lc} {k n : Nat} {x4 : Int32} {SC SR : St} (C : JLC E Y) (hin : ∀ j : Nat, j ≤ 8 → vp_in (x4 + nI j) Y.2.2.2.1) (hf : k + 3 ≤ 601024 ∧ n + 18 ≤ 7293034) (hO : PO_fault Rel) (hR : Rel SC SR) (tail : ∀ SC1 SR1, Rel SC1 SR1 → JL E Y (k + 3) (n + 18) 2491 [(0, .ref Y.2.2.1), (1, .ref (gA Y.1 0)), (2, .ref (gA Y.2.1 0)), (3, .ref (gA Y.1 53)), (4, .int x4)] [] SC1 SR1) : JL E Y k n 505 [(0, .ref Y.2.2.1), (1, .ref (gA Y.1 0)), (2, .ref (gA Y.2.1 0)), (3, .ref (gA Y.1 53)), (4, .int x4)] [] SC SR := by
  refine jl_aload_n (pc := 505) 1 C dL_law__505 rfl rfl ?_
  obtain ⟨v, SC1, SR1, e1, e2, hR1⟩ := hO SC SR hR 
  refine jl_callC (pc := 506) (As := []) (rest := []) C dL_law__506 (cC_Main_fault C.2.2.2.2.2.2.2.2.2.2.2.2.2.2.2.2.2.2.2.1 C.2.2.2.2.2.2.2.1  SC) e1 rfl knX9_fault ⟨q_457, q_458⟩ q_1407 (by decide) rfl rfl (Nat.le_of_ble_eq_true rfl) ⟨by omega, by omega⟩ ?_
  refine jl_aload_n (pc := 509) 2 C dL_law__509 rfl rfl ?_
  refine jl_callR (pc := 510) (As := []) (rest := [.int v]) C dL_law__510 (cR_fault C.2.2.2.2.2.2.2.2.2.2.2.2.2.2.2.2.2.2.2.1 C.2.2.2.2.2.2.2.2.1  SR) e2 rfl knX10_fault ⟨q_1087, q_1088⟩ q_1408 (by decide) rfl rfl (Nat.le_of_ble_eq_true rfl) ⟨by omega, by omega⟩ ?_
  refine jl_icmp_eq (pc := 513) 2491 C dL_law__513 (by decide) (fun _ => ?_) (fun h => absurd rfl h)
  refine jl_sub [0, 1, 2, 3, 4] rfl ?_
  exact jl_widen (by omega) (by omega) (tail _ _ hR1)

theorem lawcase_6 {Rel : St → St → Prop} {E : Ec} {Y : Lc} {k n : Nat} {x4 : Int32} {SC SR : St} (C : JLC E Y) (hin : ∀ j : Nat, j ≤ 8 → vp_in (x4 + nI j) Y.2.2.2.1) (hf : k + 3 ≤ 601024 ∧ n + 18 ≤ 7293034) (hO : PO_undo Rel) (hR : Rel SC SR) (tail : ∀ SC1 SR1, Rel SC1 SR1 → JL E Y (k + 3) (n + 18) 2491 [(0, .ref Y.2.2.1), (1, .ref (gA Y.1 0)), (2, .ref (gA Y.2.1 0)), (3, .ref (gA Y.1 53)), (4, .int x4)] [] SC1 SR1) : JL E Y k n 518 [(0, .ref Y.2.2.1), (1, .ref (gA Y.1 0)), (2, .ref (gA Y.2.1 0)), (3, .ref (gA Y.1 53)), (4, .int x4)] [] SC SR := by
  refine jl_aload_n (pc := 518) 1 C dL_law__518 rfl rfl ?_
  obtain ⟨v, SC1, SR1, e1, e2, hR1⟩ := hO SC SR hR 
  refine jl_callC (pc := 519) (As := []) (rest := []) C dL_law__519 (cC_Main_undo C.2.2.2.2.2.2.2.2.2.2.2.2.2.2.2.2.2.2.2.1 C.2.2.2.2.2.2.2.1  SC) e1 rfl knX9_undo ⟨q_464, q_465⟩ q_1409 (by decide) rfl rfl (Nat.le_of_ble_eq_true rfl) ⟨by omega, by omega⟩ ?_
  refine jl_aload_n (pc := 522) 2 C dL_law__522 rfl rfl ?_
  refine jl_callR (pc := 523) (As := []) (rest := [.int v]) C dL_law__523 (cR_undo C.2.2.2.2.2.2.2.2.2.2.2.2.2.2.2.2.2.2.2.1 C.2.2.2.2.2.2.2.2.1  SR) e2 rfl knX10_undo ⟨q_1090, q_1091⟩ q_1410 (by decide) rfl rfl (Nat.le_of_ble_eq_true rfl) ⟨by omega, by omega⟩ ?_
  refine jl_icmp_eq (pc := 526) 2491 C dL_law__526 (by decide) (fun _ => ?_) (fun h => absurd rfl h)
  refine jl_sub [0, 1, 2, 3, 4] rfl ?_
  exact jl_widen (by omega) (by omega) (tail _ _ hR1)

theorem lawcase_7 {Rel : St → St → Prop} {E : Ec} {Y : Lc} {k n : Nat} {x4 : Int32} {SC SR : St} (C : JLC E Y) (hin : ∀ j : Nat, j ≤ 8 → vp_in (x4 + nI j) Y.2.2.2.1) (hf : k + 3 ≤ 601024 ∧ n + 18 ≤ 7293034) (hO : PO_told Rel) (hR : Rel SC SR) (tail : ∀ SC1 SR1, Rel SC1 SR1 → JL E Y (k + 3) (n + 18) 2491 [(0, .ref Y.2.2.1), (1, .ref (gA Y.1 0)), (2, .ref (gA Y.2.1 0)), (3, .ref (gA Y.1 53)), (4, .int x4)] [] SC1 SR1) : JL E Y k n 531 [(0, .ref Y.2.2.1), (1, .ref (gA Y.1 0)), (2, .ref (gA Y.2.1 0)), (3, .ref (gA Y.1 53)), (4, .int x4)] [] SC SR := by
  refine jl_aload_n (pc := 531) 1 C dL_law__531 rfl rfl ?_
  refine jl_aload_n (pc := 532) 0 C dL_law__532 rfl rfl ?_
  refine jl_iload (pc := 533) 4 C dL_law__533 rfl ?_
  refine jl_iconst (pc := 535) 1 C dL_law__535 (by decide) ?_
  refine jl_iadd (pc := 536) C dL_law__536 ?_
  refine jl_sld (pc := 537) C dL_law__537 (hin 1 (by decide)) ?_
  refine jl_aload_n (pc := 538) 3 C dL_law__538 rfl rfl ?_
  obtain ⟨v, b9, SC1, SR1, e1, e2, e3, e4, hR1⟩ := hO SC SR hR (Y.2.2.2.2 (x4 + 1).toNatClampNeg)
  refine jl_callH (pc := 539) (m := 3) (As := [.ref (gA Y.1 0), .int (Y.2.2.2.2 (x4 + 1).toNatClampNeg), .ref (gA Y.1 53)]) (rest := []) C dL_law__539 (cH_told C.2.2.2.2.2.2.2.2.2.2.2.2.2.2.2.2.2.2.2.1 C.2.2.2.2.2.2.2.1 (Y.2.2.2.2 (x4 + 1).toNatClampNeg) SC) e1 q_1412 q_1391 (by decide +kernel) (by decide) q_1413 q_1411 (by decide) rfl rfl (Nat.le_of_ble_eq_true rfl) ⟨by omega, by omega⟩ ?_
  refine jl_istore (pc := 542) [(5, .int v), (0, .ref Y.2.2.1), (1, .ref (gA Y.1 0)), (2, .ref (gA Y.2.1 0)), (3, .ref (gA Y.1 53)), (4, .int x4)] C dL_law__542 (by decide) rfl ?_
  refine jl_aload_n (pc := 544) 3 C dL_law__544 rfl rfl ?_
  refine jl_aload_n (pc := 545) 1 C dL_law__545 rfl rfl ?_
  refine jl_iload (pc := 546) 5 C dL_law__546 rfl ?_
  refine jl_iconst (pc := 548) 1 C dL_law__548 (by decide) ?_
  refine jl_iadd (pc := 549) C dL_law__549 ?_
  refine jl_sld (pc := 550) C dL_law__550 (hin 1 (by decide)) ?_
  refine jl_callR (pc := 551) (As := [.int (Y.2.2.2.2 (x4 + 1).toNatClampNeg)]) (rest := []) C dL_law__551 (cR_told C.2.2.2.2.2.2.2.2.2.2.2.2.2.2.2.2.2.2.2.1 C.2.2.2.2.2.2.2.2.1 (Y.2.2.2.2 (x4 + 1).toNatClampNeg) SR) e2 rfl knX10_told ⟨q_1108, q_1109⟩ q_1414 (by decide) rfl rfl (Nat.le_of_ble_eq_true rfl) ⟨by omega, by omega⟩ ?_
  refine jl_istore (pc := 554) [(6, .int b9), (5, .int v), (0, .ref Y.2.2.1), (1, .ref (gA Y.1 0)), (2, .ref (gA Y.2.1 0)), (3, .ref (gA Y.1 53)), (4, .int x4)] C dL_law__554 (by decide) rfl ?_
  refine jl_aload_n (pc := 556) 4 C dL_law__556 rfl rfl ?_
  refine jl_callR (pc := 557) (As := []) (rest := []) C dL_law__557 (cR_thrown C.2.2.2.2.2.2.2.2.2.2.2.2.2.2.2.2.2.2.2.1 C.2.2.2.2.2.2.2.2.1 SR1) (show fR_thrown SR1 = some (rI (SR1.1 0), SR1) from rfl) rfl knX10_thrown ⟨q_1293, q_1294⟩ q_1394 (by decide) rfl rfl (Nat.le_of_ble_eq_true rfl) ⟨by omega, by omega⟩ ?_
  refine jl_iload (pc := 560) 1 C dL_law__560 rfl ?_
  refine jl_icmp_eq (pc := 562) 567 C dL_law__562 (by decide) (fun _ => ?_) (fun h => absurd e3 h)
  refine jl_iload (pc := 567) 1 C dL_law__567 rfl ?_
  refine jl_if_ne (pc := 569) 584 C dL_law__569 (by decide) (fun _ => ?_) (fun h => ?_)
  · refine jl_sub [2, 3, 4, 5, 6] rfl ?_
    refine jl_goto (pc := 584) 2491 C dL_law__584 (by decide) ?_
    exact jl_widen (by omega) (by omega) (tail _ _ hR1)
  · have e5 := e4 h
    refine jl_aload_n (pc := 572) 5 C dL_law__572 rfl rfl ?_
    refine jl_iconst (pc := 573) 0 C dL_law__573 (by decide) ?_
    refine jl_lald (pc := 574) C dL_law__574 rfl ?_
    refine jl_iload (pc := 575) 0 C dL_law__575 rfl ?_
    refine jl_i2l (pc := 577) C dL_law__577 ?_
    refine jl_lcmp (pc := 578) C dL_law__578 ?_
    refine jl_if_eq (pc := 579) 584 C dL_law__579 (by decide) (fun _ => ?_) (fun h => absurd (by rw [e5]; exact cmp_self _) h)
    refine jl_sub [2, 3, 4, 5, 6] rfl ?_
    refine jl_goto (pc := 584) 2491 C dL_law__584 (by decide) ?_
    exact jl_widen (by omega) (by omega) (tail _ _ hR1)

theorem lawcase_8 {Rel : St → St → Prop} {E : Ec} {Y : Lc} {k n : Nat} {x4 : Int32} {SC SR : St} (C : JLC E Y) (hin : ∀ j : Nat, j ≤ 8 → vp_in (x4 + nI j) Y.2.2.2.1) (hf : k + 3 ≤ 601024 ∧ n + 18 ≤ 7293034) (hO : PO_poem Rel) (hR : Rel SC SR) (tail : ∀ SC1 SR1, Rel SC1 SR1 → JL E Y (k + 3) (n + 18) 2491 [(0, .ref Y.2.2.1), (1, .ref (gA Y.1 0)), (2, .ref (gA Y.2.1 0)), (3, .ref (gA Y.1 53)), (4, .int x4)] [] SC1 SR1) : JL E Y k n 587 [(0, .ref Y.2.2.1), (1, .ref (gA Y.1 0)), (2, .ref (gA Y.2.1 0)), (3, .ref (gA Y.1 53)), (4, .int x4)] [] SC SR := by
  refine jl_aload_n (pc := 587) 1 C dL_law__587 rfl rfl ?_
  refine jl_aload_n (pc := 588) 0 C dL_law__588 rfl rfl ?_
  refine jl_iload (pc := 589) 4 C dL_law__589 rfl ?_
  refine jl_iconst (pc := 591) 1 C dL_law__591 (by decide) ?_
  refine jl_iadd (pc := 592) C dL_law__592 ?_
  refine jl_sld (pc := 593) C dL_law__593 (hin 1 (by decide)) ?_
  refine jl_aload_n (pc := 594) 0 C dL_law__594 rfl rfl ?_
  refine jl_iload (pc := 595) 4 C dL_law__595 rfl ?_
  refine jl_iconst (pc := 597) 2 C dL_law__597 (by decide) ?_
  refine jl_iadd (pc := 598) C dL_law__598 ?_
  refine jl_sld (pc := 599) C dL_law__599 (hin 2 (by decide)) ?_
  refine jl_aload_n (pc := 600) 3 C dL_law__600 rfl rfl ?_
  obtain ⟨v, b9, SC1, SR1, e1, e2, e3, e4, hR1⟩ := hO SC SR hR (Y.2.2.2.2 (x4 + 1).toNatClampNeg) (Y.2.2.2.2 (x4 + 2).toNatClampNeg)
  refine jl_callH (pc := 601) (m := 4) (As := [.ref (gA Y.1 0), .int (Y.2.2.2.2 (x4 + 1).toNatClampNeg), .int (Y.2.2.2.2 (x4 + 2).toNatClampNeg), .ref (gA Y.1 53)]) (rest := []) C dL_law__601 (cH_poem C.2.2.2.2.2.2.2.2.2.2.2.2.2.2.2.2.2.2.2.1 C.2.2.2.2.2.2.2.1 (Y.2.2.2.2 (x4 + 1).toNatClampNeg) (Y.2.2.2.2 (x4 + 2).toNatClampNeg) SC) e1 q_1416 q_1391 (by decide +kernel) (by decide) q_1417 q_1415 (by decide) rfl rfl (Nat.le_of_ble_eq_true rfl) ⟨by omega, by omega⟩ ?_
  refine jl_istore (pc := 604) [(5, .int v), (0, .ref Y.2.2.1), (1, .ref (gA Y.1 0)), (2, .ref (gA Y.2.1 0)), (3, .ref (gA Y.1 53)), (4, .int x4)] C dL_law__604 (by decide) rfl ?_
  refine jl_aload_n (pc := 606) 3 C dL_law__606 rfl rfl ?_
  refine jl_aload_n (pc := 607) 1 C dL_law__607 rfl rfl ?_
  refine jl_iload (pc := 608) 5 C dL_law__608 rfl ?_
  refine jl_iconst (pc := 610) 1 C dL_law__610 (by decide) ?_
  refine jl_iadd (pc := 611) C dL_law__611 ?_
  refine jl_sld (pc := 612) C dL_law__612 (hin 1 (by decide)) ?_
  refine jl_aload_n (pc := 613) 1 C dL_law__613 rfl rfl ?_
  refine jl_iload (pc := 614) 5 C dL_law__614 rfl ?_
  refine jl_iconst (pc := 616) 2 C dL_law__616 (by decide) ?_
  refine jl_iadd (pc := 617) C dL_law__617 ?_
  refine jl_sld (pc := 618) C dL_law__618 (hin 2 (by decide)) ?_
  refine jl_callR (pc := 619) (As := [.int (Y.2.2.2.2 (x4 + 1).toNatClampNeg), .int (Y.2.2.2.2 (x4 + 2).toNatClampNeg)]) (rest := []) C dL_law__619 (cR_poem C.2.2.2.2.2.2.2.2.2.2.2.2.2.2.2.2.2.2.2.1 C.2.2.2.2.2.2.2.2.1 (Y.2.2.2.2 (x4 + 1).toNatClampNeg) (Y.2.2.2.2 (x4 + 2).toNatClampNeg) SR) e2 rfl knX10_poem ⟨q_1119, q_1120⟩ q_1418 (by decide) rfl rfl (Nat.le_of_ble_eq_true rfl) ⟨by omega, by omega⟩ ?_
  refine jl_istore (pc := 622) [(6, .int b9), (5, .int v), (0, .ref Y.2.2.1), (1, .ref (gA Y.1 0)), (2, .ref (gA Y.2.1 0)), (3, .ref (gA Y.1 53)), (4, .int x4)] C dL_law__622 (by decide) rfl ?_
  refine jl_aload_n (pc := 624) 4 C dL_law__624 rfl rfl ?_
  refine jl_callR (pc := 625) (As := []) (rest := []) C dL_law__625 (cR_thrown C.2.2.2.2.2.2.2.2.2.2.2.2.2.2.2.2.2.2.2.1 C.2.2.2.2.2.2.2.2.1 SR1) (show fR_thrown SR1 = some (rI (SR1.1 0), SR1) from rfl) rfl knX10_thrown ⟨q_1293, q_1294⟩ q_1394 (by decide) rfl rfl (Nat.le_of_ble_eq_true rfl) ⟨by omega, by omega⟩ ?_
  refine jl_iload (pc := 628) 1 C dL_law__628 rfl ?_
  refine jl_icmp_eq (pc := 630) 635 C dL_law__630 (by decide) (fun _ => ?_) (fun h => absurd e3 h)
  refine jl_iload (pc := 635) 1 C dL_law__635 rfl ?_
  refine jl_if_ne (pc := 637) 652 C dL_law__637 (by decide) (fun _ => ?_) (fun h => ?_)
  · refine jl_sub [2, 3, 4, 5, 6] rfl ?_
    refine jl_goto (pc := 652) 2491 C dL_law__652 (by decide) ?_
    exact jl_widen (by omega) (by omega) (tail _ _ hR1)
  · have e5 := e4 h
    refine jl_aload_n (pc := 640) 5 C dL_law__640 rfl rfl ?_
    refine jl_iconst (pc := 641) 0 C dL_law__641 (by decide) ?_
    refine jl_lald (pc := 642) C dL_law__642 rfl ?_
    refine jl_iload (pc := 643) 0 C dL_law__643 rfl ?_
    refine jl_i2l (pc := 645) C dL_law__645 ?_
    refine jl_lcmp (pc := 646) C dL_law__646 ?_
    refine jl_if_eq (pc := 647) 652 C dL_law__647 (by decide) (fun _ => ?_) (fun h => absurd (by rw [e5]; exact cmp_self _) h)
    refine jl_sub [2, 3, 4, 5, 6] rfl ?_
    refine jl_goto (pc := 652) 2491 C dL_law__652 (by decide) ?_
    exact jl_widen (by omega) (by omega) (tail _ _ hR1)

theorem lawcase_9 {Rel : St → St → Prop} {E : Ec} {Y : Lc} {k n : Nat} {x4 : Int32} {SC SR : St} (C : JLC E Y) (hin : ∀ j : Nat, j ≤ 8 → vp_in (x4 + nI j) Y.2.2.2.1) (hf : k + 3 ≤ 601024 ∧ n + 18 ≤ 7293034) (hO : PO_man Rel) (hR : Rel SC SR) (tail : ∀ SC1 SR1, Rel SC1 SR1 → JL E Y (k + 3) (n + 18) 2491 [(0, .ref Y.2.2.1), (1, .ref (gA Y.1 0)), (2, .ref (gA Y.2.1 0)), (3, .ref (gA Y.1 53)), (4, .int x4)] [] SC1 SR1) : JL E Y k n 655 [(0, .ref Y.2.2.1), (1, .ref (gA Y.1 0)), (2, .ref (gA Y.2.1 0)), (3, .ref (gA Y.1 53)), (4, .int x4)] [] SC SR := by
  refine jl_aload_n (pc := 655) 1 C dL_law__655 rfl rfl ?_
  refine jl_aload_n (pc := 656) 0 C dL_law__656 rfl rfl ?_
  refine jl_iload (pc := 657) 4 C dL_law__657 rfl ?_
  refine jl_iconst (pc := 659) 1 C dL_law__659 (by decide) ?_
  refine jl_iadd (pc := 660) C dL_law__660 ?_
  refine jl_sld (pc := 661) C dL_law__661 (hin 1 (by decide)) ?_
  refine jl_aload_n (pc := 662) 0 C dL_law__662 rfl rfl ?_
  refine jl_iload (pc := 663) 4 C dL_law__663 rfl ?_
  refine jl_iconst (pc := 665) 2 C dL_law__665 (by decide) ?_
  refine jl_iadd (pc := 666) C dL_law__666 ?_
  refine jl_sld (pc := 667) C dL_law__667 (hin 2 (by decide)) ?_
  refine jl_aload_n (pc := 668) 3 C dL_law__668 rfl rfl ?_
  obtain ⟨v, b9, SC1, SR1, e1, e2, e3, e4, hR1⟩ := hO SC SR hR (Y.2.2.2.2 (x4 + 1).toNatClampNeg) (Y.2.2.2.2 (x4 + 2).toNatClampNeg)
  refine jl_callH (pc := 669) (m := 4) (As := [.ref (gA Y.1 0), .int (Y.2.2.2.2 (x4 + 1).toNatClampNeg), .int (Y.2.2.2.2 (x4 + 2).toNatClampNeg), .ref (gA Y.1 53)]) (rest := []) C dL_law__669 (cH_man C.2.2.2.2.2.2.2.2.2.2.2.2.2.2.2.2.2.2.2.1 C.2.2.2.2.2.2.2.1 (Y.2.2.2.2 (x4 + 1).toNatClampNeg) (Y.2.2.2.2 (x4 + 2).toNatClampNeg) SC) e1 q_1420 q_1391 (by decide +kernel) (by decide) q_1421 q_1419 (by decide) rfl rfl (Nat.le_of_ble_eq_true rfl) ⟨by omega, by omega⟩ ?_
  refine jl_istore (pc := 672) [(5, .int v), (0, .ref Y.2.2.1), (1, .ref (gA Y.1 0)), (2, .ref (gA Y.2.1 0)), (3, .ref (gA Y.1 53)), (4, .int x4)] C dL_law__672 (by decide) rfl ?_
  refine jl_aload_n (pc := 674) 3 C dL_law__674 rfl rfl ?_
  refine jl_aload_n (pc := 675) 1 C dL_law__675 rfl rfl ?_
  refine jl_iload (pc := 676) 5 C dL_law__676 rfl ?_
  refine jl_iconst (pc := 678) 1 C dL_law__678 (by decide) ?_
  refine jl_iadd (pc := 679) C dL_law__679 ?_
  refine jl_sld (pc := 680) C dL_law__680 (hin 1 (by decide)) ?_
  refine jl_aload_n (pc := 681) 1 C dL_law__681 rfl rfl ?_
  refine jl_iload (pc := 682) 5 C dL_law__682 rfl ?_
  refine jl_iconst (pc := 684) 2 C dL_law__684 (by decide) ?_
  refine jl_iadd (pc := 685) C dL_law__685 ?_
  refine jl_sld (pc := 686) C dL_law__686 (hin 2 (by decide)) ?_
  refine jl_callR (pc := 687) (As := [.int (Y.2.2.2.2 (x4 + 1).toNatClampNeg), .int (Y.2.2.2.2 (x4 + 2).toNatClampNeg)]) (rest := []) C dL_law__687 (cR_man C.2.2.2.2.2.2.2.2.2.2.2.2.2.2.2.2.2.2.2.1 C.2.2.2.2.2.2.2.2.1 (Y.2.2.2.2 (x4 + 1).toNatClampNeg) (Y.2.2.2.2 (x4 + 2).toNatClampNeg) SR) e2 rfl knX10_man ⟨q_1126, q_1127⟩ q_1422 (by decide) rfl rfl (Nat.le_of_ble_eq_true rfl) ⟨by omega, by omega⟩ ?_
  refine jl_istore (pc := 690) [(6, .int b9), (5, .int v), (0, .ref Y.2.2.1), (1, .ref (gA Y.1 0)), (2, .ref (gA Y.2.1 0)), (3, .ref (gA Y.1 53)), (4, .int x4)] C dL_law__690 (by decide) rfl ?_
  refine jl_aload_n (pc := 692) 4 C dL_law__692 rfl rfl ?_
  refine jl_callR (pc := 693) (As := []) (rest := []) C dL_law__693 (cR_thrown C.2.2.2.2.2.2.2.2.2.2.2.2.2.2.2.2.2.2.2.1 C.2.2.2.2.2.2.2.2.1 SR1) (show fR_thrown SR1 = some (rI (SR1.1 0), SR1) from rfl) rfl knX10_thrown ⟨q_1293, q_1294⟩ q_1394 (by decide) rfl rfl (Nat.le_of_ble_eq_true rfl) ⟨by omega, by omega⟩ ?_
  refine jl_iload (pc := 696) 1 C dL_law__696 rfl ?_
  refine jl_icmp_eq (pc := 698) 703 C dL_law__698 (by decide) (fun _ => ?_) (fun h => absurd e3 h)
  refine jl_iload (pc := 703) 1 C dL_law__703 rfl ?_
  refine jl_if_ne (pc := 705) 720 C dL_law__705 (by decide) (fun _ => ?_) (fun h => ?_)
  · refine jl_sub [2, 3, 4, 5, 6] rfl ?_
    refine jl_goto (pc := 720) 2491 C dL_law__720 (by decide) ?_
    exact jl_widen (by omega) (by omega) (tail _ _ hR1)
  · have e5 := e4 h
    refine jl_aload_n (pc := 708) 5 C dL_law__708 rfl rfl ?_
    refine jl_iconst (pc := 709) 0 C dL_law__709 (by decide) ?_
    refine jl_lald (pc := 710) C dL_law__710 rfl ?_
    refine jl_iload (pc := 711) 0 C dL_law__711 rfl ?_
    refine jl_i2l (pc := 713) C dL_law__713 ?_
    refine jl_lcmp (pc := 714) C dL_law__714 ?_
    refine jl_if_eq (pc := 715) 720 C dL_law__715 (by decide) (fun _ => ?_) (fun h => absurd (by rw [e5]; exact cmp_self _) h)
    refine jl_sub [2, 3, 4, 5, 6] rfl ?_
    refine jl_goto (pc := 720) 2491 C dL_law__720 (by decide) ?_
    exact jl_widen (by omega) (by omega) (tail _ _ hR1)

theorem lawcase_10 {Rel : St → St → Prop} {E : Ec} {Y : Lc} {k n : Nat} {x4 : Int32} {SC SR : St} (C : JLC E Y) (hin : ∀ j : Nat, j ≤ 8 → vp_in (x4 + nI j) Y.2.2.2.1) (hf : k + 3 ≤ 601024 ∧ n + 18 ≤ 7293034) (hO : PO_debt Rel) (hR : Rel SC SR) (tail : ∀ SC1 SR1, Rel SC1 SR1 → JL E Y (k + 3) (n + 18) 2491 [(0, .ref Y.2.2.1), (1, .ref (gA Y.1 0)), (2, .ref (gA Y.2.1 0)), (3, .ref (gA Y.1 53)), (4, .int x4)] [] SC1 SR1) : JL E Y k n 723 [(0, .ref Y.2.2.1), (1, .ref (gA Y.1 0)), (2, .ref (gA Y.2.1 0)), (3, .ref (gA Y.1 53)), (4, .int x4)] [] SC SR := by
  refine jl_aload_n (pc := 723) 1 C dL_law__723 rfl rfl ?_
  refine jl_aload_n (pc := 724) 0 C dL_law__724 rfl rfl ?_
  refine jl_iload (pc := 725) 4 C dL_law__725 rfl ?_
  refine jl_iconst (pc := 727) 1 C dL_law__727 (by decide) ?_
  refine jl_iadd (pc := 728) C dL_law__728 ?_
  refine jl_sld (pc := 729) C dL_law__729 (hin 1 (by decide)) ?_
  refine jl_aload_n (pc := 730) 0 C dL_law__730 rfl rfl ?_
  refine jl_iload (pc := 731) 4 C dL_law__731 rfl ?_
  refine jl_iconst (pc := 733) 2 C dL_law__733 (by decide) ?_
  refine jl_iadd (pc := 734) C dL_law__734 ?_
  refine jl_sld (pc := 735) C dL_law__735 (hin 2 (by decide)) ?_
  refine jl_aload_n (pc := 736) 3 C dL_law__736 rfl rfl ?_
  obtain ⟨v, b9, SC1, SR1, e1, e2, e3, e4, hR1⟩ := hO SC SR hR (Y.2.2.2.2 (x4 + 1).toNatClampNeg) (Y.2.2.2.2 (x4 + 2).toNatClampNeg)
  refine jl_callH (pc := 737) (m := 4) (As := [.ref (gA Y.1 0), .int (Y.2.2.2.2 (x4 + 1).toNatClampNeg), .int (Y.2.2.2.2 (x4 + 2).toNatClampNeg), .ref (gA Y.1 53)]) (rest := []) C dL_law__737 (cH_debt C.2.2.2.2.2.2.2.2.2.2.2.2.2.2.2.2.2.2.2.1 C.2.2.2.2.2.2.2.1 (Y.2.2.2.2 (x4 + 1).toNatClampNeg) (Y.2.2.2.2 (x4 + 2).toNatClampNeg) SC) e1 q_1424 q_1391 (by decide +kernel) (by decide) q_1425 q_1423 (by decide) rfl rfl (Nat.le_of_ble_eq_true rfl) ⟨by omega, by omega⟩ ?_
  refine jl_istore (pc := 740) [(5, .int v), (0, .ref Y.2.2.1), (1, .ref (gA Y.1 0)), (2, .ref (gA Y.2.1 0)), (3, .ref (gA Y.1 53)), (4, .int x4)] C dL_law__740 (by decide) rfl ?_
  refine jl_aload_n (pc := 742) 3 C dL_law__742 rfl rfl ?_
  refine jl_aload_n (pc := 743) 1 C dL_law__743 rfl rfl ?_
  refine jl_iload (pc := 744) 5 C dL_law__744 rfl ?_
  refine jl_iconst (pc := 746) 1 C dL_law__746 (by decide) ?_
  refine jl_iadd (pc := 747) C dL_law__747 ?_
  refine jl_sld (pc := 748) C dL_law__748 (hin 1 (by decide)) ?_
  refine jl_aload_n (pc := 749) 1 C dL_law__749 rfl rfl ?_
  refine jl_iload (pc := 750) 5 C dL_law__750 rfl ?_
  refine jl_iconst (pc := 752) 2 C dL_law__752 (by decide) ?_
  refine jl_iadd (pc := 753) C dL_law__753 ?_
  refine jl_sld (pc := 754) C dL_law__754 (hin 2 (by decide)) ?_
  refine jl_callR (pc := 755) (As := [.int (Y.2.2.2.2 (x4 + 1).toNatClampNeg), .int (Y.2.2.2.2 (x4 + 2).toNatClampNeg)]) (rest := []) C dL_law__755 (cR_debt C.2.2.2.2.2.2.2.2.2.2.2.2.2.2.2.2.2.2.2.1 C.2.2.2.2.2.2.2.2.1 (Y.2.2.2.2 (x4 + 1).toNatClampNeg) (Y.2.2.2.2 (x4 + 2).toNatClampNeg) SR) e2 rfl knX10_debt ⟨q_1137, q_1138⟩ q_1426 (by decide) rfl rfl (Nat.le_of_ble_eq_true rfl) ⟨by omega, by omega⟩ ?_
  refine jl_istore (pc := 758) [(6, .int b9), (5, .int v), (0, .ref Y.2.2.1), (1, .ref (gA Y.1 0)), (2, .ref (gA Y.2.1 0)), (3, .ref (gA Y.1 53)), (4, .int x4)] C dL_law__758 (by decide) rfl ?_
  refine jl_aload_n (pc := 760) 4 C dL_law__760 rfl rfl ?_
  refine jl_callR (pc := 761) (As := []) (rest := []) C dL_law__761 (cR_thrown C.2.2.2.2.2.2.2.2.2.2.2.2.2.2.2.2.2.2.2.1 C.2.2.2.2.2.2.2.2.1 SR1) (show fR_thrown SR1 = some (rI (SR1.1 0), SR1) from rfl) rfl knX10_thrown ⟨q_1293, q_1294⟩ q_1394 (by decide) rfl rfl (Nat.le_of_ble_eq_true rfl) ⟨by omega, by omega⟩ ?_
  refine jl_iload (pc := 764) 1 C dL_law__764 rfl ?_
  refine jl_icmp_eq (pc := 766) 771 C dL_law__766 (by decide) (fun _ => ?_) (fun h => absurd e3 h)
  refine jl_iload (pc := 771) 1 C dL_law__771 rfl ?_
  refine jl_if_ne (pc := 773) 788 C dL_law__773 (by decide) (fun _ => ?_) (fun h => ?_)
  · refine jl_sub [2, 3, 4, 5, 6] rfl ?_
    refine jl_goto (pc := 788) 2491 C dL_law__788 (by decide) ?_
    exact jl_widen (by omega) (by omega) (tail _ _ hR1)
  · have e5 := e4 h
    refine jl_aload_n (pc := 776) 5 C dL_law__776 rfl rfl ?_
    refine jl_iconst (pc := 777) 0 C dL_law__777 (by decide) ?_
    refine jl_lald (pc := 778) C dL_law__778 rfl ?_
    refine jl_iload (pc := 779) 0 C dL_law__779 rfl ?_
    refine jl_i2l (pc := 781) C dL_law__781 ?_
    refine jl_lcmp (pc := 782) C dL_law__782 ?_
    refine jl_if_eq (pc := 783) 788 C dL_law__783 (by decide) (fun _ => ?_) (fun h => absurd (by rw [e5]; exact cmp_self _) h)
    refine jl_sub [2, 3, 4, 5, 6] rfl ?_
    refine jl_goto (pc := 788) 2491 C dL_law__788 (by decide) ?_
    exact jl_widen (by omega) (by omega) (tail _ _ hR1)

theorem lawcase_11 {Rel : St → St → Prop} {E : Ec} {Y : Lc} {k n : Nat} {x4 : Int32} {SC SR : St} (C : JLC E Y) (hin : ∀ j : Nat, j ≤ 8 → vp_in (x4 + nI j) Y.2.2.2.1) (hf : k + 3 ≤ 601024 ∧ n + 18 ≤ 7293034) (hO : PO_knows Rel) (hR : Rel SC SR) (tail : ∀ SC1 SR1, Rel SC1 SR1 → JL E Y (k + 3) (n + 18) 2491 [(0, .ref Y.2.2.1), (1, .ref (gA Y.1 0)), (2, .ref (gA Y.2.1 0)), (3, .ref (gA Y.1 53)), (4, .int x4)] [] SC1 SR1) : JL E Y k n 791 [(0, .ref Y.2.2.1), (1, .ref (gA Y.1 0)), (2, .ref (gA Y.2.1 0)), (3, .ref (gA Y.1 53)), (4, .int x4)] [] SC SR := by
  refine jl_aload_n (pc := 791) 1 C dL_law__791 rfl rfl ?_
  refine jl_aload_n (pc := 792) 0 C dL_law__792 rfl rfl ?_
  refine jl_iload (pc := 793) 4 C dL_law__793 rfl ?_
  refine jl_iconst (pc := 795) 1 C dL_law__795 (by decide) ?_
  refine jl_iadd (pc := 796) C dL_law__796 ?_
  refine jl_sld (pc := 797) C dL_law__797 (hin 1 (by decide)) ?_
  refine jl_aload_n (pc := 798) 0 C dL_law__798 rfl rfl ?_
  refine jl_iload (pc := 799) 4 C dL_law__799 rfl ?_
  refine jl_iconst (pc := 801) 2 C dL_law__801 (by decide) ?_
  refine jl_iadd (pc := 802) C dL_law__802 ?_
  refine jl_sld (pc := 803) C dL_law__803 (hin 2 (by decide)) ?_
  refine jl_aload_n (pc := 804) 3 C dL_law__804 rfl rfl ?_
  obtain ⟨v, b9, SC1, SR1, e1, e2, e3, e4, hR1⟩ := hO SC SR hR (Y.2.2.2.2 (x4 + 1).toNatClampNeg) (Y.2.2.2.2 (x4 + 2).toNatClampNeg)
  refine jl_callH (pc := 805) (m := 4) (As := [.ref (gA Y.1 0), .int (Y.2.2.2.2 (x4 + 1).toNatClampNeg), .int (Y.2.2.2.2 (x4 + 2).toNatClampNeg), .ref (gA Y.1 53)]) (rest := []) C dL_law__805 (cH_knows C.2.2.2.2.2.2.2.2.2.2.2.2.2.2.2.2.2.2.2.1 C.2.2.2.2.2.2.2.1 (Y.2.2.2.2 (x4 + 1).toNatClampNeg) (Y.2.2.2.2 (x4 + 2).toNatClampNeg) SC) e1 q_1428 q_1391 (by decide +kernel) (by decide) q_1429 q_1427 (by decide) rfl rfl (Nat.le_of_ble_eq_true rfl) ⟨by omega, by omega⟩ ?_
  refine jl_istore (pc := 808) [(5, .int v), (0, .ref Y.2.2.1), (1, .ref (gA Y.1 0)), (2, .ref (gA Y.2.1 0)), (3, .ref (gA Y.1 53)), (4, .int x4)] C dL_law__808 (by decide) rfl ?_
  refine jl_aload_n (pc := 810) 3 C dL_law__810 rfl rfl ?_
  refine jl_aload_n (pc := 811) 1 C dL_law__811 rfl rfl ?_
  refine jl_iload (pc := 812) 5 C dL_law__812 rfl ?_
  refine jl_iconst (pc := 814) 1 C dL_law__814 (by decide) ?_
  refine jl_iadd (pc := 815) C dL_law__815 ?_
  refine jl_sld (pc := 816) C dL_law__816 (hin 1 (by decide)) ?_
  refine jl_aload_n (pc := 817) 1 C dL_law__817 rfl rfl ?_
  refine jl_iload (pc := 818) 5 C dL_law__818 rfl ?_
  refine jl_iconst (pc := 820) 2 C dL_law__820 (by decide) ?_
  refine jl_iadd (pc := 821) C dL_law__821 ?_
  refine jl_sld (pc := 822) C dL_law__822 (hin 2 (by decide)) ?_
  refine jl_callR (pc := 823) (As := [.int (Y.2.2.2.2 (x4 + 1).toNatClampNeg), .int (Y.2.2.2.2 (x4 + 2).toNatClampNeg)]) (rest := []) C dL_law__823 (cR_knows C.2.2.2.2.2.2.2.2.2.2.2.2.2.2.2.2.2.2.2.1 C.2.2.2.2.2.2.2.2.1 (Y.2.2.2.2 (x4 + 1).toNatClampNeg) (Y.2.2.2.2 (x4 + 2).toNatClampNeg) SR) e2 rfl knX10_knows ⟨q_1140, q_1141⟩ q_1430 (by decide) rfl rfl (Nat.le_of_ble_eq_true rfl) ⟨by omega, by omega⟩ ?_
  refine jl_istore (pc := 826) [(6, .int b9), (5, .int v), (0, .ref Y.2.2.1), (1, .ref (gA Y.1 0)), (2, .ref (gA Y.2.1 0)), (3, .ref (gA Y.1 53)), (4, .int x4)] C dL_law__826 (by decide) rfl ?_
  refine jl_aload_n (pc := 828) 4 C dL_law__828 rfl rfl ?_
  refine jl_callR (pc := 829) (As := []) (rest := []) C dL_law__829 (cR_thrown C.2.2.2.2.2.2.2.2.2.2.2.2.2.2.2.2.2.2.2.1 C.2.2.2.2.2.2.2.2.1 SR1) (show fR_thrown SR1 = some (rI (SR1.1 0), SR1) from rfl) rfl knX10_thrown ⟨q_1293, q_1294⟩ q_1394 (by decide) rfl rfl (Nat.le_of_ble_eq_true rfl) ⟨by omega, by omega⟩ ?_
  refine jl_iload (pc := 832) 1 C dL_law__832 rfl ?_
  refine jl_icmp_eq (pc := 834) 839 C dL_law__834 (by decide) (fun _ => ?_) (fun h => absurd e3 h)
  refine jl_iload (pc := 839) 1 C dL_law__839 rfl ?_
  refine jl_if_ne (pc := 841) 856 C dL_law__841 (by decide) (fun _ => ?_) (fun h => ?_)
  · refine jl_sub [2, 3, 4, 5, 6] rfl ?_
    refine jl_goto (pc := 856) 2491 C dL_law__856 (by decide) ?_
    exact jl_widen (by omega) (by omega) (tail _ _ hR1)
  · have e5 := e4 h
    refine jl_aload_n (pc := 844) 5 C dL_law__844 rfl rfl ?_
    refine jl_iconst (pc := 845) 0 C dL_law__845 (by decide) ?_
    refine jl_lald (pc := 846) C dL_law__846 rfl ?_
    refine jl_iload (pc := 847) 0 C dL_law__847 rfl ?_
    refine jl_i2l (pc := 849) C dL_law__849 ?_
    refine jl_lcmp (pc := 850) C dL_law__850 ?_
    refine jl_if_eq (pc := 851) 856 C dL_law__851 (by decide) (fun _ => ?_) (fun h => absurd (by rw [e5]; exact cmp_self _) h)
    refine jl_sub [2, 3, 4, 5, 6] rfl ?_
    refine jl_goto (pc := 856) 2491 C dL_law__856 (by decide) ?_
    exact jl_widen (by omega) (by omega) (tail _ _ hR1)

theorem lawcase_12 {Rel : St → St → Prop} {E : Ec} {Y : Lc} {k n : Nat} {x4 : Int32} {SC SR : St} (C : JLC E Y) (hin : ∀ j : Nat, j ≤ 8 → vp_in (x4 + nI j) Y.2.2.2.1) (hf : k + 3 ≤ 601024 ∧ n + 18 ≤ 7293034) (hO : PO_learns Rel) (hR : Rel SC SR) (tail : ∀ SC1 SR1, Rel SC1 SR1 → JL E Y (k + 3) (n + 18) 2491 [(0, .ref Y.2.2.1), (1, .ref (gA Y.1 0)), (2, .ref (gA Y.2.1 0)), (3, .ref (gA Y.1 53)), (4, .int x4)] [] SC1 SR1) : JL E Y k n 859 [(0, .ref Y.2.2.1), (1, .ref (gA Y.1 0)), (2, .ref (gA Y.2.1 0)), (3, .ref (gA Y.1 53)), (4, .int x4)] [] SC SR := by
  refine jl_aload_n (pc := 859) 1 C dL_law__859 rfl rfl ?_
  refine jl_aload_n (pc := 860) 0 C dL_law__860 rfl rfl ?_
  refine jl_iload (pc := 861) 4 C dL_law__861 rfl ?_
  refine jl_iconst (pc := 863) 1 C dL_law__863 (by decide) ?_
  refine jl_iadd (pc := 864) C dL_law__864 ?_
  refine jl_sld (pc := 865) C dL_law__865 (hin 1 (by decide)) ?_
  refine jl_aload_n (pc := 866) 0 C dL_law__866 rfl rfl ?_
  refine jl_iload (pc := 867) 4 C dL_law__867 rfl ?_
  refine jl_iconst (pc := 869) 2 C dL_law__869 (by decide) ?_
  refine jl_iadd (pc := 870) C dL_law__870 ?_
  refine jl_sld (pc := 871) C dL_law__871 (hin 2 (by decide)) ?_
  refine jl_aload_n (pc := 872) 3 C dL_law__872 rfl rfl ?_
  obtain ⟨v, b9, SC1, SR1, e1, e2, e3, e4, hR1⟩ := hO SC SR hR (Y.2.2.2.2 (x4 + 1).toNatClampNeg) (Y.2.2.2.2 (x4 + 2).toNatClampNeg)
  refine jl_callH (pc := 873) (m := 4) (As := [.ref (gA Y.1 0), .int (Y.2.2.2.2 (x4 + 1).toNatClampNeg), .int (Y.2.2.2.2 (x4 + 2).toNatClampNeg), .ref (gA Y.1 53)]) (rest := []) C dL_law__873 (cH_learns C.2.2.2.2.2.2.2.2.2.2.2.2.2.2.2.2.2.2.2.1 C.2.2.2.2.2.2.2.1 (Y.2.2.2.2 (x4 + 1).toNatClampNeg) (Y.2.2.2.2 (x4 + 2).toNatClampNeg) SC) e1 q_1432 q_1391 (by decide +kernel) (by decide) q_1433 q_1431 (by decide) rfl rfl (Nat.le_of_ble_eq_true rfl) ⟨by omega, by omega⟩ ?_
  refine jl_istore (pc := 876) [(5, .int v), (0, .ref Y.2.2.1), (1, .ref (gA Y.1 0)), (2, .ref (gA Y.2.1 0)), (3, .ref (gA Y.1 53)), (4, .int x4)] C dL_law__876 (by decide) rfl ?_
  refine jl_aload_n (pc := 878) 3 C dL_law__878 rfl rfl ?_
  refine jl_aload_n (pc := 879) 1 C dL_law__879 rfl rfl ?_
  refine jl_iload (pc := 880) 5 C dL_law__880 rfl ?_
  refine jl_iconst (pc := 882) 1 C dL_law__882 (by decide) ?_
  refine jl_iadd (pc := 883) C dL_law__883 ?_
  refine jl_sld (pc := 884) C dL_law__884 (hin 1 (by decide)) ?_
  refine jl_aload_n (pc := 885) 1 C dL_law__885 rfl rfl ?_
  refine jl_iload (pc := 886) 5 C dL_law__886 rfl ?_
  refine jl_iconst (pc := 888) 2 C dL_law__888 (by decide) ?_
  refine jl_iadd (pc := 889) C dL_law__889 ?_
  refine jl_sld (pc := 890) C dL_law__890 (hin 2 (by decide)) ?_
  refine jl_callR (pc := 891) (As := [.int (Y.2.2.2.2 (x4 + 1).toNatClampNeg), .int (Y.2.2.2.2 (x4 + 2).toNatClampNeg)]) (rest := []) C dL_law__891 (cR_learns C.2.2.2.2.2.2.2.2.2.2.2.2.2.2.2.2.2.2.2.1 C.2.2.2.2.2.2.2.2.1 (Y.2.2.2.2 (x4 + 1).toNatClampNeg) (Y.2.2.2.2 (x4 + 2).toNatClampNeg) SR) e2 rfl knX10_learns ⟨q_1143, q_1144⟩ q_1434 (by decide) rfl rfl (Nat.le_of_ble_eq_true rfl) ⟨by omega, by omega⟩ ?_
  refine jl_istore (pc := 894) [(6, .int b9), (5, .int v), (0, .ref Y.2.2.1), (1, .ref (gA Y.1 0)), (2, .ref (gA Y.2.1 0)), (3, .ref (gA Y.1 53)), (4, .int x4)] C dL_law__894 (by decide) rfl ?_
  refine jl_aload_n (pc := 896) 4 C dL_law__896 rfl rfl ?_
  refine jl_callR (pc := 897) (As := []) (rest := []) C dL_law__897 (cR_thrown C.2.2.2.2.2.2.2.2.2.2.2.2.2.2.2.2.2.2.2.1 C.2.2.2.2.2.2.2.2.1 SR1) (show fR_thrown SR1 = some (rI (SR1.1 0), SR1) from rfl) rfl knX10_thrown ⟨q_1293, q_1294⟩ q_1394 (by decide) rfl rfl (Nat.le_of_ble_eq_true rfl) ⟨by omega, by omega⟩ ?_
  refine jl_iload (pc := 900) 1 C dL_law__900 rfl ?_
  refine jl_icmp_eq (pc := 902) 907 C dL_law__902 (by decide) (fun _ => ?_) (fun h => absurd e3 h)
  refine jl_iload (pc := 907) 1 C dL_law__907 rfl ?_
  refine jl_if_ne (pc := 909) 924 C dL_law__909 (by decide) (fun _ => ?_) (fun h => ?_)
  · refine jl_sub [2, 3, 4, 5, 6] rfl ?_
    refine jl_goto (pc := 924) 2491 C dL_law__924 (by decide) ?_
    exact jl_widen (by omega) (by omega) (tail _ _ hR1)
  · have e5 := e4 h
    refine jl_aload_n (pc := 912) 5 C dL_law__912 rfl rfl ?_
    refine jl_iconst (pc := 913) 0 C dL_law__913 (by decide) ?_
    refine jl_lald (pc := 914) C dL_law__914 rfl ?_
    refine jl_iload (pc := 915) 0 C dL_law__915 rfl ?_
    refine jl_i2l (pc := 917) C dL_law__917 ?_
    refine jl_lcmp (pc := 918) C dL_law__918 ?_
    refine jl_if_eq (pc := 919) 924 C dL_law__919 (by decide) (fun _ => ?_) (fun h => absurd (by rw [e5]; exact cmp_self _) h)
    refine jl_sub [2, 3, 4, 5, 6] rfl ?_
    refine jl_goto (pc := 924) 2491 C dL_law__924 (by decide) ?_
    exact jl_widen (by omega) (by omega) (tail _ _ hR1)

theorem lawcase_13 {Rel : St → St → Prop} {E : Ec} {Y : Lc} {k n : Nat} {x4 : Int32} {SC SR : St} (C : JLC E Y) (hin : ∀ j : Nat, j ≤ 8 → vp_in (x4 + nI j) Y.2.2.2.1) (hf : k + 3 ≤ 601024 ∧ n + 18 ≤ 7293034) (hO : PO_would Rel) (hR : Rel SC SR) (tail : ∀ SC1 SR1, Rel SC1 SR1 → JL E Y (k + 3) (n + 18) 2491 [(0, .ref Y.2.2.1), (1, .ref (gA Y.1 0)), (2, .ref (gA Y.2.1 0)), (3, .ref (gA Y.1 53)), (4, .int x4)] [] SC1 SR1) : JL E Y k n 927 [(0, .ref Y.2.2.1), (1, .ref (gA Y.1 0)), (2, .ref (gA Y.2.1 0)), (3, .ref (gA Y.1 53)), (4, .int x4)] [] SC SR := by
  refine jl_aload_n (pc := 927) 1 C dL_law__927 rfl rfl ?_
  refine jl_aload_n (pc := 928) 0 C dL_law__928 rfl rfl ?_
  refine jl_iload (pc := 929) 4 C dL_law__929 rfl ?_
  refine jl_iconst (pc := 931) 1 C dL_law__931 (by decide) ?_
  refine jl_iadd (pc := 932) C dL_law__932 ?_
  refine jl_sld (pc := 933) C dL_law__933 (hin 1 (by decide)) ?_
  refine jl_aload_n (pc := 934) 0 C dL_law__934 rfl rfl ?_
  refine jl_iload (pc := 935) 4 C dL_law__935 rfl ?_
  refine jl_iconst (pc := 937) 2 C dL_law__937 (by decide) ?_
  refine jl_iadd (pc := 938) C dL_law__938 ?_
  refine jl_sld (pc := 939) C dL_law__939 (hin 2 (by decide)) ?_
  refine jl_aload_n (pc := 940) 0 C dL_law__940 rfl rfl ?_
  refine jl_iload (pc := 941) 4 C dL_law__941 rfl ?_
  refine jl_iconst (pc := 943) 3 C dL_law__943 (by decide) ?_
  refine jl_iadd (pc := 944) C dL_law__944 ?_
  refine jl_sld (pc := 945) C dL_law__945 (hin 3 (by decide)) ?_
  refine jl_aload_n (pc := 946) 0 C dL_law__946 rfl rfl ?_
  refine jl_iload (pc := 947) 4 C dL_law__947 rfl ?_
  refine jl_iconst (pc := 949) 4 C dL_law__949 (by decide) ?_
  refine jl_iadd (pc := 950) C dL_law__950 ?_
  refine jl_sld (pc := 951) C dL_law__951 (hin 4 (by decide)) ?_
  refine jl_aload_n (pc := 952) 0 C dL_law__952 rfl rfl ?_
  refine jl_iload (pc := 953) 4 C dL_law__953 rfl ?_
  refine jl_iconst (pc := 955) 5 C dL_law__955 (by decide) ?_
  refine jl_iadd (pc := 956) C dL_law__956 ?_
  refine jl_sld (pc := 957) C dL_law__957 (hin 5 (by decide)) ?_
  refine jl_aload_n (pc := 958) 0 C dL_law__958 rfl rfl ?_
  refine jl_iload (pc := 959) 4 C dL_law__959 rfl ?_
  refine jl_bipush (pc := 961) 6 C dL_law__961 (by decide) ?_
  refine jl_iadd (pc := 963) C dL_law__963 ?_
  refine jl_sld (pc := 964) C dL_law__964 (hin 6 (by decide)) ?_
  refine jl_aload_n (pc := 965) 0 C dL_law__965 rfl rfl ?_
  refine jl_iload (pc := 966) 4 C dL_law__966 rfl ?_
  refine jl_bipush (pc := 968) 7 C dL_law__968 (by decide) ?_
  refine jl_iadd (pc := 970) C dL_law__970 ?_
  refine jl_sld (pc := 971) C dL_law__971 (hin 7 (by decide)) ?_
  refine jl_aload_n (pc := 972) 0 C dL_law__972 rfl rfl ?_
  refine jl_iload (pc := 973) 4 C dL_law__973 rfl ?_
  refine jl_bipush (pc := 975) 8 C dL_law__975 (by decide) ?_
  refine jl_iadd (pc := 977) C dL_law__977 ?_
  refine jl_sld (pc := 978) C dL_law__978 (hin 8 (by decide)) ?_
  refine jl_aload_n (pc := 979) 3 C dL_law__979 rfl rfl ?_
  obtain ⟨v, b9, SC1, SR1, e1, e2, e3, e4, hR1⟩ := hO SC SR hR (Y.2.2.2.2 (x4 + 1).toNatClampNeg) (Y.2.2.2.2 (x4 + 2).toNatClampNeg) (Y.2.2.2.2 (x4 + 3).toNatClampNeg) (Y.2.2.2.2 (x4 + 4).toNatClampNeg) (Y.2.2.2.2 (x4 + 5).toNatClampNeg) (Y.2.2.2.2 (x4 + 6).toNatClampNeg) (Y.2.2.2.2 (x4 + 7).toNatClampNeg) (Y.2.2.2.2 (x4 + 8).toNatClampNeg)
  refine jl_callH (pc := 980) (m := 10) (As := [.ref (gA Y.1 0), .int (Y.2.2.2.2 (x4 + 1).toNatClampNeg), .int (Y.2.2.2.2 (x4 + 2).toNatClampNeg), .int (Y.2.2.2.2 (x4 + 3).toNatClampNeg), .int (Y.2.2.2.2 (x4 + 4).toNatClampNeg), .int (Y.2.2.2.2 (x4 + 5).toNatClampNeg), .int (Y.2.2.2.2 (x4 + 6).toNatClampNeg), .int (Y.2.2.2.2 (x4 + 7).toNatClampNeg), .int (Y.2.2.2.2 (x4 + 8).toNatClampNeg), .ref (gA Y.1 53)]) (rest := []) C dL_law__980 (cH_would C.2.2.2.2.2.2.2.2.2.2.2.2.2.2.2.2.2.2.2.1 C.2.2.2.2.2.2.2.1 (Y.2.2.2.2 (x4 + 1).toNatClampNeg) (Y.2.2.2.2 (x4 + 2).toNatClampNeg) (Y.2.2.2.2 (x4 + 3).toNatClampNeg) (Y.2.2.2.2 (x4 + 4).toNatClampNeg) (Y.2.2.2.2 (x4 + 5).toNatClampNeg) (Y.2.2.2.2 (x4 + 6).toNatClampNeg) (Y.2.2.2.2 (x4 + 7).toNatClampNeg) (Y.2.2.2.2 (x4 + 8).toNatClampNeg) SC) e1 q_1436 q_1391 (by decide +kernel) (by decide) q_1437 q_1435 (by decide) rfl rfl (Nat.le_of_ble_eq_true rfl) ⟨by omega, by omega⟩ ?_
  refine jl_istore (pc := 983) [(5, .int v), (0, .ref Y.2.2.1), (1, .ref (gA Y.1 0)), (2, .ref (gA Y.2.1 0)), (3, .ref (gA Y.1 53)), (4, .int x4)] C dL_law__983 (by decide) rfl ?_
  refine jl_aload_n (pc := 985) 3 C dL_law__985 rfl rfl ?_
  refine jl_aload_n (pc := 986) 1 C dL_law__986 rfl rfl ?_
  refine jl_iload (pc := 987) 5 C dL_law__987 rfl ?_
  refine jl_iconst (pc := 989) 1 C dL_law__989 (by decide) ?_
  refine jl_iadd (pc := 990) C dL_law__990 ?_
  refine jl_sld (pc := 991) C dL_law__991 (hin 1 (by decide)) ?_
  refine jl_aload_n (pc := 992) 1 C dL_law__992 rfl rfl ?_
  refine jl_iload (pc := 993) 5 C dL_law__993 rfl ?_
  refine jl_iconst (pc := 995) 2 C dL_law__995 (by decide) ?_
  refine jl_iadd (pc := 996) C dL_law__996 ?_
  refine jl_sld (pc := 997) C dL_law__997 (hin 2 (by decide)) ?_
  refine jl_aload_n (pc := 998) 1 C dL_law__998 rfl rfl ?_
  refine jl_iload (pc := 999) 5 C dL_law__999 rfl ?_
  refine jl_iconst (pc := 1001) 3 C dL_law__1001 (by decide) ?_
  refine jl_iadd (pc := 1002) C dL_law__1002 ?_
  refine jl_sld (pc := 1003) C dL_law__1003 (hin 3 (by decide)) ?_
  refine jl_aload_n (pc := 1004) 1 C dL_law__1004 rfl rfl ?_
  refine jl_iload (pc := 1005) 5 C dL_law__1005 rfl ?_
  refine jl_iconst (pc := 1007) 4 C dL_law__1007 (by decide) ?_
  refine jl_iadd (pc := 1008) C dL_law__1008 ?_
  refine jl_sld (pc := 1009) C dL_law__1009 (hin 4 (by decide)) ?_
  refine jl_aload_n (pc := 1010) 1 C dL_law__1010 rfl rfl ?_
  refine jl_iload (pc := 1011) 5 C dL_law__1011 rfl ?_
  refine jl_iconst (pc := 1013) 5 C dL_law__1013 (by decide) ?_
  refine jl_iadd (pc := 1014) C dL_law__1014 ?_
  refine jl_sld (pc := 1015) C dL_law__1015 (hin 5 (by decide)) ?_
  refine jl_aload_n (pc := 1016) 1 C dL_law__1016 rfl rfl ?_
  refine jl_iload (pc := 1017) 5 C dL_law__1017 rfl ?_
  refine jl_bipush (pc := 1019) 6 C dL_law__1019 (by decide) ?_
  refine jl_iadd (pc := 1021) C dL_law__1021 ?_
  refine jl_sld (pc := 1022) C dL_law__1022 (hin 6 (by decide)) ?_
  refine jl_aload_n (pc := 1023) 1 C dL_law__1023 rfl rfl ?_
  refine jl_iload (pc := 1024) 5 C dL_law__1024 rfl ?_
  refine jl_bipush (pc := 1026) 7 C dL_law__1026 (by decide) ?_
  refine jl_iadd (pc := 1028) C dL_law__1028 ?_
  refine jl_sld (pc := 1029) C dL_law__1029 (hin 7 (by decide)) ?_
  refine jl_aload_n (pc := 1030) 1 C dL_law__1030 rfl rfl ?_
  refine jl_iload (pc := 1031) 5 C dL_law__1031 rfl ?_
  refine jl_bipush (pc := 1033) 8 C dL_law__1033 (by decide) ?_
  refine jl_iadd (pc := 1035) C dL_law__1035 ?_
  refine jl_sld (pc := 1036) C dL_law__1036 (hin 8 (by decide)) ?_
  refine jl_callR (pc := 1037) (As := [.int (Y.2.2.2.2 (x4 + 1).toNatClampNeg), .int (Y.2.2.2.2 (x4 + 2).toNatClampNeg), .int (Y.2.2.2.2 (x4 + 3).toNatClampNeg), .int (Y.2.2.2.2 (x4 + 4).toNatClampNeg), .int (Y.2.2.2.2 (x4 + 5).toNatClampNeg), .int (Y.2.2.2.2 (x4 + 6).toNatClampNeg), .int (Y.2.2.2.2 (x4 + 7).toNatClampNeg), .int (Y.2.2.2.2 (x4 + 8).toNatClampNeg)]) (rest := []) C dL_law__1037 (cR_would C.2.2.2.2.2.2.2.2.2.2.2.2.2.2.2.2.2.2.2.1 C.2.2.2.2.2.2.2.2.1 (Y.2.2.2.2 (x4 + 1).toNatClampNeg) (Y.2.2.2.2 (x4 + 2).toNatClampNeg) (Y.2.2.2.2 (x4 + 3).toNatClampNeg) (Y.2.2.2.2 (x4 + 4).toNatClampNeg) (Y.2.2.2.2 (x4 + 5).toNatClampNeg) (Y.2.2.2.2 (x4 + 6).toNatClampNeg) (Y.2.2.2.2 (x4 + 7).toNatClampNeg) (Y.2.2.2.2 (x4 + 8).toNatClampNeg) SR) e2 rfl knX10_would ⟨q_1146, q_1147⟩ q_1438 (by decide) rfl rfl (Nat.le_of_ble_eq_true rfl) ⟨by omega, by omega⟩ ?_
  refine jl_istore (pc := 1040) [(6, .int b9), (5, .int v), (0, .ref Y.2.2.1), (1, .ref (gA Y.1 0)), (2, .ref (gA Y.2.1 0)), (3, .ref (gA Y.1 53)), (4, .int x4)] C dL_law__1040 (by decide) rfl ?_
  refine jl_aload_n (pc := 1042) 4 C dL_law__1042 rfl rfl ?_
  refine jl_callR (pc := 1043) (As := []) (rest := []) C dL_law__1043 (cR_thrown C.2.2.2.2.2.2.2.2.2.2.2.2.2.2.2.2.2.2.2.1 C.2.2.2.2.2.2.2.2.1 SR1) (show fR_thrown SR1 = some (rI (SR1.1 0), SR1) from rfl) rfl knX10_thrown ⟨q_1293, q_1294⟩ q_1394 (by decide) rfl rfl (Nat.le_of_ble_eq_true rfl) ⟨by omega, by omega⟩ ?_
  refine jl_iload (pc := 1046) 1 C dL_law__1046 rfl ?_
  refine jl_icmp_eq (pc := 1048) 1053 C dL_law__1048 (by decide) (fun _ => ?_) (fun h => absurd e3 h)
  refine jl_iload (pc := 1053) 1 C dL_law__1053 rfl ?_
  refine jl_if_ne (pc := 1055) 1070 C dL_law__1055 (by decide) (fun _ => ?_) (fun h => ?_)
  · refine jl_sub [2, 3, 4, 5, 6] rfl ?_
    refine jl_goto (pc := 1070) 2491 C dL_law__1070 (by decide) ?_
    exact jl_widen (by omega) (by omega) (tail _ _ hR1)
  · have e5 := e4 h
    refine jl_aload_n (pc := 1058) 5 C dL_law__1058 rfl rfl ?_
    refine jl_iconst (pc := 1059) 0 C dL_law__1059 (by decide) ?_
    refine jl_lald (pc := 1060) C dL_law__1060 rfl ?_
    refine jl_iload (pc := 1061) 0 C dL_law__1061 rfl ?_
    refine jl_i2l (pc := 1063) C dL_law__1063 ?_
    refine jl_lcmp (pc := 1064) C dL_law__1064 ?_
    refine jl_if_eq (pc := 1065) 1070 C dL_law__1065 (by decide) (fun _ => ?_) (fun h => absurd (by rw [e5]; exact cmp_self _) h)
    refine jl_sub [2, 3, 4, 5, 6] rfl ?_
    refine jl_goto (pc := 1070) 2491 C dL_law__1070 (by decide) ?_
    exact jl_widen (by omega) (by omega) (tail _ _ hR1)

theorem lawcase_14 {Rel : St → St → Prop} {E : Ec} {Y : Lc} {k n : Nat} {x4 : Int32} {SC SR : St} (C : JLC E Y) (hin : ∀ j : Nat, j ≤ 8 → vp_in (x4 + nI j) Y.2.2.2.1) (hf : k + 3 ≤ 601024 ∧ n + 18 ≤ 7293034) (hO : PO_ahead Rel) (hR : Rel SC SR) (tail : ∀ SC1 SR1, Rel SC1 SR1 → JL E Y (k + 3) (n + 18) 2491 [(0, .ref Y.2.2.1), (1, .ref (gA Y.1 0)), (2, .ref (gA Y.2.1 0)), (3, .ref (gA Y.1 53)), (4, .int x4)] [] SC1 SR1) : JL E Y k n 1073 [(0, .ref Y.2.2.1), (1, .ref (gA Y.1 0)), (2, .ref (gA Y.2.1 0)), (3, .ref (gA Y.1 53)), (4, .int x4)] [] SC SR := by
  refine jl_aload_n (pc := 1073) 1 C dL_law__1073 rfl rfl ?_
  refine jl_aload_n (pc := 1074) 0 C dL_law__1074 rfl rfl ?_
  refine jl_iload (pc := 1075) 4 C dL_law__1075 rfl ?_
  refine jl_iconst (pc := 1077) 1 C dL_law__1077 (by decide) ?_
  refine jl_iadd (pc := 1078) C dL_law__1078 ?_
  refine jl_sld (pc := 1079) C dL_law__1079 (hin 1 (by decide)) ?_
  refine jl_aload_n (pc := 1080) 0 C dL_law__1080 rfl rfl ?_
  refine jl_iload (pc := 1081) 4 C dL_law__1081 rfl ?_
  refine jl_iconst (pc := 1083) 2 C dL_law__1083 (by decide) ?_
  refine jl_iadd (pc := 1084) C dL_law__1084 ?_
  refine jl_sld (pc := 1085) C dL_law__1085 (hin 2 (by decide)) ?_
  refine jl_aload_n (pc := 1086) 3 C dL_law__1086 rfl rfl ?_
  obtain ⟨v, b9, SC1, SR1, e1, e2, e3, e4, hR1⟩ := hO SC SR hR (Y.2.2.2.2 (x4 + 1).toNatClampNeg) (Y.2.2.2.2 (x4 + 2).toNatClampNeg)
  refine jl_callH (pc := 1087) (m := 4) (As := [.ref (gA Y.1 0), .int (Y.2.2.2.2 (x4 + 1).toNatClampNeg), .int (Y.2.2.2.2 (x4 + 2).toNatClampNeg), .ref (gA Y.1 53)]) (rest := []) C dL_law__1087 (cH_ahead C.2.2.2.2.2.2.2.2.2.2.2.2.2.2.2.2.2.2.2.1 C.2.2.2.2.2.2.2.1 (Y.2.2.2.2 (x4 + 1).toNatClampNeg) (Y.2.2.2.2 (x4 + 2).toNatClampNeg) SC) e1 q_1440 q_1391 (by decide +kernel) (by decide) q_1441 q_1439 (by decide) rfl rfl (Nat.le_of_ble_eq_true rfl) ⟨by omega, by omega⟩ ?_
  refine jl_istore (pc := 1090) [(5, .int v), (0, .ref Y.2.2.1), (1, .ref (gA Y.1 0)), (2, .ref (gA Y.2.1 0)), (3, .ref (gA Y.1 53)), (4, .int x4)] C dL_law__1090 (by decide) rfl ?_
  refine jl_aload_n (pc := 1092) 3 C dL_law__1092 rfl rfl ?_
  refine jl_aload_n (pc := 1093) 1 C dL_law__1093 rfl rfl ?_
  refine jl_iload (pc := 1094) 5 C dL_law__1094 rfl ?_
  refine jl_iconst (pc := 1096) 1 C dL_law__1096 (by decide) ?_
  refine jl_iadd (pc := 1097) C dL_law__1097 ?_
  refine jl_sld (pc := 1098) C dL_law__1098 (hin 1 (by decide)) ?_
  refine jl_aload_n (pc := 1099) 1 C dL_law__1099 rfl rfl ?_
  refine jl_iload (pc := 1100) 5 C dL_law__1100 rfl ?_
  refine jl_iconst (pc := 1102) 2 C dL_law__1102 (by decide) ?_
  refine jl_iadd (pc := 1103) C dL_law__1103 ?_
  refine jl_sld (pc := 1104) C dL_law__1104 (hin 2 (by decide)) ?_
  refine jl_callR (pc := 1105) (As := [.int (Y.2.2.2.2 (x4 + 1).toNatClampNeg), .int (Y.2.2.2.2 (x4 + 2).toNatClampNeg)]) (rest := []) C dL_law__1105 (cR_ahead C.2.2.2.2.2.2.2.2.2.2.2.2.2.2.2.2.2.2.2.1 C.2.2.2.2.2.2.2.2.1 (Y.2.2.2.2 (x4 + 1).toNatClampNeg) (Y.2.2.2.2 (x4 + 2).toNatClampNeg) SR) e2 rfl knX10_ahead ⟨q_1149, q_1150⟩ q_1442 (by decide) rfl rfl (Nat.le_of_ble_eq_true rfl) ⟨by omega, by omega⟩ ?_
  refine jl_istore (pc := 1108) [(6, .int b9), (5, .int v), (0, .ref Y.2.2.1), (1, .ref (gA Y.1 0)), (2, .ref (gA Y.2.1 0)), (3, .ref (gA Y.1 53)), (4, .int x4)] C dL_law__1108 (by decide) rfl ?_
  refine jl_aload_n (pc := 1110) 4 C dL_law__1110 rfl rfl ?_
  refine jl_callR (pc := 1111) (As := []) (rest := []) C dL_law__1111 (cR_thrown C.2.2.2.2.2.2.2.2.2.2.2.2.2.2.2.2.2.2.2.1 C.2.2.2.2.2.2.2.2.1 SR1) (show fR_thrown SR1 = some (rI (SR1.1 0), SR1) from rfl) rfl knX10_thrown ⟨q_1293, q_1294⟩ q_1394 (by decide) rfl rfl (Nat.le_of_ble_eq_true rfl) ⟨by omega, by omega⟩ ?_
  refine jl_iload (pc := 1114) 1 C dL_law__1114 rfl ?_
  refine jl_icmp_eq (pc := 1116) 1121 C dL_law__1116 (by decide) (fun _ => ?_) (fun h => absurd e3 h)
  refine jl_iload (pc := 1121) 1 C dL_law__1121 rfl ?_
  refine jl_if_ne (pc := 1123) 1138 C dL_law__1123 (by decide) (fun _ => ?_) (fun h => ?_)
  · refine jl_sub [2, 3, 4, 5, 6] rfl ?_
    refine jl_goto (pc := 1138) 2491 C dL_law__1138 (by decide) ?_
    exact jl_widen (by omega) (by omega) (tail _ _ hR1)
  · have e5 := e4 h
    refine jl_aload_n (pc := 1126) 5 C dL_law__1126 rfl rfl ?_
    refine jl_iconst (pc := 1127) 0 C dL_law__1127 (by decide) ?_
    refine jl_lald (pc := 1128) C dL_law__1128 rfl ?_
    refine jl_iload (pc := 1129) 0 C dL_law__1129 rfl ?_
    refine jl_i2l (pc := 1131) C dL_law__1131 ?_
    refine jl_lcmp (pc := 1132) C dL_law__1132 ?_
    refine jl_if_eq (pc := 1133) 1138 C dL_law__1133 (by decide) (fun _ => ?_) (fun h => absurd (by rw [e5]; exact cmp_self _) h)
    refine jl_sub [2, 3, 4, 5, 6] rfl ?_
    refine jl_goto (pc := 1138) 2491 C dL_law__1138 (by decide) ?_
    exact jl_widen (by omega) (by omega) (tail _ _ hR1)

theorem lawcase_15 {Rel : St → St → Prop} {E : Ec} {Y : Lc} {k n : Nat} {x4 : Int32} {SC SR : St} (C : JLC E Y) (hin : ∀ j : Nat, j ≤ 8 → vp_in (x4 + nI j) Y.2.2.2.1) (hf : k + 3 ≤ 601024 ∧ n + 18 ≤ 7293034) (hO : PO_lessons Rel) (hR : Rel SC SR) (tail : ∀ SC1 SR1, Rel SC1 SR1 → JL E Y (k + 3) (n + 18) 2491 [(0, .ref Y.2.2.1), (1, .ref (gA Y.1 0)), (2, .ref (gA Y.2.1 0)), (3, .ref (gA Y.1 53)), (4, .int x4)] [] SC1 SR1) : JL E Y k n 1141 [(0, .ref Y.2.2.1), (1, .ref (gA Y.1 0)), (2, .ref (gA Y.2.1 0)), (3, .ref (gA Y.1 53)), (4, .int x4)] [] SC SR := by
  refine jl_aload_n (pc := 1141) 1 C dL_law__1141 rfl rfl ?_
  refine jl_aload_n (pc := 1142) 0 C dL_law__1142 rfl rfl ?_
  refine jl_iload (pc := 1143) 4 C dL_law__1143 rfl ?_
  refine jl_iconst (pc := 1145) 1 C dL_law__1145 (by decide) ?_
  refine jl_iadd (pc := 1146) C dL_law__1146 ?_
  refine jl_sld (pc := 1147) C dL_law__1147 (hin 1 (by decide)) ?_
  refine jl_aload_n (pc := 1148) 0 C dL_law__1148 rfl rfl ?_
  refine jl_iload (pc := 1149) 4 C dL_law__1149 rfl ?_
  refine jl_iconst (pc := 1151) 2 C dL_law__1151 (by decide) ?_
  refine jl_iadd (pc := 1152) C dL_law__1152 ?_
  refine jl_sld (pc := 1153) C dL_law__1153 (hin 2 (by decide)) ?_
  refine jl_aload_n (pc := 1154) 3 C dL_law__1154 rfl rfl ?_
  obtain ⟨v, b9, SC1, SR1, e1, e2, e3, e4, hR1⟩ := hO SC SR hR (Y.2.2.2.2 (x4 + 1).toNatClampNeg) (Y.2.2.2.2 (x4 + 2).toNatClampNeg)
  refine jl_callH (pc := 1155) (m := 4) (As := [.ref (gA Y.1 0), .int (Y.2.2.2.2 (x4 + 1).toNatClampNeg), .int (Y.2.2.2.2 (x4 + 2).toNatClampNeg), .ref (gA Y.1 53)]) (rest := []) C dL_law__1155 (cH_lessons C.2.2.2.2.2.2.2.2.2.2.2.2.2.2.2.2.2.2.2.1 C.2.2.2.2.2.2.2.1 (Y.2.2.2.2 (x4 + 1).toNatClampNeg) (Y.2.2.2.2 (x4 + 2).toNatClampNeg) SC) e1 q_1444 q_1391 (by decide +kernel) (by decide) q_1445 q_1443 (by decide) rfl rfl (Nat.le_of_ble_eq_true rfl) ⟨by omega, by omega⟩ ?_
  refine jl_istore (pc := 1158) [(5, .int v), (0, .ref Y.2.2.1), (1, .ref (gA Y.1 0)), (2, .ref (gA Y.2.1 0)), (3, .ref (gA Y.1 53)), (4, .int x4)] C dL_law__1158 (by decide) rfl ?_
  refine jl_aload_n (pc := 1160) 3 C dL_law__1160 rfl rfl ?_
  refine jl_aload_n (pc := 1161) 1 C dL_law__1161 rfl rfl ?_
  refine jl_iload (pc := 1162) 5 C dL_law__1162 rfl ?_
  refine jl_iconst (pc := 1164) 1 C dL_law__1164 (by decide) ?_
  refine jl_iadd (pc := 1165) C dL_law__1165 ?_
  refine jl_sld (pc := 1166) C dL_law__1166 (hin 1 (by decide)) ?_
  refine jl_aload_n (pc := 1167) 1 C dL_law__1167 rfl rfl ?_
  refine jl_iload (pc := 1168) 5 C dL_law__1168 rfl ?_
  refine jl_iconst (pc := 1170) 2 C dL_law__1170 (by decide) ?_
  refine jl_iadd (pc := 1171) C dL_law__1171 ?_
  refine jl_sld (pc := 1172) C dL_law__1172 (hin 2 (by decide)) ?_
  refine jl_callR (pc := 1173) (As := [.int (Y.2.2.2.2 (x4 + 1).toNatClampNeg), .int (Y.2.2.2.2 (x4 + 2).toNatClampNeg)]) (rest := []) C dL_law__1173 (cR_lessons C.2.2.2.2.2.2.2.2.2.2.2.2.2.2.2.2.2.2.2.1 C.2.2.2.2.2.2.2.2.1 (Y.2.2.2.2 (x4 + 1).toNatClampNeg) (Y.2.2.2.2 (x4 + 2).toNatClampNeg) SR) e2 rfl knX10_lessons ⟨q_1156, q_1157⟩ q_1446 (by decide) rfl rfl (Nat.le_of_ble_eq_true rfl) ⟨by omega, by omega⟩ ?_
  refine jl_istore (pc := 1176) [(6, .int b9), (5, .int v), (0, .ref Y.2.2.1), (1, .ref (gA Y.1 0)), (2, .ref (gA Y.2.1 0)), (3, .ref (gA Y.1 53)), (4, .int x4)] C dL_law__1176 (by decide) rfl ?_
  refine jl_aload_n (pc := 1178) 4 C dL_law__1178 rfl rfl ?_
  refine jl_callR (pc := 1179) (As := []) (rest := []) C dL_law__1179 (cR_thrown C.2.2.2.2.2.2.2.2.2.2.2.2.2.2.2.2.2.2.2.1 C.2.2.2.2.2.2.2.2.1 SR1) (show fR_thrown SR1 = some (rI (SR1.1 0), SR1) from rfl) rfl knX10_thrown ⟨q_1293, q_1294⟩ q_1394 (by decide) rfl rfl (Nat.le_of_ble_eq_true rfl) ⟨by omega, by omega⟩ ?_
  refine jl_iload (pc := 1182) 1 C dL_law__1182 rfl ?_
  refine jl_icmp_eq (pc := 1184) 1189 C dL_law__1184 (by decide) (fun _ => ?_) (fun h => absurd e3 h)
  refine jl_iload (pc := 1189) 1 C dL_law__1189 rfl ?_
  refine jl_if_ne (pc := 1191) 1206 C dL_law__1191 (by decide) (fun _ => ?_) (fun h => ?_)
  · refine jl_sub [2, 3, 4, 5, 6] rfl ?_
    refine jl_goto (pc := 1206) 2491 C dL_law__1206 (by decide) ?_
    exact jl_widen (by omega) (by omega) (tail _ _ hR1)
  · have e5 := e4 h
    refine jl_aload_n (pc := 1194) 5 C dL_law__1194 rfl rfl ?_
    refine jl_iconst (pc := 1195) 0 C dL_law__1195 (by decide) ?_
    refine jl_lald (pc := 1196) C dL_law__1196 rfl ?_
    refine jl_iload (pc := 1197) 0 C dL_law__1197 rfl ?_
    refine jl_i2l (pc := 1199) C dL_law__1199 ?_
    refine jl_lcmp (pc := 1200) C dL_law__1200 ?_
    refine jl_if_eq (pc := 1201) 1206 C dL_law__1201 (by decide) (fun _ => ?_) (fun h => absurd (by rw [e5]; exact cmp_self _) h)
    refine jl_sub [2, 3, 4, 5, 6] rfl ?_
    refine jl_goto (pc := 1206) 2491 C dL_law__1206 (by decide) ?_
    exact jl_widen (by omega) (by omega) (tail _ _ hR1)

theorem lawcase_16 {Rel : St → St → Prop} {E : Ec} {Y : Lc} {k n : Nat} {x4 : Int32} {SC SR : St} (C : JLC E Y) (hin : ∀ j : Nat, j ≤ 8 → vp_in (x4 + nI j) Y.2.2.2.1) (hf : k + 3 ≤ 601024 ∧ n + 18 ≤ 7293034) (hO : PO_pays Rel) (hR : Rel SC SR) (tail : ∀ SC1 SR1, Rel SC1 SR1 → JL E Y (k + 3) (n + 18) 2491 [(0, .ref Y.2.2.1), (1, .ref (gA Y.1 0)), (2, .ref (gA Y.2.1 0)), (3, .ref (gA Y.1 53)), (4, .int x4)] [] SC1 SR1) : JL E Y k n 1209 [(0, .ref Y.2.2.1), (1, .ref (gA Y.1 0)), (2, .ref (gA Y.2.1 0)), (3, .ref (gA Y.1 53)), (4, .int x4)] [] SC SR := by
  refine jl_aload_n (pc := 1209) 1 C dL_law__1209 rfl rfl ?_
  refine jl_aload_n (pc := 1210) 0 C dL_law__1210 rfl rfl ?_
  refine jl_iload (pc := 1211) 4 C dL_law__1211 rfl ?_
  refine jl_iconst (pc := 1213) 1 C dL_law__1213 (by decide) ?_
  refine jl_iadd (pc := 1214) C dL_law__1214 ?_
  refine jl_sld (pc := 1215) C dL_law__1215 (hin 1 (by decide)) ?_
  refine jl_aload_n (pc := 1216) 3 C dL_law__1216 rfl rfl ?_
  obtain ⟨v, b9, SC1, SR1, e1, e2, e3, e4, hR1⟩ := hO SC SR hR (Y.2.2.2.2 (x4 + 1).toNatClampNeg)
  refine jl_callH (pc := 1217) (m := 3) (As := [.ref (gA Y.1 0), .int (Y.2.2.2.2 (x4 + 1).toNatClampNeg), .ref (gA Y.1 53)]) (rest := []) C dL_law__1217 (cH_pays C.2.2.2.2.2.2.2.2.2.2.2.2.2.2.2.2.2.2.2.1 C.2.2.2.2.2.2.2.1 (Y.2.2.2.2 (x4 + 1).toNatClampNeg) SC) e1 q_1448 q_1391 (by decide +kernel) (by decide) q_1449 q_1447 (by decide) rfl rfl (Nat.le_of_ble_eq_true rfl) ⟨by omega, by omega⟩ ?_
  refine jl_istore (pc := 1220) [(5, .int v), (0, .ref Y.2.2.1), (1, .ref (gA Y.1 0)), (2, .ref (gA Y.2.1 0)), (3, .ref (gA Y.1 53)), (4, .int x4)] C dL_law__1220 (by decide) rfl ?_
  refine jl_aload_n (pc := 1222) 3 C dL_law__1222 rfl rfl ?_
  refine jl_aload_n (pc := 1223) 1 C dL_law__1223 rfl rfl ?_
  refine jl_iload (pc := 1224) 5 C dL_law__1224 rfl ?_
  refine jl_iconst (pc := 1226) 1 C dL_law__1226 (by decide) ?_
  refine jl_iadd (pc := 1227) C dL_law__1227 ?_
  refine jl_sld (pc := 1228) C dL_law__1228 (hin 1 (by decide)) ?_
  refine jl_callR (pc := 1229) (As := [.int (Y.2.2.2.2 (x4 + 1).toNatClampNeg)]) (rest := []) C dL_law__1229 (cR_pays C.2.2.2.2.2.2.2.2.2.2.2.2.2.2.2.2.2.2.2.1 C.2.2.2.2.2.2.2.2.1 (Y.2.2.2.2 (x4 + 1).toNatClampNeg) SR) e2 rfl knX10_pays ⟨q_1172, q_1173⟩ q_1450 (by decide) rfl rfl (Nat.le_of_ble_eq_true rfl) ⟨by omega, by omega⟩ ?_
  refine jl_istore (pc := 1232) [(6, .int b9), (5, .int v), (0, .ref Y.2.2.1), (1, .ref (gA Y.1 0)), (2, .ref (gA Y.2.1 0)), (3, .ref (gA Y.1 53)), (4, .int x4)] C dL_law__1232 (by decide) rfl ?_
  refine jl_aload_n (pc := 1234) 4 C dL_law__1234 rfl rfl ?_
  refine jl_callR (pc := 1235) (As := []) (rest := []) C dL_law__1235 (cR_thrown C.2.2.2.2.2.2.2.2.2.2.2.2.2.2.2.2.2.2.2.1 C.2.2.2.2.2.2.2.2.1 SR1) (show fR_thrown SR1 = some (rI (SR1.1 0), SR1) from rfl) rfl knX10_thrown ⟨q_1293, q_1294⟩ q_1394 (by decide) rfl rfl (Nat.le_of_ble_eq_true rfl) ⟨by omega, by omega⟩ ?_
  refine jl_iload (pc := 1238) 1 C dL_law__1238 rfl ?_
  refine jl_icmp_eq (pc := 1240) 1245 C dL_law__1240 (by decide) (fun _ => ?_) (fun h => absurd e3 h)
  refine jl_iload (pc := 1245) 1 C dL_law__1245 rfl ?_
  refine jl_if_ne (pc := 1247) 1262 C dL_law__1247 (by decide) (fun _ => ?_) (fun h => ?_)
  · refine jl_sub [2, 3, 4, 5, 6] rfl ?_
    refine jl_goto (pc := 1262) 2491 C dL_law__1262 (by decide) ?_
    exact jl_widen (by omega) (by omega) (tail _ _ hR1)
  · have e5 := e4 h
    refine jl_aload_n (pc := 1250) 5 C dL_law__1250 rfl rfl ?_
    refine jl_iconst (pc := 1251) 0 C dL_law__1251 (by decide) ?_
    refine jl_lald (pc := 1252) C dL_law__1252 rfl ?_
    refine jl_iload (pc := 1253) 0 C dL_law__1253 rfl ?_
    refine jl_i2l (pc := 1255) C dL_law__1255 ?_
    refine jl_lcmp (pc := 1256) C dL_law__1256 ?_
    refine jl_if_eq (pc := 1257) 1262 C dL_law__1257 (by decide) (fun _ => ?_) (fun h => absurd (by rw [e5]; exact cmp_self _) h)
    refine jl_sub [2, 3, 4, 5, 6] rfl ?_
    refine jl_goto (pc := 1262) 2491 C dL_law__1262 (by decide) ?_
    exact jl_widen (by omega) (by omega) (tail _ _ hR1)

theorem lawcase_17 {Rel : St → St → Prop} {E : Ec} {Y : Lc} {k n : Nat} {x4 : Int32} {SC SR : St} (C : JLC E Y) (hin : ∀ j : Nat, j ≤ 8 → vp_in (x4 + nI j) Y.2.2.2.1) (hf : k + 3 ≤ 601024 ∧ n + 18 ≤ 7293034) (hO : PO_hardest Rel) (hR : Rel SC SR) (tail : ∀ SC1 SR1, Rel SC1 SR1 → JL E Y (k + 3) (n + 18) 2491 [(0, .ref Y.2.2.1), (1, .ref (gA Y.1 0)), (2, .ref (gA Y.2.1 0)), (3, .ref (gA Y.1 53)), (4, .int x4)] [] SC1 SR1) : JL E Y k n 1265 [(0, .ref Y.2.2.1), (1, .ref (gA Y.1 0)), (2, .ref (gA Y.2.1 0)), (3, .ref (gA Y.1 53)), (4, .int x4)] [] SC SR := by
  refine jl_aload_n (pc := 1265) 1 C dL_law__1265 rfl rfl ?_
  refine jl_aload_n (pc := 1266) 0 C dL_law__1266 rfl rfl ?_
  refine jl_iload (pc := 1267) 4 C dL_law__1267 rfl ?_
  refine jl_iconst (pc := 1269) 1 C dL_law__1269 (by decide) ?_
  refine jl_iadd (pc := 1270) C dL_law__1270 ?_
  refine jl_sld (pc := 1271) C dL_law__1271 (hin 1 (by decide)) ?_
  refine jl_aload_n (pc := 1272) 3 C dL_law__1272 rfl rfl ?_
  obtain ⟨v, b9, SC1, SR1, e1, e2, e3, e4, hR1⟩ := hO SC SR hR (Y.2.2.2.2 (x4 + 1).toNatClampNeg)
  refine jl_callH (pc := 1273) (m := 3) (As := [.ref (gA Y.1 0), .int (Y.2.2.2.2 (x4 + 1).toNatClampNeg), .ref (gA Y.1 53)]) (rest := []) C dL_law__1273 (cH_hardest C.2.2.2.2.2.2.2.2.2.2.2.2.2.2.2.2.2.2.2.1 C.2.2.2.2.2.2.2.1 (Y.2.2.2.2 (x4 + 1).toNatClampNeg) SC) e1 q_1452 q_1391 (by decide +kernel) (by decide) q_1453 q_1451 (by decide) rfl rfl (Nat.le_of_ble_eq_true rfl) ⟨by omega, by omega⟩ ?_
  refine jl_istore (pc := 1276) [(5, .int v), (0, .ref Y.2.2.1), (1, .ref (gA Y.1 0)), (2, .ref (gA Y.2.1 0)), (3, .ref (gA Y.1 53)), (4, .int x4)] C dL_law__1276 (by decide) rfl ?_
  refine jl_aload_n (pc := 1278) 3 C dL_law__1278 rfl rfl ?_
  refine jl_aload_n (pc := 1279) 1 C dL_law__1279 rfl rfl ?_
  refine jl_iload (pc := 1280) 5 C dL_law__1280 rfl ?_
  refine jl_iconst (pc := 1282) 1 C dL_law__1282 (by decide) ?_
  refine jl_iadd (pc := 1283) C dL_law__1283 ?_
  refine jl_sld (pc := 1284) C dL_law__1284 (hin 1 (by decide)) ?_
  refine jl_callR (pc := 1285) (As := [.int (Y.2.2.2.2 (x4 + 1).toNatClampNeg)]) (rest := []) C dL_law__1285 (cR_hardest C.2.2.2.2.2.2.2.2.2.2.2.2.2.2.2.2.2.2.2.1 C.2.2.2.2.2.2.2.2.1 (Y.2.2.2.2 (x4 + 1).toNatClampNeg) SR) e2 rfl knX10_hardest ⟨q_1175, q_1176⟩ q_1454 (by decide) rfl rfl (Nat.le_of_ble_eq_true rfl) ⟨by omega, by omega⟩ ?_
  refine jl_istore (pc := 1288) [(6, .int b9), (5, .int v), (0, .ref Y.2.2.1), (1, .ref (gA Y.1 0)), (2, .ref (gA Y.2.1 0)), (3, .ref (gA Y.1 53)), (4, .int x4)] C dL_law__1288 (by decide) rfl ?_
  refine jl_aload_n (pc := 1290) 4 C dL_law__1290 rfl rfl ?_
  refine jl_callR (pc := 1291) (As := []) (rest := []) C dL_law__1291 (cR_thrown C.2.2.2.2.2.2.2.2.2.2.2.2.2.2.2.2.2.2.2.1 C.2.2.2.2.2.2.2.2.1 SR1) (show fR_thrown SR1 = some (rI (SR1.1 0), SR1) from rfl) rfl knX10_thrown ⟨q_1293, q_1294⟩ q_1394 (by decide) rfl rfl (Nat.le_of_ble_eq_true rfl) ⟨by omega, by omega⟩ ?_
  refine jl_iload (pc := 1294) 1 C dL_law__1294 rfl ?_
  refine jl_icmp_eq (pc := 1296) 1301 C dL_law__1296 (by decide) (fun _ => ?_) (fun h => absurd e3 h)
  refine jl_iload (pc := 1301) 1 C dL_law__1301 rfl ?_
  refine jl_if_ne (pc := 1303) 1318 C dL_law__1303 (by decide) (fun _ => ?_) (fun h => ?_)
  · refine jl_sub [2, 3, 4, 5, 6] rfl ?_
    refine jl_goto (pc := 1318) 2491 C dL_law__1318 (by decide) ?_
    exact jl_widen (by omega) (by omega) (tail _ _ hR1)
  · have e5 := e4 h
    refine jl_aload_n (pc := 1306) 5 C dL_law__1306 rfl rfl ?_
    refine jl_iconst (pc := 1307) 0 C dL_law__1307 (by decide) ?_
    refine jl_lald (pc := 1308) C dL_law__1308 rfl ?_
    refine jl_iload (pc := 1309) 0 C dL_law__1309 rfl ?_
    refine jl_i2l (pc := 1311) C dL_law__1311 ?_
    refine jl_lcmp (pc := 1312) C dL_law__1312 ?_
    refine jl_if_eq (pc := 1313) 1318 C dL_law__1313 (by decide) (fun _ => ?_) (fun h => absurd (by rw [e5]; exact cmp_self _) h)
    refine jl_sub [2, 3, 4, 5, 6] rfl ?_
    refine jl_goto (pc := 1318) 2491 C dL_law__1318 (by decide) ?_
    exact jl_widen (by omega) (by omega) (tail _ _ hR1)

theorem lawcase_18 {Rel : St → St → Prop} {E : Ec} {Y : Lc} {k n : Nat} {x4 : Int32} {SC SR : St} (C : JLC E Y) (hin : ∀ j : Nat, j ≤ 8 → vp_in (x4 + nI j) Y.2.2.2.1) (hf : k + 3 ≤ 601024 ∧ n + 18 ≤ 7293034) (hO : PO_fits Rel) (hR : Rel SC SR) (tail : ∀ SC1 SR1, Rel SC1 SR1 → JL E Y (k + 3) (n + 18) 2491 [(0, .ref Y.2.2.1), (1, .ref (gA Y.1 0)), (2, .ref (gA Y.2.1 0)), (3, .ref (gA Y.1 53)), (4, .int x4)] [] SC1 SR1) : JL E Y k n 1321 [(0, .ref Y.2.2.1), (1, .ref (gA Y.1 0)), (2, .ref (gA Y.2.1 0)), (3, .ref (gA Y.1 53)), (4, .int x4)] [] SC SR := by
  refine jl_aload_n (pc := 1321) 1 C dL_law__1321 rfl rfl ?_
  refine jl_aload_n (pc := 1322) 0 C dL_law__1322 rfl rfl ?_
  refine jl_iload (pc := 1323) 4 C dL_law__1323 rfl ?_
  refine jl_iconst (pc := 1325) 1 C dL_law__1325 (by decide) ?_
  refine jl_iadd (pc := 1326) C dL_law__1326 ?_
  refine jl_sld (pc := 1327) C dL_law__1327 (hin 1 (by decide)) ?_
  refine jl_aload_n (pc := 1328) 3 C dL_law__1328 rfl rfl ?_
  obtain ⟨v, b9, SC1, SR1, e1, e2, e3, e4, hR1⟩ := hO SC SR hR (Y.2.2.2.2 (x4 + 1).toNatClampNeg)
  refine jl_callH (pc := 1329) (m := 3) (As := [.ref (gA Y.1 0), .int (Y.2.2.2.2 (x4 + 1).toNatClampNeg), .ref (gA Y.1 53)]) (rest := []) C dL_law__1329 (cH_fits C.2.2.2.2.2.2.2.2.2.2.2.2.2.2.2.2.2.2.2.1 C.2.2.2.2.2.2.2.1 (Y.2.2.2.2 (x4 + 1).toNatClampNeg) SC) e1 q_1456 q_1391 (by decide +kernel) (by decide) q_1457 q_1455 (by decide) rfl rfl (Nat.le_of_ble_eq_true rfl) ⟨by omega, by omega⟩ ?_
  refine jl_istore (pc := 1332) [(5, .int v), (0, .ref Y.2.2.1), (1, .ref (gA Y.1 0)), (2, .ref (gA Y.2.1 0)), (3, .ref (gA Y.1 53)), (4, .int x4)] C dL_law__1332 (by decide) rfl ?_
  refine jl_aload_n (pc := 1334) 3 C dL_law__1334 rfl rfl ?_
  refine jl_aload_n (pc := 1335) 1 C dL_law__1335 rfl rfl ?_
  refine jl_iload (pc := 1336) 5 C dL_law__1336 rfl ?_
  refine jl_iconst (pc := 1338) 1 C dL_law__1338 (by decide) ?_
  refine jl_iadd (pc := 1339) C dL_law__1339 ?_
  refine jl_sld (pc := 1340) C dL_law__1340 (hin 1 (by decide)) ?_
  refine jl_callR (pc := 1341) (As := [.int (Y.2.2.2.2 (x4 + 1).toNatClampNeg)]) (rest := []) C dL_law__1341 (cR_fits C.2.2.2.2.2.2.2.2.2.2.2.2.2.2.2.2.2.2.2.1 C.2.2.2.2.2.2.2.2.1 (Y.2.2.2.2 (x4 + 1).toNatClampNeg) SR) e2 rfl knX10_fits ⟨q_1186, q_1187⟩ q_1458 (by decide) rfl rfl (Nat.le_of_ble_eq_true rfl) ⟨by omega, by omega⟩ ?_
  refine jl_istore (pc := 1344) [(6, .int b9), (5, .int v), (0, .ref Y.2.2.1), (1, .ref (gA Y.1 0)), (2, .ref (gA Y.2.1 0)), (3, .ref (gA Y.1 53)), (4, .int x4)] C dL_law__1344 (by decide) rfl ?_
  refine jl_aload_n (pc := 1346) 4 C dL_law__1346 rfl rfl ?_
  refine jl_callR (pc := 1347) (As := []) (rest := []) C dL_law__1347 (cR_thrown C.2.2.2.2.2.2.2.2.2.2.2.2.2.2.2.2.2.2.2.1 C.2.2.2.2.2.2.2.2.1 SR1) (show fR_thrown SR1 = some (rI (SR1.1 0), SR1) from rfl) rfl knX10_thrown ⟨q_1293, q_1294⟩ q_1394 (by decide) rfl rfl (Nat.le_of_ble_eq_true rfl) ⟨by omega, by omega⟩ ?_
  refine jl_iload (pc := 1350) 1 C dL_law__1350 rfl ?_
  refine jl_icmp_eq (pc := 1352) 1357 C dL_law__1352 (by decide) (fun _ => ?_) (fun h => absurd e3 h)
  refine jl_iload (pc := 1357) 1 C dL_law__1357 rfl ?_
  refine jl_if_ne (pc := 1359) 1374 C dL_law__1359 (by decide) (fun _ => ?_) (fun h => ?_)
  · refine jl_sub [2, 3, 4, 5, 6] rfl ?_
    refine jl_goto (pc := 1374) 2491 C dL_law__1374 (by decide) ?_
    exact jl_widen (by omega) (by omega) (tail _ _ hR1)
  · have e5 := e4 h
    refine jl_aload_n (pc := 1362) 5 C dL_law__1362 rfl rfl ?_
    refine jl_iconst (pc := 1363) 0 C dL_law__1363 (by decide) ?_
    refine jl_lald (pc := 1364) C dL_law__1364 rfl ?_
    refine jl_iload (pc := 1365) 0 C dL_law__1365 rfl ?_
    refine jl_i2l (pc := 1367) C dL_law__1367 ?_
    refine jl_lcmp (pc := 1368) C dL_law__1368 ?_
    refine jl_if_eq (pc := 1369) 1374 C dL_law__1369 (by decide) (fun _ => ?_) (fun h => absurd (by rw [e5]; exact cmp_self _) h)
    refine jl_sub [2, 3, 4, 5, 6] rfl ?_
    refine jl_goto (pc := 1374) 2491 C dL_law__1374 (by decide) ?_
    exact jl_widen (by omega) (by omega) (tail _ _ hR1)

theorem lawcase_19 {Rel : St → St → Prop} {E : Ec} {Y : Lc} {k n : Nat} {x4 : Int32} {SC SR : St} (C : JLC E Y) (hin : ∀ j : Nat, j ≤ 8 → vp_in (x4 + nI j) Y.2.2.2.1) (hf : k + 3 ≤ 601024 ∧ n + 18 ≤ 7293034) (hO : PO_look Rel) (hR : Rel SC SR) (tail : ∀ SC1 SR1, Rel SC1 SR1 → JL E Y (k + 3) (n + 18) 2491 [(0, .ref Y.2.2.1), (1, .ref (gA Y.1 0)), (2, .ref (gA Y.2.1 0)), (3, .ref (gA Y.1 53)), (4, .int x4)] [] SC1 SR1) : JL E Y k n 1377 [(0, .ref Y.2.2.1), (1, .ref (gA Y.1 0)), (2, .ref (gA Y.2.1 0)), (3, .ref (gA Y.1 53)), (4, .int x4)] [] SC SR := by
  refine jl_aload_n (pc := 1377) 1 C dL_law__1377 rfl rfl ?_
  refine jl_aload_n (pc := 1378) 0 C dL_law__1378 rfl rfl ?_
  refine jl_iload (pc := 1379) 4 C dL_law__1379 rfl ?_
  refine jl_iconst (pc := 1381) 1 C dL_law__1381 (by decide) ?_
  refine jl_iadd (pc := 1382) C dL_law__1382 ?_
  refine jl_sld (pc := 1383) C dL_law__1383 (hin 1 (by decide)) ?_
  refine jl_aload_n (pc := 1384) 3 C dL_law__1384 rfl rfl ?_
  obtain ⟨v, b9, SC1, SR1, e1, e2, e3, e4, hR1⟩ := hO SC SR hR (Y.2.2.2.2 (x4 + 1).toNatClampNeg)
  refine jl_callH (pc := 1385) (m := 3) (As := [.ref (gA Y.1 0), .int (Y.2.2.2.2 (x4 + 1).toNatClampNeg), .ref (gA Y.1 53)]) (rest := []) C dL_law__1385 (cH_look C.2.2.2.2.2.2.2.2.2.2.2.2.2.2.2.2.2.2.2.1 C.2.2.2.2.2.2.2.1 (Y.2.2.2.2 (x4 + 1).toNatClampNeg) SC) e1 q_1460 q_1391 (by decide +kernel) (by decide) q_1461 q_1459 (by decide) rfl rfl (Nat.le_of_ble_eq_true rfl) ⟨by omega, by omega⟩ ?_
  refine jl_istore (pc := 1388) [(5, .int v), (0, .ref Y.2.2.1), (1, .ref (gA Y.1 0)), (2, .ref (gA Y.2.1 0)), (3, .ref (gA Y.1 53)), (4, .int x4)] C dL_law__1388 (by decide) rfl ?_
  refine jl_aload_n (pc := 1390) 3 C dL_law__1390 rfl rfl ?_
  refine jl_aload_n (pc := 1391) 1 C dL_law__1391 rfl rfl ?_
  refine jl_iload (pc := 1392) 5 C dL_law__1392 rfl ?_
  refine jl_iconst (pc := 1394) 1 C dL_law__1394 (by decide) ?_
  refine jl_iadd (pc := 1395) C dL_law__1395 ?_
  refine jl_sld (pc := 1396) C dL_law__1396 (hin 1 (by decide)) ?_
  refine jl_callR (pc := 1397) (As := [.int (Y.2.2.2.2 (x4 + 1).toNatClampNeg)]) (rest := []) C dL_law__1397 (cR_look C.2.2.2.2.2.2.2.2.2.2.2.2.2.2.2.2.2.2.2.1 C.2.2.2.2.2.2.2.2.1 (Y.2.2.2.2 (x4 + 1).toNatClampNeg) SR) e2 rfl knX10_look ⟨q_1198, q_1199⟩ q_1462 (by decide) rfl rfl (Nat.le_of_ble_eq_true rfl) ⟨by omega, by omega⟩ ?_
  refine jl_istore (pc := 1400) [(6, .int b9), (5, .int v), (0, .ref Y.2.2.1), (1, .ref (gA Y.1 0)), (2, .ref (gA Y.2.1 0)), (3, .ref (gA Y.1 53)), (4, .int x4)] C dL_law__1400 (by decide) rfl ?_
  refine jl_aload_n (pc := 1402) 4 C dL_law__1402 rfl rfl ?_
  refine jl_callR (pc := 1403) (As := []) (rest := []) C dL_law__1403 (cR_thrown C.2.2.2.2.2.2.2.2.2.2.2.2.2.2.2.2.2.2.2.1 C.2.2.2.2.2.2.2.2.1 SR1) (show fR_thrown SR1 = some (rI (SR1.1 0), SR1) from rfl) rfl knX10_thrown ⟨q_1293, q_1294⟩ q_1394 (by decide) rfl rfl (Nat.le_of_ble_eq_true rfl) ⟨by omega, by omega⟩ ?_
  refine jl_iload (pc := 1406) 1 C dL_law__1406 rfl ?_
  refine jl_icmp_eq (pc := 1408) 1413 C dL_law__1408 (by decide) (fun _ => ?_) (fun h => absurd e3 h)
  refine jl_iload (pc := 1413) 1 C dL_law__1413 rfl ?_
  refine jl_if_ne (pc := 1415) 1430 C dL_law__1415 (by decide) (fun _ => ?_) (fun h => ?_)
  · refine jl_sub [2, 3, 4, 5, 6] rfl ?_
    refine jl_goto (pc := 1430) 2491 C dL_law__1430 (by decide) ?_
    exact jl_widen (by omega) (by omega) (tail _ _ hR1)
  · have e5 := e4 h
    refine jl_aload_n (pc := 1418) 5 C dL_law__1418 rfl rfl ?_
    refine jl_iconst (pc := 1419) 0 C dL_law__1419 (by decide) ?_
    refine jl_lald (pc := 1420) C dL_law__1420 rfl ?_
    refine jl_iload (pc := 1421) 0 C dL_law__1421 rfl ?_
    refine jl_i2l (pc := 1423) C dL_law__1423 ?_
    refine jl_lcmp (pc := 1424) C dL_law__1424 ?_
    refine jl_if_eq (pc := 1425) 1430 C dL_law__1425 (by decide) (fun _ => ?_) (fun h => absurd (by rw [e5]; exact cmp_self _) h)
    refine jl_sub [2, 3, 4, 5, 6] rfl ?_
    refine jl_goto (pc := 1430) 2491 C dL_law__1430 (by decide) ?_
    exact jl_widen (by omega) (by omega) (tail _ _ hR1)

theorem lawcase_20 {Rel : St → St → Prop} {E : Ec} {Y : Lc} {k n : Nat} {x4 : Int32} {SC SR : St} (C : JLC E Y) (hin : ∀ j : Nat, j ≤ 8 → vp_in (x4 + nI j) Y.2.2.2.1) (hf : k + 3 ≤ 601024 ∧ n + 18 ≤ 7293034) (hO : PO_kept Rel) (hR : Rel SC SR) (tail : ∀ SC1 SR1, Rel SC1 SR1 → JL E Y (k + 3) (n + 18) 2491 [(0, .ref Y.2.2.1), (1, .ref (gA Y.1 0)), (2, .ref (gA Y.2.1 0)), (3, .ref (gA Y.1 53)), (4, .int x4)] [] SC1 SR1) : JL E Y k n 1433 [(0, .ref Y.2.2.1), (1, .ref (gA Y.1 0)), (2, .ref (gA Y.2.1 0)), (3, .ref (gA Y.1 53)), (4, .int x4)] [] SC SR := by
  refine jl_aload_n (pc := 1433) 1 C dL_law__1433 rfl rfl ?_
  refine jl_aload_n (pc := 1434) 0 C dL_law__1434 rfl rfl ?_
  refine jl_iload (pc := 1435) 4 C dL_law__1435 rfl ?_
  refine jl_iconst (pc := 1437) 1 C dL_law__1437 (by decide) ?_
  refine jl_iadd (pc := 1438) C dL_law__1438 ?_
  refine jl_sld (pc := 1439) C dL_law__1439 (hin 1 (by decide)) ?_
  refine jl_aload_n (pc := 1440) 0 C dL_law__1440 rfl rfl ?_
  refine jl_iload (pc := 1441) 4 C dL_law__1441 rfl ?_
  refine jl_iconst (pc := 1443) 2 C dL_law__1443 (by decide) ?_
  refine jl_iadd (pc := 1444) C dL_law__1444 ?_
  refine jl_sld (pc := 1445) C dL_law__1445 (hin 2 (by decide)) ?_
  refine jl_aload_n (pc := 1446) 0 C dL_law__1446 rfl rfl ?_
  refine jl_iload (pc := 1447) 4 C dL_law__1447 rfl ?_
  refine jl_iconst (pc := 1449) 3 C dL_law__1449 (by decide) ?_
  refine jl_iadd (pc := 1450) C dL_law__1450 ?_
  refine jl_sld (pc := 1451) C dL_law__1451 (hin 3 (by decide)) ?_
  refine jl_aload_n (pc := 1452) 0 C dL_law__1452 rfl rfl ?_
  refine jl_iload (pc := 1453) 4 C dL_law__1453 rfl ?_
  refine jl_iconst (pc := 1455) 4 C dL_law__1455 (by decide) ?_
  refine jl_iadd (pc := 1456) C dL_law__1456 ?_
  refine jl_sld (pc := 1457) C dL_law__1457 (hin 4 (by decide)) ?_
  refine jl_aload_n (pc := 1458) 3 C dL_law__1458 rfl rfl ?_
  obtain ⟨v, b9, SC1, SR1, e1, e2, e3, e4, hR1⟩ := hO SC SR hR (Y.2.2.2.2 (x4 + 1).toNatClampNeg) (Y.2.2.2.2 (x4 + 2).toNatClampNeg) (Y.2.2.2.2 (x4 + 3).toNatClampNeg) (Y.2.2.2.2 (x4 + 4).toNatClampNeg)
  refine jl_callH (pc := 1459) (m := 6) (As := [.ref (gA Y.1 0), .int (Y.2.2.2.2 (x4 + 1).toNatClampNeg), .int (Y.2.2.2.2 (x4 + 2).toNatClampNeg), .int (Y.2.2.2.2 (x4 + 3).toNatClampNeg), .int (Y.2.2.2.2 (x4 + 4).toNatClampNeg), .ref (gA Y.1 53)]) (rest := []) C dL_law__1459 (cH_kept C.2.2.2.2.2.2.2.2.2.2.2.2.2.2.2.2.2.2.2.1 C.2.2.2.2.2.2.2.1 (Y.2.2.2.2 (x4 + 1).toNatClampNeg) (Y.2.2.2.2 (x4 + 2).toNatClampNeg) (Y.2.2.2.2 (x4 + 3).toNatClampNeg) (Y.2.2.2.2 (x4 + 4).toNatClampNeg) SC) e1 q_1464 q_1391 (by decide +kernel) (by decide) q_1465 q_1463 (by decide) rfl rfl (Nat.le_of_ble_eq_true rfl) ⟨by omega, by omega⟩ ?_
  refine jl_istore (pc := 1462) [(5, .int v), (0, .ref Y.2.2.1), (1, .ref (gA Y.1 0)), (2, .ref (gA Y.2.1 0)), (3, .ref (gA Y.1 53)), (4, .int x4)] C dL_law__1462 (by decide) rfl ?_
  refine jl_aload_n (pc := 1464) 3 C dL_law__1464 rfl rfl ?_
  refine jl_aload_n (pc := 1465) 1 C dL_law__1465 rfl rfl ?_
  refine jl_iload (pc := 1466) 5 C dL_law__1466 rfl ?_
  refine jl_iconst (pc := 1468) 1 C dL_law__1468 (by decide) ?_
  refine jl_iadd (pc := 1469) C dL_law__1469 ?_
  refine jl_sld (pc := 1470) C dL_law__1470 (hin 1 (by decide)) ?_
  refine jl_aload_n (pc := 1471) 1 C dL_law__1471 rfl rfl ?_
  refine jl_iload (pc := 1472) 5 C dL_law__1472 rfl ?_
  refine jl_iconst (pc := 1474) 2 C dL_law__1474 (by decide) ?_
  refine jl_iadd (pc := 1475) C dL_law__1475 ?_
  refine jl_sld (pc := 1476) C dL_law__1476 (hin 2 (by decide)) ?_
  refine jl_aload_n (pc := 1477) 1 C dL_law__1477 rfl rfl ?_
  refine jl_iload (pc := 1478) 5 C dL_law__1478 rfl ?_
  refine jl_iconst (pc := 1480) 3 C dL_law__1480 (by decide) ?_
  refine jl_iadd (pc := 1481) C dL_law__1481 ?_
  refine jl_sld (pc := 1482) C dL_law__1482 (hin 3 (by decide)) ?_
  refine jl_aload_n (pc := 1483) 1 C dL_law__1483 rfl rfl ?_
  refine jl_iload (pc := 1484) 5 C dL_law__1484 rfl ?_
  refine jl_iconst (pc := 1486) 4 C dL_law__1486 (by decide) ?_
  refine jl_iadd (pc := 1487) C dL_law__1487 ?_
  refine jl_sld (pc := 1488) C dL_law__1488 (hin 4 (by decide)) ?_
  refine jl_callR (pc := 1489) (As := [.int (Y.2.2.2.2 (x4 + 1).toNatClampNeg), .int (Y.2.2.2.2 (x4 + 2).toNatClampNeg), .int (Y.2.2.2.2 (x4 + 3).toNatClampNeg), .int (Y.2.2.2.2 (x4 + 4).toNatClampNeg)]) (rest := []) C dL_law__1489 (cR_kept C.2.2.2.2.2.2.2.2.2.2.2.2.2.2.2.2.2.2.2.1 C.2.2.2.2.2.2.2.2.1 (Y.2.2.2.2 (x4 + 1).toNatClampNeg) (Y.2.2.2.2 (x4 + 2).toNatClampNeg) (Y.2.2.2.2 (x4 + 3).toNatClampNeg) (Y.2.2.2.2 (x4 + 4).toNatClampNeg) SR) e2 rfl knX10_kept ⟨q_1206, q_1207⟩ q_1466 (by decide) rfl rfl (Nat.le_of_ble_eq_true rfl) ⟨by omega, by omega⟩ ?_
  refine jl_lstore (pc := 1492) [(6, .long b9), (5, .int v), (0, .ref Y.2.2.1), (1, .ref (gA Y.1 0)), (2, .ref (gA Y.2.1 0)), (3, .ref (gA Y.1 53)), (4, .int x4)] C dL_law__1492 (by decide) rfl ?_
  refine jl_aload_n (pc := 1494) 4 C dL_law__1494 rfl rfl ?_
  refine jl_callR (pc := 1495) (As := []) (rest := []) C dL_law__1495 (cR_thrown C.2.2.2.2.2.2.2.2.2.2.2.2.2.2.2.2.2.2.2.1 C.2.2.2.2.2.2.2.2.1 SR1) (show fR_thrown SR1 = some (rI (SR1.1 0), SR1) from rfl) rfl knX10_thrown ⟨q_1293, q_1294⟩ q_1394 (by decide) rfl rfl (Nat.le_of_ble_eq_true rfl) ⟨by omega, by omega⟩ ?_
  refine jl_iload (pc := 1498) 1 C dL_law__1498 rfl ?_
  refine jl_icmp_eq (pc := 1500) 1505 C dL_law__1500 (by decide) (fun _ => ?_) (fun h => absurd e3 h)
  refine jl_iload (pc := 1505) 1 C dL_law__1505 rfl ?_
  refine jl_if_ne (pc := 1507) 1521 C dL_law__1507 (by decide) (fun _ => ?_) (fun h => ?_)
  · refine jl_sub [2, 3, 4, 5, 6] rfl ?_
    refine jl_goto (pc := 1521) 2491 C dL_law__1521 (by decide) ?_
    exact jl_widen (by omega) (by omega) (tail _ _ hR1)
  · have e5 := e4 h
    refine jl_aload_n (pc := 1510) 5 C dL_law__1510 rfl rfl ?_
    refine jl_iconst (pc := 1511) 0 C dL_law__1511 (by decide) ?_
    refine jl_lald (pc := 1512) C dL_law__1512 rfl ?_
    refine jl_lload (pc := 1513) 0 C dL_law__1513 rfl ?_
    refine jl_lcmp (pc := 1515) C dL_law__1515 ?_
    refine jl_if_eq (pc := 1516) 1521 C dL_law__1516 (by decide) (fun _ => ?_) (fun h => absurd (by rw [e5]; exact cmp_self _) h)
    refine jl_sub [2, 3, 4, 5, 6] rfl ?_
    refine jl_goto (pc := 1521) 2491 C dL_law__1521 (by decide) ?_
    exact jl_widen (by omega) (by omega) (tail _ _ hR1)

theorem lawcase_21 {Rel : St → St → Prop} {E : Ec} {Y : Lc} {k n : Nat} {x4 : Int32} {SC SR : St} (C : JLC E Y) (hin : ∀ j : Nat, j ≤ 8 → vp_in (x4 + nI j) Y.2.2.2.1) (hf : k + 3 ≤ 601024 ∧ n + 18 ≤ 7293034) (hO : PO_fair Rel) (hR : Rel SC SR) (tail : ∀ SC1 SR1, Rel SC1 SR1 → JL E Y (k + 3) (n + 18) 2491 [(0, .ref Y.2.2.1), (1, .ref (gA Y.1 0)), (2, .ref (gA Y.2.1 0)), (3, .ref (gA Y.1 53)), (4, .int x4)] [] SC1 SR1) : JL E Y k n 1524 [(0, .ref Y.2.2.1), (1, .ref (gA Y.1 0)), (2, .ref (gA Y.2.1 0)), (3, .ref (gA Y.1 53)), (4, .int x4)] [] SC SR := by
  refine jl_aload_n (pc := 1524) 1 C dL_law__1524 rfl rfl ?_
  refine jl_aload_n (pc := 1525) 0 C dL_law__1525 rfl rfl ?_
  refine jl_iload (pc := 1526) 4 C dL_law__1526 rfl ?_
  refine jl_iconst (pc := 1528) 1 C dL_law__1528 (by decide) ?_
  refine jl_iadd (pc := 1529) C dL_law__1529 ?_
  refine jl_sld (pc := 1530) C dL_law__1530 (hin 1 (by decide)) ?_
  refine jl_aload_n (pc := 1531) 0 C dL_law__1531 rfl rfl ?_
  refine jl_iload (pc := 1532) 4 C dL_law__1532 rfl ?_
  refine jl_iconst (pc := 1534) 2 C dL_law__1534 (by decide) ?_
  refine jl_iadd (pc := 1535) C dL_law__1535 ?_
  refine jl_sld (pc := 1536) C dL_law__1536 (hin 2 (by decide)) ?_
  refine jl_aload_n (pc := 1537) 0 C dL_law__1537 rfl rfl ?_
  refine jl_iload (pc := 1538) 4 C dL_law__1538 rfl ?_
  refine jl_iconst (pc := 1540) 3 C dL_law__1540 (by decide) ?_
  refine jl_iadd (pc := 1541) C dL_law__1541 ?_
  refine jl_sld (pc := 1542) C dL_law__1542 (hin 3 (by decide)) ?_
  refine jl_aload_n (pc := 1543) 3 C dL_law__1543 rfl rfl ?_
  obtain ⟨v, b9, SC1, SR1, e1, e2, e3, e4, hR1⟩ := hO SC SR hR (Y.2.2.2.2 (x4 + 1).toNatClampNeg) (Y.2.2.2.2 (x4 + 2).toNatClampNeg) (Y.2.2.2.2 (x4 + 3).toNatClampNeg)
  refine jl_callH (pc := 1544) (m := 5) (As := [.ref (gA Y.1 0), .int (Y.2.2.2.2 (x4 + 1).toNatClampNeg), .int (Y.2.2.2.2 (x4 + 2).toNatClampNeg), .int (Y.2.2.2.2 (x4 + 3).toNatClampNeg), .ref (gA Y.1 53)]) (rest := []) C dL_law__1544 (cH_fair C.2.2.2.2.2.2.2.2.2.2.2.2.2.2.2.2.2.2.2.1 C.2.2.2.2.2.2.2.1 (Y.2.2.2.2 (x4 + 1).toNatClampNeg) (Y.2.2.2.2 (x4 + 2).toNatClampNeg) (Y.2.2.2.2 (x4 + 3).toNatClampNeg) SC) e1 q_1468 q_1391 (by decide +kernel) (by decide) q_1469 q_1467 (by decide) rfl rfl (Nat.le_of_ble_eq_true rfl) ⟨by omega, by omega⟩ ?_
  refine jl_istore (pc := 1547) [(5, .int v), (0, .ref Y.2.2.1), (1, .ref (gA Y.1 0)), (2, .ref (gA Y.2.1 0)), (3, .ref (gA Y.1 53)), (4, .int x4)] C dL_law__1547 (by decide) rfl ?_
  refine jl_aload_n (pc := 1549) 3 C dL_law__1549 rfl rfl ?_
  refine jl_aload_n (pc := 1550) 1 C dL_law__1550 rfl rfl ?_
  refine jl_iload (pc := 1551) 5 C dL_law__1551 rfl ?_
  refine jl_iconst (pc := 1553) 1 C dL_law__1553 (by decide) ?_
  refine jl_iadd (pc := 1554) C dL_law__1554 ?_
  refine jl_sld (pc := 1555) C dL_law__1555 (hin 1 (by decide)) ?_
  refine jl_aload_n (pc := 1556) 1 C dL_law__1556 rfl rfl ?_
  refine jl_iload (pc := 1557) 5 C dL_law__1557 rfl ?_
  refine jl_iconst (pc := 1559) 2 C dL_law__1559 (by decide) ?_
  refine jl_iadd (pc := 1560) C dL_law__1560 ?_
  refine jl_sld (pc := 1561) C dL_law__1561 (hin 2 (by decide)) ?_
  refine jl_aload_n (pc := 1562) 1 C dL_law__1562 rfl rfl ?_
  refine jl_iload (pc := 1563) 5 C dL_law__1563 rfl ?_
  refine jl_iconst (pc := 1565) 3 C dL_law__1565 (by decide) ?_
  refine jl_iadd (pc := 1566) C dL_law__1566 ?_
  refine jl_sld (pc := 1567) C dL_law__1567 (hin 3 (by decide)) ?_
  refine jl_callR (pc := 1568) (As := [.int (Y.2.2.2.2 (x4 + 1).toNatClampNeg), .int (Y.2.2.2.2 (x4 + 2).toNatClampNeg), .int (Y.2.2.2.2 (x4 + 3).toNatClampNeg)]) (rest := []) C dL_law__1568 (cR_fair C.2.2.2.2.2.2.2.2.2.2.2.2.2.2.2.2.2.2.2.1 C.2.2.2.2.2.2.2.2.1 (Y.2.2.2.2 (x4 + 1).toNatClampNeg) (Y.2.2.2.2 (x4 + 2).toNatClampNeg) (Y.2.2.2.2 (x4 + 3).toNatClampNeg) SR) e2 rfl knX10_fair ⟨q_1212, q_1213⟩ q_1470 (by decide) rfl rfl (Nat.le_of_ble_eq_true rfl) ⟨by omega, by omega⟩ ?_
  refine jl_istore (pc := 1571) [(6, .int b9), (5, .int v), (0, .ref Y.2.2.1), (1, .ref (gA Y.1 0)), (2, .ref (gA Y.2.1 0)), (3, .ref (gA Y.1 53)), (4, .int x4)] C dL_law__1571 (by decide) rfl ?_
  refine jl_aload_n (pc := 1573) 4 C dL_law__1573 rfl rfl ?_
  refine jl_callR (pc := 1574) (As := []) (rest := []) C dL_law__1574 (cR_thrown C.2.2.2.2.2.2.2.2.2.2.2.2.2.2.2.2.2.2.2.1 C.2.2.2.2.2.2.2.2.1 SR1) (show fR_thrown SR1 = some (rI (SR1.1 0), SR1) from rfl) rfl knX10_thrown ⟨q_1293, q_1294⟩ q_1394 (by decide) rfl rfl (Nat.le_of_ble_eq_true rfl) ⟨by omega, by omega⟩ ?_
  refine jl_iload (pc := 1577) 1 C dL_law__1577 rfl ?_
  refine jl_icmp_eq (pc := 1579) 1584 C dL_law__1579 (by decide) (fun _ => ?_) (fun h => absurd e3 h)
  refine jl_iload (pc := 1584) 1 C dL_law__1584 rfl ?_
  refine jl_if_ne (pc := 1586) 1601 C dL_law__1586 (by decide) (fun _ => ?_) (fun h => ?_)
  · refine jl_sub [2, 3, 4, 5, 6] rfl ?_
    refine jl_goto (pc := 1601) 2491 C dL_law__1601 (by decide) ?_
    exact jl_widen (by omega) (by omega) (tail _ _ hR1)
  · have e5 := e4 h
    refine jl_aload_n (pc := 1589) 5 C dL_law__1589 rfl rfl ?_
    refine jl_iconst (pc := 1590) 0 C dL_law__1590 (by decide) ?_
    refine jl_lald (pc := 1591) C dL_law__1591 rfl ?_
    refine jl_iload (pc := 1592) 0 C dL_law__1592 rfl ?_
    refine jl_i2l (pc := 1594) C dL_law__1594 ?_
    refine jl_lcmp (pc := 1595) C dL_law__1595 ?_
    refine jl_if_eq (pc := 1596) 1601 C dL_law__1596 (by decide) (fun _ => ?_) (fun h => absurd (by rw [e5]; exact cmp_self _) h)
    refine jl_sub [2, 3, 4, 5, 6] rfl ?_
    refine jl_goto (pc := 1601) 2491 C dL_law__1601 (by decide) ?_
    exact jl_widen (by omega) (by omega) (tail _ _ hR1)

theorem lawcase_22 {Rel : St → St → Prop} {E : Ec} {Y : Lc} {k n : Nat} {x4 : Int32} {SC SR : St} (C : JLC E Y) (hin : ∀ j : Nat, j ≤ 8 → vp_in (x4 + nI j) Y.2.2.2.1) (hf : k + 3 ≤ 601024 ∧ n + 18 ≤ 7293034) (hO : PO_candles Rel) (hR : Rel SC SR) (tail : ∀ SC1 SR1, Rel SC1 SR1 → JL E Y (k + 3) (n + 18) 2491 [(0, .ref Y.2.2.1), (1, .ref (gA Y.1 0)), (2, .ref (gA Y.2.1 0)), (3, .ref (gA Y.1 53)), (4, .int x4)] [] SC1 SR1) : JL E Y k n 1604 [(0, .ref Y.2.2.1), (1, .ref (gA Y.1 0)), (2, .ref (gA Y.2.1 0)), (3, .ref (gA Y.1 53)), (4, .int x4)] [] SC SR := by
  refine jl_aload_n (pc := 1604) 1 C dL_law__1604 rfl rfl ?_
  refine jl_aload_n (pc := 1605) 0 C dL_law__1605 rfl rfl ?_
  refine jl_iload (pc := 1606) 4 C dL_law__1606 rfl ?_
  refine jl_iconst (pc := 1608) 1 C dL_law__1608 (by decide) ?_
  refine jl_iadd (pc := 1609) C dL_law__1609 ?_
  refine jl_sld (pc := 1610) C dL_law__1610 (hin 1 (by decide)) ?_
  refine jl_aload_n (pc := 1611) 0 C dL_law__1611 rfl rfl ?_
  refine jl_iload (pc := 1612) 4 C dL_law__1612 rfl ?_
  refine jl_iconst (pc := 1614) 2 C dL_law__1614 (by decide) ?_
  refine jl_iadd (pc := 1615) C dL_law__1615 ?_
  refine jl_sld (pc := 1616) C dL_law__1616 (hin 2 (by decide)) ?_
  refine jl_aload_n (pc := 1617) 0 C dL_law__1617 rfl rfl ?_
  refine jl_iload (pc := 1618) 4 C dL_law__1618 rfl ?_
  refine jl_iconst (pc := 1620) 3 C dL_law__1620 (by decide) ?_
  refine jl_iadd (pc := 1621) C dL_law__1621 ?_
  refine jl_sld (pc := 1622) C dL_law__1622 (hin 3 (by decide)) ?_
  refine jl_aload_n (pc := 1623) 3 C dL_law__1623 rfl rfl ?_
  obtain ⟨v, b9, SC1, SR1, e1, e2, e3, e4, hR1⟩ := hO SC SR hR (Y.2.2.2.2 (x4 + 1).toNatClampNeg) (Y.2.2.2.2 (x4 + 2).toNatClampNeg) (Y.2.2.2.2 (x4 + 3).toNatClampNeg)
  refine jl_callH (pc := 1624) (m := 5) (As := [.ref (gA Y.1 0), .int (Y.2.2.2.2 (x4 + 1).toNatClampNeg), .int (Y.2.2.2.2 (x4 + 2).toNatClampNeg), .int (Y.2.2.2.2 (x4 + 3).toNatClampNeg), .ref (gA Y.1 53)]) (rest := []) C dL_law__1624 (cH_candles C.2.2.2.2.2.2.2.2.2.2.2.2.2.2.2.2.2.2.2.1 C.2.2.2.2.2.2.2.1 (Y.2.2.2.2 (x4 + 1).toNatClampNeg) (Y.2.2.2.2 (x4 + 2).toNatClampNeg) (Y.2.2.2.2 (x4 + 3).toNatClampNeg) SC) e1 q_1472 q_1391 (by decide +kernel) (by decide) q_1473 q_1471 (by decide) rfl rfl (Nat.le_of_ble_eq_true rfl) ⟨by omega, by omega⟩ ?_
  refine jl_istore (pc := 1627) [(5, .int v), (0, .ref Y.2.2.1), (1, .ref (gA Y.1 0)), (2, .ref (gA Y.2.1 0)), (3, .ref (gA Y.1 53)), (4, .int x4)] C dL_law__1627 (by decide) rfl ?_
  refine jl_aload_n (pc := 1629) 3 C dL_law__1629 rfl rfl ?_
  refine jl_aload_n (pc := 1630) 1 C dL_law__1630 rfl rfl ?_
  refine jl_iload (pc := 1631) 5 C dL_law__1631 rfl ?_
  refine jl_iconst (pc := 1633) 1 C dL_law__1633 (by decide) ?_
  refine jl_iadd (pc := 1634) C dL_law__1634 ?_
  refine jl_sld (pc := 1635) C dL_law__1635 (hin 1 (by decide)) ?_
  refine jl_aload_n (pc := 1636) 1 C dL_law__1636 rfl rfl ?_
  refine jl_iload (pc := 1637) 5 C dL_law__1637 rfl ?_
  refine jl_iconst (pc := 1639) 2 C dL_law__1639 (by decide) ?_
  refine jl_iadd (pc := 1640) C dL_law__1640 ?_
  refine jl_sld (pc := 1641) C dL_law__1641 (hin 2 (by decide)) ?_
  refine jl_aload_n (pc := 1642) 1 C dL_law__1642 rfl rfl ?_
  refine jl_iload (pc := 1643) 5 C dL_law__1643 rfl ?_
  refine jl_iconst (pc := 1645) 3 C dL_law__1645 (by decide) ?_
  refine jl_iadd (pc := 1646) C dL_law__1646 ?_
  refine jl_sld (pc := 1647) C dL_law__1647 (hin 3 (by decide)) ?_
  refine jl_callR (pc := 1648) (As := [.int (Y.2.2.2.2 (x4 + 1).toNatClampNeg), .int (Y.2.2.2.2 (x4 + 2).toNatClampNeg), .int (Y.2.2.2.2 (x4 + 3).toNatClampNeg)]) (rest := []) C dL_law__1648 (cR_candles C.2.2.2.2.2.2.2.2.2.2.2.2.2.2.2.2.2.2.2.1 C.2.2.2.2.2.2.2.2.1 (Y.2.2.2.2 (x4 + 1).toNatClampNeg) (Y.2.2.2.2 (x4 + 2).toNatClampNeg) (Y.2.2.2.2 (x4 + 3).toNatClampNeg) SR) e2 rfl knX10_candles ⟨q_1223, q_1224⟩ q_1474 (by decide) rfl rfl (Nat.le_of_ble_eq_true rfl) ⟨by omega, by omega⟩ ?_
  refine jl_istore (pc := 1651) [(6, .int b9), (5, .int v), (0, .ref Y.2.2.1), (1, .ref (gA Y.1 0)), (2, .ref (gA Y.2.1 0)), (3, .ref (gA Y.1 53)), (4, .int x4)] C dL_law__1651 (by decide) rfl ?_
  refine jl_aload_n (pc := 1653) 4 C dL_law__1653 rfl rfl ?_
  refine jl_callR (pc := 1654) (As := []) (rest := []) C dL_law__1654 (cR_thrown C.2.2.2.2.2.2.2.2.2.2.2.2.2.2.2.2.2.2.2.1 C.2.2.2.2.2.2.2.2.1 SR1) (show fR_thrown SR1 = some (rI (SR1.1 0), SR1) from rfl) rfl knX10_thrown ⟨q_1293, q_1294⟩ q_1394 (by decide) rfl rfl (Nat.le_of_ble_eq_true rfl) ⟨by omega, by omega⟩ ?_
  refine jl_iload (pc := 1657) 1 C dL_law__1657 rfl ?_
  refine jl_icmp_eq (pc := 1659) 1664 C dL_law__1659 (by decide) (fun _ => ?_) (fun h => absurd e3 h)
  refine jl_iload (pc := 1664) 1 C dL_law__1664 rfl ?_
  refine jl_if_ne (pc := 1666) 1681 C dL_law__1666 (by decide) (fun _ => ?_) (fun h => ?_)
  · refine jl_sub [2, 3, 4, 5, 6] rfl ?_
    refine jl_goto (pc := 1681) 2491 C dL_law__1681 (by decide) ?_
    exact jl_widen (by omega) (by omega) (tail _ _ hR1)
  · have e5 := e4 h
    refine jl_aload_n (pc := 1669) 5 C dL_law__1669 rfl rfl ?_
    refine jl_iconst (pc := 1670) 0 C dL_law__1670 (by decide) ?_
    refine jl_lald (pc := 1671) C dL_law__1671 rfl ?_
    refine jl_iload (pc := 1672) 0 C dL_law__1672 rfl ?_
    refine jl_i2l (pc := 1674) C dL_law__1674 ?_
    refine jl_lcmp (pc := 1675) C dL_law__1675 ?_
    refine jl_if_eq (pc := 1676) 1681 C dL_law__1676 (by decide) (fun _ => ?_) (fun h => absurd (by rw [e5]; exact cmp_self _) h)
    refine jl_sub [2, 3, 4, 5, 6] rfl ?_
    refine jl_goto (pc := 1681) 2491 C dL_law__1681 (by decide) ?_
    exact jl_widen (by omega) (by omega) (tail _ _ hR1)

theorem lawcase_23 {Rel : St → St → Prop} {E : Ec} {Y : Lc} {k n : Nat} {x4 : Int32} {SC SR : St} (C : JLC E Y) (hin : ∀ j : Nat, j ≤ 8 → vp_in (x4 + nI j) Y.2.2.2.1) (hf : k + 3 ≤ 601024 ∧ n + 18 ≤ 7293034) (hO : PO_fullest Rel) (hR : Rel SC SR) (tail : ∀ SC1 SR1, Rel SC1 SR1 → JL E Y (k + 3) (n + 18) 2491 [(0, .ref Y.2.2.1), (1, .ref (gA Y.1 0)), (2, .ref (gA Y.2.1 0)), (3, .ref (gA Y.1 53)), (4, .int x4)] [] SC1 SR1) : JL E Y k n 1684 [(0, .ref Y.2.2.1), (1, .ref (gA Y.1 0)), (2, .ref (gA Y.2.1 0)), (3, .ref (gA Y.1 53)), (4, .int x4)] [] SC SR := by
  refine jl_aload_n (pc := 1684) 1 C dL_law__1684 rfl rfl ?_
  refine jl_aload_n (pc := 1685) 0 C dL_law__1685 rfl rfl ?_
  refine jl_iload (pc := 1686) 4 C dL_law__1686 rfl ?_
  refine jl_iconst (pc := 1688) 1 C dL_law__1688 (by decide) ?_
  refine jl_iadd (pc := 1689) C dL_law__1689 ?_
  refine jl_sld (pc := 1690) C dL_law__1690 (hin 1 (by decide)) ?_
  refine jl_aload_n (pc := 1691) 3 C dL_law__1691 rfl rfl ?_
  obtain ⟨v, b9, SC1, SR1, e1, e2, e3, e4, hR1⟩ := hO SC SR hR (Y.2.2.2.2 (x4 + 1).toNatClampNeg)
  refine jl_callH (pc := 1692) (m := 3) (As := [.ref (gA Y.1 0), .int (Y.2.2.2.2 (x4 + 1).toNatClampNeg), .ref (gA Y.1 53)]) (rest := []) C dL_law__1692 (cH_fullest C.2.2.2.2.2.2.2.2.2.2.2.2.2.2.2.2.2.2.2.1 C.2.2.2.2.2.2.2.1 (Y.2.2.2.2 (x4 + 1).toNatClampNeg) SC) e1 q_1476 q_1391 (by decide +kernel) (by decide) q_1477 q_1475 (by decide) rfl rfl (Nat.le_of_ble_eq_true rfl) ⟨by omega, by omega⟩ ?_
  refine jl_istore (pc := 1695) [(5, .int v), (0, .ref Y.2.2.1), (1, .ref (gA Y.1 0)), (2, .ref (gA Y.2.1 0)), (3, .ref (gA Y.1 53)), (4, .int x4)] C dL_law__1695 (by decide) rfl ?_
  refine jl_aload_n (pc := 1697) 3 C dL_law__1697 rfl rfl ?_
  refine jl_aload_n (pc := 1698) 1 C dL_law__1698 rfl rfl ?_
  refine jl_iload (pc := 1699) 5 C dL_law__1699 rfl ?_
  refine jl_iconst (pc := 1701) 1 C dL_law__1701 (by decide) ?_
  refine jl_iadd (pc := 1702) C dL_law__1702 ?_
  refine jl_sld (pc := 1703) C dL_law__1703 (hin 1 (by decide)) ?_
  refine jl_callR (pc := 1704) (As := [.int (Y.2.2.2.2 (x4 + 1).toNatClampNeg)]) (rest := []) C dL_law__1704 (cR_fullest C.2.2.2.2.2.2.2.2.2.2.2.2.2.2.2.2.2.2.2.1 C.2.2.2.2.2.2.2.2.1 (Y.2.2.2.2 (x4 + 1).toNatClampNeg) SR) e2 rfl knX10_fullest ⟨q_1226, q_1227⟩ q_1478 (by decide) rfl rfl (Nat.le_of_ble_eq_true rfl) ⟨by omega, by omega⟩ ?_
  refine jl_istore (pc := 1707) [(6, .int b9), (5, .int v), (0, .ref Y.2.2.1), (1, .ref (gA Y.1 0)), (2, .ref (gA Y.2.1 0)), (3, .ref (gA Y.1 53)), (4, .int x4)] C dL_law__1707 (by decide) rfl ?_
  refine jl_aload_n (pc := 1709) 4 C dL_law__1709 rfl rfl ?_
  refine jl_callR (pc := 1710) (As := []) (rest := []) C dL_law__1710 (cR_thrown C.2.2.2.2.2.2.2.2.2.2.2.2.2.2.2.2.2.2.2.1 C.2.2.2.2.2.2.2.2.1 SR1) (show fR_thrown SR1 = some (rI (SR1.1 0), SR1) from rfl) rfl knX10_thrown ⟨q_1293, q_1294⟩ q_1394 (by decide) rfl rfl (Nat.le_of_ble_eq_true rfl) ⟨by omega, by omega⟩ ?_
  refine jl_iload (pc := 1713) 1 C dL_law__1713 rfl ?_
  refine jl_icmp_eq (pc := 1715) 1720 C dL_law__1715 (by decide) (fun _ => ?_) (fun h => absurd e3 h)
  refine jl_iload (pc := 1720) 1 C dL_law__1720 rfl ?_
  refine jl_if_ne (pc := 1722) 1737 C dL_law__1722 (by decide) (fun _ => ?_) (fun h => ?_)
  · refine jl_sub [2, 3, 4, 5, 6] rfl ?_
    refine jl_goto (pc := 1737) 2491 C dL_law__1737 (by decide) ?_
    exact jl_widen (by omega) (by omega) (tail _ _ hR1)
  · have e5 := e4 h
    refine jl_aload_n (pc := 1725) 5 C dL_law__1725 rfl rfl ?_
    refine jl_iconst (pc := 1726) 0 C dL_law__1726 (by decide) ?_
    refine jl_lald (pc := 1727) C dL_law__1727 rfl ?_
    refine jl_iload (pc := 1728) 0 C dL_law__1728 rfl ?_
    refine jl_i2l (pc := 1730) C dL_law__1730 ?_
    refine jl_lcmp (pc := 1731) C dL_law__1731 ?_
    refine jl_if_eq (pc := 1732) 1737 C dL_law__1732 (by decide) (fun _ => ?_) (fun h => absurd (by rw [e5]; exact cmp_self _) h)
    refine jl_sub [2, 3, 4, 5, 6] rfl ?_
    refine jl_goto (pc := 1737) 2491 C dL_law__1737 (by decide) ?_
    exact jl_widen (by omega) (by omega) (tail _ _ hR1)

theorem lawcase_24 {Rel : St → St → Prop} {E : Ec} {Y : Lc} {k n : Nat} {x4 : Int32} {SC SR : St} (C : JLC E Y) (hin : ∀ j : Nat, j ≤ 8 → vp_in (x4 + nI j) Y.2.2.2.1) (hf : k + 3 ≤ 601024 ∧ n + 18 ≤ 7293034) (hO : PO_free Rel) (hR : Rel SC SR) (tail : ∀ SC1 SR1, Rel SC1 SR1 → JL E Y (k + 3) (n + 18) 2491 [(0, .ref Y.2.2.1), (1, .ref (gA Y.1 0)), (2, .ref (gA Y.2.1 0)), (3, .ref (gA Y.1 53)), (4, .int x4)] [] SC1 SR1) : JL E Y k n 1740 [(0, .ref Y.2.2.1), (1, .ref (gA Y.1 0)), (2, .ref (gA Y.2.1 0)), (3, .ref (gA Y.1 53)), (4, .int x4)] [] SC SR := by
  refine jl_aload_n (pc := 1740) 1 C dL_law__1740 rfl rfl ?_
  obtain ⟨v, SC1, SR1, e1, e2, hR1⟩ := hO SC SR hR 
  refine jl_callC (pc := 1741) (As := []) (rest := []) C dL_law__1741 (cC_Main_free C.2.2.2.2.2.2.2.2.2.2.2.2.2.2.2.2.2.2.2.1 C.2.2.2.2.2.2.2.1  SC) e1 rfl knX9_free ⟨q_737, q_738⟩ q_1479 (by decide) rfl rfl (Nat.le_of_ble_eq_true rfl) ⟨by omega, by omega⟩ ?_
  refine jl_aload_n (pc := 1744) 2 C dL_law__1744 rfl rfl ?_
  refine jl_callR (pc := 1745) (As := []) (rest := [.int v]) C dL_law__1745 (cR_free C.2.2.2.2.2.2.2.2.2.2.2.2.2.2.2.2.2.2.2.1 C.2.2.2.2.2.2.2.2.1  SR) e2 rfl knX10_free ⟨q_1229, q_1230⟩ q_1480 (by decide) rfl rfl (Nat.le_of_ble_eq_true rfl) ⟨by omega, by omega⟩ ?_
  refine jl_icmp_eq (pc := 1748) 2491 C dL_law__1748 (by decide) (fun _ => ?_) (fun h => absurd rfl h)
  refine jl_sub [0, 1, 2, 3, 4] rfl ?_
  exact jl_widen (by omega) (by omega) (tail _ _ hR1)

theorem lawcase_25 {Rel : St → St → Prop} {E : Ec} {Y : Lc} {k n : Nat} {x4 : Int32} {SC SR : St} (C : JLC E Y) (hin : ∀ j : Nat, j ≤ 8 → vp_in (x4 + nI j) Y.2.2.2.1) (hf : k + 3 ≤ 601024 ∧ n + 18 ≤ 7293034) (hO : PO_partners Rel) (hR : Rel SC SR) (tail : ∀ SC1 SR1, Rel SC1 SR1 → JL E Y (k + 3) (n + 18) 2491 [(0, .ref Y.2.2.1), (1, .ref (gA Y.1 0)), (2, .ref (gA Y.2.1 0)), (3, .ref (gA Y.1 53)), (4, .int x4)] [] SC1 SR1) : JL E Y k n 1753 [(0, .ref Y.2.2.1), (1, .ref (gA Y.1 0)), (2, .ref (gA Y.2.1 0)), (3, .ref (gA Y.1 53)), (4, .int x4)] [] SC SR := by
  refine jl_aload_n (pc := 1753) 1 C dL_law__1753 rfl rfl ?_
  refine jl_aload_n (pc := 1754) 0 C dL_law__1754 rfl rfl ?_
  refine jl_iload (pc := 1755) 4 C dL_law__1755 rfl ?_
  refine jl_iconst (pc := 1757) 1 C dL_law__1757 (by decide) ?_
  refine jl_iadd (pc := 1758) C dL_law__1758 ?_
  refine jl_sld (pc := 1759) C dL_law__1759 (hin 1 (by decide)) ?_
  refine jl_aload_n (pc := 1760) 3 C dL_law__1760 rfl rfl ?_
  obtain ⟨v, b9, SC1, SR1, e1, e2, e3, e4, hR1⟩ := hO SC SR hR (Y.2.2.2.2 (x4 + 1).toNatClampNeg)
  refine jl_callH (pc := 1761) (m := 3) (As := [.ref (gA Y.1 0), .int (Y.2.2.2.2 (x4 + 1).toNatClampNeg), .ref (gA Y.1 53)]) (rest := []) C dL_law__1761 (cH_partners C.2.2.2.2.2.2.2.2.2.2.2.2.2.2.2.2.2.2.2.1 C.2.2.2.2.2.2.2.1 (Y.2.2.2.2 (x4 + 1).toNatClampNeg) SC) e1 q_1482 q_1391 (by decide +kernel) (by decide) q_1483 q_1481 (by decide) rfl rfl (Nat.le_of_ble_eq_true rfl) ⟨by omega, by omega⟩ ?_
  refine jl_istore (pc := 1764) [(5, .int v), (0, .ref Y.2.2.1), (1, .ref (gA Y.1 0)), (2, .ref (gA Y.2.1 0)), (3, .ref (gA Y.1 53)), (4, .int x4)] C dL_law__1764 (by decide) rfl ?_
  refine jl_aload_n (pc := 1766) 3 C dL_law__1766 rfl rfl ?_
  refine jl_aload_n (pc := 1767) 1 C dL_law__1767 rfl rfl ?_
  refine jl_iload (pc := 1768) 5 C dL_law__1768 rfl ?_
  refine jl_iconst (pc := 1770) 1 C dL_law__1770 (by decide) ?_
  refine jl_iadd (pc := 1771) C dL_law__1771 ?_
  refine jl_sld (pc := 1772) C dL_law__1772 (hin 1 (by decide)) ?_
  refine jl_callR (pc := 1773) (As := [.int (Y.2.2.2.2 (x4 + 1).toNatClampNeg)]) (rest := []) C dL_law__1773 (cR_partners C.2.2.2.2.2.2.2.2.2.2.2.2.2.2.2.2.2.2.2.1 C.2.2.2.2.2.2.2.2.1 (Y.2.2.2.2 (x4 + 1).toNatClampNeg) SR) e2 rfl knX10_partners ⟨q_1232, q_1233⟩ q_1484 (by decide) rfl rfl (Nat.le_of_ble_eq_true rfl) ⟨by omega, by omega⟩ ?_
  refine jl_istore (pc := 1776) [(6, .int b9), (5, .int v), (0, .ref Y.2.2.1), (1, .ref (gA Y.1 0)), (2, .ref (gA Y.2.1 0)), (3, .ref (gA Y.1 53)), (4, .int x4)] C dL_law__1776 (by decide) rfl ?_
  refine jl_aload_n (pc := 1778) 4 C dL_law__1778 rfl rfl ?_
  refine jl_callR (pc := 1779) (As := []) (rest := []) C dL_law__1779 (cR_thrown C.2.2.2.2.2.2.2.2.2.2.2.2.2.2.2.2.2.2.2.1 C.2.2.2.2.2.2.2.2.1 SR1) (show fR_thrown SR1 = some (rI (SR1.1 0), SR1) from rfl) rfl knX10_thrown ⟨q_1293, q_1294⟩ q_1394 (by decide) rfl rfl (Nat.le_of_ble_eq_true rfl) ⟨by omega, by omega⟩ ?_
  refine jl_iload (pc := 1782) 1 C dL_law__1782 rfl ?_
  refine jl_icmp_eq (pc := 1784) 1789 C dL_law__1784 (by decide) (fun _ => ?_) (fun h => absurd e3 h)
  refine jl_iload (pc := 1789) 1 C dL_law__1789 rfl ?_
  refine jl_if_ne (pc := 1791) 1806 C dL_law__1791 (by decide) (fun _ => ?_) (fun h => ?_)
  · refine jl_sub [2, 3, 4, 5, 6] rfl ?_
    refine jl_goto (pc := 1806) 2491 C dL_law__1806 (by decide) ?_
    exact jl_widen (by omega) (by omega) (tail _ _ hR1)
  · have e5 := e4 h
    refine jl_aload_n (pc := 1794) 5 C dL_law__1794 rfl rfl ?_
    refine jl_iconst (pc := 1795) 0 C dL_law__1795 (by decide) ?_
    refine jl_lald (pc := 1796) C dL_law__1796 rfl ?_
    refine jl_iload (pc := 1797) 0 C dL_law__1797 rfl ?_
    refine jl_i2l (pc := 1799) C dL_law__1799 ?_
    refine jl_lcmp (pc := 1800) C dL_law__1800 ?_
    refine jl_if_eq (pc := 1801) 1806 C dL_law__1801 (by decide) (fun _ => ?_) (fun h => absurd (by rw [e5]; exact cmp_self _) h)
    refine jl_sub [2, 3, 4, 5, 6] rfl ?_
    refine jl_goto (pc := 1806) 2491 C dL_law__1806 (by decide) ?_
    exact jl_widen (by omega) (by omega) (tail _ _ hR1)

theorem lawcase_26 {Rel : St → St → Prop} {E : Ec} {Y : Lc} {k n : Nat} {x4 : Int32} {SC SR : St} (C : JLC E Y) (hin : ∀ j : Nat, j ≤ 8 → vp_in (x4 + nI j) Y.2.2.2.1) (hf : k + 3 ≤ 601024 ∧ n + 18 ≤ 7293034) (hO : PO_fades Rel) (hR : Rel SC SR) (tail : ∀ SC1 SR1, Rel SC1 SR1 → JL E Y (k + 3) (n + 18) 2491 [(0, .ref Y.2.2.1), (1, .ref (gA Y.1 0)), (2, .ref (gA Y.2.1 0)), (3, .ref (gA Y.1 53)), (4, .int x4)] [] SC1 SR1) : JL E Y k n 1809 [(0, .ref Y.2.2.1), (1, .ref (gA Y.1 0)), (2, .ref (gA Y.2.1 0)), (3, .ref (gA Y.1 53)), (4, .int x4)] [] SC SR := by
  refine jl_aload_n (pc := 1809) 1 C dL_law__1809 rfl rfl ?_
  refine jl_aload_n (pc := 1810) 0 C dL_law__1810 rfl rfl ?_
  refine jl_iload (pc := 1811) 4 C dL_law__1811 rfl ?_
  refine jl_iconst (pc := 1813) 1 C dL_law__1813 (by decide) ?_
  refine jl_iadd (pc := 1814) C dL_law__1814 ?_
  refine jl_sld (pc := 1815) C dL_law__1815 (hin 1 (by decide)) ?_
  refine jl_aload_n (pc := 1816) 0 C dL_law__1816 rfl rfl ?_
  refine jl_iload (pc := 1817) 4 C dL_law__1817 rfl ?_
  refine jl_iconst (pc := 1819) 2 C dL_law__1819 (by decide) ?_
  refine jl_iadd (pc := 1820) C dL_law__1820 ?_
  refine jl_sld (pc := 1821) C dL_law__1821 (hin 2 (by decide)) ?_
  refine jl_aload_n (pc := 1822) 3 C dL_law__1822 rfl rfl ?_
  obtain ⟨v, b9, SC1, SR1, e1, e2, e3, e4, hR1⟩ := hO SC SR hR (Y.2.2.2.2 (x4 + 1).toNatClampNeg) (Y.2.2.2.2 (x4 + 2).toNatClampNeg)
  refine jl_callH (pc := 1823) (m := 4) (As := [.ref (gA Y.1 0), .int (Y.2.2.2.2 (x4 + 1).toNatClampNeg), .int (Y.2.2.2.2 (x4 + 2).toNatClampNeg), .ref (gA Y.1 53)]) (rest := []) C dL_law__1823 (cH_fades C.2.2.2.2.2.2.2.2.2.2.2.2.2.2.2.2.2.2.2.1 C.2.2.2.2.2.2.2.1 (Y.2.2.2.2 (x4 + 1).toNatClampNeg) (Y.2.2.2.2 (x4 + 2).toNatClampNeg) SC) e1 q_1486 q_1391 (by decide +kernel) (by decide) q_1487 q_1485 (by decide) rfl rfl (Nat.le_of_ble_eq_true rfl) ⟨by omega, by omega⟩ ?_
  refine jl_istore (pc := 1826) [(5, .int v), (0, .ref Y.2.2.1), (1, .ref (gA Y.1 0)), (2, .ref (gA Y.2.1 0)), (3, .ref (gA Y.1 53)), (4, .int x4)] C dL_law__1826 (by decide) rfl ?_
  refine jl_aload_n (pc := 1828) 3 C dL_law__1828 rfl rfl ?_
  refine jl_aload_n (pc := 1829) 1 C dL_law__1829 rfl rfl ?_
  refine jl_iload (pc := 1830) 5 C dL_law__1830 rfl ?_
  refine jl_iconst (pc := 1832) 1 C dL_law__1832 (by decide) ?_
  refine jl_iadd (pc := 1833) C dL_law__1833 ?_
  refine jl_sld (pc := 1834) C dL_law__1834 (hin 1 (by decide)) ?_
  refine jl_aload_n (pc := 1835) 1 C dL_law__1835 rfl rfl ?_
  refine jl_iload (pc := 1836) 5 C dL_law__1836 rfl ?_
  refine jl_iconst (pc := 1838) 2 C dL_law__1838 (by decide) ?_
  refine jl_iadd (pc := 1839) C dL_law__1839 ?_
  refine jl_sld (pc := 1840) C dL_law__1840 (hin 2 (by decide)) ?_
  refine jl_callR (pc := 1841) (As := [.int (Y.2.2.2.2 (x4 + 1).toNatClampNeg), .int (Y.2.2.2.2 (x4 + 2).toNatClampNeg)]) (rest := []) C dL_law__1841 (cR_fades C.2.2.2.2.2.2.2.2.2.2.2.2.2.2.2.2.2.2.2.1 C.2.2.2.2.2.2.2.2.1 (Y.2.2.2.2 (x4 + 1).toNatClampNeg) (Y.2.2.2.2 (x4 + 2).toNatClampNeg) SR) e2 rfl knX10_fades ⟨q_1235, q_1236⟩ q_1488 (by decide) rfl rfl (Nat.le_of_ble_eq_true rfl) ⟨by omega, by omega⟩ ?_
  refine jl_istore (pc := 1844) [(6, .int b9), (5, .int v), (0, .ref Y.2.2.1), (1, .ref (gA Y.1 0)), (2, .ref (gA Y.2.1 0)), (3, .ref (gA Y.1 53)), (4, .int x4)] C dL_law__1844 (by decide) rfl ?_
  refine jl_aload_n (pc := 1846) 4 C dL_law__1846 rfl rfl ?_
  refine jl_callR (pc := 1847) (As := []) (rest := []) C dL_law__1847 (cR_thrown C.2.2.2.2.2.2.2.2.2.2.2.2.2.2.2.2.2.2.2.1 C.2.2.2.2.2.2.2.2.1 SR1) (show fR_thrown SR1 = some (rI (SR1.1 0), SR1) from rfl) rfl knX10_thrown ⟨q_1293, q_1294⟩ q_1394 (by decide) rfl rfl (Nat.le_of_ble_eq_true rfl) ⟨by omega, by omega⟩ ?_
  refine jl_iload (pc := 1850) 1 C dL_law__1850 rfl ?_
  refine jl_icmp_eq (pc := 1852) 1857 C dL_law__1852 (by decide) (fun _ => ?_) (fun h => absurd e3 h)
  refine jl_iload (pc := 1857) 1 C dL_law__1857 rfl ?_
  refine jl_if_ne (pc := 1859) 1874 C dL_law__1859 (by decide) (fun _ => ?_) (fun h => ?_)
  · refine jl_sub [2, 3, 4, 5, 6] rfl ?_
    refine jl_goto (pc := 1874) 2491 C dL_law__1874 (by decide) ?_
    exact jl_widen (by omega) (by omega) (tail _ _ hR1)
  · have e5 := e4 h
    refine jl_aload_n (pc := 1862) 5 C dL_law__1862 rfl rfl ?_
    refine jl_iconst (pc := 1863) 0 C dL_law__1863 (by decide) ?_
    refine jl_lald (pc := 1864) C dL_law__1864 rfl ?_
    refine jl_iload (pc := 1865) 0 C dL_law__1865 rfl ?_
    refine jl_i2l (pc := 1867) C dL_law__1867 ?_
    refine jl_lcmp (pc := 1868) C dL_law__1868 ?_
    refine jl_if_eq (pc := 1869) 1874 C dL_law__1869 (by decide) (fun _ => ?_) (fun h => absurd (by rw [e5]; exact cmp_self _) h)
    refine jl_sub [2, 3, 4, 5, 6] rfl ?_
    refine jl_goto (pc := 1874) 2491 C dL_law__1874 (by decide) ?_
    exact jl_widen (by omega) (by omega) (tail _ _ hR1)

theorem lawcase_27 {Rel : St → St → Prop} {E : Ec} {Y : Lc} {k n : Nat} {x4 : Int32} {SC SR : St} (C : JLC E Y) (hin : ∀ j : Nat, j ≤ 8 → vp_in (x4 + nI j) Y.2.2.2.1) (hf : k + 3 ≤ 601024 ∧ n + 18 ≤ 7293034) (hO : PO_next Rel) (hR : Rel SC SR) (tail : ∀ SC1 SR1, Rel SC1 SR1 → JL E Y (k + 3) (n + 18) 2491 [(0, .ref Y.2.2.1), (1, .ref (gA Y.1 0)), (2, .ref (gA Y.2.1 0)), (3, .ref (gA Y.1 53)), (4, .int x4)] [] SC1 SR1) : JL E Y k n 1877 [(0, .ref Y.2.2.1), (1, .ref (gA Y.1 0)), (2, .ref (gA Y.2.1 0)), (3, .ref (gA Y.1 53)), (4, .int x4)] [] SC SR := by
  refine jl_aload_n (pc := 1877) 1 C dL_law__1877 rfl rfl ?_
  refine jl_aload_n (pc := 1878) 0 C dL_law__1878 rfl rfl ?_
  refine jl_iload (pc := 1879) 4 C dL_law__1879 rfl ?_
  refine jl_iconst (pc := 1881) 1 C dL_law__1881 (by decide) ?_
  refine jl_iadd (pc := 1882) C dL_law__1882 ?_
  refine jl_sld (pc := 1883) C dL_law__1883 (hin 1 (by decide)) ?_
  refine jl_aload_n (pc := 1884) 3 C dL_law__1884 rfl rfl ?_
  obtain ⟨v, b9, SC1, SR1, e1, e2, e3, e4, hR1⟩ := hO SC SR hR (Y.2.2.2.2 (x4 + 1).toNatClampNeg)
  refine jl_callH (pc := 1885) (m := 3) (As := [.ref (gA Y.1 0), .int (Y.2.2.2.2 (x4 + 1).toNatClampNeg), .ref (gA Y.1 53)]) (rest := []) C dL_law__1885 (cH_next C.2.2.2.2.2.2.2.2.2.2.2.2.2.2.2.2.2.2.2.1 C.2.2.2.2.2.2.2.1 (Y.2.2.2.2 (x4 + 1).toNatClampNeg) SC) e1 q_1490 q_1391 (by decide +kernel) (by decide) q_1491 q_1489 (by decide) rfl rfl (Nat.le_of_ble_eq_true rfl) ⟨by omega, by omega⟩ ?_
  refine jl_istore (pc := 1888) [(5, .int v), (0, .ref Y.2.2.1), (1, .ref (gA Y.1 0)), (2, .ref (gA Y.2.1 0)), (3, .ref (gA Y.1 53)), (4, .int x4)] C dL_law__1888 (by decide) rfl ?_
  refine jl_aload_n (pc := 1890) 3 C dL_law__1890 rfl rfl ?_
  refine jl_aload_n (pc := 1891) 1 C dL_law__1891 rfl rfl ?_
  refine jl_iload (pc := 1892) 5 C dL_law__1892 rfl ?_
  refine jl_iconst (pc := 1894) 1 C dL_law__1894 (by decide) ?_
  refine jl_iadd (pc := 1895) C dL_law__1895 ?_
  refine jl_sld (pc := 1896) C dL_law__1896 (hin 1 (by decide)) ?_
  refine jl_callR (pc := 1897) (As := [.int (Y.2.2.2.2 (x4 + 1).toNatClampNeg)]) (rest := []) C dL_law__1897 (cR_next C.2.2.2.2.2.2.2.2.2.2.2.2.2.2.2.2.2.2.2.1 C.2.2.2.2.2.2.2.2.1 (Y.2.2.2.2 (x4 + 1).toNatClampNeg) SR) e2 rfl knX10_next ⟨q_1238, q_1239⟩ q_1492 (by decide) rfl rfl (Nat.le_of_ble_eq_true rfl) ⟨by omega, by omega⟩ ?_
  refine jl_istore (pc := 1900) [(6, .int b9), (5, .int v), (0, .ref Y.2.2.1), (1, .ref (gA Y.1 0)), (2, .ref (gA Y.2.1 0)), (3, .ref (gA Y.1 53)), (4, .int x4)] C dL_law__1900 (by decide) rfl ?_
  refine jl_aload_n (pc := 1902) 4 C dL_law__1902 rfl rfl ?_
  refine jl_callR (pc := 1903) (As := []) (rest := []) C dL_law__1903 (cR_thrown C.2.2.2.2.2.2.2.2.2.2.2.2.2.2.2.2.2.2.2.1 C.2.2.2.2.2.2.2.2.1 SR1) (show fR_thrown SR1 = some (rI (SR1.1 0), SR1) from rfl) rfl knX10_thrown ⟨q_1293, q_1294⟩ q_1394 (by decide) rfl rfl (Nat.le_of_ble_eq_true rfl) ⟨by omega, by omega⟩ ?_
  refine jl_iload (pc := 1906) 1 C dL_law__1906 rfl ?_
  refine jl_icmp_eq (pc := 1908) 1913 C dL_law__1908 (by decide) (fun _ => ?_) (fun h => absurd e3 h)
  refine jl_iload (pc := 1913) 1 C dL_law__1913 rfl ?_
  refine jl_if_ne (pc := 1915) 1930 C dL_law__1915 (by decide) (fun _ => ?_) (fun h => ?_)
  · refine jl_sub [2, 3, 4, 5, 6] rfl ?_
    refine jl_goto (pc := 1930) 2491 C dL_law__1930 (by decide) ?_
    exact jl_widen (by omega) (by omega) (tail _ _ hR1)
  · have e5 := e4 h
    refine jl_aload_n (pc := 1918) 5 C dL_law__1918 rfl rfl ?_
    refine jl_iconst (pc := 1919) 0 C dL_law__1919 (by decide) ?_
    refine jl_lald (pc := 1920) C dL_law__1920 rfl ?_
    refine jl_iload (pc := 1921) 0 C dL_law__1921 rfl ?_
    refine jl_i2l (pc := 1923) C dL_law__1923 ?_
    refine jl_lcmp (pc := 1924) C dL_law__1924 ?_
    refine jl_if_eq (pc := 1925) 1930 C dL_law__1925 (by decide) (fun _ => ?_) (fun h => absurd (by rw [e5]; exact cmp_self _) h)
    refine jl_sub [2, 3, 4, 5, 6] rfl ?_
    refine jl_goto (pc := 1930) 2491 C dL_law__1930 (by decide) ?_
    exact jl_widen (by omega) (by omega) (tail _ _ hR1)

theorem lawcase_28 {Rel : St → St → Prop} {E : Ec} {Y : Lc} {k n : Nat} {x4 : Int32} {SC SR : St} (C : JLC E Y) (hin : ∀ j : Nat, j ≤ 8 → vp_in (x4 + nI j) Y.2.2.2.1) (hf : k + 3 ≤ 601024 ∧ n + 18 ≤ 7293034) (hO : PO_gains Rel) (hR : Rel SC SR) (tail : ∀ SC1 SR1, Rel SC1 SR1 → JL E Y (k + 3) (n + 18) 2491 [(0, .ref Y.2.2.1), (1, .ref (gA Y.1 0)), (2, .ref (gA Y.2.1 0)), (3, .ref (gA Y.1 53)), (4, .int x4)] [] SC1 SR1) : JL E Y k n 1933 [(0, .ref Y.2.2.1), (1, .ref (gA Y.1 0)), (2, .ref (gA Y.2.1 0)), (3, .ref (gA Y.1 53)), (4, .int x4)] [] SC SR := by
  refine jl_aload_n (pc := 1933) 1 C dL_law__1933 rfl rfl ?_
  refine jl_aload_n (pc := 1934) 0 C dL_law__1934 rfl rfl ?_
  refine jl_iload (pc := 1935) 4 C dL_law__1935 rfl ?_
  refine jl_iconst (pc := 1937) 1 C dL_law__1937 (by decide) ?_
  refine jl_iadd (pc := 1938) C dL_law__1938 ?_
  refine jl_sld (pc := 1939) C dL_law__1939 (hin 1 (by decide)) ?_
  refine jl_aload_n (pc := 1940) 0 C dL_law__1940 rfl rfl ?_
  refine jl_iload (pc := 1941) 4 C dL_law__1941 rfl ?_
  refine jl_iconst (pc := 1943) 2 C dL_law__1943 (by decide) ?_
  refine jl_iadd (pc := 1944) C dL_law__1944 ?_
  refine jl_sld (pc := 1945) C dL_law__1945 (hin 2 (by decide)) ?_
  refine jl_aload_n (pc := 1946) 3 C dL_law__1946 rfl rfl ?_
  obtain ⟨v, b9, SC1, SR1, e1, e2, e3, e4, hR1⟩ := hO SC SR hR (Y.2.2.2.2 (x4 + 1).toNatClampNeg) (Y.2.2.2.2 (x4 + 2).toNatClampNeg)
  refine jl_callH (pc := 1947) (m := 4) (As := [.ref (gA Y.1 0), .int (Y.2.2.2.2 (x4 + 1).toNatClampNeg), .int (Y.2.2.2.2 (x4 + 2).toNatClampNeg), .ref (gA Y.1 53)]) (rest := []) C dL_law__1947 (cH_gains C.2.2.2.2.2.2.2.2.2.2.2.2.2.2.2.2.2.2.2.1 C.2.2.2.2.2.2.2.1 (Y.2.2.2.2 (x4 + 1).toNatClampNeg) (Y.2.2.2.2 (x4 + 2).toNatClampNeg) SC) e1 q_1494 q_1391 (by decide +kernel) (by decide) q_1495 q_1493 (by decide) rfl rfl (Nat.le_of_ble_eq_true rfl) ⟨by omega, by omega⟩ ?_
  refine jl_istore (pc := 1950) [(5, .int v), (0, .ref Y.2.2.1), (1, .ref (gA Y.1 0)), (2, .ref (gA Y.2.1 0)), (3, .ref (gA Y.1 53)), (4, .int x4)] C dL_law__1950 (by decide) rfl ?_
  refine jl_aload_n (pc := 1952) 3 C dL_law__1952 rfl rfl ?_
  refine jl_aload_n (pc := 1953) 1 C dL_law__1953 rfl rfl ?_
  refine jl_iload (pc := 1954) 5 C dL_law__1954 rfl ?_
  refine jl_iconst (pc := 1956) 1 C dL_law__1956 (by decide) ?_
  refine jl_iadd (pc := 1957) C dL_law__1957 ?_
  refine jl_sld (pc := 1958) C dL_law__1958 (hin 1 (by decide)) ?_
  refine jl_aload_n (pc := 1959) 1 C dL_law__1959 rfl rfl ?_
  refine jl_iload (pc := 1960) 5 C dL_law__1960 rfl ?_
  refine jl_iconst (pc := 1962) 2 C dL_law__1962 (by decide) ?_
  refine jl_iadd (pc := 1963) C dL_law__1963 ?_
  refine jl_sld (pc := 1964) C dL_law__1964 (hin 2 (by decide)) ?_
  refine jl_callR (pc := 1965) (As := [.int (Y.2.2.2.2 (x4 + 1).toNatClampNeg), .int (Y.2.2.2.2 (x4 + 2).toNatClampNeg)]) (rest := []) C dL_law__1965 (cR_gains C.2.2.2.2.2.2.2.2.2.2.2.2.2.2.2.2.2.2.2.1 C.2.2.2.2.2.2.2.2.1 (Y.2.2.2.2 (x4 + 1).toNatClampNeg) (Y.2.2.2.2 (x4 + 2).toNatClampNeg) SR) e2 rfl knX10_gains ⟨q_1241, q_1242⟩ q_1496 (by decide) rfl rfl (Nat.le_of_ble_eq_true rfl) ⟨by omega, by omega⟩ ?_
  refine jl_istore (pc := 1968) [(6, .int b9), (5, .int v), (0, .ref Y.2.2.1), (1, .ref (gA Y.1 0)), (2, .ref (gA Y.2.1 0)), (3, .ref (gA Y.1 53)), (4, .int x4)] C dL_law__1968 (by decide) rfl ?_
  refine jl_aload_n (pc := 1970) 4 C dL_law__1970 rfl rfl ?_
  refine jl_callR (pc := 1971) (As := []) (rest := []) C dL_law__1971 (cR_thrown C.2.2.2.2.2.2.2.2.2.2.2.2.2.2.2.2.2.2.2.1 C.2.2.2.2.2.2.2.2.1 SR1) (show fR_thrown SR1 = some (rI (SR1.1 0), SR1) from rfl) rfl knX10_thrown ⟨q_1293, q_1294⟩ q_1394 (by decide) rfl rfl (Nat.le_of_ble_eq_true rfl) ⟨by omega, by omega⟩ ?_
  refine jl_iload (pc := 1974) 1 C dL_law__1974 rfl ?_
  refine jl_icmp_eq (pc := 1976) 1981 C dL_law__1976 (by decide) (fun _ => ?_) (fun h => absurd e3 h)
  refine jl_iload (pc := 1981) 1 C dL_law__1981 rfl ?_
  refine jl_if_ne (pc := 1983) 1998 C dL_law__1983 (by decide) (fun _ => ?_) (fun h => ?_)
  · refine jl_sub [2, 3, 4, 5, 6] rfl ?_
    refine jl_goto (pc := 1998) 2491 C dL_law__1998 (by decide) ?_
    exact jl_widen (by omega) (by omega) (tail _ _ hR1)
  · have e5 := e4 h
    refine jl_aload_n (pc := 1986) 5 C dL_law__1986 rfl rfl ?_
    refine jl_iconst (pc := 1987) 0 C dL_law__1987 (by decide) ?_
    refine jl_lald (pc := 1988) C dL_law__1988 rfl ?_
    refine jl_iload (pc := 1989) 0 C dL_law__1989 rfl ?_
    refine jl_i2l (pc := 1991) C dL_law__1991 ?_
    refine jl_lcmp (pc := 1992) C dL_law__1992 ?_
    refine jl_if_eq (pc := 1993) 1998 C dL_law__1993 (by decide) (fun _ => ?_) (fun h => absurd (by rw [e5]; exact cmp_self _) h)
    refine jl_sub [2, 3, 4, 5, 6] rfl ?_
    refine jl_goto (pc := 1998) 2491 C dL_law__1998 (by decide) ?_
    exact jl_widen (by omega) (by omega) (tail _ _ hR1)

theorem lawcase_29 {Rel : St → St → Prop} {E : Ec} {Y : Lc} {k n : Nat} {x4 : Int32} {SC SR : St} (C : JLC E Y) (hin : ∀ j : Nat, j ≤ 8 → vp_in (x4 + nI j) Y.2.2.2.1) (hf : k + 3 ≤ 601024 ∧ n + 18 ≤ 7293034) (hO : PO_closest Rel) (hR : Rel SC SR) (tail : ∀ SC1 SR1, Rel SC1 SR1 → JL E Y (k + 3) (n + 18) 2491 [(0, .ref Y.2.2.1), (1, .ref (gA Y.1 0)), (2, .ref (gA Y.2.1 0)), (3, .ref (gA Y.1 53)), (4, .int x4)] [] SC1 SR1) : JL E Y k n 2001 [(0, .ref Y.2.2.1), (1, .ref (gA Y.1 0)), (2, .ref (gA Y.2.1 0)), (3, .ref (gA Y.1 53)), (4, .int x4)] [] SC SR := by
  refine jl_aload_n (pc := 2001) 1 C dL_law__2001 rfl rfl ?_
  refine jl_aload_n (pc := 2002) 0 C dL_law__2002 rfl rfl ?_
  refine jl_iload (pc := 2003) 4 C dL_law__2003 rfl ?_
  refine jl_iconst (pc := 2005) 1 C dL_law__2005 (by decide) ?_
  refine jl_iadd (pc := 2006) C dL_law__2006 ?_
  refine jl_sld (pc := 2007) C dL_law__2007 (hin 1 (by decide)) ?_
  refine jl_aload_n (pc := 2008) 0 C dL_law__2008 rfl rfl ?_
  refine jl_iload (pc := 2009) 4 C dL_law__2009 rfl ?_
  refine jl_iconst (pc := 2011) 2 C dL_law__2011 (by decide) ?_
  refine jl_iadd (pc := 2012) C dL_law__2012 ?_
  refine jl_sld (pc := 2013) C dL_law__2013 (hin 2 (by decide)) ?_
  refine jl_aload_n (pc := 2014) 3 C dL_law__2014 rfl rfl ?_
  obtain ⟨v, b9, SC1, SR1, e1, e2, e3, e4, hR1⟩ := hO SC SR hR (Y.2.2.2.2 (x4 + 1).toNatClampNeg) (Y.2.2.2.2 (x4 + 2).toNatClampNeg)
  refine jl_callH (pc := 2015) (m := 4) (As := [.ref (gA Y.1 0), .int (Y.2.2.2.2 (x4 + 1).toNatClampNeg), .int (Y.2.2.2.2 (x4 + 2).toNatClampNeg), .ref (gA Y.1 53)]) (rest := []) C dL_law__2015 (cH_closest C.2.2.2.2.2.2.2.2.2.2.2.2.2.2.2.2.2.2.2.1 C.2.2.2.2.2.2.2.1 (Y.2.2.2.2 (x4 + 1).toNatClampNeg) (Y.2.2.2.2 (x4 + 2).toNatClampNeg) SC) e1 q_1498 q_1391 (by decide +kernel) (by decide) q_1499 q_1497 (by decide) rfl rfl (Nat.le_of_ble_eq_true rfl) ⟨by omega, by omega⟩ ?_
  refine jl_istore (pc := 2018) [(5, .int v), (0, .ref Y.2.2.1), (1, .ref (gA Y.1 0)), (2, .ref (gA Y.2.1 0)), (3, .ref (gA Y.1 53)), (4, .int x4)] C dL_law__2018 (by decide) rfl ?_
  refine jl_aload_n (pc := 2020) 3 C dL_law__2020 rfl rfl ?_
  refine jl_aload_n (pc := 2021) 1 C dL_law__2021 rfl rfl ?_
  refine jl_iload (pc := 2022) 5 C dL_law__2022 rfl ?_
  refine jl_iconst (pc := 2024) 1 C dL_law__2024 (by decide) ?_
  refine jl_iadd (pc := 2025) C dL_law__2025 ?_
  refine jl_sld (pc := 2026) C dL_law__2026 (hin 1 (by decide)) ?_
  refine jl_aload_n (pc := 2027) 1 C dL_law__2027 rfl rfl ?_
  refine jl_iload (pc := 2028) 5 C dL_law__2028 rfl ?_
  refine jl_iconst (pc := 2030) 2 C dL_law__2030 (by decide) ?_
  refine jl_iadd (pc := 2031) C dL_law__2031 ?_
  refine jl_sld (pc := 2032) C dL_law__2032 (hin 2 (by decide)) ?_
  refine jl_callR (pc := 2033) (As := [.int (Y.2.2.2.2 (x4 + 1).toNatClampNeg), .int (Y.2.2.2.2 (x4 + 2).toNatClampNeg)]) (rest := []) C dL_law__2033 (cR_closest C.2.2.2.2.2.2.2.2.2.2.2.2.2.2.2.2.2.2.2.1 C.2.2.2.2.2.2.2.2.1 (Y.2.2.2.2 (x4 + 1).toNatClampNeg) (Y.2.2.2.2 (x4 + 2).toNatClampNeg) SR) e2 rfl knX10_closest ⟨q_1244, q_1245⟩ q_1500 (by decide) rfl rfl (Nat.le_of_ble_eq_true rfl) ⟨by omega, by omega⟩ ?_
  refine jl_istore (pc := 2036) [(6, .int b9), (5, .int v), (0, .ref Y.2.2.1), (1, .ref (gA Y.1 0)), (2, .ref (gA Y.2.1 0)), (3, .ref (gA Y.1 53)), (4, .int x4)] C dL_law__2036 (by decide) rfl ?_
  refine jl_aload_n (pc := 2038) 4 C dL_law__2038 rfl rfl ?_
  refine jl_callR (pc := 2039) (As := []) (rest := []) C dL_law__2039 (cR_thrown C.2.2.2.2.2.2.2.2.2.2.2.2.2.2.2.2.2.2.2.1 C.2.2.2.2.2.2.2.2.1 SR1) (show fR_thrown SR1 = some (rI (SR1.1 0), SR1) from rfl) rfl knX10_thrown ⟨q_1293, q_1294⟩ q_1394 (by decide) rfl rfl (Nat.le_of_ble_eq_true rfl) ⟨by omega, by omega⟩ ?_
  refine jl_iload (pc := 2042) 1 C dL_law__2042 rfl ?_
  refine jl_icmp_eq (pc := 2044) 2049 C dL_law__2044 (by decide) (fun _ => ?_) (fun h => absurd e3 h)
  refine jl_iload (pc := 2049) 1 C dL_law__2049 rfl ?_
  refine jl_if_ne (pc := 2051) 2066 C dL_law__2051 (by decide) (fun _ => ?_) (fun h => ?_)
  · refine jl_sub [2, 3, 4, 5, 6] rfl ?_
    refine jl_goto (pc := 2066) 2491 C dL_law__2066 (by decide) ?_
    exact jl_widen (by omega) (by omega) (tail _ _ hR1)
  · have e5 := e4 h
    refine jl_aload_n (pc := 2054) 5 C dL_law__2054 rfl rfl ?_
    refine jl_iconst (pc := 2055) 0 C dL_law__2055 (by decide) ?_
    refine jl_lald (pc := 2056) C dL_law__2056 rfl ?_
    refine jl_iload (pc := 2057) 0 C dL_law__2057 rfl ?_
    refine jl_i2l (pc := 2059) C dL_law__2059 ?_
    refine jl_lcmp (pc := 2060) C dL_law__2060 ?_
    refine jl_if_eq (pc := 2061) 2066 C dL_law__2061 (by decide) (fun _ => ?_) (fun h => absurd (by rw [e5]; exact cmp_self _) h)
    refine jl_sub [2, 3, 4, 5, 6] rfl ?_
    refine jl_goto (pc := 2066) 2491 C dL_law__2066 (by decide) ?_
    exact jl_widen (by omega) (by omega) (tail _ _ hR1)

theorem lawcase_30 {Rel : St → St → Prop} {E : Ec} {Y : Lc} {k n : Nat} {x4 : Int32} {SC SR : St} (C : JLC E Y) (hin : ∀ j : Nat, j ≤ 8 → vp_in (x4 + nI j) Y.2.2.2.1) (hf : k + 3 ≤ 601024 ∧ n + 18 ≤ 7293034) (hO : PO_best Rel) (hR : Rel SC SR) (tail : ∀ SC1 SR1, Rel SC1 SR1 → JL E Y (k + 3) (n + 18) 2491 [(0, .ref Y.2.2.1), (1, .ref (gA Y.1 0)), (2, .ref (gA Y.2.1 0)), (3, .ref (gA Y.1 53)), (4, .int x4)] [] SC1 SR1) : JL E Y k n 2069 [(0, .ref Y.2.2.1), (1, .ref (gA Y.1 0)), (2, .ref (gA Y.2.1 0)), (3, .ref (gA Y.1 53)), (4, .int x4)] [] SC SR := by
  refine jl_aload_n (pc := 2069) 1 C dL_law__2069 rfl rfl ?_
  refine jl_aload_n (pc := 2070) 0 C dL_law__2070 rfl rfl ?_
  refine jl_iload (pc := 2071) 4 C dL_law__2071 rfl ?_
  refine jl_iconst (pc := 2073) 1 C dL_law__2073 (by decide) ?_
  refine jl_iadd (pc := 2074) C dL_law__2074 ?_
  refine jl_sld (pc := 2075) C dL_law__2075 (hin 1 (by decide)) ?_
  refine jl_aload_n (pc := 2076) 0 C dL_law__2076 rfl rfl ?_
  refine jl_iload (pc := 2077) 4 C dL_law__2077 rfl ?_
  refine jl_iconst (pc := 2079) 2 C dL_law__2079 (by decide) ?_
  refine jl_iadd (pc := 2080) C dL_law__2080 ?_
  refine jl_sld (pc := 2081) C dL_law__2081 (hin 2 (by decide)) ?_
  refine jl_aload_n (pc := 2082) 3 C dL_law__2082 rfl rfl ?_
  obtain ⟨v, b9, SC1, SR1, e1, e2, e3, e4, hR1⟩ := hO SC SR hR (Y.2.2.2.2 (x4 + 1).toNatClampNeg) (Y.2.2.2.2 (x4 + 2).toNatClampNeg)
  refine jl_callH (pc := 2083) (m := 4) (As := [.ref (gA Y.1 0), .int (Y.2.2.2.2 (x4 + 1).toNatClampNeg), .int (Y.2.2.2.2 (x4 + 2).toNatClampNeg), .ref (gA Y.1 53)]) (rest := []) C dL_law__2083 (cH_best C.2.2.2.2.2.2.2.2.2.2.2.2.2.2.2.2.2.2.2.1 C.2.2.2.2.2.2.2.1 (Y.2.2.2.2 (x4 + 1).toNatClampNeg) (Y.2.2.2.2 (x4 + 2).toNatClampNeg) SC) e1 q_1502 q_1391 (by decide +kernel) (by decide) q_1503 q_1501 (by decide) rfl rfl (Nat.le_of_ble_eq_true rfl) ⟨by omega, by omega⟩ ?_
  refine jl_istore (pc := 2086) [(5, .int v), (0, .ref Y.2.2.1), (1, .ref (gA Y.1 0)), (2, .ref (gA Y.2.1 0)), (3, .ref (gA Y.1 53)), (4, .int x4)] C dL_law__2086 (by decide) rfl ?_
  refine jl_aload_n (pc := 2088) 3 C dL_law__2088 rfl rfl ?_
  refine jl_aload_n (pc := 2089) 1 C dL_law__2089 rfl rfl ?_
  refine jl_iload (pc := 2090) 5 C dL_law__2090 rfl ?_
  refine jl_iconst (pc := 2092) 1 C dL_law__2092 (by decide) ?_
  refine jl_iadd (pc := 2093) C dL_law__2093 ?_
  refine jl_sld (pc := 2094) C dL_law__2094 (hin 1 (by decide)) ?_
  refine jl_aload_n (pc := 2095) 1 C dL_law__2095 rfl rfl ?_
  refine jl_iload (pc := 2096) 5 C dL_law__2096 rfl ?_
  refine jl_iconst (pc := 2098) 2 C dL_law__2098 (by decide) ?_
  refine jl_iadd (pc := 2099) C dL_law__2099 ?_
  refine jl_sld (pc := 2100) C dL_law__2100 (hin 2 (by decide)) ?_
  refine jl_callR (pc := 2101) (As := [.int (Y.2.2.2.2 (x4 + 1).toNatClampNeg), .int (Y.2.2.2.2 (x4 + 2).toNatClampNeg)]) (rest := []) C dL_law__2101 (cR_best C.2.2.2.2.2.2.2.2.2.2.2.2.2.2.2.2.2.2.2.1 C.2.2.2.2.2.2.2.2.1 (Y.2.2.2.2 (x4 + 1).toNatClampNeg) (Y.2.2.2.2 (x4 + 2).toNatClampNeg) SR) e2 rfl knX10_best ⟨q_1247, q_1248⟩ q_1504 (by decide) rfl rfl (Nat.le_of_ble_eq_true rfl) ⟨by omega, by omega⟩ ?_
  refine jl_istore (pc := 2104) [(6, .int b9), (5, .int v), (0, .ref Y.2.2.1), (1, .ref (gA Y.1 0)), (2, .ref (gA Y.2.1 0)), (3, .ref (gA Y.1 53)), (4, .int x4)] C dL_law__2104 (by decide) rfl ?_
  refine jl_aload_n (pc := 2106) 4 C dL_law__2106 rfl rfl ?_
  refine jl_callR (pc := 2107) (As := []) (rest := []) C dL_law__2107 (cR_thrown C.2.2.2.2.2.2.2.2.2.2.2.2.2.2.2.2.2.2.2.1 C.2.2.2.2.2.2.2.2.1 SR1) (show fR_thrown SR1 = some (rI (SR1.1 0), SR1) from rfl) rfl knX10_thrown ⟨q_1293, q_1294⟩ q_1394 (by decide) rfl rfl (Nat.le_of_ble_eq_true rfl) ⟨by omega, by omega⟩ ?_
  refine jl_iload (pc := 2110) 1 C dL_law__2110 rfl ?_
  refine jl_icmp_eq (pc := 2112) 2117 C dL_law__2112 (by decide) (fun _ => ?_) (fun h => absurd e3 h)
  refine jl_iload (pc := 2117) 1 C dL_law__2117 rfl ?_
  refine jl_if_ne (pc := 2119) 2134 C dL_law__2119 (by decide) (fun _ => ?_) (fun h => ?_)
  · refine jl_sub [2, 3, 4, 5, 6] rfl ?_
    refine jl_goto (pc := 2134) 2491 C dL_law__2134 (by decide) ?_
    exact jl_widen (by omega) (by omega) (tail _ _ hR1)
  · have e5 := e4 h
    refine jl_aload_n (pc := 2122) 5 C dL_law__2122 rfl rfl ?_
    refine jl_iconst (pc := 2123) 0 C dL_law__2123 (by decide) ?_
    refine jl_lald (pc := 2124) C dL_law__2124 rfl ?_
    refine jl_iload (pc := 2125) 0 C dL_law__2125 rfl ?_
    refine jl_i2l (pc := 2127) C dL_law__2127 ?_
    refine jl_lcmp (pc := 2128) C dL_law__2128 ?_
    refine jl_if_eq (pc := 2129) 2134 C dL_law__2129 (by decide) (fun _ => ?_) (fun h => absurd (by rw [e5]; exact cmp_self _) h)
    refine jl_sub [2, 3, 4, 5, 6] rfl ?_
    refine jl_goto (pc := 2134) 2491 C dL_law__2134 (by decide) ?_
    exact jl_widen (by omega) (by omega) (tail _ _ hR1)

theorem lawcase_31 {Rel : St → St → Prop} {E : Ec} {Y : Lc} {k n : Nat} {x4 : Int32} {SC SR : St} (C : JLC E Y) (hin : ∀ j : Nat, j ≤ 8 → vp_in (x4 + nI j) Y.2.2.2.1) (hf : k + 3 ≤ 601024 ∧ n + 18 ≤ 7293034) (hO : PO_chorus Rel) (hR : Rel SC SR) (tail : ∀ SC1 SR1, Rel SC1 SR1 → JL E Y (k + 3) (n + 18) 2491 [(0, .ref Y.2.2.1), (1, .ref (gA Y.1 0)), (2, .ref (gA Y.2.1 0)), (3, .ref (gA Y.1 53)), (4, .int x4)] [] SC1 SR1) : JL E Y k n 2137 [(0, .ref Y.2.2.1), (1, .ref (gA Y.1 0)), (2, .ref (gA Y.2.1 0)), (3, .ref (gA Y.1 53)), (4, .int x4)] [] SC SR := by
  refine jl_aload_n (pc := 2137) 1 C dL_law__2137 rfl rfl ?_
  refine jl_aload_n (pc := 2138) 0 C dL_law__2138 rfl rfl ?_
  refine jl_iload (pc := 2139) 4 C dL_law__2139 rfl ?_
  refine jl_iconst (pc := 2141) 1 C dL_law__2141 (by decide) ?_
  refine jl_iadd (pc := 2142) C dL_law__2142 ?_
  refine jl_sld (pc := 2143) C dL_law__2143 (hin 1 (by decide)) ?_
  refine jl_aload_n (pc := 2144) 0 C dL_law__2144 rfl rfl ?_
  refine jl_iload (pc := 2145) 4 C dL_law__2145 rfl ?_
  refine jl_iconst (pc := 2147) 2 C dL_law__2147 (by decide) ?_
  refine jl_iadd (pc := 2148) C dL_law__2148 ?_
  refine jl_sld (pc := 2149) C dL_law__2149 (hin 2 (by decide)) ?_
  refine jl_aload_n (pc := 2150) 3 C dL_law__2150 rfl rfl ?_
  obtain ⟨v, b9, SC1, SR1, e1, e2, e3, e4, hR1⟩ := hO SC SR hR (Y.2.2.2.2 (x4 + 1).toNatClampNeg) (Y.2.2.2.2 (x4 + 2).toNatClampNeg)
  refine jl_callH (pc := 2151) (m := 4) (As := [.ref (gA Y.1 0), .int (Y.2.2.2.2 (x4 + 1).toNatClampNeg), .int (Y.2.2.2.2 (x4 + 2).toNatClampNeg), .ref (gA Y.1 53)]) (rest := []) C dL_law__2151 (cH_chorus C.2.2.2.2.2.2.2.2.2.2.2.2.2.2.2.2.2.2.2.1 C.2.2.2.2.2.2.2.1 (Y.2.2.2.2 (x4 + 1).toNatClampNeg) (Y.2.2.2.2 (x4 + 2).toNatClampNeg) SC) e1 q_1506 q_1391 (by decide +kernel) (by decide) q_1507 q_1505 (by decide) rfl rfl (Nat.le_of_ble_eq_true rfl) ⟨by omega, by omega⟩ ?_
  refine jl_istore (pc := 2154) [(5, .int v), (0, .ref Y.2.2.1), (1, .ref (gA Y.1 0)), (2, .ref (gA Y.2.1 0)), (3, .ref (gA Y.1 53)), (4, .int x4)] C dL_law__2154 (by decide) rfl ?_
  refine jl_aload_n (pc := 2156) 3 C dL_law__2156 rfl rfl ?_
  refine jl_aload_n (pc := 2157) 1 C dL_law__2157 rfl rfl ?_
  refine jl_iload (pc := 2158) 5 C dL_law__2158 rfl ?_
  refine jl_iconst (pc := 2160) 1 C dL_law__2160 (by decide) ?_
  refine jl_iadd (pc := 2161) C dL_law__2161 ?_
  refine jl_sld (pc := 2162) C dL_law__2162 (hin 1 (by decide)) ?_
  refine jl_aload_n (pc := 2163) 1 C dL_law__2163 rfl rfl ?_
  refine jl_iload (pc := 2164) 5 C dL_law__2164 rfl ?_
  refine jl_iconst (pc := 2166) 2 C dL_law__2166 (by decide) ?_
  refine jl_iadd (pc := 2167) C dL_law__2167 ?_
  refine jl_sld (pc := 2168) C dL_law__2168 (hin 2 (by decide)) ?_
  refine jl_callR (pc := 2169) (As := [.int (Y.2.2.2.2 (x4 + 1).toNatClampNeg), .int (Y.2.2.2.2 (x4 + 2).toNatClampNeg)]) (rest := []) C dL_law__2169 (cR_chorus C.2.2.2.2.2.2.2.2.2.2.2.2.2.2.2.2.2.2.2.1 C.2.2.2.2.2.2.2.2.1 (Y.2.2.2.2 (x4 + 1).toNatClampNeg) (Y.2.2.2.2 (x4 + 2).toNatClampNeg) SR) e2 rfl knX10_chorus ⟨q_1250, q_1251⟩ q_1508 (by decide) rfl rfl (Nat.le_of_ble_eq_true rfl) ⟨by omega, by omega⟩ ?_
  refine jl_istore (pc := 2172) [(6, .int b9), (5, .int v), (0, .ref Y.2.2.1), (1, .ref (gA Y.1 0)), (2, .ref (gA Y.2.1 0)), (3, .ref (gA Y.1 53)), (4, .int x4)] C dL_law__2172 (by decide) rfl ?_
  refine jl_aload_n (pc := 2174) 4 C dL_law__2174 rfl rfl ?_
  refine jl_callR (pc := 2175) (As := []) (rest := []) C dL_law__2175 (cR_thrown C.2.2.2.2.2.2.2.2.2.2.2.2.2.2.2.2.2.2.2.1 C.2.2.2.2.2.2.2.2.1 SR1) (show fR_thrown SR1 = some (rI (SR1.1 0), SR1) from rfl) rfl knX10_thrown ⟨q_1293, q_1294⟩ q_1394 (by decide) rfl rfl (Nat.le_of_ble_eq_true rfl) ⟨by omega, by omega⟩ ?_
  refine jl_iload (pc := 2178) 1 C dL_law__2178 rfl ?_
  refine jl_icmp_eq (pc := 2180) 2185 C dL_law__2180 (by decide) (fun _ => ?_) (fun h => absurd e3 h)
  refine jl_iload (pc := 2185) 1 C dL_law__2185 rfl ?_
  refine jl_if_ne (pc := 2187) 2202 C dL_law__2187 (by decide) (fun _ => ?_) (fun h => ?_)
  · refine jl_sub [2, 3, 4, 5, 6] rfl ?_
    refine jl_goto (pc := 2202) 2491 C dL_law__2202 (by decide) ?_
    exact jl_widen (by omega) (by omega) (tail _ _ hR1)
  · have e5 := e4 h
    refine jl_aload_n (pc := 2190) 5 C dL_law__2190 rfl rfl ?_
    refine jl_iconst (pc := 2191) 0 C dL_law__2191 (by decide) ?_
    refine jl_lald (pc := 2192) C dL_law__2192 rfl ?_
    refine jl_iload (pc := 2193) 0 C dL_law__2193 rfl ?_
    refine jl_i2l (pc := 2195) C dL_law__2195 ?_
    refine jl_lcmp (pc := 2196) C dL_law__2196 ?_
    refine jl_if_eq (pc := 2197) 2202 C dL_law__2197 (by decide) (fun _ => ?_) (fun h => absurd (by rw [e5]; exact cmp_self _) h)
    refine jl_sub [2, 3, 4, 5, 6] rfl ?_
    refine jl_goto (pc := 2202) 2491 C dL_law__2202 (by decide) ?_
    exact jl_widen (by omega) (by omega) (tail _ _ hR1)

theorem lawcase_32 {Rel : St → St → Prop} {E : Ec} {Y : Lc} {k n : Nat} {x4 : Int32} {SC SR : St} (C : JLC E Y) (hin : ∀ j : Nat, j ≤ 8 → vp_in (x4 + nI j) Y.2.2.2.1) (hf : k + 3 ≤ 601024 ∧ n + 18 ≤ 7293034) (hO : PO_season Rel) (hR : Rel SC SR) (tail : ∀ SC1 SR1, Rel SC1 SR1 → JL E Y (k + 3) (n + 18) 2491 [(0, .ref Y.2.2.1), (1, .ref (gA Y.1 0)), (2, .ref (gA Y.2.1 0)), (3, .ref (gA Y.1 53)), (4, .int x4)] [] SC1 SR1) : JL E Y k n 2205 [(0, .ref Y.2.2.1), (1, .ref (gA Y.1 0)), (2, .ref (gA Y.2.1 0)), (3, .ref (gA Y.1 53)), (4, .int x4)] [] SC SR := by
  refine jl_aload_n (pc := 2205) 1 C dL_law__2205 rfl rfl ?_
  refine jl_aload_n (pc := 2206) 0 C dL_law__2206 rfl rfl ?_
  refine jl_iload (pc := 2207) 4 C dL_law__2207 rfl ?_
  refine jl_iconst (pc := 2209) 1 C dL_law__2209 (by decide) ?_
  refine jl_iadd (pc := 2210) C dL_law__2210 ?_
  refine jl_sld (pc := 2211) C dL_law__2211 (hin 1 (by decide)) ?_
  refine jl_aload_n (pc := 2212) 0 C dL_law__2212 rfl rfl ?_
  refine jl_iload (pc := 2213) 4 C dL_law__2213 rfl ?_
  refine jl_iconst (pc := 2215) 2 C dL_law__2215 (by decide) ?_
  refine jl_iadd (pc := 2216) C dL_law__2216 ?_
  refine jl_sld (pc := 2217) C dL_law__2217 (hin 2 (by decide)) ?_
  refine jl_aload_n (pc := 2218) 0 C dL_law__2218 rfl rfl ?_
  refine jl_iload (pc := 2219) 4 C dL_law__2219 rfl ?_
  refine jl_iconst (pc := 2221) 3 C dL_law__2221 (by decide) ?_
  refine jl_iadd (pc := 2222) C dL_law__2222 ?_
  refine jl_sld (pc := 2223) C dL_law__2223 (hin 3 (by decide)) ?_
  refine jl_aload_n (pc := 2224) 0 C dL_law__2224 rfl rfl ?_
  refine jl_iload (pc := 2225) 4 C dL_law__2225 rfl ?_
  refine jl_iconst (pc := 2227) 4 C dL_law__2227 (by decide) ?_
  refine jl_iadd (pc := 2228) C dL_law__2228 ?_
  refine jl_sld (pc := 2229) C dL_law__2229 (hin 4 (by decide)) ?_
  refine jl_aload_n (pc := 2230) 3 C dL_law__2230 rfl rfl ?_
  obtain ⟨v, b9, SC1, SR1, e1, e2, e3, e4, hR1⟩ := hO SC SR hR (Y.2.2.2.2 (x4 + 1).toNatClampNeg) (Y.2.2.2.2 (x4 + 2).toNatClampNeg) (Y.2.2.2.2 (x4 + 3).toNatClampNeg) (Y.2.2.2.2 (x4 + 4).toNatClampNeg)
  refine jl_callH (pc := 2231) (m := 6) (As := [.ref (gA Y.1 0), .int (Y.2.2.2.2 (x4 + 1).toNatClampNeg), .int (Y.2.2.2.2 (x4 + 2).toNatClampNeg), .int (Y.2.2.2.2 (x4 + 3).toNatClampNeg), .int (Y.2.2.2.2 (x4 + 4).toNatClampNeg), .ref (gA Y.1 53)]) (rest := []) C dL_law__2231 (cH_season C.2.2.2.2.2.2.2.2.2.2.2.2.2.2.2.2.2.2.2.1 C.2.2.2.2.2.2.2.1 (Y.2.2.2.2 (x4 + 1).toNatClampNeg) (Y.2.2.2.2 (x4 + 2).toNatClampNeg) (Y.2.2.2.2 (x4 + 3).toNatClampNeg) (Y.2.2.2.2 (x4 + 4).toNatClampNeg) SC) e1 q_1510 q_1391 (by decide +kernel) (by decide) q_1511 q_1509 (by decide) rfl rfl (Nat.le_of_ble_eq_true rfl) ⟨by omega, by omega⟩ ?_
  refine jl_istore (pc := 2234) [(5, .int v), (0, .ref Y.2.2.1), (1, .ref (gA Y.1 0)), (2, .ref (gA Y.2.1 0)), (3, .ref (gA Y.1 53)), (4, .int x4)] C dL_law__2234 (by decide) rfl ?_
  refine jl_aload_n (pc := 2236) 3 C dL_law__2236 rfl rfl ?_
  refine jl_aload_n (pc := 2237) 1 C dL_law__2237 rfl rfl ?_
  refine jl_iload (pc := 2238) 5 C dL_law__2238 rfl ?_
  refine jl_iconst (pc := 2240) 1 C dL_law__2240 (by decide) ?_
  refine jl_iadd (pc := 2241) C dL_law__2241 ?_
  refine jl_sld (pc := 2242) C dL_law__2242 (hin 1 (by decide)) ?_
  refine jl_aload_n (pc := 2243) 1 C dL_law__2243 rfl rfl ?_
  refine jl_iload (pc := 2244) 5 C dL_law__2244 rfl ?_
  refine jl_iconst (pc := 2246) 2 C dL_law__2246 (by decide) ?_
  refine jl_iadd (pc := 2247) C dL_law__2247 ?_
  refine jl_sld (pc := 2248) C dL_law__2248 (hin 2 (by decide)) ?_
  refine jl_aload_n (pc := 2249) 1 C dL_law__2249 rfl rfl ?_
  refine jl_iload (pc := 2250) 5 C dL_law__2250 rfl ?_
  refine jl_iconst (pc := 2252) 3 C dL_law__2252 (by decide) ?_
  refine jl_iadd (pc := 2253) C dL_law__2253 ?_
  refine jl_sld (pc := 2254) C dL_law__2254 (hin 3 (by decide)) ?_
  refine jl_aload_n (pc := 2255) 1 C dL_law__2255 rfl rfl ?_
  refine jl_iload (pc := 2256) 5 C dL_law__2256 rfl ?_
  refine jl_iconst (pc := 2258) 4 C dL_law__2258 (by decide) ?_
  refine jl_iadd (pc := 2259) C dL_law__2259 ?_
  refine jl_sld (pc := 2260) C dL_law__2260 (hin 4 (by decide)) ?_
  refine jl_callR (pc := 2261) (As := [.int (Y.2.2.2.2 (x4 + 1).toNatClampNeg), .int (Y.2.2.2.2 (x4 + 2).toNatClampNeg), .int (Y.2.2.2.2 (x4 + 3).toNatClampNeg), .int (Y.2.2.2.2 (x4 + 4).toNatClampNeg)]) (rest := []) C dL_law__2261 (cR_season C.2.2.2.2.2.2.2.2.2.2.2.2.2.2.2.2.2.2.2.1 C.2.2.2.2.2.2.2.2.1 (Y.2.2.2.2 (x4 + 1).toNatClampNeg) (Y.2.2.2.2 (x4 + 2).toNatClampNeg) (Y.2.2.2.2 (x4 + 3).toNatClampNeg) (Y.2.2.2.2 (x4 + 4).toNatClampNeg) SR) e2 rfl knX10_season ⟨q_1266, q_1267⟩ q_1512 (by decide) rfl rfl (Nat.le_of_ble_eq_true rfl) ⟨by omega, by omega⟩ ?_
  refine jl_istore (pc := 2264) [(6, .int b9), (5, .int v), (0, .ref Y.2.2.1), (1, .ref (gA Y.1 0)), (2, .ref (gA Y.2.1 0)), (3, .ref (gA Y.1 53)), (4, .int x4)] C dL_law__2264 (by decide) rfl ?_
  refine jl_aload_n (pc := 2266) 4 C dL_law__2266 rfl rfl ?_
  refine jl_callR (pc := 2267) (As := []) (rest := []) C dL_law__2267 (cR_thrown C.2.2.2.2.2.2.2.2.2.2.2.2.2.2.2.2.2.2.2.1 C.2.2.2.2.2.2.2.2.1 SR1) (show fR_thrown SR1 = some (rI (SR1.1 0), SR1) from rfl) rfl knX10_thrown ⟨q_1293, q_1294⟩ q_1394 (by decide) rfl rfl (Nat.le_of_ble_eq_true rfl) ⟨by omega, by omega⟩ ?_
  refine jl_iload (pc := 2270) 1 C dL_law__2270 rfl ?_
  refine jl_icmp_eq (pc := 2272) 2277 C dL_law__2272 (by decide) (fun _ => ?_) (fun h => absurd e3 h)
  refine jl_iload (pc := 2277) 1 C dL_law__2277 rfl ?_
  refine jl_if_ne (pc := 2279) 2294 C dL_law__2279 (by decide) (fun _ => ?_) (fun h => ?_)
  · refine jl_sub [2, 3, 4, 5, 6] rfl ?_
    refine jl_goto (pc := 2294) 2491 C dL_law__2294 (by decide) ?_
    exact jl_widen (by omega) (by omega) (tail _ _ hR1)
  · have e5 := e4 h
    refine jl_aload_n (pc := 2282) 5 C dL_law__2282 rfl rfl ?_
    refine jl_iconst (pc := 2283) 0 C dL_law__2283 (by decide) ?_
    refine jl_lald (pc := 2284) C dL_law__2284 rfl ?_
    refine jl_iload (pc := 2285) 0 C dL_law__2285 rfl ?_
    refine jl_i2l (pc := 2287) C dL_law__2287 ?_
    refine jl_lcmp (pc := 2288) C dL_law__2288 ?_
    refine jl_if_eq (pc := 2289) 2294 C dL_law__2289 (by decide) (fun _ => ?_) (fun h => absurd (by rw [e5]; exact cmp_self _) h)
    refine jl_sub [2, 3, 4, 5, 6] rfl ?_
    refine jl_goto (pc := 2294) 2491 C dL_law__2294 (by decide) ?_
    exact jl_widen (by omega) (by omega) (tail _ _ hR1)

theorem lawcase_33 {Rel : St → St → Prop} {E : Ec} {Y : Lc} {k n : Nat} {x4 : Int32} {SC SR : St} (C : JLC E Y) (hin : ∀ j : Nat, j ≤ 8 → vp_in (x4 + nI j) Y.2.2.2.1) (hf : k + 3 ≤ 601024 ∧ n + 18 ≤ 7293034) (hO : PO_span Rel) (hR : Rel SC SR) (tail : ∀ SC1 SR1, Rel SC1 SR1 → JL E Y (k + 3) (n + 18) 2491 [(0, .ref Y.2.2.1), (1, .ref (gA Y.1 0)), (2, .ref (gA Y.2.1 0)), (3, .ref (gA Y.1 53)), (4, .int x4)] [] SC1 SR1) : JL E Y k n 2297 [(0, .ref Y.2.2.1), (1, .ref (gA Y.1 0)), (2, .ref (gA Y.2.1 0)), (3, .ref (gA Y.1 53)), (4, .int x4)] [] SC SR := by
  refine jl_aload_n (pc := 2297) 1 C dL_law__2297 rfl rfl ?_
  refine jl_aload_n (pc := 2298) 0 C dL_law__2298 rfl rfl ?_
  refine jl_iload (pc := 2299) 4 C dL_law__2299 rfl ?_
  refine jl_iconst (pc := 2301) 1 C dL_law__2301 (by decide) ?_
  refine jl_iadd (pc := 2302) C dL_law__2302 ?_
  refine jl_sld (pc := 2303) C dL_law__2303 (hin 1 (by decide)) ?_
  refine jl_aload_n (pc := 2304) 0 C dL_law__2304 rfl rfl ?_
  refine jl_iload (pc := 2305) 4 C dL_law__2305 rfl ?_
  refine jl_iconst (pc := 2307) 2 C dL_law__2307 (by decide) ?_
  refine jl_iadd (pc := 2308) C dL_law__2308 ?_
  refine jl_sld (pc := 2309) C dL_law__2309 (hin 2 (by decide)) ?_
  refine jl_aload_n (pc := 2310) 0 C dL_law__2310 rfl rfl ?_
  refine jl_iload (pc := 2311) 4 C dL_law__2311 rfl ?_
  refine jl_iconst (pc := 2313) 3 C dL_law__2313 (by decide) ?_
  refine jl_iadd (pc := 2314) C dL_law__2314 ?_
  refine jl_sld (pc := 2315) C dL_law__2315 (hin 3 (by decide)) ?_
  refine jl_aload_n (pc := 2316) 0 C dL_law__2316 rfl rfl ?_
  refine jl_iload (pc := 2317) 4 C dL_law__2317 rfl ?_
  refine jl_iconst (pc := 2319) 4 C dL_law__2319 (by decide) ?_
  refine jl_iadd (pc := 2320) C dL_law__2320 ?_
  refine jl_sld (pc := 2321) C dL_law__2321 (hin 4 (by decide)) ?_
  refine jl_aload_n (pc := 2322) 0 C dL_law__2322 rfl rfl ?_
  refine jl_iload (pc := 2323) 4 C dL_law__2323 rfl ?_
  refine jl_iconst (pc := 2325) 5 C dL_law__2325 (by decide) ?_
  refine jl_iadd (pc := 2326) C dL_law__2326 ?_
  refine jl_sld (pc := 2327) C dL_law__2327 (hin 5 (by decide)) ?_
  refine jl_aload_n (pc := 2328) 0 C dL_law__2328 rfl rfl ?_
  refine jl_iload (pc := 2329) 4 C dL_law__2329 rfl ?_
  refine jl_bipush (pc := 2331) 6 C dL_law__2331 (by decide) ?_
  refine jl_iadd (pc := 2333) C dL_law__2333 ?_
  refine jl_sld (pc := 2334) C dL_law__2334 (hin 6 (by decide)) ?_
  refine jl_aload_n (pc := 2335) 3 C dL_law__2335 rfl rfl ?_
  obtain ⟨v, b9, SC1, SR1, e1, e2, e3, e4, hR1⟩ := hO SC SR hR (Y.2.2.2.2 (x4 + 1).toNatClampNeg) (Y.2.2.2.2 (x4 + 2).toNatClampNeg) (Y.2.2.2.2 (x4 + 3).toNatClampNeg) (Y.2.2.2.2 (x4 + 4).toNatClampNeg) (Y.2.2.2.2 (x4 + 5).toNatClampNeg) (Y.2.2.2.2 (x4 + 6).toNatClampNeg)
  refine jl_callH (pc := 2336) (m := 8) (As := [.ref (gA Y.1 0), .int (Y.2.2.2.2 (x4 + 1).toNatClampNeg), .int (Y.2.2.2.2 (x4 + 2).toNatClampNeg), .int (Y.2.2.2.2 (x4 + 3).toNatClampNeg), .int (Y.2.2.2.2 (x4 + 4).toNatClampNeg), .int (Y.2.2.2.2 (x4 + 5).toNatClampNeg), .int (Y.2.2.2.2 (x4 + 6).toNatClampNeg), .ref (gA Y.1 53)]) (rest := []) C dL_law__2336 (cH_span C.2.2.2.2.2.2.2.2.2.2.2.2.2.2.2.2.2.2.2.1 C.2.2.2.2.2.2.2.1 (Y.2.2.2.2 (x4 + 1).toNatClampNeg) (Y.2.2.2.2 (x4 + 2).toNatClampNeg) (Y.2.2.2.2 (x4 + 3).toNatClampNeg) (Y.2.2.2.2 (x4 + 4).toNatClampNeg) (Y.2.2.2.2 (x4 + 5).toNatClampNeg) (Y.2.2.2.2 (x4 + 6).toNatClampNeg) SC) e1 q_1514 q_1391 (by decide +kernel) (by decide) q_1515 q_1513 (by decide) rfl rfl (Nat.le_of_ble_eq_true rfl) ⟨by omega, by omega⟩ ?_
  refine jl_istore (pc := 2339) [(5, .int v), (0, .ref Y.2.2.1), (1, .ref (gA Y.1 0)), (2, .ref (gA Y.2.1 0)), (3, .ref (gA Y.1 53)), (4, .int x4)] C dL_law__2339 (by decide) rfl ?_
  refine jl_aload_n (pc := 2341) 3 C dL_law__2341 rfl rfl ?_
  refine jl_aload_n (pc := 2342) 1 C dL_law__2342 rfl rfl ?_
  refine jl_iload (pc := 2343) 5 C dL_law__2343 rfl ?_
  refine jl_iconst (pc := 2345) 1 C dL_law__2345 (by decide) ?_
  refine jl_iadd (pc := 2346) C dL_law__2346 ?_
  refine jl_sld (pc := 2347) C dL_law__2347 (hin 1 (by decide)) ?_
  refine jl_aload_n (pc := 2348) 1 C dL_law__2348 rfl rfl ?_
  refine jl_iload (pc := 2349) 5 C dL_law__2349 rfl ?_
  refine jl_iconst (pc := 2351) 2 C dL_law__2351 (by decide) ?_
  refine jl_iadd (pc := 2352) C dL_law__2352 ?_
  refine jl_sld (pc := 2353) C dL_law__2353 (hin 2 (by decide)) ?_
  refine jl_aload_n (pc := 2354) 1 C dL_law__2354 rfl rfl ?_
  refine jl_iload (pc := 2355) 5 C dL_law__2355 rfl ?_
  refine jl_iconst (pc := 2357) 3 C dL_law__2357 (by decide) ?_
  refine jl_iadd (pc := 2358) C dL_law__2358 ?_
  refine jl_sld (pc := 2359) C dL_law__2359 (hin 3 (by decide)) ?_
  refine jl_aload_n (pc := 2360) 1 C dL_law__2360 rfl rfl ?_
  refine jl_iload (pc := 2361) 5 C dL_law__2361 rfl ?_
  refine jl_iconst (pc := 2363) 4 C dL_law__2363 (by decide) ?_
  refine jl_iadd (pc := 2364) C dL_law__2364 ?_
  refine jl_sld (pc := 2365) C dL_law__2365 (hin 4 (by decide)) ?_
  refine jl_aload_n (pc := 2366) 1 C dL_law__2366 rfl rfl ?_
  refine jl_iload (pc := 2367) 5 C dL_law__2367 rfl ?_
  refine jl_iconst (pc := 2369) 5 C dL_law__2369 (by decide) ?_
  refine jl_iadd (pc := 2370) C dL_law__2370 ?_
  refine jl_sld (pc := 2371) C dL_law__2371 (hin 5 (by decide)) ?_
  refine jl_aload_n (pc := 2372) 1 C dL_law__2372 rfl rfl ?_
  refine jl_iload (pc := 2373) 5 C dL_law__2373 rfl ?_
  refine jl_bipush (pc := 2375) 6 C dL_law__2375 (by decide) ?_
  refine jl_iadd (pc := 2377) C dL_law__2377 ?_
  refine jl_sld (pc := 2378) C dL_law__2378 (hin 6 (by decide)) ?_
  refine jl_callR (pc := 2379) (As := [.int (Y.2.2.2.2 (x4 + 1).toNatClampNeg), .int (Y.2.2.2.2 (x4 + 2).toNatClampNeg), .int (Y.2.2.2.2 (x4 + 3).toNatClampNeg), .int (Y.2.2.2.2 (x4 + 4).toNatClampNeg), .int (Y.2.2.2.2 (x4 + 5).toNatClampNeg), .int (Y.2.2.2.2 (x4 + 6).toNatClampNeg)]) (rest := []) C dL_law__2379 (cR_span C.2.2.2.2.2.2.2.2.2.2.2.2.2.2.2.2.2.2.2.1 C.2.2.2.2.2.2.2.2.1 (Y.2.2.2.2 (x4 + 1).toNatClampNeg) (Y.2.2.2.2 (x4 + 2).toNatClampNeg) (Y.2.2.2.2 (x4 + 3).toNatClampNeg) (Y.2.2.2.2 (x4 + 4).toNatClampNeg) (Y.2.2.2.2 (x4 + 5).toNatClampNeg) (Y.2.2.2.2 (x4 + 6).toNatClampNeg) SR) e2 rfl knX10_span ⟨q_1269, q_1270⟩ q_1516 (by decide) rfl rfl (Nat.le_of_ble_eq_true rfl) ⟨by omega, by omega⟩ ?_
  refine jl_istore (pc := 2382) [(6, .int b9), (5, .int v), (0, .ref Y.2.2.1), (1, .ref (gA Y.1 0)), (2, .ref (gA Y.2.1 0)), (3, .ref (gA Y.1 53)), (4, .int x4)] C dL_law__2382 (by decide) rfl ?_
  refine jl_aload_n (pc := 2384) 4 C dL_law__2384 rfl rfl ?_
  refine jl_callR (pc := 2385) (As := []) (rest := []) C dL_law__2385 (cR_thrown C.2.2.2.2.2.2.2.2.2.2.2.2.2.2.2.2.2.2.2.1 C.2.2.2.2.2.2.2.2.1 SR1) (show fR_thrown SR1 = some (rI (SR1.1 0), SR1) from rfl) rfl knX10_thrown ⟨q_1293, q_1294⟩ q_1394 (by decide) rfl rfl (Nat.le_of_ble_eq_true rfl) ⟨by omega, by omega⟩ ?_
  refine jl_iload (pc := 2388) 1 C dL_law__2388 rfl ?_
  refine jl_icmp_eq (pc := 2390) 2395 C dL_law__2390 (by decide) (fun _ => ?_) (fun h => absurd e3 h)
  refine jl_iload (pc := 2395) 1 C dL_law__2395 rfl ?_
  refine jl_if_ne (pc := 2397) 2412 C dL_law__2397 (by decide) (fun _ => ?_) (fun h => ?_)
  · refine jl_sub [2, 3, 4, 5, 6] rfl ?_
    refine jl_goto (pc := 2412) 2491 C dL_law__2412 (by decide) ?_
    exact jl_widen (by omega) (by omega) (tail _ _ hR1)
  · have e5 := e4 h
    refine jl_aload_n (pc := 2400) 5 C dL_law__2400 rfl rfl ?_
    refine jl_iconst (pc := 2401) 0 C dL_law__2401 (by decide) ?_
    refine jl_lald (pc := 2402) C dL_law__2402 rfl ?_
    refine jl_iload (pc := 2403) 0 C dL_law__2403 rfl ?_
    refine jl_i2l (pc := 2405) C dL_law__2405 ?_
    refine jl_lcmp (pc := 2406) C dL_law__2406 ?_
    refine jl_if_eq (pc := 2407) 2412 C dL_law__2407 (by decide) (fun _ => ?_) (fun h => absurd (by rw [e5]; exact cmp_self _) h)
    refine jl_sub [2, 3, 4, 5, 6] rfl ?_
    refine jl_goto (pc := 2412) 2491 C dL_law__2412 (by decide) ?_
    exact jl_widen (by omega) (by omega) (tail _ _ hR1)

theorem lawcase_34 {Rel : St → St → Prop} {E : Ec} {Y : Lc} {k n : Nat} {x4 : Int32} {SC SR : St} (C : JLC E Y) (hin : ∀ j : Nat, j ≤ 8 → vp_in (x4 + nI j) Y.2.2.2.1) (hf : k + 3 ≤ 601024 ∧ n + 18 ≤ 7293034) (hO : PO_image Rel) (hR : Rel SC SR) (tail : ∀ SC1 SR1, Rel SC1 SR1 → JL E Y (k + 3) (n + 18) 2491 [(0, .ref Y.2.2.1), (1, .ref (gA Y.1 0)), (2, .ref (gA Y.2.1 0)), (3, .ref (gA Y.1 53)), (4, .int x4)] [] SC1 SR1) : JL E Y k n 2415 [(0, .ref Y.2.2.1), (1, .ref (gA Y.1 0)), (2, .ref (gA Y.2.1 0)), (3, .ref (gA Y.1 53)), (4, .int x4)] [] SC SR := by
  refine jl_aload_n (pc := 2415) 1 C dL_law__2415 rfl rfl ?_
  obtain ⟨v, SC1, SR1, e1, e2, hR1⟩ := hO SC SR hR 
  refine jl_callC (pc := 2416) (As := []) (rest := []) C dL_law__2416 (cC_Main_image C.2.2.2.2.2.2.2.2.2.2.2.2.2.2.2.2.2.2.2.1 C.2.2.2.2.2.2.2.1  SC) e1 rfl knX9_image ⟨q_796, q_797⟩ q_1517 (by decide) rfl rfl (Nat.le_of_ble_eq_true rfl) ⟨by omega, by omega⟩ ?_
  refine jl_aload_n (pc := 2419) 2 C dL_law__2419 rfl rfl ?_
  refine jl_callR (pc := 2420) (As := []) (rest := [.int v]) C dL_law__2420 (cR_image C.2.2.2.2.2.2.2.2.2.2.2.2.2.2.2.2.2.2.2.1 C.2.2.2.2.2.2.2.2.1  SR) e2 rfl knX10_image ⟨q_1281, q_1282⟩ q_1518 (by decide) rfl rfl (Nat.le_of_ble_eq_true rfl) ⟨by omega, by omega⟩ ?_
  refine jl_icmp_eq (pc := 2423) 2491 C dL_law__2423 (by decide) (fun _ => ?_) (fun h => absurd rfl h)
  refine jl_sub [0, 1, 2, 3, 4] rfl ?_
  exact jl_widen (by omega) (by omega) (tail _ _ hR1)

theorem lawcase_35 {Rel : St → St → Prop} {E : Ec} {Y : Lc} {k n : Nat} {x4 : Int32} {SC SR : St} (C : JLC E Y) (hin : ∀ j : Nat, j ≤ 8 → vp_in (x4 + nI j) Y.2.2.2.1) (hf : k + 3 ≤ 601024 ∧ n + 18 ≤ 7293034) (hO : PO_restore Rel) (hR : Rel SC SR) (tail : ∀ SC1 SR1, Rel SC1 SR1 → JL E Y (k + 3) (n + 18) 2491 [(0, .ref Y.2.2.1), (1, .ref (gA Y.1 0)), (2, .ref (gA Y.2.1 0)), (3, .ref (gA Y.1 53)), (4, .int x4)] [] SC1 SR1) : JL E Y k n 2428 [(0, .ref Y.2.2.1), (1, .ref (gA Y.1 0)), (2, .ref (gA Y.2.1 0)), (3, .ref (gA Y.1 53)), (4, .int x4)] [] SC SR := by
  refine jl_aload_n (pc := 2428) 1 C dL_law__2428 rfl rfl ?_
  obtain ⟨v, SC1, SR1, e1, e2, hR1⟩ := hO SC SR hR 
  refine jl_callC (pc := 2429) (As := []) (rest := []) C dL_law__2429 (cC_Main_restore C.2.2.2.2.2.2.2.2.2.2.2.2.2.2.2.2.2.2.2.1 C.2.2.2.2.2.2.2.1  SC) e1 rfl knX9_restore ⟨q_803, q_804⟩ q_1519 (by decide) rfl rfl (Nat.le_of_ble_eq_true rfl) ⟨by omega, by omega⟩ ?_
  refine jl_aload_n (pc := 2432) 2 C dL_law__2432 rfl rfl ?_
  refine jl_callR (pc := 2433) (As := []) (rest := [.int v]) C dL_law__2433 (cR_restore C.2.2.2.2.2.2.2.2.2.2.2.2.2.2.2.2.2.2.2.1 C.2.2.2.2.2.2.2.2.1  SR) e2 rfl knX10_restore ⟨q_1284, q_1285⟩ q_1520 (by decide) rfl rfl (Nat.le_of_ble_eq_true rfl) ⟨by omega, by omega⟩ ?_
  refine jl_icmp_eq (pc := 2436) 2491 C dL_law__2436 (by decide) (fun _ => ?_) (fun h => absurd rfl h)
  refine jl_sub [0, 1, 2, 3, 4] rfl ?_
  exact jl_widen (by omega) (by omega) (tail _ _ hR1)

theorem lawcase_36 {Rel : St → St → Prop} {E : Ec} {Y : Lc} {k n : Nat} {x4 : Int32} {SC SR : St} (C : JLC E Y) (hin : ∀ j : Nat, j ≤ 8 → vp_in (x4 + nI j) Y.2.2.2.1) (hf : k + 3 ≤ 601024 ∧ n + 18 ≤ 7293034) (hO : PO_status Rel) (hR : Rel SC SR) (tail : ∀ SC1 SR1, Rel SC1 SR1 → JL E Y (k + 3) (n + 18) 2491 [(0, .ref Y.2.2.1), (1, .ref (gA Y.1 0)), (2, .ref (gA Y.2.1 0)), (3, .ref (gA Y.1 53)), (4, .int x4)] [] SC1 SR1) : JL E Y k n 2441 [(0, .ref Y.2.2.1), (1, .ref (gA Y.1 0)), (2, .ref (gA Y.2.1 0)), (3, .ref (gA Y.1 53)), (4, .int x4)] [] SC SR := by
  refine jl_aload_n (pc := 2441) 1 C dL_law__2441 rfl rfl ?_
  refine jl_aload_n (pc := 2442) 0 C dL_law__2442 rfl rfl ?_
  refine jl_iload (pc := 2443) 4 C dL_law__2443 rfl ?_
  refine jl_iconst (pc := 2445) 1 C dL_law__2445 (by decide) ?_
  refine jl_iadd (pc := 2446) C dL_law__2446 ?_
  refine jl_sld (pc := 2447) C dL_law__2447 (hin 1 (by decide)) ?_
  obtain ⟨v, SC1, SR1, e1, e2, hR1⟩ := hO SC SR hR (Y.2.2.2.2 (x4 + 1).toNatClampNeg)
  refine jl_callC (pc := 2448) (As := [.int (Y.2.2.2.2 (x4 + 1).toNatClampNeg)]) (rest := []) C dL_law__2448 (cC_Main_status C.2.2.2.2.2.2.2.2.2.2.2.2.2.2.2.2.2.2.2.1 C.2.2.2.2.2.2.2.1 (Y.2.2.2.2 (x4 + 1).toNatClampNeg) SC) e1 rfl knX9_status ⟨q_806, q_807⟩ q_1521 (by decide) rfl rfl (Nat.le_of_ble_eq_true rfl) ⟨by omega, by omega⟩ ?_
  refine jl_aload_n (pc := 2451) 2 C dL_law__2451 rfl rfl ?_
  refine jl_aload_n (pc := 2452) 0 C dL_law__2452 rfl rfl ?_
  refine jl_iload (pc := 2453) 4 C dL_law__2453 rfl ?_
  refine jl_iconst (pc := 2455) 1 C dL_law__2455 (by decide) ?_
  refine jl_iadd (pc := 2456) C dL_law__2456 ?_
  refine jl_sld (pc := 2457) C dL_law__2457 (hin 1 (by decide)) ?_
  refine jl_callR (pc := 2458) (As := [.int (Y.2.2.2.2 (x4 + 1).toNatClampNeg)]) (rest := [.int v]) C dL_law__2458 (cR_status C.2.2.2.2.2.2.2.2.2.2.2.2.2.2.2.2.2.2.2.1 C.2.2.2.2.2.2.2.2.1 (Y.2.2.2.2 (x4 + 1).toNatClampNeg) SR) e2 rfl knX10_status ⟨q_1287, q_1288⟩ q_1522 (by decide) rfl rfl (Nat.le_of_ble_eq_true rfl) ⟨by omega, by omega⟩ ?_
  refine jl_icmp_eq (pc := 2461) 2491 C dL_law__2461 (by decide) (fun _ => ?_) (fun h => absurd rfl h)
  refine jl_sub [0, 1, 2, 3, 4] rfl ?_
  exact jl_widen (by omega) (by omega) (tail _ _ hR1)

theorem lawcase_37 {Rel : St → St → Prop} {E : Ec} {Y : Lc} {k n : Nat} {x4 : Int32} {SC SR : St} (C : JLC E Y) (hin : ∀ j : Nat, j ≤ 8 → vp_in (x4 + nI j) Y.2.2.2.1) (hf : k + 3 ≤ 601024 ∧ n + 18 ≤ 7293034) (hO : PO_count Rel) (hR : Rel SC SR) (tail : ∀ SC1 SR1, Rel SC1 SR1 → JL E Y (k + 3) (n + 18) 2491 [(0, .ref Y.2.2.1), (1, .ref (gA Y.1 0)), (2, .ref (gA Y.2.1 0)), (3, .ref (gA Y.1 53)), (4, .int x4)] [] SC1 SR1) : JL E Y k n 2466 [(0, .ref Y.2.2.1), (1, .ref (gA Y.1 0)), (2, .ref (gA Y.2.1 0)), (3, .ref (gA Y.1 53)), (4, .int x4)] [] SC SR := by
  refine jl_aload_n (pc := 2466) 1 C dL_law__2466 rfl rfl ?_
  refine jl_aload_n (pc := 2467) 0 C dL_law__2467 rfl rfl ?_
  refine jl_iload (pc := 2468) 4 C dL_law__2468 rfl ?_
  refine jl_iconst (pc := 2470) 1 C dL_law__2470 (by decide) ?_
  refine jl_iadd (pc := 2471) C dL_law__2471 ?_
  refine jl_sld (pc := 2472) C dL_law__2472 (hin 1 (by decide)) ?_
  obtain ⟨v, SC1, SR1, e1, e2, hR1⟩ := hO SC SR hR (Y.2.2.2.2 (x4 + 1).toNatClampNeg)
  refine jl_callC (pc := 2473) (As := [.int (Y.2.2.2.2 (x4 + 1).toNatClampNeg)]) (rest := []) C dL_law__2473 (cC_Main_count C.2.2.2.2.2.2.2.2.2.2.2.2.2.2.2.2.2.2.2.1 C.2.2.2.2.2.2.2.1 (Y.2.2.2.2 (x4 + 1).toNatClampNeg) SC) e1 rfl knX9_count ⟨q_809, q_810⟩ q_1523 (by decide) rfl rfl (Nat.le_of_ble_eq_true rfl) ⟨by omega, by omega⟩ ?_
  refine jl_aload_n (pc := 2476) 2 C dL_law__2476 rfl rfl ?_
  refine jl_aload_n (pc := 2477) 0 C dL_law__2477 rfl rfl ?_
  refine jl_iload (pc := 2478) 4 C dL_law__2478 rfl ?_
  refine jl_iconst (pc := 2480) 1 C dL_law__2480 (by decide) ?_
  refine jl_iadd (pc := 2481) C dL_law__2481 ?_
  refine jl_sld (pc := 2482) C dL_law__2482 (hin 1 (by decide)) ?_
  refine jl_callR (pc := 2483) (As := [.int (Y.2.2.2.2 (x4 + 1).toNatClampNeg)]) (rest := [.int v]) C dL_law__2483 (cR_count C.2.2.2.2.2.2.2.2.2.2.2.2.2.2.2.2.2.2.2.1 C.2.2.2.2.2.2.2.2.1 (Y.2.2.2.2 (x4 + 1).toNatClampNeg) SR) e2 rfl knX10_count ⟨q_1290, q_1291⟩ q_1524 (by decide) rfl rfl (Nat.le_of_ble_eq_true rfl) ⟨by omega, by omega⟩ ?_
  refine jl_icmp_eq (pc := 2486) 2491 C dL_law__2486 (by decide) (fun _ => ?_) (fun h => absurd rfl h)
  refine jl_sub [0, 1, 2, 3, 4] rfl ?_
  exact jl_widen (by omega) (by omega) (tail _ _ hR1)
