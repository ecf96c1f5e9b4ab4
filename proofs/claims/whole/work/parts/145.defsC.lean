/-! the pure answers of the class's methods, as wip/whole/gen wrote them -/
def fC_Tape_put_3    : Nat → Int32 → Int32 → St → Oz
  | 0, _, _, _ => none
  | n + 1, x1, x2, S => if x2 < 0 then (some (rV, S)) else (if 600 ≤ (S.1 3) then (fC_Tape_put_3 n x1 (x2 + (-8)) S) else (gd (ib (S.1 3) 600) (nx (sA S 14 (S.1 3) ((((x1 : Int32).toUInt32 >>> ((x2 : Int32).toUInt32 &&& Int32.toUInt32 31)).toInt32) &&& 255)) fun T1 => (nx (sF T1 3 ((T1.1 3) + 1)) fun T2 => (fC_Tape_put_3 n x1 (x2 + (-8)) T2)))))
def fC_Tape_put    (x1 : Int32) (S : St) : Oz := fC_Tape_put_3  FU x1 24 S
def fC_Main_feed    (x1 : Int32) (x2 : Int32) (x3 : Int32) (x4 : Int32) (x5 : Int32) (S : St) : Oz := if ((S.1 3) + 20) ≤ 600 then (obV (fC_Tape_put x1 S) fun T1 => (obV (fC_Tape_put x2 T1) fun T3 => (obV (fC_Tape_put x3 T3) fun T5 => (obV (fC_Tape_put x4 T5) fun T7 => (obV (fC_Tape_put x5 T7) fun T9 => (some (rI (T9.1 3), T9))))))) else (some (rI (-1), S))
def fC_Main_isWithin    (x0 : Int32) (x1 : Int32) (x2 : Int32) (S : St) : Oz := if x0 < x1 then (some (rI 0, S)) else (if x2 < x0 then (some (rI 0, S)) else (some (rI 1, S)))
def fC_Main_refuseArgument     (S : St) : Oz := nx (sF S 2 ((S.1 2) + 1)) fun T1 => (some (rX 1, T1))
def fC_Main_need    (x1 : Int32) (S : St) : Oz := if x1 = 0 then (obI (fC_Main_refuseArgument S) fun r2 T1 => (some (rV, T1))) else (some (rV, S))
def fC_Tape_open    (x1 : Int32) (S : St) : Oz := nx (sF S 7 x1) fun T1 => (nx (sF T1 8 0) fun T2 => (nx (sF T2 3 0) fun T3 => (nx (sF T3 4 0) fun T4 => (nx (sF T4 5 (-1)) fun T5 => (some (rV, T5))))))
def fC_Main_openText    (x1 : Int32) (x2 : Int32) (S : St) : Oz := obI (fC_Main_isWithin x1 0 (if S.1 3 < x2 then S.1 3 else x2) S) fun r2 T1 => (obV (fC_Main_need r2 T1) fun T3 => (obV (fC_Tape_open x1 T3) fun T5 => (some (rV, T5))))
def fC_Tape_skipBlanks_0    : Nat → St → Oz
  | 0, _ => none
  | n + 1, S => if (S.1 7) ≤ (S.1 8) then (some (rV, S)) else (gd (ib (S.1 8) 600) (if (rA S 14 (S.1 8)) = 32 then (nx (sF S 8 ((S.1 8) + 1)) fun T1 => (fC_Tape_skipBlanks_0 n  T1)) else (some (rV, S))))
def fC_Tape_skipBlanks    (S : St) : Oz := fC_Tape_skipBlanks_0  FU  S
def fC_Tape_ended     (S : St) : Oz := obV (fC_Tape_skipBlanks S) fun T1 => (if (T1.1 8) < (T1.1 7) then (some (rI 0, T1)) else (some (rI 1, T1)))
def fC_Tape_takeWord_12    : Nat → St → Oz
  | 0, _ => none
  | n + 1, S => if (S.1 7) ≤ (S.1 8) then (some (rV, S)) else (gd (ib (S.1 8) 600) (if (rA S 14 (S.1 8)) < 97 then (some (rV, S)) else (gd (ib (S.1 8) 600) (if 122 < (rA S 14 (S.1 8)) then (some (rV, S)) else (nx (sF S 8 ((S.1 8) + 1)) fun T1 => (fC_Tape_takeWord_12 n  T1))))))
def fC_Tape_takeWord     (S : St) : Oz := obV (fC_Tape_skipBlanks S) fun T1 => (nx (sF T1 9 (T1.1 8)) fun T3 => (fC_Tape_takeWord_12  FU  T3))
def fC_Tape_isWord_20  (x1 : Nat)  : Nat → Int32 → St → Oz
  | 0, _, _ => none
  | n + 1, x2, S => if (nI (skN x1)) ≤ x2 then (some (rI 1, S)) else (gd (ib ((S.1 9) + x2) 600) (gd (ib x2 (skN x1)) (if (rA S 14 ((S.1 9) + x2)) = (skB x1 x2) then (fC_Tape_isWord_20 x1 n (x2 + 1) S) else (some (rI 0, S)))))
def fC_Tape_isWord  (x1 : Nat)   (S : St) : Oz := if ((S.1 8) - (S.1 9)) = (nI (skN x1)) then (fC_Tape_isWord_20 x1 FU 0 S) else (some (rI 0, S))
def fC_Tape_isWord_v15_20  (x1 : Nat)  : Nat → Int32 → St → Oz
  | 0, _, _ => none
  | n + 1, x2, S => if (nI (skN x1)) ≤ x2 then (some (rI 1, S)) else (gd (ib ((S.1 9) + x2) 600) (gd (ib x2 (skN x1)) (if (rA S 14 ((S.1 9) + x2)) = (skB x1 x2) then (fC_Tape_isWord_v15_20 x1 n (x2 + 1) S) else (some (rI 0, S)))))
def fC_Tape_isWord_v15  (x1 : Nat)   (S : St) : Oz := if ((S.1 8) - (S.1 9)) = (nI (skN x1)) then (fC_Tape_isWord_v15_20 x1 FU 0 S) else (some (rI 0, S))
def fC_Tape_isWord_v16_20  (x1 : Nat)  : Nat → Int32 → St → Oz
  | 0, _, _ => none
  | n + 1, x2, S => if (nI (skN x1)) ≤ x2 then (some (rI 1, S)) else (gd (ib ((S.1 9) + x2) 600) (gd (ib x2 (skN x1)) (if (rA S 14 ((S.1 9) + x2)) = (skB x1 x2) then (fC_Tape_isWord_v16_20 x1 n (x2 + 1) S) else (some (rI 0, S)))))
def fC_Tape_isWord_v16  (x1 : Nat)   (S : St) : Oz := if ((S.1 8) - (S.1 9)) = (nI (skN x1)) then (fC_Tape_isWord_v16_20 x1 FU 0 S) else (some (rI 0, S))
def fC_Tape_isWord_v17_20  (x1 : Nat)  : Nat → Int32 → St → Oz
  | 0, _, _ => none
  | n + 1, x2, S => if (nI (skN x1)) ≤ x2 then (some (rI 1, S)) else (gd (ib ((S.1 9) + x2) 600) (gd (ib x2 (skN x1)) (if (rA S 14 ((S.1 9) + x2)) = (skB x1 x2) then (fC_Tape_isWord_v17_20 x1 n (x2 + 1) S) else (some (rI 0, S)))))
def fC_Tape_isWord_v17  (x1 : Nat)   (S : St) : Oz := if ((S.1 8) - (S.1 9)) = (nI (skN x1)) then (fC_Tape_isWord_v17_20 x1 FU 0 S) else (some (rI 0, S))
def fC_Tape_refuse    (x1 : Int32) (x2 : Int32) (S : St) : Oz := nx (sF S 5 x1) fun T1 => (nx (sF T1 4 x2) fun T2 => (some (rI 0, T2)))
def fC_Tape_refuseWord    (x1 : Int32) (S : St) : Oz := obI (fC_Tape_refuse (S.1 9) x1 S) fun r2 T1 => (gd (isB r2) (some (rI r2, T1)))
def fC_Tape_needsNumber_125    (x3 : Int32) (S : St) : Oz := obI (fC_Tape_refuse x3 2 S) fun r2 T1 => (if r2 = 0 then (some (rI 0, T1)) else (some (rI 1, T1)))
def fC_Tape_needsNumber_92    (x1 : Int32) (x2 : Int32) (x3 : Int32) (x4 : Int32) (S : St) : Oz := if (S.1 8) = x3 then (obI (fC_Tape_refuse x3 1 S) fun r3 T2 => (gd (isB r3) (some (rI r3, T2)))) else (nx (sF S 6 x4) fun T1 => (if x4 < x1 then (fC_Tape_needsNumber_125  x3 T1) else (if x4 ≤ x2 then (some (rI 1, T1)) else (fC_Tape_needsNumber_125  x3 T1))))
def fC_Tape_needsNumber_79   (K12 : Int32 → Int32 → Int32 → Int32 → St → Oz) (x1 : Int32) (x2 : Int32) (x3 : Int32) (x4 : Int32) (S : St) : Oz := nx (sF S 8 ((S.1 8) + 1)) fun T1 => (K12 x1 x2 x3 x4 T1)
def fC_Tape_needsNumber_12    : Nat → Int32 → Int32 → Int32 → Int32 → St → Oz
  | 0, _, _, _, _, _ => none
  | n + 1, x1, x2, x3, x4, S => if (S.1 7) ≤ (S.1 8) then (fC_Tape_needsNumber_92  x1 x2 x3 x4 S) else (gd (ib (S.1 8) 600) (if (rA S 14 (S.1 8)) < 48 then (fC_Tape_needsNumber_92  x1 x2 x3 x4 S) else (gd (ib (S.1 8) 600) (if 57 < (rA S 14 (S.1 8)) then (fC_Tape_needsNumber_92  x1 x2 x3 x4 S) else (if 999 < x4 then (fC_Tape_needsNumber_79 (fun x1 x2 x3 x4 S => fC_Tape_needsNumber_12 n x1 x2 x3 x4 S) x1 x2 x3 x4 S) else (gd (ib (S.1 8) 600) (nx (((x4 * 10) + (rA S 14 (S.1 8))) - 48) fun v1 => (fC_Tape_needsNumber_79 (fun x1 x2 x3 x4 S => fC_Tape_needsNumber_12 n x1 x2 x3 x4 S) x1 x2 x3 v1 S))))))))
def fC_Tape_needsNumber    (x1 : Int32) (x2 : Int32) (S : St) : Oz := obV (fC_Tape_skipBlanks S) fun T1 => (nx (T1.1 8) fun v3 => (fC_Tape_needsNumber_12  FU x1 x2 v3 0 T1))
def fC_Valley_readFade_3     (S : St) : Oz := obI (fC_Tape_needsNumber 0 9 S) fun r2 T1 => (if r2 = 0 then (some (rI 0, T1)) else (nx (sF T1 17 (T1.1 6)) fun T3 => (some (rI 1, T3))))
def fC_Valley_readDebt_3     (S : St) : Oz := obI (fC_Tape_needsNumber 0 ((S.1 15) - 1) S) fun r2 T1 => (if r2 = 0 then (some (rI 0, T1)) else (gd (ib (T1.1 16) 10) (nx (sA T1 27 (T1.1 16) (T1.1 6)) fun T3 => (obI (fC_Tape_needsNumber 0 ((T3.1 14) - 1) T3) fun r5 T4 => (if r5 = 0 then (some (rI 0, T4)) else (gd (ib (T4.1 16) 10) (nx (sA T4 28 (T4.1 16) (T4.1 6)) fun T6 => (obI (fC_Tape_needsNumber 0 3 T6) fun r8 T7 => (if r8 = 0 then (some (rI 0, T7)) else (gd (ib (T7.1 16) 10) (nx (sA T7 29 (T7.1 16) (T7.1 6)) fun T9 => (obI (fC_Tape_needsNumber 0 40 T9) fun r11 T10 => (if r11 = 0 then (some (rI 0, T10)) else (gd (ib (T10.1 16) 10) (nx (sA T10 30 (T10.1 16) (T10.1 6)) fun T12 => (nx (sF T12 16 ((T12.1 16) + 1)) fun T13 => (some (rI 1, T13))))))))))))))))))
def fC_Valley_readMan_3     (S : St) : Oz := obI (fC_Tape_needsNumber 1 99 S) fun r2 T1 => (if r2 = 0 then (some (rI 0, T1)) else (gd (ib (T1.1 15) 6) (nx (sA T1 25 (T1.1 15) (T1.1 6)) fun T3 => (obI (fC_Tape_needsNumber 10 70 T3) fun r5 T4 => (if r5 = 0 then (some (rI 0, T4)) else (gd (ib (T4.1 15) 6) (nx (sA T4 26 (T4.1 15) (T4.1 6)) fun T6 => (nx (sF T6 15 ((T6.1 15) + 1)) fun T7 => (some (rI 1, T7))))))))))
def fC_Valley_readPoem_3     (S : St) : Oz := obI (fC_Tape_needsNumber 1 40 S) fun r2 T1 => (if r2 = 0 then (some (rI 0, T1)) else (gd (ib (T1.1 14) 8) (nx (sA T1 23 (T1.1 14) (T1.1 6)) fun T3 => (obI (fC_Tape_needsNumber 0 9 T3) fun r5 T4 => (if r5 = 0 then (some (rI 0, T4)) else (gd (ib (T4.1 14) 8) (nx (sA T4 24 (T4.1 14) (T4.1 6)) fun T6 => (nx (sF T6 14 ((T6.1 14) + 1)) fun T7 => (some (rI 1, T7))))))))))
def fC_Valley_readClause_3_98     (S : St) : Oz := obI (fC_Tape_refuseWord 3 S) fun r2 T1 => (gd (isB r2) (some (rI r2, T1)))
def fC_Valley_readClause_3_62     (S : St) : Oz := obI (fC_Tape_refuseWord 3 S) fun r2 T1 => (gd (isB r2) (some (rI r2, T1)))
def fC_Valley_readClause_3_26     (S : St) : Oz := obI (fC_Tape_refuseWord 3 S) fun r2 T1 => (gd (isB r2) (some (rI r2, T1)))
def fC_Valley_readClause_3    (x2 : Int32) (S : St) : Oz := obV (fC_Tape_takeWord S) fun T1 => (obI (fC_Tape_isWord 1 T1) fun r4 T3 => (if r4 = 0 then (obI (fC_Tape_isWord_v15 2 T3) fun r6 T5 => (if r6 = 0 then (obI (fC_Tape_isWord_v16 3 T5) fun r8 T7 => (if r8 = 0 then (obI (fC_Tape_isWord_v17 4 T7) fun r10 T9 => (if r10 = 0 then (obI (fC_Tape_refuseWord 1 T9) fun r12 T11 => (gd (isB r12) (some (rI r12, T11)))) else (if x2 = 0 then (obI (fC_Valley_readFade_3 T9) fun r14 T13 => (gd (isB r14) (some (rI r14, T13)))) else (obI (fC_Tape_refuseWord 3 T9) fun r16 T15 => (gd (isB r16) (some (rI r16, T15))))))) else (if x2 = 0 then (if (T7.1 16) < 10 then (obI (fC_Valley_readDebt_3 T7) fun r18 T17 => (gd (isB r18) (some (rI r18, T17)))) else (fC_Valley_readClause_3_98   T7)) else (fC_Valley_readClause_3_98   T7)))) else (if x2 = 0 then (if (T5.1 15) < 6 then (obI (fC_Valley_readMan_3 T5) fun r20 T19 => (gd (isB r20) (some (rI r20, T19)))) else (fC_Valley_readClause_3_62   T5)) else (fC_Valley_readClause_3_62   T5)))) else (if x2 = 0 then (if (T3.1 14) < 8 then (obI (fC_Valley_readPoem_3 T3) fun r22 T21 => (gd (isB r22) (some (rI r22, T21)))) else (fC_Valley_readClause_3_26   T3)) else (fC_Valley_readClause_3_26   T3))))
def fC_Tape_needs_40     (S : St) : Oz := obI (fC_Tape_refuse (S.1 8) 1 S) fun r2 T1 => (gd (isB r2) (some (rI r2, T1)))
def fC_Tape_needs    (x1 : Int32) (S : St) : Oz := obV (fC_Tape_skipBlanks S) fun T1 => (if (T1.1 7) ≤ (T1.1 8) then (fC_Tape_needs_40   T1) else (gd (ib (T1.1 8) 600) (if (rA T1 14 (T1.1 8)) = x1 then (nx (sF T1 8 ((T1.1 8) + 1)) fun T3 => (some (rI 1, T3))) else (fC_Tape_needs_40   T1))))
def fC_Valley_readFrom_3_50   (K22 : Int32 → St → Oz) (x2 : Int32) (s0 : Int32) (S : St) : Oz := obI (fC_Valley_readClause_3 s0 S) fun r2 T1 => (if r2 = 0 then (some (rI 0, T1)) else (obI (fC_Tape_needs 59 T1) fun r4 T3 => (if r4 = 0 then (some (rI 0, T3)) else (K22 (x2 + 1) T3))))
def fC_Valley_readFrom_3_22    : Nat → Int32 → St → Oz
  | 0, _, _ => none
  | n + 1, x2, S => if 60 < x2 then (some (rI 0, S)) else (obI (fC_Tape_ended S) fun r2 T1 => (if r2 = 0 then (if x2 = 60 then (fC_Valley_readFrom_3_50 (fun x2 S => fC_Valley_readFrom_3_22 n x2 S) x2 1 T1) else (fC_Valley_readFrom_3_50 (fun x2 S => fC_Valley_readFrom_3_22 n x2 S) x2 0 T1)) else (some (rI 1, T1))))
def fC_Valley_readFrom_3     (S : St) : Oz := nx (sF S 14 0) fun T1 => (nx (sF T1 15 0) fun T2 => (nx (sF T2 16 0) fun T3 => (nx (sF T3 17 3) fun T4 => (fC_Valley_readFrom_3_22  FU 0 T4))))
def fC_Valley_copyFrom_2     (S : St) : Oz := nx (sF S 10 (S.1 14)) fun T1 => (nx (sF T1 11 (T1.1 15)) fun T2 => (nx (sF T2 12 (T2.1 16)) fun T3 => (nx (sF T3 13 (T3.1 17)) fun T4 => (gd (cpOK 0 0 8 8 8) (nx (sC T4 23 15 0 0 8) fun T5 => (gd (cpOK 0 0 8 8 8) (nx (sC T5 24 16 0 0 8) fun T6 => (gd (cpOK 0 0 6 6 6) (nx (sC T6 25 17 0 0 6) fun T7 => (gd (cpOK 0 0 6 6 6) (nx (sC T7 26 18 0 0 6) fun T8 => (gd (cpOK 0 0 10 10 10) (nx (sC T8 27 19 0 0 10) fun T9 => (gd (cpOK 0 0 10 10 10) (nx (sC T9 28 20 0 0 10) fun T10 => (gd (cpOK 0 0 10 10 10) (nx (sC T10 29 21 0 0 10) fun T11 => (gd (cpOK 0 0 10 10 10) (nx (sC T11 30 22 0 0 10) fun T12 => (some (rV, T12)))))))))))))))))))))
def fC_Law_put_4    (x1 : Int32) (S : St) : Oz := if (S.1 18) < 160 then (gd (ib (S.1 18) 160) (nx (sA S 31 (S.1 18) x1) fun T1 => (nx (sF T1 18 ((T1.1 18) + 1)) fun T2 => (some (rI 1, T2))))) else (some (rI 0, S))
def fC_Law_makePlain_4     (S : St) : Oz := nx (sF S 18 0) fun T1 => (obI (fC_Law_put_4 9 T1) fun r3 T2 => (obI (fC_Law_put_4 1001 T2) fun r5 T4 => (obI (fC_Law_put_4 2001 T4) fun r7 T6 => (some (rV, T6)))))
def fC_State_clear_9_2    : Nat → Int32 → St → Oz
  | 0, _, _ => none
  | n + 1, x1, S => if 74 ≤ x1 then (some (rV, S)) else (gd (ib x1 74) (nx (sA S 46 x1 0) fun T1 => (fC_State_clear_9_2 n (x1 + 1) T1)))
def fC_State_clear_9     (S : St) : Oz := fC_State_clear_9_2  FU 0 S
def fC_Shelf_clear     (S : St) : Oz := nx (sF S 26 0) fun T1 => (nx (sF T1 27 0) fun T2 => (some (rV, T2)))
def fC_Main_valley    (x1 : Int32) (S : St) : Oz := obV (fC_Main_openText x1 600 S) fun T1 => (obI (fC_Valley_readFrom_3 T1) fun r4 T3 => (if r4 = 0 then (some (rI ((T3.1 4) - 10), T3)) else (obV (fC_Valley_copyFrom_2 T3) fun T5 => (obV (fC_Law_makePlain_4 T5) fun T7 => (nx (sF T7 20 0) fun T9 => (obV (fC_State_clear_9 T9) fun T10 => (obV (fC_Shelf_clear T10) fun T12 => (nx (sF T12 0 0) fun T14 => (some (rI (T14.1 12), T14))))))))))
def fC_Tape_seesDigit     (S : St) : Oz := obV (fC_Tape_skipBlanks S) fun T1 => (if (T1.1 7) ≤ (T1.1 8) then (some (rI 0, T1)) else (gd (ib (T1.1 8) 600) (if (rA T1 14 (T1.1 8)) < 48 then (some (rI 0, T1)) else (gd (ib (T1.1 8) 600) (if 57 < (rA T1 14 (T1.1 8)) then (some (rI 0, T1)) else (some (rI 1, T1)))))))
def fC_Tape_sees    (x1 : Int32) (S : St) : Oz := obV (fC_Tape_skipBlanks S) fun T1 => (if (T1.1 7) ≤ (T1.1 8) then (some (rI 0, T1)) else (gd (ib (T1.1 8) 600) (if (rA T1 14 (T1.1 8)) = x1 then (some (rI 1, T1)) else (some (rI 0, T1)))))
def fC_Tape_isWord_v38_20  (x1 : Nat)  : Nat → Int32 → St → Oz
  | 0, _, _ => none
  | n + 1, x2, S => if (nI (skN x1)) ≤ x2 then (some (rI 1, S)) else (gd (ib ((S.1 9) + x2) 600) (gd (ib x2 (skN x1)) (if (rA S 14 ((S.1 9) + x2)) = (skB x1 x2) then (fC_Tape_isWord_v38_20 x1 n (x2 + 1) S) else (some (rI 0, S)))))
def fC_Tape_isWord_v38  (x1 : Nat)   (S : St) : Oz := if ((S.1 8) - (S.1 9)) = (nI (skN x1)) then (fC_Tape_isWord_v38_20 x1 FU 0 S) else (some (rI 0, S))
def fC_Tape_isWord_v39_20  (x1 : Nat)  : Nat → Int32 → St → Oz
  | 0, _, _ => none
  | n + 1, x2, S => if (nI (skN x1)) ≤ x2 then (some (rI 1, S)) else (gd (ib ((S.1 9) + x2) 600) (gd (ib x2 (skN x1)) (if (rA S 14 ((S.1 9) + x2)) = (skB x1 x2) then (fC_Tape_isWord_v39_20 x1 n (x2 + 1) S) else (some (rI 0, S)))))
def fC_Tape_isWord_v39  (x1 : Nat)   (S : St) : Oz := if ((S.1 8) - (S.1 9)) = (nI (skN x1)) then (fC_Tape_isWord_v39_20 x1 FU 0 S) else (some (rI 0, S))
def fC_Tape_isWord_v41_20  (x1 : Nat)  : Nat → Int32 → St → Oz
  | 0, _, _ => none
  | n + 1, x2, S => if (nI (skN x1)) ≤ x2 then (some (rI 1, S)) else (gd (ib ((S.1 9) + x2) 600) (gd (ib x2 (skN x1)) (if (rA S 14 ((S.1 9) + x2)) = (skB x1 x2) then (fC_Tape_isWord_v41_20 x1 n (x2 + 1) S) else (some (rI 0, S)))))
def fC_Tape_isWord_v41  (x1 : Nat)   (S : St) : Oz := if ((S.1 8) - (S.1 9)) = (nI (skN x1)) then (fC_Tape_isWord_v41_20 x1 FU 0 S) else (some (rI 0, S))
def fC_Tape_isWord_v42_20  (x1 : Nat)  : Nat → Int32 → St → Oz
  | 0, _, _ => none
  | n + 1, x2, S => if (nI (skN x1)) ≤ x2 then (some (rI 1, S)) else (gd (ib ((S.1 9) + x2) 600) (gd (ib x2 (skN x1)) (if (rA S 14 ((S.1 9) + x2)) = (skB x1 x2) then (fC_Tape_isWord_v42_20 x1 n (x2 + 1) S) else (some (rI 0, S)))))
def fC_Tape_isWord_v42  (x1 : Nat)   (S : St) : Oz := if ((S.1 8) - (S.1 9)) = (nI (skN x1)) then (fC_Tape_isWord_v42_20 x1 FU 0 S) else (some (rI 0, S))
def fC_Tape_isWord_v43_20  (x1 : Nat)  : Nat → Int32 → St → Oz
  | 0, _, _ => none
  | n + 1, x2, S => if (nI (skN x1)) ≤ x2 then (some (rI 1, S)) else (gd (ib ((S.1 9) + x2) 600) (gd (ib x2 (skN x1)) (if (rA S 14 ((S.1 9) + x2)) = (skB x1 x2) then (fC_Tape_isWord_v43_20 x1 n (x2 + 1) S) else (some (rI 0, S)))))
def fC_Tape_isWord_v43  (x1 : Nat)   (S : St) : Oz := if ((S.1 8) - (S.1 9)) = (nI (skN x1)) then (fC_Tape_isWord_v43_20 x1 FU 0 S) else (some (rI 0, S))
def fC_Tape_isWord_v44_20  (x1 : Nat)  : Nat → Int32 → St → Oz
  | 0, _, _ => none
  | n + 1, x2, S => if (nI (skN x1)) ≤ x2 then (some (rI 1, S)) else (gd (ib ((S.1 9) + x2) 600) (gd (ib x2 (skN x1)) (if (rA S 14 ((S.1 9) + x2)) = (skB x1 x2) then (fC_Tape_isWord_v44_20 x1 n (x2 + 1) S) else (some (rI 0, S)))))
def fC_Tape_isWord_v44  (x1 : Nat)   (S : St) : Oz := if ((S.1 8) - (S.1 9)) = (nI (skN x1)) then (fC_Tape_isWord_v44_20 x1 FU 0 S) else (some (rI 0, S))
def fC_Tape_isWord_v45_20  (x1 : Nat)  : Nat → Int32 → St → Oz
  | 0, _, _ => none
  | n + 1, x2, S => if (nI (skN x1)) ≤ x2 then (some (rI 1, S)) else (gd (ib ((S.1 9) + x2) 600) (gd (ib x2 (skN x1)) (if (rA S 14 ((S.1 9) + x2)) = (skB x1 x2) then (fC_Tape_isWord_v45_20 x1 n (x2 + 1) S) else (some (rI 0, S)))))
def fC_Tape_isWord_v45  (x1 : Nat)   (S : St) : Oz := if ((S.1 8) - (S.1 9)) = (nI (skN x1)) then (fC_Tape_isWord_v45_20 x1 FU 0 S) else (some (rI 0, S))
def fC_Tape_isWord_v46_20  (x1 : Nat)  : Nat → Int32 → St → Oz
  | 0, _, _ => none
  | n + 1, x2, S => if (nI (skN x1)) ≤ x2 then (some (rI 1, S)) else (gd (ib ((S.1 9) + x2) 600) (gd (ib x2 (skN x1)) (if (rA S 14 ((S.1 9) + x2)) = (skB x1 x2) then (fC_Tape_isWord_v46_20 x1 n (x2 + 1) S) else (some (rI 0, S)))))
def fC_Tape_isWord_v46  (x1 : Nat)   (S : St) : Oz := if ((S.1 8) - (S.1 9)) = (nI (skN x1)) then (fC_Tape_isWord_v46_20 x1 FU 0 S) else (some (rI 0, S))
def fC_Tape_isWord_v47_20  (x1 : Nat)  : Nat → Int32 → St → Oz
  | 0, _, _ => none
  | n + 1, x2, S => if (nI (skN x1)) ≤ x2 then (some (rI 1, S)) else (gd (ib ((S.1 9) + x2) 600) (gd (ib x2 (skN x1)) (if (rA S 14 ((S.1 9) + x2)) = (skB x1 x2) then (fC_Tape_isWord_v47_20 x1 n (x2 + 1) S) else (some (rI 0, S)))))
def fC_Tape_isWord_v47  (x1 : Nat)   (S : St) : Oz := if ((S.1 8) - (S.1 9)) = (nI (skN x1)) then (fC_Tape_isWord_v47_20 x1 FU 0 S) else (some (rI 0, S))
def fC_Tape_isWord_v48_20  (x1 : Nat)  : Nat → Int32 → St → Oz
  | 0, _, _ => none
  | n + 1, x2, S => if (nI (skN x1)) ≤ x2 then (some (rI 1, S)) else (gd (ib ((S.1 9) + x2) 600) (gd (ib x2 (skN x1)) (if (rA S 14 ((S.1 9) + x2)) = (skB x1 x2) then (fC_Tape_isWord_v48_20 x1 n (x2 + 1) S) else (some (rI 0, S)))))
def fC_Tape_isWord_v48  (x1 : Nat)   (S : St) : Oz := if ((S.1 8) - (S.1 9)) = (nI (skN x1)) then (fC_Tape_isWord_v48_20 x1 FU 0 S) else (some (rI 0, S))
def fC_Law_factNamed     (S : St) : Oz := obI (fC_Tape_isWord_v41 7 S) fun r2 T1 => (if r2 = 0 then (obI (fC_Tape_isWord_v42 8 T1) fun r4 T3 => (if r4 = 0 then (obI (fC_Tape_isWord_v43 9 T3) fun r6 T5 => (if r6 = 0 then (obI (fC_Tape_isWord_v44 10 T5) fun r8 T7 => (if r8 = 0 then (obI (fC_Tape_isWord_v45 11 T7) fun r10 T9 => (if r10 = 0 then (obI (fC_Tape_isWord_v46 12 T9) fun r12 T11 => (if r12 = 0 then (obI (fC_Tape_isWord_v47 13 T11) fun r14 T13 => (if r14 = 0 then (obI (fC_Tape_isWord_v48 14 T13) fun r16 T15 => (if r16 = 0 then (some (rI (-1), T15)) else (some (rI 7, T15)))) else (some (rI 6, T13)))) else (some (rI 5, T11)))) else (some (rI 4, T9)))) else (some (rI 3, T7)))) else (some (rI 2, T5)))) else (some (rI 1, T3)))) else (some (rI 0, T1)))
def fC_Law_put_5    (x1 : Int32) (S : St) : Oz := if (S.1 19) < 160 then (gd (ib (S.1 19) 160) (nx (sA S 34 (S.1 19) x1) fun T1 => (nx (sF T1 19 ((T1.1 19) + 1)) fun T2 => (some (rI 1, T2))))) else (some (rI 0, S))
def fC_Law_readPair_5 (rc : Int32 → St → Oz)   (x2 : Int32) (x3 : Int32) (S : St) : Oz := if x2 < 6 then (obI (fC_Tape_needs 91 S) fun r2 T1 => (if r2 = 0 then (some (rI 0, T1)) else (obI (rc (x2 + 1) T1) fun r4 T3 => (if r4 = 0 then (some (rI 0, T3)) else (obI (fC_Tape_needs 44 T3) fun r6 T5 => (if r6 = 0 then (some (rI 0, T5)) else (obI (rc (x2 + 1) T5) fun r8 T7 => (if r8 = 0 then (some (rI 0, T7)) else (obI (fC_Tape_needs 93 T7) fun r10 T9 => (if r10 = 0 then (some (rI 0, T9)) else (obI (fC_Law_put_5 x3 T9) fun r12 T11 => (if r12 = 0 then (some (rI 0, T11)) else (some (rI 1, T11)))))))))))))) else (obI (fC_Tape_refuseWord 3 S) fun r14 T13 => (gd (isB r14) (some (rI r14, T13))))
def fC_Tape_place     (S : St) : Oz := obV (fC_Tape_skipBlanks S) fun T1 => (some (rI (T1.1 8), T1))
def fC_Law_readUnit_5 (rc : Int32 → St → Oz)   (x2 : Int32) (S : St) : Oz := obI (fC_Tape_seesDigit S) fun r2 T1 => (if r2 = 0 then (obI (fC_Tape_sees 40 T1) fun r4 T3 => (if r4 = 0 then (obV (fC_Tape_takeWord T3) fun T5 => (obI (fC_Tape_isWord_v38 5 T5) fun r8 T7 => (if r8 = 0 then (obI (fC_Tape_isWord_v39 6 T7) fun r10 T9 => (if r10 = 0 then (obI (fC_Law_factNamed T9) fun r12 T11 => (if r12 = (-1) then (obI (fC_Tape_refuseWord 1 T11) fun r16 T15 => (gd (isB r16) (some (rI r16, T15)))) else (obI (fC_Law_put_5 (1000 + r12) T11) fun r14 T13 => (gd (isB r14) (some (rI r14, T13)))))) else (obI (fC_Law_readPair_5 rc x2 2006 T9) fun r18 T17 => (gd (isB r18) (some (rI r18, T17)))))) else (obI (fC_Law_readPair_5 rc x2 2005 T7) fun r20 T19 => (gd (isB r20) (some (rI r20, T19))))))) else (if x2 < 6 then (obI (fC_Tape_needs 40 T3) fun r22 T21 => (if r22 = 0 then (some (rI 0, T21)) else (obI (rc (x2 + 1) T21) fun r24 T23 => (if r24 = 0 then (some (rI 0, T23)) else (obI (fC_Tape_needs 41 T23) fun r26 T25 => (if r26 = 0 then (some (rI 0, T25)) else (some (rI 1, T25)))))))) else (obI (fC_Tape_place T3) fun r28 T27 => (obI (fC_Tape_refuse r28 3 T27) fun r30 T29 => (gd (isB r30) (some (rI r30, T29)))))))) else (obI (fC_Tape_needsNumber 0 999 T1) fun r32 T31 => (if r32 = 0 then (some (rI 0, T31)) else (obI (fC_Law_put_5 (T31.1 6) T31) fun r34 T33 => (if r34 = 0 then (some (rI 0, T33)) else (some (rI 1, T33)))))))
def fC_Tape_takes    (x1 : Int32) (S : St) : Oz := obV (fC_Tape_skipBlanks S) fun T1 => (if (T1.1 7) ≤ (T1.1 8) then (some (rI 0, T1)) else (gd (ib (T1.1 8) 600) (if (rA T1 14 (T1.1 8)) = x1 then (nx (sF T1 8 ((T1.1 8) + 1)) fun T3 => (some (rI 1, T3))) else (some (rI 0, T1)))))
def fC_Law_readProduct_5_66 (rc : Int32 → St → Oz)  (K13 : Int32 → Int32 → St → Oz) (x2 : Int32) (x3 : Int32) (s0 : Int32) (S : St) : Oz := if s0 = 0 then (some (rI 1, S)) else (obI (fC_Law_readUnit_5 rc x2 S) fun r2 T1 => (if r2 = 0 then (some (rI 0, T1)) else (obI (fC_Law_put_5 s0 T1) fun r4 T3 => (if r4 = 0 then (some (rI 0, T3)) else (K13 x2 (x3 + 1) T3)))))
def fC_Law_readProduct_5_13 (rc : Int32 → St → Oz)   : Nat → Int32 → Int32 → St → Oz
  | 0, _, _, _ => none
  | n + 1, x2, x3, S => if 160 ≤ x3 then (some (rI 0, S)) else (obI (fC_Tape_takes 42 S) fun r2 T1 => (if r2 = 0 then (obI (fC_Tape_takes 47 T1) fun r4 T3 => (if r4 = 0 then (obI (fC_Tape_takes 37 T3) fun r6 T5 => (if r6 = 0 then (fC_Law_readProduct_5_66 rc (fun x2 x3 S => fC_Law_readProduct_5_13 rc n x2 x3 S) x2 x3 0 T5) else (fC_Law_readProduct_5_66 rc (fun x2 x3 S => fC_Law_readProduct_5_13 rc n x2 x3 S) x2 x3 2004 T5))) else (fC_Law_readProduct_5_66 rc (fun x2 x3 S => fC_Law_readProduct_5_13 rc n x2 x3 S) x2 x3 2003 T3))) else (fC_Law_readProduct_5_66 rc (fun x2 x3 S => fC_Law_readProduct_5_13 rc n x2 x3 S) x2 x3 2002 T1)))
def fC_Law_readProduct_5 (rc : Int32 → St → Oz)   (x2 : Int32) (S : St) : Oz := obI (fC_Law_readUnit_5 rc x2 S) fun r2 T1 => (if r2 = 0 then (some (rI 0, T1)) else (fC_Law_readProduct_5_13 rc FU x2 0 T1))
def fC_Law_readSum_5_51 (rc : Int32 → St → Oz)  (K13 : Int32 → Int32 → St → Oz) (x2 : Int32) (x3 : Int32) (s0 : Int32) (S : St) : Oz := if s0 = 0 then (some (rI 1, S)) else (obI (fC_Law_readProduct_5 rc x2 S) fun r2 T1 => (if r2 = 0 then (some (rI 0, T1)) else (obI (fC_Law_put_5 s0 T1) fun r4 T3 => (if r4 = 0 then (some (rI 0, T3)) else (K13 x2 (x3 + 1) T3)))))
def fC_Law_readSum_5_13 (rc : Int32 → St → Oz)   : Nat → Int32 → Int32 → St → Oz
  | 0, _, _, _ => none
  | n + 1, x2, x3, S => if 160 ≤ x3 then (some (rI 0, S)) else (obI (fC_Tape_takes 43 S) fun r2 T1 => (if r2 = 0 then (obI (fC_Tape_takes 45 T1) fun r4 T3 => (if r4 = 0 then (fC_Law_readSum_5_51 rc (fun x2 x3 S => fC_Law_readSum_5_13 rc n x2 x3 S) x2 x3 0 T3) else (fC_Law_readSum_5_51 rc (fun x2 x3 S => fC_Law_readSum_5_13 rc n x2 x3 S) x2 x3 2001 T3))) else (fC_Law_readSum_5_51 rc (fun x2 x3 S => fC_Law_readSum_5_13 rc n x2 x3 S) x2 x3 2000 T1)))
def fC_Law_readSum_5_B (rc : Int32 → St → Oz)   (x2 : Int32) (S : St) : Oz := obI (fC_Law_readProduct_5 rc x2 S) fun r2 T1 => (if r2 = 0 then (some (rI 0, T1)) else (fC_Law_readSum_5_13 rc FU x2 0 T1))
def fC_Law_readSum_5 : Nat → Int32 → St → Oz
  | 0, _, _ => none
  | d + 1, x2, S => fC_Law_readSum_5_B (fun x2 S => fC_Law_readSum_5 d x2 S) x2 S
def fC_Law_readFrom_5     (S : St) : Oz := nx (sF S 19 0) fun T1 => (obI (fC_Law_readSum_5 12 0 T1) fun r3 T2 => (if r3 = 0 then (some (rI 0, T2)) else (obI (fC_Tape_ended T2) fun r5 T4 => (if r5 = 0 then (obI (fC_Tape_place T4) fun r7 T6 => (obI (fC_Tape_refuse r7 1 T6) fun r9 T8 => (if r9 = 0 then (some (rI 0, T8)) else (some (rI 1, T8))))) else (some (rI 1, T4))))))
def fC_Law_copyFrom_4     (S : St) : Oz := gd (cpOK 0 0 160 160 160) (nx (sC S 34 31 0 0 160) fun T1 => (nx (sF T1 18 (T1.1 19)) fun T2 => (some (rV, T2))))
def fC_Main_law    (x1 : Int32) (S : St) : Oz := obV (fC_Main_openText x1 150 S) fun T1 => (obI (fC_Law_readFrom_5 T1) fun r4 T3 => (if r4 = 0 then (some (rI ((T3.1 4) - 10), T3)) else (obV (fC_Law_copyFrom_4 T3) fun T5 => (some (rI 1, T5)))))
def fC_Tape_isWord_v58_20  (x1 : Nat)  : Nat → Int32 → St → Oz
  | 0, _, _ => none
  | n + 1, x2, S => if (nI (skN x1)) ≤ x2 then (some (rI 1, S)) else (gd (ib ((S.1 9) + x2) 600) (gd (ib x2 (skN x1)) (if (rA S 14 ((S.1 9) + x2)) = (skB x1 x2) then (fC_Tape_isWord_v58_20 x1 n (x2 + 1) S) else (some (rI 0, S)))))
def fC_Tape_isWord_v58  (x1 : Nat)   (S : St) : Oz := if ((S.1 8) - (S.1 9)) = (nI (skN x1)) then (fC_Tape_isWord_v58_20 x1 FU 0 S) else (some (rI 0, S))
def fC_Tape_isWord_v59_20  (x1 : Nat)  : Nat → Int32 → St → Oz
  | 0, _, _ => none
  | n + 1, x2, S => if (nI (skN x1)) ≤ x2 then (some (rI 1, S)) else (gd (ib ((S.1 9) + x2) 600) (gd (ib x2 (skN x1)) (if (rA S 14 ((S.1 9) + x2)) = (skB x1 x2) then (fC_Tape_isWord_v59_20 x1 n (x2 + 1) S) else (some (rI 0, S)))))
def fC_Tape_isWord_v59  (x1 : Nat)   (S : St) : Oz := if ((S.1 8) - (S.1 9)) = (nI (skN x1)) then (fC_Tape_isWord_v59_20 x1 FU 0 S) else (some (rI 0, S))
def fC_Tape_isWord_v60_20  (x1 : Nat)  : Nat → Int32 → St → Oz
  | 0, _, _ => none
  | n + 1, x2, S => if (nI (skN x1)) ≤ x2 then (some (rI 1, S)) else (gd (ib ((S.1 9) + x2) 600) (gd (ib x2 (skN x1)) (if (rA S 14 ((S.1 9) + x2)) = (skB x1 x2) then (fC_Tape_isWord_v60_20 x1 n (x2 + 1) S) else (some (rI 0, S)))))
def fC_Tape_isWord_v60  (x1 : Nat)   (S : St) : Oz := if ((S.1 8) - (S.1 9)) = (nI (skN x1)) then (fC_Tape_isWord_v60_20 x1 FU 0 S) else (some (rI 0, S))
def fC_Tape_isWord_v61_20  (x1 : Nat)  : Nat → Int32 → St → Oz
  | 0, _, _ => none
  | n + 1, x2, S => if (nI (skN x1)) ≤ x2 then (some (rI 1, S)) else (gd (ib ((S.1 9) + x2) 600) (gd (ib x2 (skN x1)) (if (rA S 14 ((S.1 9) + x2)) = (skB x1 x2) then (fC_Tape_isWord_v61_20 x1 n (x2 + 1) S) else (some (rI 0, S)))))
def fC_Tape_isWord_v61  (x1 : Nat)   (S : St) : Oz := if ((S.1 8) - (S.1 9)) = (nI (skN x1)) then (fC_Tape_isWord_v61_20 x1 FU 0 S) else (some (rI 0, S))
def fC_Tape_isWord_v62_20  (x1 : Nat)  : Nat → Int32 → St → Oz
  | 0, _, _ => none
  | n + 1, x2, S => if (nI (skN x1)) ≤ x2 then (some (rI 1, S)) else (gd (ib ((S.1 9) + x2) 600) (gd (ib x2 (skN x1)) (if (rA S 14 ((S.1 9) + x2)) = (skB x1 x2) then (fC_Tape_isWord_v62_20 x1 n (x2 + 1) S) else (some (rI 0, S)))))
def fC_Tape_isWord_v62  (x1 : Nat)   (S : St) : Oz := if ((S.1 8) - (S.1 9)) = (nI (skN x1)) then (fC_Tape_isWord_v62_20 x1 FU 0 S) else (some (rI 0, S))
def fC_Tape_isWord_v63_20  (x1 : Nat)  : Nat → Int32 → St → Oz
  | 0, _, _ => none
  | n + 1, x2, S => if (nI (skN x1)) ≤ x2 then (some (rI 1, S)) else (gd (ib ((S.1 9) + x2) 600) (gd (ib x2 (skN x1)) (if (rA S 14 ((S.1 9) + x2)) = (skB x1 x2) then (fC_Tape_isWord_v63_20 x1 n (x2 + 1) S) else (some (rI 0, S)))))
def fC_Tape_isWord_v63  (x1 : Nat)   (S : St) : Oz := if ((S.1 8) - (S.1 9)) = (nI (skN x1)) then (fC_Tape_isWord_v63_20 x1 FU 0 S) else (some (rI 0, S))
def fC_Work_put    (x1 : Int32) (x2 : Int32) (x3 : Int32) (S : St) : Oz := if (S.1 22) < 64 then (gd (ib (S.1 22) 64) (nx (sA S 43 (S.1 22) x1) fun T1 => (gd (ib (T1.1 22) 64) (nx (sA T1 44 (T1.1 22) x2) fun T2 => (gd (ib (T2.1 22) 64) (nx (sA T2 45 (T2.1 22) x3) fun T3 => (nx (sF T3 22 ((T3.1 22) + 1)) fun T4 => (some (rI 1, T4))))))))) else (some (rI 0, S))
def fC_Work_readAgain (rc : Int32 → St → Oz)   (x3 : Int32) (S : St) : Oz := nx (S.1 22) fun v1 => (obI (fC_Tape_needsNumber 0 40 S) fun r3 T2 => (if r3 = 0 then (some (rI 0, T2)) else (obI (fC_Work_put 5 (T2.1 6) 0 T2) fun r5 T4 => (if r5 = 0 then (some (rI 0, T4)) else (obI (fC_Tape_needs 91 T4) fun r7 T6 => (if r7 = 0 then (some (rI 0, T6)) else (obI (rc (x3 + 1) T6) fun r9 T8 => (if r9 = 0 then (some (rI 0, T8)) else (obI (fC_Tape_needs 93 T8) fun r11 T10 => (if r11 = 0 then (some (rI 0, T10)) else (gd (ib v1 64) (nx (sA T10 45 v1 (T10.1 22)) fun T12 => (some (rI 1, T12))))))))))))))
def fC_Work_readNumbers    (x2 : Int32) (x3 : Int32) (x4 : Int32) (S : St) : Oz := obI (fC_Tape_needsNumber 0 (x3 - 1) S) fun r2 T1 => (if r2 = 0 then (some (rI 0, T1)) else (nx (T1.1 6) fun v3 => (obI (fC_Tape_needsNumber 0 (x4 - 1) T1) fun r5 T4 => (if r5 = 0 then (some (rI 0, T4)) else (obI (fC_Work_put x2 v3 (T4.1 6) T4) fun r7 T6 => (if r7 = 0 then (some (rI 0, T6)) else (some (rI 1, T6))))))))
def fC_Work_readStep (rc : Int32 → St → Oz)   (x3 : Int32) (S : St) : Oz := obV (fC_Tape_takeWord S) fun T1 => (obI (fC_Tape_isWord_v58 15 T1) fun r4 T3 => (if r4 = 0 then (obI (fC_Tape_isWord_v59 16 T3) fun r6 T5 => (if r6 = 0 then (obI (fC_Tape_isWord_v60 17 T5) fun r8 T7 => (if r8 = 0 then (obI (fC_Tape_isWord_v61 18 T7) fun r10 T9 => (if r10 = 0 then (obI (fC_Tape_isWord_v62 19 T9) fun r12 T11 => (if r12 = 0 then (obI (fC_Tape_isWord_v63 20 T11) fun r14 T13 => (if r14 = 0 then (obI (fC_Tape_refuseWord 1 T13) fun r16 T15 => (gd (isB r16) (some (rI r16, T15)))) else (if x3 < 6 then (obI (fC_Work_readAgain rc x3 T13) fun r18 T17 => (gd (isB r18) (some (rI r18, T17)))) else (obI (fC_Tape_refuseWord 3 T13) fun r20 T19 => (gd (isB r20) (some (rI r20, T19))))))) else (obI (fC_Work_put 4 0 0 T11) fun r22 T21 => (gd (isB r22) (some (rI r22, T21)))))) else (obI (fC_Work_readNumbers 3 (T9.1 12) (T9.1 11) T9) fun r24 T23 => (gd (isB r24) (some (rI r24, T23)))))) else (obI (fC_Tape_needsNumber 0 ((T7.1 12) - 1) T7) fun r26 T25 => (if r26 = 0 then (some (rI 0, T25)) else (obI (fC_Work_put 2 (T25.1 6) 0 T25) fun r28 T27 => (if r28 = 0 then (some (rI 0, T27)) else (some (rI 1, T27)))))))) else (obI (fC_Work_readNumbers 1 (T5.1 11) (T5.1 10) T5) fun r30 T29 => (gd (isB r30) (some (rI r30, T29)))))) else (obI (fC_Work_readNumbers 0 (T3.1 11) (T3.1 10) T3) fun r32 T31 => (gd (isB r32) (some (rI r32, T31))))))
def fC_Work_readSteps_35 (rc : Int32 → St → Oz)  (K3 : Int32 → Int32 → St → Oz) (x3 : Int32) (x4 : Int32) (S : St) : Oz := obI (fC_Work_readStep rc x3 S) fun r2 T1 => (if r2 = 0 then (some (rI 0, T1)) else (obI (fC_Tape_needs 59 T1) fun r4 T3 => (if r4 = 0 then (some (rI 0, T3)) else (K3 x3 (x4 + 1) T3))))
def fC_Work_readSteps_3 (rc : Int32 → St → Oz)   : Nat → Int32 → Int32 → St → Oz
  | 0, _, _, _ => none
  | n + 1, x3, x4, S => if 64 < x4 then (some (rI 0, S)) else (if x3 ≤ 0 then (obI (fC_Tape_ended S) fun r2 T1 => (if r2 = 0 then (fC_Work_readSteps_35 rc (fun x3 x4 S => fC_Work_readSteps_3 rc n x3 x4 S) x3 x4 T1) else (some (rI 1, T1)))) else (obI (fC_Tape_sees 93 S) fun r4 T3 => (if r4 = 0 then (fC_Work_readSteps_35 rc (fun x3 x4 S => fC_Work_readSteps_3 rc n x3 x4 S) x3 x4 T3) else (some (rI 1, T3)))))
def fC_Work_readSteps_B (rc : Int32 → St → Oz)   (x3 : Int32) (S : St) : Oz := fC_Work_readSteps_3 rc FU x3 0 S
def fC_Work_readSteps : Nat → Int32 → St → Oz
  | 0, _, _ => none
  | d + 1, x3, S => fC_Work_readSteps_B (fun x3 S => fC_Work_readSteps d x3 S) x3 S
def fC_Work_readFrom     (S : St) : Oz := nx (sF S 22 0) fun T1 => (nx (sF T1 23 0) fun T2 => (nx (sF T2 24 0) fun T3 => (nx (sF T3 25 0) fun T4 => (obI (fC_Work_readSteps 12 0 T4) fun r6 T5 => (gd (isB r6) (some (rI r6, T5)))))))
def fC_Shelf_pushWork     (S : St) : Oz := if (S.1 26) < 16 then (gd (cpOK 0 ((S.1 26) * 74) 74 74 1184) (nx (sC S 46 47 0 ((S.1 26) * 74) 74) fun T1 => (nx (sF T1 26 ((T1.1 26) + 1)) fun T2 => (some (rI 1, T2))))) else (some (rI 0, S))
def fC_State_isOld_9    (x1 : Int32) (S : St) : Oz := gd (ib x1 6) (nx (rA S 18 x1) fun v1 => (if 60 ≤ v1 then (some (rI 0, S)) else (if (v1 + ((rA S 46 73) / 10)) < 60 then (some (rI 0, S)) else (some (rI 1, S)))))
def fC_State_memoryOf_9    (x1 : Int32) (S : St) : Oz := obI (fC_State_isOld_9 x1 S) fun r2 T1 => (if r2 = 0 then (gd (ib x1 6) (some (rI (rA T1 17 x1), T1))) else (gd (ib x1 6) (some (rI ((rA T1 17 x1) / 2), T1))))
def fC_State_place    (x0 : Int32) (x1 : Int32) (S : St) : Oz := some (rI ((0 + (x0 * 8)) + x1), S)
def fC_State_linesOf_9_4    : Nat → Int32 → Int32 → Int32 → St → Oz
  | 0, _, _, _, _ => none
  | n + 1, x1, x2, x3, S => if (S.1 10) ≤ x3 then (some (rI x2, S)) else (obI (fC_State_place x1 x3 S) fun r2 T1 => (gd (ib r2 74) (nx (x2 + (rA T1 46 r2)) fun v3 => (fC_State_linesOf_9_4 n x1 v3 (x3 + 1) T1))))
def fC_State_linesOf_9    (x1 : Int32) (S : St) : Oz := fC_State_linesOf_9_4  FU x1 0 0 S
def fC_State_roomOf_9    (x1 : Int32) (S : St) : Oz := obI (fC_State_memoryOf_9 x1 S) fun r2 T1 => (obI (fC_State_linesOf_9 x1 T1) fun r4 T3 => (nx (r2 - r4) fun v5 => (if 0 ≤ v5 then (some (rI v5, T3)) else (some (rI 0, T3)))))
def fC_Law_tellPoem_4    (x1 : Int32) (x2 : Int32) (x3 : Int32) (S : St) : Oz := nx (sA S 32 0 x1) fun T1 => (nx (sA T1 32 1 x2) fun T2 => (nx (sA T2 32 2 x3) fun T3 => (some (rV, T3))))
def fC_State_ageOf_9    (x1 : Int32) (S : St) : Oz := gd (ib x1 6) (some (rI ((rA S 18 x1) + ((rA S 46 73) / 10)), S))
def fC_Law_tellMan_4    (x1 : Int32) (x2 : Int32) (x3 : Int32) (x4 : Int32) (x5 : Int32) (S : St) : Oz := nx (sA S 32 3 x1) fun T1 => (nx (sA T1 32 4 x2) fun T2 => (nx (sA T2 32 5 x3) fun T3 => (nx (sA T3 32 6 x4) fun T4 => (nx (sA T4 32 7 x5) fun T5 => (some (rV, T5))))))
def fC_Law_joined    (x0 : Int32) (x1 : Int32) (x2 : Int32) (S : St) : Oz := if x0 = 2000 then (some (rI (x1 + x2), S)) else if x0 = 2001 then (some (rI (x1 - x2), S)) else if x0 = 2002 then (some (rI (x1 * x2), S)) else if x0 = 2003 then (if x2 = 0 then (some (rI 0, S)) else (gd (nz x2) (some (rI (x1 / x2), S)))) else if x0 = 2004 then (if x2 = 0 then (some (rI 0, S)) else (gd (nz x2) (some (rI (x1 - x1 / x2 * x2), S)))) else if x0 = 2005 then (if x2 ≤ x1 then (some (rI x2, S)) else (some (rI x1, S))) else (if x1 ≤ x2 then (some (rI x2, S)) else (some (rI x1, S)))
def fC_Law_outcome_4_99   (K4 : Int32 → Int32 → St → Oz) (x1 : Int32) (x2 : Int32) (s0 : Int32) (s1 : Int32) (S : St) : Oz := gd (ib s1 40) (nx (sA S 33 s1 s0) fun T1 => (K4 (x1 + 1) (x2 + 1) T1))
def fC_Law_outcome_4_4    : Nat → Int32 → Int32 → St → Oz
  | 0, _, _, _ => none
  | n + 1, x1, x2, S => if (S.1 18) ≤ x2 then (nx (rA S 33 0) fun v1 => (if 0 ≤ v1 then (if v1 ≤ 20 then (some (rI v1, S)) else (some (rI 20, S))) else (some (rI 0, S)))) else (gd (ib x2 160) (nx (rA S 31 x2) fun v2 => (if v2 < 2000 then (if x1 < 40 then (if 1000 ≤ v2 then (gd (ib (v2 - 1000) 8) (fC_Law_outcome_4_99 (fun x1 x2 S => fC_Law_outcome_4_4 n x1 x2 S) x1 x2 (rA S 32 (v2 - 1000)) x1 S)) else (fC_Law_outcome_4_99 (fun x1 x2 S => fC_Law_outcome_4_4 n x1 x2 S) x1 x2 v2 x1 S)) else (some (rI 0, S))) else (if 2 ≤ x1 then (gd (ib ((x1 + (-1)) - 1) 40) (gd (ib (x1 + (-1)) 40) (obI (fC_Law_joined v2 (rA S 33 ((x1 + (-1)) - 1)) (rA S 33 (x1 + (-1))) S) fun r4 T3 => (gd (ib ((x1 + (-1)) - 1) 40) (nx (sA T3 33 ((x1 + (-1)) - 1) r4) fun T5 => (fC_Law_outcome_4_4 n (x1 + (-1)) (x2 + 1) T5)))))) else (some (rI 0, S))))))
def fC_Law_outcome_4     (S : St) : Oz := fC_Law_outcome_4_4  FU 0 0 S
def fC_State_learnable_9    (x1 : Int32) (x2 : Int32) (x3 : Int32) (S : St) : Oz := gd (ib x2 8) (gd (ib x2 8) (obI (fC_State_place x1 x2 S) fun r2 T1 => (gd (ib r2 74) (obV (fC_Law_tellPoem_4 (rA S 15 x2) (rA S 16 x2) (rA T1 46 r2) T1) fun T3 => (obI (fC_State_ageOf_9 x1 T3) fun r6 T5 => (gd (ib (48 + x1) 74) (obV (fC_Law_tellMan_4 x3 r6 (rA T5 46 (48 + x1)) (rA T5 46 73) x1 T5) fun T7 => (obI (fC_Law_outcome_4 T7) fun r10 T9 => (some (rI r10, T9))))))))))
def fC_State_gainOf_9_49    (x5 : Int32) (s0 : Int32) (S : St) : Oz := if x5 ≤ s0 then (some (rI x5, S)) else (some (rI s0, S))
def fC_State_gainOf_9    (x1 : Int32) (x2 : Int32) (S : St) : Oz := obI (fC_State_roomOf_9 x1 S) fun r2 T1 => (obI (fC_State_learnable_9 x1 x2 r2 T1) fun r4 T3 => (gd (ib x2 8) (obI (fC_State_place x1 x2 T3) fun r6 T5 => (gd (ib r6 74) (nx ((rA T3 15 x2) - (rA T5 46 r6)) fun v7 => (if r2 ≤ r4 then (fC_State_gainOf_9_49  v7 r2 T5) else (fC_State_gainOf_9_49  v7 r4 T5)))))))
def fC_State_teach_9    (x1 : Int32) (x2 : Int32) (S : St) : Oz := obI (fC_State_gainOf_9 x1 x2 S) fun r2 T1 => (if 0 < r2 then (obI (fC_State_place x1 x2 T1) fun r4 T3 => (gd (ib r4 74) (gd (ib r4 74) (nx (sA T3 46 r4 ((rA T3 46 r4) + r2)) fun T5 => (gd (ib (48 + x1) 74) (gd (ib (48 + x1) 74) (nx (sA T5 46 (48 + x1) ((rA T5 46 (48 + x1)) + 1)) fun T6 => (gd (ib (54 + x1) 74) (gd (ib (54 + x1) 74) (nx (sA T6 46 (54 + x1) ((rA T6 46 (54 + x1)) + 1)) fun T7 => (gd (ib (66 + x1) 74) (gd (ib (66 + x1) 74) (nx (sA T7 46 (66 + x1) ((rA T7 46 (66 + x1)) ||| ((1 : Int32) <<< ((x2 : Int32) &&& 31)))) fun T8 => (some (rI 1, T8))))))))))))))) else (some (rI 0, T1)))
def fC_State_letGo_9    (x1 : Int32) (x2 : Int32) (S : St) : Oz := obI (fC_State_place x1 x2 S) fun r2 T1 => (gd (ib r2 74) (if (rA T1 46 r2) = 0 then (some (rI 0, T1)) else (obI (fC_State_place x1 x2 T1) fun r4 T3 => (gd (ib r4 74) (nx (sA T3 46 r4 0) fun T5 => (some (rI 1, T5)))))))
def fC_State_isPaid_9    (x1 : Int32) (S : St) : Oz := if (((rA S 46 72) >>> ((x1 : Int32) &&& 31)) &&& 1) = 1 then (some (rI 1, S)) else (some (rI 0, S))
def fC_State_isWellKnown_9_65    (x1 : Int32) (x2 : Int32) (x4 : Int32) (x5 : Int32) (s0 : Int32) (S : St) : Oz := gd (ib x1 10) (nx (rA S 21 x1) fun v1 => (if v1 = 0 then (if x4 < x5 then (some (rI 0, S)) else (some (rI 1, S))) else if v1 = 2 then (if x4 < x5 then (some (rI 0, S)) else (gd (ib (54 + x2) 74) (if (rA S 46 (54 + x2)) ≤ 0 then (some (rI 0, S)) else (some (rI 1, S))))) else (if x4 < s0 then (some (rI 0, S)) else (some (rI 1, S)))))
def fC_State_isWellKnown_9    (x1 : Int32) (S : St) : Oz := gd (ib x1 10) (nx (rA S 19 x1) fun v1 => (gd (ib x1 10) (nx (rA S 20 x1) fun v2 => (obI (fC_State_place v1 v2 S) fun r4 T3 => (gd (ib r4 74) (nx (rA T3 46 r4) fun v5 => (gd (ib v2 8) (nx (rA T3 15 v2) fun v6 => (if v6 ≤ ((v6 / 2) + 1) then (fC_State_isWellKnown_9_65  x1 v1 v5 v6 v6 T3) else (fC_State_isWellKnown_9_65  x1 v1 v5 v6 ((v6 / 2) + 1) T3))))))))))
def fC_State_lose_9_34    (s0 : Int32) (s1 : Int32) (S : St) : Oz := gd (ib s1 74) (nx (sA S 46 s1 s0) fun T1 => (some (rV, T1)))
def fC_State_lose_9    (x1 : Int32) (x2 : Int32) (x3 : Int32) (S : St) : Oz := obI (fC_State_place x1 x2 S) fun r2 T1 => (gd (ib r2 74) (nx ((rA T1 46 r2) - x3) fun v3 => (obI (fC_State_place x1 x2 T1) fun r5 T4 => (if 0 ≤ v3 then (fC_State_lose_9_34  v3 r5 T4) else (fC_State_lose_9_34  0 r5 T4)))))
def fC_State_slip_9    (x1 : Int32) (x2 : Int32) (S : St) : Oz := obV (fC_State_lose_9 x1 x2 4 S) fun T1 => (gd (ib (60 + x1) 74) (gd (ib (60 + x1) 74) (nx (sA T1 46 (60 + x1) ((rA T1 46 (60 + x1)) + 1)) fun T3 => (some (rV, T3)))))
def fC_State_sayAlone_9    (x1 : Int32) (S : St) : Oz := obI (fC_State_isPaid_9 x1 S) fun r2 T1 => (if r2 = 0 then (obI (fC_State_isWellKnown_9 x1 T1) fun r4 T3 => (if r4 = 0 then (gd (ib x1 10) (gd (ib x1 10) (obV (fC_State_slip_9 (rA T3 19 x1) (rA T3 20 x1) T3) fun T5 => (some (rI 1, T5))))) else (nx (sA T3 46 72 ((rA T3 46 72) ||| ((1 : Int32) <<< ((x1 : Int32) &&& 31)))) fun T7 => (some (rI 1, T7))))) else (some (rI 0, T1)))
def fC_State_isSungBy_9    (x1 : Int32) (x2 : Int32) (S : St) : Oz := gd (ib x1 10) (nx (rA S 20 x1) fun v1 => (gd (ib x1 10) (obI (fC_State_place (rA S 19 x1) v1 S) fun r3 T2 => (gd (ib r3 74) (obI (fC_State_place x2 v1 T2) fun r5 T4 => (gd (ib r5 74) (nx ((rA T2 46 r3) + (rA T4 46 r5)) fun v6 => (gd (ib v1 8) (if v6 < (rA T4 15 v1) then (some (rI 0, T4)) else (some (rI 1, T4)))))))))))
def fC_State_sayWith_9    (x1 : Int32) (x2 : Int32) (S : St) : Oz := obI (fC_State_isPaid_9 x1 S) fun r2 T1 => (if r2 = 0 then (gd (ib x1 10) (if x2 = (rA T1 19 x1) then (some (rI 0, T1)) else (obI (fC_State_isSungBy_9 x1 x2 T1) fun r4 T3 => (if r4 = 0 then (gd (ib x1 10) (gd (ib x1 10) (obV (fC_State_slip_9 (rA T3 19 x1) (rA T3 20 x1) T3) fun T5 => (gd (ib x1 10) (obV (fC_State_slip_9 x2 (rA T5 20 x1) T5) fun T7 => (some (rI 1, T7))))))) else (nx (sA T3 46 72 ((rA T3 46 72) ||| ((1 : Int32) <<< ((x1 : Int32) &&& 31)))) fun T9 => (some (rI 1, T9))))))) else (some (rI 0, T1)))
def fC_Valley_fadedLines_2    (x1 : Int32) (S : St) : Oz := if (S.1 13) = 0 then (some (rI 0, S)) else (gd (ib x1 8) (gd (nz (S.1 13)) (some (rI ((rA S 16 x1) / (S.1 13)), S))))
def fC_State_endWeek_9_84   (K33 : Int32 → Int32 → Int32 → St → Oz) : Nat → Int32 → Int32 → Int32 → Int32 → Int32 → Int32 → Int32 → St → Oz
  | 0, _, _, _, _, _, _, _, _ => none
  | n + 1, x2, x3, x4, x5, x6, x7, x8, S => if (S.1 10) ≤ x8 then (gd (ib (66 + x4) 74) (nx (sA S 46 (66 + x4) 0) fun T1 => (gd (ib (54 + x4) 74) (nx (sA T1 46 (54 + x4) 0) fun T2 => (K33 x2 x3 (x4 + 1) T2))))) else (gd (ib (x6 + x8) 74) (if (rA S 46 (x6 + x8)) ≤ 0 then (fC_State_endWeek_9_84 K33 n x2 x3 x4 x5 x6 x7 (x8 + 1) S) else (if x5 = 0 then (if ((x7 >>> ((x8 : Int32) &&& 31)) &&& 1) = 0 then (obI (fC_Valley_fadedLines_2 x8 S) fun r4 T3 => (obV (fC_State_lose_9 x4 x8 r4 T3) fun T5 => (fC_State_endWeek_9_84 K33 n x2 x3 x4 x5 x6 x7 (x8 + 1) T5))) else (fC_State_endWeek_9_84 K33 n x2 x3 x4 x5 x6 x7 (x8 + 1) S)) else (gd (ib (x6 + x8) 74) (nx (sA S 46 (x6 + x8) 0) fun T7 => (fC_State_endWeek_9_84 K33 n x2 x3 x4 x5 x6 x7 (x8 + 1) T7))))))
def fC_State_endWeek_9_59   (K33 : Int32 → Int32 → Int32 → St → Oz) (x2 : Int32) (x3 : Int32) (x4 : Int32) (s0 : Int32) (S : St) : Oz := obI (fC_State_place x4 0 S) fun r2 T1 => (gd (ib (66 + x4) 74) (nx (rA T1 46 (66 + x4)) fun v3 => (fC_State_endWeek_9_84 K33 FU x2 x3 x4 s0 r2 v3 0 T1)))
def fC_State_endWeek_9_58   (K33 : Int32 → Int32 → Int32 → St → Oz) (x2 : Int32) (x3 : Int32) (x4 : Int32) (S : St) : Oz := fC_State_endWeek_9_59 K33 x2 x3 x4 0 S
def fC_State_endWeek_9_33    : Nat → Int32 → Int32 → Int32 → St → Oz
  | 0, _, _, _, _ => none
  | n + 1, x2, x3, x4, S => if x2 ≤ x4 then (some (rV, S)) else (if x3 = 0 then (fC_State_endWeek_9_58 (fun x2 x3 x4 S => fC_State_endWeek_9_33 n x2 x3 x4 S) x2 x3 x4 S) else (obI (fC_State_ageOf_9 x4 S) fun r2 T1 => (if r2 = 60 then (fC_State_endWeek_9_59 (fun x2 x3 x4 S => fC_State_endWeek_9_33 n x2 x3 x4 S) x2 x3 x4 1 T1) else (fC_State_endWeek_9_58 (fun x2 x3 x4 S => fC_State_endWeek_9_33 n x2 x3 x4 S) x2 x3 x4 T1))))
def fC_State_endWeek_9    (x1 : Int32) (x2 : Int32) (S : St) : Oz := nx (sA S 46 73 ((rA S 46 73) + 1)) fun T1 => (if ((rA T1 46 73) - (rA T1 46 73) / 10 * 10) = 0 then (fC_State_endWeek_9_33  FU x2 1 x1 T1) else (fC_State_endWeek_9_33  FU x2 0 x1 T1))
def fC_State_endWeekOfWork_9     (S : St) : Oz := if (rA S 46 73) < 400 then (obV (fC_State_endWeek_9 0 (S.1 11) S) fun T1 => (some (rI 1, T1))) else (some (rI 0, S))
def fC_Work_doStep    (x2 : Int32) (S : St) : Oz := gd (ib x2 64) (nx (rA S 44 x2) fun v1 => (gd (ib x2 64) (nx (rA S 45 x2) fun v2 => (gd (ib x2 64) (nx (rA S 43 x2) fun v3 => (if v3 = 0 then (obI (fC_State_teach_9 v1 v2 S) fun r5 T4 => (gd (isB r5) (some (rI r5, T4)))) else if v3 = 1 then (obI (fC_State_letGo_9 v1 v2 S) fun r7 T6 => (gd (isB r7) (some (rI r7, T6)))) else if v3 = 2 then (obI (fC_State_sayAlone_9 v1 S) fun r9 T8 => (gd (isB r9) (some (rI r9, T8)))) else if v3 = 3 then (obI (fC_State_sayWith_9 v1 v2 S) fun r11 T10 => (gd (isB r11) (some (rI r11, T10)))) else (obI (fC_State_endWeekOfWork_9 S) fun r13 T12 => (gd (isB r13) (some (rI r13, T12))))))))))
def fC_Work_doAgain_10 (rc : Int32 → Int32 → Int32 → St → Oz)   : Nat → Int32 → Int32 → Int32 → St → Oz
  | 0, _, _, _, _ => none
  | n + 1, x2, x3, x4, S => gd (ib x2 64) (if (rA S 44 x2) ≤ x4 then (some (rV, S)) else (if 200 ≤ (S.1 23) then (some (rV, S)) else (gd (ib x2 64) (obV (rc (x2 + 1) (rA S 45 x2) (x3 + 1) S) fun T1 => (fC_Work_doAgain_10 rc n x2 x3 (x4 + 1) T1)))))
def fC_Work_doAgain (rc : Int32 → Int32 → Int32 → St → Oz)   (x2 : Int32) (x3 : Int32) (S : St) : Oz := if x3 < 6 then (fC_Work_doAgain_10 rc FU x2 x3 0 S) else (some (rV, S))
def fC_Work_doSteps_6 (rc : Int32 → Int32 → Int32 → St → Oz)   : Nat → Int32 → Int32 → Int32 → Int32 → St → Oz
  | 0, _, _, _, _, _ => none
  | n + 1, x3, x4, x5, x6, S => if x3 ≤ x6 then (some (rV, S)) else (if x6 < x5 then (fC_Work_doSteps_6 rc n x3 x4 x5 (x6 + 1) S) else (if (S.1 23) < 200 then (nx (sF S 23 ((S.1 23) + 1)) fun T1 => (gd (ib x6 64) (if (rA T1 43 x6) = 5 then (gd (ib x6 64) (nx (rA T1 45 x6) fun v6 => (obV (fC_Work_doAgain rc x6 x4 T1) fun T7 => (fC_Work_doSteps_6 rc n x3 x4 v6 (x6 + 1) T7)))) else (obI (fC_Work_doStep x6 T1) fun r3 T2 => (if r3 = 0 then (nx (sF T2 25 ((T2.1 25) + 1)) fun T4 => (fC_Work_doSteps_6 rc n x3 x4 x5 (x6 + 1) T4)) else (nx (sF T2 24 ((T2.1 24) + 1)) fun T5 => (fC_Work_doSteps_6 rc n x3 x4 x5 (x6 + 1) T5))))))) else (fC_Work_doSteps_6 rc n x3 x4 x5 (x6 + 1) S)))
def fC_Work_doSteps_B (rc : Int32 → Int32 → Int32 → St → Oz)   (x2 : Int32) (x3 : Int32) (x4 : Int32) (S : St) : Oz := fC_Work_doSteps_6 rc FU x3 x4 x2 x2 S
def fC_Work_doSteps : Nat → Int32 → Int32 → Int32 → St → Oz
  | 0, _, _, _, _ => none
  | d + 1, x2, x3, x4, S => fC_Work_doSteps_B (fun x2 x3 x4 S => fC_Work_doSteps d x2 x3 x4 S) x2 x3 x4 S
def fC_Main_work    (x1 : Int32) (S : St) : Oz := obV (fC_Main_openText x1 150 S) fun T1 => (if (T1.1 26) < 16 then (obI (fC_Work_readFrom T1) fun r4 T3 => (if r4 = 0 then (some (rI ((T3.1 4) - 10), T3)) else (obI (fC_Shelf_pushWork T3) fun r6 T5 => (obV (fC_Work_doSteps 12 0 (T5.1 22) 0 T5) fun T7 => (nx (sF T7 0 (T7.1 25)) fun T9 => (some (rI (T9.1 24), T9))))))) else (some (rI (-20), T1)))
def fC_Book_readLine_7     (S : St) : Oz := obI (fC_Tape_place S) fun r2 T1 => (obI (fC_Tape_needsNumber 0 ((T1.1 11) - 1) T1) fun r4 T3 => (if r4 = 0 then (some (rI 0, T3)) else (if (T3.1 21) < 6 then (gd (ib (T3.1 21) 6) (nx (sA T3 40 (T3.1 21) (T3.1 6)) fun T5 => (obI (fC_Tape_needsNumber 0 ((T5.1 10) - 1) T5) fun r7 T6 => (if r7 = 0 then (some (rI 0, T6)) else (gd (ib (T6.1 21) 6) (nx (sA T6 41 (T6.1 21) (T6.1 6)) fun T8 => (obI (fC_Tape_needsNumber 0 99 T8) fun r10 T9 => (if r10 = 0 then (some (rI 0, T9)) else (gd (ib (T9.1 21) 6) (nx (sA T9 42 (T9.1 21) (T9.1 6)) fun T11 => (nx (sF T11 21 ((T11.1 21) + 1)) fun T12 => (some (rI 1, T12))))))))))))) else (obI (fC_Tape_refuse r2 3 T3) fun r14 T13 => (gd (isB r14) (some (rI r14, T13)))))))
def fC_Book_readFrom_7_7    : Nat → Int32 → St → Oz
  | 0, _, _ => none
  | n + 1, x3, S => if 6 < x3 then (some (rI 0, S)) else (obI (fC_Tape_ended S) fun r2 T1 => (if r2 = 0 then (obI (fC_Book_readLine_7 T1) fun r4 T3 => (if r4 = 0 then (some (rI 0, T3)) else (obI (fC_Tape_needs 59 T3) fun r6 T5 => (if r6 = 0 then (some (rI 0, T5)) else (fC_Book_readFrom_7_7 n (x3 + 1) T5))))) else (some (rI 1, T1))))
def fC_Book_readFrom_7     (S : St) : Oz := nx (sF S 21 0) fun T1 => (fC_Book_readFrom_7_7  FU 0 T1)
def fC_Book_copyFrom_6     (S : St) : Oz := nx (sF S 20 (S.1 21)) fun T1 => (gd (cpOK 0 0 6 6 6) (nx (sC T1 40 37 0 0 6) fun T2 => (gd (cpOK 0 0 6 6 6) (nx (sC T2 41 38 0 0 6) fun T3 => (gd (cpOK 0 0 6 6 6) (nx (sC T3 42 39 0 0 6) fun T4 => (some (rV, T4))))))))
def fC_Main_book    (x1 : Int32) (S : St) : Oz := obV (fC_Main_openText x1 60 S) fun T1 => (obI (fC_Book_readFrom_7 T1) fun r4 T3 => (if r4 = 0 then (some (rI ((T3.1 4) - 10), T3)) else (obV (fC_Book_copyFrom_6 T3) fun T5 => (some (rI (T5.1 20), T5)))))
def fC_Main_fault     (S : St) : Oz := some (rI (S.1 5), S)
def fC_Shelf_popWork     (S : St) : Oz := if 0 < (S.1 26) then (nx (sF S 26 ((S.1 26) - 1)) fun T1 => (gd (cpOK ((T1.1 26) * 74) 0 74 1184 74) (nx (sC T1 47 46 ((T1.1 26) * 74) 0 74) fun T2 => (some (rI 1, T2))))) else (some (rI 0, S))
def fC_Main_undo     (S : St) : Oz := obI (fC_Shelf_popWork S) fun r2 T1 => (if r2 = 0 then (some (rI (-1), T1)) else (nx (sF T1 0 0) fun T3 => (some (rI (T3.1 26), T3))))
def fC_State_week_9     (S : St) : Oz := some (rI (rA S 46 73), S)
def fC_State_paidBits_9     (S : St) : Oz := some (rI (rA S 46 72), S)
def fC_State_lateBits_9_4    : Nat → Int32 → Int32 → St → Oz
  | 0, _, _, _ => none
  | n + 1, x1, x2, S => if (S.1 12) ≤ x2 then (some (rI x1, S)) else (obI (fC_State_isPaid_9 x2 S) fun r2 T1 => (if r2 = 0 then (gd (ib x2 10) (if (rA T1 46 73) ≤ (rA T1 22 x2) then (fC_State_lateBits_9_4 n x1 (x2 + 1) T1) else (nx (x1 ||| ((1 : Int32) <<< ((x2 : Int32) &&& 31))) fun v3 => (fC_State_lateBits_9_4 n v3 (x2 + 1) T1)))) else (fC_State_lateBits_9_4 n x1 (x2 + 1) T1)))
def fC_State_lateBits_9     (S : St) : Oz := fC_State_lateBits_9_4  FU 0 0 S
def fC_State_oldBits_9_4    : Nat → Int32 → Int32 → St → Oz
  | 0, _, _, _ => none
  | n + 1, x1, x2, S => if (S.1 11) ≤ x2 then (some (rI x1, S)) else (obI (fC_State_isOld_9 x2 S) fun r2 T1 => (if r2 = 0 then (fC_State_oldBits_9_4 n x1 (x2 + 1) T1) else (nx (x1 ||| ((1 : Int32) <<< ((x2 : Int32) &&& 31))) fun v3 => (fC_State_oldBits_9_4 n v3 (x2 + 1) T1))))
def fC_State_oldBits_9     (S : St) : Oz := fC_State_oldBits_9_4  FU 0 0 S
def fC_State_allSlips_9_4    : Nat → Int32 → Int32 → St → Oz
  | 0, _, _, _ => none
  | n + 1, x1, x2, S => if (S.1 11) ≤ x2 then (some (rI x1, S)) else (gd (ib (60 + x2) 74) (nx (x1 + (rA S 46 (60 + x2))) fun v1 => (fC_State_allSlips_9_4 n v1 (x2 + 1) S)))
def fC_State_allSlips_9     (S : St) : Oz := fC_State_allSlips_9_4  FU 0 0 S
def fC_State_everyLine_9_4    : Nat → Int32 → Int32 → St → Oz
  | 0, _, _, _ => none
  | n + 1, x1, x2, S => if (S.1 11) ≤ x2 then (some (rI x1, S)) else (obI (fC_State_linesOf_9 x2 S) fun r2 T1 => (nx (x1 + r2) fun v3 => (fC_State_everyLine_9_4 n v3 (x2 + 1) T1)))
def fC_State_everyLine_9     (S : St) : Oz := fC_State_everyLine_9_4  FU 0 0 S
def fC_Main_told    (x1 : Int32) (S : St) : Oz := if x1 = 0 then (some (rI (S.1 10), S)) else if x1 = 1 then (some (rI (S.1 11), S)) else if x1 = 2 then (some (rI (S.1 12), S)) else if x1 = 3 then (obI (fC_State_week_9 S) fun r2 T1 => (some (rI r2, T1))) else if x1 = 4 then (obI (fC_State_paidBits_9 S) fun r4 T3 => (some (rI r4, T3))) else if x1 = 5 then (obI (fC_State_lateBits_9 S) fun r6 T5 => (some (rI r6, T5))) else if x1 = 6 then (obI (fC_State_oldBits_9 S) fun r8 T7 => (some (rI r8, T7))) else if x1 = 7 then (obI (fC_State_allSlips_9 S) fun r10 T9 => (some (rI r10, T9))) else if x1 = 8 then (obI (fC_State_everyLine_9 S) fun r12 T11 => (some (rI r12, T11))) else if x1 = 9 then (some (rI (S.1 20), S)) else if x1 = 10 then (some (rI (S.1 0), S)) else if x1 = 11 then (some (rI (S.1 13), S)) else (obI (fC_Main_refuseArgument S) fun r14 T13 => (some (rI r14, T13)))
def fC_Main_needElement_9     (S : St) : Oz := nx (sF S 1 ((S.1 1) + 1)) fun T1 => (some (rX 0, T1))
def fC_Main_needElement    (x1 : Int32) (x2 : Int32) (S : St) : Oz := if x1 < 0 then (fC_Main_needElement_9   S) else (if x1 < x2 then (some (rV, S)) else (fC_Main_needElement_9   S))
def fC_Main_needPoem    (x1 : Int32) (S : St) : Oz := obV (fC_Main_needElement x1 (S.1 10) S) fun T1 => (some (rV, T1))
def fC_State_knowsAll_9    (x1 : Int32) (x2 : Int32) (S : St) : Oz := obI (fC_State_place x1 x2 S) fun r2 T1 => (gd (ib r2 74) (gd (ib x2 8) (if (rA T1 46 r2) < (rA T1 15 x2) then (some (rI 0, T1)) else (some (rI 1, T1)))))
def fC_State_whoKnowAll_9_4    : Nat → Int32 → Int32 → Int32 → St → Oz
  | 0, _, _, _, _ => none
  | n + 1, x1, x2, x3, S => if (S.1 11) ≤ x3 then (some (rI x2, S)) else (obI (fC_State_knowsAll_9 x3 x1 S) fun r2 T1 => (if r2 = 0 then (fC_State_whoKnowAll_9_4 n x1 x2 (x3 + 1) T1) else (nx (x2 ||| ((1 : Int32) <<< ((x3 : Int32) &&& 31))) fun v3 => (fC_State_whoKnowAll_9_4 n x1 v3 (x3 + 1) T1))))
def fC_State_whoKnowAll_9    (x1 : Int32) (S : St) : Oz := fC_State_whoKnowAll_9_4  FU x1 0 0 S
def fC_Valley_debtsByPoem_2_4    : Nat → Int32 → Int32 → Int32 → St → Oz
  | 0, _, _, _, _ => none
  | n + 1, x1, x2, x3, S => if (S.1 12) ≤ x3 then (some (rI x2, S)) else (gd (ib x3 10) (if (rA S 20 x3) = x1 then (nx (x2 ||| ((1 : Int32) <<< ((x3 : Int32) &&& 31))) fun v1 => (fC_Valley_debtsByPoem_2_4 n x1 v1 (x3 + 1) S)) else (fC_Valley_debtsByPoem_2_4 n x1 x2 (x3 + 1) S)))
def fC_Valley_debtsByPoem_2    (x1 : Int32) (S : St) : Oz := fC_Valley_debtsByPoem_2_4  FU x1 0 0 S
def fC_Main_poem    (x1 : Int32) (x2 : Int32) (S : St) : Oz := obV (fC_Main_needPoem x1 S) fun T1 => (if x2 = 0 then (gd (ib x1 8) (some (rI (rA T1 15 x1), T1))) else if x2 = 1 then (gd (ib x1 8) (some (rI (rA T1 16 x1), T1))) else if x2 = 2 then (obI (fC_State_whoKnowAll_9 x1 T1) fun r4 T3 => (some (rI r4, T3))) else if x2 = 3 then (obI (fC_Valley_debtsByPoem_2 x1 T1) fun r6 T5 => (obI (fC_State_paidBits_9 T5) fun r8 T7 => (some (rI (r6 &&& (r8 ^^^ (-1))), T7)))) else (obI (fC_Main_refuseArgument T1) fun r10 T9 => (some (rI r10, T9))))
def fC_Main_needMan    (x1 : Int32) (S : St) : Oz := obV (fC_Main_needElement x1 (S.1 11) S) fun T1 => (some (rV, T1))
def fC_State_lessonsOf_9    (x1 : Int32) (S : St) : Oz := gd (ib (48 + x1) 74) (some (rI (rA S 46 (48 + x1)), S))
def fC_State_weekLessonsOf_9    (x1 : Int32) (S : St) : Oz := gd (ib (54 + x1) 74) (some (rI (rA S 46 (54 + x1)), S))
def fC_State_slipsOf_9    (x1 : Int32) (S : St) : Oz := gd (ib (60 + x1) 74) (some (rI (rA S 46 (60 + x1)), S))
def fC_Valley_debtsOfMan_2_4    : Nat → Int32 → Int32 → Int32 → St → Oz
  | 0, _, _, _, _ => none
  | n + 1, x1, x2, x3, S => if (S.1 12) ≤ x3 then (some (rI x2, S)) else (gd (ib x3 10) (if (rA S 19 x3) = x1 then (nx (x2 ||| ((1 : Int32) <<< ((x3 : Int32) &&& 31))) fun v1 => (fC_Valley_debtsOfMan_2_4 n x1 v1 (x3 + 1) S)) else (fC_Valley_debtsOfMan_2_4 n x1 x2 (x3 + 1) S)))
def fC_Valley_debtsOfMan_2    (x1 : Int32) (S : St) : Oz := fC_Valley_debtsOfMan_2_4  FU x1 0 0 S
def fC_State_freshBitsOf_9    (x1 : Int32) (S : St) : Oz := gd (ib (66 + x1) 74) (some (rI (rA S 46 (66 + x1)), S))
def fC_Main_man    (x1 : Int32) (x2 : Int32) (S : St) : Oz := obV (fC_Main_needMan x1 S) fun T1 => (if x2 = 0 then (gd (ib x1 6) (some (rI (rA T1 17 x1), T1))) else if x2 = 1 then (obI (fC_State_ageOf_9 x1 T1) fun r4 T3 => (some (rI r4, T3))) else if x2 = 2 then (obI (fC_State_roomOf_9 x1 T1) fun r6 T5 => (some (rI r6, T5))) else if x2 = 3 then (obI (fC_State_linesOf_9 x1 T1) fun r8 T7 => (some (rI r8, T7))) else if x2 = 4 then (obI (fC_State_lessonsOf_9 x1 T1) fun r10 T9 => (some (rI r10, T9))) else if x2 = 5 then (obI (fC_State_weekLessonsOf_9 x1 T1) fun r12 T11 => (some (rI r12, T11))) else if x2 = 6 then (obI (fC_State_slipsOf_9 x1 T1) fun r14 T13 => (some (rI r14, T13))) else if x2 = 7 then (obI (fC_Valley_debtsOfMan_2 x1 T1) fun r16 T15 => (obI (fC_State_paidBits_9 T15) fun r18 T17 => (some (rI (r16 &&& (r18 ^^^ (-1))), T17)))) else if x2 = 8 then (obI (fC_State_freshBitsOf_9 x1 T1) fun r20 T19 => (some (rI r20, T19))) else (obI (fC_Main_refuseArgument T1) fun r22 T21 => (some (rI r22, T21))))
def fC_Main_needDebt    (x1 : Int32) (S : St) : Oz := obV (fC_Main_needElement x1 (S.1 12) S) fun T1 => (some (rV, T1))
def fC_State_needOf_9    (x1 : Int32) (S : St) : Oz := gd (ib x1 10) (nx (rA S 19 x1) fun v1 => (gd (ib x1 10) (nx (rA S 20 x1) fun v2 => (gd (ib v2 8) (obI (fC_State_place v1 v2 S) fun r4 T3 => (gd (ib r4 74) (nx ((rA S 15 v2) - (rA T3 46 r4)) fun v5 => (if 0 < v5 then (obI (fC_State_roomOf_9 v1 T3) fun r7 T6 => (obI (fC_State_learnable_9 v1 v2 r7 T6) fun r9 T8 => (if 0 < r9 then (gd (nz r9) (some (rI (((v5 + r9) - 1) / r9), T8))) else (some (rI 41, T8))))) else (some (rI 0, T3))))))))))
def fC_Main_debt    (x1 : Int32) (x2 : Int32) (S : St) : Oz := obV (fC_Main_needDebt x1 S) fun T1 => (if x2 = 0 then (gd (ib x1 10) (some (rI (rA T1 19 x1), T1))) else if x2 = 1 then (gd (ib x1 10) (some (rI (rA T1 20 x1), T1))) else if x2 = 2 then (gd (ib x1 10) (some (rI (rA T1 21 x1), T1))) else if x2 = 3 then (gd (ib x1 10) (some (rI (rA T1 22 x1), T1))) else if x2 = 4 then (obI (fC_State_isPaid_9 x1 T1) fun r4 T3 => (if r4 = 0 then (some (rI 0, T3)) else (some (rI 1, T3)))) else if x2 = 5 then (obI (fC_State_isWellKnown_9 x1 T1) fun r6 T5 => (if r6 = 0 then (some (rI 0, T5)) else (some (rI 1, T5)))) else if x2 = 6 then (obI (fC_State_isPaid_9 x1 T1) fun r8 T7 => (if r8 = 0 then (obI (fC_State_needOf_9 x1 T7) fun r10 T9 => (some (rI r10, T9))) else (some (rI 0, T7)))) else (obI (fC_Main_refuseArgument T1) fun r12 T11 => (some (rI r12, T11))))
def fC_State_linesKnown_9    (x1 : Int32) (x2 : Int32) (S : St) : Oz := obI (fC_State_place x1 x2 S) fun r2 T1 => (gd (ib r2 74) (some (rI (rA T1 46 r2), T1)))
def fC_Main_knows    (x1 : Int32) (x2 : Int32) (S : St) : Oz := obV (fC_Main_needMan x1 S) fun T1 => (obV (fC_Main_needPoem x2 T1) fun T3 => (obI (fC_State_linesKnown_9 x1 x2 T3) fun r6 T5 => (some (rI r6, T5))))
def fC_Main_learns    (x1 : Int32) (x2 : Int32) (S : St) : Oz := obV (fC_Main_needMan x1 S) fun T1 => (obV (fC_Main_needPoem x2 T1) fun T3 => (obI (fC_State_roomOf_9 x1 T3) fun r6 T5 => (obI (fC_State_learnable_9 x1 x2 r6 T5) fun r8 T7 => (some (rI r8, T7)))))
def fC_Main_would_112    (x1 : Int32) (x2 : Int32) (x3 : Int32) (x4 : Int32) (x5 : Int32) (x6 : Int32) (x7 : Int32) (x8 : Int32) (s0 : Int32) (S : St) : Oz := obV (fC_Main_need s0 S) fun T1 => (obV (fC_Law_tellPoem_4 x1 x2 x3 T1) fun T3 => (obV (fC_Law_tellMan_4 x4 x5 x6 x7 x8 T3) fun T5 => (obI (fC_Law_outcome_4 T5) fun r8 T7 => (some (rI r8, T7)))))
def fC_Main_would_111    (x1 : Int32) (x2 : Int32) (x3 : Int32) (x4 : Int32) (x5 : Int32) (x6 : Int32) (x7 : Int32) (x8 : Int32) (S : St) : Oz := fC_Main_would_112  x1 x2 x3 x4 x5 x6 x7 x8 0 S
def fC_Main_would_81    (x1 : Int32) (x2 : Int32) (x3 : Int32) (x4 : Int32) (x5 : Int32) (x6 : Int32) (x7 : Int32) (x8 : Int32) (s0 : Int32) (S : St) : Oz := obV (fC_Main_need s0 S) fun T1 => (obI (fC_Main_isWithin x7 0 400 T1) fun r4 T3 => (if r4 = 0 then (fC_Main_would_111  x1 x2 x3 x4 x5 x6 x7 x8 T3) else (obI (fC_Main_isWithin x8 0 5 T3) fun r6 T5 => (if r6 = 0 then (fC_Main_would_111  x1 x2 x3 x4 x5 x6 x7 x8 T5) else (fC_Main_would_112  x1 x2 x3 x4 x5 x6 x7 x8 1 T5)))))
def fC_Main_would_80    (x1 : Int32) (x2 : Int32) (x3 : Int32) (x4 : Int32) (x5 : Int32) (x6 : Int32) (x7 : Int32) (x8 : Int32) (S : St) : Oz := fC_Main_would_81  x1 x2 x3 x4 x5 x6 x7 x8 0 S
def fC_Main_would_36    (x1 : Int32) (x2 : Int32) (x3 : Int32) (x4 : Int32) (x5 : Int32) (x6 : Int32) (x7 : Int32) (x8 : Int32) (s0 : Int32) (S : St) : Oz := obV (fC_Main_need s0 S) fun T1 => (obI (fC_Main_isWithin x4 0 99 T1) fun r4 T3 => (if r4 = 0 then (fC_Main_would_80  x1 x2 x3 x4 x5 x6 x7 x8 T3) else (obI (fC_Main_isWithin x5 10 150 T3) fun r6 T5 => (if r6 = 0 then (fC_Main_would_80  x1 x2 x3 x4 x5 x6 x7 x8 T5) else (obI (fC_Main_isWithin x6 0 999 T5) fun r8 T7 => (if r8 = 0 then (fC_Main_would_80  x1 x2 x3 x4 x5 x6 x7 x8 T7) else (fC_Main_would_81  x1 x2 x3 x4 x5 x6 x7 x8 1 T7)))))))
def fC_Main_would_35    (x1 : Int32) (x2 : Int32) (x3 : Int32) (x4 : Int32) (x5 : Int32) (x6 : Int32) (x7 : Int32) (x8 : Int32) (S : St) : Oz := fC_Main_would_36  x1 x2 x3 x4 x5 x6 x7 x8 0 S
def fC_Main_would    (x1 : Int32) (x2 : Int32) (x3 : Int32) (x4 : Int32) (x5 : Int32) (x6 : Int32) (x7 : Int32) (x8 : Int32) (S : St) : Oz := obI (fC_Main_isWithin x1 1 40 S) fun r2 T1 => (if r2 = 0 then (fC_Main_would_35  x1 x2 x3 x4 x5 x6 x7 x8 T1) else (obI (fC_Main_isWithin x2 0 9 T1) fun r4 T3 => (if r4 = 0 then (fC_Main_would_35  x1 x2 x3 x4 x5 x6 x7 x8 T3) else (obI (fC_Main_isWithin x3 0 40 T3) fun r6 T5 => (if r6 = 0 then (fC_Main_would_35  x1 x2 x3 x4 x5 x6 x7 x8 T5) else (fC_Main_would_36  x1 x2 x3 x4 x5 x6 x7 x8 1 T5))))))
def fC_State_copyFrom_13     (S : St) : Oz := gd (cpOK 0 0 74 74 74) (nx (sC S 46 52 0 0 74) fun T1 => (some (rV, T1)))
def fC_State_ageOf_13    (x1 : Int32) (S : St) : Oz := gd (ib x1 6) (some (rI ((rA S 18 x1) + ((rA S 52 73) / 10)), S))
def fC_State_lose_13_34    (s0 : Int32) (s1 : Int32) (S : St) : Oz := gd (ib s1 74) (nx (sA S 52 s1 s0) fun T1 => (some (rV, T1)))
def fC_State_lose_13    (x1 : Int32) (x2 : Int32) (x3 : Int32) (S : St) : Oz := obI (fC_State_place x1 x2 S) fun r2 T1 => (gd (ib r2 74) (nx ((rA T1 52 r2) - x3) fun v3 => (obI (fC_State_place x1 x2 T1) fun r5 T4 => (if 0 ≤ v3 then (fC_State_lose_13_34  v3 r5 T4) else (fC_State_lose_13_34  0 r5 T4)))))
def fC_State_endWeek_13_84   (K33 : Int32 → Int32 → Int32 → St → Oz) : Nat → Int32 → Int32 → Int32 → Int32 → Int32 → Int32 → Int32 → St → Oz
  | 0, _, _, _, _, _, _, _, _ => none
  | n + 1, x2, x3, x4, x5, x6, x7, x8, S => if (S.1 10) ≤ x8 then (gd (ib (66 + x4) 74) (nx (sA S 52 (66 + x4) 0) fun T1 => (gd (ib (54 + x4) 74) (nx (sA T1 52 (54 + x4) 0) fun T2 => (K33 x2 x3 (x4 + 1) T2))))) else (gd (ib (x6 + x8) 74) (if (rA S 52 (x6 + x8)) ≤ 0 then (fC_State_endWeek_13_84 K33 n x2 x3 x4 x5 x6 x7 (x8 + 1) S) else (if x5 = 0 then (if ((x7 >>> ((x8 : Int32) &&& 31)) &&& 1) = 0 then (obI (fC_Valley_fadedLines_2 x8 S) fun r4 T3 => (obV (fC_State_lose_13 x4 x8 r4 T3) fun T5 => (fC_State_endWeek_13_84 K33 n x2 x3 x4 x5 x6 x7 (x8 + 1) T5))) else (fC_State_endWeek_13_84 K33 n x2 x3 x4 x5 x6 x7 (x8 + 1) S)) else (gd (ib (x6 + x8) 74) (nx (sA S 52 (x6 + x8) 0) fun T7 => (fC_State_endWeek_13_84 K33 n x2 x3 x4 x5 x6 x7 (x8 + 1) T7))))))
def fC_State_endWeek_13_59   (K33 : Int32 → Int32 → Int32 → St → Oz) (x2 : Int32) (x3 : Int32) (x4 : Int32) (s0 : Int32) (S : St) : Oz := obI (fC_State_place x4 0 S) fun r2 T1 => (gd (ib (66 + x4) 74) (nx (rA T1 52 (66 + x4)) fun v3 => (fC_State_endWeek_13_84 K33 FU x2 x3 x4 s0 r2 v3 0 T1)))
def fC_State_endWeek_13_58   (K33 : Int32 → Int32 → Int32 → St → Oz) (x2 : Int32) (x3 : Int32) (x4 : Int32) (S : St) : Oz := fC_State_endWeek_13_59 K33 x2 x3 x4 0 S
def fC_State_endWeek_13_33    : Nat → Int32 → Int32 → Int32 → St → Oz
  | 0, _, _, _, _ => none
  | n + 1, x2, x3, x4, S => if x2 ≤ x4 then (some (rV, S)) else (if x3 = 0 then (fC_State_endWeek_13_58 (fun x2 x3 x4 S => fC_State_endWeek_13_33 n x2 x3 x4 S) x2 x3 x4 S) else (obI (fC_State_ageOf_13 x4 S) fun r2 T1 => (if r2 = 60 then (fC_State_endWeek_13_59 (fun x2 x3 x4 S => fC_State_endWeek_13_33 n x2 x3 x4 S) x2 x3 x4 1 T1) else (fC_State_endWeek_13_58 (fun x2 x3 x4 S => fC_State_endWeek_13_33 n x2 x3 x4 S) x2 x3 x4 T1))))
def fC_State_endWeek_13    (x1 : Int32) (x2 : Int32) (S : St) : Oz := nx (sA S 52 73 ((rA S 52 73) + 1)) fun T1 => (if ((rA T1 52 73) - (rA T1 52 73) / 10 * 10) = 0 then (fC_State_endWeek_13_33  FU x2 1 x1 T1) else (fC_State_endWeek_13_33  FU x2 0 x1 T1))
def fC_Outlook_afterWeeks_13    : Nat → Int32 → Int32 → St → Oz
  | 0, _, _, _ => none
  | n + 1, x1, x2, S => if x1 ≤ x2 then (some (rR 13, S)) else (obV (fC_State_endWeek_13 0 (S.1 11) S) fun T1 => (fC_Outlook_afterWeeks_13 n x1 (x2 + 1) T1))
def fC_Outlook_afterWeeks    (x1 : Int32) (S : St) : Oz := obV (fC_State_copyFrom_13 S) fun T1 => (fC_Outlook_afterWeeks_13  FU x1 0 T1)
def fC_State_linesOf_13_4    : Nat → Int32 → Int32 → Int32 → St → Oz
  | 0, _, _, _, _ => none
  | n + 1, x1, x2, x3, S => if (S.1 10) ≤ x3 then (some (rI x2, S)) else (obI (fC_State_place x1 x3 S) fun r2 T1 => (gd (ib r2 74) (nx (x2 + (rA T1 52 r2)) fun v3 => (fC_State_linesOf_13_4 n x1 v3 (x3 + 1) T1))))
def fC_State_linesOf_13    (x1 : Int32) (S : St) : Oz := fC_State_linesOf_13_4  FU x1 0 0 S
def fC_State_everyLine_13_4    : Nat → Int32 → Int32 → St → Oz
  | 0, _, _, _ => none
  | n + 1, x1, x2, S => if (S.1 11) ≤ x2 then (some (rI x1, S)) else (obI (fC_State_linesOf_13 x2 S) fun r2 T1 => (nx (x1 + r2) fun v3 => (fC_State_everyLine_13_4 n v3 (x2 + 1) T1)))
def fC_State_everyLine_13     (S : St) : Oz := fC_State_everyLine_13_4  FU 0 0 S
def fC_State_isPaid_13    (x1 : Int32) (S : St) : Oz := if (((rA S 52 72) >>> ((x1 : Int32) &&& 31)) &&& 1) = 1 then (some (rI 1, S)) else (some (rI 0, S))
def fC_State_lateBits_13_4    : Nat → Int32 → Int32 → St → Oz
  | 0, _, _, _ => none
  | n + 1, x1, x2, S => if (S.1 12) ≤ x2 then (some (rI x1, S)) else (obI (fC_State_isPaid_13 x2 S) fun r2 T1 => (if r2 = 0 then (gd (ib x2 10) (if (rA T1 52 73) ≤ (rA T1 22 x2) then (fC_State_lateBits_13_4 n x1 (x2 + 1) T1) else (nx (x1 ||| ((1 : Int32) <<< ((x2 : Int32) &&& 31))) fun v3 => (fC_State_lateBits_13_4 n v3 (x2 + 1) T1)))) else (fC_State_lateBits_13_4 n x1 (x2 + 1) T1)))
def fC_State_lateBits_13     (S : St) : Oz := fC_State_lateBits_13_4  FU 0 0 S
def fC_State_isOld_13    (x1 : Int32) (S : St) : Oz := gd (ib x1 6) (nx (rA S 18 x1) fun v1 => (if 60 ≤ v1 then (some (rI 0, S)) else (if (v1 + ((rA S 52 73) / 10)) < 60 then (some (rI 0, S)) else (some (rI 1, S)))))
def fC_State_oldBits_13_4    : Nat → Int32 → Int32 → St → Oz
  | 0, _, _, _ => none
  | n + 1, x1, x2, S => if (S.1 11) ≤ x2 then (some (rI x1, S)) else (obI (fC_State_isOld_13 x2 S) fun r2 T1 => (if r2 = 0 then (fC_State_oldBits_13_4 n x1 (x2 + 1) T1) else (nx (x1 ||| ((1 : Int32) <<< ((x2 : Int32) &&& 31))) fun v3 => (fC_State_oldBits_13_4 n v3 (x2 + 1) T1))))
def fC_State_oldBits_13     (S : St) : Oz := fC_State_oldBits_13_4  FU 0 0 S
def fC_Main_ahead_25    (x1 : Int32) (x2 : Int32) (s0 : Int32) (S : St) : Oz := obV (fC_Main_need s0 S) fun T1 => (obR 13 (fC_Outlook_afterWeeks x1 T1) fun T3 => (if x2 = 0 then (obI (fC_State_everyLine_13 T3) fun r6 T5 => (some (rI r6, T5))) else if x2 = 1 then (obI (fC_State_lateBits_13 T3) fun r8 T7 => (some (rI r8, T7))) else (obI (fC_State_oldBits_13 T3) fun r10 T9 => (some (rI r10, T9)))))
def fC_Main_ahead_24    (x1 : Int32) (x2 : Int32) (S : St) : Oz := fC_Main_ahead_25  x1 x2 0 S
def fC_Main_ahead    (x1 : Int32) (x2 : Int32) (S : St) : Oz := obI (fC_Main_isWithin x1 0 99 S) fun r2 T1 => (if r2 = 0 then (fC_Main_ahead_24  x1 x2 T1) else (obI (fC_Main_isWithin x2 0 2 T1) fun r4 T3 => (if r4 = 0 then (fC_Main_ahead_24  x1 x2 T3) else (fC_Main_ahead_25  x1 x2 1 T3))))
def fC_State_knowsAll_13    (x1 : Int32) (x2 : Int32) (S : St) : Oz := obI (fC_State_place x1 x2 S) fun r2 T1 => (gd (ib r2 74) (gd (ib x2 8) (if (rA T1 52 r2) < (rA T1 15 x2) then (some (rI 0, T1)) else (some (rI 1, T1)))))
def fC_State_memoryOf_13    (x1 : Int32) (S : St) : Oz := obI (fC_State_isOld_13 x1 S) fun r2 T1 => (if r2 = 0 then (gd (ib x1 6) (some (rI (rA T1 17 x1), T1))) else (gd (ib x1 6) (some (rI ((rA T1 17 x1) / 2), T1))))
def fC_State_roomOf_13    (x1 : Int32) (S : St) : Oz := obI (fC_State_memoryOf_13 x1 S) fun r2 T1 => (obI (fC_State_linesOf_13 x1 T1) fun r4 T3 => (nx (r2 - r4) fun v5 => (if 0 ≤ v5 then (some (rI v5, T3)) else (some (rI 0, T3)))))
def fC_State_learnable_13    (x1 : Int32) (x2 : Int32) (x3 : Int32) (S : St) : Oz := gd (ib x2 8) (gd (ib x2 8) (obI (fC_State_place x1 x2 S) fun r2 T1 => (gd (ib r2 74) (obV (fC_Law_tellPoem_4 (rA S 15 x2) (rA S 16 x2) (rA T1 52 r2) T1) fun T3 => (obI (fC_State_ageOf_13 x1 T3) fun r6 T5 => (gd (ib (48 + x1) 74) (obV (fC_Law_tellMan_4 x3 r6 (rA T5 52 (48 + x1)) (rA T5 52 73) x1 T5) fun T7 => (obI (fC_Law_outcome_4 T7) fun r10 T9 => (some (rI r10, T9))))))))))
def fC_State_gainOf_13_49    (x5 : Int32) (s0 : Int32) (S : St) : Oz := if x5 ≤ s0 then (some (rI x5, S)) else (some (rI s0, S))
def fC_State_gainOf_13    (x1 : Int32) (x2 : Int32) (S : St) : Oz := obI (fC_State_roomOf_13 x1 S) fun r2 T1 => (obI (fC_State_learnable_13 x1 x2 r2 T1) fun r4 T3 => (gd (ib x2 8) (obI (fC_State_place x1 x2 T3) fun r6 T5 => (gd (ib r6 74) (nx ((rA T3 15 x2) - (rA T5 52 r6)) fun v7 => (if r2 ≤ r4 then (fC_State_gainOf_13_49  v7 r2 T5) else (fC_State_gainOf_13_49  v7 r4 T5)))))))
def fC_State_teach_13    (x1 : Int32) (x2 : Int32) (S : St) : Oz := obI (fC_State_gainOf_13 x1 x2 S) fun r2 T1 => (if 0 < r2 then (obI (fC_State_place x1 x2 T1) fun r4 T3 => (gd (ib r4 74) (gd (ib r4 74) (nx (sA T3 52 r4 ((rA T3 52 r4) + r2)) fun T5 => (gd (ib (48 + x1) 74) (gd (ib (48 + x1) 74) (nx (sA T5 52 (48 + x1) ((rA T5 52 (48 + x1)) + 1)) fun T6 => (gd (ib (54 + x1) 74) (gd (ib (54 + x1) 74) (nx (sA T6 52 (54 + x1) ((rA T6 52 (54 + x1)) + 1)) fun T7 => (gd (ib (66 + x1) 74) (gd (ib (66 + x1) 74) (nx (sA T7 52 (66 + x1) ((rA T7 52 (66 + x1)) ||| ((1 : Int32) <<< ((x2 : Int32) &&& 31)))) fun T8 => (some (rI 1, T8))))))))))))))) else (some (rI 0, T1)))
def fC_Outlook_lessonsFor_48   (K13 : Int32 → Int32 → Int32 → St → Oz) (x1 : Int32) (x2 : Int32) (x3 : Int32) (S : St) : Oz := obI (fC_State_teach_13 x1 x2 S) fun r2 T1 => (K13 x1 x2 (x3 + 1) T1)
def fC_Outlook_lessonsFor_13    : Nat → Int32 → Int32 → Int32 → St → Oz
  | 0, _, _, _, _ => none
  | n + 1, x1, x2, x3, S => if 40 < x3 then (some (rI 41, S)) else (obI (fC_State_knowsAll_13 x1 x2 S) fun r2 T1 => (if r2 = 0 then (if x3 ≤ 0 then (fC_Outlook_lessonsFor_48 (fun x1 x2 x3 S => fC_Outlook_lessonsFor_13 n x1 x2 x3 S) x1 x2 x3 T1) else (obV (fC_State_endWeek_13 x1 (x1 + 1) T1) fun T3 => (fC_Outlook_lessonsFor_48 (fun x1 x2 x3 S => fC_Outlook_lessonsFor_13 n x1 x2 x3 S) x1 x2 x3 T3))) else (some (rI x3, T1))))
def fC_Outlook_lessonsFor    (x1 : Int32) (x2 : Int32) (S : St) : Oz := obV (fC_State_copyFrom_13 S) fun T1 => (fC_Outlook_lessonsFor_13  FU x1 x2 0 T1)
def fC_Main_lessons    (x1 : Int32) (x2 : Int32) (S : St) : Oz := obV (fC_Main_needMan x1 S) fun T1 => (obV (fC_Main_needPoem x2 T1) fun T3 => (obI (fC_Outlook_lessonsFor x1 x2 T3) fun r6 T5 => (if r6 = 41 then (some (rI (-1), T5)) else (some (rI r6, T5)))))
def fC_PayChoice_sortByDue_98   (K7 : Int32 → Int32 → St → Oz) (x1 : Int32) (x2 : Int32) (x3 : Int32) (S : St) : Oz := gd (ib x3 10) (nx (sA S 50 x3 x2) fun T1 => (nx (sF T1 29 ((T1.1 29) + 1)) fun T2 => (K7 x1 (x2 + 1) T2)))
def fC_PayChoice_sortByDue_46   (K7 : Int32 → Int32 → St → Oz) : Nat → Int32 → Int32 → Int32 → St → Oz
  | 0, _, _, _, _ => none
  | n + 1, x1, x2, x3, S => if x3 ≤ 0 then (fC_PayChoice_sortByDue_98 K7 x1 x2 x3 S) else (gd (ib (x3 - 1) 10) (gd (ib (rA S 50 (x3 - 1)) 10) (gd (ib x2 10) (if (rA S 22 (rA S 50 (x3 - 1))) ≤ (rA S 22 x2) then (fC_PayChoice_sortByDue_98 K7 x1 x2 x3 S) else (gd (ib (x3 - 1) 10) (gd (ib x3 10) (nx (sA S 50 x3 (rA S 50 (x3 - 1))) fun T1 => (fC_PayChoice_sortByDue_46 K7 n x1 x2 (x3 + (-1)) T1))))))))
def fC_PayChoice_sortByDue_7    : Nat → Int32 → Int32 → St → Oz
  | 0, _, _, _ => none
  | n + 1, x1, x2, S => if (S.1 12) ≤ x2 then (some (rV, S)) else (if ((x1 >>> ((x2 : Int32) &&& 31)) &&& 1) = 1 then (obI (fC_State_needOf_9 x2 S) fun r2 T1 => (gd (ib x2 10) (nx (sA T1 51 x2 r2) fun T3 => (nx (T3.1 29) fun v4 => (fC_PayChoice_sortByDue_46 (fun x1 x2 S => fC_PayChoice_sortByDue_7 n x1 x2 S) FU x1 x2 v4 T3))))) else (fC_PayChoice_sortByDue_7 n x1 (x2 + 1) S))
def fC_PayChoice_sortByDue    (x1 : Int32) (S : St) : Oz := nx (sF S 29 0) fun T1 => (fC_PayChoice_sortByDue_7  FU x1 0 T1)
def fC_Integer_bitCount    (x0 : Int32) (S : St) : Oz := nx (x0 - ((((x0 : Int32).toUInt32 >>> ((1 : Int32).toUInt32 &&& Int32.toUInt32 31)).toInt32) &&& 1431655765)) fun v1 => (nx ((v1 &&& 858993459) + ((((v1 : Int32).toUInt32 >>> ((2 : Int32).toUInt32 &&& Int32.toUInt32 31)).toInt32) &&& 858993459)) fun v2 => (nx ((v2 + (((v2 : Int32).toUInt32 >>> ((4 : Int32).toUInt32 &&& Int32.toUInt32 31)).toInt32)) &&& 252645135) fun v3 => (nx (v3 + (((v3 : Int32).toUInt32 >>> ((8 : Int32).toUInt32 &&& Int32.toUInt32 31)).toInt32)) fun v4 => (nx (v4 + (((v4 : Int32).toUInt32 >>> ((16 : Int32).toUInt32 &&& Int32.toUInt32 31)).toInt32)) fun v5 => (some (rI (v5 &&& 63), S))))))
def fC_PayChoice_linesOfEach_4    : Nat → Int32 → Int32 → Int32 → St → Oz
  | 0, _, _, _, _ => none
  | n + 1, x1, x2, x3, S => if (S.1 29) ≤ x3 then (some (rI x2, S)) else (gd (ib x3 10) (if ((x1 >>> ((rA S 50 x3 : Int32) &&& 31)) &&& 1) = 1 then (gd (ib x3 10) (gd (ib (rA S 50 x3) 10) (gd (ib (rA S 20 (rA S 50 x3)) 8) (nx (x2 + (rA S 15 (rA S 20 (rA S 50 x3)))) fun v1 => (fC_PayChoice_linesOfEach_4 n x1 v1 (x3 + 1) S))))) else (fC_PayChoice_linesOfEach_4 n x1 x2 (x3 + 1) S)))
def fC_PayChoice_linesOfEach    (x1 : Int32) (S : St) : Oz := fC_PayChoice_linesOfEach_4  FU x1 0 0 S
def fC_PayChoice_isBetter    (x1 : Int32) (x2 : Int32) (S : St) : Oz := obI (fC_Integer_bitCount x1 S) fun r2 T1 => (obI (fC_Integer_bitCount x2 T1) fun r4 T3 => (nx (r2 - r4) fun v5 => (if 0 < v5 then (some (rI 1, T3)) else (if v5 = 0 then (obI (fC_PayChoice_linesOfEach x1 T3) fun r7 T6 => (obI (fC_PayChoice_linesOfEach x2 T6) fun r9 T8 => (if r7 ≤ r9 then (some (rI 0, T8)) else (some (rI 1, T8))))) else (some (rI 0, T3))))))
def fC_PayChoice_hasMemory_8    : Nat → Int32 → Int32 → Int32 → Int32 → Int32 → St → Oz
  | 0, _, _, _, _, _, _ => none
  | n + 1, x1, x2, x3, x4, x5, S => if (S.1 29) ≤ x5 then (obI (fC_State_memoryOf_9 x1 S) fun r2 T1 => (if r2 < x3 then (some (rI 0, T1)) else (some (rI 1, T1)))) else (gd (ib x5 10) (gd (ib (rA S 50 x5) 10) (nx (rA S 20 (rA S 50 x5)) fun v3 => (gd (ib x5 10) (if ((x2 >>> ((rA S 50 x5 : Int32) &&& 31)) &&& 1) = 1 then (if ((x4 >>> ((v3 : Int32) &&& 31)) &&& 1) = 0 then (nx (x4 ||| ((1 : Int32) <<< ((v3 : Int32) &&& 31))) fun v4 => (gd (ib v3 8) (nx (x3 + (rA S 15 v3)) fun v5 => (fC_PayChoice_hasMemory_8 n x1 x2 v5 v4 (x5 + 1) S)))) else (fC_PayChoice_hasMemory_8 n x1 x2 x3 x4 (x5 + 1) S)) else (fC_PayChoice_hasMemory_8 n x1 x2 x3 x4 (x5 + 1) S))))))
def fC_PayChoice_hasMemory    (x1 : Int32) (x2 : Int32) (S : St) : Oz := fC_PayChoice_hasMemory_8  FU x1 x2 0 0 0 S
def fC_PayChoice_isInTime_4    : Nat → Int32 → Int32 → Int32 → St → Oz
  | 0, _, _, _, _ => none
  | n + 1, x1, x2, x3, S => if (S.1 29) ≤ x3 then (some (rI 1, S)) else (gd (ib x3 10) (nx (rA S 50 x3) fun v1 => (if ((x1 >>> ((v1 : Int32) &&& 31)) &&& 1) = 1 then (gd (ib v1 10) (nx (x2 + (rA S 51 v1)) fun v2 => (gd (ib v1 10) (obI (fC_State_week_9 S) fun r4 T3 => (if v2 ≤ ((rA S 22 v1) - r4) then (fC_PayChoice_isInTime_4 n x1 v2 (x3 + 1) T3) else (some (rI 0, T3))))))) else (fC_PayChoice_isInTime_4 n x1 x2 (x3 + 1) S))))
def fC_PayChoice_isInTime    (x1 : Int32) (S : St) : Oz := fC_PayChoice_isInTime_4  FU x1 0 0 S
def fC_PayChoice_chosenFor_29    : Nat → Int32 → Int32 → Int32 → Int32 → St → Oz
  | 0, _, _, _, _, _ => none
  | n + 1, x1, x2, x3, x4, S => if x2 < x4 then (some (rI x3, S)) else (if (x4 &&& (x2 ^^^ (-1))) = 0 then (obI (fC_PayChoice_isBetter x4 x3 S) fun r2 T1 => (if r2 = 0 then (fC_PayChoice_chosenFor_29 n x1 x2 x3 (x4 + 1) T1) else (obI (fC_PayChoice_hasMemory x1 x4 T1) fun r4 T3 => (if r4 = 0 then (fC_PayChoice_chosenFor_29 n x1 x2 x3 (x4 + 1) T3) else (obI (fC_PayChoice_isInTime x4 T3) fun r6 T5 => (if r6 = 0 then (fC_PayChoice_chosenFor_29 n x1 x2 x3 (x4 + 1) T5) else (fC_PayChoice_chosenFor_29 n x1 x2 x4 (x4 + 1) T5))))))) else (fC_PayChoice_chosenFor_29 n x1 x2 x3 (x4 + 1) S))
def fC_PayChoice_chosenFor    (x1 : Int32) (S : St) : Oz := obI (fC_Valley_debtsOfMan_2 x1 S) fun r2 T1 => (obI (fC_State_paidBits_9 T1) fun r4 T3 => (nx (r2 &&& (r4 ^^^ (-1))) fun v5 => (obV (fC_PayChoice_sortByDue v5 T3) fun T6 => (fC_PayChoice_chosenFor_29  FU x1 v5 0 1 T6))))
def fC_Main_pays    (x1 : Int32) (S : St) : Oz := obV (fC_Main_needMan x1 S) fun T1 => (obI (fC_PayChoice_chosenFor x1 T1) fun r4 T3 => (some (rI r4, T3)))
def fC_Outlook_hardestFor_7    : Nat → Int32 → Int32 → Int32 → Int32 → St → Oz
  | 0, _, _, _, _, _ => none
  | n + 1, x1, x2, x3, x4, S => if (S.1 10) ≤ x4 then (some (rI x2, S)) else (obI (fC_Outlook_lessonsFor x1 x4 S) fun r2 T1 => (if r2 ≤ x3 then (fC_Outlook_hardestFor_7 n x1 x2 x3 (x4 + 1) T1) else (fC_Outlook_hardestFor_7 n x1 x4 r2 (x4 + 1) T1)))
def fC_Outlook_hardestFor    (x1 : Int32) (S : St) : Oz := fC_Outlook_hardestFor_7  FU x1 (-1) (-1) 0 S
def fC_Main_hardest    (x1 : Int32) (S : St) : Oz := obV (fC_Main_needMan x1 S) fun T1 => (obI (fC_Outlook_hardestFor x1 T1) fun r4 T3 => (some (rI r4, T3)))
def fC_Book_agrees_6_65   (K3 : Int32 → Int32 → Int32 → St → Oz) (x2 : Int32) (x3 : Int32) (x4 : Int32) (x5 : Int32) (S : St) : Oz := gd (ib x4 6) (if x5 = (rA S 39 x4) then (K3 x2 x3 (x4 + 1) S) else (some (rI 0, S)))
def fC_Book_agrees_6_3    : Nat → Int32 → Int32 → Int32 → St → Oz
  | 0, _, _, _, _ => none
  | n + 1, x2, x3, x4, S => if (S.1 20) ≤ x4 then (some (rI 1, S)) else (gd (ib x4 6) (gd (ib x4 6) (obI (fC_State_linesKnown_9 (rA S 37 x4) (rA S 38 x4) S) fun r2 T1 => (gd (ib x4 6) (if (rA T1 37 x4) = x2 then (gd (ib x4 6) (if (rA T1 38 x4) = x3 then (obI (fC_State_gainOf_9 x2 x3 T1) fun r4 T3 => (nx (r2 + r4) fun v5 => (fC_Book_agrees_6_65 (fun x2 x3 x4 S => fC_Book_agrees_6_3 n x2 x3 x4 S) x2 x3 x4 v5 T3))) else (fC_Book_agrees_6_65 (fun x2 x3 x4 S => fC_Book_agrees_6_3 n x2 x3 x4 S) x2 x3 x4 r2 T1))) else (fC_Book_agrees_6_65 (fun x2 x3 x4 S => fC_Book_agrees_6_3 n x2 x3 x4 S) x2 x3 x4 r2 T1))))))
def fC_Book_agrees_6    (x2 : Int32) (x3 : Int32) (S : St) : Oz := fC_Book_agrees_6_3  FU x2 x3 0 S
def fC_Main_fits_32   (K17 : Int32 → Int32 → Int32 → Int32 → St → Oz) : Nat → Int32 → Int32 → Int32 → Int32 → Int32 → St → Oz
  | 0, _, _, _, _, _, _ => none
  | n + 1, x1, x2, x3, x4, x5, S => if (S.1 10) ≤ x5 then (K17 x1 x2 x3 (x4 + 1) S) else (obI (fC_Book_agrees_6 x4 x5 S) fun r2 T1 => (if r2 = 0 then (fC_Main_fits_32 K17 n x1 x2 x3 x4 (x5 + 1) T1) else (if x3 = (-1) then (nx ((10 * x4) + x5) fun v3 => (fC_Main_fits_32 K17 n x1 (x2 + 1) v3 x4 (x5 + 1) T1)) else (fC_Main_fits_32 K17 n x1 (x2 + 1) x3 x4 (x5 + 1) T1))))
def fC_Main_fits_17    : Nat → Int32 → Int32 → Int32 → Int32 → St → Oz
  | 0, _, _, _, _, _ => none
  | n + 1, x1, x2, x3, x4, S => if (S.1 11) ≤ x4 then (if x1 = 0 then (some (rI x2, S)) else (some (rI x3, S))) else (fC_Main_fits_32 (fun x1 x2 x3 x4 S => fC_Main_fits_17 n x1 x2 x3 x4 S) FU x1 x2 x3 x4 0 S)
def fC_Main_fits    (x1 : Int32) (S : St) : Oz := obI (fC_Main_isWithin x1 0 1 S) fun r2 T1 => (obV (fC_Main_need r2 T1) fun T3 => (fC_Main_fits_17  FU x1 0 (-1) 0 T3))
def fC_Main_pairsThatFit_17   (K4 : Int32 → Int32 → St → Oz) : Nat → Int32 → Int32 → Int32 → St → Oz
  | 0, _, _, _, _ => none
  | n + 1, x1, x2, x3, S => if (S.1 10) ≤ x3 then (K4 x1 (x2 + 1) S) else (obI (fC_Book_agrees_6 x2 x3 S) fun r2 T1 => (if r2 = 0 then (nx (x1 + 0) fun v3 => (fC_Main_pairsThatFit_17 K4 n v3 x2 (x3 + 1) T1)) else (nx (x1 + 1) fun v4 => (fC_Main_pairsThatFit_17 K4 n v4 x2 (x3 + 1) T1))))
def fC_Main_pairsThatFit_4    : Nat → Int32 → Int32 → St → Oz
  | 0, _, _, _ => none
  | n + 1, x1, x2, S => if (S.1 11) ≤ x2 then (some (rI x1, S)) else (fC_Main_pairsThatFit_17 (fun x1 x2 S => fC_Main_pairsThatFit_4 n x1 x2 S) FU x1 x2 0 S)
def fC_Main_pairsThatFit     (S : St) : Oz := fC_Main_pairsThatFit_4  FU 0 0 S
def fC_Book_tells_6_2    : Nat → Int32 → Int32 → Int32 → St → Oz
  | 0, _, _, _, _ => none
  | n + 1, x1, x2, x3, S => if (S.1 20) ≤ x3 then (some (rI 0, S)) else (gd (ib x3 6) (if (rA S 37 x3) = x1 then (gd (ib x3 6) (if (rA S 38 x3) = x2 then (some (rI 1, S)) else (fC_Book_tells_6_2 n x1 x2 (x3 + 1) S))) else (fC_Book_tells_6_2 n x1 x2 (x3 + 1) S)))
def fC_Book_tells_6    (x1 : Int32) (x2 : Int32) (S : St) : Oz := fC_Book_tells_6_2  FU x1 x2 0 S
def fC_Main_leftAtWorst    (x1 : Int32) (x2 : Int32) (x3 : Int32) (S : St) : Oz := obI (fC_State_gainOf_9 x1 x2 S) fun r2 T1 => (if r2 ≤ 0 then (some (rI x3, T1)) else (obI (fC_Book_agrees_6 x1 x2 T1) fun r4 T3 => (if r4 = 0 then (some (rI x3, T3)) else (some (rI (if x3 - 1 < 1 then 1 else x3 - 1), T3)))))
def fC_Main_look_87   (K23 : Int32 → Int32 → Int32 → Int32 → Int32 → St → Oz) (K38 : Int32 → Int32 → Int32 → Int32 → Int32 → Int32 → St → Oz) (x1 : Int32) (x2 : Int32) (x5 : Int32) (x6 : Int32) (x7 : Int32) (S : St) : Oz := nx ((10 * x5) + x6) fun v1 => (K38 x1 x2 v1 x7 x5 (x6 + 1) S)
def fC_Main_look_38   (K23 : Int32 → Int32 → Int32 → Int32 → Int32 → St → Oz) : Nat → Int32 → Int32 → Int32 → Int32 → Int32 → Int32 → St → Oz
  | 0, _, _, _, _, _, _, _ => none
  | n + 1, x1, x2, x3, x4, x5, x6, S => if (S.1 10) ≤ x6 then (K23 x1 x2 x3 x4 (x5 + 1) S) else (obI (fC_Book_tells_6 x5 x6 S) fun r2 T1 => (if r2 = 0 then (obI (fC_Main_leftAtWorst x5 x6 x2 T1) fun r4 T3 => (if x3 = (-1) then (fC_Main_look_87 K23 (fun x1 x2 x3 x4 x5 x6 S => fC_Main_look_38 K23 n x1 x2 x3 x4 x5 x6 S) x1 x2 x5 x6 r4 T3) else (if x4 ≤ r4 then (fC_Main_look_38 K23 n x1 x2 x3 x4 x5 (x6 + 1) T3) else (fC_Main_look_87 K23 (fun x1 x2 x3 x4 x5 x6 S => fC_Main_look_38 K23 n x1 x2 x3 x4 x5 x6 S) x1 x2 x5 x6 r4 T3)))) else (fC_Main_look_38 K23 n x1 x2 x3 x4 x5 (x6 + 1) T1)))
def fC_Main_look_23    : Nat → Int32 → Int32 → Int32 → Int32 → Int32 → St → Oz
  | 0, _, _, _, _, _, _ => none
  | n + 1, x1, x2, x3, x4, x5, S => if (S.1 11) ≤ x5 then (if x1 = 0 then (some (rI x3, S)) else (some (rI x4, S))) else (fC_Main_look_38 (fun x1 x2 x3 x4 x5 S => fC_Main_look_23 n x1 x2 x3 x4 x5 S) FU x1 x2 x3 x4 x5 0 S)
def fC_Main_look    (x1 : Int32) (S : St) : Oz := obI (fC_Main_isWithin x1 0 1 S) fun r2 T1 => (obV (fC_Main_need r2 T1) fun T3 => (obI (fC_Main_pairsThatFit T3) fun r6 T5 => (fC_Main_look_23  FU x1 r6 (-1) (-1) 0 T5)))
def fC_Main_power_5    : Nat → Int32 → Int32 → Int64 → Int32 → St → Oz
  | 0, _, _, _, _, _ => none
  | n + 1, x0, x1, x2, x4, S => if x1 ≤ x4 then (some (rL x2, S)) else (nx (x2 * ((x0 : Int32).toInt64)) fun v1 => (fC_Main_power_5 n x0 x1 v1 (x4 + 1) S))
def fC_Main_power    (x0 : Int32) (x1 : Int32) (S : St) : Oz := fC_Main_power_5  FU x0 x1 1 0 S
def fC_Main_choices_5    : Nat → Int32 → Int32 → Int64 → Int32 → St → Oz
  | 0, _, _, _, _, _ => none
  | n + 1, x0, x1, x2, x4, S => if x1 < x4 then (some (rL x2, S)) else (gd (nzL ((x4 : Int32).toInt64)) (nx ((x2 * (((x0 - x1) + x4 : Int32).toInt64)) / ((x4 : Int32).toInt64)) fun v1 => (fC_Main_choices_5 n x0 x1 v1 (x4 + 1) S)))
def fC_Main_choices    (x0 : Int32) (x1 : Int32) (S : St) : Oz := fC_Main_choices_5  FU x0 x1 1 1 S
def fC_Main_kept_149    (x4 : Int32) (x5 : Int64) (x7 : Int64) (S : St) : Oz := if x4 = 0 then (some (rL x5, S)) else (some (rL x7, S))
def fC_Main_kept_108    : Nat → Int32 → Int32 → Int64 → Int64 → Int32 → St → Oz
  | 0, _, _, _, _, _, _ => none
  | n + 1, x1, x4, x5, x7, x9, S => if (4 * x1) ≤ x9 then (fC_Main_kept_149  x4 x5 x7 S) else (if (lg_cmp (x5 - x5 / 2 * 2) 0) = 0 then (nx (x5 / 2) fun v1 => (nx (x7 / 2) fun v2 => (fC_Main_kept_108 n x1 x4 v1 v2 (x9 + 1) S))) else (fC_Main_kept_149  x4 x5 x7 S))
def fC_Main_kept_55    : Nat → Int32 → Int32 → Int32 → Int64 → Int32 → St → Oz
  | 0, _, _, _, _, _, _ => none
  | n + 1, x1, x3, x4, x5, x7, S => if x1 < x7 then (obL (fC_Main_power 16 x1 S) fun r2 T1 => (fC_Main_kept_108  FU x1 x4 x5 r2 0 T1)) else (obL (fC_Main_choices x1 x7 S) fun r4 T3 => (obL (fC_Main_power (16 - x3) x7 T3) fun r6 T5 => (obL (fC_Main_power x3 (x1 - x7) T5) fun r8 T7 => (nx (x5 + ((r4 * r6) * r8)) fun v9 => (fC_Main_kept_55 n x1 x3 x4 v9 (x7 + 1) T7)))))
def fC_Main_kept_46    (x1 : Int32) (x2 : Int32) (x3 : Int32) (x4 : Int32) (s0 : Int32) (S : St) : Oz := obV (fC_Main_need s0 S) fun T1 => (fC_Main_kept_55  FU x1 x3 x4 0 x2 T1)
def fC_Main_kept_45    (x1 : Int32) (x2 : Int32) (x3 : Int32) (x4 : Int32) (S : St) : Oz := fC_Main_kept_46  x1 x2 x3 x4 0 S
def fC_Main_kept    (x1 : Int32) (x2 : Int32) (x3 : Int32) (x4 : Int32) (S : St) : Oz := obI (fC_Main_isWithin x1 0 12 S) fun r2 T1 => (if r2 = 0 then (fC_Main_kept_45  x1 x2 x3 x4 T1) else (obI (fC_Main_isWithin x2 0 13 T1) fun r4 T3 => (if r4 = 0 then (fC_Main_kept_45  x1 x2 x3 x4 T3) else (obI (fC_Main_isWithin x3 0 16 T3) fun r6 T5 => (if r6 = 0 then (fC_Main_kept_45  x1 x2 x3 x4 T5) else (obI (fC_Main_isWithin x4 0 1 T5) fun r8 T7 => (if r8 = 0 then (fC_Main_kept_45  x1 x2 x3 x4 T7) else (fC_Main_kept_46  x1 x2 x3 x4 1 T7))))))))
def fC_Main_fairShare    (x0 : Int32) (x1 : Int32) (x2 : Int32) (x3 : Int32) (S : St) : Oz := if x1 = 1 then (some (rI 0, S)) else (if x0 = 0 then (some (rI x2, S)) else (some (rI x3, S)))
def fC_Main_fair_59   (K50 : Int32 → Int32 → Int32 → Int32 → Int32 → Int32 → Int32 → St → Oz) : Nat → Int32 → Int32 → Int32 → Int32 → Int32 → Int32 → Int32 → Int32 → St → Oz
  | 0, _, _, _, _, _, _, _, _, _ => none
  | n + 1, x1, x2, x3, x4, x5, x6, x7, x8, S => if 1 < x8 then (K50 x1 x2 x3 x4 x5 x6 (x7 + 1) S) else (obI (fC_Main_fairShare x7 x8 x1 x2 S) fun r2 T1 => (obI (fC_Main_fairShare x8 x7 x1 x2 T1) fun r4 T3 => (obI (fC_Main_fairShare (1 - x7) x8 x1 x2 T3) fun r6 T5 => (if r2 < r6 then (fC_Main_fair_59 K50 n x1 x2 x3 x4 x5 x6 x7 (x8 + 1) T5) else (obI (fC_Main_fairShare (1 - x8) x7 x1 x2 T5) fun r8 T7 => (if r4 < r8 then (fC_Main_fair_59 K50 n x1 x2 x3 x4 x5 x6 x7 (x8 + 1) T7) else (if x5 = (-1) then (nx ((10 * x7) + x8) fun v9 => (nx (r2 + r4) fun v10 => (fC_Main_fair_59 K50 n x1 x2 x3 (x4 + 1) v9 v10 x7 (x8 + 1) T7))) else (fC_Main_fair_59 K50 n x1 x2 x3 (x4 + 1) x5 x6 x7 (x8 + 1) T7))))))))
def fC_Main_fair_50    : Nat → Int32 → Int32 → Int32 → Int32 → Int32 → Int32 → Int32 → St → Oz
  | 0, _, _, _, _, _, _, _, _ => none
  | n + 1, x1, x2, x3, x4, x5, x6, x7, S => if 1 < x7 then (if x3 = 0 then (some (rI x4, S)) else if x3 = 1 then (some (rI x5, S)) else (some (rI x6, S))) else (fC_Main_fair_59 (fun x1 x2 x3 x4 x5 x6 x7 S => fC_Main_fair_50 n x1 x2 x3 x4 x5 x6 x7 S) FU x1 x2 x3 x4 x5 x6 x7 0 S)
def fC_Main_fair_35    (x1 : Int32) (x2 : Int32) (x3 : Int32) (s0 : Int32) (S : St) : Oz := obV (fC_Main_need s0 S) fun T1 => (fC_Main_fair_50  FU x1 x2 x3 0 (-1) 0 0 T1)
def fC_Main_fair_34    (x1 : Int32) (x2 : Int32) (x3 : Int32) (S : St) : Oz := fC_Main_fair_35  x1 x2 x3 0 S
def fC_Main_fair    (x1 : Int32) (x2 : Int32) (x3 : Int32) (S : St) : Oz := obI (fC_Main_isWithin x1 0 99 S) fun r2 T1 => (if r2 = 0 then (fC_Main_fair_34  x1 x2 x3 T1) else (obI (fC_Main_isWithin x2 0 99 T1) fun r4 T3 => (if r4 = 0 then (fC_Main_fair_34  x1 x2 x3 T3) else (obI (fC_Main_isWithin x3 0 2 T3) fun r6 T5 => (if r6 = 0 then (fC_Main_fair_34  x1 x2 x3 T5) else (fC_Main_fair_35  x1 x2 x3 1 T5))))))
def fC_Valley_areMen_2    (x1 : Int32) (S : St) : Oz := if (((x1 : Int32).toUInt32 >>> ((S.1 11 : Int32).toUInt32 &&& Int32.toUInt32 31)).toInt32) = 0 then (some (rI 1, S)) else (some (rI 0, S))
def fC_Main_candlesGiven_5    : Nat → Int32 → Int32 → Int32 → Int32 → St → Oz
  | 0, _, _, _, _, _ => none
  | n + 1, x1, x2, x3, x4, S => if (S.1 11) ≤ x4 then (some (rI x3, S)) else (if ((x1 >>> ((x4 : Int32) &&& 31)) &&& 1) = 1 then (obI (fC_State_linesOf_9 x4 S) fun r2 T1 => (nx (x3 + (if x2 < r2 then x2 else r2)) fun v3 => (fC_Main_candlesGiven_5 n x1 x2 v3 (x4 + 1) T1))) else (fC_Main_candlesGiven_5 n x1 x2 x3 (x4 + 1) S))
def fC_Main_candlesGiven    (x1 : Int32) (x2 : Int32) (S : St) : Oz := fC_Main_candlesGiven_5  FU x1 x2 0 0 S
def fC_Main_candles_72    (x1 : Int32) (x4 : Int32) (S : St) : Oz := obI (fC_State_linesOf_9 x1 S) fun r2 T1 => (some (rI (if x4 < r2 then x4 else r2), T1))
def fC_Main_candles_50    : Nat → Int32 → Int32 → Int32 → Int32 → St → Oz
  | 0, _, _, _, _, _ => none
  | n + 1, x1, x2, x3, x4, S => if x4 ≤ 0 then (fC_Main_candles_72  x1 x4 S) else (obI (fC_Main_candlesGiven x2 x4 S) fun r2 T1 => (if r2 ≤ x3 then (fC_Main_candles_72  x1 x4 T1) else (fC_Main_candles_50 n x1 x2 x3 (x4 + (-1)) T1)))
def fC_Main_candles_33    (x1 : Int32) (x2 : Int32) (x3 : Int32) (s0 : Int32) (S : St) : Oz := obV (fC_Main_need s0 S) fun T1 => (if ((x2 >>> ((x1 : Int32) &&& 31)) &&& 1) = 0 then (some (rI 0, T1)) else (fC_Main_candles_50  FU x1 x2 x3 99 T1))
def fC_Main_candles_32    (x1 : Int32) (x2 : Int32) (x3 : Int32) (S : St) : Oz := fC_Main_candles_33  x1 x2 x3 0 S
def fC_Main_candles    (x1 : Int32) (x2 : Int32) (x3 : Int32) (S : St) : Oz := obV (fC_Main_needMan x1 S) fun T1 => (obI (fC_Valley_areMen_2 x2 T1) fun r4 T3 => (if r4 = 0 then (fC_Main_candles_32  x1 x2 x3 T3) else (obI (fC_Main_isWithin x3 0 999 T3) fun r6 T5 => (if r6 = 0 then (fC_Main_candles_32  x1 x2 x3 T5) else (fC_Main_candles_33  x1 x2 x3 1 T5)))))
def fC_Main_fullest_17    : Nat → Int32 → Int32 → Int32 → Int32 → St → Oz
  | 0, _, _, _, _, _ => none
  | n + 1, x1, x2, x3, x4, S => if (S.1 11) ≤ x4 then (if x1 = 0 then (some (rI x2, S)) else (some (rI x3, S))) else (obI (fC_State_linesOf_9 x4 S) fun r2 T1 => (if r2 ≤ x3 then (fC_Main_fullest_17 n x1 x2 x3 (x4 + 1) T1) else (fC_Main_fullest_17 n x1 x4 r2 (x4 + 1) T1)))
def fC_Main_fullest    (x1 : Int32) (S : St) : Oz := obI (fC_Main_isWithin x1 0 1 S) fun r2 T1 => (obV (fC_Main_need r2 T1) fun T3 => (fC_Main_fullest_17  FU x1 (-1) (-1) 0 T3))
def fC_Main_free_14    : Nat → Int32 → Int32 → Int32 → St → Oz
  | 0, _, _, _, _ => none
  | n + 1, x1, x2, x3, S => if (S.1 11) ≤ x3 then (some (rI x2, S)) else (obI (fC_Valley_debtsOfMan_2 x3 S) fun r2 T1 => (if (r2 &&& x1) = 0 then (nx (x2 ||| ((1 : Int32) <<< ((x3 : Int32) &&& 31))) fun v3 => (fC_Main_free_14 n x1 v3 (x3 + 1) T1)) else (fC_Main_free_14 n x1 x2 (x3 + 1) T1)))
def fC_Main_free     (S : St) : Oz := obI (fC_State_paidBits_9 S) fun r2 T1 => (nx (r2 ^^^ (-1)) fun v3 => (fC_Main_free_14  FU v3 0 0 T1))
def fC_Main_partners_22    : Nat → Int32 → Int32 → Int32 → St → Oz
  | 0, _, _, _, _ => none
  | n + 1, x1, x2, x3, S => if (S.1 11) ≤ x3 then (some (rI x2, S)) else (gd (ib x1 10) (if x3 = (rA S 19 x1) then (fC_Main_partners_22 n x1 x2 (x3 + 1) S) else (obI (fC_State_isSungBy_9 x1 x3 S) fun r2 T1 => (if r2 = 0 then (fC_Main_partners_22 n x1 x2 (x3 + 1) T1) else (nx (x2 ||| ((1 : Int32) <<< ((x3 : Int32) &&& 31))) fun v3 => (fC_Main_partners_22 n x1 v3 (x3 + 1) T1))))))
def fC_Main_partners    (x1 : Int32) (S : St) : Oz := obV (fC_Main_needDebt x1 S) fun T1 => (obI (fC_State_isPaid_9 x1 T1) fun r4 T3 => (if r4 = 0 then (fC_Main_partners_22  FU x1 0 0 T3) else (some (rI 0, T3))))
def fC_State_linesKnown_13    (x1 : Int32) (x2 : Int32) (S : St) : Oz := obI (fC_State_place x1 x2 S) fun r2 T1 => (gd (ib r2 74) (some (rI (rA T1 52 r2), T1)))
def fC_Main_fades    (x1 : Int32) (x2 : Int32) (S : St) : Oz := obV (fC_Main_needMan x1 S) fun T1 => (obV (fC_Main_needPoem x2 T1) fun T3 => (obI (fC_State_linesKnown_9 x1 x2 T3) fun r6 T5 => (obR 13 (fC_Outlook_afterWeeks 1 T5) fun T7 => (obI (fC_State_linesKnown_13 x1 x2 T7) fun r10 T9 => (some (rI (r6 - r10), T9))))))
def fC_Main_next_60   (K17 : Int32 → Int32 → Int32 → Int32 → St → Oz) (x1 : Int32) (x4 : Int32) (S : St) : Oz := gd (ib x4 10) (nx (rA S 22 x4) fun v1 => (K17 x1 x4 v1 (x4 + 1) S))
def fC_Main_next_17    : Nat → Int32 → Int32 → Int32 → Int32 → St → Oz
  | 0, _, _, _, _, _ => none
  | n + 1, x1, x2, x3, x4, S => if (S.1 12) ≤ x4 then (if x1 = 0 then (some (rI x2, S)) else (some (rI x3, S))) else (obI (fC_State_isPaid_9 x4 S) fun r2 T1 => (if r2 = 0 then (if x2 = (-1) then (fC_Main_next_60 (fun x1 x2 x3 x4 S => fC_Main_next_17 n x1 x2 x3 x4 S) x1 x4 T1) else (gd (ib x4 10) (if x3 ≤ (rA T1 22 x4) then (fC_Main_next_17 n x1 x2 x3 (x4 + 1) T1) else (fC_Main_next_60 (fun x1 x2 x3 x4 S => fC_Main_next_17 n x1 x2 x3 x4 S) x1 x4 T1)))) else (fC_Main_next_17 n x1 x2 x3 (x4 + 1) T1)))
def fC_Main_next    (x1 : Int32) (S : St) : Oz := obI (fC_Main_isWithin x1 0 1 S) fun r2 T1 => (obV (fC_Main_need r2 T1) fun T3 => (fC_Main_next_17  FU x1 (-1) (-1) 0 T3))
def fC_Main_gains    (x1 : Int32) (x2 : Int32) (S : St) : Oz := obV (fC_Main_needMan x1 S) fun T1 => (obV (fC_Main_needPoem x2 T1) fun T3 => (obI (fC_State_gainOf_9 x1 x2 T3) fun r6 T5 => (some (rI r6, T5))))
def fC_Main_closest_84   (K23 : Int32 → Int32 → Int32 → Int32 → Int32 → St → Oz) (x1 : Int32) (x2 : Int32) (x5 : Int32) (x6 : Int32) (S : St) : Oz := K23 x1 x2 x5 x6 (x5 + 1) S
def fC_Main_closest_23    : Nat → Int32 → Int32 → Int32 → Int32 → Int32 → St → Oz
  | 0, _, _, _, _, _, _ => none
  | n + 1, x1, x2, x3, x4, x5, S => if (S.1 12) ≤ x5 then (if x2 = 0 then (some (rI x3, S)) else (some (rI x4, S))) else (gd (ib x5 10) (if (rA S 19 x5) = x1 then (obI (fC_State_isPaid_9 x5 S) fun r2 T1 => (if r2 = 0 then (obI (fC_State_needOf_9 x5 T1) fun r4 T3 => (if x3 = (-1) then (fC_Main_closest_84 (fun x1 x2 x3 x4 x5 S => fC_Main_closest_23 n x1 x2 x3 x4 x5 S) x1 x2 x5 r4 T3) else (if x4 ≤ r4 then (fC_Main_closest_23 n x1 x2 x3 x4 (x5 + 1) T3) else (fC_Main_closest_84 (fun x1 x2 x3 x4 x5 S => fC_Main_closest_23 n x1 x2 x3 x4 x5 S) x1 x2 x5 r4 T3)))) else (fC_Main_closest_23 n x1 x2 x3 x4 (x5 + 1) T1))) else (fC_Main_closest_23 n x1 x2 x3 x4 (x5 + 1) S)))
def fC_Main_closest    (x1 : Int32) (x2 : Int32) (S : St) : Oz := obV (fC_Main_needMan x1 S) fun T1 => (obI (fC_Main_isWithin x2 0 1 T1) fun r4 T3 => (obV (fC_Main_need r4 T3) fun T5 => (fC_Main_closest_23  FU x1 x2 (-1) (-1) 0 T5)))
def fC_Main_best_23    : Nat → Int32 → Int32 → Int32 → Int32 → Int32 → St → Oz
  | 0, _, _, _, _, _, _ => none
  | n + 1, x1, x2, x3, x4, x5, S => if (S.1 11) ≤ x5 then (if x3 = (-1) then (some (rI (-1), S)) else (if x2 = 0 then (some (rI x3, S)) else (some (rI x4, S)))) else (obI (fC_State_linesKnown_9 x5 x1 S) fun r2 T1 => (if r2 ≤ x4 then (fC_Main_best_23 n x1 x2 x3 x4 (x5 + 1) T1) else (fC_Main_best_23 n x1 x2 x5 r2 (x5 + 1) T1)))
def fC_Main_best    (x1 : Int32) (x2 : Int32) (S : St) : Oz := obV (fC_Main_needPoem x1 S) fun T1 => (obI (fC_Main_isWithin x2 0 1 T1) fun r4 T3 => (obV (fC_Main_need r4 T3) fun T5 => (fC_Main_best_23  FU x1 x2 (-1) 0 0 T5)))
def fC_Main_chorus_22    : Nat → Int32 → Int32 → Int32 → Int32 → St → Oz
  | 0, _, _, _, _, _ => none
  | n + 1, x1, x2, x3, x4, S => if (S.1 11) ≤ x4 then (gd (ib x1 8) (some (rI (if rA S 15 x1 < x3 then rA S 15 x1 else x3), S))) else (if ((x2 >>> ((x4 : Int32) &&& 31)) &&& 1) = 1 then (obI (fC_State_linesKnown_9 x4 x1 S) fun r2 T1 => (nx (x3 + r2) fun v3 => (fC_Main_chorus_22 n x1 x2 v3 (x4 + 1) T1))) else (fC_Main_chorus_22 n x1 x2 x3 (x4 + 1) S))
def fC_Main_chorus    (x1 : Int32) (x2 : Int32) (S : St) : Oz := obV (fC_Main_needPoem x1 S) fun T1 => (obI (fC_Valley_areMen_2 x2 T1) fun r4 T3 => (obV (fC_Main_need r4 T3) fun T5 => (fC_Main_chorus_22  FU x1 x2 0 0 T5)))
def fC_Outlook_draw    (x1 : Int32) (S : St) : Oz := nx (sF S 28 (((S.1 28) * 1103515245) + 12345)) fun T1 => (nx ((((T1.1 28 : Int32).toUInt32 >>> ((16 : Int32).toUInt32 &&& Int32.toUInt32 31)).toInt32) &&& 32767) fun v2 => (if 0 < x1 then (gd (nz x1) (some (rI (v2 - v2 / x1 * x1), T1))) else (some (rI 0, T1))))
def fC_State_isWellKnown_13_65    (x1 : Int32) (x2 : Int32) (x4 : Int32) (x5 : Int32) (s0 : Int32) (S : St) : Oz := gd (ib x1 10) (nx (rA S 21 x1) fun v1 => (if v1 = 0 then (if x4 < x5 then (some (rI 0, S)) else (some (rI 1, S))) else if v1 = 2 then (if x4 < x5 then (some (rI 0, S)) else (gd (ib (54 + x2) 74) (if (rA S 52 (54 + x2)) ≤ 0 then (some (rI 0, S)) else (some (rI 1, S))))) else (if x4 < s0 then (some (rI 0, S)) else (some (rI 1, S)))))
def fC_State_isWellKnown_13    (x1 : Int32) (S : St) : Oz := gd (ib x1 10) (nx (rA S 19 x1) fun v1 => (gd (ib x1 10) (nx (rA S 20 x1) fun v2 => (obI (fC_State_place v1 v2 S) fun r4 T3 => (gd (ib r4 74) (nx (rA T3 52 r4) fun v5 => (gd (ib v2 8) (nx (rA T3 15 v2) fun v6 => (if v6 ≤ ((v6 / 2) + 1) then (fC_State_isWellKnown_13_65  x1 v1 v5 v6 v6 T3) else (fC_State_isWellKnown_13_65  x1 v1 v5 v6 ((v6 / 2) + 1) T3))))))))))
def fC_State_slip_13    (x1 : Int32) (x2 : Int32) (S : St) : Oz := obV (fC_State_lose_13 x1 x2 4 S) fun T1 => (gd (ib (60 + x1) 74) (gd (ib (60 + x1) 74) (nx (sA T1 52 (60 + x1) ((rA T1 52 (60 + x1)) + 1)) fun T3 => (some (rV, T3)))))
def fC_State_sayAlone_13    (x1 : Int32) (S : St) : Oz := obI (fC_State_isPaid_13 x1 S) fun r2 T1 => (if r2 = 0 then (obI (fC_State_isWellKnown_13 x1 T1) fun r4 T3 => (if r4 = 0 then (gd (ib x1 10) (gd (ib x1 10) (obV (fC_State_slip_13 (rA T3 19 x1) (rA T3 20 x1) T3) fun T5 => (some (rI 1, T5))))) else (nx (sA T3 52 72 ((rA T3 52 72) ||| ((1 : Int32) <<< ((x1 : Int32) &&& 31)))) fun T7 => (some (rI 1, T7))))) else (some (rI 0, T1)))
def fC_Outlook_liveWeek    (x1 : Int32) (S : St) : Oz := obI (fC_Outlook_draw (S.1 11) S) fun r2 T1 => (obI (fC_Outlook_draw (T1.1 10) T1) fun r4 T3 => (obI (fC_State_teach_13 r2 r4 T3) fun r6 T5 => (obI (fC_Outlook_draw 16 T5) fun r8 T7 => (if x1 ≤ r8 then (some (rV, T7)) else (if (T7.1 12) ≤ 0 then (some (rV, T7)) else (obI (fC_Outlook_draw (T7.1 12) T7) fun r10 T9 => (obI (fC_State_sayAlone_13 r10 T9) fun r12 T11 => (some (rV, T11)))))))))
def fC_Outlook_afterSeason_50   (K19 : Int32 → Int32 → Int32 → St → Oz) (x2 : Int32) (x3 : Int32) (x4 : Int32) (S : St) : Oz := obV (fC_State_endWeek_13 0 (S.1 11) S) fun T1 => (K19 x2 x3 (x4 + 1) T1)
def fC_Outlook_afterSeason_19    : Nat → Int32 → Int32 → Int32 → St → Oz
  | 0, _, _, _, _ => none
  | n + 1, x2, x3, x4, S => if x3 ≤ x4 then (some (rR 13, S)) else (if (S.1 11) ≤ 0 then (fC_Outlook_afterSeason_50 (fun x2 x3 x4 S => fC_Outlook_afterSeason_19 n x2 x3 x4 S) x2 x3 x4 S) else (if (S.1 10) ≤ 0 then (fC_Outlook_afterSeason_50 (fun x2 x3 x4 S => fC_Outlook_afterSeason_19 n x2 x3 x4 S) x2 x3 x4 S) else (obV (fC_Outlook_liveWeek x2 S) fun T1 => (fC_Outlook_afterSeason_50 (fun x2 x3 x4 S => fC_Outlook_afterSeason_19 n x2 x3 x4 S) x2 x3 x4 T1))))
def fC_Outlook_afterSeason    (x1 : Int32) (x2 : Int32) (x3 : Int32) (S : St) : Oz := obV (fC_State_copyFrom_13 S) fun T1 => (nx (sF T1 28 x1) fun T3 => (fC_Outlook_afterSeason_19  FU x2 x3 0 T3))
def fC_State_paidBits_13     (S : St) : Oz := some (rI (rA S 52 72), S)
def fC_State_allSlips_13_4    : Nat → Int32 → Int32 → St → Oz
  | 0, _, _, _ => none
  | n + 1, x1, x2, S => if (S.1 11) ≤ x2 then (some (rI x1, S)) else (gd (ib (60 + x2) 74) (nx (x1 + (rA S 52 (60 + x2))) fun v1 => (fC_State_allSlips_13_4 n v1 (x2 + 1) S)))
def fC_State_allSlips_13     (S : St) : Oz := fC_State_allSlips_13_4  FU 0 0 S
def fC_State_allLessons_13_4    : Nat → Int32 → Int32 → St → Oz
  | 0, _, _, _ => none
  | n + 1, x1, x2, S => if (S.1 11) ≤ x2 then (some (rI x1, S)) else (gd (ib (48 + x2) 74) (nx (x1 + (rA S 52 (48 + x2))) fun v1 => (fC_State_allLessons_13_4 n v1 (x2 + 1) S)))
def fC_State_allLessons_13     (S : St) : Oz := fC_State_allLessons_13_4  FU 0 0 S
def fC_State_allLessons_9_4    : Nat → Int32 → Int32 → St → Oz
  | 0, _, _, _ => none
  | n + 1, x1, x2, S => if (S.1 11) ≤ x2 then (some (rI x1, S)) else (gd (ib (48 + x2) 74) (nx (x1 + (rA S 46 (48 + x2))) fun v1 => (fC_State_allLessons_9_4 n v1 (x2 + 1) S)))
def fC_State_allLessons_9     (S : St) : Oz := fC_State_allLessons_9_4  FU 0 0 S
def fC_Main_season_36    (x1 : Int32) (x2 : Int32) (x3 : Int32) (x4 : Int32) (s0 : Int32) (S : St) : Oz := obV (fC_Main_need s0 S) fun T1 => (obR 13 (fC_Outlook_afterSeason x1 x2 x3 T1) fun T3 => (if x4 = 0 then (obI (fC_State_paidBits_13 T3) fun r6 T5 => (some (rI r6, T5))) else if x4 = 1 then (obI (fC_State_everyLine_13 T3) fun r8 T7 => (some (rI r8, T7))) else if x4 = 2 then (obI (fC_State_allSlips_13 T3) fun r10 T9 => (obI (fC_State_allSlips_9 T9) fun r12 T11 => (some (rI (r10 - r12), T11)))) else (obI (fC_State_allLessons_13 T3) fun r14 T13 => (obI (fC_State_allLessons_9 T13) fun r16 T15 => (some (rI (r14 - r16), T15))))))
def fC_Main_season_35    (x1 : Int32) (x2 : Int32) (x3 : Int32) (x4 : Int32) (S : St) : Oz := fC_Main_season_36  x1 x2 x3 x4 0 S
def fC_Main_season    (x1 : Int32) (x2 : Int32) (x3 : Int32) (x4 : Int32) (S : St) : Oz := obI (fC_Main_isWithin x2 0 16 S) fun r2 T1 => (if r2 = 0 then (fC_Main_season_35  x1 x2 x3 x4 T1) else (obI (fC_Main_isWithin x3 1 48 T1) fun r4 T3 => (if r4 = 0 then (fC_Main_season_35  x1 x2 x3 x4 T3) else (obI (fC_Main_isWithin x4 0 3 T3) fun r6 T5 => (if r6 = 0 then (fC_Main_season_35  x1 x2 x3 x4 T5) else (fC_Main_season_36  x1 x2 x3 x4 1 T5))))))
def fC_Main_span_91    : Nat → Int32 → Int32 → Int32 → Int32 → Int32 → Int32 → Int32 → Int32 → Int32 → Int32 → St → Oz
  | 0, _, _, _, _, _, _, _, _, _, _, _ => none
  | n + 1, x1, x2, x3, x4, x5, x6, x7, x8, x9, x10, S => if x2 ≤ x10 then (if x5 = 0 then (some (rI x7, S)) else if x5 = 1 then (some (rI x8, S)) else (some (rI x9, S))) else (obR 13 (fC_Outlook_afterSeason (x1 + x10) x3 x4 S) fun T1 => (obI (fC_State_everyLine_13 T1) fun r4 T3 => (nx (if r4 < x7 then r4 else x7) fun v5 => (nx (if x8 < r4 then r4 else x8) fun v6 => (obI (fC_State_isPaid_13 x6 T3) fun r8 T7 => (if r8 = 0 then (nx (x9 + 0) fun v9 => (fC_Main_span_91 n x1 x2 x3 x4 x5 x6 v5 v6 v9 (x10 + 1) T7)) else (nx (x9 + 1) fun v10 => (fC_Main_span_91 n x1 x2 x3 x4 x5 x6 v5 v6 v10 (x10 + 1) T7))))))))
def fC_Main_span_74    (x1 : Int32) (x2 : Int32) (x3 : Int32) (x4 : Int32) (x5 : Int32) (x6 : Int32) (s0 : Int32) (S : St) : Oz := obV (fC_Main_need s0 S) fun T1 => (fC_Main_span_91  FU x1 x2 x3 x4 x5 x6 2147483647 0 0 0 T1)
def fC_Main_span_73    (x1 : Int32) (x2 : Int32) (x3 : Int32) (x4 : Int32) (x5 : Int32) (x6 : Int32) (S : St) : Oz := fC_Main_span_74  x1 x2 x3 x4 x5 x6 0 S
def fC_Main_span_37    (x1 : Int32) (x2 : Int32) (x3 : Int32) (x4 : Int32) (x5 : Int32) (x6 : Int32) (s0 : Int32) (S : St) : Oz := obV (fC_Main_need s0 S) fun T1 => (obI (fC_Main_isWithin x5 0 2 T1) fun r4 T3 => (if r4 = 0 then (fC_Main_span_73  x1 x2 x3 x4 x5 x6 T3) else (obI (fC_Main_isWithin x6 0 ((T3.1 12) - 1) T3) fun r6 T5 => (if r6 = 0 then (fC_Main_span_73  x1 x2 x3 x4 x5 x6 T5) else (fC_Main_span_74  x1 x2 x3 x4 x5 x6 1 T5)))))
def fC_Main_span_36    (x1 : Int32) (x2 : Int32) (x3 : Int32) (x4 : Int32) (x5 : Int32) (x6 : Int32) (S : St) : Oz := fC_Main_span_37  x1 x2 x3 x4 x5 x6 0 S
def fC_Main_span    (x1 : Int32) (x2 : Int32) (x3 : Int32) (x4 : Int32) (x5 : Int32) (x6 : Int32) (S : St) : Oz := obI (fC_Main_isWithin x2 1 10 S) fun r2 T1 => (if r2 = 0 then (fC_Main_span_36  x1 x2 x3 x4 x5 x6 T1) else (obI (fC_Main_isWithin x3 0 16 T1) fun r4 T3 => (if r4 = 0 then (fC_Main_span_36  x1 x2 x3 x4 x5 x6 T3) else (obI (fC_Main_isWithin x4 1 48 T3) fun r6 T5 => (if r6 = 0 then (fC_Main_span_36  x1 x2 x3 x4 x5 x6 T5) else (fC_Main_span_37  x1 x2 x3 x4 x5 x6 1 T5))))))
def fC_Shelf_pushImage     (S : St) : Oz := if (S.1 27) < 3 then (nx ((S.1 27) * 1258) fun v1 => (gd (cpOK 0 v1 74 74 3774) (nx (sC S 46 48 0 v1 74) fun T2 => (gd (cpOK 0 (v1 + 74) ((T2.1 26) * 74) 1184 3774) (nx (sC T2 47 48 0 (v1 + 74) ((T2.1 26) * 74)) fun T3 => (gd (ib (T3.1 27) 3) (nx (sA T3 49 (T3.1 27) (T3.1 26)) fun T4 => (nx (sF T4 27 ((T4.1 27) + 1)) fun T5 => (some (rI 1, T5)))))))))) else (some (rI 0, S))
def fC_Main_image     (S : St) : Oz := obI (fC_Shelf_pushImage S) fun r2 T1 => (if r2 = 0 then (some (rI (-1), T1)) else (some (rI (T1.1 27), T1)))
def fC_Shelf_popImage     (S : St) : Oz := if 0 < (S.1 27) then (nx (sF S 27 ((S.1 27) - 1)) fun T1 => (gd (ib (T1.1 27) 3) (nx (sF T1 26 (rA T1 49 (T1.1 27))) fun T2 => (nx ((T2.1 27) * 1258) fun v3 => (gd (cpOK v3 0 74 3774 74) (nx (sC T2 48 46 v3 0 74) fun T4 => (gd (cpOK (v3 + 74) 0 ((T4.1 26) * 74) 3774 1184) (nx (sC T4 48 47 (v3 + 74) 0 ((T4.1 26) * 74)) fun T5 => (some (rI 1, T5)))))))))) else (some (rI 0, S))
def fC_Main_restore     (S : St) : Oz := obI (fC_Shelf_popImage S) fun r2 T1 => (if r2 = 0 then (some (rI (-1), T1)) else (nx (sF T1 0 0) fun T3 => (some (rI (T3.1 27), T3))))
def fC_Main_status    (x1 : Int32) (S : St) : Oz := if x1 = 0 then (some (rI (S.1 1), S)) else if x1 = 1 then (some (rI (S.1 2), S)) else (some (rI (-1), S))
def fC_Main_count    (x1 : Int32) (S : St) : Oz := if x1 = 0 then (some (rI (S.1 27), S)) else if x1 = 1 then (some (rI (S.1 3), S)) else if x1 = 2 then (some (rI (S.1 26), S)) else (some (rI (-1), S))
