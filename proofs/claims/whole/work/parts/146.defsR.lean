/-! the pure answers of the reference's methods, as wip/whole/gen wrote them -/
def fR_feed_76   (K23 : Int32 → Int32 → Int32 → Int32 → Int32 → Int32 → St → Oz) (x1 : Int32) (x2 : Int32) (x3 : Int32) (x4 : Int32) (x5 : Int32) (x6 : Int32) (s0 : Int32) (S : St) : Oz := gd (ib (S.1 1) 600) (nx (sA S 2 (S.1 1) ((s0 >>> ((24 - (8 * (x6 - x6 / 4 * 4)) : Int32) &&& 31)) &&& 255)) fun T1 => (nx (sF T1 1 ((T1.1 1) + 1)) fun T2 => (K23 x1 x2 x3 x4 x5 (x6 + 1) T2)))
def fR_feed_23    : Nat → Int32 → Int32 → Int32 → Int32 → Int32 → Int32 → St → Oz
  | 0, _, _, _, _, _, _, _ => none
  | n + 1, x1, x2, x3, x4, x5, x6, S => if 20 ≤ x6 then (some (rI (S.1 1), S)) else (if 4 ≤ x6 then (if 8 ≤ x6 then (if 12 ≤ x6 then (if 16 ≤ x6 then (fR_feed_76 (fun x1 x2 x3 x4 x5 x6 S => fR_feed_23 n x1 x2 x3 x4 x5 x6 S) x1 x2 x3 x4 x5 x6 x5 S) else (fR_feed_76 (fun x1 x2 x3 x4 x5 x6 S => fR_feed_23 n x1 x2 x3 x4 x5 x6 S) x1 x2 x3 x4 x5 x6 x4 S)) else (fR_feed_76 (fun x1 x2 x3 x4 x5 x6 S => fR_feed_23 n x1 x2 x3 x4 x5 x6 S) x1 x2 x3 x4 x5 x6 x3 S)) else (fR_feed_76 (fun x1 x2 x3 x4 x5 x6 S => fR_feed_23 n x1 x2 x3 x4 x5 x6 S) x1 x2 x3 x4 x5 x6 x2 S)) else (fR_feed_76 (fun x1 x2 x3 x4 x5 x6 S => fR_feed_23 n x1 x2 x3 x4 x5 x6 S) x1 x2 x3 x4 x5 x6 x1 S))
def fR_feed    (x1 : Int32) (x2 : Int32) (x3 : Int32) (x4 : Int32) (x5 : Int32) (S : St) : Oz := nx (sF S 0 0) fun T1 => (if ((T1.1 1) + 20) ≤ 600 then (fR_feed_23  FU x1 x2 x3 x4 x5 0 T1) else (some (rI (-1), T1)))
def fR_may_26     (S : St) : Oz := if (S.1 0) = 0 then (some (rI 1, S)) else (some (rI 0, S))
def fR_may    (x1 : Int32) (x2 : Int32) (x3 : Int32) (S : St) : Oz := if x1 = 0 then (if (S.1 0) = 0 then (nx (sF S 0 x2) fun T1 => (gd (ib x3 2) (gd (ib x3 2) (nx (sA T1 1 x3 ((rA T1 1 x3) + 1)) fun T2 => (fR_may_26   T2))))) else (fR_may_26   S)) else (fR_may_26   S)
def fR_begins    (x1 : Int32) (S : St) : Oz := nx (sF S 1 0) fun T1 => (nx (sF T1 7 (-1)) fun T2 => (nx (sF T2 2 x1) fun T3 => (nx (sF T3 3 0) fun T4 => (nx (sF T4 4 (-1)) fun T5 => (nx (sF T5 6 0) fun T6 => (some (rV, T6)))))))
def fR_clears     (S : St) : Oz := nx (sF S 8 0) fun T1 => (nx (sF T1 9 0) fun T2 => (nx (sF T2 10 0) fun T3 => (nx (sF T3 11 3) fun T4 => (some (rV, T4)))))
def fR_fine     (S : St) : Oz := if (S.1 4) = (-1) then (some (rI 1, S)) else (some (rI 0, S))
def fR_here_38     (S : St) : Oz := if (S.1 2) ≤ (S.1 3) then (some (rI 0, S)) else (gd (ib (S.1 3) 600) (some (rI (rA S 2 (S.1 3)), S)))
def fR_here_0    : Nat → St → Oz
  | 0, _ => none
  | n + 1, S => if (S.1 2) ≤ (S.1 3) then (fR_here_38   S) else (gd (ib (S.1 3) 600) (if (rA S 2 (S.1 3)) = 32 then (nx (sF S 3 ((S.1 3) + 1)) fun T1 => (fR_here_0 n  T1)) else (fR_here_38   S)))
def fR_here    (S : St) : Oz := fR_here_0  FU  S
def fR_isMore     (S : St) : Oz := obI (fR_here S) fun r2 T1 => (if (T1.1 2) ≤ (T1.1 3) then (some (rI 0, T1)) else (some (rI 1, T1)))
def fR_isSmall    (x0 : Int32) (S : St) : Oz := if x0 < 97 then (some (rI 0, S)) else (if 122 < x0 then (some (rI 0, S)) else (some (rI 1, S)))
def fR_word_67    (x1 : Int32) (x2 : Int32) (S : St) : Oz := if x2 ≤ 6 then (some (rI x1, S)) else (some (rI 0, S))
def fR_word_14    : Nat → Int32 → Int32 → Int32 → St → Oz
  | 0, _, _, _, _ => none
  | n + 1, x1, x2, x3, S => if (S.1 2) ≤ x3 then (fR_word_67  x1 x2 S) else (gd (ib x3 600) (obI (fR_isSmall (rA S 2 x3) S) fun r2 T1 => (if r2 = 0 then (fR_word_67  x1 x2 T1) else (if 6 ≤ x2 then (fR_word_14 n 0 (x2 + 1) (x3 + 1) T1) else (gd (ib x3 600) (nx ((x1 <<< ((5 : Int32) &&& 31)) ||| ((rA T1 2 x3) - 96)) fun v3 => (fR_word_14 n v3 (x2 + 1) (x3 + 1) T1)))))))
def fR_word     (S : St) : Oz := obI (fR_here S) fun r2 T1 => (nx (T1.1 3) fun v3 => (fR_word_14  FU 0 0 v3 T1))
def fR_of_4  (x0 : Nat)  : Nat → Int32 → Int32 → St → Oz
  | 0, _, _, _ => none
  | n + 1, x1, x2, S => if (nI (skN x0)) ≤ x2 then (some (rI x1, S)) else (gd (ib x2 (skN x0)) (nx ((x1 <<< ((5 : Int32) &&& 31)) ||| ((skB x0 x2) - 96)) fun v5 => (fR_of_4 x0 n v5 (x2 + 1) S)))
def fR_of  (x0 : Nat)   (S : St) : Oz := fR_of_4 x0 FU 0 0 S
def fR_of_v212_4  (x0 : Nat)  : Nat → Int32 → Int32 → St → Oz
  | 0, _, _, _ => none
  | n + 1, x1, x2, S => if (nI (skN x0)) ≤ x2 then (some (rI x1, S)) else (gd (ib x2 (skN x0)) (nx ((x1 <<< ((5 : Int32) &&& 31)) ||| ((skB x0 x2) - 96)) fun v5 => (fR_of_v212_4 x0 n v5 (x2 + 1) S)))
def fR_of_v212  (x0 : Nat)   (S : St) : Oz := fR_of_v212_4 x0 FU 0 0 S
def fR_of_v213_4  (x0 : Nat)  : Nat → Int32 → Int32 → St → Oz
  | 0, _, _, _ => none
  | n + 1, x1, x2, S => if (nI (skN x0)) ≤ x2 then (some (rI x1, S)) else (gd (ib x2 (skN x0)) (nx ((x1 <<< ((5 : Int32) &&& 31)) ||| ((skB x0 x2) - 96)) fun v5 => (fR_of_v213_4 x0 n v5 (x2 + 1) S)))
def fR_of_v213  (x0 : Nat)   (S : St) : Oz := fR_of_v213_4 x0 FU 0 0 S
def fR_of_v214_4  (x0 : Nat)  : Nat → Int32 → Int32 → St → Oz
  | 0, _, _, _ => none
  | n + 1, x1, x2, S => if (nI (skN x0)) ≤ x2 then (some (rI x1, S)) else (gd (ib x2 (skN x0)) (nx ((x1 <<< ((5 : Int32) &&& 31)) ||| ((skB x0 x2) - 96)) fun v5 => (fR_of_v214_4 x0 n v5 (x2 + 1) S)))
def fR_of_v214  (x0 : Nat)   (S : St) : Oz := fR_of_v214_4 x0 FU 0 0 S
def fR_isRow    (x0 : Int32) (S : St) : Oz := obI (fR_of 22 S) fun r2 T1 => (if x0 = r2 then (some (rI 1, T1)) else (obI (fR_of_v212 23 T1) fun r4 T3 => (if x0 = r4 then (some (rI 1, T3)) else (obI (fR_of_v213 24 T3) fun r6 T5 => (if x0 = r6 then (some (rI 1, T5)) else (obI (fR_of_v214 25 T5) fun r8 T7 => (if x0 = r8 then (some (rI 1, T7)) else (some (rI 0, T7)))))))))
def fR_isFull    (x1 : Int32) (S : St) : Oz := obI (fR_of 22 S) fun r2 T1 => (if x1 = r2 then (if (T1.1 8) = 8 then (some (rI 1, T1)) else (some (rI 0, T1))) else (obI (fR_of_v212 23 T1) fun r4 T3 => (if x1 = r4 then (if (T3.1 9) = 6 then (some (rI 1, T3)) else (some (rI 0, T3))) else (obI (fR_of_v213 24 T3) fun r6 T5 => (if x1 = r6 then (if (T5.1 10) = 10 then (some (rI 1, T5)) else (some (rI 0, T5))) else (some (rI 0, T5)))))))
def fR_wrong    (x1 : Int32) (x2 : Int32) (S : St) : Oz := if (S.1 4) = (-1) then (nx (sF S 4 x2) fun T1 => (nx (sF T1 5 x1) fun T2 => (some (rV, T2)))) else (some (rV, S))
def fR_result    (x1 : Int32) (S : St) : Oz := nx (sF S 7 (S.1 4)) fun T1 => (obI (fR_fine T1) fun r3 T2 => (if r3 = 0 then (some (rI ((T2.1 5) - 10), T2)) else (some (rI x1, T2))))
def fR_copies_3    : Nat → Int32 → Int32 → St → Oz
  | 0, _, _, _ => none
  | n + 1, x3, x4, S => if x3 ≤ x4 then (some (rV, S)) else (gd (ib x4 16) (gd (ib x4 16) (nx (sA S 6 x4 (rA S 3 x4)) fun T1 => (fR_copies_3 n x3 (x4 + 1) T1))))
def fR_copies    (x3 : Int32) (S : St) : Oz := fR_copies_3  FU x3 0 S
def fR_copies_v220_3    : Nat → Int32 → Int32 → St → Oz
  | 0, _, _, _ => none
  | n + 1, x3, x4, S => if x3 ≤ x4 then (some (rV, S)) else (gd (ib x4 12) (gd (ib x4 12) (nx (sA S 7 x4 (rA S 4 x4)) fun T1 => (fR_copies_v220_3 n x3 (x4 + 1) T1))))
def fR_copies_v220    (x3 : Int32) (S : St) : Oz := fR_copies_v220_3  FU x3 0 S
def fR_copies_v221_3    : Nat → Int32 → Int32 → St → Oz
  | 0, _, _, _ => none
  | n + 1, x3, x4, S => if x3 ≤ x4 then (some (rV, S)) else (gd (ib x4 40) (gd (ib x4 40) (nx (sA S 8 x4 (rA S 5 x4)) fun T1 => (fR_copies_v221_3 n x3 (x4 + 1) T1))))
def fR_copies_v221    (x3 : Int32) (S : St) : Oz := fR_copies_v221_3  FU x3 0 S
def fR_sets_122    : Nat → Int32 → St → Oz
  | 0, _, _ => none
  | n + 1, x1, S => if (S.1 13) ≤ x1 then (some (rV, S)) else (gd (ib ((2 * x1) + 1) 12) (gd (ib (48 + x1) 95) (nx (sA S 17 (48 + x1) (rA S 7 ((2 * x1) + 1))) fun T1 => (fR_sets_122 n (x1 + 1) T1))))
def fR_sets_101    : Nat → Int32 → St → Oz
  | 0, _, _ => none
  | n + 1, x1, S => if 95 ≤ x1 then (fR_sets_122  FU 0 S) else (gd (ib x1 95) (nx (sA S 17 x1 0) fun T1 => (fR_sets_101 n (x1 + 1) T1)))
def fR_sets     (S : St) : Oz := nx (sF S 12 (S.1 8)) fun T1 => (nx (sF T1 13 (T1.1 9)) fun T2 => (nx (sF T2 14 (T2.1 10)) fun T3 => (nx (sF T3 15 (T3.1 11)) fun T4 => (obV (fR_copies 16 T4) fun T5 => (obV (fR_copies_v220 12 T5) fun T7 => (obV (fR_copies_v221 40 T7) fun T9 => (nx (sF T9 17 0) fun T11 => (nx (sF T11 24 0) fun T12 => (nx (sF T12 19 0) fun T13 => (nx (sF T13 27 0) fun T14 => (nx (sF T14 20 0) fun T15 => (fR_sets_101  FU 0 T15))))))))))))
def fR_pass_0    : Nat → St → Oz
  | 0, _ => none
  | n + 1, S => if (S.1 2) ≤ (S.1 3) then (some (rV, S)) else (gd (ib (S.1 3) 600) (obI (fR_isSmall (rA S 2 (S.1 3)) S) fun r2 T1 => (if r2 = 0 then (some (rV, T1)) else (nx (sF T1 3 ((T1.1 3) + 1)) fun T3 => (fR_pass_0 n  T3)))))
def fR_pass    (S : St) : Oz := fR_pass_0  FU  S
def fR_isDigit    (x0 : Int32) (S : St) : Oz := if x0 < 48 then (some (rI 0, S)) else (if 57 < x0 then (some (rI 0, S)) else (some (rI 1, S)))
def fR_readNumber_126    (x4 : Int32) (S : St) : Oz := obV (fR_wrong 2 x4 S) fun T1 => (some (rI 0, T1))
def fR_readNumber_114    (x1 : Int32) (x2 : Int32) (x4 : Int32) (x5 : Int32) (S : St) : Oz := if x5 < x1 then (fR_readNumber_126  x4 S) else (if x5 ≤ x2 then (some (rI x5, S)) else (fR_readNumber_126  x4 S))
def fR_readNumber_99   (K41 : Int32 → Int32 → Int32 → Int32 → St → Oz) (x1 : Int32) (x2 : Int32) (x4 : Int32) (s0 : Int32) (S : St) : Oz := nx (sF S 3 ((S.1 3) + 1)) fun T1 => (K41 x1 x2 x4 s0 T1)
def fR_readNumber_41    : Nat → Int32 → Int32 → Int32 → Int32 → St → Oz
  | 0, _, _, _, _, _ => none
  | n + 1, x1, x2, x4, x5, S => if (S.1 2) ≤ (S.1 3) then (fR_readNumber_114  x1 x2 x4 x5 S) else (gd (ib (S.1 3) 600) (obI (fR_isDigit (rA S 2 (S.1 3)) S) fun r2 T1 => (if r2 = 0 then (fR_readNumber_114  x1 x2 x4 x5 T1) else (if x5 ≤ 9999 then (gd (ib (T1.1 3) 600) (fR_readNumber_99 (fun x1 x2 x4 x5 S => fR_readNumber_41 n x1 x2 x4 x5 S) x1 x2 x4 (((10 * x5) + (rA T1 2 (T1.1 3))) - 48) T1)) else (fR_readNumber_99 (fun x1 x2 x4 x5 S => fR_readNumber_41 n x1 x2 x4 x5 S) x1 x2 x4 10000 T1)))))
def fR_readNumber    (x1 : Int32) (x2 : Int32) (S : St) : Oz := obI (fR_fine S) fun r2 T1 => (if r2 = 0 then (some (rI 0, T1)) else (obI (fR_here T1) fun r4 T3 => (nx (T3.1 3) fun v5 => (obI (fR_isDigit r4 T3) fun r7 T6 => (if r7 = 0 then (obV (fR_wrong 1 (T6.1 3) T6) fun T8 => (some (rI 0, T8))) else (fR_readNumber_41  FU x1 x2 v5 0 T6))))))
def fR_readRow    (x1 : Int32) (S : St) : Oz := obI (fR_of 22 S) fun r2 T1 => (if x1 = r2 then (obI (fR_readNumber 1 40 T1) fun r31 T30 => (gd (ib (2 * (T1.1 8)) 16) (nx (sA T30 3 (2 * (T1.1 8)) r31) fun T32 => (obI (fR_readNumber 0 9 T32) fun r34 T33 => (gd (ib ((2 * (T32.1 8)) + 1) 16) (nx (sA T33 3 ((2 * (T32.1 8)) + 1) r34) fun T35 => (nx (sF T35 8 ((T35.1 8) + 1)) fun T36 => (some (rV, T36))))))))) else (obI (fR_of_v212 23 T1) fun r4 T3 => (if x1 = r4 then (obI (fR_readNumber 1 99 T3) fun r24 T23 => (gd (ib (2 * (T3.1 9)) 12) (nx (sA T23 4 (2 * (T3.1 9)) r24) fun T25 => (obI (fR_readNumber 10 70 T25) fun r27 T26 => (gd (ib ((2 * (T25.1 9)) + 1) 12) (nx (sA T26 4 ((2 * (T25.1 9)) + 1) r27) fun T28 => (nx (sF T28 9 ((T28.1 9) + 1)) fun T29 => (some (rV, T29))))))))) else (obI (fR_of_v213 24 T3) fun r6 T5 => (if x1 = r6 then (obI (fR_readNumber 0 ((T5.1 9) - 1) T5) fun r11 T10 => (gd (ib (4 * (T5.1 10)) 40) (nx (sA T10 5 (4 * (T5.1 10)) r11) fun T12 => (obI (fR_readNumber 0 ((T12.1 8) - 1) T12) fun r14 T13 => (gd (ib ((4 * (T12.1 10)) + 1) 40) (nx (sA T13 5 ((4 * (T12.1 10)) + 1) r14) fun T15 => (obI (fR_readNumber 0 3 T15) fun r17 T16 => (gd (ib ((4 * (T15.1 10)) + 2) 40) (nx (sA T16 5 ((4 * (T15.1 10)) + 2) r17) fun T18 => (obI (fR_readNumber 0 40 T18) fun r20 T19 => (gd (ib ((4 * (T18.1 10)) + 3) 40) (nx (sA T19 5 ((4 * (T18.1 10)) + 3) r20) fun T21 => (nx (sF T21 10 ((T21.1 10) + 1)) fun T22 => (some (rV, T22))))))))))))))) else (obI (fR_readNumber 0 9 T5) fun r8 T7 => (nx (sF T7 11 r8) fun T9 => (some (rV, T9)))))))))
def fR_sign_24     (S : St) : Oz := obI (fR_fine S) fun r2 T1 => (if r2 = 0 then (some (rV, T1)) else (nx (sF T1 3 ((T1.1 3) + 1)) fun T3 => (some (rV, T3))))
def fR_sign    (x1 : Int32) (S : St) : Oz := obI (fR_fine S) fun r2 T1 => (if r2 = 0 then (fR_sign_24   T1) else (obI (fR_here T1) fun r4 T3 => (if r4 = x1 then (fR_sign_24   T3) else (obV (fR_wrong 1 (T3.1 3) T3) fun T5 => (fR_sign_24   T5)))))
def fR_valley_136     (S : St) : Oz := obI (fR_result (S.1 10) S) fun r2 T1 => (if (T1.1 4) = (-1) then (obV (fR_sets T1) fun T3 => (some (rI r2, T3))) else (some (rI r2, T1)))
def fR_valley_105   (K44 : Int32 → St → Oz) (x2 : Int32) (x3 : Int32) (S : St) : Oz := obI (fR_fine S) fun r2 T1 => (if r2 = 0 then (fR_valley_136   T1) else (obV (fR_pass T1) fun T3 => (obV (fR_readRow x3 T3) fun T5 => (obV (fR_sign 59 T5) fun T7 => (K44 (x2 + 1) T7)))))
def fR_valley_96   (K44 : Int32 → St → Oz) (x2 : Int32) (x3 : Int32) (S : St) : Oz := obV (fR_wrong 3 (S.1 3) S) fun T1 => (fR_valley_105 K44 x2 x3 T1)
def fR_valley_44    : Nat → Int32 → St → Oz
  | 0, _, _ => none
  | n + 1, x2, S => obI (fR_fine S) fun r2 T1 => (if r2 = 0 then (fR_valley_136   T1) else (obI (fR_isMore T1) fun r4 T3 => (if r4 = 0 then (fR_valley_136   T3) else (obI (fR_word T3) fun r6 T5 => (obI (fR_isRow r6 T5) fun r8 T7 => (if r8 = 0 then (obV (fR_wrong 1 (T7.1 3) T7) fun T11 => (fR_valley_105 (fun x2 S => fR_valley_44 n x2 S) x2 r6 T11)) else (if x2 = 60 then (fR_valley_96 (fun x2 S => fR_valley_44 n x2 S) x2 r6 T7) else (obI (fR_isFull r6 T7) fun r10 T9 => (if r10 = 0 then (fR_valley_105 (fun x2 S => fR_valley_44 n x2 S) x2 r6 T9) else (fR_valley_96 (fun x2 S => fR_valley_44 n x2 S) x2 r6 T9))))))))))
def fR_valley_23    (x1 : Int32) (s0 : Int32) (S : St) : Oz := obI (fR_may s0 1 1 S) fun r2 T1 => (if r2 = 0 then (some (rI 0, T1)) else (obV (fR_begins x1 T1) fun T3 => (obV (fR_clears T3) fun T5 => (fR_valley_44  FU 0 T5))))
def fR_valley_22    (x1 : Int32) (S : St) : Oz := fR_valley_23  x1 0 S
def fR_valley    (x1 : Int32) (S : St) : Oz := nx (sF S 0 0) fun T1 => (if x1 < 0 then (fR_valley_22  x1 T1) else (if (T1.1 1) < x1 then (fR_valley_22  x1 T1) else (fR_valley_23  x1 1 T1)))
def fR_of_v231_4  (x0 : Nat)  : Nat → Int32 → Int32 → St → Oz
  | 0, _, _, _ => none
  | n + 1, x1, x2, S => if (nI (skN x0)) ≤ x2 then (some (rI x1, S)) else (gd (ib x2 (skN x0)) (nx ((x1 <<< ((5 : Int32) &&& 31)) ||| ((skB x0 x2) - 96)) fun v5 => (fR_of_v231_4 x0 n v5 (x2 + 1) S)))
def fR_of_v231  (x0 : Nat)   (S : St) : Oz := fR_of_v231_4 x0 FU 0 0 S
def fR_of_v232_4  (x0 : Nat)  : Nat → Int32 → Int32 → St → Oz
  | 0, _, _, _ => none
  | n + 1, x1, x2, S => if (nI (skN x0)) ≤ x2 then (some (rI x1, S)) else (gd (ib x2 (skN x0)) (nx ((x1 <<< ((5 : Int32) &&& 31)) ||| ((skB x0 x2) - 96)) fun v5 => (fR_of_v232_4 x0 n v5 (x2 + 1) S)))
def fR_of_v232  (x0 : Nat)   (S : St) : Oz := fR_of_v232_4 x0 FU 0 0 S
def fR_standsHere_7  (x1 : Nat)  : Nat → Int32 → St → Oz
  | 0, _, _ => none
  | n + 1, x2, S => if (nI (skN x1)) ≤ x2 then (if (S.1 2) ≤ ((S.1 3) + (nI (skN x1))) then (some (rI 1, S)) else (gd (ib ((S.1 3) + (nI (skN x1))) 600) (obI (fR_isSmall (rA S 2 ((S.1 3) + (nI (skN x1)))) S) fun r8 T7 => (if r8 = 0 then (some (rI 1, T7)) else (some (rI 0, T7)))))) else (if (S.1 2) ≤ ((S.1 3) + x2) then (some (rI 0, S)) else (gd (ib ((S.1 3) + x2) 600) (gd (ib x2 (skN x1)) (if (rA S 2 ((S.1 3) + x2)) = (skB x1 x2) then (fR_standsHere_7 x1 n (x2 + 1) S) else (some (rI 0, S))))))
def fR_standsHere  (x1 : Nat)   (S : St) : Oz := obI (fR_here S) fun r2 T1 => (fR_standsHere_7 x1 FU 0 T1)
def fR_of_v235_4  (x0 : Nat)  : Nat → Int32 → Int32 → St → Oz
  | 0, _, _, _ => none
  | n + 1, x1, x2, S => if (nI (skN x0)) ≤ x2 then (some (rI x1, S)) else (gd (ib x2 (skN x0)) (nx ((x1 <<< ((5 : Int32) &&& 31)) ||| ((skB x0 x2) - 96)) fun v5 => (fR_of_v235_4 x0 n v5 (x2 + 1) S)))
def fR_of_v235  (x0 : Nat)   (S : St) : Oz := fR_of_v235_4 x0 FU 0 0 S
def fR_of_v236_4  (x0 : Nat)  : Nat → Int32 → Int32 → St → Oz
  | 0, _, _, _ => none
  | n + 1, x1, x2, S => if (nI (skN x0)) ≤ x2 then (some (rI x1, S)) else (gd (ib x2 (skN x0)) (nx ((x1 <<< ((5 : Int32) &&& 31)) ||| ((skB x0 x2) - 96)) fun v5 => (fR_of_v236_4 x0 n v5 (x2 + 1) S)))
def fR_of_v236  (x0 : Nat)   (S : St) : Oz := fR_of_v236_4 x0 FU 0 0 S
def fR_of_v237_4  (x0 : Nat)  : Nat → Int32 → Int32 → St → Oz
  | 0, _, _, _ => none
  | n + 1, x1, x2, S => if (nI (skN x0)) ≤ x2 then (some (rI x1, S)) else (gd (ib x2 (skN x0)) (nx ((x1 <<< ((5 : Int32) &&& 31)) ||| ((skB x0 x2) - 96)) fun v5 => (fR_of_v237_4 x0 n v5 (x2 + 1) S)))
def fR_of_v237  (x0 : Nat)   (S : St) : Oz := fR_of_v237_4 x0 FU 0 0 S
def fR_of_v238_4  (x0 : Nat)  : Nat → Int32 → Int32 → St → Oz
  | 0, _, _, _ => none
  | n + 1, x1, x2, S => if (nI (skN x0)) ≤ x2 then (some (rI x1, S)) else (gd (ib x2 (skN x0)) (nx ((x1 <<< ((5 : Int32) &&& 31)) ||| ((skB x0 x2) - 96)) fun v5 => (fR_of_v238_4 x0 n v5 (x2 + 1) S)))
def fR_of_v238  (x0 : Nat)   (S : St) : Oz := fR_of_v238_4 x0 FU 0 0 S
def fR_of_v239_4  (x0 : Nat)  : Nat → Int32 → Int32 → St → Oz
  | 0, _, _, _ => none
  | n + 1, x1, x2, S => if (nI (skN x0)) ≤ x2 then (some (rI x1, S)) else (gd (ib x2 (skN x0)) (nx ((x1 <<< ((5 : Int32) &&& 31)) ||| ((skB x0 x2) - 96)) fun v5 => (fR_of_v239_4 x0 n v5 (x2 + 1) S)))
def fR_of_v239  (x0 : Nat)   (S : St) : Oz := fR_of_v239_4 x0 FU 0 0 S
def fR_of_v240_4  (x0 : Nat)  : Nat → Int32 → Int32 → St → Oz
  | 0, _, _, _ => none
  | n + 1, x1, x2, S => if (nI (skN x0)) ≤ x2 then (some (rI x1, S)) else (gd (ib x2 (skN x0)) (nx ((x1 <<< ((5 : Int32) &&& 31)) ||| ((skB x0 x2) - 96)) fun v5 => (fR_of_v240_4 x0 n v5 (x2 + 1) S)))
def fR_of_v240  (x0 : Nat)   (S : St) : Oz := fR_of_v240_4 x0 FU 0 0 S
def fR_factHere     (S : St) : Oz := obI (fR_standsHere 28 S) fun r2 T1 => (if r2 = 0 then (obI (fR_word T1) fun r4 T3 => (obI (fR_of_v235 29 T3) fun r6 T5 => (if r4 = r6 then (some (rI 0, T5)) else (obI (fR_of_v236 30 T5) fun r8 T7 => (if r4 = r8 then (some (rI 1, T7)) else (obI (fR_of_v237 31 T7) fun r10 T9 => (if r4 = r10 then (some (rI 2, T9)) else (obI (fR_of_v238 32 T9) fun r12 T11 => (if r4 = r12 then (some (rI 3, T11)) else (obI (fR_of_v239 33 T11) fun r14 T13 => (if r4 = r14 then (some (rI 4, T13)) else (obI (fR_of_v240 34 T13) fun r16 T15 => (if r4 = r16 then (some (rI 6, T15)) else (obI (fR_of_v212 23 T15) fun r18 T17 => (if r4 = r18 then (some (rI 7, T17)) else (some (rI (-1), T17))))))))))))))))) else (some (rI 5, T1)))
def fR_opensOne_42     (S : St) : Oz := nx (sF S 6 ((S.1 6) + 1)) fun T1 => (some (rV, T1))
def fR_opensOne_25    (x1 : Int32) (S : St) : Oz := obI (fR_fine S) fun r2 T1 => (if r2 = 0 then (fR_opensOne_42   T1) else (nx (sF T1 3 ((T1.1 3) + x1)) fun T3 => (fR_opensOne_42   T3)))
def fR_opensOne    (x1 : Int32) (S : St) : Oz := obI (fR_fine S) fun r2 T1 => (if r2 = 0 then (fR_opensOne_25  x1 T1) else (if (T1.1 6) = 6 then (obV (fR_wrong 3 (T1.1 3) T1) fun T3 => (fR_opensOne_25  x1 T3)) else (fR_opensOne_25  x1 T1)))
def fR_emit    (x1 : Int32) (x2 : Int32) (S : St) : Oz := obI (fR_fine S) fun r2 T1 => (if r2 = 0 then (some (rV, T1)) else (gd (ib (T1.1 16) 150) (nx (sA T1 9 (T1.1 16) x1) fun T3 => (gd (ib (T3.1 16) 150) (nx (sA T3 10 (T3.1 16) x2) fun T4 => (nx (sF T4 16 ((T4.1 16) + 1)) fun T5 => (some (rV, T5))))))))
def fR_readTwo (rc : St → Oz)   (x1 : Int32) (x2 : Int32) (S : St) : Oz := obV (fR_opensOne x1 S) fun T1 => (obV (fR_sign 91 T1) fun T3 => (obV (rc T3) fun T5 => (obV (fR_sign 44 T5) fun T7 => (obV (rc T7) fun T9 => (obV (fR_sign 93 T9) fun T11 => (nx (sF T11 6 ((T11.1 6) - 1)) fun T13 => (obV (fR_emit x2 0 T13) fun T14 => (some (rV, T14)))))))))
def fR_readUnit_136 (rc : St → Oz)   (x1 : Int32) (S : St) : Oz := obI (fR_fine S) fun r2 T1 => (if r2 = 0 then (some (rV, T1)) else (obV (fR_pass T1) fun T3 => (obV (fR_emit 1 x1 T3) fun T5 => (some (rV, T5)))))
def fR_readUnit (rc : St → Oz)    (S : St) : Oz := obI (fR_fine S) fun r2 T1 => (if r2 = 0 then (some (rV, T1)) else (obI (fR_here T1) fun r4 T3 => (if r4 = 40 then (obV (fR_opensOne 1 T3) fun T29 => (obV (rc T29) fun T31 => (obV (fR_sign 41 T31) fun T33 => (nx (sF T33 6 ((T33.1 6) - 1)) fun T35 => (some (rV, T35)))))) else (obI (fR_here T3) fun r6 T5 => (obI (fR_isDigit r6 T5) fun r8 T7 => (if r8 = 0 then (obI (fR_word T7) fun r10 T9 => (obI (fR_of_v231 26 T9) fun r12 T11 => (if r10 = r12 then (obV (fR_readTwo rc 5 6 T11) fun T23 => (some (rV, T23))) else (obI (fR_word T11) fun r14 T13 => (obI (fR_of_v232 27 T13) fun r16 T15 => (if r14 = r16 then (obV (fR_readTwo rc 4 7 T15) fun T21 => (some (rV, T21))) else (obI (fR_factHere T15) fun r18 T17 => (if r18 = (-1) then (obV (fR_wrong 1 (T17.1 3) T17) fun T19 => (fR_readUnit_136 rc r18 T19)) else (fR_readUnit_136 rc r18 T17))))))))) else (obI (fR_readNumber 0 999 T7) fun r26 T25 => (obV (fR_emit 0 r26 T25) fun T27 => (some (rV, T27))))))))))
def fR_readProduct_66 (rc : St → Oz)  (K4 : St → Oz) (s0 : Int32) (S : St) : Oz := nx (sF S 3 ((S.1 3) + 1)) fun T1 => (obV (fR_readUnit rc T1) fun T2 => (obV (fR_emit s0 0 T2) fun T4 => (K4  T4)))
def fR_readProduct_38 (rc : St → Oz)  (K4 : St → Oz)  (S : St) : Oz := obI (fR_here S) fun r2 T1 => (if r2 = 42 then (fR_readProduct_66 rc K4 4 T1) else (obI (fR_here T1) fun r4 T3 => (if r4 = 47 then (fR_readProduct_66 rc K4 5 T3) else (fR_readProduct_66 rc K4 8 T3))))
def fR_readProduct_4 (rc : St → Oz)   : Nat → St → Oz
  | 0, _ => none
  | n + 1, S => obI (fR_fine S) fun r2 T1 => (if r2 = 0 then (some (rV, T1)) else (obI (fR_here T1) fun r4 T3 => (if r4 = 42 then (fR_readProduct_38 rc (fun  S => fR_readProduct_4 rc n  S)  T3) else (obI (fR_here T3) fun r6 T5 => (if r6 = 47 then (fR_readProduct_38 rc (fun  S => fR_readProduct_4 rc n  S)  T5) else (obI (fR_here T5) fun r8 T7 => (if r8 = 37 then (fR_readProduct_38 rc (fun  S => fR_readProduct_4 rc n  S)  T7) else (some (rV, T7)))))))))
def fR_readProduct (rc : St → Oz)    (S : St) : Oz := obV (fR_readUnit rc S) fun T1 => (fR_readProduct_4 rc FU  T1)
def fR_readSum_43 (rc : St → Oz)  (K4 : St → Oz) (s0 : Int32) (S : St) : Oz := nx (sF S 3 ((S.1 3) + 1)) fun T1 => (obV (fR_readProduct rc T1) fun T2 => (obV (fR_emit s0 0 T2) fun T4 => (K4  T4)))
def fR_readSum_29 (rc : St → Oz)  (K4 : St → Oz)  (S : St) : Oz := obI (fR_here S) fun r2 T1 => (if r2 = 43 then (fR_readSum_43 rc K4 2 T1) else (fR_readSum_43 rc K4 3 T1))
def fR_readSum_4 (rc : St → Oz)   : Nat → St → Oz
  | 0, _ => none
  | n + 1, S => obI (fR_fine S) fun r2 T1 => (if r2 = 0 then (some (rV, T1)) else (obI (fR_here T1) fun r4 T3 => (if r4 = 43 then (fR_readSum_29 rc (fun  S => fR_readSum_4 rc n  S)  T3) else (obI (fR_here T3) fun r6 T5 => (if r6 = 45 then (fR_readSum_29 rc (fun  S => fR_readSum_4 rc n  S)  T5) else (some (rV, T5)))))))
def fR_readSum_B (rc : St → Oz)    (S : St) : Oz := obV (fR_readProduct rc S) fun T1 => (fR_readSum_4 rc FU  T1)
def fR_readSum : Nat → St → Oz
  | 0, _ => none
  | d + 1, S => fR_readSum_B (fun  S => fR_readSum d  S)  S
def fR_copies_v244_3    : Nat → Int32 → Int32 → St → Oz
  | 0, _, _, _ => none
  | n + 1, x3, x4, S => if x3 ≤ x4 then (some (rV, S)) else (gd (ib x4 150) (gd (ib x4 150) (nx (sA S 11 x4 (rA S 9 x4)) fun T1 => (fR_copies_v244_3 n x3 (x4 + 1) T1))))
def fR_copies_v244    (x3 : Int32) (S : St) : Oz := fR_copies_v244_3  FU x3 0 S
def fR_copies_v245_3    : Nat → Int32 → Int32 → St → Oz
  | 0, _, _, _ => none
  | n + 1, x3, x4, S => if x3 ≤ x4 then (some (rV, S)) else (gd (ib x4 150) (gd (ib x4 150) (nx (sA S 12 x4 (rA S 10 x4)) fun T1 => (fR_copies_v245_3 n x3 (x4 + 1) T1))))
def fR_copies_v245    (x3 : Int32) (S : St) : Oz := fR_copies_v245_3  FU x3 0 S
def fR_law_77     (S : St) : Oz := obI (fR_result 1 S) fun r2 T1 => (if (T1.1 4) = (-1) then (nx (sF T1 17 (T1.1 16)) fun T3 => (obV (fR_copies_v244 (T3.1 16) T3) fun T4 => (obV (fR_copies_v245 (T4.1 16) T4) fun T6 => (some (rI r2, T6))))) else (some (rI r2, T1)))
def fR_law_30    (x1 : Int32) (s0 : Int32) (S : St) : Oz := obI (fR_may s0 1 1 S) fun r2 T1 => (if r2 = 0 then (some (rI 0, T1)) else (obV (fR_begins x1 T1) fun T3 => (nx (sF T3 16 0) fun T5 => (obV (fR_readSum 12 T5) fun T6 => (obI (fR_fine T6) fun r9 T8 => (if r9 = 0 then (fR_law_77   T8) else (obI (fR_isMore T8) fun r11 T10 => (if r11 = 0 then (fR_law_77   T10) else (obV (fR_wrong 1 (T10.1 3) T10) fun T12 => (fR_law_77   T12))))))))))
def fR_law_29    (x1 : Int32) (S : St) : Oz := fR_law_30  x1 0 S
def fR_law    (x1 : Int32) (S : St) : Oz := nx (sF S 0 0) fun T1 => (if x1 < 0 then (fR_law_29  x1 T1) else (if (T1.1 1) < x1 then (fR_law_29  x1 T1) else (if 150 < x1 then (fR_law_29  x1 T1) else (fR_law_30  x1 1 T1))))
def fR_of_v249_4  (x0 : Nat)  : Nat → Int32 → Int32 → St → Oz
  | 0, _, _, _ => none
  | n + 1, x1, x2, S => if (nI (skN x0)) ≤ x2 then (some (rI x1, S)) else (gd (ib x2 (skN x0)) (nx ((x1 <<< ((5 : Int32) &&& 31)) ||| ((skB x0 x2) - 96)) fun v5 => (fR_of_v249_4 x0 n v5 (x2 + 1) S)))
def fR_of_v249  (x0 : Nat)   (S : St) : Oz := fR_of_v249_4 x0 FU 0 0 S
def fR_of_v250_4  (x0 : Nat)  : Nat → Int32 → Int32 → St → Oz
  | 0, _, _, _ => none
  | n + 1, x1, x2, S => if (nI (skN x0)) ≤ x2 then (some (rI x1, S)) else (gd (ib x2 (skN x0)) (nx ((x1 <<< ((5 : Int32) &&& 31)) ||| ((skB x0 x2) - 96)) fun v5 => (fR_of_v250_4 x0 n v5 (x2 + 1) S)))
def fR_of_v250  (x0 : Nat)   (S : St) : Oz := fR_of_v250_4 x0 FU 0 0 S
def fR_of_v251_4  (x0 : Nat)  : Nat → Int32 → Int32 → St → Oz
  | 0, _, _, _ => none
  | n + 1, x1, x2, S => if (nI (skN x0)) ≤ x2 then (some (rI x1, S)) else (gd (ib x2 (skN x0)) (nx ((x1 <<< ((5 : Int32) &&& 31)) ||| ((skB x0 x2) - 96)) fun v5 => (fR_of_v251_4 x0 n v5 (x2 + 1) S)))
def fR_of_v251  (x0 : Nat)   (S : St) : Oz := fR_of_v251_4 x0 FU 0 0 S
def fR_of_v252_4  (x0 : Nat)  : Nat → Int32 → Int32 → St → Oz
  | 0, _, _, _ => none
  | n + 1, x1, x2, S => if (nI (skN x0)) ≤ x2 then (some (rI x1, S)) else (gd (ib x2 (skN x0)) (nx ((x1 <<< ((5 : Int32) &&& 31)) ||| ((skB x0 x2) - 96)) fun v5 => (fR_of_v252_4 x0 n v5 (x2 + 1) S)))
def fR_of_v252  (x0 : Nat)   (S : St) : Oz := fR_of_v252_4 x0 FU 0 0 S
def fR_of_v253_4  (x0 : Nat)  : Nat → Int32 → Int32 → St → Oz
  | 0, _, _, _ => none
  | n + 1, x1, x2, S => if (nI (skN x0)) ≤ x2 then (some (rI x1, S)) else (gd (ib x2 (skN x0)) (nx ((x1 <<< ((5 : Int32) &&& 31)) ||| ((skB x0 x2) - 96)) fun v5 => (fR_of_v253_4 x0 n v5 (x2 + 1) S)))
def fR_of_v253  (x0 : Nat)   (S : St) : Oz := fR_of_v253_4 x0 FU 0 0 S
def fR_stepOf    (x0 : Int32) (S : St) : Oz := obI (fR_of_v249 35 S) fun r2 T1 => (if x0 = r2 then (some (rI 0, T1)) else (obI (fR_of_v250 36 T1) fun r4 T3 => (if x0 = r4 then (some (rI 1, T3)) else (obI (fR_of_v251 37 T3) fun r6 T5 => (if x0 = r6 then (some (rI 2, T5)) else (obI (fR_of_v252 38 T5) fun r8 T7 => (if x0 = r8 then (some (rI 3, T7)) else (obI (fR_of_v240 34 T7) fun r10 T9 => (if x0 = r10 then (some (rI 4, T9)) else (obI (fR_of_v253 39 T9) fun r12 T11 => (if x0 = r12 then (some (rI 5, T11)) else (some (rI (-1), T11)))))))))))))
def fR_tellsStep    (x1 : Int32) (x2 : Int32) (x3 : Int32) (S : St) : Oz := obI (fR_fine S) fun r2 T1 => (if r2 = 0 then (some (rV, T1)) else (gd (ib (T1.1 18) 150) (nx (sA T1 15 (T1.1 18) x1) fun T3 => (gd (ib ((T3.1 18) + 1) 150) (nx (sA T3 15 ((T3.1 18) + 1) x2) fun T4 => (gd (ib ((T4.1 18) + 2) 150) (nx (sA T4 15 ((T4.1 18) + 2) x3) fun T5 => (nx (sF T5 18 ((T5.1 18) + 3)) fun T6 => (some (rV, T6))))))))))
def fR_readStep_204 (rc : St → Oz)    (S : St) : Oz := obV (fR_sign 59 S) fun T1 => (some (rV, T1))
def fR_readStep_201 (rc : St → Oz)   (s0 : Int32) (s1 : Int32) (s2 : Int32) (S : St) : Oz := obV (fR_tellsStep s2 s1 s0 S) fun T1 => (fR_readStep_204 rc  T1)
def fR_readStep_158 (rc : St → Oz)   (x1 : Int32) (s0 : Int32) (S : St) : Oz := if 2 ≤ x1 then (if x1 = 3 then (obI (fR_readNumber 0 ((S.1 13) - 1) S) fun r2 T1 => (fR_readStep_201 rc r2 s0 x1 T1)) else (fR_readStep_201 rc 0 s0 x1 S)) else (obI (fR_readNumber 0 ((S.1 12) - 1) S) fun r4 T3 => (fR_readStep_201 rc r4 s0 x1 T3))
def fR_readStep_153 (rc : St → Oz)   (x1 : Int32) (s0 : Int32) (s1 : Int32) (S : St) : Oz := obI (fR_readNumber s1 (s0 - 1) S) fun r2 T1 => (fR_readStep_158 rc x1 r2 T1)
def fR_readStep_119 (rc : St → Oz)    (S : St) : Oz := fR_readStep_204 rc  S
def fR_readStep_84 (rc : St → Oz)   (x3 : Int32) (S : St) : Oz := obV (fR_sign 93 S) fun T1 => (nx (sF T1 6 ((T1.1 6) - 1)) fun T3 => (obI (fR_fine T3) fun r5 T4 => (if r5 = 0 then (fR_readStep_119 rc  T4) else (gd (ib (x3 + 2) 150) (nx (sA T4 15 (x3 + 2) (T4.1 18)) fun T6 => (fR_readStep_119 rc  T6))))))
def fR_readStep_61 (rc : St → Oz)   : Nat → Int32 → St → Oz
  | 0, _, _ => none
  | n + 1, x3, S => obI (fR_fine S) fun r2 T1 => (if r2 = 0 then (fR_readStep_84 rc x3 T1) else (obI (fR_here T1) fun r4 T3 => (if r4 = 93 then (fR_readStep_84 rc x3 T3) else (obV (rc T3) fun T5 => (fR_readStep_61 rc n x3 T5)))))
def fR_readStep_B (rc : St → Oz)    (S : St) : Oz := obI (fR_word S) fun r2 T1 => (obI (fR_stepOf r2 T1) fun r4 T3 => (if r4 = (-1) then (obV (fR_wrong 1 (T3.1 3) T3) fun T16 => (fR_readStep_204 rc  T16)) else (if r4 = 5 then (obV (fR_opensOne 5 T3) fun T7 => (obI (fR_readNumber 0 40 T7) fun r10 T9 => (obV (fR_sign 91 T9) fun T11 => (nx (T11.1 18) fun v13 => (obV (fR_tellsStep 5 r10 0 T11) fun T14 => (fR_readStep_61 rc FU v13 T14)))))) else (obV (fR_pass T3) fun T5 => (if r4 = 4 then (fR_readStep_158 rc r4 0 T5) else (if 2 ≤ r4 then (fR_readStep_153 rc r4 (T5.1 14) 0 T5) else (fR_readStep_153 rc r4 (T5.1 13) 0 T5)))))))
def fR_readStep : Nat → St → Oz
  | 0, _ => none
  | d + 1, S => fR_readStep_B (fun  S => fR_readStep d  S)  S
def fR_copies_v255_3    : Nat → Int32 → Int32 → St → Oz
  | 0, _, _, _ => none
  | n + 1, x3, x4, S => if x3 ≤ x4 then (some (rV, S)) else (gd (ib x4 150) (gd (ib x4 150) (nx (sA S 16 x4 (rA S 15 x4)) fun T1 => (fR_copies_v255_3 n x3 (x4 + 1) T1))))
def fR_copies_v255    (x3 : Int32) (S : St) : Oz := fR_copies_v255_3  FU x3 0 S
def fR_copies_v257_3    : Nat → Int32 → Int32 → St → Oz
  | 0, _, _, _ => none
  | n + 1, x3, x4, S => if x3 ≤ x4 then (some (rV, S)) else (gd (ib x4 95) (gd (ib x4 95) (nx (sA S 18 x4 (rA S 17 x4)) fun T1 => (fR_copies_v257_3 n x3 (x4 + 1) T1))))
def fR_copies_v257    (x3 : Int32) (S : St) : Oz := fR_copies_v257_3  FU x3 0 S
def fR_take     (S : St) : Oz := obV (fR_copies_v257 95 S) fun T1 => (some (rV, T1))
def fR_knownOf    (x1 : Int32) (x2 : Int32) (S : St) : Oz := gd (ib ((0 + (8 * x1)) + x2) 95) (some (rI (rA S 18 ((0 + (8 * x1)) + x2)), S))
def fR_knowsThen_21    (s0 : Int32) (s1 : Int32) (S : St) : Oz := gd (ib s1 95) (nx (sA S 18 s1 s0) fun T1 => (some (rV, T1)))
def fR_knowsThen    (x1 : Int32) (x2 : Int32) (x3 : Int32) (S : St) : Oz := if 0 ≤ x3 then (fR_knowsThen_21  x3 ((0 + (8 * x1)) + x2) S) else (fR_knowsThen_21  0 ((0 + (8 * x1)) + x2) S)
def fR_passes_179   (K116 : Int32 → St → Oz) : Nat → Int32 → Int32 → St → Oz
  | 0, _, _, _ => none
  | n + 1, x1, x2, S => if (S.1 12) ≤ x2 then (K116 (x1 + 1) S) else (obV (fR_knowsThen x1 x2 0 S) fun T1 => (fR_passes_179 K116 n x1 (x2 + 1) T1))
def fR_passes_116    : Nat → Int32 → St → Oz
  | 0, _, _ => none
  | n + 1, x1, S => if (S.1 13) ≤ x1 then (some (rV, S)) else (if ((rA S 18 94) - (rA S 18 94) / 10 * 10) = 0 then (gd (ib (48 + x1) 95) (gd (ib (48 + x1) 95) (nx (sA S 18 (48 + x1) ((rA S 18 (48 + x1)) + 1)) fun T1 => (gd (ib (48 + x1) 95) (if (rA T1 18 (48 + x1)) = 60 then (gd (ib (54 + x1) 95) (nx (sA T1 18 (54 + x1) 1) fun T2 => (fR_passes_179 (fun x1 S => fR_passes_116 n x1 S) FU x1 0 T2))) else (fR_passes_116 n (x1 + 1) T1)))))) else (some (rV, S)))
def fR_passes_12   (K2 : Int32 → St → Oz) : Nat → Int32 → Int32 → St → Oz
  | 0, _, _, _ => none
  | n + 1, x1, x2, S => if (S.1 12) ≤ x2 then (gd (ib (78 + x1) 95) (nx (sA S 18 (78 + x1) 0) fun T1 => (gd (ib (66 + x1) 95) (nx (sA T1 18 (66 + x1) 0) fun T2 => (K2 (x1 + 1) T2))))) else (gd (ib (78 + x1) 95) (if (((rA S 18 (78 + x1)) >>> ((x2 : Int32) &&& 31)) &&& 1) = 0 then (if (S.1 15) ≤ 0 then (fR_passes_12 K2 n x1 (x2 + 1) S) else (obI (fR_knownOf x1 x2 S) fun r4 T3 => (gd (ib ((2 * x2) + 1) 16) (gd (nz (T3.1 15)) (obV (fR_knowsThen x1 x2 (r4 - ((rA T3 6 ((2 * x2) + 1)) / (T3.1 15))) T3) fun T5 => (fR_passes_12 K2 n x1 (x2 + 1) T5)))))) else (fR_passes_12 K2 n x1 (x2 + 1) S)))
def fR_passes_2    : Nat → Int32 → St → Oz
  | 0, _, _ => none
  | n + 1, x1, S => if (S.1 13) ≤ x1 then (nx (sA S 18 94 ((rA S 18 94) + 1)) fun T1 => (fR_passes_116  FU 0 T1)) else (fR_passes_12 (fun x1 S => fR_passes_2 n x1 S) FU x1 0 S)
def fR_passes     (S : St) : Oz := fR_passes_2  FU 0 S
def fR_isByTwo    (x1 : Int32) (x2 : Int32) (S : St) : Oz := gd (ib (4 * x1) 40) (gd (ib ((4 * x1) + 1) 40) (obI (fR_knownOf (rA S 8 (4 * x1)) (rA S 8 ((4 * x1) + 1)) S) fun r2 T1 => (gd (ib ((4 * x1) + 1) 40) (obI (fR_knownOf x2 (rA T1 8 ((4 * x1) + 1)) T1) fun r4 T3 => (gd (ib ((4 * x1) + 1) 40) (gd (ib (2 * (rA T3 8 ((4 * x1) + 1))) 16) (if (r2 + r4) < (rA T3 6 (2 * (rA T3 8 ((4 * x1) + 1)))) then (some (rI 0, T3)) else (some (rI 1, T3)))))))))
def fR_slips    (x1 : Int32) (x2 : Int32) (S : St) : Oz := obI (fR_knownOf x1 x2 S) fun r2 T1 => (obV (fR_knowsThen x1 x2 (r2 - 4) T1) fun T3 => (gd (ib (72 + x1) 95) (gd (ib (72 + x1) 95) (nx (sA T3 18 (72 + x1) ((rA T3 18 (72 + x1)) + 1)) fun T5 => (some (rV, T5))))))
def fR_isSung    (x1 : Int32) (x2 : Int32) (S : St) : Oz := gd (ib (84 + x1) 95) (if (rA S 18 (84 + x1)) = 1 then (some (rI 0, S)) else (gd (ib (4 * x1) 40) (if (rA S 8 (4 * x1)) = x2 then (some (rI 0, S)) else (obI (fR_isByTwo x1 x2 S) fun r2 T1 => (if r2 = 0 then (gd (ib (4 * x1) 40) (gd (ib ((4 * x1) + 1) 40) (obV (fR_slips (rA T1 8 (4 * x1)) (rA T1 8 ((4 * x1) + 1)) T1) fun T3 => (gd (ib ((4 * x1) + 1) 40) (obV (fR_slips x2 (rA T3 8 ((4 * x1) + 1)) T3) fun T5 => (some (rI 1, T5))))))) else (gd (ib (84 + x1) 95) (nx (sA T1 18 (84 + x1) 1) fun T7 => (some (rI 1, T7)))))))))
def fR_isWell_68    (x2 : Int32) (x3 : Int32) (x4 : Int32) (x5 : Int32) (s0 : Int32) (S : St) : Oz := if x4 = 0 then (gd (isB s0) (some (rI s0, S))) else (if x4 = 2 then (if s0 = 0 then (some (rI 0, S)) else (gd (ib (66 + x2) 95) (if (rA S 18 (66 + x2)) ≤ 0 then (some (rI 0, S)) else (some (rI 1, S))))) else (if s0 = 0 then (obI (fR_knownOf x2 x3 S) fun r2 T1 => (if r2 < x5 then (some (rI 0, T1)) else (some (rI 1, T1)))) else (some (rI 1, S))))
def fR_isWell    (x1 : Int32) (S : St) : Oz := gd (ib (4 * x1) 40) (nx (rA S 8 (4 * x1)) fun v1 => (gd (ib ((4 * x1) + 1) 40) (nx (rA S 8 ((4 * x1) + 1)) fun v2 => (gd (ib ((4 * x1) + 2) 40) (nx (rA S 8 ((4 * x1) + 2)) fun v3 => (gd (ib (2 * v2) 16) (nx (((rA S 6 (2 * v2)) / 2) + 1) fun v4 => (obI (fR_knownOf v1 v2 S) fun r6 T5 => (gd (ib (2 * v2) 16) (if r6 < (rA T5 6 (2 * v2)) then (fR_isWell_68  v1 v2 v3 v4 0 T5) else (fR_isWell_68  v1 v2 v3 v4 1 T5)))))))))))
def fR_isSaid    (x1 : Int32) (S : St) : Oz := gd (ib (84 + x1) 95) (if (rA S 18 (84 + x1)) = 1 then (some (rI 0, S)) else (obI (fR_isWell x1 S) fun r2 T1 => (if r2 = 0 then (gd (ib (4 * x1) 40) (gd (ib ((4 * x1) + 1) 40) (obV (fR_slips (rA T1 8 (4 * x1)) (rA T1 8 ((4 * x1) + 1)) T1) fun T3 => (some (rI 1, T3))))) else (gd (ib (84 + x1) 95) (nx (sA T1 18 (84 + x1) 1) fun T5 => (some (rI 1, T5)))))))
def fR_isForgotten    (x1 : Int32) (x2 : Int32) (S : St) : Oz := obI (fR_knownOf x1 x2 S) fun r2 T1 => (if r2 = 0 then (some (rI 0, T1)) else (obV (fR_knowsThen x1 x2 0 T1) fun T3 => (some (rI 1, T3))))
def fR_memoryOf    (x1 : Int32) (S : St) : Oz := gd (ib (54 + x1) 95) (if (rA S 18 (54 + x1)) = 1 then (gd (ib (2 * x1) 12) (some (rI ((rA S 7 (2 * x1)) / 2), S))) else (gd (ib (2 * x1) 12) (some (rI (rA S 7 (2 * x1)), S))))
def fR_sumOf_5    : Nat → Int32 → Int32 → Int32 → Int32 → St → Oz
  | 0, _, _, _, _, _ => none
  | n + 1, x1, x2, x3, x4, S => if x2 ≤ x4 then (some (rI x3, S)) else (gd (ib (x1 + x4) 95) (nx (x3 + (rA S 18 (x1 + x4))) fun v1 => (fR_sumOf_5 n x1 x2 v1 (x4 + 1) S)))
def fR_sumOf    (x1 : Int32) (x2 : Int32) (S : St) : Oz := fR_sumOf_5  FU x1 x2 0 0 S
def fR_allOf    (x1 : Int32) (S : St) : Oz := obI (fR_sumOf (0 + (8 * x1)) (S.1 12) S) fun r2 T1 => (some (rI r2, T1))
def fR_roomOf    (x1 : Int32) (S : St) : Oz := obI (fR_memoryOf x1 S) fun r2 T1 => (obI (fR_allOf x1 T1) fun r4 T3 => (if r4 ≤ r2 then (obI (fR_memoryOf x1 T3) fun r6 T5 => (obI (fR_allOf x1 T5) fun r8 T7 => (some (rI (r6 - r8), T7)))) else (some (rI 0, T3))))
def fR_both_38    (x0 : Int32) (x1 : Int32) (x2 : Int32) (S : St) : Oz := if x2 = 0 then (some (rI 0, S)) else (if x0 = 5 then (gd (nz x2) (some (rI (x1 / x2), S))) else (gd (nz x2) (some (rI (x1 - x1 / x2 * x2), S))))
def fR_both_82    (x1 : Int32) (x2 : Int32) (s0 : Int32) (s1 : Int32) (S : St) : Oz := if s1 = s0 then (some (rI x1, S)) else (some (rI x2, S))
def fR_both_71    (x0 : Int32) (x1 : Int32) (x2 : Int32) (s0 : Int32) (S : St) : Oz := if x0 = 6 then (fR_both_82  x1 x2 1 s0 S) else (fR_both_82  x1 x2 0 s0 S)
def fR_both    (x0 : Int32) (x1 : Int32) (x2 : Int32) (S : St) : Oz := if x0 = 2 then (some (rI (x1 + x2), S)) else (if x0 = 3 then (some (rI (x1 - x2), S)) else (if x0 = 4 then (some (rI (x1 * x2), S)) else (if x0 = 5 then (fR_both_38  x0 x1 x2 S) else (if x0 = 8 then (fR_both_38  x0 x1 x2 S) else (if x2 ≤ x1 then (fR_both_71  x0 x1 x2 0 S) else (fR_both_71  x0 x1 x2 1 S))))))
def fR_valueNow_53   (K4 : Int32 → Int32 → St → Oz) (x1 : Int32) (x2 : Int32) (s0 : Int32) (s1 : Int32) (S : St) : Oz := gd (ib s1 150) (nx (sA S 13 s1 s0) fun T1 => (K4 (x1 + 1) (x2 + 1) T1))
def fR_valueNow_4    : Nat → Int32 → Int32 → St → Oz
  | 0, _, _, _ => none
  | n + 1, x1, x2, S => if (S.1 17) ≤ x2 then (some (rI (rA S 13 0), S)) else (gd (ib x2 150) (nx (rA S 11 x2) fun v1 => (if 1 < v1 then (gd (ib ((x1 + (-1)) - 1) 150) (gd (ib (x1 + (-1)) 150) (obI (fR_both v1 (rA S 13 ((x1 + (-1)) - 1)) (rA S 13 (x1 + (-1))) S) fun r3 T2 => (gd (ib ((x1 + (-1)) - 1) 150) (nx (sA T2 13 ((x1 + (-1)) - 1) r3) fun T4 => (fR_valueNow_4 n (x1 + (-1)) (x2 + 1) T4)))))) else (if v1 = 0 then (gd (ib x2 150) (fR_valueNow_53 (fun x1 x2 S => fR_valueNow_4 n x1 x2 S) x1 x2 (rA S 12 x2) x1 S)) else (gd (ib x2 150) (gd (ib (rA S 12 x2) 8) (fR_valueNow_53 (fun x1 x2 S => fR_valueNow_4 n x1 x2 S) x1 x2 (rA S 14 (rA S 12 x2)) x1 S)))))))
def fR_valueNow     (S : St) : Oz := fR_valueNow_4  FU 0 0 S
def fR_learnsNow_23    (s0 : Int32) (S : St) : Oz := if 0 ≤ s0 then (if s0 ≤ 20 then (some (rI s0, S)) else (some (rI 20, S))) else (some (rI 0, S))
def fR_learnsNow     (S : St) : Oz := if (S.1 17) = 0 then (fR_learnsNow_23  (9 - (rA S 14 1)) S) else (obI (fR_valueNow S) fun r2 T1 => (fR_learnsNow_23  r2 T1))
def fR_learnsOf    (x1 : Int32) (x2 : Int32) (x3 : Int32) (x4 : Int32) (x5 : Int32) (x6 : Int32) (x7 : Int32) (x8 : Int32) (S : St) : Oz := nx (sA S 14 0 x1) fun T1 => (nx (sA T1 14 1 x2) fun T2 => (nx (sA T2 14 2 x3) fun T3 => (nx (sA T3 14 3 x4) fun T4 => (nx (sA T4 14 4 x5) fun T5 => (nx (sA T5 14 5 x6) fun T6 => (nx (sA T6 14 6 x7) fun T7 => (nx (sA T7 14 7 x8) fun T8 => (obI (fR_learnsNow T8) fun r10 T9 => (some (rI r10, T9))))))))))
def fR_learnsBy    (x1 : Int32) (x2 : Int32) (S : St) : Oz := gd (ib (2 * x2) 16) (gd (ib ((2 * x2) + 1) 16) (obI (fR_knownOf x1 x2 S) fun r2 T1 => (obI (fR_roomOf x1 T1) fun r4 T3 => (gd (ib (48 + x1) 95) (gd (ib (60 + x1) 95) (obI (fR_learnsOf (rA S 6 (2 * x2)) (rA S 6 ((2 * x2) + 1)) r2 r4 (rA T3 18 (48 + x1)) (rA T3 18 (60 + x1)) (rA T3 18 94) x1 T3) fun r6 T5 => (some (rI r6, T5))))))))
def fR_moreBy_42    (x4 : Int32) (s0 : Int32) (S : St) : Oz := if s0 ≤ x4 then (some (rI s0, S)) else (some (rI x4, S))
def fR_moreBy    (x1 : Int32) (x2 : Int32) (S : St) : Oz := obI (fR_learnsBy x1 x2 S) fun r2 T1 => (gd (ib (2 * x2) 16) (obI (fR_knownOf x1 x2 T1) fun r4 T3 => (nx ((rA T1 6 (2 * x2)) - r4) fun v5 => (obI (fR_roomOf x1 T3) fun r7 T6 => (if r2 ≤ r7 then (fR_moreBy_42  v5 r2 T6) else (obI (fR_roomOf x1 T6) fun r9 T8 => (fR_moreBy_42  v5 r9 T8)))))))
def fR_isTaught    (x1 : Int32) (x2 : Int32) (S : St) : Oz := obI (fR_moreBy x1 x2 S) fun r2 T1 => (if 0 < r2 then (obI (fR_knownOf x1 x2 T1) fun r4 T3 => (obV (fR_knowsThen x1 x2 (r4 + r2) T3) fun T5 => (gd (ib (60 + x1) 95) (gd (ib (60 + x1) 95) (nx (sA T5 18 (60 + x1) ((rA T5 18 (60 + x1)) + 1)) fun T7 => (gd (ib (66 + x1) 95) (gd (ib (66 + x1) 95) (nx (sA T7 18 (66 + x1) ((rA T7 18 (66 + x1)) + 1)) fun T8 => (gd (ib (78 + x1) 95) (gd (ib (78 + x1) 95) (nx (sA T8 18 (78 + x1) ((rA T8 18 (78 + x1)) ||| ((1 : Int32) <<< ((x2 : Int32) &&& 31)))) fun T9 => (some (rI 1, T9))))))))))))) else (some (rI 0, T1)))
def fR_isDone    (x1 : Int32) (x2 : Int32) (x3 : Int32) (S : St) : Oz := if x1 = 0 then (obI (fR_isTaught x2 x3 S) fun r10 T9 => (gd (isB r10) (some (rI r10, T9)))) else (if x1 = 1 then (obI (fR_isForgotten x2 x3 S) fun r8 T7 => (gd (isB r8) (some (rI r8, T7)))) else (if x1 = 2 then (obI (fR_isSaid x2 S) fun r6 T5 => (gd (isB r6) (some (rI r6, T5)))) else (if x1 = 3 then (obI (fR_isSung x2 x3 S) fun r4 T3 => (gd (isB r4) (some (rI r4, T3)))) else (if (rA S 18 94) < 400 then (obV (fR_passes S) fun T1 => (some (rI 1, T1))) else (some (rI 0, S))))))
def fR_goesSteps_50 (rc : Int32 → Int32 → St → Oz)  (K2 : Int32 → Int32 → St → Oz) : Nat → Int32 → Int32 → Int32 → Int32 → St → Oz
  | 0, _, _, _, _, _ => none
  | n + 1, x2, x3, x4, x5, S => gd (ib (x3 + 1) 150) (if (rA S 16 (x3 + 1)) ≤ x5 then (K2 x2 x4 S) else (if 200 ≤ (S.1 21) then (K2 x2 x4 S) else (obV (rc (x3 + 3) x4 S) fun T1 => (fR_goesSteps_50 rc K2 n x2 x3 x4 (x5 + 1) T1))))
def fR_goesSteps_2 (rc : Int32 → Int32 → St → Oz)   : Nat → Int32 → Int32 → St → Oz
  | 0, _, _, _ => none
  | n + 1, x2, x3, S => if x2 ≤ x3 then (some (rV, S)) else (if 200 ≤ (S.1 21) then (some (rV, S)) else (nx (sF S 21 ((S.1 21) + 1)) fun T1 => (gd (ib x3 150) (if (rA T1 16 x3) = 5 then (gd (ib (x3 + 2) 150) (nx (rA T1 16 (x3 + 2)) fun v6 => (fR_goesSteps_50 rc (fun x2 x3 S => fR_goesSteps_2 rc n x2 x3 S) FU x2 x3 v6 0 T1))) else (gd (ib x3 150) (gd (ib (x3 + 1) 150) (gd (ib (x3 + 2) 150) (obI (fR_isDone (rA T1 16 x3) (rA T1 16 (x3 + 1)) (rA T1 16 (x3 + 2)) T1) fun r3 T2 => (if r3 = 0 then (nx (sF T2 23 ((T2.1 23) + 1)) fun T4 => (fR_goesSteps_2 rc n x2 (x3 + 3) T4)) else (nx (sF T2 22 ((T2.1 22) + 1)) fun T5 => (fR_goesSteps_2 rc n x2 (x3 + 3) T5)))))))))))
def fR_goesSteps_B (rc : Int32 → Int32 → St → Oz)   (x1 : Int32) (x2 : Int32) (S : St) : Oz := fR_goesSteps_2 rc FU x2 x1 S
def fR_goesSteps : Nat → Int32 → Int32 → St → Oz
  | 0, _, _, _ => none
  | d + 1, x1, x2, S => fR_goesSteps_B (fun x1 x2 S => fR_goesSteps d x1 x2 S) x1 x2 S
def fR_copies_v280_3    : Nat → Int32 → Int32 → St → Oz
  | 0, _, _, _ => none
  | n + 1, x3, x4, S => if x3 ≤ x4 then (some (rV, S)) else (gd (ib x4 95) (gd (ib x4 95) (nx (sA S 17 x4 (rA S 18 x4)) fun T1 => (fR_copies_v280_3 n x3 (x4 + 1) T1))))
def fR_copies_v280    (x3 : Int32) (S : St) : Oz := fR_copies_v280_3  FU x3 0 S
def fR_work_123    : Nat → Int32 → St → Oz
  | 0, _, _ => none
  | n + 1, x3, S => if 95 ≤ x3 then (nx (sF S 19 ((S.1 19) + 1)) fun T1 => (obV (fR_take T1) fun T2 => (nx (sF T2 21 0) fun T4 => (nx (sF T4 22 0) fun T5 => (nx (sF T5 23 0) fun T6 => (obV (fR_goesSteps 12 0 (T6.1 18) T6) fun T7 => (obV (fR_copies_v280 95 T7) fun T9 => (nx (sF T9 20 (T9.1 23)) fun T11 => (some (rI (T11.1 22), T11)))))))))) else (gd (ib x3 95) (gd (ib ((95 * (S.1 19)) + x3) 1520) (nx (sA S 19 ((95 * (S.1 19)) + x3) (rA S 17 x3)) fun T12 => (fR_work_123 n (x3 + 1) T12))))
def fR_work_89     (S : St) : Oz := obI (fR_result 0 S) fun r2 T1 => (if (T1.1 4) = (-1) then (obV (fR_copies_v255 (T1.1 18) T1) fun T3 => (fR_work_123  FU 0 T3)) else (some (rI r2, T1)))
def fR_work_68    : Nat → St → Oz
  | 0, _ => none
  | n + 1, S => obI (fR_fine S) fun r2 T1 => (if r2 = 0 then (fR_work_89   T1) else (obI (fR_isMore T1) fun r4 T3 => (if r4 = 0 then (fR_work_89   T3) else (obV (fR_readStep 12 T3) fun T5 => (fR_work_68 n  T5)))))
def fR_work_30    (x1 : Int32) (s0 : Int32) (S : St) : Oz := obI (fR_may s0 1 1 S) fun r2 T1 => (if r2 = 0 then (some (rI 0, T1)) else (obV (fR_begins x1 T1) fun T3 => (if (T3.1 19) = 16 then (obI (fR_result 0 T3) fun r7 T6 => (some (rI (-20), T6))) else (nx (sF T3 18 0) fun T5 => (fR_work_68  FU  T5)))))
def fR_work_29    (x1 : Int32) (S : St) : Oz := fR_work_30  x1 0 S
def fR_work    (x1 : Int32) (S : St) : Oz := nx (sF S 0 0) fun T1 => (if x1 < 0 then (fR_work_29  x1 T1) else (if (T1.1 1) < x1 then (fR_work_29  x1 T1) else (if 150 < x1 then (fR_work_29  x1 T1) else (fR_work_30  x1 1 T1))))
def fR_copies_v282_3    : Nat → Int32 → Int32 → St → Oz
  | 0, _, _, _ => none
  | n + 1, x3, x4, S => if x3 ≤ x4 then (some (rV, S)) else (gd (ib x4 18) (gd (ib x4 18) (nx (sA S 21 x4 (rA S 20 x4)) fun T1 => (fR_copies_v282_3 n x3 (x4 + 1) T1))))
def fR_copies_v282    (x3 : Int32) (S : St) : Oz := fR_copies_v282_3  FU x3 0 S
def fR_book_180    (x2 : Int32) (S : St) : Oz := obI (fR_result x2 S) fun r2 T1 => (if (T1.1 4) = (-1) then (nx (sF T1 24 x2) fun T3 => (obV (fR_copies_v282 18 T3) fun T4 => (some (rI r2, T4)))) else (some (rI r2, T1)))
def fR_book_102   (K46 : Int32 → St → Oz) (x2 : Int32) (x4 : Int32) (S : St) : Oz := obI (fR_readNumber 0 ((S.1 12) - 1) S) fun r2 T1 => (obI (fR_readNumber 0 99 T1) fun r4 T3 => (obV (fR_sign 59 T3) fun T5 => (obI (fR_fine T5) fun r8 T7 => (if r8 = 0 then (fR_book_180  x2 T7) else (gd (ib (3 * x2) 18) (nx (sA T7 20 (3 * x2) x4) fun T9 => (gd (ib ((3 * x2) + 1) 18) (nx (sA T9 20 ((3 * x2) + 1) r2) fun T10 => (gd (ib ((3 * x2) + 2) 18) (nx (sA T10 20 ((3 * x2) + 2) r4) fun T11 => (K46 (x2 + 1) T11)))))))))))
def fR_book_46    : Nat → Int32 → St → Oz
  | 0, _, _ => none
  | n + 1, x2, S => obI (fR_fine S) fun r2 T1 => (if r2 = 0 then (fR_book_180  x2 T1) else (obI (fR_isMore T1) fun r4 T3 => (if r4 = 0 then (fR_book_180  x2 T3) else (obI (fR_here T3) fun r6 T5 => (nx (T5.1 3) fun v7 => (obI (fR_readNumber 0 ((T5.1 13) - 1) T5) fun r9 T8 => (obI (fR_fine T8) fun r11 T10 => (if r11 = 0 then (fR_book_102 (fun x2 S => fR_book_46 n x2 S) x2 r9 T10) else (if x2 = 6 then (obV (fR_wrong 3 v7 T10) fun T12 => (fR_book_102 (fun x2 S => fR_book_46 n x2 S) x2 r9 T12)) else (fR_book_102 (fun x2 S => fR_book_46 n x2 S) x2 r9 T10))))))))))
def fR_book_29    (x1 : Int32) (s0 : Int32) (S : St) : Oz := obI (fR_may s0 1 1 S) fun r2 T1 => (if r2 = 0 then (some (rI 0, T1)) else (obV (fR_begins x1 T1) fun T3 => (fR_book_46  FU 0 T3)))
def fR_book_28    (x1 : Int32) (S : St) : Oz := fR_book_29  x1 0 S
def fR_book    (x1 : Int32) (S : St) : Oz := nx (sF S 0 0) fun T1 => (if x1 < 0 then (fR_book_28  x1 T1) else (if (T1.1 1) < x1 then (fR_book_28  x1 T1) else (if 60 < x1 then (fR_book_28  x1 T1) else (fR_book_29  x1 1 T1))))
def fR_fault     (S : St) : Oz := nx (sF S 0 0) fun T1 => (some (rI (T1.1 7), T1))
def fR_undo_26    : Nat → Int32 → St → Oz
  | 0, _, _ => none
  | n + 1, x1, S => if 95 ≤ x1 then (nx (sF S 20 0) fun T1 => (some (rI (T1.1 19), T1))) else (gd (ib ((95 * (S.1 19)) + x1) 1520) (gd (ib x1 95) (nx (sA S 17 x1 (rA S 19 ((95 * (S.1 19)) + x1))) fun T2 => (fR_undo_26 n (x1 + 1) T2))))
def fR_undo     (S : St) : Oz := nx (sF S 0 0) fun T1 => (if (T1.1 19) = 0 then (some (rI (-1), T1)) else (nx (sF T1 19 ((T1.1 19) - 1)) fun T2 => (fR_undo_26  FU 0 T2)))
def fR_within    (x0 : Int32) (x1 : Int32) (x2 : Int32) (S : St) : Oz := if x0 < x1 then (some (rI 0, S)) else (if x2 < x0 then (some (rI 0, S)) else (some (rI 1, S)))
def fR_allLines_4    : Nat → Int32 → Int32 → St → Oz
  | 0, _, _, _ => none
  | n + 1, x1, x2, S => if (S.1 13) ≤ x2 then (some (rI x1, S)) else (obI (fR_allOf x2 S) fun r2 T1 => (nx (x1 + r2) fun v3 => (fR_allLines_4 n v3 (x2 + 1) T1)))
def fR_allLines     (S : St) : Oz := fR_allLines_4  FU 0 0 S
def fR_bitsOf_5    : Nat → Int32 → Int32 → Int32 → Int32 → St → Oz
  | 0, _, _, _, _, _ => none
  | n + 1, x1, x2, x3, x4, S => if x2 ≤ x4 then (some (rI x3, S)) else (gd (ib (x1 + x4) 95) (nx (x3 ||| ((rA S 18 (x1 + x4)) <<< ((x4 : Int32) &&& 31))) fun v1 => (fR_bitsOf_5 n x1 x2 v1 (x4 + 1) S)))
def fR_bitsOf    (x1 : Int32) (x2 : Int32) (S : St) : Oz := fR_bitsOf_5  FU x1 x2 0 0 S
def fR_lateNow_4    : Nat → Int32 → Int32 → St → Oz
  | 0, _, _, _ => none
  | n + 1, x1, x2, S => if (S.1 14) ≤ x2 then (some (rI x1, S)) else (gd (ib (84 + x2) 95) (if (rA S 18 (84 + x2)) = 0 then (gd (ib ((4 * x2) + 3) 40) (if (rA S 18 94) ≤ (rA S 8 ((4 * x2) + 3)) then (nx (x1 ||| 0) fun v2 => (fR_lateNow_4 n v2 (x2 + 1) S)) else (nx (x1 ||| ((1 : Int32) <<< ((x2 : Int32) &&& 31))) fun v3 => (fR_lateNow_4 n v3 (x2 + 1) S)))) else (nx (x1 ||| 0) fun v1 => (fR_lateNow_4 n v1 (x2 + 1) S))))
def fR_lateNow     (S : St) : Oz := fR_lateNow_4  FU 0 0 S
def fR_told    (x1 : Int32) (S : St) : Oz := nx (sF S 0 0) fun T1 => (obI (fR_within x1 0 11 T1) fun r3 T2 => (obI (fR_may r3 1 1 T2) fun r5 T4 => (if r5 = 0 then (some (rI 0, T4)) else (obV (fR_take T4) fun T6 => (if 4 ≤ x1 then (if 7 ≤ x1 then (if 9 ≤ x1 then (if x1 = 9 then (some (rI (T6.1 24), T6)) else (if x1 = 10 then (some (rI (T6.1 20), T6)) else (some (rI (T6.1 15), T6)))) else (if x1 = 7 then (obI (fR_sumOf 72 (T6.1 13) T6) fun r11 T10 => (some (rI r11, T10))) else (obI (fR_allLines T6) fun r9 T8 => (some (rI r9, T8))))) else (if x1 = 4 then (obI (fR_bitsOf 84 (T6.1 14) T6) fun r17 T16 => (some (rI r17, T16))) else (if x1 = 5 then (obI (fR_lateNow T6) fun r15 T14 => (some (rI r15, T14))) else (obI (fR_bitsOf 54 (T6.1 13) T6) fun r13 T12 => (some (rI r13, T12)))))) else (if x1 = 0 then (some (rI (T6.1 12), T6)) else (if x1 = 1 then (some (rI (T6.1 13), T6)) else (if x1 = 2 then (some (rI (T6.1 14), T6)) else (some (rI (rA T6 18 94), T6))))))))))
def fR_isPoem    (x1 : Int32) (x2 : Int32) (S : St) : Oz := obI (fR_within x1 0 ((S.1 12) - 1) S) fun r2 T1 => (obI (fR_may r2 x2 0 T1) fun r4 T3 => (gd (isB r4) (some (rI r4, T3))))
def fR_openBy_5    : Nat → Int32 → Int32 → Int32 → Int32 → St → Oz
  | 0, _, _, _, _, _ => none
  | n + 1, x1, x2, x3, x4, S => if (S.1 14) ≤ x4 then (some (rI x3, S)) else (gd (ib (84 + x4) 95) (if (rA S 18 (84 + x4)) = 0 then (gd (ib ((4 * x4) + x1) 40) (if (rA S 8 ((4 * x4) + x1)) = x2 then (nx (x3 ||| ((1 : Int32) <<< ((x4 : Int32) &&& 31))) fun v3 => (fR_openBy_5 n x1 x2 v3 (x4 + 1) S)) else (nx (x3 ||| 0) fun v2 => (fR_openBy_5 n x1 x2 v2 (x4 + 1) S)))) else (nx (x3 ||| 0) fun v1 => (fR_openBy_5 n x1 x2 v1 (x4 + 1) S))))
def fR_openBy    (x1 : Int32) (x2 : Int32) (S : St) : Oz := fR_openBy_5  FU x1 x2 0 0 S
def fR_poem_68    : Nat → Int32 → Int32 → Int32 → St → Oz
  | 0, _, _, _, _ => none
  | n + 1, x1, x3, x4, S => if (S.1 13) ≤ x4 then (some (rI x3, S)) else (obI (fR_knownOf x4 x1 S) fun r2 T1 => (gd (ib (2 * x1) 16) (if r2 = (rA T1 6 (2 * x1)) then (nx (x3 ||| ((1 : Int32) <<< ((x4 : Int32) &&& 31))) fun v4 => (fR_poem_68 n x1 v4 (x4 + 1) T1)) else (nx (x3 ||| 0) fun v3 => (fR_poem_68 n x1 v3 (x4 + 1) T1)))))
def fR_poem    (x1 : Int32) (x2 : Int32) (S : St) : Oz := nx (sF S 0 0) fun T1 => (obI (fR_isPoem x1 1 T1) fun r3 T2 => (if r3 = 0 then (some (rI 0, T2)) else (obI (fR_within x2 0 3 T2) fun r5 T4 => (obI (fR_may r5 2 1 T4) fun r7 T6 => (if r7 = 0 then (some (rI 0, T6)) else (obV (fR_take T6) fun T8 => (if 2 ≤ x2 then (if x2 = 3 then (obI (fR_openBy 1 x1 T8) fun r11 T10 => (some (rI r11, T10))) else (fR_poem_68  FU x1 0 0 T8)) else (gd (ib ((2 * x1) + x2) 16) (some (rI (rA T8 6 ((2 * x1) + x2)), T8))))))))))
def fR_isMan    (x1 : Int32) (x2 : Int32) (S : St) : Oz := obI (fR_within x1 0 ((S.1 13) - 1) S) fun r2 T1 => (obI (fR_may r2 x2 0 T1) fun r4 T3 => (gd (isB r4) (some (rI r4, T3))))
def fR_man    (x1 : Int32) (x2 : Int32) (S : St) : Oz := nx (sF S 0 0) fun T1 => (obI (fR_isMan x1 1 T1) fun r3 T2 => (if r3 = 0 then (some (rI 0, T2)) else (obI (fR_within x2 0 8 T2) fun r5 T4 => (obI (fR_may r5 2 1 T4) fun r7 T6 => (if r7 = 0 then (some (rI 0, T6)) else (obV (fR_take T6) fun T8 => (if 4 ≤ x2 then (if x2 = 7 then (obI (fR_openBy 0 x1 T8) fun r11 T10 => (some (rI r11, T10))) else (if x2 = 4 then (gd (ib (60 + x1) 95) (some (rI (rA T8 18 (60 + x1)), T8))) else (if x2 = 5 then (gd (ib (66 + x1) 95) (some (rI (rA T8 18 (66 + x1)), T8))) else (if x2 = 6 then (gd (ib (72 + x1) 95) (some (rI (rA T8 18 (72 + x1)), T8))) else (gd (ib (78 + x1) 95) (some (rI (rA T8 18 (78 + x1)), T8))))))) else (if x2 = 0 then (gd (ib (2 * x1) 12) (some (rI (rA T8 7 (2 * x1)), T8))) else (if x2 = 1 then (gd (ib (48 + x1) 95) (some (rI (rA T8 18 (48 + x1)), T8))) else (if x2 = 2 then (obI (fR_roomOf x1 T8) fun r15 T14 => (some (rI r15, T14))) else (obI (fR_allOf x1 T8) fun r13 T12 => (some (rI r13, T12)))))))))))))
def fR_isDebt    (x1 : Int32) (x2 : Int32) (S : St) : Oz := obI (fR_within x1 0 ((S.1 14) - 1) S) fun r2 T1 => (obI (fR_may r2 x2 0 T1) fun r4 T3 => (gd (isB r4) (some (rI r4, T3))))
def fR_needOf    (x1 : Int32) (S : St) : Oz := gd (ib (4 * x1) 40) (nx (rA S 8 (4 * x1)) fun v1 => (gd (ib ((4 * x1) + 1) 40) (nx (rA S 8 ((4 * x1) + 1)) fun v2 => (gd (ib (2 * v2) 16) (obI (fR_knownOf v1 v2 S) fun r4 T3 => (nx ((rA S 6 (2 * v2)) - r4) fun v5 => (obI (fR_learnsBy v1 v2 T3) fun r7 T6 => (if v5 = 0 then (some (rI 0, T6)) else (if r7 = 0 then (some (rI 41, T6)) else (gd (nz r7) (some (rI (((v5 + r7) - 1) / r7), T6))))))))))))
def fR_debt    (x1 : Int32) (x2 : Int32) (S : St) : Oz := nx (sF S 0 0) fun T1 => (obI (fR_isDebt x1 1 T1) fun r3 T2 => (if r3 = 0 then (some (rI 0, T2)) else (obI (fR_within x2 0 6 T2) fun r5 T4 => (obI (fR_may r5 2 1 T4) fun r7 T6 => (if r7 = 0 then (some (rI 0, T6)) else (obV (fR_take T6) fun T8 => (if 4 ≤ x2 then (if 6 ≤ x2 then (gd (ib (84 + x1) 95) (if (rA T8 18 (84 + x1)) = 1 then (some (rI 0, T8)) else (obI (fR_needOf x1 T8) fun r11 T10 => (some (rI r11, T10))))) else (if x2 = 4 then (gd (ib (84 + x1) 95) (some (rI (rA T8 18 (84 + x1)), T8))) else (obI (fR_isWell x1 T8) fun r13 T12 => (if r13 = 0 then (some (rI 0, T12)) else (some (rI 1, T12)))))) else (gd (ib ((4 * x1) + x2) 40) (some (rI (rA T8 8 ((4 * x1) + x2)), T8))))))))))
def fR_knows    (x1 : Int32) (x2 : Int32) (S : St) : Oz := nx (sF S 0 0) fun T1 => (obI (fR_isMan x1 1 T1) fun r3 T2 => (if r3 = 0 then (some (rI 0, T2)) else (obI (fR_isPoem x2 1 T2) fun r5 T4 => (if r5 = 0 then (some (rI 0, T4)) else (gd (ib ((0 + (8 * x1)) + x2) 95) (some (rI (rA T4 17 ((0 + (8 * x1)) + x2)), T4)))))))
def fR_learns    (x1 : Int32) (x2 : Int32) (S : St) : Oz := nx (sF S 0 0) fun T1 => (obI (fR_isMan x1 1 T1) fun r3 T2 => (if r3 = 0 then (some (rI 0, T2)) else (obI (fR_isPoem x2 1 T2) fun r5 T4 => (if r5 = 0 then (some (rI 0, T4)) else (obV (fR_take T4) fun T6 => (obI (fR_learnsBy x1 x2 T6) fun r9 T8 => (some (rI r9, T8))))))))
def fR_would_99    (x1 : Int32) (x2 : Int32) (x3 : Int32) (x4 : Int32) (x5 : Int32) (x6 : Int32) (x7 : Int32) (x8 : Int32) (s0 : Int32) (S : St) : Oz := obI (fR_may s0 1 1 S) fun r2 T1 => (if r2 = 0 then (some (rI 0, T1)) else (obI (fR_learnsOf x1 x2 x3 x4 x5 x6 x7 x8 T1) fun r4 T3 => (some (rI r4, T3))))
def fR_would_98    (x1 : Int32) (x2 : Int32) (x3 : Int32) (x4 : Int32) (x5 : Int32) (x6 : Int32) (x7 : Int32) (x8 : Int32) (S : St) : Oz := fR_would_99  x1 x2 x3 x4 x5 x6 x7 x8 0 S
def fR_would    (x1 : Int32) (x2 : Int32) (x3 : Int32) (x4 : Int32) (x5 : Int32) (x6 : Int32) (x7 : Int32) (x8 : Int32) (S : St) : Oz := nx (sF S 0 0) fun T1 => (obI (fR_within x1 1 40 T1) fun r3 T2 => (if r3 = 0 then (fR_would_98  x1 x2 x3 x4 x5 x6 x7 x8 T2) else (obI (fR_within x2 0 9 T2) fun r5 T4 => (if r5 = 0 then (fR_would_98  x1 x2 x3 x4 x5 x6 x7 x8 T4) else (obI (fR_within x3 0 40 T4) fun r7 T6 => (if r7 = 0 then (fR_would_98  x1 x2 x3 x4 x5 x6 x7 x8 T6) else (obI (fR_within x4 0 99 T6) fun r9 T8 => (if r9 = 0 then (fR_would_98  x1 x2 x3 x4 x5 x6 x7 x8 T8) else (obI (fR_within x5 10 150 T8) fun r11 T10 => (if r11 = 0 then (fR_would_98  x1 x2 x3 x4 x5 x6 x7 x8 T10) else (obI (fR_within x6 0 999 T10) fun r13 T12 => (if r13 = 0 then (fR_would_98  x1 x2 x3 x4 x5 x6 x7 x8 T12) else (obI (fR_within x7 0 400 T12) fun r15 T14 => (if r15 = 0 then (fR_would_98  x1 x2 x3 x4 x5 x6 x7 x8 T14) else (obI (fR_within x8 0 5 T14) fun r17 T16 => (if r17 = 0 then (fR_would_98  x1 x2 x3 x4 x5 x6 x7 x8 T16) else (fR_would_99  x1 x2 x3 x4 x5 x6 x7 x8 1 T16)))))))))))))))))
def fR_ahead_46    : Nat → Int32 → Int32 → Int32 → St → Oz
  | 0, _, _, _, _ => none
  | n + 1, x1, x2, x3, S => if x1 ≤ x3 then (if x2 = 0 then (obI (fR_allLines S) fun r6 T5 => (some (rI r6, T5))) else (if x2 = 1 then (obI (fR_lateNow S) fun r4 T3 => (some (rI r4, T3))) else (obI (fR_bitsOf 54 (S.1 13) S) fun r2 T1 => (some (rI r2, T1))))) else (obV (fR_passes S) fun T7 => (fR_ahead_46 n x1 x2 (x3 + 1) T7))
def fR_ahead_30    (x1 : Int32) (x2 : Int32) (s0 : Int32) (S : St) : Oz := obI (fR_may s0 1 1 S) fun r2 T1 => (if r2 = 0 then (some (rI 0, T1)) else (obV (fR_take T1) fun T3 => (fR_ahead_46  FU x1 x2 0 T3)))
def fR_ahead_29    (x1 : Int32) (x2 : Int32) (S : St) : Oz := fR_ahead_30  x1 x2 0 S
def fR_ahead    (x1 : Int32) (x2 : Int32) (S : St) : Oz := nx (sF S 0 0) fun T1 => (obI (fR_within x1 0 99 T1) fun r3 T2 => (if r3 = 0 then (fR_ahead_29  x1 x2 T2) else (obI (fR_within x2 0 2 T2) fun r5 T4 => (if r5 = 0 then (fR_ahead_29  x1 x2 T4) else (fR_ahead_30  x1 x2 1 T4)))))
def fR_lessonsTo_23   (K6 : Int32 → Int32 → Int32 → St → Oz) (x1 : Int32) (x2 : Int32) (x3 : Int32) (S : St) : Oz := obI (fR_knownOf x1 x2 S) fun r2 T1 => (gd (ib (2 * x2) 16) (if r2 = (rA T1 6 (2 * x2)) then (some (rI x3, T1)) else (if x3 ≤ 0 then (K6 x1 x2 (x3 + 1) T1) else (obV (fR_passes T1) fun T3 => (K6 x1 x2 (x3 + 1) T3)))))
def fR_lessonsTo_6    : Nat → Int32 → Int32 → Int32 → St → Oz
  | 0, _, _, _, _ => none
  | n + 1, x1, x2, x3, S => if 40 < x3 then (some (rI (-1), S)) else (if x3 ≤ 0 then (fR_lessonsTo_23 (fun x1 x2 x3 S => fR_lessonsTo_6 n x1 x2 x3 S) x1 x2 x3 S) else (obI (fR_isTaught x1 x2 S) fun r2 T1 => (fR_lessonsTo_23 (fun x1 x2 x3 S => fR_lessonsTo_6 n x1 x2 x3 S) x1 x2 x3 T1)))
def fR_lessonsTo    (x1 : Int32) (x2 : Int32) (S : St) : Oz := obV (fR_take S) fun T1 => (fR_lessonsTo_6  FU x1 x2 0 T1)
def fR_lessons    (x1 : Int32) (x2 : Int32) (S : St) : Oz := nx (sF S 0 0) fun T1 => (obI (fR_isMan x1 1 T1) fun r3 T2 => (if r3 = 0 then (some (rI 0, T2)) else (obI (fR_isPoem x2 1 T2) fun r5 T4 => (if r5 = 0 then (some (rI 0, T4)) else (obI (fR_lessonsTo x1 x2 T4) fun r7 T6 => (some (rI r7, T6)))))))
def fR_laysDue_66   (K2 : Int32 → St → Oz) (x1 : Int32) (x2 : Int32) (S : St) : Oz := gd (ib x2 10) (nx (sA S 22 x2 x1) fun T1 => (K2 (x1 + 1) T1))
def fR_laysDue_12   (K2 : Int32 → St → Oz) : Nat → Int32 → Int32 → St → Oz
  | 0, _, _, _ => none
  | n + 1, x1, x2, S => if x2 ≤ 0 then (fR_laysDue_66 K2 x1 x2 S) else (gd (ib (x2 - 1) 10) (gd (ib ((4 * (rA S 22 (x2 - 1))) + 3) 40) (gd (ib ((4 * x1) + 3) 40) (if (rA S 8 ((4 * (rA S 22 (x2 - 1))) + 3)) ≤ (rA S 8 ((4 * x1) + 3)) then (fR_laysDue_66 K2 x1 x2 S) else (gd (ib (x2 - 1) 10) (gd (ib x2 10) (nx (sA S 22 x2 (rA S 22 (x2 - 1))) fun T1 => (fR_laysDue_12 K2 n x1 (x2 + (-1)) T1))))))))
def fR_laysDue_2    : Nat → Int32 → St → Oz
  | 0, _, _ => none
  | n + 1, x1, S => if (S.1 14) ≤ x1 then (some (rV, S)) else (fR_laysDue_12 (fun x1 S => fR_laysDue_2 n x1 S) FU x1 x1 S)
def fR_laysDue     (S : St) : Oz := fR_laysDue_2  FU 0 S
def fR_ones_4    : Nat → Int32 → Int32 → Int32 → St → Oz
  | 0, _, _, _, _ => none
  | n + 1, x0, x1, x2, S => if 10 ≤ x2 then (some (rI x1, S)) else (nx (x1 + ((x0 >>> ((x2 : Int32) &&& 31)) &&& 1)) fun v1 => (fR_ones_4 n x0 v1 (x2 + 1) S))
def fR_ones    (x0 : Int32) (S : St) : Oz := fR_ones_4  FU x0 0 0 S
def fR_isPayable_87   (K19 : Int32 → Int32 → Int32 → Int32 → Int32 → Int32 → Int32 → St → Oz) (x1 : Int32) (x2 : Int32) (x3 : Int32) (x4 : Int32) (x6 : Int32) (x7 : Int32) (x8 : Int32) (x9 : Int32) (s0 : Int32) (s1 : Int32) (S : St) : Oz := nx (s1 + s0) fun v1 => (nx (x4 ||| ((1 : Int32) <<< ((x9 : Int32) &&& 31))) fun v2 => (gd (ib (2 * x9) 16) (nx (sF S 25 ((S.1 25) + (rA S 6 (2 * x9)))) fun T3 => (obI (fR_needOf x8 T3) fun r5 T4 => (nx (x3 + r5) fun v6 => (if x6 = 0 then (K19 x1 x2 v6 v2 v1 0 (x7 + 1) T4) else (gd (ib ((4 * x8) + 3) 40) (if ((rA T4 8 ((4 * x8) + 3)) - (rA T4 18 94)) < v6 then (K19 x1 x2 v6 v2 v1 0 (x7 + 1) T4) else (K19 x1 x2 v6 v2 v1 1 (x7 + 1) T4)))))))))
def fR_isPayable_19    : Nat → Int32 → Int32 → Int32 → Int32 → Int32 → Int32 → Int32 → St → Oz
  | 0, _, _, _, _, _, _, _, _ => none
  | n + 1, x1, x2, x3, x4, x5, x6, x7, S => if (S.1 14) ≤ x7 then (if x6 = 0 then (some (rI 0, S)) else (obI (fR_memoryOf x1 S) fun r2 T1 => (if r2 < x5 then (some (rI 0, T1)) else (some (rI 1, T1))))) else (gd (ib x7 10) (nx (rA S 22 x7) fun v3 => (if ((x2 >>> ((v3 : Int32) &&& 31)) &&& 1) = 0 then (fR_isPayable_19 n x1 x2 x3 x4 x5 x6 (x7 + 1) S) else (gd (ib ((4 * v3) + 1) 40) (nx (rA S 8 ((4 * v3) + 1)) fun v4 => (if ((x4 >>> ((v4 : Int32) &&& 31)) &&& 1) = 0 then (gd (ib (2 * v4) 16) (fR_isPayable_87 (fun x1 x2 x3 x4 x5 x6 x7 S => fR_isPayable_19 n x1 x2 x3 x4 x5 x6 x7 S) x1 x2 x3 x4 x6 x7 v3 v4 (rA S 6 (2 * v4)) x5 S)) else (fR_isPayable_87 (fun x1 x2 x3 x4 x5 x6 x7 S => fR_isPayable_19 n x1 x2 x3 x4 x5 x6 x7 S) x1 x2 x3 x4 x6 x7 v3 v4 0 x5 S)))))))
def fR_isPayable    (x1 : Int32) (x2 : Int32) (S : St) : Oz := nx (sF S 25 0) fun T1 => (fR_isPayable_19  FU x1 x2 0 0 0 1 0 T1)
def fR_pays_103   (K39 : Int32 → Int32 → Int32 → Int32 → Int32 → St → Oz) (x1 : Int32) (x2 : Int32) (x5 : Int32) (S : St) : Oz := nx (S.1 25) fun v1 => (K39 x1 x2 x5 v1 (x5 + 1) S)
def fR_pays_39    : Nat → Int32 → Int32 → Int32 → Int32 → Int32 → St → Oz
  | 0, _, _, _, _, _, _ => none
  | n + 1, x1, x2, x3, x4, x5, S => if x2 < x5 then (some (rI x3, S)) else (if (x5 &&& (x2 ^^^ (-1))) = 0 then (obI (fR_ones x5 S) fun r2 T1 => (obI (fR_ones x3 T1) fun r4 T3 => (if r2 < r4 then (fR_pays_39 n x1 x2 x3 x4 (x5 + 1) T3) else (obI (fR_isPayable x1 x5 T3) fun r6 T5 => (if r6 = 0 then (fR_pays_39 n x1 x2 x3 x4 (x5 + 1) T5) else (obI (fR_ones x5 T5) fun r8 T7 => (obI (fR_ones x3 T7) fun r10 T9 => (if r8 = r10 then (if x4 < (T9.1 25) then (fR_pays_103 (fun x1 x2 x3 x4 x5 S => fR_pays_39 n x1 x2 x3 x4 x5 S) x1 x2 x5 T9) else (fR_pays_39 n x1 x2 x3 x4 (x5 + 1) T9)) else (fR_pays_103 (fun x1 x2 x3 x4 x5 S => fR_pays_39 n x1 x2 x3 x4 x5 S) x1 x2 x5 T9))))))))) else (fR_pays_39 n x1 x2 x3 x4 (x5 + 1) S))
def fR_pays    (x1 : Int32) (S : St) : Oz := nx (sF S 0 0) fun T1 => (obI (fR_isMan x1 1 T1) fun r3 T2 => (if r3 = 0 then (some (rI 0, T2)) else (obV (fR_take T2) fun T4 => (obV (fR_laysDue T4) fun T6 => (obI (fR_openBy 0 x1 T6) fun r9 T8 => (fR_pays_39  FU x1 r9 0 0 1 T8))))))
def fR_hardest_54   (K23 : Int32 → Int32 → Int32 → Int32 → St → Oz) (x1 : Int32) (x2 : Int32) (x3 : Int32) (x4 : Int32) (s0 : Int32) (S : St) : Oz := if x3 < s0 then (K23 x1 x4 s0 (x4 + 1) S) else (K23 x1 x2 x3 (x4 + 1) S)
def fR_hardest_23    : Nat → Int32 → Int32 → Int32 → Int32 → St → Oz
  | 0, _, _, _, _, _ => none
  | n + 1, x1, x2, x3, x4, S => if (S.1 12) ≤ x4 then (some (rI x2, S)) else (obI (fR_lessonsTo x1 x4 S) fun r2 T1 => (if r2 = (-1) then (fR_hardest_54 (fun x1 x2 x3 x4 S => fR_hardest_23 n x1 x2 x3 x4 S) x1 x2 x3 x4 41 T1) else (fR_hardest_54 (fun x1 x2 x3 x4 S => fR_hardest_23 n x1 x2 x3 x4 S) x1 x2 x3 x4 r2 T1)))
def fR_hardest    (x1 : Int32) (S : St) : Oz := nx (sF S 0 0) fun T1 => (obI (fR_isMan x1 1 T1) fun r3 T2 => (if r3 = 0 then (some (rI 0, T2)) else (fR_hardest_23  FU x1 (-1) (-1) 0 T2)))
def fR_knownThen    (x1 : Int32) (x2 : Int32) (x3 : Int32) (x4 : Int32) (S : St) : Oz := obI (fR_knownOf x1 x2 S) fun r2 T1 => (if x1 = x3 then (if x2 = x4 then (obI (fR_moreBy x1 x2 T1) fun r4 T3 => (if r4 ≤ 0 then (some (rI (r2 + 0), T3)) else (obI (fR_moreBy x1 x2 T3) fun r6 T5 => (some (rI (r2 + r6), T5))))) else (some (rI (r2 + 0), T1))) else (some (rI (r2 + 0), T1)))
def fR_isFit_5    : Nat → Int32 → Int32 → Int32 → Int32 → St → Oz
  | 0, _, _, _, _, _ => none
  | n + 1, x1, x2, x3, x4, S => if (S.1 24) ≤ x4 then (gd (isB x3) (some (rI x3, S))) else (if x3 = 0 then (fR_isFit_5 n x1 x2 0 (x4 + 1) S) else (gd (ib (3 * x4) 18) (gd (ib ((3 * x4) + 1) 18) (obI (fR_knownThen (rA S 21 (3 * x4)) (rA S 21 ((3 * x4) + 1)) x1 x2 S) fun r2 T1 => (gd (ib ((3 * x4) + 2) 18) (if r2 = (rA T1 21 ((3 * x4) + 2)) then (fR_isFit_5 n x1 x2 1 (x4 + 1) T1) else (fR_isFit_5 n x1 x2 0 (x4 + 1) T1)))))))
def fR_isFit    (x1 : Int32) (x2 : Int32) (S : St) : Oz := fR_isFit_5  FU x1 x2 1 0 S
def fR_fits_45   (K33 : Int32 → Int32 → Int32 → Int32 → St → Oz) : Nat → Int32 → Int32 → Int32 → Int32 → Int32 → St → Oz
  | 0, _, _, _, _, _, _ => none
  | n + 1, x1, x2, x3, x4, x5, S => if (S.1 12) ≤ x5 then (K33 x1 x2 x3 (x4 + 1) S) else (obI (fR_isFit x4 x5 S) fun r2 T1 => (if r2 = 0 then (fR_fits_45 K33 n x1 x2 x3 x4 (x5 + 1) T1) else (if x3 = (-1) then (nx ((10 * x4) + x5) fun v3 => (fR_fits_45 K33 n x1 (x2 + 1) v3 x4 (x5 + 1) T1)) else (fR_fits_45 K33 n x1 (x2 + 1) x3 x4 (x5 + 1) T1))))
def fR_fits_33    : Nat → Int32 → Int32 → Int32 → Int32 → St → Oz
  | 0, _, _, _, _, _ => none
  | n + 1, x1, x2, x3, x4, S => if (S.1 13) ≤ x4 then (if x1 = 0 then (some (rI x2, S)) else (some (rI x3, S))) else (fR_fits_45 (fun x1 x2 x3 x4 S => fR_fits_33 n x1 x2 x3 x4 S) FU x1 x2 x3 x4 0 S)
def fR_fits    (x1 : Int32) (S : St) : Oz := nx (sF S 0 0) fun T1 => (obI (fR_within x1 0 1 T1) fun r3 T2 => (obI (fR_may r3 1 1 T2) fun r5 T4 => (if r5 = 0 then (some (rI 0, T4)) else (obV (fR_take T4) fun T6 => (fR_fits_33  FU x1 0 (-1) 0 T6)))))
def fR_isWritten_2    : Nat → Int32 → Int32 → Int32 → St → Oz
  | 0, _, _, _, _ => none
  | n + 1, x1, x2, x3, S => if (S.1 24) ≤ x3 then (some (rI 0, S)) else (gd (ib (3 * x3) 18) (if (rA S 21 (3 * x3)) = x1 then (gd (ib ((3 * x3) + 1) 18) (if (rA S 21 ((3 * x3) + 1)) = x2 then (some (rI 1, S)) else (fR_isWritten_2 n x1 x2 (x3 + 1) S))) else (fR_isWritten_2 n x1 x2 (x3 + 1) S)))
def fR_isWritten    (x1 : Int32) (x2 : Int32) (S : St) : Oz := fR_isWritten_2  FU x1 x2 0 S
def fR_worstOf_38   (K26 : Int32 → Int32 → Int32 → Int32 → St → Oz) : Nat → Int32 → Int32 → Int32 → Int32 → Int32 → St → Oz
  | 0, _, _, _, _, _, _ => none
  | n + 1, x1, x2, x3, x4, x5, S => if (S.1 12) ≤ x5 then (K26 x1 x2 x3 (x4 + 1) S) else (obI (fR_isFit x4 x5 S) fun r2 T1 => (if r2 = 0 then (fR_worstOf_38 K26 n x1 x2 x3 x4 (x5 + 1) T1) else (obI (fR_knownThen x1 x2 x4 x5 T1) fun r4 T3 => (gd (ib r4 41) (gd (ib r4 41) (nx (sA T3 23 r4 ((rA T3 23 r4) + 1)) fun T5 => (gd (ib r4 41) (if (rA T5 23 r4) ≤ x3 then (fR_worstOf_38 K26 n x1 x2 x3 x4 (x5 + 1) T5) else (gd (ib r4 41) (nx (rA T5 23 r4) fun v6 => (fR_worstOf_38 K26 n x1 x2 v6 x4 (x5 + 1) T5)))))))))))
def fR_worstOf_26    : Nat → Int32 → Int32 → Int32 → Int32 → St → Oz
  | 0, _, _, _, _, _ => none
  | n + 1, x1, x2, x3, x4, S => if (S.1 13) ≤ x4 then (some (rI x3, S)) else (fR_worstOf_38 (fun x1 x2 x3 x4 S => fR_worstOf_26 n x1 x2 x3 x4 S) FU x1 x2 x3 x4 0 S)
def fR_worstOf_2    : Nat → Int32 → Int32 → Int32 → St → Oz
  | 0, _, _, _, _ => none
  | n + 1, x1, x2, x3, S => if 40 < x3 then (fR_worstOf_26  FU x1 x2 0 0 S) else (gd (ib x3 41) (nx (sA S 23 x3 0) fun T1 => (fR_worstOf_2 n x1 x2 (x3 + 1) T1)))
def fR_worstOf    (x1 : Int32) (x2 : Int32) (S : St) : Oz := fR_worstOf_2  FU x1 x2 0 S
def fR_look_99   (K33 : Int32 → Int32 → Int32 → Int32 → St → Oz) (K45 : Int32 → Int32 → Int32 → Int32 → Int32 → St → Oz) (x1 : Int32) (x4 : Int32) (x5 : Int32) (x6 : Int32) (S : St) : Oz := nx ((10 * x4) + x5) fun v1 => (K45 x1 v1 x6 x4 (x5 + 1) S)
def fR_look_77   (K33 : Int32 → Int32 → Int32 → Int32 → St → Oz) (K45 : Int32 → Int32 → Int32 → Int32 → Int32 → St → Oz) (x1 : Int32) (x2 : Int32) (x3 : Int32) (x4 : Int32) (x5 : Int32) (s0 : Int32) (S : St) : Oz := if s0 = (-1) then (K45 x1 x2 x3 x4 (x5 + 1) S) else (if x2 = (-1) then (fR_look_99 K33 K45 x1 x4 x5 s0 S) else (if s0 < x3 then (fR_look_99 K33 K45 x1 x4 x5 s0 S) else (K45 x1 x2 x3 x4 (x5 + 1) S)))
def fR_look_45   (K33 : Int32 → Int32 → Int32 → Int32 → St → Oz) : Nat → Int32 → Int32 → Int32 → Int32 → Int32 → St → Oz
  | 0, _, _, _, _, _, _ => none
  | n + 1, x1, x2, x3, x4, x5, S => if (S.1 12) ≤ x5 then (K33 x1 x2 x3 (x4 + 1) S) else (obI (fR_isWritten x4 x5 S) fun r2 T1 => (if r2 = 0 then (obI (fR_worstOf x4 x5 T1) fun r4 T3 => (fR_look_77 K33 (fun x1 x2 x3 x4 x5 S => fR_look_45 K33 n x1 x2 x3 x4 x5 S) x1 x2 x3 x4 x5 r4 T3)) else (fR_look_77 K33 (fun x1 x2 x3 x4 x5 S => fR_look_45 K33 n x1 x2 x3 x4 x5 S) x1 x2 x3 x4 x5 (-1) T1)))
def fR_look_33    : Nat → Int32 → Int32 → Int32 → Int32 → St → Oz
  | 0, _, _, _, _, _ => none
  | n + 1, x1, x2, x3, x4, S => if (S.1 13) ≤ x4 then (if x1 = 0 then (some (rI x2, S)) else (some (rI x3, S))) else (fR_look_45 (fun x1 x2 x3 x4 S => fR_look_33 n x1 x2 x3 x4 S) FU x1 x2 x3 x4 0 S)
def fR_look    (x1 : Int32) (S : St) : Oz := nx (sF S 0 0) fun T1 => (obI (fR_within x1 0 1 T1) fun r3 T2 => (obI (fR_may r3 1 1 T2) fun r5 T4 => (if r5 = 0 then (some (rI 0, T4)) else (obV (fR_take T4) fun T6 => (fR_look_33  FU x1 (-1) (-1) 0 T6)))))
def fR_least_6    : Nat → Int64 → Int64 → Int32 → Int64 → Int64 → St → Oz
  | 0, _, _, _, _, _, _ => none
  | n + 1, x0, x2, x4, x5, x7, S => if (lg_cmp x7 0) = 0 then (if x4 = 0 then (gd (nzL x5) (some (rL (x0 / x5), S))) else (gd (nzL x5) (some (rL (x2 / x5), S)))) else (gd (nzL x7) (nx (x5 - x5 / x7 * x7) fun v1 => (fR_least_6 n x0 x2 x4 x7 v1 S)))
def fR_least    (x0 : Int64) (x2 : Int64) (x4 : Int32) (S : St) : Oz := fR_least_6  FU x0 x2 x4 x0 x2 S
def fR_kept_183    : Nat → Int32 → Int64 → Int64 → Int32 → St → Oz
  | 0, _, _, _, _, _ => none
  | n + 1, x4, x5, x7, x9, S => if 14 ≤ x9 then (obL (fR_least x7 x5 x4 S) fun r2 T1 => (some (rL r2, T1))) else (gd (ib x9 14) (nx (x7 + (rB S 24 x9)) fun v3 => (fR_kept_183 n x4 x5 v3 (x9 + 1) S)))
def fR_kept_155   (K100 : Int32 → Int32 → Int32 → Int32 → Int64 → Int32 → St → Oz) (K110 : Int32 → Int32 → Int32 → Int32 → Int64 → Int32 → Int32 → St → Oz) (x1 : Int32) (x2 : Int32) (x3 : Int32) (x4 : Int32) (x5 : Int64) (x7 : Int32) (x8 : Int32) (s0 : Int64) (s1 : Int64) (s2 : Int32) (S : St) : Oz := gd (ib s2 14) (nx (sB S 24 s2 (s1 + s0)) fun T1 => (K110 x1 x2 x3 x4 x5 x7 (x8 + (-1)) T1))
def fR_kept_110   (K100 : Int32 → Int32 → Int32 → Int32 → Int64 → Int32 → St → Oz) : Nat → Int32 → Int32 → Int32 → Int32 → Int64 → Int32 → Int32 → St → Oz
  | 0, _, _, _, _, _, _, _, _ => none
  | n + 1, x1, x2, x3, x4, x5, x7, x8, S => if x8 < 0 then (nx (x5 * 16) fun v1 => (K100 x1 x2 x3 x4 v1 (x7 + 1) S)) else (gd (ib x8 14) (if x8 ≤ 0 then (fR_kept_155 K100 (fun x1 x2 x3 x4 x5 x7 x8 S => fR_kept_110 K100 n x1 x2 x3 x4 x5 x7 x8 S) x1 x2 x3 x4 x5 x7 x8 0 ((rB S 24 x8) * ((x3 : Int32).toInt64)) x8 S) else (gd (ib (x8 - 1) 14) (fR_kept_155 K100 (fun x1 x2 x3 x4 x5 x7 x8 S => fR_kept_110 K100 n x1 x2 x3 x4 x5 x7 x8 S) x1 x2 x3 x4 x5 x7 x8 ((rB S 24 (x8 - 1)) * ((16 - x3 : Int32).toInt64)) ((rB S 24 x8) * ((x3 : Int32).toInt64)) x8 S))))
def fR_kept_100    : Nat → Int32 → Int32 → Int32 → Int32 → Int64 → Int32 → St → Oz
  | 0, _, _, _, _, _, _, _ => none
  | n + 1, x1, x2, x3, x4, x5, x7, S => if x1 ≤ x7 then (fR_kept_183  FU x4 x5 0 x2 S) else (fR_kept_110 (fun x1 x2 x3 x4 x5 x7 S => fR_kept_100 n x1 x2 x3 x4 x5 x7 S) FU x1 x2 x3 x4 x5 x7 13 S)
def fR_kept_87   (K64 : Int32 → Int32 → Int32 → Int32 → Int32 → St → Oz) (x1 : Int32) (x2 : Int32) (x3 : Int32) (x4 : Int32) (x5 : Int32) (s0 : Int64) (s1 : Int32) (S : St) : Oz := gd (ib s1 14) (nx (sB S 24 s1 s0) fun T1 => (K64 x1 x2 x3 x4 (x5 + 1) T1))
def fR_kept_64    : Nat → Int32 → Int32 → Int32 → Int32 → Int32 → St → Oz
  | 0, _, _, _, _, _, _ => none
  | n + 1, x1, x2, x3, x4, x5, S => if 14 ≤ x5 then (fR_kept_100  FU x1 x2 x3 x4 1 0 S) else (if x5 = 0 then (fR_kept_87 (fun x1 x2 x3 x4 x5 S => fR_kept_64 n x1 x2 x3 x4 x5 S) x1 x2 x3 x4 x5 1 x5 S) else (fR_kept_87 (fun x1 x2 x3 x4 x5 S => fR_kept_64 n x1 x2 x3 x4 x5 S) x1 x2 x3 x4 x5 0 x5 S))
def fR_kept_51    (x1 : Int32) (x2 : Int32) (x3 : Int32) (x4 : Int32) (s0 : Int32) (S : St) : Oz := obI (fR_may s0 1 1 S) fun r2 T1 => (if r2 = 0 then (some (rL 0, T1)) else (fR_kept_64  FU x1 x2 x3 x4 0 T1))
def fR_kept_50    (x1 : Int32) (x2 : Int32) (x3 : Int32) (x4 : Int32) (S : St) : Oz := fR_kept_51  x1 x2 x3 x4 0 S
def fR_kept    (x1 : Int32) (x2 : Int32) (x3 : Int32) (x4 : Int32) (S : St) : Oz := nx (sF S 0 0) fun T1 => (obI (fR_within x1 0 12 T1) fun r3 T2 => (if r3 = 0 then (fR_kept_50  x1 x2 x3 x4 T2) else (obI (fR_within x2 0 13 T2) fun r5 T4 => (if r5 = 0 then (fR_kept_50  x1 x2 x3 x4 T4) else (obI (fR_within x3 0 16 T4) fun r7 T6 => (if r7 = 0 then (fR_kept_50  x1 x2 x3 x4 T6) else (obI (fR_within x4 0 1 T6) fun r9 T8 => (if r9 = 0 then (fR_kept_50  x1 x2 x3 x4 T8) else (fR_kept_51  x1 x2 x3 x4 1 T8)))))))))
def fR_hasBy    (x0 : Int32) (x1 : Int32) (x2 : Int32) (x3 : Int32) (S : St) : Oz := if x0 = x1 then (if x0 = 0 then (some (rI x2, S)) else (some (rI 0, S))) else (if x0 = 0 then (some (rI 0, S)) else (some (rI x3, S)))
def fR_fair_59    : Nat → Int32 → Int32 → Int32 → Int32 → Int32 → Int32 → St → Oz
  | 0, _, _, _, _, _, _, _ => none
  | n + 1, x1, x2, x3, x4, x5, x6, S => if 4 ≤ x6 then (if x3 = 0 then (some (rI x4, S)) else (if x3 = 1 then (some (rI x5, S)) else (if x5 = (-1) then (some (rI 0, S)) else (obI (fR_hasBy (x5 / 10) (x5 - x5 / 10 * 10) x1 x2 S) fun r2 T1 => (obI (fR_hasBy (x5 - x5 / 10 * 10) (x5 / 10) x1 x2 T1) fun r4 T3 => (some (rI (r2 + r4), T3))))))) else (nx (x6 / 2) fun v5 => (nx (x6 - x6 / 2 * 2) fun v6 => (obI (fR_hasBy (1 - v5) v6 x1 x2 S) fun r8 T7 => (obI (fR_hasBy v5 v6 x1 x2 T7) fun r10 T9 => (if r10 < r8 then (fR_fair_59 n x1 x2 x3 x4 x5 (x6 + 1) T9) else (obI (fR_hasBy (1 - v6) v5 x1 x2 T9) fun r12 T11 => (obI (fR_hasBy v6 v5 x1 x2 T11) fun r14 T13 => (if r12 ≤ r14 then (if x5 = (-1) then (nx ((10 * v5) + v6) fun v15 => (fR_fair_59 n x1 x2 x3 (x4 + 1) v15 (x6 + 1) T13)) else (fR_fair_59 n x1 x2 x3 (x4 + 1) x5 (x6 + 1) T13)) else (fR_fair_59 n x1 x2 x3 x4 x5 (x6 + 1) T13)))))))))
def fR_fair_40    (x1 : Int32) (x2 : Int32) (x3 : Int32) (s0 : Int32) (S : St) : Oz := obI (fR_may s0 1 1 S) fun r2 T1 => (if r2 = 0 then (some (rI 0, T1)) else (fR_fair_59  FU x1 x2 x3 0 (-1) 0 T1))
def fR_fair_39    (x1 : Int32) (x2 : Int32) (x3 : Int32) (S : St) : Oz := fR_fair_40  x1 x2 x3 0 S
def fR_fair    (x1 : Int32) (x2 : Int32) (x3 : Int32) (S : St) : Oz := nx (sF S 0 0) fun T1 => (obI (fR_within x1 0 99 T1) fun r3 T2 => (if r3 = 0 then (fR_fair_39  x1 x2 x3 T2) else (obI (fR_within x2 0 99 T2) fun r5 T4 => (if r5 = 0 then (fR_fair_39  x1 x2 x3 T4) else (obI (fR_within x3 0 2 T4) fun r7 T6 => (if r7 = 0 then (fR_fair_39  x1 x2 x3 T6) else (fR_fair_40  x1 x2 x3 1 T6)))))))
def fR_bounded    (x1 : Int32) (x2 : Int32) (S : St) : Oz := obI (fR_allOf x1 S) fun r2 T1 => (if x2 ≤ r2 then (some (rI x2, T1)) else (obI (fR_allOf x1 T1) fun r4 T3 => (some (rI r4, T3))))
def fR_candlesBy_5    : Nat → Int32 → Int32 → Int32 → Int32 → St → Oz
  | 0, _, _, _, _, _ => none
  | n + 1, x1, x2, x3, x4, S => if (S.1 13) ≤ x4 then (some (rI x3, S)) else (obI (fR_bounded x4 x2 S) fun r2 T1 => (nx (x3 + (((x1 >>> ((x4 : Int32) &&& 31)) &&& 1) * r2)) fun v3 => (fR_candlesBy_5 n x1 x2 v3 (x4 + 1) T1)))
def fR_candlesBy    (x1 : Int32) (x2 : Int32) (S : St) : Oz := fR_candlesBy_5  FU x1 x2 0 0 S
def fR_candles_63    : Nat → Int32 → Int32 → Int32 → Int32 → St → Oz
  | 0, _, _, _, _, _ => none
  | n + 1, x1, x2, x3, x4, S => obI (fR_candlesBy x2 x4 S) fun r2 T1 => (if r2 ≤ x3 then (if ((x2 >>> ((x1 : Int32) &&& 31)) &&& 1) = 0 then (some (rI 0, T1)) else (obI (fR_bounded x1 x4 T1) fun r4 T3 => (some (rI r4, T3)))) else (fR_candles_63 n x1 x2 x3 (x4 + (-1)) T1))
def fR_candles_45    (x1 : Int32) (x2 : Int32) (x3 : Int32) (s0 : Int32) (S : St) : Oz := obI (fR_may s0 2 1 S) fun r2 T1 => (if r2 = 0 then (some (rI 0, T1)) else (obV (fR_take T1) fun T3 => (fR_candles_63  FU x1 x2 x3 99 T3)))
def fR_candles_44    (x1 : Int32) (x2 : Int32) (x3 : Int32) (S : St) : Oz := fR_candles_45  x1 x2 x3 0 S
def fR_candles    (x1 : Int32) (x2 : Int32) (x3 : Int32) (S : St) : Oz := nx (sF S 0 0) fun T1 => (obI (fR_isMan x1 1 T1) fun r3 T2 => (if r3 = 0 then (some (rI 0, T2)) else (if x2 < 0 then (fR_candles_44  x1 x2 x3 T2) else (if ((1 : Int32) <<< ((T2.1 13 : Int32) &&& 31)) ≤ x2 then (fR_candles_44  x1 x2 x3 T2) else (obI (fR_within x3 0 999 T2) fun r5 T4 => (if r5 = 0 then (fR_candles_44  x1 x2 x3 T4) else (fR_candles_45  x1 x2 x3 1 T4)))))))
def fR_fullest_30    : Nat → Int32 → Int32 → Int32 → St → Oz
  | 0, _, _, _, _ => none
  | n + 1, x1, x2, x3, S => if (S.1 13) ≤ x3 then (if x1 = 0 then (some (rI x2, S)) else (if x2 = (-1) then (some (rI x2, S)) else (obI (fR_allOf x2 S) fun r2 T1 => (some (rI r2, T1))))) else (if x2 = (-1) then (fR_fullest_30 n x1 x3 (x3 + 1) S) else (obI (fR_allOf x3 S) fun r4 T3 => (obI (fR_allOf x2 T3) fun r6 T5 => (if r4 ≤ r6 then (fR_fullest_30 n x1 x2 (x3 + 1) T5) else (fR_fullest_30 n x1 x3 (x3 + 1) T5)))))
def fR_fullest    (x1 : Int32) (S : St) : Oz := nx (sF S 0 0) fun T1 => (obI (fR_within x1 0 1 T1) fun r3 T2 => (obI (fR_may r3 1 1 T2) fun r5 T4 => (if r5 = 0 then (some (rI 0, T4)) else (obV (fR_take T4) fun T6 => (fR_fullest_30  FU x1 (-1) 0 T6)))))
def fR_free_13    : Nat → Int32 → Int32 → St → Oz
  | 0, _, _, _ => none
  | n + 1, x1, x2, S => if (S.1 13) ≤ x2 then (some (rI x1, S)) else (obI (fR_openBy 0 x2 S) fun r2 T1 => (if r2 = 0 then (nx (x1 ||| ((1 : Int32) <<< ((x2 : Int32) &&& 31))) fun v4 => (fR_free_13 n v4 (x2 + 1) T1)) else (nx (x1 ||| 0) fun v3 => (fR_free_13 n v3 (x2 + 1) T1))))
def fR_free     (S : St) : Oz := nx (sF S 0 0) fun T1 => (obV (fR_take T1) fun T2 => (fR_free_13  FU 0 0 T2))
def fR_partners_24    : Nat → Int32 → Int32 → Int32 → St → Oz
  | 0, _, _, _, _ => none
  | n + 1, x1, x2, x3, S => if (S.1 13) ≤ x3 then (some (rI x2, S)) else (gd (ib (4 * x1) 40) (if x3 = (rA S 8 (4 * x1)) then (nx (x2 ||| 0) fun v1 => (fR_partners_24 n x1 v1 (x3 + 1) S)) else (gd (ib (84 + x1) 95) (if (rA S 18 (84 + x1)) = 0 then (obI (fR_isByTwo x1 x3 S) fun r4 T3 => (if r4 = 0 then (nx (x2 ||| 0) fun v5 => (fR_partners_24 n x1 v5 (x3 + 1) T3)) else (nx (x2 ||| ((1 : Int32) <<< ((x3 : Int32) &&& 31))) fun v6 => (fR_partners_24 n x1 v6 (x3 + 1) T3)))) else (nx (x2 ||| 0) fun v2 => (fR_partners_24 n x1 v2 (x3 + 1) S))))))
def fR_partners    (x1 : Int32) (S : St) : Oz := nx (sF S 0 0) fun T1 => (obI (fR_isDebt x1 1 T1) fun r3 T2 => (if r3 = 0 then (some (rI 0, T2)) else (obV (fR_take T2) fun T4 => (fR_partners_24  FU x1 0 0 T4))))
def fR_fades    (x1 : Int32) (x2 : Int32) (S : St) : Oz := nx (sF S 0 0) fun T1 => (obI (fR_isMan x1 1 T1) fun r3 T2 => (if r3 = 0 then (some (rI 0, T2)) else (obI (fR_isPoem x2 1 T2) fun r5 T4 => (if r5 = 0 then (some (rI 0, T4)) else (obV (fR_take T4) fun T6 => (obV (fR_passes T6) fun T8 => (gd (ib ((0 + (8 * x1)) + x2) 95) (obI (fR_knownOf x1 x2 T8) fun r11 T10 => (some (rI ((rA T8 17 ((0 + (8 * x1)) + x2)) - r11), T10))))))))))
def fR_next_26    : Nat → Int32 → Int32 → Int32 → St → Oz
  | 0, _, _, _, _ => none
  | n + 1, x1, x2, x3, S => if (S.1 14) ≤ x3 then (if x1 = 0 then (some (rI x2, S)) else (if x2 = (-1) then (some (rI x2, S)) else (gd (ib ((4 * x2) + 3) 40) (some (rI (rA S 8 ((4 * x2) + 3)), S))))) else (gd (ib (84 + x3) 95) (if (rA S 17 (84 + x3)) = 0 then (if x2 = (-1) then (fR_next_26 n x1 x3 (x3 + 1) S) else (gd (ib ((4 * x3) + 3) 40) (gd (ib ((4 * x2) + 3) 40) (if (rA S 8 ((4 * x2) + 3)) ≤ (rA S 8 ((4 * x3) + 3)) then (fR_next_26 n x1 x2 (x3 + 1) S) else (fR_next_26 n x1 x3 (x3 + 1) S))))) else (fR_next_26 n x1 x2 (x3 + 1) S)))
def fR_next    (x1 : Int32) (S : St) : Oz := nx (sF S 0 0) fun T1 => (obI (fR_within x1 0 1 T1) fun r3 T2 => (obI (fR_may r3 1 1 T2) fun r5 T4 => (if r5 = 0 then (some (rI 0, T4)) else (fR_next_26  FU x1 (-1) 0 T4))))
def fR_gains    (x1 : Int32) (x2 : Int32) (S : St) : Oz := nx (sF S 0 0) fun T1 => (obI (fR_isMan x1 1 T1) fun r3 T2 => (if r3 = 0 then (some (rI 0, T2)) else (obI (fR_isPoem x2 1 T2) fun r5 T4 => (if r5 = 0 then (some (rI 0, T4)) else (obV (fR_take T4) fun T6 => (obI (fR_moreBy x1 x2 T6) fun r9 T8 => (if 0 ≤ r9 then (some (rI r9, T8)) else (some (rI 0, T8)))))))))
def fR_closest_48    : Nat → Int32 → Int32 → Int32 → Int32 → St → Oz
  | 0, _, _, _, _, _ => none
  | n + 1, x2, x3, x4, x5, S => if (S.1 14) ≤ x5 then (if x2 = 0 then (some (rI x4, S)) else (if x4 = (-1) then (some (rI x4, S)) else (obI (fR_needOf x4 S) fun r2 T1 => (some (rI r2, T1))))) else (if ((x3 >>> ((x5 : Int32) &&& 31)) &&& 1) = 1 then (if x4 = (-1) then (fR_closest_48 n x2 x3 x5 (x5 + 1) S) else (obI (fR_needOf x5 S) fun r4 T3 => (obI (fR_needOf x4 T3) fun r6 T5 => (if r6 ≤ r4 then (fR_closest_48 n x2 x3 x4 (x5 + 1) T5) else (fR_closest_48 n x2 x3 x5 (x5 + 1) T5))))) else (fR_closest_48 n x2 x3 x4 (x5 + 1) S))
def fR_closest    (x1 : Int32) (x2 : Int32) (S : St) : Oz := nx (sF S 0 0) fun T1 => (obI (fR_isMan x1 1 T1) fun r3 T2 => (if r3 = 0 then (some (rI 0, T2)) else (obI (fR_within x2 0 1 T2) fun r5 T4 => (obI (fR_may r5 2 1 T4) fun r7 T6 => (if r7 = 0 then (some (rI 0, T6)) else (obV (fR_take T6) fun T8 => (obI (fR_openBy 0 x1 T8) fun r11 T10 => (fR_closest_48  FU x2 r11 (-1) 0 T10))))))))
def fR_best_43    : Nat → Int32 → Int32 → Int32 → Int32 → Int32 → St → Oz
  | 0, _, _, _, _, _, _ => none
  | n + 1, x1, x2, x3, x4, x5, S => if (S.1 13) ≤ x5 then (if x2 = 0 then (some (rI x3, S)) else (if x3 = (-1) then (some (rI x3, S)) else (some (rI x4, S)))) else (obI (fR_knownOf x5 x1 S) fun r2 T1 => (if x4 < r2 then (obI (fR_knownOf x5 x1 T1) fun r4 T3 => (fR_best_43 n x1 x2 x5 r4 (x5 + 1) T3)) else (fR_best_43 n x1 x2 x3 x4 (x5 + 1) T1)))
def fR_best    (x1 : Int32) (x2 : Int32) (S : St) : Oz := nx (sF S 0 0) fun T1 => (obI (fR_isPoem x1 1 T1) fun r3 T2 => (if r3 = 0 then (some (rI 0, T2)) else (obI (fR_within x2 0 1 T2) fun r5 T4 => (obI (fR_may r5 2 1 T4) fun r7 T6 => (if r7 = 0 then (some (rI 0, T6)) else (obV (fR_take T6) fun T8 => (fR_best_43  FU x1 x2 (-1) 0 0 T8)))))))
def fR_chorus_53    : Nat → Int32 → Int32 → Int32 → Int32 → St → Oz
  | 0, _, _, _, _, _ => none
  | n + 1, x1, x2, x3, x4, S => if (S.1 13) ≤ x4 then (gd (ib (2 * x1) 16) (if x3 ≤ (rA S 6 (2 * x1)) then (some (rI x3, S)) else (gd (ib (2 * x1) 16) (some (rI (rA S 6 (2 * x1)), S))))) else (obI (fR_knownOf x4 x1 S) fun r2 T1 => (nx (x3 + (((x2 >>> ((x4 : Int32) &&& 31)) &&& 1) * r2)) fun v3 => (fR_chorus_53 n x1 x2 v3 (x4 + 1) T1)))
def fR_chorus_34    (x1 : Int32) (x2 : Int32) (s0 : Int32) (S : St) : Oz := obI (fR_may s0 2 1 S) fun r2 T1 => (if r2 = 0 then (some (rI 0, T1)) else (obV (fR_take T1) fun T3 => (fR_chorus_53  FU x1 x2 0 0 T3)))
def fR_chorus_33    (x1 : Int32) (x2 : Int32) (S : St) : Oz := fR_chorus_34  x1 x2 0 S
def fR_chorus    (x1 : Int32) (x2 : Int32) (S : St) : Oz := nx (sF S 0 0) fun T1 => (obI (fR_isPoem x1 1 T1) fun r3 T2 => (if r3 = 0 then (some (rI 0, T2)) else (if x2 < 0 then (fR_chorus_33  x1 x2 T2) else (if ((1 : Int32) <<< ((T2.1 13 : Int32) &&& 31)) ≤ x2 then (fR_chorus_33  x1 x2 T2) else (fR_chorus_34  x1 x2 1 T2)))))
def fR_isSeason    (x0 : Int32) (x1 : Int32) (S : St) : Oz := if x0 < 0 then (some (rI 0, S)) else (if 16 < x0 then (some (rI 0, S)) else (if x1 < 1 then (some (rI 0, S)) else (if 48 < x1 then (some (rI 0, S)) else (some (rI 1, S)))))
def fR_draws    (x1 : Int32) (S : St) : Oz := nx (sF S 26 (((S.1 26) * 1103515245) + 12345)) fun T1 => (gd (nz x1) (some (rI ((((T1.1 26) >>> ((16 : Int32) &&& 31)) &&& 32767) - (((T1.1 26) >>> ((16 : Int32) &&& 31)) &&& 32767) / x1 * x1), T1)))
def fR_seasonGoes_87   (K12 : Int32 → Int32 → Int32 → St → Oz) (x2 : Int32) (x3 : Int32) (x4 : Int32) (S : St) : Oz := obV (fR_passes S) fun T1 => (K12 x2 x3 (x4 + 1) T1)
def fR_seasonGoes_12    : Nat → Int32 → Int32 → Int32 → St → Oz
  | 0, _, _, _, _ => none
  | n + 1, x2, x3, x4, S => if x3 ≤ x4 then (some (rV, S)) else (if (S.1 13) ≤ 0 then (fR_seasonGoes_87 (fun x2 x3 x4 S => fR_seasonGoes_12 n x2 x3 x4 S) x2 x3 x4 S) else (if (S.1 12) ≤ 0 then (fR_seasonGoes_87 (fun x2 x3 x4 S => fR_seasonGoes_12 n x2 x3 x4 S) x2 x3 x4 S) else (obI (fR_draws (S.1 13) S) fun r2 T1 => (obI (fR_draws (T1.1 12) T1) fun r4 T3 => (obI (fR_isTaught r2 r4 T3) fun r6 T5 => (obI (fR_draws 16 T5) fun r8 T7 => (if x2 ≤ r8 then (fR_seasonGoes_87 (fun x2 x3 x4 S => fR_seasonGoes_12 n x2 x3 x4 S) x2 x3 x4 T7) else (if (T7.1 14) ≤ 0 then (fR_seasonGoes_87 (fun x2 x3 x4 S => fR_seasonGoes_12 n x2 x3 x4 S) x2 x3 x4 T7) else (obI (fR_draws (T7.1 14) T7) fun r10 T9 => (obI (fR_isSaid r10 T9) fun r12 T11 => (fR_seasonGoes_87 (fun x2 x3 x4 S => fR_seasonGoes_12 n x2 x3 x4 S) x2 x3 x4 T11)))))))))))
def fR_seasonGoes    (x1 : Int32) (x2 : Int32) (x3 : Int32) (S : St) : Oz := obV (fR_take S) fun T1 => (nx (sF T1 26 x1) fun T3 => (fR_seasonGoes_12  FU x2 x3 0 T3))
def fR_season_96    : Nat → Int32 → Int32 → Int32 → St → Oz
  | 0, _, _, _, _ => none
  | n + 1, x5, x6, x7, S => if (S.1 13) ≤ x7 then (some (rI x6, S)) else (gd (ib (x5 + x7) 95) (gd (ib (x5 + x7) 95) (nx (x6 + ((rA S 18 (x5 + x7)) - (rA S 17 (x5 + x7)))) fun v1 => (fR_season_96 n x5 v1 (x7 + 1) S))))
def fR_season_29    (x1 : Int32) (x2 : Int32) (x3 : Int32) (x4 : Int32) (s0 : Int32) (S : St) : Oz := obI (fR_may s0 1 1 S) fun r2 T1 => (if r2 = 0 then (some (rI 0, T1)) else (obV (fR_seasonGoes x1 x2 x3 T1) fun T3 => (if 2 ≤ x4 then (if x4 = 2 then (fR_season_96  FU 72 0 0 T3) else (fR_season_96  FU 60 0 0 T3)) else (if x4 = 0 then (obI (fR_bitsOf 84 (T3.1 14) T3) fun r8 T7 => (some (rI r8, T7))) else (obI (fR_allLines T3) fun r6 T5 => (some (rI r6, T5)))))))
def fR_season_28    (x1 : Int32) (x2 : Int32) (x3 : Int32) (x4 : Int32) (S : St) : Oz := fR_season_29  x1 x2 x3 x4 0 S
def fR_season    (x1 : Int32) (x2 : Int32) (x3 : Int32) (x4 : Int32) (S : St) : Oz := nx (sF S 0 0) fun T1 => (obI (fR_isSeason x2 x3 T1) fun r3 T2 => (if r3 = 0 then (fR_season_28  x1 x2 x3 x4 T2) else (obI (fR_within x4 0 3 T2) fun r5 T4 => (if r5 = 0 then (fR_season_28  x1 x2 x3 x4 T4) else (fR_season_29  x1 x2 x3 x4 1 T4)))))
def fR_span_136   (K77 : Int32 → Int32 → Int32 → Int32 → Int32 → Int32 → Int32 → Int32 → Int32 → Int32 → St → Oz) (x1 : Int32) (x2 : Int32) (x3 : Int32) (x4 : Int32) (x5 : Int32) (x6 : Int32) (x7 : Int32) (x9 : Int32) (x10 : Int32) (s0 : Int32) (S : St) : Oz := gd (ib (84 + x6) 95) (nx (x9 + (rA S 18 (84 + x6))) fun v1 => (K77 x1 x2 x3 x4 x5 x6 x7 s0 v1 (x10 + 1) S))
def fR_span_120   (K77 : Int32 → Int32 → Int32 → Int32 → Int32 → Int32 → Int32 → Int32 → Int32 → Int32 → St → Oz) (x1 : Int32) (x2 : Int32) (x3 : Int32) (x4 : Int32) (x5 : Int32) (x6 : Int32) (x8 : Int32) (x9 : Int32) (x10 : Int32) (x11 : Int32) (s0 : Int32) (S : St) : Oz := if x11 ≤ x8 then (fR_span_136 K77 x1 x2 x3 x4 x5 x6 s0 x9 x10 x8 S) else (fR_span_136 K77 x1 x2 x3 x4 x5 x6 s0 x9 x10 x11 S)
def fR_span_113   (K77 : Int32 → Int32 → Int32 → Int32 → Int32 → Int32 → Int32 → Int32 → Int32 → Int32 → St → Oz) (x1 : Int32) (x2 : Int32) (x3 : Int32) (x4 : Int32) (x5 : Int32) (x6 : Int32) (x8 : Int32) (x9 : Int32) (x10 : Int32) (x11 : Int32) (S : St) : Oz := fR_span_120 K77 x1 x2 x3 x4 x5 x6 x8 x9 x10 x11 x11 S
def fR_span_77    : Nat → Int32 → Int32 → Int32 → Int32 → Int32 → Int32 → Int32 → Int32 → Int32 → Int32 → St → Oz
  | 0, _, _, _, _, _, _, _, _, _, _, _ => none
  | n + 1, x1, x2, x3, x4, x5, x6, x7, x8, x9, x10, S => if x2 ≤ x10 then (if x5 = 0 then (some (rI x7, S)) else (if x5 = 1 then (some (rI x8, S)) else (some (rI x9, S)))) else (obV (fR_seasonGoes (x1 + x10) x3 x4 S) fun T1 => (obI (fR_allLines T1) fun r4 T3 => (if x7 = (-1) then (fR_span_113 (fun x1 x2 x3 x4 x5 x6 x7 x8 x9 x10 S => fR_span_77 n x1 x2 x3 x4 x5 x6 x7 x8 x9 x10 S) x1 x2 x3 x4 x5 x6 x8 x9 x10 r4 T3) else (if x7 ≤ r4 then (fR_span_120 (fun x1 x2 x3 x4 x5 x6 x7 x8 x9 x10 S => fR_span_77 n x1 x2 x3 x4 x5 x6 x7 x8 x9 x10 S) x1 x2 x3 x4 x5 x6 x8 x9 x10 r4 x7 T3) else (fR_span_113 (fun x1 x2 x3 x4 x5 x6 x7 x8 x9 x10 S => fR_span_77 n x1 x2 x3 x4 x5 x6 x7 x8 x9 x10 S) x1 x2 x3 x4 x5 x6 x8 x9 x10 r4 T3)))))
def fR_span_55    (x1 : Int32) (x2 : Int32) (x3 : Int32) (x4 : Int32) (x5 : Int32) (x6 : Int32) (s0 : Int32) (S : St) : Oz := obI (fR_may s0 1 1 S) fun r2 T1 => (if r2 = 0 then (some (rI 0, T1)) else (fR_span_77  FU x1 x2 x3 x4 x5 x6 (-1) 0 0 0 T1))
def fR_span_54    (x1 : Int32) (x2 : Int32) (x3 : Int32) (x4 : Int32) (x5 : Int32) (x6 : Int32) (S : St) : Oz := fR_span_55  x1 x2 x3 x4 x5 x6 0 S
def fR_span    (x1 : Int32) (x2 : Int32) (x3 : Int32) (x4 : Int32) (x5 : Int32) (x6 : Int32) (S : St) : Oz := nx (sF S 0 0) fun T1 => (obI (fR_within x2 1 10 T1) fun r3 T2 => (if r3 = 0 then (fR_span_54  x1 x2 x3 x4 x5 x6 T2) else (obI (fR_isSeason x3 x4 T2) fun r5 T4 => (if r5 = 0 then (fR_span_54  x1 x2 x3 x4 x5 x6 T4) else (obI (fR_within x5 0 2 T4) fun r7 T6 => (if r7 = 0 then (fR_span_54  x1 x2 x3 x4 x5 x6 T6) else (obI (fR_within x6 0 ((T6.1 14) - 1) T6) fun r9 T8 => (if r9 = 0 then (fR_span_54  x1 x2 x3 x4 x5 x6 T8) else (fR_span_55  x1 x2 x3 x4 x5 x6 1 T8)))))))))
def fR_keepsRow_3    : Nat → Int32 → Int32 → Int32 → Int32 → St → Oz
  | 0, _, _, _, _, _ => none
  | n + 1, x1, x3, x4, x5, S => if x3 ≤ x5 then (some (rI (x1 + x3), S)) else (if x4 = 0 then (gd (ib (x1 + x5) 4848) (gd (ib x5 95) (nx (sA S 17 x5 (rA S 25 (x1 + x5))) fun T1 => (fR_keepsRow_3 n x1 x3 x4 (x5 + 1) T1)))) else (gd (ib x5 95) (gd (ib (x1 + x5) 4848) (nx (sA S 25 (x1 + x5) (rA S 17 x5)) fun T2 => (fR_keepsRow_3 n x1 x3 x4 (x5 + 1) T2)))))
def fR_keepsRow    (x1 : Int32) (x3 : Int32) (x4 : Int32) (S : St) : Oz := fR_keepsRow_3  FU x1 x3 x4 0 S
def fR_keepsRow_v339_3    : Nat → Int32 → Int32 → Int32 → Int32 → St → Oz
  | 0, _, _, _, _, _ => none
  | n + 1, x1, x3, x4, x5, S => if x3 ≤ x5 then (some (rI (x1 + x3), S)) else (if x4 = 0 then (gd (ib (x1 + x5) 4848) (gd (ib x5 1520) (nx (sA S 19 x5 (rA S 25 (x1 + x5))) fun T1 => (fR_keepsRow_v339_3 n x1 x3 x4 (x5 + 1) T1)))) else (gd (ib x5 1520) (gd (ib (x1 + x5) 4848) (nx (sA S 25 (x1 + x5) (rA S 19 x5)) fun T2 => (fR_keepsRow_v339_3 n x1 x3 x4 (x5 + 1) T2)))))
def fR_keepsRow_v339    (x1 : Int32) (x3 : Int32) (x4 : Int32) (S : St) : Oz := fR_keepsRow_v339_3  FU x1 x3 x4 0 S
def fR_keepsAll    (x1 : Int32) (x2 : Int32) (S : St) : Oz := obI (fR_keepsRow (1616 * x1) 95 x2 S) fun r2 T1 => (obI (fR_keepsRow_v339 r2 1520 x2 T1) fun r4 T3 => (if x2 = 0 then (gd (ib r4 4848) (nx (sF T3 19 (rA T3 25 r4)) fun T5 => (some (rV, T5)))) else (gd (ib r4 4848) (nx (sA T3 25 r4 (T3.1 19)) fun T6 => (some (rV, T6))))))
def fR_image     (S : St) : Oz := nx (sF S 0 0) fun T1 => (if (T1.1 27) = 3 then (some (rI (-1), T1)) else (obV (fR_keepsAll (T1.1 27) 1 T1) fun T2 => (nx (sF T2 27 ((T2.1 27) + 1)) fun T4 => (some (rI (T4.1 27), T4)))))
def fR_restore     (S : St) : Oz := nx (sF S 0 0) fun T1 => (if (T1.1 27) = 0 then (some (rI (-1), T1)) else (nx (sF T1 27 ((T1.1 27) - 1)) fun T2 => (obV (fR_keepsAll (T2.1 27) 0 T2) fun T3 => (nx (sF T3 20 0) fun T5 => (some (rI (T5.1 27), T5))))))
def fR_status    (x1 : Int32) (S : St) : Oz := nx (sF S 0 0) fun T1 => (obI (fR_within x1 0 1 T1) fun r3 T2 => (if r3 = 0 then (some (rI (-1), T2)) else (gd (ib x1 2) (some (rI (rA T2 1 x1), T2)))))
def fR_count    (x1 : Int32) (S : St) : Oz := nx (sF S 0 0) fun T1 => (if x1 = 0 then (some (rI (T1.1 27), T1)) else (if x1 = 1 then (some (rI (T1.1 1), T1)) else (if x1 = 2 then (some (rI (T1.1 19), T1)) else (some (rI (-1), T1)))))
def fR_thrown     (S : St) : Oz := some (rI (S.1 0), S)
