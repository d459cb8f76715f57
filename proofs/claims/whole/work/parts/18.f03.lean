def L_X7_gotByNoneOf_10  : Nat → Nat → Int32 → Int32 → Int32 → Mm → Option (Int32 × Mm)
 | 0, _, _, _, _, _ => none
 | n + 1, v0, v1, v2, v3, m =>
 if (6 : Int32) ≤ v3 then (
 some (v2, m))
 else (
 bd (F_X11_has v1 v3 m) fun r5 m6 =>
 jn (fun (v0 : Nat) (v1 : Int32) (v3 : Int32) (s0 : Int32) (s1 : Int32) (m : Mm) =>
 lt9 (s1 &&& s0) fun x7 =>
 lt9 (v3 + (1 : Int32)) fun x8 =>
 L_X7_gotByNoneOf_10 n v0 v1 x7 x8 m) fun J37 =>
 if r5 = 0 then (
 J37 v0 v1 v3 (-1 : Int32) v2 m6)
 else (
 gd (okO m6 v0 7) (oc (rR m6 v0 9) none fun q9 =>
 gd (okA m6 100 q9 v3) (
 J37 v0 v1 v3 ((rI m6 q9 (ix v3)) ^^^ (-1 : Int32)) v2 m6))))
def F_X7_gotByNoneOf (a0 : Nat) (a1 : Int32) (m : Mm) : Option (Int32 × Mm) :=
 gd (okO m a0 7) (
 bd (F_X11_allOf (rI m a0 7) m) fun r1 m2 =>
 lt9 r1 fun x3 =>
 lt9 (0 : Int32) fun x4 =>
 L_X7_gotByNoneOf_10 NF a0 a1 x3 x4 m2)
def L_X7_sumBehindFlush_18  : Nat → Nat → Int32 → Int64 → Int32 → Mm → Option (Int64 × Mm)
 | 0, _, _, _, _, _ => none
 | n + 1, v0, v3, v4, v6, m =>
 if (30 : Int32) ≤ v6 then (
 some (v4, m))
 else (
 jn (fun (v0 : Nat) (v3 : Int32) (v6 : Int32) (s0 : Int64) (s1 : Int64) (m : Mm) =>
 lt9 (s1 + s0) fun x7 =>
 lt9 (v6 + (1 : Int32)) fun x8 =>
 L_X7_sumBehindFlush_18 n v0 v3 x7 x8 m) fun J46 =>
 if ((v3 >>> (v6 &&& 31)) &&& (1 : Int32)) = 0 then (
 J46 v0 v3 v6 (0 : Int64) v4 m)
 else (
 gd (okO m v0 7) (bd (F_X7_worthOf v0 v6 m) fun r9 m10 =>
 J46 v0 v3 v6 r9 v4 m10)))
def F_X7_sumBehindFlush (a0 : Nat) (a1 : Int32) (a2 : Int32) (m : Mm) : Option (Int64 × Mm) :=
 gd (okO m a0 7) (bd (F_X7_lackOf a0 a1 a2 m) fun r1 m2 =>
 lt9 r1 fun x3 =>
 gd (okO m2 a0 7) (oc (rR m2 a0 18) none fun q4 =>
 gd (okA m2 101 q4 a1) (
 lt9 (rL m2 q4 (ix a1)) fun x5 =>
 lt9 (0 : Int32) fun x6 =>
 L_X7_sumBehindFlush_18 NF a0 x3 x5 x6 m2)))
def L_X7_wouldAgree_7  : Nat → Nat → Int32 → Int32 → Int64 → Int32 → Mm → Option (Int32 × Mm)
 | 0, _, _, _, _, _, _ => none
 | n + 1, v0, v1, v2, v3, v5, m =>
 if (6 : Int32) ≤ v5 then (
 some ((1 : Int32), m))
 else (
 bd (F_X11_has v1 v5 m) fun r4 m5 =>
 jn (fun (v0 : Nat) (v1 : Int32) (v2 : Int32) (v3 : Int64) (v5 : Int32) (m : Mm) =>
 lt9 (v5 + (1 : Int32)) fun x6 =>
 L_X7_wouldAgree_7 n v0 v1 v2 v3 x6 m) fun J53 =>
 if r4 = 0 then (
 J53 v0 v1 v2 v3 v5 m5)
 else (
 gd (okO m5 v0 7) (bd (F_X7_sumBehindFlush v0 v5 v1 m5) fun r7 m8 =>
 lt9 r7 fun x9 =>
 jn (fun (v0 : Nat) (v1 : Int32) (v5 : Int32) (v6 : Int64) (m : Mm) =>
 lt9 (0 : Int32) fun x10 =>
 lt9 v6 fun x11 =>
 J53 v0 v1 x10 x11 v5 m) fun J48 =>
 if v2 = 0 then (
 if (lg_cmp x9 v3) = 0 then (
 J48 v0 v1 v5 x9 m8)
 else (
 some ((0 : Int32), m8)))
 else (
 J48 v0 v1 v5 x9 m8))))
def F_X7_wouldAgree (a0 : Nat) (a1 : Int32) (m : Mm) : Option (Int32 × Mm) :=
 lt9 (1 : Int32) fun x1 =>
 lt9 (0 : Int64) fun x2 =>
 lt9 (0 : Int32) fun x3 =>
 L_X7_wouldAgree_7 NF a0 a1 x1 x2 x3 m
def L_X7_countOnTheWay_4  : Nat → Nat → Int32 → Int32 → Mm → Option (Int32 × Mm)
 | 0, _, _, _, _ => none
 | n + 1, v0, v1, v2, m =>
 gd (okO m v0 7) (
 if (rI m v0 7) ≤ v2 then (
 some (v1, m))
 else (
 if (30 : Int32) ≤ v2 then (
 some (v1, m))
 else (
 gd (okO m v0 7) (oc (rR m v0 17) none fun q3 =>
 gd (okA m 100 q3 v2) (
 bd (F_J6_bitCount_0f7a4 (rI m q3 (ix v2)) m) fun r4 m5 =>
 lt9 (v1 + r4) fun x6 =>
 lt9 (v2 + (1 : Int32)) fun x7 =>
 L_X7_countOnTheWay_4 n v0 x6 x7 m5)))))
def F_X7_countOnTheWay (a0 : Nat) (m : Mm) : Option (Int32 × Mm) :=
 lt9 (0 : Int32) fun x1 =>
 lt9 (0 : Int32) fun x2 =>
 L_X7_countOnTheWay_4 NF a0 x1 x2 m
def L_X7_ownersOf_4  : Nat → Nat → Int32 → Int32 → Int32 → Mm → Option (Int32 × Mm)
 | 0, _, _, _, _, _ => none
 | n + 1, v0, v1, v2, v3, m =>
 if (6 : Int32) ≤ v3 then (
 some (v2, m))
 else (
 gd (okT m 100 v0) (
 if (ln m v0) ≤ v3 then (
 some (v2, m))
 else (
 gd (okA m 100 v0 v3) (
 lt9 (v2 ||| ((((rI m v0 (ix v3)) >>> (v1 &&& 31)) &&& (1 : Int32)) <<< (v3 &&& 31))) fun x3 =>
 lt9 (v3 + (1 : Int32)) fun x4 =>
 L_X7_ownersOf_4 n v0 v1 x3 x4 m))))
def F_X7_ownersOf (a0 : Nat) (a1 : Int32) (m : Mm) : Option (Int32 × Mm) :=
 lt9 (0 : Int32) fun x1 =>
 lt9 (0 : Int32) fun x2 =>
 L_X7_ownersOf_4 NF a0 a1 x1 x2 m
def L_X7_isUntold_2  : Nat → Nat → Int32 → Int32 → Mm → Option (Int32 × Mm)
 | 0, _, _, _, _ => none
 | n + 1, v0, v1, v2, m =>
 if (6 : Int32) ≤ v2 then (
 some ((0 : Int32), m))
 else (
 gd (okO m v0 7) (bd (F_X7_stands v0 v2 m) fun r2 m3 =>
 jn (fun (v0 : Nat) (v1 : Int32) (v2 : Int32) (m : Mm) =>
 lt9 (v2 + (1 : Int32)) fun x4 =>
 L_X7_isUntold_2 n v0 v1 x4 m) fun J50 =>
 if r2 = 0 then (
 J50 v0 v1 v2 m3)
 else (
 gd (okO m3 v0 7) (bd (F_X7_reaches v0 v1 v2 m3) fun r5 m6 =>
 if r5 = 0 then (
 J50 v0 v1 v2 m6)
 else (
 gd (okO m6 v0 7) (oc (rR m6 v0 9) none fun q7 =>
 gd (okA m6 100 q7 v1) (
 gd (okO m6 v0 7) (oc (rR m6 v0 11) none fun q8 =>
 gd (okA m6 100 q8 ((v2 * (6 : Int32)) + v1)) (
 if ((rI m6 q7 (ix v1)) &&& ((rI m6 q8 (ix ((v2 * (6 : Int32)) + v1))) ^^^ (-1 : Int32))) = 0 then (
 J50 v0 v1 v2 m6)
 else (
 some ((1 : Int32), m6)))))))))))
def F_X7_isUntold (a0 : Nat) (a1 : Int32) (m : Mm) : Option (Int32 × Mm) :=
 lt9 (0 : Int32) fun x1 =>
 L_X7_isUntold_2 NF a0 a1 x1 m
def L_X7_countUntold_4  : Nat → Nat → Int32 → Int32 → Mm → Option (Int32 × Mm)
 | 0, _, _, _, _ => none
 | n + 1, v0, v1, v2, m =>
 if (6 : Int32) ≤ v2 then (
 some (v1, m))
 else (
 gd (okO m v0 7) (bd (F_X7_stands v0 v2 m) fun r3 m4 =>
 jn (fun (v0 : Nat) (v2 : Int32) (s0 : Int32) (s1 : Int32) (m : Mm) =>
 lt9 (s1 + s0) fun x5 =>
 lt9 (v2 + (1 : Int32)) fun x6 =>
 L_X7_countUntold_4 n v0 x5 x6 m) fun J32 =>
 jn (fun (v0 : Nat) (v2 : Int32) (s0 : Int32) (m : Mm) =>
 J32 v0 v2 (0 : Int32) s0 m) fun J31 =>
 if r3 = 0 then (
 J31 v0 v2 v1 m4)
 else (
 gd (okO m4 v0 7) (bd (F_X7_isUntold v0 v2 m4) fun r7 m8 =>
 if r7 = 0 then (
 J31 v0 v2 v1 m8)
 else (
 J32 v0 v2 (1 : Int32) v1 m8)))))
def F_X7_countUntold (a0 : Nat) (m : Mm) : Option (Int32 × Mm) :=
 lt9 (0 : Int32) fun x1 =>
 lt9 (0 : Int32) fun x2 =>
 L_X7_countUntold_4 NF a0 x1 x2 m
def L_X7_countLore_4  : Nat → Nat → Int32 → Int32 → Int32 → Mm → Option (Int32 × Mm)
 | 0, _, _, _, _, _ => none
 | n + 1, v0, v1, v2, v3, m =>
 if (6 : Int32) ≤ v3 then (
 some (v2, m))
 else (
 gd (okO m v0 7) (
 bd (F_X11_has (rI m v0 1) v3 m) fun r3 m4 =>
 jn (fun (v0 : Nat) (v1 : Int32) (v3 : Int32) (s0 : Int32) (s1 : Int32) (m : Mm) =>
 lt9 (s1 + s0) fun x5 =>
 lt9 (v3 + (1 : Int32)) fun x6 =>
 L_X7_countLore_4 n v0 v1 x5 x6 m) fun J40 =>
 if r3 = 0 then (
 J40 v0 v1 v3 (0 : Int32) v2 m4)
 else (
 gd (okO m4 v0 7) (oc (rR m4 v0 11) none fun q7 =>
 gd (okA m4 100 q7 ((v1 * (6 : Int32)) + v3)) (
 bd (F_J6_bitCount_0f7a4 (rI m4 q7 (ix ((v1 * (6 : Int32)) + v3))) m4) fun r8 m9 =>
 J40 v0 v1 v3 r8 v2 m9)))))
def F_X7_countLore (a0 : Nat) (a1 : Int32) (m : Mm) : Option (Int32 × Mm) :=
 lt9 (0 : Int32) fun x1 =>
 lt9 (0 : Int32) fun x2 =>
 L_X7_countLore_4 NF a0 a1 x1 x2 m
def L_X7_furthestBehind_7  : Nat → Nat → Int32 → Int32 → Int32 → Mm → Option (Int32 × Mm)
 | 0, _, _, _, _, _ => none
 | n + 1, v0, v1, v2, v3, m =>
 if (6 : Int32) ≤ v3 then (
 some (v1, m))
 else (
 gd (okO m v0 7) (oc (rR m v0 9) none fun q4 =>
 gd (okA m 100 q4 v3) (
 bd (F_J6_bitCount_0f7a4 (rI m q4 (ix v3)) m) fun r5 m6 =>
 lt9 r5 fun x7 =>
 gd (okO m6 v0 7) (bd (F_X7_stands v0 v3 m6) fun r8 m9 =>
 jn (fun (v0 : Nat) (v1 : Int32) (v2 : Int32) (v3 : Int32) (m : Mm) =>
 lt9 (v3 + (1 : Int32)) fun x10 =>
 L_X7_furthestBehind_7 n v0 v1 v2 x10 m) fun J43 =>
 if r8 = 0 then (
 J43 v0 v1 v2 v3 m9)
 else (
 if v2 ≤ x7 then (
 J43 v0 v1 v2 v3 m9)
 else (
 lt9 v3 fun x11 =>
 lt9 x7 fun x12 =>
 J43 v0 x11 x12 v3 m9))))))
def F_X7_furthestBehind (a0 : Nat) (m : Mm) : Option (Int32 × Mm) :=
 lt9 (-1 : Int32) fun x1 =>
 lt9 (31 : Int32) fun x2 =>
 lt9 (0 : Int32) fun x3 =>
 L_X7_furthestBehind_7 NF a0 x1 x2 x3 m
def F_X8_init (a0 : Nat) (m : Mm) : Option (Unit × Mm) :=
 some ((), m)
def F_X8_draw (a0 : Nat) (a1 : Int32) (m : Mm) : Option (Int32 × Mm) :=
 gd (okO m a0 8) (
 gd (okO m a0 8) (lt9 (wI m a0 0 (((rI m a0 0) * (1103515245 : Int32)) + (12345 : Int32))) fun m1 =>
 if a1 ≤ 0 then (
 some ((0 : Int32), m1))
 else (
 gd (okO m1 a0 8) (
 gd (decide (¬ a1 = 0)) (
 some ((((((rI m1 a0 0).toUInt32 >>> ((16 : Int32).toUInt32 &&& Int32.toUInt32 31)).toInt32) &&& (32767 : Int32)) - ((((rI m1 a0 0).toUInt32 >>> ((16 : Int32).toUInt32 &&& Int32.toUInt32 31)).toInt32) &&& (32767 : Int32)) / a1 * a1), m1))))))
def F_X8_crashOrJoin (a0 : Nat) (a1 : Int32) (a2 : Int32) (m : Mm) : Option (Unit × Mm) :=
 if a2 = 0 then (
 gd (okO m a0 7) (bd (F_X7_join a0 a1 m) fun r1 m2 =>
 some ((), m2)))
 else (
 gd (okO m a0 7) (bd (F_X7_crash a0 a1 m) fun r3 m4 =>
 some ((), m4)))
def F_X8_gust (a0 : Nat) (a1 : Nat) (a2 : Nat) (a3 : Int32) (m : Mm) : Option (Unit × Mm) :=
 gd (okO m a2 6) (bd (F_X6_members a2 m) fun r1 m2 =>
 gd (okO m2 a0 8) (bd (F_X8_draw a0 r1 m2) fun r3 m4 =>
 lt9 r3 fun x5 =>
 gd (okO m4 a0 8) (bd (F_X8_draw a0 (8 : Int32) m4) fun r6 m7 =>
 jn (fun (v1 : Nat) (v4 : Int32) (m : Mm) =>
 gd (okO m v1 7) (bd (F_X7_take v1 v4 m) fun r8 m9 =>
 some ((), m9))) fun J80 =>
 jn (fun (v0 : Nat) (v1 : Nat) (v2 : Nat) (v4 : Int32) (m : Mm) =>
 gd (okO m v0 8) (bd (F_X8_draw v0 (100 : Int32) m) fun r10 m11 =>
 gd (okO m11 v2 6) (bd (F_X6_limit v2 m11) fun r12 m13 =>
 gd (okO m13 v1 7) (bd (F_X7_send v1 v4 r10 r12 m13) fun r14 m15 =>
 some ((), m15))))) fun J60 =>
 if r6 = (0 : Int32) then (
 J60 a0 a1 a2 x5 m7)
 else (
 if r6 = (1 : Int32) then (
 J60 a0 a1 a2 x5 m7)
 else (
 if r6 = (2 : Int32) then (
 J80 a1 x5 m7)
 else (
 if r6 = (3 : Int32) then (
 J80 a1 x5 m7)
 else (
 if r6 = (4 : Int32) then (
 gd (okO m7 a1 7) (bd (F_X7_lose a1 x5 m7) fun r16 m17 =>
 some ((), m17)))
 else (
 if r6 = (5 : Int32) then (
 gd (okO m7 a1 7) (bd (F_X7_tell a1 x5 m7) fun r18 m19 =>
 some ((), m19)))
 else (
 if r6 = (6 : Int32) then (
 gd (okO m7 a0 8) (bd (F_X8_draw a0 (16 : Int32) m7) fun r20 m21 =>
 jn (fun (s0 : Int32) (s1 : Int32) (s2 : Nat) (m : Mm) =>
 bd (F_X8_crashOrJoin s2 s1 s0 m) fun r22 m23 =>
 some ((), m23)) fun J128 =>
 if a3 ≤ r20 then (
 J128 (0 : Int32) x5 a1 m21)
 else (
 J128 (1 : Int32) x5 a1 m21)))
 else (
 gd (okO m7 a2 6) (bd (F_X6_hold a2 a1 m7) fun r24 m25 =>
 gd (okO m25 a2 6) (bd (F_X6_view a2 a1 m25) fun r26 m27 =>
 some ((), m27)))))))))))))
def L_X8_blow_8  : Nat → Nat → Nat → Nat → Int32 → Int32 → Int32 → Mm → Option (Unit × Mm)
 | 0, _, _, _, _, _, _, _ => none
 | n + 1, v0, v1, v2, v4, v5, v6, m =>
 if v4 ≤ v6 then (
 some ((), m))
 else (
 if (96 : Int32) ≤ v6 then (
 some ((), m))
 else (
 gd (okO m v2 6) (bd (F_X6_members v2 m) fun r3 m4 =>
 jn (fun (v0 : Nat) (v1 : Nat) (v2 : Nat) (v4 : Int32) (v5 : Int32) (v6 : Int32) (m : Mm) =>
 lt9 (v6 + (1 : Int32)) fun x5 =>
 L_X8_blow_8 n v0 v1 v2 v4 v5 x5 m) fun J37 =>
 if r3 ≤ 0 then (
 J37 v0 v1 v2 v4 v5 v6 m4)
 else (
 gd (okO m4 v0 8) (bd (F_X8_gust v0 v1 v2 v5 m4) fun r6 m7 =>
 J37 v0 v1 v2 v4 v5 v6 m7)))))
def F_X8_blow (a0 : Nat) (a1 : Nat) (a2 : Nat) (a3 : Int32) (a4 : Int32) (a5 : Int32) (m : Mm) : Option (Unit × Mm) :=
 gd (okO m a0 8) (lt9 (wI m a0 0 a3) fun m1 =>
 lt9 (0 : Int32) fun x2 =>
 L_X8_blow_8 NF a0 a1 a2 a4 a5 x2 m1)
def F_X9_init (a0 : Nat) (m : Mm) : Option (Unit × Mm) :=
 gd (decide (mN m + 1 < K9)) (lt9 (nw m 102 600) fun m1 =>
 gd (okO m1 a0 9) (lt9 (wR m1 a0 0 (some (mN m))) fun m2 =>
 gd (okO m2 a0 9) (lt9 (wI m2 a0 7 (-1 : Int32)) fun m3 =>
 some ((), m3))))
def F_X9_hasRoom (a0 : Nat) (m : Mm) : Option (Int32 × Mm) :=
 gd (okO m a0 9) (
 if (600 : Int32) < ((rI m a0 1) + (20 : Int32)) then (
 some ((0 : Int32), m))
 else (
 some ((1 : Int32), m)))
def L_X9_put_3  : Nat → Nat → Int32 → Int32 → Mm → Option (Unit × Mm)
 | 0, _, _, _, _ => none
 | n + 1, v0, v1, v2, m =>
 if v2 < 0 then (
 some ((), m))
 else (
 gd (okO m v0 9) (
 gd (okO m v0 9) (oc (rR m v0 0) none fun q2 =>
 gd (okT m 102 q2) (
 jn (fun (v0 : Nat) (v1 : Int32) (v2 : Int32) (m : Mm) =>
 lt9 (v2 + (-8 : Int32)) fun x3 =>
 L_X9_put_3 n v0 v1 x3 m) fun J42 =>
 if (ln m q2) ≤ (rI m v0 1) then (
 J42 v0 v1 v2 m)
 else (
 gd (okO m v0 9) (oc (rR m v0 0) none fun q4 =>
 gd (okO m v0 9) (
 gd (okA m 102 q4 (rI m v0 1)) (lt9 (wI m q4 (ix (rI m v0 1)) (vp_nar .byte ((v1 >>> (v2 &&& 31)).toInt8.toInt32))) fun m5 =>
 gd (okO m5 v0 9) (
 gd (okO m5 v0 9) (lt9 (wI m5 v0 1 ((rI m5 v0 1) + (1 : Int32))) fun m6 =>
 J42 v0 v1 v2 m6))))))))))
def F_X9_put (a0 : Nat) (a1 : Int32) (m : Mm) : Option (Unit × Mm) :=
 lt9 (24 : Int32) fun x1 =>
 L_X9_put_3 NF a0 a1 x1 m
def F_X9_open (a0 : Nat) (a1 : Int32) (m : Mm) : Option (Unit × Mm) :=
 gd (okO m a0 9) (
 gd (okO m a0 9) (lt9 (wI m a0 2 (mnI a1 (rI m a0 1))) fun m1 =>
 gd (okO m1 a0 9) (lt9 (wI m1 a0 1 (0 : Int32)) fun m2 =>
 gd (okO m2 a0 9) (lt9 (wI m2 a0 3 (0 : Int32)) fun m3 =>
 gd (okO m3 a0 9) (lt9 (wI m3 a0 6 (0 : Int32)) fun m4 =>
 gd (okO m4 a0 9) (lt9 (wI m4 a0 7 (-1 : Int32)) fun m5 =>
 some ((), m5)))))))
def F_X9_skip (a0 : Nat) (m : Mm) : Option (Unit × Mm) :=
 gd (okO m a0 9) (
 gd (okO m a0 9) (lt9 (wI m a0 3 ((rI m a0 3) + (1 : Int32))) fun m1 =>
 some ((), m1)))
def F_X9_isLetter (a0 : Int32) (m : Mm) : Option (Int32 × Mm) :=
 if a0 < (97 : Int32) then (
 some ((0 : Int32), m))
 else (
 if (122 : Int32) < a0 then (
 some ((0 : Int32), m))
 else (
 some ((1 : Int32), m)))
def L_X9_word_33  : Nat → Nat → Int32 → Mm → Option (Int32 × Mm)
 | 0, _, _, _ => none
 | n + 1, v0, v1, m =>
 gd (okO m v0 9) (
 if (rI m v0 2) ≤ v1 then (
 some ((1 : Int32), m))
 else (
 gd (okO m v0 9) (
 gd (okO m v0 9) (bd (F_X9_byteAt v0 (rI m v0 3) m) fun r7 m8 =>
 bd (F_X9_isLetter r7 m8) fun r9 m10 =>
 if r9 = 0 then (
 some ((1 : Int32), m10))
 else (
 gd (okO m10 v0 9) (
 gd (okO m10 v0 9) (lt9 (wI m10 v0 3 ((rI m10 v0 3) + (1 : Int32))) fun m11 =>
 lt9 (v1 + (1 : Int32)) fun x12 =>
 L_X9_word_33 n v0 x12 m11)))))))
def F_X9_word (a0 : Nat) (m : Mm) : Option (Int32 × Mm) :=
 gd (okO m a0 9) (bd (F_X9_peek a0 m) fun r1 m2 =>
 bd (F_X9_isLetter r1 m2) fun r3 m4 =>
 if r3 = 0 then (
 gd (okO m4 a0 9) (
 gd (okO m4 a0 9) (bd (F_X9_fail a0 (1 : Int32) (rI m4 a0 3) m4) fun r13 m14 =>
 gd (decide (r13 = 0 ∨ r13 = 1)) (some (r13, m14)))))
 else (
 gd (okO m4 a0 9) (
 gd (okO m4 a0 9) (lt9 (wI m4 a0 4 (rI m4 a0 3)) fun m5 =>
 gd (okO m5 a0 9) (
 lt9 (rI m5 a0 4) fun x6 =>
 L_X9_word_33 NF a0 x6 m5)))))
def F_X10_init (a0 : Nat) (m : Mm) : Option (Unit × Mm) :=
 gd (decide (mN m + 1 < K9)) (lt9 (nw m 100 150) fun m1 =>
 gd (okO m1 a0 10) (lt9 (wR m1 a0 0 (some (mN m))) fun m2 =>
 gd (decide (mN m2 + 1 < K9)) (lt9 (nw m2 100 150) fun m3 =>
 gd (okO m3 a0 10) (lt9 (wR m3 a0 1 (some (mN m2))) fun m4 =>
 gd (decide (mN m4 + 1 < K9)) (lt9 (nw m4 100 150) fun m5 =>
 gd (okO m5 a0 10) (lt9 (wR m5 a0 2 (some (mN m4))) fun m6 =>
 some ((), m6)))))))
def F_X10_emit (a0 : Nat) (a1 : Int32) (a2 : Int32) (a3 : Int32) (m : Mm) : Option (Unit × Mm) :=
 gd (okO m a0 10) (
 gd (okO m a0 10) (oc (rR m a0 0) none fun q1 =>
 gd (okT m 100 q1) (
 if (ln m q1) ≤ (rI m a0 3) then (
 some ((), m))
 else (
 gd (okO m a0 10) (oc (rR m a0 0) none fun q2 =>
 gd (okO m a0 10) (
 gd (okA m 100 q2 (rI m a0 3)) (lt9 (wI m q2 (ix (rI m a0 3)) a1) fun m3 =>
 gd (okO m3 a0 10) (oc (rR m3 a0 1) none fun q4 =>
 gd (okO m3 a0 10) (
 gd (okA m3 100 q4 (rI m3 a0 3)) (lt9 (wI m3 q4 (ix (rI m3 a0 3)) a2) fun m5 =>
 gd (okO m5 a0 10) (oc (rR m5 a0 2) none fun q6 =>
 gd (okO m5 a0 10) (
 gd (okA m5 100 q6 (rI m5 a0 3)) (lt9 (wI m5 q6 (ix (rI m5 a0 3)) a3) fun m7 =>
 gd (okO m7 a0 10) (
 gd (okO m7 a0 10) (lt9 (wI m7 a0 3 ((rI m7 a0 3) + (1 : Int32))) fun m8 =>
 some ((), m8))))))))))))))))
def F_X10_begin (a0 : Nat) (m : Mm) : Option (Unit × Mm) :=
 gd (okO m a0 10) (lt9 (wI m a0 5 (0 : Int32)) fun m1 =>
 gd (okO m1 a0 10) (lt9 (wI m1 a0 6 (0 : Int32)) fun m2 =>
 gd (okO m2 a0 10) (lt9 (wI m2 a0 7 (0 : Int32)) fun m3 =>
 some ((), m3))))
def F_X10_score (a0 : Nat) (a1 : Int32) (m : Mm) : Option (Unit × Mm) :=
 if a1 = 0 then (
 gd (okO m a0 10) (
 gd (okO m a0 10) (lt9 (wI m a0 7 ((rI m a0 7) + (1 : Int32))) fun m1 =>
 some ((), m1))))
 else (
 gd (okO m a0 10) (
 gd (okO m a0 10) (lt9 (wI m a0 6 ((rI m a0 6) + (1 : Int32))) fun m2 =>
 some ((), m2))))
def F_X10_doStep (a0 : Nat) (a1 : Nat) (a2 : Nat) (a3 : Int32) (m : Mm) : Option (Int32 × Mm) :=
 if a3 < 0 then (
 some ((0 : Int32), m))
 else (
 gd (okO m a0 10) (oc (rR m a0 0) none fun q1 =>
 gd (okT m 100 q1) (
 if a3 < (ln m q1) then (
 gd (okO m a0 10) (oc (rR m a0 1) none fun q2 =>
 gd (okA m 100 q2 a3) (
 lt9 (rI m q2 (ix a3)) fun x3 =>
 gd (okO m a0 10) (oc (rR m a0 0) none fun q4 =>
 gd (okA m 100 q4 a3) (
 if (rI m q4 (ix a3)) = (0 : Int32) then (
 gd (okO m a0 10) (oc (rR m a0 2) none fun q5 =>
 gd (okA m 100 q5 a3) (
 gd (okO m a2 6) (bd (F_X6_limit a2 m) fun r6 m7 =>
 gd (okO m7 a1 7) (bd (F_X7_send a1 x3 (rI m q5 (ix a3)) r6 m7) fun r8 m9 =>
 gd (decide (r8 = 0 ∨ r8 = 1)) (some (r8, m9)))))))
 else (
 if (rI m q4 (ix a3)) = (1 : Int32) then (
 gd (okO m a1 7) (bd (F_X7_take a1 x3 m) fun r10 m11 =>
 gd (decide (r10 = 0 ∨ r10 = 1)) (some (r10, m11))))
 else (
 if (rI m q4 (ix a3)) = (2 : Int32) then (
 gd (okO m a1 7) (bd (F_X7_lose a1 x3 m) fun r12 m13 =>
 gd (decide (r12 = 0 ∨ r12 = 1)) (some (r12, m13))))
 else (
 if (rI m q4 (ix a3)) = (3 : Int32) then (
 gd (okO m a1 7) (bd (F_X7_tell a1 x3 m) fun r14 m15 =>
 gd (decide (r14 = 0 ∨ r14 = 1)) (some (r14, m15))))
 else (
 if (rI m q4 (ix a3)) = (4 : Int32) then (
 gd (okO m a1 7) (bd (F_X7_trim a1 x3 m) fun r16 m17 =>
 gd (decide (r16 = 0 ∨ r16 = 1)) (some (r16, m17))))
 else (
 if (rI m q4 (ix a3)) = (5 : Int32) then (
 gd (okO m a1 7) (bd (F_X7_crash a1 x3 m) fun r18 m19 =>
 gd (decide (r18 = 0 ∨ r18 = 1)) (some (r18, m19))))
 else (
 if (rI m q4 (ix a3)) = (6 : Int32) then (
 gd (okO m a1 7) (bd (F_X7_join a1 x3 m) fun r20 m21 =>
 gd (decide (r20 = 0 ∨ r20 = 1)) (some (r20, m21))))
 else (
 if (rI m q4 (ix a3)) = (7 : Int32) then (
 gd (okO m a1 7) (bd (F_X7_part a1 x3 m) fun r22 m23 =>
 gd (decide (r22 = 0 ∨ r22 = 1)) (some (r22, m23))))
 else (
 if (rI m q4 (ix a3)) = (8 : Int32) then (
 gd (okO m a2 6) (bd (F_X6_hold a2 a1 m) fun r24 m25 =>
 gd (decide (r24 = 0 ∨ r24 = 1)) (some (r24, m25))))
 else (
 gd (okO m a2 6) (bd (F_X6_view a2 a1 m) fun r26 m27 =>
 gd (decide (r26 = 0 ∨ r26 = 1)) (some (r26, m27)))))))))))))))))
 else (
 some ((0 : Int32), m)))))
def F_X11_init (a0 : Nat) (m : Mm) : Option (Unit × Mm) :=
 gd (decide (mN m + 1 < K9)) (lt9 (nw m 9 8) fun m1 =>
 bd (F_X9_init (mN m) m1) fun r2 m3 =>
 gd (okO m3 a0 11) (lt9 (wR m3 a0 0 (some (mN m))) fun m4 =>
 gd (decide (mN m4 + 1 < K9)) (lt9 (nw m4 1 3) fun m5 =>
 bd (F_X1_init (mN m4) m5) fun r6 m7 =>
 gd (okO m7 a0 11) (lt9 (wR m7 a0 1 (some (mN m4))) fun m8 =>
 gd (decide (mN m8 + 1 < K9)) (lt9 (nw m8 3 5) fun m9 =>
 bd (F_X3_init (mN m8) m9) fun r10 m11 =>
 gd (okO m11 a0 11) (lt9 (wR m11 a0 2 (some (mN m8))) fun m12 =>
 gd (decide (mN m12 + 1 < K9)) (lt9 (nw m12 10 8) fun m13 =>
 bd (F_X10_init (mN m12) m13) fun r14 m15 =>
 gd (okO m15 a0 11) (lt9 (wR m15 a0 3 (some (mN m12))) fun m16 =>
 gd (decide (mN m16 + 1 < K9)) (lt9 (nw m16 0 6) fun m17 =>
 bd (F_X0_init (mN m16) m17) fun r18 m19 =>
 gd (okO m19 a0 11) (lt9 (wR m19 a0 4 (some (mN m16))) fun m20 =>
 gd (decide (mN m20 + 1 < K9)) (lt9 (nw m20 6 4) fun m21 =>
 gd (okO m21 a0 11) (oc (rR m21 a0 1) none fun q22 =>
 gd (okO m21 a0 11) (oc (rR m21 a0 2) none fun q23 =>
 bd (F_X6_init (mN m20) q22 q23 m21) fun r24 m25 =>
 gd (okO m25 a0 11) (lt9 (wR m25 a0 5 (some (mN m20))) fun m26 =>
 gd (decide (mN m26 + 1 < K9)) (lt9 (nw m26 7 20) fun m27 =>
 bd (F_X7_init (mN m26) m27) fun r28 m29 =>
 gd (okO m29 a0 11) (lt9 (wR m29 a0 6 (some (mN m26))) fun m30 =>
 gd (decide (mN m30 + 1 < K9)) (lt9 (nw m30 7 20) fun m31 =>
 bd (F_X7_init (mN m30) m31) fun r32 m33 =>
 gd (okO m33 a0 11) (lt9 (wR m33 a0 7 (some (mN m30))) fun m34 =>
 gd (decide (mN m34 + 1 < K9)) (lt9 (nw m34 5 2) fun m35 =>
 bd (F_X5_init (mN m34) m35) fun r36 m37 =>
 gd (okO m37 a0 11) (lt9 (wR m37 a0 8 (some (mN m34))) fun m38 =>
 gd (decide (mN m38 + 1 < K9)) (lt9 (nw m38 105 3) fun m39 =>
 gd (okO m39 a0 11) (lt9 (wR m39 a0 9 (some (mN m38))) fun m40 =>
 gd (decide (mN m40 + 1 < K9)) (lt9 (nw m40 4 2) fun m41 =>
 bd (F_X4_init (mN m40) m41) fun r42 m43 =>
 gd (okO m43 a0 11) (lt9 (wR m43 a0 10 (some (mN m40))) fun m44 =>
 gd (decide (mN m44 + 1 < K9)) (lt9 (nw m44 8 1) fun m45 =>
 bd (F_X8_init (mN m44) m45) fun r46 m47 =>
 gd (okO m47 a0 11) (lt9 (wR m47 a0 11 (some (mN m44))) fun m48 =>
 gd (decide (mN m48 + 1 < K9)) (lt9 (nw m48 100 4) fun m49 =>
 gd (okO m49 a0 11) (lt9 (wR m49 a0 12 (some (mN m48))) fun m50 =>
 gd (okO m50 a0 11) (oc (rR m50 a0 6) none fun q51 =>
 gd (okO m50 q51 7) (bd (F_X7_begin q51 (0 : Int32) (0 : Int32) m50) fun r52 m53 =>
 some ((), m53)))))))))))))))))))))))))))))))
def F_X11_feed (a0 : Nat) (a1 : Int32) (a2 : Int32) (a3 : Int32) (a4 : Int32) (a5 : Int32) (m : Mm) : Option (Int32 × Mm) :=
 gd (okO m a0 11) (oc (rR m a0 0) none fun q1 =>
 gd (okO m q1 9) (bd (F_X9_hasRoom q1 m) fun r2 m3 =>
 if r2 = 0 then (
 some ((-1 : Int32), m3))
 else (
 gd (okO m3 a0 11) (oc (rR m3 a0 0) none fun q4 =>
 gd (okO m3 q4 9) (bd (F_X9_put q4 a1 m3) fun r5 m6 =>
 gd (okO m6 a0 11) (oc (rR m6 a0 0) none fun q7 =>
 gd (okO m6 q7 9) (bd (F_X9_put q7 a2 m6) fun r8 m9 =>
 gd (okO m9 a0 11) (oc (rR m9 a0 0) none fun q10 =>
 gd (okO m9 q10 9) (bd (F_X9_put q10 a3 m9) fun r11 m12 =>
 gd (okO m12 a0 11) (oc (rR m12 a0 0) none fun q13 =>
 gd (okO m12 q13 9) (bd (F_X9_put q13 a4 m12) fun r14 m15 =>
 gd (okO m15 a0 11) (oc (rR m15 a0 0) none fun q16 =>
 gd (okO m15 q16 9) (bd (F_X9_put q16 a5 m15) fun r17 m18 =>
 gd (okO m18 a0 11) (oc (rR m18 a0 0) none fun q19 =>
 gd (okO m18 q19 9) (
 some ((rI m18 q19 1), m18))))))))))))))))
def F_X11_fault (a0 : Nat) (m : Mm) : Option (Int32 × Mm) :=
 gd (okO m a0 11) (oc (rR m a0 0) none fun q1 =>
 gd (okO m q1 9) (
 some ((rI m q1 7), m)))
def F_X11_undo (a0 : Nat) (m : Mm) : Option (Int32 × Mm) :=
 gd (okO m a0 11) (oc (rR m a0 8) none fun q1 =>
 gd (okO m a0 11) (oc (rR m a0 6) none fun q2 =>
 gd (okO m q1 5) (bd (F_X5_giveBack q1 q2 m) fun r3 m4 =>
 if r3 = 0 then (
 some ((-1 : Int32), m4))
 else (
 gd (okO m4 a0 11) (lt9 (wI m4 a0 14 (0 : Int32)) fun m5 =>
 gd (okO m5 a0 11) (oc (rR m5 a0 8) none fun q6 =>
 gd (okO m5 q6 5) (
 some ((rI m5 q6 1), m5))))))))
def F_X11_primary (a0 : Nat) (m : Mm) : Option (Int32 × Mm) :=
 gd (okO m a0 11) (oc (rR m a0 5) none fun q1 =>
 gd (okO m a0 11) (oc (rR m a0 6) none fun q2 =>
 gd (okO m q1 6) (bd (F_X6_partNow q1 q2 m) fun r3 m4 =>
 some (r3, m4))))
def F_X11_lost (a0 : Nat) (m : Mm) : Option (Int32 × Mm) :=
 gd (okO m a0 11) (oc (rR m a0 5) none fun q1 =>
 gd (okO m a0 11) (oc (rR m a0 6) none fun q2 =>
 gd (okO m q1 6) (bd (F_X6_partNow q1 q2 m) fun r3 m4 =>
 lt9 r3 fun x5 =>
 if x5 = (-1 : Int32) then (
 some ((0 : Int32), m4))
 else (
 gd (okO m4 a0 11) (oc (rR m4 a0 6) none fun q6 =>
 gd (okO m4 q6 7) (bd (F_X7_gotByNoneOf q6 x5 m4) fun r7 m8 =>
 some (r7, m8)))))))
def F_X11_fall (a0 : Nat) (m : Mm) : Option (Int32 × Mm) :=
 gd (okO m a0 11) (oc (rR m a0 5) none fun q1 =>
 gd (okO m a0 11) (oc (rR m a0 6) none fun q2 =>
 gd (okO m q1 6) (bd (F_X6_fewestToFall q1 q2 m) fun r3 m4 =>
 some (r3, m4))))
def F_X11_splits (a0 : Nat) (m : Mm) : Option (Int32 × Mm) :=
 gd (okO m a0 11) (oc (rR m a0 5) none fun q1 =>
 gd (okO m a0 11) (oc (rR m a0 6) none fun q2 =>
 gd (okO m q1 6) (bd (F_X6_countLameSplits q1 q2 m) fun r3 m4 =>
 some (r3, m4))))
def F_X11_tells (a0 : Nat) (m : Mm) : Option (Int32 × Mm) :=
 gd (okO m a0 11) (oc (rR m a0 6) none fun q1 =>
 gd (okO m q1 7) (bd (F_X7_countUntold q1 m) fun r2 m3 =>
 some (r2, m3)))
def F_X11_agree (a0 : Nat) (m : Mm) : Option (Int32 × Mm) :=
 gd (okO m a0 11) (oc (rR m a0 6) none fun q1 =>
 gd (okO m a0 11) (oc (rR m a0 5) none fun q2 =>
 gd (okO m a0 11) (oc (rR m a0 6) none fun q3 =>
 gd (okO m q2 6) (bd (F_X6_survivorsNow q2 q3 m) fun r4 m5 =>
 gd (okO m5 q1 7) (bd (F_X7_wouldAgree q1 r4 m5) fun r6 m7 =>
 gd (decide (r6 = 0 ∨ r6 = 1)) (some (r6, m7)))))))
def F_X11_note (a0 : Nat) (m : Mm) : Option (Int32 × Mm) :=
 gd (okO m a0 11) (oc (rR m a0 10) none fun q1 =>
 gd (okO m a0 11) (oc (rR m a0 6) none fun q2 =>
 gd (okO m q1 4) (bd (F_X4_write q1 q2 m) fun r3 m4 =>
 gd (okO m4 a0 11) (oc (rR m4 a0 10) none fun q5 =>
 gd (okO m4 q5 4) (
 some ((rI m4 q5 1), m4))))))
def F_X11_image (a0 : Nat) (m : Mm) : Option (Int32 × Mm) :=
 gd (okO m a0 11) (
 gd (okO m a0 11) (oc (rR m a0 9) none fun q1 =>
 gd (okT m 105 q1) (
 if (rI m a0 13) < (ln m q1) then (
 gd (okO m a0 11) (oc (rR m a0 9) none fun q2 =>
 gd (okO m a0 11) (
 gd (okA m 105 q2 (rI m a0 13)) (oc (rR m q2 (ix (rI m a0 13))) (
 jn (fun (v0 : Nat) (v1 : Nat) (m : Mm) =>
 gd (okO m v1 2) (oc (rR m v1 0) none fun q13 =>
 gd (okO m v0 11) (oc (rR m v0 6) none fun q14 =>
 gd (okO m q13 7) (bd (F_X7_copy q13 q14 m) fun r15 m16 =>
 gd (okO m16 v1 2) (oc (rR m16 v1 1) none fun q17 =>
 gd (okO m16 v0 11) (oc (rR m16 v0 8) none fun q18 =>
 gd (okO m16 q17 5) (bd (F_X5_copy q17 q18 m16) fun r19 m20 =>
 gd (okO m20 v0 11) (
 gd (okO m20 v0 11) (lt9 (wI m20 v0 13 ((rI m20 v0 13) + (1 : Int32))) fun m21 =>
 gd (okO m21 v0 11) (
 some ((rI m21 v0 13), m21))))))))))) fun J46 =>
 gd (decide (mN m + 1 < K9)) (lt9 (nw m 2 2) fun m22 =>
 bd (F_X2_init (mN m) m22) fun r23 m24 =>
 gd (okO m24 a0 11) (oc (rR m24 a0 9) none fun q25 =>
 gd (okO m24 a0 11) (
 gd (okA m24 105 q25 (rI m24 a0 13) && okO m24 (mN m) 2) (lt9 (wR m24 q25 (ix (rI m24 a0 13)) (some (mN m))) fun m26 =>
 J46 a0 (mN m) m26))))) fun q3 =>
 jn (fun (v0 : Nat) (v1 : Nat) (m : Mm) =>
 gd (okO m v1 2) (oc (rR m v1 0) none fun q4 =>
 gd (okO m v0 11) (oc (rR m v0 6) none fun q5 =>
 gd (okO m q4 7) (bd (F_X7_copy q4 q5 m) fun r6 m7 =>
 gd (okO m7 v1 2) (oc (rR m7 v1 1) none fun q8 =>
 gd (okO m7 v0 11) (oc (rR m7 v0 8) none fun q9 =>
 gd (okO m7 q8 5) (bd (F_X5_copy q8 q9 m7) fun r10 m11 =>
 gd (okO m11 v0 11) (
 gd (okO m11 v0 11) (lt9 (wI m11 v0 13 ((rI m11 v0 13) + (1 : Int32))) fun m12 =>
 gd (okO m12 v0 11) (
 some ((rI m12 v0 13), m12))))))))))) fun J46 =>
 J46 a0 q3 m))))
 else (
 some ((-1 : Int32), m)))))
def F_X11_restore (a0 : Nat) (m : Mm) : Option (Int32 × Mm) :=
 gd (okO m a0 11) (
 if (rI m a0 13) ≤ 0 then (
 some ((-1 : Int32), m))
 else (
 gd (okO m a0 11) (
 gd (okO m a0 11) (oc (rR m a0 9) none fun q1 =>
 gd (okT m 105 q1) (
 if (rI m a0 13) ≤ (ln m q1) then (
 gd (okO m a0 11) (
 gd (okO m a0 11) (lt9 (wI m a0 13 ((rI m a0 13) - (1 : Int32))) fun m2 =>
 gd (okO m2 a0 11) (oc (rR m2 a0 9) none fun q3 =>
 gd (okO m2 a0 11) (
 gd (okA m2 105 q3 (rI m2 a0 13)) (oc (rR m2 q3 (ix (rI m2 a0 13))) (
 jn (fun (v0 : Nat) (m : Mm) =>
 gd (okO m v0 11) (lt9 (wI m v0 14 (0 : Int32)) fun m14 =>
 gd (okO m14 v0 11) (
 some ((rI m14 v0 13), m14)))) fun J67 =>
 J67 a0 m2) fun q4 =>
 jn (fun (v0 : Nat) (m : Mm) =>
 gd (okO m v0 11) (lt9 (wI m v0 14 (0 : Int32)) fun m5 =>
 gd (okO m5 v0 11) (
 some ((rI m5 v0 13), m5)))) fun J67 =>
 gd (okO m2 a0 11) (oc (rR m2 a0 6) none fun q6 =>
 gd (okO m2 q4 2) (oc (rR m2 q4 0) none fun q7 =>
 gd (okO m2 q6 7) (bd (F_X7_copy q6 q7 m2) fun r8 m9 =>
 gd (okO m9 a0 11) (oc (rR m9 a0 8) none fun q10 =>
 gd (okO m9 q4 2) (oc (rR m9 q4 1) none fun q11 =>
 gd (okO m9 q10 5) (bd (F_X5_copy q10 q11 m9) fun r12 m13 =>
 J67 a0 m13))))))))))))
 else (
 some ((-1 : Int32), m)))))))
def F_X11_status (a0 : Nat) (a1 : Int32) (m : Mm) : Option (Int32 × Mm) :=
 gd (okO m a0 11) (oc (rR m a0 12) none fun q1 =>
 gd (okT m 100 q1) (
 bd (F_X11_isWithin a1 (0 : Int32) ((ln m q1) - (1 : Int32)) m) fun r2 m3 =>
 if r2 = 0 then (
 some ((-1 : Int32), m3))
 else (
 gd (okO m3 a0 11) (oc (rR m3 a0 12) none fun q4 =>
 gd (okA m3 100 q4 a1) (
 some ((rI m3 q4 (ix a1)), m3))))))
set_option maxRecDepth 100000 in
set_option maxHeartbeats 4000000 in
theorem c_L_X7_gotByNoneOf_10 {Z : Zx}    : ∀ (n : Nat) (v0 : Nat) (v1 : Int32) (v2 : Int32) (v3 : Int32) (m : Mm), GG Z M_X7_gotByNoneOf (PsN Z cvI) 10 [some (.ref v0), some (.int v1), some (.int v2), some (.int v3)] [] m (L_X7_gotByNoneOf_10 n v0 v1 v2 v3 m) := by
  intro n
  induction n with
  | zero => intro v0 v1 v2 v3 m; exact g_no
  | succ n ih =>
    intro v0 v1 v2 v3 m
    unfold L_X7_gotByNoneOf_10
    refine g_iload_n (i := 3) dX7_gotByNoneOf_10 rfl rfl ?_
    refine g_bipush (v := (6 : Int32)) dX7_gotByNoneOf_11 kb_6 ?_
    refine g_icmpge (tgt := 45) dX7_gotByNoneOf_13 (by decide) ?_ ?_
    · refine g_iload_n (i := 2) dX7_gotByNoneOf_45 rfl rfl ?_
      exact g_ireturn rfl dX7_gotByNoneOf_46
    · refine g_iload_n (i := 2) dX7_gotByNoneOf_16 rfl rfl ?_
      refine g_iload_n (i := 1) dX7_gotByNoneOf_17 rfl rfl ?_
      refine g_iload_n (i := 3) dX7_gotByNoneOf_18 rfl rfl ?_
      refine g_callSNI (crt_X11_has _ _ _ _ _) cw_X11_has (by decide) rfl q_359 q_360 rfl rfl dX7_gotByNoneOf_19 ?_
      intro r5 m6
      refine g_jn (fun J37 => ∀ (v0 : Nat) (v1 : Int32) (v3 : Int32) (s0 : Int32) (s1 : Int32) (m : Mm), GG Z M_X7_gotByNoneOf (PsN Z cvI) 37 [some (.ref v0), some (.int v1), none, some (.int v3)] [.int s0, .int s1] m (J37 v0 v1 v3 s0 s1 m)) ?_ ?_
      · intro v0 v1 v3 s0 s1 m
        refine g_iand dX7_gotByNoneOf_37 ?_
        refine g_istore_n (i := 2) dX7_gotByNoneOf_38 rfl (show 2 < 4 by decide) ?_
        intro x7
        refine g_iinc dX7_gotByNoneOf_39 rfl ki_1 (show 3 < 4 by decide) ?_
        intro x8
        refine g_goto (tgt := 10) dX7_gotByNoneOf_42 (by decide) ?_
        exact g_msk [true, true, true, true] (ih _ _ _ _ _)
      · intro J37 hJ37
        refine g_ifeq (tgt := 36) dX7_gotByNoneOf_22 (by decide) ?_ ?_
        · refine g_iconst (v := (-1 : Int32)) dX7_gotByNoneOf_36 ki_m1 ?_
          exact g_msk [true, true, false, true] (hJ37 _ _ _ _ _ _)
        · refine g_aload_n (i := 0) dX7_gotByNoneOf_25 rfl rfl ?_
          refine g_getR (k := 9) cl_X7 (by decide) rfl q_245 dX7_gotByNoneOf_26 ?_
          intro q9
          refine g_iload_n (i := 3) dX7_gotByNoneOf_29 rfl rfl ?_
          refine g_iaload dX7_gotByNoneOf_30 ?_
          refine g_iconst (v := (-1 : Int32)) dX7_gotByNoneOf_31 ki_m1 ?_
          refine g_ixor dX7_gotByNoneOf_32 ?_
          refine g_goto (tgt := 37) dX7_gotByNoneOf_33 (by decide) ?_
          exact g_msk [true, true, false, true] (hJ37 _ _ _ _ _ _)
set_option maxRecDepth 100000 in
set_option maxHeartbeats 4000000 in
theorem crt_X7_gotByNoneOf (l : Launch) (θ : Th) (a0 : Nat) (a1 : Int32) (m : Mm) : Crt l θ yX7_gotByNoneOf M_X7_gotByNoneOf cvI [.ref a0, .int a1] m (F_X7_gotByNoneOf a0 a1 m) := by
  refine crt_of 2 (by decide) rfl rfl (Nat.le_of_ble_eq_true rfl) (fun Z hμ => ?_)
  unfold F_X7_gotByNoneOf
  show GG Z _ _ 0 [some (.ref a0), some (.int a1), none, none] [] m _
  refine g_aload_n (i := 0) dX7_gotByNoneOf_0 rfl rfl ?_
  refine g_getI (k := 7) cl_X7 (by decide) rfl q_240 dX7_gotByNoneOf_1 ?_
  refine g_callSNI (crt_X11_allOf _ _ _ _) cw_X11_allOf (by decide) rfl q_356 q_357 rfl rfl dX7_gotByNoneOf_4 ?_
  intro r1 m2
  refine g_istore_n (i := 2) dX7_gotByNoneOf_7 rfl (show 2 < 4 by decide) ?_
  intro x3
  refine g_iconst (v := (0 : Int32)) dX7_gotByNoneOf_8 ki_0 ?_
  refine g_istore_n (i := 3) dX7_gotByNoneOf_9 rfl (show 3 < 4 by decide) ?_
  intro x4
  exact g_msk [true, true, true, true] (c_L_X7_gotByNoneOf_10 NF _ _ _ _ _)
set_option maxRecDepth 100000 in
set_option maxHeartbeats 4000000 in
theorem c_L_X7_sumBehindFlush_18 {Z : Zx}    : ∀ (n : Nat) (v0 : Nat) (v3 : Int32) (v4 : Int64) (v6 : Int32) (m : Mm), GG Z M_X7_sumBehindFlush (PsN Z cvL) 18 [some (.ref v0), none, none, some (.int v3), some (.long v4), none, some (.int v6)] [] m (L_X7_sumBehindFlush_18 n v0 v3 v4 v6 m) := by
  intro n
  induction n with
  | zero => intro v0 v3 v4 v6 m; exact g_no
  | succ n ih =>
    intro v0 v3 v4 v6 m
    unfold L_X7_sumBehindFlush_18
    refine g_iload dX7_sumBehindFlush_18 rfl ?_
    refine g_bipush (v := (30 : Int32)) dX7_sumBehindFlush_20 kb_30 ?_
    refine g_icmpge (tgt := 55) dX7_sumBehindFlush_22 (by decide) ?_ ?_
    · refine g_lload dX7_sumBehindFlush_55 rfl ?_
      exact g_lreturn rfl dX7_sumBehindFlush_57
    · refine g_lload dX7_sumBehindFlush_25 rfl ?_
      refine g_iload_n (i := 3) dX7_sumBehindFlush_27 rfl rfl ?_
      refine g_iload dX7_sumBehindFlush_28 rfl ?_
      refine g_ishr dX7_sumBehindFlush_30 ?_
      refine g_iconst (v := (1 : Int32)) dX7_sumBehindFlush_31 ki_1 ?_
      refine g_iand dX7_sumBehindFlush_32 ?_
      refine g_jn (fun J46 => ∀ (v0 : Nat) (v3 : Int32) (v6 : Int32) (s0 : Int64) (s1 : Int64) (m : Mm), GG Z M_X7_sumBehindFlush (PsN Z cvL) 46 [some (.ref v0), none, none, some (.int v3), none, none, some (.int v6)] [.long s0, .long s1] m (J46 v0 v3 v6 s0 s1 m)) ?_ ?_
      · intro v0 v3 v6 s0 s1 m
        refine g_ladd dX7_sumBehindFlush_46 ?_
        refine g_lstore dX7_sumBehindFlush_47 (show 5 < 7 by decide) ?_
        intro x7
        refine g_iinc dX7_sumBehindFlush_49 rfl ki_1 (show 6 < 7 by decide) ?_
        intro x8
        refine g_goto (tgt := 18) dX7_sumBehindFlush_52 (by decide) ?_
        exact g_msk [true, false, false, true, true, true, true] (ih _ _ _ _ _)
      · intro J46 hJ46
        refine g_ifeq (tgt := 45) dX7_sumBehindFlush_33 (by decide) ?_ ?_
        · refine g_lconst (v := (0 : Int64)) dX7_sumBehindFlush_45 rfl ?_
          exact g_msk [true, false, false, true, false, false, true] (hJ46 _ _ _ _ _ _)
        · refine g_aload_n (i := 0) dX7_sumBehindFlush_36 rfl rfl ?_
          refine g_iload dX7_sumBehindFlush_37 rfl ?_
          refine g_callVL cl_X7 (crt_X7_worthOf _ _ _ _ _) cw_X7_worthOf (by decide) rfl q_562 q_564 qs_6 rfl rfl dX7_sumBehindFlush_39 ?_
          intro r9 m10
          refine g_goto (tgt := 46) dX7_sumBehindFlush_42 (by decide) ?_
          exact g_msk [true, false, false, true, false, false, true] (hJ46 _ _ _ _ _ _)
set_option maxRecDepth 100000 in
set_option maxHeartbeats 4000000 in
theorem crt_X7_sumBehindFlush (l : Launch) (θ : Th) (a0 : Nat) (a1 : Int32) (a2 : Int32) (m : Mm) : Crt l θ yX7_sumBehindFlush M_X7_sumBehindFlush cvL [.ref a0, .int a1, .int a2] m (F_X7_sumBehindFlush a0 a1 a2 m) := by
  refine crt_of 4 (by decide) rfl rfl (Nat.le_of_ble_eq_true rfl) (fun Z hμ => ?_)
  unfold F_X7_sumBehindFlush
  show GG Z _ _ 0 [some (.ref a0), some (.int a1), some (.int a2), none, none, none, none] [] m _
  refine g_aload_n (i := 0) dX7_sumBehindFlush_0 rfl rfl ?_
  refine g_iload_n (i := 1) dX7_sumBehindFlush_1 rfl rfl ?_
  refine g_iload_n (i := 2) dX7_sumBehindFlush_2 rfl rfl ?_
  refine g_callVI cl_X7 (crt_X7_lackOf _ _ _ _ _ _) cw_X7_lackOf (by decide) rfl q_554 q_555 q_556 rfl rfl dX7_sumBehindFlush_3 ?_
  intro r1 m2
  refine g_istore_n (i := 3) dX7_sumBehindFlush_6 rfl (show 3 < 7 by decide) ?_
  intro x3
  refine g_aload_n (i := 0) dX7_sumBehindFlush_7 rfl rfl ?_
  refine g_getR (k := 18) cl_X7 (by decide) rfl q_263 dX7_sumBehindFlush_8 ?_
  intro q4
  refine g_iload_n (i := 1) dX7_sumBehindFlush_11 rfl rfl ?_
  refine g_laload dX7_sumBehindFlush_12 ?_
  refine g_lstore dX7_sumBehindFlush_13 (show 5 < 7 by decide) ?_
  intro x5
  refine g_iconst (v := (0 : Int32)) dX7_sumBehindFlush_15 ki_0 ?_
  refine g_istore dX7_sumBehindFlush_16 (show 6 < 7 by decide) ?_
  intro x6
  exact g_msk [true, false, false, true, true, true, true] (c_L_X7_sumBehindFlush_18 NF _ _ _ _ _)
set_option maxRecDepth 100000 in
set_option maxHeartbeats 4000000 in
theorem c_L_X7_wouldAgree_7 {Z : Zx}    : ∀ (n : Nat) (v0 : Nat) (v1 : Int32) (v2 : Int32) (v3 : Int64) (v5 : Int32) (m : Mm), GG Z M_X7_wouldAgree (PsN Z cvI) 7 [some (.ref v0), some (.int v1), some (.int v2), some (.long v3), none, some (.int v5), none, none] [] m (L_X7_wouldAgree_7 n v0 v1 v2 v3 v5 m) := by
  intro n
  induction n with
  | zero => intro v0 v1 v2 v3 v5 m; exact g_no
  | succ n ih =>
    intro v0 v1 v2 v3 v5 m
    unfold L_X7_wouldAgree_7
    refine g_iload dX7_wouldAgree_7 rfl ?_
    refine g_bipush (v := (6 : Int32)) dX7_wouldAgree_9 kb_6 ?_
    refine g_icmpge (tgt := 59) dX7_wouldAgree_11 (by decide) ?_ ?_
    · refine g_iconst (v := (1 : Int32)) dX7_wouldAgree_59 ki_1 ?_
      exact g_zreturnK rfl (by decide) dX7_wouldAgree_60
    · refine g_iload_n (i := 1) dX7_wouldAgree_14 rfl rfl ?_
      refine g_iload dX7_wouldAgree_15 rfl ?_
      refine g_callSNI (crt_X11_has _ _ _ _ _) cw_X11_has (by decide) rfl q_359 q_360 rfl rfl dX7_wouldAgree_17 ?_
      intro r4 m5
      refine g_jn (fun J53 => ∀ (v0 : Nat) (v1 : Int32) (v2 : Int32) (v3 : Int64) (v5 : Int32) (m : Mm), GG Z M_X7_wouldAgree (PsN Z cvI) 53 [some (.ref v0), some (.int v1), some (.int v2), some (.long v3), none, some (.int v5), none, none] [] m (J53 v0 v1 v2 v3 v5 m)) ?_ ?_
      · intro v0 v1 v2 v3 v5 m
        refine g_iinc dX7_wouldAgree_53 rfl ki_1 (show 5 < 8 by decide) ?_
        intro x6
        refine g_goto (tgt := 7) dX7_wouldAgree_56 (by decide) ?_
        exact g_msk [true, true, true, true, true, true, false, false] (ih _ _ _ _ _ _)
      · intro J53 hJ53
        refine g_ifne (tgt := 26) dX7_wouldAgree_20 (by decide) ?_ ?_
        · refine g_aload_n (i := 0) dX7_wouldAgree_26 rfl rfl ?_
          refine g_iload dX7_wouldAgree_27 rfl ?_
          refine g_iload_n (i := 1) dX7_wouldAgree_29 rfl rfl ?_
          refine g_callVL cl_X7 (crt_X7_sumBehindFlush _ _ _ _ _ _) cw_X7_sumBehindFlush (by decide) rfl q_550 q_552 qs_4 rfl rfl dX7_wouldAgree_30 ?_
          intro r7 m8
          refine g_lstore dX7_wouldAgree_33 (show 7 < 8 by decide) ?_
          intro x9
          refine g_iload_n (i := 2) dX7_wouldAgree_35 rfl rfl ?_
          refine g_jn (fun J48 => ∀ (v0 : Nat) (v1 : Int32) (v5 : Int32) (v6 : Int64) (m : Mm), GG Z M_X7_wouldAgree (PsN Z cvI) 48 [some (.ref v0), some (.int v1), none, none, none, some (.int v5), some (.long v6), none] [] m (J48 v0 v1 v5 v6 m)) ?_ ?_
          · intro v0 v1 v5 v6 m
            refine g_iconst (v := (0 : Int32)) dX7_wouldAgree_48 ki_0 ?_
            refine g_istore_n (i := 2) dX7_wouldAgree_49 rfl (show 2 < 8 by decide) ?_
            intro x10
            refine g_lload dX7_wouldAgree_50 rfl ?_
            refine g_lstore_n (i := 3) dX7_wouldAgree_52 rfl (show 4 < 8 by decide) ?_
            intro x11
            exact g_msk [true, true, true, true, true, true, false, false] (hJ53 _ _ _ _ _ _)
          · intro J48 hJ48
            refine g_ifne (tgt := 48) dX7_wouldAgree_36 (by decide) ?_ ?_
            · exact g_msk [true, true, false, false, false, true, true, true] (hJ48 _ _ _ _ _)
            · refine g_lload dX7_wouldAgree_39 rfl ?_
              refine g_lload_n (i := 3) dX7_wouldAgree_41 rfl rfl ?_
              refine g_lcmp dX7_wouldAgree_42 ?_
              refine g_ifeq (tgt := 48) dX7_wouldAgree_43 (by decide) ?_ ?_
              · exact g_msk [true, true, false, false, false, true, true, true] (hJ48 _ _ _ _ _)
              · refine g_iconst (v := (0 : Int32)) dX7_wouldAgree_46 ki_0 ?_
                exact g_zreturnK rfl (by decide) dX7_wouldAgree_47
        · refine g_goto (tgt := 53) dX7_wouldAgree_23 (by decide) ?_
          exact g_msk [true, true, true, true, true, true, false, false] (hJ53 _ _ _ _ _ _)
set_option maxRecDepth 100000 in
set_option maxHeartbeats 4000000 in
theorem crt_X7_wouldAgree (l : Launch) (θ : Th) (a0 : Nat) (a1 : Int32) (m : Mm) : Crt l θ yX7_wouldAgree M_X7_wouldAgree cvI [.ref a0, .int a1] m (F_X7_wouldAgree a0 a1 m) := by
  refine crt_of 6 (by decide) rfl rfl (Nat.le_of_ble_eq_true rfl) (fun Z hμ => ?_)
  unfold F_X7_wouldAgree
  show GG Z _ _ 0 [some (.ref a0), some (.int a1), none, none, none, none, none, none] [] m _
  refine g_iconst (v := (1 : Int32)) dX7_wouldAgree_0 ki_1 ?_
  refine g_istore_n (i := 2) dX7_wouldAgree_1 rfl (show 2 < 8 by decide) ?_
  intro x1
  refine g_lconst (v := (0 : Int64)) dX7_wouldAgree_2 rfl ?_
  refine g_lstore_n (i := 3) dX7_wouldAgree_3 rfl (show 4 < 8 by decide) ?_
  intro x2
  refine g_iconst (v := (0 : Int32)) dX7_wouldAgree_4 ki_0 ?_
  refine g_istore dX7_wouldAgree_5 (show 5 < 8 by decide) ?_
  intro x3
  exact g_msk [true, true, true, true, true, true, false, false] (c_L_X7_wouldAgree_7 NF _ _ _ _ _ _)
set_option maxRecDepth 100000 in
set_option maxHeartbeats 4000000 in
theorem c_L_X7_countOnTheWay_4 {Z : Zx}    : ∀ (n : Nat) (v0 : Nat) (v1 : Int32) (v2 : Int32) (m : Mm), GG Z M_X7_countOnTheWay (PsN Z cvI) 4 [some (.ref v0), some (.int v1), some (.int v2)] [] m (L_X7_countOnTheWay_4 n v0 v1 v2 m) := by
  intro n
  induction n with
  | zero => intro v0 v1 v2 m; exact g_no
  | succ n ih =>
    intro v0 v1 v2 m
    unfold L_X7_countOnTheWay_4
    refine g_iload_n (i := 2) dX7_countOnTheWay_4 rfl rfl ?_
    refine g_aload_n (i := 0) dX7_countOnTheWay_5 rfl rfl ?_
    refine g_getI (k := 7) cl_X7 (by decide) rfl q_240 dX7_countOnTheWay_6 ?_
    refine g_icmpge (tgt := 36) dX7_countOnTheWay_9 (by decide) ?_ ?_
    · refine g_iload_n (i := 1) dX7_countOnTheWay_36 rfl rfl ?_
      exact g_ireturn rfl dX7_countOnTheWay_37
    · refine g_iload_n (i := 2) dX7_countOnTheWay_12 rfl rfl ?_
      refine g_bipush (v := (30 : Int32)) dX7_countOnTheWay_13 kb_30 ?_
      refine g_icmpge (tgt := 36) dX7_countOnTheWay_15 (by decide) ?_ ?_
      · refine g_iload_n (i := 1) dX7_countOnTheWay_36 rfl rfl ?_
        exact g_ireturn rfl dX7_countOnTheWay_37
      · refine g_iload_n (i := 1) dX7_countOnTheWay_18 rfl rfl ?_
        refine g_aload_n (i := 0) dX7_countOnTheWay_19 rfl rfl ?_
        refine g_getR (k := 17) cl_X7 (by decide) rfl q_261 dX7_countOnTheWay_20 ?_
        intro q3
        refine g_iload_n (i := 2) dX7_countOnTheWay_23 rfl rfl ?_
        refine g_iaload dX7_countOnTheWay_24 ?_
        refine g_callSI (crt_J6_bitCount_0f7a4 _ _ _ _) cw_J6_bitCount_0f7a4 (by decide) rfl q_1073 q_456 rfl rfl dX7_countOnTheWay_25 ?_
        intro r4 m5
        refine g_iadd dX7_countOnTheWay_28 ?_
        refine g_istore_n (i := 1) dX7_countOnTheWay_29 rfl (show 1 < 3 by decide) ?_
        intro x6
        refine g_iinc dX7_countOnTheWay_30 rfl ki_1 (show 2 < 3 by decide) ?_
        intro x7
        refine g_goto (tgt := 4) dX7_countOnTheWay_33 (by decide) ?_
        exact g_msk [true, true, true] (ih _ _ _ _)
set_option maxRecDepth 100000 in
set_option maxHeartbeats 4000000 in
theorem crt_X7_countOnTheWay (l : Launch) (θ : Th) (a0 : Nat) (m : Mm) : Crt l θ yX7_countOnTheWay M_X7_countOnTheWay cvI [.ref a0] m (F_X7_countOnTheWay a0 m) := by
  refine crt_of 2 (by decide) rfl rfl (Nat.le_of_ble_eq_true rfl) (fun Z hμ => ?_)
  unfold F_X7_countOnTheWay
  show GG Z _ _ 0 [some (.ref a0), none, none] [] m _
  refine g_iconst (v := (0 : Int32)) dX7_countOnTheWay_0 ki_0 ?_
  refine g_istore_n (i := 1) dX7_countOnTheWay_1 rfl (show 1 < 3 by decide) ?_
  intro x1
  refine g_iconst (v := (0 : Int32)) dX7_countOnTheWay_2 ki_0 ?_
  refine g_istore_n (i := 2) dX7_countOnTheWay_3 rfl (show 2 < 3 by decide) ?_
  intro x2
  exact g_msk [true, true, true] (c_L_X7_countOnTheWay_4 NF _ _ _ _)
set_option maxRecDepth 100000 in
set_option maxHeartbeats 4000000 in
theorem c_L_X7_ownersOf_4 {Z : Zx}    : ∀ (n : Nat) (v0 : Nat) (v1 : Int32) (v2 : Int32) (v3 : Int32) (m : Mm), GG Z M_X7_ownersOf (PsN Z cvI) 4 [some (.ref v0), some (.int v1), some (.int v2), some (.int v3)] [] m (L_X7_ownersOf_4 n v0 v1 v2 v3 m) := by
  intro n
  induction n with
  | zero => intro v0 v1 v2 v3 m; exact g_no
  | succ n ih =>
    intro v0 v1 v2 v3 m
    unfold L_X7_ownersOf_4
    refine g_iload_n (i := 3) dX7_ownersOf_4 rfl rfl ?_
    refine g_bipush (v := (6 : Int32)) dX7_ownersOf_5 kb_6 ?_
    refine g_icmpge (tgt := 34) dX7_ownersOf_7 (by decide) ?_ ?_
    · refine g_iload_n (i := 2) dX7_ownersOf_34 rfl rfl ?_
      exact g_ireturn rfl dX7_ownersOf_35
    · refine g_iload_n (i := 3) dX7_ownersOf_10 rfl rfl ?_
      refine g_aload_n (i := 0) dX7_ownersOf_11 rfl rfl ?_
      refine g_alen100 dX7_ownersOf_12 ?_
      refine g_icmpge (tgt := 34) dX7_ownersOf_13 (by decide) ?_ ?_
      · refine g_iload_n (i := 2) dX7_ownersOf_34 rfl rfl ?_
        exact g_ireturn rfl dX7_ownersOf_35
      · refine g_iload_n (i := 2) dX7_ownersOf_16 rfl rfl ?_
        refine g_aload_n (i := 0) dX7_ownersOf_17 rfl rfl ?_
        refine g_iload_n (i := 3) dX7_ownersOf_18 rfl rfl ?_
        refine g_iaload dX7_ownersOf_19 ?_
        refine g_iload_n (i := 1) dX7_ownersOf_20 rfl rfl ?_
        refine g_ishr dX7_ownersOf_21 ?_
        refine g_iconst (v := (1 : Int32)) dX7_ownersOf_22 ki_1 ?_
        refine g_iand dX7_ownersOf_23 ?_
        refine g_iload_n (i := 3) dX7_ownersOf_24 rfl rfl ?_
        refine g_ishl dX7_ownersOf_25 ?_
        refine g_ior dX7_ownersOf_26 ?_
        refine g_istore_n (i := 2) dX7_ownersOf_27 rfl (show 2 < 4 by decide) ?_
        intro x3
        refine g_iinc dX7_ownersOf_28 rfl ki_1 (show 3 < 4 by decide) ?_
        intro x4
        refine g_goto (tgt := 4) dX7_ownersOf_31 (by decide) ?_
        exact g_msk [true, true, true, true] (ih _ _ _ _ _)
set_option maxRecDepth 100000 in
set_option maxHeartbeats 4000000 in
theorem crt_X7_ownersOf (l : Launch) (θ : Th) (a0 : Nat) (a1 : Int32) (m : Mm) : Crt l θ yX7_ownersOf M_X7_ownersOf cvI [.ref a0, .int a1] m (F_X7_ownersOf a0 a1 m) := by
  refine crt_of 2 (by decide) rfl rfl (Nat.le_of_ble_eq_true rfl) (fun Z hμ => ?_)
  unfold F_X7_ownersOf
  show GG Z _ _ 0 [some (.ref a0), some (.int a1), none, none] [] m _
  refine g_iconst (v := (0 : Int32)) dX7_ownersOf_0 ki_0 ?_
  refine g_istore_n (i := 2) dX7_ownersOf_1 rfl (show 2 < 4 by decide) ?_
  intro x1
  refine g_iconst (v := (0 : Int32)) dX7_ownersOf_2 ki_0 ?_
  refine g_istore_n (i := 3) dX7_ownersOf_3 rfl (show 3 < 4 by decide) ?_
  intro x2
  exact g_msk [true, true, true, true] (c_L_X7_ownersOf_4 NF _ _ _ _ _)
set_option maxRecDepth 100000 in
set_option maxHeartbeats 4000000 in
theorem c_L_X7_isUntold_2 {Z : Zx}    : ∀ (n : Nat) (v0 : Nat) (v1 : Int32) (v2 : Int32) (m : Mm), GG Z M_X7_isUntold (PsN Z cvI) 2 [some (.ref v0), some (.int v1), some (.int v2)] [] m (L_X7_isUntold_2 n v0 v1 v2 m) := by
  intro n
  induction n with
  | zero => intro v0 v1 v2 m; exact g_no
  | succ n ih =>
    intro v0 v1 v2 m
    unfold L_X7_isUntold_2
    refine g_iload_n (i := 2) dX7_isUntold_2 rfl rfl ?_
    refine g_bipush (v := (6 : Int32)) dX7_isUntold_3 kb_6 ?_
    refine g_icmpge (tgt := 56) dX7_isUntold_5 (by decide) ?_ ?_
    · refine g_iconst (v := (0 : Int32)) dX7_isUntold_56 ki_0 ?_
      exact g_zreturnK rfl (by decide) dX7_isUntold_57
    · refine g_aload_n (i := 0) dX7_isUntold_8 rfl rfl ?_
      refine g_iload_n (i := 2) dX7_isUntold_9 rfl rfl ?_
      refine g_callVI cl_X7 (crt_X7_stands _ _ _ _ _) cw_X7_stands (by decide) rfl q_525 q_526 q_527 rfl rfl dX7_isUntold_10 ?_
      intro r2 m3
      refine g_jn (fun J50 => ∀ (v0 : Nat) (v1 : Int32) (v2 : Int32) (m : Mm), GG Z M_X7_isUntold (PsN Z cvI) 50 [some (.ref v0), some (.int v1), some (.int v2)] [] m (J50 v0 v1 v2 m)) ?_ ?_
      · intro v0 v1 v2 m
        refine g_iinc dX7_isUntold_50 rfl ki_1 (show 2 < 3 by decide) ?_
        intro x4
        refine g_goto (tgt := 2) dX7_isUntold_53 (by decide) ?_
        exact g_msk [true, true, true] (ih _ _ _ _)
      · intro J50 hJ50
        refine g_ifeq (tgt := 50) dX7_isUntold_13 (by decide) ?_ ?_
        · exact g_msk [true, true, true] (hJ50 _ _ _ _)
        · refine g_aload_n (i := 0) dX7_isUntold_16 rfl rfl ?_
          refine g_iload_n (i := 1) dX7_isUntold_17 rfl rfl ?_
          refine g_iload_n (i := 2) dX7_isUntold_18 rfl rfl ?_
          refine g_callVI cl_X7 (crt_X7_reaches _ _ _ _ _ _) cw_X7_reaches (by decide) rfl q_534 q_536 qs_3 rfl rfl dX7_isUntold_19 ?_
          intro r5 m6
          refine g_ifeq (tgt := 50) dX7_isUntold_22 (by decide) ?_ ?_
          · exact g_msk [true, true, true] (hJ50 _ _ _ _)
          · refine g_aload_n (i := 0) dX7_isUntold_25 rfl rfl ?_
            refine g_getR (k := 9) cl_X7 (by decide) rfl q_245 dX7_isUntold_26 ?_
            intro q7
            refine g_iload_n (i := 1) dX7_isUntold_29 rfl rfl ?_
            refine g_iaload dX7_isUntold_30 ?_
            refine g_aload_n (i := 0) dX7_isUntold_31 rfl rfl ?_
            refine g_getR (k := 11) cl_X7 (by decide) rfl q_249 dX7_isUntold_32 ?_
            intro q8
            refine g_iload_n (i := 2) dX7_isUntold_35 rfl rfl ?_
            refine g_bipush (v := (6 : Int32)) dX7_isUntold_36 kb_6 ?_
            refine g_imul dX7_isUntold_38 ?_
            refine g_iload_n (i := 1) dX7_isUntold_39 rfl rfl ?_
            refine g_iadd dX7_isUntold_40 ?_
            refine g_iaload dX7_isUntold_41 ?_
            refine g_iconst (v := (-1 : Int32)) dX7_isUntold_42 ki_m1 ?_
            refine g_ixor dX7_isUntold_43 ?_
            refine g_iand dX7_isUntold_44 ?_
            refine g_ifeq (tgt := 50) dX7_isUntold_45 (by decide) ?_ ?_
            · exact g_msk [true, true, true] (hJ50 _ _ _ _)
            · refine g_iconst (v := (1 : Int32)) dX7_isUntold_48 ki_1 ?_
              exact g_zreturnK rfl (by decide) dX7_isUntold_49
set_option maxRecDepth 100000 in
set_option maxHeartbeats 4000000 in
theorem crt_X7_isUntold (l : Launch) (θ : Th) (a0 : Nat) (a1 : Int32) (m : Mm) : Crt l θ yX7_isUntold M_X7_isUntold cvI [.ref a0, .int a1] m (F_X7_isUntold a0 a1 m) := by
  refine crt_of 1 (by decide) rfl rfl (Nat.le_of_ble_eq_true rfl) (fun Z hμ => ?_)
  unfold F_X7_isUntold
  show GG Z _ _ 0 [some (.ref a0), some (.int a1), none] [] m _
  refine g_iconst (v := (0 : Int32)) dX7_isUntold_0 ki_0 ?_
  refine g_istore_n (i := 2) dX7_isUntold_1 rfl (show 2 < 3 by decide) ?_
  intro x1
  exact g_msk [true, true, true] (c_L_X7_isUntold_2 NF _ _ _ _)
set_option maxRecDepth 100000 in
set_option maxHeartbeats 4000000 in
theorem c_L_X7_countUntold_4 {Z : Zx}    : ∀ (n : Nat) (v0 : Nat) (v1 : Int32) (v2 : Int32) (m : Mm), GG Z M_X7_countUntold (PsN Z cvI) 4 [some (.ref v0), some (.int v1), some (.int v2)] [] m (L_X7_countUntold_4 n v0 v1 v2 m) := by
  intro n
  induction n with
  | zero => intro v0 v1 v2 m; exact g_no
  | succ n ih =>
    intro v0 v1 v2 m
    unfold L_X7_countUntold_4
    refine g_iload_n (i := 2) dX7_countUntold_4 rfl rfl ?_
    refine g_bipush (v := (6 : Int32)) dX7_countUntold_5 kb_6 ?_
    refine g_icmpge (tgt := 40) dX7_countUntold_7 (by decide) ?_ ?_
    · refine g_iload_n (i := 1) dX7_countUntold_40 rfl rfl ?_
      exact g_ireturn rfl dX7_countUntold_41
    · refine g_iload_n (i := 1) dX7_countUntold_10 rfl rfl ?_
      refine g_aload_n (i := 0) dX7_countUntold_11 rfl rfl ?_
      refine g_iload_n (i := 2) dX7_countUntold_12 rfl rfl ?_
      refine g_callVI cl_X7 (crt_X7_stands _ _ _ _ _) cw_X7_stands (by decide) rfl q_525 q_526 q_527 rfl rfl dX7_countUntold_13 ?_
      intro r3 m4
      refine g_jn (fun J32 => ∀ (v0 : Nat) (v2 : Int32) (s0 : Int32) (s1 : Int32) (m : Mm), GG Z M_X7_countUntold (PsN Z cvI) 32 [some (.ref v0), none, some (.int v2)] [.int s0, .int s1] m (J32 v0 v2 s0 s1 m)) ?_ ?_
      · intro v0 v2 s0 s1 m
        refine g_iadd dX7_countUntold_32 ?_
        refine g_istore_n (i := 1) dX7_countUntold_33 rfl (show 1 < 3 by decide) ?_
        intro x5
        refine g_iinc dX7_countUntold_34 rfl ki_1 (show 2 < 3 by decide) ?_
        intro x6
        refine g_goto (tgt := 4) dX7_countUntold_37 (by decide) ?_
        exact g_msk [true, true, true] (ih _ _ _ _)
      · intro J32 hJ32
        refine g_jn (fun J31 => ∀ (v0 : Nat) (v2 : Int32) (s0 : Int32) (m : Mm), GG Z M_X7_countUntold (PsN Z cvI) 31 [some (.ref v0), none, some (.int v2)] [.int s0] m (J31 v0 v2 s0 m)) ?_ ?_
        · intro v0 v2 s0 m
          refine g_iconst (v := (0 : Int32)) dX7_countUntold_31 ki_0 ?_
          exact g_msk [true, false, true] (hJ32 _ _ _ _ _)
        · intro J31 hJ31
          refine g_ifeq (tgt := 31) dX7_countUntold_16 (by decide) ?_ ?_
          · exact g_msk [true, false, true] (hJ31 _ _ _ _)
          · refine g_aload_n (i := 0) dX7_countUntold_19 rfl rfl ?_
            refine g_iload_n (i := 2) dX7_countUntold_20 rfl rfl ?_
            refine g_callVI cl_X7 (crt_X7_isUntold _ _ _ _ _) cw_X7_isUntold (by decide) rfl q_530 q_532 qs_2 rfl rfl dX7_countUntold_21 ?_
            intro r7 m8
            refine g_ifeq (tgt := 31) dX7_countUntold_24 (by decide) ?_ ?_
            · exact g_msk [true, false, true] (hJ31 _ _ _ _)
            · refine g_iconst (v := (1 : Int32)) dX7_countUntold_27 ki_1 ?_
              refine g_goto (tgt := 32) dX7_countUntold_28 (by decide) ?_
              exact g_msk [true, false, true] (hJ32 _ _ _ _ _)
set_option maxRecDepth 100000 in
set_option maxHeartbeats 4000000 in
theorem crt_X7_countUntold (l : Launch) (θ : Th) (a0 : Nat) (m : Mm) : Crt l θ yX7_countUntold M_X7_countUntold cvI [.ref a0] m (F_X7_countUntold a0 m) := by
  refine crt_of 2 (by decide) rfl rfl (Nat.le_of_ble_eq_true rfl) (fun Z hμ => ?_)
  unfold F_X7_countUntold
  show GG Z _ _ 0 [some (.ref a0), none, none] [] m _
  refine g_iconst (v := (0 : Int32)) dX7_countUntold_0 ki_0 ?_
  refine g_istore_n (i := 1) dX7_countUntold_1 rfl (show 1 < 3 by decide) ?_
  intro x1
  refine g_iconst (v := (0 : Int32)) dX7_countUntold_2 ki_0 ?_
  refine g_istore_n (i := 2) dX7_countUntold_3 rfl (show 2 < 3 by decide) ?_
  intro x2
  exact g_msk [true, true, true] (c_L_X7_countUntold_4 NF _ _ _ _)
set_option maxRecDepth 100000 in
set_option maxHeartbeats 4000000 in
theorem c_L_X7_countLore_4 {Z : Zx}    : ∀ (n : Nat) (v0 : Nat) (v1 : Int32) (v2 : Int32) (v3 : Int32) (m : Mm), GG Z M_X7_countLore (PsN Z cvI) 4 [some (.ref v0), some (.int v1), some (.int v2), some (.int v3)] [] m (L_X7_countLore_4 n v0 v1 v2 v3 m) := by
  intro n
  induction n with
  | zero => intro v0 v1 v2 v3 m; exact g_no
  | succ n ih =>
    intro v0 v1 v2 v3 m
    unfold L_X7_countLore_4
    refine g_iload_n (i := 3) dX7_countLore_4 rfl rfl ?_
    refine g_bipush (v := (6 : Int32)) dX7_countLore_5 kb_6 ?_
    refine g_icmpge (tgt := 48) dX7_countLore_7 (by decide) ?_ ?_
    · refine g_iload_n (i := 2) dX7_countLore_48 rfl rfl ?_
      exact g_ireturn rfl dX7_countLore_49
    · refine g_iload_n (i := 2) dX7_countLore_10 rfl rfl ?_
      refine g_aload_n (i := 0) dX7_countLore_11 rfl rfl ?_
      refine g_getI (k := 1) cl_X7 (by decide) rfl q_220 dX7_countLore_12 ?_
      refine g_iload_n (i := 3) dX7_countLore_15 rfl rfl ?_
      refine g_callSNI (crt_X11_has _ _ _ _ _) cw_X11_has (by decide) rfl q_359 q_360 rfl rfl dX7_countLore_16 ?_
      intro r3 m4
      refine g_jn (fun J40 => ∀ (v0 : Nat) (v1 : Int32) (v3 : Int32) (s0 : Int32) (s1 : Int32) (m : Mm), GG Z M_X7_countLore (PsN Z cvI) 40 [some (.ref v0), some (.int v1), none, some (.int v3)] [.int s0, .int s1] m (J40 v0 v1 v3 s0 s1 m)) ?_ ?_
      · intro v0 v1 v3 s0 s1 m
        refine g_iadd dX7_countLore_40 ?_
        refine g_istore_n (i := 2) dX7_countLore_41 rfl (show 2 < 4 by decide) ?_
        intro x5
        refine g_iinc dX7_countLore_42 rfl ki_1 (show 3 < 4 by decide) ?_
        intro x6
        refine g_goto (tgt := 4) dX7_countLore_45 (by decide) ?_
        exact g_msk [true, true, true, true] (ih _ _ _ _ _)
      · intro J40 hJ40
        refine g_ifeq (tgt := 39) dX7_countLore_19 (by decide) ?_ ?_
        · refine g_iconst (v := (0 : Int32)) dX7_countLore_39 ki_0 ?_
          exact g_msk [true, true, false, true] (hJ40 _ _ _ _ _ _)
        · refine g_aload_n (i := 0) dX7_countLore_22 rfl rfl ?_
          refine g_getR (k := 11) cl_X7 (by decide) rfl q_249 dX7_countLore_23 ?_
          intro q7
          refine g_iload_n (i := 1) dX7_countLore_26 rfl rfl ?_
          refine g_bipush (v := (6 : Int32)) dX7_countLore_27 kb_6 ?_
          refine g_imul dX7_countLore_29 ?_
          refine g_iload_n (i := 3) dX7_countLore_30 rfl rfl ?_
          refine g_iadd dX7_countLore_31 ?_
          refine g_iaload dX7_countLore_32 ?_
          refine g_callSI (crt_J6_bitCount_0f7a4 _ _ _ _) cw_J6_bitCount_0f7a4 (by decide) rfl q_1073 q_456 rfl rfl dX7_countLore_33 ?_
          intro r8 m9
          refine g_goto (tgt := 40) dX7_countLore_36 (by decide) ?_
          exact g_msk [true, true, false, true] (hJ40 _ _ _ _ _ _)
set_option maxRecDepth 100000 in
set_option maxHeartbeats 4000000 in
theorem crt_X7_countLore (l : Launch) (θ : Th) (a0 : Nat) (a1 : Int32) (m : Mm) : Crt l θ yX7_countLore M_X7_countLore cvI [.ref a0, .int a1] m (F_X7_countLore a0 a1 m) := by
  refine crt_of 2 (by decide) rfl rfl (Nat.le_of_ble_eq_true rfl) (fun Z hμ => ?_)
  unfold F_X7_countLore
  show GG Z _ _ 0 [some (.ref a0), some (.int a1), none, none] [] m _
  refine g_iconst (v := (0 : Int32)) dX7_countLore_0 ki_0 ?_
  refine g_istore_n (i := 2) dX7_countLore_1 rfl (show 2 < 4 by decide) ?_
  intro x1
  refine g_iconst (v := (0 : Int32)) dX7_countLore_2 ki_0 ?_
  refine g_istore_n (i := 3) dX7_countLore_3 rfl (show 3 < 4 by decide) ?_
  intro x2
  exact g_msk [true, true, true, true] (c_L_X7_countLore_4 NF _ _ _ _ _)
set_option maxRecDepth 100000 in
set_option maxHeartbeats 4000000 in
theorem c_L_X7_furthestBehind_7 {Z : Zx}    : ∀ (n : Nat) (v0 : Nat) (v1 : Int32) (v2 : Int32) (v3 : Int32) (m : Mm), GG Z M_X7_furthestBehind (PsN Z cvI) 7 [some (.ref v0), some (.int v1), some (.int v2), some (.int v3), none] [] m (L_X7_furthestBehind_7 n v0 v1 v2 v3 m) := by
  intro n
  induction n with
  | zero => intro v0 v1 v2 v3 m; exact g_no
  | succ n ih =>
    intro v0 v1 v2 v3 m
    unfold L_X7_furthestBehind_7
    refine g_iload_n (i := 3) dX7_furthestBehind_7 rfl rfl ?_
    refine g_bipush (v := (6 : Int32)) dX7_furthestBehind_8 kb_6 ?_
    refine g_icmpge (tgt := 49) dX7_furthestBehind_10 (by decide) ?_ ?_
    · refine g_iload_n (i := 1) dX7_furthestBehind_49 rfl rfl ?_
      exact g_ireturn rfl dX7_furthestBehind_50
    · refine g_aload_n (i := 0) dX7_furthestBehind_13 rfl rfl ?_
      refine g_getR (k := 9) cl_X7 (by decide) rfl q_245 dX7_furthestBehind_14 ?_
      intro q4
      refine g_iload_n (i := 3) dX7_furthestBehind_17 rfl rfl ?_
      refine g_iaload dX7_furthestBehind_18 ?_
      refine g_callSI (crt_J6_bitCount_0f7a4 _ _ _ _) cw_J6_bitCount_0f7a4 (by decide) rfl q_1073 q_456 rfl rfl dX7_furthestBehind_19 ?_
      intro r5 m6
      refine g_istore dX7_furthestBehind_22 (show 4 < 5 by decide) ?_
      intro x7
      refine g_aload_n (i := 0) dX7_furthestBehind_24 rfl rfl ?_
      refine g_iload_n (i := 3) dX7_furthestBehind_25 rfl rfl ?_
      refine g_callVI cl_X7 (crt_X7_stands _ _ _ _ _) cw_X7_stands (by decide) rfl q_525 q_526 q_527 rfl rfl dX7_furthestBehind_26 ?_
      intro r8 m9
      refine g_jn (fun J43 => ∀ (v0 : Nat) (v1 : Int32) (v2 : Int32) (v3 : Int32) (m : Mm), GG Z M_X7_furthestBehind (PsN Z cvI) 43 [some (.ref v0), some (.int v1), some (.int v2), some (.int v3), none] [] m (J43 v0 v1 v2 v3 m)) ?_ ?_
      · intro v0 v1 v2 v3 m
        refine g_iinc dX7_furthestBehind_43 rfl ki_1 (show 3 < 5 by decide) ?_
        intro x10
        refine g_goto (tgt := 7) dX7_furthestBehind_46 (by decide) ?_
        exact g_msk [true, true, true, true, false] (ih _ _ _ _ _)
      · intro J43 hJ43
        refine g_ifeq (tgt := 43) dX7_furthestBehind_29 (by decide) ?_ ?_
        · exact g_msk [true, true, true, true, false] (hJ43 _ _ _ _ _)
        · refine g_iload dX7_furthestBehind_32 rfl ?_
          refine g_iload_n (i := 2) dX7_furthestBehind_34 rfl rfl ?_
          refine g_icmpge (tgt := 43) dX7_furthestBehind_35 (by decide) ?_ ?_
          · exact g_msk [true, true, true, true, false] (hJ43 _ _ _ _ _)
          · refine g_iload_n (i := 3) dX7_furthestBehind_38 rfl rfl ?_
            refine g_istore_n (i := 1) dX7_furthestBehind_39 rfl (show 1 < 5 by decide) ?_
            intro x11
            refine g_iload dX7_furthestBehind_40 rfl ?_
            refine g_istore_n (i := 2) dX7_furthestBehind_42 rfl (show 2 < 5 by decide) ?_
            intro x12
            exact g_msk [true, true, true, true, false] (hJ43 _ _ _ _ _)
set_option maxRecDepth 100000 in
set_option maxHeartbeats 4000000 in
theorem crt_X7_furthestBehind (l : Launch) (θ : Th) (a0 : Nat) (m : Mm) : Crt l θ yX7_furthestBehind M_X7_furthestBehind cvI [.ref a0] m (F_X7_furthestBehind a0 m) := by
  refine crt_of 4 (by decide) rfl rfl (Nat.le_of_ble_eq_true rfl) (fun Z hμ => ?_)
  unfold F_X7_furthestBehind
  show GG Z _ _ 0 [some (.ref a0), none, none, none, none] [] m _
  refine g_iconst (v := (-1 : Int32)) dX7_furthestBehind_0 ki_m1 ?_
  refine g_istore_n (i := 1) dX7_furthestBehind_1 rfl (show 1 < 5 by decide) ?_
  intro x1
  refine g_bipush (v := (31 : Int32)) dX7_furthestBehind_2 kb_31 ?_
  refine g_istore_n (i := 2) dX7_furthestBehind_4 rfl (show 2 < 5 by decide) ?_
  intro x2
  refine g_iconst (v := (0 : Int32)) dX7_furthestBehind_5 ki_0 ?_
  refine g_istore_n (i := 3) dX7_furthestBehind_6 rfl (show 3 < 5 by decide) ?_
  intro x3
  exact g_msk [true, true, true, true, false] (c_L_X7_furthestBehind_7 NF _ _ _ _ _)
set_option maxRecDepth 100000 in
set_option maxHeartbeats 4000000 in
theorem crt_X8_init (l : Launch) (θ : Th) (a0 : Nat) (m : Mm) : Crt l θ yX8_init M_X8_init cvV [.ref a0] m (F_X8_init a0 m) := by
  refine crt_of 0 (by decide) rfl rfl (Nat.le_of_ble_eq_true rfl) (fun Z hμ => ?_)
  unfold F_X8_init
  show GG Z _ _ 0 [some (.ref a0)] [] m _
  refine g_aload_n (i := 0) dX8_init_0 rfl rfl ?_
  refine g_objInit q_347 q_35 q_36 (by decide) rfl dX8_init_1 ?_
  exact g_return rfl dX8_init_4
set_option maxRecDepth 100000 in
set_option maxHeartbeats 4000000 in
theorem crt_X8_draw (l : Launch) (θ : Th) (a0 : Nat) (a1 : Int32) (m : Mm) : Crt l θ yX8_draw M_X8_draw cvI [.ref a0, .int a1] m (F_X8_draw a0 a1 m) := by
  refine crt_of 0 (by decide) rfl rfl (Nat.le_of_ble_eq_true rfl) (fun Z hμ => ?_)
  unfold F_X8_draw
  show GG Z _ _ 0 [some (.ref a0), some (.int a1)] [] m _
  refine g_aload_n (i := 0) dX8_draw_0 rfl rfl ?_
  refine g_aload_n (i := 0) dX8_draw_1 rfl rfl ?_
  refine g_getI (k := 0) cl_X8 (by decide) rfl q_348 dX8_draw_2 ?_
  refine g_ldc (v := (1103515245 : Int32)) dX8_draw_5 q_1341 ?_
  refine g_imul dX8_draw_7 ?_
  refine g_sipush (v := (12345 : Int32)) dX8_draw_8 ks_12345 ?_
  refine g_iadd dX8_draw_11 ?_
  refine g_putI (k := 0) cl_X8 (by decide) rfl rfl q_348 dX8_draw_12 ?_
  intro m1
  refine g_iload_n (i := 1) dX8_draw_15 rfl rfl ?_
  refine g_ifle (tgt := 35) dX8_draw_16 (by decide) ?_ ?_
  · refine g_iconst (v := (0 : Int32)) dX8_draw_35 ki_0 ?_
    exact g_ireturn rfl dX8_draw_36
  · refine g_aload_n (i := 0) dX8_draw_19 rfl rfl ?_
    refine g_getI (k := 0) cl_X8 (by decide) rfl q_348 dX8_draw_20 ?_
    refine g_bipush (v := (16 : Int32)) dX8_draw_23 kb_16 ?_
    refine g_iushr dX8_draw_25 ?_
    refine g_sipush (v := (32767 : Int32)) dX8_draw_26 ks_32767 ?_
    refine g_iand dX8_draw_29 ?_
    refine g_iload_n (i := 1) dX8_draw_30 rfl rfl ?_
    refine g_irem dX8_draw_31 ?_
    refine g_goto (tgt := 36) dX8_draw_32 (by decide) ?_
    exact g_ireturn rfl dX8_draw_36
set_option maxRecDepth 100000 in
set_option maxHeartbeats 4000000 in
theorem crt_X8_crashOrJoin (l : Launch) (θ : Th) (a0 : Nat) (a1 : Int32) (a2 : Int32) (m : Mm) : Crt l θ yX8_crashOrJoin M_X8_crashOrJoin cvV [.ref a0, .int a1, .int a2] m (F_X8_crashOrJoin a0 a1 a2 m) := by
  refine crt_of 0 (by decide) rfl rfl (Nat.le_of_ble_eq_true rfl) (fun Z hμ => ?_)
  unfold F_X8_crashOrJoin
  show GG Z _ _ 0 [some (.ref a0), some (.int a1), some (.int a2)] [] m _
  refine g_iload_n (i := 2) dX8_crashOrJoin_0 rfl rfl ?_
  refine g_ifeq (tgt := 13) dX8_crashOrJoin_1 (by decide) ?_ ?_
  · refine g_aload_n (i := 0) dX8_crashOrJoin_13 rfl rfl ?_
    refine g_iload_n (i := 1) dX8_crashOrJoin_14 rfl rfl ?_
    refine g_callVI cl_X7 (crt_X7_join _ _ _ _ _) cw_X7_join (by decide) rfl q_1351 q_1009 q_1010 rfl rfl dX8_crashOrJoin_15 ?_
    intro r1 m2
    refine g_pop dX8_crashOrJoin_18 rfl ?_
    exact g_return rfl dX8_crashOrJoin_19
  · refine g_aload_n (i := 0) dX8_crashOrJoin_4 rfl rfl ?_
    refine g_iload_n (i := 1) dX8_crashOrJoin_5 rfl rfl ?_
    refine g_callVI cl_X7 (crt_X7_crash _ _ _ _ _) cw_X7_crash (by decide) rfl q_1350 q_1005 q_1006 rfl rfl dX8_crashOrJoin_6 ?_
    intro r3 m4
    refine g_pop dX8_crashOrJoin_9 rfl ?_
    refine g_goto (tgt := 19) dX8_crashOrJoin_10 (by decide) ?_
    exact g_return rfl dX8_crashOrJoin_19
set_option maxRecDepth 100000 in
set_option maxHeartbeats 4000000 in
theorem crt_X8_gust (l : Launch) (θ : Th) (a0 : Nat) (a1 : Nat) (a2 : Nat) (a3 : Int32) (m : Mm) : Crt l θ yX8_gust M_X8_gust cvV [.ref a0, .ref a1, .ref a2, .int a3] m (F_X8_gust a0 a1 a2 a3 m) := by
  refine crt_of 1 (by decide) rfl rfl (Nat.le_of_ble_eq_true rfl) (fun Z hμ => ?_)
  unfold F_X8_gust
  show GG Z _ _ 0 [some (.ref a0), some (.ref a1), some (.ref a2), some (.int a3), none] [] m _
  refine g_aload_n (i := 0) dX8_gust_0 rfl rfl ?_
  refine g_aload_n (i := 2) dX8_gust_1 rfl rfl ?_
  refine g_callVI cl_X6 (crt_X6_members _ _ _ _) cw_X6_members (by decide) rfl q_1329 q_1330 q_1331 rfl rfl dX8_gust_2 ?_
  intro r1 m2
  refine g_callVI cl_X8 (crt_X8_draw _ _ _ _ _) cw_X8_draw (by decide) rfl q_1337 q_1339 qs_36 rfl rfl dX8_gust_5 ?_
  intro r3 m4
  refine g_istore dX8_gust_8 (show 4 < 5 by decide) ?_
  intro x5
  refine g_aload_n (i := 0) dX8_gust_10 rfl rfl ?_
  refine g_bipush (v := (8 : Int32)) dX8_gust_11 kb_8 ?_
  refine g_callVI cl_X8 (crt_X8_draw _ _ _ _ _) cw_X8_draw (by decide) rfl q_1337 q_1339 qs_36 rfl rfl dX8_gust_13 ?_
  intro r6 m7
  refine g_jn (fun J80 => ∀ (v1 : Nat) (v4 : Int32) (m : Mm), GG Z M_X8_gust (PsN Z cvV) 80 [none, some (.ref v1), none, none, some (.int v4)] [] m (J80 v1 v4 m)) ?_ ?_
  · intro v1 v4 m
    refine g_aload_n (i := 1) dX8_gust_80 rfl rfl ?_
    refine g_iload dX8_gust_81 rfl ?_
    refine g_callVI cl_X7 (crt_X7_take _ _ _ _ _) cw_X7_take (by decide) rfl q_1344 q_981 q_982 rfl rfl dX8_gust_83 ?_
    intro r8 m9
    refine g_pop dX8_gust_86 rfl ?_
    refine g_goto (tgt := 146) dX8_gust_87 (by decide) ?_
    exact g_return rfl dX8_gust_146
  · intro J80 hJ80
    refine g_jn (fun J60 => ∀ (v0 : Nat) (v1 : Nat) (v2 : Nat) (v4 : Int32) (m : Mm), GG Z M_X8_gust (PsN Z cvV) 60 [some (.ref v0), some (.ref v1), some (.ref v2), none, some (.int v4)] [] m (J60 v0 v1 v2 v4 m)) ?_ ?_
    · intro v0 v1 v2 v4 m
      refine g_aload_n (i := 1) dX8_gust_60 rfl rfl ?_
      refine g_iload dX8_gust_61 rfl ?_
      refine g_aload_n (i := 0) dX8_gust_63 rfl rfl ?_
      refine g_bipush (v := (100 : Int32)) dX8_gust_64 kb_100 ?_
      refine g_callVI cl_X8 (crt_X8_draw _ _ _ _ _) cw_X8_draw (by decide) rfl q_1337 q_1339 qs_36 rfl rfl dX8_gust_66 ?_
      intro r10 m11
      refine g_aload_n (i := 2) dX8_gust_69 rfl rfl ?_
      refine g_callVI cl_X6 (crt_X6_limit _ _ _ _) cw_X6_limit (by decide) rfl q_1342 q_961 q_962 rfl rfl dX8_gust_70 ?_
      intro r12 m13
      refine g_callVI cl_X7 (crt_X7_send _ _ _ _ _ _ _) cw_X7_send (by decide) rfl q_1343 q_965 q_966 rfl rfl dX8_gust_73 ?_
      intro r14 m15
      refine g_pop dX8_gust_76 rfl ?_
      refine g_goto (tgt := 146) dX8_gust_77 (by decide) ?_
      exact g_return rfl dX8_gust_146
    · intro J60 hJ60
      refine g_sw0 (lo := 0) ?_
      refine g_swc (k := 0) (tgt := 60) dX8_gust_16 (by decide) kt_0 rfl (by decide) ?_ ?_
      · exact g_msk [true, true, true, false, true] (hJ60 _ _ _ _ _)
      · refine g_swc (k := 1) (tgt := 60) dX8_gust_16 (by decide) kt_1 rfl (by decide) ?_ ?_
        · exact g_msk [true, true, true, false, true] (hJ60 _ _ _ _ _)
        · refine g_swc (k := 2) (tgt := 80) dX8_gust_16 (by decide) kt_2 rfl (by decide) ?_ ?_
          · exact g_msk [false, true, false, false, true] (hJ80 _ _ _)
          · refine g_swc (k := 3) (tgt := 80) dX8_gust_16 (by decide) kt_3 rfl (by decide) ?_ ?_
            · exact g_msk [false, true, false, false, true] (hJ80 _ _ _)
            · refine g_swc (k := 4) (tgt := 90) dX8_gust_16 (by decide) kt_4 rfl (by decide) ?_ ?_
              · refine g_aload_n (i := 1) dX8_gust_90 rfl rfl ?_
                refine g_iload dX8_gust_91 rfl ?_
                refine g_callVI cl_X7 (crt_X7_lose _ _ _ _ _) cw_X7_lose (by decide) rfl q_1345 q_989 q_990 rfl rfl dX8_gust_93 ?_
                intro r16 m17
                refine g_pop dX8_gust_96 rfl ?_
                refine g_goto (tgt := 146) dX8_gust_97 (by decide) ?_
                exact g_return rfl dX8_gust_146
              · refine g_swc (k := 5) (tgt := 100) dX8_gust_16 (by decide) kt_5 rfl (by decide) ?_ ?_
                · refine g_aload_n (i := 1) dX8_gust_100 rfl rfl ?_
                  refine g_iload dX8_gust_101 rfl ?_
                  refine g_callVI cl_X7 (crt_X7_tell _ _ _ _ _) cw_X7_tell (by decide) rfl q_1346 q_993 q_994 rfl rfl dX8_gust_103 ?_
                  intro r18 m19
                  refine g_pop dX8_gust_106 rfl ?_
                  refine g_goto (tgt := 146) dX8_gust_107 (by decide) ?_
                  exact g_return rfl dX8_gust_146
                · refine g_swc (k := 6) (tgt := 110) dX8_gust_16 (by decide) kt_6 rfl (by decide) ?_ ?_
                  · refine g_aload_n (i := 1) dX8_gust_110 rfl rfl ?_
                    refine g_iload dX8_gust_111 rfl ?_
                    refine g_aload_n (i := 0) dX8_gust_113 rfl rfl ?_
                    refine g_bipush (v := (16 : Int32)) dX8_gust_114 kb_16 ?_
                    refine g_callVI cl_X8 (crt_X8_draw _ _ _ _ _) cw_X8_draw (by decide) rfl q_1337 q_1339 qs_36 rfl rfl dX8_gust_116 ?_
                    intro r20 m21
                    refine g_iload_n (i := 3) dX8_gust_119 rfl rfl ?_
                    refine g_jn (fun J128 => ∀ (s0 : Int32) (s1 : Int32) (s2 : Nat) (m : Mm), GG Z M_X8_gust (PsN Z cvV) 128 [none, none, none, none, none] [.int s0, .int s1, .ref s2] m (J128 s0 s1 s2 m)) ?_ ?_
                    · intro s0 s1 s2 m
                      refine g_callSV (crt_X8_crashOrJoin _ _ _ _ _ _) cw_X8_crashOrJoin (by decide) rfl q_1347 q_1348 rfl rfl dX8_gust_128 ?_
                      intro r22 m23
                      refine g_goto (tgt := 146) dX8_gust_131 (by decide) ?_
                      exact g_return rfl dX8_gust_146
                    · intro J128 hJ128
                      refine g_icmpge (tgt := 127) dX8_gust_120 (by decide) ?_ ?_
                      · refine g_iconst (v := (0 : Int32)) dX8_gust_127 ki_0 ?_
                        exact g_msk [false, false, false, false, false] (hJ128 _ _ _ _)
                      · refine g_iconst (v := (1 : Int32)) dX8_gust_123 ki_1 ?_
                        refine g_goto (tgt := 128) dX8_gust_124 (by decide) ?_
                        exact g_msk [false, false, false, false, false] (hJ128 _ _ _ _)
                  · refine g_swe (n := 7) (tgt := 134) dX8_gust_16 (by decide) (by decide) ?_
                    refine g_aload_n (i := 2) dX8_gust_134 rfl rfl ?_
                    refine g_aload_n (i := 1) dX8_gust_135 rfl rfl ?_
                    refine g_callVI cl_X6 (crt_X6_hold _ _ _ _ _) cw_X6_hold (by decide) rfl q_1352 q_1017 q_1018 rfl rfl dX8_gust_136 ?_
                    intro r24 m25
                    refine g_pop dX8_gust_139 rfl ?_
                    refine g_aload_n (i := 2) dX8_gust_140 rfl rfl ?_
                    refine g_aload_n (i := 1) dX8_gust_141 rfl rfl ?_
                    refine g_callVI cl_X6 (crt_X6_view _ _ _ _ _) cw_X6_view (by decide) rfl q_1353 q_1021 q_1022 rfl rfl dX8_gust_142 ?_
                    intro r26 m27
                    refine g_pop dX8_gust_145 rfl ?_
                    exact g_return rfl dX8_gust_146
set_option maxRecDepth 100000 in
set_option maxHeartbeats 4000000 in
theorem c_L_X8_blow_8 {Z : Zx}    : ∀ (n : Nat) (v0 : Nat) (v1 : Nat) (v2 : Nat) (v4 : Int32) (v5 : Int32) (v6 : Int32) (m : Mm), GG Z M_X8_blow (PsN Z cvV) 8 [some (.ref v0), some (.ref v1), some (.ref v2), none, some (.int v4), some (.int v5), some (.int v6)] [] m (L_X8_blow_8 n v0 v1 v2 v4 v5 v6 m) := by
  intro n
  induction n with
  | zero => intro v0 v1 v2 v4 v5 v6 m; exact g_no
  | succ n ih =>
    intro v0 v1 v2 v4 v5 v6 m
    unfold L_X8_blow_8
    refine g_iload dX8_blow_8 rfl ?_
    refine g_iload dX8_blow_10 rfl ?_
    refine g_icmpge (tgt := 43) dX8_blow_12 (by decide) ?_ ?_
    · exact g_return rfl dX8_blow_43
    · refine g_iload dX8_blow_15 rfl ?_
      refine g_bipush (v := (96 : Int32)) dX8_blow_17 kb_96 ?_
      refine g_icmpge (tgt := 43) dX8_blow_19 (by decide) ?_ ?_
      · exact g_return rfl dX8_blow_43
      · refine g_aload_n (i := 2) dX8_blow_22 rfl rfl ?_
        refine g_callVI cl_X6 (crt_X6_members _ _ _ _) cw_X6_members (by decide) rfl q_1329 q_1330 q_1331 rfl rfl dX8_blow_23 ?_
        intro r3 m4
        refine g_jn (fun J37 => ∀ (v0 : Nat) (v1 : Nat) (v2 : Nat) (v4 : Int32) (v5 : Int32) (v6 : Int32) (m : Mm), GG Z M_X8_blow (PsN Z cvV) 37 [some (.ref v0), some (.ref v1), some (.ref v2), none, some (.int v4), some (.int v5), some (.int v6)] [] m (J37 v0 v1 v2 v4 v5 v6 m)) ?_ ?_
        · intro v0 v1 v2 v4 v5 v6 m
          refine g_iinc dX8_blow_37 rfl ki_1 (show 6 < 7 by decide) ?_
          intro x5
          refine g_goto (tgt := 8) dX8_blow_40 (by decide) ?_
          exact g_msk [true, true, true, false, true, true, true] (ih _ _ _ _ _ _ _)
        · intro J37 hJ37
          refine g_ifle (tgt := 37) dX8_blow_26 (by decide) ?_ ?_
          · exact g_msk [true, true, true, false, true, true, true] (hJ37 _ _ _ _ _ _ _)
          · refine g_aload_n (i := 0) dX8_blow_29 rfl rfl ?_
            refine g_aload_n (i := 1) dX8_blow_30 rfl rfl ?_
            refine g_aload_n (i := 2) dX8_blow_31 rfl rfl ?_
            refine g_iload dX8_blow_32 rfl ?_
            refine g_callVV cl_X8 (crt_X8_gust _ _ _ _ _ _ _) cw_X8_gust (by decide) rfl q_1333 q_1335 qs_35 rfl rfl dX8_blow_34 ?_
            intro r6 m7
            exact g_msk [true, true, true, false, true, true, true] (hJ37 _ _ _ _ _ _ _)
set_option maxRecDepth 100000 in
set_option maxHeartbeats 4000000 in
theorem crt_X8_blow (l : Launch) (θ : Th) (a0 : Nat) (a1 : Nat) (a2 : Nat) (a3 : Int32) (a4 : Int32) (a5 : Int32) (m : Mm) : Crt l θ yX8_blow M_X8_blow cvV [.ref a0, .ref a1, .ref a2, .int a3, .int a4, .int a5] m (F_X8_blow a0 a1 a2 a3 a4 a5 m) := by
  refine crt_of 1 (by decide) rfl rfl (Nat.le_of_ble_eq_true rfl) (fun Z hμ => ?_)
  unfold F_X8_blow
  show GG Z _ _ 0 [some (.ref a0), some (.ref a1), some (.ref a2), some (.int a3), some (.int a4), some (.int a5), none] [] m _
  refine g_aload_n (i := 0) dX8_blow_0 rfl rfl ?_
  refine g_iload_n (i := 3) dX8_blow_1 rfl rfl ?_
  refine g_putI (k := 0) cl_X8 (by decide) rfl rfl q_348 dX8_blow_2 ?_
  intro m1
  refine g_iconst (v := (0 : Int32)) dX8_blow_5 ki_0 ?_
  refine g_istore dX8_blow_6 (show 6 < 7 by decide) ?_
  intro x2
  exact g_msk [true, true, true, false, true, true, true] (c_L_X8_blow_8 NF _ _ _ _ _ _ _)
set_option maxRecDepth 100000 in
set_option maxHeartbeats 4000000 in
theorem crt_X9_init (l : Launch) (θ : Th) (a0 : Nat) (m : Mm) : Crt l θ yX9_init M_X9_init cvV [.ref a0] m (F_X9_init a0 m) := by
  refine crt_of 0 (by decide) rfl rfl (Nat.le_of_ble_eq_true rfl) (fun Z hμ => ?_)
  unfold F_X9_init
  show GG Z _ _ 0 [some (.ref a0)] [] m _
  refine g_aload_n (i := 0) dX9_init_0 rfl rfl ?_
  refine g_objInit q_42 q_35 q_36 (by decide) rfl dX9_init_1 ?_
  refine g_aload_n (i := 0) dX9_init_4 rfl rfl ?_
  refine g_sipush (v := (600 : Int32)) dX9_init_5 ks_600 ?_
  refine g_newarr (atype := .byte) (ty := .byte) (t0 := 2) (N := 600) rfl rfl (fun _ => rfl) (fun _ _ h => h) q_80 (by decide) (by decide) (by decide) (fun _ _ => nwd_i _ _ _ _ (by decide) rfl) dX9_init_8 ?_
  intro m1
  refine g_putRF (k := 0) cl_X9 (by decide) rfl (fun _ => rfl) (fun _ => rfl) rfl rfl rfl q_43 dX9_init_10 ?_
  intro m2
  refine g_aload_n (i := 0) dX9_init_13 rfl rfl ?_
  refine g_iconst (v := (-1 : Int32)) dX9_init_14 ki_m1 ?_
  refine g_putI (k := 7) cl_X9 (by decide) rfl rfl q_61 dX9_init_15 ?_
  intro m3
  exact g_return rfl dX9_init_18
set_option maxRecDepth 100000 in
set_option maxHeartbeats 4000000 in
theorem crt_X9_hasRoom (l : Launch) (θ : Th) (a0 : Nat) (m : Mm) : Crt l θ yX9_hasRoom M_X9_hasRoom cvI [.ref a0] m (F_X9_hasRoom a0 m) := by
  refine crt_of 0 (by decide) rfl rfl (Nat.le_of_ble_eq_true rfl) (fun Z hμ => ?_)
  unfold F_X9_hasRoom
  show GG Z _ _ 0 [some (.ref a0)] [] m _
  refine g_aload_n (i := 0) dX9_hasRoom_0 rfl rfl ?_
  refine g_getI (k := 1) cl_X9 (by decide) rfl q_44 dX9_hasRoom_1 ?_
  refine g_bipush (v := (20 : Int32)) dX9_hasRoom_4 kb_20 ?_
  refine g_iadd dX9_hasRoom_6 ?_
  refine g_sipush (v := (600 : Int32)) dX9_hasRoom_7 ks_600 ?_
  refine g_icmpgt (tgt := 17) dX9_hasRoom_10 (by decide) ?_ ?_
  · refine g_iconst (v := (0 : Int32)) dX9_hasRoom_17 ki_0 ?_
    exact g_zreturnK rfl (by decide) dX9_hasRoom_18
  · refine g_iconst (v := (1 : Int32)) dX9_hasRoom_13 ki_1 ?_
    refine g_goto (tgt := 18) dX9_hasRoom_14 (by decide) ?_
    exact g_zreturnK rfl (by decide) dX9_hasRoom_18
set_option maxRecDepth 100000 in
set_option maxHeartbeats 4000000 in
theorem c_L_X9_put_3 {Z : Zx}    : ∀ (n : Nat) (v0 : Nat) (v1 : Int32) (v2 : Int32) (m : Mm), GG Z M_X9_put (PsN Z cvV) 3 [some (.ref v0), some (.int v1), some (.int v2)] [] m (L_X9_put_3 n v0 v1 v2 m) := by
  intro n
  induction n with
  | zero => intro v0 v1 v2 m; exact g_no
  | succ n ih =>
    intro v0 v1 v2 m
    unfold L_X9_put_3
    refine g_iload_n (i := 2) dX9_put_3 rfl rfl ?_
    refine g_iflt (tgt := 48) dX9_put_4 (by decide) ?_ ?_
    · exact g_return rfl dX9_put_48
    · refine g_aload_n (i := 0) dX9_put_7 rfl rfl ?_
      refine g_getI (k := 1) cl_X9 (by decide) rfl q_44 dX9_put_8 ?_
      refine g_aload_n (i := 0) dX9_put_11 rfl rfl ?_
      refine g_getR (k := 0) cl_X9 (by decide) rfl q_43 dX9_put_12 ?_
      intro q2
      refine g_alen102 dX9_put_15 ?_
      refine g_jn (fun J42 => ∀ (v0 : Nat) (v1 : Int32) (v2 : Int32) (m : Mm), GG Z M_X9_put (PsN Z cvV) 42 [some (.ref v0), some (.int v1), some (.int v2)] [] m (J42 v0 v1 v2 m)) ?_ ?_
      · intro v0 v1 v2 m
        refine g_iinc dX9_put_42 rfl ki_m8 (show 2 < 3 by decide) ?_
        intro x3
        refine g_goto (tgt := 3) dX9_put_45 (by decide) ?_
        exact g_msk [true, true, true] (ih _ _ _ _)
      · intro J42 hJ42
        refine g_icmpge (tgt := 42) dX9_put_16 (by decide) ?_ ?_
        · exact g_msk [true, true, true] (hJ42 _ _ _ _)
        · refine g_aload_n (i := 0) dX9_put_19 rfl rfl ?_
          refine g_getR (k := 0) cl_X9 (by decide) rfl q_43 dX9_put_20 ?_
          intro q4
          refine g_aload_n (i := 0) dX9_put_23 rfl rfl ?_
          refine g_getI (k := 1) cl_X9 (by decide) rfl q_44 dX9_put_24 ?_
          refine g_iload_n (i := 1) dX9_put_27 rfl rfl ?_
          refine g_iload_n (i := 2) dX9_put_28 rfl rfl ?_
          refine g_ishr dX9_put_29 ?_
          refine g_i2b dX9_put_30 ?_
          refine g_bastore dX9_put_31 ?_
          intro m5
          refine g_aload_n (i := 0) dX9_put_32 rfl rfl ?_
          refine g_dup dX9_put_33 rfl ?_
          refine g_getI (k := 1) cl_X9 (by decide) rfl q_44 dX9_put_34 ?_
          refine g_iconst (v := (1 : Int32)) dX9_put_37 ki_1 ?_
          refine g_iadd dX9_put_38 ?_
          refine g_putI (k := 1) cl_X9 (by decide) rfl rfl q_44 dX9_put_39 ?_
          intro m6
          exact g_msk [true, true, true] (hJ42 _ _ _ _)
set_option maxRecDepth 100000 in
set_option maxHeartbeats 4000000 in
theorem crt_X9_put (l : Launch) (θ : Th) (a0 : Nat) (a1 : Int32) (m : Mm) : Crt l θ yX9_put M_X9_put cvV [.ref a0, .int a1] m (F_X9_put a0 a1 m) := by
  refine crt_of 1 (by decide) rfl rfl (Nat.le_of_ble_eq_true rfl) (fun Z hμ => ?_)
  unfold F_X9_put
  show GG Z _ _ 0 [some (.ref a0), some (.int a1), none] [] m _
  refine g_bipush (v := (24 : Int32)) dX9_put_0 kb_24 ?_
  refine g_istore_n (i := 2) dX9_put_2 rfl (show 2 < 3 by decide) ?_
  intro x1
  exact g_msk [true, true, true] (c_L_X9_put_3 NF _ _ _ _)
set_option maxRecDepth 100000 in
set_option maxHeartbeats 4000000 in
theorem crt_X9_open (l : Launch) (θ : Th) (a0 : Nat) (a1 : Int32) (m : Mm) : Crt l θ yX9_open M_X9_open cvV [.ref a0, .int a1] m (F_X9_open a0 a1 m) := by
  refine crt_of 0 (by decide) rfl rfl (Nat.le_of_ble_eq_true rfl) (fun Z hμ => ?_)
  unfold F_X9_open
  show GG Z _ _ 0 [some (.ref a0), some (.int a1)] [] m _
  refine g_aload_n (i := 0) dX9_open_0 rfl rfl ?_
  refine g_iload_n (i := 1) dX9_open_1 rfl rfl ?_
  refine g_aload_n (i := 0) dX9_open_2 rfl rfl ?_
  refine g_getI (k := 1) cl_X9 (by decide) rfl q_44 dX9_open_3 ?_
  refine g_mmin q_734 q_469 q_13 qm_min (by decide) rfl dX9_open_6 ?_
  refine g_putI (k := 2) cl_X9 (by decide) rfl rfl q_46 dX9_open_9 ?_
  intro m1
  refine g_aload_n (i := 0) dX9_open_12 rfl rfl ?_
  refine g_iconst (v := (0 : Int32)) dX9_open_13 ki_0 ?_
  refine g_putI (k := 1) cl_X9 (by decide) rfl rfl q_44 dX9_open_14 ?_
  intro m2
  refine g_aload_n (i := 0) dX9_open_17 rfl rfl ?_
  refine g_iconst (v := (0 : Int32)) dX9_open_18 ki_0 ?_
  refine g_putI (k := 3) cl_X9 (by decide) rfl rfl q_48 dX9_open_19 ?_
  intro m3
  refine g_aload_n (i := 0) dX9_open_22 rfl rfl ?_
  refine g_iconst (v := (0 : Int32)) dX9_open_23 ki_0 ?_
  refine g_putI (k := 6) cl_X9 (by decide) rfl rfl q_60 dX9_open_24 ?_
  intro m4
  refine g_aload_n (i := 0) dX9_open_27 rfl rfl ?_
  refine g_iconst (v := (-1 : Int32)) dX9_open_28 ki_m1 ?_
  refine g_putI (k := 7) cl_X9 (by decide) rfl rfl q_61 dX9_open_29 ?_
  intro m5
  exact g_return rfl dX9_open_32
set_option maxRecDepth 100000 in
set_option maxHeartbeats 4000000 in
theorem crt_X9_skip (l : Launch) (θ : Th) (a0 : Nat) (m : Mm) : Crt l θ yX9_skip M_X9_skip cvV [.ref a0] m (F_X9_skip a0 m) := by
  refine crt_of 0 (by decide) rfl rfl (Nat.le_of_ble_eq_true rfl) (fun Z hμ => ?_)
  unfold F_X9_skip
  show GG Z _ _ 0 [some (.ref a0)] [] m _
  refine g_aload_n (i := 0) dX9_skip_0 rfl rfl ?_
  refine g_dup dX9_skip_1 rfl ?_
  refine g_getI (k := 3) cl_X9 (by decide) rfl q_48 dX9_skip_2 ?_
  refine g_iconst (v := (1 : Int32)) dX9_skip_5 ki_1 ?_
  refine g_iadd dX9_skip_6 ?_
  refine g_putI (k := 3) cl_X9 (by decide) rfl rfl q_48 dX9_skip_7 ?_
  intro m1
  exact g_return rfl dX9_skip_10
set_option maxRecDepth 100000 in
set_option maxHeartbeats 4000000 in
theorem crt_X9_isLetter (l : Launch) (θ : Th) (a0 : Int32) (m : Mm) : Crt l θ yX9_isLetter M_X9_isLetter cvI [.int a0] m (F_X9_isLetter a0 m) := by
  refine crt_of 0 (by decide) rfl rfl (Nat.le_of_ble_eq_true rfl) (fun Z hμ => ?_)
  unfold F_X9_isLetter
  show GG Z _ _ 0 [some (.int a0)] [] m _
  refine g_iload_n (i := 0) dX9_isLetter_0 rfl rfl ?_
  refine g_bipush (v := (97 : Int32)) dX9_isLetter_1 kb_97 ?_
  refine g_icmplt (tgt := 16) dX9_isLetter_3 (by decide) ?_ ?_
  · refine g_iconst (v := (0 : Int32)) dX9_isLetter_16 ki_0 ?_
    exact g_zreturnK rfl (by decide) dX9_isLetter_17
  · refine g_iload_n (i := 0) dX9_isLetter_6 rfl rfl ?_
    refine g_bipush (v := (122 : Int32)) dX9_isLetter_7 kb_122 ?_
    refine g_icmpgt (tgt := 16) dX9_isLetter_9 (by decide) ?_ ?_
    · refine g_iconst (v := (0 : Int32)) dX9_isLetter_16 ki_0 ?_
      exact g_zreturnK rfl (by decide) dX9_isLetter_17
    · refine g_iconst (v := (1 : Int32)) dX9_isLetter_12 ki_1 ?_
      refine g_goto (tgt := 17) dX9_isLetter_13 (by decide) ?_
      exact g_zreturnK rfl (by decide) dX9_isLetter_17
set_option maxRecDepth 100000 in
set_option maxHeartbeats 4000000 in
theorem c_L_X9_word_33 {Z : Zx}    : ∀ (n : Nat) (v0 : Nat) (v1 : Int32) (m : Mm), GG Z M_X9_word (PsN Z cvI) 33 [some (.ref v0), some (.int v1)] [] m (L_X9_word_33 n v0 v1 m) := by
  intro n
  induction n with
  | zero => intro v0 v1 m; exact g_no
  | succ n ih =>
    intro v0 v1 m
    unfold L_X9_word_33
    refine g_iload_n (i := 1) dX9_word_33 rfl rfl ?_
    refine g_aload_n (i := 0) dX9_word_34 rfl rfl ?_
    refine g_getI (k := 2) cl_X9 (by decide) rfl q_46 dX9_word_35 ?_
    refine g_icmpge (tgt := 71) dX9_word_38 (by decide) ?_ ?_
    · refine g_iconst (v := (1 : Int32)) dX9_word_71 ki_1 ?_
      exact g_zreturnK rfl (by decide) dX9_word_72
    · refine g_aload_n (i := 0) dX9_word_41 rfl rfl ?_
      refine g_aload_n (i := 0) dX9_word_42 rfl rfl ?_
      refine g_getI (k := 3) cl_X9 (by decide) rfl q_48 dX9_word_43 ?_
      refine g_callVI cl_X9 (crt_X9_byteAt _ _ _ _ _) cw_X9_byteAt (by decide) rfl q_758 q_760 qs_15 rfl rfl dX9_word_46 ?_
      intro r7 m8
      refine g_callSI (crt_X9_isLetter _ _ _ _) cw_X9_isLetter (by decide) rfl q_751 q_752 rfl rfl dX9_word_49 ?_
      intro r9 m10
      refine g_ifeq (tgt := 71) dX9_word_52 (by decide) ?_ ?_
      · refine g_iconst (v := (1 : Int32)) dX9_word_71 ki_1 ?_
        exact g_zreturnK rfl (by decide) dX9_word_72
      · refine g_aload_n (i := 0) dX9_word_55 rfl rfl ?_
        refine g_dup dX9_word_56 rfl ?_
        refine g_getI (k := 3) cl_X9 (by decide) rfl q_48 dX9_word_57 ?_
        refine g_iconst (v := (1 : Int32)) dX9_word_60 ki_1 ?_
        refine g_iadd dX9_word_61 ?_
        refine g_putI (k := 3) cl_X9 (by decide) rfl rfl q_48 dX9_word_62 ?_
        intro m11
        refine g_iinc dX9_word_65 rfl ki_1 (show 1 < 2 by decide) ?_
        intro x12
        refine g_goto (tgt := 33) dX9_word_68 (by decide) ?_
        exact g_msk [true, true] (ih _ _ _)
set_option maxRecDepth 100000 in
set_option maxHeartbeats 4000000 in
theorem crt_X9_word (l : Launch) (θ : Th) (a0 : Nat) (m : Mm) : Crt l θ yX9_word M_X9_word cvI [.ref a0] m (F_X9_word a0 m) := by
  refine crt_of 1 (by decide) rfl rfl (Nat.le_of_ble_eq_true rfl) (fun Z hμ => ?_)
  unfold F_X9_word
  show GG Z _ _ 0 [some (.ref a0), none] [] m _
  refine g_aload_n (i := 0) dX9_word_0 rfl rfl ?_
  refine g_callVI cl_X9 (crt_X9_peek _ _ _ _) cw_X9_peek (by decide) rfl q_743 q_744 q_745 rfl rfl dX9_word_1 ?_
  intro r1 m2
  refine g_callSI (crt_X9_isLetter _ _ _ _) cw_X9_isLetter (by decide) rfl q_751 q_752 rfl rfl dX9_word_4 ?_
  intro r3 m4
  refine g_ifne (tgt := 20) dX9_word_7 (by decide) ?_ ?_
  · refine g_aload_n (i := 0) dX9_word_20 rfl rfl ?_
    refine g_aload_n (i := 0) dX9_word_21 rfl rfl ?_
    refine g_getI (k := 3) cl_X9 (by decide) rfl q_48 dX9_word_22 ?_
    refine g_putI (k := 4) cl_X9 (by decide) rfl rfl q_53 dX9_word_25 ?_
    intro m5
    refine g_aload_n (i := 0) dX9_word_28 rfl rfl ?_
    refine g_getI (k := 4) cl_X9 (by decide) rfl q_53 dX9_word_29 ?_
    refine g_istore_n (i := 1) dX9_word_32 rfl (show 1 < 2 by decide) ?_
    intro x6
    exact g_msk [true, true] (c_L_X9_word_33 NF _ _ _)
  · refine g_aload_n (i := 0) dX9_word_10 rfl rfl ?_
    refine g_iconst (v := (1 : Int32)) dX9_word_11 ki_1 ?_
    refine g_aload_n (i := 0) dX9_word_12 rfl rfl ?_
    refine g_getI (k := 3) cl_X9 (by decide) rfl q_48 dX9_word_13 ?_
    refine g_callVI cl_X9 (crt_X9_fail _ _ _ _ _ _) cw_X9_fail (by decide) rfl q_754 q_755 q_756 rfl rfl dX9_word_16 ?_
    intro r13 m14
    exact g_zreturn rfl dX9_word_19
set_option maxRecDepth 100000 in
set_option maxHeartbeats 4000000 in
theorem crt_X10_init (l : Launch) (θ : Th) (a0 : Nat) (m : Mm) : Crt l θ yX10_init M_X10_init cvV [.ref a0] m (F_X10_init a0 m) := by
  refine crt_of 0 (by decide) rfl rfl (Nat.le_of_ble_eq_true rfl) (fun Z hμ => ?_)
  unfold F_X10_init
  show GG Z _ _ 0 [some (.ref a0)] [] m _
  refine g_aload_n (i := 0) dX10_init_0 rfl rfl ?_
  refine g_objInit q_134 q_35 q_36 (by decide) rfl dX10_init_1 ?_
  refine g_aload_n (i := 0) dX10_init_4 rfl rfl ?_
  refine g_sipush (v := (150 : Int32)) dX10_init_5 ks_150 ?_
  refine g_newarr (atype := .int) (ty := .int) (t0 := 0) (N := 150) rfl rfl (fun _ => rfl) (fun _ _ h => h) q_128 (by decide) (by decide) (by decide) (fun _ _ => nwd_i _ _ _ _ (by decide) rfl) dX10_init_8 ?_
  intro m1
  refine g_putRF (k := 0) cl_X10 (by decide) rfl (fun _ => rfl) (fun _ => rfl) rfl rfl rfl q_135 dX10_init_10 ?_
  intro m2
  refine g_aload_n (i := 0) dX10_init_13 rfl rfl ?_
  refine g_sipush (v := (150 : Int32)) dX10_init_14 ks_150 ?_
  refine g_newarr (atype := .int) (ty := .int) (t0 := 0) (N := 150) rfl rfl (fun _ => rfl) (fun _ _ h => h) q_128 (by decide) (by decide) (by decide) (fun _ _ => nwd_i _ _ _ _ (by decide) rfl) dX10_init_17 ?_
  intro m3
  refine g_putRF (k := 1) cl_X10 (by decide) rfl (fun _ => rfl) (fun _ => rfl) rfl rfl rfl q_136 dX10_init_19 ?_
  intro m4
  refine g_aload_n (i := 0) dX10_init_22 rfl rfl ?_
  refine g_sipush (v := (150 : Int32)) dX10_init_23 ks_150 ?_
  refine g_newarr (atype := .int) (ty := .int) (t0 := 0) (N := 150) rfl rfl (fun _ => rfl) (fun _ _ h => h) q_128 (by decide) (by decide) (by decide) (fun _ _ => nwd_i _ _ _ _ (by decide) rfl) dX10_init_26 ?_
  intro m5
  refine g_putRF (k := 2) cl_X10 (by decide) rfl (fun _ => rfl) (fun _ => rfl) rfl rfl rfl q_137 dX10_init_28 ?_
  intro m6
  exact g_return rfl dX10_init_31
set_option maxRecDepth 100000 in
set_option maxHeartbeats 4000000 in
theorem crt_X10_emit (l : Launch) (θ : Th) (a0 : Nat) (a1 : Int32) (a2 : Int32) (a3 : Int32) (m : Mm) : Crt l θ yX10_emit M_X10_emit cvV [.ref a0, .int a1, .int a2, .int a3] m (F_X10_emit a0 a1 a2 a3 m) := by
  refine crt_of 0 (by decide) rfl rfl (Nat.le_of_ble_eq_true rfl) (fun Z hμ => ?_)
  unfold F_X10_emit
  show GG Z _ _ 0 [some (.ref a0), some (.int a1), some (.int a2), some (.int a3)] [] m _
  refine g_aload_n (i := 0) dX10_emit_0 rfl rfl ?_
  refine g_getI (k := 3) cl_X10 (by decide) rfl q_138 dX10_emit_1 ?_
  refine g_aload_n (i := 0) dX10_emit_4 rfl rfl ?_
  refine g_getR (k := 0) cl_X10 (by decide) rfl q_135 dX10_emit_5 ?_
  intro q1
  refine g_alen100 dX10_emit_8 ?_
  refine g_icmpge (tgt := 52) dX10_emit_9 (by decide) ?_ ?_
  · exact g_return rfl dX10_emit_52
  · refine g_aload_n (i := 0) dX10_emit_12 rfl rfl ?_
    refine g_getR (k := 0) cl_X10 (by decide) rfl q_135 dX10_emit_13 ?_
    intro q2
    refine g_aload_n (i := 0) dX10_emit_16 rfl rfl ?_
    refine g_getI (k := 3) cl_X10 (by decide) rfl q_138 dX10_emit_17 ?_
    refine g_iload_n (i := 1) dX10_emit_20 rfl rfl ?_
    refine g_iastore dX10_emit_21 ?_
    intro m3
    refine g_aload_n (i := 0) dX10_emit_22 rfl rfl ?_
    refine g_getR (k := 1) cl_X10 (by decide) rfl q_136 dX10_emit_23 ?_
    intro q4
    refine g_aload_n (i := 0) dX10_emit_26 rfl rfl ?_
    refine g_getI (k := 3) cl_X10 (by decide) rfl q_138 dX10_emit_27 ?_
    refine g_iload_n (i := 2) dX10_emit_30 rfl rfl ?_
    refine g_iastore dX10_emit_31 ?_
    intro m5
    refine g_aload_n (i := 0) dX10_emit_32 rfl rfl ?_
    refine g_getR (k := 2) cl_X10 (by decide) rfl q_137 dX10_emit_33 ?_
    intro q6
    refine g_aload_n (i := 0) dX10_emit_36 rfl rfl ?_
    refine g_getI (k := 3) cl_X10 (by decide) rfl q_138 dX10_emit_37 ?_
    refine g_iload_n (i := 3) dX10_emit_40 rfl rfl ?_
    refine g_iastore dX10_emit_41 ?_
    intro m7
    refine g_aload_n (i := 0) dX10_emit_42 rfl rfl ?_
    refine g_dup dX10_emit_43 rfl ?_
    refine g_getI (k := 3) cl_X10 (by decide) rfl q_138 dX10_emit_44 ?_
    refine g_iconst (v := (1 : Int32)) dX10_emit_47 ki_1 ?_
    refine g_iadd dX10_emit_48 ?_
    refine g_putI (k := 3) cl_X10 (by decide) rfl rfl q_138 dX10_emit_49 ?_
    intro m8
    exact g_return rfl dX10_emit_52
set_option maxRecDepth 100000 in
set_option maxHeartbeats 4000000 in
theorem crt_X10_begin (l : Launch) (θ : Th) (a0 : Nat) (m : Mm) : Crt l θ yX10_begin M_X10_begin cvV [.ref a0] m (F_X10_begin a0 m) := by
  refine crt_of 0 (by decide) rfl rfl (Nat.le_of_ble_eq_true rfl) (fun Z hμ => ?_)
  unfold F_X10_begin
  show GG Z _ _ 0 [some (.ref a0)] [] m _
  refine g_aload_n (i := 0) dX10_begin_0 rfl rfl ?_
  refine g_iconst (v := (0 : Int32)) dX10_begin_1 ki_0 ?_
  refine g_putI (k := 5) cl_X10 (by decide) rfl rfl q_141 dX10_begin_2 ?_
  intro m1
  refine g_aload_n (i := 0) dX10_begin_5 rfl rfl ?_
  refine g_iconst (v := (0 : Int32)) dX10_begin_6 ki_0 ?_
  refine g_putI (k := 6) cl_X10 (by decide) rfl rfl q_143 dX10_begin_7 ?_
  intro m2
  refine g_aload_n (i := 0) dX10_begin_10 rfl rfl ?_
  refine g_iconst (v := (0 : Int32)) dX10_begin_11 ki_0 ?_
  refine g_putI (k := 7) cl_X10 (by decide) rfl rfl q_145 dX10_begin_12 ?_
  intro m3
  exact g_return rfl dX10_begin_15
set_option maxRecDepth 100000 in
set_option maxHeartbeats 4000000 in
theorem crt_X10_score (l : Launch) (θ : Th) (a0 : Nat) (a1 : Int32) (m : Mm) : Crt l θ yX10_score M_X10_score cvV [.ref a0, .int a1] m (F_X10_score a0 a1 m) := by
  refine crt_of 0 (by decide) rfl rfl (Nat.le_of_ble_eq_true rfl) (fun Z hμ => ?_)
  unfold F_X10_score
  show GG Z _ _ 0 [some (.ref a0), some (.int a1)] [] m _
  refine g_iload_n (i := 1) dX10_score_0 rfl rfl ?_
  refine g_ifeq (tgt := 17) dX10_score_1 (by decide) ?_ ?_
  · refine g_aload_n (i := 0) dX10_score_17 rfl rfl ?_
    refine g_dup dX10_score_18 rfl ?_
    refine g_getI (k := 7) cl_X10 (by decide) rfl q_145 dX10_score_19 ?_
    refine g_iconst (v := (1 : Int32)) dX10_score_22 ki_1 ?_
    refine g_iadd dX10_score_23 ?_
    refine g_putI (k := 7) cl_X10 (by decide) rfl rfl q_145 dX10_score_24 ?_
    intro m1
    exact g_return rfl dX10_score_27
  · refine g_aload_n (i := 0) dX10_score_4 rfl rfl ?_
    refine g_dup dX10_score_5 rfl ?_
    refine g_getI (k := 6) cl_X10 (by decide) rfl q_143 dX10_score_6 ?_
    refine g_iconst (v := (1 : Int32)) dX10_score_9 ki_1 ?_
    refine g_iadd dX10_score_10 ?_
    refine g_putI (k := 6) cl_X10 (by decide) rfl rfl q_143 dX10_score_11 ?_
    intro m2
    refine g_goto (tgt := 27) dX10_score_14 (by decide) ?_
    exact g_return rfl dX10_score_27
set_option maxRecDepth 100000 in
set_option maxHeartbeats 4000000 in
theorem crt_X10_doStep (l : Launch) (θ : Th) (a0 : Nat) (a1 : Nat) (a2 : Nat) (a3 : Int32) (m : Mm) : Crt l θ yX10_doStep M_X10_doStep cvI [.ref a0, .ref a1, .ref a2, .int a3] m (F_X10_doStep a0 a1 a2 a3 m) := by
  refine crt_of 1 (by decide) rfl rfl (Nat.le_of_ble_eq_true rfl) (fun Z hμ => ?_)
  unfold F_X10_doStep
  show GG Z _ _ 0 [some (.ref a0), some (.ref a1), some (.ref a2), some (.int a3), none] [] m _
  refine g_iload_n (i := 3) dX10_doStep_0 rfl rfl ?_
  refine g_iflt (tgt := 13) dX10_doStep_1 (by decide) ?_ ?_
  · refine g_iconst (v := (0 : Int32)) dX10_doStep_13 ki_0 ?_
    exact g_zreturnK rfl (by decide) dX10_doStep_14
  · refine g_iload_n (i := 3) dX10_doStep_4 rfl rfl ?_
    refine g_aload_n (i := 0) dX10_doStep_5 rfl rfl ?_
    refine g_getR (k := 0) cl_X10 (by decide) rfl q_135 dX10_doStep_6 ?_
    intro q1
    refine g_alen100 dX10_doStep_9 ?_
    refine g_icmplt (tgt := 15) dX10_doStep_10 (by decide) ?_ ?_
    · refine g_aload_n (i := 0) dX10_doStep_15 rfl rfl ?_
      refine g_getR (k := 1) cl_X10 (by decide) rfl q_136 dX10_doStep_16 ?_
      intro q2
      refine g_iload_n (i := 3) dX10_doStep_19 rfl rfl ?_
      refine g_iaload dX10_doStep_20 ?_
      refine g_istore dX10_doStep_21 (show 4 < 5 by decide) ?_
      intro x3
      refine g_aload_n (i := 0) dX10_doStep_23 rfl rfl ?_
      refine g_getR (k := 0) cl_X10 (by decide) rfl q_135 dX10_doStep_24 ?_
      intro q4
      refine g_iload_n (i := 3) dX10_doStep_27 rfl rfl ?_
      refine g_iaload dX10_doStep_28 ?_
      refine g_sw0 (lo := 0) ?_
      refine g_swc (k := 0) (tgt := 80) dX10_doStep_29 (by decide) kt_0 rfl (by decide) ?_ ?_
      · refine g_aload_n (i := 1) dX10_doStep_80 rfl rfl ?_
        refine g_iload dX10_doStep_81 rfl ?_
        refine g_aload_n (i := 0) dX10_doStep_83 rfl rfl ?_
        refine g_getR (k := 2) cl_X10 (by decide) rfl q_137 dX10_doStep_84 ?_
        intro q5
        refine g_iload_n (i := 3) dX10_doStep_87 rfl rfl ?_
        refine g_iaload dX10_doStep_88 ?_
        refine g_aload_n (i := 2) dX10_doStep_89 rfl rfl ?_
        refine g_callVI cl_X6 (crt_X6_limit _ _ _ _) cw_X6_limit (by decide) rfl q_960 q_961 q_962 rfl rfl dX10_doStep_90 ?_
        intro r6 m7
        refine g_callVI cl_X7 (crt_X7_send _ _ _ _ _ _ _) cw_X7_send (by decide) rfl q_964 q_965 q_966 rfl rfl dX10_doStep_93 ?_
        intro r8 m9
        exact g_zreturn rfl dX10_doStep_96
      · refine g_swc (k := 1) (tgt := 97) dX10_doStep_29 (by decide) kt_1 rfl (by decide) ?_ ?_
        · refine g_aload_n (i := 1) dX10_doStep_97 rfl rfl ?_
          refine g_iload dX10_doStep_98 rfl ?_
          refine g_callVI cl_X7 (crt_X7_take _ _ _ _ _) cw_X7_take (by decide) rfl q_980 q_981 q_982 rfl rfl dX10_doStep_100 ?_
          intro r10 m11
          exact g_zreturn rfl dX10_doStep_103
        · refine g_swc (k := 2) (tgt := 104) dX10_doStep_29 (by decide) kt_2 rfl (by decide) ?_ ?_
          · refine g_aload_n (i := 1) dX10_doStep_104 rfl rfl ?_
            refine g_iload dX10_doStep_105 rfl ?_
            refine g_callVI cl_X7 (crt_X7_lose _ _ _ _ _) cw_X7_lose (by decide) rfl q_988 q_989 q_990 rfl rfl dX10_doStep_107 ?_
            intro r12 m13
            exact g_zreturn rfl dX10_doStep_110
          · refine g_swc (k := 3) (tgt := 111) dX10_doStep_29 (by decide) kt_3 rfl (by decide) ?_ ?_
            · refine g_aload_n (i := 1) dX10_doStep_111 rfl rfl ?_
              refine g_iload dX10_doStep_112 rfl ?_
              refine g_callVI cl_X7 (crt_X7_tell _ _ _ _ _) cw_X7_tell (by decide) rfl q_992 q_993 q_994 rfl rfl dX10_doStep_114 ?_
              intro r14 m15
              exact g_zreturn rfl dX10_doStep_117
            · refine g_swc (k := 4) (tgt := 118) dX10_doStep_29 (by decide) kt_4 rfl (by decide) ?_ ?_
              · refine g_aload_n (i := 1) dX10_doStep_118 rfl rfl ?_
                refine g_iload dX10_doStep_119 rfl ?_
                refine g_callVI cl_X7 (crt_X7_trim _ _ _ _ _) cw_X7_trim (by decide) rfl q_996 q_997 q_998 rfl rfl dX10_doStep_121 ?_
                intro r16 m17
                exact g_zreturn rfl dX10_doStep_124
              · refine g_swc (k := 5) (tgt := 125) dX10_doStep_29 (by decide) kt_5 rfl (by decide) ?_ ?_
                · refine g_aload_n (i := 1) dX10_doStep_125 rfl rfl ?_
                  refine g_iload dX10_doStep_126 rfl ?_
                  refine g_callVI cl_X7 (crt_X7_crash _ _ _ _ _) cw_X7_crash (by decide) rfl q_1004 q_1005 q_1006 rfl rfl dX10_doStep_128 ?_
                  intro r18 m19
                  exact g_zreturn rfl dX10_doStep_131
                · refine g_swc (k := 6) (tgt := 132) dX10_doStep_29 (by decide) kt_6 rfl (by decide) ?_ ?_
                  · refine g_aload_n (i := 1) dX10_doStep_132 rfl rfl ?_
                    refine g_iload dX10_doStep_133 rfl ?_
                    refine g_callVI cl_X7 (crt_X7_join _ _ _ _ _) cw_X7_join (by decide) rfl q_1008 q_1009 q_1010 rfl rfl dX10_doStep_135 ?_
                    intro r20 m21
                    exact g_zreturn rfl dX10_doStep_138
                  · refine g_swc (k := 7) (tgt := 139) dX10_doStep_29 (by decide) kt_7 rfl (by decide) ?_ ?_
                    · refine g_aload_n (i := 1) dX10_doStep_139 rfl rfl ?_
                      refine g_iload dX10_doStep_140 rfl ?_
                      refine g_callVI cl_X7 (crt_X7_part _ _ _ _ _) cw_X7_part (by decide) rfl q_1012 q_1013 q_1014 rfl rfl dX10_doStep_142 ?_
                      intro r22 m23
                      exact g_zreturn rfl dX10_doStep_145
                    · refine g_swc (k := 8) (tgt := 146) dX10_doStep_29 (by decide) kt_8 rfl (by decide) ?_ ?_
                      · refine g_aload_n (i := 2) dX10_doStep_146 rfl rfl ?_
                        refine g_aload_n (i := 1) dX10_doStep_147 rfl rfl ?_
                        refine g_callVI cl_X6 (crt_X6_hold _ _ _ _ _) cw_X6_hold (by decide) rfl q_1016 q_1017 q_1018 rfl rfl dX10_doStep_148 ?_
                        intro r24 m25
                        exact g_zreturn rfl dX10_doStep_151
                      · refine g_swe (n := 9) (tgt := 152) dX10_doStep_29 (by decide) (by decide) ?_
                        refine g_aload_n (i := 2) dX10_doStep_152 rfl rfl ?_
                        refine g_aload_n (i := 1) dX10_doStep_153 rfl rfl ?_
                        refine g_callVI cl_X6 (crt_X6_view _ _ _ _ _) cw_X6_view (by decide) rfl q_1020 q_1021 q_1022 rfl rfl dX10_doStep_154 ?_
                        intro r26 m27
                        exact g_zreturn rfl dX10_doStep_157
    · refine g_iconst (v := (0 : Int32)) dX10_doStep_13 ki_0 ?_
      exact g_zreturnK rfl (by decide) dX10_doStep_14
set_option maxRecDepth 100000 in
set_option maxHeartbeats 4000000 in
theorem crt_X11_init (l : Launch) (θ : Th) (a0 : Nat) (m : Mm) : Crt l θ yX11_init M_X11_init cvV [.ref a0] m (F_X11_init a0 m) := by
  refine crt_of 0 (by decide) rfl rfl (Nat.le_of_ble_eq_true rfl) (fun Z hμ => ?_)
  unfold F_X11_init
  show GG Z _ _ 0 [some (.ref a0)] [] m _
  refine g_aload_n (i := 0) dX11_init_0 rfl rfl ?_
  refine g_objInit q_34 q_35 q_36 (by decide) rfl dX11_init_1 ?_
  refine g_aload_n (i := 0) dX11_init_4 rfl rfl ?_
  refine g_new cl_X9 cd_X9 q_37 q_38 q_2 dX11_init_5 ?_
  intro m1
  refine g_dup dX11_init_8 rfl ?_
  refine g_callINV (crt_X9_init _ _ _ _) cw_X9_init (by decide) rfl q_39 q_40 rfl rfl rfl rfl dX11_init_9 ?_
  intro r2 m3
  refine g_putRF (k := 0) cl_X11 (by decide) rfl (fun _ => rfl) (fun _ => rfl) rfl rfl rfl q_366 dX11_init_12 ?_
  intro m4
  refine g_aload_n (i := 0) dX11_init_15 rfl rfl ?_
  refine g_new cl_X1 cd_X1 q_81 q_82 q_3 dX11_init_16 ?_
  intro m5
  refine g_dup dX11_init_19 rfl ?_
  refine g_callINV (crt_X1_init _ _ _ _) cw_X1_init (by decide) rfl q_83 q_84 rfl rfl rfl rfl dX11_init_20 ?_
  intro r6 m7
  refine g_putRF (k := 1) cl_X11 (by decide) rfl (fun _ => rfl) (fun _ => rfl) rfl rfl rfl q_367 dX11_init_23 ?_
  intro m8
  refine g_aload_n (i := 0) dX11_init_26 rfl rfl ?_
  refine g_new cl_X3 cd_X3 q_102 q_103 q_4 dX11_init_27 ?_
  intro m9
  refine g_dup dX11_init_30 rfl ?_
  refine g_callIV (crt_X3_init _ _ _ _) cw_X3_init (by decide) rfl q_104 q_105 rfl rfl rfl rfl dX11_init_31 ?_
  intro r10 m11
  refine g_putRF (k := 2) cl_X11 (by decide) rfl (fun _ => rfl) (fun _ => rfl) rfl rfl rfl q_368 dX11_init_34 ?_
  intro m12
  refine g_aload_n (i := 0) dX11_init_37 rfl rfl ?_
  refine g_new cl_X10 cd_X10 q_129 q_130 q_5 dX11_init_38 ?_
  intro m13
  refine g_dup dX11_init_41 rfl ?_
  refine g_callINV (crt_X10_init _ _ _ _) cw_X10_init (by decide) rfl q_131 q_132 rfl rfl rfl rfl dX11_init_42 ?_
  intro r14 m15
  refine g_putRF (k := 3) cl_X11 (by decide) rfl (fun _ => rfl) (fun _ => rfl) rfl rfl rfl q_369 dX11_init_45 ?_
  intro m16
  refine g_aload_n (i := 0) dX11_init_48 rfl rfl ?_
  refine g_new cl_X0 cd_X0 q_163 q_164 q_6 dX11_init_49 ?_
  intro m17
  refine g_dup dX11_init_52 rfl ?_
  refine g_callINV (crt_X0_init _ _ _ _) cw_X0_init (by decide) rfl q_165 q_166 rfl rfl rfl rfl dX11_init_53 ?_
  intro r18 m19
  refine g_putRF (k := 4) cl_X11 (by decide) rfl (fun _ => rfl) (fun _ => rfl) rfl rfl rfl q_370 dX11_init_56 ?_
  intro m20
  refine g_aload_n (i := 0) dX11_init_59 rfl rfl ?_
  refine g_new cl_X6 cd_X6 q_191 q_192 q_7 dX11_init_60 ?_
  intro m21
  refine g_dup dX11_init_63 rfl ?_
  refine g_aload_n (i := 0) dX11_init_64 rfl rfl ?_
  refine g_getR (k := 1) cl_X11 (by decide) rfl q_367 dX11_init_65 ?_
  intro q22
  refine g_aload_n (i := 0) dX11_init_68 rfl rfl ?_
  refine g_getR (k := 2) cl_X11 (by decide) rfl q_368 dX11_init_69 ?_
  intro q23
  refine g_callIV (crt_X6_init _ _ _ _ _ _) cw_X6_init (by decide) rfl q_193 q_194 rfl rfl rfl rfl dX11_init_72 ?_
  intro r24 m25
  refine g_putRF (k := 5) cl_X11 (by decide) rfl (fun _ => rfl) (fun _ => rfl) rfl rfl rfl q_371 dX11_init_75 ?_
  intro m26
  refine g_aload_n (i := 0) dX11_init_78 rfl rfl ?_
  refine g_new cl_X7 cd_X7 q_210 q_211 q_8 dX11_init_79 ?_
  intro m27
  refine g_dup dX11_init_82 rfl ?_
  refine g_callINV (crt_X7_init _ _ _ _) cw_X7_init (by decide) rfl q_212 q_213 rfl rfl rfl rfl dX11_init_83 ?_
  intro r28 m29
  refine g_putRF (k := 6) cl_X11 (by decide) rfl (fun _ => rfl) (fun _ => rfl) rfl rfl rfl q_372 dX11_init_86 ?_
  intro m30
  refine g_aload_n (i := 0) dX11_init_89 rfl rfl ?_
  refine g_new cl_X7 cd_X7 q_210 q_211 q_8 dX11_init_90 ?_
  intro m31
  refine g_dup dX11_init_93 rfl ?_
  refine g_callINV (crt_X7_init _ _ _ _) cw_X7_init (by decide) rfl q_212 q_213 rfl rfl rfl rfl dX11_init_94 ?_
  intro r32 m33
  refine g_putRF (k := 7) cl_X11 (by decide) rfl (fun _ => rfl) (fun _ => rfl) rfl rfl rfl q_373 dX11_init_97 ?_
  intro m34
  refine g_aload_n (i := 0) dX11_init_100 rfl rfl ?_
  refine g_new cl_X5 cd_X5 q_309 q_310 q_9 dX11_init_101 ?_
  intro m35
  refine g_dup dX11_init_104 rfl ?_
  refine g_callINV (crt_X5_init _ _ _ _) cw_X5_init (by decide) rfl q_311 q_312 rfl rfl rfl rfl dX11_init_105 ?_
  intro r36 m37
  refine g_putRF (k := 8) cl_X11 (by decide) rfl (fun _ => rfl) (fun _ => rfl) rfl rfl rfl q_374 dX11_init_108 ?_
  intro m38
  refine g_aload_n (i := 0) dX11_init_111 rfl rfl ?_
  refine g_iconst (v := (3 : Int32)) dX11_init_112 ki_3 ?_
  refine g_anewarr (t0 := 5) (N := 3) rfl (by decide) (fun _ => rfl) (fun _ _ h => h.2.2.2.1) q_325 (by decide) (by decide) (by decide) dX11_init_113 ?_
  intro m39
  refine g_putRF (k := 9) cl_X11 (by decide) rfl (fun _ => rfl) (fun _ => rfl) rfl rfl rfl q_375 dX11_init_116 ?_
  intro m40
  refine g_aload_n (i := 0) dX11_init_119 rfl rfl ?_
  refine g_new cl_X4 cd_X4 q_327 q_328 q_10 dX11_init_120 ?_
  intro m41
  refine g_dup dX11_init_123 rfl ?_
  refine g_callINV (crt_X4_init _ _ _ _) cw_X4_init (by decide) rfl q_329 q_330 rfl rfl rfl rfl dX11_init_124 ?_
  intro r42 m43
  refine g_putRF (k := 10) cl_X11 (by decide) rfl (fun _ => rfl) (fun _ => rfl) rfl rfl rfl q_376 dX11_init_127 ?_
  intro m44
  refine g_aload_n (i := 0) dX11_init_130 rfl rfl ?_
  refine g_new cl_X8 cd_X8 q_342 q_343 q_11 dX11_init_131 ?_
  intro m45
  refine g_dup dX11_init_134 rfl ?_
  refine g_callINV (crt_X8_init _ _ _ _) cw_X8_init (by decide) rfl q_344 q_345 rfl rfl rfl rfl dX11_init_135 ?_
  intro r46 m47
  refine g_putRF (k := 11) cl_X11 (by decide) rfl (fun _ => rfl) (fun _ => rfl) rfl rfl rfl q_377 dX11_init_138 ?_
  intro m48
  refine g_aload_n (i := 0) dX11_init_141 rfl rfl ?_
  refine g_iconst (v := (4 : Int32)) dX11_init_142 ki_4 ?_
  refine g_newarr (atype := .int) (ty := .int) (t0 := 0) (N := 4) rfl rfl (fun _ => rfl) (fun _ _ h => h) q_128 (by decide) (by decide) (by decide) (fun _ _ => nwd_i _ _ _ _ (by decide) rfl) dX11_init_143 ?_
  intro m49
  refine g_putRF (k := 12) cl_X11 (by decide) rfl (fun _ => rfl) (fun _ => rfl) rfl rfl rfl q_378 dX11_init_145 ?_
  intro m50
  refine g_aload_n (i := 0) dX11_init_148 rfl rfl ?_
  refine g_getR (k := 6) cl_X11 (by decide) rfl q_372 dX11_init_149 ?_
  intro q51
  refine g_iconst (v := (0 : Int32)) dX11_init_152 ki_0 ?_
  refine g_iconst (v := (0 : Int32)) dX11_init_153 ki_0 ?_
  refine g_callVV cl_X7 (crt_X7_begin _ _ _ _ _ _) cw_X7_begin (by decide) rfl q_352 q_353 q_354 rfl rfl dX11_init_154 ?_
  intro r52 m53
  exact g_return rfl dX11_init_157
set_option maxRecDepth 100000 in
set_option maxHeartbeats 4000000 in
theorem crt_X11_feed (l : Launch) (θ : Th) (a0 : Nat) (a1 : Int32) (a2 : Int32) (a3 : Int32) (a4 : Int32) (a5 : Int32) (m : Mm) : Crt l θ yX11_feed M_X11_feed cvI [.ref a0, .int a1, .int a2, .int a3, .int a4, .int a5] m (F_X11_feed a0 a1 a2 a3 a4 a5 m) := by
  refine crt_of 0 (by decide) rfl rfl (Nat.le_of_ble_eq_true rfl) (fun Z hμ => ?_)
  unfold F_X11_feed
  show GG Z _ _ 0 [some (.ref a0), some (.int a1), some (.int a2), some (.int a3), some (.int a4), some (.int a5)] [] m _
  refine g_aload_n (i := 0) dX11_feed_0 rfl rfl ?_
  refine g_getR (k := 0) cl_X11 (by decide) rfl q_366 dX11_feed_1 ?_
  intro q1
  refine g_callVI cl_X9 (crt_X9_hasRoom _ _ _ _) cw_X9_hasRoom (by decide) rfl q_416 q_417 q_418 rfl rfl dX11_feed_4 ?_
  intro r2 m3
  refine g_ifne (tgt := 12) dX11_feed_7 (by decide) ?_ ?_
  · refine g_aload_n (i := 0) dX11_feed_12 rfl rfl ?_
    refine g_getR (k := 0) cl_X11 (by decide) rfl q_366 dX11_feed_13 ?_
    intro q4
    refine g_iload_n (i := 1) dX11_feed_16 rfl rfl ?_
    refine g_callVV cl_X9 (crt_X9_put _ _ _ _ _) cw_X9_put (by decide) rfl q_420 q_421 q_422 rfl rfl dX11_feed_17 ?_
    intro r5 m6
    refine g_aload_n (i := 0) dX11_feed_20 rfl rfl ?_
    refine g_getR (k := 0) cl_X11 (by decide) rfl q_366 dX11_feed_21 ?_
    intro q7
    refine g_iload_n (i := 2) dX11_feed_24 rfl rfl ?_
    refine g_callVV cl_X9 (crt_X9_put _ _ _ _ _) cw_X9_put (by decide) rfl q_420 q_421 q_422 rfl rfl dX11_feed_25 ?_
    intro r8 m9
    refine g_aload_n (i := 0) dX11_feed_28 rfl rfl ?_
    refine g_getR (k := 0) cl_X11 (by decide) rfl q_366 dX11_feed_29 ?_
    intro q10
    refine g_iload_n (i := 3) dX11_feed_32 rfl rfl ?_
    refine g_callVV cl_X9 (crt_X9_put _ _ _ _ _) cw_X9_put (by decide) rfl q_420 q_421 q_422 rfl rfl dX11_feed_33 ?_
    intro r11 m12
    refine g_aload_n (i := 0) dX11_feed_36 rfl rfl ?_
    refine g_getR (k := 0) cl_X11 (by decide) rfl q_366 dX11_feed_37 ?_
    intro q13
    refine g_iload dX11_feed_40 rfl ?_
    refine g_callVV cl_X9 (crt_X9_put _ _ _ _ _) cw_X9_put (by decide) rfl q_420 q_421 q_422 rfl rfl dX11_feed_42 ?_
    intro r14 m15
    refine g_aload_n (i := 0) dX11_feed_45 rfl rfl ?_
    refine g_getR (k := 0) cl_X11 (by decide) rfl q_366 dX11_feed_46 ?_
    intro q16
    refine g_iload dX11_feed_49 rfl ?_
    refine g_callVV cl_X9 (crt_X9_put _ _ _ _ _) cw_X9_put (by decide) rfl q_420 q_421 q_422 rfl rfl dX11_feed_51 ?_
    intro r17 m18
    refine g_aload_n (i := 0) dX11_feed_54 rfl rfl ?_
    refine g_getR (k := 0) cl_X11 (by decide) rfl q_366 dX11_feed_55 ?_
    intro q19
    refine g_getIN (k := 1) cl_X9 (by decide) rfl q_45 dX11_feed_58 ?_
    exact g_ireturn rfl dX11_feed_61
  · refine g_iconst (v := (-1 : Int32)) dX11_feed_10 ki_m1 ?_
    exact g_ireturn rfl dX11_feed_11
set_option maxRecDepth 100000 in
set_option maxHeartbeats 4000000 in
theorem crt_X11_fault (l : Launch) (θ : Th) (a0 : Nat) (m : Mm) : Crt l θ yX11_fault M_X11_fault cvI [.ref a0] m (F_X11_fault a0 m) := by
  refine crt_of 0 (by decide) rfl rfl (Nat.le_of_ble_eq_true rfl) (fun Z hμ => ?_)
  unfold F_X11_fault
  show GG Z _ _ 0 [some (.ref a0)] [] m _
  refine g_aload_n (i := 0) dX11_fault_0 rfl rfl ?_
  refine g_getR (k := 0) cl_X11 (by decide) rfl q_366 dX11_fault_1 ?_
  intro q1
  refine g_getIN (k := 7) cl_X9 (by decide) rfl q_62 dX11_fault_4 ?_
  exact g_ireturn rfl dX11_fault_7
set_option maxRecDepth 100000 in
set_option maxHeartbeats 4000000 in
theorem crt_X11_undo (l : Launch) (θ : Th) (a0 : Nat) (m : Mm) : Crt l θ yX11_undo M_X11_undo cvI [.ref a0] m (F_X11_undo a0 m) := by
  refine crt_of 0 (by decide) rfl rfl (Nat.le_of_ble_eq_true rfl) (fun Z hμ => ?_)
  unfold F_X11_undo
  show GG Z _ _ 0 [some (.ref a0)] [] m _
  refine g_aload_n (i := 0) dX11_undo_0 rfl rfl ?_
  refine g_getR (k := 8) cl_X11 (by decide) rfl q_374 dX11_undo_1 ?_
  intro q1
  refine g_aload_n (i := 0) dX11_undo_4 rfl rfl ?_
  refine g_getR (k := 6) cl_X11 (by decide) rfl q_372 dX11_undo_5 ?_
  intro q2
  refine g_callVI cl_X5 (crt_X5_giveBack _ _ _ _ _) cw_X5_giveBack (by decide) rfl q_432 q_433 q_434 rfl rfl dX11_undo_8 ?_
  intro r3 m4
  refine g_ifne (tgt := 16) dX11_undo_11 (by decide) ?_ ?_
  · refine g_aload_n (i := 0) dX11_undo_16 rfl rfl ?_
    refine g_iconst (v := (0 : Int32)) dX11_undo_17 ki_0 ?_
    refine g_putI (k := 14) cl_X11 (by decide) rfl rfl q_380 dX11_undo_18 ?_
    intro m5
    refine g_aload_n (i := 0) dX11_undo_21 rfl rfl ?_
    refine g_getR (k := 8) cl_X11 (by decide) rfl q_374 dX11_undo_22 ?_
    intro q6
    refine g_getIN (k := 1) cl_X5 (by decide) rfl q_319 dX11_undo_25 ?_
    exact g_ireturn rfl dX11_undo_28
  · refine g_iconst (v := (-1 : Int32)) dX11_undo_14 ki_m1 ?_
    exact g_ireturn rfl dX11_undo_15
set_option maxRecDepth 100000 in
set_option maxHeartbeats 4000000 in
theorem crt_X11_primary (l : Launch) (θ : Th) (a0 : Nat) (m : Mm) : Crt l θ yX11_primary M_X11_primary cvI [.ref a0] m (F_X11_primary a0 m) := by
  refine crt_of 0 (by decide) rfl rfl (Nat.le_of_ble_eq_true rfl) (fun Z hμ => ?_)
  unfold F_X11_primary
  show GG Z _ _ 0 [some (.ref a0)] [] m _
  refine g_aload_n (i := 0) dX11_primary_0 rfl rfl ?_
  refine g_getR (k := 5) cl_X11 (by decide) rfl q_371 dX11_primary_1 ?_
  intro q1
  refine g_aload_n (i := 0) dX11_primary_4 rfl rfl ?_
  refine g_getR (k := 6) cl_X11 (by decide) rfl q_372 dX11_primary_5 ?_
  intro q2
  refine g_callVI cl_X6 (crt_X6_partNow _ _ _ _ _) cw_X6_partNow (by decide) rfl q_447 q_448 q_449 rfl rfl dX11_primary_8 ?_
  intro r3 m4
  exact g_ireturn rfl dX11_primary_11
set_option maxRecDepth 100000 in
set_option maxHeartbeats 4000000 in
theorem crt_X11_lost (l : Launch) (θ : Th) (a0 : Nat) (m : Mm) : Crt l θ yX11_lost M_X11_lost cvI [.ref a0] m (F_X11_lost a0 m) := by
  refine crt_of 1 (by decide) rfl rfl (Nat.le_of_ble_eq_true rfl) (fun Z hμ => ?_)
  unfold F_X11_lost
  show GG Z _ _ 0 [some (.ref a0), none] [] m _
  refine g_aload_n (i := 0) dX11_lost_0 rfl rfl ?_
  refine g_getR (k := 5) cl_X11 (by decide) rfl q_371 dX11_lost_1 ?_
  intro q1
  refine g_aload_n (i := 0) dX11_lost_4 rfl rfl ?_
  refine g_getR (k := 6) cl_X11 (by decide) rfl q_372 dX11_lost_5 ?_
  intro q2
  refine g_callVI cl_X6 (crt_X6_partNow _ _ _ _ _) cw_X6_partNow (by decide) rfl q_447 q_448 q_449 rfl rfl dX11_lost_8 ?_
  intro r3 m4
  refine g_istore_n (i := 1) dX11_lost_11 rfl (show 1 < 2 by decide) ?_
  intro x5
  refine g_iload_n (i := 1) dX11_lost_12 rfl rfl ?_
  refine g_iconst (v := (-1 : Int32)) dX11_lost_13 ki_m1 ?_
  refine g_icmpne (tgt := 21) dX11_lost_14 (by decide) ?_ ?_
  · refine g_aload_n (i := 0) dX11_lost_21 rfl rfl ?_
    refine g_getR (k := 6) cl_X11 (by decide) rfl q_372 dX11_lost_22 ?_
    intro q6
    refine g_iload_n (i := 1) dX11_lost_25 rfl rfl ?_
    refine g_callVI cl_X7 (crt_X7_gotByNoneOf _ _ _ _ _) cw_X7_gotByNoneOf (by decide) rfl q_491 q_492 q_493 rfl rfl dX11_lost_26 ?_
    intro r7 m8
    exact g_ireturn rfl dX11_lost_29
  · refine g_iconst (v := (0 : Int32)) dX11_lost_17 ki_0 ?_
    refine g_goto (tgt := 29) dX11_lost_18 (by decide) ?_
    exact g_ireturn rfl dX11_lost_29
set_option maxRecDepth 100000 in
set_option maxHeartbeats 4000000 in
theorem crt_X11_fall (l : Launch) (θ : Th) (a0 : Nat) (m : Mm) : Crt l θ yX11_fall M_X11_fall cvI [.ref a0] m (F_X11_fall a0 m) := by
  refine crt_of 0 (by decide) rfl rfl (Nat.le_of_ble_eq_true rfl) (fun Z hμ => ?_)
  unfold F_X11_fall
  show GG Z _ _ 0 [some (.ref a0)] [] m _
  refine g_aload_n (i := 0) dX11_fall_0 rfl rfl ?_
  refine g_getR (k := 5) cl_X11 (by decide) rfl q_371 dX11_fall_1 ?_
  intro q1
  refine g_aload_n (i := 0) dX11_fall_4 rfl rfl ?_
  refine g_getR (k := 6) cl_X11 (by decide) rfl q_372 dX11_fall_5 ?_
  intro q2
  refine g_callVI cl_X6 (crt_X6_fewestToFall _ _ _ _ _) cw_X6_fewestToFall (by decide) rfl q_499 q_500 q_501 rfl rfl dX11_fall_8 ?_
  intro r3 m4
  exact g_ireturn rfl dX11_fall_11
set_option maxRecDepth 100000 in
set_option maxHeartbeats 4000000 in
theorem crt_X11_splits (l : Launch) (θ : Th) (a0 : Nat) (m : Mm) : Crt l θ yX11_splits M_X11_splits cvI [.ref a0] m (F_X11_splits a0 m) := by
  refine crt_of 0 (by decide) rfl rfl (Nat.le_of_ble_eq_true rfl) (fun Z hμ => ?_)
  unfold F_X11_splits
  show GG Z _ _ 0 [some (.ref a0)] [] m _
  refine g_aload_n (i := 0) dX11_splits_0 rfl rfl ?_
  refine g_getR (k := 5) cl_X11 (by decide) rfl q_371 dX11_splits_1 ?_
  intro q1
  refine g_aload_n (i := 0) dX11_splits_4 rfl rfl ?_
  refine g_getR (k := 6) cl_X11 (by decide) rfl q_372 dX11_splits_5 ?_
  intro q2
  refine g_callVI cl_X6 (crt_X6_countLameSplits _ _ _ _ _) cw_X6_countLameSplits (by decide) rfl q_513 q_514 q_515 rfl rfl dX11_splits_8 ?_
  intro r3 m4
  exact g_ireturn rfl dX11_splits_11
set_option maxRecDepth 100000 in
set_option maxHeartbeats 4000000 in
theorem crt_X11_tells (l : Launch) (θ : Th) (a0 : Nat) (m : Mm) : Crt l θ yX11_tells M_X11_tells cvI [.ref a0] m (F_X11_tells a0 m) := by
  refine crt_of 0 (by decide) rfl rfl (Nat.le_of_ble_eq_true rfl) (fun Z hμ => ?_)
  unfold F_X11_tells
  show GG Z _ _ 0 [some (.ref a0)] [] m _
  refine g_aload_n (i := 0) dX11_tells_0 rfl rfl ?_
  refine g_getR (k := 6) cl_X11 (by decide) rfl q_372 dX11_tells_1 ?_
  intro q1
  refine g_callVI cl_X7 (crt_X7_countUntold _ _ _ _) cw_X7_countUntold (by decide) rfl q_521 q_522 q_523 rfl rfl dX11_tells_4 ?_
  intro r2 m3
  exact g_ireturn rfl dX11_tells_7
set_option maxRecDepth 100000 in
set_option maxHeartbeats 4000000 in
theorem crt_X11_agree (l : Launch) (θ : Th) (a0 : Nat) (m : Mm) : Crt l θ yX11_agree M_X11_agree cvI [.ref a0] m (F_X11_agree a0 m) := by
  refine crt_of 0 (by decide) rfl rfl (Nat.le_of_ble_eq_true rfl) (fun Z hμ => ?_)
  unfold F_X11_agree
  show GG Z _ _ 0 [some (.ref a0)] [] m _
  refine g_aload_n (i := 0) dX11_agree_0 rfl rfl ?_
  refine g_getR (k := 6) cl_X11 (by decide) rfl q_372 dX11_agree_1 ?_
  intro q1
  refine g_aload_n (i := 0) dX11_agree_4 rfl rfl ?_
  refine g_getR (k := 5) cl_X11 (by decide) rfl q_371 dX11_agree_5 ?_
  intro q2
  refine g_aload_n (i := 0) dX11_agree_8 rfl rfl ?_
  refine g_getR (k := 6) cl_X11 (by decide) rfl q_372 dX11_agree_9 ?_
  intro q3
  refine g_callVI cl_X6 (crt_X6_survivorsNow _ _ _ _ _) cw_X6_survivorsNow (by decide) rfl q_542 q_543 q_544 rfl rfl dX11_agree_12 ?_
  intro r4 m5
  refine g_callVI cl_X7 (crt_X7_wouldAgree _ _ _ _ _) cw_X7_wouldAgree (by decide) rfl q_546 q_547 q_548 rfl rfl dX11_agree_15 ?_
  intro r6 m7
  exact g_zreturn rfl dX11_agree_18
set_option maxRecDepth 100000 in
set_option maxHeartbeats 4000000 in
theorem crt_X11_note (l : Launch) (θ : Th) (a0 : Nat) (m : Mm) : Crt l θ yX11_note M_X11_note cvI [.ref a0] m (F_X11_note a0 m) := by
  refine crt_of 0 (by decide) rfl rfl (Nat.le_of_ble_eq_true rfl) (fun Z hμ => ?_)
  unfold F_X11_note
  show GG Z _ _ 0 [some (.ref a0)] [] m _
  refine g_aload_n (i := 0) dX11_note_0 rfl rfl ?_
  refine g_getR (k := 10) cl_X11 (by decide) rfl q_376 dX11_note_1 ?_
  intro q1
  refine g_aload_n (i := 0) dX11_note_4 rfl rfl ?_
  refine g_getR (k := 6) cl_X11 (by decide) rfl q_372 dX11_note_5 ?_
  intro q2
  refine g_callVV cl_X4 (crt_X4_write _ _ _ _ _) cw_X4_write (by decide) rfl q_570 q_571 q_572 rfl rfl dX11_note_8 ?_
  intro r3 m4
  refine g_aload_n (i := 0) dX11_note_11 rfl rfl ?_
  refine g_getR (k := 10) cl_X11 (by decide) rfl q_376 dX11_note_12 ?_
  intro q5
  refine g_getIN (k := 1) cl_X4 (by decide) rfl q_335 dX11_note_15 ?_
  exact g_ireturn rfl dX11_note_18
set_option maxRecDepth 100000 in
set_option maxHeartbeats 4000000 in
theorem crt_X11_image (l : Launch) (θ : Th) (a0 : Nat) (m : Mm) : Crt l θ yX11_image M_X11_image cvI [.ref a0] m (F_X11_image a0 m) := by
  refine crt_of 1 (by decide) rfl rfl (Nat.le_of_ble_eq_true rfl) (fun Z hμ => ?_)
  unfold F_X11_image
  show GG Z _ _ 0 [some (.ref a0), none] [] m _
  refine g_aload_n (i := 0) dX11_image_0 rfl rfl ?_
  refine g_getI (k := 13) cl_X11 (by decide) rfl q_379 dX11_image_1 ?_
  refine g_aload_n (i := 0) dX11_image_4 rfl rfl ?_
  refine g_getR (k := 9) cl_X11 (by decide) rfl q_375 dX11_image_5 ?_
  intro q1
  refine g_alen105 dX11_image_8 ?_
  refine g_icmplt (tgt := 14) dX11_image_9 (by decide) ?_ ?_
  · refine g_aload_n (i := 0) dX11_image_14 rfl rfl ?_
    refine g_getR (k := 9) cl_X11 (by decide) rfl q_375 dX11_image_15 ?_
    intro q2
    refine g_aload_n (i := 0) dX11_image_18 rfl rfl ?_
    refine g_getI (k := 13) cl_X11 (by decide) rfl q_379 dX11_image_19 ?_
    refine g_aaloadI dX11_image_22 ?_ ?_
    · refine g_astore_nN (i := 1) dX11_image_23 rfl (show 1 < 2 by decide) ?_
      refine g_aload_nN (i := 1) dX11_image_24 rfl rfl ?_
      refine g_jn (fun J46 => ∀ (v0 : Nat) (v1 : Nat) (m : Mm), GG Z M_X11_image (PsN Z cvI) 46 [some (.ref v0), some (.ref v1)] [] m (J46 v0 v1 m)) ?_ ?_
      · intro v0 v1 m
        refine g_aload_n (i := 1) dX11_image_46 rfl rfl ?_
        refine g_getRN (k := 0) cl_X2 (by decide) rfl q_601 dX11_image_47 ?_
        intro q13
        refine g_aload_n (i := 0) dX11_image_50 rfl rfl ?_
        refine g_getR (k := 6) cl_X11 (by decide) rfl q_372 dX11_image_51 ?_
        intro q14
        refine g_callVV cl_X7 (crt_X7_copy _ _ _ _ _) cw_X7_copy (by decide) rfl q_609 q_437 q_438 rfl rfl dX11_image_54 ?_
        intro r15 m16
        refine g_aload_n (i := 1) dX11_image_57 rfl rfl ?_
        refine g_getRN (k := 1) cl_X2 (by decide) rfl q_603 dX11_image_58 ?_
        intro q17
        refine g_aload_n (i := 0) dX11_image_61 rfl rfl ?_
        refine g_getR (k := 8) cl_X11 (by decide) rfl q_374 dX11_image_62 ?_
        intro q18
        refine g_callVV cl_X5 (crt_X5_copy _ _ _ _ _) cw_X5_copy (by decide) rfl q_610 q_611 q_612 rfl rfl dX11_image_65 ?_
        intro r19 m20
        refine g_aload_n (i := 0) dX11_image_68 rfl rfl ?_
        refine g_dup dX11_image_69 rfl ?_
        refine g_getI (k := 13) cl_X11 (by decide) rfl q_379 dX11_image_70 ?_
        refine g_iconst (v := (1 : Int32)) dX11_image_73 ki_1 ?_
        refine g_iadd dX11_image_74 ?_
        refine g_putI (k := 13) cl_X11 (by decide) rfl rfl q_379 dX11_image_75 ?_
        intro m21
        refine g_aload_n (i := 0) dX11_image_78 rfl rfl ?_
        refine g_getI (k := 13) cl_X11 (by decide) rfl q_379 dX11_image_79 ?_
        exact g_ireturn rfl dX11_image_82
      · intro J46 hJ46
        refine g_ifnonnullN dX11_image_25 ?_
        refine g_new cl_X2 cd_X2 q_325 q_591 q_28 dX11_image_28 ?_
        intro m22
        refine g_dup dX11_image_31 rfl ?_
        refine g_callINV (crt_X2_init _ _ _ _) cw_X2_init (by decide) rfl q_592 q_593 rfl rfl rfl rfl dX11_image_32 ?_
        intro r23 m24
        refine g_astore_n (i := 1) dX11_image_35 rfl (show 1 < 2 by decide) ?_
        refine g_aload_n (i := 0) dX11_image_36 rfl rfl ?_
        refine g_getR (k := 9) cl_X11 (by decide) rfl q_375 dX11_image_37 ?_
        intro q25
        refine g_aload_n (i := 0) dX11_image_40 rfl rfl ?_
        refine g_getI (k := 13) cl_X11 (by decide) rfl q_379 dX11_image_41 ?_
        refine g_aload_n (i := 1) dX11_image_44 rfl rfl ?_
        refine g_aastore (t0 := 5) cl_X2 rfl (by decide) (fun _ => rfl) dX11_image_45 ?_
        intro m26
        exact g_msk [true, true] (hJ46 _ _ _)
    · intro q3
      refine g_astore_n (i := 1) dX11_image_23 rfl (show 1 < 2 by decide) ?_
      refine g_aload_n (i := 1) dX11_image_24 rfl rfl ?_
      refine g_jn (fun J46 => ∀ (v0 : Nat) (v1 : Nat) (m : Mm), GG Z M_X11_image (PsN Z cvI) 46 [some (.ref v0), some (.ref v1)] [] m (J46 v0 v1 m)) ?_ ?_
      · intro v0 v1 m
        refine g_aload_n (i := 1) dX11_image_46 rfl rfl ?_
        refine g_getRN (k := 0) cl_X2 (by decide) rfl q_601 dX11_image_47 ?_
        intro q4
        refine g_aload_n (i := 0) dX11_image_50 rfl rfl ?_
        refine g_getR (k := 6) cl_X11 (by decide) rfl q_372 dX11_image_51 ?_
        intro q5
        refine g_callVV cl_X7 (crt_X7_copy _ _ _ _ _) cw_X7_copy (by decide) rfl q_609 q_437 q_438 rfl rfl dX11_image_54 ?_
        intro r6 m7
        refine g_aload_n (i := 1) dX11_image_57 rfl rfl ?_
        refine g_getRN (k := 1) cl_X2 (by decide) rfl q_603 dX11_image_58 ?_
        intro q8
        refine g_aload_n (i := 0) dX11_image_61 rfl rfl ?_
        refine g_getR (k := 8) cl_X11 (by decide) rfl q_374 dX11_image_62 ?_
        intro q9
        refine g_callVV cl_X5 (crt_X5_copy _ _ _ _ _) cw_X5_copy (by decide) rfl q_610 q_611 q_612 rfl rfl dX11_image_65 ?_
        intro r10 m11
        refine g_aload_n (i := 0) dX11_image_68 rfl rfl ?_
        refine g_dup dX11_image_69 rfl ?_
        refine g_getI (k := 13) cl_X11 (by decide) rfl q_379 dX11_image_70 ?_
        refine g_iconst (v := (1 : Int32)) dX11_image_73 ki_1 ?_
        refine g_iadd dX11_image_74 ?_
        refine g_putI (k := 13) cl_X11 (by decide) rfl rfl q_379 dX11_image_75 ?_
        intro m12
        refine g_aload_n (i := 0) dX11_image_78 rfl rfl ?_
        refine g_getI (k := 13) cl_X11 (by decide) rfl q_379 dX11_image_79 ?_
        exact g_ireturn rfl dX11_image_82
      · intro J46 hJ46
        refine g_ifnonnull (tgt := 46) dX11_image_25 (by decide) ?_
        exact g_msk [true, true] (hJ46 _ _ _)
  · refine g_iconst (v := (-1 : Int32)) dX11_image_12 ki_m1 ?_
    exact g_ireturn rfl dX11_image_13
set_option maxRecDepth 100000 in
set_option maxHeartbeats 4000000 in
theorem crt_X11_restore (l : Launch) (θ : Th) (a0 : Nat) (m : Mm) : Crt l θ yX11_restore M_X11_restore cvI [.ref a0] m (F_X11_restore a0 m) := by
  refine crt_of 1 (by decide) rfl rfl (Nat.le_of_ble_eq_true rfl) (fun Z hμ => ?_)
  unfold F_X11_restore
  show GG Z _ _ 0 [some (.ref a0), none] [] m _
  refine g_aload_n (i := 0) dX11_restore_0 rfl rfl ?_
  refine g_getI (k := 13) cl_X11 (by decide) rfl q_379 dX11_restore_1 ?_
  refine g_ifle (tgt := 19) dX11_restore_4 (by decide) ?_ ?_
  · refine g_iconst (v := (-1 : Int32)) dX11_restore_19 ki_m1 ?_
    exact g_ireturn rfl dX11_restore_20
  · refine g_aload_n (i := 0) dX11_restore_7 rfl rfl ?_
    refine g_getI (k := 13) cl_X11 (by decide) rfl q_379 dX11_restore_8 ?_
    refine g_aload_n (i := 0) dX11_restore_11 rfl rfl ?_
    refine g_getR (k := 9) cl_X11 (by decide) rfl q_375 dX11_restore_12 ?_
    intro q1
    refine g_alen105 dX11_restore_15 ?_
    refine g_icmple (tgt := 21) dX11_restore_16 (by decide) ?_ ?_
    · refine g_aload_n (i := 0) dX11_restore_21 rfl rfl ?_
      refine g_dup dX11_restore_22 rfl ?_
      refine g_getI (k := 13) cl_X11 (by decide) rfl q_379 dX11_restore_23 ?_
      refine g_iconst (v := (1 : Int32)) dX11_restore_26 ki_1 ?_
      refine g_isub dX11_restore_27 ?_
      refine g_putI (k := 13) cl_X11 (by decide) rfl rfl q_379 dX11_restore_28 ?_
      intro m2
      refine g_aload_n (i := 0) dX11_restore_31 rfl rfl ?_
      refine g_getR (k := 9) cl_X11 (by decide) rfl q_375 dX11_restore_32 ?_
      intro q3
      refine g_aload_n (i := 0) dX11_restore_35 rfl rfl ?_
      refine g_getI (k := 13) cl_X11 (by decide) rfl q_379 dX11_restore_36 ?_
      refine g_aaloadI dX11_restore_39 ?_ ?_
      · refine g_astore_nN (i := 1) dX11_restore_40 rfl (show 1 < 2 by decide) ?_
        refine g_aload_nN (i := 1) dX11_restore_41 rfl rfl ?_
        refine g_jn (fun J67 => ∀ (v0 : Nat) (m : Mm), GG Z M_X11_restore (PsN Z cvI) 67 [some (.ref v0), none] [] m (J67 v0 m)) ?_ ?_
        · intro v0 m
          refine g_aload_n (i := 0) dX11_restore_67 rfl rfl ?_
          refine g_iconst (v := (0 : Int32)) dX11_restore_68 ki_0 ?_
          refine g_putI (k := 14) cl_X11 (by decide) rfl rfl q_380 dX11_restore_69 ?_
          intro m14
          refine g_aload_n (i := 0) dX11_restore_72 rfl rfl ?_
          refine g_getI (k := 13) cl_X11 (by decide) rfl q_379 dX11_restore_73 ?_
          exact g_ireturn rfl dX11_restore_76
        · intro J67 hJ67
          refine g_ifnullN (tgt := 67) dX11_restore_42 (by decide) ?_
          exact g_msk [true, false] (hJ67 _ _)
      · intro q4
        refine g_astore_n (i := 1) dX11_restore_40 rfl (show 1 < 2 by decide) ?_
        refine g_aload_n (i := 1) dX11_restore_41 rfl rfl ?_
        refine g_jn (fun J67 => ∀ (v0 : Nat) (m : Mm), GG Z M_X11_restore (PsN Z cvI) 67 [some (.ref v0), none] [] m (J67 v0 m)) ?_ ?_
        · intro v0 m
          refine g_aload_n (i := 0) dX11_restore_67 rfl rfl ?_
          refine g_iconst (v := (0 : Int32)) dX11_restore_68 ki_0 ?_
          refine g_putI (k := 14) cl_X11 (by decide) rfl rfl q_380 dX11_restore_69 ?_
          intro m5
          refine g_aload_n (i := 0) dX11_restore_72 rfl rfl ?_
          refine g_getI (k := 13) cl_X11 (by decide) rfl q_379 dX11_restore_73 ?_
          exact g_ireturn rfl dX11_restore_76
        · intro J67 hJ67
          refine g_ifnull dX11_restore_42 ?_
          refine g_aload_n (i := 0) dX11_restore_45 rfl rfl ?_
          refine g_getR (k := 6) cl_X11 (by decide) rfl q_372 dX11_restore_46 ?_
          intro q6
          refine g_aload_n (i := 1) dX11_restore_49 rfl rfl ?_
          refine g_getRN (k := 0) cl_X2 (by decide) rfl q_601 dX11_restore_50 ?_
          intro q7
          refine g_callVV cl_X7 (crt_X7_copy _ _ _ _ _) cw_X7_copy (by decide) rfl q_609 q_437 q_438 rfl rfl dX11_restore_53 ?_
          intro r8 m9
          refine g_aload_n (i := 0) dX11_restore_56 rfl rfl ?_
          refine g_getR (k := 8) cl_X11 (by decide) rfl q_374 dX11_restore_57 ?_
          intro q10
          refine g_aload_n (i := 1) dX11_restore_60 rfl rfl ?_
          refine g_getRN (k := 1) cl_X2 (by decide) rfl q_603 dX11_restore_61 ?_
          intro q11
          refine g_callVV cl_X5 (crt_X5_copy _ _ _ _ _) cw_X5_copy (by decide) rfl q_610 q_611 q_612 rfl rfl dX11_restore_64 ?_
          intro r12 m13
          exact g_msk [true, false] (hJ67 _ _)
    · refine g_iconst (v := (-1 : Int32)) dX11_restore_19 ki_m1 ?_
      exact g_ireturn rfl dX11_restore_20
set_option maxRecDepth 100000 in
set_option maxHeartbeats 4000000 in
theorem crt_X11_status (l : Launch) (θ : Th) (a0 : Nat) (a1 : Int32) (m : Mm) : Crt l θ yX11_status M_X11_status cvI [.ref a0, .int a1] m (F_X11_status a0 a1 m) := by
  refine crt_of 0 (by decide) rfl rfl (Nat.le_of_ble_eq_true rfl) (fun Z hμ => ?_)
  unfold F_X11_status
  show GG Z _ _ 0 [some (.ref a0), some (.int a1)] [] m _
  refine g_iload_n (i := 1) dX11_status_0 rfl rfl ?_
  refine g_iconst (v := (0 : Int32)) dX11_status_1 ki_0 ?_
  refine g_aload_n (i := 0) dX11_status_2 rfl rfl ?_
  refine g_getR (k := 12) cl_X11 (by decide) rfl q_378 dX11_status_3 ?_
  intro q1
  refine g_alen100 dX11_status_6 ?_
  refine g_iconst (v := (1 : Int32)) dX11_status_7 ki_1 ?_
  refine g_isub dX11_status_8 ?_
  refine g_callSI (crt_X11_isWithin _ _ _ _ _ _) cw_X11_isWithin (by decide) rfl q_627 q_628 rfl rfl dX11_status_9 ?_
  intro r2 m3
  refine g_ifeq (tgt := 24) dX11_status_12 (by decide) ?_ ?_
  · refine g_iconst (v := (-1 : Int32)) dX11_status_24 ki_m1 ?_
    exact g_ireturn rfl dX11_status_25
  · refine g_aload_n (i := 0) dX11_status_15 rfl rfl ?_
    refine g_getR (k := 12) cl_X11 (by decide) rfl q_378 dX11_status_16 ?_
    intro q4
    refine g_iload_n (i := 1) dX11_status_19 rfl rfl ?_
    refine g_iaload dX11_status_20 ?_
    refine g_goto (tgt := 25) dX11_status_21 (by decide) ?_
    exact g_ireturn rfl dX11_status_25
