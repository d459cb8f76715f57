def F_X0_init (a0 : Nat) (m : Mm) : Option (Unit × Mm) :=
 gd (decide (mN m + 1 < K9)) (lt9 (nw m 100 6) fun m1 =>
 gd (okO m1 a0 0) (lt9 (wR m1 a0 5 (some (mN m))) fun m2 =>
 some ((), m2)))
def F_X0_forget (a0 : Nat) (m : Mm) : Option (Unit × Mm) :=
 gd (okO m a0 0) (lt9 (wI m a0 0 (0 : Int32)) fun m1 =>
 gd (okO m1 a0 0) (lt9 (wI m1 a0 1 (0 : Int32)) fun m2 =>
 gd (okO m2 a0 0) (lt9 (wI m2 a0 2 (0 : Int32)) fun m3 =>
 some ((), m3))))
def L_X9_peek_5 (K59 : Nat → Mm → Option (Int32 × Mm)) (K42 : Nat → Int32 → Mm → Option (Int32 × Mm)) : Nat → Nat → Int32 → Mm → Option (Int32 × Mm)
 | 0, _, _, _ => none
 | n + 1, v0, v1, m =>
 if v1 < 0 then (
 K59 v0 m)
 else (
 gd (okO m v0 9) (
 if (rI m v0 2) ≤ v1 then (
 K59 v0 m)
 else (
 gd (okO m v0 9) (oc (rR m v0 0) none fun q2 =>
 gd (okT m 102 q2) (
 if (ln m q2) ≤ v1 then (
 K59 v0 m)
 else (
 gd (okO m v0 9) (lt9 (wI m v0 3 v1) fun m3 =>
 gd (okO m3 v0 9) (oc (rR m3 v0 0) none fun q4 =>
 gd (okA m3 102 q4 v1) (
 if (rI m3 q4 (ix v1)) = (32 : Int32) then (
 lt9 (v1 + (1 : Int32)) fun x5 =>
 L_X9_peek_5 K59 K42 n v0 x5 m3)
 else (
 K42 v0 v1 m3))))))))))
def F_X9_peek (a0 : Nat) (m : Mm) : Option (Int32 × Mm) :=
 gd (okO m a0 9) (
 lt9 (rI m a0 3) fun x1 =>
 L_X9_peek_5 (fun v0 m =>
 gd (okO m v0 9) (
 gd (okO m v0 9) (lt9 (wI m v0 3 (rI m v0 2)) fun m6 =>
 some ((-1 : Int32), m6)))) (fun v0 v1 m =>
 gd (okO m v0 9) (oc (rR m v0 0) none fun q7 =>
 gd (okA m 102 q7 v1) (
 some (((rI m q7 (ix v1)) &&& (255 : Int32)), m)))) NF a0 x1 m)
def F_X9_isEnded (a0 : Nat) (m : Mm) : Option (Int32 × Mm) :=
 gd (okO m a0 9) (bd (F_X9_peek a0 m) fun r1 m2 =>
 if r1 = (-1 : Int32) then (
 some ((1 : Int32), m2))
 else (
 some ((0 : Int32), m2)))
def F_X9_isDigit (a0 : Int32) (m : Mm) : Option (Int32 × Mm) :=
 if a0 < (48 : Int32) then (
 some ((0 : Int32), m))
 else (
 if (57 : Int32) < a0 then (
 some ((0 : Int32), m))
 else (
 some ((1 : Int32), m)))
def F_X9_fail (a0 : Nat) (a1 : Int32) (a2 : Int32) (m : Mm) : Option (Int32 × Mm) :=
 gd (okO m a0 9) (lt9 (wI m a0 6 a1) fun m1 =>
 gd (okO m1 a0 9) (lt9 (wI m1 a0 7 a2) fun m2 =>
 some ((0 : Int32), m2)))
def F_X9_byteAt (a0 : Nat) (a1 : Int32) (m : Mm) : Option (Int32 × Mm) :=
 if a1 < 0 then (
 some ((-1 : Int32), m))
 else (
 gd (okO m a0 9) (
 if (rI m a0 2) ≤ a1 then (
 some ((-1 : Int32), m))
 else (
 gd (okO m a0 9) (oc (rR m a0 0) none fun q1 =>
 gd (okT m 102 q1) (
 if (ln m q1) ≤ a1 then (
 some ((-1 : Int32), m))
 else (
 gd (okO m a0 9) (oc (rR m a0 0) none fun q2 =>
 gd (okA m 102 q2 a1) (
 some (((rI m q2 (ix a1)) &&& (255 : Int32)), m)))))))))
def F_X11_isWithin (a0 : Int32) (a1 : Int32) (a2 : Int32) (m : Mm) : Option (Int32 × Mm) :=
 if a0 < a1 then (
 some ((0 : Int32), m))
 else (
 if a2 < a0 then (
 some ((0 : Int32), m))
 else (
 some ((1 : Int32), m)))
def L_X9_number_38 (K104 : Nat → Int32 → Int32 → Mm → Option (Int32 × Mm)) : Nat → Nat → Int32 → Int32 → Int32 → Mm → Option (Int32 × Mm)
 | 0, _, _, _, _, _ => none
 | n + 1, v0, v1, v2, v3, m =>
 gd (okO m v0 9) (
 if (rI m v0 2) ≤ v3 then (
 K104 v0 v1 v2 m)
 else (
 gd (okO m v0 9) (
 gd (okO m v0 9) (bd (F_X9_byteAt v0 (rI m v0 3) m) fun r8 m9 =>
 bd (F_X9_isDigit r8 m9) fun r10 m11 =>
 if r10 = 0 then (
 K104 v0 v1 v2 m11)
 else (
 gd (okO m11 v0 9) (
 gd (okO m11 v0 9) (
 gd (okO m11 v0 9) (bd (F_X9_byteAt v0 (rI m11 v0 3) m11) fun r12 m13 =>
 gd (okO m13 v0 9) (lt9 (wI m13 v0 5 (mnI (1000000 : Int32) ((((rI m11 v0 5) * (10 : Int32)) + r12) - (48 : Int32)))) fun m14 =>
 gd (okO m14 v0 9) (
 gd (okO m14 v0 9) (lt9 (wI m14 v0 3 ((rI m14 v0 3) + (1 : Int32))) fun m15 =>
 lt9 (v3 + (1 : Int32)) fun x16 =>
 L_X9_number_38 K104 n v0 v1 v2 x16 m15)))))))))))
def F_X9_number (a0 : Nat) (a1 : Int32) (a2 : Int32) (m : Mm) : Option (Int32 × Mm) :=
 gd (okO m a0 9) (bd (F_X9_peek a0 m) fun r1 m2 =>
 bd (F_X9_isDigit r1 m2) fun r3 m4 =>
 if r3 = 0 then (
 gd (okO m4 a0 9) (
 gd (okO m4 a0 9) (bd (F_X9_fail a0 (1 : Int32) (rI m4 a0 3) m4) fun r21 m22 =>
 gd (decide (r21 = 0 ∨ r21 = 1)) (some (r21, m22)))))
 else (
 gd (okO m4 a0 9) (
 gd (okO m4 a0 9) (lt9 (wI m4 a0 4 (rI m4 a0 3)) fun m5 =>
 gd (okO m5 a0 9) (lt9 (wI m5 a0 5 (0 : Int32)) fun m6 =>
 gd (okO m6 a0 9) (
 lt9 (rI m6 a0 4) fun x7 =>
 L_X9_number_38 (fun v0 v1 v2 m =>
 gd (okO m v0 9) (
 bd (F_X11_isWithin (rI m v0 5) v1 v2 m) fun r17 m18 =>
 if r17 = 0 then (
 gd (okO m18 v0 9) (
 gd (okO m18 v0 9) (bd (F_X9_fail v0 (2 : Int32) (rI m18 v0 4) m18) fun r19 m20 =>
 if r19 = 0 then (
 some ((0 : Int32), m20))
 else (
 some ((1 : Int32), m20)))))
 else (
 some ((1 : Int32), m18)))) NF a0 a1 a2 x7 m6))))))
def F_X11_has (a0 : Int32) (a1 : Int32) (m : Mm) : Option (Int32 × Mm) :=
 if a1 < 0 then (
 some ((0 : Int32), m))
 else (
 if (6 : Int32) ≤ a1 then (
 some ((0 : Int32), m))
 else (
 if ((a0 >>> (a1 &&& 31)) &&& (1 : Int32)) = 0 then (
 some ((0 : Int32), m))
 else (
 some ((1 : Int32), m))))
def F_X9_sign (a0 : Nat) (a1 : Int32) (m : Mm) : Option (Int32 × Mm) :=
 gd (okO m a0 9) (bd (F_X9_peek a0 m) fun r1 m2 =>
 if r1 = a1 then (
 gd (okO m2 a0 9) (
 gd (okO m2 a0 9) (lt9 (wI m2 a0 3 ((rI m2 a0 3) + (1 : Int32))) fun m3 =>
 some ((1 : Int32), m3))))
 else (
 gd (okO m2 a0 9) (
 gd (okO m2 a0 9) (bd (F_X9_fail a0 (1 : Int32) (rI m2 a0 3) m2) fun r4 m5 =>
 gd (decide (r4 = 0 ∨ r4 = 1)) (some (r4, m5))))))
def F_J6_bitCount_0f7a4 (a0 : Int32) (m : Mm) : Option (Int32 × Mm) :=
 lt9 (a0 - (((a0.toUInt32 >>> ((1 : Int32).toUInt32 &&& Int32.toUInt32 31)).toInt32) &&& (1431655765 : Int32))) fun x1 =>
 lt9 ((x1 &&& (858993459 : Int32)) + (((x1.toUInt32 >>> ((2 : Int32).toUInt32 &&& Int32.toUInt32 31)).toInt32) &&& (858993459 : Int32))) fun x2 =>
 lt9 ((x2 + ((x2.toUInt32 >>> ((4 : Int32).toUInt32 &&& Int32.toUInt32 31)).toInt32)) &&& (252645135 : Int32)) fun x3 =>
 lt9 (x3 + ((x3.toUInt32 >>> ((8 : Int32).toUInt32 &&& Int32.toUInt32 31)).toInt32)) fun x4 =>
 lt9 (x4 + ((x4.toUInt32 >>> ((16 : Int32).toUInt32 &&& Int32.toUInt32 31)).toInt32)) fun x5 =>
 some ((x5 &&& (63 : Int32)), m)
def L_X0_read_8 (K105 : Nat → Int32 → Int32 → Mm → Option (Int32 × Mm)) (K50 : Nat → Mm → Option (Int32 × Mm)) : Nat → Nat → Nat → Int32 → Int32 → Int32 → Int32 → Mm → Option (Int32 × Mm)
 | 0, _, _, _, _, _, _, _ => none
 | n + 1, v0, v1, v2, v3, v4, v5, m =>
 if (6 : Int32) < v5 then (
 K105 v0 v3 v4 m)
 else (
 gd (okO m v1 9) (bd (F_X9_isEnded v1 m) fun r4 m5 =>
 if r4 = 0 then (
 gd (okO m5 v1 9) (bd (F_X9_number v1 (0 : Int32) (v2 - (1 : Int32)) m5) fun r6 m7 =>
 if r6 = 0 then (
 some ((0 : Int32), m7))
 else (
 gd (okO m7 v1 9) (
 lt9 (rI m7 v1 5) fun x8 =>
 bd (F_X11_has v3 x8 m7) fun r9 m10 =>
 if r9 = 0 then (
 gd (okO m10 v1 9) (bd (F_X9_number v1 (0 : Int32) (1 : Int32) m10) fun r11 m12 =>
 if r11 = 0 then (
 some ((0 : Int32), m12))
 else (
 gd (okO m12 v1 9) (bd (F_X9_sign v1 (59 : Int32) m12) fun r13 m14 =>
 if r13 = 0 then (
 some ((0 : Int32), m14))
 else (
 lt9 (v3 ||| ((1 : Int32) <<< (x8 &&& 31))) fun x15 =>
 gd (okO m14 v1 9) (
 lt9 (v4 ||| ((rI m14 v1 5) <<< (x8 &&& 31))) fun x16 =>
 lt9 (v5 + (1 : Int32)) fun x17 =>
 L_X0_read_8 K105 K50 n v0 v1 v2 x15 x16 x17 m14))))))
 else (
 K50 v1 m10)))))
 else (
 K105 v0 v3 v4 m5)))
def F_X0_read (a0 : Nat) (a1 : Nat) (a2 : Int32) (m : Mm) : Option (Int32 × Mm) :=
 lt9 (0 : Int32) fun x1 =>
 lt9 (0 : Int32) fun x2 =>
 lt9 (0 : Int32) fun x3 =>
 L_X0_read_8 (fun v0 v3 v4 m =>
 bd (F_J6_bitCount_0f7a4 v3 m) fun r18 m19 =>
 gd (okO m19 v0 0) (lt9 (wI m19 v0 0 r18) fun m20 =>
 gd (okO m20 v0 0) (lt9 (wI m20 v0 1 v3) fun m21 =>
 gd (okO m21 v0 0) (lt9 (wI m21 v0 2 v4) fun m22 =>
 some ((1 : Int32), m22))))) (fun v1 m =>
 gd (okO m v1 9) (
 gd (okO m v1 9) (bd (F_X9_fail v1 (2 : Int32) (rI m v1 4) m) fun r23 m24 =>
 gd (decide (r23 = 0 ∨ r23 = 1)) (some (r23, m24))))) NF a0 a1 a2 x1 x2 x3 m
def F_X3_reckon (a0 : Int32) (a1 : Int32) (a2 : Int32) (m : Mm) : Option (Int32 × Mm) :=
 if a0 = (1004 : Int32) then (
 some ((mnI a1 a2), m))
 else (
 if a0 = (1005 : Int32) then (
 some ((mxI a1 a2), m))
 else (
 if a0 = (1006 : Int32) then (
 some ((a1 + a2), m))
 else (
 if a0 = (1007 : Int32) then (
 some ((a1 - a2), m))
 else (
 if a0 = (1008 : Int32) then (
 some ((a1 * a2), m))
 else (
 if a0 = (1009 : Int32) then (
 if a2 = 0 then (
 some ((0 : Int32), m))
 else (
 gd (decide (¬ a2 = 0)) (
 some ((a1 / a2), m))))
 else (
 if a2 = 0 then (
 some ((0 : Int32), m))
 else (
 gd (decide (¬ a2 = 0)) (
 some ((a1 - a1 / a2 * a2), m)))))))))
def L_X3_weigh_6 (K162 : Nat → Mm → Option (Int32 × Mm)) : Nat → Nat → Int32 → Int32 → Int32 → Int32 → Int32 → Int32 → Mm → Option (Int32 × Mm)
 | 0, _, _, _, _, _, _, _, _ => none
 | n + 1, v0, v1, v2, v3, v4, v5, v6, m =>
 gd (okO m v0 3) (
 if (rI m v0 3) ≤ v6 then (
 K162 v0 m)
 else (
 gd (okO m v0 3) (oc (rR m v0 0) none fun q3 =>
 gd (okT m 100 q3) (
 if (ln m q3) ≤ v6 then (
 K162 v0 m)
 else (
 gd (okO m v0 3) (oc (rR m v0 0) none fun q4 =>
 gd (okA m 100 q4 v6) (
 lt9 (rI m q4 (ix v6)) fun x5 =>
 jn (fun (v0 : Nat) (v1 : Int32) (v2 : Int32) (v3 : Int32) (v4 : Int32) (v5 : Int32) (v6 : Int32) (v8 : Int32) (m : Mm) =>
 gd (okO m v0 3) (oc (rR m v0 2) none fun q6 =>
 gd (okT m 100 q6) (
 if v5 < (ln m q6) then (
 gd (okO m v0 3) (oc (rR m v0 2) none fun q7 =>
 gd (okA m 100 q7 v5) (lt9 (wI m q7 (ix v5) v8) fun m8 =>
 lt9 (v5 + (1 : Int32)) fun x9 =>
 lt9 (v6 + (1 : Int32)) fun x10 =>
 L_X3_weigh_6 K162 n v0 v1 v2 v3 v4 x9 x10 m8)))
 else (
 some ((0 : Int32), m))))) fun J132 =>
 if x5 < (1004 : Int32) then (
 jn (fun (v0 : Nat) (v1 : Int32) (v2 : Int32) (v3 : Int32) (v4 : Int32) (v5 : Int32) (v6 : Int32) (s0 : Int32) (m : Mm) =>
 lt9 s0 fun x11 =>
 J132 v0 v1 v2 v3 v4 v5 v6 x11 m) fun J130 =>
 if x5 = (1000 : Int32) then (
 J130 v0 v1 v2 v3 v4 v5 v6 v1 m)
 else (
 if x5 = (1001 : Int32) then (
 J130 v0 v1 v2 v3 v4 v5 v6 v2 m)
 else (
 if x5 = (1002 : Int32) then (
 J130 v0 v1 v2 v3 v4 v5 v6 v3 m)
 else (
 if x5 = (1003 : Int32) then (
 J130 v0 v1 v2 v3 v4 v5 v6 v4 m)
 else (
 J130 v0 v1 v2 v3 v4 v5 v6 x5 m)))))
 else (
 if (2 : Int32) ≤ v5 then (
 lt9 (v5 + (-2 : Int32)) fun x12 =>
 gd (okO m v0 3) (oc (rR m v0 2) none fun q13 =>
 gd (okA m 100 q13 x12) (
 gd (okO m v0 3) (oc (rR m v0 2) none fun q14 =>
 gd (okA m 100 q14 (x12 + (1 : Int32))) (
 bd (F_X3_reckon x5 (rI m q13 (ix x12)) (rI m q14 (ix (x12 + (1 : Int32)))) m) fun r15 m16 =>
 lt9 r15 fun x17 =>
 J132 v0 v1 v2 v3 v4 x12 v6 x17 m16)))))
 else (
 some ((0 : Int32), m))))))))))
def F_X3_weigh (a0 : Nat) (a1 : Int32) (a2 : Int32) (a3 : Int32) (a4 : Int32) (m : Mm) : Option (Int32 × Mm) :=
 lt9 (0 : Int32) fun x1 =>
 lt9 (0 : Int32) fun x2 =>
 L_X3_weigh_6 (fun v0 m =>
 gd (okO m v0 3) (oc (rR m v0 2) none fun q18 =>
 gd (okA m 100 q18 (0 : Int32)) (
 some ((mxI (0 : Int32) (mnI (99 : Int32) (rI m q18 (ix (0 : Int32))))), m)))) NF a0 a1 a2 a3 a4 x1 x2 m
def L_X6_weigh_15  : Nat → Nat → Nat → Int32 → Int32 → Mm → Option (Unit × Mm)
 | 0, _, _, _, _, _ => none
 | n + 1, v0, v1, v2, v3, m =>
 gd (okO m v0 6) (oc (rR m v0 0) none fun q6 =>
 gd (okO m q6 1) (
 if (rI m q6 0) ≤ v3 then (
 some ((), m))
 else (
 if (6 : Int32) ≤ v3 then (
 some ((), m))
 else (
 gd (okO m v0 6) (oc (rR m v0 2) none fun q7 =>
 gd (okO m v0 6) (oc (rR m v0 1) none fun q8 =>
 gd (okO m v1 7) (oc (rR m v1 8) none fun q9 =>
 gd (okA m 100 q9 v3) (
 gd (okO m v1 7) (
 gd (okO m q8 3) (bd (F_X3_weigh q8 v3 (rI m q9 (ix v3)) (rI m v1 0) v2 m) fun r10 m11 =>
 gd (okA m11 100 q7 v3) (lt9 (wI m11 q7 (ix v3) r10) fun m12 =>
 gd (okO m12 v0 6) (
 gd (okO m12 v1 7) (
 bd (F_X11_has (rI m12 v1 1) v3 m12) fun r13 m14 =>
 jn (fun (v0 : Nat) (v1 : Nat) (v2 : Int32) (v3 : Int32) (s0 : Int32) (s1 : Int32) (s2 : Nat) (m : Mm) =>
 gd (okO m s2 6) (lt9 (wI m s2 3 (s1 + s0)) fun m15 =>
 lt9 (v3 + (1 : Int32)) fun x16 =>
 L_X6_weigh_15 n v0 v1 v2 x16 m15)) fun J83 =>
 if r13 = 0 then (
 J83 v0 v1 v2 v3 (0 : Int32) (rI m12 v0 3) v0 m14)
 else (
 gd (okO m14 v0 6) (oc (rR m14 v0 2) none fun q17 =>
 gd (okA m14 100 q17 v3) (
 J83 v0 v1 v2 v3 (rI m14 q17 (ix v3)) (rI m12 v0 3) v0 m14))))))))))))))))
def F_X6_weigh (a0 : Nat) (a1 : Nat) (m : Mm) : Option (Unit × Mm) :=
 gd (okO m a1 7) (
 bd (F_J6_bitCount_0f7a4 (rI m a1 1) m) fun r1 m2 =>
 lt9 r1 fun x3 =>
 gd (okO m2 a0 6) (lt9 (wI m2 a0 3 (0 : Int32)) fun m4 =>
 lt9 (0 : Int32) fun x5 =>
 L_X6_weigh_15 NF a0 a1 x3 x5 m4))
def F_X6_partings (a0 : Nat) (m : Mm) : Option (Int32 × Mm) :=
 gd (okO m a0 6) (oc (rR m a0 0) none fun q1 =>
 gd (okO m q1 1) (
 some (((1 : Int32) <<< ((rI m q1 0) &&& 31)), m)))
def F_X7_standing (a0 : Nat) (m : Mm) : Option (Int32 × Mm) :=
 gd (okO m a0 7) (
 gd (okO m a0 7) (
 some (((rI m a0 3) &&& (rI m a0 2)), m)))
def L_X6_hasMoreThanHalf_4 (K37 : Nat → Int32 → Mm → Option (Int32 × Mm)) : Nat → Nat → Int32 → Int32 → Int32 → Mm → Option (Int32 × Mm)
 | 0, _, _, _, _, _ => none
 | n + 1, v0, v1, v2, v3, m =>
 if (6 : Int32) ≤ v3 then (
 K37 v0 v2 m)
 else (
 bd (F_X11_has v1 v3 m) fun r3 m4 =>
 jn (fun (v0 : Nat) (v1 : Int32) (v3 : Int32) (s0 : Int32) (s1 : Int32) (m : Mm) =>
 lt9 (s1 + s0) fun x5 =>
 lt9 (v3 + (1 : Int32)) fun x6 =>
 L_X6_hasMoreThanHalf_4 K37 n v0 v1 x5 x6 m) fun J29 =>
 if r3 = 0 then (
 J29 v0 v1 v3 (0 : Int32) v2 m4)
 else (
 gd (okO m4 v0 6) (oc (rR m4 v0 2) none fun q7 =>
 gd (okA m4 100 q7 v3) (
 J29 v0 v1 v3 (rI m4 q7 (ix v3)) v2 m4))))
def F_X6_hasMoreThanHalf (a0 : Nat) (a1 : Int32) (m : Mm) : Option (Int32 × Mm) :=
 lt9 (0 : Int32) fun x1 =>
 lt9 (0 : Int32) fun x2 =>
 L_X6_hasMoreThanHalf_4 (fun v0 v2 m =>
 gd (okO m v0 6) (
 if ((2 : Int32) * v2) ≤ (rI m v0 3) then (
 some ((0 : Int32), m))
 else (
 some ((1 : Int32), m)))) NF a0 a1 x1 x2 m
def F_X6_partBy (a0 : Nat) (a1 : Nat) (a2 : Int32) (a3 : Int32) (m : Mm) : Option (Int32 × Mm) :=
 lt9 a2 fun x1 =>
 gd (okO m a0 6) (bd (F_X6_hasMoreThanHalf a0 (a3 &&& x1) m) fun r2 m3 =>
 jn (fun (v1 : Nat) (v3 : Int32) (v4 : Int32) (m : Mm) =>
 gd (okO m v1 7) (
 gd (okO m v1 7) (
 some ((v4 &&& (v3 ||| ((rI m v1 3) &&& (rI m v1 5)))), m)))) fun J32 =>
 if r2 = 0 then (
 lt9 (a2 ^^^ (-1 : Int32)) fun x4 =>
 gd (okO m3 a0 6) (bd (F_X6_hasMoreThanHalf a0 (a3 &&& x4) m3) fun r5 m6 =>
 if r5 = 0 then (
 some ((-1 : Int32), m6))
 else (
 J32 a1 a3 x4 m6)))
 else (
 J32 a1 a3 x1 m3))
def L_X0_addWith_2  : Nat → Nat → Int32 → Int32 → Mm → Option (Unit × Mm)
 | 0, _, _, _, _ => none
 | n + 1, v0, v1, v2, m =>
 if (6 : Int32) ≤ v2 then (
 some ((), m))
 else (
 gd (okO m v0 0) (oc (rR m v0 5) none fun q2 =>
 gd (okA m 100 q2 v2) (
 bd (F_X11_has v1 v2 m) fun r3 m4 =>
 jn (fun (v0 : Nat) (v1 : Int32) (v2 : Int32) (s0 : Int32) (s1 : Int32) (s2 : Int32) (s3 : Nat) (m : Mm) =>
 gd (okA m 100 s3 s2) (lt9 (wI m s3 (ix s2) (s1 + s0)) fun m5 =>
 lt9 (v2 + (1 : Int32)) fun x6 =>
 L_X0_addWith_2 n v0 v1 x6 m5)) fun J28 =>
 if r3 = 0 then (
 J28 v0 v1 v2 (0 : Int32) (rI m q2 (ix v2)) v2 q2 m4)
 else (
 J28 v0 v1 v2 (1 : Int32) (rI m q2 (ix v2)) v2 q2 m4))))
def F_X0_addWith (a0 : Nat) (a1 : Int32) (m : Mm) : Option (Unit × Mm) :=
 lt9 (0 : Int32) fun x1 =>
 L_X0_addWith_2 NF a0 a1 x1 m
def L_X0_sift_17 (K36 : Nat → Nat → Nat → Mm → Option (Unit × Mm)) : Nat → Nat → Nat → Nat → Int32 → Mm → Option (Unit × Mm)
 | 0, _, _, _, _, _ => none
 | n + 1, v0, v1, v2, v3, m =>
 if (6 : Int32) ≤ v3 then (
 K36 v0 v1 v2 m)
 else (
 gd (okO m v0 0) (oc (rR m v0 5) none fun q6 =>
 gd (okA m 100 q6 v3) (lt9 (wI m q6 (ix v3) (0 : Int32)) fun m7 =>
 lt9 (v3 + (1 : Int32)) fun x8 =>
 L_X0_sift_17 K36 n v0 v1 v2 x8 m7)))
def L_X0_sift_38  : Nat → Nat → Nat → Nat → Int32 → Mm → Option (Unit × Mm)
 | 0, _, _, _, _, _ => none
 | n + 1, v0, v1, v2, v3, m =>
 gd (okO m v2 6) (bd (F_X6_partings v2 m) fun r10 m11 =>
 if r10 ≤ v3 then (
 some ((), m11))
 else (
 gd (okO m11 v1 7) (bd (F_X7_standing v1 m11) fun r12 m13 =>
 gd (okO m13 v2 6) (bd (F_X6_partBy v2 v1 v3 r12 m13) fun r14 m15 =>
 lt9 r14 fun x16 =>
 jn (fun (v0 : Nat) (v1 : Nat) (v2 : Nat) (v3 : Int32) (s0 : Int32) (m : Mm) =>
 lt9 s0 fun x17 =>
 gd (okO m v0 0) (
 gd (okO m v0 0) (
 jn (fun (v0 : Nat) (v1 : Nat) (v2 : Nat) (v3 : Int32) (m : Mm) =>
 lt9 (v3 + (1 : Int32)) fun x18 =>
 L_X0_sift_38 n v0 v1 v2 x18 m) fun J121 =>
 if (x17 &&& (rI m v0 1)) = (rI m v0 2) then (
 gd (okO m v0 0) (
 jn (fun (v0 : Nat) (v1 : Nat) (v2 : Nat) (v3 : Int32) (v5 : Int32) (s0 : Int32) (s1 : Nat) (m : Mm) =>
 gd (okO m s1 0) (lt9 (wI m s1 4 s0) fun m19 =>
 gd (okO m19 v0 0) (
 gd (okO m19 v0 0) (lt9 (wI m19 v0 3 ((rI m19 v0 3) + (1 : Int32))) fun m20 =>
 gd (okO m20 v0 0) (bd (F_X0_addWith v0 v5 m20) fun r21 m22 =>
 J121 v0 v1 v2 v3 m22))))) fun J102 =>
 if (rI m v0 3) = 0 then (
 J102 v0 v1 v2 v3 x17 v3 v0 m)
 else (
 gd (okO m v0 0) (
 J102 v0 v1 v2 v3 x17 (rI m v0 4) v0 m))))
 else (
 J121 v0 v1 v2 v3 m)))) fun J70 =>
 if x16 = (-1 : Int32) then (
 J70 v0 v1 v2 v3 (0 : Int32) m15)
 else (
 J70 v0 v1 v2 v3 x16 m15)))))
def F_X0_sift (a0 : Nat) (a1 : Nat) (a2 : Nat) (m : Mm) : Option (Unit × Mm) :=
 gd (okO m a2 6) (bd (F_X6_weigh a2 a1 m) fun r1 m2 =>
 gd (okO m2 a0 0) (lt9 (wI m2 a0 3 (0 : Int32)) fun m3 =>
 gd (okO m3 a0 0) (lt9 (wI m3 a0 4 (-1 : Int32)) fun m4 =>
 lt9 (0 : Int32) fun x5 =>
 L_X0_sift_17 (fun v0 v1 v2 m =>
 lt9 (0 : Int32) fun x9 =>
 L_X0_sift_38 NF v0 v1 v2 x9 m) NF a0 a1 a2 x5 m4)))
def F_X0_leftAtWorst (a0 : Nat) (a1 : Int32) (m : Mm) : Option (Int32 × Mm) :=
 if a1 < 0 then (
 some ((-1 : Int32), m))
 else (
 if a1 < (6 : Int32) then (
 gd (okO m a0 0) (oc (rR m a0 5) none fun q1 =>
 gd (okA m 100 q1 a1) (
 gd (okO m a0 0) (
 gd (okO m a0 0) (oc (rR m a0 5) none fun q2 =>
 gd (okA m 100 q2 a1) (
 some ((mxI (rI m q1 (ix a1)) ((rI m a0 3) - (rI m q2 (ix a1)))), m)))))))
 else (
 some ((-1 : Int32), m)))
def L_X0_bestToAsk_4  : Nat → Nat → Int32 → Int32 → Int32 → Mm → Option (Int32 × Mm)
 | 0, _, _, _, _, _ => none
 | n + 1, v0, v1, v2, v3, m =>
 if v1 ≤ v3 then (
 some (v2, m))
 else (
 if (6 : Int32) ≤ v3 then (
 some (v2, m))
 else (
 gd (okO m v0 0) (
 bd (F_X11_has (rI m v0 1) v3 m) fun r3 m4 =>
 jn (fun (v0 : Nat) (v1 : Int32) (v2 : Int32) (v3 : Int32) (m : Mm) =>
 lt9 (v3 + (1 : Int32)) fun x5 =>
 L_X0_bestToAsk_4 n v0 v1 v2 x5 m) fun J46 =>
 if r3 = 0 then (
 jn (fun (v0 : Nat) (v1 : Int32) (v3 : Int32) (m : Mm) =>
 lt9 v3 fun x6 =>
 J46 v0 v1 x6 v3 m) fun J44 =>
 if v2 = (-1 : Int32) then (
 J44 v0 v1 v3 m4)
 else (
 gd (okO m4 v0 0) (bd (F_X0_leftAtWorst v0 v3 m4) fun r7 m8 =>
 gd (okO m8 v0 0) (bd (F_X0_leftAtWorst v0 v2 m8) fun r9 m10 =>
 if r9 ≤ r7 then (
 J46 v0 v1 v2 v3 m10)
 else (
 J44 v0 v1 v3 m10)))))
 else (
 J46 v0 v1 v2 v3 m4))))
def F_X0_bestToAsk (a0 : Nat) (a1 : Int32) (m : Mm) : Option (Int32 × Mm) :=
 lt9 (-1 : Int32) fun x1 =>
 lt9 (0 : Int32) fun x2 =>
 L_X0_bestToAsk_4 NF a0 a1 x1 x2 m
def F_X1_init (a0 : Nat) (m : Mm) : Option (Unit × Mm) :=
 gd (okO m a0 1) (lt9 (wI m a0 2 (30 : Int32)) fun m1 =>
 some ((), m1))
def F_X1_readNumber (a0 : Nat) (a1 : Int32) (m : Mm) : Option (Int32 × Mm) :=
 jn (fun (v0 : Nat) (s0 : Int32) (m : Mm) =>
 lt9 s0 fun x1 =>
 if x1 = 0 then (
 some ((0 : Int32), m))
 else (
 gd (okO m v0 9) (bd (F_X9_sign v0 (59 : Int32) m) fun r2 m3 =>
 if r2 = 0 then (
 some ((0 : Int32), m3))
 else (
 some ((1 : Int32), m3))))) fun J20 =>
 if a1 = 0 then (
 gd (okO m a0 9) (bd (F_X9_number a0 (1 : Int32) (30 : Int32) m) fun r4 m5 =>
 J20 a0 r4 m5))
 else (
 gd (okO m a0 9) (bd (F_X9_number a0 (0 : Int32) (1 : Int32) m) fun r6 m7 =>
 J20 a0 r6 m7))
def F_X7_init (a0 : Nat) (m : Mm) : Option (Unit × Mm) :=
 gd (decide (mN m + 1 < K9)) (lt9 (nw m 100 6) fun m1 =>
 gd (okO m1 a0 7) (lt9 (wR m1 a0 8 (some (mN m))) fun m2 =>
 gd (decide (mN m2 + 1 < K9)) (lt9 (nw m2 100 6) fun m3 =>
 gd (okO m3 a0 7) (lt9 (wR m3 a0 9 (some (mN m2))) fun m4 =>
 gd (decide (mN m4 + 1 < K9)) (lt9 (nw m4 100 6) fun m5 =>
 gd (okO m5 a0 7) (lt9 (wR m5 a0 10 (some (mN m4))) fun m6 =>
 gd (decide (mN m6 + 1 < K9)) (lt9 (nw m6 100 36) fun m7 =>
 gd (okO m7 a0 7) (lt9 (wR m7 a0 11 (some (mN m6))) fun m8 =>
 gd (decide (mN m8 + 1 < K9)) (lt9 (nw m8 100 6) fun m9 =>
 gd (okO m9 a0 7) (lt9 (wR m9 a0 12 (some (mN m8))) fun m10 =>
 gd (decide (mN m10 + 1 < K9)) (lt9 (nw m10 100 48) fun m11 =>
 gd (okO m11 a0 7) (lt9 (wR m11 a0 13 (some (mN m10))) fun m12 =>
 gd (decide (mN m12 + 1 < K9)) (lt9 (nw m12 100 6) fun m13 =>
 gd (okO m13 a0 7) (lt9 (wR m13 a0 14 (some (mN m12))) fun m14 =>
 gd (decide (mN m14 + 1 < K9)) (lt9 (nw m14 100 30) fun m15 =>
 gd (okO m15 a0 7) (lt9 (wR m15 a0 15 (some (mN m14))) fun m16 =>
 gd (decide (mN m16 + 1 < K9)) (lt9 (nw m16 100 30) fun m17 =>
 gd (okO m17 a0 7) (lt9 (wR m17 a0 16 (some (mN m16))) fun m18 =>
 gd (decide (mN m18 + 1 < K9)) (lt9 (nw m18 100 30) fun m19 =>
 gd (okO m19 a0 7) (lt9 (wR m19 a0 17 (some (mN m18))) fun m20 =>
 gd (decide (mN m20 + 1 < K9)) (lt9 (nw m20 101 6) fun m21 =>
 gd (okO m21 a0 7) (lt9 (wR m21 a0 18 (some (mN m20))) fun m22 =>
 gd (decide (mN m22 + 1 < K9)) (lt9 (nw m22 101 384) fun m23 =>
 gd (okO m23 a0 7) (lt9 (wR m23 a0 19 (some (mN m22))) fun m24 =>
 some ((), m24)))))))))))))))))))))))))
def F_X5_init (a0 : Nat) (m : Mm) : Option (Unit × Mm) :=
 gd (decide (mN m + 1 < K9)) (lt9 (nw m 104 16) fun m1 =>
 gd (okO m1 a0 5) (lt9 (wR m1 a0 0 (some (mN m))) fun m2 =>
 some ((), m2)))
def F_X2_init (a0 : Nat) (m : Mm) : Option (Unit × Mm) :=
 gd (decide (mN m + 1 < K9)) (lt9 (nw m 7 20) fun m1 =>
 bd (F_X7_init (mN m) m1) fun r2 m3 =>
 gd (okO m3 a0 2) (lt9 (wR m3 a0 0 (some (mN m))) fun m4 =>
 gd (decide (mN m4 + 1 < K9)) (lt9 (nw m4 5 2) fun m5 =>
 bd (F_X5_init (mN m4) m5) fun r6 m7 =>
 gd (okO m7 a0 2) (lt9 (wR m7 a0 1 (some (mN m4))) fun m8 =>
 some ((), m8)))))
def F_X3_forget (a0 : Nat) (m : Mm) : Option (Unit × Mm) :=
 gd (okO m a0 3) (oc (rR m a0 0) none fun q1 =>
 gd (okA m 100 q1 (0 : Int32)) (lt9 (wI m q1 (ix (0 : Int32)) (1 : Int32)) fun m2 =>
 gd (okO m2 a0 3) (lt9 (wI m2 a0 3 (1 : Int32)) fun m3 =>
 some ((), m3))))
def F_X3_init (a0 : Nat) (m : Mm) : Option (Unit × Mm) :=
 gd (decide (mN m + 1 < K9)) (lt9 (nw m 100 150) fun m1 =>
 gd (okO m1 a0 3) (lt9 (wR m1 a0 0 (some (mN m))) fun m2 =>
 gd (decide (mN m2 + 1 < K9)) (lt9 (nw m2 100 150) fun m3 =>
 gd (okO m3 a0 3) (lt9 (wR m3 a0 1 (some (mN m2))) fun m4 =>
 gd (decide (mN m4 + 1 < K9)) (lt9 (nw m4 100 150) fun m5 =>
 gd (okO m5 a0 3) (lt9 (wR m5 a0 2 (some (mN m4))) fun m6 =>
 gd (okO m6 a0 3) (bd (F_X3_forget a0 m6) fun r7 m8 =>
 some ((), m8))))))))
def F_X3_joint (a0 : Int32) (m : Mm) : Option (Int32 × Mm) :=
 if a0 = (37 : Int32) then (
 some ((1010 : Int32), m))
 else (
 if a0 = (38 : Int32) then (
 some ((-1 : Int32), m))
 else (
 if a0 = (39 : Int32) then (
 some ((-1 : Int32), m))
 else (
 if a0 = (40 : Int32) then (
 some ((-1 : Int32), m))
 else (
 if a0 = (41 : Int32) then (
 some ((-1 : Int32), m))
 else (
 if a0 = (42 : Int32) then (
 some ((1008 : Int32), m))
 else (
 if a0 = (43 : Int32) then (
 some ((1006 : Int32), m))
 else (
 if a0 = (44 : Int32) then (
 some ((-1 : Int32), m))
 else (
 if a0 = (45 : Int32) then (
 some ((1007 : Int32), m))
 else (
 if a0 = (46 : Int32) then (
 some ((-1 : Int32), m))
 else (
 if a0 = (47 : Int32) then (
 some ((1009 : Int32), m))
 else (
 some ((-1 : Int32), m))))))))))))
def F_X3_emit (a0 : Nat) (a1 : Int32) (m : Mm) : Option (Unit × Mm) :=
 gd (okO m a0 3) (
 gd (okO m a0 3) (oc (rR m a0 1) none fun q1 =>
 gd (okT m 100 q1) (
 if (ln m q1) ≤ (rI m a0 4) then (
 some ((), m))
 else (
 gd (okO m a0 3) (oc (rR m a0 1) none fun q2 =>
 gd (okO m a0 3) (
 gd (okA m 100 q2 (rI m a0 4)) (lt9 (wI m q2 (ix (rI m a0 4)) a1) fun m3 =>
 gd (okO m3 a0 3) (
 gd (okO m3 a0 3) (lt9 (wI m3 a0 4 ((rI m3 a0 4) + (1 : Int32))) fun m4 =>
 some ((), m4))))))))))
def F_X4_init (a0 : Nat) (m : Mm) : Option (Unit × Mm) :=
 gd (decide (mN m + 1 < K9)) (lt9 (nw m 103 64) fun m1 =>
 gd (okO m1 a0 4) (lt9 (wR m1 a0 0 (some (mN m))) fun m2 =>
 some ((), m2)))
def F_X4_put (a0 : Nat) (a1 : Int32) (m : Mm) : Option (Unit × Mm) :=
 gd (okO m a0 4) (
 gd (okO m a0 4) (oc (rR m a0 0) none fun q1 =>
 gd (okT m 103 q1) (
 if (ln m q1) ≤ (rI m a0 1) then (
 some ((), m))
 else (
 gd (okO m a0 4) (oc (rR m a0 0) none fun q2 =>
 gd (okO m a0 4) (
 gd (okA m 103 q2 (rI m a0 1)) (lt9 (wI m q2 (ix (rI m a0 1)) (vp_nar .char a1)) fun m3 =>
 gd (okO m3 a0 4) (
 gd (okO m3 a0 4) (lt9 (wI m3 a0 1 ((rI m3 a0 1) + (1 : Int32))) fun m4 =>
 some ((), m4))))))))))
def L_X4_putNumber_7 (K24 : Nat → Int32 → Int32 → Mm → Option (Unit × Mm)) : Nat → Nat → Int32 → Int32 → Int32 → Mm → Option (Unit × Mm)
 | 0, _, _, _, _, _ => none
 | n + 1, v0, v1, v2, v3, m =>
 if v3 ≤ 0 then (
 K24 v0 v1 v2 m)
 else (
 lt9 (v2 * (10 : Int32)) fun x3 =>
 gd (decide (¬ (10 : Int32) = 0)) (
 lt9 (v3 / (10 : Int32)) fun x4 =>
 L_X4_putNumber_7 K24 n v0 v1 x3 x4 m))
def L_X4_putNumber_26  : Nat → Nat → Int32 → Int32 → Int32 → Mm → Option (Unit × Mm)
 | 0, _, _, _, _, _ => none
 | n + 1, v0, v1, v2, v3, m =>
 if (10 : Int32) ≤ v3 then (
 some ((), m))
 else (
 if v2 ≤ 0 then (
 some ((), m))
 else (
 gd (decide (¬ v2 = 0)) (
 gd (decide (¬ (10 : Int32) = 0)) (
 gd (okO m v0 4) (bd (F_X4_put v0 ((((48 : Int32) + ((v1 / v2) - (v1 / v2) / (10 : Int32) * (10 : Int32))).toUInt32 % 65536).toInt32) m) fun r6 m7 =>
 gd (decide (¬ (10 : Int32) = 0)) (
 lt9 (v2 / (10 : Int32)) fun x8 =>
 lt9 (v3 + (1 : Int32)) fun x9 =>
 L_X4_putNumber_26 n v0 v1 x8 x9 m7))))))
def F_X4_putNumber (a0 : Nat) (a1 : Int32) (m : Mm) : Option (Unit × Mm) :=
 lt9 (1 : Int32) fun x1 =>
 gd (decide (¬ (10 : Int32) = 0)) (
 lt9 (a1 / (10 : Int32)) fun x2 =>
 L_X4_putNumber_7 (fun v0 v1 v2 m =>
 lt9 (0 : Int32) fun x5 =>
 L_X4_putNumber_26 NF v0 v1 v2 x5 m) NF a0 a1 x1 x2 m)
def F_X4_putMember (a0 : Nat) (a1 : Nat) (a2 : Int32) (m : Mm) : Option (Unit × Mm) :=
 gd (okO m a0 4) (bd (F_X4_putNumber a0 a2 m) fun r1 m2 =>
 gd (okO m2 a1 7) (
 bd (F_X11_has (rI m2 a1 4) a2 m2) fun r3 m4 =>
 jn (fun (v0 : Nat) (v1 : Nat) (v2 : Int32) (m : Mm) =>
 gd (okO m v1 7) (
 bd (F_X11_has (rI m v1 3) v2 m) fun r5 m6 =>
 if r5 = 0 then (
 gd (okO m6 v0 4) (bd (F_X4_put v0 (63 : Int32) m6) fun r7 m8 =>
 some ((), m8)))
 else (
 some ((), m6)))) fun J22 =>
 if r3 = 0 then (
 J22 a0 a1 a2 m4)
 else (
 gd (okO m4 a0 4) (bd (F_X4_put a0 (33 : Int32) m4) fun r9 m10 =>
 J22 a0 a1 a2 m10))))
def L_X4_write_29 (K70 : Nat → Nat → Mm → Option (Unit × Mm)) : Nat → Nat → Nat → Int32 → Int32 → Mm → Option (Unit × Mm)
 | 0, _, _, _, _, _ => none
 | n + 1, v0, v1, v2, v3, m =>
 if (6 : Int32) ≤ v3 then (
 K70 v0 v1 m)
 else (
 gd (okO m v1 7) (
 bd (F_X11_has (rI m v1 1) v3 m) fun r10 m11 =>
 jn (fun (v0 : Nat) (v1 : Nat) (v2 : Int32) (v3 : Int32) (m : Mm) =>
 lt9 (v3 + (1 : Int32)) fun x12 =>
 L_X4_write_29 K70 n v0 v1 v2 x12 m) fun J64 =>
 if r10 = 0 then (
 J64 v0 v1 v2 v3 m11)
 else (
 jn (fun (v0 : Nat) (v1 : Nat) (v3 : Int32) (m : Mm) =>
 lt9 (0 : Int32) fun x13 =>
 gd (okO m v0 4) (bd (F_X4_putMember v0 v1 v3 m) fun r14 m15 =>
 J64 v0 v1 x13 v3 m15)) fun J56 =>
 if v2 = 0 then (
 gd (okO m11 v0 4) (bd (F_X4_put v0 (44 : Int32) m11) fun r16 m17 =>
 J56 v0 v1 v3 m17))
 else (
 J56 v0 v1 v3 m11))))
def F_X4_write (a0 : Nat) (a1 : Nat) (m : Mm) : Option (Unit × Mm) :=
 gd (okO m a0 4) (lt9 (wI m a0 1 (0 : Int32)) fun m1 =>
 gd (okO m1 a0 4) (bd (F_X4_put a0 (118 : Int32) m1) fun r2 m3 =>
 gd (okO m3 a1 7) (
 gd (okO m3 a0 4) (bd (F_X4_putNumber a0 (rI m3 a1 0) m3) fun r4 m5 =>
 gd (okO m5 a0 4) (bd (F_X4_put a0 (58 : Int32) m5) fun r6 m7 =>
 lt9 (1 : Int32) fun x8 =>
 lt9 (0 : Int32) fun x9 =>
 L_X4_write_29 (fun v0 v1 m =>
 gd (okO m v0 4) (bd (F_X4_put v0 (59 : Int32) m) fun r18 m19 =>
 gd (okO m19 v1 7) (
 gd (okO m19 v0 4) (bd (F_X4_putNumber v0 (rI m19 v1 7) m19) fun r20 m21 =>
 some ((), m21))))) NF a0 a1 x8 x9 m7)))))
def F_X4_signAt (a0 : Nat) (a1 : Int32) (m : Mm) : Option (Int32 × Mm) :=
 if a1 < 0 then (
 some ((-1 : Int32), m))
 else (
 gd (okO m a0 4) (
 if (rI m a0 1) ≤ a1 then (
 some ((-1 : Int32), m))
 else (
 gd (okO m a0 4) (oc (rR m a0 0) none fun q1 =>
 gd (okT m 103 q1) (
 if (ln m q1) ≤ a1 then (
 some ((-1 : Int32), m))
 else (
 gd (okO m a0 4) (oc (rR m a0 0) none fun q2 =>
 gd (okA m 103 q2 a1) (
 some ((rI m q2 (ix a1)), m)))))))))
def F_X5_isFull (a0 : Nat) (m : Mm) : Option (Int32 × Mm) :=
 gd (okO m a0 5) (
 if (rI m a0 1) < (16 : Int32) then (
 some ((0 : Int32), m))
 else (
 some ((1 : Int32), m)))
set_option maxRecDepth 100000 in
set_option maxHeartbeats 4000000 in
theorem crt_X0_init (l : Launch) (θ : Th) (a0 : Nat) (m : Mm) : Crt l θ yX0_init M_X0_init cvV [.ref a0] m (F_X0_init a0 m) := by
  refine crt_of 0 (by decide) rfl rfl (Nat.le_of_ble_eq_true rfl) (fun Z hμ => ?_)
  unfold F_X0_init
  show GG Z _ _ 0 [some (.ref a0)] [] m _
  refine g_aload_n (i := 0) dX0_init_0 rfl rfl ?_
  refine g_objInit q_168 q_35 q_36 (by decide) rfl dX0_init_1 ?_
  refine g_aload_n (i := 0) dX0_init_4 rfl rfl ?_
  refine g_bipush (v := (6 : Int32)) dX0_init_5 kb_6 ?_
  refine g_newarr (atype := .int) (ty := .int) (t0 := 0) (N := 6) rfl rfl (fun _ => rfl) (fun _ _ h => h) q_128 (by decide) (by decide) (by decide) (fun _ _ => nwd_i _ _ _ _ (by decide) rfl) dX0_init_7 ?_
  intro m1
  refine g_putRF (k := 5) cl_X0 (by decide) rfl (fun _ => rfl) (fun _ => rfl) rfl rfl rfl q_177 dX0_init_9 ?_
  intro m2
  exact g_return rfl dX0_init_12
set_option maxRecDepth 100000 in
set_option maxHeartbeats 4000000 in
theorem crt_X0_forget (l : Launch) (θ : Th) (a0 : Nat) (m : Mm) : Crt l θ yX0_forget M_X0_forget cvV [.ref a0] m (F_X0_forget a0 m) := by
  refine crt_of 0 (by decide) rfl rfl (Nat.le_of_ble_eq_true rfl) (fun Z hμ => ?_)
  unfold F_X0_forget
  show GG Z _ _ 0 [some (.ref a0)] [] m _
  refine g_aload_n (i := 0) dX0_forget_0 rfl rfl ?_
  refine g_iconst (v := (0 : Int32)) dX0_forget_1 ki_0 ?_
  refine g_putI (k := 0) cl_X0 (by decide) rfl rfl q_169 dX0_forget_2 ?_
  intro m1
  refine g_aload_n (i := 0) dX0_forget_5 rfl rfl ?_
  refine g_iconst (v := (0 : Int32)) dX0_forget_6 ki_0 ?_
  refine g_putI (k := 1) cl_X0 (by decide) rfl rfl q_171 dX0_forget_7 ?_
  intro m2
  refine g_aload_n (i := 0) dX0_forget_10 rfl rfl ?_
  refine g_iconst (v := (0 : Int32)) dX0_forget_11 ki_0 ?_
  refine g_putI (k := 2) cl_X0 (by decide) rfl rfl q_172 dX0_forget_12 ?_
  intro m3
  exact g_return rfl dX0_forget_15
set_option maxRecDepth 100000 in
set_option maxHeartbeats 4000000 in
theorem c_L_X9_peek_5 {Z : Zx}  {K59 : Nat → Mm → Option (Int32 × Mm)} {K42 : Nat → Int32 → Mm → Option (Int32 × Mm)} (hK59 : ∀ (v0 : Nat) (m : Mm), GG Z M_X9_peek (PsN Z cvI) 59 [some (.ref v0), none] [] m (K59 v0 m)) (hK42 : ∀ (v0 : Nat) (v1 : Int32) (m : Mm), GG Z M_X9_peek (PsN Z cvI) 42 [some (.ref v0), some (.int v1)] [] m (K42 v0 v1 m)) : ∀ (n : Nat) (v0 : Nat) (v1 : Int32) (m : Mm), GG Z M_X9_peek (PsN Z cvI) 5 [some (.ref v0), some (.int v1)] [] m (L_X9_peek_5 K59 K42 n v0 v1 m) := by
  intro n
  induction n with
  | zero => intro v0 v1 m; exact g_no
  | succ n ih =>
    intro v0 v1 m
    unfold L_X9_peek_5
    refine g_iload_n (i := 1) dX9_peek_5 rfl rfl ?_
    refine g_iflt (tgt := 59) dX9_peek_6 (by decide) ?_ ?_
    · exact g_msk [true, false] (hK59 _ _)
    · refine g_iload_n (i := 1) dX9_peek_9 rfl rfl ?_
      refine g_aload_n (i := 0) dX9_peek_10 rfl rfl ?_
      refine g_getI (k := 2) cl_X9 (by decide) rfl q_46 dX9_peek_11 ?_
      refine g_icmpge (tgt := 59) dX9_peek_14 (by decide) ?_ ?_
      · exact g_msk [true, false] (hK59 _ _)
      · refine g_iload_n (i := 1) dX9_peek_17 rfl rfl ?_
        refine g_aload_n (i := 0) dX9_peek_18 rfl rfl ?_
        refine g_getR (k := 0) cl_X9 (by decide) rfl q_43 dX9_peek_19 ?_
        intro q2
        refine g_alen102 dX9_peek_22 ?_
        refine g_icmpge (tgt := 59) dX9_peek_23 (by decide) ?_ ?_
        · exact g_msk [true, false] (hK59 _ _)
        · refine g_aload_n (i := 0) dX9_peek_26 rfl rfl ?_
          refine g_iload_n (i := 1) dX9_peek_27 rfl rfl ?_
          refine g_putI (k := 3) cl_X9 (by decide) rfl rfl q_48 dX9_peek_28 ?_
          intro m3
          refine g_aload_n (i := 0) dX9_peek_31 rfl rfl ?_
          refine g_getR (k := 0) cl_X9 (by decide) rfl q_43 dX9_peek_32 ?_
          intro q4
          refine g_iload_n (i := 1) dX9_peek_35 rfl rfl ?_
          refine g_baload dX9_peek_36 ?_
          refine g_bipush (v := (32 : Int32)) dX9_peek_37 kb_32 ?_
          refine g_icmpeq (tgt := 53) dX9_peek_39 (by decide) ?_ ?_
          · refine g_iinc dX9_peek_53 rfl ki_1 (show 1 < 2 by decide) ?_
            intro x5
            refine g_goto (tgt := 5) dX9_peek_56 (by decide) ?_
            exact g_msk [true, true] (ih _ _ _)
          · exact g_msk [true, true] (hK42 _ _ _)
set_option maxRecDepth 100000 in
set_option maxHeartbeats 4000000 in
theorem crt_X9_peek (l : Launch) (θ : Th) (a0 : Nat) (m : Mm) : Crt l θ yX9_peek M_X9_peek cvI [.ref a0] m (F_X9_peek a0 m) := by
  refine crt_of 1 (by decide) rfl rfl (Nat.le_of_ble_eq_true rfl) (fun Z hμ => ?_)
  unfold F_X9_peek
  show GG Z _ _ 0 [some (.ref a0), none] [] m _
  refine g_aload_n (i := 0) dX9_peek_0 rfl rfl ?_
  refine g_getI (k := 3) cl_X9 (by decide) rfl q_48 dX9_peek_1 ?_
  refine g_istore_n (i := 1) dX9_peek_4 rfl (show 1 < 2 by decide) ?_
  intro x1
  refine g_msk [true, true] (c_L_X9_peek_5 ?_ ?_ NF _ _ _)
  · intro v0 m
    refine g_aload_n (i := 0) dX9_peek_59 rfl rfl ?_
    refine g_aload_n (i := 0) dX9_peek_60 rfl rfl ?_
    refine g_getI (k := 2) cl_X9 (by decide) rfl q_46 dX9_peek_61 ?_
    refine g_putI (k := 3) cl_X9 (by decide) rfl rfl q_48 dX9_peek_64 ?_
    intro m6
    refine g_iconst (v := (-1 : Int32)) dX9_peek_67 ki_m1 ?_
    exact g_ireturn rfl dX9_peek_68
  · intro v0 v1 m
    refine g_aload_n (i := 0) dX9_peek_42 rfl rfl ?_
    refine g_getR (k := 0) cl_X9 (by decide) rfl q_43 dX9_peek_43 ?_
    intro q7
    refine g_iload_n (i := 1) dX9_peek_46 rfl rfl ?_
    refine g_baload dX9_peek_47 ?_
    refine g_sipush (v := (255 : Int32)) dX9_peek_48 ks_255 ?_
    refine g_iand dX9_peek_51 ?_
    exact g_ireturn rfl dX9_peek_52
set_option maxRecDepth 100000 in
set_option maxHeartbeats 4000000 in
theorem crt_X9_isEnded (l : Launch) (θ : Th) (a0 : Nat) (m : Mm) : Crt l θ yX9_isEnded M_X9_isEnded cvI [.ref a0] m (F_X9_isEnded a0 m) := by
  refine crt_of 0 (by decide) rfl rfl (Nat.le_of_ble_eq_true rfl) (fun Z hμ => ?_)
  unfold F_X9_isEnded
  show GG Z _ _ 0 [some (.ref a0)] [] m _
  refine g_aload_n (i := 0) dX9_isEnded_0 rfl rfl ?_
  refine g_callVI cl_X9 (crt_X9_peek _ _ _ _) cw_X9_peek (by decide) rfl q_743 q_744 q_745 rfl rfl dX9_isEnded_1 ?_
  intro r1 m2
  refine g_iconst (v := (-1 : Int32)) dX9_isEnded_4 ki_m1 ?_
  refine g_icmpne (tgt := 12) dX9_isEnded_5 (by decide) ?_ ?_
  · refine g_iconst (v := (0 : Int32)) dX9_isEnded_12 ki_0 ?_
    exact g_zreturnK rfl (by decide) dX9_isEnded_13
  · refine g_iconst (v := (1 : Int32)) dX9_isEnded_8 ki_1 ?_
    refine g_goto (tgt := 13) dX9_isEnded_9 (by decide) ?_
    exact g_zreturnK rfl (by decide) dX9_isEnded_13
set_option maxRecDepth 100000 in
set_option maxHeartbeats 4000000 in
theorem crt_X9_isDigit (l : Launch) (θ : Th) (a0 : Int32) (m : Mm) : Crt l θ yX9_isDigit M_X9_isDigit cvI [.int a0] m (F_X9_isDigit a0 m) := by
  refine crt_of 0 (by decide) rfl rfl (Nat.le_of_ble_eq_true rfl) (fun Z hμ => ?_)
  unfold F_X9_isDigit
  show GG Z _ _ 0 [some (.int a0)] [] m _
  refine g_iload_n (i := 0) dX9_isDigit_0 rfl rfl ?_
  refine g_bipush (v := (48 : Int32)) dX9_isDigit_1 kb_48 ?_
  refine g_icmplt (tgt := 16) dX9_isDigit_3 (by decide) ?_ ?_
  · refine g_iconst (v := (0 : Int32)) dX9_isDigit_16 ki_0 ?_
    exact g_zreturnK rfl (by decide) dX9_isDigit_17
  · refine g_iload_n (i := 0) dX9_isDigit_6 rfl rfl ?_
    refine g_bipush (v := (57 : Int32)) dX9_isDigit_7 kb_57 ?_
    refine g_icmpgt (tgt := 16) dX9_isDigit_9 (by decide) ?_ ?_
    · refine g_iconst (v := (0 : Int32)) dX9_isDigit_16 ki_0 ?_
      exact g_zreturnK rfl (by decide) dX9_isDigit_17
    · refine g_iconst (v := (1 : Int32)) dX9_isDigit_12 ki_1 ?_
      refine g_goto (tgt := 17) dX9_isDigit_13 (by decide) ?_
      exact g_zreturnK rfl (by decide) dX9_isDigit_17
set_option maxRecDepth 100000 in
set_option maxHeartbeats 4000000 in
theorem crt_X9_fail (l : Launch) (θ : Th) (a0 : Nat) (a1 : Int32) (a2 : Int32) (m : Mm) : Crt l θ yX9_fail M_X9_fail cvI [.ref a0, .int a1, .int a2] m (F_X9_fail a0 a1 a2 m) := by
  refine crt_of 0 (by decide) rfl rfl (Nat.le_of_ble_eq_true rfl) (fun Z hμ => ?_)
  unfold F_X9_fail
  show GG Z _ _ 0 [some (.ref a0), some (.int a1), some (.int a2)] [] m _
  refine g_aload_n (i := 0) dX9_fail_0 rfl rfl ?_
  refine g_iload_n (i := 1) dX9_fail_1 rfl rfl ?_
  refine g_putI (k := 6) cl_X9 (by decide) rfl rfl q_60 dX9_fail_2 ?_
  intro m1
  refine g_aload_n (i := 0) dX9_fail_5 rfl rfl ?_
  refine g_iload_n (i := 2) dX9_fail_6 rfl rfl ?_
  refine g_putI (k := 7) cl_X9 (by decide) rfl rfl q_61 dX9_fail_7 ?_
  intro m2
  refine g_iconst (v := (0 : Int32)) dX9_fail_10 ki_0 ?_
  exact g_zreturnK rfl (by decide) dX9_fail_11
set_option maxRecDepth 100000 in
set_option maxHeartbeats 4000000 in
theorem crt_X9_byteAt (l : Launch) (θ : Th) (a0 : Nat) (a1 : Int32) (m : Mm) : Crt l θ yX9_byteAt M_X9_byteAt cvI [.ref a0, .int a1] m (F_X9_byteAt a0 a1 m) := by
  refine crt_of 0 (by decide) rfl rfl (Nat.le_of_ble_eq_true rfl) (fun Z hμ => ?_)
  unfold F_X9_byteAt
  show GG Z _ _ 0 [some (.ref a0), some (.int a1)] [] m _
  refine g_iload_n (i := 1) dX9_byteAt_0 rfl rfl ?_
  refine g_iflt (tgt := 34) dX9_byteAt_1 (by decide) ?_ ?_
  · refine g_iconst (v := (-1 : Int32)) dX9_byteAt_34 ki_m1 ?_
    exact g_ireturn rfl dX9_byteAt_35
  · refine g_iload_n (i := 1) dX9_byteAt_4 rfl rfl ?_
    refine g_aload_n (i := 0) dX9_byteAt_5 rfl rfl ?_
    refine g_getI (k := 2) cl_X9 (by decide) rfl q_46 dX9_byteAt_6 ?_
    refine g_icmpge (tgt := 34) dX9_byteAt_9 (by decide) ?_ ?_
    · refine g_iconst (v := (-1 : Int32)) dX9_byteAt_34 ki_m1 ?_
      exact g_ireturn rfl dX9_byteAt_35
    · refine g_iload_n (i := 1) dX9_byteAt_12 rfl rfl ?_
      refine g_aload_n (i := 0) dX9_byteAt_13 rfl rfl ?_
      refine g_getR (k := 0) cl_X9 (by decide) rfl q_43 dX9_byteAt_14 ?_
      intro q1
      refine g_alen102 dX9_byteAt_17 ?_
      refine g_icmpge (tgt := 34) dX9_byteAt_18 (by decide) ?_ ?_
      · refine g_iconst (v := (-1 : Int32)) dX9_byteAt_34 ki_m1 ?_
        exact g_ireturn rfl dX9_byteAt_35
      · refine g_aload_n (i := 0) dX9_byteAt_21 rfl rfl ?_
        refine g_getR (k := 0) cl_X9 (by decide) rfl q_43 dX9_byteAt_22 ?_
        intro q2
        refine g_iload_n (i := 1) dX9_byteAt_25 rfl rfl ?_
        refine g_baload dX9_byteAt_26 ?_
        refine g_sipush (v := (255 : Int32)) dX9_byteAt_27 ks_255 ?_
        refine g_iand dX9_byteAt_30 ?_
        refine g_goto (tgt := 35) dX9_byteAt_31 (by decide) ?_
        exact g_ireturn rfl dX9_byteAt_35
set_option maxRecDepth 100000 in
set_option maxHeartbeats 4000000 in
theorem crt_X11_isWithin (l : Launch) (θ : Th) (a0 : Int32) (a1 : Int32) (a2 : Int32) (m : Mm) : Crt l θ yX11_isWithin M_X11_isWithin cvI [.int a0, .int a1, .int a2] m (F_X11_isWithin a0 a1 a2 m) := by
  refine crt_of 0 (by decide) rfl rfl (Nat.le_of_ble_eq_true rfl) (fun Z hμ => ?_)
  unfold F_X11_isWithin
  show GG Z _ _ 0 [some (.int a0), some (.int a1), some (.int a2)] [] m _
  refine g_iload_n (i := 0) dX11_isWithin_0 rfl rfl ?_
  refine g_iload_n (i := 1) dX11_isWithin_1 rfl rfl ?_
  refine g_icmplt (tgt := 14) dX11_isWithin_2 (by decide) ?_ ?_
  · refine g_iconst (v := (0 : Int32)) dX11_isWithin_14 ki_0 ?_
    exact g_zreturnK rfl (by decide) dX11_isWithin_15
  · refine g_iload_n (i := 0) dX11_isWithin_5 rfl rfl ?_
    refine g_iload_n (i := 2) dX11_isWithin_6 rfl rfl ?_
    refine g_icmpgt (tgt := 14) dX11_isWithin_7 (by decide) ?_ ?_
    · refine g_iconst (v := (0 : Int32)) dX11_isWithin_14 ki_0 ?_
      exact g_zreturnK rfl (by decide) dX11_isWithin_15
    · refine g_iconst (v := (1 : Int32)) dX11_isWithin_10 ki_1 ?_
      refine g_goto (tgt := 15) dX11_isWithin_11 (by decide) ?_
      exact g_zreturnK rfl (by decide) dX11_isWithin_15
set_option maxRecDepth 100000 in
set_option maxHeartbeats 4000000 in
theorem c_L_X9_number_38 {Z : Zx}  {K104 : Nat → Int32 → Int32 → Mm → Option (Int32 × Mm)} (hK104 : ∀ (v0 : Nat) (v1 : Int32) (v2 : Int32) (m : Mm), GG Z M_X9_number (PsN Z cvI) 104 [some (.ref v0), some (.int v1), some (.int v2), none] [] m (K104 v0 v1 v2 m)) : ∀ (n : Nat) (v0 : Nat) (v1 : Int32) (v2 : Int32) (v3 : Int32) (m : Mm), GG Z M_X9_number (PsN Z cvI) 38 [some (.ref v0), some (.int v1), some (.int v2), some (.int v3)] [] m (L_X9_number_38 K104 n v0 v1 v2 v3 m) := by
  intro n
  induction n with
  | zero => intro v0 v1 v2 v3 m; exact g_no
  | succ n ih =>
    intro v0 v1 v2 v3 m
    unfold L_X9_number_38
    refine g_iload_n (i := 3) dX9_number_38 rfl rfl ?_
    refine g_aload_n (i := 0) dX9_number_39 rfl rfl ?_
    refine g_getI (k := 2) cl_X9 (by decide) rfl q_46 dX9_number_40 ?_
    refine g_icmpge (tgt := 104) dX9_number_43 (by decide) ?_ ?_
    · exact g_msk [true, true, true, false] (hK104 _ _ _ _)
    · refine g_aload_n (i := 0) dX9_number_46 rfl rfl ?_
      refine g_aload_n (i := 0) dX9_number_47 rfl rfl ?_
      refine g_getI (k := 3) cl_X9 (by decide) rfl q_48 dX9_number_48 ?_
      refine g_callVI cl_X9 (crt_X9_byteAt _ _ _ _ _) cw_X9_byteAt (by decide) rfl q_758 q_760 qs_15 rfl rfl dX9_number_51 ?_
      intro r8 m9
      refine g_callSI (crt_X9_isDigit _ _ _ _) cw_X9_isDigit (by decide) rfl q_824 q_825 rfl rfl dX9_number_54 ?_
      intro r10 m11
      refine g_ifeq (tgt := 104) dX9_number_57 (by decide) ?_ ?_
      · exact g_msk [true, true, true, false] (hK104 _ _ _ _)
      · refine g_aload_n (i := 0) dX9_number_60 rfl rfl ?_
        refine g_ldc (v := (1000000 : Int32)) dX9_number_61 q_827 ?_
        refine g_aload_n (i := 0) dX9_number_63 rfl rfl ?_
        refine g_getI (k := 5) cl_X9 (by decide) rfl q_58 dX9_number_64 ?_
        refine g_bipush (v := (10 : Int32)) dX9_number_67 kb_10 ?_
        refine g_imul dX9_number_69 ?_
        refine g_aload_n (i := 0) dX9_number_70 rfl rfl ?_
        refine g_aload_n (i := 0) dX9_number_71 rfl rfl ?_
        refine g_getI (k := 3) cl_X9 (by decide) rfl q_48 dX9_number_72 ?_
        refine g_callVI cl_X9 (crt_X9_byteAt _ _ _ _ _) cw_X9_byteAt (by decide) rfl q_758 q_760 qs_15 rfl rfl dX9_number_75 ?_
        intro r12 m13
        refine g_iadd dX9_number_78 ?_
        refine g_bipush (v := (48 : Int32)) dX9_number_79 kb_48 ?_
        refine g_isub dX9_number_81 ?_
        refine g_mmin q_734 q_469 q_13 qm_min (by decide) rfl dX9_number_82 ?_
        refine g_putI (k := 5) cl_X9 (by decide) rfl rfl q_58 dX9_number_85 ?_
        intro m14
        refine g_aload_n (i := 0) dX9_number_88 rfl rfl ?_
        refine g_dup dX9_number_89 rfl ?_
        refine g_getI (k := 3) cl_X9 (by decide) rfl q_48 dX9_number_90 ?_
        refine g_iconst (v := (1 : Int32)) dX9_number_93 ki_1 ?_
        refine g_iadd dX9_number_94 ?_
        refine g_putI (k := 3) cl_X9 (by decide) rfl rfl q_48 dX9_number_95 ?_
        intro m15
        refine g_iinc dX9_number_98 rfl ki_1 (show 3 < 4 by decide) ?_
        intro x16
        refine g_goto (tgt := 38) dX9_number_101 (by decide) ?_
        exact g_msk [true, true, true, true] (ih _ _ _ _ _)
set_option maxRecDepth 100000 in
set_option maxHeartbeats 4000000 in
theorem crt_X9_number (l : Launch) (θ : Th) (a0 : Nat) (a1 : Int32) (a2 : Int32) (m : Mm) : Crt l θ yX9_number M_X9_number cvI [.ref a0, .int a1, .int a2] m (F_X9_number a0 a1 a2 m) := by
  refine crt_of 1 (by decide) rfl rfl (Nat.le_of_ble_eq_true rfl) (fun Z hμ => ?_)
  unfold F_X9_number
  show GG Z _ _ 0 [some (.ref a0), some (.int a1), some (.int a2), none] [] m _
  refine g_aload_n (i := 0) dX9_number_0 rfl rfl ?_
  refine g_callVI cl_X9 (crt_X9_peek _ _ _ _) cw_X9_peek (by decide) rfl q_743 q_744 q_745 rfl rfl dX9_number_1 ?_
  intro r1 m2
  refine g_callSI (crt_X9_isDigit _ _ _ _) cw_X9_isDigit (by decide) rfl q_824 q_825 rfl rfl dX9_number_4 ?_
  intro r3 m4
  refine g_ifne (tgt := 20) dX9_number_7 (by decide) ?_ ?_
  · refine g_aload_n (i := 0) dX9_number_20 rfl rfl ?_
    refine g_aload_n (i := 0) dX9_number_21 rfl rfl ?_
    refine g_getI (k := 3) cl_X9 (by decide) rfl q_48 dX9_number_22 ?_
    refine g_putI (k := 4) cl_X9 (by decide) rfl rfl q_53 dX9_number_25 ?_
    intro m5
    refine g_aload_n (i := 0) dX9_number_28 rfl rfl ?_
    refine g_iconst (v := (0 : Int32)) dX9_number_29 ki_0 ?_
    refine g_putI (k := 5) cl_X9 (by decide) rfl rfl q_58 dX9_number_30 ?_
    intro m6
    refine g_aload_n (i := 0) dX9_number_33 rfl rfl ?_
    refine g_getI (k := 4) cl_X9 (by decide) rfl q_53 dX9_number_34 ?_
    refine g_istore_n (i := 3) dX9_number_37 rfl (show 3 < 4 by decide) ?_
    intro x7
    refine g_msk [true, true, true, true] (c_L_X9_number_38 ?_ NF _ _ _ _ _)
    intro v0 v1 v2 m
    refine g_aload_n (i := 0) dX9_number_104 rfl rfl ?_
    refine g_getI (k := 5) cl_X9 (by decide) rfl q_58 dX9_number_105 ?_
    refine g_iload_n (i := 1) dX9_number_108 rfl rfl ?_
    refine g_iload_n (i := 2) dX9_number_109 rfl rfl ?_
    refine g_callSNI (crt_X11_isWithin _ _ _ _ _ _) cw_X11_isWithin (by decide) rfl q_828 q_628 rfl rfl dX9_number_110 ?_
    intro r17 m18
    refine g_ifne (tgt := 128) dX9_number_113 (by decide) ?_ ?_
    · refine g_iconst (v := (1 : Int32)) dX9_number_128 ki_1 ?_
      refine g_goto (tgt := 133) dX9_number_129 (by decide) ?_
      exact g_zreturnK rfl (by decide) dX9_number_133
    · refine g_aload_n (i := 0) dX9_number_116 rfl rfl ?_
      refine g_iconst (v := (2 : Int32)) dX9_number_117 ki_2 ?_
      refine g_aload_n (i := 0) dX9_number_118 rfl rfl ?_
      refine g_getI (k := 4) cl_X9 (by decide) rfl q_53 dX9_number_119 ?_
      refine g_callVI cl_X9 (crt_X9_fail _ _ _ _ _ _) cw_X9_fail (by decide) rfl q_754 q_755 q_756 rfl rfl dX9_number_122 ?_
      intro r19 m20
      refine g_ifeq (tgt := 132) dX9_number_125 (by decide) ?_ ?_
      · refine g_iconst (v := (0 : Int32)) dX9_number_132 ki_0 ?_
        exact g_zreturnK rfl (by decide) dX9_number_133
      · refine g_iconst (v := (1 : Int32)) dX9_number_128 ki_1 ?_
        refine g_goto (tgt := 133) dX9_number_129 (by decide) ?_
        exact g_zreturnK rfl (by decide) dX9_number_133
  · refine g_aload_n (i := 0) dX9_number_10 rfl rfl ?_
    refine g_iconst (v := (1 : Int32)) dX9_number_11 ki_1 ?_
    refine g_aload_n (i := 0) dX9_number_12 rfl rfl ?_
    refine g_getI (k := 3) cl_X9 (by decide) rfl q_48 dX9_number_13 ?_
    refine g_callVI cl_X9 (crt_X9_fail _ _ _ _ _ _) cw_X9_fail (by decide) rfl q_754 q_755 q_756 rfl rfl dX9_number_16 ?_
    intro r21 m22
    exact g_zreturn rfl dX9_number_19
set_option maxRecDepth 100000 in
set_option maxHeartbeats 4000000 in
theorem crt_X11_has (l : Launch) (θ : Th) (a0 : Int32) (a1 : Int32) (m : Mm) : Crt l θ yX11_has M_X11_has cvI [.int a0, .int a1] m (F_X11_has a0 a1 m) := by
  refine crt_of 0 (by decide) rfl rfl (Nat.le_of_ble_eq_true rfl) (fun Z hμ => ?_)
  unfold F_X11_has
  show GG Z _ _ 0 [some (.int a0), some (.int a1)] [] m _
  refine g_iload_n (i := 1) dX11_has_0 rfl rfl ?_
  refine g_iflt (tgt := 22) dX11_has_1 (by decide) ?_ ?_
  · refine g_iconst (v := (0 : Int32)) dX11_has_22 ki_0 ?_
    exact g_zreturnK rfl (by decide) dX11_has_23
  · refine g_iload_n (i := 1) dX11_has_4 rfl rfl ?_
    refine g_bipush (v := (6 : Int32)) dX11_has_5 kb_6 ?_
    refine g_icmpge (tgt := 22) dX11_has_7 (by decide) ?_ ?_
    · refine g_iconst (v := (0 : Int32)) dX11_has_22 ki_0 ?_
      exact g_zreturnK rfl (by decide) dX11_has_23
    · refine g_iload_n (i := 0) dX11_has_10 rfl rfl ?_
      refine g_iload_n (i := 1) dX11_has_11 rfl rfl ?_
      refine g_ishr dX11_has_12 ?_
      refine g_iconst (v := (1 : Int32)) dX11_has_13 ki_1 ?_
      refine g_iand dX11_has_14 ?_
      refine g_ifeq (tgt := 22) dX11_has_15 (by decide) ?_ ?_
      · refine g_iconst (v := (0 : Int32)) dX11_has_22 ki_0 ?_
        exact g_zreturnK rfl (by decide) dX11_has_23
      · refine g_iconst (v := (1 : Int32)) dX11_has_18 ki_1 ?_
        refine g_goto (tgt := 23) dX11_has_19 (by decide) ?_
        exact g_zreturnK rfl (by decide) dX11_has_23
set_option maxRecDepth 100000 in
set_option maxHeartbeats 4000000 in
theorem crt_X9_sign (l : Launch) (θ : Th) (a0 : Nat) (a1 : Int32) (m : Mm) : Crt l θ yX9_sign M_X9_sign cvI [.ref a0, .int a1] m (F_X9_sign a0 a1 m) := by
  refine crt_of 0 (by decide) rfl rfl (Nat.le_of_ble_eq_true rfl) (fun Z hμ => ?_)
  unfold F_X9_sign
  show GG Z _ _ 0 [some (.ref a0), some (.int a1)] [] m _
  refine g_aload_n (i := 0) dX9_sign_0 rfl rfl ?_
  refine g_callVI cl_X9 (crt_X9_peek _ _ _ _) cw_X9_peek (by decide) rfl q_743 q_744 q_745 rfl rfl dX9_sign_1 ?_
  intro r1 m2
  refine g_iload_n (i := 1) dX9_sign_4 rfl rfl ?_
  refine g_icmpeq (tgt := 18) dX9_sign_5 (by decide) ?_ ?_
  · refine g_aload_n (i := 0) dX9_sign_18 rfl rfl ?_
    refine g_dup dX9_sign_19 rfl ?_
    refine g_getI (k := 3) cl_X9 (by decide) rfl q_48 dX9_sign_20 ?_
    refine g_iconst (v := (1 : Int32)) dX9_sign_23 ki_1 ?_
    refine g_iadd dX9_sign_24 ?_
    refine g_putI (k := 3) cl_X9 (by decide) rfl rfl q_48 dX9_sign_25 ?_
    intro m3
    refine g_iconst (v := (1 : Int32)) dX9_sign_28 ki_1 ?_
    exact g_zreturnK rfl (by decide) dX9_sign_29
  · refine g_aload_n (i := 0) dX9_sign_8 rfl rfl ?_
    refine g_iconst (v := (1 : Int32)) dX9_sign_9 ki_1 ?_
    refine g_aload_n (i := 0) dX9_sign_10 rfl rfl ?_
    refine g_getI (k := 3) cl_X9 (by decide) rfl q_48 dX9_sign_11 ?_
    refine g_callVI cl_X9 (crt_X9_fail _ _ _ _ _ _) cw_X9_fail (by decide) rfl q_754 q_755 q_756 rfl rfl dX9_sign_14 ?_
    intro r4 m5
    exact g_zreturn rfl dX9_sign_17
set_option maxRecDepth 100000 in
set_option maxHeartbeats 4000000 in
theorem crt_J6_bitCount_0f7a4 (l : Launch) (θ : Th) (a0 : Int32) (m : Mm) : Crt l θ yJ6_bitCount_0f7a4 M_J6_bitCount_0f7a4 cvI [.int a0] m (F_J6_bitCount_0f7a4 a0 m) := by
  refine crt_of 0 (by decide) rfl rfl (Nat.le_of_ble_eq_true rfl) (fun Z hμ => ?_)
  unfold F_J6_bitCount_0f7a4
  show GG Z _ _ 0 [some (.int a0)] [] m _
  refine g_iload_n (i := 0) dJ6_bitCount_0f7a4_0 rfl rfl ?_
  refine g_iload_n (i := 0) dJ6_bitCount_0f7a4_1 rfl rfl ?_
  refine g_iconst (v := (1 : Int32)) dJ6_bitCount_0f7a4_2 ki_1 ?_
  refine g_iushr dJ6_bitCount_0f7a4_3 ?_
  refine g_ldcw (v := (1431655765 : Int32)) dJ6_bitCount_0f7a4_4 q_458 ?_
  refine g_iand dJ6_bitCount_0f7a4_7 ?_
  refine g_isub dJ6_bitCount_0f7a4_8 ?_
  refine g_istore_n (i := 0) dJ6_bitCount_0f7a4_9 rfl (show 0 < 1 by decide) ?_
  intro x1
  refine g_iload_n (i := 0) dJ6_bitCount_0f7a4_10 rfl rfl ?_
  refine g_ldcw (v := (858993459 : Int32)) dJ6_bitCount_0f7a4_11 q_459 ?_
  refine g_iand dJ6_bitCount_0f7a4_14 ?_
  refine g_iload_n (i := 0) dJ6_bitCount_0f7a4_15 rfl rfl ?_
  refine g_iconst (v := (2 : Int32)) dJ6_bitCount_0f7a4_16 ki_2 ?_
  refine g_iushr dJ6_bitCount_0f7a4_17 ?_
  refine g_ldcw (v := (858993459 : Int32)) dJ6_bitCount_0f7a4_18 q_459 ?_
  refine g_iand dJ6_bitCount_0f7a4_21 ?_
  refine g_iadd dJ6_bitCount_0f7a4_22 ?_
  refine g_istore_n (i := 0) dJ6_bitCount_0f7a4_23 rfl (show 0 < 1 by decide) ?_
  intro x2
  refine g_iload_n (i := 0) dJ6_bitCount_0f7a4_24 rfl rfl ?_
  refine g_iload_n (i := 0) dJ6_bitCount_0f7a4_25 rfl rfl ?_
  refine g_iconst (v := (4 : Int32)) dJ6_bitCount_0f7a4_26 ki_4 ?_
  refine g_iushr dJ6_bitCount_0f7a4_27 ?_
  refine g_iadd dJ6_bitCount_0f7a4_28 ?_
  refine g_ldcw (v := (252645135 : Int32)) dJ6_bitCount_0f7a4_29 q_460 ?_
  refine g_iand dJ6_bitCount_0f7a4_32 ?_
  refine g_istore_n (i := 0) dJ6_bitCount_0f7a4_33 rfl (show 0 < 1 by decide) ?_
  intro x3
  refine g_iload_n (i := 0) dJ6_bitCount_0f7a4_34 rfl rfl ?_
  refine g_iload_n (i := 0) dJ6_bitCount_0f7a4_35 rfl rfl ?_
  refine g_bipush (v := (8 : Int32)) dJ6_bitCount_0f7a4_36 kb_8 ?_
  refine g_iushr dJ6_bitCount_0f7a4_38 ?_
  refine g_iadd dJ6_bitCount_0f7a4_39 ?_
  refine g_istore_n (i := 0) dJ6_bitCount_0f7a4_40 rfl (show 0 < 1 by decide) ?_
  intro x4
  refine g_iload_n (i := 0) dJ6_bitCount_0f7a4_41 rfl rfl ?_
  refine g_iload_n (i := 0) dJ6_bitCount_0f7a4_42 rfl rfl ?_
  refine g_bipush (v := (16 : Int32)) dJ6_bitCount_0f7a4_43 kb_16 ?_
  refine g_iushr dJ6_bitCount_0f7a4_45 ?_
  refine g_iadd dJ6_bitCount_0f7a4_46 ?_
  refine g_istore_n (i := 0) dJ6_bitCount_0f7a4_47 rfl (show 0 < 1 by decide) ?_
  intro x5
  refine g_iload_n (i := 0) dJ6_bitCount_0f7a4_48 rfl rfl ?_
  refine g_bipush (v := (63 : Int32)) dJ6_bitCount_0f7a4_49 kb_63 ?_
  refine g_iand dJ6_bitCount_0f7a4_51 ?_
  exact g_ireturn rfl dJ6_bitCount_0f7a4_52
set_option maxRecDepth 100000 in
set_option maxHeartbeats 4000000 in
theorem c_L_X0_read_8 {Z : Zx}  {K105 : Nat → Int32 → Int32 → Mm → Option (Int32 × Mm)} {K50 : Nat → Mm → Option (Int32 × Mm)} (hK105 : ∀ (v0 : Nat) (v3 : Int32) (v4 : Int32) (m : Mm), GG Z M_X0_read (PsN Z cvI) 105 [some (.ref v0), none, none, some (.int v3), some (.int v4), none, none] [] m (K105 v0 v3 v4 m)) (hK50 : ∀ (v1 : Nat) (m : Mm), GG Z M_X0_read (PsN Z cvI) 50 [none, some (.ref v1), none, none, none, none, none] [] m (K50 v1 m)) : ∀ (n : Nat) (v0 : Nat) (v1 : Nat) (v2 : Int32) (v3 : Int32) (v4 : Int32) (v5 : Int32) (m : Mm), GG Z M_X0_read (PsN Z cvI) 8 [some (.ref v0), some (.ref v1), some (.int v2), some (.int v3), some (.int v4), some (.int v5), none] [] m (L_X0_read_8 K105 K50 n v0 v1 v2 v3 v4 v5 m) := by
  intro n
  induction n with
  | zero => intro v0 v1 v2 v3 v4 v5 m; exact g_no
  | succ n ih =>
    intro v0 v1 v2 v3 v4 v5 m
    unfold L_X0_read_8
    refine g_iload dX0_read_8 rfl ?_
    refine g_bipush (v := (6 : Int32)) dX0_read_10 kb_6 ?_
    refine g_icmpgt (tgt := 105) dX0_read_12 (by decide) ?_ ?_
    · exact g_msk [true, false, false, true, true, false, false] (hK105 _ _ _ _)
    · refine g_aload_n (i := 1) dX0_read_15 rfl rfl ?_
      refine g_callVI cl_X9 (crt_X9_isEnded _ _ _ _) cw_X9_isEnded (by decide) rfl q_1056 q_740 q_741 rfl rfl dX0_read_16 ?_
      intro r4 m5
      refine g_ifne (tgt := 105) dX0_read_19 (by decide) ?_ ?_
      · exact g_msk [true, false, false, true, true, false, false] (hK105 _ _ _ _)
      · refine g_aload_n (i := 1) dX0_read_22 rfl rfl ?_
        refine g_iconst (v := (0 : Int32)) dX0_read_23 ki_0 ?_
        refine g_iload_n (i := 2) dX0_read_24 rfl rfl ?_
        refine g_iconst (v := (1 : Int32)) dX0_read_25 ki_1 ?_
        refine g_isub dX0_read_26 ?_
        refine g_callVI cl_X9 (crt_X9_number _ _ _ _ _ _) cw_X9_number (by decide) rfl q_1057 q_821 q_822 rfl rfl dX0_read_27 ?_
        intro r6 m7
        refine g_ifne (tgt := 35) dX0_read_30 (by decide) ?_ ?_
        · refine g_aload_n (i := 1) dX0_read_35 rfl rfl ?_
          refine g_getIN (k := 5) cl_X9 (by decide) rfl q_55 dX0_read_36 ?_
          refine g_istore dX0_read_39 (show 6 < 7 by decide) ?_
          intro x8
          refine g_iload_n (i := 3) dX0_read_41 rfl rfl ?_
          refine g_iload dX0_read_42 rfl ?_
          refine g_callSNI (crt_X11_has _ _ _ _ _) cw_X11_has (by decide) rfl q_1058 q_360 rfl rfl dX0_read_44 ?_
          intro r9 m10
          refine g_ifeq (tgt := 60) dX0_read_47 (by decide) ?_ ?_
          · refine g_aload_n (i := 1) dX0_read_60 rfl rfl ?_
            refine g_iconst (v := (0 : Int32)) dX0_read_61 ki_0 ?_
            refine g_iconst (v := (1 : Int32)) dX0_read_62 ki_1 ?_
            refine g_callVI cl_X9 (crt_X9_number _ _ _ _ _ _) cw_X9_number (by decide) rfl q_1057 q_821 q_822 rfl rfl dX0_read_63 ?_
            intro r11 m12
            refine g_ifeq (tgt := 78) dX0_read_66 (by decide) ?_ ?_
            · refine g_iconst (v := (0 : Int32)) dX0_read_78 ki_0 ?_
              exact g_zreturnK rfl (by decide) dX0_read_79
            · refine g_aload_n (i := 1) dX0_read_69 rfl rfl ?_
              refine g_bipush (v := (59 : Int32)) dX0_read_70 kb_59 ?_
              refine g_callVI cl_X9 (crt_X9_sign _ _ _ _ _) cw_X9_sign (by decide) rfl q_1060 q_830 q_831 rfl rfl dX0_read_72 ?_
              intro r13 m14
              refine g_ifne (tgt := 80) dX0_read_75 (by decide) ?_ ?_
              · refine g_iload_n (i := 3) dX0_read_80 rfl rfl ?_
                refine g_iconst (v := (1 : Int32)) dX0_read_81 ki_1 ?_
                refine g_iload dX0_read_82 rfl ?_
                refine g_ishl dX0_read_84 ?_
                refine g_ior dX0_read_85 ?_
                refine g_istore_n (i := 3) dX0_read_86 rfl (show 3 < 7 by decide) ?_
                intro x15
                refine g_iload dX0_read_87 rfl ?_
                refine g_aload_n (i := 1) dX0_read_89 rfl rfl ?_
                refine g_getIN (k := 5) cl_X9 (by decide) rfl q_55 dX0_read_90 ?_
                refine g_iload dX0_read_93 rfl ?_
                refine g_ishl dX0_read_95 ?_
                refine g_ior dX0_read_96 ?_
                refine g_istore dX0_read_97 (show 4 < 7 by decide) ?_
                intro x16
                refine g_iinc dX0_read_99 rfl ki_1 (show 5 < 7 by decide) ?_
                intro x17
                refine g_goto (tgt := 8) dX0_read_102 (by decide) ?_
                exact g_msk [true, true, true, true, true, true, false] (ih _ _ _ _ _ _ _)
              · refine g_iconst (v := (0 : Int32)) dX0_read_78 ki_0 ?_
                exact g_zreturnK rfl (by decide) dX0_read_79
          · exact g_msk [false, true, false, false, false, false, false] (hK50 _ _)
        · refine g_iconst (v := (0 : Int32)) dX0_read_33 ki_0 ?_
          exact g_zreturnK rfl (by decide) dX0_read_34
set_option maxRecDepth 100000 in
set_option maxHeartbeats 4000000 in
theorem crt_X0_read (l : Launch) (θ : Th) (a0 : Nat) (a1 : Nat) (a2 : Int32) (m : Mm) : Crt l θ yX0_read M_X0_read cvI [.ref a0, .ref a1, .int a2] m (F_X0_read a0 a1 a2 m) := by
  refine crt_of 4 (by decide) rfl rfl (Nat.le_of_ble_eq_true rfl) (fun Z hμ => ?_)
  unfold F_X0_read
  show GG Z _ _ 0 [some (.ref a0), some (.ref a1), some (.int a2), none, none, none, none] [] m _
  refine g_iconst (v := (0 : Int32)) dX0_read_0 ki_0 ?_
  refine g_istore_n (i := 3) dX0_read_1 rfl (show 3 < 7 by decide) ?_
  intro x1
  refine g_iconst (v := (0 : Int32)) dX0_read_2 ki_0 ?_
  refine g_istore dX0_read_3 (show 4 < 7 by decide) ?_
  intro x2
  refine g_iconst (v := (0 : Int32)) dX0_read_5 ki_0 ?_
  refine g_istore dX0_read_6 (show 5 < 7 by decide) ?_
  intro x3
  refine g_msk [true, true, true, true, true, true, false] (c_L_X0_read_8 ?_ ?_ NF _ _ _ _ _ _ _)
  · intro v0 v3 v4 m
    refine g_aload_n (i := 0) dX0_read_105 rfl rfl ?_
    refine g_iload_n (i := 3) dX0_read_106 rfl rfl ?_
    refine g_callSI (crt_J6_bitCount_0f7a4 _ _ _ _) cw_J6_bitCount_0f7a4 (by decide) rfl q_1061 q_456 rfl rfl dX0_read_107 ?_
    intro r18 m19
    refine g_putI (k := 0) cl_X0 (by decide) rfl rfl q_169 dX0_read_110 ?_
    intro m20
    refine g_aload_n (i := 0) dX0_read_113 rfl rfl ?_
    refine g_iload_n (i := 3) dX0_read_114 rfl rfl ?_
    refine g_putI (k := 1) cl_X0 (by decide) rfl rfl q_171 dX0_read_115 ?_
    intro m21
    refine g_aload_n (i := 0) dX0_read_118 rfl rfl ?_
    refine g_iload dX0_read_119 rfl ?_
    refine g_putI (k := 2) cl_X0 (by decide) rfl rfl q_172 dX0_read_121 ?_
    intro m22
    refine g_iconst (v := (1 : Int32)) dX0_read_124 ki_1 ?_
    exact g_zreturnK rfl (by decide) dX0_read_125
  · intro v1 m
    refine g_aload_n (i := 1) dX0_read_50 rfl rfl ?_
    refine g_iconst (v := (2 : Int32)) dX0_read_51 ki_2 ?_
    refine g_aload_n (i := 1) dX0_read_52 rfl rfl ?_
    refine g_getIN (k := 4) cl_X9 (by decide) rfl q_50 dX0_read_53 ?_
    refine g_callVI cl_X9 (crt_X9_fail _ _ _ _ _ _) cw_X9_fail (by decide) rfl q_1059 q_755 q_756 rfl rfl dX0_read_56 ?_
    intro r23 m24
    exact g_zreturn rfl dX0_read_59
set_option maxRecDepth 100000 in
set_option maxHeartbeats 4000000 in
theorem crt_X3_reckon (l : Launch) (θ : Th) (a0 : Int32) (a1 : Int32) (a2 : Int32) (m : Mm) : Crt l θ yX3_reckon M_X3_reckon cvI [.int a0, .int a1, .int a2] m (F_X3_reckon a0 a1 a2 m) := by
  refine crt_of 0 (by decide) rfl rfl (Nat.le_of_ble_eq_true rfl) (fun Z hμ => ?_)
  unfold F_X3_reckon
  show GG Z _ _ 0 [some (.int a0), some (.int a1), some (.int a2)] [] m _
  refine g_iload_n (i := 0) dX3_reckon_0 rfl rfl ?_
  refine g_sw0 (lo := 1004) ?_
  refine g_swc (k := 0) (tgt := 40) dX3_reckon_1 (by decide) kt_1004 rfl (by decide) ?_ ?_
  · refine g_iload_n (i := 1) dX3_reckon_40 rfl rfl ?_
    refine g_iload_n (i := 2) dX3_reckon_41 rfl rfl ?_
    refine g_mmin q_468 q_469 q_13 qm_min (by decide) rfl dX3_reckon_42 ?_
    exact g_ireturn rfl dX3_reckon_45
  · refine g_swc (k := 1) (tgt := 46) dX3_reckon_1 (by decide) kt_1005 rfl (by decide) ?_ ?_
    · refine g_iload_n (i := 1) dX3_reckon_46 rfl rfl ?_
      refine g_iload_n (i := 2) dX3_reckon_47 rfl rfl ?_
      refine g_mmax q_471 q_472 q_13 qm_max (by decide) rfl dX3_reckon_48 ?_
      exact g_ireturn rfl dX3_reckon_51
    · refine g_swc (k := 2) (tgt := 52) dX3_reckon_1 (by decide) kt_1006 rfl (by decide) ?_ ?_
      · refine g_iload_n (i := 1) dX3_reckon_52 rfl rfl ?_
        refine g_iload_n (i := 2) dX3_reckon_53 rfl rfl ?_
        refine g_iadd dX3_reckon_54 ?_
        exact g_ireturn rfl dX3_reckon_55
      · refine g_swc (k := 3) (tgt := 56) dX3_reckon_1 (by decide) kt_1007 rfl (by decide) ?_ ?_
        · refine g_iload_n (i := 1) dX3_reckon_56 rfl rfl ?_
          refine g_iload_n (i := 2) dX3_reckon_57 rfl rfl ?_
          refine g_isub dX3_reckon_58 ?_
          exact g_ireturn rfl dX3_reckon_59
        · refine g_swc (k := 4) (tgt := 60) dX3_reckon_1 (by decide) kt_1008 rfl (by decide) ?_ ?_
          · refine g_iload_n (i := 1) dX3_reckon_60 rfl rfl ?_
            refine g_iload_n (i := 2) dX3_reckon_61 rfl rfl ?_
            refine g_imul dX3_reckon_62 ?_
            exact g_ireturn rfl dX3_reckon_63
          · refine g_swc (k := 5) (tgt := 64) dX3_reckon_1 (by decide) kt_1009 rfl (by decide) ?_ ?_
            · refine g_iload_n (i := 2) dX3_reckon_64 rfl rfl ?_
              refine g_ifne (tgt := 72) dX3_reckon_65 (by decide) ?_ ?_
              · refine g_iload_n (i := 1) dX3_reckon_72 rfl rfl ?_
                refine g_iload_n (i := 2) dX3_reckon_73 rfl rfl ?_
                refine g_idiv dX3_reckon_74 ?_
                exact g_ireturn rfl dX3_reckon_75
              · refine g_iconst (v := (0 : Int32)) dX3_reckon_68 ki_0 ?_
                refine g_goto (tgt := 75) dX3_reckon_69 (by decide) ?_
                exact g_ireturn rfl dX3_reckon_75
            · refine g_swe (n := 6) (tgt := 76) dX3_reckon_1 (by decide) (by decide) ?_
              refine g_iload_n (i := 2) dX3_reckon_76 rfl rfl ?_
              refine g_ifne (tgt := 84) dX3_reckon_77 (by decide) ?_ ?_
              · refine g_iload_n (i := 1) dX3_reckon_84 rfl rfl ?_
                refine g_iload_n (i := 2) dX3_reckon_85 rfl rfl ?_
                refine g_irem dX3_reckon_86 ?_
                exact g_ireturn rfl dX3_reckon_87
              · refine g_iconst (v := (0 : Int32)) dX3_reckon_80 ki_0 ?_
                refine g_goto (tgt := 87) dX3_reckon_81 (by decide) ?_
                exact g_ireturn rfl dX3_reckon_87
set_option maxRecDepth 100000 in
set_option maxHeartbeats 4000000 in
theorem c_L_X3_weigh_6 {Z : Zx}  {K162 : Nat → Mm → Option (Int32 × Mm)} (hK162 : ∀ (v0 : Nat) (m : Mm), GG Z M_X3_weigh (PsN Z cvI) 162 [some (.ref v0), none, none, none, none, none, none, none, none] [] m (K162 v0 m)) : ∀ (n : Nat) (v0 : Nat) (v1 : Int32) (v2 : Int32) (v3 : Int32) (v4 : Int32) (v5 : Int32) (v6 : Int32) (m : Mm), GG Z M_X3_weigh (PsN Z cvI) 6 [some (.ref v0), some (.int v1), some (.int v2), some (.int v3), some (.int v4), some (.int v5), some (.int v6), none, none] [] m (L_X3_weigh_6 K162 n v0 v1 v2 v3 v4 v5 v6 m) := by
  intro n
  induction n with
  | zero => intro v0 v1 v2 v3 v4 v5 v6 m; exact g_no
  | succ n ih =>
    intro v0 v1 v2 v3 v4 v5 v6 m
    unfold L_X3_weigh_6
    refine g_iload dX3_weigh_6 rfl ?_
    refine g_aload_n (i := 0) dX3_weigh_8 rfl rfl ?_
    refine g_getI (k := 3) cl_X3 (by decide) rfl q_115 dX3_weigh_9 ?_
    refine g_icmpge (tgt := 162) dX3_weigh_12 (by decide) ?_ ?_
    · exact g_msk [true, false, false, false, false, false, false, false, false] (hK162 _ _)
    · refine g_iload dX3_weigh_15 rfl ?_
      refine g_aload_n (i := 0) dX3_weigh_17 rfl rfl ?_
      refine g_getR (k := 0) cl_X3 (by decide) rfl q_112 dX3_weigh_18 ?_
      intro q3
      refine g_alen100 dX3_weigh_21 ?_
      refine g_icmpge (tgt := 162) dX3_weigh_22 (by decide) ?_ ?_
      · exact g_msk [true, false, false, false, false, false, false, false, false] (hK162 _ _)
      · refine g_aload_n (i := 0) dX3_weigh_25 rfl rfl ?_
        refine g_getR (k := 0) cl_X3 (by decide) rfl q_112 dX3_weigh_26 ?_
        intro q4
        refine g_iload dX3_weigh_29 rfl ?_
        refine g_iaload dX3_weigh_31 ?_
        refine g_istore dX3_weigh_32 (show 7 < 9 by decide) ?_
        intro x5
        refine g_iload dX3_weigh_34 rfl ?_
        refine g_sipush (v := (1004 : Int32)) dX3_weigh_36 ks_1004 ?_
        refine g_jn (fun J132 => ∀ (v0 : Nat) (v1 : Int32) (v2 : Int32) (v3 : Int32) (v4 : Int32) (v5 : Int32) (v6 : Int32) (v8 : Int32) (m : Mm), GG Z M_X3_weigh (PsN Z cvI) 132 [some (.ref v0), some (.int v1), some (.int v2), some (.int v3), some (.int v4), some (.int v5), some (.int v6), none, some (.int v8)] [] m (J132 v0 v1 v2 v3 v4 v5 v6 v8 m)) ?_ ?_
        · intro v0 v1 v2 v3 v4 v5 v6 v8 m
          refine g_iload dX3_weigh_132 rfl ?_
          refine g_aload_n (i := 0) dX3_weigh_134 rfl rfl ?_
          refine g_getR (k := 2) cl_X3 (by decide) rfl q_114 dX3_weigh_135 ?_
          intro q6
          refine g_alen100 dX3_weigh_138 ?_
          refine g_icmplt (tgt := 144) dX3_weigh_139 (by decide) ?_ ?_
          · refine g_aload_n (i := 0) dX3_weigh_144 rfl rfl ?_
            refine g_getR (k := 2) cl_X3 (by decide) rfl q_114 dX3_weigh_145 ?_
            intro q7
            refine g_iload dX3_weigh_148 rfl ?_
            refine g_iload dX3_weigh_150 rfl ?_
            refine g_iastore dX3_weigh_152 ?_
            intro m8
            refine g_iinc dX3_weigh_153 rfl ki_1 (show 5 < 9 by decide) ?_
            intro x9
            refine g_iinc dX3_weigh_156 rfl ki_1 (show 6 < 9 by decide) ?_
            intro x10
            refine g_goto (tgt := 6) dX3_weigh_159 (by decide) ?_
            exact g_msk [true, true, true, true, true, true, true, false, false] (ih _ _ _ _ _ _ _ _)
          · refine g_iconst (v := (0 : Int32)) dX3_weigh_142 ki_0 ?_
            exact g_ireturn rfl dX3_weigh_143
        · intro J132 hJ132
          refine g_icmplt (tgt := 79) dX3_weigh_39 (by decide) ?_ ?_
          · refine g_iload dX3_weigh_79 rfl ?_
            refine g_sipush (v := (1000 : Int32)) dX3_weigh_81 ks_1000 ?_
            refine g_jn (fun J130 => ∀ (v0 : Nat) (v1 : Int32) (v2 : Int32) (v3 : Int32) (v4 : Int32) (v5 : Int32) (v6 : Int32) (s0 : Int32) (m : Mm), GG Z M_X3_weigh (PsN Z cvI) 130 [some (.ref v0), some (.int v1), some (.int v2), some (.int v3), some (.int v4), some (.int v5), some (.int v6), none, none] [.int s0] m (J130 v0 v1 v2 v3 v4 v5 v6 s0 m)) ?_ ?_
            · intro v0 v1 v2 v3 v4 v5 v6 s0 m
              refine g_istore dX3_weigh_130 (show 8 < 9 by decide) ?_
              intro x11
              exact g_msk [true, true, true, true, true, true, true, false, true] (hJ132 _ _ _ _ _ _ _ _ _)
            · intro J130 hJ130
              refine g_icmpne (tgt := 91) dX3_weigh_84 (by decide) ?_ ?_
              · refine g_iload dX3_weigh_91 rfl ?_
                refine g_sipush (v := (1001 : Int32)) dX3_weigh_93 ks_1001 ?_
                refine g_icmpne (tgt := 103) dX3_weigh_96 (by decide) ?_ ?_
                · refine g_iload dX3_weigh_103 rfl ?_
                  refine g_sipush (v := (1002 : Int32)) dX3_weigh_105 ks_1002 ?_
                  refine g_icmpne (tgt := 115) dX3_weigh_108 (by decide) ?_ ?_
                  · refine g_iload dX3_weigh_115 rfl ?_
                    refine g_sipush (v := (1003 : Int32)) dX3_weigh_117 ks_1003 ?_
                    refine g_icmpne (tgt := 128) dX3_weigh_120 (by decide) ?_ ?_
                    · refine g_iload dX3_weigh_128 rfl ?_
                      exact g_msk [true, true, true, true, true, true, true, false, false] (hJ130 _ _ _ _ _ _ _ _ _)
                    · refine g_iload dX3_weigh_123 rfl ?_
                      refine g_goto (tgt := 130) dX3_weigh_125 (by decide) ?_
                      exact g_msk [true, true, true, true, true, true, true, false, false] (hJ130 _ _ _ _ _ _ _ _ _)
                  · refine g_iload_n (i := 3) dX3_weigh_111 rfl rfl ?_
                    refine g_goto (tgt := 130) dX3_weigh_112 (by decide) ?_
                    exact g_msk [true, true, true, true, true, true, true, false, false] (hJ130 _ _ _ _ _ _ _ _ _)
                · refine g_iload_n (i := 2) dX3_weigh_99 rfl rfl ?_
                  refine g_goto (tgt := 130) dX3_weigh_100 (by decide) ?_
                  exact g_msk [true, true, true, true, true, true, true, false, false] (hJ130 _ _ _ _ _ _ _ _ _)
              · refine g_iload_n (i := 1) dX3_weigh_87 rfl rfl ?_
                refine g_goto (tgt := 130) dX3_weigh_88 (by decide) ?_
                exact g_msk [true, true, true, true, true, true, true, false, false] (hJ130 _ _ _ _ _ _ _ _ _)
          · refine g_iload dX3_weigh_42 rfl ?_
            refine g_iconst (v := (2 : Int32)) dX3_weigh_44 ki_2 ?_
            refine g_icmpge (tgt := 50) dX3_weigh_45 (by decide) ?_ ?_
            · refine g_iinc dX3_weigh_50 rfl ki_m2 (show 5 < 9 by decide) ?_
              intro x12
              refine g_iload dX3_weigh_53 rfl ?_
              refine g_aload_n (i := 0) dX3_weigh_55 rfl rfl ?_
              refine g_getR (k := 2) cl_X3 (by decide) rfl q_114 dX3_weigh_56 ?_
              intro q13
              refine g_iload dX3_weigh_59 rfl ?_
              refine g_iaload dX3_weigh_61 ?_
              refine g_aload_n (i := 0) dX3_weigh_62 rfl rfl ?_
              refine g_getR (k := 2) cl_X3 (by decide) rfl q_114 dX3_weigh_63 ?_
              intro q14
              refine g_iload dX3_weigh_66 rfl ?_
              refine g_iconst (v := (1 : Int32)) dX3_weigh_68 ki_1 ?_
              refine g_iadd dX3_weigh_69 ?_
              refine g_iaload dX3_weigh_70 ?_
              refine g_callSI (crt_X3_reckon _ _ _ _ _ _) cw_X3_reckon (by decide) rfl q_465 q_466 rfl rfl dX3_weigh_71 ?_
              intro r15 m16
              refine g_istore dX3_weigh_74 (show 8 < 9 by decide) ?_
              intro x17
              refine g_goto (tgt := 132) dX3_weigh_76 (by decide) ?_
              exact g_msk [true, true, true, true, true, true, true, false, true] (hJ132 _ _ _ _ _ _ _ _ _)
            · refine g_iconst (v := (0 : Int32)) dX3_weigh_48 ki_0 ?_
              exact g_ireturn rfl dX3_weigh_49
set_option maxRecDepth 100000 in
set_option maxHeartbeats 4000000 in
theorem crt_X3_weigh (l : Launch) (θ : Th) (a0 : Nat) (a1 : Int32) (a2 : Int32) (a3 : Int32) (a4 : Int32) (m : Mm) : Crt l θ yX3_weigh M_X3_weigh cvI [.ref a0, .int a1, .int a2, .int a3, .int a4] m (F_X3_weigh a0 a1 a2 a3 a4 m) := by
  refine crt_of 4 (by decide) rfl rfl (Nat.le_of_ble_eq_true rfl) (fun Z hμ => ?_)
  unfold F_X3_weigh
  show GG Z _ _ 0 [some (.ref a0), some (.int a1), some (.int a2), some (.int a3), some (.int a4), none, none, none, none] [] m _
  refine g_iconst (v := (0 : Int32)) dX3_weigh_0 ki_0 ?_
  refine g_istore dX3_weigh_1 (show 5 < 9 by decide) ?_
  intro x1
  refine g_iconst (v := (0 : Int32)) dX3_weigh_3 ki_0 ?_
  refine g_istore dX3_weigh_4 (show 6 < 9 by decide) ?_
  intro x2
  refine g_msk [true, true, true, true, true, true, true, false, false] (c_L_X3_weigh_6 ?_ NF _ _ _ _ _ _ _ _)
  intro v0 m
  refine g_iconst (v := (0 : Int32)) dX3_weigh_162 ki_0 ?_
  refine g_bipush (v := (99 : Int32)) dX3_weigh_163 kb_99 ?_
  refine g_aload_n (i := 0) dX3_weigh_165 rfl rfl ?_
  refine g_getR (k := 2) cl_X3 (by decide) rfl q_114 dX3_weigh_166 ?_
  intro q18
  refine g_iconst (v := (0 : Int32)) dX3_weigh_169 ki_0 ?_
  refine g_iaload dX3_weigh_170 ?_
  refine g_mmin q_468 q_469 q_13 qm_min (by decide) rfl dX3_weigh_171 ?_
  refine g_mmax q_471 q_472 q_13 qm_max (by decide) rfl dX3_weigh_174 ?_
  exact g_ireturn rfl dX3_weigh_177
set_option maxRecDepth 100000 in
set_option maxHeartbeats 4000000 in
theorem c_L_X6_weigh_15 {Z : Zx}    : ∀ (n : Nat) (v0 : Nat) (v1 : Nat) (v2 : Int32) (v3 : Int32) (m : Mm), GG Z M_X6_weigh (PsN Z cvV) 15 [some (.ref v0), some (.ref v1), some (.int v2), some (.int v3)] [] m (L_X6_weigh_15 n v0 v1 v2 v3 m) := by
  intro n
  induction n with
  | zero => intro v0 v1 v2 v3 m; exact g_no
  | succ n ih =>
    intro v0 v1 v2 v3 m
    unfold L_X6_weigh_15
    refine g_iload_n (i := 3) dX6_weigh_15 rfl rfl ?_
    refine g_aload_n (i := 0) dX6_weigh_16 rfl rfl ?_
    refine g_getR (k := 0) cl_X6 (by decide) rfl q_197 dX6_weigh_17 ?_
    intro q6
    refine g_getIN (k := 0) cl_X1 (by decide) rfl q_88 dX6_weigh_20 ?_
    refine g_icmpge (tgt := 93) dX6_weigh_23 (by decide) ?_ ?_
    · exact g_return rfl dX6_weigh_93
    · refine g_iload_n (i := 3) dX6_weigh_26 rfl rfl ?_
      refine g_bipush (v := (6 : Int32)) dX6_weigh_27 kb_6 ?_
      refine g_icmpge (tgt := 93) dX6_weigh_29 (by decide) ?_ ?_
      · exact g_return rfl dX6_weigh_93
      · refine g_aload_n (i := 0) dX6_weigh_32 rfl rfl ?_
        refine g_getR (k := 2) cl_X6 (by decide) rfl q_199 dX6_weigh_33 ?_
        intro q7
        refine g_iload_n (i := 3) dX6_weigh_36 rfl rfl ?_
        refine g_aload_n (i := 0) dX6_weigh_37 rfl rfl ?_
        refine g_getR (k := 1) cl_X6 (by decide) rfl q_198 dX6_weigh_38 ?_
        intro q8
        refine g_iload_n (i := 3) dX6_weigh_41 rfl rfl ?_
        refine g_aload_n (i := 1) dX6_weigh_42 rfl rfl ?_
        refine g_getRN (k := 8) cl_X7 (by decide) rfl q_243 dX6_weigh_43 ?_
        intro q9
        refine g_iload_n (i := 3) dX6_weigh_46 rfl rfl ?_
        refine g_iaload dX6_weigh_47 ?_
        refine g_aload_n (i := 1) dX6_weigh_48 rfl rfl ?_
        refine g_getIN (k := 0) cl_X7 (by decide) rfl q_218 dX6_weigh_49 ?_
        refine g_iload_n (i := 2) dX6_weigh_52 rfl rfl ?_
        refine g_callVI cl_X3 (crt_X3_weigh _ _ _ _ _ _ _ _) cw_X3_weigh (by decide) rfl q_461 q_462 q_463 rfl rfl dX6_weigh_53 ?_
        intro r10 m11
        refine g_iastore dX6_weigh_56 ?_
        intro m12
        refine g_aload_n (i := 0) dX6_weigh_57 rfl rfl ?_
        refine g_dup dX6_weigh_58 rfl ?_
        refine g_getI (k := 3) cl_X6 (by decide) rfl q_200 dX6_weigh_59 ?_
        refine g_aload_n (i := 1) dX6_weigh_62 rfl rfl ?_
        refine g_getIN (k := 1) cl_X7 (by decide) rfl q_222 dX6_weigh_63 ?_
        refine g_iload_n (i := 3) dX6_weigh_66 rfl rfl ?_
        refine g_callSNI (crt_X11_has _ _ _ _ _) cw_X11_has (by decide) rfl q_474 q_360 rfl rfl dX6_weigh_67 ?_
        intro r13 m14
        refine g_jn (fun J83 => ∀ (v0 : Nat) (v1 : Nat) (v2 : Int32) (v3 : Int32) (s0 : Int32) (s1 : Int32) (s2 : Nat) (m : Mm), GG Z M_X6_weigh (PsN Z cvV) 83 [some (.ref v0), some (.ref v1), some (.int v2), some (.int v3)] [.int s0, .int s1, .ref s2] m (J83 v0 v1 v2 v3 s0 s1 s2 m)) ?_ ?_
        · intro v0 v1 v2 v3 s0 s1 s2 m
          refine g_iadd dX6_weigh_83 ?_
          refine g_putI (k := 3) cl_X6 (by decide) rfl rfl q_200 dX6_weigh_84 ?_
          intro m15
          refine g_iinc dX6_weigh_87 rfl ki_1 (show 3 < 4 by decide) ?_
          intro x16
          refine g_goto (tgt := 15) dX6_weigh_90 (by decide) ?_
          exact g_msk [true, true, true, true] (ih _ _ _ _ _)
        · intro J83 hJ83
          refine g_ifeq (tgt := 82) dX6_weigh_70 (by decide) ?_ ?_
          · refine g_iconst (v := (0 : Int32)) dX6_weigh_82 ki_0 ?_
            exact g_msk [true, true, true, true] (hJ83 _ _ _ _ _ _ _ _)
          · refine g_aload_n (i := 0) dX6_weigh_73 rfl rfl ?_
            refine g_getR (k := 2) cl_X6 (by decide) rfl q_199 dX6_weigh_74 ?_
            intro q17
            refine g_iload_n (i := 3) dX6_weigh_77 rfl rfl ?_
            refine g_iaload dX6_weigh_78 ?_
            refine g_goto (tgt := 83) dX6_weigh_79 (by decide) ?_
            exact g_msk [true, true, true, true] (hJ83 _ _ _ _ _ _ _ _)
set_option maxRecDepth 100000 in
set_option maxHeartbeats 4000000 in
theorem crt_X6_weigh (l : Launch) (θ : Th) (a0 : Nat) (a1 : Nat) (m : Mm) : Crt l θ yX6_weigh M_X6_weigh cvV [.ref a0, .ref a1] m (F_X6_weigh a0 a1 m) := by
  refine crt_of 2 (by decide) rfl rfl (Nat.le_of_ble_eq_true rfl) (fun Z hμ => ?_)
  unfold F_X6_weigh
  show GG Z _ _ 0 [some (.ref a0), some (.ref a1), none, none] [] m _
  refine g_aload_n (i := 1) dX6_weigh_0 rfl rfl ?_
  refine g_getIN (k := 1) cl_X7 (by decide) rfl q_222 dX6_weigh_1 ?_
  refine g_callSI (crt_J6_bitCount_0f7a4 _ _ _ _) cw_J6_bitCount_0f7a4 (by decide) rfl q_455 q_456 rfl rfl dX6_weigh_4 ?_
  intro r1 m2
  refine g_istore_n (i := 2) dX6_weigh_7 rfl (show 2 < 4 by decide) ?_
  intro x3
  refine g_aload_n (i := 0) dX6_weigh_8 rfl rfl ?_
  refine g_iconst (v := (0 : Int32)) dX6_weigh_9 ki_0 ?_
  refine g_putI (k := 3) cl_X6 (by decide) rfl rfl q_200 dX6_weigh_10 ?_
  intro m4
  refine g_iconst (v := (0 : Int32)) dX6_weigh_13 ki_0 ?_
  refine g_istore_n (i := 3) dX6_weigh_14 rfl (show 3 < 4 by decide) ?_
  intro x5
  exact g_msk [true, true, true, true] (c_L_X6_weigh_15 NF _ _ _ _ _)
set_option maxRecDepth 100000 in
set_option maxHeartbeats 4000000 in
theorem crt_X6_partings (l : Launch) (θ : Th) (a0 : Nat) (m : Mm) : Crt l θ yX6_partings M_X6_partings cvI [.ref a0] m (F_X6_partings a0 m) := by
  refine crt_of 0 (by decide) rfl rfl (Nat.le_of_ble_eq_true rfl) (fun Z hμ => ?_)
  unfold F_X6_partings
  show GG Z _ _ 0 [some (.ref a0)] [] m _
  refine g_iconst (v := (1 : Int32)) dX6_partings_0 ki_1 ?_
  refine g_aload_n (i := 0) dX6_partings_1 rfl rfl ?_
  refine g_getR (k := 0) cl_X6 (by decide) rfl q_197 dX6_partings_2 ?_
  intro q1
  refine g_getIN (k := 0) cl_X1 (by decide) rfl q_88 dX6_partings_5 ?_
  refine g_ishl dX6_partings_8 ?_
  exact g_ireturn rfl dX6_partings_9
set_option maxRecDepth 100000 in
set_option maxHeartbeats 4000000 in
theorem crt_X7_standing (l : Launch) (θ : Th) (a0 : Nat) (m : Mm) : Crt l θ yX7_standing M_X7_standing cvI [.ref a0] m (F_X7_standing a0 m) := by
  refine crt_of 0 (by decide) rfl rfl (Nat.le_of_ble_eq_true rfl) (fun Z hμ => ?_)
  unfold F_X7_standing
  show GG Z _ _ 0 [some (.ref a0)] [] m _
  refine g_aload_n (i := 0) dX7_standing_0 rfl rfl ?_
  refine g_getI (k := 3) cl_X7 (by decide) rfl q_225 dX7_standing_1 ?_
  refine g_aload_n (i := 0) dX7_standing_4 rfl rfl ?_
  refine g_getI (k := 2) cl_X7 (by decide) rfl q_224 dX7_standing_5 ?_
  refine g_iand dX7_standing_8 ?_
  exact g_ireturn rfl dX7_standing_9
set_option maxRecDepth 100000 in
set_option maxHeartbeats 4000000 in
theorem c_L_X6_hasMoreThanHalf_4 {Z : Zx}  {K37 : Nat → Int32 → Mm → Option (Int32 × Mm)} (hK37 : ∀ (v0 : Nat) (v2 : Int32) (m : Mm), GG Z M_X6_hasMoreThanHalf (PsN Z cvI) 37 [some (.ref v0), none, some (.int v2), none] [] m (K37 v0 v2 m)) : ∀ (n : Nat) (v0 : Nat) (v1 : Int32) (v2 : Int32) (v3 : Int32) (m : Mm), GG Z M_X6_hasMoreThanHalf (PsN Z cvI) 4 [some (.ref v0), some (.int v1), some (.int v2), some (.int v3)] [] m (L_X6_hasMoreThanHalf_4 K37 n v0 v1 v2 v3 m) := by
  intro n
  induction n with
  | zero => intro v0 v1 v2 v3 m; exact g_no
  | succ n ih =>
    intro v0 v1 v2 v3 m
    unfold L_X6_hasMoreThanHalf_4
    refine g_iload_n (i := 3) dX6_hasMoreThanHalf_4 rfl rfl ?_
    refine g_bipush (v := (6 : Int32)) dX6_hasMoreThanHalf_5 kb_6 ?_
    refine g_icmpge (tgt := 37) dX6_hasMoreThanHalf_7 (by decide) ?_ ?_
    · exact g_msk [true, false, true, false] (hK37 _ _ _)
    · refine g_iload_n (i := 2) dX6_hasMoreThanHalf_10 rfl rfl ?_
      refine g_iload_n (i := 1) dX6_hasMoreThanHalf_11 rfl rfl ?_
      refine g_iload_n (i := 3) dX6_hasMoreThanHalf_12 rfl rfl ?_
      refine g_callSNI (crt_X11_has _ _ _ _ _) cw_X11_has (by decide) rfl q_474 q_360 rfl rfl dX6_hasMoreThanHalf_13 ?_
      intro r3 m4
      refine g_jn (fun J29 => ∀ (v0 : Nat) (v1 : Int32) (v3 : Int32) (s0 : Int32) (s1 : Int32) (m : Mm), GG Z M_X6_hasMoreThanHalf (PsN Z cvI) 29 [some (.ref v0), some (.int v1), none, some (.int v3)] [.int s0, .int s1] m (J29 v0 v1 v3 s0 s1 m)) ?_ ?_
      · intro v0 v1 v3 s0 s1 m
        refine g_iadd dX6_hasMoreThanHalf_29 ?_
        refine g_istore_n (i := 2) dX6_hasMoreThanHalf_30 rfl (show 2 < 4 by decide) ?_
        intro x5
        refine g_iinc dX6_hasMoreThanHalf_31 rfl ki_1 (show 3 < 4 by decide) ?_
        intro x6
        refine g_goto (tgt := 4) dX6_hasMoreThanHalf_34 (by decide) ?_
        exact g_msk [true, true, true, true] (ih _ _ _ _ _)
      · intro J29 hJ29
        refine g_ifeq (tgt := 28) dX6_hasMoreThanHalf_16 (by decide) ?_ ?_
        · refine g_iconst (v := (0 : Int32)) dX6_hasMoreThanHalf_28 ki_0 ?_
          exact g_msk [true, true, false, true] (hJ29 _ _ _ _ _ _)
        · refine g_aload_n (i := 0) dX6_hasMoreThanHalf_19 rfl rfl ?_
          refine g_getR (k := 2) cl_X6 (by decide) rfl q_199 dX6_hasMoreThanHalf_20 ?_
          intro q7
          refine g_iload_n (i := 3) dX6_hasMoreThanHalf_23 rfl rfl ?_
          refine g_iaload dX6_hasMoreThanHalf_24 ?_
          refine g_goto (tgt := 29) dX6_hasMoreThanHalf_25 (by decide) ?_
          exact g_msk [true, true, false, true] (hJ29 _ _ _ _ _ _)
set_option maxRecDepth 100000 in
set_option maxHeartbeats 4000000 in
theorem crt_X6_hasMoreThanHalf (l : Launch) (θ : Th) (a0 : Nat) (a1 : Int32) (m : Mm) : Crt l θ yX6_hasMoreThanHalf M_X6_hasMoreThanHalf cvI [.ref a0, .int a1] m (F_X6_hasMoreThanHalf a0 a1 m) := by
  refine crt_of 2 (by decide) rfl rfl (Nat.le_of_ble_eq_true rfl) (fun Z hμ => ?_)
  unfold F_X6_hasMoreThanHalf
  show GG Z _ _ 0 [some (.ref a0), some (.int a1), none, none] [] m _
  refine g_iconst (v := (0 : Int32)) dX6_hasMoreThanHalf_0 ki_0 ?_
  refine g_istore_n (i := 2) dX6_hasMoreThanHalf_1 rfl (show 2 < 4 by decide) ?_
  intro x1
  refine g_iconst (v := (0 : Int32)) dX6_hasMoreThanHalf_2 ki_0 ?_
  refine g_istore_n (i := 3) dX6_hasMoreThanHalf_3 rfl (show 3 < 4 by decide) ?_
  intro x2
  refine g_msk [true, true, true, true] (c_L_X6_hasMoreThanHalf_4 ?_ NF _ _ _ _ _)
  intro v0 v2 m
  refine g_iconst (v := (2 : Int32)) dX6_hasMoreThanHalf_37 ki_2 ?_
  refine g_iload_n (i := 2) dX6_hasMoreThanHalf_38 rfl rfl ?_
  refine g_imul dX6_hasMoreThanHalf_39 ?_
  refine g_aload_n (i := 0) dX6_hasMoreThanHalf_40 rfl rfl ?_
  refine g_getI (k := 3) cl_X6 (by decide) rfl q_200 dX6_hasMoreThanHalf_41 ?_
  refine g_icmple (tgt := 51) dX6_hasMoreThanHalf_44 (by decide) ?_ ?_
  · refine g_iconst (v := (0 : Int32)) dX6_hasMoreThanHalf_51 ki_0 ?_
    exact g_zreturnK rfl (by decide) dX6_hasMoreThanHalf_52
  · refine g_iconst (v := (1 : Int32)) dX6_hasMoreThanHalf_47 ki_1 ?_
    refine g_goto (tgt := 52) dX6_hasMoreThanHalf_48 (by decide) ?_
    exact g_zreturnK rfl (by decide) dX6_hasMoreThanHalf_52
set_option maxRecDepth 100000 in
set_option maxHeartbeats 4000000 in
theorem crt_X6_partBy (l : Launch) (θ : Th) (a0 : Nat) (a1 : Nat) (a2 : Int32) (a3 : Int32) (m : Mm) : Crt l θ yX6_partBy M_X6_partBy cvI [.ref a0, .ref a1, .int a2, .int a3] m (F_X6_partBy a0 a1 a2 a3 m) := by
  refine crt_of 1 (by decide) rfl rfl (Nat.le_of_ble_eq_true rfl) (fun Z hμ => ?_)
  unfold F_X6_partBy
  show GG Z _ _ 0 [some (.ref a0), some (.ref a1), some (.int a2), some (.int a3), none] [] m _
  refine g_iload_n (i := 2) dX6_partBy_0 rfl rfl ?_
  refine g_istore dX6_partBy_1 (show 4 < 5 by decide) ?_
  intro x1
  refine g_aload_n (i := 0) dX6_partBy_3 rfl rfl ?_
  refine g_iload_n (i := 3) dX6_partBy_4 rfl rfl ?_
  refine g_iload dX6_partBy_5 rfl ?_
  refine g_iand dX6_partBy_7 ?_
  refine g_callVI cl_X6 (crt_X6_hasMoreThanHalf _ _ _ _ _) cw_X6_hasMoreThanHalf (by decide) rfl q_483 q_485 qs_1 rfl rfl dX6_partBy_8 ?_
  intro r2 m3
  refine g_jn (fun J32 => ∀ (v1 : Nat) (v3 : Int32) (v4 : Int32) (m : Mm), GG Z M_X6_partBy (PsN Z cvI) 32 [none, some (.ref v1), none, some (.int v3), some (.int v4)] [] m (J32 v1 v3 v4 m)) ?_ ?_
  · intro v1 v3 v4 m
    refine g_iload dX6_partBy_32 rfl ?_
    refine g_iload_n (i := 3) dX6_partBy_34 rfl rfl ?_
    refine g_aload_n (i := 1) dX6_partBy_35 rfl rfl ?_
    refine g_getIN (k := 3) cl_X7 (by decide) rfl q_227 dX6_partBy_36 ?_
    refine g_aload_n (i := 1) dX6_partBy_39 rfl rfl ?_
    refine g_getIN (k := 5) cl_X7 (by decide) rfl q_234 dX6_partBy_40 ?_
    refine g_iand dX6_partBy_43 ?_
    refine g_ior dX6_partBy_44 ?_
    refine g_iand dX6_partBy_45 ?_
    exact g_ireturn rfl dX6_partBy_46
  · intro J32 hJ32
    refine g_ifne (tgt := 32) dX6_partBy_11 (by decide) ?_ ?_
    · exact g_msk [false, true, false, true, true] (hJ32 _ _ _ _)
    · refine g_iload_n (i := 2) dX6_partBy_14 rfl rfl ?_
      refine g_iconst (v := (-1 : Int32)) dX6_partBy_15 ki_m1 ?_
      refine g_ixor dX6_partBy_16 ?_
      refine g_istore dX6_partBy_17 (show 4 < 5 by decide) ?_
      intro x4
      refine g_aload_n (i := 0) dX6_partBy_19 rfl rfl ?_
      refine g_iload_n (i := 3) dX6_partBy_20 rfl rfl ?_
      refine g_iload dX6_partBy_21 rfl ?_
      refine g_iand dX6_partBy_23 ?_
      refine g_callVI cl_X6 (crt_X6_hasMoreThanHalf _ _ _ _ _) cw_X6_hasMoreThanHalf (by decide) rfl q_483 q_485 qs_1 rfl rfl dX6_partBy_24 ?_
      intro r5 m6
      refine g_ifne (tgt := 32) dX6_partBy_27 (by decide) ?_ ?_
      · exact g_msk [false, true, false, true, true] (hJ32 _ _ _ _)
      · refine g_iconst (v := (-1 : Int32)) dX6_partBy_30 ki_m1 ?_
        exact g_ireturn rfl dX6_partBy_31
set_option maxRecDepth 100000 in
set_option maxHeartbeats 4000000 in
theorem c_L_X0_addWith_2 {Z : Zx}    : ∀ (n : Nat) (v0 : Nat) (v1 : Int32) (v2 : Int32) (m : Mm), GG Z M_X0_addWith (PsN Z cvV) 2 [some (.ref v0), some (.int v1), some (.int v2)] [] m (L_X0_addWith_2 n v0 v1 v2 m) := by
  intro n
  induction n with
  | zero => intro v0 v1 v2 m; exact g_no
  | succ n ih =>
    intro v0 v1 v2 m
    unfold L_X0_addWith_2
    refine g_iload_n (i := 2) dX0_addWith_2 rfl rfl ?_
    refine g_bipush (v := (6 : Int32)) dX0_addWith_3 kb_6 ?_
    refine g_icmpge (tgt := 36) dX0_addWith_5 (by decide) ?_ ?_
    · exact g_return rfl dX0_addWith_36
    · refine g_aload_n (i := 0) dX0_addWith_8 rfl rfl ?_
      refine g_getR (k := 5) cl_X0 (by decide) rfl q_177 dX0_addWith_9 ?_
      intro q2
      refine g_iload_n (i := 2) dX0_addWith_12 rfl rfl ?_
      refine g_dup2 dX0_addWith_13 rfl rfl ?_
      refine g_iaload dX0_addWith_14 ?_
      refine g_iload_n (i := 1) dX0_addWith_15 rfl rfl ?_
      refine g_iload_n (i := 2) dX0_addWith_16 rfl rfl ?_
      refine g_callSNI (crt_X11_has _ _ _ _ _) cw_X11_has (by decide) rfl q_1058 q_360 rfl rfl dX0_addWith_17 ?_
      intro r3 m4
      refine g_jn (fun J28 => ∀ (v0 : Nat) (v1 : Int32) (v2 : Int32) (s0 : Int32) (s1 : Int32) (s2 : Int32) (s3 : Nat) (m : Mm), GG Z M_X0_addWith (PsN Z cvV) 28 [some (.ref v0), some (.int v1), some (.int v2)] [.int s0, .int s1, .int s2, .ref s3] m (J28 v0 v1 v2 s0 s1 s2 s3 m)) ?_ ?_
      · intro v0 v1 v2 s0 s1 s2 s3 m
        refine g_iadd dX0_addWith_28 ?_
        refine g_iastore dX0_addWith_29 ?_
        intro m5
        refine g_iinc dX0_addWith_30 rfl ki_1 (show 2 < 3 by decide) ?_
        intro x6
        refine g_goto (tgt := 2) dX0_addWith_33 (by decide) ?_
        exact g_msk [true, true, true] (ih _ _ _ _)
      · intro J28 hJ28
        refine g_ifeq (tgt := 27) dX0_addWith_20 (by decide) ?_ ?_
        · refine g_iconst (v := (0 : Int32)) dX0_addWith_27 ki_0 ?_
          exact g_msk [true, true, true] (hJ28 _ _ _ _ _ _ _ _)
        · refine g_iconst (v := (1 : Int32)) dX0_addWith_23 ki_1 ?_
          refine g_goto (tgt := 28) dX0_addWith_24 (by decide) ?_
          exact g_msk [true, true, true] (hJ28 _ _ _ _ _ _ _ _)
set_option maxRecDepth 100000 in
set_option maxHeartbeats 4000000 in
theorem crt_X0_addWith (l : Launch) (θ : Th) (a0 : Nat) (a1 : Int32) (m : Mm) : Crt l θ yX0_addWith M_X0_addWith cvV [.ref a0, .int a1] m (F_X0_addWith a0 a1 m) := by
  refine crt_of 1 (by decide) rfl rfl (Nat.le_of_ble_eq_true rfl) (fun Z hμ => ?_)
  unfold F_X0_addWith
  show GG Z _ _ 0 [some (.ref a0), some (.int a1), none] [] m _
  refine g_iconst (v := (0 : Int32)) dX0_addWith_0 ki_0 ?_
  refine g_istore_n (i := 2) dX0_addWith_1 rfl (show 2 < 3 by decide) ?_
  intro x1
  exact g_msk [true, true, true] (c_L_X0_addWith_2 NF _ _ _ _)
set_option maxRecDepth 100000 in
set_option maxHeartbeats 4000000 in
theorem c_L_X0_sift_17 {Z : Zx}  {K36 : Nat → Nat → Nat → Mm → Option (Unit × Mm)} (hK36 : ∀ (v0 : Nat) (v1 : Nat) (v2 : Nat) (m : Mm), GG Z M_X0_sift (PsN Z cvV) 36 [some (.ref v0), some (.ref v1), some (.ref v2), none, none, none] [] m (K36 v0 v1 v2 m)) : ∀ (n : Nat) (v0 : Nat) (v1 : Nat) (v2 : Nat) (v3 : Int32) (m : Mm), GG Z M_X0_sift (PsN Z cvV) 17 [some (.ref v0), some (.ref v1), some (.ref v2), some (.int v3), none, none] [] m (L_X0_sift_17 K36 n v0 v1 v2 v3 m) := by
  intro n
  induction n with
  | zero => intro v0 v1 v2 v3 m; exact g_no
  | succ n ih =>
    intro v0 v1 v2 v3 m
    unfold L_X0_sift_17
    refine g_iload_n (i := 3) dX0_sift_17 rfl rfl ?_
    refine g_bipush (v := (6 : Int32)) dX0_sift_18 kb_6 ?_
    refine g_icmpge (tgt := 36) dX0_sift_20 (by decide) ?_ ?_
    · exact g_msk [true, true, true, false, false, false] (hK36 _ _ _ _)
    · refine g_aload_n (i := 0) dX0_sift_23 rfl rfl ?_
      refine g_getR (k := 5) cl_X0 (by decide) rfl q_177 dX0_sift_24 ?_
      intro q6
      refine g_iload_n (i := 3) dX0_sift_27 rfl rfl ?_
      refine g_iconst (v := (0 : Int32)) dX0_sift_28 ki_0 ?_
      refine g_iastore dX0_sift_29 ?_
      intro m7
      refine g_iinc dX0_sift_30 rfl ki_1 (show 3 < 6 by decide) ?_
      intro x8
      refine g_goto (tgt := 17) dX0_sift_33 (by decide) ?_
      exact g_msk [true, true, true, true, false, false] (ih _ _ _ _ _)
set_option maxRecDepth 100000 in
set_option maxHeartbeats 4000000 in
theorem c_L_X0_sift_38 {Z : Zx}    : ∀ (n : Nat) (v0 : Nat) (v1 : Nat) (v2 : Nat) (v3 : Int32) (m : Mm), GG Z M_X0_sift (PsN Z cvV) 38 [some (.ref v0), some (.ref v1), some (.ref v2), some (.int v3), none, none] [] m (L_X0_sift_38 n v0 v1 v2 v3 m) := by
  intro n
  induction n with
  | zero => intro v0 v1 v2 v3 m; exact g_no
  | succ n ih =>
    intro v0 v1 v2 v3 m
    unfold L_X0_sift_38
    refine g_iload_n (i := 3) dX0_sift_38 rfl rfl ?_
    refine g_aload_n (i := 2) dX0_sift_39 rfl rfl ?_
    refine g_callVI cl_X6 (crt_X6_partings _ _ _ _) cw_X6_partings (by decide) rfl q_1261 q_505 q_506 rfl rfl dX0_sift_40 ?_
    intro r10 m11
    refine g_icmpge (tgt := 127) dX0_sift_43 (by decide) ?_ ?_
    · exact g_return rfl dX0_sift_127
    · refine g_aload_n (i := 2) dX0_sift_46 rfl rfl ?_
      refine g_aload_n (i := 1) dX0_sift_47 rfl rfl ?_
      refine g_iload_n (i := 3) dX0_sift_48 rfl rfl ?_
      refine g_aload_n (i := 1) dX0_sift_49 rfl rfl ?_
      refine g_callVI cl_X7 (crt_X7_standing _ _ _ _) cw_X7_standing (by decide) rfl q_1262 q_476 q_477 rfl rfl dX0_sift_50 ?_
      intro r12 m13
      refine g_callVI cl_X6 (crt_X6_partBy _ _ _ _ _ _ _) cw_X6_partBy (by decide) rfl q_1263 q_480 q_481 rfl rfl dX0_sift_53 ?_
      intro r14 m15
      refine g_istore dX0_sift_56 (show 4 < 6 by decide) ?_
      intro x16
      refine g_iload dX0_sift_58 rfl ?_
      refine g_iconst (v := (-1 : Int32)) dX0_sift_60 ki_m1 ?_
      refine g_jn (fun J70 => ∀ (v0 : Nat) (v1 : Nat) (v2 : Nat) (v3 : Int32) (s0 : Int32) (m : Mm), GG Z M_X0_sift (PsN Z cvV) 70 [some (.ref v0), some (.ref v1), some (.ref v2), some (.int v3), none, none] [.int s0] m (J70 v0 v1 v2 v3 s0 m)) ?_ ?_
      · intro v0 v1 v2 v3 s0 m
        refine g_istore dX0_sift_70 (show 5 < 6 by decide) ?_
        intro x17
        refine g_iload dX0_sift_72 rfl ?_
        refine g_aload_n (i := 0) dX0_sift_74 rfl rfl ?_
        refine g_getI (k := 1) cl_X0 (by decide) rfl q_171 dX0_sift_75 ?_
        refine g_iand dX0_sift_78 ?_
        refine g_aload_n (i := 0) dX0_sift_79 rfl rfl ?_
        refine g_getI (k := 2) cl_X0 (by decide) rfl q_172 dX0_sift_80 ?_
        refine g_jn (fun J121 => ∀ (v0 : Nat) (v1 : Nat) (v2 : Nat) (v3 : Int32) (m : Mm), GG Z M_X0_sift (PsN Z cvV) 121 [some (.ref v0), some (.ref v1), some (.ref v2), some (.int v3), none, none] [] m (J121 v0 v1 v2 v3 m)) ?_ ?_
        · intro v0 v1 v2 v3 m
          refine g_iinc dX0_sift_121 rfl ki_1 (show 3 < 6 by decide) ?_
          intro x18
          refine g_goto (tgt := 38) dX0_sift_124 (by decide) ?_
          exact g_msk [true, true, true, true, false, false] (ih _ _ _ _ _)
        · intro J121 hJ121
          refine g_icmpne (tgt := 121) dX0_sift_83 (by decide) ?_ ?_
          · exact g_msk [true, true, true, true, false, false] (hJ121 _ _ _ _ _)
          · refine g_aload_n (i := 0) dX0_sift_86 rfl rfl ?_
            refine g_aload_n (i := 0) dX0_sift_87 rfl rfl ?_
            refine g_getI (k := 3) cl_X0 (by decide) rfl q_173 dX0_sift_88 ?_
            refine g_jn (fun J102 => ∀ (v0 : Nat) (v1 : Nat) (v2 : Nat) (v3 : Int32) (v5 : Int32) (s0 : Int32) (s1 : Nat) (m : Mm), GG Z M_X0_sift (PsN Z cvV) 102 [some (.ref v0), some (.ref v1), some (.ref v2), some (.int v3), none, some (.int v5)] [.int s0, .ref s1] m (J102 v0 v1 v2 v3 v5 s0 s1 m)) ?_ ?_
            · intro v0 v1 v2 v3 v5 s0 s1 m
              refine g_putI (k := 4) cl_X0 (by decide) rfl rfl q_175 dX0_sift_102 ?_
              intro m19
              refine g_aload_n (i := 0) dX0_sift_105 rfl rfl ?_
              refine g_dup dX0_sift_106 rfl ?_
              refine g_getI (k := 3) cl_X0 (by decide) rfl q_173 dX0_sift_107 ?_
              refine g_iconst (v := (1 : Int32)) dX0_sift_110 ki_1 ?_
              refine g_iadd dX0_sift_111 ?_
              refine g_putI (k := 3) cl_X0 (by decide) rfl rfl q_173 dX0_sift_112 ?_
              intro m20
              refine g_aload_n (i := 0) dX0_sift_115 rfl rfl ?_
              refine g_iload dX0_sift_116 rfl ?_
              refine g_callVV cl_X0 (crt_X0_addWith _ _ _ _ _) cw_X0_addWith (by decide) rfl q_1264 q_1266 qs_34 rfl rfl dX0_sift_118 ?_
              intro r21 m22
              exact g_msk [true, true, true, true, false, false] (hJ121 _ _ _ _ _)
            · intro J102 hJ102
              refine g_ifne (tgt := 98) dX0_sift_91 (by decide) ?_ ?_
              · refine g_aload_n (i := 0) dX0_sift_98 rfl rfl ?_
                refine g_getI (k := 4) cl_X0 (by decide) rfl q_175 dX0_sift_99 ?_
                exact g_msk [true, true, true, true, false, true] (hJ102 _ _ _ _ _ _ _ _)
              · refine g_iload_n (i := 3) dX0_sift_94 rfl rfl ?_
                refine g_goto (tgt := 102) dX0_sift_95 (by decide) ?_
                exact g_msk [true, true, true, true, false, true] (hJ102 _ _ _ _ _ _ _ _)
      · intro J70 hJ70
        refine g_icmpne (tgt := 68) dX0_sift_61 (by decide) ?_ ?_
        · refine g_iload dX0_sift_68 rfl ?_
          exact g_msk [true, true, true, true, false, false] (hJ70 _ _ _ _ _ _)
        · refine g_iconst (v := (0 : Int32)) dX0_sift_64 ki_0 ?_
          refine g_goto (tgt := 70) dX0_sift_65 (by decide) ?_
          exact g_msk [true, true, true, true, false, false] (hJ70 _ _ _ _ _ _)
set_option maxRecDepth 100000 in
set_option maxHeartbeats 4000000 in
theorem crt_X0_sift (l : Launch) (θ : Th) (a0 : Nat) (a1 : Nat) (a2 : Nat) (m : Mm) : Crt l θ yX0_sift M_X0_sift cvV [.ref a0, .ref a1, .ref a2] m (F_X0_sift a0 a1 a2 m) := by
  refine crt_of 3 (by decide) rfl rfl (Nat.le_of_ble_eq_true rfl) (fun Z hμ => ?_)
  unfold F_X0_sift
  show GG Z _ _ 0 [some (.ref a0), some (.ref a1), some (.ref a2), none, none, none] [] m _
  refine g_aload_n (i := 2) dX0_sift_0 rfl rfl ?_
  refine g_aload_n (i := 1) dX0_sift_1 rfl rfl ?_
  refine g_callVV cl_X6 (crt_X6_weigh _ _ _ _ _) cw_X6_weigh (by decide) rfl q_1260 q_452 q_453 rfl rfl dX0_sift_2 ?_
  intro r1 m2
  refine g_aload_n (i := 0) dX0_sift_5 rfl rfl ?_
  refine g_iconst (v := (0 : Int32)) dX0_sift_6 ki_0 ?_
  refine g_putI (k := 3) cl_X0 (by decide) rfl rfl q_173 dX0_sift_7 ?_
  intro m3
  refine g_aload_n (i := 0) dX0_sift_10 rfl rfl ?_
  refine g_iconst (v := (-1 : Int32)) dX0_sift_11 ki_m1 ?_
  refine g_putI (k := 4) cl_X0 (by decide) rfl rfl q_175 dX0_sift_12 ?_
  intro m4
  refine g_iconst (v := (0 : Int32)) dX0_sift_15 ki_0 ?_
  refine g_istore_n (i := 3) dX0_sift_16 rfl (show 3 < 6 by decide) ?_
  intro x5
  refine g_msk [true, true, true, true, false, false] (c_L_X0_sift_17 ?_ NF _ _ _ _ _)
  intro v0 v1 v2 m
  refine g_iconst (v := (0 : Int32)) dX0_sift_36 ki_0 ?_
  refine g_istore_n (i := 3) dX0_sift_37 rfl (show 3 < 6 by decide) ?_
  intro x9
  exact g_msk [true, true, true, true, false, false] (c_L_X0_sift_38 NF _ _ _ _ _)
set_option maxRecDepth 100000 in
set_option maxHeartbeats 4000000 in
theorem crt_X0_leftAtWorst (l : Launch) (θ : Th) (a0 : Nat) (a1 : Int32) (m : Mm) : Crt l θ yX0_leftAtWorst M_X0_leftAtWorst cvI [.ref a0, .int a1] m (F_X0_leftAtWorst a0 a1 m) := by
  refine crt_of 0 (by decide) rfl rfl (Nat.le_of_ble_eq_true rfl) (fun Z hμ => ?_)
  unfold F_X0_leftAtWorst
  show GG Z _ _ 0 [some (.ref a0), some (.int a1)] [] m _
  refine g_iload_n (i := 1) dX0_leftAtWorst_0 rfl rfl ?_
  refine g_iflt (tgt := 10) dX0_leftAtWorst_1 (by decide) ?_ ?_
  · refine g_iconst (v := (-1 : Int32)) dX0_leftAtWorst_10 ki_m1 ?_
    exact g_ireturn rfl dX0_leftAtWorst_11
  · refine g_iload_n (i := 1) dX0_leftAtWorst_4 rfl rfl ?_
    refine g_bipush (v := (6 : Int32)) dX0_leftAtWorst_5 kb_6 ?_
    refine g_icmplt (tgt := 12) dX0_leftAtWorst_7 (by decide) ?_ ?_
    · refine g_aload_n (i := 0) dX0_leftAtWorst_12 rfl rfl ?_
      refine g_getR (k := 5) cl_X0 (by decide) rfl q_177 dX0_leftAtWorst_13 ?_
      intro q1
      refine g_iload_n (i := 1) dX0_leftAtWorst_16 rfl rfl ?_
      refine g_iaload dX0_leftAtWorst_17 ?_
      refine g_aload_n (i := 0) dX0_leftAtWorst_18 rfl rfl ?_
      refine g_getI (k := 3) cl_X0 (by decide) rfl q_173 dX0_leftAtWorst_19 ?_
      refine g_aload_n (i := 0) dX0_leftAtWorst_22 rfl rfl ?_
      refine g_getR (k := 5) cl_X0 (by decide) rfl q_177 dX0_leftAtWorst_23 ?_
      intro q2
      refine g_iload_n (i := 1) dX0_leftAtWorst_26 rfl rfl ?_
      refine g_iaload dX0_leftAtWorst_27 ?_
      refine g_isub dX0_leftAtWorst_28 ?_
      refine g_mmax q_1283 q_472 q_13 qm_max (by decide) rfl dX0_leftAtWorst_29 ?_
      exact g_ireturn rfl dX0_leftAtWorst_32
    · refine g_iconst (v := (-1 : Int32)) dX0_leftAtWorst_10 ki_m1 ?_
      exact g_ireturn rfl dX0_leftAtWorst_11
set_option maxRecDepth 100000 in
set_option maxHeartbeats 4000000 in
theorem c_L_X0_bestToAsk_4 {Z : Zx}    : ∀ (n : Nat) (v0 : Nat) (v1 : Int32) (v2 : Int32) (v3 : Int32) (m : Mm), GG Z M_X0_bestToAsk (PsN Z cvI) 4 [some (.ref v0), some (.int v1), some (.int v2), some (.int v3)] [] m (L_X0_bestToAsk_4 n v0 v1 v2 v3 m) := by
  intro n
  induction n with
  | zero => intro v0 v1 v2 v3 m; exact g_no
  | succ n ih =>
    intro v0 v1 v2 v3 m
    unfold L_X0_bestToAsk_4
    refine g_iload_n (i := 3) dX0_bestToAsk_4 rfl rfl ?_
    refine g_iload_n (i := 1) dX0_bestToAsk_5 rfl rfl ?_
    refine g_icmpge (tgt := 52) dX0_bestToAsk_6 (by decide) ?_ ?_
    · refine g_iload_n (i := 2) dX0_bestToAsk_52 rfl rfl ?_
      exact g_ireturn rfl dX0_bestToAsk_53
    · refine g_iload_n (i := 3) dX0_bestToAsk_9 rfl rfl ?_
      refine g_bipush (v := (6 : Int32)) dX0_bestToAsk_10 kb_6 ?_
      refine g_icmpge (tgt := 52) dX0_bestToAsk_12 (by decide) ?_ ?_
      · refine g_iload_n (i := 2) dX0_bestToAsk_52 rfl rfl ?_
        exact g_ireturn rfl dX0_bestToAsk_53
      · refine g_aload_n (i := 0) dX0_bestToAsk_15 rfl rfl ?_
        refine g_getI (k := 1) cl_X0 (by decide) rfl q_171 dX0_bestToAsk_16 ?_
        refine g_iload_n (i := 3) dX0_bestToAsk_19 rfl rfl ?_
        refine g_callSNI (crt_X11_has _ _ _ _ _) cw_X11_has (by decide) rfl q_1058 q_360 rfl rfl dX0_bestToAsk_20 ?_
        intro r3 m4
        refine g_jn (fun J46 => ∀ (v0 : Nat) (v1 : Int32) (v2 : Int32) (v3 : Int32) (m : Mm), GG Z M_X0_bestToAsk (PsN Z cvI) 46 [some (.ref v0), some (.int v1), some (.int v2), some (.int v3)] [] m (J46 v0 v1 v2 v3 m)) ?_ ?_
        · intro v0 v1 v2 v3 m
          refine g_iinc dX0_bestToAsk_46 rfl ki_1 (show 3 < 4 by decide) ?_
          intro x5
          refine g_goto (tgt := 4) dX0_bestToAsk_49 (by decide) ?_
          exact g_msk [true, true, true, true] (ih _ _ _ _ _)
        · intro J46 hJ46
          refine g_ifne (tgt := 46) dX0_bestToAsk_23 (by decide) ?_ ?_
          · exact g_msk [true, true, true, true] (hJ46 _ _ _ _ _)
          · refine g_iload_n (i := 2) dX0_bestToAsk_26 rfl rfl ?_
            refine g_iconst (v := (-1 : Int32)) dX0_bestToAsk_27 ki_m1 ?_
            refine g_jn (fun J44 => ∀ (v0 : Nat) (v1 : Int32) (v3 : Int32) (m : Mm), GG Z M_X0_bestToAsk (PsN Z cvI) 44 [some (.ref v0), some (.int v1), none, some (.int v3)] [] m (J44 v0 v1 v3 m)) ?_ ?_
            · intro v0 v1 v3 m
              refine g_iload_n (i := 3) dX0_bestToAsk_44 rfl rfl ?_
              refine g_istore_n (i := 2) dX0_bestToAsk_45 rfl (show 2 < 4 by decide) ?_
              intro x6
              exact g_msk [true, true, true, true] (hJ46 _ _ _ _ _)
            · intro J44 hJ44
              refine g_icmpeq (tgt := 44) dX0_bestToAsk_28 (by decide) ?_ ?_
              · exact g_msk [true, true, false, true] (hJ44 _ _ _ _)
              · refine g_aload_n (i := 0) dX0_bestToAsk_31 rfl rfl ?_
                refine g_iload_n (i := 3) dX0_bestToAsk_32 rfl rfl ?_
                refine g_callVI cl_X0 (crt_X0_leftAtWorst _ _ _ _ _) cw_X0_leftAtWorst (by decide) rfl q_1279 q_1280 q_1281 rfl rfl dX0_bestToAsk_33 ?_
                intro r7 m8
                refine g_aload_n (i := 0) dX0_bestToAsk_36 rfl rfl ?_
                refine g_iload_n (i := 2) dX0_bestToAsk_37 rfl rfl ?_
                refine g_callVI cl_X0 (crt_X0_leftAtWorst _ _ _ _ _) cw_X0_leftAtWorst (by decide) rfl q_1279 q_1280 q_1281 rfl rfl dX0_bestToAsk_38 ?_
                intro r9 m10
                refine g_icmpge (tgt := 46) dX0_bestToAsk_41 (by decide) ?_ ?_
                · exact g_msk [true, true, true, true] (hJ46 _ _ _ _ _)
                · exact g_msk [true, true, false, true] (hJ44 _ _ _ _)
set_option maxRecDepth 100000 in
set_option maxHeartbeats 4000000 in
theorem crt_X0_bestToAsk (l : Launch) (θ : Th) (a0 : Nat) (a1 : Int32) (m : Mm) : Crt l θ yX0_bestToAsk M_X0_bestToAsk cvI [.ref a0, .int a1] m (F_X0_bestToAsk a0 a1 m) := by
  refine crt_of 2 (by decide) rfl rfl (Nat.le_of_ble_eq_true rfl) (fun Z hμ => ?_)
  unfold F_X0_bestToAsk
  show GG Z _ _ 0 [some (.ref a0), some (.int a1), none, none] [] m _
  refine g_iconst (v := (-1 : Int32)) dX0_bestToAsk_0 ki_m1 ?_
  refine g_istore_n (i := 2) dX0_bestToAsk_1 rfl (show 2 < 4 by decide) ?_
  intro x1
  refine g_iconst (v := (0 : Int32)) dX0_bestToAsk_2 ki_0 ?_
  refine g_istore_n (i := 3) dX0_bestToAsk_3 rfl (show 3 < 4 by decide) ?_
  intro x2
  exact g_msk [true, true, true, true] (c_L_X0_bestToAsk_4 NF _ _ _ _ _)
set_option maxRecDepth 100000 in
set_option maxHeartbeats 4000000 in
theorem crt_X1_init (l : Launch) (θ : Th) (a0 : Nat) (m : Mm) : Crt l θ yX1_init M_X1_init cvV [.ref a0] m (F_X1_init a0 m) := by
  refine crt_of 0 (by decide) rfl rfl (Nat.le_of_ble_eq_true rfl) (fun Z hμ => ?_)
  unfold F_X1_init
  show GG Z _ _ 0 [some (.ref a0)] [] m _
  refine g_aload_n (i := 0) dX1_init_0 rfl rfl ?_
  refine g_objInit q_86 q_35 q_36 (by decide) rfl dX1_init_1 ?_
  refine g_aload_n (i := 0) dX1_init_4 rfl rfl ?_
  refine g_bipush (v := (30 : Int32)) dX1_init_5 kb_30 ?_
  refine g_putI (k := 2) cl_X1 (by decide) rfl rfl q_92 dX1_init_7 ?_
  intro m1
  exact g_return rfl dX1_init_10
set_option maxRecDepth 100000 in
set_option maxHeartbeats 4000000 in
theorem crt_X1_readNumber (l : Launch) (θ : Th) (a0 : Nat) (a1 : Int32) (m : Mm) : Crt l θ yX1_readNumber M_X1_readNumber cvI [.ref a0, .int a1] m (F_X1_readNumber a0 a1 m) := by
  refine crt_of 1 (by decide) rfl rfl (Nat.le_of_ble_eq_true rfl) (fun Z hμ => ?_)
  unfold F_X1_readNumber
  show GG Z _ _ 0 [some (.ref a0), some (.int a1), none] [] m _
  refine g_iload_n (i := 1) dX1_readNumber_0 rfl rfl ?_
  refine g_jn (fun J20 => ∀ (v0 : Nat) (s0 : Int32) (m : Mm), GG Z M_X1_readNumber (PsN Z cvI) 20 [some (.ref v0), none, none] [.int s0] m (J20 v0 s0 m)) ?_ ?_
  · intro v0 s0 m
    refine g_istore_n (i := 2) dX1_readNumber_20 rfl (show 2 < 3 by decide) ?_
    intro x1
    refine g_iload_n (i := 2) dX1_readNumber_21 rfl rfl ?_
    refine g_ifeq (tgt := 38) dX1_readNumber_22 (by decide) ?_ ?_
    · refine g_iconst (v := (0 : Int32)) dX1_readNumber_38 ki_0 ?_
      exact g_zreturnK rfl (by decide) dX1_readNumber_39
    · refine g_aload_n (i := 0) dX1_readNumber_25 rfl rfl ?_
      refine g_bipush (v := (59 : Int32)) dX1_readNumber_26 kb_59 ?_
      refine g_callVI cl_X9 (crt_X9_sign _ _ _ _ _) cw_X9_sign (by decide) rfl q_829 q_830 q_831 rfl rfl dX1_readNumber_28 ?_
      intro r2 m3
      refine g_ifeq (tgt := 38) dX1_readNumber_31 (by decide) ?_ ?_
      · refine g_iconst (v := (0 : Int32)) dX1_readNumber_38 ki_0 ?_
        exact g_zreturnK rfl (by decide) dX1_readNumber_39
      · refine g_iconst (v := (1 : Int32)) dX1_readNumber_34 ki_1 ?_
        refine g_goto (tgt := 39) dX1_readNumber_35 (by decide) ?_
        exact g_zreturnK rfl (by decide) dX1_readNumber_39
  · intro J20 hJ20
    refine g_ifeq (tgt := 13) dX1_readNumber_1 (by decide) ?_ ?_
    · refine g_aload_n (i := 0) dX1_readNumber_13 rfl rfl ?_
      refine g_iconst (v := (1 : Int32)) dX1_readNumber_14 ki_1 ?_
      refine g_bipush (v := (30 : Int32)) dX1_readNumber_15 kb_30 ?_
      refine g_callVI cl_X9 (crt_X9_number _ _ _ _ _ _) cw_X9_number (by decide) rfl q_820 q_821 q_822 rfl rfl dX1_readNumber_17 ?_
      intro r4 m5
      exact g_msk [true, false, false] (hJ20 _ _ _)
    · refine g_aload_n (i := 0) dX1_readNumber_4 rfl rfl ?_
      refine g_iconst (v := (0 : Int32)) dX1_readNumber_5 ki_0 ?_
      refine g_iconst (v := (1 : Int32)) dX1_readNumber_6 ki_1 ?_
      refine g_callVI cl_X9 (crt_X9_number _ _ _ _ _ _) cw_X9_number (by decide) rfl q_820 q_821 q_822 rfl rfl dX1_readNumber_7 ?_
      intro r6 m7
      refine g_goto (tgt := 20) dX1_readNumber_10 (by decide) ?_
      exact g_msk [true, false, false] (hJ20 _ _ _)
set_option maxRecDepth 100000 in
set_option maxHeartbeats 4000000 in
theorem crt_X7_init (l : Launch) (θ : Th) (a0 : Nat) (m : Mm) : Crt l θ yX7_init M_X7_init cvV [.ref a0] m (F_X7_init a0 m) := by
  refine crt_of 0 (by decide) rfl rfl (Nat.le_of_ble_eq_true rfl) (fun Z hμ => ?_)
  unfold F_X7_init
  show GG Z _ _ 0 [some (.ref a0)] [] m _
  refine g_aload_n (i := 0) dX7_init_0 rfl rfl ?_
  refine g_objInit q_215 q_35 q_36 (by decide) rfl dX7_init_1 ?_
  refine g_aload_n (i := 0) dX7_init_4 rfl rfl ?_
  refine g_bipush (v := (6 : Int32)) dX7_init_5 kb_6 ?_
  refine g_newarr (atype := .int) (ty := .int) (t0 := 0) (N := 6) rfl rfl (fun _ => rfl) (fun _ _ h => h) q_128 (by decide) (by decide) (by decide) (fun _ _ => nwd_i _ _ _ _ (by decide) rfl) dX7_init_7 ?_
  intro m1
  refine g_putRF (k := 8) cl_X7 (by decide) rfl (fun _ => rfl) (fun _ => rfl) rfl rfl rfl q_242 dX7_init_9 ?_
  intro m2
  refine g_aload_n (i := 0) dX7_init_12 rfl rfl ?_
  refine g_bipush (v := (6 : Int32)) dX7_init_13 kb_6 ?_
  refine g_newarr (atype := .int) (ty := .int) (t0 := 0) (N := 6) rfl rfl (fun _ => rfl) (fun _ _ h => h) q_128 (by decide) (by decide) (by decide) (fun _ _ => nwd_i _ _ _ _ (by decide) rfl) dX7_init_15 ?_
  intro m3
  refine g_putRF (k := 9) cl_X7 (by decide) rfl (fun _ => rfl) (fun _ => rfl) rfl rfl rfl q_245 dX7_init_17 ?_
  intro m4
  refine g_aload_n (i := 0) dX7_init_20 rfl rfl ?_
  refine g_bipush (v := (6 : Int32)) dX7_init_21 kb_6 ?_
  refine g_newarr (atype := .int) (ty := .int) (t0 := 0) (N := 6) rfl rfl (fun _ => rfl) (fun _ _ h => h) q_128 (by decide) (by decide) (by decide) (fun _ _ => nwd_i _ _ _ _ (by decide) rfl) dX7_init_23 ?_
  intro m5
  refine g_putRF (k := 10) cl_X7 (by decide) rfl (fun _ => rfl) (fun _ => rfl) rfl rfl rfl q_247 dX7_init_25 ?_
  intro m6
  refine g_aload_n (i := 0) dX7_init_28 rfl rfl ?_
  refine g_bipush (v := (36 : Int32)) dX7_init_29 kb_36 ?_
  refine g_newarr (atype := .int) (ty := .int) (t0 := 0) (N := 36) rfl rfl (fun _ => rfl) (fun _ _ h => h) q_128 (by decide) (by decide) (by decide) (fun _ _ => nwd_i _ _ _ _ (by decide) rfl) dX7_init_31 ?_
  intro m7
  refine g_putRF (k := 11) cl_X7 (by decide) rfl (fun _ => rfl) (fun _ => rfl) rfl rfl rfl q_249 dX7_init_33 ?_
  intro m8
  refine g_aload_n (i := 0) dX7_init_36 rfl rfl ?_
  refine g_bipush (v := (6 : Int32)) dX7_init_37 kb_6 ?_
  refine g_newarr (atype := .int) (ty := .int) (t0 := 0) (N := 6) rfl rfl (fun _ => rfl) (fun _ _ h => h) q_128 (by decide) (by decide) (by decide) (fun _ _ => nwd_i _ _ _ _ (by decide) rfl) dX7_init_39 ?_
  intro m9
  refine g_putRF (k := 12) cl_X7 (by decide) rfl (fun _ => rfl) (fun _ => rfl) rfl rfl rfl q_251 dX7_init_41 ?_
  intro m10
  refine g_aload_n (i := 0) dX7_init_44 rfl rfl ?_
  refine g_bipush (v := (48 : Int32)) dX7_init_45 kb_48 ?_
  refine g_newarr (atype := .int) (ty := .int) (t0 := 0) (N := 48) rfl rfl (fun _ => rfl) (fun _ _ h => h) q_128 (by decide) (by decide) (by decide) (fun _ _ => nwd_i _ _ _ _ (by decide) rfl) dX7_init_47 ?_
  intro m11
  refine g_putRF (k := 13) cl_X7 (by decide) rfl (fun _ => rfl) (fun _ => rfl) rfl rfl rfl q_253 dX7_init_49 ?_
  intro m12
  refine g_aload_n (i := 0) dX7_init_52 rfl rfl ?_
  refine g_bipush (v := (6 : Int32)) dX7_init_53 kb_6 ?_
  refine g_newarr (atype := .int) (ty := .int) (t0 := 0) (N := 6) rfl rfl (fun _ => rfl) (fun _ _ h => h) q_128 (by decide) (by decide) (by decide) (fun _ _ => nwd_i _ _ _ _ (by decide) rfl) dX7_init_55 ?_
  intro m13
  refine g_putRF (k := 14) cl_X7 (by decide) rfl (fun _ => rfl) (fun _ => rfl) rfl rfl rfl q_255 dX7_init_57 ?_
  intro m14
  refine g_aload_n (i := 0) dX7_init_60 rfl rfl ?_
  refine g_bipush (v := (30 : Int32)) dX7_init_61 kb_30 ?_
  refine g_newarr (atype := .int) (ty := .int) (t0 := 0) (N := 30) rfl rfl (fun _ => rfl) (fun _ _ h => h) q_128 (by decide) (by decide) (by decide) (fun _ _ => nwd_i _ _ _ _ (by decide) rfl) dX7_init_63 ?_
  intro m15
  refine g_putRF (k := 15) cl_X7 (by decide) rfl (fun _ => rfl) (fun _ => rfl) rfl rfl rfl q_257 dX7_init_65 ?_
  intro m16
  refine g_aload_n (i := 0) dX7_init_68 rfl rfl ?_
  refine g_bipush (v := (30 : Int32)) dX7_init_69 kb_30 ?_
  refine g_newarr (atype := .int) (ty := .int) (t0 := 0) (N := 30) rfl rfl (fun _ => rfl) (fun _ _ h => h) q_128 (by decide) (by decide) (by decide) (fun _ _ => nwd_i _ _ _ _ (by decide) rfl) dX7_init_71 ?_
  intro m17
  refine g_putRF (k := 16) cl_X7 (by decide) rfl (fun _ => rfl) (fun _ => rfl) rfl rfl rfl q_259 dX7_init_73 ?_
  intro m18
  refine g_aload_n (i := 0) dX7_init_76 rfl rfl ?_
  refine g_bipush (v := (30 : Int32)) dX7_init_77 kb_30 ?_
  refine g_newarr (atype := .int) (ty := .int) (t0 := 0) (N := 30) rfl rfl (fun _ => rfl) (fun _ _ h => h) q_128 (by decide) (by decide) (by decide) (fun _ _ => nwd_i _ _ _ _ (by decide) rfl) dX7_init_79 ?_
  intro m19
  refine g_putRF (k := 17) cl_X7 (by decide) rfl (fun _ => rfl) (fun _ => rfl) rfl rfl rfl q_261 dX7_init_81 ?_
  intro m20
  refine g_aload_n (i := 0) dX7_init_84 rfl rfl ?_
  refine g_bipush (v := (6 : Int32)) dX7_init_85 kb_6 ?_
  refine g_newarr (atype := .long) (ty := .long) (t0 := 1) (N := 6) rfl rfl (fun _ => rfl) (fun _ _ h => h) q_308 (by decide) (by decide) (by decide) (fun _ _ => nwd_l _ _ _ rfl) dX7_init_87 ?_
  intro m21
  refine g_putRF (k := 18) cl_X7 (by decide) rfl (fun _ => rfl) (fun _ => rfl) rfl rfl rfl q_263 dX7_init_89 ?_
  intro m22
  refine g_aload_n (i := 0) dX7_init_92 rfl rfl ?_
  refine g_sipush (v := (384 : Int32)) dX7_init_93 ks_384 ?_
  refine g_newarr (atype := .long) (ty := .long) (t0 := 1) (N := 384) rfl rfl (fun _ => rfl) (fun _ _ h => h) q_308 (by decide) (by decide) (by decide) (fun _ _ => nwd_l _ _ _ rfl) dX7_init_96 ?_
  intro m23
  refine g_putRF (k := 19) cl_X7 (by decide) rfl (fun _ => rfl) (fun _ => rfl) rfl rfl rfl q_265 dX7_init_98 ?_
  intro m24
  exact g_return rfl dX7_init_101
set_option maxRecDepth 100000 in
set_option maxHeartbeats 4000000 in
theorem crt_X5_init (l : Launch) (θ : Th) (a0 : Nat) (m : Mm) : Crt l θ yX5_init M_X5_init cvV [.ref a0] m (F_X5_init a0 m) := by
  refine crt_of 0 (by decide) rfl rfl (Nat.le_of_ble_eq_true rfl) (fun Z hμ => ?_)
  unfold F_X5_init
  show GG Z _ _ 0 [some (.ref a0)] [] m _
  refine g_aload_n (i := 0) dX5_init_0 rfl rfl ?_
  refine g_objInit q_314 q_35 q_36 (by decide) rfl dX5_init_1 ?_
  refine g_aload_n (i := 0) dX5_init_4 rfl rfl ?_
  refine g_bipush (v := (16 : Int32)) dX5_init_5 kb_16 ?_
  refine g_anewarr (t0 := 4) (N := 16) rfl (by decide) (fun _ => rfl) (fun _ _ h => h.2.2.1) q_315 (by decide) (by decide) (by decide) dX5_init_7 ?_
  intro m1
  refine g_putRF (k := 0) cl_X5 (by decide) rfl (fun _ => rfl) (fun _ => rfl) rfl rfl rfl q_317 dX5_init_10 ?_
  intro m2
  exact g_return rfl dX5_init_13
set_option maxRecDepth 100000 in
set_option maxHeartbeats 4000000 in
theorem crt_X2_init (l : Launch) (θ : Th) (a0 : Nat) (m : Mm) : Crt l θ yX2_init M_X2_init cvV [.ref a0] m (F_X2_init a0 m) := by
  refine crt_of 0 (by decide) rfl rfl (Nat.le_of_ble_eq_true rfl) (fun Z hμ => ?_)
  unfold F_X2_init
  show GG Z _ _ 0 [some (.ref a0)] [] m _
  refine g_aload_n (i := 0) dX2_init_0 rfl rfl ?_
  refine g_objInit q_595 q_35 q_36 (by decide) rfl dX2_init_1 ?_
  refine g_aload_n (i := 0) dX2_init_4 rfl rfl ?_
  refine g_new cl_X7 cd_X7 q_596 q_211 q_8 dX2_init_5 ?_
  intro m1
  refine g_dup dX2_init_8 rfl ?_
  refine g_callINV (crt_X7_init _ _ _ _) cw_X7_init (by decide) rfl q_597 q_213 rfl rfl rfl rfl dX2_init_9 ?_
  intro r2 m3
  refine g_putRF (k := 0) cl_X2 (by decide) rfl (fun _ => rfl) (fun _ => rfl) rfl rfl rfl q_600 dX2_init_12 ?_
  intro m4
  refine g_aload_n (i := 0) dX2_init_15 rfl rfl ?_
  refine g_new cl_X5 cd_X5 q_598 q_310 q_9 dX2_init_16 ?_
  intro m5
  refine g_dup dX2_init_19 rfl ?_
  refine g_callINV (crt_X5_init _ _ _ _) cw_X5_init (by decide) rfl q_599 q_312 rfl rfl rfl rfl dX2_init_20 ?_
  intro r6 m7
  refine g_putRF (k := 1) cl_X2 (by decide) rfl (fun _ => rfl) (fun _ => rfl) rfl rfl rfl q_602 dX2_init_23 ?_
  intro m8
  exact g_return rfl dX2_init_26
set_option maxRecDepth 100000 in
set_option maxHeartbeats 4000000 in
theorem crt_X3_forget (l : Launch) (θ : Th) (a0 : Nat) (m : Mm) : Crt l θ yX3_forget M_X3_forget cvV [.ref a0] m (F_X3_forget a0 m) := by
  refine crt_of 0 (by decide) rfl rfl (Nat.le_of_ble_eq_true rfl) (fun Z hμ => ?_)
  unfold F_X3_forget
  show GG Z _ _ 0 [some (.ref a0)] [] m _
  refine g_aload_n (i := 0) dX3_forget_0 rfl rfl ?_
  refine g_getR (k := 0) cl_X3 (by decide) rfl q_112 dX3_forget_1 ?_
  intro q1
  refine g_iconst (v := (0 : Int32)) dX3_forget_4 ki_0 ?_
  refine g_iconst (v := (1 : Int32)) dX3_forget_5 ki_1 ?_
  refine g_iastore dX3_forget_6 ?_
  intro m2
  refine g_aload_n (i := 0) dX3_forget_7 rfl rfl ?_
  refine g_iconst (v := (1 : Int32)) dX3_forget_8 ki_1 ?_
  refine g_putI (k := 3) cl_X3 (by decide) rfl rfl q_115 dX3_forget_9 ?_
  intro m3
  exact g_return rfl dX3_forget_12
set_option maxRecDepth 100000 in
set_option maxHeartbeats 4000000 in
theorem crt_X3_init (l : Launch) (θ : Th) (a0 : Nat) (m : Mm) : Crt l θ yX3_init M_X3_init cvV [.ref a0] m (F_X3_init a0 m) := by
  refine crt_of 0 (by decide) rfl rfl (Nat.le_of_ble_eq_true rfl) (fun Z hμ => ?_)
  unfold F_X3_init
  show GG Z _ _ 0 [some (.ref a0)] [] m _
  refine g_aload_n (i := 0) dX3_init_0 rfl rfl ?_
  refine g_objInit q_107 q_35 q_36 (by decide) rfl dX3_init_1 ?_
  refine g_aload_n (i := 0) dX3_init_4 rfl rfl ?_
  refine g_sipush (v := (150 : Int32)) dX3_init_5 ks_150 ?_
  refine g_newarr (atype := .int) (ty := .int) (t0 := 0) (N := 150) rfl rfl (fun _ => rfl) (fun _ _ h => h) q_128 (by decide) (by decide) (by decide) (fun _ _ => nwd_i _ _ _ _ (by decide) rfl) dX3_init_8 ?_
  intro m1
  refine g_putR (k := 0) cl_X3 (by decide) rfl (fun _ => rfl) (fun _ => rfl) rfl q_112 dX3_init_10 ?_
  intro m2
  refine g_aload_n (i := 0) dX3_init_13 rfl rfl ?_
  refine g_sipush (v := (150 : Int32)) dX3_init_14 ks_150 ?_
  refine g_newarr (atype := .int) (ty := .int) (t0 := 0) (N := 150) rfl rfl (fun _ => rfl) (fun _ _ h => h) q_128 (by decide) (by decide) (by decide) (fun _ _ => nwd_i _ _ _ _ (by decide) rfl) dX3_init_17 ?_
  intro m3
  refine g_putR (k := 1) cl_X3 (by decide) rfl (fun _ => rfl) (fun _ => rfl) rfl q_113 dX3_init_19 ?_
  intro m4
  refine g_aload_n (i := 0) dX3_init_22 rfl rfl ?_
  refine g_sipush (v := (150 : Int32)) dX3_init_23 ks_150 ?_
  refine g_newarr (atype := .int) (ty := .int) (t0 := 0) (N := 150) rfl rfl (fun _ => rfl) (fun _ _ h => h) q_128 (by decide) (by decide) (by decide) (fun _ _ => nwd_i _ _ _ _ (by decide) rfl) dX3_init_26 ?_
  intro m5
  refine g_putRF (k := 2) cl_X3 (by decide) rfl (fun _ => rfl) (fun _ => rfl) rfl rfl rfl q_114 dX3_init_28 ?_
  intro m6
  refine g_aload_n (i := 0) dX3_init_31 rfl rfl ?_
  refine g_callVV cl_X3 (crt_X3_forget _ _ _ _) cw_X3_forget (by decide) rfl q_108 q_109 q_110 rfl rfl dX3_init_32 ?_
  intro r7 m8
  exact g_return rfl dX3_init_35
set_option maxRecDepth 100000 in
set_option maxHeartbeats 4000000 in
theorem crt_X3_joint (l : Launch) (θ : Th) (a0 : Int32) (m : Mm) : Crt l θ yX3_joint M_X3_joint cvI [.int a0] m (F_X3_joint a0 m) := by
  refine crt_of 0 (by decide) rfl rfl (Nat.le_of_ble_eq_true rfl) (fun Z hμ => ?_)
  unfold F_X3_joint
  show GG Z _ _ 0 [some (.int a0)] [] m _
  refine g_iload_n (i := 0) dX3_joint_0 rfl rfl ?_
  refine g_sw0 (lo := 37) ?_
  refine g_swc (k := 0) (tgt := 76) dX3_joint_1 (by decide) kt_37 rfl (by decide) ?_ ?_
  · refine g_sipush (v := (1010 : Int32)) dX3_joint_76 ks_1010 ?_
    exact g_ireturn rfl dX3_joint_79
  · refine g_swc (k := 1) (tgt := 80) dX3_joint_1 (by decide) kt_38 rfl (by decide) ?_ ?_
    · refine g_iconst (v := (-1 : Int32)) dX3_joint_80 ki_m1 ?_
      exact g_ireturn rfl dX3_joint_81
    · refine g_swc (k := 2) (tgt := 80) dX3_joint_1 (by decide) kt_39 rfl (by decide) ?_ ?_
      · refine g_iconst (v := (-1 : Int32)) dX3_joint_80 ki_m1 ?_
        exact g_ireturn rfl dX3_joint_81
      · refine g_swc (k := 3) (tgt := 80) dX3_joint_1 (by decide) kt_40 rfl (by decide) ?_ ?_
        · refine g_iconst (v := (-1 : Int32)) dX3_joint_80 ki_m1 ?_
          exact g_ireturn rfl dX3_joint_81
        · refine g_swc (k := 4) (tgt := 80) dX3_joint_1 (by decide) kt_41 rfl (by decide) ?_ ?_
          · refine g_iconst (v := (-1 : Int32)) dX3_joint_80 ki_m1 ?_
            exact g_ireturn rfl dX3_joint_81
          · refine g_swc (k := 5) (tgt := 68) dX3_joint_1 (by decide) kt_42 rfl (by decide) ?_ ?_
            · refine g_sipush (v := (1008 : Int32)) dX3_joint_68 ks_1008 ?_
              exact g_ireturn rfl dX3_joint_71
            · refine g_swc (k := 6) (tgt := 60) dX3_joint_1 (by decide) kt_43 rfl (by decide) ?_ ?_
              · refine g_sipush (v := (1006 : Int32)) dX3_joint_60 ks_1006 ?_
                exact g_ireturn rfl dX3_joint_63
              · refine g_swc (k := 7) (tgt := 80) dX3_joint_1 (by decide) kt_44 rfl (by decide) ?_ ?_
                · refine g_iconst (v := (-1 : Int32)) dX3_joint_80 ki_m1 ?_
                  exact g_ireturn rfl dX3_joint_81
                · refine g_swc (k := 8) (tgt := 64) dX3_joint_1 (by decide) kt_45 rfl (by decide) ?_ ?_
                  · refine g_sipush (v := (1007 : Int32)) dX3_joint_64 ks_1007 ?_
                    exact g_ireturn rfl dX3_joint_67
                  · refine g_swc (k := 9) (tgt := 80) dX3_joint_1 (by decide) kt_46 rfl (by decide) ?_ ?_
                    · refine g_iconst (v := (-1 : Int32)) dX3_joint_80 ki_m1 ?_
                      exact g_ireturn rfl dX3_joint_81
                    · refine g_swc (k := 10) (tgt := 72) dX3_joint_1 (by decide) kt_47 rfl (by decide) ?_ ?_
                      · refine g_sipush (v := (1009 : Int32)) dX3_joint_72 ks_1009 ?_
                        exact g_ireturn rfl dX3_joint_75
                      · refine g_swe (n := 11) (tgt := 80) dX3_joint_1 (by decide) (by decide) ?_
                        refine g_iconst (v := (-1 : Int32)) dX3_joint_80 ki_m1 ?_
                        exact g_ireturn rfl dX3_joint_81
set_option maxRecDepth 100000 in
set_option maxHeartbeats 4000000 in
theorem crt_X3_emit (l : Launch) (θ : Th) (a0 : Nat) (a1 : Int32) (m : Mm) : Crt l θ yX3_emit M_X3_emit cvV [.ref a0, .int a1] m (F_X3_emit a0 a1 m) := by
  refine crt_of 0 (by decide) rfl rfl (Nat.le_of_ble_eq_true rfl) (fun Z hμ => ?_)
  unfold F_X3_emit
  show GG Z _ _ 0 [some (.ref a0), some (.int a1)] [] m _
  refine g_aload_n (i := 0) dX3_emit_0 rfl rfl ?_
  refine g_getI (k := 4) cl_X3 (by decide) rfl q_116 dX3_emit_1 ?_
  refine g_aload_n (i := 0) dX3_emit_4 rfl rfl ?_
  refine g_getR (k := 1) cl_X3 (by decide) rfl q_113 dX3_emit_5 ?_
  intro q1
  refine g_alen100 dX3_emit_8 ?_
  refine g_icmpge (tgt := 32) dX3_emit_9 (by decide) ?_ ?_
  · exact g_return rfl dX3_emit_32
  · refine g_aload_n (i := 0) dX3_emit_12 rfl rfl ?_
    refine g_getR (k := 1) cl_X3 (by decide) rfl q_113 dX3_emit_13 ?_
    intro q2
    refine g_aload_n (i := 0) dX3_emit_16 rfl rfl ?_
    refine g_getI (k := 4) cl_X3 (by decide) rfl q_116 dX3_emit_17 ?_
    refine g_iload_n (i := 1) dX3_emit_20 rfl rfl ?_
    refine g_iastore dX3_emit_21 ?_
    intro m3
    refine g_aload_n (i := 0) dX3_emit_22 rfl rfl ?_
    refine g_dup dX3_emit_23 rfl ?_
    refine g_getI (k := 4) cl_X3 (by decide) rfl q_116 dX3_emit_24 ?_
    refine g_iconst (v := (1 : Int32)) dX3_emit_27 ki_1 ?_
    refine g_iadd dX3_emit_28 ?_
    refine g_putI (k := 4) cl_X3 (by decide) rfl rfl q_116 dX3_emit_29 ?_
    intro m4
    exact g_return rfl dX3_emit_32
set_option maxRecDepth 100000 in
set_option maxHeartbeats 4000000 in
theorem crt_X4_init (l : Launch) (θ : Th) (a0 : Nat) (m : Mm) : Crt l θ yX4_init M_X4_init cvV [.ref a0] m (F_X4_init a0 m) := by
  refine crt_of 0 (by decide) rfl rfl (Nat.le_of_ble_eq_true rfl) (fun Z hμ => ?_)
  unfold F_X4_init
  show GG Z _ _ 0 [some (.ref a0)] [] m _
  refine g_aload_n (i := 0) dX4_init_0 rfl rfl ?_
  refine g_objInit q_332 q_35 q_36 (by decide) rfl dX4_init_1 ?_
  refine g_aload_n (i := 0) dX4_init_4 rfl rfl ?_
  refine g_bipush (v := (64 : Int32)) dX4_init_5 kb_64 ?_
  refine g_newarr (atype := .char) (ty := .char) (t0 := 3) (N := 64) rfl rfl (fun _ => rfl) (fun _ _ h => h) q_341 (by decide) (by decide) (by decide) (fun _ _ => nwd_i _ _ _ _ (by decide) rfl) dX4_init_7 ?_
  intro m1
  refine g_putRF (k := 0) cl_X4 (by decide) rfl (fun _ => rfl) (fun _ => rfl) rfl rfl rfl q_333 dX4_init_9 ?_
  intro m2
  exact g_return rfl dX4_init_12
set_option maxRecDepth 100000 in
set_option maxHeartbeats 4000000 in
theorem crt_X4_put (l : Launch) (θ : Th) (a0 : Nat) (a1 : Int32) (m : Mm) : Crt l θ yX4_put M_X4_put cvV [.ref a0, .int a1] m (F_X4_put a0 a1 m) := by
  refine crt_of 0 (by decide) rfl rfl (Nat.le_of_ble_eq_true rfl) (fun Z hμ => ?_)
  unfold F_X4_put
  show GG Z _ _ 0 [some (.ref a0), some (.int a1)] [] m _
  refine g_aload_n (i := 0) dX4_put_0 rfl rfl ?_
  refine g_getI (k := 1) cl_X4 (by decide) rfl q_334 dX4_put_1 ?_
  refine g_aload_n (i := 0) dX4_put_4 rfl rfl ?_
  refine g_getR (k := 0) cl_X4 (by decide) rfl q_333 dX4_put_5 ?_
  intro q1
  refine g_alen103 dX4_put_8 ?_
  refine g_icmpge (tgt := 32) dX4_put_9 (by decide) ?_ ?_
  · exact g_return rfl dX4_put_32
  · refine g_aload_n (i := 0) dX4_put_12 rfl rfl ?_
    refine g_getR (k := 0) cl_X4 (by decide) rfl q_333 dX4_put_13 ?_
    intro q2
    refine g_aload_n (i := 0) dX4_put_16 rfl rfl ?_
    refine g_getI (k := 1) cl_X4 (by decide) rfl q_334 dX4_put_17 ?_
    refine g_iload_n (i := 1) dX4_put_20 rfl rfl ?_
    refine g_castore dX4_put_21 ?_
    intro m3
    refine g_aload_n (i := 0) dX4_put_22 rfl rfl ?_
    refine g_dup dX4_put_23 rfl ?_
    refine g_getI (k := 1) cl_X4 (by decide) rfl q_334 dX4_put_24 ?_
    refine g_iconst (v := (1 : Int32)) dX4_put_27 ki_1 ?_
    refine g_iadd dX4_put_28 ?_
    refine g_putI (k := 1) cl_X4 (by decide) rfl rfl q_334 dX4_put_29 ?_
    intro m4
    exact g_return rfl dX4_put_32
set_option maxRecDepth 100000 in
set_option maxHeartbeats 4000000 in
theorem c_L_X4_putNumber_7 {Z : Zx}  {K24 : Nat → Int32 → Int32 → Mm → Option (Unit × Mm)} (hK24 : ∀ (v0 : Nat) (v1 : Int32) (v2 : Int32) (m : Mm), GG Z M_X4_putNumber (PsN Z cvV) 24 [some (.ref v0), some (.int v1), some (.int v2), none] [] m (K24 v0 v1 v2 m)) : ∀ (n : Nat) (v0 : Nat) (v1 : Int32) (v2 : Int32) (v3 : Int32) (m : Mm), GG Z M_X4_putNumber (PsN Z cvV) 7 [some (.ref v0), some (.int v1), some (.int v2), some (.int v3)] [] m (L_X4_putNumber_7 K24 n v0 v1 v2 v3 m) := by
  intro n
  induction n with
  | zero => intro v0 v1 v2 v3 m; exact g_no
  | succ n ih =>
    intro v0 v1 v2 v3 m
    unfold L_X4_putNumber_7
    refine g_iload_n (i := 3) dX4_putNumber_7 rfl rfl ?_
    refine g_ifle (tgt := 24) dX4_putNumber_8 (by decide) ?_ ?_
    · exact g_msk [true, true, true, false] (hK24 _ _ _ _)
    · refine g_iload_n (i := 2) dX4_putNumber_11 rfl rfl ?_
      refine g_bipush (v := (10 : Int32)) dX4_putNumber_12 kb_10 ?_
      refine g_imul dX4_putNumber_14 ?_
      refine g_istore_n (i := 2) dX4_putNumber_15 rfl (show 2 < 4 by decide) ?_
      intro x3
      refine g_iload_n (i := 3) dX4_putNumber_16 rfl rfl ?_
      refine g_bipush (v := (10 : Int32)) dX4_putNumber_17 kb_10 ?_
      refine g_idiv dX4_putNumber_19 ?_
      refine g_istore_n (i := 3) dX4_putNumber_20 rfl (show 3 < 4 by decide) ?_
      intro x4
      refine g_goto (tgt := 7) dX4_putNumber_21 (by decide) ?_
      exact g_msk [true, true, true, true] (ih _ _ _ _ _)
set_option maxRecDepth 100000 in
set_option maxHeartbeats 4000000 in
theorem c_L_X4_putNumber_26 {Z : Zx}    : ∀ (n : Nat) (v0 : Nat) (v1 : Int32) (v2 : Int32) (v3 : Int32) (m : Mm), GG Z M_X4_putNumber (PsN Z cvV) 26 [some (.ref v0), some (.int v1), some (.int v2), some (.int v3)] [] m (L_X4_putNumber_26 n v0 v1 v2 v3 m) := by
  intro n
  induction n with
  | zero => intro v0 v1 v2 v3 m; exact g_no
  | succ n ih =>
    intro v0 v1 v2 v3 m
    unfold L_X4_putNumber_26
    refine g_iload_n (i := 3) dX4_putNumber_26 rfl rfl ?_
    refine g_bipush (v := (10 : Int32)) dX4_putNumber_27 kb_10 ?_
    refine g_icmpge (tgt := 61) dX4_putNumber_29 (by decide) ?_ ?_
    · exact g_return rfl dX4_putNumber_61
    · refine g_iload_n (i := 2) dX4_putNumber_32 rfl rfl ?_
      refine g_ifle (tgt := 61) dX4_putNumber_33 (by decide) ?_ ?_
      · exact g_return rfl dX4_putNumber_61
      · refine g_aload_n (i := 0) dX4_putNumber_36 rfl rfl ?_
        refine g_bipush (v := (48 : Int32)) dX4_putNumber_37 kb_48 ?_
        refine g_iload_n (i := 1) dX4_putNumber_39 rfl rfl ?_
        refine g_iload_n (i := 2) dX4_putNumber_40 rfl rfl ?_
        refine g_idiv dX4_putNumber_41 ?_
        refine g_bipush (v := (10 : Int32)) dX4_putNumber_42 kb_10 ?_
        refine g_irem dX4_putNumber_44 ?_
        refine g_iadd dX4_putNumber_45 ?_
        refine g_i2c dX4_putNumber_46 ?_
        refine g_callVV cl_X4 (crt_X4_put _ _ _ _ _) cw_X4_put (by decide) rfl q_574 q_576 qs_7 rfl rfl dX4_putNumber_47 ?_
        intro r6 m7
        refine g_iload_n (i := 2) dX4_putNumber_50 rfl rfl ?_
        refine g_bipush (v := (10 : Int32)) dX4_putNumber_51 kb_10 ?_
        refine g_idiv dX4_putNumber_53 ?_
        refine g_istore_n (i := 2) dX4_putNumber_54 rfl (show 2 < 4 by decide) ?_
        intro x8
        refine g_iinc dX4_putNumber_55 rfl ki_1 (show 3 < 4 by decide) ?_
        intro x9
        refine g_goto (tgt := 26) dX4_putNumber_58 (by decide) ?_
        exact g_msk [true, true, true, true] (ih _ _ _ _ _)
set_option maxRecDepth 100000 in
set_option maxHeartbeats 4000000 in
theorem crt_X4_putNumber (l : Launch) (θ : Th) (a0 : Nat) (a1 : Int32) (m : Mm) : Crt l θ yX4_putNumber M_X4_putNumber cvV [.ref a0, .int a1] m (F_X4_putNumber a0 a1 m) := by
  refine crt_of 2 (by decide) rfl rfl (Nat.le_of_ble_eq_true rfl) (fun Z hμ => ?_)
  unfold F_X4_putNumber
  show GG Z _ _ 0 [some (.ref a0), some (.int a1), none, none] [] m _
  refine g_iconst (v := (1 : Int32)) dX4_putNumber_0 ki_1 ?_
  refine g_istore_n (i := 2) dX4_putNumber_1 rfl (show 2 < 4 by decide) ?_
  intro x1
  refine g_iload_n (i := 1) dX4_putNumber_2 rfl rfl ?_
  refine g_bipush (v := (10 : Int32)) dX4_putNumber_3 kb_10 ?_
  refine g_idiv dX4_putNumber_5 ?_
  refine g_istore_n (i := 3) dX4_putNumber_6 rfl (show 3 < 4 by decide) ?_
  intro x2
  refine g_msk [true, true, true, true] (c_L_X4_putNumber_7 ?_ NF _ _ _ _ _)
  intro v0 v1 v2 m
  refine g_iconst (v := (0 : Int32)) dX4_putNumber_24 ki_0 ?_
  refine g_istore_n (i := 3) dX4_putNumber_25 rfl (show 3 < 4 by decide) ?_
  intro x5
  exact g_msk [true, true, true, true] (c_L_X4_putNumber_26 NF _ _ _ _ _)
set_option maxRecDepth 100000 in
set_option maxHeartbeats 4000000 in
theorem crt_X4_putMember (l : Launch) (θ : Th) (a0 : Nat) (a1 : Nat) (a2 : Int32) (m : Mm) : Crt l θ yX4_putMember M_X4_putMember cvV [.ref a0, .ref a1, .int a2] m (F_X4_putMember a0 a1 a2 m) := by
  refine crt_of 0 (by decide) rfl rfl (Nat.le_of_ble_eq_true rfl) (fun Z hμ => ?_)
  unfold F_X4_putMember
  show GG Z _ _ 0 [some (.ref a0), some (.ref a1), some (.int a2)] [] m _
  refine g_aload_n (i := 0) dX4_putMember_0 rfl rfl ?_
  refine g_iload_n (i := 2) dX4_putMember_1 rfl rfl ?_
  refine g_callVV cl_X4 (crt_X4_putNumber _ _ _ _ _) cw_X4_putNumber (by decide) rfl q_578 q_580 qs_8 rfl rfl dX4_putMember_2 ?_
  intro r1 m2
  refine g_aload_n (i := 1) dX4_putMember_5 rfl rfl ?_
  refine g_getIN (k := 4) cl_X7 (by decide) rfl q_230 dX4_putMember_6 ?_
  refine g_iload_n (i := 2) dX4_putMember_9 rfl rfl ?_
  refine g_callSNI (crt_X11_has _ _ _ _ _) cw_X11_has (by decide) rfl q_582 q_360 rfl rfl dX4_putMember_10 ?_
  intro r3 m4
  refine g_jn (fun J22 => ∀ (v0 : Nat) (v1 : Nat) (v2 : Int32) (m : Mm), GG Z M_X4_putMember (PsN Z cvV) 22 [some (.ref v0), some (.ref v1), some (.int v2)] [] m (J22 v0 v1 v2 m)) ?_ ?_
  · intro v0 v1 v2 m
    refine g_aload_n (i := 1) dX4_putMember_22 rfl rfl ?_
    refine g_getIN (k := 3) cl_X7 (by decide) rfl q_226 dX4_putMember_23 ?_
    refine g_iload_n (i := 2) dX4_putMember_26 rfl rfl ?_
    refine g_callSNI (crt_X11_has _ _ _ _ _) cw_X11_has (by decide) rfl q_582 q_360 rfl rfl dX4_putMember_27 ?_
    intro r5 m6
    refine g_ifne (tgt := 39) dX4_putMember_30 (by decide) ?_ ?_
    · exact g_return rfl dX4_putMember_39
    · refine g_aload_n (i := 0) dX4_putMember_33 rfl rfl ?_
      refine g_bipush (v := (63 : Int32)) dX4_putMember_34 kb_63 ?_
      refine g_callVV cl_X4 (crt_X4_put _ _ _ _ _) cw_X4_put (by decide) rfl q_574 q_576 qs_7 rfl rfl dX4_putMember_36 ?_
      intro r7 m8
      exact g_return rfl dX4_putMember_39
  · intro J22 hJ22
    refine g_ifeq (tgt := 22) dX4_putMember_13 (by decide) ?_ ?_
    · exact g_msk [true, true, true] (hJ22 _ _ _ _)
    · refine g_aload_n (i := 0) dX4_putMember_16 rfl rfl ?_
      refine g_bipush (v := (33 : Int32)) dX4_putMember_17 kb_33 ?_
      refine g_callVV cl_X4 (crt_X4_put _ _ _ _ _) cw_X4_put (by decide) rfl q_574 q_576 qs_7 rfl rfl dX4_putMember_19 ?_
      intro r9 m10
      exact g_msk [true, true, true] (hJ22 _ _ _ _)
set_option maxRecDepth 100000 in
set_option maxHeartbeats 4000000 in
theorem c_L_X4_write_29 {Z : Zx}  {K70 : Nat → Nat → Mm → Option (Unit × Mm)} (hK70 : ∀ (v0 : Nat) (v1 : Nat) (m : Mm), GG Z M_X4_write (PsN Z cvV) 70 [some (.ref v0), some (.ref v1), none, none] [] m (K70 v0 v1 m)) : ∀ (n : Nat) (v0 : Nat) (v1 : Nat) (v2 : Int32) (v3 : Int32) (m : Mm), GG Z M_X4_write (PsN Z cvV) 29 [some (.ref v0), some (.ref v1), some (.int v2), some (.int v3)] [] m (L_X4_write_29 K70 n v0 v1 v2 v3 m) := by
  intro n
  induction n with
  | zero => intro v0 v1 v2 v3 m; exact g_no
  | succ n ih =>
    intro v0 v1 v2 v3 m
    unfold L_X4_write_29
    refine g_iload_n (i := 3) dX4_write_29 rfl rfl ?_
    refine g_bipush (v := (6 : Int32)) dX4_write_30 kb_6 ?_
    refine g_icmpge (tgt := 70) dX4_write_32 (by decide) ?_ ?_
    · exact g_msk [true, true, false, false] (hK70 _ _ _)
    · refine g_aload_n (i := 1) dX4_write_35 rfl rfl ?_
      refine g_getIN (k := 1) cl_X7 (by decide) rfl q_221 dX4_write_36 ?_
      refine g_iload_n (i := 3) dX4_write_39 rfl rfl ?_
      refine g_callSNI (crt_X11_has _ _ _ _ _) cw_X11_has (by decide) rfl q_582 q_360 rfl rfl dX4_write_40 ?_
      intro r10 m11
      refine g_jn (fun J64 => ∀ (v0 : Nat) (v1 : Nat) (v2 : Int32) (v3 : Int32) (m : Mm), GG Z M_X4_write (PsN Z cvV) 64 [some (.ref v0), some (.ref v1), some (.int v2), some (.int v3)] [] m (J64 v0 v1 v2 v3 m)) ?_ ?_
      · intro v0 v1 v2 v3 m
        refine g_iinc dX4_write_64 rfl ki_1 (show 3 < 4 by decide) ?_
        intro x12
        refine g_goto (tgt := 29) dX4_write_67 (by decide) ?_
        exact g_msk [true, true, true, true] (ih _ _ _ _ _)
      · intro J64 hJ64
        refine g_ifeq (tgt := 64) dX4_write_43 (by decide) ?_ ?_
        · exact g_msk [true, true, true, true] (hJ64 _ _ _ _ _)
        · refine g_iload_n (i := 2) dX4_write_46 rfl rfl ?_
          refine g_jn (fun J56 => ∀ (v0 : Nat) (v1 : Nat) (v3 : Int32) (m : Mm), GG Z M_X4_write (PsN Z cvV) 56 [some (.ref v0), some (.ref v1), none, some (.int v3)] [] m (J56 v0 v1 v3 m)) ?_ ?_
          · intro v0 v1 v3 m
            refine g_iconst (v := (0 : Int32)) dX4_write_56 ki_0 ?_
            refine g_istore_n (i := 2) dX4_write_57 rfl (show 2 < 4 by decide) ?_
            intro x13
            refine g_aload_n (i := 0) dX4_write_58 rfl rfl ?_
            refine g_aload_n (i := 1) dX4_write_59 rfl rfl ?_
            refine g_iload_n (i := 3) dX4_write_60 rfl rfl ?_
            refine g_callVV cl_X4 (crt_X4_putMember _ _ _ _ _ _) cw_X4_putMember (by decide) rfl q_583 q_585 qs_9 rfl rfl dX4_write_61 ?_
            intro r14 m15
            exact g_msk [true, true, true, true] (hJ64 _ _ _ _ _)
          · intro J56 hJ56
            refine g_ifne (tgt := 56) dX4_write_47 (by decide) ?_ ?_
            · exact g_msk [true, true, false, true] (hJ56 _ _ _ _)
            · refine g_aload_n (i := 0) dX4_write_50 rfl rfl ?_
              refine g_bipush (v := (44 : Int32)) dX4_write_51 kb_44 ?_
              refine g_callVV cl_X4 (crt_X4_put _ _ _ _ _) cw_X4_put (by decide) rfl q_574 q_576 qs_7 rfl rfl dX4_write_53 ?_
              intro r16 m17
              exact g_msk [true, true, false, true] (hJ56 _ _ _ _)
set_option maxRecDepth 100000 in
set_option maxHeartbeats 4000000 in
theorem crt_X4_write (l : Launch) (θ : Th) (a0 : Nat) (a1 : Nat) (m : Mm) : Crt l θ yX4_write M_X4_write cvV [.ref a0, .ref a1] m (F_X4_write a0 a1 m) := by
  refine crt_of 2 (by decide) rfl rfl (Nat.le_of_ble_eq_true rfl) (fun Z hμ => ?_)
  unfold F_X4_write
  show GG Z _ _ 0 [some (.ref a0), some (.ref a1), none, none] [] m _
  refine g_aload_n (i := 0) dX4_write_0 rfl rfl ?_
  refine g_iconst (v := (0 : Int32)) dX4_write_1 ki_0 ?_
  refine g_putI (k := 1) cl_X4 (by decide) rfl rfl q_334 dX4_write_2 ?_
  intro m1
  refine g_aload_n (i := 0) dX4_write_5 rfl rfl ?_
  refine g_bipush (v := (118 : Int32)) dX4_write_6 kb_118 ?_
  refine g_callVV cl_X4 (crt_X4_put _ _ _ _ _) cw_X4_put (by decide) rfl q_574 q_576 qs_7 rfl rfl dX4_write_8 ?_
  intro r2 m3
  refine g_aload_n (i := 0) dX4_write_11 rfl rfl ?_
  refine g_aload_n (i := 1) dX4_write_12 rfl rfl ?_
  refine g_getIN (k := 0) cl_X7 (by decide) rfl q_217 dX4_write_13 ?_
  refine g_callVV cl_X4 (crt_X4_putNumber _ _ _ _ _) cw_X4_putNumber (by decide) rfl q_578 q_580 qs_8 rfl rfl dX4_write_16 ?_
  intro r4 m5
  refine g_aload_n (i := 0) dX4_write_19 rfl rfl ?_
  refine g_bipush (v := (58 : Int32)) dX4_write_20 kb_58 ?_
  refine g_callVV cl_X4 (crt_X4_put _ _ _ _ _) cw_X4_put (by decide) rfl q_574 q_576 qs_7 rfl rfl dX4_write_22 ?_
  intro r6 m7
  refine g_iconst (v := (1 : Int32)) dX4_write_25 ki_1 ?_
  refine g_istore_n (i := 2) dX4_write_26 rfl (show 2 < 4 by decide) ?_
  intro x8
  refine g_iconst (v := (0 : Int32)) dX4_write_27 ki_0 ?_
  refine g_istore_n (i := 3) dX4_write_28 rfl (show 3 < 4 by decide) ?_
  intro x9
  refine g_msk [true, true, true, true] (c_L_X4_write_29 ?_ NF _ _ _ _ _)
  intro v0 v1 m
  refine g_aload_n (i := 0) dX4_write_70 rfl rfl ?_
  refine g_bipush (v := (59 : Int32)) dX4_write_71 kb_59 ?_
  refine g_callVV cl_X4 (crt_X4_put _ _ _ _ _) cw_X4_put (by decide) rfl q_574 q_576 qs_7 rfl rfl dX4_write_73 ?_
  intro r18 m19
  refine g_aload_n (i := 0) dX4_write_76 rfl rfl ?_
  refine g_aload_n (i := 1) dX4_write_77 rfl rfl ?_
  refine g_getIN (k := 7) cl_X7 (by decide) rfl q_239 dX4_write_78 ?_
  refine g_callVV cl_X4 (crt_X4_putNumber _ _ _ _ _) cw_X4_putNumber (by decide) rfl q_578 q_580 qs_8 rfl rfl dX4_write_81 ?_
  intro r20 m21
  exact g_return rfl dX4_write_84
set_option maxRecDepth 100000 in
set_option maxHeartbeats 4000000 in
theorem crt_X4_signAt (l : Launch) (θ : Th) (a0 : Nat) (a1 : Int32) (m : Mm) : Crt l θ yX4_signAt M_X4_signAt cvI [.ref a0, .int a1] m (F_X4_signAt a0 a1 m) := by
  refine crt_of 0 (by decide) rfl rfl (Nat.le_of_ble_eq_true rfl) (fun Z hμ => ?_)
  unfold F_X4_signAt
  show GG Z _ _ 0 [some (.ref a0), some (.int a1)] [] m _
  refine g_iload_n (i := 1) dX4_signAt_0 rfl rfl ?_
  refine g_iflt (tgt := 30) dX4_signAt_1 (by decide) ?_ ?_
  · refine g_iconst (v := (-1 : Int32)) dX4_signAt_30 ki_m1 ?_
    exact g_ireturn rfl dX4_signAt_31
  · refine g_iload_n (i := 1) dX4_signAt_4 rfl rfl ?_
    refine g_aload_n (i := 0) dX4_signAt_5 rfl rfl ?_
    refine g_getI (k := 1) cl_X4 (by decide) rfl q_334 dX4_signAt_6 ?_
    refine g_icmpge (tgt := 30) dX4_signAt_9 (by decide) ?_ ?_
    · refine g_iconst (v := (-1 : Int32)) dX4_signAt_30 ki_m1 ?_
      exact g_ireturn rfl dX4_signAt_31
    · refine g_iload_n (i := 1) dX4_signAt_12 rfl rfl ?_
      refine g_aload_n (i := 0) dX4_signAt_13 rfl rfl ?_
      refine g_getR (k := 0) cl_X4 (by decide) rfl q_333 dX4_signAt_14 ?_
      intro q1
      refine g_alen103 dX4_signAt_17 ?_
      refine g_icmpge (tgt := 30) dX4_signAt_18 (by decide) ?_ ?_
      · refine g_iconst (v := (-1 : Int32)) dX4_signAt_30 ki_m1 ?_
        exact g_ireturn rfl dX4_signAt_31
      · refine g_aload_n (i := 0) dX4_signAt_21 rfl rfl ?_
        refine g_getR (k := 0) cl_X4 (by decide) rfl q_333 dX4_signAt_22 ?_
        intro q2
        refine g_iload_n (i := 1) dX4_signAt_25 rfl rfl ?_
        refine g_caload dX4_signAt_26 ?_
        refine g_goto (tgt := 31) dX4_signAt_27 (by decide) ?_
        exact g_ireturn rfl dX4_signAt_31
set_option maxRecDepth 100000 in
set_option maxHeartbeats 4000000 in
theorem crt_X5_isFull (l : Launch) (θ : Th) (a0 : Nat) (m : Mm) : Crt l θ yX5_isFull M_X5_isFull cvI [.ref a0] m (F_X5_isFull a0 m) := by
  refine crt_of 0 (by decide) rfl rfl (Nat.le_of_ble_eq_true rfl) (fun Z hμ => ?_)
  unfold F_X5_isFull
  show GG Z _ _ 0 [some (.ref a0)] [] m _
  refine g_aload_n (i := 0) dX5_isFull_0 rfl rfl ?_
  refine g_getI (k := 1) cl_X5 (by decide) rfl q_318 dX5_isFull_1 ?_
  refine g_bipush (v := (16 : Int32)) dX5_isFull_4 kb_16 ?_
  refine g_icmplt (tgt := 13) dX5_isFull_6 (by decide) ?_ ?_
  · refine g_iconst (v := (0 : Int32)) dX5_isFull_13 ki_0 ?_
    exact g_zreturnK rfl (by decide) dX5_isFull_14
  · refine g_iconst (v := (1 : Int32)) dX5_isFull_9 ki_1 ?_
    refine g_goto (tgt := 14) dX5_isFull_10 (by decide) ?_
    exact g_zreturnK rfl (by decide) dX5_isFull_14
