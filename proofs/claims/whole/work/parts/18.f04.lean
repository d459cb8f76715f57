def F_X11_count (a0 : Nat) (a1 : Int32) (m : Mm) : Option (Int32 × Mm) :=
 if a1 = (0 : Int32) then (
 gd (okO m a0 11) (
 some ((rI m a0 13), m)))
 else (
 if a1 = (1 : Int32) then (
 gd (okO m a0 11) (oc (rR m a0 0) none fun q1 =>
 gd (okO m q1 9) (
 some ((rI m q1 1), m))))
 else (
 if a1 = (2 : Int32) then (
 gd (okO m a0 11) (oc (rR m a0 8) none fun q2 =>
 gd (okO m q2 5) (
 some ((rI m q2 1), m))))
 else (
 some ((-1 : Int32), m))))
def F_X12_tellsNothing (a0 : Nat) (m : Mm) : Option (Unit × Mm) :=
 gd (okO m a0 12) (oc (rR m a0 11) none fun q1 =>
 gd (okA m 100 q1 (0 : Int32)) (lt9 (wI m q1 (ix (0 : Int32)) (0 : Int32)) fun m2 =>
 gd (okO m2 a0 12) (oc (rR m2 a0 11) none fun q3 =>
 gd (okA m2 100 q3 (1 : Int32)) (lt9 (wI m2 q3 (ix (1 : Int32)) (0 : Int32)) fun m4 =>
 gd (okO m4 a0 12) (oc (rR m4 a0 11) none fun q5 =>
 gd (okA m4 100 q5 (2 : Int32)) (lt9 (wI m4 q5 (ix (2 : Int32)) (30 : Int32)) fun m6 =>
 some ((), m6)))))))
def F_X12_has (a0 : Int32) (a1 : Int32) (m : Mm) : Option (Int32 × Mm) :=
 if ((a0 >>> (a1 &&& 31)) &&& (1 : Int32)) = (1 : Int32) then (
 some ((1 : Int32), m))
 else (
 some ((0 : Int32), m))
def L_X12_beginsAnew_2 (K25 : Nat → Mm → Option (Unit × Mm)) : Nat → Nat → Int32 → Mm → Option (Unit × Mm)
 | 0, _, _, _ => none
 | n + 1, v0, v1, m =>
 if (3 : Int32) ≤ v1 then (
 K25 v0 m)
 else (
 gd (okO m v0 12) (oc (rR m v0 12) none fun q2 =>
 gd (okO m v0 12) (oc (rR m v0 11) none fun q3 =>
 gd (okA m 100 q3 v1) (
 gd (okA m 100 q2 v1) (lt9 (wI m q2 (ix v1) (rI m q3 (ix v1))) fun m4 =>
 lt9 (v1 + (1 : Int32)) fun x5 =>
 L_X12_beginsAnew_2 K25 n v0 x5 m4)))))
def L_X12_beginsAnew_27 (K47 : Nat → Mm → Option (Unit × Mm)) : Nat → Nat → Int32 → Mm → Option (Unit × Mm)
 | 0, _, _, _ => none
 | n + 1, v0, v1, m =>
 if (968 : Int32) ≤ v1 then (
 K47 v0 m)
 else (
 gd (okO m v0 12) (oc (rR m v0 23) none fun q7 =>
 gd (okA m 100 q7 v1) (lt9 (wI m q7 (ix v1) (0 : Int32)) fun m8 =>
 lt9 (v1 + (1 : Int32)) fun x9 =>
 L_X12_beginsAnew_27 K47 n v0 x9 m8)))
def L_X12_beginsAnew_49 (K106 : Nat → Mm → Option (Unit × Mm)) : Nat → Nat → Int32 → Mm → Option (Unit × Mm)
 | 0, _, _, _ => none
 | n + 1, v0, v1, m =>
 if (6 : Int32) ≤ v1 then (
 K106 v0 m)
 else (
 gd (okO m v0 12) (oc (rR m v0 23) none fun q11 =>
 gd (okO m v0 12) (oc (rR m v0 12) none fun q12 =>
 gd (okA m 100 q12 (1 : Int32)) (
 gd (okA m 100 q11 ((0 : Int32) + v1)) (lt9 (wI m q11 (ix ((0 : Int32) + v1)) (((rI m q12 (ix (1 : Int32))) >>> (v1 &&& 31)) &&& (1 : Int32))) fun m13 =>
 gd (okO m13 v0 12) (oc (rR m13 v0 23) none fun q14 =>
 gd (okO m13 v0 12) (oc (rR m13 v0 12) none fun q15 =>
 gd (okA m13 100 q15 (1 : Int32)) (
 bd (F_X12_has (rI m13 q15 (ix (1 : Int32))) v1 m13) fun r16 m17 =>
 jn (fun (v0 : Nat) (v1 : Int32) (s0 : Int32) (s1 : Int32) (s2 : Nat) (m : Mm) =>
 gd (okA m 100 s2 s1) (lt9 (wI m s2 (ix s1) s0) fun m18 =>
 lt9 (v1 + (1 : Int32)) fun x19 =>
 L_X12_beginsAnew_49 K106 n v0 x19 m18)) fun J99 =>
 if r16 = 0 then (
 J99 v0 v1 (-1 : Int32) ((6 : Int32) + v1) q14 m17)
 else (
 J99 v0 v1 (0 : Int32) ((6 : Int32) + v1) q14 m17)))))))))
def F_X12_beginsAnew (a0 : Nat) (m : Mm) : Option (Unit × Mm) :=
 lt9 (0 : Int32) fun x1 =>
 L_X12_beginsAnew_2 (fun v0 m =>
 lt9 (0 : Int32) fun x6 =>
 L_X12_beginsAnew_27 (fun v0 m =>
 lt9 (0 : Int32) fun x10 =>
 L_X12_beginsAnew_49 (fun v0 m =>
 gd (okO m v0 12) (oc (rR m v0 23) none fun q20 =>
 gd (okA m 100 q20 (181 : Int32)) (lt9 (wI m q20 (ix (181 : Int32)) (1 : Int32)) fun m21 =>
 gd (okO m21 v0 12) (oc (rR m21 v0 23) none fun q22 =>
 gd (okO m21 v0 12) (oc (rR m21 v0 12) none fun q23 =>
 gd (okA m21 100 q23 (1 : Int32)) (
 gd (okA m21 100 q22 (182 : Int32)) (lt9 (wI m21 q22 (ix (182 : Int32)) (rI m21 q23 (ix (1 : Int32)))) fun m24 =>
 gd (okO m24 v0 12) (oc (rR m24 v0 23) none fun q25 =>
 gd (okO m24 v0 12) (oc (rR m24 v0 12) none fun q26 =>
 gd (okA m24 100 q26 (1 : Int32)) (
 gd (okA m24 100 q25 (183 : Int32)) (lt9 (wI m24 q25 (ix (183 : Int32)) (rI m24 q26 (ix (1 : Int32)))) fun m27 =>
 gd (okO m27 v0 12) (oc (rR m27 v0 23) none fun q28 =>
 gd (okO m27 v0 12) (oc (rR m27 v0 12) none fun q29 =>
 gd (okA m27 100 q29 (0 : Int32)) (
 gd (okA m27 100 q28 (184 : Int32)) (lt9 (wI m27 q28 (ix (184 : Int32)) (((1 : Int32) <<< ((rI m27 q29 (ix (0 : Int32))) &&& 31)) - (1 : Int32))) fun m30 =>
 gd (okO m30 v0 12) (lt9 (wI m30 v0 13 (0 : Int32)) fun m31 =>
 gd (okO m31 v0 12) (lt9 (wI m31 v0 27 (0 : Int32)) fun m32 =>
 gd (okO m32 v0 12) (lt9 (wI m32 v0 28 (0 : Int32)) fun m33 =>
 gd (okO m33 v0 12) (lt9 (wI m33 v0 29 (0 : Int32)) fun m34 =>
 gd (okO m34 v0 12) (lt9 (wI m34 v0 30 (0 : Int32)) fun m35 =>
 some ((), m35))))))))))))))))))))) NF v0 x10 m) NF v0 x6 m) NF a0 x1 m
def F_X12_init (a0 : Nat) (m : Mm) : Option (Unit × Mm) :=
 gd (okO m a0 12) (lt9 (wI m a0 3 (-1 : Int32)) fun m1 =>
 gd (decide (mN m1 + 1 < K9)) (lt9 (nw m1 100 600) fun m2 =>
 gd (okO m2 a0 12) (lt9 (wR m2 a0 9 (some (mN m1))) fun m3 =>
 gd (decide (mN m3 + 1 < K9)) (lt9 (nw m3 100 4) fun m4 =>
 gd (okO m4 a0 12) (lt9 (wR m4 a0 10 (some (mN m3))) fun m5 =>
 gd (decide (mN m5 + 1 < K9)) (lt9 (nw m5 100 3) fun m6 =>
 gd (okO m6 a0 12) (lt9 (wR m6 a0 11 (some (mN m5))) fun m7 =>
 gd (decide (mN m7 + 1 < K9)) (lt9 (nw m7 100 3) fun m8 =>
 gd (okO m8 a0 12) (lt9 (wR m8 a0 12 (some (mN m7))) fun m9 =>
 gd (decide (mN m9 + 1 + 160 < K9)) (lt9 (nwG m9 160 2) fun m10 =>
 gd (okO m10 a0 12) (lt9 (wR m10 a0 15 (some (mN m9))) fun m11 =>
 gd (decide (mN m11 + 1 + 160 < K9)) (lt9 (nwG m11 160 2) fun m12 =>
 gd (okO m12 a0 12) (lt9 (wR m12 a0 16 (some (mN m11))) fun m13 =>
 gd (decide (mN m13 + 1 + 6 < K9)) (lt9 (nwG m13 6 2) fun m14 =>
 gd (okO m14 a0 12) (lt9 (wR m14 a0 17 (some (mN m13))) fun m15 =>
 gd (decide (mN m15 + 1 + 6 < K9)) (lt9 (nwG m15 6 2) fun m16 =>
 gd (okO m16 a0 12) (lt9 (wR m16 a0 18 (some (mN m15))) fun m17 =>
 gd (decide (mN m17 + 1 < K9)) (lt9 (nw m17 100 160) fun m18 =>
 gd (okO m18 a0 12) (lt9 (wR m18 a0 19 (some (mN m17))) fun m19 =>
 gd (decide (mN m19 + 1 < K9)) (lt9 (nw m19 100 4) fun m20 =>
 gd (okO m20 a0 12) (lt9 (wR m20 a0 20 (some (mN m19))) fun m21 =>
 gd (decide (mN m21 + 1 + 80 < K9)) (lt9 (nwG m21 80 4) fun m22 =>
 gd (okO m22 a0 12) (lt9 (wR m22 a0 21 (some (mN m21))) fun m23 =>
 gd (decide (mN m23 + 1 < K9)) (lt9 (nw m23 100 968) fun m24 =>
 gd (okO m24 a0 12) (lt9 (wR m24 a0 23 (some (mN m23))) fun m25 =>
 gd (decide (mN m25 + 1 < K9)) (lt9 (nw m25 100 968) fun m26 =>
 gd (okO m26 a0 12) (lt9 (wR m26 a0 24 (some (mN m25))) fun m27 =>
 gd (decide (mN m27 + 1 + 16 < K9)) (lt9 (nwG m27 16 968) fun m28 =>
 gd (okO m28 a0 12) (lt9 (wR m28 a0 25 (some (mN m27))) fun m29 =>
 gd (decide (mN m29 + 1 + 3 < K9)) (lt9 (nwG m29 3 16457) fun m30 =>
 gd (okO m30 a0 12) (lt9 (wR m30 a0 26 (some (mN m29))) fun m31 =>
 gd (decide (mN m31 + 1 < K9)) (lt9 (nw m31 100 60) fun m32 =>
 gd (okO m32 a0 12) (lt9 (wR m32 a0 34 (some (mN m31))) fun m33 =>
 gd (okO m33 a0 12) (bd (F_X12_tellsNothing a0 m33) fun r34 m35 =>
 gd (okO m35 a0 12) (bd (F_X12_beginsAnew a0 m35) fun r36 m37 =>
 some ((), m37))))))))))))))))))))))))))))))))))))
def F_X12_thrown (a0 : Nat) (m : Mm) : Option (Int32 × Mm) :=
 gd (okO m a0 12) (
 some ((rI m a0 0), m))
def F_X12_bad (a0 : Nat) (a1 : Int32) (a2 : Int32) (a3 : Int32) (m : Mm) : Option (Int32 × Mm) :=
 jn (fun (v0 : Nat) (m : Mm) =>
 gd (okO m v0 12) (
 if (rI m v0 0) = 0 then (
 some ((0 : Int32), m))
 else (
 some ((1 : Int32), m)))) fun J26 =>
 if a1 = 0 then (
 J26 a0 m)
 else (
 gd (okO m a0 12) (
 if (rI m a0 0) = 0 then (
 gd (okO m a0 12) (lt9 (wI m a0 0 a2) fun m1 =>
 gd (okO m1 a0 12) (oc (rR m1 a0 10) none fun q2 =>
 gd (okA m1 100 q2 a3) (
 gd (okA m1 100 q2 a3) (lt9 (wI m1 q2 (ix a3) ((rI m1 q2 (ix a3)) + (1 : Int32))) fun m3 =>
 J26 a0 m3)))))
 else (
 J26 a0 m)))
def F_X12_in (a0 : Int32) (a1 : Int32) (a2 : Int32) (m : Mm) : Option (Int32 × Mm) :=
 if a0 < a1 then (
 some ((0 : Int32), m))
 else (
 if a2 < a0 then (
 some ((0 : Int32), m))
 else (
 some ((1 : Int32), m)))
def F_X12_less (a0 : Int32) (a1 : Int32) (m : Mm) : Option (Int32 × Mm) :=
 if a1 ≤ a0 then (
 some (a1, m))
 else (
 some (a0, m))
def F_X12_more (a0 : Int32) (a1 : Int32) (m : Mm) : Option (Int32 × Mm) :=
 if a0 ≤ a1 then (
 some (a1, m))
 else (
 some (a0, m))
def L_X12_feed_23 (K120 : Nat → Mm → Option (Int32 × Mm)) : Nat → Nat → Int32 → Int32 → Int32 → Int32 → Int32 → Int32 → Mm → Option (Int32 × Mm)
 | 0, _, _, _, _, _, _, _, _ => none
 | n + 1, v0, v1, v2, v3, v4, v5, v6, m =>
 if (20 : Int32) ≤ v6 then (
 K120 v0 m)
 else (
 jn (fun (v0 : Nat) (v1 : Int32) (v2 : Int32) (v3 : Int32) (v4 : Int32) (v5 : Int32) (v6 : Int32) (s0 : Int32) (m : Mm) =>
 lt9 s0 fun x3 =>
 gd (okO m v0 12) (oc (rR m v0 9) none fun q4 =>
 gd (okO m v0 12) (
 gd (decide (¬ (4 : Int32) = 0)) (
 gd (okA m 100 q4 (rI m v0 1)) (lt9 (wI m q4 (ix (rI m v0 1)) ((x3 >>> (((24 : Int32) - ((8 : Int32) * (v6 - v6 / (4 : Int32) * (4 : Int32)))) &&& 31)) &&& (255 : Int32))) fun m5 =>
 gd (okO m5 v0 12) (
 gd (okO m5 v0 12) (lt9 (wI m5 v0 1 ((rI m5 v0 1) + (1 : Int32))) fun m6 =>
 lt9 (v6 + (1 : Int32)) fun x7 =>
 L_X12_feed_23 K120 n v0 v1 v2 v3 v4 v5 x7 m6))))))) fun J76 =>
 if (4 : Int32) ≤ v6 then (
 if (8 : Int32) ≤ v6 then (
 if (12 : Int32) ≤ v6 then (
 if (16 : Int32) ≤ v6 then (
 J76 v0 v1 v2 v3 v4 v5 v6 v5 m)
 else (
 J76 v0 v1 v2 v3 v4 v5 v6 v4 m))
 else (
 J76 v0 v1 v2 v3 v4 v5 v6 v3 m))
 else (
 J76 v0 v1 v2 v3 v4 v5 v6 v2 m))
 else (
 J76 v0 v1 v2 v3 v4 v5 v6 v1 m))
def F_X12_feed (a0 : Nat) (a1 : Int32) (a2 : Int32) (a3 : Int32) (a4 : Int32) (a5 : Int32) (m : Mm) : Option (Int32 × Mm) :=
 gd (okO m a0 12) (lt9 (wI m a0 0 (0 : Int32)) fun m1 =>
 gd (okO m1 a0 12) (
 if ((rI m1 a0 1) + (20 : Int32)) ≤ (600 : Int32) then (
 lt9 (0 : Int32) fun x2 =>
 L_X12_feed_23 (fun v0 m =>
 gd (okO m v0 12) (
 some ((rI m v0 1), m))) NF a0 a1 a2 a3 a4 a5 x2 m1)
 else (
 some ((-1 : Int32), m1))))
def F_X12_byteAt (a0 : Nat) (a1 : Int32) (m : Mm) : Option (Int32 × Mm) :=
 gd (okO m a0 12) (
 if a1 < (rI m a0 2) then (
 gd (okO m a0 12) (oc (rR m a0 9) none fun q1 =>
 gd (okA m 100 q1 a1) (
 some ((rI m q1 (ix a1)), m))))
 else (
 some ((-1 : Int32), m)))
def L_X12_blanks_0  : Nat → Nat → Mm → Option (Unit × Mm)
 | 0, _, _ => none
 | n + 1, v0, m =>
 gd (okO m v0 12) (
 gd (okO m v0 12) (bd (F_X12_byteAt v0 (rI m v0 4) m) fun r1 m2 =>
 if r1 = (32 : Int32) then (
 gd (okO m2 v0 12) (
 gd (okO m2 v0 12) (lt9 (wI m2 v0 4 ((rI m2 v0 4) + (1 : Int32))) fun m3 =>
 L_X12_blanks_0 n v0 m3)))
 else (
 some ((), m2))))
def F_X12_blanks (a0 : Nat) (m : Mm) : Option (Unit × Mm) :=
 L_X12_blanks_0 NF a0 m
def F_X12_wrong (a0 : Nat) (a1 : Int32) (a2 : Int32) (m : Mm) : Option (Unit × Mm) :=
 gd (okO m a0 12) (
 if (rI m a0 5) = 0 then (
 gd (okO m a0 12) (lt9 (wI m a0 5 a1) fun m1 =>
 gd (okO m1 a0 12) (lt9 (wI m1 a0 6 a2) fun m2 =>
 some ((), m2))))
 else (
 some ((), m)))
def F_X12_isDigit (a0 : Int32) (m : Mm) : Option (Int32 × Mm) :=
 if a0 < (48 : Int32) then (
 some ((0 : Int32), m))
 else (
 if (57 : Int32) < a0 then (
 some ((0 : Int32), m))
 else (
 some ((1 : Int32), m)))
def F_X12_isSmall (a0 : Int32) (m : Mm) : Option (Int32 × Mm) :=
 if a0 < (97 : Int32) then (
 some ((0 : Int32), m))
 else (
 if (122 : Int32) < a0 then (
 some ((0 : Int32), m))
 else (
 some ((1 : Int32), m)))
def L_X12_number_44 (K106 : Nat → Int32 → Int32 → Int32 → Int32 → Mm → Option (Int32 × Mm)) : Nat → Nat → Int32 → Int32 → Int32 → Int32 → Mm → Option (Int32 × Mm)
 | 0, _, _, _, _, _, _ => none
 | n + 1, v0, v1, v2, v3, v4, m =>
 gd (okO m v0 12) (
 gd (okO m v0 12) (bd (F_X12_byteAt v0 (rI m v0 4) m) fun r9 m10 =>
 bd (F_X12_isDigit r9 m10) fun r11 m12 =>
 if r11 = 0 then (
 K106 v0 v1 v2 v3 v4 m12)
 else (
 gd (okO m12 v0 12) (
 gd (okO m12 v0 12) (bd (F_X12_byteAt v0 (rI m12 v0 4) m12) fun r13 m14 =>
 lt9 ((((10 : Int32) * v4) + r13) - (48 : Int32)) fun x15 =>
 jn (fun (v0 : Nat) (v1 : Int32) (v2 : Int32) (v3 : Int32) (s0 : Int32) (m : Mm) =>
 lt9 s0 fun x16 =>
 gd (okO m v0 12) (
 gd (okO m v0 12) (lt9 (wI m v0 4 ((rI m v0 4) + (1 : Int32))) fun m17 =>
 L_X12_number_44 K106 n v0 v1 v2 v3 x16 m17))) fun J91 =>
 if x15 ≤ (100000 : Int32) then (
 J91 v0 v1 v2 v3 x15 m14)
 else (
 J91 v0 v1 v2 v3 (100000 : Int32) m14))))))
def F_X12_number (a0 : Nat) (a1 : Int32) (a2 : Int32) (m : Mm) : Option (Int32 × Mm) :=
 gd (okO m a0 12) (
 if (rI m a0 5) = 0 then (
 gd (okO m a0 12) (bd (F_X12_blanks a0 m) fun r1 m2 =>
 gd (okO m2 a0 12) (
 lt9 (rI m2 a0 4) fun x3 =>
 lt9 (0 : Int32) fun x4 =>
 gd (okO m2 a0 12) (
 gd (okO m2 a0 12) (bd (F_X12_byteAt a0 (rI m2 a0 4) m2) fun r5 m6 =>
 bd (F_X12_isDigit r5 m6) fun r7 m8 =>
 if r7 = 0 then (
 gd (okO m8 a0 12) (
 gd (okO m8 a0 12) (bd (F_X12_wrong a0 (1 : Int32) (rI m8 a0 4) m8) fun r22 m23 =>
 L_X12_number_44 (fun v0 v1 v2 v3 v4 m =>
 bd (F_X12_in v4 v1 v2 m) fun r24 m25 =>
 jn (fun (v0 : Nat) (v4 : Int32) (m : Mm) =>
 gd (okO m v0 12) (
 if (rI m v0 5) = 0 then (
 some (v4, m))
 else (
 some ((0 : Int32), m)))) fun J122 =>
 if r24 = 0 then (
 gd (okO m25 v0 12) (bd (F_X12_wrong v0 (2 : Int32) v3 m25) fun r26 m27 =>
 J122 v0 v4 m27))
 else (
 J122 v0 v4 m25)) NF a0 a1 a2 x3 x4 m23)))
 else (
 L_X12_number_44 (fun v0 v1 v2 v3 v4 m =>
 bd (F_X12_in v4 v1 v2 m) fun r18 m19 =>
 jn (fun (v0 : Nat) (v4 : Int32) (m : Mm) =>
 gd (okO m v0 12) (
 if (rI m v0 5) = 0 then (
 some (v4, m))
 else (
 some ((0 : Int32), m)))) fun J122 =>
 if r18 = 0 then (
 gd (okO m19 v0 12) (bd (F_X12_wrong v0 (2 : Int32) v3 m19) fun r20 m21 =>
 J122 v0 v4 m21))
 else (
 J122 v0 v4 m19)) NF a0 a1 a2 x3 x4 m8))))))
 else (
 some ((0 : Int32), m)))
def L_X12_wordHere_8 (K61 : Int32 → Int32 → Mm → Option (Int32 × Mm)) : Nat → Nat → Int32 → Int32 → Mm → Option (Int32 × Mm)
 | 0, _, _, _, _ => none
 | n + 1, v0, v1, v2, m =>
 gd (okO m v0 12) (
 gd (okO m v0 12) (bd (F_X12_byteAt v0 ((rI m v0 4) + v2) m) fun r5 m6 =>
 bd (F_X12_isSmall r5 m6) fun r7 m8 =>
 if r7 = 0 then (
 K61 v1 v2 m8)
 else (
 jn (fun (v0 : Nat) (v2 : Int32) (s0 : Int32) (m : Mm) =>
 lt9 s0 fun x9 =>
 lt9 (v2 + (1 : Int32)) fun x10 =>
 L_X12_wordHere_8 K61 n v0 x9 x10 m) fun J54 =>
 if (6 : Int32) ≤ v2 then (
 J54 v0 v2 v1 m8)
 else (
 gd (okO m8 v0 12) (
 gd (okO m8 v0 12) (bd (F_X12_byteAt v0 ((rI m8 v0 4) + v2) m8) fun r11 m12 =>
 J54 v0 v2 (((((27 : Int32) * v1) + r11) - (97 : Int32)) + (1 : Int32)) m12))))))
def F_X12_wordHere (a0 : Nat) (m : Mm) : Option (Int32 × Mm) :=
 gd (okO m a0 12) (bd (F_X12_blanks a0 m) fun r1 m2 =>
 lt9 (0 : Int32) fun x3 =>
 lt9 (0 : Int32) fun x4 =>
 L_X12_wordHere_8 (fun v1 v2 m =>
 if v2 ≤ (6 : Int32) then (
 some (v1, m))
 else (
 some ((-1 : Int32), m))) NF a0 x3 x4 m2)
def F_X12_six (a0 : Int32) (a1 : Int32) (a2 : Int32) (a3 : Int32) (a4 : Int32) (a5 : Int32) (m : Mm) : Option (Int32 × Mm) :=
 lt9 (((27 : Int32) * (((27 : Int32) * a0) + a1)) + a2) fun x1 =>
 jn (fun (v4 : Int32) (v5 : Int32) (s0 : Int32) (m : Mm) =>
 lt9 s0 fun x2 =>
 jn (fun (v5 : Int32) (s0 : Int32) (m : Mm) =>
 lt9 s0 fun x3 =>
 if v5 = 0 then (
 some (x3, m))
 else (
 some ((((27 : Int32) * x3) + v5), m))) fun J49 =>
 if v4 = 0 then (
 J49 v5 x2 m)
 else (
 J49 v5 (((27 : Int32) * x2) + v4) m)) fun J29 =>
 if a3 = 0 then (
 J29 a4 a5 x1 m)
 else (
 J29 a4 a5 (((27 : Int32) * x1) + a3) m)
def F_X12_isWord (a0 : Nat) (a1 : Int32) (a2 : Int32) (a3 : Int32) (a4 : Int32) (a5 : Int32) (a6 : Int32) (m : Mm) : Option (Int32 × Mm) :=
 gd (okO m a0 12) (
 if (rI m a0 5) = 0 then (
 gd (okO m a0 12) (bd (F_X12_wordHere a0 m) fun r1 m2 =>
 bd (F_X12_six a1 a2 a3 a4 a5 a6 m2) fun r3 m4 =>
 if r1 = r3 then (
 some ((1 : Int32), m4))
 else (
 some ((0 : Int32), m4))))
 else (
 some ((0 : Int32), m)))
def L_X12_skipWord_0  : Nat → Nat → Mm → Option (Unit × Mm)
 | 0, _, _ => none
 | n + 1, v0, m =>
 gd (okO m v0 12) (
 gd (okO m v0 12) (bd (F_X12_byteAt v0 (rI m v0 4) m) fun r1 m2 =>
 bd (F_X12_isSmall r1 m2) fun r3 m4 =>
 if r3 = 0 then (
 some ((), m4))
 else (
 gd (okO m4 v0 12) (
 gd (okO m4 v0 12) (lt9 (wI m4 v0 4 ((rI m4 v0 4) + (1 : Int32))) fun m5 =>
 L_X12_skipWord_0 n v0 m5)))))
def F_X12_skipWord (a0 : Nat) (m : Mm) : Option (Unit × Mm) :=
 L_X12_skipWord_0 NF a0 m
def F_X12_takes (a0 : Nat) (a1 : Int32) (a2 : Int32) (a3 : Int32) (a4 : Int32) (a5 : Int32) (a6 : Int32) (m : Mm) : Option (Int32 × Mm) :=
 gd (okO m a0 12) (bd (F_X12_isWord a0 a1 a2 a3 a4 a5 a6 m) fun r1 m2 =>
 lt9 r1 fun x3 =>
 if x3 = 0 then (
 gd (decide (x3 = 0 ∨ x3 = 1)) (some (x3, m2)))
 else (
 gd (okO m2 a0 12) (bd (F_X12_skipWord a0 m2) fun r4 m5 =>
 gd (decide (x3 = 0 ∨ x3 = 1)) (some (x3, m5)))))
def F_X12_sign (a0 : Nat) (a1 : Int32) (m : Mm) : Option (Unit × Mm) :=
 gd (okO m a0 12) (
 if (rI m a0 5) = 0 then (
 gd (okO m a0 12) (bd (F_X12_blanks a0 m) fun r1 m2 =>
 gd (okO m2 a0 12) (
 gd (okO m2 a0 12) (bd (F_X12_byteAt a0 (rI m2 a0 4) m2) fun r3 m4 =>
 if r3 = a1 then (
 gd (okO m4 a0 12) (
 gd (okO m4 a0 12) (lt9 (wI m4 a0 4 ((rI m4 a0 4) + (1 : Int32))) fun m7 =>
 some ((), m7))))
 else (
 gd (okO m4 a0 12) (
 gd (okO m4 a0 12) (bd (F_X12_wrong a0 (1 : Int32) (rI m4 a0 4) m4) fun r5 m6 =>
 some ((), m6))))))))
 else (
 some ((), m)))
def F_X12_takesSign (a0 : Nat) (a1 : Int32) (m : Mm) : Option (Int32 × Mm) :=
 gd (okO m a0 12) (
 if (rI m a0 5) = 0 then (
 gd (okO m a0 12) (bd (F_X12_blanks a0 m) fun r1 m2 =>
 gd (okO m2 a0 12) (
 gd (okO m2 a0 12) (bd (F_X12_byteAt a0 (rI m2 a0 4) m2) fun r3 m4 =>
 jn (fun (v0 : Nat) (s0 : Int32) (m : Mm) =>
 lt9 s0 fun x5 =>
 if x5 = 0 then (
 gd (decide (x5 = 0 ∨ x5 = 1)) (some (x5, m)))
 else (
 gd (okO m v0 12) (
 gd (okO m v0 12) (lt9 (wI m v0 4 ((rI m v0 4) + (1 : Int32))) fun m6 =>
 gd (decide (x5 = 0 ∨ x5 = 1)) (some (x5, m6)))))) fun J30 =>
 if r3 = a1 then (
 J30 a0 (1 : Int32) m4)
 else (
 J30 a0 (0 : Int32) m4)))))
 else (
 some ((0 : Int32), m)))
def F_X12_starts (a0 : Nat) (a1 : Int32) (m : Mm) : Option (Unit × Mm) :=
 gd (okO m a0 12) (lt9 (wI m a0 1 (0 : Int32)) fun m1 =>
 gd (okO m1 a0 12) (lt9 (wI m1 a0 2 a1) fun m2 =>
 gd (okO m2 a0 12) (lt9 (wI m2 a0 4 (0 : Int32)) fun m3 =>
 gd (okO m3 a0 12) (lt9 (wI m3 a0 5 (0 : Int32)) fun m4 =>
 gd (okO m4 a0 12) (lt9 (wI m4 a0 6 (-1 : Int32)) fun m5 =>
 gd (okO m5 a0 12) (lt9 (wI m5 a0 7 (0 : Int32)) fun m6 =>
 gd (okO m6 a0 12) (lt9 (wI m6 a0 8 (0 : Int32)) fun m7 =>
 gd (okO m7 a0 12) (bd (F_X12_blanks a0 m7) fun r8 m9 =>
 some ((), m9)))))))))
def F_X12_ends (a0 : Nat) (m : Mm) : Option (Int32 × Mm) :=
 gd (okO m a0 12) (
 gd (okO m a0 12) (lt9 (wI m a0 3 (rI m a0 6)) fun m1 =>
 gd (okO m1 a0 12) (
 some (((rI m1 a0 5) - (10 : Int32)), m1))))
def F_X12_clause (a0 : Nat) (m : Mm) : Option (Unit × Mm) :=
 gd (okO m a0 12) (bd (F_X12_isWord a0 (13 : Int32) (5 : Int32) (13 : Int32) (2 : Int32) (5 : Int32) (18 : Int32) m) fun r1 m2 =>
 jn (fun (v0 : Nat) (s0 : Int32) (m : Mm) =>
 lt9 s0 fun x3 =>
 jn (fun (v0 : Nat) (v1 : Int32) (m : Mm) =>
 gd (okO m v0 12) (
 if (rI m v0 5) = 0 then (
 gd (okO m v0 12) (bd (F_X12_skipWord v0 m) fun r4 m5 =>
 gd (okO m5 v0 12) (
 gd (okO m5 v0 12) (lt9 (wI m5 v0 7 ((rI m5 v0 7) + (1 : Int32))) fun m6 =>
 jn (fun (v0 : Nat) (v1 : Int32) (s0 : Int32) (m : Mm) =>
 lt9 s0 fun x7 =>
 gd (okO m v0 12) (bd (F_X12_sign v0 (59 : Int32) m) fun r8 m9 =>
 gd (okO m9 v0 12) (
 if (rI m9 v0 5) = 0 then (
 if v1 = (1 : Int32) then (
 gd (okO m9 v0 12) (oc (rR m9 v0 11) none fun q15 =>
 gd (okA m9 100 q15 (2 : Int32)) (lt9 (wI m9 q15 (ix (2 : Int32)) x7) fun m16 =>
 some ((), m16))))
 else (
 gd (okO m9 v0 12) (oc (rR m9 v0 11) none fun q10 =>
 gd (okA m9 100 q10 (1 : Int32)) (
 gd (okO m9 v0 12) (oc (rR m9 v0 11) none fun q11 =>
 gd (okA m9 100 q11 (0 : Int32)) (
 gd (okA m9 100 q10 (1 : Int32)) (lt9 (wI m9 q10 (ix (1 : Int32)) ((rI m9 q10 (ix (1 : Int32))) ||| (x7 <<< ((rI m9 q11 (ix (0 : Int32))) &&& 31)))) fun m12 =>
 gd (okO m12 v0 12) (oc (rR m12 v0 11) none fun q13 =>
 gd (okA m12 100 q13 (0 : Int32)) (
 gd (okA m12 100 q13 (0 : Int32)) (lt9 (wI m12 q13 (ix (0 : Int32)) ((rI m12 q13 (ix (0 : Int32))) + (1 : Int32))) fun m14 =>
 some ((), m14)))))))))))
 else (
 some ((), m9))))) fun J136 =>
 if v1 = 0 then (
 gd (okO m6 v0 12) (bd (F_X12_number v0 (0 : Int32) (1 : Int32) m6) fun r19 m20 =>
 J136 v0 v1 r19 m20))
 else (
 gd (okO m6 v0 12) (bd (F_X12_number v0 (1 : Int32) (30 : Int32) m6) fun r17 m18 =>
 J136 v0 v1 r17 m18))))))
 else (
 some ((), m)))) fun J94 =>
 if x3 = (-1 : Int32) then (
 gd (okO m v0 12) (
 gd (okO m v0 12) (bd (F_X12_wrong v0 (1 : Int32) (rI m v0 4) m) fun r24 m25 =>
 J94 v0 x3 m25)))
 else (
 gd (okO m v0 12) (
 jn (fun (v0 : Nat) (v1 : Int32) (m : Mm) =>
 gd (okO m v0 12) (
 gd (okO m v0 12) (bd (F_X12_wrong v0 (3 : Int32) (rI m v0 4) m) fun r21 m22 =>
 J94 v0 v1 m22))) fun J85 =>
 if (rI m v0 7) = (60 : Int32) then (
 J85 v0 x3 m)
 else (
 if x3 = 0 then (
 gd (okO m v0 12) (oc (rR m v0 11) none fun q23 =>
 gd (okA m 100 q23 (0 : Int32)) (
 if (rI m q23 (ix (0 : Int32))) = (6 : Int32) then (
 J85 v0 x3 m)
 else (
 J94 v0 x3 m))))
 else (
 J94 v0 x3 m))))) fun J43 =>
 if r1 = 0 then (
 gd (okO m2 a0 12) (bd (F_X12_isWord a0 (12 : Int32) (9 : Int32) (13 : Int32) (9 : Int32) (20 : Int32) (0 : Int32) m2) fun r26 m27 =>
 if r26 = 0 then (
 J43 a0 (-1 : Int32) m27)
 else (
 J43 a0 (1 : Int32) m27)))
 else (
 J43 a0 (0 : Int32) m2))
def L_X12_group_42 (K71 : Nat → Mm → Option (Int32 × Mm)) : Nat → Nat → Mm → Option (Int32 × Mm)
 | 0, _, _ => none
 | n + 1, v0, m =>
 gd (okO m v0 12) (
 if (rI m v0 5) = 0 then (
 gd (okO m v0 12) (
 gd (okO m v0 12) (
 if (rI m v0 2) ≤ (rI m v0 4) then (
 K71 v0 m)
 else (
 gd (okO m v0 12) (bd (F_X12_clause v0 m) fun r10 m11 =>
 gd (okO m11 v0 12) (bd (F_X12_blanks v0 m11) fun r12 m13 =>
 L_X12_group_42 K71 n v0 m13))))))
 else (
 K71 v0 m))
def F_X12_group (a0 : Nat) (a1 : Int32) (m : Mm) : Option (Int32 × Mm) :=
 gd (okO m a0 12) (lt9 (wI m a0 0 (0 : Int32)) fun m1 =>
 gd (okO m1 a0 12) (
 bd (F_X12_in a1 (0 : Int32) (rI m1 a0 1) m1) fun r2 m3 =>
 jn (fun (v0 : Nat) (v1 : Int32) (s0 : Int32) (s1 : Nat) (m : Mm) =>
 gd (okO m s1 12) (bd (F_X12_bad s1 s0 (1 : Int32) (1 : Int32) m) fun r4 m5 =>
 if r4 = 0 then (
 gd (okO m5 v0 12) (bd (F_X12_starts v0 v1 m5) fun r6 m7 =>
 gd (okO m7 v0 12) (bd (F_X12_tellsNothing v0 m7) fun r8 m9 =>
 L_X12_group_42 (fun v0 m =>
 gd (okO m v0 12) (
 if (rI m v0 5) = 0 then (
 gd (okO m v0 12) (lt9 (wI m v0 3 (-1 : Int32)) fun m14 =>
 gd (okO m14 v0 12) (bd (F_X12_beginsAnew v0 m14) fun r15 m16 =>
 gd (okO m16 v0 12) (oc (rR m16 v0 12) none fun q17 =>
 gd (okA m16 100 q17 (0 : Int32)) (
 some ((rI m16 q17 (ix (0 : Int32))), m16))))))
 else (
 gd (okO m v0 12) (bd (F_X12_ends v0 m) fun r18 m19 =>
 some (r18, m19))))) NF v0 m9)))
 else (
 some ((0 : Int32), m5)))) fun J23 =>
 if r2 = 0 then (
 J23 a0 a1 (1 : Int32) a0 m3)
 else (
 J23 a0 a1 (0 : Int32) a0 m3)))
def L_X12_lays_10 (K37 : Nat → Nat → Int32 → Int32 → Mm → Option (Unit × Mm)) : Nat → Nat → Nat → Int32 → Int32 → Int32 → Mm → Option (Unit × Mm)
 | 0, _, _, _, _, _, _ => none
 | n + 1, v0, v1, v2, v3, v4, m =>
 gd (okA m 106 v1 v3) (oc (rR m v1 (ix v3)) none fun q3 =>
 gd (okT m 100 q3) (
 if (ln m q3) ≤ v4 then (
 K37 v0 v1 v2 v3 m)
 else (
 gd (okA m 106 v1 v3) (oc (rR m v1 (ix v3)) none fun q4 =>
 gd (okA m 106 v0 v3) (oc (rR m v0 (ix v3)) none fun q5 =>
 gd (okA m 100 q5 v4) (
 gd (okA m 100 q4 v4) (lt9 (wI m q4 (ix v4) (rI m q5 (ix v4))) fun m6 =>
 lt9 (v4 + (1 : Int32)) fun x7 =>
 L_X12_lays_10 K37 n v0 v1 v2 v3 x7 m6)))))))
def L_X12_lays_2  : Nat → Nat → Nat → Int32 → Int32 → Mm → Option (Unit × Mm)
 | 0, _, _, _, _, _ => none
 | n + 1, v0, v1, v2, v3, m =>
 if v2 ≤ v3 then (
 some ((), m))
 else (
 lt9 (0 : Int32) fun x2 =>
 L_X12_lays_10 (fun v0 v1 v2 v3 m =>
 lt9 (v3 + (1 : Int32)) fun x8 =>
 L_X12_lays_2 n v0 v1 v2 x8 m) NF v0 v1 v2 v3 x2 m)
def F_X12_lays (a0 : Nat) (a1 : Nat) (a2 : Int32) (m : Mm) : Option (Unit × Mm) :=
 lt9 (0 : Int32) fun x1 =>
 L_X12_lays_2 NF a0 a1 a2 x1 m
def L_X12_copies_2  : Nat → Nat → Nat → Int32 → Mm → Option (Unit × Mm)
 | 0, _, _, _, _ => none
 | n + 1, v0, v1, v2, m =>
 if (968 : Int32) ≤ v2 then (
 some ((), m))
 else (
 gd (okA m 100 v0 v2) (
 gd (okA m 100 v1 v2) (lt9 (wI m v1 (ix v2) (rI m v0 (ix v2))) fun m2 =>
 lt9 (v2 + (1 : Int32)) fun x3 =>
 L_X12_copies_2 n v0 v1 x3 m2)))
def F_X12_copies (a0 : Nat) (a1 : Nat) (m : Mm) : Option (Unit × Mm) :=
 lt9 (0 : Int32) fun x1 =>
 L_X12_copies_2 NF a0 a1 x1 m
def F_X12_notes (a0 : Nat) (a1 : Int32) (a2 : Int32) (m : Mm) : Option (Unit × Mm) :=
 gd (okO m a0 12) (
 if (rI m a0 5) = 0 then (
 gd (okO m a0 12) (oc (rR m a0 16) none fun q1 =>
 gd (okO m a0 12) (
 gd (okA m 106 q1 (rI m a0 14)) (oc (rR m q1 (ix (rI m a0 14))) none fun q2 =>
 gd (okA m 100 q2 (0 : Int32)) (lt9 (wI m q2 (ix (0 : Int32)) a1) fun m3 =>
 gd (okO m3 a0 12) (oc (rR m3 a0 16) none fun q4 =>
 gd (okO m3 a0 12) (
 gd (okA m3 106 q4 (rI m3 a0 14)) (oc (rR m3 q4 (ix (rI m3 a0 14))) none fun q5 =>
 gd (okA m3 100 q5 (1 : Int32)) (lt9 (wI m3 q5 (ix (1 : Int32)) a2) fun m6 =>
 gd (okO m6 a0 12) (
 gd (okO m6 a0 12) (lt9 (wI m6 a0 14 ((rI m6 a0 14) + (1 : Int32))) fun m7 =>
 some ((), m7))))))))))))
 else (
 some ((), m)))
def F_X12_opensOne (a0 : Nat) (m : Mm) : Option (Int32 × Mm) :=
 gd (okO m a0 12) (
 jn (fun (v0 : Nat) (m : Mm) =>
 gd (okO m v0 12) (
 if (rI m v0 5) = 0 then (
 some ((1 : Int32), m))
 else (
 some ((0 : Int32), m)))) fun J45 =>
 jn (fun (v0 : Nat) (m : Mm) =>
 gd (okO m v0 12) (
 if (rI m v0 5) = 0 then (
 gd (okO m v0 12) (
 gd (okO m v0 12) (lt9 (wI m v0 8 ((rI m v0 8) + (1 : Int32))) fun m1 =>
 J45 v0 m1)))
 else (
 J45 v0 m))) fun J28 =>
 if (rI m a0 5) = 0 then (
 gd (okO m a0 12) (
 if (rI m a0 8) = (6 : Int32) then (
 gd (okO m a0 12) (
 gd (okO m a0 12) (bd (F_X12_wrong a0 (3 : Int32) (rI m a0 4) m) fun r2 m3 =>
 J45 a0 m3)))
 else (
 J28 a0 m)))
 else (
 J28 a0 m))
def F_X12_knownHere (a0 : Nat) (m : Mm) : Option (Int32 × Mm) :=
 gd (okO m a0 12) (bd (F_X12_takes a0 (13 : Int32) (5 : Int32) (13 : Int32) (2 : Int32) (5 : Int32) (18 : Int32) m) fun r1 m2 =>
 if r1 = 0 then (
 gd (okO m2 a0 12) (bd (F_X12_takes a0 (1 : Int32) (7 : Int32) (5 : Int32) (0 : Int32) (0 : Int32) (0 : Int32) m2) fun r3 m4 =>
 if r3 = 0 then (
 gd (okO m4 a0 12) (bd (F_X12_takes a0 (22 : Int32) (9 : Int32) (5 : Int32) (23 : Int32) (0 : Int32) (0 : Int32) m4) fun r5 m6 =>
 if r5 = 0 then (
 gd (okO m6 a0 12) (bd (F_X12_takes a0 (19 : Int32) (9 : Int32) (26 : Int32) (5 : Int32) (0 : Int32) (0 : Int32) m6) fun r7 m8 =>
 if r7 = 0 then (
 some ((-1 : Int32), m8))
 else (
 some ((3 : Int32), m8))))
 else (
 some ((2 : Int32), m6))))
 else (
 some ((1 : Int32), m4))))
 else (
 some ((0 : Int32), m2)))
def F_X12_by (a0 : Int32) (a1 : Int32) (a2 : Int32) (m : Mm) : Option (Int32 × Mm) :=
 if a0 = (2 : Int32) then (
 some ((a1 + a2), m))
 else (
 if a0 = (3 : Int32) then (
 some ((a1 - a2), m))
 else (
 if a0 = (4 : Int32) then (
 some ((a1 * a2), m))
 else (
 if a0 = (5 : Int32) then (
 if a2 = 0 then (
 some ((0 : Int32), m))
 else (
 if a2 = (-1 : Int32) then (
 some (((-a1)), m))
 else (
 gd (decide (¬ a2 = 0)) (
 some ((a1 / a2), m)))))
 else (
 if a0 = (6 : Int32) then (
 if a2 = 0 then (
 some ((0 : Int32), m))
 else (
 if a2 = (-1 : Int32) then (
 some ((0 : Int32), m))
 else (
 gd (decide (¬ a2 = 0)) (
 some ((a1 - a1 / a2 * a2), m)))))
 else (
 if a0 = (7 : Int32) then (
 bd (F_X12_less a1 a2 m) fun r1 m2 =>
 some (r1, m2))
 else (
 bd (F_X12_more a1 a2 m) fun r3 m4 =>
 some (r3, m4)))))))
def L_X12_byLaw_11 (K120 : Nat → Mm → Option (Int32 × Mm)) : Nat → Nat → Int32 → Int32 → Mm → Option (Int32 × Mm)
 | 0, _, _, _, _ => none
 | n + 1, v0, v1, v2, m =>
 gd (okO m v0 12) (
 if (rI m v0 13) ≤ v2 then (
 K120 v0 m)
 else (
 gd (okO m v0 12) (oc (rR m v0 15) none fun q5 =>
 gd (okA m 106 q5 v2) (oc (rR m q5 (ix v2)) none fun q6 =>
 gd (okA m 100 q6 (0 : Int32)) (
 jn (fun (v0 : Nat) (v1 : Int32) (v2 : Int32) (m : Mm) =>
 lt9 (v2 + (1 : Int32)) fun x7 =>
 L_X12_byLaw_11 K120 n v0 v1 x7 m) fun J114 =>
 if (2 : Int32) ≤ (rI m q6 (ix (0 : Int32))) then (
 lt9 (v1 + (-1 : Int32)) fun x8 =>
 gd (okO m v0 12) (oc (rR m v0 19) none fun q9 =>
 gd (okO m v0 12) (oc (rR m v0 15) none fun q10 =>
 gd (okA m 106 q10 v2) (oc (rR m q10 (ix v2)) none fun q11 =>
 gd (okA m 100 q11 (0 : Int32)) (
 gd (okO m v0 12) (oc (rR m v0 19) none fun q12 =>
 gd (okA m 100 q12 (x8 - (1 : Int32))) (
 gd (okO m v0 12) (oc (rR m v0 19) none fun q13 =>
 gd (okA m 100 q13 x8) (
 bd (F_X12_by (rI m q11 (ix (0 : Int32))) (rI m q12 (ix (x8 - (1 : Int32)))) (rI m q13 (ix x8)) m) fun r14 m15 =>
 gd (okA m15 100 q9 (x8 - (1 : Int32))) (lt9 (wI m15 q9 (ix (x8 - (1 : Int32))) r14) fun m16 =>
 J114 v0 x8 v2 m16))))))))))
 else (
 gd (okO m v0 12) (oc (rR m v0 19) none fun q17 =>
 gd (okO m v0 12) (oc (rR m v0 15) none fun q18 =>
 gd (okA m 106 q18 v2) (oc (rR m q18 (ix v2)) none fun q19 =>
 gd (okA m 100 q19 (0 : Int32)) (
 jn (fun (v0 : Nat) (v1 : Int32) (v2 : Int32) (s0 : Int32) (s1 : Int32) (s2 : Nat) (m : Mm) =>
 gd (okA m 100 s2 s1) (lt9 (wI m s2 (ix s1) s0) fun m20 =>
 lt9 (v1 + (1 : Int32)) fun x21 =>
 J114 v0 x21 v2 m20)) fun J71 =>
 if (rI m q19 (ix (0 : Int32))) = 0 then (
 gd (okO m v0 12) (oc (rR m v0 15) none fun q25 =>
 gd (okA m 106 q25 v2) (oc (rR m q25 (ix v2)) none fun q26 =>
 gd (okA m 100 q26 (1 : Int32)) (
 J71 v0 v1 v2 (rI m q26 (ix (1 : Int32))) v1 q17 m))))
 else (
 gd (okO m v0 12) (oc (rR m v0 20) none fun q22 =>
 gd (okO m v0 12) (oc (rR m v0 15) none fun q23 =>
 gd (okA m 106 q23 v2) (oc (rR m q23 (ix v2)) none fun q24 =>
 gd (okA m 100 q24 (1 : Int32)) (
 gd (okA m 100 q22 (rI m q24 (ix (1 : Int32)))) (
 J71 v0 v1 v2 (rI m q22 (ix (rI m q24 (ix (1 : Int32))))) v1 q17 m))))))))))))))))
def F_X12_byLaw (a0 : Nat) (m : Mm) : Option (Int32 × Mm) :=
 lt9 (0 : Int32) fun x1 =>
 gd (okO m a0 12) (oc (rR m a0 19) none fun q2 =>
 gd (okA m 100 q2 (0 : Int32)) (lt9 (wI m q2 (ix (0 : Int32)) (1 : Int32)) fun m3 =>
 lt9 (0 : Int32) fun x4 =>
 L_X12_byLaw_11 (fun v0 m =>
 gd (okO m v0 12) (oc (rR m v0 19) none fun q27 =>
 gd (okA m 100 q27 (0 : Int32)) (
 bd (F_X12_more (0 : Int32) (rI m q27 (ix (0 : Int32))) m) fun r28 m29 =>
 bd (F_X12_less (99 : Int32) r28 m29) fun r30 m31 =>
 some (r30, m31)))) NF a0 x1 x4 m3))
def F_X12_stepHere (a0 : Nat) (m : Mm) : Option (Int32 × Mm) :=
 gd (okO m a0 12) (bd (F_X12_isWord a0 (19 : Int32) (5 : Int32) (14 : Int32) (4 : Int32) (0 : Int32) (0 : Int32) m) fun r1 m2 =>
 if r1 = 0 then (
 gd (okO m2 a0 12) (bd (F_X12_isWord a0 (20 : Int32) (1 : Int32) (11 : Int32) (5 : Int32) (0 : Int32) (0 : Int32) m2) fun r3 m4 =>
 if r3 = 0 then (
 gd (okO m4 a0 12) (bd (F_X12_isWord a0 (12 : Int32) (15 : Int32) (19 : Int32) (5 : Int32) (0 : Int32) (0 : Int32) m4) fun r5 m6 =>
 if r5 = 0 then (
 gd (okO m6 a0 12) (bd (F_X12_isWord a0 (20 : Int32) (5 : Int32) (12 : Int32) (12 : Int32) (0 : Int32) (0 : Int32) m6) fun r7 m8 =>
 if r7 = 0 then (
 gd (okO m8 a0 12) (bd (F_X12_isWord a0 (20 : Int32) (18 : Int32) (9 : Int32) (13 : Int32) (0 : Int32) (0 : Int32) m8) fun r9 m10 =>
 if r9 = 0 then (
 gd (okO m10 a0 12) (bd (F_X12_isWord a0 (3 : Int32) (18 : Int32) (1 : Int32) (19 : Int32) (8 : Int32) (0 : Int32) m10) fun r11 m12 =>
 if r11 = 0 then (
 gd (okO m12 a0 12) (bd (F_X12_isWord a0 (10 : Int32) (15 : Int32) (9 : Int32) (14 : Int32) (0 : Int32) (0 : Int32) m12) fun r13 m14 =>
 if r13 = 0 then (
 gd (okO m14 a0 12) (bd (F_X12_isWord a0 (16 : Int32) (1 : Int32) (18 : Int32) (20 : Int32) (0 : Int32) (0 : Int32) m14) fun r15 m16 =>
 if r15 = 0 then (
 gd (okO m16 a0 12) (bd (F_X12_isWord a0 (8 : Int32) (15 : Int32) (12 : Int32) (4 : Int32) (0 : Int32) (0 : Int32) m16) fun r17 m18 =>
 if r17 = 0 then (
 gd (okO m18 a0 12) (bd (F_X12_isWord a0 (22 : Int32) (9 : Int32) (5 : Int32) (23 : Int32) (0 : Int32) (0 : Int32) m18) fun r19 m20 =>
 if r19 = 0 then (
 gd (okO m20 a0 12) (bd (F_X12_isWord a0 (1 : Int32) (7 : Int32) (1 : Int32) (9 : Int32) (14 : Int32) (0 : Int32) m20) fun r21 m22 =>
 if r21 = 0 then (
 some ((-1 : Int32), m22))
 else (
 some ((10 : Int32), m22))))
 else (
 some ((9 : Int32), m20))))
 else (
 some ((8 : Int32), m18))))
 else (
 some ((7 : Int32), m16))))
 else (
 some ((6 : Int32), m14))))
 else (
 some ((5 : Int32), m12))))
 else (
 some ((4 : Int32), m10))))
 else (
 some ((3 : Int32), m8))))
 else (
 some ((2 : Int32), m6))))
 else (
 some ((1 : Int32), m4))))
 else (
 some ((0 : Int32), m2)))
def L_X12_book_48 (K172 : Nat → Int32 → Mm → Option (Int32 × Mm)) : Nat → Nat → Int32 → Int32 → Mm → Option (Int32 × Mm)
 | 0, _, _, _, _ => none
 | n + 1, v0, v2, v3, m =>
 gd (okO m v0 12) (
 if (rI m v0 5) = 0 then (
 gd (okO m v0 12) (
 gd (okO m v0 12) (
 if (rI m v0 2) ≤ (rI m v0 4) then (
 K172 v0 v2 m)
 else (
 gd (okO m v0 12) (bd (F_X12_blanks v0 m) fun r10 m11 =>
 gd (okO m11 v0 12) (
 lt9 (rI m11 v0 4) fun x12 =>
 gd (okO m11 v0 12) (oc (rR m11 v0 12) none fun q13 =>
 gd (okA m11 100 q13 (0 : Int32)) (
 gd (okO m11 v0 12) (bd (F_X12_number v0 (0 : Int32) ((rI m11 q13 (ix (0 : Int32))) - (1 : Int32)) m11) fun r14 m15 =>
 lt9 r14 fun x16 =>
 gd (okO m15 v0 12) (
 jn (fun (v0 : Nat) (v2 : Int32) (v3 : Int32) (v5 : Int32) (m : Mm) =>
 gd (okO m v0 12) (bd (F_X12_number v0 (0 : Int32) (1 : Int32) m) fun r17 m18 =>
 lt9 r17 fun x19 =>
 gd (okO m18 v0 12) (bd (F_X12_sign v0 (59 : Int32) m18) fun r20 m21 =>
 gd (okO m21 v0 12) (
 jn (fun (v0 : Nat) (v2 : Int32) (v3 : Int32) (m : Mm) =>
 gd (okO m v0 12) (bd (F_X12_blanks v0 m) fun r22 m23 =>
 L_X12_book_48 K172 n v0 v2 v3 m23)) fun J165 =>
 if (rI m21 v0 5) = 0 then (
 lt9 (v3 ||| ((1 : Int32) <<< (v5 &&& 31))) fun x24 =>
 gd (okO m21 v0 12) (oc (rR m21 v0 18) none fun q25 =>
 gd (okA m21 106 q25 v2) (oc (rR m21 q25 (ix v2)) none fun q26 =>
 gd (okA m21 100 q26 (0 : Int32)) (lt9 (wI m21 q26 (ix (0 : Int32)) v5) fun m27 =>
 gd (okO m27 v0 12) (oc (rR m27 v0 18) none fun q28 =>
 gd (okA m27 106 q28 v2) (oc (rR m27 q28 (ix v2)) none fun q29 =>
 gd (okA m27 100 q29 (1 : Int32)) (lt9 (wI m27 q29 (ix (1 : Int32)) x19) fun m30 =>
 lt9 (v2 + (1 : Int32)) fun x31 =>
 J165 v0 x31 x24 m30)))))))
 else (
 J165 v0 v2 v3 m21))))) fun J114 =>
 if (rI m15 v0 5) = 0 then (
 bd (F_X12_has v3 x16 m15) fun r32 m33 =>
 if r32 = 0 then (
 J114 v0 v2 v3 x16 m33)
 else (
 gd (okO m33 v0 12) (bd (F_X12_wrong v0 (2 : Int32) x12 m33) fun r34 m35 =>
 J114 v0 v2 v3 x16 m35)))
 else (
 J114 v0 v2 v3 x16 m15)))))))))))
 else (
 K172 v0 v2 m))
def F_X12_book (a0 : Nat) (a1 : Int32) (m : Mm) : Option (Int32 × Mm) :=
 gd (okO m a0 12) (lt9 (wI m a0 0 (0 : Int32)) fun m1 =>
 gd (okO m1 a0 12) (
 bd (F_X12_in a1 (0 : Int32) (rI m1 a0 1) m1) fun r2 m3 =>
 jn (fun (v0 : Nat) (v1 : Int32) (s0 : Int32) (s1 : Nat) (m : Mm) =>
 gd (okO m s1 12) (bd (F_X12_bad s1 s0 (1 : Int32) (1 : Int32) m) fun r4 m5 =>
 if r4 = 0 then (
 gd (okO m5 v0 12) (bd (F_X12_starts v0 v1 m5) fun r6 m7 =>
 lt9 (0 : Int32) fun x8 =>
 lt9 (0 : Int32) fun x9 =>
 L_X12_book_48 (fun v0 v2 m =>
 gd (okO m v0 12) (
 if (rI m v0 5) = 0 then (
 gd (okO m v0 12) (lt9 (wI m v0 3 (-1 : Int32)) fun m36 =>
 gd (okO m36 v0 12) (lt9 (wI m36 v0 27 v2) fun m37 =>
 gd (okO m37 v0 12) (oc (rR m37 v0 18) none fun q38 =>
 gd (okO m37 v0 12) (oc (rR m37 v0 17) none fun q39 =>
 bd (F_X12_lays q38 q39 v2 m37) fun r40 m41 =>
 some (v2, m41))))))
 else (
 gd (okO m v0 12) (bd (F_X12_ends v0 m) fun r42 m43 =>
 some (r42, m43))))) NF v0 x8 x9 m7))
 else (
 some ((0 : Int32), m5)))) fun J29 =>
 jn (fun (v0 : Nat) (v1 : Int32) (s0 : Nat) (m : Mm) =>
 J29 v0 v1 (1 : Int32) s0 m) fun J24 =>
 if r2 = 0 then (
 J24 a0 a1 a0 m3)
 else (
 if a1 ≤ (60 : Int32) then (
 J29 a0 a1 (0 : Int32) a0 m3)
 else (
 J24 a0 a1 a0 m3))))
def F_X12_fault (a0 : Nat) (m : Mm) : Option (Int32 × Mm) :=
 gd (okO m a0 12) (lt9 (wI m a0 0 (0 : Int32)) fun m1 =>
 gd (okO m1 a0 12) (
 some ((rI m1 a0 3), m1)))
def F_X12_wide (a0 : Nat) (a1 : Int32) (m : Mm) : Option (Int64 × Mm) :=
 gd (okA m 100 a0 a1) (
 gd (okA m 100 a0 (a1 + (1 : Int32))) (
 some (((((rI m a0 (ix a1)).toInt64) <<< ((32 : Int32).toInt64 &&& 63)) ||| (((rI m a0 (ix (a1 + (1 : Int32)))).toInt64) &&& (4294967295 : Int64))), m)))
def F_X12_widens (a0 : Nat) (a1 : Int32) (a2 : Int64) (m : Mm) : Option (Unit × Mm) :=
 gd (okA m 100 a0 a1) (lt9 (wI m a0 (ix a1) ((a2 >>> ((32 : Int32).toInt64 &&& 63)).toInt32)) fun m1 =>
 gd (okA m1 100 a0 (a1 + (1 : Int32))) (lt9 (wI m1 a0 (ix (a1 + (1 : Int32))) (a2.toInt32)) fun m2 =>
 some ((), m2)))
set_option maxRecDepth 100000 in
set_option maxHeartbeats 4000000 in
theorem crt_X11_count (l : Launch) (θ : Th) (a0 : Nat) (a1 : Int32) (m : Mm) : Crt l θ yX11_count M_X11_count cvI [.ref a0, .int a1] m (F_X11_count a0 a1 m) := by
  refine crt_of 0 (by decide) rfl rfl (Nat.le_of_ble_eq_true rfl) (fun Z hμ => ?_)
  unfold F_X11_count
  show GG Z _ _ 0 [some (.ref a0), some (.int a1)] [] m _
  refine g_iload_n (i := 1) dX11_count_0 rfl rfl ?_
  refine g_sw0 (lo := 0) ?_
  refine g_swc (k := 0) (tgt := 28) dX11_count_1 (by decide) kt_0 rfl (by decide) ?_ ?_
  · refine g_aload_n (i := 0) dX11_count_28 rfl rfl ?_
    refine g_getI (k := 13) cl_X11 (by decide) rfl q_379 dX11_count_29 ?_
    exact g_ireturn rfl dX11_count_32
  · refine g_swc (k := 1) (tgt := 33) dX11_count_1 (by decide) kt_1 rfl (by decide) ?_ ?_
    · refine g_aload_n (i := 0) dX11_count_33 rfl rfl ?_
      refine g_getR (k := 0) cl_X11 (by decide) rfl q_366 dX11_count_34 ?_
      intro q1
      refine g_getIN (k := 1) cl_X9 (by decide) rfl q_45 dX11_count_37 ?_
      exact g_ireturn rfl dX11_count_40
    · refine g_swc (k := 2) (tgt := 41) dX11_count_1 (by decide) kt_2 rfl (by decide) ?_ ?_
      · refine g_aload_n (i := 0) dX11_count_41 rfl rfl ?_
        refine g_getR (k := 8) cl_X11 (by decide) rfl q_374 dX11_count_42 ?_
        intro q2
        refine g_getIN (k := 1) cl_X5 (by decide) rfl q_319 dX11_count_45 ?_
        exact g_ireturn rfl dX11_count_48
      · refine g_swe (n := 3) (tgt := 49) dX11_count_1 (by decide) (by decide) ?_
        refine g_iconst (v := (-1 : Int32)) dX11_count_49 ki_m1 ?_
        exact g_ireturn rfl dX11_count_50
set_option maxRecDepth 100000 in
set_option maxHeartbeats 4000000 in
theorem crt_X12_tellsNothing (l : Launch) (θ : Th) (a0 : Nat) (m : Mm) : Crt l θ yX12_tellsNothing M_X12_tellsNothing cvV [.ref a0] m (F_X12_tellsNothing a0 m) := by
  refine crt_of 0 (by decide) rfl rfl (Nat.le_of_ble_eq_true rfl) (fun Z hμ => ?_)
  unfold F_X12_tellsNothing
  show GG Z _ _ 0 [some (.ref a0)] [] m _
  refine g_aload_n (i := 0) dX12_tellsNothing_0 rfl rfl ?_
  refine g_getR (k := 11) cl_X12 (by decide) rfl q_1392 dX12_tellsNothing_1 ?_
  intro q1
  refine g_iconst (v := (0 : Int32)) dX12_tellsNothing_4 ki_0 ?_
  refine g_iconst (v := (0 : Int32)) dX12_tellsNothing_5 ki_0 ?_
  refine g_iastore dX12_tellsNothing_6 ?_
  intro m2
  refine g_aload_n (i := 0) dX12_tellsNothing_7 rfl rfl ?_
  refine g_getR (k := 11) cl_X12 (by decide) rfl q_1392 dX12_tellsNothing_8 ?_
  intro q3
  refine g_iconst (v := (1 : Int32)) dX12_tellsNothing_11 ki_1 ?_
  refine g_iconst (v := (0 : Int32)) dX12_tellsNothing_12 ki_0 ?_
  refine g_iastore dX12_tellsNothing_13 ?_
  intro m4
  refine g_aload_n (i := 0) dX12_tellsNothing_14 rfl rfl ?_
  refine g_getR (k := 11) cl_X12 (by decide) rfl q_1392 dX12_tellsNothing_15 ?_
  intro q5
  refine g_iconst (v := (2 : Int32)) dX12_tellsNothing_18 ki_2 ?_
  refine g_bipush (v := (30 : Int32)) dX12_tellsNothing_19 kb_30 ?_
  refine g_iastore dX12_tellsNothing_21 ?_
  intro m6
  exact g_return rfl dX12_tellsNothing_22
set_option maxRecDepth 100000 in
set_option maxHeartbeats 4000000 in
theorem crt_X12_has (l : Launch) (θ : Th) (a0 : Int32) (a1 : Int32) (m : Mm) : Crt l θ yX12_has M_X12_has cvI [.int a0, .int a1] m (F_X12_has a0 a1 m) := by
  refine crt_of 0 (by decide) rfl rfl (Nat.le_of_ble_eq_true rfl) (fun Z hμ => ?_)
  unfold F_X12_has
  show GG Z _ _ 0 [some (.int a0), some (.int a1)] [] m _
  refine g_iload_n (i := 0) dX12_has_0 rfl rfl ?_
  refine g_iload_n (i := 1) dX12_has_1 rfl rfl ?_
  refine g_ishr dX12_has_2 ?_
  refine g_iconst (v := (1 : Int32)) dX12_has_3 ki_1 ?_
  refine g_iand dX12_has_4 ?_
  refine g_iconst (v := (1 : Int32)) dX12_has_5 ki_1 ?_
  refine g_icmpne (tgt := 13) dX12_has_6 (by decide) ?_ ?_
  · refine g_iconst (v := (0 : Int32)) dX12_has_13 ki_0 ?_
    exact g_zreturnK rfl (by decide) dX12_has_14
  · refine g_iconst (v := (1 : Int32)) dX12_has_9 ki_1 ?_
    refine g_goto (tgt := 14) dX12_has_10 (by decide) ?_
    exact g_zreturnK rfl (by decide) dX12_has_14
set_option maxRecDepth 100000 in
set_option maxHeartbeats 4000000 in
theorem c_L_X12_beginsAnew_2 {Z : Zx}  {K25 : Nat → Mm → Option (Unit × Mm)} (hK25 : ∀ (v0 : Nat) (m : Mm), GG Z M_X12_beginsAnew (PsN Z cvV) 25 [some (.ref v0), none] [] m (K25 v0 m)) : ∀ (n : Nat) (v0 : Nat) (v1 : Int32) (m : Mm), GG Z M_X12_beginsAnew (PsN Z cvV) 2 [some (.ref v0), some (.int v1)] [] m (L_X12_beginsAnew_2 K25 n v0 v1 m) := by
  intro n
  induction n with
  | zero => intro v0 v1 m; exact g_no
  | succ n ih =>
    intro v0 v1 m
    unfold L_X12_beginsAnew_2
    refine g_iload_n (i := 1) dX12_beginsAnew_2 rfl rfl ?_
    refine g_iconst (v := (3 : Int32)) dX12_beginsAnew_3 ki_3 ?_
    refine g_icmpge (tgt := 25) dX12_beginsAnew_4 (by decide) ?_ ?_
    · exact g_msk [true, false] (hK25 _ _)
    · refine g_aload_n (i := 0) dX12_beginsAnew_7 rfl rfl ?_
      refine g_getR (k := 12) cl_X12 (by decide) rfl q_1393 dX12_beginsAnew_8 ?_
      intro q2
      refine g_iload_n (i := 1) dX12_beginsAnew_11 rfl rfl ?_
      refine g_aload_n (i := 0) dX12_beginsAnew_12 rfl rfl ?_
      refine g_getR (k := 11) cl_X12 (by decide) rfl q_1392 dX12_beginsAnew_13 ?_
      intro q3
      refine g_iload_n (i := 1) dX12_beginsAnew_16 rfl rfl ?_
      refine g_iaload dX12_beginsAnew_17 ?_
      refine g_iastore dX12_beginsAnew_18 ?_
      intro m4
      refine g_iinc dX12_beginsAnew_19 rfl ki_1 (show 1 < 2 by decide) ?_
      intro x5
      refine g_goto (tgt := 2) dX12_beginsAnew_22 (by decide) ?_
      exact g_msk [true, true] (ih _ _ _)
set_option maxRecDepth 100000 in
set_option maxHeartbeats 4000000 in
theorem c_L_X12_beginsAnew_27 {Z : Zx}  {K47 : Nat → Mm → Option (Unit × Mm)} (hK47 : ∀ (v0 : Nat) (m : Mm), GG Z M_X12_beginsAnew (PsN Z cvV) 47 [some (.ref v0), none] [] m (K47 v0 m)) : ∀ (n : Nat) (v0 : Nat) (v1 : Int32) (m : Mm), GG Z M_X12_beginsAnew (PsN Z cvV) 27 [some (.ref v0), some (.int v1)] [] m (L_X12_beginsAnew_27 K47 n v0 v1 m) := by
  intro n
  induction n with
  | zero => intro v0 v1 m; exact g_no
  | succ n ih =>
    intro v0 v1 m
    unfold L_X12_beginsAnew_27
    refine g_iload_n (i := 1) dX12_beginsAnew_27 rfl rfl ?_
    refine g_sipush (v := (968 : Int32)) dX12_beginsAnew_28 ks_968 ?_
    refine g_icmpge (tgt := 47) dX12_beginsAnew_31 (by decide) ?_ ?_
    · exact g_msk [true, false] (hK47 _ _)
    · refine g_aload_n (i := 0) dX12_beginsAnew_34 rfl rfl ?_
      refine g_getR (k := 23) cl_X12 (by decide) rfl q_1404 dX12_beginsAnew_35 ?_
      intro q7
      refine g_iload_n (i := 1) dX12_beginsAnew_38 rfl rfl ?_
      refine g_iconst (v := (0 : Int32)) dX12_beginsAnew_39 ki_0 ?_
      refine g_iastore dX12_beginsAnew_40 ?_
      intro m8
      refine g_iinc dX12_beginsAnew_41 rfl ki_1 (show 1 < 2 by decide) ?_
      intro x9
      refine g_goto (tgt := 27) dX12_beginsAnew_44 (by decide) ?_
      exact g_msk [true, true] (ih _ _ _)
set_option maxRecDepth 100000 in
set_option maxHeartbeats 4000000 in
theorem c_L_X12_beginsAnew_49 {Z : Zx}  {K106 : Nat → Mm → Option (Unit × Mm)} (hK106 : ∀ (v0 : Nat) (m : Mm), GG Z M_X12_beginsAnew (PsN Z cvV) 106 [some (.ref v0), none] [] m (K106 v0 m)) : ∀ (n : Nat) (v0 : Nat) (v1 : Int32) (m : Mm), GG Z M_X12_beginsAnew (PsN Z cvV) 49 [some (.ref v0), some (.int v1)] [] m (L_X12_beginsAnew_49 K106 n v0 v1 m) := by
  intro n
  induction n with
  | zero => intro v0 v1 m; exact g_no
  | succ n ih =>
    intro v0 v1 m
    unfold L_X12_beginsAnew_49
    refine g_iload_n (i := 1) dX12_beginsAnew_49 rfl rfl ?_
    refine g_bipush (v := (6 : Int32)) dX12_beginsAnew_50 kb_6 ?_
    refine g_icmpge (tgt := 106) dX12_beginsAnew_52 (by decide) ?_ ?_
    · exact g_msk [true, false] (hK106 _ _)
    · refine g_aload_n (i := 0) dX12_beginsAnew_55 rfl rfl ?_
      refine g_getR (k := 23) cl_X12 (by decide) rfl q_1404 dX12_beginsAnew_56 ?_
      intro q11
      refine g_iconst (v := (0 : Int32)) dX12_beginsAnew_59 ki_0 ?_
      refine g_iload_n (i := 1) dX12_beginsAnew_60 rfl rfl ?_
      refine g_iadd dX12_beginsAnew_61 ?_
      refine g_aload_n (i := 0) dX12_beginsAnew_62 rfl rfl ?_
      refine g_getR (k := 12) cl_X12 (by decide) rfl q_1393 dX12_beginsAnew_63 ?_
      intro q12
      refine g_iconst (v := (1 : Int32)) dX12_beginsAnew_66 ki_1 ?_
      refine g_iaload dX12_beginsAnew_67 ?_
      refine g_iload_n (i := 1) dX12_beginsAnew_68 rfl rfl ?_
      refine g_ishr dX12_beginsAnew_69 ?_
      refine g_iconst (v := (1 : Int32)) dX12_beginsAnew_70 ki_1 ?_
      refine g_iand dX12_beginsAnew_71 ?_
      refine g_iastore dX12_beginsAnew_72 ?_
      intro m13
      refine g_aload_n (i := 0) dX12_beginsAnew_73 rfl rfl ?_
      refine g_getR (k := 23) cl_X12 (by decide) rfl q_1404 dX12_beginsAnew_74 ?_
      intro q14
      refine g_bipush (v := (6 : Int32)) dX12_beginsAnew_77 kb_6 ?_
      refine g_iload_n (i := 1) dX12_beginsAnew_79 rfl rfl ?_
      refine g_iadd dX12_beginsAnew_80 ?_
      refine g_aload_n (i := 0) dX12_beginsAnew_81 rfl rfl ?_
      refine g_getR (k := 12) cl_X12 (by decide) rfl q_1393 dX12_beginsAnew_82 ?_
      intro q15
      refine g_iconst (v := (1 : Int32)) dX12_beginsAnew_85 ki_1 ?_
      refine g_iaload dX12_beginsAnew_86 ?_
      refine g_iload_n (i := 1) dX12_beginsAnew_87 rfl rfl ?_
      refine g_callSI (crt_X12_has _ _ _ _ _) cw_X12_has (by decide) rfl q_1378 q_1379 rfl rfl dX12_beginsAnew_88 ?_
      intro r16 m17
      refine g_jn (fun J99 => ∀ (v0 : Nat) (v1 : Int32) (s0 : Int32) (s1 : Int32) (s2 : Nat) (m : Mm), GG Z M_X12_beginsAnew (PsN Z cvV) 99 [some (.ref v0), some (.int v1)] [.int s0, .int s1, .ref s2] m (J99 v0 v1 s0 s1 s2 m)) ?_ ?_
      · intro v0 v1 s0 s1 s2 m
        refine g_iastore dX12_beginsAnew_99 ?_
        intro m18
        refine g_iinc dX12_beginsAnew_100 rfl ki_1 (show 1 < 2 by decide) ?_
        intro x19
        refine g_goto (tgt := 49) dX12_beginsAnew_103 (by decide) ?_
        exact g_msk [true, true] (ih _ _ _)
      · intro J99 hJ99
        refine g_ifeq (tgt := 98) dX12_beginsAnew_91 (by decide) ?_ ?_
        · refine g_iconst (v := (-1 : Int32)) dX12_beginsAnew_98 ki_m1 ?_
          exact g_msk [true, true] (hJ99 _ _ _ _ _ _)
        · refine g_iconst (v := (0 : Int32)) dX12_beginsAnew_94 ki_0 ?_
          refine g_goto (tgt := 99) dX12_beginsAnew_95 (by decide) ?_
          exact g_msk [true, true] (hJ99 _ _ _ _ _ _)
set_option maxRecDepth 100000 in
set_option maxHeartbeats 4000000 in
theorem crt_X12_beginsAnew (l : Launch) (θ : Th) (a0 : Nat) (m : Mm) : Crt l θ yX12_beginsAnew M_X12_beginsAnew cvV [.ref a0] m (F_X12_beginsAnew a0 m) := by
  refine crt_of 1 (by decide) rfl rfl (Nat.le_of_ble_eq_true rfl) (fun Z hμ => ?_)
  unfold F_X12_beginsAnew
  show GG Z _ _ 0 [some (.ref a0), none] [] m _
  refine g_iconst (v := (0 : Int32)) dX12_beginsAnew_0 ki_0 ?_
  refine g_istore_n (i := 1) dX12_beginsAnew_1 rfl (show 1 < 2 by decide) ?_
  intro x1
  refine g_msk [true, true] (c_L_X12_beginsAnew_2 ?_ NF _ _ _)
  intro v0 m
  refine g_iconst (v := (0 : Int32)) dX12_beginsAnew_25 ki_0 ?_
  refine g_istore_n (i := 1) dX12_beginsAnew_26 rfl (show 1 < 2 by decide) ?_
  intro x6
  refine g_msk [true, true] (c_L_X12_beginsAnew_27 ?_ NF _ _ _)
  intro v0 m
  refine g_iconst (v := (0 : Int32)) dX12_beginsAnew_47 ki_0 ?_
  refine g_istore_n (i := 1) dX12_beginsAnew_48 rfl (show 1 < 2 by decide) ?_
  intro x10
  refine g_msk [true, true] (c_L_X12_beginsAnew_49 ?_ NF _ _ _)
  intro v0 m
  refine g_aload_n (i := 0) dX12_beginsAnew_106 rfl rfl ?_
  refine g_getR (k := 23) cl_X12 (by decide) rfl q_1404 dX12_beginsAnew_107 ?_
  intro q20
  refine g_sipush (v := (181 : Int32)) dX12_beginsAnew_110 ks_181 ?_
  refine g_iconst (v := (1 : Int32)) dX12_beginsAnew_113 ki_1 ?_
  refine g_iastore dX12_beginsAnew_114 ?_
  intro m21
  refine g_aload_n (i := 0) dX12_beginsAnew_115 rfl rfl ?_
  refine g_getR (k := 23) cl_X12 (by decide) rfl q_1404 dX12_beginsAnew_116 ?_
  intro q22
  refine g_sipush (v := (182 : Int32)) dX12_beginsAnew_119 ks_182 ?_
  refine g_aload_n (i := 0) dX12_beginsAnew_122 rfl rfl ?_
  refine g_getR (k := 12) cl_X12 (by decide) rfl q_1393 dX12_beginsAnew_123 ?_
  intro q23
  refine g_iconst (v := (1 : Int32)) dX12_beginsAnew_126 ki_1 ?_
  refine g_iaload dX12_beginsAnew_127 ?_
  refine g_iastore dX12_beginsAnew_128 ?_
  intro m24
  refine g_aload_n (i := 0) dX12_beginsAnew_129 rfl rfl ?_
  refine g_getR (k := 23) cl_X12 (by decide) rfl q_1404 dX12_beginsAnew_130 ?_
  intro q25
  refine g_sipush (v := (183 : Int32)) dX12_beginsAnew_133 ks_183 ?_
  refine g_aload_n (i := 0) dX12_beginsAnew_136 rfl rfl ?_
  refine g_getR (k := 12) cl_X12 (by decide) rfl q_1393 dX12_beginsAnew_137 ?_
  intro q26
  refine g_iconst (v := (1 : Int32)) dX12_beginsAnew_140 ki_1 ?_
  refine g_iaload dX12_beginsAnew_141 ?_
  refine g_iastore dX12_beginsAnew_142 ?_
  intro m27
  refine g_aload_n (i := 0) dX12_beginsAnew_143 rfl rfl ?_
  refine g_getR (k := 23) cl_X12 (by decide) rfl q_1404 dX12_beginsAnew_144 ?_
  intro q28
  refine g_sipush (v := (184 : Int32)) dX12_beginsAnew_147 ks_184 ?_
  refine g_iconst (v := (1 : Int32)) dX12_beginsAnew_150 ki_1 ?_
  refine g_aload_n (i := 0) dX12_beginsAnew_151 rfl rfl ?_
  refine g_getR (k := 12) cl_X12 (by decide) rfl q_1393 dX12_beginsAnew_152 ?_
  intro q29
  refine g_iconst (v := (0 : Int32)) dX12_beginsAnew_155 ki_0 ?_
  refine g_iaload dX12_beginsAnew_156 ?_
  refine g_ishl dX12_beginsAnew_157 ?_
  refine g_iconst (v := (1 : Int32)) dX12_beginsAnew_158 ki_1 ?_
  refine g_isub dX12_beginsAnew_159 ?_
  refine g_iastore dX12_beginsAnew_160 ?_
  intro m30
  refine g_aload_n (i := 0) dX12_beginsAnew_161 rfl rfl ?_
  refine g_iconst (v := (0 : Int32)) dX12_beginsAnew_162 ki_0 ?_
  refine g_putI (k := 13) cl_X12 (by decide) rfl rfl q_1394 dX12_beginsAnew_163 ?_
  intro m31
  refine g_aload_n (i := 0) dX12_beginsAnew_166 rfl rfl ?_
  refine g_iconst (v := (0 : Int32)) dX12_beginsAnew_167 ki_0 ?_
  refine g_putI (k := 27) cl_X12 (by decide) rfl rfl q_1408 dX12_beginsAnew_168 ?_
  intro m32
  refine g_aload_n (i := 0) dX12_beginsAnew_171 rfl rfl ?_
  refine g_iconst (v := (0 : Int32)) dX12_beginsAnew_172 ki_0 ?_
  refine g_putI (k := 28) cl_X12 (by decide) rfl rfl q_1409 dX12_beginsAnew_173 ?_
  intro m33
  refine g_aload_n (i := 0) dX12_beginsAnew_176 rfl rfl ?_
  refine g_iconst (v := (0 : Int32)) dX12_beginsAnew_177 ki_0 ?_
  refine g_putI (k := 29) cl_X12 (by decide) rfl rfl q_1410 dX12_beginsAnew_178 ?_
  intro m34
  refine g_aload_n (i := 0) dX12_beginsAnew_181 rfl rfl ?_
  refine g_iconst (v := (0 : Int32)) dX12_beginsAnew_182 ki_0 ?_
  refine g_putI (k := 30) cl_X12 (by decide) rfl rfl q_1411 dX12_beginsAnew_183 ?_
  intro m35
  exact g_return rfl dX12_beginsAnew_186
set_option maxRecDepth 100000 in
set_option maxHeartbeats 4000000 in
theorem crt_X12_init (l : Launch) (θ : Th) (a0 : Nat) (m : Mm) : Crt l θ yX12_init M_X12_init cvV [.ref a0] m (F_X12_init a0 m) := by
  refine crt_of 0 (by decide) rfl rfl (Nat.le_of_ble_eq_true rfl) (fun Z hμ => ?_)
  unfold F_X12_init
  show GG Z _ _ 0 [some (.ref a0)] [] m _
  refine g_aload_n (i := 0) dX12_init_0 rfl rfl ?_
  refine g_objInit q_1367 q_35 q_36 (by decide) rfl dX12_init_1 ?_
  refine g_aload_n (i := 0) dX12_init_4 rfl rfl ?_
  refine g_iconst (v := (-1 : Int32)) dX12_init_5 ki_m1 ?_
  refine g_putI (k := 3) cl_X12 (by decide) rfl rfl q_1384 dX12_init_6 ?_
  intro m1
  refine g_aload_n (i := 0) dX12_init_9 rfl rfl ?_
  refine g_sipush (v := (600 : Int32)) dX12_init_10 ks_600 ?_
  refine g_newarr (atype := .int) (ty := .int) (t0 := 0) (N := 600) rfl rfl (fun _ => rfl) (fun _ _ h => h) q_128 (by decide) (by decide) (by decide) (fun _ _ => nwd_i _ _ _ _ (by decide) rfl) dX12_init_13 ?_
  intro m2
  refine g_putRF (k := 9) cl_X12 (by decide) rfl (fun _ => rfl) (fun _ => rfl) rfl rfl rfl q_1390 dX12_init_15 ?_
  intro m3
  refine g_aload_n (i := 0) dX12_init_18 rfl rfl ?_
  refine g_iconst (v := (4 : Int32)) dX12_init_19 ki_4 ?_
  refine g_newarr (atype := .int) (ty := .int) (t0 := 0) (N := 4) rfl rfl (fun _ => rfl) (fun _ _ h => h) q_128 (by decide) (by decide) (by decide) (fun _ _ => nwd_i _ _ _ _ (by decide) rfl) dX12_init_20 ?_
  intro m4
  refine g_putRF (k := 10) cl_X12 (by decide) rfl (fun _ => rfl) (fun _ => rfl) rfl rfl rfl q_1391 dX12_init_22 ?_
  intro m5
  refine g_aload_n (i := 0) dX12_init_25 rfl rfl ?_
  refine g_iconst (v := (3 : Int32)) dX12_init_26 ki_3 ?_
  refine g_newarr (atype := .int) (ty := .int) (t0 := 0) (N := 3) rfl rfl (fun _ => rfl) (fun _ _ h => h) q_128 (by decide) (by decide) (by decide) (fun _ _ => nwd_i _ _ _ _ (by decide) rfl) dX12_init_27 ?_
  intro m6
  refine g_putRF (k := 11) cl_X12 (by decide) rfl (fun _ => rfl) (fun _ => rfl) rfl rfl rfl q_1392 dX12_init_29 ?_
  intro m7
  refine g_aload_n (i := 0) dX12_init_32 rfl rfl ?_
  refine g_iconst (v := (3 : Int32)) dX12_init_33 ki_3 ?_
  refine g_newarr (atype := .int) (ty := .int) (t0 := 0) (N := 3) rfl rfl (fun _ => rfl) (fun _ _ h => h) q_128 (by decide) (by decide) (by decide) (fun _ _ => nwd_i _ _ _ _ (by decide) rfl) dX12_init_34 ?_
  intro m8
  refine g_putRF (k := 12) cl_X12 (by decide) rfl (fun _ => rfl) (fun _ => rfl) rfl rfl rfl q_1393 dX12_init_36 ?_
  intro m9
  refine g_aload_n (i := 0) dX12_init_39 rfl rfl ?_
  refine g_sipush (v := (160 : Int32)) dX12_init_40 ks_160 ?_
  refine g_iconst (v := (2 : Int32)) dX12_init_43 ki_2 ?_
  refine g_mna (N := 160) (K := 2) q_1368 q_128 (by decide) (by decide) (by decide) (by decide) (by decide) (by decide) (by decide) dX12_init_44 ?_
  intro m10
  refine g_putRF (k := 15) cl_X12 (by decide) rfl (fun _ => rfl) (fun _ => rfl) rfl rfl rfl q_1396 dX12_init_48 ?_
  intro m11
  refine g_aload_n (i := 0) dX12_init_51 rfl rfl ?_
  refine g_sipush (v := (160 : Int32)) dX12_init_52 ks_160 ?_
  refine g_iconst (v := (2 : Int32)) dX12_init_55 ki_2 ?_
  refine g_mna (N := 160) (K := 2) q_1368 q_128 (by decide) (by decide) (by decide) (by decide) (by decide) (by decide) (by decide) dX12_init_56 ?_
  intro m12
  refine g_putRF (k := 16) cl_X12 (by decide) rfl (fun _ => rfl) (fun _ => rfl) rfl rfl rfl q_1397 dX12_init_60 ?_
  intro m13
  refine g_aload_n (i := 0) dX12_init_63 rfl rfl ?_
  refine g_bipush (v := (6 : Int32)) dX12_init_64 kb_6 ?_
  refine g_iconst (v := (2 : Int32)) dX12_init_66 ki_2 ?_
  refine g_mna (N := 6) (K := 2) q_1368 q_128 (by decide) (by decide) (by decide) (by decide) (by decide) (by decide) (by decide) dX12_init_67 ?_
  intro m14
  refine g_putRF (k := 17) cl_X12 (by decide) rfl (fun _ => rfl) (fun _ => rfl) rfl rfl rfl q_1398 dX12_init_71 ?_
  intro m15
  refine g_aload_n (i := 0) dX12_init_74 rfl rfl ?_
  refine g_bipush (v := (6 : Int32)) dX12_init_75 kb_6 ?_
  refine g_iconst (v := (2 : Int32)) dX12_init_77 ki_2 ?_
  refine g_mna (N := 6) (K := 2) q_1368 q_128 (by decide) (by decide) (by decide) (by decide) (by decide) (by decide) (by decide) dX12_init_78 ?_
  intro m16
  refine g_putRF (k := 18) cl_X12 (by decide) rfl (fun _ => rfl) (fun _ => rfl) rfl rfl rfl q_1399 dX12_init_82 ?_
  intro m17
  refine g_aload_n (i := 0) dX12_init_85 rfl rfl ?_
  refine g_sipush (v := (160 : Int32)) dX12_init_86 ks_160 ?_
  refine g_newarr (atype := .int) (ty := .int) (t0 := 0) (N := 160) rfl rfl (fun _ => rfl) (fun _ _ h => h) q_128 (by decide) (by decide) (by decide) (fun _ _ => nwd_i _ _ _ _ (by decide) rfl) dX12_init_89 ?_
  intro m18
  refine g_putRF (k := 19) cl_X12 (by decide) rfl (fun _ => rfl) (fun _ => rfl) rfl rfl rfl q_1400 dX12_init_91 ?_
  intro m19
  refine g_aload_n (i := 0) dX12_init_94 rfl rfl ?_
  refine g_iconst (v := (4 : Int32)) dX12_init_95 ki_4 ?_
  refine g_newarr (atype := .int) (ty := .int) (t0 := 0) (N := 4) rfl rfl (fun _ => rfl) (fun _ _ h => h) q_128 (by decide) (by decide) (by decide) (fun _ _ => nwd_i _ _ _ _ (by decide) rfl) dX12_init_96 ?_
  intro m20
  refine g_putRF (k := 20) cl_X12 (by decide) rfl (fun _ => rfl) (fun _ => rfl) rfl rfl rfl q_1401 dX12_init_98 ?_
  intro m21
  refine g_aload_n (i := 0) dX12_init_101 rfl rfl ?_
  refine g_bipush (v := (80 : Int32)) dX12_init_102 kb_80 ?_
  refine g_iconst (v := (4 : Int32)) dX12_init_104 ki_4 ?_
  refine g_mna (N := 80) (K := 4) q_1368 q_128 (by decide) (by decide) (by decide) (by decide) (by decide) (by decide) (by decide) dX12_init_105 ?_
  intro m22
  refine g_putRF (k := 21) cl_X12 (by decide) rfl (fun _ => rfl) (fun _ => rfl) rfl rfl rfl q_1402 dX12_init_109 ?_
  intro m23
  refine g_aload_n (i := 0) dX12_init_112 rfl rfl ?_
  refine g_sipush (v := (968 : Int32)) dX12_init_113 ks_968 ?_
  refine g_newarr (atype := .int) (ty := .int) (t0 := 0) (N := 968) rfl rfl (fun _ => rfl) (fun _ _ h => h) q_128 (by decide) (by decide) (by decide) (fun _ _ => nwd_i _ _ _ _ (by decide) rfl) dX12_init_116 ?_
  intro m24
  refine g_putRF (k := 23) cl_X12 (by decide) rfl (fun _ => rfl) (fun _ => rfl) rfl rfl rfl q_1404 dX12_init_118 ?_
  intro m25
  refine g_aload_n (i := 0) dX12_init_121 rfl rfl ?_
  refine g_sipush (v := (968 : Int32)) dX12_init_122 ks_968 ?_
  refine g_newarr (atype := .int) (ty := .int) (t0 := 0) (N := 968) rfl rfl (fun _ => rfl) (fun _ _ h => h) q_128 (by decide) (by decide) (by decide) (fun _ _ => nwd_i _ _ _ _ (by decide) rfl) dX12_init_125 ?_
  intro m26
  refine g_putRF (k := 24) cl_X12 (by decide) rfl (fun _ => rfl) (fun _ => rfl) rfl rfl rfl q_1405 dX12_init_127 ?_
  intro m27
  refine g_aload_n (i := 0) dX12_init_130 rfl rfl ?_
  refine g_bipush (v := (16 : Int32)) dX12_init_131 kb_16 ?_
  refine g_sipush (v := (968 : Int32)) dX12_init_133 ks_968 ?_
  refine g_mna (N := 16) (K := 968) q_1368 q_128 (by decide) (by decide) (by decide) (by decide) (by decide) (by decide) (by decide) dX12_init_136 ?_
  intro m28
  refine g_putRF (k := 25) cl_X12 (by decide) rfl (fun _ => rfl) (fun _ => rfl) rfl rfl rfl q_1406 dX12_init_140 ?_
  intro m29
  refine g_aload_n (i := 0) dX12_init_143 rfl rfl ?_
  refine g_iconst (v := (3 : Int32)) dX12_init_144 ki_3 ?_
  refine g_sipush (v := (16457 : Int32)) dX12_init_145 ks_16457 ?_
  refine g_mna (N := 3) (K := 16457) q_1368 q_128 (by decide) (by decide) (by decide) (by decide) (by decide) (by decide) (by decide) dX12_init_148 ?_
  intro m30
  refine g_putRF (k := 26) cl_X12 (by decide) rfl (fun _ => rfl) (fun _ => rfl) rfl rfl rfl q_1407 dX12_init_152 ?_
  intro m31
  refine g_aload_n (i := 0) dX12_init_155 rfl rfl ?_
  refine g_bipush (v := (60 : Int32)) dX12_init_156 kb_60 ?_
  refine g_newarr (atype := .int) (ty := .int) (t0 := 0) (N := 60) rfl rfl (fun _ => rfl) (fun _ _ h => h) q_128 (by decide) (by decide) (by decide) (fun _ _ => nwd_i _ _ _ _ (by decide) rfl) dX12_init_158 ?_
  intro m32
  refine g_putRF (k := 34) cl_X12 (by decide) rfl (fun _ => rfl) (fun _ => rfl) rfl rfl rfl q_1415 dX12_init_160 ?_
  intro m33
  refine g_aload_n (i := 0) dX12_init_163 rfl rfl ?_
  refine g_callVV cl_X12 (crt_X12_tellsNothing _ _ _ _) cw_X12_tellsNothing (by decide) rfl q_1370 q_1372 qs_37 rfl rfl dX12_init_164 ?_
  intro r34 m35
  refine g_aload_n (i := 0) dX12_init_167 rfl rfl ?_
  refine g_callVV cl_X12 (crt_X12_beginsAnew _ _ _ _) cw_X12_beginsAnew (by decide) rfl q_1374 q_1376 qs_38 rfl rfl dX12_init_168 ?_
  intro r36 m37
  exact g_return rfl dX12_init_171
set_option maxRecDepth 100000 in
set_option maxHeartbeats 4000000 in
theorem crt_X12_thrown (l : Launch) (θ : Th) (a0 : Nat) (m : Mm) : Crt l θ yX12_thrown M_X12_thrown cvI [.ref a0] m (F_X12_thrown a0 m) := by
  refine crt_of 0 (by decide) rfl rfl (Nat.le_of_ble_eq_true rfl) (fun Z hμ => ?_)
  unfold F_X12_thrown
  show GG Z _ _ 0 [some (.ref a0)] [] m _
  refine g_aload_n (i := 0) dX12_thrown_0 rfl rfl ?_
  refine g_getI (k := 0) cl_X12 (by decide) rfl q_1381 dX12_thrown_1 ?_
  exact g_ireturn rfl dX12_thrown_4
set_option maxRecDepth 100000 in
set_option maxHeartbeats 4000000 in
theorem crt_X12_bad (l : Launch) (θ : Th) (a0 : Nat) (a1 : Int32) (a2 : Int32) (a3 : Int32) (m : Mm) : Crt l θ yX12_bad M_X12_bad cvI [.ref a0, .int a1, .int a2, .int a3] m (F_X12_bad a0 a1 a2 a3 m) := by
  refine crt_of 0 (by decide) rfl rfl (Nat.le_of_ble_eq_true rfl) (fun Z hμ => ?_)
  unfold F_X12_bad
  show GG Z _ _ 0 [some (.ref a0), some (.int a1), some (.int a2), some (.int a3)] [] m _
  refine g_iload_n (i := 1) dX12_bad_0 rfl rfl ?_
  refine g_jn (fun J26 => ∀ (v0 : Nat) (m : Mm), GG Z M_X12_bad (PsN Z cvI) 26 [some (.ref v0), none, none, none] [] m (J26 v0 m)) ?_ ?_
  · intro v0 m
    refine g_aload_n (i := 0) dX12_bad_26 rfl rfl ?_
    refine g_getI (k := 0) cl_X12 (by decide) rfl q_1381 dX12_bad_27 ?_
    refine g_ifeq (tgt := 37) dX12_bad_30 (by decide) ?_ ?_
    · refine g_iconst (v := (0 : Int32)) dX12_bad_37 ki_0 ?_
      exact g_zreturnK rfl (by decide) dX12_bad_38
    · refine g_iconst (v := (1 : Int32)) dX12_bad_33 ki_1 ?_
      refine g_goto (tgt := 38) dX12_bad_34 (by decide) ?_
      exact g_zreturnK rfl (by decide) dX12_bad_38
  · intro J26 hJ26
    refine g_ifeq (tgt := 26) dX12_bad_1 (by decide) ?_ ?_
    · exact g_msk [true, false, false, false] (hJ26 _ _)
    · refine g_aload_n (i := 0) dX12_bad_4 rfl rfl ?_
      refine g_getI (k := 0) cl_X12 (by decide) rfl q_1381 dX12_bad_5 ?_
      refine g_ifne (tgt := 26) dX12_bad_8 (by decide) ?_ ?_
      · exact g_msk [true, false, false, false] (hJ26 _ _)
      · refine g_aload_n (i := 0) dX12_bad_11 rfl rfl ?_
        refine g_iload_n (i := 2) dX12_bad_12 rfl rfl ?_
        refine g_putI (k := 0) cl_X12 (by decide) rfl rfl q_1381 dX12_bad_13 ?_
        intro m1
        refine g_aload_n (i := 0) dX12_bad_16 rfl rfl ?_
        refine g_getR (k := 10) cl_X12 (by decide) rfl q_1391 dX12_bad_17 ?_
        intro q2
        refine g_iload_n (i := 3) dX12_bad_20 rfl rfl ?_
        refine g_dup2 dX12_bad_21 rfl rfl ?_
        refine g_iaload dX12_bad_22 ?_
        refine g_iconst (v := (1 : Int32)) dX12_bad_23 ki_1 ?_
        refine g_iadd dX12_bad_24 ?_
        refine g_iastore dX12_bad_25 ?_
        intro m3
        exact g_msk [true, false, false, false] (hJ26 _ _)
set_option maxRecDepth 100000 in
set_option maxHeartbeats 4000000 in
theorem crt_X12_in (l : Launch) (θ : Th) (a0 : Int32) (a1 : Int32) (a2 : Int32) (m : Mm) : Crt l θ yX12_in M_X12_in cvI [.int a0, .int a1, .int a2] m (F_X12_in a0 a1 a2 m) := by
  refine crt_of 0 (by decide) rfl rfl (Nat.le_of_ble_eq_true rfl) (fun Z hμ => ?_)
  unfold F_X12_in
  show GG Z _ _ 0 [some (.int a0), some (.int a1), some (.int a2)] [] m _
  refine g_iload_n (i := 0) dX12_in_0 rfl rfl ?_
  refine g_iload_n (i := 1) dX12_in_1 rfl rfl ?_
  refine g_icmplt (tgt := 14) dX12_in_2 (by decide) ?_ ?_
  · refine g_iconst (v := (0 : Int32)) dX12_in_14 ki_0 ?_
    exact g_zreturnK rfl (by decide) dX12_in_15
  · refine g_iload_n (i := 0) dX12_in_5 rfl rfl ?_
    refine g_iload_n (i := 2) dX12_in_6 rfl rfl ?_
    refine g_icmpgt (tgt := 14) dX12_in_7 (by decide) ?_ ?_
    · refine g_iconst (v := (0 : Int32)) dX12_in_14 ki_0 ?_
      exact g_zreturnK rfl (by decide) dX12_in_15
    · refine g_iconst (v := (1 : Int32)) dX12_in_10 ki_1 ?_
      refine g_goto (tgt := 15) dX12_in_11 (by decide) ?_
      exact g_zreturnK rfl (by decide) dX12_in_15
set_option maxRecDepth 100000 in
set_option maxHeartbeats 4000000 in
theorem crt_X12_less (l : Launch) (θ : Th) (a0 : Int32) (a1 : Int32) (m : Mm) : Crt l θ yX12_less M_X12_less cvI [.int a0, .int a1] m (F_X12_less a0 a1 m) := by
  refine crt_of 0 (by decide) rfl rfl (Nat.le_of_ble_eq_true rfl) (fun Z hμ => ?_)
  unfold F_X12_less
  show GG Z _ _ 0 [some (.int a0), some (.int a1)] [] m _
  refine g_iload_n (i := 0) dX12_less_0 rfl rfl ?_
  refine g_iload_n (i := 1) dX12_less_1 rfl rfl ?_
  refine g_icmpge (tgt := 9) dX12_less_2 (by decide) ?_ ?_
  · refine g_iload_n (i := 1) dX12_less_9 rfl rfl ?_
    exact g_ireturn rfl dX12_less_10
  · refine g_iload_n (i := 0) dX12_less_5 rfl rfl ?_
    refine g_goto (tgt := 10) dX12_less_6 (by decide) ?_
    exact g_ireturn rfl dX12_less_10
set_option maxRecDepth 100000 in
set_option maxHeartbeats 4000000 in
theorem crt_X12_more (l : Launch) (θ : Th) (a0 : Int32) (a1 : Int32) (m : Mm) : Crt l θ yX12_more M_X12_more cvI [.int a0, .int a1] m (F_X12_more a0 a1 m) := by
  refine crt_of 0 (by decide) rfl rfl (Nat.le_of_ble_eq_true rfl) (fun Z hμ => ?_)
  unfold F_X12_more
  show GG Z _ _ 0 [some (.int a0), some (.int a1)] [] m _
  refine g_iload_n (i := 0) dX12_more_0 rfl rfl ?_
  refine g_iload_n (i := 1) dX12_more_1 rfl rfl ?_
  refine g_icmple (tgt := 9) dX12_more_2 (by decide) ?_ ?_
  · refine g_iload_n (i := 1) dX12_more_9 rfl rfl ?_
    exact g_ireturn rfl dX12_more_10
  · refine g_iload_n (i := 0) dX12_more_5 rfl rfl ?_
    refine g_goto (tgt := 10) dX12_more_6 (by decide) ?_
    exact g_ireturn rfl dX12_more_10
set_option maxRecDepth 100000 in
set_option maxHeartbeats 4000000 in
theorem c_L_X12_feed_23 {Z : Zx}  {K120 : Nat → Mm → Option (Int32 × Mm)} (hK120 : ∀ (v0 : Nat) (m : Mm), GG Z M_X12_feed (PsN Z cvI) 120 [some (.ref v0), none, none, none, none, none, none, none] [] m (K120 v0 m)) : ∀ (n : Nat) (v0 : Nat) (v1 : Int32) (v2 : Int32) (v3 : Int32) (v4 : Int32) (v5 : Int32) (v6 : Int32) (m : Mm), GG Z M_X12_feed (PsN Z cvI) 23 [some (.ref v0), some (.int v1), some (.int v2), some (.int v3), some (.int v4), some (.int v5), some (.int v6), none] [] m (L_X12_feed_23 K120 n v0 v1 v2 v3 v4 v5 v6 m) := by
  intro n
  induction n with
  | zero => intro v0 v1 v2 v3 v4 v5 v6 m; exact g_no
  | succ n ih =>
    intro v0 v1 v2 v3 v4 v5 v6 m
    unfold L_X12_feed_23
    refine g_iload dX12_feed_23 rfl ?_
    refine g_bipush (v := (20 : Int32)) dX12_feed_25 kb_20 ?_
    refine g_icmpge (tgt := 120) dX12_feed_27 (by decide) ?_ ?_
    · exact g_msk [true, false, false, false, false, false, false, false] (hK120 _ _)
    · refine g_iload dX12_feed_30 rfl ?_
      refine g_iconst (v := (4 : Int32)) dX12_feed_32 ki_4 ?_
      refine g_jn (fun J76 => ∀ (v0 : Nat) (v1 : Int32) (v2 : Int32) (v3 : Int32) (v4 : Int32) (v5 : Int32) (v6 : Int32) (s0 : Int32) (m : Mm), GG Z M_X12_feed (PsN Z cvI) 76 [some (.ref v0), some (.int v1), some (.int v2), some (.int v3), some (.int v4), some (.int v5), some (.int v6), none] [.int s0] m (J76 v0 v1 v2 v3 v4 v5 v6 s0 m)) ?_ ?_
      · intro v0 v1 v2 v3 v4 v5 v6 s0 m
        refine g_istore dX12_feed_76 (show 7 < 8 by decide) ?_
        intro x3
        refine g_aload_n (i := 0) dX12_feed_78 rfl rfl ?_
        refine g_getR (k := 9) cl_X12 (by decide) rfl q_1390 dX12_feed_79 ?_
        intro q4
        refine g_aload_n (i := 0) dX12_feed_82 rfl rfl ?_
        refine g_getI (k := 1) cl_X12 (by decide) rfl q_1382 dX12_feed_83 ?_
        refine g_iload dX12_feed_86 rfl ?_
        refine g_bipush (v := (24 : Int32)) dX12_feed_88 kb_24 ?_
        refine g_bipush (v := (8 : Int32)) dX12_feed_90 kb_8 ?_
        refine g_iload dX12_feed_92 rfl ?_
        refine g_iconst (v := (4 : Int32)) dX12_feed_94 ki_4 ?_
        refine g_irem dX12_feed_95 ?_
        refine g_imul dX12_feed_96 ?_
        refine g_isub dX12_feed_97 ?_
        refine g_ishr dX12_feed_98 ?_
        refine g_sipush (v := (255 : Int32)) dX12_feed_99 ks_255 ?_
        refine g_iand dX12_feed_102 ?_
        refine g_iastore dX12_feed_103 ?_
        intro m5
        refine g_aload_n (i := 0) dX12_feed_104 rfl rfl ?_
        refine g_dup dX12_feed_105 rfl ?_
        refine g_getI (k := 1) cl_X12 (by decide) rfl q_1382 dX12_feed_106 ?_
        refine g_iconst (v := (1 : Int32)) dX12_feed_109 ki_1 ?_
        refine g_iadd dX12_feed_110 ?_
        refine g_putI (k := 1) cl_X12 (by decide) rfl rfl q_1382 dX12_feed_111 ?_
        intro m6
        refine g_iinc dX12_feed_114 rfl ki_1 (show 6 < 8 by decide) ?_
        intro x7
        refine g_goto (tgt := 23) dX12_feed_117 (by decide) ?_
        exact g_msk [true, true, true, true, true, true, true, false] (ih _ _ _ _ _ _ _ _)
      · intro J76 hJ76
        refine g_icmpge (tgt := 40) dX12_feed_33 (by decide) ?_ ?_
        · refine g_iload dX12_feed_40 rfl ?_
          refine g_bipush (v := (8 : Int32)) dX12_feed_42 kb_8 ?_
          refine g_icmpge (tgt := 51) dX12_feed_44 (by decide) ?_ ?_
          · refine g_iload dX12_feed_51 rfl ?_
            refine g_bipush (v := (12 : Int32)) dX12_feed_53 kb_12 ?_
            refine g_icmpge (tgt := 62) dX12_feed_55 (by decide) ?_ ?_
            · refine g_iload dX12_feed_62 rfl ?_
              refine g_bipush (v := (16 : Int32)) dX12_feed_64 kb_16 ?_
              refine g_icmpge (tgt := 74) dX12_feed_66 (by decide) ?_ ?_
              · refine g_iload dX12_feed_74 rfl ?_
                exact g_msk [true, true, true, true, true, true, true, false] (hJ76 _ _ _ _ _ _ _ _ _)
              · refine g_iload dX12_feed_69 rfl ?_
                refine g_goto (tgt := 76) dX12_feed_71 (by decide) ?_
                exact g_msk [true, true, true, true, true, true, true, false] (hJ76 _ _ _ _ _ _ _ _ _)
            · refine g_iload_n (i := 3) dX12_feed_58 rfl rfl ?_
              refine g_goto (tgt := 76) dX12_feed_59 (by decide) ?_
              exact g_msk [true, true, true, true, true, true, true, false] (hJ76 _ _ _ _ _ _ _ _ _)
          · refine g_iload_n (i := 2) dX12_feed_47 rfl rfl ?_
            refine g_goto (tgt := 76) dX12_feed_48 (by decide) ?_
            exact g_msk [true, true, true, true, true, true, true, false] (hJ76 _ _ _ _ _ _ _ _ _)
        · refine g_iload_n (i := 1) dX12_feed_36 rfl rfl ?_
          refine g_goto (tgt := 76) dX12_feed_37 (by decide) ?_
          exact g_msk [true, true, true, true, true, true, true, false] (hJ76 _ _ _ _ _ _ _ _ _)
set_option maxRecDepth 100000 in
set_option maxHeartbeats 4000000 in
theorem crt_X12_feed (l : Launch) (θ : Th) (a0 : Nat) (a1 : Int32) (a2 : Int32) (a3 : Int32) (a4 : Int32) (a5 : Int32) (m : Mm) : Crt l θ yX12_feed M_X12_feed cvI [.ref a0, .int a1, .int a2, .int a3, .int a4, .int a5] m (F_X12_feed a0 a1 a2 a3 a4 a5 m) := by
  refine crt_of 2 (by decide) rfl rfl (Nat.le_of_ble_eq_true rfl) (fun Z hμ => ?_)
  unfold F_X12_feed
  show GG Z _ _ 0 [some (.ref a0), some (.int a1), some (.int a2), some (.int a3), some (.int a4), some (.int a5), none, none] [] m _
  refine g_aload_n (i := 0) dX12_feed_0 rfl rfl ?_
  refine g_iconst (v := (0 : Int32)) dX12_feed_1 ki_0 ?_
  refine g_putI (k := 0) cl_X12 (by decide) rfl rfl q_1381 dX12_feed_2 ?_
  intro m1
  refine g_aload_n (i := 0) dX12_feed_5 rfl rfl ?_
  refine g_getI (k := 1) cl_X12 (by decide) rfl q_1382 dX12_feed_6 ?_
  refine g_bipush (v := (20 : Int32)) dX12_feed_9 kb_20 ?_
  refine g_iadd dX12_feed_11 ?_
  refine g_sipush (v := (600 : Int32)) dX12_feed_12 ks_600 ?_
  refine g_icmple (tgt := 20) dX12_feed_15 (by decide) ?_ ?_
  · refine g_iconst (v := (0 : Int32)) dX12_feed_20 ki_0 ?_
    refine g_istore dX12_feed_21 (show 6 < 8 by decide) ?_
    intro x2
    refine g_msk [true, true, true, true, true, true, true, false] (c_L_X12_feed_23 ?_ NF _ _ _ _ _ _ _ _)
    intro v0 m
    refine g_aload_n (i := 0) dX12_feed_120 rfl rfl ?_
    refine g_getI (k := 1) cl_X12 (by decide) rfl q_1382 dX12_feed_121 ?_
    exact g_ireturn rfl dX12_feed_124
  · refine g_iconst (v := (-1 : Int32)) dX12_feed_18 ki_m1 ?_
    exact g_ireturn rfl dX12_feed_19
set_option maxRecDepth 100000 in
set_option maxHeartbeats 4000000 in
theorem crt_X12_byteAt (l : Launch) (θ : Th) (a0 : Nat) (a1 : Int32) (m : Mm) : Crt l θ yX12_byteAt M_X12_byteAt cvI [.ref a0, .int a1] m (F_X12_byteAt a0 a1 m) := by
  refine crt_of 0 (by decide) rfl rfl (Nat.le_of_ble_eq_true rfl) (fun Z hμ => ?_)
  unfold F_X12_byteAt
  show GG Z _ _ 0 [some (.ref a0), some (.int a1)] [] m _
  refine g_iload_n (i := 1) dX12_byteAt_0 rfl rfl ?_
  refine g_aload_n (i := 0) dX12_byteAt_1 rfl rfl ?_
  refine g_getI (k := 2) cl_X12 (by decide) rfl q_1383 dX12_byteAt_2 ?_
  refine g_icmplt (tgt := 12) dX12_byteAt_5 (by decide) ?_ ?_
  · refine g_aload_n (i := 0) dX12_byteAt_12 rfl rfl ?_
    refine g_getR (k := 9) cl_X12 (by decide) rfl q_1390 dX12_byteAt_13 ?_
    intro q1
    refine g_iload_n (i := 1) dX12_byteAt_16 rfl rfl ?_
    refine g_iaload dX12_byteAt_17 ?_
    exact g_ireturn rfl dX12_byteAt_18
  · refine g_iconst (v := (-1 : Int32)) dX12_byteAt_8 ki_m1 ?_
    refine g_goto (tgt := 18) dX12_byteAt_9 (by decide) ?_
    exact g_ireturn rfl dX12_byteAt_18
set_option maxRecDepth 100000 in
set_option maxHeartbeats 4000000 in
theorem c_L_X12_blanks_0 {Z : Zx}    : ∀ (n : Nat) (v0 : Nat) (m : Mm), GG Z M_X12_blanks (PsN Z cvV) 0 [some (.ref v0)] [] m (L_X12_blanks_0 n v0 m) := by
  intro n
  induction n with
  | zero => intro v0 m; exact g_no
  | succ n ih =>
    intro v0 m
    unfold L_X12_blanks_0
    refine g_aload_n (i := 0) dX12_blanks_0 rfl rfl ?_
    refine g_aload_n (i := 0) dX12_blanks_1 rfl rfl ?_
    refine g_getI (k := 4) cl_X12 (by decide) rfl q_1385 dX12_blanks_2 ?_
    refine g_callVI cl_X12 (crt_X12_byteAt _ _ _ _ _) cw_X12_byteAt (by decide) rfl q_1520 q_1522 qs_42 rfl rfl dX12_blanks_5 ?_
    intro r1 m2
    refine g_bipush (v := (32 : Int32)) dX12_blanks_8 kb_32 ?_
    refine g_icmpne (tgt := 26) dX12_blanks_10 (by decide) ?_ ?_
    · exact g_return rfl dX12_blanks_26
    · refine g_aload_n (i := 0) dX12_blanks_13 rfl rfl ?_
      refine g_dup dX12_blanks_14 rfl ?_
      refine g_getI (k := 4) cl_X12 (by decide) rfl q_1385 dX12_blanks_15 ?_
      refine g_iconst (v := (1 : Int32)) dX12_blanks_18 ki_1 ?_
      refine g_iadd dX12_blanks_19 ?_
      refine g_putI (k := 4) cl_X12 (by decide) rfl rfl q_1385 dX12_blanks_20 ?_
      intro m3
      refine g_goto (tgt := 0) dX12_blanks_23 (by decide) ?_
      exact g_msk [true] (ih _ _)
set_option maxRecDepth 100000 in
set_option maxHeartbeats 4000000 in
theorem crt_X12_blanks (l : Launch) (θ : Th) (a0 : Nat) (m : Mm) : Crt l θ yX12_blanks M_X12_blanks cvV [.ref a0] m (F_X12_blanks a0 m) := by
  refine crt_of 0 (by decide) rfl rfl (Nat.le_of_ble_eq_true rfl) (fun Z hμ => ?_)
  unfold F_X12_blanks
  show GG Z _ _ 0 [some (.ref a0)] [] m _
  exact g_msk [true] (c_L_X12_blanks_0 NF _ _)
set_option maxRecDepth 100000 in
set_option maxHeartbeats 4000000 in
theorem crt_X12_wrong (l : Launch) (θ : Th) (a0 : Nat) (a1 : Int32) (a2 : Int32) (m : Mm) : Crt l θ yX12_wrong M_X12_wrong cvV [.ref a0, .int a1, .int a2] m (F_X12_wrong a0 a1 a2 m) := by
  refine crt_of 0 (by decide) rfl rfl (Nat.le_of_ble_eq_true rfl) (fun Z hμ => ?_)
  unfold F_X12_wrong
  show GG Z _ _ 0 [some (.ref a0), some (.int a1), some (.int a2)] [] m _
  refine g_aload_n (i := 0) dX12_wrong_0 rfl rfl ?_
  refine g_getI (k := 5) cl_X12 (by decide) rfl q_1386 dX12_wrong_1 ?_
  refine g_ifne (tgt := 17) dX12_wrong_4 (by decide) ?_ ?_
  · exact g_return rfl dX12_wrong_17
  · refine g_aload_n (i := 0) dX12_wrong_7 rfl rfl ?_
    refine g_iload_n (i := 1) dX12_wrong_8 rfl rfl ?_
    refine g_putI (k := 5) cl_X12 (by decide) rfl rfl q_1386 dX12_wrong_9 ?_
    intro m1
    refine g_aload_n (i := 0) dX12_wrong_12 rfl rfl ?_
    refine g_iload_n (i := 2) dX12_wrong_13 rfl rfl ?_
    refine g_putI (k := 6) cl_X12 (by decide) rfl rfl q_1387 dX12_wrong_14 ?_
    intro m2
    exact g_return rfl dX12_wrong_17
set_option maxRecDepth 100000 in
set_option maxHeartbeats 4000000 in
theorem crt_X12_isDigit (l : Launch) (θ : Th) (a0 : Int32) (m : Mm) : Crt l θ yX12_isDigit M_X12_isDigit cvI [.int a0] m (F_X12_isDigit a0 m) := by
  refine crt_of 0 (by decide) rfl rfl (Nat.le_of_ble_eq_true rfl) (fun Z hμ => ?_)
  unfold F_X12_isDigit
  show GG Z _ _ 0 [some (.int a0)] [] m _
  refine g_iload_n (i := 0) dX12_isDigit_0 rfl rfl ?_
  refine g_bipush (v := (48 : Int32)) dX12_isDigit_1 kb_48 ?_
  refine g_icmplt (tgt := 16) dX12_isDigit_3 (by decide) ?_ ?_
  · refine g_iconst (v := (0 : Int32)) dX12_isDigit_16 ki_0 ?_
    exact g_zreturnK rfl (by decide) dX12_isDigit_17
  · refine g_iload_n (i := 0) dX12_isDigit_6 rfl rfl ?_
    refine g_bipush (v := (57 : Int32)) dX12_isDigit_7 kb_57 ?_
    refine g_icmpgt (tgt := 16) dX12_isDigit_9 (by decide) ?_ ?_
    · refine g_iconst (v := (0 : Int32)) dX12_isDigit_16 ki_0 ?_
      exact g_zreturnK rfl (by decide) dX12_isDigit_17
    · refine g_iconst (v := (1 : Int32)) dX12_isDigit_12 ki_1 ?_
      refine g_goto (tgt := 17) dX12_isDigit_13 (by decide) ?_
      exact g_zreturnK rfl (by decide) dX12_isDigit_17
set_option maxRecDepth 100000 in
set_option maxHeartbeats 4000000 in
theorem crt_X12_isSmall (l : Launch) (θ : Th) (a0 : Int32) (m : Mm) : Crt l θ yX12_isSmall M_X12_isSmall cvI [.int a0] m (F_X12_isSmall a0 m) := by
  refine crt_of 0 (by decide) rfl rfl (Nat.le_of_ble_eq_true rfl) (fun Z hμ => ?_)
  unfold F_X12_isSmall
  show GG Z _ _ 0 [some (.int a0)] [] m _
  refine g_iload_n (i := 0) dX12_isSmall_0 rfl rfl ?_
  refine g_bipush (v := (97 : Int32)) dX12_isSmall_1 kb_97 ?_
  refine g_icmplt (tgt := 16) dX12_isSmall_3 (by decide) ?_ ?_
  · refine g_iconst (v := (0 : Int32)) dX12_isSmall_16 ki_0 ?_
    exact g_zreturnK rfl (by decide) dX12_isSmall_17
  · refine g_iload_n (i := 0) dX12_isSmall_6 rfl rfl ?_
    refine g_bipush (v := (122 : Int32)) dX12_isSmall_7 kb_122 ?_
    refine g_icmpgt (tgt := 16) dX12_isSmall_9 (by decide) ?_ ?_
    · refine g_iconst (v := (0 : Int32)) dX12_isSmall_16 ki_0 ?_
      exact g_zreturnK rfl (by decide) dX12_isSmall_17
    · refine g_iconst (v := (1 : Int32)) dX12_isSmall_12 ki_1 ?_
      refine g_goto (tgt := 17) dX12_isSmall_13 (by decide) ?_
      exact g_zreturnK rfl (by decide) dX12_isSmall_17
set_option maxRecDepth 100000 in
set_option maxHeartbeats 4000000 in
theorem c_L_X12_number_44 {Z : Zx}  {K106 : Nat → Int32 → Int32 → Int32 → Int32 → Mm → Option (Int32 × Mm)} (hK106 : ∀ (v0 : Nat) (v1 : Int32) (v2 : Int32) (v3 : Int32) (v4 : Int32) (m : Mm), GG Z M_X12_number (PsN Z cvI) 106 [some (.ref v0), some (.int v1), some (.int v2), some (.int v3), some (.int v4)] [] m (K106 v0 v1 v2 v3 v4 m)) : ∀ (n : Nat) (v0 : Nat) (v1 : Int32) (v2 : Int32) (v3 : Int32) (v4 : Int32) (m : Mm), GG Z M_X12_number (PsN Z cvI) 44 [some (.ref v0), some (.int v1), some (.int v2), some (.int v3), some (.int v4)] [] m (L_X12_number_44 K106 n v0 v1 v2 v3 v4 m) := by
  intro n
  induction n with
  | zero => intro v0 v1 v2 v3 v4 m; exact g_no
  | succ n ih =>
    intro v0 v1 v2 v3 v4 m
    unfold L_X12_number_44
    refine g_aload_n (i := 0) dX12_number_44 rfl rfl ?_
    refine g_aload_n (i := 0) dX12_number_45 rfl rfl ?_
    refine g_getI (k := 4) cl_X12 (by decide) rfl q_1385 dX12_number_46 ?_
    refine g_callVI cl_X12 (crt_X12_byteAt _ _ _ _ _) cw_X12_byteAt (by decide) rfl q_1520 q_1522 qs_42 rfl rfl dX12_number_49 ?_
    intro r9 m10
    refine g_callSI (crt_X12_isDigit _ _ _ _) cw_X12_isDigit (by decide) rfl q_1554 q_1555 rfl rfl dX12_number_52 ?_
    intro r11 m12
    refine g_ifeq (tgt := 106) dX12_number_55 (by decide) ?_ ?_
    · exact g_msk [true, true, true, true, true] (hK106 _ _ _ _ _ _)
    · refine g_bipush (v := (10 : Int32)) dX12_number_58 kb_10 ?_
      refine g_iload dX12_number_60 rfl ?_
      refine g_imul dX12_number_62 ?_
      refine g_aload_n (i := 0) dX12_number_63 rfl rfl ?_
      refine g_aload_n (i := 0) dX12_number_64 rfl rfl ?_
      refine g_getI (k := 4) cl_X12 (by decide) rfl q_1385 dX12_number_65 ?_
      refine g_callVI cl_X12 (crt_X12_byteAt _ _ _ _ _) cw_X12_byteAt (by decide) rfl q_1520 q_1522 qs_42 rfl rfl dX12_number_68 ?_
      intro r13 m14
      refine g_iadd dX12_number_71 ?_
      refine g_bipush (v := (48 : Int32)) dX12_number_72 kb_48 ?_
      refine g_isub dX12_number_74 ?_
      refine g_istore dX12_number_75 (show 4 < 5 by decide) ?_
      intro x15
      refine g_iload dX12_number_77 rfl ?_
      refine g_ldc (v := (100000 : Int32)) dX12_number_79 q_1557 ?_
      refine g_jn (fun J91 => ∀ (v0 : Nat) (v1 : Int32) (v2 : Int32) (v3 : Int32) (s0 : Int32) (m : Mm), GG Z M_X12_number (PsN Z cvI) 91 [some (.ref v0), some (.int v1), some (.int v2), some (.int v3), none] [.int s0] m (J91 v0 v1 v2 v3 s0 m)) ?_ ?_
      · intro v0 v1 v2 v3 s0 m
        refine g_istore dX12_number_91 (show 4 < 5 by decide) ?_
        intro x16
        refine g_aload_n (i := 0) dX12_number_93 rfl rfl ?_
        refine g_dup dX12_number_94 rfl ?_
        refine g_getI (k := 4) cl_X12 (by decide) rfl q_1385 dX12_number_95 ?_
        refine g_iconst (v := (1 : Int32)) dX12_number_98 ki_1 ?_
        refine g_iadd dX12_number_99 ?_
        refine g_putI (k := 4) cl_X12 (by decide) rfl rfl q_1385 dX12_number_100 ?_
        intro m17
        refine g_goto (tgt := 44) dX12_number_103 (by decide) ?_
        exact g_msk [true, true, true, true, true] (ih _ _ _ _ _ _)
      · intro J91 hJ91
        refine g_icmple (tgt := 89) dX12_number_81 (by decide) ?_ ?_
        · refine g_iload dX12_number_89 rfl ?_
          exact g_msk [true, true, true, true, false] (hJ91 _ _ _ _ _ _)
        · refine g_ldc (v := (100000 : Int32)) dX12_number_84 q_1557 ?_
          refine g_goto (tgt := 91) dX12_number_86 (by decide) ?_
          exact g_msk [true, true, true, true, false] (hJ91 _ _ _ _ _ _)
set_option maxRecDepth 100000 in
set_option maxHeartbeats 4000000 in
theorem crt_X12_number (l : Launch) (θ : Th) (a0 : Nat) (a1 : Int32) (a2 : Int32) (m : Mm) : Crt l θ yX12_number M_X12_number cvI [.ref a0, .int a1, .int a2] m (F_X12_number a0 a1 a2 m) := by
  refine crt_of 2 (by decide) rfl rfl (Nat.le_of_ble_eq_true rfl) (fun Z hμ => ?_)
  unfold F_X12_number
  show GG Z _ _ 0 [some (.ref a0), some (.int a1), some (.int a2), none, none] [] m _
  refine g_aload_n (i := 0) dX12_number_0 rfl rfl ?_
  refine g_getI (k := 5) cl_X12 (by decide) rfl q_1386 dX12_number_1 ?_
  refine g_ifeq (tgt := 9) dX12_number_4 (by decide) ?_ ?_
  · refine g_aload_n (i := 0) dX12_number_9 rfl rfl ?_
    refine g_callVV cl_X12 (crt_X12_blanks _ _ _ _) cw_X12_blanks (by decide) rfl q_1516 q_1518 qs_41 rfl rfl dX12_number_10 ?_
    intro r1 m2
    refine g_aload_n (i := 0) dX12_number_13 rfl rfl ?_
    refine g_getI (k := 4) cl_X12 (by decide) rfl q_1385 dX12_number_14 ?_
    refine g_istore_n (i := 3) dX12_number_17 rfl (show 3 < 5 by decide) ?_
    intro x3
    refine g_iconst (v := (0 : Int32)) dX12_number_18 ki_0 ?_
    refine g_istore dX12_number_19 (show 4 < 5 by decide) ?_
    intro x4
    refine g_aload_n (i := 0) dX12_number_21 rfl rfl ?_
    refine g_aload_n (i := 0) dX12_number_22 rfl rfl ?_
    refine g_getI (k := 4) cl_X12 (by decide) rfl q_1385 dX12_number_23 ?_
    refine g_callVI cl_X12 (crt_X12_byteAt _ _ _ _ _) cw_X12_byteAt (by decide) rfl q_1520 q_1522 qs_42 rfl rfl dX12_number_26 ?_
    intro r5 m6
    refine g_callSI (crt_X12_isDigit _ _ _ _) cw_X12_isDigit (by decide) rfl q_1554 q_1555 rfl rfl dX12_number_29 ?_
    intro r7 m8
    refine g_ifne (tgt := 44) dX12_number_32 (by decide) ?_ ?_
    · refine g_msk [true, true, true, true, true] (c_L_X12_number_44 ?_ NF _ _ _ _ _ _)
      intro v0 v1 v2 v3 v4 m
      refine g_iload dX12_number_106 rfl ?_
      refine g_iload_n (i := 1) dX12_number_108 rfl rfl ?_
      refine g_iload_n (i := 2) dX12_number_109 rfl rfl ?_
      refine g_callSI (crt_X12_in _ _ _ _ _ _) cw_X12_in (by decide) rfl q_1505 q_1506 rfl rfl dX12_number_110 ?_
      intro r18 m19
      refine g_jn (fun J122 => ∀ (v0 : Nat) (v4 : Int32) (m : Mm), GG Z M_X12_number (PsN Z cvI) 122 [some (.ref v0), none, none, none, some (.int v4)] [] m (J122 v0 v4 m)) ?_ ?_
      · intro v0 v4 m
        refine g_aload_n (i := 0) dX12_number_122 rfl rfl ?_
        refine g_getI (k := 5) cl_X12 (by decide) rfl q_1386 dX12_number_123 ?_
        refine g_ifne (tgt := 134) dX12_number_126 (by decide) ?_ ?_
        · refine g_iconst (v := (0 : Int32)) dX12_number_134 ki_0 ?_
          exact g_ireturn rfl dX12_number_135
        · refine g_iload dX12_number_129 rfl ?_
          refine g_goto (tgt := 135) dX12_number_131 (by decide) ?_
          exact g_ireturn rfl dX12_number_135
      · intro J122 hJ122
        refine g_ifne (tgt := 122) dX12_number_113 (by decide) ?_ ?_
        · exact g_msk [true, false, false, false, true] (hJ122 _ _ _)
        · refine g_aload_n (i := 0) dX12_number_116 rfl rfl ?_
          refine g_iconst (v := (2 : Int32)) dX12_number_117 ki_2 ?_
          refine g_iload_n (i := 3) dX12_number_118 rfl rfl ?_
          refine g_callVV cl_X12 (crt_X12_wrong _ _ _ _ _ _) cw_X12_wrong (by decide) rfl q_1542 q_1544 qs_46 rfl rfl dX12_number_119 ?_
          intro r20 m21
          exact g_msk [true, false, false, false, true] (hJ122 _ _ _)
    · refine g_aload_n (i := 0) dX12_number_35 rfl rfl ?_
      refine g_iconst (v := (1 : Int32)) dX12_number_36 ki_1 ?_
      refine g_aload_n (i := 0) dX12_number_37 rfl rfl ?_
      refine g_getI (k := 4) cl_X12 (by decide) rfl q_1385 dX12_number_38 ?_
      refine g_callVV cl_X12 (crt_X12_wrong _ _ _ _ _ _) cw_X12_wrong (by decide) rfl q_1542 q_1544 qs_46 rfl rfl dX12_number_41 ?_
      intro r22 m23
      refine g_msk [true, true, true, true, true] (c_L_X12_number_44 ?_ NF _ _ _ _ _ _)
      intro v0 v1 v2 v3 v4 m
      refine g_iload dX12_number_106 rfl ?_
      refine g_iload_n (i := 1) dX12_number_108 rfl rfl ?_
      refine g_iload_n (i := 2) dX12_number_109 rfl rfl ?_
      refine g_callSI (crt_X12_in _ _ _ _ _ _) cw_X12_in (by decide) rfl q_1505 q_1506 rfl rfl dX12_number_110 ?_
      intro r24 m25
      refine g_jn (fun J122 => ∀ (v0 : Nat) (v4 : Int32) (m : Mm), GG Z M_X12_number (PsN Z cvI) 122 [some (.ref v0), none, none, none, some (.int v4)] [] m (J122 v0 v4 m)) ?_ ?_
      · intro v0 v4 m
        refine g_aload_n (i := 0) dX12_number_122 rfl rfl ?_
        refine g_getI (k := 5) cl_X12 (by decide) rfl q_1386 dX12_number_123 ?_
        refine g_ifne (tgt := 134) dX12_number_126 (by decide) ?_ ?_
        · refine g_iconst (v := (0 : Int32)) dX12_number_134 ki_0 ?_
          exact g_ireturn rfl dX12_number_135
        · refine g_iload dX12_number_129 rfl ?_
          refine g_goto (tgt := 135) dX12_number_131 (by decide) ?_
          exact g_ireturn rfl dX12_number_135
      · intro J122 hJ122
        refine g_ifne (tgt := 122) dX12_number_113 (by decide) ?_ ?_
        · exact g_msk [true, false, false, false, true] (hJ122 _ _ _)
        · refine g_aload_n (i := 0) dX12_number_116 rfl rfl ?_
          refine g_iconst (v := (2 : Int32)) dX12_number_117 ki_2 ?_
          refine g_iload_n (i := 3) dX12_number_118 rfl rfl ?_
          refine g_callVV cl_X12 (crt_X12_wrong _ _ _ _ _ _) cw_X12_wrong (by decide) rfl q_1542 q_1544 qs_46 rfl rfl dX12_number_119 ?_
          intro r26 m27
          exact g_msk [true, false, false, false, true] (hJ122 _ _ _)
  · refine g_iconst (v := (0 : Int32)) dX12_number_7 ki_0 ?_
    exact g_ireturn rfl dX12_number_8
set_option maxRecDepth 100000 in
set_option maxHeartbeats 4000000 in
theorem c_L_X12_wordHere_8 {Z : Zx}  {K61 : Int32 → Int32 → Mm → Option (Int32 × Mm)} (hK61 : ∀ (v1 : Int32) (v2 : Int32) (m : Mm), GG Z M_X12_wordHere (PsN Z cvI) 61 [none, some (.int v1), some (.int v2)] [] m (K61 v1 v2 m)) : ∀ (n : Nat) (v0 : Nat) (v1 : Int32) (v2 : Int32) (m : Mm), GG Z M_X12_wordHere (PsN Z cvI) 8 [some (.ref v0), some (.int v1), some (.int v2)] [] m (L_X12_wordHere_8 K61 n v0 v1 v2 m) := by
  intro n
  induction n with
  | zero => intro v0 v1 v2 m; exact g_no
  | succ n ih =>
    intro v0 v1 v2 m
    unfold L_X12_wordHere_8
    refine g_aload_n (i := 0) dX12_wordHere_8 rfl rfl ?_
    refine g_aload_n (i := 0) dX12_wordHere_9 rfl rfl ?_
    refine g_getI (k := 4) cl_X12 (by decide) rfl q_1385 dX12_wordHere_10 ?_
    refine g_iload_n (i := 2) dX12_wordHere_13 rfl rfl ?_
    refine g_iadd dX12_wordHere_14 ?_
    refine g_callVI cl_X12 (crt_X12_byteAt _ _ _ _ _) cw_X12_byteAt (by decide) rfl q_1520 q_1522 qs_42 rfl rfl dX12_wordHere_15 ?_
    intro r5 m6
    refine g_callSI (crt_X12_isSmall _ _ _ _) cw_X12_isSmall (by decide) rfl q_1536 q_1537 rfl rfl dX12_wordHere_18 ?_
    intro r7 m8
    refine g_ifeq (tgt := 61) dX12_wordHere_21 (by decide) ?_ ?_
    · exact g_msk [false, true, true] (hK61 _ _ _)
    · refine g_iload_n (i := 2) dX12_wordHere_24 rfl rfl ?_
      refine g_bipush (v := (6 : Int32)) dX12_wordHere_25 kb_6 ?_
      refine g_jn (fun J54 => ∀ (v0 : Nat) (v2 : Int32) (s0 : Int32) (m : Mm), GG Z M_X12_wordHere (PsN Z cvI) 54 [some (.ref v0), none, some (.int v2)] [.int s0] m (J54 v0 v2 s0 m)) ?_ ?_
      · intro v0 v2 s0 m
        refine g_istore_n (i := 1) dX12_wordHere_54 rfl (show 1 < 3 by decide) ?_
        intro x9
        refine g_iinc dX12_wordHere_55 rfl ki_1 (show 2 < 3 by decide) ?_
        intro x10
        refine g_goto (tgt := 8) dX12_wordHere_58 (by decide) ?_
        exact g_msk [true, true, true] (ih _ _ _ _)
      · intro J54 hJ54
        refine g_icmpge (tgt := 53) dX12_wordHere_27 (by decide) ?_ ?_
        · refine g_iload_n (i := 1) dX12_wordHere_53 rfl rfl ?_
          exact g_msk [true, false, true] (hJ54 _ _ _ _)
        · refine g_bipush (v := (27 : Int32)) dX12_wordHere_30 kb_27 ?_
          refine g_iload_n (i := 1) dX12_wordHere_32 rfl rfl ?_
          refine g_imul dX12_wordHere_33 ?_
          refine g_aload_n (i := 0) dX12_wordHere_34 rfl rfl ?_
          refine g_aload_n (i := 0) dX12_wordHere_35 rfl rfl ?_
          refine g_getI (k := 4) cl_X12 (by decide) rfl q_1385 dX12_wordHere_36 ?_
          refine g_iload_n (i := 2) dX12_wordHere_39 rfl rfl ?_
          refine g_iadd dX12_wordHere_40 ?_
          refine g_callVI cl_X12 (crt_X12_byteAt _ _ _ _ _) cw_X12_byteAt (by decide) rfl q_1520 q_1522 qs_42 rfl rfl dX12_wordHere_41 ?_
          intro r11 m12
          refine g_iadd dX12_wordHere_44 ?_
          refine g_bipush (v := (97 : Int32)) dX12_wordHere_45 kb_97 ?_
          refine g_isub dX12_wordHere_47 ?_
          refine g_iconst (v := (1 : Int32)) dX12_wordHere_48 ki_1 ?_
          refine g_iadd dX12_wordHere_49 ?_
          refine g_goto (tgt := 54) dX12_wordHere_50 (by decide) ?_
          exact g_msk [true, false, true] (hJ54 _ _ _ _)
set_option maxRecDepth 100000 in
set_option maxHeartbeats 4000000 in
theorem crt_X12_wordHere (l : Launch) (θ : Th) (a0 : Nat) (m : Mm) : Crt l θ yX12_wordHere M_X12_wordHere cvI [.ref a0] m (F_X12_wordHere a0 m) := by
  refine crt_of 2 (by decide) rfl rfl (Nat.le_of_ble_eq_true rfl) (fun Z hμ => ?_)
  unfold F_X12_wordHere
  show GG Z _ _ 0 [some (.ref a0), none, none] [] m _
  refine g_aload_n (i := 0) dX12_wordHere_0 rfl rfl ?_
  refine g_callVV cl_X12 (crt_X12_blanks _ _ _ _) cw_X12_blanks (by decide) rfl q_1516 q_1518 qs_41 rfl rfl dX12_wordHere_1 ?_
  intro r1 m2
  refine g_iconst (v := (0 : Int32)) dX12_wordHere_4 ki_0 ?_
  refine g_istore_n (i := 1) dX12_wordHere_5 rfl (show 1 < 3 by decide) ?_
  intro x3
  refine g_iconst (v := (0 : Int32)) dX12_wordHere_6 ki_0 ?_
  refine g_istore_n (i := 2) dX12_wordHere_7 rfl (show 2 < 3 by decide) ?_
  intro x4
  refine g_msk [true, true, true] (c_L_X12_wordHere_8 ?_ NF _ _ _ _)
  intro v1 v2 m
  refine g_iload_n (i := 2) dX12_wordHere_61 rfl rfl ?_
  refine g_bipush (v := (6 : Int32)) dX12_wordHere_62 kb_6 ?_
  refine g_icmple (tgt := 71) dX12_wordHere_64 (by decide) ?_ ?_
  · refine g_iload_n (i := 1) dX12_wordHere_71 rfl rfl ?_
    exact g_ireturn rfl dX12_wordHere_72
  · refine g_iconst (v := (-1 : Int32)) dX12_wordHere_67 ki_m1 ?_
    refine g_goto (tgt := 72) dX12_wordHere_68 (by decide) ?_
    exact g_ireturn rfl dX12_wordHere_72
set_option maxRecDepth 100000 in
set_option maxHeartbeats 4000000 in
theorem crt_X12_six (l : Launch) (θ : Th) (a0 : Int32) (a1 : Int32) (a2 : Int32) (a3 : Int32) (a4 : Int32) (a5 : Int32) (m : Mm) : Crt l θ yX12_six M_X12_six cvI [.int a0, .int a1, .int a2, .int a3, .int a4, .int a5] m (F_X12_six a0 a1 a2 a3 a4 a5 m) := by
  refine crt_of 1 (by decide) rfl rfl (Nat.le_of_ble_eq_true rfl) (fun Z hμ => ?_)
  unfold F_X12_six
  show GG Z _ _ 0 [some (.int a0), some (.int a1), some (.int a2), some (.int a3), some (.int a4), some (.int a5), none] [] m _
  refine g_bipush (v := (27 : Int32)) dX12_six_0 kb_27 ?_
  refine g_bipush (v := (27 : Int32)) dX12_six_2 kb_27 ?_
  refine g_iload_n (i := 0) dX12_six_4 rfl rfl ?_
  refine g_imul dX12_six_5 ?_
  refine g_iload_n (i := 1) dX12_six_6 rfl rfl ?_
  refine g_iadd dX12_six_7 ?_
  refine g_imul dX12_six_8 ?_
  refine g_iload_n (i := 2) dX12_six_9 rfl rfl ?_
  refine g_iadd dX12_six_10 ?_
  refine g_istore dX12_six_11 (show 6 < 7 by decide) ?_
  intro x1
  refine g_iload_n (i := 3) dX12_six_13 rfl rfl ?_
  refine g_jn (fun J29 => ∀ (v4 : Int32) (v5 : Int32) (s0 : Int32) (m : Mm), GG Z M_X12_six (PsN Z cvI) 29 [none, none, none, none, some (.int v4), some (.int v5), none] [.int s0] m (J29 v4 v5 s0 m)) ?_ ?_
  · intro v4 v5 s0 m
    refine g_istore dX12_six_29 (show 6 < 7 by decide) ?_
    intro x2
    refine g_iload dX12_six_31 rfl ?_
    refine g_jn (fun J49 => ∀ (v5 : Int32) (s0 : Int32) (m : Mm), GG Z M_X12_six (PsN Z cvI) 49 [none, none, none, none, none, some (.int v5), none] [.int s0] m (J49 v5 s0 m)) ?_ ?_
    · intro v5 s0 m
      refine g_istore dX12_six_49 (show 6 < 7 by decide) ?_
      intro x3
      refine g_iload dX12_six_51 rfl ?_
      refine g_ifne (tgt := 61) dX12_six_53 (by decide) ?_ ?_
      · refine g_bipush (v := (27 : Int32)) dX12_six_61 kb_27 ?_
        refine g_iload dX12_six_63 rfl ?_
        refine g_imul dX12_six_65 ?_
        refine g_iload dX12_six_66 rfl ?_
        refine g_iadd dX12_six_68 ?_
        exact g_ireturn rfl dX12_six_69
      · refine g_iload dX12_six_56 rfl ?_
        refine g_goto (tgt := 69) dX12_six_58 (by decide) ?_
        exact g_ireturn rfl dX12_six_69
    · intro J49 hJ49
      refine g_ifne (tgt := 41) dX12_six_33 (by decide) ?_ ?_
      · refine g_bipush (v := (27 : Int32)) dX12_six_41 kb_27 ?_
        refine g_iload dX12_six_43 rfl ?_
        refine g_imul dX12_six_45 ?_
        refine g_iload dX12_six_46 rfl ?_
        refine g_iadd dX12_six_48 ?_
        exact g_msk [false, false, false, false, false, true, false] (hJ49 _ _ _)
      · refine g_iload dX12_six_36 rfl ?_
        refine g_goto (tgt := 49) dX12_six_38 (by decide) ?_
        exact g_msk [false, false, false, false, false, true, false] (hJ49 _ _ _)
  · intro J29 hJ29
    refine g_ifne (tgt := 22) dX12_six_14 (by decide) ?_ ?_
    · refine g_bipush (v := (27 : Int32)) dX12_six_22 kb_27 ?_
      refine g_iload dX12_six_24 rfl ?_
      refine g_imul dX12_six_26 ?_
      refine g_iload_n (i := 3) dX12_six_27 rfl rfl ?_
      refine g_iadd dX12_six_28 ?_
      exact g_msk [false, false, false, false, true, true, false] (hJ29 _ _ _ _)
    · refine g_iload dX12_six_17 rfl ?_
      refine g_goto (tgt := 29) dX12_six_19 (by decide) ?_
      exact g_msk [false, false, false, false, true, true, false] (hJ29 _ _ _ _)
set_option maxRecDepth 100000 in
set_option maxHeartbeats 4000000 in
theorem crt_X12_isWord (l : Launch) (θ : Th) (a0 : Nat) (a1 : Int32) (a2 : Int32) (a3 : Int32) (a4 : Int32) (a5 : Int32) (a6 : Int32) (m : Mm) : Crt l θ yX12_isWord M_X12_isWord cvI [.ref a0, .int a1, .int a2, .int a3, .int a4, .int a5, .int a6] m (F_X12_isWord a0 a1 a2 a3 a4 a5 a6 m) := by
  refine crt_of 0 (by decide) rfl rfl (Nat.le_of_ble_eq_true rfl) (fun Z hμ => ?_)
  unfold F_X12_isWord
  show GG Z _ _ 0 [some (.ref a0), some (.int a1), some (.int a2), some (.int a3), some (.int a4), some (.int a5), some (.int a6)] [] m _
  refine g_aload_n (i := 0) dX12_isWord_0 rfl rfl ?_
  refine g_getI (k := 5) cl_X12 (by decide) rfl q_1386 dX12_isWord_1 ?_
  refine g_ifne (tgt := 30) dX12_isWord_4 (by decide) ?_ ?_
  · refine g_iconst (v := (0 : Int32)) dX12_isWord_30 ki_0 ?_
    exact g_zreturnK rfl (by decide) dX12_isWord_31
  · refine g_aload_n (i := 0) dX12_isWord_7 rfl rfl ?_
    refine g_callVI cl_X12 (crt_X12_wordHere _ _ _ _) cw_X12_wordHere (by decide) rfl q_1532 q_1534 qs_45 rfl rfl dX12_isWord_8 ?_
    intro r1 m2
    refine g_iload_n (i := 1) dX12_isWord_11 rfl rfl ?_
    refine g_iload_n (i := 2) dX12_isWord_12 rfl rfl ?_
    refine g_iload_n (i := 3) dX12_isWord_13 rfl rfl ?_
    refine g_iload dX12_isWord_14 rfl ?_
    refine g_iload dX12_isWord_16 rfl ?_
    refine g_iload dX12_isWord_18 rfl ?_
    refine g_callSI (crt_X12_six _ _ _ _ _ _ _ _ _) cw_X12_six (by decide) rfl q_1539 q_1540 rfl rfl dX12_isWord_20 ?_
    intro r3 m4
    refine g_icmpne (tgt := 30) dX12_isWord_23 (by decide) ?_ ?_
    · refine g_iconst (v := (0 : Int32)) dX12_isWord_30 ki_0 ?_
      exact g_zreturnK rfl (by decide) dX12_isWord_31
    · refine g_iconst (v := (1 : Int32)) dX12_isWord_26 ki_1 ?_
      refine g_goto (tgt := 31) dX12_isWord_27 (by decide) ?_
      exact g_zreturnK rfl (by decide) dX12_isWord_31
set_option maxRecDepth 100000 in
set_option maxHeartbeats 4000000 in
theorem c_L_X12_skipWord_0 {Z : Zx}    : ∀ (n : Nat) (v0 : Nat) (m : Mm), GG Z M_X12_skipWord (PsN Z cvV) 0 [some (.ref v0)] [] m (L_X12_skipWord_0 n v0 m) := by
  intro n
  induction n with
  | zero => intro v0 m; exact g_no
  | succ n ih =>
    intro v0 m
    unfold L_X12_skipWord_0
    refine g_aload_n (i := 0) dX12_skipWord_0 rfl rfl ?_
    refine g_aload_n (i := 0) dX12_skipWord_1 rfl rfl ?_
    refine g_getI (k := 4) cl_X12 (by decide) rfl q_1385 dX12_skipWord_2 ?_
    refine g_callVI cl_X12 (crt_X12_byteAt _ _ _ _ _) cw_X12_byteAt (by decide) rfl q_1520 q_1522 qs_42 rfl rfl dX12_skipWord_5 ?_
    intro r1 m2
    refine g_callSI (crt_X12_isSmall _ _ _ _) cw_X12_isSmall (by decide) rfl q_1536 q_1537 rfl rfl dX12_skipWord_8 ?_
    intro r3 m4
    refine g_ifeq (tgt := 27) dX12_skipWord_11 (by decide) ?_ ?_
    · exact g_return rfl dX12_skipWord_27
    · refine g_aload_n (i := 0) dX12_skipWord_14 rfl rfl ?_
      refine g_dup dX12_skipWord_15 rfl ?_
      refine g_getI (k := 4) cl_X12 (by decide) rfl q_1385 dX12_skipWord_16 ?_
      refine g_iconst (v := (1 : Int32)) dX12_skipWord_19 ki_1 ?_
      refine g_iadd dX12_skipWord_20 ?_
      refine g_putI (k := 4) cl_X12 (by decide) rfl rfl q_1385 dX12_skipWord_21 ?_
      intro m5
      refine g_goto (tgt := 0) dX12_skipWord_24 (by decide) ?_
      exact g_msk [true] (ih _ _)
set_option maxRecDepth 100000 in
set_option maxHeartbeats 4000000 in
theorem crt_X12_skipWord (l : Launch) (θ : Th) (a0 : Nat) (m : Mm) : Crt l θ yX12_skipWord M_X12_skipWord cvV [.ref a0] m (F_X12_skipWord a0 m) := by
  refine crt_of 0 (by decide) rfl rfl (Nat.le_of_ble_eq_true rfl) (fun Z hμ => ?_)
  unfold F_X12_skipWord
  show GG Z _ _ 0 [some (.ref a0)] [] m _
  exact g_msk [true] (c_L_X12_skipWord_0 NF _ _)
set_option maxRecDepth 100000 in
set_option maxHeartbeats 4000000 in
theorem crt_X12_takes (l : Launch) (θ : Th) (a0 : Nat) (a1 : Int32) (a2 : Int32) (a3 : Int32) (a4 : Int32) (a5 : Int32) (a6 : Int32) (m : Mm) : Crt l θ yX12_takes M_X12_takes cvI [.ref a0, .int a1, .int a2, .int a3, .int a4, .int a5, .int a6] m (F_X12_takes a0 a1 a2 a3 a4 a5 a6 m) := by
  refine crt_of 1 (by decide) rfl rfl (Nat.le_of_ble_eq_true rfl) (fun Z hμ => ?_)
  unfold F_X12_takes
  show GG Z _ _ 0 [some (.ref a0), some (.int a1), some (.int a2), some (.int a3), some (.int a4), some (.int a5), some (.int a6), none] [] m _
  refine g_aload_n (i := 0) dX12_takes_0 rfl rfl ?_
  refine g_iload_n (i := 1) dX12_takes_1 rfl rfl ?_
  refine g_iload_n (i := 2) dX12_takes_2 rfl rfl ?_
  refine g_iload_n (i := 3) dX12_takes_3 rfl rfl ?_
  refine g_iload dX12_takes_4 rfl ?_
  refine g_iload dX12_takes_6 rfl ?_
  refine g_iload dX12_takes_8 rfl ?_
  refine g_callVI cl_X12 (crt_X12_isWord _ _ _ _ _ _ _ _ _ _) cw_X12_isWord (by decide) rfl q_1528 q_1530 qs_44 rfl rfl dX12_takes_10 ?_
  intro r1 m2
  refine g_istore dX12_takes_13 (show 7 < 8 by decide) ?_
  intro x3
  refine g_iload dX12_takes_15 rfl ?_
  refine g_ifeq (tgt := 24) dX12_takes_17 (by decide) ?_ ?_
  · refine g_iload dX12_takes_24 rfl ?_
    exact g_zreturn rfl dX12_takes_26
  · refine g_aload_n (i := 0) dX12_takes_20 rfl rfl ?_
    refine g_callVV cl_X12 (crt_X12_skipWord _ _ _ _) cw_X12_skipWord (by decide) rfl q_1546 q_1548 qs_47 rfl rfl dX12_takes_21 ?_
    intro r4 m5
    refine g_iload dX12_takes_24 rfl ?_
    exact g_zreturn rfl dX12_takes_26
set_option maxRecDepth 100000 in
set_option maxHeartbeats 4000000 in
theorem crt_X12_sign (l : Launch) (θ : Th) (a0 : Nat) (a1 : Int32) (m : Mm) : Crt l θ yX12_sign M_X12_sign cvV [.ref a0, .int a1] m (F_X12_sign a0 a1 m) := by
  refine crt_of 0 (by decide) rfl rfl (Nat.le_of_ble_eq_true rfl) (fun Z hμ => ?_)
  unfold F_X12_sign
  show GG Z _ _ 0 [some (.ref a0), some (.int a1)] [] m _
  refine g_aload_n (i := 0) dX12_sign_0 rfl rfl ?_
  refine g_getI (k := 5) cl_X12 (by decide) rfl q_1386 dX12_sign_1 ?_
  refine g_ifeq (tgt := 8) dX12_sign_4 (by decide) ?_ ?_
  · refine g_aload_n (i := 0) dX12_sign_8 rfl rfl ?_
    refine g_callVV cl_X12 (crt_X12_blanks _ _ _ _) cw_X12_blanks (by decide) rfl q_1516 q_1518 qs_41 rfl rfl dX12_sign_9 ?_
    intro r1 m2
    refine g_aload_n (i := 0) dX12_sign_12 rfl rfl ?_
    refine g_aload_n (i := 0) dX12_sign_13 rfl rfl ?_
    refine g_getI (k := 4) cl_X12 (by decide) rfl q_1385 dX12_sign_14 ?_
    refine g_callVI cl_X12 (crt_X12_byteAt _ _ _ _ _) cw_X12_byteAt (by decide) rfl q_1520 q_1522 qs_42 rfl rfl dX12_sign_17 ?_
    intro r3 m4
    refine g_iload_n (i := 1) dX12_sign_20 rfl rfl ?_
    refine g_icmpne (tgt := 37) dX12_sign_21 (by decide) ?_ ?_
    · refine g_aload_n (i := 0) dX12_sign_37 rfl rfl ?_
      refine g_iconst (v := (1 : Int32)) dX12_sign_38 ki_1 ?_
      refine g_aload_n (i := 0) dX12_sign_39 rfl rfl ?_
      refine g_getI (k := 4) cl_X12 (by decide) rfl q_1385 dX12_sign_40 ?_
      refine g_callVV cl_X12 (crt_X12_wrong _ _ _ _ _ _) cw_X12_wrong (by decide) rfl q_1542 q_1544 qs_46 rfl rfl dX12_sign_43 ?_
      intro r5 m6
      exact g_return rfl dX12_sign_46
    · refine g_aload_n (i := 0) dX12_sign_24 rfl rfl ?_
      refine g_dup dX12_sign_25 rfl ?_
      refine g_getI (k := 4) cl_X12 (by decide) rfl q_1385 dX12_sign_26 ?_
      refine g_iconst (v := (1 : Int32)) dX12_sign_29 ki_1 ?_
      refine g_iadd dX12_sign_30 ?_
      refine g_putI (k := 4) cl_X12 (by decide) rfl rfl q_1385 dX12_sign_31 ?_
      intro m7
      refine g_goto (tgt := 46) dX12_sign_34 (by decide) ?_
      exact g_return rfl dX12_sign_46
  · exact g_return rfl dX12_sign_7
set_option maxRecDepth 100000 in
set_option maxHeartbeats 4000000 in
theorem crt_X12_takesSign (l : Launch) (θ : Th) (a0 : Nat) (a1 : Int32) (m : Mm) : Crt l θ yX12_takesSign M_X12_takesSign cvI [.ref a0, .int a1] m (F_X12_takesSign a0 a1 m) := by
  refine crt_of 1 (by decide) rfl rfl (Nat.le_of_ble_eq_true rfl) (fun Z hμ => ?_)
  unfold F_X12_takesSign
  show GG Z _ _ 0 [some (.ref a0), some (.int a1), none] [] m _
  refine g_aload_n (i := 0) dX12_takesSign_0 rfl rfl ?_
  refine g_getI (k := 5) cl_X12 (by decide) rfl q_1386 dX12_takesSign_1 ?_
  refine g_ifeq (tgt := 9) dX12_takesSign_4 (by decide) ?_ ?_
  · refine g_aload_n (i := 0) dX12_takesSign_9 rfl rfl ?_
    refine g_callVV cl_X12 (crt_X12_blanks _ _ _ _) cw_X12_blanks (by decide) rfl q_1516 q_1518 qs_41 rfl rfl dX12_takesSign_10 ?_
    intro r1 m2
    refine g_aload_n (i := 0) dX12_takesSign_13 rfl rfl ?_
    refine g_aload_n (i := 0) dX12_takesSign_14 rfl rfl ?_
    refine g_getI (k := 4) cl_X12 (by decide) rfl q_1385 dX12_takesSign_15 ?_
    refine g_callVI cl_X12 (crt_X12_byteAt _ _ _ _ _) cw_X12_byteAt (by decide) rfl q_1520 q_1522 qs_42 rfl rfl dX12_takesSign_18 ?_
    intro r3 m4
    refine g_iload_n (i := 1) dX12_takesSign_21 rfl rfl ?_
    refine g_jn (fun J30 => ∀ (v0 : Nat) (s0 : Int32) (m : Mm), GG Z M_X12_takesSign (PsN Z cvI) 30 [some (.ref v0), none, none] [.int s0] m (J30 v0 s0 m)) ?_ ?_
    · intro v0 s0 m
      refine g_istore_n (i := 2) dX12_takesSign_30 rfl (show 2 < 3 by decide) ?_
      intro x5
      refine g_iload_n (i := 2) dX12_takesSign_31 rfl rfl ?_
      refine g_ifeq (tgt := 45) dX12_takesSign_32 (by decide) ?_ ?_
      · refine g_iload_n (i := 2) dX12_takesSign_45 rfl rfl ?_
        exact g_zreturn rfl dX12_takesSign_46
      · refine g_aload_n (i := 0) dX12_takesSign_35 rfl rfl ?_
        refine g_dup dX12_takesSign_36 rfl ?_
        refine g_getI (k := 4) cl_X12 (by decide) rfl q_1385 dX12_takesSign_37 ?_
        refine g_iconst (v := (1 : Int32)) dX12_takesSign_40 ki_1 ?_
        refine g_iadd dX12_takesSign_41 ?_
        refine g_putI (k := 4) cl_X12 (by decide) rfl rfl q_1385 dX12_takesSign_42 ?_
        intro m6
        refine g_iload_n (i := 2) dX12_takesSign_45 rfl rfl ?_
        exact g_zreturn rfl dX12_takesSign_46
    · intro J30 hJ30
      refine g_icmpne (tgt := 29) dX12_takesSign_22 (by decide) ?_ ?_
      · refine g_iconst (v := (0 : Int32)) dX12_takesSign_29 ki_0 ?_
        exact g_msk [true, false, false] (hJ30 _ _ _)
      · refine g_iconst (v := (1 : Int32)) dX12_takesSign_25 ki_1 ?_
        refine g_goto (tgt := 30) dX12_takesSign_26 (by decide) ?_
        exact g_msk [true, false, false] (hJ30 _ _ _)
  · refine g_iconst (v := (0 : Int32)) dX12_takesSign_7 ki_0 ?_
    exact g_zreturnK rfl (by decide) dX12_takesSign_8
set_option maxRecDepth 100000 in
set_option maxHeartbeats 4000000 in
theorem crt_X12_starts (l : Launch) (θ : Th) (a0 : Nat) (a1 : Int32) (m : Mm) : Crt l θ yX12_starts M_X12_starts cvV [.ref a0, .int a1] m (F_X12_starts a0 a1 m) := by
  refine crt_of 0 (by decide) rfl rfl (Nat.le_of_ble_eq_true rfl) (fun Z hμ => ?_)
  unfold F_X12_starts
  show GG Z _ _ 0 [some (.ref a0), some (.int a1)] [] m _
  refine g_aload_n (i := 0) dX12_starts_0 rfl rfl ?_
  refine g_iconst (v := (0 : Int32)) dX12_starts_1 ki_0 ?_
  refine g_putI (k := 1) cl_X12 (by decide) rfl rfl q_1382 dX12_starts_2 ?_
  intro m1
  refine g_aload_n (i := 0) dX12_starts_5 rfl rfl ?_
  refine g_iload_n (i := 1) dX12_starts_6 rfl rfl ?_
  refine g_putI (k := 2) cl_X12 (by decide) rfl rfl q_1383 dX12_starts_7 ?_
  intro m2
  refine g_aload_n (i := 0) dX12_starts_10 rfl rfl ?_
  refine g_iconst (v := (0 : Int32)) dX12_starts_11 ki_0 ?_
  refine g_putI (k := 4) cl_X12 (by decide) rfl rfl q_1385 dX12_starts_12 ?_
  intro m3
  refine g_aload_n (i := 0) dX12_starts_15 rfl rfl ?_
  refine g_iconst (v := (0 : Int32)) dX12_starts_16 ki_0 ?_
  refine g_putI (k := 5) cl_X12 (by decide) rfl rfl q_1386 dX12_starts_17 ?_
  intro m4
  refine g_aload_n (i := 0) dX12_starts_20 rfl rfl ?_
  refine g_iconst (v := (-1 : Int32)) dX12_starts_21 ki_m1 ?_
  refine g_putI (k := 6) cl_X12 (by decide) rfl rfl q_1387 dX12_starts_22 ?_
  intro m5
  refine g_aload_n (i := 0) dX12_starts_25 rfl rfl ?_
  refine g_iconst (v := (0 : Int32)) dX12_starts_26 ki_0 ?_
  refine g_putI (k := 7) cl_X12 (by decide) rfl rfl q_1388 dX12_starts_27 ?_
  intro m6
  refine g_aload_n (i := 0) dX12_starts_30 rfl rfl ?_
  refine g_iconst (v := (0 : Int32)) dX12_starts_31 ki_0 ?_
  refine g_putI (k := 8) cl_X12 (by decide) rfl rfl q_1389 dX12_starts_32 ?_
  intro m7
  refine g_aload_n (i := 0) dX12_starts_35 rfl rfl ?_
  refine g_callVV cl_X12 (crt_X12_blanks _ _ _ _) cw_X12_blanks (by decide) rfl q_1516 q_1518 qs_41 rfl rfl dX12_starts_36 ?_
  intro r8 m9
  exact g_return rfl dX12_starts_39
set_option maxRecDepth 100000 in
set_option maxHeartbeats 4000000 in
theorem crt_X12_ends (l : Launch) (θ : Th) (a0 : Nat) (m : Mm) : Crt l θ yX12_ends M_X12_ends cvI [.ref a0] m (F_X12_ends a0 m) := by
  refine crt_of 0 (by decide) rfl rfl (Nat.le_of_ble_eq_true rfl) (fun Z hμ => ?_)
  unfold F_X12_ends
  show GG Z _ _ 0 [some (.ref a0)] [] m _
  refine g_aload_n (i := 0) dX12_ends_0 rfl rfl ?_
  refine g_aload_n (i := 0) dX12_ends_1 rfl rfl ?_
  refine g_getI (k := 6) cl_X12 (by decide) rfl q_1387 dX12_ends_2 ?_
  refine g_putI (k := 3) cl_X12 (by decide) rfl rfl q_1384 dX12_ends_5 ?_
  intro m1
  refine g_aload_n (i := 0) dX12_ends_8 rfl rfl ?_
  refine g_getI (k := 5) cl_X12 (by decide) rfl q_1386 dX12_ends_9 ?_
  refine g_bipush (v := (10 : Int32)) dX12_ends_12 kb_10 ?_
  refine g_isub dX12_ends_14 ?_
  exact g_ireturn rfl dX12_ends_15
set_option maxRecDepth 100000 in
set_option maxHeartbeats 4000000 in
theorem crt_X12_clause (l : Launch) (θ : Th) (a0 : Nat) (m : Mm) : Crt l θ yX12_clause M_X12_clause cvV [.ref a0] m (F_X12_clause a0 m) := by
  refine crt_of 2 (by decide) rfl rfl (Nat.le_of_ble_eq_true rfl) (fun Z hμ => ?_)
  unfold F_X12_clause
  show GG Z _ _ 0 [some (.ref a0), none, none] [] m _
  refine g_aload_n (i := 0) dX12_clause_0 rfl rfl ?_
  refine g_bipush (v := (13 : Int32)) dX12_clause_1 kb_13 ?_
  refine g_iconst (v := (5 : Int32)) dX12_clause_3 ki_5 ?_
  refine g_bipush (v := (13 : Int32)) dX12_clause_4 kb_13 ?_
  refine g_iconst (v := (2 : Int32)) dX12_clause_6 ki_2 ?_
  refine g_iconst (v := (5 : Int32)) dX12_clause_7 ki_5 ?_
  refine g_bipush (v := (18 : Int32)) dX12_clause_8 kb_18 ?_
  refine g_callVI cl_X12 (crt_X12_isWord _ _ _ _ _ _ _ _ _ _) cw_X12_isWord (by decide) rfl q_1528 q_1530 qs_44 rfl rfl dX12_clause_10 ?_
  intro r1 m2
  refine g_jn (fun J43 => ∀ (v0 : Nat) (s0 : Int32) (m : Mm), GG Z M_X12_clause (PsN Z cvV) 43 [some (.ref v0), none, none] [.int s0] m (J43 v0 s0 m)) ?_ ?_
  · intro v0 s0 m
    refine g_istore_n (i := 1) dX12_clause_43 rfl (show 1 < 3 by decide) ?_
    intro x3
    refine g_iload_n (i := 1) dX12_clause_44 rfl rfl ?_
    refine g_iconst (v := (-1 : Int32)) dX12_clause_45 ki_m1 ?_
    refine g_jn (fun J94 => ∀ (v0 : Nat) (v1 : Int32) (m : Mm), GG Z M_X12_clause (PsN Z cvV) 94 [some (.ref v0), some (.int v1), none] [] m (J94 v0 v1 m)) ?_ ?_
    · intro v0 v1 m
      refine g_aload_n (i := 0) dX12_clause_94 rfl rfl ?_
      refine g_getI (k := 5) cl_X12 (by decide) rfl q_1386 dX12_clause_95 ?_
      refine g_ifeq (tgt := 102) dX12_clause_98 (by decide) ?_ ?_
      · refine g_aload_n (i := 0) dX12_clause_102 rfl rfl ?_
        refine g_callVV cl_X12 (crt_X12_skipWord _ _ _ _) cw_X12_skipWord (by decide) rfl q_1546 q_1548 qs_47 rfl rfl dX12_clause_103 ?_
        intro r4 m5
        refine g_aload_n (i := 0) dX12_clause_106 rfl rfl ?_
        refine g_dup dX12_clause_107 rfl ?_
        refine g_getI (k := 7) cl_X12 (by decide) rfl q_1388 dX12_clause_108 ?_
        refine g_iconst (v := (1 : Int32)) dX12_clause_111 ki_1 ?_
        refine g_iadd dX12_clause_112 ?_
        refine g_putI (k := 7) cl_X12 (by decide) rfl rfl q_1388 dX12_clause_113 ?_
        intro m6
        refine g_iload_n (i := 1) dX12_clause_116 rfl rfl ?_
        refine g_jn (fun J136 => ∀ (v0 : Nat) (v1 : Int32) (s0 : Int32) (m : Mm), GG Z M_X12_clause (PsN Z cvV) 136 [some (.ref v0), some (.int v1), none] [.int s0] m (J136 v0 v1 s0 m)) ?_ ?_
        · intro v0 v1 s0 m
          refine g_istore_n (i := 2) dX12_clause_136 rfl (show 2 < 3 by decide) ?_
          intro x7
          refine g_aload_n (i := 0) dX12_clause_137 rfl rfl ?_
          refine g_bipush (v := (59 : Int32)) dX12_clause_138 kb_59 ?_
          refine g_callVV cl_X12 (crt_X12_sign _ _ _ _ _) cw_X12_sign (by decide) rfl q_1558 q_1560 qs_49 rfl rfl dX12_clause_140 ?_
          intro r8 m9
          refine g_aload_n (i := 0) dX12_clause_143 rfl rfl ?_
          refine g_getI (k := 5) cl_X12 (by decide) rfl q_1386 dX12_clause_144 ?_
          refine g_ifeq (tgt := 151) dX12_clause_147 (by decide) ?_ ?_
          · refine g_iload_n (i := 1) dX12_clause_151 rfl rfl ?_
            refine g_iconst (v := (1 : Int32)) dX12_clause_152 ki_1 ?_
            refine g_icmpne (tgt := 164) dX12_clause_153 (by decide) ?_ ?_
            · refine g_aload_n (i := 0) dX12_clause_164 rfl rfl ?_
              refine g_getR (k := 11) cl_X12 (by decide) rfl q_1392 dX12_clause_165 ?_
              intro q10
              refine g_iconst (v := (1 : Int32)) dX12_clause_168 ki_1 ?_
              refine g_dup2 dX12_clause_169 rfl rfl ?_
              refine g_iaload dX12_clause_170 ?_
              refine g_iload_n (i := 2) dX12_clause_171 rfl rfl ?_
              refine g_aload_n (i := 0) dX12_clause_172 rfl rfl ?_
              refine g_getR (k := 11) cl_X12 (by decide) rfl q_1392 dX12_clause_173 ?_
              intro q11
              refine g_iconst (v := (0 : Int32)) dX12_clause_176 ki_0 ?_
              refine g_iaload dX12_clause_177 ?_
              refine g_ishl dX12_clause_178 ?_
              refine g_ior dX12_clause_179 ?_
              refine g_iastore dX12_clause_180 ?_
              intro m12
              refine g_aload_n (i := 0) dX12_clause_181 rfl rfl ?_
              refine g_getR (k := 11) cl_X12 (by decide) rfl q_1392 dX12_clause_182 ?_
              intro q13
              refine g_iconst (v := (0 : Int32)) dX12_clause_185 ki_0 ?_
              refine g_dup2 dX12_clause_186 rfl rfl ?_
              refine g_iaload dX12_clause_187 ?_
              refine g_iconst (v := (1 : Int32)) dX12_clause_188 ki_1 ?_
              refine g_iadd dX12_clause_189 ?_
              refine g_iastore dX12_clause_190 ?_
              intro m14
              exact g_return rfl dX12_clause_191
            · refine g_aload_n (i := 0) dX12_clause_156 rfl rfl ?_
              refine g_getR (k := 11) cl_X12 (by decide) rfl q_1392 dX12_clause_157 ?_
              intro q15
              refine g_iconst (v := (2 : Int32)) dX12_clause_160 ki_2 ?_
              refine g_iload_n (i := 2) dX12_clause_161 rfl rfl ?_
              refine g_iastore dX12_clause_162 ?_
              intro m16
              exact g_return rfl dX12_clause_163
          · exact g_return rfl dX12_clause_150
        · intro J136 hJ136
          refine g_ifne (tgt := 129) dX12_clause_117 (by decide) ?_ ?_
          · refine g_aload_n (i := 0) dX12_clause_129 rfl rfl ?_
            refine g_iconst (v := (1 : Int32)) dX12_clause_130 ki_1 ?_
            refine g_bipush (v := (30 : Int32)) dX12_clause_131 kb_30 ?_
            refine g_callVI cl_X12 (crt_X12_number _ _ _ _ _ _) cw_X12_number (by decide) rfl q_1550 q_1552 qs_48 rfl rfl dX12_clause_133 ?_
            intro r17 m18
            exact g_msk [true, true, false] (hJ136 _ _ _ _)
          · refine g_aload_n (i := 0) dX12_clause_120 rfl rfl ?_
            refine g_iconst (v := (0 : Int32)) dX12_clause_121 ki_0 ?_
            refine g_iconst (v := (1 : Int32)) dX12_clause_122 ki_1 ?_
            refine g_callVI cl_X12 (crt_X12_number _ _ _ _ _ _) cw_X12_number (by decide) rfl q_1550 q_1552 qs_48 rfl rfl dX12_clause_123 ?_
            intro r19 m20
            refine g_goto (tgt := 136) dX12_clause_126 (by decide) ?_
            exact g_msk [true, true, false] (hJ136 _ _ _ _)
      · exact g_return rfl dX12_clause_101
    · intro J94 hJ94
      refine g_icmpne (tgt := 61) dX12_clause_46 (by decide) ?_ ?_
      · refine g_aload_n (i := 0) dX12_clause_61 rfl rfl ?_
        refine g_getI (k := 7) cl_X12 (by decide) rfl q_1388 dX12_clause_62 ?_
        refine g_bipush (v := (60 : Int32)) dX12_clause_65 kb_60 ?_
        refine g_jn (fun J85 => ∀ (v0 : Nat) (v1 : Int32) (m : Mm), GG Z M_X12_clause (PsN Z cvV) 85 [some (.ref v0), some (.int v1), none] [] m (J85 v0 v1 m)) ?_ ?_
        · intro v0 v1 m
          refine g_aload_n (i := 0) dX12_clause_85 rfl rfl ?_
          refine g_iconst (v := (3 : Int32)) dX12_clause_86 ki_3 ?_
          refine g_aload_n (i := 0) dX12_clause_87 rfl rfl ?_
          refine g_getI (k := 4) cl_X12 (by decide) rfl q_1385 dX12_clause_88 ?_
          refine g_callVV cl_X12 (crt_X12_wrong _ _ _ _ _ _) cw_X12_wrong (by decide) rfl q_1542 q_1544 qs_46 rfl rfl dX12_clause_91 ?_
          intro r21 m22
          exact g_msk [true, true, false] (hJ94 _ _ _)
        · intro J85 hJ85
          refine g_icmpeq (tgt := 85) dX12_clause_67 (by decide) ?_ ?_
          · exact g_msk [true, true, false] (hJ85 _ _ _)
          · refine g_iload_n (i := 1) dX12_clause_70 rfl rfl ?_
            refine g_ifne (tgt := 94) dX12_clause_71 (by decide) ?_ ?_
            · exact g_msk [true, true, false] (hJ94 _ _ _)
            · refine g_aload_n (i := 0) dX12_clause_74 rfl rfl ?_
              refine g_getR (k := 11) cl_X12 (by decide) rfl q_1392 dX12_clause_75 ?_
              intro q23
              refine g_iconst (v := (0 : Int32)) dX12_clause_78 ki_0 ?_
              refine g_iaload dX12_clause_79 ?_
              refine g_bipush (v := (6 : Int32)) dX12_clause_80 kb_6 ?_
              refine g_icmpne (tgt := 94) dX12_clause_82 (by decide) ?_ ?_
              · exact g_msk [true, true, false] (hJ94 _ _ _)
              · exact g_msk [true, true, false] (hJ85 _ _ _)
      · refine g_aload_n (i := 0) dX12_clause_49 rfl rfl ?_
        refine g_iconst (v := (1 : Int32)) dX12_clause_50 ki_1 ?_
        refine g_aload_n (i := 0) dX12_clause_51 rfl rfl ?_
        refine g_getI (k := 4) cl_X12 (by decide) rfl q_1385 dX12_clause_52 ?_
        refine g_callVV cl_X12 (crt_X12_wrong _ _ _ _ _ _) cw_X12_wrong (by decide) rfl q_1542 q_1544 qs_46 rfl rfl dX12_clause_55 ?_
        intro r24 m25
        refine g_goto (tgt := 94) dX12_clause_58 (by decide) ?_
        exact g_msk [true, true, false] (hJ94 _ _ _)
  · intro J43 hJ43
    refine g_ifeq (tgt := 20) dX12_clause_13 (by decide) ?_ ?_
    · refine g_aload_n (i := 0) dX12_clause_20 rfl rfl ?_
      refine g_bipush (v := (12 : Int32)) dX12_clause_21 kb_12 ?_
      refine g_bipush (v := (9 : Int32)) dX12_clause_23 kb_9 ?_
      refine g_bipush (v := (13 : Int32)) dX12_clause_25 kb_13 ?_
      refine g_bipush (v := (9 : Int32)) dX12_clause_27 kb_9 ?_
      refine g_bipush (v := (20 : Int32)) dX12_clause_29 kb_20 ?_
      refine g_iconst (v := (0 : Int32)) dX12_clause_31 ki_0 ?_
      refine g_callVI cl_X12 (crt_X12_isWord _ _ _ _ _ _ _ _ _ _) cw_X12_isWord (by decide) rfl q_1528 q_1530 qs_44 rfl rfl dX12_clause_32 ?_
      intro r26 m27
      refine g_ifeq (tgt := 42) dX12_clause_35 (by decide) ?_ ?_
      · refine g_iconst (v := (-1 : Int32)) dX12_clause_42 ki_m1 ?_
        exact g_msk [true, false, false] (hJ43 _ _ _)
      · refine g_iconst (v := (1 : Int32)) dX12_clause_38 ki_1 ?_
        refine g_goto (tgt := 43) dX12_clause_39 (by decide) ?_
        exact g_msk [true, false, false] (hJ43 _ _ _)
    · refine g_iconst (v := (0 : Int32)) dX12_clause_16 ki_0 ?_
      refine g_goto (tgt := 43) dX12_clause_17 (by decide) ?_
      exact g_msk [true, false, false] (hJ43 _ _ _)
set_option maxRecDepth 100000 in
set_option maxHeartbeats 4000000 in
theorem c_L_X12_group_42 {Z : Zx}  {K71 : Nat → Mm → Option (Int32 × Mm)} (hK71 : ∀ (v0 : Nat) (m : Mm), GG Z M_X12_group (PsN Z cvI) 71 [some (.ref v0), none] [] m (K71 v0 m)) : ∀ (n : Nat) (v0 : Nat) (m : Mm), GG Z M_X12_group (PsN Z cvI) 42 [some (.ref v0), none] [] m (L_X12_group_42 K71 n v0 m) := by
  intro n
  induction n with
  | zero => intro v0 m; exact g_no
  | succ n ih =>
    intro v0 m
    unfold L_X12_group_42
    refine g_aload_n (i := 0) dX12_group_42 rfl rfl ?_
    refine g_getI (k := 5) cl_X12 (by decide) rfl q_1386 dX12_group_43 ?_
    refine g_ifne (tgt := 71) dX12_group_46 (by decide) ?_ ?_
    · exact g_msk [true, false] (hK71 _ _)
    · refine g_aload_n (i := 0) dX12_group_49 rfl rfl ?_
      refine g_getI (k := 4) cl_X12 (by decide) rfl q_1385 dX12_group_50 ?_
      refine g_aload_n (i := 0) dX12_group_53 rfl rfl ?_
      refine g_getI (k := 2) cl_X12 (by decide) rfl q_1383 dX12_group_54 ?_
      refine g_icmpge (tgt := 71) dX12_group_57 (by decide) ?_ ?_
      · exact g_msk [true, false] (hK71 _ _)
      · refine g_aload_n (i := 0) dX12_group_60 rfl rfl ?_
        refine g_callVV cl_X12 (crt_X12_clause _ _ _ _) cw_X12_clause (by decide) rfl q_1524 q_1526 qs_43 rfl rfl dX12_group_61 ?_
        intro r10 m11
        refine g_aload_n (i := 0) dX12_group_64 rfl rfl ?_
        refine g_callVV cl_X12 (crt_X12_blanks _ _ _ _) cw_X12_blanks (by decide) rfl q_1516 q_1518 qs_41 rfl rfl dX12_group_65 ?_
        intro r12 m13
        refine g_goto (tgt := 42) dX12_group_68 (by decide) ?_
        exact g_msk [true, false] (ih _ _)
set_option maxRecDepth 100000 in
set_option maxHeartbeats 4000000 in
theorem crt_X12_group (l : Launch) (θ : Th) (a0 : Nat) (a1 : Int32) (m : Mm) : Crt l θ yX12_group M_X12_group cvI [.ref a0, .int a1] m (F_X12_group a0 a1 m) := by
  refine crt_of 0 (by decide) rfl rfl (Nat.le_of_ble_eq_true rfl) (fun Z hμ => ?_)
  unfold F_X12_group
  show GG Z _ _ 0 [some (.ref a0), some (.int a1)] [] m _
  refine g_aload_n (i := 0) dX12_group_0 rfl rfl ?_
  refine g_iconst (v := (0 : Int32)) dX12_group_1 ki_0 ?_
  refine g_putI (k := 0) cl_X12 (by decide) rfl rfl q_1381 dX12_group_2 ?_
  intro m1
  refine g_aload_n (i := 0) dX12_group_5 rfl rfl ?_
  refine g_iload_n (i := 1) dX12_group_6 rfl rfl ?_
  refine g_iconst (v := (0 : Int32)) dX12_group_7 ki_0 ?_
  refine g_aload_n (i := 0) dX12_group_8 rfl rfl ?_
  refine g_getI (k := 1) cl_X12 (by decide) rfl q_1382 dX12_group_9 ?_
  refine g_callSI (crt_X12_in _ _ _ _ _ _) cw_X12_in (by decide) rfl q_1505 q_1506 rfl rfl dX12_group_12 ?_
  intro r2 m3
  refine g_jn (fun J23 => ∀ (v0 : Nat) (v1 : Int32) (s0 : Int32) (s1 : Nat) (m : Mm), GG Z M_X12_group (PsN Z cvI) 23 [some (.ref v0), some (.int v1)] [.int s0, .ref s1] m (J23 v0 v1 s0 s1 m)) ?_ ?_
  · intro v0 v1 s0 s1 m
    refine g_iconst (v := (1 : Int32)) dX12_group_23 ki_1 ?_
    refine g_iconst (v := (1 : Int32)) dX12_group_24 ki_1 ?_
    refine g_callVI cl_X12 (crt_X12_bad _ _ _ _ _ _ _) cw_X12_bad (by decide) rfl q_1508 q_1510 qs_39 rfl rfl dX12_group_25 ?_
    intro r4 m5
    refine g_ifeq (tgt := 33) dX12_group_28 (by decide) ?_ ?_
    · refine g_aload_n (i := 0) dX12_group_33 rfl rfl ?_
      refine g_iload_n (i := 1) dX12_group_34 rfl rfl ?_
      refine g_callVV cl_X12 (crt_X12_starts _ _ _ _ _) cw_X12_starts (by decide) rfl q_1512 q_1514 qs_40 rfl rfl dX12_group_35 ?_
      intro r6 m7
      refine g_aload_n (i := 0) dX12_group_38 rfl rfl ?_
      refine g_callVV cl_X12 (crt_X12_tellsNothing _ _ _ _) cw_X12_tellsNothing (by decide) rfl q_1370 q_1372 qs_37 rfl rfl dX12_group_39 ?_
      intro r8 m9
      refine g_msk [true, false] (c_L_X12_group_42 ?_ NF _ _)
      intro v0 m
      refine g_aload_n (i := 0) dX12_group_71 rfl rfl ?_
      refine g_getI (k := 5) cl_X12 (by decide) rfl q_1386 dX12_group_72 ?_
      refine g_ifeq (tgt := 83) dX12_group_75 (by decide) ?_ ?_
      · refine g_aload_n (i := 0) dX12_group_83 rfl rfl ?_
        refine g_iconst (v := (-1 : Int32)) dX12_group_84 ki_m1 ?_
        refine g_putI (k := 3) cl_X12 (by decide) rfl rfl q_1384 dX12_group_85 ?_
        intro m14
        refine g_aload_n (i := 0) dX12_group_88 rfl rfl ?_
        refine g_callVV cl_X12 (crt_X12_beginsAnew _ _ _ _) cw_X12_beginsAnew (by decide) rfl q_1374 q_1376 qs_38 rfl rfl dX12_group_89 ?_
        intro r15 m16
        refine g_aload_n (i := 0) dX12_group_92 rfl rfl ?_
        refine g_getR (k := 12) cl_X12 (by decide) rfl q_1393 dX12_group_93 ?_
        intro q17
        refine g_iconst (v := (0 : Int32)) dX12_group_96 ki_0 ?_
        refine g_iaload dX12_group_97 ?_
        exact g_ireturn rfl dX12_group_98
      · refine g_aload_n (i := 0) dX12_group_78 rfl rfl ?_
        refine g_callVI cl_X12 (crt_X12_ends _ _ _ _) cw_X12_ends (by decide) rfl q_1562 q_1564 qs_50 rfl rfl dX12_group_79 ?_
        intro r18 m19
        exact g_ireturn rfl dX12_group_82
    · refine g_iconst (v := (0 : Int32)) dX12_group_31 ki_0 ?_
      exact g_ireturn rfl dX12_group_32
  · intro J23 hJ23
    refine g_ifne (tgt := 22) dX12_group_15 (by decide) ?_ ?_
    · refine g_iconst (v := (0 : Int32)) dX12_group_22 ki_0 ?_
      exact g_msk [true, true] (hJ23 _ _ _ _ _)
    · refine g_iconst (v := (1 : Int32)) dX12_group_18 ki_1 ?_
      refine g_goto (tgt := 23) dX12_group_19 (by decide) ?_
      exact g_msk [true, true] (hJ23 _ _ _ _ _)
set_option maxRecDepth 100000 in
set_option maxHeartbeats 4000000 in
theorem c_L_X12_lays_10 {Z : Zx}  {K37 : Nat → Nat → Int32 → Int32 → Mm → Option (Unit × Mm)} (hK37 : ∀ (v0 : Nat) (v1 : Nat) (v2 : Int32) (v3 : Int32) (m : Mm), GG Z M_X12_lays (PsN Z cvV) 37 [some (.ref v0), some (.ref v1), some (.int v2), some (.int v3), none] [] m (K37 v0 v1 v2 v3 m)) : ∀ (n : Nat) (v0 : Nat) (v1 : Nat) (v2 : Int32) (v3 : Int32) (v4 : Int32) (m : Mm), GG Z M_X12_lays (PsN Z cvV) 10 [some (.ref v0), some (.ref v1), some (.int v2), some (.int v3), some (.int v4)] [] m (L_X12_lays_10 K37 n v0 v1 v2 v3 v4 m) := by
  intro n
  induction n with
  | zero => intro v0 v1 v2 v3 v4 m; exact g_no
  | succ n ih =>
    intro v0 v1 v2 v3 v4 m
    unfold L_X12_lays_10
    refine g_iload dX12_lays_10 rfl ?_
    refine g_aload_n (i := 1) dX12_lays_12 rfl rfl ?_
    refine g_iload_n (i := 3) dX12_lays_13 rfl rfl ?_
    refine g_aaloadA dX12_lays_14 g_no ?_
    intro q3
    refine g_alen100 dX12_lays_15 ?_
    refine g_icmpge (tgt := 37) dX12_lays_16 (by decide) ?_ ?_
    · exact g_msk [true, true, true, true, false] (hK37 _ _ _ _ _)
    · refine g_aload_n (i := 1) dX12_lays_19 rfl rfl ?_
      refine g_iload_n (i := 3) dX12_lays_20 rfl rfl ?_
      refine g_aaloadA dX12_lays_21 g_no ?_
      intro q4
      refine g_iload dX12_lays_22 rfl ?_
      refine g_aload_n (i := 0) dX12_lays_24 rfl rfl ?_
      refine g_iload_n (i := 3) dX12_lays_25 rfl rfl ?_
      refine g_aaloadA dX12_lays_26 g_no ?_
      intro q5
      refine g_iload dX12_lays_27 rfl ?_
      refine g_iaload dX12_lays_29 ?_
      refine g_iastore dX12_lays_30 ?_
      intro m6
      refine g_iinc dX12_lays_31 rfl ki_1 (show 4 < 5 by decide) ?_
      intro x7
      refine g_goto (tgt := 10) dX12_lays_34 (by decide) ?_
      exact g_msk [true, true, true, true, true] (ih _ _ _ _ _ _)
set_option maxRecDepth 100000 in
set_option maxHeartbeats 4000000 in
theorem c_L_X12_lays_2 {Z : Zx}    : ∀ (n : Nat) (v0 : Nat) (v1 : Nat) (v2 : Int32) (v3 : Int32) (m : Mm), GG Z M_X12_lays (PsN Z cvV) 2 [some (.ref v0), some (.ref v1), some (.int v2), some (.int v3), none] [] m (L_X12_lays_2 n v0 v1 v2 v3 m) := by
  intro n
  induction n with
  | zero => intro v0 v1 v2 v3 m; exact g_no
  | succ n ih =>
    intro v0 v1 v2 v3 m
    unfold L_X12_lays_2
    refine g_iload_n (i := 3) dX12_lays_2 rfl rfl ?_
    refine g_iload_n (i := 2) dX12_lays_3 rfl rfl ?_
    refine g_icmpge (tgt := 43) dX12_lays_4 (by decide) ?_ ?_
    · exact g_return rfl dX12_lays_43
    · refine g_iconst (v := (0 : Int32)) dX12_lays_7 ki_0 ?_
      refine g_istore dX12_lays_8 (show 4 < 5 by decide) ?_
      intro x2
      refine g_msk [true, true, true, true, true] (c_L_X12_lays_10 ?_ NF _ _ _ _ _ _)
      intro v0 v1 v2 v3 m
      refine g_iinc dX12_lays_37 rfl ki_1 (show 3 < 5 by decide) ?_
      intro x8
      refine g_goto (tgt := 2) dX12_lays_40 (by decide) ?_
      exact g_msk [true, true, true, true, false] (ih _ _ _ _ _)
set_option maxRecDepth 100000 in
set_option maxHeartbeats 4000000 in
theorem crt_X12_lays (l : Launch) (θ : Th) (a0 : Nat) (a1 : Nat) (a2 : Int32) (m : Mm) : Crt l θ yX12_lays M_X12_lays cvV [.ref a0, .ref a1, .int a2] m (F_X12_lays a0 a1 a2 m) := by
  refine crt_of 2 (by decide) rfl rfl (Nat.le_of_ble_eq_true rfl) (fun Z hμ => ?_)
  unfold F_X12_lays
  show GG Z _ _ 0 [some (.ref a0), some (.ref a1), some (.int a2), none, none] [] m _
  refine g_iconst (v := (0 : Int32)) dX12_lays_0 ki_0 ?_
  refine g_istore_n (i := 3) dX12_lays_1 rfl (show 3 < 5 by decide) ?_
  intro x1
  exact g_msk [true, true, true, true, false] (c_L_X12_lays_2 NF _ _ _ _ _)
set_option maxRecDepth 100000 in
set_option maxHeartbeats 4000000 in
theorem c_L_X12_copies_2 {Z : Zx}    : ∀ (n : Nat) (v0 : Nat) (v1 : Nat) (v2 : Int32) (m : Mm), GG Z M_X12_copies (PsN Z cvV) 2 [some (.ref v0), some (.ref v1), some (.int v2)] [] m (L_X12_copies_2 n v0 v1 v2 m) := by
  intro n
  induction n with
  | zero => intro v0 v1 v2 m; exact g_no
  | succ n ih =>
    intro v0 v1 v2 m
    unfold L_X12_copies_2
    refine g_iload_n (i := 2) dX12_copies_2 rfl rfl ?_
    refine g_sipush (v := (968 : Int32)) dX12_copies_3 ks_968 ?_
    refine g_icmpge (tgt := 21) dX12_copies_6 (by decide) ?_ ?_
    · exact g_return rfl dX12_copies_21
    · refine g_aload_n (i := 1) dX12_copies_9 rfl rfl ?_
      refine g_iload_n (i := 2) dX12_copies_10 rfl rfl ?_
      refine g_aload_n (i := 0) dX12_copies_11 rfl rfl ?_
      refine g_iload_n (i := 2) dX12_copies_12 rfl rfl ?_
      refine g_iaload dX12_copies_13 ?_
      refine g_iastore dX12_copies_14 ?_
      intro m2
      refine g_iinc dX12_copies_15 rfl ki_1 (show 2 < 3 by decide) ?_
      intro x3
      refine g_goto (tgt := 2) dX12_copies_18 (by decide) ?_
      exact g_msk [true, true, true] (ih _ _ _ _)
set_option maxRecDepth 100000 in
set_option maxHeartbeats 4000000 in
theorem crt_X12_copies (l : Launch) (θ : Th) (a0 : Nat) (a1 : Nat) (m : Mm) : Crt l θ yX12_copies M_X12_copies cvV [.ref a0, .ref a1] m (F_X12_copies a0 a1 m) := by
  refine crt_of 1 (by decide) rfl rfl (Nat.le_of_ble_eq_true rfl) (fun Z hμ => ?_)
  unfold F_X12_copies
  show GG Z _ _ 0 [some (.ref a0), some (.ref a1), none] [] m _
  refine g_iconst (v := (0 : Int32)) dX12_copies_0 ki_0 ?_
  refine g_istore_n (i := 2) dX12_copies_1 rfl (show 2 < 3 by decide) ?_
  intro x1
  exact g_msk [true, true, true] (c_L_X12_copies_2 NF _ _ _ _)
set_option maxRecDepth 100000 in
set_option maxHeartbeats 4000000 in
theorem crt_X12_notes (l : Launch) (θ : Th) (a0 : Nat) (a1 : Int32) (a2 : Int32) (m : Mm) : Crt l θ yX12_notes M_X12_notes cvV [.ref a0, .int a1, .int a2] m (F_X12_notes a0 a1 a2 m) := by
  refine crt_of 0 (by decide) rfl rfl (Nat.le_of_ble_eq_true rfl) (fun Z hμ => ?_)
  unfold F_X12_notes
  show GG Z _ _ 0 [some (.ref a0), some (.int a1), some (.int a2)] [] m _
  refine g_aload_n (i := 0) dX12_notes_0 rfl rfl ?_
  refine g_getI (k := 5) cl_X12 (by decide) rfl q_1386 dX12_notes_1 ?_
  refine g_ifeq (tgt := 8) dX12_notes_4 (by decide) ?_ ?_
  · refine g_aload_n (i := 0) dX12_notes_8 rfl rfl ?_
    refine g_getR (k := 16) cl_X12 (by decide) rfl q_1397 dX12_notes_9 ?_
    intro q1
    refine g_aload_n (i := 0) dX12_notes_12 rfl rfl ?_
    refine g_getI (k := 14) cl_X12 (by decide) rfl q_1395 dX12_notes_13 ?_
    refine g_aaloadA dX12_notes_16 g_no ?_
    intro q2
    refine g_iconst (v := (0 : Int32)) dX12_notes_17 ki_0 ?_
    refine g_iload_n (i := 1) dX12_notes_18 rfl rfl ?_
    refine g_iastore dX12_notes_19 ?_
    intro m3
    refine g_aload_n (i := 0) dX12_notes_20 rfl rfl ?_
    refine g_getR (k := 16) cl_X12 (by decide) rfl q_1397 dX12_notes_21 ?_
    intro q4
    refine g_aload_n (i := 0) dX12_notes_24 rfl rfl ?_
    refine g_getI (k := 14) cl_X12 (by decide) rfl q_1395 dX12_notes_25 ?_
    refine g_aaloadA dX12_notes_28 g_no ?_
    intro q5
    refine g_iconst (v := (1 : Int32)) dX12_notes_29 ki_1 ?_
    refine g_iload_n (i := 2) dX12_notes_30 rfl rfl ?_
    refine g_iastore dX12_notes_31 ?_
    intro m6
    refine g_aload_n (i := 0) dX12_notes_32 rfl rfl ?_
    refine g_dup dX12_notes_33 rfl ?_
    refine g_getI (k := 14) cl_X12 (by decide) rfl q_1395 dX12_notes_34 ?_
    refine g_iconst (v := (1 : Int32)) dX12_notes_37 ki_1 ?_
    refine g_iadd dX12_notes_38 ?_
    refine g_putI (k := 14) cl_X12 (by decide) rfl rfl q_1395 dX12_notes_39 ?_
    intro m7
    exact g_return rfl dX12_notes_42
  · exact g_return rfl dX12_notes_7
set_option maxRecDepth 100000 in
set_option maxHeartbeats 4000000 in
theorem crt_X12_opensOne (l : Launch) (θ : Th) (a0 : Nat) (m : Mm) : Crt l θ yX12_opensOne M_X12_opensOne cvI [.ref a0] m (F_X12_opensOne a0 m) := by
  refine crt_of 0 (by decide) rfl rfl (Nat.le_of_ble_eq_true rfl) (fun Z hμ => ?_)
  unfold F_X12_opensOne
  show GG Z _ _ 0 [some (.ref a0)] [] m _
  refine g_aload_n (i := 0) dX12_opensOne_0 rfl rfl ?_
  refine g_getI (k := 5) cl_X12 (by decide) rfl q_1386 dX12_opensOne_1 ?_
  refine g_jn (fun J45 => ∀ (v0 : Nat) (m : Mm), GG Z M_X12_opensOne (PsN Z cvI) 45 [some (.ref v0)] [] m (J45 v0 m)) ?_ ?_
  · intro v0 m
    refine g_aload_n (i := 0) dX12_opensOne_45 rfl rfl ?_
    refine g_getI (k := 5) cl_X12 (by decide) rfl q_1386 dX12_opensOne_46 ?_
    refine g_ifne (tgt := 56) dX12_opensOne_49 (by decide) ?_ ?_
    · refine g_iconst (v := (0 : Int32)) dX12_opensOne_56 ki_0 ?_
      exact g_zreturnK rfl (by decide) dX12_opensOne_57
    · refine g_iconst (v := (1 : Int32)) dX12_opensOne_52 ki_1 ?_
      refine g_goto (tgt := 57) dX12_opensOne_53 (by decide) ?_
      exact g_zreturnK rfl (by decide) dX12_opensOne_57
  · intro J45 hJ45
    refine g_jn (fun J28 => ∀ (v0 : Nat) (m : Mm), GG Z M_X12_opensOne (PsN Z cvI) 28 [some (.ref v0)] [] m (J28 v0 m)) ?_ ?_
    · intro v0 m
      refine g_aload_n (i := 0) dX12_opensOne_28 rfl rfl ?_
      refine g_getI (k := 5) cl_X12 (by decide) rfl q_1386 dX12_opensOne_29 ?_
      refine g_ifne (tgt := 45) dX12_opensOne_32 (by decide) ?_ ?_
      · exact g_msk [true] (hJ45 _ _)
      · refine g_aload_n (i := 0) dX12_opensOne_35 rfl rfl ?_
        refine g_dup dX12_opensOne_36 rfl ?_
        refine g_getI (k := 8) cl_X12 (by decide) rfl q_1389 dX12_opensOne_37 ?_
        refine g_iconst (v := (1 : Int32)) dX12_opensOne_40 ki_1 ?_
        refine g_iadd dX12_opensOne_41 ?_
        refine g_putI (k := 8) cl_X12 (by decide) rfl rfl q_1389 dX12_opensOne_42 ?_
        intro m1
        exact g_msk [true] (hJ45 _ _)
    · intro J28 hJ28
      refine g_ifne (tgt := 28) dX12_opensOne_4 (by decide) ?_ ?_
      · exact g_msk [true] (hJ28 _ _)
      · refine g_aload_n (i := 0) dX12_opensOne_7 rfl rfl ?_
        refine g_getI (k := 8) cl_X12 (by decide) rfl q_1389 dX12_opensOne_8 ?_
        refine g_bipush (v := (6 : Int32)) dX12_opensOne_11 kb_6 ?_
        refine g_icmpne (tgt := 28) dX12_opensOne_13 (by decide) ?_ ?_
        · exact g_msk [true] (hJ28 _ _)
        · refine g_aload_n (i := 0) dX12_opensOne_16 rfl rfl ?_
          refine g_iconst (v := (3 : Int32)) dX12_opensOne_17 ki_3 ?_
          refine g_aload_n (i := 0) dX12_opensOne_18 rfl rfl ?_
          refine g_getI (k := 4) cl_X12 (by decide) rfl q_1385 dX12_opensOne_19 ?_
          refine g_callVV cl_X12 (crt_X12_wrong _ _ _ _ _ _) cw_X12_wrong (by decide) rfl q_1542 q_1544 qs_46 rfl rfl dX12_opensOne_22 ?_
          intro r2 m3
          refine g_goto (tgt := 45) dX12_opensOne_25 (by decide) ?_
          exact g_msk [true] (hJ45 _ _)
set_option maxRecDepth 100000 in
set_option maxHeartbeats 4000000 in
theorem crt_X12_knownHere (l : Launch) (θ : Th) (a0 : Nat) (m : Mm) : Crt l θ yX12_knownHere M_X12_knownHere cvI [.ref a0] m (F_X12_knownHere a0 m) := by
  refine crt_of 0 (by decide) rfl rfl (Nat.le_of_ble_eq_true rfl) (fun Z hμ => ?_)
  unfold F_X12_knownHere
  show GG Z _ _ 0 [some (.ref a0)] [] m _
  refine g_aload_n (i := 0) dX12_knownHere_0 rfl rfl ?_
  refine g_bipush (v := (13 : Int32)) dX12_knownHere_1 kb_13 ?_
  refine g_iconst (v := (5 : Int32)) dX12_knownHere_3 ki_5 ?_
  refine g_bipush (v := (13 : Int32)) dX12_knownHere_4 kb_13 ?_
  refine g_iconst (v := (2 : Int32)) dX12_knownHere_6 ki_2 ?_
  refine g_iconst (v := (5 : Int32)) dX12_knownHere_7 ki_5 ?_
  refine g_bipush (v := (18 : Int32)) dX12_knownHere_8 kb_18 ?_
  refine g_callVI cl_X12 (crt_X12_takes _ _ _ _ _ _ _ _ _ _) cw_X12_takes (by decide) rfl q_1594 q_1596 qs_57 rfl rfl dX12_knownHere_10 ?_
  intro r1 m2
  refine g_ifeq (tgt := 18) dX12_knownHere_13 (by decide) ?_ ?_
  · refine g_aload_n (i := 0) dX12_knownHere_18 rfl rfl ?_
    refine g_iconst (v := (1 : Int32)) dX12_knownHere_19 ki_1 ?_
    refine g_bipush (v := (7 : Int32)) dX12_knownHere_20 kb_7 ?_
    refine g_iconst (v := (5 : Int32)) dX12_knownHere_22 ki_5 ?_
    refine g_iconst (v := (0 : Int32)) dX12_knownHere_23 ki_0 ?_
    refine g_iconst (v := (0 : Int32)) dX12_knownHere_24 ki_0 ?_
    refine g_iconst (v := (0 : Int32)) dX12_knownHere_25 ki_0 ?_
    refine g_callVI cl_X12 (crt_X12_takes _ _ _ _ _ _ _ _ _ _) cw_X12_takes (by decide) rfl q_1594 q_1596 qs_57 rfl rfl dX12_knownHere_26 ?_
    intro r3 m4
    refine g_ifeq (tgt := 34) dX12_knownHere_29 (by decide) ?_ ?_
    · refine g_aload_n (i := 0) dX12_knownHere_34 rfl rfl ?_
      refine g_bipush (v := (22 : Int32)) dX12_knownHere_35 kb_22 ?_
      refine g_bipush (v := (9 : Int32)) dX12_knownHere_37 kb_9 ?_
      refine g_iconst (v := (5 : Int32)) dX12_knownHere_39 ki_5 ?_
      refine g_bipush (v := (23 : Int32)) dX12_knownHere_40 kb_23 ?_
      refine g_iconst (v := (0 : Int32)) dX12_knownHere_42 ki_0 ?_
      refine g_iconst (v := (0 : Int32)) dX12_knownHere_43 ki_0 ?_
      refine g_callVI cl_X12 (crt_X12_takes _ _ _ _ _ _ _ _ _ _) cw_X12_takes (by decide) rfl q_1594 q_1596 qs_57 rfl rfl dX12_knownHere_44 ?_
      intro r5 m6
      refine g_ifeq (tgt := 52) dX12_knownHere_47 (by decide) ?_ ?_
      · refine g_aload_n (i := 0) dX12_knownHere_52 rfl rfl ?_
        refine g_bipush (v := (19 : Int32)) dX12_knownHere_53 kb_19 ?_
        refine g_bipush (v := (9 : Int32)) dX12_knownHere_55 kb_9 ?_
        refine g_bipush (v := (26 : Int32)) dX12_knownHere_57 kb_26 ?_
        refine g_iconst (v := (5 : Int32)) dX12_knownHere_59 ki_5 ?_
        refine g_iconst (v := (0 : Int32)) dX12_knownHere_60 ki_0 ?_
        refine g_iconst (v := (0 : Int32)) dX12_knownHere_61 ki_0 ?_
        refine g_callVI cl_X12 (crt_X12_takes _ _ _ _ _ _ _ _ _ _) cw_X12_takes (by decide) rfl q_1594 q_1596 qs_57 rfl rfl dX12_knownHere_62 ?_
        intro r7 m8
        refine g_ifeq (tgt := 72) dX12_knownHere_65 (by decide) ?_ ?_
        · refine g_iconst (v := (-1 : Int32)) dX12_knownHere_72 ki_m1 ?_
          exact g_ireturn rfl dX12_knownHere_73
        · refine g_iconst (v := (3 : Int32)) dX12_knownHere_68 ki_3 ?_
          refine g_goto (tgt := 73) dX12_knownHere_69 (by decide) ?_
          exact g_ireturn rfl dX12_knownHere_73
      · refine g_iconst (v := (2 : Int32)) dX12_knownHere_50 ki_2 ?_
        exact g_ireturn rfl dX12_knownHere_51
    · refine g_iconst (v := (1 : Int32)) dX12_knownHere_32 ki_1 ?_
      exact g_ireturn rfl dX12_knownHere_33
  · refine g_iconst (v := (0 : Int32)) dX12_knownHere_16 ki_0 ?_
    exact g_ireturn rfl dX12_knownHere_17
set_option maxRecDepth 100000 in
set_option maxHeartbeats 4000000 in
theorem crt_X12_by (l : Launch) (θ : Th) (a0 : Int32) (a1 : Int32) (a2 : Int32) (m : Mm) : Crt l θ yX12_by M_X12_by cvI [.int a0, .int a1, .int a2] m (F_X12_by a0 a1 a2 m) := by
  refine crt_of 0 (by decide) rfl rfl (Nat.le_of_ble_eq_true rfl) (fun Z hμ => ?_)
  unfold F_X12_by
  show GG Z _ _ 0 [some (.int a0), some (.int a1), some (.int a2)] [] m _
  refine g_iload_n (i := 0) dX12_by_0 rfl rfl ?_
  refine g_sw0 (lo := 2) ?_
  refine g_swc (k := 0) (tgt := 40) dX12_by_1 (by decide) kt_2 rfl (by decide) ?_ ?_
  · refine g_iload_n (i := 1) dX12_by_40 rfl rfl ?_
    refine g_iload_n (i := 2) dX12_by_41 rfl rfl ?_
    refine g_iadd dX12_by_42 ?_
    exact g_ireturn rfl dX12_by_43
  · refine g_swc (k := 1) (tgt := 44) dX12_by_1 (by decide) kt_3 rfl (by decide) ?_ ?_
    · refine g_iload_n (i := 1) dX12_by_44 rfl rfl ?_
      refine g_iload_n (i := 2) dX12_by_45 rfl rfl ?_
      refine g_isub dX12_by_46 ?_
      exact g_ireturn rfl dX12_by_47
    · refine g_swc (k := 2) (tgt := 48) dX12_by_1 (by decide) kt_4 rfl (by decide) ?_ ?_
      · refine g_iload_n (i := 1) dX12_by_48 rfl rfl ?_
        refine g_iload_n (i := 2) dX12_by_49 rfl rfl ?_
        refine g_imul dX12_by_50 ?_
        exact g_ireturn rfl dX12_by_51
      · refine g_swc (k := 3) (tgt := 52) dX12_by_1 (by decide) kt_5 rfl (by decide) ?_ ?_
        · refine g_iload_n (i := 2) dX12_by_52 rfl rfl ?_
          refine g_ifne (tgt := 60) dX12_by_53 (by decide) ?_ ?_
          · refine g_iload_n (i := 2) dX12_by_60 rfl rfl ?_
            refine g_iconst (v := (-1 : Int32)) dX12_by_61 ki_m1 ?_
            refine g_icmpne (tgt := 70) dX12_by_62 (by decide) ?_ ?_
            · refine g_iload_n (i := 1) dX12_by_70 rfl rfl ?_
              refine g_iload_n (i := 2) dX12_by_71 rfl rfl ?_
              refine g_idiv dX12_by_72 ?_
              exact g_ireturn rfl dX12_by_73
            · refine g_iload_n (i := 1) dX12_by_65 rfl rfl ?_
              refine g_ineg dX12_by_66 ?_
              refine g_goto (tgt := 73) dX12_by_67 (by decide) ?_
              exact g_ireturn rfl dX12_by_73
          · refine g_iconst (v := (0 : Int32)) dX12_by_56 ki_0 ?_
            refine g_goto (tgt := 73) dX12_by_57 (by decide) ?_
            exact g_ireturn rfl dX12_by_73
        · refine g_swc (k := 4) (tgt := 74) dX12_by_1 (by decide) kt_6 rfl (by decide) ?_ ?_
          · refine g_iload_n (i := 2) dX12_by_74 rfl rfl ?_
            refine g_ifeq (tgt := 83) dX12_by_75 (by decide) ?_ ?_
            · refine g_iconst (v := (0 : Int32)) dX12_by_83 ki_0 ?_
              refine g_goto (tgt := 90) dX12_by_84 (by decide) ?_
              exact g_ireturn rfl dX12_by_90
            · refine g_iload_n (i := 2) dX12_by_78 rfl rfl ?_
              refine g_iconst (v := (-1 : Int32)) dX12_by_79 ki_m1 ?_
              refine g_icmpne (tgt := 87) dX12_by_80 (by decide) ?_ ?_
              · refine g_iload_n (i := 1) dX12_by_87 rfl rfl ?_
                refine g_iload_n (i := 2) dX12_by_88 rfl rfl ?_
                refine g_irem dX12_by_89 ?_
                exact g_ireturn rfl dX12_by_90
              · refine g_iconst (v := (0 : Int32)) dX12_by_83 ki_0 ?_
                refine g_goto (tgt := 90) dX12_by_84 (by decide) ?_
                exact g_ireturn rfl dX12_by_90
          · refine g_swc (k := 5) (tgt := 91) dX12_by_1 (by decide) kt_7 rfl (by decide) ?_ ?_
            · refine g_iload_n (i := 1) dX12_by_91 rfl rfl ?_
              refine g_iload_n (i := 2) dX12_by_92 rfl rfl ?_
              refine g_callSI (crt_X12_less _ _ _ _ _) cw_X12_less (by decide) rfl q_1732 q_1733 rfl rfl dX12_by_93 ?_
              intro r1 m2
              exact g_ireturn rfl dX12_by_96
            · refine g_swe (n := 6) (tgt := 97) dX12_by_1 (by decide) (by decide) ?_
              refine g_iload_n (i := 1) dX12_by_97 rfl rfl ?_
              refine g_iload_n (i := 2) dX12_by_98 rfl rfl ?_
              refine g_callSI (crt_X12_more _ _ _ _ _) cw_X12_more (by decide) rfl q_1735 q_1736 rfl rfl dX12_by_99 ?_
              intro r3 m4
              exact g_ireturn rfl dX12_by_102
set_option maxRecDepth 100000 in
set_option maxHeartbeats 4000000 in
theorem c_L_X12_byLaw_11 {Z : Zx}  {K120 : Nat → Mm → Option (Int32 × Mm)} (hK120 : ∀ (v0 : Nat) (m : Mm), GG Z M_X12_byLaw (PsN Z cvI) 120 [some (.ref v0), none, none] [] m (K120 v0 m)) : ∀ (n : Nat) (v0 : Nat) (v1 : Int32) (v2 : Int32) (m : Mm), GG Z M_X12_byLaw (PsN Z cvI) 11 [some (.ref v0), some (.int v1), some (.int v2)] [] m (L_X12_byLaw_11 K120 n v0 v1 v2 m) := by
  intro n
  induction n with
  | zero => intro v0 v1 v2 m; exact g_no
  | succ n ih =>
    intro v0 v1 v2 m
    unfold L_X12_byLaw_11
    refine g_iload_n (i := 2) dX12_byLaw_11 rfl rfl ?_
    refine g_aload_n (i := 0) dX12_byLaw_12 rfl rfl ?_
    refine g_getI (k := 13) cl_X12 (by decide) rfl q_1394 dX12_byLaw_13 ?_
    refine g_icmpge (tgt := 120) dX12_byLaw_16 (by decide) ?_ ?_
    · exact g_msk [true, false, false] (hK120 _ _)
    · refine g_aload_n (i := 0) dX12_byLaw_19 rfl rfl ?_
      refine g_getR (k := 15) cl_X12 (by decide) rfl q_1396 dX12_byLaw_20 ?_
      intro q5
      refine g_iload_n (i := 2) dX12_byLaw_23 rfl rfl ?_
      refine g_aaloadA dX12_byLaw_24 g_no ?_
      intro q6
      refine g_iconst (v := (0 : Int32)) dX12_byLaw_25 ki_0 ?_
      refine g_iaload dX12_byLaw_26 ?_
      refine g_iconst (v := (2 : Int32)) dX12_byLaw_27 ki_2 ?_
      refine g_jn (fun J114 => ∀ (v0 : Nat) (v1 : Int32) (v2 : Int32) (m : Mm), GG Z M_X12_byLaw (PsN Z cvI) 114 [some (.ref v0), some (.int v1), some (.int v2)] [] m (J114 v0 v1 v2 m)) ?_ ?_
      · intro v0 v1 v2 m
        refine g_iinc dX12_byLaw_114 rfl ki_1 (show 2 < 3 by decide) ?_
        intro x7
        refine g_goto (tgt := 11) dX12_byLaw_117 (by decide) ?_
        exact g_msk [true, true, true] (ih _ _ _ _)
      · intro J114 hJ114
        refine g_icmpge (tgt := 78) dX12_byLaw_28 (by decide) ?_ ?_
        · refine g_iinc dX12_byLaw_78 rfl ki_m1 (show 1 < 3 by decide) ?_
          intro x8
          refine g_aload_n (i := 0) dX12_byLaw_81 rfl rfl ?_
          refine g_getR (k := 19) cl_X12 (by decide) rfl q_1400 dX12_byLaw_82 ?_
          intro q9
          refine g_iload_n (i := 1) dX12_byLaw_85 rfl rfl ?_
          refine g_iconst (v := (1 : Int32)) dX12_byLaw_86 ki_1 ?_
          refine g_isub dX12_byLaw_87 ?_
          refine g_aload_n (i := 0) dX12_byLaw_88 rfl rfl ?_
          refine g_getR (k := 15) cl_X12 (by decide) rfl q_1396 dX12_byLaw_89 ?_
          intro q10
          refine g_iload_n (i := 2) dX12_byLaw_92 rfl rfl ?_
          refine g_aaloadA dX12_byLaw_93 g_no ?_
          intro q11
          refine g_iconst (v := (0 : Int32)) dX12_byLaw_94 ki_0 ?_
          refine g_iaload dX12_byLaw_95 ?_
          refine g_aload_n (i := 0) dX12_byLaw_96 rfl rfl ?_
          refine g_getR (k := 19) cl_X12 (by decide) rfl q_1400 dX12_byLaw_97 ?_
          intro q12
          refine g_iload_n (i := 1) dX12_byLaw_100 rfl rfl ?_
          refine g_iconst (v := (1 : Int32)) dX12_byLaw_101 ki_1 ?_
          refine g_isub dX12_byLaw_102 ?_
          refine g_iaload dX12_byLaw_103 ?_
          refine g_aload_n (i := 0) dX12_byLaw_104 rfl rfl ?_
          refine g_getR (k := 19) cl_X12 (by decide) rfl q_1400 dX12_byLaw_105 ?_
          intro q13
          refine g_iload_n (i := 1) dX12_byLaw_108 rfl rfl ?_
          refine g_iaload dX12_byLaw_109 ?_
          refine g_callSI (crt_X12_by _ _ _ _ _ _) cw_X12_by (by decide) rfl q_1729 q_1730 rfl rfl dX12_byLaw_110 ?_
          intro r14 m15
          refine g_iastore dX12_byLaw_113 ?_
          intro m16
          exact g_msk [true, true, true] (hJ114 _ _ _ _)
        · refine g_aload_n (i := 0) dX12_byLaw_31 rfl rfl ?_
          refine g_getR (k := 19) cl_X12 (by decide) rfl q_1400 dX12_byLaw_32 ?_
          intro q17
          refine g_iload_n (i := 1) dX12_byLaw_35 rfl rfl ?_
          refine g_aload_n (i := 0) dX12_byLaw_36 rfl rfl ?_
          refine g_getR (k := 15) cl_X12 (by decide) rfl q_1396 dX12_byLaw_37 ?_
          intro q18
          refine g_iload_n (i := 2) dX12_byLaw_40 rfl rfl ?_
          refine g_aaloadA dX12_byLaw_41 g_no ?_
          intro q19
          refine g_iconst (v := (0 : Int32)) dX12_byLaw_42 ki_0 ?_
          refine g_iaload dX12_byLaw_43 ?_
          refine g_jn (fun J71 => ∀ (v0 : Nat) (v1 : Int32) (v2 : Int32) (s0 : Int32) (s1 : Int32) (s2 : Nat) (m : Mm), GG Z M_X12_byLaw (PsN Z cvI) 71 [some (.ref v0), some (.int v1), some (.int v2)] [.int s0, .int s1, .ref s2] m (J71 v0 v1 v2 s0 s1 s2 m)) ?_ ?_
          · intro v0 v1 v2 s0 s1 s2 m
            refine g_iastore dX12_byLaw_71 ?_
            intro m20
            refine g_iinc dX12_byLaw_72 rfl ki_1 (show 1 < 3 by decide) ?_
            intro x21
            refine g_goto (tgt := 114) dX12_byLaw_75 (by decide) ?_
            exact g_msk [true, true, true] (hJ114 _ _ _ _)
          · intro J71 hJ71
            refine g_ifne (tgt := 58) dX12_byLaw_44 (by decide) ?_ ?_
            · refine g_aload_n (i := 0) dX12_byLaw_58 rfl rfl ?_
              refine g_getR (k := 20) cl_X12 (by decide) rfl q_1401 dX12_byLaw_59 ?_
              intro q22
              refine g_aload_n (i := 0) dX12_byLaw_62 rfl rfl ?_
              refine g_getR (k := 15) cl_X12 (by decide) rfl q_1396 dX12_byLaw_63 ?_
              intro q23
              refine g_iload_n (i := 2) dX12_byLaw_66 rfl rfl ?_
              refine g_aaloadA dX12_byLaw_67 g_no ?_
              intro q24
              refine g_iconst (v := (1 : Int32)) dX12_byLaw_68 ki_1 ?_
              refine g_iaload dX12_byLaw_69 ?_
              refine g_iaload dX12_byLaw_70 ?_
              exact g_msk [true, true, true] (hJ71 _ _ _ _ _ _ _)
            · refine g_aload_n (i := 0) dX12_byLaw_47 rfl rfl ?_
              refine g_getR (k := 15) cl_X12 (by decide) rfl q_1396 dX12_byLaw_48 ?_
              intro q25
              refine g_iload_n (i := 2) dX12_byLaw_51 rfl rfl ?_
              refine g_aaloadA dX12_byLaw_52 g_no ?_
              intro q26
              refine g_iconst (v := (1 : Int32)) dX12_byLaw_53 ki_1 ?_
              refine g_iaload dX12_byLaw_54 ?_
              refine g_goto (tgt := 71) dX12_byLaw_55 (by decide) ?_
              exact g_msk [true, true, true] (hJ71 _ _ _ _ _ _ _)
set_option maxRecDepth 100000 in
set_option maxHeartbeats 4000000 in
theorem crt_X12_byLaw (l : Launch) (θ : Th) (a0 : Nat) (m : Mm) : Crt l θ yX12_byLaw M_X12_byLaw cvI [.ref a0] m (F_X12_byLaw a0 m) := by
  refine crt_of 2 (by decide) rfl rfl (Nat.le_of_ble_eq_true rfl) (fun Z hμ => ?_)
  unfold F_X12_byLaw
  show GG Z _ _ 0 [some (.ref a0), none, none] [] m _
  refine g_iconst (v := (0 : Int32)) dX12_byLaw_0 ki_0 ?_
  refine g_istore_n (i := 1) dX12_byLaw_1 rfl (show 1 < 3 by decide) ?_
  intro x1
  refine g_aload_n (i := 0) dX12_byLaw_2 rfl rfl ?_
  refine g_getR (k := 19) cl_X12 (by decide) rfl q_1400 dX12_byLaw_3 ?_
  intro q2
  refine g_iconst (v := (0 : Int32)) dX12_byLaw_6 ki_0 ?_
  refine g_iconst (v := (1 : Int32)) dX12_byLaw_7 ki_1 ?_
  refine g_iastore dX12_byLaw_8 ?_
  intro m3
  refine g_iconst (v := (0 : Int32)) dX12_byLaw_9 ki_0 ?_
  refine g_istore_n (i := 2) dX12_byLaw_10 rfl (show 2 < 3 by decide) ?_
  intro x4
  refine g_msk [true, true, true] (c_L_X12_byLaw_11 ?_ NF _ _ _ _)
  intro v0 m
  refine g_bipush (v := (99 : Int32)) dX12_byLaw_120 kb_99 ?_
  refine g_iconst (v := (0 : Int32)) dX12_byLaw_122 ki_0 ?_
  refine g_aload_n (i := 0) dX12_byLaw_123 rfl rfl ?_
  refine g_getR (k := 19) cl_X12 (by decide) rfl q_1400 dX12_byLaw_124 ?_
  intro q27
  refine g_iconst (v := (0 : Int32)) dX12_byLaw_127 ki_0 ?_
  refine g_iaload dX12_byLaw_128 ?_
  refine g_callSI (crt_X12_more _ _ _ _ _) cw_X12_more (by decide) rfl q_1735 q_1736 rfl rfl dX12_byLaw_129 ?_
  intro r28 m29
  refine g_callSI (crt_X12_less _ _ _ _ _) cw_X12_less (by decide) rfl q_1732 q_1733 rfl rfl dX12_byLaw_132 ?_
  intro r30 m31
  exact g_ireturn rfl dX12_byLaw_135
set_option maxRecDepth 100000 in
set_option maxHeartbeats 4000000 in
theorem crt_X12_stepHere (l : Launch) (θ : Th) (a0 : Nat) (m : Mm) : Crt l θ yX12_stepHere M_X12_stepHere cvI [.ref a0] m (F_X12_stepHere a0 m) := by
  refine crt_of 0 (by decide) rfl rfl (Nat.le_of_ble_eq_true rfl) (fun Z hμ => ?_)
  unfold F_X12_stepHere
  show GG Z _ _ 0 [some (.ref a0)] [] m _
  refine g_aload_n (i := 0) dX12_stepHere_0 rfl rfl ?_
  refine g_bipush (v := (19 : Int32)) dX12_stepHere_1 kb_19 ?_
  refine g_iconst (v := (5 : Int32)) dX12_stepHere_3 ki_5 ?_
  refine g_bipush (v := (14 : Int32)) dX12_stepHere_4 kb_14 ?_
  refine g_iconst (v := (4 : Int32)) dX12_stepHere_6 ki_4 ?_
  refine g_iconst (v := (0 : Int32)) dX12_stepHere_7 ki_0 ?_
  refine g_iconst (v := (0 : Int32)) dX12_stepHere_8 ki_0 ?_
  refine g_callVI cl_X12 (crt_X12_isWord _ _ _ _ _ _ _ _ _ _) cw_X12_isWord (by decide) rfl q_1528 q_1530 qs_44 rfl rfl dX12_stepHere_9 ?_
  intro r1 m2
  refine g_ifeq (tgt := 17) dX12_stepHere_12 (by decide) ?_ ?_
  · refine g_aload_n (i := 0) dX12_stepHere_17 rfl rfl ?_
    refine g_bipush (v := (20 : Int32)) dX12_stepHere_18 kb_20 ?_
    refine g_iconst (v := (1 : Int32)) dX12_stepHere_20 ki_1 ?_
    refine g_bipush (v := (11 : Int32)) dX12_stepHere_21 kb_11 ?_
    refine g_iconst (v := (5 : Int32)) dX12_stepHere_23 ki_5 ?_
    refine g_iconst (v := (0 : Int32)) dX12_stepHere_24 ki_0 ?_
    refine g_iconst (v := (0 : Int32)) dX12_stepHere_25 ki_0 ?_
    refine g_callVI cl_X12 (crt_X12_isWord _ _ _ _ _ _ _ _ _ _) cw_X12_isWord (by decide) rfl q_1528 q_1530 qs_44 rfl rfl dX12_stepHere_26 ?_
    intro r3 m4
    refine g_ifeq (tgt := 34) dX12_stepHere_29 (by decide) ?_ ?_
    · refine g_aload_n (i := 0) dX12_stepHere_34 rfl rfl ?_
      refine g_bipush (v := (12 : Int32)) dX12_stepHere_35 kb_12 ?_
      refine g_bipush (v := (15 : Int32)) dX12_stepHere_37 kb_15 ?_
      refine g_bipush (v := (19 : Int32)) dX12_stepHere_39 kb_19 ?_
      refine g_iconst (v := (5 : Int32)) dX12_stepHere_41 ki_5 ?_
      refine g_iconst (v := (0 : Int32)) dX12_stepHere_42 ki_0 ?_
      refine g_iconst (v := (0 : Int32)) dX12_stepHere_43 ki_0 ?_
      refine g_callVI cl_X12 (crt_X12_isWord _ _ _ _ _ _ _ _ _ _) cw_X12_isWord (by decide) rfl q_1528 q_1530 qs_44 rfl rfl dX12_stepHere_44 ?_
      intro r5 m6
      refine g_ifeq (tgt := 52) dX12_stepHere_47 (by decide) ?_ ?_
      · refine g_aload_n (i := 0) dX12_stepHere_52 rfl rfl ?_
        refine g_bipush (v := (20 : Int32)) dX12_stepHere_53 kb_20 ?_
        refine g_iconst (v := (5 : Int32)) dX12_stepHere_55 ki_5 ?_
        refine g_bipush (v := (12 : Int32)) dX12_stepHere_56 kb_12 ?_
        refine g_bipush (v := (12 : Int32)) dX12_stepHere_58 kb_12 ?_
        refine g_iconst (v := (0 : Int32)) dX12_stepHere_60 ki_0 ?_
        refine g_iconst (v := (0 : Int32)) dX12_stepHere_61 ki_0 ?_
        refine g_callVI cl_X12 (crt_X12_isWord _ _ _ _ _ _ _ _ _ _) cw_X12_isWord (by decide) rfl q_1528 q_1530 qs_44 rfl rfl dX12_stepHere_62 ?_
        intro r7 m8
        refine g_ifeq (tgt := 70) dX12_stepHere_65 (by decide) ?_ ?_
        · refine g_aload_n (i := 0) dX12_stepHere_70 rfl rfl ?_
          refine g_bipush (v := (20 : Int32)) dX12_stepHere_71 kb_20 ?_
          refine g_bipush (v := (18 : Int32)) dX12_stepHere_73 kb_18 ?_
          refine g_bipush (v := (9 : Int32)) dX12_stepHere_75 kb_9 ?_
          refine g_bipush (v := (13 : Int32)) dX12_stepHere_77 kb_13 ?_
          refine g_iconst (v := (0 : Int32)) dX12_stepHere_79 ki_0 ?_
          refine g_iconst (v := (0 : Int32)) dX12_stepHere_80 ki_0 ?_
          refine g_callVI cl_X12 (crt_X12_isWord _ _ _ _ _ _ _ _ _ _) cw_X12_isWord (by decide) rfl q_1528 q_1530 qs_44 rfl rfl dX12_stepHere_81 ?_
          intro r9 m10
          refine g_ifeq (tgt := 89) dX12_stepHere_84 (by decide) ?_ ?_
          · refine g_aload_n (i := 0) dX12_stepHere_89 rfl rfl ?_
            refine g_iconst (v := (3 : Int32)) dX12_stepHere_90 ki_3 ?_
            refine g_bipush (v := (18 : Int32)) dX12_stepHere_91 kb_18 ?_
            refine g_iconst (v := (1 : Int32)) dX12_stepHere_93 ki_1 ?_
            refine g_bipush (v := (19 : Int32)) dX12_stepHere_94 kb_19 ?_
            refine g_bipush (v := (8 : Int32)) dX12_stepHere_96 kb_8 ?_
            refine g_iconst (v := (0 : Int32)) dX12_stepHere_98 ki_0 ?_
            refine g_callVI cl_X12 (crt_X12_isWord _ _ _ _ _ _ _ _ _ _) cw_X12_isWord (by decide) rfl q_1528 q_1530 qs_44 rfl rfl dX12_stepHere_99 ?_
            intro r11 m12
            refine g_ifeq (tgt := 107) dX12_stepHere_102 (by decide) ?_ ?_
            · refine g_aload_n (i := 0) dX12_stepHere_107 rfl rfl ?_
              refine g_bipush (v := (10 : Int32)) dX12_stepHere_108 kb_10 ?_
              refine g_bipush (v := (15 : Int32)) dX12_stepHere_110 kb_15 ?_
              refine g_bipush (v := (9 : Int32)) dX12_stepHere_112 kb_9 ?_
              refine g_bipush (v := (14 : Int32)) dX12_stepHere_114 kb_14 ?_
              refine g_iconst (v := (0 : Int32)) dX12_stepHere_116 ki_0 ?_
              refine g_iconst (v := (0 : Int32)) dX12_stepHere_117 ki_0 ?_
              refine g_callVI cl_X12 (crt_X12_isWord _ _ _ _ _ _ _ _ _ _) cw_X12_isWord (by decide) rfl q_1528 q_1530 qs_44 rfl rfl dX12_stepHere_118 ?_
              intro r13 m14
              refine g_ifeq (tgt := 127) dX12_stepHere_121 (by decide) ?_ ?_
              · refine g_aload_n (i := 0) dX12_stepHere_127 rfl rfl ?_
                refine g_bipush (v := (16 : Int32)) dX12_stepHere_128 kb_16 ?_
                refine g_iconst (v := (1 : Int32)) dX12_stepHere_130 ki_1 ?_
                refine g_bipush (v := (18 : Int32)) dX12_stepHere_131 kb_18 ?_
                refine g_bipush (v := (20 : Int32)) dX12_stepHere_133 kb_20 ?_
                refine g_iconst (v := (0 : Int32)) dX12_stepHere_135 ki_0 ?_
                refine g_iconst (v := (0 : Int32)) dX12_stepHere_136 ki_0 ?_
                refine g_callVI cl_X12 (crt_X12_isWord _ _ _ _ _ _ _ _ _ _) cw_X12_isWord (by decide) rfl q_1528 q_1530 qs_44 rfl rfl dX12_stepHere_137 ?_
                intro r15 m16
                refine g_ifeq (tgt := 146) dX12_stepHere_140 (by decide) ?_ ?_
                · refine g_aload_n (i := 0) dX12_stepHere_146 rfl rfl ?_
                  refine g_bipush (v := (8 : Int32)) dX12_stepHere_147 kb_8 ?_
                  refine g_bipush (v := (15 : Int32)) dX12_stepHere_149 kb_15 ?_
                  refine g_bipush (v := (12 : Int32)) dX12_stepHere_151 kb_12 ?_
                  refine g_iconst (v := (4 : Int32)) dX12_stepHere_153 ki_4 ?_
                  refine g_iconst (v := (0 : Int32)) dX12_stepHere_154 ki_0 ?_
                  refine g_iconst (v := (0 : Int32)) dX12_stepHere_155 ki_0 ?_
                  refine g_callVI cl_X12 (crt_X12_isWord _ _ _ _ _ _ _ _ _ _) cw_X12_isWord (by decide) rfl q_1528 q_1530 qs_44 rfl rfl dX12_stepHere_156 ?_
                  intro r17 m18
                  refine g_ifeq (tgt := 165) dX12_stepHere_159 (by decide) ?_ ?_
                  · refine g_aload_n (i := 0) dX12_stepHere_165 rfl rfl ?_
                    refine g_bipush (v := (22 : Int32)) dX12_stepHere_166 kb_22 ?_
                    refine g_bipush (v := (9 : Int32)) dX12_stepHere_168 kb_9 ?_
                    refine g_iconst (v := (5 : Int32)) dX12_stepHere_170 ki_5 ?_
                    refine g_bipush (v := (23 : Int32)) dX12_stepHere_171 kb_23 ?_
                    refine g_iconst (v := (0 : Int32)) dX12_stepHere_173 ki_0 ?_
                    refine g_iconst (v := (0 : Int32)) dX12_stepHere_174 ki_0 ?_
                    refine g_callVI cl_X12 (crt_X12_isWord _ _ _ _ _ _ _ _ _ _) cw_X12_isWord (by decide) rfl q_1528 q_1530 qs_44 rfl rfl dX12_stepHere_175 ?_
                    intro r19 m20
                    refine g_ifeq (tgt := 184) dX12_stepHere_178 (by decide) ?_ ?_
                    · refine g_aload_n (i := 0) dX12_stepHere_184 rfl rfl ?_
                      refine g_iconst (v := (1 : Int32)) dX12_stepHere_185 ki_1 ?_
                      refine g_bipush (v := (7 : Int32)) dX12_stepHere_186 kb_7 ?_
                      refine g_iconst (v := (1 : Int32)) dX12_stepHere_188 ki_1 ?_
                      refine g_bipush (v := (9 : Int32)) dX12_stepHere_189 kb_9 ?_
                      refine g_bipush (v := (14 : Int32)) dX12_stepHere_191 kb_14 ?_
                      refine g_iconst (v := (0 : Int32)) dX12_stepHere_193 ki_0 ?_
                      refine g_callVI cl_X12 (crt_X12_isWord _ _ _ _ _ _ _ _ _ _) cw_X12_isWord (by decide) rfl q_1528 q_1530 qs_44 rfl rfl dX12_stepHere_194 ?_
                      intro r21 m22
                      refine g_ifeq (tgt := 205) dX12_stepHere_197 (by decide) ?_ ?_
                      · refine g_iconst (v := (-1 : Int32)) dX12_stepHere_205 ki_m1 ?_
                        exact g_ireturn rfl dX12_stepHere_206
                      · refine g_bipush (v := (10 : Int32)) dX12_stepHere_200 kb_10 ?_
                        refine g_goto (tgt := 206) dX12_stepHere_202 (by decide) ?_
                        exact g_ireturn rfl dX12_stepHere_206
                    · refine g_bipush (v := (9 : Int32)) dX12_stepHere_181 kb_9 ?_
                      exact g_ireturn rfl dX12_stepHere_183
                  · refine g_bipush (v := (8 : Int32)) dX12_stepHere_162 kb_8 ?_
                    exact g_ireturn rfl dX12_stepHere_164
                · refine g_bipush (v := (7 : Int32)) dX12_stepHere_143 kb_7 ?_
                  exact g_ireturn rfl dX12_stepHere_145
              · refine g_bipush (v := (6 : Int32)) dX12_stepHere_124 kb_6 ?_
                exact g_ireturn rfl dX12_stepHere_126
            · refine g_iconst (v := (5 : Int32)) dX12_stepHere_105 ki_5 ?_
              exact g_ireturn rfl dX12_stepHere_106
          · refine g_iconst (v := (4 : Int32)) dX12_stepHere_87 ki_4 ?_
            exact g_ireturn rfl dX12_stepHere_88
        · refine g_iconst (v := (3 : Int32)) dX12_stepHere_68 ki_3 ?_
          exact g_ireturn rfl dX12_stepHere_69
      · refine g_iconst (v := (2 : Int32)) dX12_stepHere_50 ki_2 ?_
        exact g_ireturn rfl dX12_stepHere_51
    · refine g_iconst (v := (1 : Int32)) dX12_stepHere_32 ki_1 ?_
      exact g_ireturn rfl dX12_stepHere_33
  · refine g_iconst (v := (0 : Int32)) dX12_stepHere_15 ki_0 ?_
    exact g_ireturn rfl dX12_stepHere_16
set_option maxRecDepth 100000 in
set_option maxHeartbeats 4000000 in
theorem c_L_X12_book_48 {Z : Zx}  {K172 : Nat → Int32 → Mm → Option (Int32 × Mm)} (hK172 : ∀ (v0 : Nat) (v2 : Int32) (m : Mm), GG Z M_X12_book (PsN Z cvI) 172 [some (.ref v0), none, some (.int v2), none, none, none, none] [] m (K172 v0 v2 m)) : ∀ (n : Nat) (v0 : Nat) (v2 : Int32) (v3 : Int32) (m : Mm), GG Z M_X12_book (PsN Z cvI) 48 [some (.ref v0), none, some (.int v2), some (.int v3), none, none, none] [] m (L_X12_book_48 K172 n v0 v2 v3 m) := by
  intro n
  induction n with
  | zero => intro v0 v2 v3 m; exact g_no
  | succ n ih =>
    intro v0 v2 v3 m
    unfold L_X12_book_48
    refine g_aload_n (i := 0) dX12_book_48 rfl rfl ?_
    refine g_getI (k := 5) cl_X12 (by decide) rfl q_1386 dX12_book_49 ?_
    refine g_ifne (tgt := 172) dX12_book_52 (by decide) ?_ ?_
    · exact g_msk [true, false, true, false, false, false, false] (hK172 _ _ _)
    · refine g_aload_n (i := 0) dX12_book_55 rfl rfl ?_
      refine g_getI (k := 4) cl_X12 (by decide) rfl q_1385 dX12_book_56 ?_
      refine g_aload_n (i := 0) dX12_book_59 rfl rfl ?_
      refine g_getI (k := 2) cl_X12 (by decide) rfl q_1383 dX12_book_60 ?_
      refine g_icmpge (tgt := 172) dX12_book_63 (by decide) ?_ ?_
      · exact g_msk [true, false, true, false, false, false, false] (hK172 _ _ _)
      · refine g_aload_n (i := 0) dX12_book_66 rfl rfl ?_
        refine g_callVV cl_X12 (crt_X12_blanks _ _ _ _) cw_X12_blanks (by decide) rfl q_1516 q_1518 qs_41 rfl rfl dX12_book_67 ?_
        intro r10 m11
        refine g_aload_n (i := 0) dX12_book_70 rfl rfl ?_
        refine g_getI (k := 4) cl_X12 (by decide) rfl q_1385 dX12_book_71 ?_
        refine g_istore dX12_book_74 (show 4 < 7 by decide) ?_
        intro x12
        refine g_aload_n (i := 0) dX12_book_76 rfl rfl ?_
        refine g_iconst (v := (0 : Int32)) dX12_book_77 ki_0 ?_
        refine g_aload_n (i := 0) dX12_book_78 rfl rfl ?_
        refine g_getR (k := 12) cl_X12 (by decide) rfl q_1393 dX12_book_79 ?_
        intro q13
        refine g_iconst (v := (0 : Int32)) dX12_book_82 ki_0 ?_
        refine g_iaload dX12_book_83 ?_
        refine g_iconst (v := (1 : Int32)) dX12_book_84 ki_1 ?_
        refine g_isub dX12_book_85 ?_
        refine g_callVI cl_X12 (crt_X12_number _ _ _ _ _ _) cw_X12_number (by decide) rfl q_1550 q_1552 qs_48 rfl rfl dX12_book_86 ?_
        intro r14 m15
        refine g_istore dX12_book_89 (show 5 < 7 by decide) ?_
        intro x16
        refine g_aload_n (i := 0) dX12_book_91 rfl rfl ?_
        refine g_getI (k := 5) cl_X12 (by decide) rfl q_1386 dX12_book_92 ?_
        refine g_jn (fun J114 => ∀ (v0 : Nat) (v2 : Int32) (v3 : Int32) (v5 : Int32) (m : Mm), GG Z M_X12_book (PsN Z cvI) 114 [some (.ref v0), none, some (.int v2), some (.int v3), none, some (.int v5), none] [] m (J114 v0 v2 v3 v5 m)) ?_ ?_
        · intro v0 v2 v3 v5 m
          refine g_aload_n (i := 0) dX12_book_114 rfl rfl ?_
          refine g_iconst (v := (0 : Int32)) dX12_book_115 ki_0 ?_
          refine g_iconst (v := (1 : Int32)) dX12_book_116 ki_1 ?_
          refine g_callVI cl_X12 (crt_X12_number _ _ _ _ _ _) cw_X12_number (by decide) rfl q_1550 q_1552 qs_48 rfl rfl dX12_book_117 ?_
          intro r17 m18
          refine g_istore dX12_book_120 (show 6 < 7 by decide) ?_
          intro x19
          refine g_aload_n (i := 0) dX12_book_122 rfl rfl ?_
          refine g_bipush (v := (59 : Int32)) dX12_book_123 kb_59 ?_
          refine g_callVV cl_X12 (crt_X12_sign _ _ _ _ _) cw_X12_sign (by decide) rfl q_1558 q_1560 qs_49 rfl rfl dX12_book_125 ?_
          intro r20 m21
          refine g_aload_n (i := 0) dX12_book_128 rfl rfl ?_
          refine g_getI (k := 5) cl_X12 (by decide) rfl q_1386 dX12_book_129 ?_
          refine g_jn (fun J165 => ∀ (v0 : Nat) (v2 : Int32) (v3 : Int32) (m : Mm), GG Z M_X12_book (PsN Z cvI) 165 [some (.ref v0), none, some (.int v2), some (.int v3), none, none, none] [] m (J165 v0 v2 v3 m)) ?_ ?_
          · intro v0 v2 v3 m
            refine g_aload_n (i := 0) dX12_book_165 rfl rfl ?_
            refine g_callVV cl_X12 (crt_X12_blanks _ _ _ _) cw_X12_blanks (by decide) rfl q_1516 q_1518 qs_41 rfl rfl dX12_book_166 ?_
            intro r22 m23
            refine g_goto (tgt := 48) dX12_book_169 (by decide) ?_
            exact g_msk [true, false, true, true, false, false, false] (ih _ _ _ _)
          · intro J165 hJ165
            refine g_ifne (tgt := 165) dX12_book_132 (by decide) ?_ ?_
            · exact g_msk [true, false, true, true, false, false, false] (hJ165 _ _ _ _)
            · refine g_iload_n (i := 3) dX12_book_135 rfl rfl ?_
              refine g_iconst (v := (1 : Int32)) dX12_book_136 ki_1 ?_
              refine g_iload dX12_book_137 rfl ?_
              refine g_ishl dX12_book_139 ?_
              refine g_ior dX12_book_140 ?_
              refine g_istore_n (i := 3) dX12_book_141 rfl (show 3 < 7 by decide) ?_
              intro x24
              refine g_aload_n (i := 0) dX12_book_142 rfl rfl ?_
              refine g_getR (k := 18) cl_X12 (by decide) rfl q_1399 dX12_book_143 ?_
              intro q25
              refine g_iload_n (i := 2) dX12_book_146 rfl rfl ?_
              refine g_aaloadA dX12_book_147 g_no ?_
              intro q26
              refine g_iconst (v := (0 : Int32)) dX12_book_148 ki_0 ?_
              refine g_iload dX12_book_149 rfl ?_
              refine g_iastore dX12_book_151 ?_
              intro m27
              refine g_aload_n (i := 0) dX12_book_152 rfl rfl ?_
              refine g_getR (k := 18) cl_X12 (by decide) rfl q_1399 dX12_book_153 ?_
              intro q28
              refine g_iload_n (i := 2) dX12_book_156 rfl rfl ?_
              refine g_aaloadA dX12_book_157 g_no ?_
              intro q29
              refine g_iconst (v := (1 : Int32)) dX12_book_158 ki_1 ?_
              refine g_iload dX12_book_159 rfl ?_
              refine g_iastore dX12_book_161 ?_
              intro m30
              refine g_iinc dX12_book_162 rfl ki_1 (show 2 < 7 by decide) ?_
              intro x31
              exact g_msk [true, false, true, true, false, false, false] (hJ165 _ _ _ _)
        · intro J114 hJ114
          refine g_ifne (tgt := 114) dX12_book_95 (by decide) ?_ ?_
          · exact g_msk [true, false, true, true, false, true, false] (hJ114 _ _ _ _ _)
          · refine g_iload_n (i := 3) dX12_book_98 rfl rfl ?_
            refine g_iload dX12_book_99 rfl ?_
            refine g_callSI (crt_X12_has _ _ _ _ _) cw_X12_has (by decide) rfl q_1378 q_1379 rfl rfl dX12_book_101 ?_
            intro r32 m33
            refine g_ifeq (tgt := 114) dX12_book_104 (by decide) ?_ ?_
            · exact g_msk [true, false, true, true, false, true, false] (hJ114 _ _ _ _ _)
            · refine g_aload_n (i := 0) dX12_book_107 rfl rfl ?_
              refine g_iconst (v := (2 : Int32)) dX12_book_108 ki_2 ?_
              refine g_iload dX12_book_109 rfl ?_
              refine g_callVV cl_X12 (crt_X12_wrong _ _ _ _ _ _) cw_X12_wrong (by decide) rfl q_1542 q_1544 qs_46 rfl rfl dX12_book_111 ?_
              intro r34 m35
              exact g_msk [true, false, true, true, false, true, false] (hJ114 _ _ _ _ _)
set_option maxRecDepth 100000 in
set_option maxHeartbeats 4000000 in
theorem crt_X12_book (l : Launch) (θ : Th) (a0 : Nat) (a1 : Int32) (m : Mm) : Crt l θ yX12_book M_X12_book cvI [.ref a0, .int a1] m (F_X12_book a0 a1 m) := by
  refine crt_of 5 (by decide) rfl rfl (Nat.le_of_ble_eq_true rfl) (fun Z hμ => ?_)
  unfold F_X12_book
  show GG Z _ _ 0 [some (.ref a0), some (.int a1), none, none, none, none, none] [] m _
  refine g_aload_n (i := 0) dX12_book_0 rfl rfl ?_
  refine g_iconst (v := (0 : Int32)) dX12_book_1 ki_0 ?_
  refine g_putI (k := 0) cl_X12 (by decide) rfl rfl q_1381 dX12_book_2 ?_
  intro m1
  refine g_aload_n (i := 0) dX12_book_5 rfl rfl ?_
  refine g_iload_n (i := 1) dX12_book_6 rfl rfl ?_
  refine g_iconst (v := (0 : Int32)) dX12_book_7 ki_0 ?_
  refine g_aload_n (i := 0) dX12_book_8 rfl rfl ?_
  refine g_getI (k := 1) cl_X12 (by decide) rfl q_1382 dX12_book_9 ?_
  refine g_callSI (crt_X12_in _ _ _ _ _ _) cw_X12_in (by decide) rfl q_1505 q_1506 rfl rfl dX12_book_12 ?_
  intro r2 m3
  refine g_jn (fun J29 => ∀ (v0 : Nat) (v1 : Int32) (s0 : Int32) (s1 : Nat) (m : Mm), GG Z M_X12_book (PsN Z cvI) 29 [some (.ref v0), some (.int v1), none, none, none, none, none] [.int s0, .ref s1] m (J29 v0 v1 s0 s1 m)) ?_ ?_
  · intro v0 v1 s0 s1 m
    refine g_iconst (v := (1 : Int32)) dX12_book_29 ki_1 ?_
    refine g_iconst (v := (1 : Int32)) dX12_book_30 ki_1 ?_
    refine g_callVI cl_X12 (crt_X12_bad _ _ _ _ _ _ _) cw_X12_bad (by decide) rfl q_1508 q_1510 qs_39 rfl rfl dX12_book_31 ?_
    intro r4 m5
    refine g_ifeq (tgt := 39) dX12_book_34 (by decide) ?_ ?_
    · refine g_aload_n (i := 0) dX12_book_39 rfl rfl ?_
      refine g_iload_n (i := 1) dX12_book_40 rfl rfl ?_
      refine g_callVV cl_X12 (crt_X12_starts _ _ _ _ _) cw_X12_starts (by decide) rfl q_1512 q_1514 qs_40 rfl rfl dX12_book_41 ?_
      intro r6 m7
      refine g_iconst (v := (0 : Int32)) dX12_book_44 ki_0 ?_
      refine g_istore_n (i := 2) dX12_book_45 rfl (show 2 < 7 by decide) ?_
      intro x8
      refine g_iconst (v := (0 : Int32)) dX12_book_46 ki_0 ?_
      refine g_istore_n (i := 3) dX12_book_47 rfl (show 3 < 7 by decide) ?_
      intro x9
      refine g_msk [true, false, true, true, false, false, false] (c_L_X12_book_48 ?_ NF _ _ _ _)
      intro v0 v2 m
      refine g_aload_n (i := 0) dX12_book_172 rfl rfl ?_
      refine g_getI (k := 5) cl_X12 (by decide) rfl q_1386 dX12_book_173 ?_
      refine g_ifeq (tgt := 184) dX12_book_176 (by decide) ?_ ?_
      · refine g_aload_n (i := 0) dX12_book_184 rfl rfl ?_
        refine g_iconst (v := (-1 : Int32)) dX12_book_185 ki_m1 ?_
        refine g_putI (k := 3) cl_X12 (by decide) rfl rfl q_1384 dX12_book_186 ?_
        intro m36
        refine g_aload_n (i := 0) dX12_book_189 rfl rfl ?_
        refine g_iload_n (i := 2) dX12_book_190 rfl rfl ?_
        refine g_putI (k := 27) cl_X12 (by decide) rfl rfl q_1408 dX12_book_191 ?_
        intro m37
        refine g_aload_n (i := 0) dX12_book_194 rfl rfl ?_
        refine g_getR (k := 18) cl_X12 (by decide) rfl q_1399 dX12_book_195 ?_
        intro q38
        refine g_aload_n (i := 0) dX12_book_198 rfl rfl ?_
        refine g_getR (k := 17) cl_X12 (by decide) rfl q_1398 dX12_book_199 ?_
        intro q39
        refine g_iload_n (i := 2) dX12_book_202 rfl rfl ?_
        refine g_callSV (crt_X12_lays _ _ _ _ _ _) cw_X12_lays (by decide) rfl q_1602 q_1603 rfl rfl dX12_book_203 ?_
        intro r40 m41
        refine g_iload_n (i := 2) dX12_book_206 rfl rfl ?_
        exact g_ireturn rfl dX12_book_207
      · refine g_aload_n (i := 0) dX12_book_179 rfl rfl ?_
        refine g_callVI cl_X12 (crt_X12_ends _ _ _ _) cw_X12_ends (by decide) rfl q_1562 q_1564 qs_50 rfl rfl dX12_book_180 ?_
        intro r42 m43
        exact g_ireturn rfl dX12_book_183
    · refine g_iconst (v := (0 : Int32)) dX12_book_37 ki_0 ?_
      exact g_ireturn rfl dX12_book_38
  · intro J29 hJ29
    refine g_jn (fun J24 => ∀ (v0 : Nat) (v1 : Int32) (s0 : Nat) (m : Mm), GG Z M_X12_book (PsN Z cvI) 24 [some (.ref v0), some (.int v1), none, none, none, none, none] [.ref s0] m (J24 v0 v1 s0 m)) ?_ ?_
    · intro v0 v1 s0 m
      refine g_iconst (v := (1 : Int32)) dX12_book_24 ki_1 ?_
      refine g_goto (tgt := 29) dX12_book_25 (by decide) ?_
      exact g_msk [true, true, false, false, false, false, false] (hJ29 _ _ _ _ _)
    · intro J24 hJ24
      refine g_ifeq (tgt := 24) dX12_book_15 (by decide) ?_ ?_
      · exact g_msk [true, true, false, false, false, false, false] (hJ24 _ _ _ _)
      · refine g_iload_n (i := 1) dX12_book_18 rfl rfl ?_
        refine g_bipush (v := (60 : Int32)) dX12_book_19 kb_60 ?_
        refine g_icmple (tgt := 28) dX12_book_21 (by decide) ?_ ?_
        · refine g_iconst (v := (0 : Int32)) dX12_book_28 ki_0 ?_
          exact g_msk [true, true, false, false, false, false, false] (hJ29 _ _ _ _ _)
        · exact g_msk [true, true, false, false, false, false, false] (hJ24 _ _ _ _)
set_option maxRecDepth 100000 in
set_option maxHeartbeats 4000000 in
theorem crt_X12_fault (l : Launch) (θ : Th) (a0 : Nat) (m : Mm) : Crt l θ yX12_fault M_X12_fault cvI [.ref a0] m (F_X12_fault a0 m) := by
  refine crt_of 0 (by decide) rfl rfl (Nat.le_of_ble_eq_true rfl) (fun Z hμ => ?_)
  unfold F_X12_fault
  show GG Z _ _ 0 [some (.ref a0)] [] m _
  refine g_aload_n (i := 0) dX12_fault_0 rfl rfl ?_
  refine g_iconst (v := (0 : Int32)) dX12_fault_1 ki_0 ?_
  refine g_putI (k := 0) cl_X12 (by decide) rfl rfl q_1381 dX12_fault_2 ?_
  intro m1
  refine g_aload_n (i := 0) dX12_fault_5 rfl rfl ?_
  refine g_getI (k := 3) cl_X12 (by decide) rfl q_1384 dX12_fault_6 ?_
  exact g_ireturn rfl dX12_fault_9
set_option maxRecDepth 100000 in
set_option maxHeartbeats 4000000 in
theorem crt_X12_wide (l : Launch) (θ : Th) (a0 : Nat) (a1 : Int32) (m : Mm) : Crt l θ yX12_wide M_X12_wide cvL [.ref a0, .int a1] m (F_X12_wide a0 a1 m) := by
  refine crt_of 0 (by decide) rfl rfl (Nat.le_of_ble_eq_true rfl) (fun Z hμ => ?_)
  unfold F_X12_wide
  show GG Z _ _ 0 [some (.ref a0), some (.int a1)] [] m _
  refine g_aload_n (i := 0) dX12_wide_0 rfl rfl ?_
  refine g_iload_n (i := 1) dX12_wide_1 rfl rfl ?_
  refine g_iaload dX12_wide_2 ?_
  refine g_i2l dX12_wide_3 ?_
  refine g_bipush (v := (32 : Int32)) dX12_wide_4 kb_32 ?_
  refine g_lshl dX12_wide_6 ?_
  refine g_aload_n (i := 0) dX12_wide_7 rfl rfl ?_
  refine g_iload_n (i := 1) dX12_wide_8 rfl rfl ?_
  refine g_iconst (v := (1 : Int32)) dX12_wide_9 ki_1 ?_
  refine g_iadd dX12_wide_10 ?_
  refine g_iaload dX12_wide_11 ?_
  refine g_i2l dX12_wide_12 ?_
  refine g_ldc2 (v := (4294967295 : Int64)) dX12_wide_13 q_1652 ?_
  refine g_land dX12_wide_16 ?_
  refine g_lor dX12_wide_17 ?_
  exact g_lreturn rfl dX12_wide_18
set_option maxRecDepth 100000 in
set_option maxHeartbeats 4000000 in
theorem crt_X12_widens (l : Launch) (θ : Th) (a0 : Nat) (a1 : Int32) (a2 : Int64) (m : Mm) : Crt l θ yX12_widens M_X12_widens cvV [.ref a0, .int a1, .long a2] m (F_X12_widens a0 a1 a2 m) := by
  refine crt_of 0 (by decide) rfl rfl (Nat.le_of_ble_eq_true rfl) (fun Z hμ => ?_)
  unfold F_X12_widens
  show GG Z _ _ 0 [some (.ref a0), some (.int a1), some (.long a2), none] [] m _
  refine g_aload_n (i := 0) dX12_widens_0 rfl rfl ?_
  refine g_iload_n (i := 1) dX12_widens_1 rfl rfl ?_
  refine g_lload_n (i := 2) dX12_widens_2 rfl rfl ?_
  refine g_bipush (v := (32 : Int32)) dX12_widens_3 kb_32 ?_
  refine g_lshr dX12_widens_5 ?_
  refine g_l2i dX12_widens_6 ?_
  refine g_iastore dX12_widens_7 ?_
  intro m1
  refine g_aload_n (i := 0) dX12_widens_8 rfl rfl ?_
  refine g_iload_n (i := 1) dX12_widens_9 rfl rfl ?_
  refine g_iconst (v := (1 : Int32)) dX12_widens_10 ki_1 ?_
  refine g_iadd dX12_widens_11 ?_
  refine g_lload_n (i := 2) dX12_widens_12 rfl rfl ?_
  refine g_l2i dX12_widens_13 ?_
  refine g_iastore dX12_widens_14 ?_
  intro m2
  exact g_return rfl dX12_widens_15
