def F_X12_knows (a0 : Nat) (a1 : Int32) (a2 : Int32) (m : Mm) : Option (Int32 × Mm) :=
 gd (okO m a0 12) (lt9 (wI m a0 0 (0 : Int32)) fun m1 =>
 gd (okO m1 a0 12) (bd (F_X12_isMember a0 a1 m1) fun r2 m3 =>
 jn (fun (v0 : Nat) (v1 : Int32) (v2 : Int32) (s0 : Int32) (s1 : Nat) (m : Mm) =>
 gd (okO m s1 12) (bd (F_X12_bad s1 s0 (1 : Int32) (0 : Int32) m) fun r4 m5 =>
 if r4 = 0 then (
 gd (okO m5 v0 12) (oc (rR m5 v0 23) none fun q6 =>
 bd (F_X12_knownOf v1 v2 m5) fun r7 m8 =>
 gd (okA m8 100 q6 r7) (
 some ((rI m8 q6 (ix r7)), m8))))
 else (
 some ((0 : Int32), m5)))) fun J27 =>
 jn (fun (v0 : Nat) (v1 : Int32) (v2 : Int32) (s0 : Nat) (m : Mm) =>
 J27 v0 v1 v2 (1 : Int32) s0 m) fun J22 =>
 if r2 = 0 then (
 J22 a0 a1 a2 a0 m3)
 else (
 gd (okO m3 a0 12) (bd (F_X12_isMember a0 a2 m3) fun r9 m10 =>
 if r9 = 0 then (
 J22 a0 a1 a2 a0 m10)
 else (
 J27 a0 a1 a2 (0 : Int32) a0 m10)))))
def F_X12_stable (a0 : Nat) (a1 : Int32) (m : Mm) : Option (Int32 × Mm) :=
 gd (okO m a0 12) (lt9 (wI m a0 0 (0 : Int32)) fun m1 =>
 gd (okO m1 a0 12) (bd (F_X12_isMember a0 a1 m1) fun r2 m3 =>
 jn (fun (v0 : Nat) (v1 : Int32) (s0 : Int32) (s1 : Nat) (m : Mm) =>
 gd (okO m s1 12) (bd (F_X12_bad s1 s0 (1 : Int32) (0 : Int32) m) fun r4 m5 =>
 if r4 = 0 then (
 gd (okO m5 v0 12) (oc (rR m5 v0 23) none fun q6 =>
 gd (okO m5 v0 12) (bd (F_X12_stableBy v0 q6 v1 m5) fun r7 m8 =>
 some (r7, m8))))
 else (
 some ((0 : Int32), m5)))) fun J19 =>
 if r2 = 0 then (
 J19 a0 a1 (1 : Int32) a0 m3)
 else (
 J19 a0 a1 (0 : Int32) a0 m3)))
def F_X12_would (a0 : Nat) (a1 : Int32) (a2 : Int32) (a3 : Int32) (a4 : Int32) (m : Mm) : Option (Int32 × Mm) :=
 gd (okO m a0 12) (lt9 (wI m a0 0 (0 : Int32)) fun m1 =>
 bd (F_X12_in a1 (0 : Int32) (5 : Int32) m1) fun r2 m3 =>
 jn (fun (v0 : Nat) (v1 : Int32) (v2 : Int32) (v3 : Int32) (v4 : Int32) (s0 : Int32) (s1 : Nat) (m : Mm) =>
 gd (okO m s1 12) (bd (F_X12_bad s1 s0 (1 : Int32) (1 : Int32) m) fun r4 m5 =>
 if r4 = 0 then (
 gd (okO m5 v0 12) (bd (F_X12_weightBy v0 v1 v2 v3 v4 m5) fun r6 m7 =>
 some (r6, m7)))
 else (
 some ((0 : Int32), m5)))) fun J53 =>
 jn (fun (v0 : Nat) (v1 : Int32) (v2 : Int32) (v3 : Int32) (v4 : Int32) (s0 : Nat) (m : Mm) =>
 J53 v0 v1 v2 v3 v4 (1 : Int32) s0 m) fun J48 =>
 if r2 = 0 then (
 J48 a0 a1 a2 a3 a4 a0 m3)
 else (
 bd (F_X12_in a2 (0 : Int32) (9999 : Int32) m3) fun r8 m9 =>
 if r8 = 0 then (
 J48 a0 a1 a2 a3 a4 a0 m9)
 else (
 bd (F_X12_in a3 (0 : Int32) (9999 : Int32) m9) fun r10 m11 =>
 if r10 = 0 then (
 J48 a0 a1 a2 a3 a4 a0 m11)
 else (
 bd (F_X12_in a4 (0 : Int32) (6 : Int32) m11) fun r12 m13 =>
 if r12 = 0 then (
 J48 a0 a1 a2 a3 a4 a0 m13)
 else (
 J53 a0 a1 a2 a3 a4 (0 : Int32) a0 m13)))))
def F_X12_primary (a0 : Nat) (m : Mm) : Option (Int32 × Mm) :=
 gd (okO m a0 12) (lt9 (wI m a0 0 (0 : Int32)) fun m1 =>
 gd (okO m1 a0 12) (oc (rR m1 a0 23) none fun q2 =>
 gd (okO m1 a0 12) (bd (F_X12_primaryOf a0 q2 m1) fun r3 m4 =>
 some (r3, m4))))
def F_X12_missing (a0 : Nat) (a1 : Int32) (m : Mm) : Option (Int32 × Mm) :=
 gd (okO m a0 12) (lt9 (wI m a0 0 (0 : Int32)) fun m1 =>
 gd (okO m1 a0 12) (bd (F_X12_isMember a0 a1 m1) fun r2 m3 =>
 jn (fun (v0 : Nat) (v1 : Int32) (s0 : Int32) (s1 : Nat) (m : Mm) =>
 gd (okO m s1 12) (bd (F_X12_bad s1 s0 (1 : Int32) (0 : Int32) m) fun r4 m5 =>
 if r4 = 0 then (
 gd (okO m5 v0 12) (oc (rR m5 v0 23) none fun q6 =>
 gd (okO m5 v0 12) (bd (F_X12_missingOf v0 q6 v1 m5) fun r7 m8 =>
 some (r7, m8))))
 else (
 some ((0 : Int32), m5)))) fun J19 =>
 if r2 = 0 then (
 J19 a0 a1 (1 : Int32) a0 m3)
 else (
 J19 a0 a1 (0 : Int32) a0 m3)))
def L_X12_lost_36  : Nat → Nat → Int32 → Int32 → Int32 → Mm → Option (Int32 × Mm)
 | 0, _, _, _, _, _ => none
 | n + 1, v0, v1, v2, v3, m =>
 gd (okO m v0 12) (oc (rR m v0 12) none fun q9 =>
 gd (okA m 100 q9 (0 : Int32)) (
 if (rI m q9 (ix (0 : Int32))) ≤ v3 then (
 some (v2, m))
 else (
 bd (F_X12_has v1 v3 m) fun r10 m11 =>
 jn (fun (v0 : Nat) (v1 : Int32) (v3 : Int32) (s0 : Int32) (s1 : Int32) (m : Mm) =>
 lt9 (s1 &&& s0) fun x12 =>
 lt9 (v3 + (1 : Int32)) fun x13 =>
 L_X12_lost_36 n v0 v1 x12 x13 m) fun J70 =>
 if r10 = 0 then (
 J70 v0 v1 v3 v2 v2 m11)
 else (
 gd (okO m11 v0 12) (oc (rR m11 v0 23) none fun q14 =>
 gd (okA m11 100 q14 ((12 : Int32) + v3)) (
 J70 v0 v1 v3 ((rI m11 q14 (ix ((12 : Int32) + v3))) ^^^ (-1 : Int32)) v2 m11))))))
def F_X12_lost (a0 : Nat) (m : Mm) : Option (Int32 × Mm) :=
 gd (okO m a0 12) (lt9 (wI m a0 0 (0 : Int32)) fun m1 =>
 gd (okO m1 a0 12) (oc (rR m1 a0 23) none fun q2 =>
 gd (okO m1 a0 12) (bd (F_X12_primaryOf a0 q2 m1) fun r3 m4 =>
 lt9 r3 fun x5 =>
 gd (okO m4 a0 12) (oc (rR m4 a0 23) none fun q6 =>
 gd (okA m4 100 q6 (187 : Int32)) (
 lt9 (((1 : Int32) <<< ((rI m4 q6 (ix (187 : Int32))) &&& 31)) - (1 : Int32)) fun x7 =>
 if x5 = (-1 : Int32) then (
 some ((0 : Int32), m4))
 else (
 lt9 (0 : Int32) fun x8 =>
 L_X12_lost_36 NF a0 x5 x7 x8 m4))))))
def L_X12_fall_27  : Nat → Nat → Int32 → Int32 → Int32 → Mm → Option (Int32 × Mm)
 | 0, _, _, _, _, _ => none
 | n + 1, v0, v1, v2, v3, m =>
 gd (okO m v0 12) (oc (rR m v0 12) none fun q7 =>
 gd (okA m 100 q7 (0 : Int32)) (
 if ((1 : Int32) <<< ((rI m q7 (ix (0 : Int32))) &&& 31)) ≤ v3 then (
 some (v2, m))
 else (
 jn (fun (v0 : Nat) (v1 : Int32) (v2 : Int32) (v3 : Int32) (m : Mm) =>
 lt9 (v3 + (1 : Int32)) fun x8 =>
 L_X12_fall_27 n v0 v1 v2 x8 m) fun J93 =>
 if (v3 &&& (v1 ^^^ (-1 : Int32))) = 0 then (
 jn (fun (v0 : Nat) (v1 : Int32) (v2 : Int32) (v3 : Int32) (m : Mm) =>
 gd (okO m v0 12) (oc (rR m v0 23) none fun q9 =>
 gd (okO m v0 12) (oc (rR m v0 23) none fun q10 =>
 gd (okA m 100 q10 (180 : Int32)) (
 gd (okO m v0 12) (bd (F_X12_primaryBy v0 q9 (rI m q10 (ix (180 : Int32))) (v1 &&& (v3 ^^^ (-1 : Int32))) m) fun r11 m12 =>
 if r11 = (-1 : Int32) then (
 bd (F_X12_ones v3 m12) fun r13 m14 =>
 lt9 r13 fun x15 =>
 J93 v0 v1 x15 v3 m14)
 else (
 J93 v0 v1 v2 v3 m12)))))) fun J63 =>
 if v2 = (-1 : Int32) then (
 J63 v0 v1 v2 v3 m)
 else (
 bd (F_X12_ones v3 m) fun r16 m17 =>
 if r16 < v2 then (
 J63 v0 v1 v2 v3 m17)
 else (
 J93 v0 v1 v2 v3 m17)))
 else (
 J93 v0 v1 v2 v3 m))))
def F_X12_fall (a0 : Nat) (m : Mm) : Option (Int32 × Mm) :=
 gd (okO m a0 12) (lt9 (wI m a0 0 (0 : Int32)) fun m1 =>
 gd (okO m1 a0 12) (oc (rR m1 a0 23) none fun q2 =>
 gd (okA m1 100 q2 (184 : Int32)) (
 gd (okO m1 a0 12) (oc (rR m1 a0 23) none fun q3 =>
 gd (okA m1 100 q3 (183 : Int32)) (
 lt9 ((rI m1 q2 (ix (184 : Int32))) &&& (rI m1 q3 (ix (183 : Int32)))) fun x4 =>
 lt9 (-1 : Int32) fun x5 =>
 lt9 (0 : Int32) fun x6 =>
 L_X12_fall_27 NF a0 x4 x5 x6 m1)))))
def F_X12_primaryIf (a0 : Nat) (a1 : Int32) (m : Mm) : Option (Int32 × Mm) :=
 gd (okO m a0 12) (oc (rR m a0 23) none fun q1 =>
 gd (okO m a0 12) (oc (rR m a0 23) none fun q2 =>
 gd (okA m 100 q2 (184 : Int32)) (
 gd (okO m a0 12) (oc (rR m a0 23) none fun q3 =>
 gd (okA m 100 q3 (183 : Int32)) (
 gd (okO m a0 12) (bd (F_X12_primaryBy a0 q1 a1 ((rI m q2 (ix (184 : Int32))) &&& (rI m q3 (ix (183 : Int32)))) m) fun r4 m5 =>
 some (r4, m5)))))))
def L_X12_splits_9  : Nat → Nat → Int32 → Int32 → Mm → Option (Int32 × Mm)
 | 0, _, _, _, _ => none
 | n + 1, v0, v1, v2, m =>
 gd (okO m v0 12) (oc (rR m v0 12) none fun q4 =>
 gd (okA m 100 q4 (0 : Int32)) (
 if ((1 : Int32) <<< ((rI m q4 (ix (0 : Int32))) &&& 31)) ≤ v2 then (
 some (v1, m))
 else (
 gd (okO m v0 12) (bd (F_X12_primaryIf v0 v2 m) fun r5 m6 =>
 jn (fun (v0 : Nat) (v2 : Int32) (s0 : Int32) (s1 : Int32) (m : Mm) =>
 lt9 (s1 + s0) fun x7 =>
 lt9 (v2 + (1 : Int32)) fun x8 =>
 L_X12_splits_9 n v0 x7 x8 m) fun J36 =>
 if r5 = (-1 : Int32) then (
 J36 v0 v2 (1 : Int32) v1 m6)
 else (
 J36 v0 v2 (0 : Int32) v1 m6)))))
def F_X12_splits (a0 : Nat) (m : Mm) : Option (Int32 × Mm) :=
 gd (okO m a0 12) (lt9 (wI m a0 0 (0 : Int32)) fun m1 =>
 lt9 (0 : Int32) fun x2 =>
 lt9 (0 : Int32) fun x3 =>
 L_X12_splits_9 NF a0 x2 x3 m1)
def L_X12_hasToTell_2  : Nat → Nat → Int32 → Int32 → Mm → Option (Int32 × Mm)
 | 0, _, _, _, _ => none
 | n + 1, v0, v1, v2, m =>
 gd (okO m v0 12) (oc (rR m v0 12) none fun q2 =>
 gd (okA m 100 q2 (0 : Int32)) (
 if (rI m q2 (ix (0 : Int32))) ≤ v2 then (
 some ((0 : Int32), m))
 else (
 gd (okO m v0 12) (oc (rR m v0 23) none fun q3 =>
 bd (F_X12_isInside q3 v2 m) fun r4 m5 =>
 jn (fun (v0 : Nat) (v1 : Int32) (v2 : Int32) (m : Mm) =>
 lt9 (v2 + (1 : Int32)) fun x6 =>
 L_X12_hasToTell_2 n v0 v1 x6 m) fun J66 =>
 if r4 = 0 then (
 J66 v0 v1 v2 m5)
 else (
 gd (okO m5 v0 12) (oc (rR m5 v0 23) none fun q7 =>
 gd (okA m5 100 q7 (180 : Int32)) (
 bd (F_X12_reaches (rI m5 q7 (ix (180 : Int32))) v1 v2 m5) fun r8 m9 =>
 if r8 = 0 then (
 J66 v0 v1 v2 m9)
 else (
 gd (okO m9 v0 12) (oc (rR m9 v0 23) none fun q10 =>
 gd (okA m9 100 q10 ((12 : Int32) + v1)) (
 gd (okO m9 v0 12) (oc (rR m9 v0 23) none fun q11 =>
 bd (F_X12_knownOf v2 v1 m9) fun r12 m13 =>
 gd (okA m13 100 q11 r12) (
 if ((rI m9 q10 (ix ((12 : Int32) + v1))) &&& ((rI m13 q11 (ix r12)) ^^^ (-1 : Int32))) = 0 then (
 J66 v0 v1 v2 m13)
 else (
 some ((1 : Int32), m13))))))))))))))
def F_X12_hasToTell (a0 : Nat) (a1 : Int32) (m : Mm) : Option (Int32 × Mm) :=
 lt9 (0 : Int32) fun x1 =>
 L_X12_hasToTell_2 NF a0 a1 x1 m
def L_X12_tells_9  : Nat → Nat → Int32 → Int32 → Mm → Option (Int32 × Mm)
 | 0, _, _, _, _ => none
 | n + 1, v0, v1, v2, m =>
 gd (okO m v0 12) (oc (rR m v0 12) none fun q4 =>
 gd (okA m 100 q4 (0 : Int32)) (
 if (rI m q4 (ix (0 : Int32))) ≤ v2 then (
 some (v1, m))
 else (
 gd (okO m v0 12) (oc (rR m v0 23) none fun q5 =>
 bd (F_X12_isInside q5 v2 m) fun r6 m7 =>
 jn (fun (v0 : Nat) (v2 : Int32) (s0 : Int32) (s1 : Int32) (m : Mm) =>
 lt9 (s1 + s0) fun x8 =>
 lt9 (v2 + (1 : Int32)) fun x9 =>
 L_X12_tells_9 n v0 x8 x9 m) fun J44 =>
 jn (fun (v0 : Nat) (v2 : Int32) (s0 : Int32) (m : Mm) =>
 J44 v0 v2 (0 : Int32) s0 m) fun J43 =>
 if r6 = 0 then (
 J43 v0 v2 v1 m7)
 else (
 gd (okO m7 v0 12) (bd (F_X12_hasToTell v0 v2 m7) fun r10 m11 =>
 if r10 = 0 then (
 J43 v0 v2 v1 m11)
 else (
 J44 v0 v2 (1 : Int32) v1 m11)))))))
def F_X12_tells (a0 : Nat) (m : Mm) : Option (Int32 × Mm) :=
 gd (okO m a0 12) (lt9 (wI m a0 0 (0 : Int32)) fun m1 =>
 lt9 (0 : Int32) fun x2 =>
 lt9 (0 : Int32) fun x3 =>
 L_X12_tells_9 NF a0 x2 x3 m1)
def F_X12_next (a0 : Nat) (a1 : Int32) (m : Mm) : Option (Int32 × Mm) :=
 gd (okO m a0 12) (lt9 (wI m a0 0 (0 : Int32)) fun m1 =>
 gd (okO m1 a0 12) (bd (F_X12_isMember a0 a1 m1) fun r2 m3 =>
 jn (fun (v0 : Nat) (v1 : Int32) (s0 : Int32) (s1 : Nat) (m : Mm) =>
 gd (okO m s1 12) (bd (F_X12_bad s1 s0 (1 : Int32) (0 : Int32) m) fun r4 m5 =>
 if r4 = 0 then (
 gd (okO m5 v0 12) (oc (rR m5 v0 23) none fun q6 =>
 gd (okO m5 v0 12) (bd (F_X12_nextOf v0 q6 v1 (0 : Int32) m5) fun r7 m8 =>
 some (r7, m8))))
 else (
 some ((0 : Int32), m5)))) fun J19 =>
 if r2 = 0 then (
 J19 a0 a1 (1 : Int32) a0 m3)
 else (
 J19 a0 a1 (0 : Int32) a0 m3)))
def F_X12_held (a0 : Nat) (a1 : Int32) (a2 : Int32) (m : Mm) : Option (Int32 × Mm) :=
 gd (okO m a0 12) (lt9 (wI m a0 0 (0 : Int32)) fun m1 =>
 gd (okO m1 a0 12) (bd (F_X12_isMember a0 a1 m1) fun r2 m3 =>
 jn (fun (v0 : Nat) (v1 : Int32) (v2 : Int32) (s0 : Int32) (s1 : Nat) (m : Mm) =>
 gd (okO m s1 12) (bd (F_X12_bad s1 s0 (1 : Int32) (0 : Int32) m) fun r4 m5 =>
 if r4 = 0 then (
 jn (fun (v0 : Nat) (v1 : Int32) (v2 : Int32) (s0 : Int32) (s1 : Nat) (m : Mm) =>
 gd (okO m s1 12) (bd (F_X12_bad s1 s0 (2 : Int32) (1 : Int32) m) fun r6 m7 =>
 if r6 = 0 then (
 gd (okO m7 v0 12) (oc (rR m7 v0 23) none fun q8 =>
 gd (okA m7 100 q8 ((30 : Int32) + v1)) (
 if (rI m7 q8 (ix ((30 : Int32) + v1))) ≤ v2 then (
 some ((-1 : Int32), m7))
 else (
 gd (okO m7 v0 12) (oc (rR m7 v0 23) none fun q9 =>
 gd (okA m7 100 q9 (((72 : Int32) + ((8 : Int32) * v1)) + v2)) (
 some ((rI m7 q9 (ix (((72 : Int32) + ((8 : Int32) * v1)) + v2))), m7)))))))
 else (
 some ((0 : Int32), m7)))) fun J37 =>
 if 0 ≤ v2 then (
 J37 v0 v1 v2 (0 : Int32) v0 m5)
 else (
 J37 v0 v1 v2 (1 : Int32) v0 m5))
 else (
 some ((0 : Int32), m5)))) fun J19 =>
 if r2 = 0 then (
 J19 a0 a1 a2 (1 : Int32) a0 m3)
 else (
 J19 a0 a1 a2 (0 : Int32) a0 m3)))
def L_X12_agreeBy_23  : Nat → Nat → Nat → Int32 → Int32 → Int32 → Mm → Option (Int32 × Mm)
 | 0, _, _, _, _, _, _ => none
 | n + 1, v0, v1, v2, v3, v4, m =>
 gd (okO m v0 12) (oc (rR m v0 12) none fun q8 =>
 gd (okA m 100 q8 (0 : Int32)) (
 if (rI m q8 (ix (0 : Int32))) ≤ v4 then (
 gd (decide (v3 = 0 ∨ v3 = 1)) (some (v3, m)))
 else (
 bd (F_X12_has v2 v4 m) fun r9 m10 =>
 jn (fun (v0 : Nat) (v1 : Nat) (v2 : Int32) (v4 : Int32) (s0 : Int32) (s1 : Int32) (m : Mm) =>
 lt9 (s1 &&& s0) fun x11 =>
 lt9 (v4 + (1 : Int32)) fun x12 =>
 L_X12_agreeBy_23 n v0 v1 v2 x11 x12 m) fun J79 =>
 jn (fun (v0 : Nat) (v1 : Nat) (v2 : Int32) (v4 : Int32) (s0 : Int32) (m : Mm) =>
 J79 v0 v1 v2 v4 (1 : Int32) s0 m) fun J74 =>
 if r9 = 0 then (
 J74 v0 v1 v2 v4 v3 m10)
 else (
 bd (F_X12_wide v1 ((188 : Int32) + ((2 : Int32) * v4)) m10) fun r13 m14 =>
 bd (F_X12_least v2 m14) fun r15 m16 =>
 bd (F_X12_wide v1 ((188 : Int32) + ((2 : Int32) * r15)) m16) fun r17 m18 =>
 if (lg_cmp r13 r17) = 0 then (
 J74 v0 v1 v2 v4 v3 m18)
 else (
 J79 v0 v1 v2 v4 (0 : Int32) v3 m18)))))
def F_X12_agreeBy (a0 : Nat) (a1 : Nat) (m : Mm) : Option (Int32 × Mm) :=
 gd (okO m a0 12) (bd (F_X12_survivors a0 a1 m) fun r1 m2 =>
 lt9 r1 fun x3 =>
 if x3 = 0 then (
 some ((1 : Int32), m2))
 else (
 gd (okO m2 a0 12) (bd (F_X12_flushes a0 a1 x3 m2) fun r4 m5 =>
 lt9 (1 : Int32) fun x6 =>
 lt9 (0 : Int32) fun x7 =>
 L_X12_agreeBy_23 NF a0 a1 x3 x6 x7 m5)))
def F_X12_agree (a0 : Nat) (m : Mm) : Option (Int32 × Mm) :=
 gd (okO m a0 12) (lt9 (wI m a0 0 (0 : Int32)) fun m1 =>
 gd (okO m1 a0 12) (oc (rR m1 a0 23) none fun q2 =>
 gd (okO m1 a0 12) (oc (rR m1 a0 24) none fun q3 =>
 bd (F_X12_copies q2 q3 m1) fun r4 m5 =>
 gd (okO m5 a0 12) (oc (rR m5 a0 24) none fun q6 =>
 gd (okO m5 a0 12) (bd (F_X12_agreeBy a0 q6 m5) fun r7 m8 =>
 gd (decide (r7 = 0 ∨ r7 = 1)) (some (r7, m8)))))))
def L_X12_isSo_8  : Nat → Nat → Int32 → Int32 → Mm → Option (Int32 × Mm)
 | 0, _, _, _, _ => none
 | n + 1, v0, v2, v3, m =>
 gd (okO m v0 12) (
 if (rI m v0 27) ≤ v3 then (
 some ((1 : Int32), m))
 else (
 jn (fun (v0 : Nat) (v2 : Int32) (v3 : Int32) (s0 : Int32) (m : Mm) =>
 gd (okO m v0 12) (oc (rR m v0 17) none fun q5 =>
 gd (okA m 106 q5 v3) (oc (rR m q5 (ix v3)) none fun q6 =>
 gd (okA m 100 q6 (1 : Int32)) (
 if s0 = (rI m q6 (ix (1 : Int32))) then (
 lt9 (v3 + (1 : Int32)) fun x7 =>
 L_X12_isSo_8 n v0 v2 x7 m)
 else (
 some ((0 : Int32), m)))))) fun J41 =>
 jn (fun (v0 : Nat) (v2 : Int32) (v3 : Int32) (m : Mm) =>
 J41 v0 v2 v3 (0 : Int32) m) fun J40 =>
 if v2 = (-1 : Int32) then (
 J40 v0 v2 v3 m)
 else (
 gd (okO m v0 12) (oc (rR m v0 17) none fun q8 =>
 gd (okA m 106 q8 v3) (oc (rR m q8 (ix v3)) none fun q9 =>
 gd (okA m 100 q9 (0 : Int32)) (
 bd (F_X12_has v2 (rI m q9 (ix (0 : Int32))) m) fun r10 m11 =>
 if r10 = 0 then (
 J40 v0 v2 v3 m11)
 else (
 J41 v0 v2 v3 (1 : Int32) m11)))))))
def F_X12_isSo (a0 : Nat) (a1 : Int32) (m : Mm) : Option (Int32 × Mm) :=
 gd (okO m a0 12) (bd (F_X12_primaryIf a0 a1 m) fun r1 m2 =>
 lt9 r1 fun x3 =>
 lt9 (0 : Int32) fun x4 =>
 L_X12_isSo_8 NF a0 x3 x4 m2)
def L_X12_fits_37 (K82 : Int32 → Int32 → Int32 → Mm → Option (Int32 × Mm)) : Nat → Nat → Int32 → Int32 → Int32 → Int32 → Mm → Option (Int32 × Mm)
 | 0, _, _, _, _, _, _ => none
 | n + 1, v0, v1, v2, v3, v4, m =>
 gd (okO m v0 12) (oc (rR m v0 12) none fun q9 =>
 gd (okA m 100 q9 (0 : Int32)) (
 if ((1 : Int32) <<< ((rI m q9 (ix (0 : Int32))) &&& 31)) ≤ v4 then (
 K82 v1 v2 v3 m)
 else (
 gd (okO m v0 12) (bd (F_X12_isSo v0 v4 m) fun r10 m11 =>
 jn (fun (v0 : Nat) (v1 : Int32) (v2 : Int32) (v3 : Int32) (v4 : Int32) (m : Mm) =>
 lt9 (v4 + (1 : Int32)) fun x12 =>
 L_X12_fits_37 K82 n v0 v1 v2 v3 x12 m) fun J76 =>
 if r10 = 0 then (
 J76 v0 v1 v2 v3 v4 m11)
 else (
 jn (fun (v0 : Nat) (v1 : Int32) (v2 : Int32) (v4 : Int32) (s0 : Int32) (m : Mm) =>
 lt9 s0 fun x13 =>
 lt9 (v2 + (1 : Int32)) fun x14 =>
 J76 v0 v1 x14 x13 v4 m) fun J72 =>
 if v2 = 0 then (
 J72 v0 v1 v2 v4 v4 m11)
 else (
 J72 v0 v1 v2 v4 v3 m11))))))
def F_X12_fits (a0 : Nat) (a1 : Int32) (m : Mm) : Option (Int32 × Mm) :=
 gd (okO m a0 12) (lt9 (wI m a0 0 (0 : Int32)) fun m1 =>
 bd (F_X12_in a1 (0 : Int32) (1 : Int32) m1) fun r2 m3 =>
 jn (fun (v0 : Nat) (v1 : Int32) (s0 : Int32) (s1 : Nat) (m : Mm) =>
 gd (okO m s1 12) (bd (F_X12_bad s1 s0 (1 : Int32) (1 : Int32) m) fun r4 m5 =>
 if r4 = 0 then (
 lt9 (0 : Int32) fun x6 =>
 lt9 (-1 : Int32) fun x7 =>
 lt9 (0 : Int32) fun x8 =>
 L_X12_fits_37 (fun v1 v2 v3 m =>
 if v1 = 0 then (
 some (v2, m))
 else (
 some (v3, m))) NF v0 v1 x6 x7 x8 m5)
 else (
 some ((0 : Int32), m5)))) fun J20 =>
 if r2 = 0 then (
 J20 a0 a1 (1 : Int32) a0 m3)
 else (
 J20 a0 a1 (0 : Int32) a0 m3))
def L_X12_isTold_2  : Nat → Nat → Int32 → Int32 → Mm → Option (Int32 × Mm)
 | 0, _, _, _, _ => none
 | n + 1, v0, v1, v2, m =>
 gd (okO m v0 12) (
 if (rI m v0 27) ≤ v2 then (
 some ((0 : Int32), m))
 else (
 gd (okO m v0 12) (oc (rR m v0 17) none fun q2 =>
 gd (okA m 106 q2 v2) (oc (rR m q2 (ix v2)) none fun q3 =>
 gd (okA m 100 q3 (0 : Int32)) (
 if (rI m q3 (ix (0 : Int32))) = v1 then (
 some ((1 : Int32), m))
 else (
 lt9 (v2 + (1 : Int32)) fun x4 =>
 L_X12_isTold_2 n v0 v1 x4 m))))))
def F_X12_isTold (a0 : Nat) (a1 : Int32) (m : Mm) : Option (Int32 × Mm) :=
 lt9 (0 : Int32) fun x1 =>
 L_X12_isTold_2 NF a0 a1 x1 m
def L_X12_worstAt_7 (K92 : Int32 → Int32 → Mm → Option (Int32 × Mm)) : Nat → Nat → Int32 → Int32 → Int32 → Int32 → Mm → Option (Int32 × Mm)
 | 0, _, _, _, _, _, _ => none
 | n + 1, v0, v1, v2, v3, v4, m =>
 gd (okO m v0 12) (oc (rR m v0 12) none fun q4 =>
 gd (okA m 100 q4 (0 : Int32)) (
 if ((1 : Int32) <<< ((rI m q4 (ix (0 : Int32))) &&& 31)) ≤ v4 then (
 K92 v2 v3 m)
 else (
 gd (okO m v0 12) (bd (F_X12_isSo v0 v4 m) fun r5 m6 =>
 jn (fun (v0 : Nat) (v1 : Int32) (v2 : Int32) (v3 : Int32) (v4 : Int32) (m : Mm) =>
 lt9 (v4 + (1 : Int32)) fun x7 =>
 L_X12_worstAt_7 K92 n v0 v1 v2 v3 x7 m) fun J86 =>
 if r5 = 0 then (
 J86 v0 v1 v2 v3 v4 m6)
 else (
 gd (okO m6 v0 12) (bd (F_X12_primaryIf v0 v4 m6) fun r8 m9 =>
 lt9 r8 fun x10 =>
 jn (fun (v0 : Nat) (v1 : Int32) (v3 : Int32) (v4 : Int32) (v5 : Int32) (s0 : Int32) (s1 : Int32) (m : Mm) =>
 lt9 (s1 + s0) fun x11 =>
 jn (fun (v0 : Nat) (v1 : Int32) (v2 : Int32) (v4 : Int32) (s0 : Int32) (s1 : Int32) (m : Mm) =>
 lt9 (s1 + s0) fun x12 =>
 J86 v0 v1 v2 x12 v4 m) fun J84 =>
 jn (fun (v0 : Nat) (v1 : Int32) (v2 : Int32) (v4 : Int32) (s0 : Int32) (m : Mm) =>
 J84 v0 v1 v2 v4 (1 : Int32) s0 m) fun J83 =>
 if v5 = (-1 : Int32) then (
 J83 v0 v1 x11 v4 v3 m)
 else (
 bd (F_X12_has v5 v1 m) fun r13 m14 =>
 if r13 = 0 then (
 J83 v0 v1 x11 v4 v3 m14)
 else (
 J84 v0 v1 x11 v4 (0 : Int32) v3 m14))) fun J61 =>
 jn (fun (v0 : Nat) (v1 : Int32) (v3 : Int32) (v4 : Int32) (v5 : Int32) (s0 : Int32) (m : Mm) =>
 J61 v0 v1 v3 v4 v5 (0 : Int32) s0 m) fun J60 =>
 if x10 = (-1 : Int32) then (
 J60 v0 v1 v3 v4 x10 v2 m9)
 else (
 bd (F_X12_has x10 v1 m9) fun r15 m16 =>
 if r15 = 0 then (
 J60 v0 v1 v3 v4 x10 v2 m16)
 else (
 J61 v0 v1 v3 v4 x10 (1 : Int32) v2 m16))))))))
def F_X12_worstAt (a0 : Nat) (a1 : Int32) (m : Mm) : Option (Int32 × Mm) :=
 lt9 (0 : Int32) fun x1 =>
 lt9 (0 : Int32) fun x2 =>
 lt9 (0 : Int32) fun x3 =>
 L_X12_worstAt_7 (fun v2 v3 m =>
 bd (F_X12_more v2 v3 m) fun r17 m18 =>
 some (r17, m18)) NF a0 a1 x1 x2 x3 m
def L_X12_look_37 (K94 : Int32 → Int32 → Int32 → Mm → Option (Int32 × Mm)) : Nat → Nat → Int32 → Int32 → Int32 → Int32 → Mm → Option (Int32 × Mm)
 | 0, _, _, _, _, _, _ => none
 | n + 1, v0, v1, v2, v3, v4, m =>
 gd (okO m v0 12) (oc (rR m v0 12) none fun q9 =>
 gd (okA m 100 q9 (0 : Int32)) (
 if (rI m q9 (ix (0 : Int32))) ≤ v4 then (
 K94 v1 v2 v3 m)
 else (
 gd (okO m v0 12) (bd (F_X12_isTold v0 v4 m) fun r10 m11 =>
 jn (fun (v0 : Nat) (v1 : Int32) (v2 : Int32) (v3 : Int32) (v4 : Int32) (m : Mm) =>
 lt9 (v4 + (1 : Int32)) fun x12 =>
 L_X12_look_37 K94 n v0 v1 v2 v3 x12 m) fun J88 =>
 if r10 = 0 then (
 gd (okO m11 v0 12) (bd (F_X12_worstAt v0 v4 m11) fun r13 m14 =>
 lt9 r13 fun x15 =>
 jn (fun (v0 : Nat) (v1 : Int32) (v4 : Int32) (v5 : Int32) (m : Mm) =>
 lt9 v4 fun x16 =>
 lt9 v5 fun x17 =>
 J88 v0 v1 x16 x17 v4 m) fun J82 =>
 if v2 = (-1 : Int32) then (
 J82 v0 v1 v4 x15 m14)
 else (
 if x15 < v3 then (
 J82 v0 v1 v4 x15 m14)
 else (
 J88 v0 v1 v2 v3 v4 m14))))
 else (
 J88 v0 v1 v2 v3 v4 m11)))))
def F_X12_look (a0 : Nat) (a1 : Int32) (m : Mm) : Option (Int32 × Mm) :=
 gd (okO m a0 12) (lt9 (wI m a0 0 (0 : Int32)) fun m1 =>
 bd (F_X12_in a1 (0 : Int32) (1 : Int32) m1) fun r2 m3 =>
 jn (fun (v0 : Nat) (v1 : Int32) (s0 : Int32) (s1 : Nat) (m : Mm) =>
 gd (okO m s1 12) (bd (F_X12_bad s1 s0 (1 : Int32) (1 : Int32) m) fun r4 m5 =>
 if r4 = 0 then (
 lt9 (-1 : Int32) fun x6 =>
 lt9 (-1 : Int32) fun x7 =>
 lt9 (0 : Int32) fun x8 =>
 L_X12_look_37 (fun v1 v2 v3 m =>
 if v1 = 0 then (
 some (v2, m))
 else (
 some (v3, m))) NF v0 v1 x6 x7 x8 m5)
 else (
 some ((0 : Int32), m5)))) fun J20 =>
 if r2 = 0 then (
 J20 a0 a1 (1 : Int32) a0 m3)
 else (
 J20 a0 a1 (0 : Int32) a0 m3))
def F_X12_notesSign (a0 : Nat) (a1 : Int32) (m : Mm) : Option (Unit × Mm) :=
 gd (okO m a0 12) (oc (rR m a0 34) none fun q1 =>
 gd (okO m a0 12) (
 gd (okA m 100 q1 (rI m a0 35)) (lt9 (wI m q1 (ix (rI m a0 35)) a1) fun m2 =>
 gd (okO m2 a0 12) (
 gd (okO m2 a0 12) (lt9 (wI m2 a0 35 ((rI m2 a0 35) + (1 : Int32))) fun m3 =>
 some ((), m3))))))
def L_X12_notesNumber_2 (K18 : Nat → Int32 → Int32 → Mm → Option (Unit × Mm)) : Nat → Nat → Int32 → Int32 → Mm → Option (Unit × Mm)
 | 0, _, _, _, _ => none
 | n + 1, v0, v1, v2, m =>
 gd (decide (¬ v2 = 0)) (
 if (v1 / v2) < (10 : Int32) then (
 K18 v0 v1 v2 m)
 else (
 lt9 (v2 * (10 : Int32)) fun x2 =>
 L_X12_notesNumber_2 K18 n v0 v1 x2 m))
def L_X12_notesNumber_20  : Nat → Nat → Int32 → Int32 → Mm → Option (Unit × Mm)
 | 0, _, _, _, _ => none
 | n + 1, v0, v1, v3, m =>
 if v3 ≤ 0 then (
 some ((), m))
 else (
 gd (decide (¬ v3 = 0)) (
 gd (decide (¬ (10 : Int32) = 0)) (
 gd (okO m v0 12) (bd (F_X12_notesSign v0 ((48 : Int32) + ((v1 / v3) - (v1 / v3) / (10 : Int32) * (10 : Int32))) m) fun r4 m5 =>
 gd (decide (¬ (10 : Int32) = 0)) (
 lt9 (v3 / (10 : Int32)) fun x6 =>
 L_X12_notesNumber_20 n v0 v1 x6 m5)))))
def F_X12_notesNumber (a0 : Nat) (a1 : Int32) (m : Mm) : Option (Unit × Mm) :=
 lt9 (1 : Int32) fun x1 =>
 L_X12_notesNumber_2 (fun v0 v1 v2 m =>
 lt9 v2 fun x3 =>
 L_X12_notesNumber_20 NF v0 v1 x3 m) NF a0 a1 x1 m
def L_X12_laysNote_33 (K126 : Nat → Mm → Option (Unit × Mm)) : Nat → Nat → Int32 → Int32 → Mm → Option (Unit × Mm)
 | 0, _, _, _, _ => none
 | n + 1, v0, v1, v2, m =>
 gd (okO m v0 12) (oc (rR m v0 12) none fun q11 =>
 gd (okA m 100 q11 (0 : Int32)) (
 if (rI m q11 (ix (0 : Int32))) ≤ v2 then (
 K126 v0 m)
 else (
 gd (okO m v0 12) (oc (rR m v0 23) none fun q12 =>
 gd (okA m 100 q12 (182 : Int32)) (
 bd (F_X12_has (rI m q12 (ix (182 : Int32))) v2 m) fun r13 m14 =>
 jn (fun (v0 : Nat) (v1 : Int32) (v2 : Int32) (m : Mm) =>
 lt9 (v2 + (1 : Int32)) fun x15 =>
 L_X12_laysNote_33 K126 n v0 v1 x15 m) fun J120 =>
 if r13 = 0 then (
 J120 v0 v1 v2 m14)
 else (
 jn (fun (v0 : Nat) (v2 : Int32) (m : Mm) =>
 lt9 (0 : Int32) fun x16 =>
 gd (okO m v0 12) (bd (F_X12_notesNumber v0 v2 m) fun r17 m18 =>
 gd (okO m18 v0 12) (oc (rR m18 v0 23) none fun q19 =>
 gd (okA m18 100 q19 (185 : Int32)) (
 bd (F_X12_has (rI m18 q19 (ix (185 : Int32))) v2 m18) fun r20 m21 =>
 jn (fun (v0 : Nat) (v1 : Int32) (v2 : Int32) (m : Mm) =>
 gd (okO m v0 12) (oc (rR m v0 23) none fun q22 =>
 gd (okA m 100 q22 (184 : Int32)) (
 bd (F_X12_has (rI m q22 (ix (184 : Int32))) v2 m) fun r23 m24 =>
 if r23 = 0 then (
 gd (okO m24 v0 12) (bd (F_X12_notesSign v0 (63 : Int32) m24) fun r25 m26 =>
 J120 v0 v1 v2 m26))
 else (
 J120 v0 v1 v2 m24)))) fun J99 =>
 if r20 = 0 then (
 J99 v0 x16 v2 m21)
 else (
 gd (okO m21 v0 12) (bd (F_X12_notesSign v0 (33 : Int32) m21) fun r27 m28 =>
 J99 v0 x16 v2 m28)))))) fun J71 =>
 if v1 = 0 then (
 gd (okO m14 v0 12) (bd (F_X12_notesSign v0 (44 : Int32) m14) fun r29 m30 =>
 J71 v0 v2 m30))
 else (
 J71 v0 v2 m14)))))))
def F_X12_laysNote (a0 : Nat) (m : Mm) : Option (Unit × Mm) :=
 gd (okO m a0 12) (lt9 (wI m a0 35 (0 : Int32)) fun m1 =>
 gd (okO m1 a0 12) (bd (F_X12_notesSign a0 (118 : Int32) m1) fun r2 m3 =>
 gd (okO m3 a0 12) (oc (rR m3 a0 23) none fun q4 =>
 gd (okA m3 100 q4 (181 : Int32)) (
 gd (okO m3 a0 12) (bd (F_X12_notesNumber a0 (rI m3 q4 (ix (181 : Int32))) m3) fun r5 m6 =>
 gd (okO m6 a0 12) (bd (F_X12_notesSign a0 (58 : Int32) m6) fun r7 m8 =>
 lt9 (1 : Int32) fun x9 =>
 lt9 (0 : Int32) fun x10 =>
 L_X12_laysNote_33 (fun v0 m =>
 gd (okO m v0 12) (bd (F_X12_notesSign v0 (59 : Int32) m) fun r31 m32 =>
 gd (okO m32 v0 12) (oc (rR m32 v0 23) none fun q33 =>
 gd (okA m32 100 q33 (187 : Int32)) (
 gd (okO m32 v0 12) (bd (F_X12_notesNumber v0 (rI m32 q33 (ix (187 : Int32))) m32) fun r34 m35 =>
 some ((), m35)))))) NF a0 x9 x10 m8))))))
def F_X12_note (a0 : Nat) (m : Mm) : Option (Int32 × Mm) :=
 gd (okO m a0 12) (lt9 (wI m a0 0 (0 : Int32)) fun m1 =>
 gd (okO m1 a0 12) (bd (F_X12_laysNote a0 m1) fun r2 m3 =>
 gd (okO m3 a0 12) (
 some ((rI m3 a0 35), m3))))
def F_X12_spelt (a0 : Nat) (a1 : Int32) (m : Mm) : Option (Int32 × Mm) :=
 gd (okO m a0 12) (lt9 (wI m a0 0 (0 : Int32)) fun m1 =>
 jn (fun (v0 : Nat) (v1 : Int32) (s0 : Int32) (s1 : Nat) (m : Mm) =>
 gd (okO m s1 12) (bd (F_X12_bad s1 s0 (1 : Int32) (1 : Int32) m) fun r2 m3 =>
 if r2 = 0 then (
 gd (okO m3 v0 12) (bd (F_X12_laysNote v0 m3) fun r4 m5 =>
 gd (okO m5 v0 12) (
 if (rI m5 v0 35) ≤ v1 then (
 some ((-1 : Int32), m5))
 else (
 gd (okO m5 v0 12) (oc (rR m5 v0 34) none fun q6 =>
 gd (okA m5 100 q6 v1) (
 some ((rI m5 q6 (ix v1)), m5)))))))
 else (
 some ((0 : Int32), m3)))) fun J15 =>
 if 0 ≤ a1 then (
 J15 a0 a1 (0 : Int32) a0 m1)
 else (
 J15 a0 a1 (1 : Int32) a0 m1))
def L_X12_lore_33  : Nat → Nat → Int32 → Int32 → Int32 → Mm → Option (Int32 × Mm)
 | 0, _, _, _, _, _ => none
 | n + 1, v0, v1, v2, v3, m =>
 gd (okO m v0 12) (oc (rR m v0 12) none fun q8 =>
 gd (okA m 100 q8 (0 : Int32)) (
 if (rI m q8 (ix (0 : Int32))) ≤ v3 then (
 some (v2, m))
 else (
 gd (okO m v0 12) (oc (rR m v0 23) none fun q9 =>
 gd (okA m 100 q9 (182 : Int32)) (
 bd (F_X12_has (rI m q9 (ix (182 : Int32))) v3 m) fun r10 m11 =>
 jn (fun (v0 : Nat) (v1 : Int32) (v3 : Int32) (s0 : Int32) (s1 : Int32) (m : Mm) =>
 lt9 (s1 + s0) fun x12 =>
 lt9 (v3 + (1 : Int32)) fun x13 =>
 L_X12_lore_33 n v0 v1 x12 x13 m) fun J76 =>
 if r10 = 0 then (
 J76 v0 v1 v3 (0 : Int32) v2 m11)
 else (
 gd (okO m11 v0 12) (oc (rR m11 v0 23) none fun q14 =>
 bd (F_X12_knownOf v1 v3 m11) fun r15 m16 =>
 gd (okA m16 100 q14 r15) (
 bd (F_X12_ones (rI m16 q14 (ix r15)) m16) fun r17 m18 =>
 J76 v0 v1 v3 r17 v2 m18))))))))
def F_X12_lore (a0 : Nat) (a1 : Int32) (m : Mm) : Option (Int32 × Mm) :=
 gd (okO m a0 12) (lt9 (wI m a0 0 (0 : Int32)) fun m1 =>
 gd (okO m1 a0 12) (bd (F_X12_isMember a0 a1 m1) fun r2 m3 =>
 jn (fun (v0 : Nat) (v1 : Int32) (s0 : Int32) (s1 : Nat) (m : Mm) =>
 gd (okO m s1 12) (bd (F_X12_bad s1 s0 (1 : Int32) (0 : Int32) m) fun r4 m5 =>
 if r4 = 0 then (
 lt9 (0 : Int32) fun x6 =>
 lt9 (0 : Int32) fun x7 =>
 L_X12_lore_33 NF v0 v1 x6 x7 m5)
 else (
 some ((0 : Int32), m5)))) fun J19 =>
 if r2 = 0 then (
 J19 a0 a1 (1 : Int32) a0 m3)
 else (
 J19 a0 a1 (0 : Int32) a0 m3)))
def L_X12_behind_37 (K105 : Int32 → Int32 → Int32 → Mm → Option (Int32 × Mm)) : Nat → Nat → Int32 → Int32 → Int32 → Int32 → Mm → Option (Int32 × Mm)
 | 0, _, _, _, _, _, _ => none
 | n + 1, v0, v1, v2, v3, v4, m =>
 gd (okO m v0 12) (oc (rR m v0 12) none fun q9 =>
 gd (okA m 100 q9 (0 : Int32)) (
 if (rI m q9 (ix (0 : Int32))) ≤ v4 then (
 K105 v1 v2 v3 m)
 else (
 gd (okO m v0 12) (oc (rR m v0 23) none fun q10 =>
 gd (okA m 100 q10 ((12 : Int32) + v4)) (
 bd (F_X12_ones (rI m q10 (ix ((12 : Int32) + v4))) m) fun r11 m12 =>
 lt9 r11 fun x13 =>
 gd (okO m12 v0 12) (oc (rR m12 v0 23) none fun q14 =>
 gd (okA m12 100 q14 (183 : Int32)) (
 bd (F_X12_has (rI m12 q14 (ix (183 : Int32))) v4 m12) fun r15 m16 =>
 jn (fun (v0 : Nat) (v1 : Int32) (v2 : Int32) (v3 : Int32) (v4 : Int32) (m : Mm) =>
 lt9 (v4 + (1 : Int32)) fun x17 =>
 L_X12_behind_37 K105 n v0 v1 v2 v3 x17 m) fun J99 =>
 if r15 = 0 then (
 J99 v0 v1 v2 v3 v4 m16)
 else (
 jn (fun (v0 : Nat) (v1 : Int32) (v4 : Int32) (v5 : Int32) (m : Mm) =>
 lt9 v4 fun x18 =>
 lt9 v5 fun x19 =>
 J99 v0 v1 x18 x19 v4 m) fun J93 =>
 if v2 = (-1 : Int32) then (
 J93 v0 v1 v4 x13 m16)
 else (
 if x13 < v3 then (
 J93 v0 v1 v4 x13 m16)
 else (
 J99 v0 v1 v2 v3 v4 m16))))))))))
def F_X12_behind (a0 : Nat) (a1 : Int32) (m : Mm) : Option (Int32 × Mm) :=
 gd (okO m a0 12) (lt9 (wI m a0 0 (0 : Int32)) fun m1 =>
 bd (F_X12_in a1 (0 : Int32) (1 : Int32) m1) fun r2 m3 =>
 jn (fun (v0 : Nat) (v1 : Int32) (s0 : Int32) (s1 : Nat) (m : Mm) =>
 gd (okO m s1 12) (bd (F_X12_bad s1 s0 (1 : Int32) (1 : Int32) m) fun r4 m5 =>
 if r4 = 0 then (
 lt9 (-1 : Int32) fun x6 =>
 lt9 (-1 : Int32) fun x7 =>
 lt9 (0 : Int32) fun x8 =>
 L_X12_behind_37 (fun v1 v2 v3 m =>
 if v1 = 0 then (
 some (v2, m))
 else (
 some (v3, m))) NF v0 v1 x6 x7 x8 m5)
 else (
 some ((0 : Int32), m5)))) fun J20 =>
 if r2 = 0 then (
 J20 a0 a1 (1 : Int32) a0 m3)
 else (
 J20 a0 a1 (0 : Int32) a0 m3))
def F_X12_draw (a0 : Nat) (a1 : Int32) (m : Mm) : Option (Int32 × Mm) :=
 gd (okO m a0 12) (
 gd (okO m a0 12) (lt9 (wI m a0 36 (((rI m a0 36) * (1103515245 : Int32)) + (12345 : Int32))) fun m1 =>
 gd (okO m1 a0 12) (
 gd (decide (¬ a1 = 0)) (
 some (((((rI m1 a0 36) >>> ((16 : Int32) &&& 31)) &&& (32767 : Int32)) - (((rI m1 a0 36) >>> ((16 : Int32) &&& 31)) &&& (32767 : Int32)) / a1 * a1), m1)))))
def F_X12_onceBy (a0 : Nat) (a1 : Nat) (a2 : Int32) (m : Mm) : Option (Unit × Mm) :=
 gd (okO m a0 12) (oc (rR m a0 12) none fun q1 =>
 gd (okA m 100 q1 (0 : Int32)) (
 gd (okO m a0 12) (bd (F_X12_draw a0 (rI m q1 (ix (0 : Int32))) m) fun r2 m3 =>
 lt9 r2 fun x4 =>
 gd (okO m3 a0 12) (bd (F_X12_draw a0 (8 : Int32) m3) fun r5 m6 =>
 lt9 r5 fun x7 =>
 if (2 : Int32) ≤ x7 then (
 if (5 : Int32) ≤ x7 then (
 if x7 = (5 : Int32) then (
 gd (okO m6 a0 12) (bd (F_X12_tellsOthers a0 a1 x4 m6) fun r18 m19 =>
 some ((), m19)))
 else (
 if x7 = (7 : Int32) then (
 gd (okO m6 a0 12) (bd (F_X12_holds a0 a1 m6) fun r14 m15 =>
 gd (okO m15 a0 12) (bd (F_X12_views a0 a1 m15) fun r16 m17 =>
 some ((), m17))))
 else (
 gd (okO m6 a0 12) (bd (F_X12_draw a0 (16 : Int32) m6) fun r8 m9 =>
 if a2 ≤ r8 then (
 bd (F_X12_joins a1 x4 m9) fun r10 m11 =>
 some ((), m11))
 else (
 bd (F_X12_crashes a1 x4 m9) fun r12 m13 =>
 some ((), m13))))))
 else (
 jn (fun (s0 : Int32) (s1 : Int32) (s2 : Nat) (s3 : Nat) (m : Mm) =>
 gd (okO m s3 12) (bd (F_X12_takesOne s3 s2 s1 s0 m) fun r20 m21 =>
 some ((), m21))) fun J61 =>
 if x7 = (4 : Int32) then (
 J61 (1 : Int32) x4 a1 a0 m6)
 else (
 J61 (0 : Int32) x4 a1 a0 m6)))
 else (
 gd (okO m6 a0 12) (bd (F_X12_draw a0 (100 : Int32) m6) fun r22 m23 =>
 gd (okO m23 a0 12) (bd (F_X12_sends a0 a1 x4 r22 m23) fun r24 m25 =>
 some ((), m25))))))))
def L_X12_stormBy_19  : Nat → Nat → Int32 → Int32 → Int32 → Mm → Option (Unit × Mm)
 | 0, _, _, _, _, _ => none
 | n + 1, v0, v2, v3, v4, m =>
 if v2 ≤ v4 then (
 some ((), m))
 else (
 gd (okO m v0 12) (oc (rR m v0 12) none fun q7 =>
 gd (okA m 100 q7 (0 : Int32)) (
 if (rI m q7 (ix (0 : Int32))) ≤ 0 then (
 some ((), m))
 else (
 gd (okO m v0 12) (oc (rR m v0 24) none fun q8 =>
 gd (okO m v0 12) (bd (F_X12_onceBy v0 q8 v3 m) fun r9 m10 =>
 lt9 (v4 + (1 : Int32)) fun x11 =>
 L_X12_stormBy_19 n v0 v2 v3 x11 m10))))))
def F_X12_stormBy (a0 : Nat) (a1 : Int32) (a2 : Int32) (a3 : Int32) (m : Mm) : Option (Unit × Mm) :=
 gd (okO m a0 12) (oc (rR m a0 23) none fun q1 =>
 gd (okO m a0 12) (oc (rR m a0 24) none fun q2 =>
 bd (F_X12_copies q1 q2 m) fun r3 m4 =>
 gd (okO m4 a0 12) (lt9 (wI m4 a0 36 a1) fun m5 =>
 lt9 (0 : Int32) fun x6 =>
 L_X12_stormBy_19 NF a0 a2 a3 x6 m5)))
def F_X12_isStorm (a0 : Int32) (a1 : Int32) (m : Mm) : Option (Int32 × Mm) :=
 bd (F_X12_in a0 (1 : Int32) (96 : Int32) m) fun r1 m2 =>
 if r1 = 0 then (
 some ((0 : Int32), m2))
 else (
 bd (F_X12_in a1 (0 : Int32) (16 : Int32) m2) fun r3 m4 =>
 if r3 = 0 then (
 some ((0 : Int32), m4))
 else (
 some ((1 : Int32), m4)))
def F_X12_storm (a0 : Nat) (a1 : Int32) (a2 : Int32) (a3 : Int32) (a4 : Int32) (m : Mm) : Option (Int32 × Mm) :=
 gd (okO m a0 12) (lt9 (wI m a0 0 (0 : Int32)) fun m1 =>
 bd (F_X12_isStorm a2 a3 m1) fun r2 m3 =>
 jn (fun (v0 : Nat) (v1 : Int32) (v2 : Int32) (v3 : Int32) (v4 : Int32) (s0 : Int32) (s1 : Nat) (m : Mm) =>
 gd (okO m s1 12) (bd (F_X12_bad s1 s0 (1 : Int32) (1 : Int32) m) fun r4 m5 =>
 if r4 = 0 then (
 gd (okO m5 v0 12) (bd (F_X12_stormBy v0 v1 v2 v3 m5) fun r6 m7 =>
 if v4 = 0 then (
 gd (okO m7 v0 12) (oc (rR m7 v0 24) none fun q13 =>
 gd (okA m7 100 q13 (181 : Int32)) (
 some ((rI m7 q13 (ix (181 : Int32))), m7))))
 else (
 if v4 = (1 : Int32) then (
 gd (okO m7 v0 12) (oc (rR m7 v0 24) none fun q12 =>
 gd (okA m7 100 q12 (182 : Int32)) (
 some ((rI m7 q12 (ix (182 : Int32))), m7))))
 else (
 if v4 = (2 : Int32) then (
 gd (okO m7 v0 12) (oc (rR m7 v0 24) none fun q11 =>
 gd (okA m7 100 q11 (187 : Int32)) (
 some ((rI m7 q11 (ix (187 : Int32))), m7))))
 else (
 gd (okO m7 v0 12) (oc (rR m7 v0 24) none fun q8 =>
 gd (okO m7 v0 12) (bd (F_X12_agreeBy v0 q8 m7) fun r9 m10 =>
 if r9 = 0 then (
 some ((0 : Int32), m10))
 else (
 some ((1 : Int32), m10)))))))))
 else (
 some ((0 : Int32), m5)))) fun J29 =>
 jn (fun (v0 : Nat) (v1 : Int32) (v2 : Int32) (v3 : Int32) (v4 : Int32) (s0 : Nat) (m : Mm) =>
 J29 v0 v1 v2 v3 v4 (1 : Int32) s0 m) fun J24 =>
 if r2 = 0 then (
 J24 a0 a1 a2 a3 a4 a0 m3)
 else (
 bd (F_X12_in a4 (0 : Int32) (3 : Int32) m3) fun r14 m15 =>
 if r14 = 0 then (
 J24 a0 a1 a2 a3 a4 a0 m15)
 else (
 J29 a0 a1 a2 a3 a4 (0 : Int32) a0 m15)))
def L_X12_span_85 (K181 : Int32 → Int32 → Int32 → Int32 → Mm → Option (Int32 × Mm)) : Nat → Nat → Int32 → Int32 → Int32 → Int32 → Int32 → Int32 → Int32 → Int32 → Int32 → Int32 → Mm → Option (Int32 × Mm)
 | 0, _, _, _, _, _, _, _, _, _, _, _, _ => none
 | n + 1, v0, v1, v2, v3, v4, v5, v6, v7, v8, v9, v10, m =>
 if v2 ≤ v10 then (
 K181 v5 v7 v8 v9 m)
 else (
 gd (okO m v0 12) (bd (F_X12_stormBy v0 (v1 + v10) v3 v4 m) fun r14 m15 =>
 jn (fun (v0 : Nat) (v1 : Int32) (v2 : Int32) (v3 : Int32) (v4 : Int32) (v5 : Int32) (v6 : Int32) (v8 : Int32) (v9 : Int32) (v10 : Int32) (s0 : Int32) (m : Mm) =>
 lt9 s0 fun x16 =>
 gd (okO m v0 12) (oc (rR m v0 24) none fun q17 =>
 gd (okA m 100 q17 (181 : Int32)) (
 bd (F_X12_more v8 (rI m q17 (ix (181 : Int32))) m) fun r18 m19 =>
 lt9 r18 fun x20 =>
 gd (okO m19 v0 12) (oc (rR m19 v0 24) none fun q21 =>
 gd (okA m19 100 q21 (183 : Int32)) (
 bd (F_X12_has (rI m19 q21 (ix (183 : Int32))) v6 m19) fun r22 m23 =>
 jn (fun (v0 : Nat) (v1 : Int32) (v2 : Int32) (v3 : Int32) (v4 : Int32) (v5 : Int32) (v6 : Int32) (v7 : Int32) (v8 : Int32) (v10 : Int32) (s0 : Int32) (s1 : Int32) (m : Mm) =>
 lt9 (s1 + s0) fun x24 =>
 lt9 (v10 + (1 : Int32)) fun x25 =>
 L_X12_span_85 K181 n v0 v1 v2 v3 v4 v5 v6 v7 v8 x24 x25 m) fun J172 =>
 if r22 = 0 then (
 J172 v0 v1 v2 v3 v4 v5 v6 x16 x20 v10 (0 : Int32) v9 m23)
 else (
 J172 v0 v1 v2 v3 v4 v5 v6 x16 x20 v10 (1 : Int32) v9 m23)))))) fun J132 =>
 if v7 = (-1 : Int32) then (
 gd (okO m15 v0 12) (oc (rR m15 v0 24) none fun q29 =>
 gd (okA m15 100 q29 (181 : Int32)) (
 J132 v0 v1 v2 v3 v4 v5 v6 v8 v9 v10 (rI m15 q29 (ix (181 : Int32))) m15)))
 else (
 gd (okO m15 v0 12) (oc (rR m15 v0 24) none fun q26 =>
 gd (okA m15 100 q26 (181 : Int32)) (
 bd (F_X12_less v7 (rI m15 q26 (ix (181 : Int32))) m15) fun r27 m28 =>
 J132 v0 v1 v2 v3 v4 v5 v6 v8 v9 v10 r27 m28)))))
def F_X12_span (a0 : Nat) (a1 : Int32) (a2 : Int32) (a3 : Int32) (a4 : Int32) (a5 : Int32) (a6 : Int32) (m : Mm) : Option (Int32 × Mm) :=
 gd (okO m a0 12) (lt9 (wI m a0 0 (0 : Int32)) fun m1 =>
 gd (okO m1 a0 12) (bd (F_X12_isMember a0 a6 m1) fun r2 m3 =>
 jn (fun (v0 : Nat) (v1 : Int32) (v2 : Int32) (v3 : Int32) (v4 : Int32) (v5 : Int32) (v6 : Int32) (s0 : Int32) (s1 : Nat) (m : Mm) =>
 gd (okO m s1 12) (bd (F_X12_bad s1 s0 (1 : Int32) (0 : Int32) m) fun r4 m5 =>
 if r4 = 0 then (
 bd (F_X12_in v2 (1 : Int32) (10 : Int32) m5) fun r6 m7 =>
 jn (fun (v0 : Nat) (v1 : Int32) (v2 : Int32) (v3 : Int32) (v4 : Int32) (v5 : Int32) (v6 : Int32) (s0 : Int32) (s1 : Nat) (m : Mm) =>
 gd (okO m s1 12) (bd (F_X12_bad s1 s0 (2 : Int32) (1 : Int32) m) fun r8 m9 =>
 if r8 = 0 then (
 lt9 (-1 : Int32) fun x10 =>
 lt9 (0 : Int32) fun x11 =>
 lt9 (0 : Int32) fun x12 =>
 lt9 (0 : Int32) fun x13 =>
 L_X12_span_85 (fun v5 v7 v8 v9 m =>
 if v5 = 0 then (
 some (v7, m))
 else (
 if v5 = (1 : Int32) then (
 some (v8, m))
 else (
 some (v9, m)))) NF v0 v1 v2 v3 v4 v5 v6 x10 x11 x12 x13 m9)
 else (
 some ((0 : Int32), m9)))) fun J63 =>
 jn (fun (v0 : Nat) (v1 : Int32) (v2 : Int32) (v3 : Int32) (v4 : Int32) (v5 : Int32) (v6 : Int32) (s0 : Nat) (m : Mm) =>
 J63 v0 v1 v2 v3 v4 v5 v6 (1 : Int32) s0 m) fun J58 =>
 if r6 = 0 then (
 J58 v0 v1 v2 v3 v4 v5 v6 v0 m7)
 else (
 bd (F_X12_isStorm v3 v4 m7) fun r30 m31 =>
 if r30 = 0 then (
 J58 v0 v1 v2 v3 v4 v5 v6 v0 m31)
 else (
 bd (F_X12_in v5 (0 : Int32) (2 : Int32) m31) fun r32 m33 =>
 if r32 = 0 then (
 J58 v0 v1 v2 v3 v4 v5 v6 v0 m33)
 else (
 J63 v0 v1 v2 v3 v4 v5 v6 (0 : Int32) v0 m33))))
 else (
 some ((0 : Int32), m5)))) fun J20 =>
 if r2 = 0 then (
 J20 a0 a1 a2 a3 a4 a5 a6 (1 : Int32) a0 m3)
 else (
 J20 a0 a1 a2 a3 a4 a5 a6 (0 : Int32) a0 m3)))
def F_X12_puts (a0 : Nat) (a1 : Nat) (a2 : Int32) (a3 : Int32) (m : Mm) : Option (Int32 × Mm) :=
 jn (fun (v0 : Nat) (v1 : Nat) (m : Mm) =>
 gd (okO m v0 12) (
 gd (okO m v0 12) (lt9 (wI m v0 31 ((rI m v0 31) + (1 : Int32))) fun m1 =>
 gd (okO m1 v0 12) (
 gd (okA m1 100 v1 ((rI m1 v0 31) - (1 : Int32))) (
 some ((rI m1 v1 (ix ((rI m1 v0 31) - (1 : Int32)))), m1)))))) fun J11 =>
 if a3 = 0 then (
 gd (okO m a0 12) (
 gd (okA m 100 a1 (rI m a0 31)) (lt9 (wI m a1 (ix (rI m a0 31)) a2) fun m2 =>
 J11 a0 a1 m2)))
 else (
 J11 a0 a1 m)
def L_X12_putsAll_21 (K52 : Nat → Nat → Int32 → Mm → Option (Unit × Mm)) : Nat → Nat → Nat → Int32 → Int32 → Mm → Option (Unit × Mm)
 | 0, _, _, _, _, _ => none
 | n + 1, v0, v1, v2, v3, m =>
 if (968 : Int32) ≤ v3 then (
 K52 v0 v1 v2 m)
 else (
 gd (okO m v0 12) (oc (rR m v0 23) none fun q6 =>
 gd (okO m v0 12) (oc (rR m v0 23) none fun q7 =>
 gd (okA m 100 q7 v3) (
 gd (okO m v0 12) (bd (F_X12_puts v0 v1 (rI m q7 (ix v3)) v2 m) fun r8 m9 =>
 gd (okA m9 100 q6 v3) (lt9 (wI m9 q6 (ix v3) r8) fun m10 =>
 lt9 (v3 + (1 : Int32)) fun x11 =>
 L_X12_putsAll_21 K52 n v0 v1 v2 x11 m10))))))
def L_X12_putsAll_63 (K101 : Nat → Nat → Int32 → Int32 → Mm → Option (Unit × Mm)) : Nat → Nat → Nat → Int32 → Int32 → Int32 → Mm → Option (Unit × Mm)
 | 0, _, _, _, _, _, _ => none
 | n + 1, v0, v1, v2, v3, v4, m =>
 if (968 : Int32) ≤ v4 then (
 K101 v0 v1 v2 v3 m)
 else (
 gd (okO m v0 12) (oc (rR m v0 25) none fun q14 =>
 gd (okA m 106 q14 v3) (oc (rR m q14 (ix v3)) none fun q15 =>
 gd (okO m v0 12) (oc (rR m v0 25) none fun q16 =>
 gd (okA m 106 q16 v3) (oc (rR m q16 (ix v3)) none fun q17 =>
 gd (okA m 100 q17 v4) (
 gd (okO m v0 12) (bd (F_X12_puts v0 v1 (rI m q17 (ix v4)) v2 m) fun r18 m19 =>
 gd (okA m19 100 q15 v4) (lt9 (wI m19 q15 (ix v4) r18) fun m20 =>
 lt9 (v4 + (1 : Int32)) fun x21 =>
 L_X12_putsAll_63 K101 n v0 v1 v2 v3 x21 m20))))))))
def L_X12_putsAll_54  : Nat → Nat → Nat → Int32 → Int32 → Mm → Option (Unit × Mm)
 | 0, _, _, _, _, _ => none
 | n + 1, v0, v1, v2, v3, m =>
 if (16 : Int32) ≤ v3 then (
 some ((), m))
 else (
 lt9 (0 : Int32) fun x13 =>
 L_X12_putsAll_63 (fun v0 v1 v2 v3 m =>
 lt9 (v3 + (1 : Int32)) fun x22 =>
 L_X12_putsAll_54 n v0 v1 v2 x22 m) NF v0 v1 v2 v3 x13 m)
def F_X12_putsAll (a0 : Nat) (a1 : Nat) (a2 : Int32) (m : Mm) : Option (Unit × Mm) :=
 gd (okO m a0 12) (lt9 (wI m a0 31 (0 : Int32)) fun m1 =>
 gd (okO m1 a0 12) (
 gd (okO m1 a0 12) (bd (F_X12_puts a0 a1 (rI m1 a0 28) a2 m1) fun r2 m3 =>
 gd (okO m3 a0 12) (lt9 (wI m3 a0 28 r2) fun m4 =>
 lt9 (0 : Int32) fun x5 =>
 L_X12_putsAll_21 (fun v0 v1 v2 m =>
 lt9 (0 : Int32) fun x12 =>
 L_X12_putsAll_54 NF v0 v1 v2 x12 m) NF a0 a1 a2 x5 m4))))
def F_X12_image (a0 : Nat) (m : Mm) : Option (Int32 × Mm) :=
 gd (okO m a0 12) (lt9 (wI m a0 0 (0 : Int32)) fun m1 =>
 gd (okO m1 a0 12) (
 if (rI m1 a0 30) = (3 : Int32) then (
 some ((-1 : Int32), m1))
 else (
 gd (okO m1 a0 12) (oc (rR m1 a0 26) none fun q2 =>
 gd (okO m1 a0 12) (
 gd (okA m1 106 q2 (rI m1 a0 30)) (oc (rR m1 q2 (ix (rI m1 a0 30))) none fun q3 =>
 gd (okO m1 a0 12) (bd (F_X12_putsAll a0 q3 (0 : Int32) m1) fun r4 m5 =>
 gd (okO m5 a0 12) (
 gd (okO m5 a0 12) (lt9 (wI m5 a0 30 ((rI m5 a0 30) + (1 : Int32))) fun m6 =>
 gd (okO m6 a0 12) (
 some ((rI m6 a0 30), m6)))))))))))
def F_X12_restore (a0 : Nat) (m : Mm) : Option (Int32 × Mm) :=
 gd (okO m a0 12) (lt9 (wI m a0 0 (0 : Int32)) fun m1 =>
 gd (okO m1 a0 12) (
 if (rI m1 a0 30) = 0 then (
 some ((-1 : Int32), m1))
 else (
 gd (okO m1 a0 12) (
 gd (okO m1 a0 12) (lt9 (wI m1 a0 30 ((rI m1 a0 30) - (1 : Int32))) fun m2 =>
 gd (okO m2 a0 12) (oc (rR m2 a0 26) none fun q3 =>
 gd (okO m2 a0 12) (
 gd (okA m2 106 q3 (rI m2 a0 30)) (oc (rR m2 q3 (ix (rI m2 a0 30))) none fun q4 =>
 gd (okO m2 a0 12) (bd (F_X12_putsAll a0 q4 (1 : Int32) m2) fun r5 m6 =>
 gd (okO m6 a0 12) (lt9 (wI m6 a0 29 (0 : Int32)) fun m7 =>
 gd (okO m7 a0 12) (
 some ((rI m7 a0 30), m7))))))))))))
def F_X12_status (a0 : Nat) (a1 : Int32) (m : Mm) : Option (Int32 × Mm) :=
 gd (okO m a0 12) (lt9 (wI m a0 0 (0 : Int32)) fun m1 =>
 bd (F_X12_in a1 (0 : Int32) (3 : Int32) m1) fun r2 m3 =>
 if r2 = 0 then (
 some ((-1 : Int32), m3))
 else (
 gd (okO m3 a0 12) (oc (rR m3 a0 10) none fun q4 =>
 gd (okA m3 100 q4 a1) (
 some ((rI m3 q4 (ix a1)), m3)))))
def F_X12_count (a0 : Nat) (a1 : Int32) (m : Mm) : Option (Int32 × Mm) :=
 gd (okO m a0 12) (lt9 (wI m a0 0 (0 : Int32)) fun m1 =>
 if a1 = 0 then (
 gd (okO m1 a0 12) (
 some ((rI m1 a0 30), m1)))
 else (
 if a1 = (1 : Int32) then (
 gd (okO m1 a0 12) (
 some ((rI m1 a0 1), m1)))
 else (
 if a1 = (2 : Int32) then (
 gd (okO m1 a0 12) (
 some ((rI m1 a0 28), m1)))
 else (
 some ((-1 : Int32), m1)))))
set_option maxRecDepth 100000 in
set_option maxHeartbeats 4000000 in
theorem crt_X12_knows (l : Launch) (θ : Th) (a0 : Nat) (a1 : Int32) (a2 : Int32) (m : Mm) : Crt l θ yX12_knows M_X12_knows cvI [.ref a0, .int a1, .int a2] m (F_X12_knows a0 a1 a2 m) := by
  refine crt_of 0 (by decide) rfl rfl (Nat.le_of_ble_eq_true rfl) (fun Z hμ => ?_)
  unfold F_X12_knows
  show GG Z _ _ 0 [some (.ref a0), some (.int a1), some (.int a2)] [] m _
  refine g_aload_n (i := 0) dX12_knows_0 rfl rfl ?_
  refine g_iconst (v := (0 : Int32)) dX12_knows_1 ki_0 ?_
  refine g_putI (k := 0) cl_X12 (by decide) rfl rfl q_1381 dX12_knows_2 ?_
  intro m1
  refine g_aload_n (i := 0) dX12_knows_5 rfl rfl ?_
  refine g_aload_n (i := 0) dX12_knows_6 rfl rfl ?_
  refine g_iload_n (i := 1) dX12_knows_7 rfl rfl ?_
  refine g_callVI cl_X12 (crt_X12_isMember _ _ _ _ _) cw_X12_isMember (by decide) rfl q_1777 q_1779 qs_83 rfl rfl dX12_knows_8 ?_
  intro r2 m3
  refine g_jn (fun J27 => ∀ (v0 : Nat) (v1 : Int32) (v2 : Int32) (s0 : Int32) (s1 : Nat) (m : Mm), GG Z M_X12_knows (PsN Z cvI) 27 [some (.ref v0), some (.int v1), some (.int v2)] [.int s0, .ref s1] m (J27 v0 v1 v2 s0 s1 m)) ?_ ?_
  · intro v0 v1 v2 s0 s1 m
    refine g_iconst (v := (1 : Int32)) dX12_knows_27 ki_1 ?_
    refine g_iconst (v := (0 : Int32)) dX12_knows_28 ki_0 ?_
    refine g_callVI cl_X12 (crt_X12_bad _ _ _ _ _ _ _) cw_X12_bad (by decide) rfl q_1508 q_1510 qs_39 rfl rfl dX12_knows_29 ?_
    intro r4 m5
    refine g_ifeq (tgt := 37) dX12_knows_32 (by decide) ?_ ?_
    · refine g_aload_n (i := 0) dX12_knows_37 rfl rfl ?_
      refine g_getR (k := 23) cl_X12 (by decide) rfl q_1404 dX12_knows_38 ?_
      intro q6
      refine g_iload_n (i := 1) dX12_knows_41 rfl rfl ?_
      refine g_iload_n (i := 2) dX12_knows_42 rfl rfl ?_
      refine g_callSI (crt_X12_knownOf _ _ _ _ _) cw_X12_knownOf (by decide) rfl q_1646 q_1647 rfl rfl dX12_knows_43 ?_
      intro r7 m8
      refine g_iaload dX12_knows_46 ?_
      exact g_ireturn rfl dX12_knows_47
    · refine g_iconst (v := (0 : Int32)) dX12_knows_35 ki_0 ?_
      exact g_ireturn rfl dX12_knows_36
  · intro J27 hJ27
    refine g_jn (fun J22 => ∀ (v0 : Nat) (v1 : Int32) (v2 : Int32) (s0 : Nat) (m : Mm), GG Z M_X12_knows (PsN Z cvI) 22 [some (.ref v0), some (.int v1), some (.int v2)] [.ref s0] m (J22 v0 v1 v2 s0 m)) ?_ ?_
    · intro v0 v1 v2 s0 m
      refine g_iconst (v := (1 : Int32)) dX12_knows_22 ki_1 ?_
      refine g_goto (tgt := 27) dX12_knows_23 (by decide) ?_
      exact g_msk [true, true, true] (hJ27 _ _ _ _ _ _)
    · intro J22 hJ22
      refine g_ifeq (tgt := 22) dX12_knows_11 (by decide) ?_ ?_
      · exact g_msk [true, true, true] (hJ22 _ _ _ _ _)
      · refine g_aload_n (i := 0) dX12_knows_14 rfl rfl ?_
        refine g_iload_n (i := 2) dX12_knows_15 rfl rfl ?_
        refine g_callVI cl_X12 (crt_X12_isMember _ _ _ _ _) cw_X12_isMember (by decide) rfl q_1777 q_1779 qs_83 rfl rfl dX12_knows_16 ?_
        intro r9 m10
        refine g_ifne (tgt := 26) dX12_knows_19 (by decide) ?_ ?_
        · refine g_iconst (v := (0 : Int32)) dX12_knows_26 ki_0 ?_
          exact g_msk [true, true, true] (hJ27 _ _ _ _ _ _)
        · exact g_msk [true, true, true] (hJ22 _ _ _ _ _)
set_option maxRecDepth 100000 in
set_option maxHeartbeats 4000000 in
theorem crt_X12_stable (l : Launch) (θ : Th) (a0 : Nat) (a1 : Int32) (m : Mm) : Crt l θ yX12_stable M_X12_stable cvI [.ref a0, .int a1] m (F_X12_stable a0 a1 m) := by
  refine crt_of 0 (by decide) rfl rfl (Nat.le_of_ble_eq_true rfl) (fun Z hμ => ?_)
  unfold F_X12_stable
  show GG Z _ _ 0 [some (.ref a0), some (.int a1)] [] m _
  refine g_aload_n (i := 0) dX12_stable_0 rfl rfl ?_
  refine g_iconst (v := (0 : Int32)) dX12_stable_1 ki_0 ?_
  refine g_putI (k := 0) cl_X12 (by decide) rfl rfl q_1381 dX12_stable_2 ?_
  intro m1
  refine g_aload_n (i := 0) dX12_stable_5 rfl rfl ?_
  refine g_aload_n (i := 0) dX12_stable_6 rfl rfl ?_
  refine g_iload_n (i := 1) dX12_stable_7 rfl rfl ?_
  refine g_callVI cl_X12 (crt_X12_isMember _ _ _ _ _) cw_X12_isMember (by decide) rfl q_1777 q_1779 qs_83 rfl rfl dX12_stable_8 ?_
  intro r2 m3
  refine g_jn (fun J19 => ∀ (v0 : Nat) (v1 : Int32) (s0 : Int32) (s1 : Nat) (m : Mm), GG Z M_X12_stable (PsN Z cvI) 19 [some (.ref v0), some (.int v1)] [.int s0, .ref s1] m (J19 v0 v1 s0 s1 m)) ?_ ?_
  · intro v0 v1 s0 s1 m
    refine g_iconst (v := (1 : Int32)) dX12_stable_19 ki_1 ?_
    refine g_iconst (v := (0 : Int32)) dX12_stable_20 ki_0 ?_
    refine g_callVI cl_X12 (crt_X12_bad _ _ _ _ _ _ _) cw_X12_bad (by decide) rfl q_1508 q_1510 qs_39 rfl rfl dX12_stable_21 ?_
    intro r4 m5
    refine g_ifeq (tgt := 29) dX12_stable_24 (by decide) ?_ ?_
    · refine g_aload_n (i := 0) dX12_stable_29 rfl rfl ?_
      refine g_aload_n (i := 0) dX12_stable_30 rfl rfl ?_
      refine g_getR (k := 23) cl_X12 (by decide) rfl q_1404 dX12_stable_31 ?_
      intro q6
      refine g_iload_n (i := 1) dX12_stable_34 rfl rfl ?_
      refine g_callVI cl_X12 (crt_X12_stableBy _ _ _ _ _ _) cw_X12_stableBy (by decide) rfl q_1681 q_1683 qs_68 rfl rfl dX12_stable_35 ?_
      intro r7 m8
      exact g_ireturn rfl dX12_stable_38
    · refine g_iconst (v := (0 : Int32)) dX12_stable_27 ki_0 ?_
      exact g_ireturn rfl dX12_stable_28
  · intro J19 hJ19
    refine g_ifne (tgt := 18) dX12_stable_11 (by decide) ?_ ?_
    · refine g_iconst (v := (0 : Int32)) dX12_stable_18 ki_0 ?_
      exact g_msk [true, true] (hJ19 _ _ _ _ _)
    · refine g_iconst (v := (1 : Int32)) dX12_stable_14 ki_1 ?_
      refine g_goto (tgt := 19) dX12_stable_15 (by decide) ?_
      exact g_msk [true, true] (hJ19 _ _ _ _ _)
set_option maxRecDepth 100000 in
set_option maxHeartbeats 4000000 in
theorem crt_X12_would (l : Launch) (θ : Th) (a0 : Nat) (a1 : Int32) (a2 : Int32) (a3 : Int32) (a4 : Int32) (m : Mm) : Crt l θ yX12_would M_X12_would cvI [.ref a0, .int a1, .int a2, .int a3, .int a4] m (F_X12_would a0 a1 a2 a3 a4 m) := by
  refine crt_of 0 (by decide) rfl rfl (Nat.le_of_ble_eq_true rfl) (fun Z hμ => ?_)
  unfold F_X12_would
  show GG Z _ _ 0 [some (.ref a0), some (.int a1), some (.int a2), some (.int a3), some (.int a4)] [] m _
  refine g_aload_n (i := 0) dX12_would_0 rfl rfl ?_
  refine g_iconst (v := (0 : Int32)) dX12_would_1 ki_0 ?_
  refine g_putI (k := 0) cl_X12 (by decide) rfl rfl q_1381 dX12_would_2 ?_
  intro m1
  refine g_aload_n (i := 0) dX12_would_5 rfl rfl ?_
  refine g_iload_n (i := 1) dX12_would_6 rfl rfl ?_
  refine g_iconst (v := (0 : Int32)) dX12_would_7 ki_0 ?_
  refine g_iconst (v := (5 : Int32)) dX12_would_8 ki_5 ?_
  refine g_callSI (crt_X12_in _ _ _ _ _ _) cw_X12_in (by decide) rfl q_1505 q_1506 rfl rfl dX12_would_9 ?_
  intro r2 m3
  refine g_jn (fun J53 => ∀ (v0 : Nat) (v1 : Int32) (v2 : Int32) (v3 : Int32) (v4 : Int32) (s0 : Int32) (s1 : Nat) (m : Mm), GG Z M_X12_would (PsN Z cvI) 53 [some (.ref v0), some (.int v1), some (.int v2), some (.int v3), some (.int v4)] [.int s0, .ref s1] m (J53 v0 v1 v2 v3 v4 s0 s1 m)) ?_ ?_
  · intro v0 v1 v2 v3 v4 s0 s1 m
    refine g_iconst (v := (1 : Int32)) dX12_would_53 ki_1 ?_
    refine g_iconst (v := (1 : Int32)) dX12_would_54 ki_1 ?_
    refine g_callVI cl_X12 (crt_X12_bad _ _ _ _ _ _ _) cw_X12_bad (by decide) rfl q_1508 q_1510 qs_39 rfl rfl dX12_would_55 ?_
    intro r4 m5
    refine g_ifeq (tgt := 63) dX12_would_58 (by decide) ?_ ?_
    · refine g_aload_n (i := 0) dX12_would_63 rfl rfl ?_
      refine g_iload_n (i := 1) dX12_would_64 rfl rfl ?_
      refine g_iload_n (i := 2) dX12_would_65 rfl rfl ?_
      refine g_iload_n (i := 3) dX12_would_66 rfl rfl ?_
      refine g_iload dX12_would_67 rfl ?_
      refine g_callVI cl_X12 (crt_X12_weightBy _ _ _ _ _ _ _ _) cw_X12_weightBy (by decide) rfl q_1721 q_1723 qs_75 rfl rfl dX12_would_69 ?_
      intro r6 m7
      exact g_ireturn rfl dX12_would_72
    · refine g_iconst (v := (0 : Int32)) dX12_would_61 ki_0 ?_
      exact g_ireturn rfl dX12_would_62
  · intro J53 hJ53
    refine g_jn (fun J48 => ∀ (v0 : Nat) (v1 : Int32) (v2 : Int32) (v3 : Int32) (v4 : Int32) (s0 : Nat) (m : Mm), GG Z M_X12_would (PsN Z cvI) 48 [some (.ref v0), some (.int v1), some (.int v2), some (.int v3), some (.int v4)] [.ref s0] m (J48 v0 v1 v2 v3 v4 s0 m)) ?_ ?_
    · intro v0 v1 v2 v3 v4 s0 m
      refine g_iconst (v := (1 : Int32)) dX12_would_48 ki_1 ?_
      refine g_goto (tgt := 53) dX12_would_49 (by decide) ?_
      exact g_msk [true, true, true, true, true] (hJ53 _ _ _ _ _ _ _ _)
    · intro J48 hJ48
      refine g_ifeq (tgt := 48) dX12_would_12 (by decide) ?_ ?_
      · exact g_msk [true, true, true, true, true] (hJ48 _ _ _ _ _ _ _)
      · refine g_iload_n (i := 2) dX12_would_15 rfl rfl ?_
        refine g_iconst (v := (0 : Int32)) dX12_would_16 ki_0 ?_
        refine g_sipush (v := (9999 : Int32)) dX12_would_17 ks_9999 ?_
        refine g_callSI (crt_X12_in _ _ _ _ _ _) cw_X12_in (by decide) rfl q_1505 q_1506 rfl rfl dX12_would_20 ?_
        intro r8 m9
        refine g_ifeq (tgt := 48) dX12_would_23 (by decide) ?_ ?_
        · exact g_msk [true, true, true, true, true] (hJ48 _ _ _ _ _ _ _)
        · refine g_iload_n (i := 3) dX12_would_26 rfl rfl ?_
          refine g_iconst (v := (0 : Int32)) dX12_would_27 ki_0 ?_
          refine g_sipush (v := (9999 : Int32)) dX12_would_28 ks_9999 ?_
          refine g_callSI (crt_X12_in _ _ _ _ _ _) cw_X12_in (by decide) rfl q_1505 q_1506 rfl rfl dX12_would_31 ?_
          intro r10 m11
          refine g_ifeq (tgt := 48) dX12_would_34 (by decide) ?_ ?_
          · exact g_msk [true, true, true, true, true] (hJ48 _ _ _ _ _ _ _)
          · refine g_iload dX12_would_37 rfl ?_
            refine g_iconst (v := (0 : Int32)) dX12_would_39 ki_0 ?_
            refine g_bipush (v := (6 : Int32)) dX12_would_40 kb_6 ?_
            refine g_callSI (crt_X12_in _ _ _ _ _ _) cw_X12_in (by decide) rfl q_1505 q_1506 rfl rfl dX12_would_42 ?_
            intro r12 m13
            refine g_ifne (tgt := 52) dX12_would_45 (by decide) ?_ ?_
            · refine g_iconst (v := (0 : Int32)) dX12_would_52 ki_0 ?_
              exact g_msk [true, true, true, true, true] (hJ53 _ _ _ _ _ _ _ _)
            · exact g_msk [true, true, true, true, true] (hJ48 _ _ _ _ _ _ _)
set_option maxRecDepth 100000 in
set_option maxHeartbeats 4000000 in
theorem crt_X12_primary (l : Launch) (θ : Th) (a0 : Nat) (m : Mm) : Crt l θ yX12_primary M_X12_primary cvI [.ref a0] m (F_X12_primary a0 m) := by
  refine crt_of 0 (by decide) rfl rfl (Nat.le_of_ble_eq_true rfl) (fun Z hμ => ?_)
  unfold F_X12_primary
  show GG Z _ _ 0 [some (.ref a0)] [] m _
  refine g_aload_n (i := 0) dX12_primary_0 rfl rfl ?_
  refine g_iconst (v := (0 : Int32)) dX12_primary_1 ki_0 ?_
  refine g_putI (k := 0) cl_X12 (by decide) rfl rfl q_1381 dX12_primary_2 ?_
  intro m1
  refine g_aload_n (i := 0) dX12_primary_5 rfl rfl ?_
  refine g_aload_n (i := 0) dX12_primary_6 rfl rfl ?_
  refine g_getR (k := 23) cl_X12 (by decide) rfl q_1404 dX12_primary_7 ?_
  intro q2
  refine g_callVI cl_X12 (crt_X12_primaryOf _ _ _ _ _) cw_X12_primaryOf (by decide) rfl q_1702 q_1704 qs_71 rfl rfl dX12_primary_10 ?_
  intro r3 m4
  exact g_ireturn rfl dX12_primary_13
set_option maxRecDepth 100000 in
set_option maxHeartbeats 4000000 in
theorem crt_X12_missing (l : Launch) (θ : Th) (a0 : Nat) (a1 : Int32) (m : Mm) : Crt l θ yX12_missing M_X12_missing cvI [.ref a0, .int a1] m (F_X12_missing a0 a1 m) := by
  refine crt_of 0 (by decide) rfl rfl (Nat.le_of_ble_eq_true rfl) (fun Z hμ => ?_)
  unfold F_X12_missing
  show GG Z _ _ 0 [some (.ref a0), some (.int a1)] [] m _
  refine g_aload_n (i := 0) dX12_missing_0 rfl rfl ?_
  refine g_iconst (v := (0 : Int32)) dX12_missing_1 ki_0 ?_
  refine g_putI (k := 0) cl_X12 (by decide) rfl rfl q_1381 dX12_missing_2 ?_
  intro m1
  refine g_aload_n (i := 0) dX12_missing_5 rfl rfl ?_
  refine g_aload_n (i := 0) dX12_missing_6 rfl rfl ?_
  refine g_iload_n (i := 1) dX12_missing_7 rfl rfl ?_
  refine g_callVI cl_X12 (crt_X12_isMember _ _ _ _ _) cw_X12_isMember (by decide) rfl q_1777 q_1779 qs_83 rfl rfl dX12_missing_8 ?_
  intro r2 m3
  refine g_jn (fun J19 => ∀ (v0 : Nat) (v1 : Int32) (s0 : Int32) (s1 : Nat) (m : Mm), GG Z M_X12_missing (PsN Z cvI) 19 [some (.ref v0), some (.int v1)] [.int s0, .ref s1] m (J19 v0 v1 s0 s1 m)) ?_ ?_
  · intro v0 v1 s0 s1 m
    refine g_iconst (v := (1 : Int32)) dX12_missing_19 ki_1 ?_
    refine g_iconst (v := (0 : Int32)) dX12_missing_20 ki_0 ?_
    refine g_callVI cl_X12 (crt_X12_bad _ _ _ _ _ _ _) cw_X12_bad (by decide) rfl q_1508 q_1510 qs_39 rfl rfl dX12_missing_21 ?_
    intro r4 m5
    refine g_ifeq (tgt := 29) dX12_missing_24 (by decide) ?_ ?_
    · refine g_aload_n (i := 0) dX12_missing_29 rfl rfl ?_
      refine g_aload_n (i := 0) dX12_missing_30 rfl rfl ?_
      refine g_getR (k := 23) cl_X12 (by decide) rfl q_1404 dX12_missing_31 ?_
      intro q6
      refine g_iload_n (i := 1) dX12_missing_34 rfl rfl ?_
      refine g_callVI cl_X12 (crt_X12_missingOf _ _ _ _ _ _) cw_X12_missingOf (by decide) rfl q_1817 q_1819 qs_85 rfl rfl dX12_missing_35 ?_
      intro r7 m8
      exact g_ireturn rfl dX12_missing_38
    · refine g_iconst (v := (0 : Int32)) dX12_missing_27 ki_0 ?_
      exact g_ireturn rfl dX12_missing_28
  · intro J19 hJ19
    refine g_ifne (tgt := 18) dX12_missing_11 (by decide) ?_ ?_
    · refine g_iconst (v := (0 : Int32)) dX12_missing_18 ki_0 ?_
      exact g_msk [true, true] (hJ19 _ _ _ _ _)
    · refine g_iconst (v := (1 : Int32)) dX12_missing_14 ki_1 ?_
      refine g_goto (tgt := 19) dX12_missing_15 (by decide) ?_
      exact g_msk [true, true] (hJ19 _ _ _ _ _)
set_option maxRecDepth 100000 in
set_option maxHeartbeats 4000000 in
theorem c_L_X12_lost_36 {Z : Zx}    : ∀ (n : Nat) (v0 : Nat) (v1 : Int32) (v2 : Int32) (v3 : Int32) (m : Mm), GG Z M_X12_lost (PsN Z cvI) 36 [some (.ref v0), some (.int v1), some (.int v2), some (.int v3)] [] m (L_X12_lost_36 n v0 v1 v2 v3 m) := by
  intro n
  induction n with
  | zero => intro v0 v1 v2 v3 m; exact g_no
  | succ n ih =>
    intro v0 v1 v2 v3 m
    unfold L_X12_lost_36
    refine g_iload_n (i := 3) dX12_lost_36 rfl rfl ?_
    refine g_aload_n (i := 0) dX12_lost_37 rfl rfl ?_
    refine g_getR (k := 12) cl_X12 (by decide) rfl q_1393 dX12_lost_38 ?_
    intro q9
    refine g_iconst (v := (0 : Int32)) dX12_lost_41 ki_0 ?_
    refine g_iaload dX12_lost_42 ?_
    refine g_icmpge (tgt := 78) dX12_lost_43 (by decide) ?_ ?_
    · refine g_iload_n (i := 2) dX12_lost_78 rfl rfl ?_
      exact g_ireturn rfl dX12_lost_79
    · refine g_iload_n (i := 2) dX12_lost_46 rfl rfl ?_
      refine g_iload_n (i := 1) dX12_lost_47 rfl rfl ?_
      refine g_iload_n (i := 3) dX12_lost_48 rfl rfl ?_
      refine g_callSI (crt_X12_has _ _ _ _ _) cw_X12_has (by decide) rfl q_1378 q_1379 rfl rfl dX12_lost_49 ?_
      intro r10 m11
      refine g_jn (fun J70 => ∀ (v0 : Nat) (v1 : Int32) (v3 : Int32) (s0 : Int32) (s1 : Int32) (m : Mm), GG Z M_X12_lost (PsN Z cvI) 70 [some (.ref v0), some (.int v1), none, some (.int v3)] [.int s0, .int s1] m (J70 v0 v1 v3 s0 s1 m)) ?_ ?_
      · intro v0 v1 v3 s0 s1 m
        refine g_iand dX12_lost_70 ?_
        refine g_istore_n (i := 2) dX12_lost_71 rfl (show 2 < 4 by decide) ?_
        intro x12
        refine g_iinc dX12_lost_72 rfl ki_1 (show 3 < 4 by decide) ?_
        intro x13
        refine g_goto (tgt := 36) dX12_lost_75 (by decide) ?_
        exact g_msk [true, true, true, true] (ih _ _ _ _ _)
      · intro J70 hJ70
        refine g_ifeq (tgt := 69) dX12_lost_52 (by decide) ?_ ?_
        · refine g_iload_n (i := 2) dX12_lost_69 rfl rfl ?_
          exact g_msk [true, true, false, true] (hJ70 _ _ _ _ _ _)
        · refine g_aload_n (i := 0) dX12_lost_55 rfl rfl ?_
          refine g_getR (k := 23) cl_X12 (by decide) rfl q_1404 dX12_lost_56 ?_
          intro q14
          refine g_bipush (v := (12 : Int32)) dX12_lost_59 kb_12 ?_
          refine g_iload_n (i := 3) dX12_lost_61 rfl rfl ?_
          refine g_iadd dX12_lost_62 ?_
          refine g_iaload dX12_lost_63 ?_
          refine g_iconst (v := (-1 : Int32)) dX12_lost_64 ki_m1 ?_
          refine g_ixor dX12_lost_65 ?_
          refine g_goto (tgt := 70) dX12_lost_66 (by decide) ?_
          exact g_msk [true, true, false, true] (hJ70 _ _ _ _ _ _)
set_option maxRecDepth 100000 in
set_option maxHeartbeats 4000000 in
theorem crt_X12_lost (l : Launch) (θ : Th) (a0 : Nat) (m : Mm) : Crt l θ yX12_lost M_X12_lost cvI [.ref a0] m (F_X12_lost a0 m) := by
  refine crt_of 3 (by decide) rfl rfl (Nat.le_of_ble_eq_true rfl) (fun Z hμ => ?_)
  unfold F_X12_lost
  show GG Z _ _ 0 [some (.ref a0), none, none, none] [] m _
  refine g_aload_n (i := 0) dX12_lost_0 rfl rfl ?_
  refine g_iconst (v := (0 : Int32)) dX12_lost_1 ki_0 ?_
  refine g_putI (k := 0) cl_X12 (by decide) rfl rfl q_1381 dX12_lost_2 ?_
  intro m1
  refine g_aload_n (i := 0) dX12_lost_5 rfl rfl ?_
  refine g_aload_n (i := 0) dX12_lost_6 rfl rfl ?_
  refine g_getR (k := 23) cl_X12 (by decide) rfl q_1404 dX12_lost_7 ?_
  intro q2
  refine g_callVI cl_X12 (crt_X12_primaryOf _ _ _ _ _) cw_X12_primaryOf (by decide) rfl q_1702 q_1704 qs_71 rfl rfl dX12_lost_10 ?_
  intro r3 m4
  refine g_istore_n (i := 1) dX12_lost_13 rfl (show 1 < 4 by decide) ?_
  intro x5
  refine g_iconst (v := (1 : Int32)) dX12_lost_14 ki_1 ?_
  refine g_aload_n (i := 0) dX12_lost_15 rfl rfl ?_
  refine g_getR (k := 23) cl_X12 (by decide) rfl q_1404 dX12_lost_16 ?_
  intro q6
  refine g_sipush (v := (187 : Int32)) dX12_lost_19 ks_187 ?_
  refine g_iaload dX12_lost_22 ?_
  refine g_ishl dX12_lost_23 ?_
  refine g_iconst (v := (1 : Int32)) dX12_lost_24 ki_1 ?_
  refine g_isub dX12_lost_25 ?_
  refine g_istore_n (i := 2) dX12_lost_26 rfl (show 2 < 4 by decide) ?_
  intro x7
  refine g_iload_n (i := 1) dX12_lost_27 rfl rfl ?_
  refine g_iconst (v := (-1 : Int32)) dX12_lost_28 ki_m1 ?_
  refine g_icmpne (tgt := 34) dX12_lost_29 (by decide) ?_ ?_
  · refine g_iconst (v := (0 : Int32)) dX12_lost_34 ki_0 ?_
    refine g_istore_n (i := 3) dX12_lost_35 rfl (show 3 < 4 by decide) ?_
    intro x8
    exact g_msk [true, true, true, true] (c_L_X12_lost_36 NF _ _ _ _ _)
  · refine g_iconst (v := (0 : Int32)) dX12_lost_32 ki_0 ?_
    exact g_ireturn rfl dX12_lost_33
set_option maxRecDepth 100000 in
set_option maxHeartbeats 4000000 in
theorem c_L_X12_fall_27 {Z : Zx}    : ∀ (n : Nat) (v0 : Nat) (v1 : Int32) (v2 : Int32) (v3 : Int32) (m : Mm), GG Z M_X12_fall (PsN Z cvI) 27 [some (.ref v0), some (.int v1), some (.int v2), some (.int v3)] [] m (L_X12_fall_27 n v0 v1 v2 v3 m) := by
  intro n
  induction n with
  | zero => intro v0 v1 v2 v3 m; exact g_no
  | succ n ih =>
    intro v0 v1 v2 v3 m
    unfold L_X12_fall_27
    refine g_iload_n (i := 3) dX12_fall_27 rfl rfl ?_
    refine g_iconst (v := (1 : Int32)) dX12_fall_28 ki_1 ?_
    refine g_aload_n (i := 0) dX12_fall_29 rfl rfl ?_
    refine g_getR (k := 12) cl_X12 (by decide) rfl q_1393 dX12_fall_30 ?_
    intro q7
    refine g_iconst (v := (0 : Int32)) dX12_fall_33 ki_0 ?_
    refine g_iaload dX12_fall_34 ?_
    refine g_ishl dX12_fall_35 ?_
    refine g_icmpge (tgt := 99) dX12_fall_36 (by decide) ?_ ?_
    · refine g_iload_n (i := 2) dX12_fall_99 rfl rfl ?_
      exact g_ireturn rfl dX12_fall_100
    · refine g_iload_n (i := 3) dX12_fall_39 rfl rfl ?_
      refine g_iload_n (i := 1) dX12_fall_40 rfl rfl ?_
      refine g_iconst (v := (-1 : Int32)) dX12_fall_41 ki_m1 ?_
      refine g_ixor dX12_fall_42 ?_
      refine g_iand dX12_fall_43 ?_
      refine g_jn (fun J93 => ∀ (v0 : Nat) (v1 : Int32) (v2 : Int32) (v3 : Int32) (m : Mm), GG Z M_X12_fall (PsN Z cvI) 93 [some (.ref v0), some (.int v1), some (.int v2), some (.int v3)] [] m (J93 v0 v1 v2 v3 m)) ?_ ?_
      · intro v0 v1 v2 v3 m
        refine g_iinc dX12_fall_93 rfl ki_1 (show 3 < 4 by decide) ?_
        intro x8
        refine g_goto (tgt := 27) dX12_fall_96 (by decide) ?_
        exact g_msk [true, true, true, true] (ih _ _ _ _ _)
      · intro J93 hJ93
        refine g_ifne (tgt := 93) dX12_fall_44 (by decide) ?_ ?_
        · exact g_msk [true, true, true, true] (hJ93 _ _ _ _ _)
        · refine g_iload_n (i := 2) dX12_fall_47 rfl rfl ?_
          refine g_iconst (v := (-1 : Int32)) dX12_fall_48 ki_m1 ?_
          refine g_jn (fun J63 => ∀ (v0 : Nat) (v1 : Int32) (v2 : Int32) (v3 : Int32) (m : Mm), GG Z M_X12_fall (PsN Z cvI) 63 [some (.ref v0), some (.int v1), some (.int v2), some (.int v3)] [] m (J63 v0 v1 v2 v3 m)) ?_ ?_
          · intro v0 v1 v2 v3 m
            refine g_aload_n (i := 0) dX12_fall_63 rfl rfl ?_
            refine g_aload_n (i := 0) dX12_fall_64 rfl rfl ?_
            refine g_getR (k := 23) cl_X12 (by decide) rfl q_1404 dX12_fall_65 ?_
            intro q9
            refine g_aload_n (i := 0) dX12_fall_68 rfl rfl ?_
            refine g_getR (k := 23) cl_X12 (by decide) rfl q_1404 dX12_fall_69 ?_
            intro q10
            refine g_sipush (v := (180 : Int32)) dX12_fall_72 ks_180 ?_
            refine g_iaload dX12_fall_75 ?_
            refine g_iload_n (i := 1) dX12_fall_76 rfl rfl ?_
            refine g_iload_n (i := 3) dX12_fall_77 rfl rfl ?_
            refine g_iconst (v := (-1 : Int32)) dX12_fall_78 ki_m1 ?_
            refine g_ixor dX12_fall_79 ?_
            refine g_iand dX12_fall_80 ?_
            refine g_callVI cl_X12 (crt_X12_primaryBy _ _ _ _ _ _ _) cw_X12_primaryBy (by decide) rfl q_1706 q_1708 qs_72 rfl rfl dX12_fall_81 ?_
            intro r11 m12
            refine g_iconst (v := (-1 : Int32)) dX12_fall_84 ki_m1 ?_
            refine g_icmpne (tgt := 93) dX12_fall_85 (by decide) ?_ ?_
            · exact g_msk [true, true, true, true] (hJ93 _ _ _ _ _)
            · refine g_iload_n (i := 3) dX12_fall_88 rfl rfl ?_
              refine g_callSI (crt_X12_ones _ _ _ _) cw_X12_ones (by decide) rfl q_1718 q_1719 rfl rfl dX12_fall_89 ?_
              intro r13 m14
              refine g_istore_n (i := 2) dX12_fall_92 rfl (show 2 < 4 by decide) ?_
              intro x15
              exact g_msk [true, true, true, true] (hJ93 _ _ _ _ _)
          · intro J63 hJ63
            refine g_icmpeq (tgt := 63) dX12_fall_49 (by decide) ?_ ?_
            · exact g_msk [true, true, true, true] (hJ63 _ _ _ _ _)
            · refine g_iload_n (i := 3) dX12_fall_52 rfl rfl ?_
              refine g_callSI (crt_X12_ones _ _ _ _) cw_X12_ones (by decide) rfl q_1718 q_1719 rfl rfl dX12_fall_53 ?_
              intro r16 m17
              refine g_iload_n (i := 2) dX12_fall_56 rfl rfl ?_
              refine g_icmplt (tgt := 63) dX12_fall_57 (by decide) ?_ ?_
              · exact g_msk [true, true, true, true] (hJ63 _ _ _ _ _)
              · refine g_goto (tgt := 93) dX12_fall_60 (by decide) ?_
                exact g_msk [true, true, true, true] (hJ93 _ _ _ _ _)
set_option maxRecDepth 100000 in
set_option maxHeartbeats 4000000 in
theorem crt_X12_fall (l : Launch) (θ : Th) (a0 : Nat) (m : Mm) : Crt l θ yX12_fall M_X12_fall cvI [.ref a0] m (F_X12_fall a0 m) := by
  refine crt_of 3 (by decide) rfl rfl (Nat.le_of_ble_eq_true rfl) (fun Z hμ => ?_)
  unfold F_X12_fall
  show GG Z _ _ 0 [some (.ref a0), none, none, none] [] m _
  refine g_aload_n (i := 0) dX12_fall_0 rfl rfl ?_
  refine g_iconst (v := (0 : Int32)) dX12_fall_1 ki_0 ?_
  refine g_putI (k := 0) cl_X12 (by decide) rfl rfl q_1381 dX12_fall_2 ?_
  intro m1
  refine g_aload_n (i := 0) dX12_fall_5 rfl rfl ?_
  refine g_getR (k := 23) cl_X12 (by decide) rfl q_1404 dX12_fall_6 ?_
  intro q2
  refine g_sipush (v := (184 : Int32)) dX12_fall_9 ks_184 ?_
  refine g_iaload dX12_fall_12 ?_
  refine g_aload_n (i := 0) dX12_fall_13 rfl rfl ?_
  refine g_getR (k := 23) cl_X12 (by decide) rfl q_1404 dX12_fall_14 ?_
  intro q3
  refine g_sipush (v := (183 : Int32)) dX12_fall_17 ks_183 ?_
  refine g_iaload dX12_fall_20 ?_
  refine g_iand dX12_fall_21 ?_
  refine g_istore_n (i := 1) dX12_fall_22 rfl (show 1 < 4 by decide) ?_
  intro x4
  refine g_iconst (v := (-1 : Int32)) dX12_fall_23 ki_m1 ?_
  refine g_istore_n (i := 2) dX12_fall_24 rfl (show 2 < 4 by decide) ?_
  intro x5
  refine g_iconst (v := (0 : Int32)) dX12_fall_25 ki_0 ?_
  refine g_istore_n (i := 3) dX12_fall_26 rfl (show 3 < 4 by decide) ?_
  intro x6
  exact g_msk [true, true, true, true] (c_L_X12_fall_27 NF _ _ _ _ _)
set_option maxRecDepth 100000 in
set_option maxHeartbeats 4000000 in
theorem crt_X12_primaryIf (l : Launch) (θ : Th) (a0 : Nat) (a1 : Int32) (m : Mm) : Crt l θ yX12_primaryIf M_X12_primaryIf cvI [.ref a0, .int a1] m (F_X12_primaryIf a0 a1 m) := by
  refine crt_of 0 (by decide) rfl rfl (Nat.le_of_ble_eq_true rfl) (fun Z hμ => ?_)
  unfold F_X12_primaryIf
  show GG Z _ _ 0 [some (.ref a0), some (.int a1)] [] m _
  refine g_aload_n (i := 0) dX12_primaryIf_0 rfl rfl ?_
  refine g_aload_n (i := 0) dX12_primaryIf_1 rfl rfl ?_
  refine g_getR (k := 23) cl_X12 (by decide) rfl q_1404 dX12_primaryIf_2 ?_
  intro q1
  refine g_iload_n (i := 1) dX12_primaryIf_5 rfl rfl ?_
  refine g_aload_n (i := 0) dX12_primaryIf_6 rfl rfl ?_
  refine g_getR (k := 23) cl_X12 (by decide) rfl q_1404 dX12_primaryIf_7 ?_
  intro q2
  refine g_sipush (v := (184 : Int32)) dX12_primaryIf_10 ks_184 ?_
  refine g_iaload dX12_primaryIf_13 ?_
  refine g_aload_n (i := 0) dX12_primaryIf_14 rfl rfl ?_
  refine g_getR (k := 23) cl_X12 (by decide) rfl q_1404 dX12_primaryIf_15 ?_
  intro q3
  refine g_sipush (v := (183 : Int32)) dX12_primaryIf_18 ks_183 ?_
  refine g_iaload dX12_primaryIf_21 ?_
  refine g_iand dX12_primaryIf_22 ?_
  refine g_callVI cl_X12 (crt_X12_primaryBy _ _ _ _ _ _ _) cw_X12_primaryBy (by decide) rfl q_1706 q_1708 qs_72 rfl rfl dX12_primaryIf_23 ?_
  intro r4 m5
  exact g_ireturn rfl dX12_primaryIf_26
set_option maxRecDepth 100000 in
set_option maxHeartbeats 4000000 in
theorem c_L_X12_splits_9 {Z : Zx}    : ∀ (n : Nat) (v0 : Nat) (v1 : Int32) (v2 : Int32) (m : Mm), GG Z M_X12_splits (PsN Z cvI) 9 [some (.ref v0), some (.int v1), some (.int v2)] [] m (L_X12_splits_9 n v0 v1 v2 m) := by
  intro n
  induction n with
  | zero => intro v0 v1 v2 m; exact g_no
  | succ n ih =>
    intro v0 v1 v2 m
    unfold L_X12_splits_9
    refine g_iload_n (i := 2) dX12_splits_9 rfl rfl ?_
    refine g_iconst (v := (1 : Int32)) dX12_splits_10 ki_1 ?_
    refine g_aload_n (i := 0) dX12_splits_11 rfl rfl ?_
    refine g_getR (k := 12) cl_X12 (by decide) rfl q_1393 dX12_splits_12 ?_
    intro q4
    refine g_iconst (v := (0 : Int32)) dX12_splits_15 ki_0 ?_
    refine g_iaload dX12_splits_16 ?_
    refine g_ishl dX12_splits_17 ?_
    refine g_icmpge (tgt := 44) dX12_splits_18 (by decide) ?_ ?_
    · refine g_iload_n (i := 1) dX12_splits_44 rfl rfl ?_
      exact g_ireturn rfl dX12_splits_45
    · refine g_iload_n (i := 1) dX12_splits_21 rfl rfl ?_
      refine g_aload_n (i := 0) dX12_splits_22 rfl rfl ?_
      refine g_iload_n (i := 2) dX12_splits_23 rfl rfl ?_
      refine g_callVI cl_X12 (crt_X12_primaryIf _ _ _ _ _) cw_X12_primaryIf (by decide) rfl q_1833 q_1835 qs_86 rfl rfl dX12_splits_24 ?_
      intro r5 m6
      refine g_iconst (v := (-1 : Int32)) dX12_splits_27 ki_m1 ?_
      refine g_jn (fun J36 => ∀ (v0 : Nat) (v2 : Int32) (s0 : Int32) (s1 : Int32) (m : Mm), GG Z M_X12_splits (PsN Z cvI) 36 [some (.ref v0), none, some (.int v2)] [.int s0, .int s1] m (J36 v0 v2 s0 s1 m)) ?_ ?_
      · intro v0 v2 s0 s1 m
        refine g_iadd dX12_splits_36 ?_
        refine g_istore_n (i := 1) dX12_splits_37 rfl (show 1 < 3 by decide) ?_
        intro x7
        refine g_iinc dX12_splits_38 rfl ki_1 (show 2 < 3 by decide) ?_
        intro x8
        refine g_goto (tgt := 9) dX12_splits_41 (by decide) ?_
        exact g_msk [true, true, true] (ih _ _ _ _)
      · intro J36 hJ36
        refine g_icmpne (tgt := 35) dX12_splits_28 (by decide) ?_ ?_
        · refine g_iconst (v := (0 : Int32)) dX12_splits_35 ki_0 ?_
          exact g_msk [true, false, true] (hJ36 _ _ _ _ _)
        · refine g_iconst (v := (1 : Int32)) dX12_splits_31 ki_1 ?_
          refine g_goto (tgt := 36) dX12_splits_32 (by decide) ?_
          exact g_msk [true, false, true] (hJ36 _ _ _ _ _)
set_option maxRecDepth 100000 in
set_option maxHeartbeats 4000000 in
theorem crt_X12_splits (l : Launch) (θ : Th) (a0 : Nat) (m : Mm) : Crt l θ yX12_splits M_X12_splits cvI [.ref a0] m (F_X12_splits a0 m) := by
  refine crt_of 2 (by decide) rfl rfl (Nat.le_of_ble_eq_true rfl) (fun Z hμ => ?_)
  unfold F_X12_splits
  show GG Z _ _ 0 [some (.ref a0), none, none] [] m _
  refine g_aload_n (i := 0) dX12_splits_0 rfl rfl ?_
  refine g_iconst (v := (0 : Int32)) dX12_splits_1 ki_0 ?_
  refine g_putI (k := 0) cl_X12 (by decide) rfl rfl q_1381 dX12_splits_2 ?_
  intro m1
  refine g_iconst (v := (0 : Int32)) dX12_splits_5 ki_0 ?_
  refine g_istore_n (i := 1) dX12_splits_6 rfl (show 1 < 3 by decide) ?_
  intro x2
  refine g_iconst (v := (0 : Int32)) dX12_splits_7 ki_0 ?_
  refine g_istore_n (i := 2) dX12_splits_8 rfl (show 2 < 3 by decide) ?_
  intro x3
  exact g_msk [true, true, true] (c_L_X12_splits_9 NF _ _ _ _)
set_option maxRecDepth 100000 in
set_option maxHeartbeats 4000000 in
theorem c_L_X12_hasToTell_2 {Z : Zx}    : ∀ (n : Nat) (v0 : Nat) (v1 : Int32) (v2 : Int32) (m : Mm), GG Z M_X12_hasToTell (PsN Z cvI) 2 [some (.ref v0), some (.int v1), some (.int v2)] [] m (L_X12_hasToTell_2 n v0 v1 v2 m) := by
  intro n
  induction n with
  | zero => intro v0 v1 v2 m; exact g_no
  | succ n ih =>
    intro v0 v1 v2 m
    unfold L_X12_hasToTell_2
    refine g_iload_n (i := 2) dX12_hasToTell_2 rfl rfl ?_
    refine g_aload_n (i := 0) dX12_hasToTell_3 rfl rfl ?_
    refine g_getR (k := 12) cl_X12 (by decide) rfl q_1393 dX12_hasToTell_4 ?_
    intro q2
    refine g_iconst (v := (0 : Int32)) dX12_hasToTell_7 ki_0 ?_
    refine g_iaload dX12_hasToTell_8 ?_
    refine g_icmpge (tgt := 72) dX12_hasToTell_9 (by decide) ?_ ?_
    · refine g_iconst (v := (0 : Int32)) dX12_hasToTell_72 ki_0 ?_
      exact g_zreturnK rfl (by decide) dX12_hasToTell_73
    · refine g_aload_n (i := 0) dX12_hasToTell_12 rfl rfl ?_
      refine g_getR (k := 23) cl_X12 (by decide) rfl q_1404 dX12_hasToTell_13 ?_
      intro q3
      refine g_iload_n (i := 2) dX12_hasToTell_16 rfl rfl ?_
      refine g_callSI (crt_X12_isInside _ _ _ _ _) cw_X12_isInside (by decide) rfl q_1640 q_1641 rfl rfl dX12_hasToTell_17 ?_
      intro r4 m5
      refine g_jn (fun J66 => ∀ (v0 : Nat) (v1 : Int32) (v2 : Int32) (m : Mm), GG Z M_X12_hasToTell (PsN Z cvI) 66 [some (.ref v0), some (.int v1), some (.int v2)] [] m (J66 v0 v1 v2 m)) ?_ ?_
      · intro v0 v1 v2 m
        refine g_iinc dX12_hasToTell_66 rfl ki_1 (show 2 < 3 by decide) ?_
        intro x6
        refine g_goto (tgt := 2) dX12_hasToTell_69 (by decide) ?_
        exact g_msk [true, true, true] (ih _ _ _ _)
      · intro J66 hJ66
        refine g_ifeq (tgt := 66) dX12_hasToTell_20 (by decide) ?_ ?_
        · exact g_msk [true, true, true] (hJ66 _ _ _ _)
        · refine g_aload_n (i := 0) dX12_hasToTell_23 rfl rfl ?_
          refine g_getR (k := 23) cl_X12 (by decide) rfl q_1404 dX12_hasToTell_24 ?_
          intro q7
          refine g_sipush (v := (180 : Int32)) dX12_hasToTell_27 ks_180 ?_
          refine g_iaload dX12_hasToTell_30 ?_
          refine g_iload_n (i := 1) dX12_hasToTell_31 rfl rfl ?_
          refine g_iload_n (i := 2) dX12_hasToTell_32 rfl rfl ?_
          refine g_callSI (crt_X12_reaches _ _ _ _ _ _) cw_X12_reaches (by decide) rfl q_1670 q_1671 rfl rfl dX12_hasToTell_33 ?_
          intro r8 m9
          refine g_ifeq (tgt := 66) dX12_hasToTell_36 (by decide) ?_ ?_
          · exact g_msk [true, true, true] (hJ66 _ _ _ _)
          · refine g_aload_n (i := 0) dX12_hasToTell_39 rfl rfl ?_
            refine g_getR (k := 23) cl_X12 (by decide) rfl q_1404 dX12_hasToTell_40 ?_
            intro q10
            refine g_bipush (v := (12 : Int32)) dX12_hasToTell_43 kb_12 ?_
            refine g_iload_n (i := 1) dX12_hasToTell_45 rfl rfl ?_
            refine g_iadd dX12_hasToTell_46 ?_
            refine g_iaload dX12_hasToTell_47 ?_
            refine g_aload_n (i := 0) dX12_hasToTell_48 rfl rfl ?_
            refine g_getR (k := 23) cl_X12 (by decide) rfl q_1404 dX12_hasToTell_49 ?_
            intro q11
            refine g_iload_n (i := 2) dX12_hasToTell_52 rfl rfl ?_
            refine g_iload_n (i := 1) dX12_hasToTell_53 rfl rfl ?_
            refine g_callSI (crt_X12_knownOf _ _ _ _ _) cw_X12_knownOf (by decide) rfl q_1646 q_1647 rfl rfl dX12_hasToTell_54 ?_
            intro r12 m13
            refine g_iaload dX12_hasToTell_57 ?_
            refine g_iconst (v := (-1 : Int32)) dX12_hasToTell_58 ki_m1 ?_
            refine g_ixor dX12_hasToTell_59 ?_
            refine g_iand dX12_hasToTell_60 ?_
            refine g_ifeq (tgt := 66) dX12_hasToTell_61 (by decide) ?_ ?_
            · exact g_msk [true, true, true] (hJ66 _ _ _ _)
            · refine g_iconst (v := (1 : Int32)) dX12_hasToTell_64 ki_1 ?_
              exact g_zreturnK rfl (by decide) dX12_hasToTell_65
set_option maxRecDepth 100000 in
set_option maxHeartbeats 4000000 in
theorem crt_X12_hasToTell (l : Launch) (θ : Th) (a0 : Nat) (a1 : Int32) (m : Mm) : Crt l θ yX12_hasToTell M_X12_hasToTell cvI [.ref a0, .int a1] m (F_X12_hasToTell a0 a1 m) := by
  refine crt_of 1 (by decide) rfl rfl (Nat.le_of_ble_eq_true rfl) (fun Z hμ => ?_)
  unfold F_X12_hasToTell
  show GG Z _ _ 0 [some (.ref a0), some (.int a1), none] [] m _
  refine g_iconst (v := (0 : Int32)) dX12_hasToTell_0 ki_0 ?_
  refine g_istore_n (i := 2) dX12_hasToTell_1 rfl (show 2 < 3 by decide) ?_
  intro x1
  exact g_msk [true, true, true] (c_L_X12_hasToTell_2 NF _ _ _ _)
set_option maxRecDepth 100000 in
set_option maxHeartbeats 4000000 in
theorem c_L_X12_tells_9 {Z : Zx}    : ∀ (n : Nat) (v0 : Nat) (v1 : Int32) (v2 : Int32) (m : Mm), GG Z M_X12_tells (PsN Z cvI) 9 [some (.ref v0), some (.int v1), some (.int v2)] [] m (L_X12_tells_9 n v0 v1 v2 m) := by
  intro n
  induction n with
  | zero => intro v0 v1 v2 m; exact g_no
  | succ n ih =>
    intro v0 v1 v2 m
    unfold L_X12_tells_9
    refine g_iload_n (i := 2) dX12_tells_9 rfl rfl ?_
    refine g_aload_n (i := 0) dX12_tells_10 rfl rfl ?_
    refine g_getR (k := 12) cl_X12 (by decide) rfl q_1393 dX12_tells_11 ?_
    intro q4
    refine g_iconst (v := (0 : Int32)) dX12_tells_14 ki_0 ?_
    refine g_iaload dX12_tells_15 ?_
    refine g_icmpge (tgt := 52) dX12_tells_16 (by decide) ?_ ?_
    · refine g_iload_n (i := 1) dX12_tells_52 rfl rfl ?_
      exact g_ireturn rfl dX12_tells_53
    · refine g_iload_n (i := 1) dX12_tells_19 rfl rfl ?_
      refine g_aload_n (i := 0) dX12_tells_20 rfl rfl ?_
      refine g_getR (k := 23) cl_X12 (by decide) rfl q_1404 dX12_tells_21 ?_
      intro q5
      refine g_iload_n (i := 2) dX12_tells_24 rfl rfl ?_
      refine g_callSI (crt_X12_isInside _ _ _ _ _) cw_X12_isInside (by decide) rfl q_1640 q_1641 rfl rfl dX12_tells_25 ?_
      intro r6 m7
      refine g_jn (fun J44 => ∀ (v0 : Nat) (v2 : Int32) (s0 : Int32) (s1 : Int32) (m : Mm), GG Z M_X12_tells (PsN Z cvI) 44 [some (.ref v0), none, some (.int v2)] [.int s0, .int s1] m (J44 v0 v2 s0 s1 m)) ?_ ?_
      · intro v0 v2 s0 s1 m
        refine g_iadd dX12_tells_44 ?_
        refine g_istore_n (i := 1) dX12_tells_45 rfl (show 1 < 3 by decide) ?_
        intro x8
        refine g_iinc dX12_tells_46 rfl ki_1 (show 2 < 3 by decide) ?_
        intro x9
        refine g_goto (tgt := 9) dX12_tells_49 (by decide) ?_
        exact g_msk [true, true, true] (ih _ _ _ _)
      · intro J44 hJ44
        refine g_jn (fun J43 => ∀ (v0 : Nat) (v2 : Int32) (s0 : Int32) (m : Mm), GG Z M_X12_tells (PsN Z cvI) 43 [some (.ref v0), none, some (.int v2)] [.int s0] m (J43 v0 v2 s0 m)) ?_ ?_
        · intro v0 v2 s0 m
          refine g_iconst (v := (0 : Int32)) dX12_tells_43 ki_0 ?_
          exact g_msk [true, false, true] (hJ44 _ _ _ _ _)
        · intro J43 hJ43
          refine g_ifeq (tgt := 43) dX12_tells_28 (by decide) ?_ ?_
          · exact g_msk [true, false, true] (hJ43 _ _ _ _)
          · refine g_aload_n (i := 0) dX12_tells_31 rfl rfl ?_
            refine g_iload_n (i := 2) dX12_tells_32 rfl rfl ?_
            refine g_callVI cl_X12 (crt_X12_hasToTell _ _ _ _ _) cw_X12_hasToTell (by decide) rfl q_1841 q_1843 qs_87 rfl rfl dX12_tells_33 ?_
            intro r10 m11
            refine g_ifeq (tgt := 43) dX12_tells_36 (by decide) ?_ ?_
            · exact g_msk [true, false, true] (hJ43 _ _ _ _)
            · refine g_iconst (v := (1 : Int32)) dX12_tells_39 ki_1 ?_
              refine g_goto (tgt := 44) dX12_tells_40 (by decide) ?_
              exact g_msk [true, false, true] (hJ44 _ _ _ _ _)
set_option maxRecDepth 100000 in
set_option maxHeartbeats 4000000 in
theorem crt_X12_tells (l : Launch) (θ : Th) (a0 : Nat) (m : Mm) : Crt l θ yX12_tells M_X12_tells cvI [.ref a0] m (F_X12_tells a0 m) := by
  refine crt_of 2 (by decide) rfl rfl (Nat.le_of_ble_eq_true rfl) (fun Z hμ => ?_)
  unfold F_X12_tells
  show GG Z _ _ 0 [some (.ref a0), none, none] [] m _
  refine g_aload_n (i := 0) dX12_tells_0 rfl rfl ?_
  refine g_iconst (v := (0 : Int32)) dX12_tells_1 ki_0 ?_
  refine g_putI (k := 0) cl_X12 (by decide) rfl rfl q_1381 dX12_tells_2 ?_
  intro m1
  refine g_iconst (v := (0 : Int32)) dX12_tells_5 ki_0 ?_
  refine g_istore_n (i := 1) dX12_tells_6 rfl (show 1 < 3 by decide) ?_
  intro x2
  refine g_iconst (v := (0 : Int32)) dX12_tells_7 ki_0 ?_
  refine g_istore_n (i := 2) dX12_tells_8 rfl (show 2 < 3 by decide) ?_
  intro x3
  exact g_msk [true, true, true] (c_L_X12_tells_9 NF _ _ _ _)
set_option maxRecDepth 100000 in
set_option maxHeartbeats 4000000 in
theorem crt_X12_next (l : Launch) (θ : Th) (a0 : Nat) (a1 : Int32) (m : Mm) : Crt l θ yX12_next M_X12_next cvI [.ref a0, .int a1] m (F_X12_next a0 a1 m) := by
  refine crt_of 0 (by decide) rfl rfl (Nat.le_of_ble_eq_true rfl) (fun Z hμ => ?_)
  unfold F_X12_next
  show GG Z _ _ 0 [some (.ref a0), some (.int a1)] [] m _
  refine g_aload_n (i := 0) dX12_next_0 rfl rfl ?_
  refine g_iconst (v := (0 : Int32)) dX12_next_1 ki_0 ?_
  refine g_putI (k := 0) cl_X12 (by decide) rfl rfl q_1381 dX12_next_2 ?_
  intro m1
  refine g_aload_n (i := 0) dX12_next_5 rfl rfl ?_
  refine g_aload_n (i := 0) dX12_next_6 rfl rfl ?_
  refine g_iload_n (i := 1) dX12_next_7 rfl rfl ?_
  refine g_callVI cl_X12 (crt_X12_isMember _ _ _ _ _) cw_X12_isMember (by decide) rfl q_1777 q_1779 qs_83 rfl rfl dX12_next_8 ?_
  intro r2 m3
  refine g_jn (fun J19 => ∀ (v0 : Nat) (v1 : Int32) (s0 : Int32) (s1 : Nat) (m : Mm), GG Z M_X12_next (PsN Z cvI) 19 [some (.ref v0), some (.int v1)] [.int s0, .ref s1] m (J19 v0 v1 s0 s1 m)) ?_ ?_
  · intro v0 v1 s0 s1 m
    refine g_iconst (v := (1 : Int32)) dX12_next_19 ki_1 ?_
    refine g_iconst (v := (0 : Int32)) dX12_next_20 ki_0 ?_
    refine g_callVI cl_X12 (crt_X12_bad _ _ _ _ _ _ _) cw_X12_bad (by decide) rfl q_1508 q_1510 qs_39 rfl rfl dX12_next_21 ?_
    intro r4 m5
    refine g_ifeq (tgt := 29) dX12_next_24 (by decide) ?_ ?_
    · refine g_aload_n (i := 0) dX12_next_29 rfl rfl ?_
      refine g_aload_n (i := 0) dX12_next_30 rfl rfl ?_
      refine g_getR (k := 23) cl_X12 (by decide) rfl q_1404 dX12_next_31 ?_
      intro q6
      refine g_iload_n (i := 1) dX12_next_34 rfl rfl ?_
      refine g_iconst (v := (0 : Int32)) dX12_next_35 ki_0 ?_
      refine g_callVI cl_X12 (crt_X12_nextOf _ _ _ _ _ _ _) cw_X12_nextOf (by decide) rfl q_1666 q_1668 qs_65 rfl rfl dX12_next_36 ?_
      intro r7 m8
      exact g_ireturn rfl dX12_next_39
    · refine g_iconst (v := (0 : Int32)) dX12_next_27 ki_0 ?_
      exact g_ireturn rfl dX12_next_28
  · intro J19 hJ19
    refine g_ifne (tgt := 18) dX12_next_11 (by decide) ?_ ?_
    · refine g_iconst (v := (0 : Int32)) dX12_next_18 ki_0 ?_
      exact g_msk [true, true] (hJ19 _ _ _ _ _)
    · refine g_iconst (v := (1 : Int32)) dX12_next_14 ki_1 ?_
      refine g_goto (tgt := 19) dX12_next_15 (by decide) ?_
      exact g_msk [true, true] (hJ19 _ _ _ _ _)
set_option maxRecDepth 100000 in
set_option maxHeartbeats 4000000 in
theorem crt_X12_held (l : Launch) (θ : Th) (a0 : Nat) (a1 : Int32) (a2 : Int32) (m : Mm) : Crt l θ yX12_held M_X12_held cvI [.ref a0, .int a1, .int a2] m (F_X12_held a0 a1 a2 m) := by
  refine crt_of 0 (by decide) rfl rfl (Nat.le_of_ble_eq_true rfl) (fun Z hμ => ?_)
  unfold F_X12_held
  show GG Z _ _ 0 [some (.ref a0), some (.int a1), some (.int a2)] [] m _
  refine g_aload_n (i := 0) dX12_held_0 rfl rfl ?_
  refine g_iconst (v := (0 : Int32)) dX12_held_1 ki_0 ?_
  refine g_putI (k := 0) cl_X12 (by decide) rfl rfl q_1381 dX12_held_2 ?_
  intro m1
  refine g_aload_n (i := 0) dX12_held_5 rfl rfl ?_
  refine g_aload_n (i := 0) dX12_held_6 rfl rfl ?_
  refine g_iload_n (i := 1) dX12_held_7 rfl rfl ?_
  refine g_callVI cl_X12 (crt_X12_isMember _ _ _ _ _) cw_X12_isMember (by decide) rfl q_1777 q_1779 qs_83 rfl rfl dX12_held_8 ?_
  intro r2 m3
  refine g_jn (fun J19 => ∀ (v0 : Nat) (v1 : Int32) (v2 : Int32) (s0 : Int32) (s1 : Nat) (m : Mm), GG Z M_X12_held (PsN Z cvI) 19 [some (.ref v0), some (.int v1), some (.int v2)] [.int s0, .ref s1] m (J19 v0 v1 v2 s0 s1 m)) ?_ ?_
  · intro v0 v1 v2 s0 s1 m
    refine g_iconst (v := (1 : Int32)) dX12_held_19 ki_1 ?_
    refine g_iconst (v := (0 : Int32)) dX12_held_20 ki_0 ?_
    refine g_callVI cl_X12 (crt_X12_bad _ _ _ _ _ _ _) cw_X12_bad (by decide) rfl q_1508 q_1510 qs_39 rfl rfl dX12_held_21 ?_
    intro r4 m5
    refine g_ifne (tgt := 45) dX12_held_24 (by decide) ?_ ?_
    · refine g_iconst (v := (0 : Int32)) dX12_held_45 ki_0 ?_
      exact g_ireturn rfl dX12_held_46
    · refine g_aload_n (i := 0) dX12_held_27 rfl rfl ?_
      refine g_iload_n (i := 2) dX12_held_28 rfl rfl ?_
      refine g_jn (fun J37 => ∀ (v0 : Nat) (v1 : Int32) (v2 : Int32) (s0 : Int32) (s1 : Nat) (m : Mm), GG Z M_X12_held (PsN Z cvI) 37 [some (.ref v0), some (.int v1), some (.int v2)] [.int s0, .ref s1] m (J37 v0 v1 v2 s0 s1 m)) ?_ ?_
      · intro v0 v1 v2 s0 s1 m
        refine g_iconst (v := (2 : Int32)) dX12_held_37 ki_2 ?_
        refine g_iconst (v := (1 : Int32)) dX12_held_38 ki_1 ?_
        refine g_callVI cl_X12 (crt_X12_bad _ _ _ _ _ _ _) cw_X12_bad (by decide) rfl q_1508 q_1510 qs_39 rfl rfl dX12_held_39 ?_
        intro r6 m7
        refine g_ifeq (tgt := 47) dX12_held_42 (by decide) ?_ ?_
        · refine g_iload_n (i := 2) dX12_held_47 rfl rfl ?_
          refine g_aload_n (i := 0) dX12_held_48 rfl rfl ?_
          refine g_getR (k := 23) cl_X12 (by decide) rfl q_1404 dX12_held_49 ?_
          intro q8
          refine g_bipush (v := (30 : Int32)) dX12_held_52 kb_30 ?_
          refine g_iload_n (i := 1) dX12_held_54 rfl rfl ?_
          refine g_iadd dX12_held_55 ?_
          refine g_iaload dX12_held_56 ?_
          refine g_icmpge (tgt := 77) dX12_held_57 (by decide) ?_ ?_
          · refine g_iconst (v := (-1 : Int32)) dX12_held_77 ki_m1 ?_
            exact g_ireturn rfl dX12_held_78
          · refine g_aload_n (i := 0) dX12_held_60 rfl rfl ?_
            refine g_getR (k := 23) cl_X12 (by decide) rfl q_1404 dX12_held_61 ?_
            intro q9
            refine g_bipush (v := (72 : Int32)) dX12_held_64 kb_72 ?_
            refine g_bipush (v := (8 : Int32)) dX12_held_66 kb_8 ?_
            refine g_iload_n (i := 1) dX12_held_68 rfl rfl ?_
            refine g_imul dX12_held_69 ?_
            refine g_iadd dX12_held_70 ?_
            refine g_iload_n (i := 2) dX12_held_71 rfl rfl ?_
            refine g_iadd dX12_held_72 ?_
            refine g_iaload dX12_held_73 ?_
            refine g_goto (tgt := 78) dX12_held_74 (by decide) ?_
            exact g_ireturn rfl dX12_held_78
        · refine g_iconst (v := (0 : Int32)) dX12_held_45 ki_0 ?_
          exact g_ireturn rfl dX12_held_46
      · intro J37 hJ37
        refine g_ifge (tgt := 36) dX12_held_29 (by decide) ?_ ?_
        · refine g_iconst (v := (0 : Int32)) dX12_held_36 ki_0 ?_
          exact g_msk [true, true, true] (hJ37 _ _ _ _ _ _)
        · refine g_iconst (v := (1 : Int32)) dX12_held_32 ki_1 ?_
          refine g_goto (tgt := 37) dX12_held_33 (by decide) ?_
          exact g_msk [true, true, true] (hJ37 _ _ _ _ _ _)
  · intro J19 hJ19
    refine g_ifne (tgt := 18) dX12_held_11 (by decide) ?_ ?_
    · refine g_iconst (v := (0 : Int32)) dX12_held_18 ki_0 ?_
      exact g_msk [true, true, true] (hJ19 _ _ _ _ _ _)
    · refine g_iconst (v := (1 : Int32)) dX12_held_14 ki_1 ?_
      refine g_goto (tgt := 19) dX12_held_15 (by decide) ?_
      exact g_msk [true, true, true] (hJ19 _ _ _ _ _ _)
set_option maxRecDepth 100000 in
set_option maxHeartbeats 4000000 in
theorem c_L_X12_agreeBy_23 {Z : Zx}    : ∀ (n : Nat) (v0 : Nat) (v1 : Nat) (v2 : Int32) (v3 : Int32) (v4 : Int32) (m : Mm), GG Z M_X12_agreeBy (PsN Z cvI) 23 [some (.ref v0), some (.ref v1), some (.int v2), some (.int v3), some (.int v4)] [] m (L_X12_agreeBy_23 n v0 v1 v2 v3 v4 m) := by
  intro n
  induction n with
  | zero => intro v0 v1 v2 v3 v4 m; exact g_no
  | succ n ih =>
    intro v0 v1 v2 v3 v4 m
    unfold L_X12_agreeBy_23
    refine g_iload dX12_agreeBy_23 rfl ?_
    refine g_aload_n (i := 0) dX12_agreeBy_25 rfl rfl ?_
    refine g_getR (k := 12) cl_X12 (by decide) rfl q_1393 dX12_agreeBy_26 ?_
    intro q8
    refine g_iconst (v := (0 : Int32)) dX12_agreeBy_29 ki_0 ?_
    refine g_iaload dX12_agreeBy_30 ?_
    refine g_icmpge (tgt := 87) dX12_agreeBy_31 (by decide) ?_ ?_
    · refine g_iload_n (i := 3) dX12_agreeBy_87 rfl rfl ?_
      exact g_zreturn rfl dX12_agreeBy_88
    · refine g_iload_n (i := 3) dX12_agreeBy_34 rfl rfl ?_
      refine g_iload_n (i := 2) dX12_agreeBy_35 rfl rfl ?_
      refine g_iload dX12_agreeBy_36 rfl ?_
      refine g_callSI (crt_X12_has _ _ _ _ _) cw_X12_has (by decide) rfl q_1378 q_1379 rfl rfl dX12_agreeBy_38 ?_
      intro r9 m10
      refine g_jn (fun J79 => ∀ (v0 : Nat) (v1 : Nat) (v2 : Int32) (v4 : Int32) (s0 : Int32) (s1 : Int32) (m : Mm), GG Z M_X12_agreeBy (PsN Z cvI) 79 [some (.ref v0), some (.ref v1), some (.int v2), none, some (.int v4)] [.int s0, .int s1] m (J79 v0 v1 v2 v4 s0 s1 m)) ?_ ?_
      · intro v0 v1 v2 v4 s0 s1 m
        refine g_iand dX12_agreeBy_79 ?_
        refine g_istore_n (i := 3) dX12_agreeBy_80 rfl (show 3 < 5 by decide) ?_
        intro x11
        refine g_iinc dX12_agreeBy_81 rfl ki_1 (show 4 < 5 by decide) ?_
        intro x12
        refine g_goto (tgt := 23) dX12_agreeBy_84 (by decide) ?_
        exact g_msk [true, true, true, true, true] (ih _ _ _ _ _ _)
      · intro J79 hJ79
        refine g_jn (fun J74 => ∀ (v0 : Nat) (v1 : Nat) (v2 : Int32) (v4 : Int32) (s0 : Int32) (m : Mm), GG Z M_X12_agreeBy (PsN Z cvI) 74 [some (.ref v0), some (.ref v1), some (.int v2), none, some (.int v4)] [.int s0] m (J74 v0 v1 v2 v4 s0 m)) ?_ ?_
        · intro v0 v1 v2 v4 s0 m
          refine g_iconst (v := (1 : Int32)) dX12_agreeBy_74 ki_1 ?_
          refine g_goto (tgt := 79) dX12_agreeBy_75 (by decide) ?_
          exact g_msk [true, true, true, false, true] (hJ79 _ _ _ _ _ _ _)
        · intro J74 hJ74
          refine g_ifeq (tgt := 74) dX12_agreeBy_41 (by decide) ?_ ?_
          · exact g_msk [true, true, true, false, true] (hJ74 _ _ _ _ _ _)
          · refine g_aload_n (i := 1) dX12_agreeBy_44 rfl rfl ?_
            refine g_sipush (v := (188 : Int32)) dX12_agreeBy_45 ks_188 ?_
            refine g_iconst (v := (2 : Int32)) dX12_agreeBy_48 ki_2 ?_
            refine g_iload dX12_agreeBy_49 rfl ?_
            refine g_imul dX12_agreeBy_51 ?_
            refine g_iadd dX12_agreeBy_52 ?_
            refine g_callSL (crt_X12_wide _ _ _ _ _) cw_X12_wide (by decide) rfl q_1649 q_1650 rfl rfl dX12_agreeBy_53 ?_
            intro r13 m14
            refine g_aload_n (i := 1) dX12_agreeBy_56 rfl rfl ?_
            refine g_sipush (v := (188 : Int32)) dX12_agreeBy_57 ks_188 ?_
            refine g_iconst (v := (2 : Int32)) dX12_agreeBy_60 ki_2 ?_
            refine g_iload_n (i := 2) dX12_agreeBy_61 rfl rfl ?_
            refine g_callSI (crt_X12_least _ _ _ _) cw_X12_least (by decide) rfl q_1750 q_1751 rfl rfl dX12_agreeBy_62 ?_
            intro r15 m16
            refine g_imul dX12_agreeBy_65 ?_
            refine g_iadd dX12_agreeBy_66 ?_
            refine g_callSL (crt_X12_wide _ _ _ _ _) cw_X12_wide (by decide) rfl q_1649 q_1650 rfl rfl dX12_agreeBy_67 ?_
            intro r17 m18
            refine g_lcmp dX12_agreeBy_70 ?_
            refine g_ifne (tgt := 78) dX12_agreeBy_71 (by decide) ?_ ?_
            · refine g_iconst (v := (0 : Int32)) dX12_agreeBy_78 ki_0 ?_
              exact g_msk [true, true, true, false, true] (hJ79 _ _ _ _ _ _ _)
            · exact g_msk [true, true, true, false, true] (hJ74 _ _ _ _ _ _)
set_option maxRecDepth 100000 in
set_option maxHeartbeats 4000000 in
theorem crt_X12_agreeBy (l : Launch) (θ : Th) (a0 : Nat) (a1 : Nat) (m : Mm) : Crt l θ yX12_agreeBy M_X12_agreeBy cvI [.ref a0, .ref a1] m (F_X12_agreeBy a0 a1 m) := by
  refine crt_of 3 (by decide) rfl rfl (Nat.le_of_ble_eq_true rfl) (fun Z hμ => ?_)
  unfold F_X12_agreeBy
  show GG Z _ _ 0 [some (.ref a0), some (.ref a1), none, none, none] [] m _
  refine g_aload_n (i := 0) dX12_agreeBy_0 rfl rfl ?_
  refine g_aload_n (i := 1) dX12_agreeBy_1 rfl rfl ?_
  refine g_callVI cl_X12 (crt_X12_survivors _ _ _ _ _) cw_X12_survivors (by decide) rfl q_1698 q_1700 qs_70 rfl rfl dX12_agreeBy_2 ?_
  intro r1 m2
  refine g_istore_n (i := 2) dX12_agreeBy_5 rfl (show 2 < 5 by decide) ?_
  intro x3
  refine g_iload_n (i := 2) dX12_agreeBy_6 rfl rfl ?_
  refine g_ifne (tgt := 12) dX12_agreeBy_7 (by decide) ?_ ?_
  · refine g_aload_n (i := 0) dX12_agreeBy_12 rfl rfl ?_
    refine g_aload_n (i := 1) dX12_agreeBy_13 rfl rfl ?_
    refine g_iload_n (i := 2) dX12_agreeBy_14 rfl rfl ?_
    refine g_callVV cl_X12 (crt_X12_flushes _ _ _ _ _ _) cw_X12_flushes (by decide) rfl q_1742 q_1744 qs_78 rfl rfl dX12_agreeBy_15 ?_
    intro r4 m5
    refine g_iconst (v := (1 : Int32)) dX12_agreeBy_18 ki_1 ?_
    refine g_istore_n (i := 3) dX12_agreeBy_19 rfl (show 3 < 5 by decide) ?_
    intro x6
    refine g_iconst (v := (0 : Int32)) dX12_agreeBy_20 ki_0 ?_
    refine g_istore dX12_agreeBy_21 (show 4 < 5 by decide) ?_
    intro x7
    exact g_msk [true, true, true, true, true] (c_L_X12_agreeBy_23 NF _ _ _ _ _ _)
  · refine g_iconst (v := (1 : Int32)) dX12_agreeBy_10 ki_1 ?_
    exact g_zreturnK rfl (by decide) dX12_agreeBy_11
set_option maxRecDepth 100000 in
set_option maxHeartbeats 4000000 in
theorem crt_X12_agree (l : Launch) (θ : Th) (a0 : Nat) (m : Mm) : Crt l θ yX12_agree M_X12_agree cvI [.ref a0] m (F_X12_agree a0 m) := by
  refine crt_of 0 (by decide) rfl rfl (Nat.le_of_ble_eq_true rfl) (fun Z hμ => ?_)
  unfold F_X12_agree
  show GG Z _ _ 0 [some (.ref a0)] [] m _
  refine g_aload_n (i := 0) dX12_agree_0 rfl rfl ?_
  refine g_iconst (v := (0 : Int32)) dX12_agree_1 ki_0 ?_
  refine g_putI (k := 0) cl_X12 (by decide) rfl rfl q_1381 dX12_agree_2 ?_
  intro m1
  refine g_aload_n (i := 0) dX12_agree_5 rfl rfl ?_
  refine g_getR (k := 23) cl_X12 (by decide) rfl q_1404 dX12_agree_6 ?_
  intro q2
  refine g_aload_n (i := 0) dX12_agree_9 rfl rfl ?_
  refine g_getR (k := 24) cl_X12 (by decide) rfl q_1405 dX12_agree_10 ?_
  intro q3
  refine g_callSV (crt_X12_copies _ _ _ _ _) cw_X12_copies (by decide) rfl q_1625 q_1626 rfl rfl dX12_agree_13 ?_
  intro r4 m5
  refine g_aload_n (i := 0) dX12_agree_16 rfl rfl ?_
  refine g_aload_n (i := 0) dX12_agree_17 rfl rfl ?_
  refine g_getR (k := 24) cl_X12 (by decide) rfl q_1405 dX12_agree_18 ?_
  intro q6
  refine g_callVI cl_X12 (crt_X12_agreeBy _ _ _ _ _) cw_X12_agreeBy (by decide) rfl q_1857 q_1859 qs_88 rfl rfl dX12_agree_21 ?_
  intro r7 m8
  exact g_zreturn rfl dX12_agree_24
set_option maxRecDepth 100000 in
set_option maxHeartbeats 4000000 in
theorem c_L_X12_isSo_8 {Z : Zx}    : ∀ (n : Nat) (v0 : Nat) (v2 : Int32) (v3 : Int32) (m : Mm), GG Z M_X12_isSo (PsN Z cvI) 8 [some (.ref v0), none, some (.int v2), some (.int v3)] [] m (L_X12_isSo_8 n v0 v2 v3 m) := by
  intro n
  induction n with
  | zero => intro v0 v2 v3 m; exact g_no
  | succ n ih =>
    intro v0 v2 v3 m
    unfold L_X12_isSo_8
    refine g_iload_n (i := 3) dX12_isSo_8 rfl rfl ?_
    refine g_aload_n (i := 0) dX12_isSo_9 rfl rfl ?_
    refine g_getI (k := 27) cl_X12 (by decide) rfl q_1408 dX12_isSo_10 ?_
    refine g_icmpge (tgt := 60) dX12_isSo_13 (by decide) ?_ ?_
    · refine g_iconst (v := (1 : Int32)) dX12_isSo_60 ki_1 ?_
      exact g_zreturnK rfl (by decide) dX12_isSo_61
    · refine g_iload_n (i := 2) dX12_isSo_16 rfl rfl ?_
      refine g_iconst (v := (-1 : Int32)) dX12_isSo_17 ki_m1 ?_
      refine g_jn (fun J41 => ∀ (v0 : Nat) (v2 : Int32) (v3 : Int32) (s0 : Int32) (m : Mm), GG Z M_X12_isSo (PsN Z cvI) 41 [some (.ref v0), none, some (.int v2), some (.int v3)] [.int s0] m (J41 v0 v2 v3 s0 m)) ?_ ?_
      · intro v0 v2 v3 s0 m
        refine g_aload_n (i := 0) dX12_isSo_41 rfl rfl ?_
        refine g_getR (k := 17) cl_X12 (by decide) rfl q_1398 dX12_isSo_42 ?_
        intro q5
        refine g_iload_n (i := 3) dX12_isSo_45 rfl rfl ?_
        refine g_aaloadA dX12_isSo_46 g_no ?_
        intro q6
        refine g_iconst (v := (1 : Int32)) dX12_isSo_47 ki_1 ?_
        refine g_iaload dX12_isSo_48 ?_
        refine g_icmpeq (tgt := 54) dX12_isSo_49 (by decide) ?_ ?_
        · refine g_iinc dX12_isSo_54 rfl ki_1 (show 3 < 4 by decide) ?_
          intro x7
          refine g_goto (tgt := 8) dX12_isSo_57 (by decide) ?_
          exact g_msk [true, false, true, true] (ih _ _ _ _)
        · refine g_iconst (v := (0 : Int32)) dX12_isSo_52 ki_0 ?_
          exact g_zreturnK rfl (by decide) dX12_isSo_53
      · intro J41 hJ41
        refine g_jn (fun J40 => ∀ (v0 : Nat) (v2 : Int32) (v3 : Int32) (m : Mm), GG Z M_X12_isSo (PsN Z cvI) 40 [some (.ref v0), none, some (.int v2), some (.int v3)] [] m (J40 v0 v2 v3 m)) ?_ ?_
        · intro v0 v2 v3 m
          refine g_iconst (v := (0 : Int32)) dX12_isSo_40 ki_0 ?_
          exact g_msk [true, false, true, true] (hJ41 _ _ _ _ _)
        · intro J40 hJ40
          refine g_icmpeq (tgt := 40) dX12_isSo_18 (by decide) ?_ ?_
          · exact g_msk [true, false, true, true] (hJ40 _ _ _ _)
          · refine g_iload_n (i := 2) dX12_isSo_21 rfl rfl ?_
            refine g_aload_n (i := 0) dX12_isSo_22 rfl rfl ?_
            refine g_getR (k := 17) cl_X12 (by decide) rfl q_1398 dX12_isSo_23 ?_
            intro q8
            refine g_iload_n (i := 3) dX12_isSo_26 rfl rfl ?_
            refine g_aaloadA dX12_isSo_27 g_no ?_
            intro q9
            refine g_iconst (v := (0 : Int32)) dX12_isSo_28 ki_0 ?_
            refine g_iaload dX12_isSo_29 ?_
            refine g_callSI (crt_X12_has _ _ _ _ _) cw_X12_has (by decide) rfl q_1378 q_1379 rfl rfl dX12_isSo_30 ?_
            intro r10 m11
            refine g_ifeq (tgt := 40) dX12_isSo_33 (by decide) ?_ ?_
            · exact g_msk [true, false, true, true] (hJ40 _ _ _ _)
            · refine g_iconst (v := (1 : Int32)) dX12_isSo_36 ki_1 ?_
              refine g_goto (tgt := 41) dX12_isSo_37 (by decide) ?_
              exact g_msk [true, false, true, true] (hJ41 _ _ _ _ _)
set_option maxRecDepth 100000 in
set_option maxHeartbeats 4000000 in
theorem crt_X12_isSo (l : Launch) (θ : Th) (a0 : Nat) (a1 : Int32) (m : Mm) : Crt l θ yX12_isSo M_X12_isSo cvI [.ref a0, .int a1] m (F_X12_isSo a0 a1 m) := by
  refine crt_of 2 (by decide) rfl rfl (Nat.le_of_ble_eq_true rfl) (fun Z hμ => ?_)
  unfold F_X12_isSo
  show GG Z _ _ 0 [some (.ref a0), some (.int a1), none, none] [] m _
  refine g_aload_n (i := 0) dX12_isSo_0 rfl rfl ?_
  refine g_iload_n (i := 1) dX12_isSo_1 rfl rfl ?_
  refine g_callVI cl_X12 (crt_X12_primaryIf _ _ _ _ _) cw_X12_primaryIf (by decide) rfl q_1833 q_1835 qs_86 rfl rfl dX12_isSo_2 ?_
  intro r1 m2
  refine g_istore_n (i := 2) dX12_isSo_5 rfl (show 2 < 4 by decide) ?_
  intro x3
  refine g_iconst (v := (0 : Int32)) dX12_isSo_6 ki_0 ?_
  refine g_istore_n (i := 3) dX12_isSo_7 rfl (show 3 < 4 by decide) ?_
  intro x4
  exact g_msk [true, false, true, true] (c_L_X12_isSo_8 NF _ _ _ _)
set_option maxRecDepth 100000 in
set_option maxHeartbeats 4000000 in
theorem c_L_X12_fits_37 {Z : Zx}  {K82 : Int32 → Int32 → Int32 → Mm → Option (Int32 × Mm)} (hK82 : ∀ (v1 : Int32) (v2 : Int32) (v3 : Int32) (m : Mm), GG Z M_X12_fits (PsN Z cvI) 82 [none, some (.int v1), some (.int v2), some (.int v3), none] [] m (K82 v1 v2 v3 m)) : ∀ (n : Nat) (v0 : Nat) (v1 : Int32) (v2 : Int32) (v3 : Int32) (v4 : Int32) (m : Mm), GG Z M_X12_fits (PsN Z cvI) 37 [some (.ref v0), some (.int v1), some (.int v2), some (.int v3), some (.int v4)] [] m (L_X12_fits_37 K82 n v0 v1 v2 v3 v4 m) := by
  intro n
  induction n with
  | zero => intro v0 v1 v2 v3 v4 m; exact g_no
  | succ n ih =>
    intro v0 v1 v2 v3 v4 m
    unfold L_X12_fits_37
    refine g_iload dX12_fits_37 rfl ?_
    refine g_iconst (v := (1 : Int32)) dX12_fits_39 ki_1 ?_
    refine g_aload_n (i := 0) dX12_fits_40 rfl rfl ?_
    refine g_getR (k := 12) cl_X12 (by decide) rfl q_1393 dX12_fits_41 ?_
    intro q9
    refine g_iconst (v := (0 : Int32)) dX12_fits_44 ki_0 ?_
    refine g_iaload dX12_fits_45 ?_
    refine g_ishl dX12_fits_46 ?_
    refine g_icmpge (tgt := 82) dX12_fits_47 (by decide) ?_ ?_
    · exact g_msk [false, true, true, true, false] (hK82 _ _ _ _)
    · refine g_aload_n (i := 0) dX12_fits_50 rfl rfl ?_
      refine g_iload dX12_fits_51 rfl ?_
      refine g_callVI cl_X12 (crt_X12_isSo _ _ _ _ _) cw_X12_isSo (by decide) rfl q_1865 q_1867 qs_89 rfl rfl dX12_fits_53 ?_
      intro r10 m11
      refine g_jn (fun J76 => ∀ (v0 : Nat) (v1 : Int32) (v2 : Int32) (v3 : Int32) (v4 : Int32) (m : Mm), GG Z M_X12_fits (PsN Z cvI) 76 [some (.ref v0), some (.int v1), some (.int v2), some (.int v3), some (.int v4)] [] m (J76 v0 v1 v2 v3 v4 m)) ?_ ?_
      · intro v0 v1 v2 v3 v4 m
        refine g_iinc dX12_fits_76 rfl ki_1 (show 4 < 5 by decide) ?_
        intro x12
        refine g_goto (tgt := 37) dX12_fits_79 (by decide) ?_
        exact g_msk [true, true, true, true, true] (ih _ _ _ _ _ _)
      · intro J76 hJ76
        refine g_ifne (tgt := 62) dX12_fits_56 (by decide) ?_ ?_
        · refine g_iload_n (i := 2) dX12_fits_62 rfl rfl ?_
          refine g_jn (fun J72 => ∀ (v0 : Nat) (v1 : Int32) (v2 : Int32) (v4 : Int32) (s0 : Int32) (m : Mm), GG Z M_X12_fits (PsN Z cvI) 72 [some (.ref v0), some (.int v1), some (.int v2), none, some (.int v4)] [.int s0] m (J72 v0 v1 v2 v4 s0 m)) ?_ ?_
          · intro v0 v1 v2 v4 s0 m
            refine g_istore_n (i := 3) dX12_fits_72 rfl (show 3 < 5 by decide) ?_
            intro x13
            refine g_iinc dX12_fits_73 rfl ki_1 (show 2 < 5 by decide) ?_
            intro x14
            exact g_msk [true, true, true, true, true] (hJ76 _ _ _ _ _ _)
          · intro J72 hJ72
            refine g_ifne (tgt := 71) dX12_fits_63 (by decide) ?_ ?_
            · refine g_iload_n (i := 3) dX12_fits_71 rfl rfl ?_
              exact g_msk [true, true, true, false, true] (hJ72 _ _ _ _ _ _)
            · refine g_iload dX12_fits_66 rfl ?_
              refine g_goto (tgt := 72) dX12_fits_68 (by decide) ?_
              exact g_msk [true, true, true, false, true] (hJ72 _ _ _ _ _ _)
        · refine g_goto (tgt := 76) dX12_fits_59 (by decide) ?_
          exact g_msk [true, true, true, true, true] (hJ76 _ _ _ _ _ _)
set_option maxRecDepth 100000 in
set_option maxHeartbeats 4000000 in
theorem crt_X12_fits (l : Launch) (θ : Th) (a0 : Nat) (a1 : Int32) (m : Mm) : Crt l θ yX12_fits M_X12_fits cvI [.ref a0, .int a1] m (F_X12_fits a0 a1 m) := by
  refine crt_of 3 (by decide) rfl rfl (Nat.le_of_ble_eq_true rfl) (fun Z hμ => ?_)
  unfold F_X12_fits
  show GG Z _ _ 0 [some (.ref a0), some (.int a1), none, none, none] [] m _
  refine g_aload_n (i := 0) dX12_fits_0 rfl rfl ?_
  refine g_iconst (v := (0 : Int32)) dX12_fits_1 ki_0 ?_
  refine g_putI (k := 0) cl_X12 (by decide) rfl rfl q_1381 dX12_fits_2 ?_
  intro m1
  refine g_aload_n (i := 0) dX12_fits_5 rfl rfl ?_
  refine g_iload_n (i := 1) dX12_fits_6 rfl rfl ?_
  refine g_iconst (v := (0 : Int32)) dX12_fits_7 ki_0 ?_
  refine g_iconst (v := (1 : Int32)) dX12_fits_8 ki_1 ?_
  refine g_callSI (crt_X12_in _ _ _ _ _ _) cw_X12_in (by decide) rfl q_1505 q_1506 rfl rfl dX12_fits_9 ?_
  intro r2 m3
  refine g_jn (fun J20 => ∀ (v0 : Nat) (v1 : Int32) (s0 : Int32) (s1 : Nat) (m : Mm), GG Z M_X12_fits (PsN Z cvI) 20 [some (.ref v0), some (.int v1), none, none, none] [.int s0, .ref s1] m (J20 v0 v1 s0 s1 m)) ?_ ?_
  · intro v0 v1 s0 s1 m
    refine g_iconst (v := (1 : Int32)) dX12_fits_20 ki_1 ?_
    refine g_iconst (v := (1 : Int32)) dX12_fits_21 ki_1 ?_
    refine g_callVI cl_X12 (crt_X12_bad _ _ _ _ _ _ _) cw_X12_bad (by decide) rfl q_1508 q_1510 qs_39 rfl rfl dX12_fits_22 ?_
    intro r4 m5
    refine g_ifeq (tgt := 30) dX12_fits_25 (by decide) ?_ ?_
    · refine g_iconst (v := (0 : Int32)) dX12_fits_30 ki_0 ?_
      refine g_istore_n (i := 2) dX12_fits_31 rfl (show 2 < 5 by decide) ?_
      intro x6
      refine g_iconst (v := (-1 : Int32)) dX12_fits_32 ki_m1 ?_
      refine g_istore_n (i := 3) dX12_fits_33 rfl (show 3 < 5 by decide) ?_
      intro x7
      refine g_iconst (v := (0 : Int32)) dX12_fits_34 ki_0 ?_
      refine g_istore dX12_fits_35 (show 4 < 5 by decide) ?_
      intro x8
      refine g_msk [true, true, true, true, true] (c_L_X12_fits_37 ?_ NF _ _ _ _ _ _)
      intro v1 v2 v3 m
      refine g_iload_n (i := 1) dX12_fits_82 rfl rfl ?_
      refine g_ifne (tgt := 90) dX12_fits_83 (by decide) ?_ ?_
      · refine g_iload_n (i := 3) dX12_fits_90 rfl rfl ?_
        exact g_ireturn rfl dX12_fits_91
      · refine g_iload_n (i := 2) dX12_fits_86 rfl rfl ?_
        refine g_goto (tgt := 91) dX12_fits_87 (by decide) ?_
        exact g_ireturn rfl dX12_fits_91
    · refine g_iconst (v := (0 : Int32)) dX12_fits_28 ki_0 ?_
      exact g_ireturn rfl dX12_fits_29
  · intro J20 hJ20
    refine g_ifne (tgt := 19) dX12_fits_12 (by decide) ?_ ?_
    · refine g_iconst (v := (0 : Int32)) dX12_fits_19 ki_0 ?_
      exact g_msk [true, true, false, false, false] (hJ20 _ _ _ _ _)
    · refine g_iconst (v := (1 : Int32)) dX12_fits_15 ki_1 ?_
      refine g_goto (tgt := 20) dX12_fits_16 (by decide) ?_
      exact g_msk [true, true, false, false, false] (hJ20 _ _ _ _ _)
set_option maxRecDepth 100000 in
set_option maxHeartbeats 4000000 in
theorem c_L_X12_isTold_2 {Z : Zx}    : ∀ (n : Nat) (v0 : Nat) (v1 : Int32) (v2 : Int32) (m : Mm), GG Z M_X12_isTold (PsN Z cvI) 2 [some (.ref v0), some (.int v1), some (.int v2)] [] m (L_X12_isTold_2 n v0 v1 v2 m) := by
  intro n
  induction n with
  | zero => intro v0 v1 v2 m; exact g_no
  | succ n ih =>
    intro v0 v1 v2 m
    unfold L_X12_isTold_2
    refine g_iload_n (i := 2) dX12_isTold_2 rfl rfl ?_
    refine g_aload_n (i := 0) dX12_isTold_3 rfl rfl ?_
    refine g_getI (k := 27) cl_X12 (by decide) rfl q_1408 dX12_isTold_4 ?_
    refine g_icmpge (tgt := 30) dX12_isTold_7 (by decide) ?_ ?_
    · refine g_iconst (v := (0 : Int32)) dX12_isTold_30 ki_0 ?_
      exact g_zreturnK rfl (by decide) dX12_isTold_31
    · refine g_aload_n (i := 0) dX12_isTold_10 rfl rfl ?_
      refine g_getR (k := 17) cl_X12 (by decide) rfl q_1398 dX12_isTold_11 ?_
      intro q2
      refine g_iload_n (i := 2) dX12_isTold_14 rfl rfl ?_
      refine g_aaloadA dX12_isTold_15 g_no ?_
      intro q3
      refine g_iconst (v := (0 : Int32)) dX12_isTold_16 ki_0 ?_
      refine g_iaload dX12_isTold_17 ?_
      refine g_iload_n (i := 1) dX12_isTold_18 rfl rfl ?_
      refine g_icmpne (tgt := 24) dX12_isTold_19 (by decide) ?_ ?_
      · refine g_iinc dX12_isTold_24 rfl ki_1 (show 2 < 3 by decide) ?_
        intro x4
        refine g_goto (tgt := 2) dX12_isTold_27 (by decide) ?_
        exact g_msk [true, true, true] (ih _ _ _ _)
      · refine g_iconst (v := (1 : Int32)) dX12_isTold_22 ki_1 ?_
        exact g_zreturnK rfl (by decide) dX12_isTold_23
set_option maxRecDepth 100000 in
set_option maxHeartbeats 4000000 in
theorem crt_X12_isTold (l : Launch) (θ : Th) (a0 : Nat) (a1 : Int32) (m : Mm) : Crt l θ yX12_isTold M_X12_isTold cvI [.ref a0, .int a1] m (F_X12_isTold a0 a1 m) := by
  refine crt_of 1 (by decide) rfl rfl (Nat.le_of_ble_eq_true rfl) (fun Z hμ => ?_)
  unfold F_X12_isTold
  show GG Z _ _ 0 [some (.ref a0), some (.int a1), none] [] m _
  refine g_iconst (v := (0 : Int32)) dX12_isTold_0 ki_0 ?_
  refine g_istore_n (i := 2) dX12_isTold_1 rfl (show 2 < 3 by decide) ?_
  intro x1
  exact g_msk [true, true, true] (c_L_X12_isTold_2 NF _ _ _ _)
set_option maxRecDepth 100000 in
set_option maxHeartbeats 4000000 in
theorem c_L_X12_worstAt_7 {Z : Zx}  {K92 : Int32 → Int32 → Mm → Option (Int32 × Mm)} (hK92 : ∀ (v2 : Int32) (v3 : Int32) (m : Mm), GG Z M_X12_worstAt (PsN Z cvI) 92 [none, none, some (.int v2), some (.int v3), none, none] [] m (K92 v2 v3 m)) : ∀ (n : Nat) (v0 : Nat) (v1 : Int32) (v2 : Int32) (v3 : Int32) (v4 : Int32) (m : Mm), GG Z M_X12_worstAt (PsN Z cvI) 7 [some (.ref v0), some (.int v1), some (.int v2), some (.int v3), some (.int v4), none] [] m (L_X12_worstAt_7 K92 n v0 v1 v2 v3 v4 m) := by
  intro n
  induction n with
  | zero => intro v0 v1 v2 v3 v4 m; exact g_no
  | succ n ih =>
    intro v0 v1 v2 v3 v4 m
    unfold L_X12_worstAt_7
    refine g_iload dX12_worstAt_7 rfl ?_
    refine g_iconst (v := (1 : Int32)) dX12_worstAt_9 ki_1 ?_
    refine g_aload_n (i := 0) dX12_worstAt_10 rfl rfl ?_
    refine g_getR (k := 12) cl_X12 (by decide) rfl q_1393 dX12_worstAt_11 ?_
    intro q4
    refine g_iconst (v := (0 : Int32)) dX12_worstAt_14 ki_0 ?_
    refine g_iaload dX12_worstAt_15 ?_
    refine g_ishl dX12_worstAt_16 ?_
    refine g_icmpge (tgt := 92) dX12_worstAt_17 (by decide) ?_ ?_
    · exact g_msk [false, false, true, true, false, false] (hK92 _ _ _)
    · refine g_aload_n (i := 0) dX12_worstAt_20 rfl rfl ?_
      refine g_iload dX12_worstAt_21 rfl ?_
      refine g_callVI cl_X12 (crt_X12_isSo _ _ _ _ _) cw_X12_isSo (by decide) rfl q_1865 q_1867 qs_89 rfl rfl dX12_worstAt_23 ?_
      intro r5 m6
      refine g_jn (fun J86 => ∀ (v0 : Nat) (v1 : Int32) (v2 : Int32) (v3 : Int32) (v4 : Int32) (m : Mm), GG Z M_X12_worstAt (PsN Z cvI) 86 [some (.ref v0), some (.int v1), some (.int v2), some (.int v3), some (.int v4), none] [] m (J86 v0 v1 v2 v3 v4 m)) ?_ ?_
      · intro v0 v1 v2 v3 v4 m
        refine g_iinc dX12_worstAt_86 rfl ki_1 (show 4 < 6 by decide) ?_
        intro x7
        refine g_goto (tgt := 7) dX12_worstAt_89 (by decide) ?_
        exact g_msk [true, true, true, true, true, false] (ih _ _ _ _ _ _)
      · intro J86 hJ86
        refine g_ifne (tgt := 32) dX12_worstAt_26 (by decide) ?_ ?_
        · refine g_aload_n (i := 0) dX12_worstAt_32 rfl rfl ?_
          refine g_iload dX12_worstAt_33 rfl ?_
          refine g_callVI cl_X12 (crt_X12_primaryIf _ _ _ _ _) cw_X12_primaryIf (by decide) rfl q_1833 q_1835 qs_86 rfl rfl dX12_worstAt_35 ?_
          intro r8 m9
          refine g_istore dX12_worstAt_38 (show 5 < 6 by decide) ?_
          intro x10
          refine g_iload_n (i := 2) dX12_worstAt_40 rfl rfl ?_
          refine g_iload dX12_worstAt_41 rfl ?_
          refine g_iconst (v := (-1 : Int32)) dX12_worstAt_43 ki_m1 ?_
          refine g_jn (fun J61 => ∀ (v0 : Nat) (v1 : Int32) (v3 : Int32) (v4 : Int32) (v5 : Int32) (s0 : Int32) (s1 : Int32) (m : Mm), GG Z M_X12_worstAt (PsN Z cvI) 61 [some (.ref v0), some (.int v1), none, some (.int v3), some (.int v4), some (.int v5)] [.int s0, .int s1] m (J61 v0 v1 v3 v4 v5 s0 s1 m)) ?_ ?_
          · intro v0 v1 v3 v4 v5 s0 s1 m
            refine g_iadd dX12_worstAt_61 ?_
            refine g_istore_n (i := 2) dX12_worstAt_62 rfl (show 2 < 6 by decide) ?_
            intro x11
            refine g_iload_n (i := 3) dX12_worstAt_63 rfl rfl ?_
            refine g_iload dX12_worstAt_64 rfl ?_
            refine g_iconst (v := (-1 : Int32)) dX12_worstAt_66 ki_m1 ?_
            refine g_jn (fun J84 => ∀ (v0 : Nat) (v1 : Int32) (v2 : Int32) (v4 : Int32) (s0 : Int32) (s1 : Int32) (m : Mm), GG Z M_X12_worstAt (PsN Z cvI) 84 [some (.ref v0), some (.int v1), some (.int v2), none, some (.int v4), none] [.int s0, .int s1] m (J84 v0 v1 v2 v4 s0 s1 m)) ?_ ?_
            · intro v0 v1 v2 v4 s0 s1 m
              refine g_iadd dX12_worstAt_84 ?_
              refine g_istore_n (i := 3) dX12_worstAt_85 rfl (show 3 < 6 by decide) ?_
              intro x12
              exact g_msk [true, true, true, true, true, false] (hJ86 _ _ _ _ _ _)
            · intro J84 hJ84
              refine g_jn (fun J83 => ∀ (v0 : Nat) (v1 : Int32) (v2 : Int32) (v4 : Int32) (s0 : Int32) (m : Mm), GG Z M_X12_worstAt (PsN Z cvI) 83 [some (.ref v0), some (.int v1), some (.int v2), none, some (.int v4), none] [.int s0] m (J83 v0 v1 v2 v4 s0 m)) ?_ ?_
              · intro v0 v1 v2 v4 s0 m
                refine g_iconst (v := (1 : Int32)) dX12_worstAt_83 ki_1 ?_
                exact g_msk [true, true, true, false, true, false] (hJ84 _ _ _ _ _ _ _)
              · intro J83 hJ83
                refine g_icmpeq (tgt := 83) dX12_worstAt_67 (by decide) ?_ ?_
                · exact g_msk [true, true, true, false, true, false] (hJ83 _ _ _ _ _ _)
                · refine g_iload dX12_worstAt_70 rfl ?_
                  refine g_iload_n (i := 1) dX12_worstAt_72 rfl rfl ?_
                  refine g_callSI (crt_X12_has _ _ _ _ _) cw_X12_has (by decide) rfl q_1378 q_1379 rfl rfl dX12_worstAt_73 ?_
                  intro r13 m14
                  refine g_ifeq (tgt := 83) dX12_worstAt_76 (by decide) ?_ ?_
                  · exact g_msk [true, true, true, false, true, false] (hJ83 _ _ _ _ _ _)
                  · refine g_iconst (v := (0 : Int32)) dX12_worstAt_79 ki_0 ?_
                    refine g_goto (tgt := 84) dX12_worstAt_80 (by decide) ?_
                    exact g_msk [true, true, true, false, true, false] (hJ84 _ _ _ _ _ _ _)
          · intro J61 hJ61
            refine g_jn (fun J60 => ∀ (v0 : Nat) (v1 : Int32) (v3 : Int32) (v4 : Int32) (v5 : Int32) (s0 : Int32) (m : Mm), GG Z M_X12_worstAt (PsN Z cvI) 60 [some (.ref v0), some (.int v1), none, some (.int v3), some (.int v4), some (.int v5)] [.int s0] m (J60 v0 v1 v3 v4 v5 s0 m)) ?_ ?_
            · intro v0 v1 v3 v4 v5 s0 m
              refine g_iconst (v := (0 : Int32)) dX12_worstAt_60 ki_0 ?_
              exact g_msk [true, true, false, true, true, true] (hJ61 _ _ _ _ _ _ _ _)
            · intro J60 hJ60
              refine g_icmpeq (tgt := 60) dX12_worstAt_44 (by decide) ?_ ?_
              · exact g_msk [true, true, false, true, true, true] (hJ60 _ _ _ _ _ _ _)
              · refine g_iload dX12_worstAt_47 rfl ?_
                refine g_iload_n (i := 1) dX12_worstAt_49 rfl rfl ?_
                refine g_callSI (crt_X12_has _ _ _ _ _) cw_X12_has (by decide) rfl q_1378 q_1379 rfl rfl dX12_worstAt_50 ?_
                intro r15 m16
                refine g_ifeq (tgt := 60) dX12_worstAt_53 (by decide) ?_ ?_
                · exact g_msk [true, true, false, true, true, true] (hJ60 _ _ _ _ _ _ _)
                · refine g_iconst (v := (1 : Int32)) dX12_worstAt_56 ki_1 ?_
                  refine g_goto (tgt := 61) dX12_worstAt_57 (by decide) ?_
                  exact g_msk [true, true, false, true, true, true] (hJ61 _ _ _ _ _ _ _ _)
        · refine g_goto (tgt := 86) dX12_worstAt_29 (by decide) ?_
          exact g_msk [true, true, true, true, true, false] (hJ86 _ _ _ _ _ _)
set_option maxRecDepth 100000 in
set_option maxHeartbeats 4000000 in
theorem crt_X12_worstAt (l : Launch) (θ : Th) (a0 : Nat) (a1 : Int32) (m : Mm) : Crt l θ yX12_worstAt M_X12_worstAt cvI [.ref a0, .int a1] m (F_X12_worstAt a0 a1 m) := by
  refine crt_of 4 (by decide) rfl rfl (Nat.le_of_ble_eq_true rfl) (fun Z hμ => ?_)
  unfold F_X12_worstAt
  show GG Z _ _ 0 [some (.ref a0), some (.int a1), none, none, none, none] [] m _
  refine g_iconst (v := (0 : Int32)) dX12_worstAt_0 ki_0 ?_
  refine g_istore_n (i := 2) dX12_worstAt_1 rfl (show 2 < 6 by decide) ?_
  intro x1
  refine g_iconst (v := (0 : Int32)) dX12_worstAt_2 ki_0 ?_
  refine g_istore_n (i := 3) dX12_worstAt_3 rfl (show 3 < 6 by decide) ?_
  intro x2
  refine g_iconst (v := (0 : Int32)) dX12_worstAt_4 ki_0 ?_
  refine g_istore dX12_worstAt_5 (show 4 < 6 by decide) ?_
  intro x3
  refine g_msk [true, true, true, true, true, false] (c_L_X12_worstAt_7 ?_ NF _ _ _ _ _ _)
  intro v2 v3 m
  refine g_iload_n (i := 2) dX12_worstAt_92 rfl rfl ?_
  refine g_iload_n (i := 3) dX12_worstAt_93 rfl rfl ?_
  refine g_callSI (crt_X12_more _ _ _ _ _) cw_X12_more (by decide) rfl q_1735 q_1736 rfl rfl dX12_worstAt_94 ?_
  intro r17 m18
  exact g_ireturn rfl dX12_worstAt_97
set_option maxRecDepth 100000 in
set_option maxHeartbeats 4000000 in
theorem c_L_X12_look_37 {Z : Zx}  {K94 : Int32 → Int32 → Int32 → Mm → Option (Int32 × Mm)} (hK94 : ∀ (v1 : Int32) (v2 : Int32) (v3 : Int32) (m : Mm), GG Z M_X12_look (PsN Z cvI) 94 [none, some (.int v1), some (.int v2), some (.int v3), none, none] [] m (K94 v1 v2 v3 m)) : ∀ (n : Nat) (v0 : Nat) (v1 : Int32) (v2 : Int32) (v3 : Int32) (v4 : Int32) (m : Mm), GG Z M_X12_look (PsN Z cvI) 37 [some (.ref v0), some (.int v1), some (.int v2), some (.int v3), some (.int v4), none] [] m (L_X12_look_37 K94 n v0 v1 v2 v3 v4 m) := by
  intro n
  induction n with
  | zero => intro v0 v1 v2 v3 v4 m; exact g_no
  | succ n ih =>
    intro v0 v1 v2 v3 v4 m
    unfold L_X12_look_37
    refine g_iload dX12_look_37 rfl ?_
    refine g_aload_n (i := 0) dX12_look_39 rfl rfl ?_
    refine g_getR (k := 12) cl_X12 (by decide) rfl q_1393 dX12_look_40 ?_
    intro q9
    refine g_iconst (v := (0 : Int32)) dX12_look_43 ki_0 ?_
    refine g_iaload dX12_look_44 ?_
    refine g_icmpge (tgt := 94) dX12_look_45 (by decide) ?_ ?_
    · exact g_msk [false, true, true, true, false, false] (hK94 _ _ _ _)
    · refine g_aload_n (i := 0) dX12_look_48 rfl rfl ?_
      refine g_iload dX12_look_49 rfl ?_
      refine g_callVI cl_X12 (crt_X12_isTold _ _ _ _ _) cw_X12_isTold (by decide) rfl q_1873 q_1875 qs_90 rfl rfl dX12_look_51 ?_
      intro r10 m11
      refine g_jn (fun J88 => ∀ (v0 : Nat) (v1 : Int32) (v2 : Int32) (v3 : Int32) (v4 : Int32) (m : Mm), GG Z M_X12_look (PsN Z cvI) 88 [some (.ref v0), some (.int v1), some (.int v2), some (.int v3), some (.int v4), none] [] m (J88 v0 v1 v2 v3 v4 m)) ?_ ?_
      · intro v0 v1 v2 v3 v4 m
        refine g_iinc dX12_look_88 rfl ki_1 (show 4 < 6 by decide) ?_
        intro x12
        refine g_goto (tgt := 37) dX12_look_91 (by decide) ?_
        exact g_msk [true, true, true, true, true, false] (ih _ _ _ _ _ _)
      · intro J88 hJ88
        refine g_ifeq (tgt := 60) dX12_look_54 (by decide) ?_ ?_
        · refine g_aload_n (i := 0) dX12_look_60 rfl rfl ?_
          refine g_iload dX12_look_61 rfl ?_
          refine g_callVI cl_X12 (crt_X12_worstAt _ _ _ _ _) cw_X12_worstAt (by decide) rfl q_1877 q_1879 qs_91 rfl rfl dX12_look_63 ?_
          intro r13 m14
          refine g_istore dX12_look_66 (show 5 < 6 by decide) ?_
          intro x15
          refine g_iload_n (i := 2) dX12_look_68 rfl rfl ?_
          refine g_iconst (v := (-1 : Int32)) dX12_look_69 ki_m1 ?_
          refine g_jn (fun J82 => ∀ (v0 : Nat) (v1 : Int32) (v4 : Int32) (v5 : Int32) (m : Mm), GG Z M_X12_look (PsN Z cvI) 82 [some (.ref v0), some (.int v1), none, none, some (.int v4), some (.int v5)] [] m (J82 v0 v1 v4 v5 m)) ?_ ?_
          · intro v0 v1 v4 v5 m
            refine g_iload dX12_look_82 rfl ?_
            refine g_istore_n (i := 2) dX12_look_84 rfl (show 2 < 6 by decide) ?_
            intro x16
            refine g_iload dX12_look_85 rfl ?_
            refine g_istore_n (i := 3) dX12_look_87 rfl (show 3 < 6 by decide) ?_
            intro x17
            exact g_msk [true, true, true, true, true, false] (hJ88 _ _ _ _ _ _)
          · intro J82 hJ82
            refine g_icmpeq (tgt := 82) dX12_look_70 (by decide) ?_ ?_
            · exact g_msk [true, true, false, false, true, true] (hJ82 _ _ _ _ _)
            · refine g_iload dX12_look_73 rfl ?_
              refine g_iload_n (i := 3) dX12_look_75 rfl rfl ?_
              refine g_icmplt (tgt := 82) dX12_look_76 (by decide) ?_ ?_
              · exact g_msk [true, true, false, false, true, true] (hJ82 _ _ _ _ _)
              · refine g_goto (tgt := 88) dX12_look_79 (by decide) ?_
                exact g_msk [true, true, true, true, true, false] (hJ88 _ _ _ _ _ _)
        · refine g_goto (tgt := 88) dX12_look_57 (by decide) ?_
          exact g_msk [true, true, true, true, true, false] (hJ88 _ _ _ _ _ _)
set_option maxRecDepth 100000 in
set_option maxHeartbeats 4000000 in
theorem crt_X12_look (l : Launch) (θ : Th) (a0 : Nat) (a1 : Int32) (m : Mm) : Crt l θ yX12_look M_X12_look cvI [.ref a0, .int a1] m (F_X12_look a0 a1 m) := by
  refine crt_of 4 (by decide) rfl rfl (Nat.le_of_ble_eq_true rfl) (fun Z hμ => ?_)
  unfold F_X12_look
  show GG Z _ _ 0 [some (.ref a0), some (.int a1), none, none, none, none] [] m _
  refine g_aload_n (i := 0) dX12_look_0 rfl rfl ?_
  refine g_iconst (v := (0 : Int32)) dX12_look_1 ki_0 ?_
  refine g_putI (k := 0) cl_X12 (by decide) rfl rfl q_1381 dX12_look_2 ?_
  intro m1
  refine g_aload_n (i := 0) dX12_look_5 rfl rfl ?_
  refine g_iload_n (i := 1) dX12_look_6 rfl rfl ?_
  refine g_iconst (v := (0 : Int32)) dX12_look_7 ki_0 ?_
  refine g_iconst (v := (1 : Int32)) dX12_look_8 ki_1 ?_
  refine g_callSI (crt_X12_in _ _ _ _ _ _) cw_X12_in (by decide) rfl q_1505 q_1506 rfl rfl dX12_look_9 ?_
  intro r2 m3
  refine g_jn (fun J20 => ∀ (v0 : Nat) (v1 : Int32) (s0 : Int32) (s1 : Nat) (m : Mm), GG Z M_X12_look (PsN Z cvI) 20 [some (.ref v0), some (.int v1), none, none, none, none] [.int s0, .ref s1] m (J20 v0 v1 s0 s1 m)) ?_ ?_
  · intro v0 v1 s0 s1 m
    refine g_iconst (v := (1 : Int32)) dX12_look_20 ki_1 ?_
    refine g_iconst (v := (1 : Int32)) dX12_look_21 ki_1 ?_
    refine g_callVI cl_X12 (crt_X12_bad _ _ _ _ _ _ _) cw_X12_bad (by decide) rfl q_1508 q_1510 qs_39 rfl rfl dX12_look_22 ?_
    intro r4 m5
    refine g_ifeq (tgt := 30) dX12_look_25 (by decide) ?_ ?_
    · refine g_iconst (v := (-1 : Int32)) dX12_look_30 ki_m1 ?_
      refine g_istore_n (i := 2) dX12_look_31 rfl (show 2 < 6 by decide) ?_
      intro x6
      refine g_iconst (v := (-1 : Int32)) dX12_look_32 ki_m1 ?_
      refine g_istore_n (i := 3) dX12_look_33 rfl (show 3 < 6 by decide) ?_
      intro x7
      refine g_iconst (v := (0 : Int32)) dX12_look_34 ki_0 ?_
      refine g_istore dX12_look_35 (show 4 < 6 by decide) ?_
      intro x8
      refine g_msk [true, true, true, true, true, false] (c_L_X12_look_37 ?_ NF _ _ _ _ _ _)
      intro v1 v2 v3 m
      refine g_iload_n (i := 1) dX12_look_94 rfl rfl ?_
      refine g_ifne (tgt := 102) dX12_look_95 (by decide) ?_ ?_
      · refine g_iload_n (i := 3) dX12_look_102 rfl rfl ?_
        exact g_ireturn rfl dX12_look_103
      · refine g_iload_n (i := 2) dX12_look_98 rfl rfl ?_
        refine g_goto (tgt := 103) dX12_look_99 (by decide) ?_
        exact g_ireturn rfl dX12_look_103
    · refine g_iconst (v := (0 : Int32)) dX12_look_28 ki_0 ?_
      exact g_ireturn rfl dX12_look_29
  · intro J20 hJ20
    refine g_ifne (tgt := 19) dX12_look_12 (by decide) ?_ ?_
    · refine g_iconst (v := (0 : Int32)) dX12_look_19 ki_0 ?_
      exact g_msk [true, true, false, false, false, false] (hJ20 _ _ _ _ _)
    · refine g_iconst (v := (1 : Int32)) dX12_look_15 ki_1 ?_
      refine g_goto (tgt := 20) dX12_look_16 (by decide) ?_
      exact g_msk [true, true, false, false, false, false] (hJ20 _ _ _ _ _)
set_option maxRecDepth 100000 in
set_option maxHeartbeats 4000000 in
theorem crt_X12_notesSign (l : Launch) (θ : Th) (a0 : Nat) (a1 : Int32) (m : Mm) : Crt l θ yX12_notesSign M_X12_notesSign cvV [.ref a0, .int a1] m (F_X12_notesSign a0 a1 m) := by
  refine crt_of 0 (by decide) rfl rfl (Nat.le_of_ble_eq_true rfl) (fun Z hμ => ?_)
  unfold F_X12_notesSign
  show GG Z _ _ 0 [some (.ref a0), some (.int a1)] [] m _
  refine g_aload_n (i := 0) dX12_notesSign_0 rfl rfl ?_
  refine g_getR (k := 34) cl_X12 (by decide) rfl q_1415 dX12_notesSign_1 ?_
  intro q1
  refine g_aload_n (i := 0) dX12_notesSign_4 rfl rfl ?_
  refine g_getI (k := 35) cl_X12 (by decide) rfl q_1416 dX12_notesSign_5 ?_
  refine g_iload_n (i := 1) dX12_notesSign_8 rfl rfl ?_
  refine g_iastore dX12_notesSign_9 ?_
  intro m2
  refine g_aload_n (i := 0) dX12_notesSign_10 rfl rfl ?_
  refine g_dup dX12_notesSign_11 rfl ?_
  refine g_getI (k := 35) cl_X12 (by decide) rfl q_1416 dX12_notesSign_12 ?_
  refine g_iconst (v := (1 : Int32)) dX12_notesSign_15 ki_1 ?_
  refine g_iadd dX12_notesSign_16 ?_
  refine g_putI (k := 35) cl_X12 (by decide) rfl rfl q_1416 dX12_notesSign_17 ?_
  intro m3
  exact g_return rfl dX12_notesSign_20
set_option maxRecDepth 100000 in
set_option maxHeartbeats 4000000 in
theorem c_L_X12_notesNumber_2 {Z : Zx}  {K18 : Nat → Int32 → Int32 → Mm → Option (Unit × Mm)} (hK18 : ∀ (v0 : Nat) (v1 : Int32) (v2 : Int32) (m : Mm), GG Z M_X12_notesNumber (PsN Z cvV) 18 [some (.ref v0), some (.int v1), some (.int v2), none] [] m (K18 v0 v1 v2 m)) : ∀ (n : Nat) (v0 : Nat) (v1 : Int32) (v2 : Int32) (m : Mm), GG Z M_X12_notesNumber (PsN Z cvV) 2 [some (.ref v0), some (.int v1), some (.int v2), none] [] m (L_X12_notesNumber_2 K18 n v0 v1 v2 m) := by
  intro n
  induction n with
  | zero => intro v0 v1 v2 m; exact g_no
  | succ n ih =>
    intro v0 v1 v2 m
    unfold L_X12_notesNumber_2
    refine g_iload_n (i := 1) dX12_notesNumber_2 rfl rfl ?_
    refine g_iload_n (i := 2) dX12_notesNumber_3 rfl rfl ?_
    refine g_idiv dX12_notesNumber_4 ?_
    refine g_bipush (v := (10 : Int32)) dX12_notesNumber_5 kb_10 ?_
    refine g_icmplt (tgt := 18) dX12_notesNumber_7 (by decide) ?_ ?_
    · exact g_msk [true, true, true, false] (hK18 _ _ _ _)
    · refine g_iload_n (i := 2) dX12_notesNumber_10 rfl rfl ?_
      refine g_bipush (v := (10 : Int32)) dX12_notesNumber_11 kb_10 ?_
      refine g_imul dX12_notesNumber_13 ?_
      refine g_istore_n (i := 2) dX12_notesNumber_14 rfl (show 2 < 4 by decide) ?_
      intro x2
      refine g_goto (tgt := 2) dX12_notesNumber_15 (by decide) ?_
      exact g_msk [true, true, true, false] (ih _ _ _ _)
set_option maxRecDepth 100000 in
set_option maxHeartbeats 4000000 in
theorem c_L_X12_notesNumber_20 {Z : Zx}    : ∀ (n : Nat) (v0 : Nat) (v1 : Int32) (v3 : Int32) (m : Mm), GG Z M_X12_notesNumber (PsN Z cvV) 20 [some (.ref v0), some (.int v1), none, some (.int v3)] [] m (L_X12_notesNumber_20 n v0 v1 v3 m) := by
  intro n
  induction n with
  | zero => intro v0 v1 v3 m; exact g_no
  | succ n ih =>
    intro v0 v1 v3 m
    unfold L_X12_notesNumber_20
    refine g_iload_n (i := 3) dX12_notesNumber_20 rfl rfl ?_
    refine g_ifle (tgt := 45) dX12_notesNumber_21 (by decide) ?_ ?_
    · exact g_return rfl dX12_notesNumber_45
    · refine g_aload_n (i := 0) dX12_notesNumber_24 rfl rfl ?_
      refine g_bipush (v := (48 : Int32)) dX12_notesNumber_25 kb_48 ?_
      refine g_iload_n (i := 1) dX12_notesNumber_27 rfl rfl ?_
      refine g_iload_n (i := 3) dX12_notesNumber_28 rfl rfl ?_
      refine g_idiv dX12_notesNumber_29 ?_
      refine g_bipush (v := (10 : Int32)) dX12_notesNumber_30 kb_10 ?_
      refine g_irem dX12_notesNumber_32 ?_
      refine g_iadd dX12_notesNumber_33 ?_
      refine g_callVV cl_X12 (crt_X12_notesSign _ _ _ _ _) cw_X12_notesSign (by decide) rfl q_1889 q_1891 qs_93 rfl rfl dX12_notesNumber_34 ?_
      intro r4 m5
      refine g_iload_n (i := 3) dX12_notesNumber_37 rfl rfl ?_
      refine g_bipush (v := (10 : Int32)) dX12_notesNumber_38 kb_10 ?_
      refine g_idiv dX12_notesNumber_40 ?_
      refine g_istore_n (i := 3) dX12_notesNumber_41 rfl (show 3 < 4 by decide) ?_
      intro x6
      refine g_goto (tgt := 20) dX12_notesNumber_42 (by decide) ?_
      exact g_msk [true, true, false, true] (ih _ _ _ _)
set_option maxRecDepth 100000 in
set_option maxHeartbeats 4000000 in
theorem crt_X12_notesNumber (l : Launch) (θ : Th) (a0 : Nat) (a1 : Int32) (m : Mm) : Crt l θ yX12_notesNumber M_X12_notesNumber cvV [.ref a0, .int a1] m (F_X12_notesNumber a0 a1 m) := by
  refine crt_of 2 (by decide) rfl rfl (Nat.le_of_ble_eq_true rfl) (fun Z hμ => ?_)
  unfold F_X12_notesNumber
  show GG Z _ _ 0 [some (.ref a0), some (.int a1), none, none] [] m _
  refine g_iconst (v := (1 : Int32)) dX12_notesNumber_0 ki_1 ?_
  refine g_istore_n (i := 2) dX12_notesNumber_1 rfl (show 2 < 4 by decide) ?_
  intro x1
  refine g_msk [true, true, true, false] (c_L_X12_notesNumber_2 ?_ NF _ _ _ _)
  intro v0 v1 v2 m
  refine g_iload_n (i := 2) dX12_notesNumber_18 rfl rfl ?_
  refine g_istore_n (i := 3) dX12_notesNumber_19 rfl (show 3 < 4 by decide) ?_
  intro x3
  exact g_msk [true, true, false, true] (c_L_X12_notesNumber_20 NF _ _ _ _)
set_option maxRecDepth 100000 in
set_option maxHeartbeats 4000000 in
theorem c_L_X12_laysNote_33 {Z : Zx}  {K126 : Nat → Mm → Option (Unit × Mm)} (hK126 : ∀ (v0 : Nat) (m : Mm), GG Z M_X12_laysNote (PsN Z cvV) 126 [some (.ref v0), none, none] [] m (K126 v0 m)) : ∀ (n : Nat) (v0 : Nat) (v1 : Int32) (v2 : Int32) (m : Mm), GG Z M_X12_laysNote (PsN Z cvV) 33 [some (.ref v0), some (.int v1), some (.int v2)] [] m (L_X12_laysNote_33 K126 n v0 v1 v2 m) := by
  intro n
  induction n with
  | zero => intro v0 v1 v2 m; exact g_no
  | succ n ih =>
    intro v0 v1 v2 m
    unfold L_X12_laysNote_33
    refine g_iload_n (i := 2) dX12_laysNote_33 rfl rfl ?_
    refine g_aload_n (i := 0) dX12_laysNote_34 rfl rfl ?_
    refine g_getR (k := 12) cl_X12 (by decide) rfl q_1393 dX12_laysNote_35 ?_
    intro q11
    refine g_iconst (v := (0 : Int32)) dX12_laysNote_38 ki_0 ?_
    refine g_iaload dX12_laysNote_39 ?_
    refine g_icmpge (tgt := 126) dX12_laysNote_40 (by decide) ?_ ?_
    · exact g_msk [true, false, false] (hK126 _ _)
    · refine g_aload_n (i := 0) dX12_laysNote_43 rfl rfl ?_
      refine g_getR (k := 23) cl_X12 (by decide) rfl q_1404 dX12_laysNote_44 ?_
      intro q12
      refine g_sipush (v := (182 : Int32)) dX12_laysNote_47 ks_182 ?_
      refine g_iaload dX12_laysNote_50 ?_
      refine g_iload_n (i := 2) dX12_laysNote_51 rfl rfl ?_
      refine g_callSI (crt_X12_has _ _ _ _ _) cw_X12_has (by decide) rfl q_1378 q_1379 rfl rfl dX12_laysNote_52 ?_
      intro r13 m14
      refine g_jn (fun J120 => ∀ (v0 : Nat) (v1 : Int32) (v2 : Int32) (m : Mm), GG Z M_X12_laysNote (PsN Z cvV) 120 [some (.ref v0), some (.int v1), some (.int v2)] [] m (J120 v0 v1 v2 m)) ?_ ?_
      · intro v0 v1 v2 m
        refine g_iinc dX12_laysNote_120 rfl ki_1 (show 2 < 3 by decide) ?_
        intro x15
        refine g_goto (tgt := 33) dX12_laysNote_123 (by decide) ?_
        exact g_msk [true, true, true] (ih _ _ _ _)
      · intro J120 hJ120
        refine g_ifne (tgt := 61) dX12_laysNote_55 (by decide) ?_ ?_
        · refine g_iload_n (i := 1) dX12_laysNote_61 rfl rfl ?_
          refine g_jn (fun J71 => ∀ (v0 : Nat) (v2 : Int32) (m : Mm), GG Z M_X12_laysNote (PsN Z cvV) 71 [some (.ref v0), none, some (.int v2)] [] m (J71 v0 v2 m)) ?_ ?_
          · intro v0 v2 m
            refine g_iconst (v := (0 : Int32)) dX12_laysNote_71 ki_0 ?_
            refine g_istore_n (i := 1) dX12_laysNote_72 rfl (show 1 < 3 by decide) ?_
            intro x16
            refine g_aload_n (i := 0) dX12_laysNote_73 rfl rfl ?_
            refine g_iload_n (i := 2) dX12_laysNote_74 rfl rfl ?_
            refine g_callVV cl_X12 (crt_X12_notesNumber _ _ _ _ _) cw_X12_notesNumber (by decide) rfl q_1893 q_1895 qs_94 rfl rfl dX12_laysNote_75 ?_
            intro r17 m18
            refine g_aload_n (i := 0) dX12_laysNote_78 rfl rfl ?_
            refine g_getR (k := 23) cl_X12 (by decide) rfl q_1404 dX12_laysNote_79 ?_
            intro q19
            refine g_sipush (v := (185 : Int32)) dX12_laysNote_82 ks_185 ?_
            refine g_iaload dX12_laysNote_85 ?_
            refine g_iload_n (i := 2) dX12_laysNote_86 rfl rfl ?_
            refine g_callSI (crt_X12_has _ _ _ _ _) cw_X12_has (by decide) rfl q_1378 q_1379 rfl rfl dX12_laysNote_87 ?_
            intro r20 m21
            refine g_jn (fun J99 => ∀ (v0 : Nat) (v1 : Int32) (v2 : Int32) (m : Mm), GG Z M_X12_laysNote (PsN Z cvV) 99 [some (.ref v0), some (.int v1), some (.int v2)] [] m (J99 v0 v1 v2 m)) ?_ ?_
            · intro v0 v1 v2 m
              refine g_aload_n (i := 0) dX12_laysNote_99 rfl rfl ?_
              refine g_getR (k := 23) cl_X12 (by decide) rfl q_1404 dX12_laysNote_100 ?_
              intro q22
              refine g_sipush (v := (184 : Int32)) dX12_laysNote_103 ks_184 ?_
              refine g_iaload dX12_laysNote_106 ?_
              refine g_iload_n (i := 2) dX12_laysNote_107 rfl rfl ?_
              refine g_callSI (crt_X12_has _ _ _ _ _) cw_X12_has (by decide) rfl q_1378 q_1379 rfl rfl dX12_laysNote_108 ?_
              intro r23 m24
              refine g_ifne (tgt := 120) dX12_laysNote_111 (by decide) ?_ ?_
              · exact g_msk [true, true, true] (hJ120 _ _ _ _)
              · refine g_aload_n (i := 0) dX12_laysNote_114 rfl rfl ?_
                refine g_bipush (v := (63 : Int32)) dX12_laysNote_115 kb_63 ?_
                refine g_callVV cl_X12 (crt_X12_notesSign _ _ _ _ _) cw_X12_notesSign (by decide) rfl q_1889 q_1891 qs_93 rfl rfl dX12_laysNote_117 ?_
                intro r25 m26
                exact g_msk [true, true, true] (hJ120 _ _ _ _)
            · intro J99 hJ99
              refine g_ifeq (tgt := 99) dX12_laysNote_90 (by decide) ?_ ?_
              · exact g_msk [true, true, true] (hJ99 _ _ _ _)
              · refine g_aload_n (i := 0) dX12_laysNote_93 rfl rfl ?_
                refine g_bipush (v := (33 : Int32)) dX12_laysNote_94 kb_33 ?_
                refine g_callVV cl_X12 (crt_X12_notesSign _ _ _ _ _) cw_X12_notesSign (by decide) rfl q_1889 q_1891 qs_93 rfl rfl dX12_laysNote_96 ?_
                intro r27 m28
                exact g_msk [true, true, true] (hJ99 _ _ _ _)
          · intro J71 hJ71
            refine g_ifne (tgt := 71) dX12_laysNote_62 (by decide) ?_ ?_
            · exact g_msk [true, false, true] (hJ71 _ _ _)
            · refine g_aload_n (i := 0) dX12_laysNote_65 rfl rfl ?_
              refine g_bipush (v := (44 : Int32)) dX12_laysNote_66 kb_44 ?_
              refine g_callVV cl_X12 (crt_X12_notesSign _ _ _ _ _) cw_X12_notesSign (by decide) rfl q_1889 q_1891 qs_93 rfl rfl dX12_laysNote_68 ?_
              intro r29 m30
              exact g_msk [true, false, true] (hJ71 _ _ _)
        · refine g_goto (tgt := 120) dX12_laysNote_58 (by decide) ?_
          exact g_msk [true, true, true] (hJ120 _ _ _ _)
set_option maxRecDepth 100000 in
set_option maxHeartbeats 4000000 in
theorem crt_X12_laysNote (l : Launch) (θ : Th) (a0 : Nat) (m : Mm) : Crt l θ yX12_laysNote M_X12_laysNote cvV [.ref a0] m (F_X12_laysNote a0 m) := by
  refine crt_of 2 (by decide) rfl rfl (Nat.le_of_ble_eq_true rfl) (fun Z hμ => ?_)
  unfold F_X12_laysNote
  show GG Z _ _ 0 [some (.ref a0), none, none] [] m _
  refine g_aload_n (i := 0) dX12_laysNote_0 rfl rfl ?_
  refine g_iconst (v := (0 : Int32)) dX12_laysNote_1 ki_0 ?_
  refine g_putI (k := 35) cl_X12 (by decide) rfl rfl q_1416 dX12_laysNote_2 ?_
  intro m1
  refine g_aload_n (i := 0) dX12_laysNote_5 rfl rfl ?_
  refine g_bipush (v := (118 : Int32)) dX12_laysNote_6 kb_118 ?_
  refine g_callVV cl_X12 (crt_X12_notesSign _ _ _ _ _) cw_X12_notesSign (by decide) rfl q_1889 q_1891 qs_93 rfl rfl dX12_laysNote_8 ?_
  intro r2 m3
  refine g_aload_n (i := 0) dX12_laysNote_11 rfl rfl ?_
  refine g_aload_n (i := 0) dX12_laysNote_12 rfl rfl ?_
  refine g_getR (k := 23) cl_X12 (by decide) rfl q_1404 dX12_laysNote_13 ?_
  intro q4
  refine g_sipush (v := (181 : Int32)) dX12_laysNote_16 ks_181 ?_
  refine g_iaload dX12_laysNote_19 ?_
  refine g_callVV cl_X12 (crt_X12_notesNumber _ _ _ _ _) cw_X12_notesNumber (by decide) rfl q_1893 q_1895 qs_94 rfl rfl dX12_laysNote_20 ?_
  intro r5 m6
  refine g_aload_n (i := 0) dX12_laysNote_23 rfl rfl ?_
  refine g_bipush (v := (58 : Int32)) dX12_laysNote_24 kb_58 ?_
  refine g_callVV cl_X12 (crt_X12_notesSign _ _ _ _ _) cw_X12_notesSign (by decide) rfl q_1889 q_1891 qs_93 rfl rfl dX12_laysNote_26 ?_
  intro r7 m8
  refine g_iconst (v := (1 : Int32)) dX12_laysNote_29 ki_1 ?_
  refine g_istore_n (i := 1) dX12_laysNote_30 rfl (show 1 < 3 by decide) ?_
  intro x9
  refine g_iconst (v := (0 : Int32)) dX12_laysNote_31 ki_0 ?_
  refine g_istore_n (i := 2) dX12_laysNote_32 rfl (show 2 < 3 by decide) ?_
  intro x10
  refine g_msk [true, true, true] (c_L_X12_laysNote_33 ?_ NF _ _ _ _)
  intro v0 m
  refine g_aload_n (i := 0) dX12_laysNote_126 rfl rfl ?_
  refine g_bipush (v := (59 : Int32)) dX12_laysNote_127 kb_59 ?_
  refine g_callVV cl_X12 (crt_X12_notesSign _ _ _ _ _) cw_X12_notesSign (by decide) rfl q_1889 q_1891 qs_93 rfl rfl dX12_laysNote_129 ?_
  intro r31 m32
  refine g_aload_n (i := 0) dX12_laysNote_132 rfl rfl ?_
  refine g_aload_n (i := 0) dX12_laysNote_133 rfl rfl ?_
  refine g_getR (k := 23) cl_X12 (by decide) rfl q_1404 dX12_laysNote_134 ?_
  intro q33
  refine g_sipush (v := (187 : Int32)) dX12_laysNote_137 ks_187 ?_
  refine g_iaload dX12_laysNote_140 ?_
  refine g_callVV cl_X12 (crt_X12_notesNumber _ _ _ _ _) cw_X12_notesNumber (by decide) rfl q_1893 q_1895 qs_94 rfl rfl dX12_laysNote_141 ?_
  intro r34 m35
  exact g_return rfl dX12_laysNote_144
set_option maxRecDepth 100000 in
set_option maxHeartbeats 4000000 in
theorem crt_X12_note (l : Launch) (θ : Th) (a0 : Nat) (m : Mm) : Crt l θ yX12_note M_X12_note cvI [.ref a0] m (F_X12_note a0 m) := by
  refine crt_of 0 (by decide) rfl rfl (Nat.le_of_ble_eq_true rfl) (fun Z hμ => ?_)
  unfold F_X12_note
  show GG Z _ _ 0 [some (.ref a0)] [] m _
  refine g_aload_n (i := 0) dX12_note_0 rfl rfl ?_
  refine g_iconst (v := (0 : Int32)) dX12_note_1 ki_0 ?_
  refine g_putI (k := 0) cl_X12 (by decide) rfl rfl q_1381 dX12_note_2 ?_
  intro m1
  refine g_aload_n (i := 0) dX12_note_5 rfl rfl ?_
  refine g_callVV cl_X12 (crt_X12_laysNote _ _ _ _) cw_X12_laysNote (by decide) rfl q_1885 q_1887 qs_92 rfl rfl dX12_note_6 ?_
  intro r2 m3
  refine g_aload_n (i := 0) dX12_note_9 rfl rfl ?_
  refine g_getI (k := 35) cl_X12 (by decide) rfl q_1416 dX12_note_10 ?_
  exact g_ireturn rfl dX12_note_13
set_option maxRecDepth 100000 in
set_option maxHeartbeats 4000000 in
theorem crt_X12_spelt (l : Launch) (θ : Th) (a0 : Nat) (a1 : Int32) (m : Mm) : Crt l θ yX12_spelt M_X12_spelt cvI [.ref a0, .int a1] m (F_X12_spelt a0 a1 m) := by
  refine crt_of 0 (by decide) rfl rfl (Nat.le_of_ble_eq_true rfl) (fun Z hμ => ?_)
  unfold F_X12_spelt
  show GG Z _ _ 0 [some (.ref a0), some (.int a1)] [] m _
  refine g_aload_n (i := 0) dX12_spelt_0 rfl rfl ?_
  refine g_iconst (v := (0 : Int32)) dX12_spelt_1 ki_0 ?_
  refine g_putI (k := 0) cl_X12 (by decide) rfl rfl q_1381 dX12_spelt_2 ?_
  intro m1
  refine g_aload_n (i := 0) dX12_spelt_5 rfl rfl ?_
  refine g_iload_n (i := 1) dX12_spelt_6 rfl rfl ?_
  refine g_jn (fun J15 => ∀ (v0 : Nat) (v1 : Int32) (s0 : Int32) (s1 : Nat) (m : Mm), GG Z M_X12_spelt (PsN Z cvI) 15 [some (.ref v0), some (.int v1)] [.int s0, .ref s1] m (J15 v0 v1 s0 s1 m)) ?_ ?_
  · intro v0 v1 s0 s1 m
    refine g_iconst (v := (1 : Int32)) dX12_spelt_15 ki_1 ?_
    refine g_iconst (v := (1 : Int32)) dX12_spelt_16 ki_1 ?_
    refine g_callVI cl_X12 (crt_X12_bad _ _ _ _ _ _ _) cw_X12_bad (by decide) rfl q_1508 q_1510 qs_39 rfl rfl dX12_spelt_17 ?_
    intro r2 m3
    refine g_ifeq (tgt := 25) dX12_spelt_20 (by decide) ?_ ?_
    · refine g_aload_n (i := 0) dX12_spelt_25 rfl rfl ?_
      refine g_callVV cl_X12 (crt_X12_laysNote _ _ _ _) cw_X12_laysNote (by decide) rfl q_1885 q_1887 qs_92 rfl rfl dX12_spelt_26 ?_
      intro r4 m5
      refine g_iload_n (i := 1) dX12_spelt_29 rfl rfl ?_
      refine g_aload_n (i := 0) dX12_spelt_30 rfl rfl ?_
      refine g_getI (k := 35) cl_X12 (by decide) rfl q_1416 dX12_spelt_31 ?_
      refine g_icmpge (tgt := 46) dX12_spelt_34 (by decide) ?_ ?_
      · refine g_iconst (v := (-1 : Int32)) dX12_spelt_46 ki_m1 ?_
        exact g_ireturn rfl dX12_spelt_47
      · refine g_aload_n (i := 0) dX12_spelt_37 rfl rfl ?_
        refine g_getR (k := 34) cl_X12 (by decide) rfl q_1415 dX12_spelt_38 ?_
        intro q6
        refine g_iload_n (i := 1) dX12_spelt_41 rfl rfl ?_
        refine g_iaload dX12_spelt_42 ?_
        refine g_goto (tgt := 47) dX12_spelt_43 (by decide) ?_
        exact g_ireturn rfl dX12_spelt_47
    · refine g_iconst (v := (0 : Int32)) dX12_spelt_23 ki_0 ?_
      exact g_ireturn rfl dX12_spelt_24
  · intro J15 hJ15
    refine g_ifge (tgt := 14) dX12_spelt_7 (by decide) ?_ ?_
    · refine g_iconst (v := (0 : Int32)) dX12_spelt_14 ki_0 ?_
      exact g_msk [true, true] (hJ15 _ _ _ _ _)
    · refine g_iconst (v := (1 : Int32)) dX12_spelt_10 ki_1 ?_
      refine g_goto (tgt := 15) dX12_spelt_11 (by decide) ?_
      exact g_msk [true, true] (hJ15 _ _ _ _ _)
set_option maxRecDepth 100000 in
set_option maxHeartbeats 4000000 in
theorem c_L_X12_lore_33 {Z : Zx}    : ∀ (n : Nat) (v0 : Nat) (v1 : Int32) (v2 : Int32) (v3 : Int32) (m : Mm), GG Z M_X12_lore (PsN Z cvI) 33 [some (.ref v0), some (.int v1), some (.int v2), some (.int v3)] [] m (L_X12_lore_33 n v0 v1 v2 v3 m) := by
  intro n
  induction n with
  | zero => intro v0 v1 v2 v3 m; exact g_no
  | succ n ih =>
    intro v0 v1 v2 v3 m
    unfold L_X12_lore_33
    refine g_iload_n (i := 3) dX12_lore_33 rfl rfl ?_
    refine g_aload_n (i := 0) dX12_lore_34 rfl rfl ?_
    refine g_getR (k := 12) cl_X12 (by decide) rfl q_1393 dX12_lore_35 ?_
    intro q8
    refine g_iconst (v := (0 : Int32)) dX12_lore_38 ki_0 ?_
    refine g_iaload dX12_lore_39 ?_
    refine g_icmpge (tgt := 84) dX12_lore_40 (by decide) ?_ ?_
    · refine g_iload_n (i := 2) dX12_lore_84 rfl rfl ?_
      exact g_ireturn rfl dX12_lore_85
    · refine g_iload_n (i := 2) dX12_lore_43 rfl rfl ?_
      refine g_aload_n (i := 0) dX12_lore_44 rfl rfl ?_
      refine g_getR (k := 23) cl_X12 (by decide) rfl q_1404 dX12_lore_45 ?_
      intro q9
      refine g_sipush (v := (182 : Int32)) dX12_lore_48 ks_182 ?_
      refine g_iaload dX12_lore_51 ?_
      refine g_iload_n (i := 3) dX12_lore_52 rfl rfl ?_
      refine g_callSI (crt_X12_has _ _ _ _ _) cw_X12_has (by decide) rfl q_1378 q_1379 rfl rfl dX12_lore_53 ?_
      intro r10 m11
      refine g_jn (fun J76 => ∀ (v0 : Nat) (v1 : Int32) (v3 : Int32) (s0 : Int32) (s1 : Int32) (m : Mm), GG Z M_X12_lore (PsN Z cvI) 76 [some (.ref v0), some (.int v1), none, some (.int v3)] [.int s0, .int s1] m (J76 v0 v1 v3 s0 s1 m)) ?_ ?_
      · intro v0 v1 v3 s0 s1 m
        refine g_iadd dX12_lore_76 ?_
        refine g_istore_n (i := 2) dX12_lore_77 rfl (show 2 < 4 by decide) ?_
        intro x12
        refine g_iinc dX12_lore_78 rfl ki_1 (show 3 < 4 by decide) ?_
        intro x13
        refine g_goto (tgt := 33) dX12_lore_81 (by decide) ?_
        exact g_msk [true, true, true, true] (ih _ _ _ _ _)
      · intro J76 hJ76
        refine g_ifeq (tgt := 75) dX12_lore_56 (by decide) ?_ ?_
        · refine g_iconst (v := (0 : Int32)) dX12_lore_75 ki_0 ?_
          exact g_msk [true, true, false, true] (hJ76 _ _ _ _ _ _)
        · refine g_aload_n (i := 0) dX12_lore_59 rfl rfl ?_
          refine g_getR (k := 23) cl_X12 (by decide) rfl q_1404 dX12_lore_60 ?_
          intro q14
          refine g_iload_n (i := 1) dX12_lore_63 rfl rfl ?_
          refine g_iload_n (i := 3) dX12_lore_64 rfl rfl ?_
          refine g_callSI (crt_X12_knownOf _ _ _ _ _) cw_X12_knownOf (by decide) rfl q_1646 q_1647 rfl rfl dX12_lore_65 ?_
          intro r15 m16
          refine g_iaload dX12_lore_68 ?_
          refine g_callSI (crt_X12_ones _ _ _ _) cw_X12_ones (by decide) rfl q_1718 q_1719 rfl rfl dX12_lore_69 ?_
          intro r17 m18
          refine g_goto (tgt := 76) dX12_lore_72 (by decide) ?_
          exact g_msk [true, true, false, true] (hJ76 _ _ _ _ _ _)
set_option maxRecDepth 100000 in
set_option maxHeartbeats 4000000 in
theorem crt_X12_lore (l : Launch) (θ : Th) (a0 : Nat) (a1 : Int32) (m : Mm) : Crt l θ yX12_lore M_X12_lore cvI [.ref a0, .int a1] m (F_X12_lore a0 a1 m) := by
  refine crt_of 2 (by decide) rfl rfl (Nat.le_of_ble_eq_true rfl) (fun Z hμ => ?_)
  unfold F_X12_lore
  show GG Z _ _ 0 [some (.ref a0), some (.int a1), none, none] [] m _
  refine g_aload_n (i := 0) dX12_lore_0 rfl rfl ?_
  refine g_iconst (v := (0 : Int32)) dX12_lore_1 ki_0 ?_
  refine g_putI (k := 0) cl_X12 (by decide) rfl rfl q_1381 dX12_lore_2 ?_
  intro m1
  refine g_aload_n (i := 0) dX12_lore_5 rfl rfl ?_
  refine g_aload_n (i := 0) dX12_lore_6 rfl rfl ?_
  refine g_iload_n (i := 1) dX12_lore_7 rfl rfl ?_
  refine g_callVI cl_X12 (crt_X12_isMember _ _ _ _ _) cw_X12_isMember (by decide) rfl q_1777 q_1779 qs_83 rfl rfl dX12_lore_8 ?_
  intro r2 m3
  refine g_jn (fun J19 => ∀ (v0 : Nat) (v1 : Int32) (s0 : Int32) (s1 : Nat) (m : Mm), GG Z M_X12_lore (PsN Z cvI) 19 [some (.ref v0), some (.int v1), none, none] [.int s0, .ref s1] m (J19 v0 v1 s0 s1 m)) ?_ ?_
  · intro v0 v1 s0 s1 m
    refine g_iconst (v := (1 : Int32)) dX12_lore_19 ki_1 ?_
    refine g_iconst (v := (0 : Int32)) dX12_lore_20 ki_0 ?_
    refine g_callVI cl_X12 (crt_X12_bad _ _ _ _ _ _ _) cw_X12_bad (by decide) rfl q_1508 q_1510 qs_39 rfl rfl dX12_lore_21 ?_
    intro r4 m5
    refine g_ifeq (tgt := 29) dX12_lore_24 (by decide) ?_ ?_
    · refine g_iconst (v := (0 : Int32)) dX12_lore_29 ki_0 ?_
      refine g_istore_n (i := 2) dX12_lore_30 rfl (show 2 < 4 by decide) ?_
      intro x6
      refine g_iconst (v := (0 : Int32)) dX12_lore_31 ki_0 ?_
      refine g_istore_n (i := 3) dX12_lore_32 rfl (show 3 < 4 by decide) ?_
      intro x7
      exact g_msk [true, true, true, true] (c_L_X12_lore_33 NF _ _ _ _ _)
    · refine g_iconst (v := (0 : Int32)) dX12_lore_27 ki_0 ?_
      exact g_ireturn rfl dX12_lore_28
  · intro J19 hJ19
    refine g_ifne (tgt := 18) dX12_lore_11 (by decide) ?_ ?_
    · refine g_iconst (v := (0 : Int32)) dX12_lore_18 ki_0 ?_
      exact g_msk [true, true, false, false] (hJ19 _ _ _ _ _)
    · refine g_iconst (v := (1 : Int32)) dX12_lore_14 ki_1 ?_
      refine g_goto (tgt := 19) dX12_lore_15 (by decide) ?_
      exact g_msk [true, true, false, false] (hJ19 _ _ _ _ _)
set_option maxRecDepth 100000 in
set_option maxHeartbeats 4000000 in
theorem c_L_X12_behind_37 {Z : Zx}  {K105 : Int32 → Int32 → Int32 → Mm → Option (Int32 × Mm)} (hK105 : ∀ (v1 : Int32) (v2 : Int32) (v3 : Int32) (m : Mm), GG Z M_X12_behind (PsN Z cvI) 105 [none, some (.int v1), some (.int v2), some (.int v3), none, none] [] m (K105 v1 v2 v3 m)) : ∀ (n : Nat) (v0 : Nat) (v1 : Int32) (v2 : Int32) (v3 : Int32) (v4 : Int32) (m : Mm), GG Z M_X12_behind (PsN Z cvI) 37 [some (.ref v0), some (.int v1), some (.int v2), some (.int v3), some (.int v4), none] [] m (L_X12_behind_37 K105 n v0 v1 v2 v3 v4 m) := by
  intro n
  induction n with
  | zero => intro v0 v1 v2 v3 v4 m; exact g_no
  | succ n ih =>
    intro v0 v1 v2 v3 v4 m
    unfold L_X12_behind_37
    refine g_iload dX12_behind_37 rfl ?_
    refine g_aload_n (i := 0) dX12_behind_39 rfl rfl ?_
    refine g_getR (k := 12) cl_X12 (by decide) rfl q_1393 dX12_behind_40 ?_
    intro q9
    refine g_iconst (v := (0 : Int32)) dX12_behind_43 ki_0 ?_
    refine g_iaload dX12_behind_44 ?_
    refine g_icmpge (tgt := 105) dX12_behind_45 (by decide) ?_ ?_
    · exact g_msk [false, true, true, true, false, false] (hK105 _ _ _ _)
    · refine g_aload_n (i := 0) dX12_behind_48 rfl rfl ?_
      refine g_getR (k := 23) cl_X12 (by decide) rfl q_1404 dX12_behind_49 ?_
      intro q10
      refine g_bipush (v := (12 : Int32)) dX12_behind_52 kb_12 ?_
      refine g_iload dX12_behind_54 rfl ?_
      refine g_iadd dX12_behind_56 ?_
      refine g_iaload dX12_behind_57 ?_
      refine g_callSI (crt_X12_ones _ _ _ _) cw_X12_ones (by decide) rfl q_1718 q_1719 rfl rfl dX12_behind_58 ?_
      intro r11 m12
      refine g_istore dX12_behind_61 (show 5 < 6 by decide) ?_
      intro x13
      refine g_aload_n (i := 0) dX12_behind_63 rfl rfl ?_
      refine g_getR (k := 23) cl_X12 (by decide) rfl q_1404 dX12_behind_64 ?_
      intro q14
      refine g_sipush (v := (183 : Int32)) dX12_behind_67 ks_183 ?_
      refine g_iaload dX12_behind_70 ?_
      refine g_iload dX12_behind_71 rfl ?_
      refine g_callSI (crt_X12_has _ _ _ _ _) cw_X12_has (by decide) rfl q_1378 q_1379 rfl rfl dX12_behind_73 ?_
      intro r15 m16
      refine g_jn (fun J99 => ∀ (v0 : Nat) (v1 : Int32) (v2 : Int32) (v3 : Int32) (v4 : Int32) (m : Mm), GG Z M_X12_behind (PsN Z cvI) 99 [some (.ref v0), some (.int v1), some (.int v2), some (.int v3), some (.int v4), none] [] m (J99 v0 v1 v2 v3 v4 m)) ?_ ?_
      · intro v0 v1 v2 v3 v4 m
        refine g_iinc dX12_behind_99 rfl ki_1 (show 4 < 6 by decide) ?_
        intro x17
        refine g_goto (tgt := 37) dX12_behind_102 (by decide) ?_
        exact g_msk [true, true, true, true, true, false] (ih _ _ _ _ _ _)
      · intro J99 hJ99
        refine g_ifeq (tgt := 99) dX12_behind_76 (by decide) ?_ ?_
        · exact g_msk [true, true, true, true, true, false] (hJ99 _ _ _ _ _ _)
        · refine g_iload_n (i := 2) dX12_behind_79 rfl rfl ?_
          refine g_iconst (v := (-1 : Int32)) dX12_behind_80 ki_m1 ?_
          refine g_jn (fun J93 => ∀ (v0 : Nat) (v1 : Int32) (v4 : Int32) (v5 : Int32) (m : Mm), GG Z M_X12_behind (PsN Z cvI) 93 [some (.ref v0), some (.int v1), none, none, some (.int v4), some (.int v5)] [] m (J93 v0 v1 v4 v5 m)) ?_ ?_
          · intro v0 v1 v4 v5 m
            refine g_iload dX12_behind_93 rfl ?_
            refine g_istore_n (i := 2) dX12_behind_95 rfl (show 2 < 6 by decide) ?_
            intro x18
            refine g_iload dX12_behind_96 rfl ?_
            refine g_istore_n (i := 3) dX12_behind_98 rfl (show 3 < 6 by decide) ?_
            intro x19
            exact g_msk [true, true, true, true, true, false] (hJ99 _ _ _ _ _ _)
          · intro J93 hJ93
            refine g_icmpeq (tgt := 93) dX12_behind_81 (by decide) ?_ ?_
            · exact g_msk [true, true, false, false, true, true] (hJ93 _ _ _ _ _)
            · refine g_iload dX12_behind_84 rfl ?_
              refine g_iload_n (i := 3) dX12_behind_86 rfl rfl ?_
              refine g_icmplt (tgt := 93) dX12_behind_87 (by decide) ?_ ?_
              · exact g_msk [true, true, false, false, true, true] (hJ93 _ _ _ _ _)
              · refine g_goto (tgt := 99) dX12_behind_90 (by decide) ?_
                exact g_msk [true, true, true, true, true, false] (hJ99 _ _ _ _ _ _)
set_option maxRecDepth 100000 in
set_option maxHeartbeats 4000000 in
theorem crt_X12_behind (l : Launch) (θ : Th) (a0 : Nat) (a1 : Int32) (m : Mm) : Crt l θ yX12_behind M_X12_behind cvI [.ref a0, .int a1] m (F_X12_behind a0 a1 m) := by
  refine crt_of 4 (by decide) rfl rfl (Nat.le_of_ble_eq_true rfl) (fun Z hμ => ?_)
  unfold F_X12_behind
  show GG Z _ _ 0 [some (.ref a0), some (.int a1), none, none, none, none] [] m _
  refine g_aload_n (i := 0) dX12_behind_0 rfl rfl ?_
  refine g_iconst (v := (0 : Int32)) dX12_behind_1 ki_0 ?_
  refine g_putI (k := 0) cl_X12 (by decide) rfl rfl q_1381 dX12_behind_2 ?_
  intro m1
  refine g_aload_n (i := 0) dX12_behind_5 rfl rfl ?_
  refine g_iload_n (i := 1) dX12_behind_6 rfl rfl ?_
  refine g_iconst (v := (0 : Int32)) dX12_behind_7 ki_0 ?_
  refine g_iconst (v := (1 : Int32)) dX12_behind_8 ki_1 ?_
  refine g_callSI (crt_X12_in _ _ _ _ _ _) cw_X12_in (by decide) rfl q_1505 q_1506 rfl rfl dX12_behind_9 ?_
  intro r2 m3
  refine g_jn (fun J20 => ∀ (v0 : Nat) (v1 : Int32) (s0 : Int32) (s1 : Nat) (m : Mm), GG Z M_X12_behind (PsN Z cvI) 20 [some (.ref v0), some (.int v1), none, none, none, none] [.int s0, .ref s1] m (J20 v0 v1 s0 s1 m)) ?_ ?_
  · intro v0 v1 s0 s1 m
    refine g_iconst (v := (1 : Int32)) dX12_behind_20 ki_1 ?_
    refine g_iconst (v := (1 : Int32)) dX12_behind_21 ki_1 ?_
    refine g_callVI cl_X12 (crt_X12_bad _ _ _ _ _ _ _) cw_X12_bad (by decide) rfl q_1508 q_1510 qs_39 rfl rfl dX12_behind_22 ?_
    intro r4 m5
    refine g_ifeq (tgt := 30) dX12_behind_25 (by decide) ?_ ?_
    · refine g_iconst (v := (-1 : Int32)) dX12_behind_30 ki_m1 ?_
      refine g_istore_n (i := 2) dX12_behind_31 rfl (show 2 < 6 by decide) ?_
      intro x6
      refine g_iconst (v := (-1 : Int32)) dX12_behind_32 ki_m1 ?_
      refine g_istore_n (i := 3) dX12_behind_33 rfl (show 3 < 6 by decide) ?_
      intro x7
      refine g_iconst (v := (0 : Int32)) dX12_behind_34 ki_0 ?_
      refine g_istore dX12_behind_35 (show 4 < 6 by decide) ?_
      intro x8
      refine g_msk [true, true, true, true, true, false] (c_L_X12_behind_37 ?_ NF _ _ _ _ _ _)
      intro v1 v2 v3 m
      refine g_iload_n (i := 1) dX12_behind_105 rfl rfl ?_
      refine g_ifne (tgt := 113) dX12_behind_106 (by decide) ?_ ?_
      · refine g_iload_n (i := 3) dX12_behind_113 rfl rfl ?_
        exact g_ireturn rfl dX12_behind_114
      · refine g_iload_n (i := 2) dX12_behind_109 rfl rfl ?_
        refine g_goto (tgt := 114) dX12_behind_110 (by decide) ?_
        exact g_ireturn rfl dX12_behind_114
    · refine g_iconst (v := (0 : Int32)) dX12_behind_28 ki_0 ?_
      exact g_ireturn rfl dX12_behind_29
  · intro J20 hJ20
    refine g_ifne (tgt := 19) dX12_behind_12 (by decide) ?_ ?_
    · refine g_iconst (v := (0 : Int32)) dX12_behind_19 ki_0 ?_
      exact g_msk [true, true, false, false, false, false] (hJ20 _ _ _ _ _)
    · refine g_iconst (v := (1 : Int32)) dX12_behind_15 ki_1 ?_
      refine g_goto (tgt := 20) dX12_behind_16 (by decide) ?_
      exact g_msk [true, true, false, false, false, false] (hJ20 _ _ _ _ _)
set_option maxRecDepth 100000 in
set_option maxHeartbeats 4000000 in
theorem crt_X12_draw (l : Launch) (θ : Th) (a0 : Nat) (a1 : Int32) (m : Mm) : Crt l θ yX12_draw M_X12_draw cvI [.ref a0, .int a1] m (F_X12_draw a0 a1 m) := by
  refine crt_of 0 (by decide) rfl rfl (Nat.le_of_ble_eq_true rfl) (fun Z hμ => ?_)
  unfold F_X12_draw
  show GG Z _ _ 0 [some (.ref a0), some (.int a1)] [] m _
  refine g_aload_n (i := 0) dX12_draw_0 rfl rfl ?_
  refine g_aload_n (i := 0) dX12_draw_1 rfl rfl ?_
  refine g_getI (k := 36) cl_X12 (by decide) rfl q_1417 dX12_draw_2 ?_
  refine g_ldcw (v := (1103515245 : Int32)) dX12_draw_5 q_1928 ?_
  refine g_imul dX12_draw_8 ?_
  refine g_sipush (v := (12345 : Int32)) dX12_draw_9 ks_12345 ?_
  refine g_iadd dX12_draw_12 ?_
  refine g_putI (k := 36) cl_X12 (by decide) rfl rfl q_1417 dX12_draw_13 ?_
  intro m1
  refine g_aload_n (i := 0) dX12_draw_16 rfl rfl ?_
  refine g_getI (k := 36) cl_X12 (by decide) rfl q_1417 dX12_draw_17 ?_
  refine g_bipush (v := (16 : Int32)) dX12_draw_20 kb_16 ?_
  refine g_ishr dX12_draw_22 ?_
  refine g_sipush (v := (32767 : Int32)) dX12_draw_23 ks_32767 ?_
  refine g_iand dX12_draw_26 ?_
  refine g_iload_n (i := 1) dX12_draw_27 rfl rfl ?_
  refine g_irem dX12_draw_28 ?_
  exact g_ireturn rfl dX12_draw_29
set_option maxRecDepth 100000 in
set_option maxHeartbeats 4000000 in
theorem crt_X12_onceBy (l : Launch) (θ : Th) (a0 : Nat) (a1 : Nat) (a2 : Int32) (m : Mm) : Crt l θ yX12_onceBy M_X12_onceBy cvV [.ref a0, .ref a1, .int a2] m (F_X12_onceBy a0 a1 a2 m) := by
  refine crt_of 2 (by decide) rfl rfl (Nat.le_of_ble_eq_true rfl) (fun Z hμ => ?_)
  unfold F_X12_onceBy
  show GG Z _ _ 0 [some (.ref a0), some (.ref a1), some (.int a2), none, none] [] m _
  refine g_aload_n (i := 0) dX12_onceBy_0 rfl rfl ?_
  refine g_aload_n (i := 0) dX12_onceBy_1 rfl rfl ?_
  refine g_getR (k := 12) cl_X12 (by decide) rfl q_1393 dX12_onceBy_2 ?_
  intro q1
  refine g_iconst (v := (0 : Int32)) dX12_onceBy_5 ki_0 ?_
  refine g_iaload dX12_onceBy_6 ?_
  refine g_callVI cl_X12 (crt_X12_draw _ _ _ _ _) cw_X12_draw (by decide) rfl q_1924 q_1926 qs_97 rfl rfl dX12_onceBy_7 ?_
  intro r2 m3
  refine g_istore_n (i := 3) dX12_onceBy_10 rfl (show 3 < 5 by decide) ?_
  intro x4
  refine g_aload_n (i := 0) dX12_onceBy_11 rfl rfl ?_
  refine g_bipush (v := (8 : Int32)) dX12_onceBy_12 kb_8 ?_
  refine g_callVI cl_X12 (crt_X12_draw _ _ _ _ _) cw_X12_draw (by decide) rfl q_1924 q_1926 qs_97 rfl rfl dX12_onceBy_14 ?_
  intro r5 m6
  refine g_istore dX12_onceBy_17 (show 4 < 5 by decide) ?_
  intro x7
  refine g_iload dX12_onceBy_19 rfl ?_
  refine g_iconst (v := (2 : Int32)) dX12_onceBy_21 ki_2 ?_
  refine g_icmpge (tgt := 41) dX12_onceBy_22 (by decide) ?_ ?_
  · refine g_iload dX12_onceBy_41 rfl ?_
    refine g_iconst (v := (5 : Int32)) dX12_onceBy_43 ki_5 ?_
    refine g_icmpge (tgt := 68) dX12_onceBy_44 (by decide) ?_ ?_
    · refine g_iload dX12_onceBy_68 rfl ?_
      refine g_iconst (v := (5 : Int32)) dX12_onceBy_70 ki_5 ?_
      refine g_icmpne (tgt := 84) dX12_onceBy_71 (by decide) ?_ ?_
      · refine g_iload dX12_onceBy_84 rfl ?_
        refine g_bipush (v := (7 : Int32)) dX12_onceBy_86 kb_7 ?_
        refine g_icmpne (tgt := 106) dX12_onceBy_88 (by decide) ?_ ?_
        · refine g_aload_n (i := 0) dX12_onceBy_106 rfl rfl ?_
          refine g_bipush (v := (16 : Int32)) dX12_onceBy_107 kb_16 ?_
          refine g_callVI cl_X12 (crt_X12_draw _ _ _ _ _) cw_X12_draw (by decide) rfl q_1924 q_1926 qs_97 rfl rfl dX12_onceBy_109 ?_
          intro r8 m9
          refine g_iload_n (i := 2) dX12_onceBy_112 rfl rfl ?_
          refine g_icmpge (tgt := 125) dX12_onceBy_113 (by decide) ?_ ?_
          · refine g_aload_n (i := 1) dX12_onceBy_125 rfl rfl ?_
            refine g_iload_n (i := 3) dX12_onceBy_126 rfl rfl ?_
            refine g_callSI (crt_X12_joins _ _ _ _ _) cw_X12_joins (by decide) rfl q_1691 q_1692 rfl rfl dX12_onceBy_127 ?_
            intro r10 m11
            refine g_pop dX12_onceBy_130 rfl ?_
            exact g_return rfl dX12_onceBy_131
          · refine g_aload_n (i := 1) dX12_onceBy_116 rfl rfl ?_
            refine g_iload_n (i := 3) dX12_onceBy_117 rfl rfl ?_
            refine g_callSI (crt_X12_crashes _ _ _ _ _) cw_X12_crashes (by decide) rfl q_1685 q_1686 rfl rfl dX12_onceBy_118 ?_
            intro r12 m13
            refine g_pop dX12_onceBy_121 rfl ?_
            refine g_goto (tgt := 131) dX12_onceBy_122 (by decide) ?_
            exact g_return rfl dX12_onceBy_131
        · refine g_aload_n (i := 0) dX12_onceBy_91 rfl rfl ?_
          refine g_aload_n (i := 1) dX12_onceBy_92 rfl rfl ?_
          refine g_callVI cl_X12 (crt_X12_holds _ _ _ _ _) cw_X12_holds (by decide) rfl q_1694 q_1696 qs_69 rfl rfl dX12_onceBy_93 ?_
          intro r14 m15
          refine g_pop dX12_onceBy_96 rfl ?_
          refine g_aload_n (i := 0) dX12_onceBy_97 rfl rfl ?_
          refine g_aload_n (i := 1) dX12_onceBy_98 rfl rfl ?_
          refine g_callVI cl_X12 (crt_X12_views _ _ _ _ _) cw_X12_views (by decide) rfl q_1738 q_1740 qs_77 rfl rfl dX12_onceBy_99 ?_
          intro r16 m17
          refine g_pop dX12_onceBy_102 rfl ?_
          refine g_goto (tgt := 131) dX12_onceBy_103 (by decide) ?_
          exact g_return rfl dX12_onceBy_131
      · refine g_aload_n (i := 0) dX12_onceBy_74 rfl rfl ?_
        refine g_aload_n (i := 1) dX12_onceBy_75 rfl rfl ?_
        refine g_iload_n (i := 3) dX12_onceBy_76 rfl rfl ?_
        refine g_callVI cl_X12 (crt_X12_tellsOthers _ _ _ _ _ _) cw_X12_tellsOthers (by decide) rfl q_1673 q_1675 qs_66 rfl rfl dX12_onceBy_77 ?_
        intro r18 m19
        refine g_pop dX12_onceBy_80 rfl ?_
        refine g_goto (tgt := 131) dX12_onceBy_81 (by decide) ?_
        exact g_return rfl dX12_onceBy_131
    · refine g_aload_n (i := 0) dX12_onceBy_47 rfl rfl ?_
      refine g_aload_n (i := 1) dX12_onceBy_48 rfl rfl ?_
      refine g_iload_n (i := 3) dX12_onceBy_49 rfl rfl ?_
      refine g_iload dX12_onceBy_50 rfl ?_
      refine g_iconst (v := (4 : Int32)) dX12_onceBy_52 ki_4 ?_
      refine g_jn (fun J61 => ∀ (s0 : Int32) (s1 : Int32) (s2 : Nat) (s3 : Nat) (m : Mm), GG Z M_X12_onceBy (PsN Z cvV) 61 [none, none, none, none, none] [.int s0, .int s1, .ref s2, .ref s3] m (J61 s0 s1 s2 s3 m)) ?_ ?_
      · intro s0 s1 s2 s3 m
        refine g_callVI cl_X12 (crt_X12_takesOne _ _ _ _ _ _ _) cw_X12_takesOne (by decide) rfl q_1662 q_1664 qs_64 rfl rfl dX12_onceBy_61 ?_
        intro r20 m21
        refine g_pop dX12_onceBy_64 rfl ?_
        refine g_goto (tgt := 131) dX12_onceBy_65 (by decide) ?_
        exact g_return rfl dX12_onceBy_131
      · intro J61 hJ61
        refine g_icmpne (tgt := 60) dX12_onceBy_53 (by decide) ?_ ?_
        · refine g_iconst (v := (0 : Int32)) dX12_onceBy_60 ki_0 ?_
          exact g_msk [false, false, false, false, false] (hJ61 _ _ _ _ _)
        · refine g_iconst (v := (1 : Int32)) dX12_onceBy_56 ki_1 ?_
          refine g_goto (tgt := 61) dX12_onceBy_57 (by decide) ?_
          exact g_msk [false, false, false, false, false] (hJ61 _ _ _ _ _)
  · refine g_aload_n (i := 0) dX12_onceBy_25 rfl rfl ?_
    refine g_aload_n (i := 1) dX12_onceBy_26 rfl rfl ?_
    refine g_iload_n (i := 3) dX12_onceBy_27 rfl rfl ?_
    refine g_aload_n (i := 0) dX12_onceBy_28 rfl rfl ?_
    refine g_bipush (v := (100 : Int32)) dX12_onceBy_29 kb_100 ?_
    refine g_callVI cl_X12 (crt_X12_draw _ _ _ _ _) cw_X12_draw (by decide) rfl q_1924 q_1926 qs_97 rfl rfl dX12_onceBy_31 ?_
    intro r22 m23
    refine g_callVI cl_X12 (crt_X12_sends _ _ _ _ _ _ _) cw_X12_sends (by decide) rfl q_1636 q_1638 qs_63 rfl rfl dX12_onceBy_34 ?_
    intro r24 m25
    refine g_pop dX12_onceBy_37 rfl ?_
    refine g_goto (tgt := 131) dX12_onceBy_38 (by decide) ?_
    exact g_return rfl dX12_onceBy_131
set_option maxRecDepth 100000 in
set_option maxHeartbeats 4000000 in
theorem c_L_X12_stormBy_19 {Z : Zx}    : ∀ (n : Nat) (v0 : Nat) (v2 : Int32) (v3 : Int32) (v4 : Int32) (m : Mm), GG Z M_X12_stormBy (PsN Z cvV) 19 [some (.ref v0), none, some (.int v2), some (.int v3), some (.int v4)] [] m (L_X12_stormBy_19 n v0 v2 v3 v4 m) := by
  intro n
  induction n with
  | zero => intro v0 v2 v3 v4 m; exact g_no
  | succ n ih =>
    intro v0 v2 v3 v4 m
    unfold L_X12_stormBy_19
    refine g_iload dX12_stormBy_19 rfl ?_
    refine g_iload_n (i := 2) dX12_stormBy_21 rfl rfl ?_
    refine g_icmpge (tgt := 49) dX12_stormBy_22 (by decide) ?_ ?_
    · exact g_return rfl dX12_stormBy_49
    · refine g_aload_n (i := 0) dX12_stormBy_25 rfl rfl ?_
      refine g_getR (k := 12) cl_X12 (by decide) rfl q_1393 dX12_stormBy_26 ?_
      intro q7
      refine g_iconst (v := (0 : Int32)) dX12_stormBy_29 ki_0 ?_
      refine g_iaload dX12_stormBy_30 ?_
      refine g_ifle (tgt := 49) dX12_stormBy_31 (by decide) ?_ ?_
      · exact g_return rfl dX12_stormBy_49
      · refine g_aload_n (i := 0) dX12_stormBy_34 rfl rfl ?_
        refine g_aload_n (i := 0) dX12_stormBy_35 rfl rfl ?_
        refine g_getR (k := 24) cl_X12 (by decide) rfl q_1405 dX12_stormBy_36 ?_
        intro q8
        refine g_iload_n (i := 3) dX12_stormBy_39 rfl rfl ?_
        refine g_callVV cl_X12 (crt_X12_onceBy _ _ _ _ _ _) cw_X12_onceBy (by decide) rfl q_1920 q_1922 qs_96 rfl rfl dX12_stormBy_40 ?_
        intro r9 m10
        refine g_iinc dX12_stormBy_43 rfl ki_1 (show 4 < 5 by decide) ?_
        intro x11
        refine g_goto (tgt := 19) dX12_stormBy_46 (by decide) ?_
        exact g_msk [true, false, true, true, true] (ih _ _ _ _ _)
set_option maxRecDepth 100000 in
set_option maxHeartbeats 4000000 in
theorem crt_X12_stormBy (l : Launch) (θ : Th) (a0 : Nat) (a1 : Int32) (a2 : Int32) (a3 : Int32) (m : Mm) : Crt l θ yX12_stormBy M_X12_stormBy cvV [.ref a0, .int a1, .int a2, .int a3] m (F_X12_stormBy a0 a1 a2 a3 m) := by
  refine crt_of 1 (by decide) rfl rfl (Nat.le_of_ble_eq_true rfl) (fun Z hμ => ?_)
  unfold F_X12_stormBy
  show GG Z _ _ 0 [some (.ref a0), some (.int a1), some (.int a2), some (.int a3), none] [] m _
  refine g_aload_n (i := 0) dX12_stormBy_0 rfl rfl ?_
  refine g_getR (k := 23) cl_X12 (by decide) rfl q_1404 dX12_stormBy_1 ?_
  intro q1
  refine g_aload_n (i := 0) dX12_stormBy_4 rfl rfl ?_
  refine g_getR (k := 24) cl_X12 (by decide) rfl q_1405 dX12_stormBy_5 ?_
  intro q2
  refine g_callSV (crt_X12_copies _ _ _ _ _) cw_X12_copies (by decide) rfl q_1625 q_1626 rfl rfl dX12_stormBy_8 ?_
  intro r3 m4
  refine g_aload_n (i := 0) dX12_stormBy_11 rfl rfl ?_
  refine g_iload_n (i := 1) dX12_stormBy_12 rfl rfl ?_
  refine g_putI (k := 36) cl_X12 (by decide) rfl rfl q_1417 dX12_stormBy_13 ?_
  intro m5
  refine g_iconst (v := (0 : Int32)) dX12_stormBy_16 ki_0 ?_
  refine g_istore dX12_stormBy_17 (show 4 < 5 by decide) ?_
  intro x6
  exact g_msk [true, false, true, true, true] (c_L_X12_stormBy_19 NF _ _ _ _ _)
set_option maxRecDepth 100000 in
set_option maxHeartbeats 4000000 in
theorem crt_X12_isStorm (l : Launch) (θ : Th) (a0 : Int32) (a1 : Int32) (m : Mm) : Crt l θ yX12_isStorm M_X12_isStorm cvI [.int a0, .int a1] m (F_X12_isStorm a0 a1 m) := by
  refine crt_of 0 (by decide) rfl rfl (Nat.le_of_ble_eq_true rfl) (fun Z hμ => ?_)
  unfold F_X12_isStorm
  show GG Z _ _ 0 [some (.int a0), some (.int a1)] [] m _
  refine g_iload_n (i := 0) dX12_isStorm_0 rfl rfl ?_
  refine g_iconst (v := (1 : Int32)) dX12_isStorm_1 ki_1 ?_
  refine g_bipush (v := (96 : Int32)) dX12_isStorm_2 kb_96 ?_
  refine g_callSI (crt_X12_in _ _ _ _ _ _) cw_X12_in (by decide) rfl q_1505 q_1506 rfl rfl dX12_isStorm_4 ?_
  intro r1 m2
  refine g_ifeq (tgt := 24) dX12_isStorm_7 (by decide) ?_ ?_
  · refine g_iconst (v := (0 : Int32)) dX12_isStorm_24 ki_0 ?_
    exact g_zreturnK rfl (by decide) dX12_isStorm_25
  · refine g_iload_n (i := 1) dX12_isStorm_10 rfl rfl ?_
    refine g_iconst (v := (0 : Int32)) dX12_isStorm_11 ki_0 ?_
    refine g_bipush (v := (16 : Int32)) dX12_isStorm_12 kb_16 ?_
    refine g_callSI (crt_X12_in _ _ _ _ _ _) cw_X12_in (by decide) rfl q_1505 q_1506 rfl rfl dX12_isStorm_14 ?_
    intro r3 m4
    refine g_ifeq (tgt := 24) dX12_isStorm_17 (by decide) ?_ ?_
    · refine g_iconst (v := (0 : Int32)) dX12_isStorm_24 ki_0 ?_
      exact g_zreturnK rfl (by decide) dX12_isStorm_25
    · refine g_iconst (v := (1 : Int32)) dX12_isStorm_20 ki_1 ?_
      refine g_goto (tgt := 25) dX12_isStorm_21 (by decide) ?_
      exact g_zreturnK rfl (by decide) dX12_isStorm_25
set_option maxRecDepth 100000 in
set_option maxHeartbeats 4000000 in
theorem crt_X12_storm (l : Launch) (θ : Th) (a0 : Nat) (a1 : Int32) (a2 : Int32) (a3 : Int32) (a4 : Int32) (m : Mm) : Crt l θ yX12_storm M_X12_storm cvI [.ref a0, .int a1, .int a2, .int a3, .int a4] m (F_X12_storm a0 a1 a2 a3 a4 m) := by
  refine crt_of 0 (by decide) rfl rfl (Nat.le_of_ble_eq_true rfl) (fun Z hμ => ?_)
  unfold F_X12_storm
  show GG Z _ _ 0 [some (.ref a0), some (.int a1), some (.int a2), some (.int a3), some (.int a4)] [] m _
  refine g_aload_n (i := 0) dX12_storm_0 rfl rfl ?_
  refine g_iconst (v := (0 : Int32)) dX12_storm_1 ki_0 ?_
  refine g_putI (k := 0) cl_X12 (by decide) rfl rfl q_1381 dX12_storm_2 ?_
  intro m1
  refine g_aload_n (i := 0) dX12_storm_5 rfl rfl ?_
  refine g_iload_n (i := 2) dX12_storm_6 rfl rfl ?_
  refine g_iload_n (i := 3) dX12_storm_7 rfl rfl ?_
  refine g_callSI (crt_X12_isStorm _ _ _ _ _) cw_X12_isStorm (by decide) rfl q_1913 q_1914 rfl rfl dX12_storm_8 ?_
  intro r2 m3
  refine g_jn (fun J29 => ∀ (v0 : Nat) (v1 : Int32) (v2 : Int32) (v3 : Int32) (v4 : Int32) (s0 : Int32) (s1 : Nat) (m : Mm), GG Z M_X12_storm (PsN Z cvI) 29 [some (.ref v0), some (.int v1), some (.int v2), some (.int v3), some (.int v4)] [.int s0, .ref s1] m (J29 v0 v1 v2 v3 v4 s0 s1 m)) ?_ ?_
  · intro v0 v1 v2 v3 v4 s0 s1 m
    refine g_iconst (v := (1 : Int32)) dX12_storm_29 ki_1 ?_
    refine g_iconst (v := (1 : Int32)) dX12_storm_30 ki_1 ?_
    refine g_callVI cl_X12 (crt_X12_bad _ _ _ _ _ _ _) cw_X12_bad (by decide) rfl q_1508 q_1510 qs_39 rfl rfl dX12_storm_31 ?_
    intro r4 m5
    refine g_ifeq (tgt := 39) dX12_storm_34 (by decide) ?_ ?_
    · refine g_aload_n (i := 0) dX12_storm_39 rfl rfl ?_
      refine g_iload_n (i := 1) dX12_storm_40 rfl rfl ?_
      refine g_iload_n (i := 2) dX12_storm_41 rfl rfl ?_
      refine g_iload_n (i := 3) dX12_storm_42 rfl rfl ?_
      refine g_callVV cl_X12 (crt_X12_stormBy _ _ _ _ _ _ _) cw_X12_stormBy (by decide) rfl q_1916 q_1918 qs_95 rfl rfl dX12_storm_43 ?_
      intro r6 m7
      refine g_iload dX12_storm_46 rfl ?_
      refine g_ifne (tgt := 62) dX12_storm_48 (by decide) ?_ ?_
      · refine g_iload dX12_storm_62 rfl ?_
        refine g_iconst (v := (1 : Int32)) dX12_storm_64 ki_1 ?_
        refine g_icmpne (tgt := 79) dX12_storm_65 (by decide) ?_ ?_
        · refine g_iload dX12_storm_79 rfl ?_
          refine g_iconst (v := (2 : Int32)) dX12_storm_81 ki_2 ?_
          refine g_icmpne (tgt := 96) dX12_storm_82 (by decide) ?_ ?_
          · refine g_aload_n (i := 0) dX12_storm_96 rfl rfl ?_
            refine g_aload_n (i := 0) dX12_storm_97 rfl rfl ?_
            refine g_getR (k := 24) cl_X12 (by decide) rfl q_1405 dX12_storm_98 ?_
            intro q8
            refine g_callVI cl_X12 (crt_X12_agreeBy _ _ _ _ _) cw_X12_agreeBy (by decide) rfl q_1857 q_1859 qs_88 rfl rfl dX12_storm_101 ?_
            intro r9 m10
            refine g_ifeq (tgt := 111) dX12_storm_104 (by decide) ?_ ?_
            · refine g_iconst (v := (0 : Int32)) dX12_storm_111 ki_0 ?_
              exact g_ireturn rfl dX12_storm_112
            · refine g_iconst (v := (1 : Int32)) dX12_storm_107 ki_1 ?_
              refine g_goto (tgt := 112) dX12_storm_108 (by decide) ?_
              exact g_ireturn rfl dX12_storm_112
          · refine g_aload_n (i := 0) dX12_storm_85 rfl rfl ?_
            refine g_getR (k := 24) cl_X12 (by decide) rfl q_1405 dX12_storm_86 ?_
            intro q11
            refine g_sipush (v := (187 : Int32)) dX12_storm_89 ks_187 ?_
            refine g_iaload dX12_storm_92 ?_
            refine g_goto (tgt := 112) dX12_storm_93 (by decide) ?_
            exact g_ireturn rfl dX12_storm_112
        · refine g_aload_n (i := 0) dX12_storm_68 rfl rfl ?_
          refine g_getR (k := 24) cl_X12 (by decide) rfl q_1405 dX12_storm_69 ?_
          intro q12
          refine g_sipush (v := (182 : Int32)) dX12_storm_72 ks_182 ?_
          refine g_iaload dX12_storm_75 ?_
          refine g_goto (tgt := 112) dX12_storm_76 (by decide) ?_
          exact g_ireturn rfl dX12_storm_112
      · refine g_aload_n (i := 0) dX12_storm_51 rfl rfl ?_
        refine g_getR (k := 24) cl_X12 (by decide) rfl q_1405 dX12_storm_52 ?_
        intro q13
        refine g_sipush (v := (181 : Int32)) dX12_storm_55 ks_181 ?_
        refine g_iaload dX12_storm_58 ?_
        refine g_goto (tgt := 112) dX12_storm_59 (by decide) ?_
        exact g_ireturn rfl dX12_storm_112
    · refine g_iconst (v := (0 : Int32)) dX12_storm_37 ki_0 ?_
      exact g_ireturn rfl dX12_storm_38
  · intro J29 hJ29
    refine g_jn (fun J24 => ∀ (v0 : Nat) (v1 : Int32) (v2 : Int32) (v3 : Int32) (v4 : Int32) (s0 : Nat) (m : Mm), GG Z M_X12_storm (PsN Z cvI) 24 [some (.ref v0), some (.int v1), some (.int v2), some (.int v3), some (.int v4)] [.ref s0] m (J24 v0 v1 v2 v3 v4 s0 m)) ?_ ?_
    · intro v0 v1 v2 v3 v4 s0 m
      refine g_iconst (v := (1 : Int32)) dX12_storm_24 ki_1 ?_
      refine g_goto (tgt := 29) dX12_storm_25 (by decide) ?_
      exact g_msk [true, true, true, true, true] (hJ29 _ _ _ _ _ _ _ _)
    · intro J24 hJ24
      refine g_ifeq (tgt := 24) dX12_storm_11 (by decide) ?_ ?_
      · exact g_msk [true, true, true, true, true] (hJ24 _ _ _ _ _ _ _)
      · refine g_iload dX12_storm_14 rfl ?_
        refine g_iconst (v := (0 : Int32)) dX12_storm_16 ki_0 ?_
        refine g_iconst (v := (3 : Int32)) dX12_storm_17 ki_3 ?_
        refine g_callSI (crt_X12_in _ _ _ _ _ _) cw_X12_in (by decide) rfl q_1505 q_1506 rfl rfl dX12_storm_18 ?_
        intro r14 m15
        refine g_ifne (tgt := 28) dX12_storm_21 (by decide) ?_ ?_
        · refine g_iconst (v := (0 : Int32)) dX12_storm_28 ki_0 ?_
          exact g_msk [true, true, true, true, true] (hJ29 _ _ _ _ _ _ _ _)
        · exact g_msk [true, true, true, true, true] (hJ24 _ _ _ _ _ _ _)
set_option maxRecDepth 100000 in
set_option maxHeartbeats 4000000 in
theorem c_L_X12_span_85 {Z : Zx}  {K181 : Int32 → Int32 → Int32 → Int32 → Mm → Option (Int32 × Mm)} (hK181 : ∀ (v5 : Int32) (v7 : Int32) (v8 : Int32) (v9 : Int32) (m : Mm), GG Z M_X12_span (PsN Z cvI) 181 [none, none, none, none, none, some (.int v5), none, some (.int v7), some (.int v8), some (.int v9), none] [] m (K181 v5 v7 v8 v9 m)) : ∀ (n : Nat) (v0 : Nat) (v1 : Int32) (v2 : Int32) (v3 : Int32) (v4 : Int32) (v5 : Int32) (v6 : Int32) (v7 : Int32) (v8 : Int32) (v9 : Int32) (v10 : Int32) (m : Mm), GG Z M_X12_span (PsN Z cvI) 85 [some (.ref v0), some (.int v1), some (.int v2), some (.int v3), some (.int v4), some (.int v5), some (.int v6), some (.int v7), some (.int v8), some (.int v9), some (.int v10)] [] m (L_X12_span_85 K181 n v0 v1 v2 v3 v4 v5 v6 v7 v8 v9 v10 m) := by
  intro n
  induction n with
  | zero => intro v0 v1 v2 v3 v4 v5 v6 v7 v8 v9 v10 m; exact g_no
  | succ n ih =>
    intro v0 v1 v2 v3 v4 v5 v6 v7 v8 v9 v10 m
    unfold L_X12_span_85
    refine g_iload dX12_span_85 rfl ?_
    refine g_iload_n (i := 2) dX12_span_87 rfl rfl ?_
    refine g_icmpge (tgt := 181) dX12_span_88 (by decide) ?_ ?_
    · exact g_msk [false, false, false, false, false, true, false, true, true, true, false] (hK181 _ _ _ _ _)
    · refine g_aload_n (i := 0) dX12_span_91 rfl rfl ?_
      refine g_iload_n (i := 1) dX12_span_92 rfl rfl ?_
      refine g_iload dX12_span_93 rfl ?_
      refine g_iadd dX12_span_95 ?_
      refine g_iload_n (i := 3) dX12_span_96 rfl rfl ?_
      refine g_iload dX12_span_97 rfl ?_
      refine g_callVV cl_X12 (crt_X12_stormBy _ _ _ _ _ _ _) cw_X12_stormBy (by decide) rfl q_1916 q_1918 qs_95 rfl rfl dX12_span_99 ?_
      intro r14 m15
      refine g_iload dX12_span_102 rfl ?_
      refine g_iconst (v := (-1 : Int32)) dX12_span_104 ki_m1 ?_
      refine g_jn (fun J132 => ∀ (v0 : Nat) (v1 : Int32) (v2 : Int32) (v3 : Int32) (v4 : Int32) (v5 : Int32) (v6 : Int32) (v8 : Int32) (v9 : Int32) (v10 : Int32) (s0 : Int32) (m : Mm), GG Z M_X12_span (PsN Z cvI) 132 [some (.ref v0), some (.int v1), some (.int v2), some (.int v3), some (.int v4), some (.int v5), some (.int v6), none, some (.int v8), some (.int v9), some (.int v10)] [.int s0] m (J132 v0 v1 v2 v3 v4 v5 v6 v8 v9 v10 s0 m)) ?_ ?_
      · intro v0 v1 v2 v3 v4 v5 v6 v8 v9 v10 s0 m
        refine g_istore dX12_span_132 (show 7 < 11 by decide) ?_
        intro x16
        refine g_iload dX12_span_134 rfl ?_
        refine g_aload_n (i := 0) dX12_span_136 rfl rfl ?_
        refine g_getR (k := 24) cl_X12 (by decide) rfl q_1405 dX12_span_137 ?_
        intro q17
        refine g_sipush (v := (181 : Int32)) dX12_span_140 ks_181 ?_
        refine g_iaload dX12_span_143 ?_
        refine g_callSI (crt_X12_more _ _ _ _ _) cw_X12_more (by decide) rfl q_1735 q_1736 rfl rfl dX12_span_144 ?_
        intro r18 m19
        refine g_istore dX12_span_147 (show 8 < 11 by decide) ?_
        intro x20
        refine g_iload dX12_span_149 rfl ?_
        refine g_aload_n (i := 0) dX12_span_151 rfl rfl ?_
        refine g_getR (k := 24) cl_X12 (by decide) rfl q_1405 dX12_span_152 ?_
        intro q21
        refine g_sipush (v := (183 : Int32)) dX12_span_155 ks_183 ?_
        refine g_iaload dX12_span_158 ?_
        refine g_iload dX12_span_159 rfl ?_
        refine g_callSI (crt_X12_has _ _ _ _ _) cw_X12_has (by decide) rfl q_1378 q_1379 rfl rfl dX12_span_161 ?_
        intro r22 m23
        refine g_jn (fun J172 => ∀ (v0 : Nat) (v1 : Int32) (v2 : Int32) (v3 : Int32) (v4 : Int32) (v5 : Int32) (v6 : Int32) (v7 : Int32) (v8 : Int32) (v10 : Int32) (s0 : Int32) (s1 : Int32) (m : Mm), GG Z M_X12_span (PsN Z cvI) 172 [some (.ref v0), some (.int v1), some (.int v2), some (.int v3), some (.int v4), some (.int v5), some (.int v6), some (.int v7), some (.int v8), none, some (.int v10)] [.int s0, .int s1] m (J172 v0 v1 v2 v3 v4 v5 v6 v7 v8 v10 s0 s1 m)) ?_ ?_
        · intro v0 v1 v2 v3 v4 v5 v6 v7 v8 v10 s0 s1 m
          refine g_iadd dX12_span_172 ?_
          refine g_istore dX12_span_173 (show 9 < 11 by decide) ?_
          intro x24
          refine g_iinc dX12_span_175 rfl ki_1 (show 10 < 11 by decide) ?_
          intro x25
          refine g_goto (tgt := 85) dX12_span_178 (by decide) ?_
          exact g_msk [true, true, true, true, true, true, true, true, true, true, true] (ih _ _ _ _ _ _ _ _ _ _ _ _)
        · intro J172 hJ172
          refine g_ifeq (tgt := 171) dX12_span_164 (by decide) ?_ ?_
          · refine g_iconst (v := (0 : Int32)) dX12_span_171 ki_0 ?_
            exact g_msk [true, true, true, true, true, true, true, true, true, false, true] (hJ172 _ _ _ _ _ _ _ _ _ _ _ _ _)
          · refine g_iconst (v := (1 : Int32)) dX12_span_167 ki_1 ?_
            refine g_goto (tgt := 172) dX12_span_168 (by decide) ?_
            exact g_msk [true, true, true, true, true, true, true, true, true, false, true] (hJ172 _ _ _ _ _ _ _ _ _ _ _ _ _)
      · intro J132 hJ132
        refine g_icmpne (tgt := 119) dX12_span_105 (by decide) ?_ ?_
        · refine g_iload dX12_span_119 rfl ?_
          refine g_aload_n (i := 0) dX12_span_121 rfl rfl ?_
          refine g_getR (k := 24) cl_X12 (by decide) rfl q_1405 dX12_span_122 ?_
          intro q26
          refine g_sipush (v := (181 : Int32)) dX12_span_125 ks_181 ?_
          refine g_iaload dX12_span_128 ?_
          refine g_callSI (crt_X12_less _ _ _ _ _) cw_X12_less (by decide) rfl q_1732 q_1733 rfl rfl dX12_span_129 ?_
          intro r27 m28
          exact g_msk [true, true, true, true, true, true, true, false, true, true, true] (hJ132 _ _ _ _ _ _ _ _ _ _ _ _)
        · refine g_aload_n (i := 0) dX12_span_108 rfl rfl ?_
          refine g_getR (k := 24) cl_X12 (by decide) rfl q_1405 dX12_span_109 ?_
          intro q29
          refine g_sipush (v := (181 : Int32)) dX12_span_112 ks_181 ?_
          refine g_iaload dX12_span_115 ?_
          refine g_goto (tgt := 132) dX12_span_116 (by decide) ?_
          exact g_msk [true, true, true, true, true, true, true, false, true, true, true] (hJ132 _ _ _ _ _ _ _ _ _ _ _ _)
set_option maxRecDepth 100000 in
set_option maxHeartbeats 4000000 in
theorem crt_X12_span (l : Launch) (θ : Th) (a0 : Nat) (a1 : Int32) (a2 : Int32) (a3 : Int32) (a4 : Int32) (a5 : Int32) (a6 : Int32) (m : Mm) : Crt l θ yX12_span M_X12_span cvI [.ref a0, .int a1, .int a2, .int a3, .int a4, .int a5, .int a6] m (F_X12_span a0 a1 a2 a3 a4 a5 a6 m) := by
  refine crt_of 4 (by decide) rfl rfl (Nat.le_of_ble_eq_true rfl) (fun Z hμ => ?_)
  unfold F_X12_span
  show GG Z _ _ 0 [some (.ref a0), some (.int a1), some (.int a2), some (.int a3), some (.int a4), some (.int a5), some (.int a6), none, none, none, none] [] m _
  refine g_aload_n (i := 0) dX12_span_0 rfl rfl ?_
  refine g_iconst (v := (0 : Int32)) dX12_span_1 ki_0 ?_
  refine g_putI (k := 0) cl_X12 (by decide) rfl rfl q_1381 dX12_span_2 ?_
  intro m1
  refine g_aload_n (i := 0) dX12_span_5 rfl rfl ?_
  refine g_aload_n (i := 0) dX12_span_6 rfl rfl ?_
  refine g_iload dX12_span_7 rfl ?_
  refine g_callVI cl_X12 (crt_X12_isMember _ _ _ _ _) cw_X12_isMember (by decide) rfl q_1777 q_1779 qs_83 rfl rfl dX12_span_9 ?_
  intro r2 m3
  refine g_jn (fun J20 => ∀ (v0 : Nat) (v1 : Int32) (v2 : Int32) (v3 : Int32) (v4 : Int32) (v5 : Int32) (v6 : Int32) (s0 : Int32) (s1 : Nat) (m : Mm), GG Z M_X12_span (PsN Z cvI) 20 [some (.ref v0), some (.int v1), some (.int v2), some (.int v3), some (.int v4), some (.int v5), some (.int v6), none, none, none, none] [.int s0, .ref s1] m (J20 v0 v1 v2 v3 v4 v5 v6 s0 s1 m)) ?_ ?_
  · intro v0 v1 v2 v3 v4 v5 v6 s0 s1 m
    refine g_iconst (v := (1 : Int32)) dX12_span_20 ki_1 ?_
    refine g_iconst (v := (0 : Int32)) dX12_span_21 ki_0 ?_
    refine g_callVI cl_X12 (crt_X12_bad _ _ _ _ _ _ _) cw_X12_bad (by decide) rfl q_1508 q_1510 qs_39 rfl rfl dX12_span_22 ?_
    intro r4 m5
    refine g_ifne (tgt := 71) dX12_span_25 (by decide) ?_ ?_
    · refine g_iconst (v := (0 : Int32)) dX12_span_71 ki_0 ?_
      exact g_ireturn rfl dX12_span_72
    · refine g_aload_n (i := 0) dX12_span_28 rfl rfl ?_
      refine g_iload_n (i := 2) dX12_span_29 rfl rfl ?_
      refine g_iconst (v := (1 : Int32)) dX12_span_30 ki_1 ?_
      refine g_bipush (v := (10 : Int32)) dX12_span_31 kb_10 ?_
      refine g_callSI (crt_X12_in _ _ _ _ _ _) cw_X12_in (by decide) rfl q_1505 q_1506 rfl rfl dX12_span_33 ?_
      intro r6 m7
      refine g_jn (fun J63 => ∀ (v0 : Nat) (v1 : Int32) (v2 : Int32) (v3 : Int32) (v4 : Int32) (v5 : Int32) (v6 : Int32) (s0 : Int32) (s1 : Nat) (m : Mm), GG Z M_X12_span (PsN Z cvI) 63 [some (.ref v0), some (.int v1), some (.int v2), some (.int v3), some (.int v4), some (.int v5), some (.int v6), none, none, none, none] [.int s0, .ref s1] m (J63 v0 v1 v2 v3 v4 v5 v6 s0 s1 m)) ?_ ?_
      · intro v0 v1 v2 v3 v4 v5 v6 s0 s1 m
        refine g_iconst (v := (2 : Int32)) dX12_span_63 ki_2 ?_
        refine g_iconst (v := (1 : Int32)) dX12_span_64 ki_1 ?_
        refine g_callVI cl_X12 (crt_X12_bad _ _ _ _ _ _ _) cw_X12_bad (by decide) rfl q_1508 q_1510 qs_39 rfl rfl dX12_span_65 ?_
        intro r8 m9
        refine g_ifeq (tgt := 73) dX12_span_68 (by decide) ?_ ?_
        · refine g_iconst (v := (-1 : Int32)) dX12_span_73 ki_m1 ?_
          refine g_istore dX12_span_74 (show 7 < 11 by decide) ?_
          intro x10
          refine g_iconst (v := (0 : Int32)) dX12_span_76 ki_0 ?_
          refine g_istore dX12_span_77 (show 8 < 11 by decide) ?_
          intro x11
          refine g_iconst (v := (0 : Int32)) dX12_span_79 ki_0 ?_
          refine g_istore dX12_span_80 (show 9 < 11 by decide) ?_
          intro x12
          refine g_iconst (v := (0 : Int32)) dX12_span_82 ki_0 ?_
          refine g_istore dX12_span_83 (show 10 < 11 by decide) ?_
          intro x13
          refine g_msk [true, true, true, true, true, true, true, true, true, true, true] (c_L_X12_span_85 ?_ NF _ _ _ _ _ _ _ _ _ _ _ _)
          intro v5 v7 v8 v9 m
          refine g_iload dX12_span_181 rfl ?_
          refine g_ifne (tgt := 191) dX12_span_183 (by decide) ?_ ?_
          · refine g_iload dX12_span_191 rfl ?_
            refine g_iconst (v := (1 : Int32)) dX12_span_193 ki_1 ?_
            refine g_icmpne (tgt := 202) dX12_span_194 (by decide) ?_ ?_
            · refine g_iload dX12_span_202 rfl ?_
              exact g_ireturn rfl dX12_span_204
            · refine g_iload dX12_span_197 rfl ?_
              refine g_goto (tgt := 204) dX12_span_199 (by decide) ?_
              exact g_ireturn rfl dX12_span_204
          · refine g_iload dX12_span_186 rfl ?_
            refine g_goto (tgt := 204) dX12_span_188 (by decide) ?_
            exact g_ireturn rfl dX12_span_204
        · refine g_iconst (v := (0 : Int32)) dX12_span_71 ki_0 ?_
          exact g_ireturn rfl dX12_span_72
      · intro J63 hJ63
        refine g_jn (fun J58 => ∀ (v0 : Nat) (v1 : Int32) (v2 : Int32) (v3 : Int32) (v4 : Int32) (v5 : Int32) (v6 : Int32) (s0 : Nat) (m : Mm), GG Z M_X12_span (PsN Z cvI) 58 [some (.ref v0), some (.int v1), some (.int v2), some (.int v3), some (.int v4), some (.int v5), some (.int v6), none, none, none, none] [.ref s0] m (J58 v0 v1 v2 v3 v4 v5 v6 s0 m)) ?_ ?_
        · intro v0 v1 v2 v3 v4 v5 v6 s0 m
          refine g_iconst (v := (1 : Int32)) dX12_span_58 ki_1 ?_
          refine g_goto (tgt := 63) dX12_span_59 (by decide) ?_
          exact g_msk [true, true, true, true, true, true, true, false, false, false, false] (hJ63 _ _ _ _ _ _ _ _ _ _)
        · intro J58 hJ58
          refine g_ifeq (tgt := 58) dX12_span_36 (by decide) ?_ ?_
          · exact g_msk [true, true, true, true, true, true, true, false, false, false, false] (hJ58 _ _ _ _ _ _ _ _ _)
          · refine g_iload_n (i := 3) dX12_span_39 rfl rfl ?_
            refine g_iload dX12_span_40 rfl ?_
            refine g_callSI (crt_X12_isStorm _ _ _ _ _) cw_X12_isStorm (by decide) rfl q_1913 q_1914 rfl rfl dX12_span_42 ?_
            intro r30 m31
            refine g_ifeq (tgt := 58) dX12_span_45 (by decide) ?_ ?_
            · exact g_msk [true, true, true, true, true, true, true, false, false, false, false] (hJ58 _ _ _ _ _ _ _ _ _)
            · refine g_iload dX12_span_48 rfl ?_
              refine g_iconst (v := (0 : Int32)) dX12_span_50 ki_0 ?_
              refine g_iconst (v := (2 : Int32)) dX12_span_51 ki_2 ?_
              refine g_callSI (crt_X12_in _ _ _ _ _ _) cw_X12_in (by decide) rfl q_1505 q_1506 rfl rfl dX12_span_52 ?_
              intro r32 m33
              refine g_ifne (tgt := 62) dX12_span_55 (by decide) ?_ ?_
              · refine g_iconst (v := (0 : Int32)) dX12_span_62 ki_0 ?_
                exact g_msk [true, true, true, true, true, true, true, false, false, false, false] (hJ63 _ _ _ _ _ _ _ _ _ _)
              · exact g_msk [true, true, true, true, true, true, true, false, false, false, false] (hJ58 _ _ _ _ _ _ _ _ _)
  · intro J20 hJ20
    refine g_ifne (tgt := 19) dX12_span_12 (by decide) ?_ ?_
    · refine g_iconst (v := (0 : Int32)) dX12_span_19 ki_0 ?_
      exact g_msk [true, true, true, true, true, true, true, false, false, false, false] (hJ20 _ _ _ _ _ _ _ _ _ _)
    · refine g_iconst (v := (1 : Int32)) dX12_span_15 ki_1 ?_
      refine g_goto (tgt := 20) dX12_span_16 (by decide) ?_
      exact g_msk [true, true, true, true, true, true, true, false, false, false, false] (hJ20 _ _ _ _ _ _ _ _ _ _)
set_option maxRecDepth 100000 in
set_option maxHeartbeats 4000000 in
theorem crt_X12_puts (l : Launch) (θ : Th) (a0 : Nat) (a1 : Nat) (a2 : Int32) (a3 : Int32) (m : Mm) : Crt l θ yX12_puts M_X12_puts cvI [.ref a0, .ref a1, .int a2, .int a3] m (F_X12_puts a0 a1 a2 a3 m) := by
  refine crt_of 0 (by decide) rfl rfl (Nat.le_of_ble_eq_true rfl) (fun Z hμ => ?_)
  unfold F_X12_puts
  show GG Z _ _ 0 [some (.ref a0), some (.ref a1), some (.int a2), some (.int a3)] [] m _
  refine g_iload_n (i := 3) dX12_puts_0 rfl rfl ?_
  refine g_jn (fun J11 => ∀ (v0 : Nat) (v1 : Nat) (m : Mm), GG Z M_X12_puts (PsN Z cvI) 11 [some (.ref v0), some (.ref v1), none, none] [] m (J11 v0 v1 m)) ?_ ?_
  · intro v0 v1 m
    refine g_aload_n (i := 0) dX12_puts_11 rfl rfl ?_
    refine g_dup dX12_puts_12 rfl ?_
    refine g_getI (k := 31) cl_X12 (by decide) rfl q_1412 dX12_puts_13 ?_
    refine g_iconst (v := (1 : Int32)) dX12_puts_16 ki_1 ?_
    refine g_iadd dX12_puts_17 ?_
    refine g_putI (k := 31) cl_X12 (by decide) rfl rfl q_1412 dX12_puts_18 ?_
    intro m1
    refine g_aload_n (i := 1) dX12_puts_21 rfl rfl ?_
    refine g_aload_n (i := 0) dX12_puts_22 rfl rfl ?_
    refine g_getI (k := 31) cl_X12 (by decide) rfl q_1412 dX12_puts_23 ?_
    refine g_iconst (v := (1 : Int32)) dX12_puts_26 ki_1 ?_
    refine g_isub dX12_puts_27 ?_
    refine g_iaload dX12_puts_28 ?_
    exact g_ireturn rfl dX12_puts_29
  · intro J11 hJ11
    refine g_ifne (tgt := 11) dX12_puts_1 (by decide) ?_ ?_
    · exact g_msk [true, true, false, false] (hJ11 _ _ _)
    · refine g_aload_n (i := 1) dX12_puts_4 rfl rfl ?_
      refine g_aload_n (i := 0) dX12_puts_5 rfl rfl ?_
      refine g_getI (k := 31) cl_X12 (by decide) rfl q_1412 dX12_puts_6 ?_
      refine g_iload_n (i := 2) dX12_puts_9 rfl rfl ?_
      refine g_iastore dX12_puts_10 ?_
      intro m2
      exact g_msk [true, true, false, false] (hJ11 _ _ _)
set_option maxRecDepth 100000 in
set_option maxHeartbeats 4000000 in
theorem c_L_X12_putsAll_21 {Z : Zx}  {K52 : Nat → Nat → Int32 → Mm → Option (Unit × Mm)} (hK52 : ∀ (v0 : Nat) (v1 : Nat) (v2 : Int32) (m : Mm), GG Z M_X12_putsAll (PsN Z cvV) 52 [some (.ref v0), some (.ref v1), some (.int v2), none, none] [] m (K52 v0 v1 v2 m)) : ∀ (n : Nat) (v0 : Nat) (v1 : Nat) (v2 : Int32) (v3 : Int32) (m : Mm), GG Z M_X12_putsAll (PsN Z cvV) 21 [some (.ref v0), some (.ref v1), some (.int v2), some (.int v3), none] [] m (L_X12_putsAll_21 K52 n v0 v1 v2 v3 m) := by
  intro n
  induction n with
  | zero => intro v0 v1 v2 v3 m; exact g_no
  | succ n ih =>
    intro v0 v1 v2 v3 m
    unfold L_X12_putsAll_21
    refine g_iload_n (i := 3) dX12_putsAll_21 rfl rfl ?_
    refine g_sipush (v := (968 : Int32)) dX12_putsAll_22 ks_968 ?_
    refine g_icmpge (tgt := 52) dX12_putsAll_25 (by decide) ?_ ?_
    · exact g_msk [true, true, true, false, false] (hK52 _ _ _ _)
    · refine g_aload_n (i := 0) dX12_putsAll_28 rfl rfl ?_
      refine g_getR (k := 23) cl_X12 (by decide) rfl q_1404 dX12_putsAll_29 ?_
      intro q6
      refine g_iload_n (i := 3) dX12_putsAll_32 rfl rfl ?_
      refine g_aload_n (i := 0) dX12_putsAll_33 rfl rfl ?_
      refine g_aload_n (i := 1) dX12_putsAll_34 rfl rfl ?_
      refine g_aload_n (i := 0) dX12_putsAll_35 rfl rfl ?_
      refine g_getR (k := 23) cl_X12 (by decide) rfl q_1404 dX12_putsAll_36 ?_
      intro q7
      refine g_iload_n (i := 3) dX12_putsAll_39 rfl rfl ?_
      refine g_iaload dX12_putsAll_40 ?_
      refine g_iload_n (i := 2) dX12_putsAll_41 rfl rfl ?_
      refine g_callVI cl_X12 (crt_X12_puts _ _ _ _ _ _ _) cw_X12_puts (by decide) rfl q_1941 q_1943 qs_99 rfl rfl dX12_putsAll_42 ?_
      intro r8 m9
      refine g_iastore dX12_putsAll_45 ?_
      intro m10
      refine g_iinc dX12_putsAll_46 rfl ki_1 (show 3 < 5 by decide) ?_
      intro x11
      refine g_goto (tgt := 21) dX12_putsAll_49 (by decide) ?_
      exact g_msk [true, true, true, true, false] (ih _ _ _ _ _)
set_option maxRecDepth 100000 in
set_option maxHeartbeats 4000000 in
theorem c_L_X12_putsAll_63 {Z : Zx}  {K101 : Nat → Nat → Int32 → Int32 → Mm → Option (Unit × Mm)} (hK101 : ∀ (v0 : Nat) (v1 : Nat) (v2 : Int32) (v3 : Int32) (m : Mm), GG Z M_X12_putsAll (PsN Z cvV) 101 [some (.ref v0), some (.ref v1), some (.int v2), some (.int v3), none] [] m (K101 v0 v1 v2 v3 m)) : ∀ (n : Nat) (v0 : Nat) (v1 : Nat) (v2 : Int32) (v3 : Int32) (v4 : Int32) (m : Mm), GG Z M_X12_putsAll (PsN Z cvV) 63 [some (.ref v0), some (.ref v1), some (.int v2), some (.int v3), some (.int v4)] [] m (L_X12_putsAll_63 K101 n v0 v1 v2 v3 v4 m) := by
  intro n
  induction n with
  | zero => intro v0 v1 v2 v3 v4 m; exact g_no
  | succ n ih =>
    intro v0 v1 v2 v3 v4 m
    unfold L_X12_putsAll_63
    refine g_iload dX12_putsAll_63 rfl ?_
    refine g_sipush (v := (968 : Int32)) dX12_putsAll_65 ks_968 ?_
    refine g_icmpge (tgt := 101) dX12_putsAll_68 (by decide) ?_ ?_
    · exact g_msk [true, true, true, true, false] (hK101 _ _ _ _ _)
    · refine g_aload_n (i := 0) dX12_putsAll_71 rfl rfl ?_
      refine g_getR (k := 25) cl_X12 (by decide) rfl q_1406 dX12_putsAll_72 ?_
      intro q14
      refine g_iload_n (i := 3) dX12_putsAll_75 rfl rfl ?_
      refine g_aaloadA dX12_putsAll_76 g_no ?_
      intro q15
      refine g_iload dX12_putsAll_77 rfl ?_
      refine g_aload_n (i := 0) dX12_putsAll_79 rfl rfl ?_
      refine g_aload_n (i := 1) dX12_putsAll_80 rfl rfl ?_
      refine g_aload_n (i := 0) dX12_putsAll_81 rfl rfl ?_
      refine g_getR (k := 25) cl_X12 (by decide) rfl q_1406 dX12_putsAll_82 ?_
      intro q16
      refine g_iload_n (i := 3) dX12_putsAll_85 rfl rfl ?_
      refine g_aaloadA dX12_putsAll_86 g_no ?_
      intro q17
      refine g_iload dX12_putsAll_87 rfl ?_
      refine g_iaload dX12_putsAll_89 ?_
      refine g_iload_n (i := 2) dX12_putsAll_90 rfl rfl ?_
      refine g_callVI cl_X12 (crt_X12_puts _ _ _ _ _ _ _) cw_X12_puts (by decide) rfl q_1941 q_1943 qs_99 rfl rfl dX12_putsAll_91 ?_
      intro r18 m19
      refine g_iastore dX12_putsAll_94 ?_
      intro m20
      refine g_iinc dX12_putsAll_95 rfl ki_1 (show 4 < 5 by decide) ?_
      intro x21
      refine g_goto (tgt := 63) dX12_putsAll_98 (by decide) ?_
      exact g_msk [true, true, true, true, true] (ih _ _ _ _ _ _)
set_option maxRecDepth 100000 in
set_option maxHeartbeats 4000000 in
theorem c_L_X12_putsAll_54 {Z : Zx}    : ∀ (n : Nat) (v0 : Nat) (v1 : Nat) (v2 : Int32) (v3 : Int32) (m : Mm), GG Z M_X12_putsAll (PsN Z cvV) 54 [some (.ref v0), some (.ref v1), some (.int v2), some (.int v3), none] [] m (L_X12_putsAll_54 n v0 v1 v2 v3 m) := by
  intro n
  induction n with
  | zero => intro v0 v1 v2 v3 m; exact g_no
  | succ n ih =>
    intro v0 v1 v2 v3 m
    unfold L_X12_putsAll_54
    refine g_iload_n (i := 3) dX12_putsAll_54 rfl rfl ?_
    refine g_bipush (v := (16 : Int32)) dX12_putsAll_55 kb_16 ?_
    refine g_icmpge (tgt := 107) dX12_putsAll_57 (by decide) ?_ ?_
    · exact g_return rfl dX12_putsAll_107
    · refine g_iconst (v := (0 : Int32)) dX12_putsAll_60 ki_0 ?_
      refine g_istore dX12_putsAll_61 (show 4 < 5 by decide) ?_
      intro x13
      refine g_msk [true, true, true, true, true] (c_L_X12_putsAll_63 ?_ NF _ _ _ _ _ _)
      intro v0 v1 v2 v3 m
      refine g_iinc dX12_putsAll_101 rfl ki_1 (show 3 < 5 by decide) ?_
      intro x22
      refine g_goto (tgt := 54) dX12_putsAll_104 (by decide) ?_
      exact g_msk [true, true, true, true, false] (ih _ _ _ _ _)
set_option maxRecDepth 100000 in
set_option maxHeartbeats 4000000 in
theorem crt_X12_putsAll (l : Launch) (θ : Th) (a0 : Nat) (a1 : Nat) (a2 : Int32) (m : Mm) : Crt l θ yX12_putsAll M_X12_putsAll cvV [.ref a0, .ref a1, .int a2] m (F_X12_putsAll a0 a1 a2 m) := by
  refine crt_of 2 (by decide) rfl rfl (Nat.le_of_ble_eq_true rfl) (fun Z hμ => ?_)
  unfold F_X12_putsAll
  show GG Z _ _ 0 [some (.ref a0), some (.ref a1), some (.int a2), none, none] [] m _
  refine g_aload_n (i := 0) dX12_putsAll_0 rfl rfl ?_
  refine g_iconst (v := (0 : Int32)) dX12_putsAll_1 ki_0 ?_
  refine g_putI (k := 31) cl_X12 (by decide) rfl rfl q_1412 dX12_putsAll_2 ?_
  intro m1
  refine g_aload_n (i := 0) dX12_putsAll_5 rfl rfl ?_
  refine g_aload_n (i := 0) dX12_putsAll_6 rfl rfl ?_
  refine g_aload_n (i := 1) dX12_putsAll_7 rfl rfl ?_
  refine g_aload_n (i := 0) dX12_putsAll_8 rfl rfl ?_
  refine g_getI (k := 28) cl_X12 (by decide) rfl q_1409 dX12_putsAll_9 ?_
  refine g_iload_n (i := 2) dX12_putsAll_12 rfl rfl ?_
  refine g_callVI cl_X12 (crt_X12_puts _ _ _ _ _ _ _) cw_X12_puts (by decide) rfl q_1941 q_1943 qs_99 rfl rfl dX12_putsAll_13 ?_
  intro r2 m3
  refine g_putI (k := 28) cl_X12 (by decide) rfl rfl q_1409 dX12_putsAll_16 ?_
  intro m4
  refine g_iconst (v := (0 : Int32)) dX12_putsAll_19 ki_0 ?_
  refine g_istore_n (i := 3) dX12_putsAll_20 rfl (show 3 < 5 by decide) ?_
  intro x5
  refine g_msk [true, true, true, true, false] (c_L_X12_putsAll_21 ?_ NF _ _ _ _ _)
  intro v0 v1 v2 m
  refine g_iconst (v := (0 : Int32)) dX12_putsAll_52 ki_0 ?_
  refine g_istore_n (i := 3) dX12_putsAll_53 rfl (show 3 < 5 by decide) ?_
  intro x12
  exact g_msk [true, true, true, true, false] (c_L_X12_putsAll_54 NF _ _ _ _ _)
set_option maxRecDepth 100000 in
set_option maxHeartbeats 4000000 in
theorem crt_X12_image (l : Launch) (θ : Th) (a0 : Nat) (m : Mm) : Crt l θ yX12_image M_X12_image cvI [.ref a0] m (F_X12_image a0 m) := by
  refine crt_of 0 (by decide) rfl rfl (Nat.le_of_ble_eq_true rfl) (fun Z hμ => ?_)
  unfold F_X12_image
  show GG Z _ _ 0 [some (.ref a0)] [] m _
  refine g_aload_n (i := 0) dX12_image_0 rfl rfl ?_
  refine g_iconst (v := (0 : Int32)) dX12_image_1 ki_0 ?_
  refine g_putI (k := 0) cl_X12 (by decide) rfl rfl q_1381 dX12_image_2 ?_
  intro m1
  refine g_aload_n (i := 0) dX12_image_5 rfl rfl ?_
  refine g_getI (k := 30) cl_X12 (by decide) rfl q_1411 dX12_image_6 ?_
  refine g_iconst (v := (3 : Int32)) dX12_image_9 ki_3 ?_
  refine g_icmpne (tgt := 15) dX12_image_10 (by decide) ?_ ?_
  · refine g_aload_n (i := 0) dX12_image_15 rfl rfl ?_
    refine g_aload_n (i := 0) dX12_image_16 rfl rfl ?_
    refine g_getR (k := 26) cl_X12 (by decide) rfl q_1407 dX12_image_17 ?_
    intro q2
    refine g_aload_n (i := 0) dX12_image_20 rfl rfl ?_
    refine g_getI (k := 30) cl_X12 (by decide) rfl q_1411 dX12_image_21 ?_
    refine g_aaloadA dX12_image_24 g_no ?_
    intro q3
    refine g_iconst (v := (0 : Int32)) dX12_image_25 ki_0 ?_
    refine g_callVV cl_X12 (crt_X12_putsAll _ _ _ _ _ _) cw_X12_putsAll (by decide) rfl q_1937 q_1939 qs_98 rfl rfl dX12_image_26 ?_
    intro r4 m5
    refine g_aload_n (i := 0) dX12_image_29 rfl rfl ?_
    refine g_dup dX12_image_30 rfl ?_
    refine g_getI (k := 30) cl_X12 (by decide) rfl q_1411 dX12_image_31 ?_
    refine g_iconst (v := (1 : Int32)) dX12_image_34 ki_1 ?_
    refine g_iadd dX12_image_35 ?_
    refine g_putI (k := 30) cl_X12 (by decide) rfl rfl q_1411 dX12_image_36 ?_
    intro m6
    refine g_aload_n (i := 0) dX12_image_39 rfl rfl ?_
    refine g_getI (k := 30) cl_X12 (by decide) rfl q_1411 dX12_image_40 ?_
    exact g_ireturn rfl dX12_image_43
  · refine g_iconst (v := (-1 : Int32)) dX12_image_13 ki_m1 ?_
    exact g_ireturn rfl dX12_image_14
set_option maxRecDepth 100000 in
set_option maxHeartbeats 4000000 in
theorem crt_X12_restore (l : Launch) (θ : Th) (a0 : Nat) (m : Mm) : Crt l θ yX12_restore M_X12_restore cvI [.ref a0] m (F_X12_restore a0 m) := by
  refine crt_of 0 (by decide) rfl rfl (Nat.le_of_ble_eq_true rfl) (fun Z hμ => ?_)
  unfold F_X12_restore
  show GG Z _ _ 0 [some (.ref a0)] [] m _
  refine g_aload_n (i := 0) dX12_restore_0 rfl rfl ?_
  refine g_iconst (v := (0 : Int32)) dX12_restore_1 ki_0 ?_
  refine g_putI (k := 0) cl_X12 (by decide) rfl rfl q_1381 dX12_restore_2 ?_
  intro m1
  refine g_aload_n (i := 0) dX12_restore_5 rfl rfl ?_
  refine g_getI (k := 30) cl_X12 (by decide) rfl q_1411 dX12_restore_6 ?_
  refine g_ifne (tgt := 14) dX12_restore_9 (by decide) ?_ ?_
  · refine g_aload_n (i := 0) dX12_restore_14 rfl rfl ?_
    refine g_dup dX12_restore_15 rfl ?_
    refine g_getI (k := 30) cl_X12 (by decide) rfl q_1411 dX12_restore_16 ?_
    refine g_iconst (v := (1 : Int32)) dX12_restore_19 ki_1 ?_
    refine g_isub dX12_restore_20 ?_
    refine g_putI (k := 30) cl_X12 (by decide) rfl rfl q_1411 dX12_restore_21 ?_
    intro m2
    refine g_aload_n (i := 0) dX12_restore_24 rfl rfl ?_
    refine g_aload_n (i := 0) dX12_restore_25 rfl rfl ?_
    refine g_getR (k := 26) cl_X12 (by decide) rfl q_1407 dX12_restore_26 ?_
    intro q3
    refine g_aload_n (i := 0) dX12_restore_29 rfl rfl ?_
    refine g_getI (k := 30) cl_X12 (by decide) rfl q_1411 dX12_restore_30 ?_
    refine g_aaloadA dX12_restore_33 g_no ?_
    intro q4
    refine g_iconst (v := (1 : Int32)) dX12_restore_34 ki_1 ?_
    refine g_callVV cl_X12 (crt_X12_putsAll _ _ _ _ _ _) cw_X12_putsAll (by decide) rfl q_1937 q_1939 qs_98 rfl rfl dX12_restore_35 ?_
    intro r5 m6
    refine g_aload_n (i := 0) dX12_restore_38 rfl rfl ?_
    refine g_iconst (v := (0 : Int32)) dX12_restore_39 ki_0 ?_
    refine g_putI (k := 29) cl_X12 (by decide) rfl rfl q_1410 dX12_restore_40 ?_
    intro m7
    refine g_aload_n (i := 0) dX12_restore_43 rfl rfl ?_
    refine g_getI (k := 30) cl_X12 (by decide) rfl q_1411 dX12_restore_44 ?_
    exact g_ireturn rfl dX12_restore_47
  · refine g_iconst (v := (-1 : Int32)) dX12_restore_12 ki_m1 ?_
    exact g_ireturn rfl dX12_restore_13
set_option maxRecDepth 100000 in
set_option maxHeartbeats 4000000 in
theorem crt_X12_status (l : Launch) (θ : Th) (a0 : Nat) (a1 : Int32) (m : Mm) : Crt l θ yX12_status M_X12_status cvI [.ref a0, .int a1] m (F_X12_status a0 a1 m) := by
  refine crt_of 0 (by decide) rfl rfl (Nat.le_of_ble_eq_true rfl) (fun Z hμ => ?_)
  unfold F_X12_status
  show GG Z _ _ 0 [some (.ref a0), some (.int a1)] [] m _
  refine g_aload_n (i := 0) dX12_status_0 rfl rfl ?_
  refine g_iconst (v := (0 : Int32)) dX12_status_1 ki_0 ?_
  refine g_putI (k := 0) cl_X12 (by decide) rfl rfl q_1381 dX12_status_2 ?_
  intro m1
  refine g_iload_n (i := 1) dX12_status_5 rfl rfl ?_
  refine g_iconst (v := (0 : Int32)) dX12_status_6 ki_0 ?_
  refine g_iconst (v := (3 : Int32)) dX12_status_7 ki_3 ?_
  refine g_callSI (crt_X12_in _ _ _ _ _ _) cw_X12_in (by decide) rfl q_1505 q_1506 rfl rfl dX12_status_8 ?_
  intro r2 m3
  refine g_ifeq (tgt := 23) dX12_status_11 (by decide) ?_ ?_
  · refine g_iconst (v := (-1 : Int32)) dX12_status_23 ki_m1 ?_
    exact g_ireturn rfl dX12_status_24
  · refine g_aload_n (i := 0) dX12_status_14 rfl rfl ?_
    refine g_getR (k := 10) cl_X12 (by decide) rfl q_1391 dX12_status_15 ?_
    intro q4
    refine g_iload_n (i := 1) dX12_status_18 rfl rfl ?_
    refine g_iaload dX12_status_19 ?_
    refine g_goto (tgt := 24) dX12_status_20 (by decide) ?_
    exact g_ireturn rfl dX12_status_24
set_option maxRecDepth 100000 in
set_option maxHeartbeats 4000000 in
theorem crt_X12_count (l : Launch) (θ : Th) (a0 : Nat) (a1 : Int32) (m : Mm) : Crt l θ yX12_count M_X12_count cvI [.ref a0, .int a1] m (F_X12_count a0 a1 m) := by
  refine crt_of 0 (by decide) rfl rfl (Nat.le_of_ble_eq_true rfl) (fun Z hμ => ?_)
  unfold F_X12_count
  show GG Z _ _ 0 [some (.ref a0), some (.int a1)] [] m _
  refine g_aload_n (i := 0) dX12_count_0 rfl rfl ?_
  refine g_iconst (v := (0 : Int32)) dX12_count_1 ki_0 ?_
  refine g_putI (k := 0) cl_X12 (by decide) rfl rfl q_1381 dX12_count_2 ?_
  intro m1
  refine g_iload_n (i := 1) dX12_count_5 rfl rfl ?_
  refine g_ifne (tgt := 16) dX12_count_6 (by decide) ?_ ?_
  · refine g_iload_n (i := 1) dX12_count_16 rfl rfl ?_
    refine g_iconst (v := (1 : Int32)) dX12_count_17 ki_1 ?_
    refine g_icmpne (tgt := 28) dX12_count_18 (by decide) ?_ ?_
    · refine g_iload_n (i := 1) dX12_count_28 rfl rfl ?_
      refine g_iconst (v := (2 : Int32)) dX12_count_29 ki_2 ?_
      refine g_icmpne (tgt := 40) dX12_count_30 (by decide) ?_ ?_
      · refine g_iconst (v := (-1 : Int32)) dX12_count_40 ki_m1 ?_
        exact g_ireturn rfl dX12_count_41
      · refine g_aload_n (i := 0) dX12_count_33 rfl rfl ?_
        refine g_getI (k := 28) cl_X12 (by decide) rfl q_1409 dX12_count_34 ?_
        refine g_goto (tgt := 41) dX12_count_37 (by decide) ?_
        exact g_ireturn rfl dX12_count_41
    · refine g_aload_n (i := 0) dX12_count_21 rfl rfl ?_
      refine g_getI (k := 1) cl_X12 (by decide) rfl q_1382 dX12_count_22 ?_
      refine g_goto (tgt := 41) dX12_count_25 (by decide) ?_
      exact g_ireturn rfl dX12_count_41
  · refine g_aload_n (i := 0) dX12_count_9 rfl rfl ?_
    refine g_getI (k := 30) cl_X12 (by decide) rfl q_1411 dX12_count_10 ?_
    refine g_goto (tgt := 41) dX12_count_13 (by decide) ?_
    exact g_ireturn rfl dX12_count_41
