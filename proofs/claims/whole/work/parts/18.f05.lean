def F_X12_entryOf (a0 : Int32) (a1 : Int32) (m : Mm) : Option (Int32 × Mm) :=
 some (((200 : Int32) + ((2 : Int32) * (((64 : Int32) * a0) + a1))), m)
def F_X12_logs (a0 : Nat) (a1 : Int32) (m : Mm) : Option (Unit × Mm) :=
 gd (okA m 100 a0 ((6 : Int32) + a1)) (
 if (rI m a0 (ix ((6 : Int32) + a1))) < (64 : Int32) then (
 gd (okA m 100 a0 ((6 : Int32) + a1)) (
 bd (F_X12_entryOf a1 (rI m a0 (ix ((6 : Int32) + a1))) m) fun r1 m2 =>
 bd (F_X12_wide a0 ((188 : Int32) + ((2 : Int32) * a1)) m2) fun r3 m4 =>
 bd (F_X12_widens a0 r1 r3 m4) fun r5 m6 =>
 gd (okA m6 100 a0 ((6 : Int32) + a1)) (
 gd (okA m6 100 a0 ((6 : Int32) + a1)) (lt9 (wI m6 a0 (ix ((6 : Int32) + a1)) ((rI m6 a0 (ix ((6 : Int32) + a1))) + (1 : Int32))) fun m7 =>
 some ((), m7)))))
 else (
 some ((), m)))
def L_X12_ones_4  : Nat → Int32 → Int32 → Int32 → Mm → Option (Int32 × Mm)
 | 0, _, _, _, _ => none
 | n + 1, v0, v1, v2, m =>
 if (30 : Int32) ≤ v2 then (
 some (v1, m))
 else (
 lt9 (v1 + ((v0 >>> (v2 &&& 31)) &&& (1 : Int32))) fun x3 =>
 lt9 (v2 + (1 : Int32)) fun x4 =>
 L_X12_ones_4 n v0 x3 x4 m)
def F_X12_ones (a0 : Int32) (m : Mm) : Option (Int32 × Mm) :=
 lt9 (0 : Int32) fun x1 =>
 lt9 (0 : Int32) fun x2 =>
 L_X12_ones_4 NF a0 x1 x2 m
def F_X12_isInside (a0 : Nat) (a1 : Int32) (m : Mm) : Option (Int32 × Mm) :=
 gd (okA m 100 a0 (184 : Int32)) (
 bd (F_X12_has (rI m a0 (ix (184 : Int32))) a1 m) fun r1 m2 =>
 if r1 = 0 then (
 some ((0 : Int32), m2))
 else (
 gd (okA m2 100 a0 (183 : Int32)) (
 bd (F_X12_has (rI m2 a0 (ix (183 : Int32))) a1 m2) fun r3 m4 =>
 if r3 = 0 then (
 some ((0 : Int32), m4))
 else (
 some ((1 : Int32), m4)))))
def F_X12_reaches (a0 : Int32) (a1 : Int32) (a2 : Int32) (m : Mm) : Option (Int32 × Mm) :=
 bd (F_X12_has a0 a1 m) fun r1 m2 =>
 bd (F_X12_has a0 a2 m2) fun r3 m4 =>
 if r1 = r3 then (
 some ((1 : Int32), m4))
 else (
 some ((0 : Int32), m4))
def F_X12_knownOf (a0 : Int32) (a1 : Int32) (m : Mm) : Option (Int32 × Mm) :=
 some ((((36 : Int32) + ((6 : Int32) * a0)) + a1), m)
def F_X12_delivers (a0 : Nat) (a1 : Int32) (a2 : Int32) (m : Mm) : Option (Unit × Mm) :=
 gd (okA m 100 a0 ((12 : Int32) + a1)) (
 gd (okA m 100 a0 ((12 : Int32) + a1)) (lt9 (wI m a0 (ix ((12 : Int32) + a1)) ((rI m a0 (ix ((12 : Int32) + a1))) ||| ((1 : Int32) <<< (a2 &&& 31)))) fun m1 =>
 gd (okA m1 100 a0 ((18 : Int32) + a1)) (
 gd (okA m1 100 a0 ((18 : Int32) + a1)) (lt9 (wI m1 a0 (ix ((18 : Int32) + a1)) ((rI m1 a0 (ix ((18 : Int32) + a1))) ||| ((1 : Int32) <<< (a2 &&& 31)))) fun m2 =>
 bd (F_X12_knownOf a1 a1 m2) fun r3 m4 =>
 gd (okA m4 100 a0 r3) (
 gd (okA m4 100 a0 r3) (lt9 (wI m4 a0 (ix r3) ((rI m4 a0 (ix r3)) ||| ((1 : Int32) <<< (a2 &&& 31)))) fun m5 =>
 bd (F_X12_wide a0 ((188 : Int32) + ((2 : Int32) * a1)) m5) fun r6 m7 =>
 gd (okA m7 100 a0 ((150 : Int32) + a2)) (
 gd (okA m7 100 a0 ((120 : Int32) + a2)) (
 bd (F_X12_widens a0 ((188 : Int32) + ((2 : Int32) * a1)) (r6 + ((((rI m7 a0 (ix ((150 : Int32) + a2))).toInt64) + (1 : Int64)) * (((rI m7 a0 (ix ((120 : Int32) + a2))).toInt64) + (1 : Int64)))) m7) fun r8 m9 =>
 bd (F_X12_logs a0 a1 m9) fun r10 m11 =>
 some ((), m11)))))))))
def L_X12_sends_120  : Nat → Nat → Nat → Int32 → Int32 → Int32 → Mm → Option (Int32 × Mm)
 | 0, _, _, _, _, _, _ => none
 | n + 1, v0, v1, v2, v4, v5, m =>
 gd (okO m v0 12) (oc (rR m v0 12) none fun q13 =>
 gd (okA m 100 q13 (0 : Int32)) (
 if (rI m q13 (ix (0 : Int32))) ≤ v5 then (
 some ((1 : Int32), m))
 else (
 gd (okA m 100 v1 ((24 : Int32) + v5)) (
 jn (fun (v0 : Nat) (v1 : Nat) (v2 : Int32) (v4 : Int32) (v5 : Int32) (s0 : Int32) (s1 : Int32) (s2 : Int32) (s3 : Nat) (m : Mm) =>
 gd (okA m 100 s3 s2) (lt9 (wI m s3 (ix s2) (s1 ||| s0)) fun m14 =>
 lt9 (v5 + (1 : Int32)) fun x15 =>
 L_X12_sends_120 n v0 v1 v2 v4 x15 m14)) fun J162 =>
 jn (fun (v0 : Nat) (v1 : Nat) (v2 : Int32) (v4 : Int32) (v5 : Int32) (s0 : Int32) (s1 : Int32) (s2 : Nat) (m : Mm) =>
 J162 v0 v1 v2 v4 v5 (0 : Int32) s0 s1 s2 m) fun J161 =>
 if v5 = v2 then (
 J161 v0 v1 v2 v4 v5 (rI m v1 (ix ((24 : Int32) + v5))) ((24 : Int32) + v5) v1 m)
 else (
 bd (F_X12_isInside v1 v5 m) fun r16 m17 =>
 if r16 = 0 then (
 J161 v0 v1 v2 v4 v5 (rI m v1 (ix ((24 : Int32) + v5))) ((24 : Int32) + v5) v1 m17)
 else (
 J162 v0 v1 v2 v4 v5 ((1 : Int32) <<< (v4 &&& 31)) (rI m v1 (ix ((24 : Int32) + v5))) ((24 : Int32) + v5) v1 m17))))))
def F_X12_sends (a0 : Nat) (a1 : Nat) (a2 : Int32) (a3 : Int32) (m : Mm) : Option (Int32 × Mm) :=
 bd (F_X12_isInside a1 a2 m) fun r1 m2 =>
 if r1 = 0 then (
 some ((0 : Int32), m2))
 else (
 gd (okA m2 100 a1 (185 : Int32)) (
 bd (F_X12_has (rI m2 a1 (ix (185 : Int32))) a2 m2) fun r3 m4 =>
 if r3 = 0 then (
 gd (okA m4 100 a1 (187 : Int32)) (
 lt9 (rI m4 a1 (ix (187 : Int32))) fun x5 =>
 gd (okO m4 a0 12) (oc (rR m4 a0 12) none fun q6 =>
 gd (okA m4 100 q6 (2 : Int32)) (
 if x5 < (rI m4 q6 (ix (2 : Int32))) then (
 gd (okA m4 100 a1 (187 : Int32)) (
 gd (okA m4 100 a1 (187 : Int32)) (lt9 (wI m4 a1 (ix (187 : Int32)) ((rI m4 a1 (ix (187 : Int32))) + (1 : Int32))) fun m7 =>
 gd (okA m7 100 a1 ((120 : Int32) + x5)) (lt9 (wI m7 a1 (ix ((120 : Int32) + x5)) a2) fun m8 =>
 gd (okA m8 100 a1 ((150 : Int32) + x5)) (lt9 (wI m8 a1 (ix ((150 : Int32) + x5)) a3) fun m9 =>
 bd (F_X12_delivers a1 a2 x5 m9) fun r10 m11 =>
 lt9 (0 : Int32) fun x12 =>
 L_X12_sends_120 NF a0 a1 a2 x5 x12 m11)))))
 else (
 some ((0 : Int32), m4))))))
 else (
 gd (okA m4 100 a1 ((30 : Int32) + a2)) (
 if (rI m4 a1 (ix ((30 : Int32) + a2))) = (8 : Int32) then (
 some ((0 : Int32), m4))
 else (
 gd (okA m4 100 a1 ((30 : Int32) + a2)) (
 gd (okA m4 100 a1 (((72 : Int32) + ((8 : Int32) * a2)) + (rI m4 a1 (ix ((30 : Int32) + a2))))) (lt9 (wI m4 a1 (ix (((72 : Int32) + ((8 : Int32) * a2)) + (rI m4 a1 (ix ((30 : Int32) + a2))))) a3) fun m18 =>
 gd (okA m18 100 a1 ((30 : Int32) + a2)) (
 gd (okA m18 100 a1 ((30 : Int32) + a2)) (lt9 (wI m18 a1 (ix ((30 : Int32) + a2)) ((rI m18 a1 (ix ((30 : Int32) + a2))) + (1 : Int32))) fun m19 =>
 some ((1 : Int32), m19))))))))))
def L_X12_nextOf_3  : Nat → Nat → Int32 → Int32 → Int32 → Mm → Option (Int32 × Mm)
 | 0, _, _, _, _, _ => none
 | n + 1, v1, v2, v3, v4, m =>
 gd (okA m 100 v1 (187 : Int32)) (
 if (rI m v1 (ix (187 : Int32))) ≤ v4 then (
 some ((-1 : Int32), m))
 else (
 bd (F_X12_isInside v1 v2 m) fun r2 m3 =>
 if r2 = 0 then (
 some ((-1 : Int32), m3))
 else (
 gd (okA m3 100 v1 ((24 : Int32) + v2)) (
 bd (F_X12_has (rI m3 v1 (ix ((24 : Int32) + v2))) v4 m3) fun r4 m5 =>
 jn (fun (v1 : Nat) (v2 : Int32) (v3 : Int32) (v4 : Int32) (m : Mm) =>
 lt9 (v4 + (1 : Int32)) fun x6 =>
 L_X12_nextOf_3 n v1 v2 v3 x6 m) fun J61 =>
 if r4 = 0 then (
 J61 v1 v2 v3 v4 m5)
 else (
 if v3 = 0 then (
 gd (okA m5 100 v1 (180 : Int32)) (
 gd (okA m5 100 v1 ((120 : Int32) + v4)) (
 bd (F_X12_reaches (rI m5 v1 (ix (180 : Int32))) v2 (rI m5 v1 (ix ((120 : Int32) + v4))) m5) fun r7 m8 =>
 if r7 = 0 then (
 J61 v1 v2 v3 v4 m8)
 else (
 some (v4, m8)))))
 else (
 some (v4, m5)))))))
def F_X12_nextOf (a0 : Nat) (a1 : Nat) (a2 : Int32) (a3 : Int32) (m : Mm) : Option (Int32 × Mm) :=
 lt9 (0 : Int32) fun x1 =>
 L_X12_nextOf_3 NF a1 a2 a3 x1 m
def F_X12_takesOne (a0 : Nat) (a1 : Nat) (a2 : Int32) (a3 : Int32) (m : Mm) : Option (Int32 × Mm) :=
 gd (okO m a0 12) (bd (F_X12_nextOf a0 a1 a2 a3 m) fun r1 m2 =>
 lt9 r1 fun x3 =>
 if x3 = (-1 : Int32) then (
 some ((0 : Int32), m2))
 else (
 gd (okA m2 100 a1 ((24 : Int32) + a2)) (
 gd (okA m2 100 a1 ((24 : Int32) + a2)) (lt9 (wI m2 a1 (ix ((24 : Int32) + a2)) ((rI m2 a1 (ix ((24 : Int32) + a2))) &&& (((1 : Int32) <<< (x3 &&& 31)) ^^^ (-1 : Int32)))) fun m4 =>
 if a3 = 0 then (
 bd (F_X12_delivers a1 a2 x3 m4) fun r5 m6 =>
 some ((1 : Int32), m6))
 else (
 some ((1 : Int32), m4))))))
def L_X12_tellsOthers_12  : Nat → Nat → Nat → Int32 → Int32 → Mm → Option (Int32 × Mm)
 | 0, _, _, _, _, _ => none
 | n + 1, v0, v1, v2, v3, m =>
 gd (okO m v0 12) (oc (rR m v0 12) none fun q4 =>
 gd (okA m 100 q4 (0 : Int32)) (
 if (rI m q4 (ix (0 : Int32))) ≤ v3 then (
 some ((1 : Int32), m))
 else (
 bd (F_X12_isInside v1 v3 m) fun r5 m6 =>
 jn (fun (v0 : Nat) (v1 : Nat) (v2 : Int32) (v3 : Int32) (m : Mm) =>
 lt9 (v3 + (1 : Int32)) fun x7 =>
 L_X12_tellsOthers_12 n v0 v1 v2 x7 m) fun J59 =>
 if r5 = 0 then (
 J59 v0 v1 v2 v3 m6)
 else (
 gd (okA m6 100 v1 (180 : Int32)) (
 bd (F_X12_reaches (rI m6 v1 (ix (180 : Int32))) v2 v3 m6) fun r8 m9 =>
 if r8 = 0 then (
 J59 v0 v1 v2 v3 m9)
 else (
 bd (F_X12_knownOf v3 v2 m9) fun r10 m11 =>
 gd (okA m11 100 v1 r10) (
 gd (okA m11 100 v1 ((12 : Int32) + v2)) (
 gd (okA m11 100 v1 r10) (lt9 (wI m11 v1 (ix r10) ((rI m11 v1 (ix r10)) ||| (rI m11 v1 (ix ((12 : Int32) + v2))))) fun m12 =>
 J59 v0 v1 v2 v3 m12)))))))))
def F_X12_tellsOthers (a0 : Nat) (a1 : Nat) (a2 : Int32) (m : Mm) : Option (Int32 × Mm) :=
 bd (F_X12_isInside a1 a2 m) fun r1 m2 =>
 if r1 = 0 then (
 some ((0 : Int32), m2))
 else (
 lt9 (0 : Int32) fun x3 =>
 L_X12_tellsOthers_12 NF a0 a1 a2 x3 m2)
def L_X12_stableBy_13  : Nat → Nat → Nat → Int32 → Int32 → Int32 → Mm → Option (Int32 × Mm)
 | 0, _, _, _, _, _, _ => none
 | n + 1, v0, v1, v2, v3, v4, m =>
 gd (okO m v0 12) (oc (rR m v0 12) none fun q3 =>
 gd (okA m 100 q3 (0 : Int32)) (
 if (rI m q3 (ix (0 : Int32))) ≤ v4 then (
 some (v3, m))
 else (
 gd (okA m 100 v1 (182 : Int32)) (
 bd (F_X12_has (rI m v1 (ix (182 : Int32))) v4 m) fun r4 m5 =>
 jn (fun (v0 : Nat) (v1 : Nat) (v2 : Int32) (v4 : Int32) (s0 : Int32) (s1 : Int32) (m : Mm) =>
 lt9 (s1 &&& s0) fun x6 =>
 lt9 (v4 + (1 : Int32)) fun x7 =>
 L_X12_stableBy_13 n v0 v1 v2 x6 x7 m) fun J50 =>
 if r4 = 0 then (
 J50 v0 v1 v2 v4 v3 v3 m5)
 else (
 bd (F_X12_knownOf v2 v4 m5) fun r8 m9 =>
 gd (okA m9 100 v1 r8) (
 J50 v0 v1 v2 v4 (rI m9 v1 (ix r8)) v3 m9))))))
def F_X12_stableBy (a0 : Nat) (a1 : Nat) (a2 : Int32) (m : Mm) : Option (Int32 × Mm) :=
 gd (okA m 100 a1 (187 : Int32)) (
 lt9 (((1 : Int32) <<< ((rI m a1 (ix (187 : Int32))) &&& 31)) - (1 : Int32)) fun x1 =>
 lt9 (0 : Int32) fun x2 =>
 L_X12_stableBy_13 NF a0 a1 a2 x1 x2 m)
def F_X12_trims (a0 : Nat) (a1 : Nat) (a2 : Int32) (m : Mm) : Option (Int32 × Mm) :=
 gd (okO m a0 12) (bd (F_X12_stableBy a0 a1 a2 m) fun r1 m2 =>
 gd (okA m2 100 a1 ((18 : Int32) + a2)) (
 lt9 (r1 &&& (rI m2 a1 (ix ((18 : Int32) + a2)))) fun x3 =>
 bd (F_X12_isInside a1 a2 m2) fun r4 m5 =>
 if r4 = 0 then (
 some ((0 : Int32), m5))
 else (
 if x3 = 0 then (
 some ((0 : Int32), m5))
 else (
 gd (okA m5 100 a1 ((18 : Int32) + a2)) (
 gd (okA m5 100 a1 ((18 : Int32) + a2)) (lt9 (wI m5 a1 (ix ((18 : Int32) + a2)) ((rI m5 a1 (ix ((18 : Int32) + a2))) &&& (x3 ^^^ (-1 : Int32)))) fun m6 =>
 some ((1 : Int32), m6)))))))
def L_X12_forgets_23  : Nat → Nat → Int32 → Int32 → Mm → Option (Unit × Mm)
 | 0, _, _, _, _ => none
 | n + 1, v0, v1, v2, m =>
 if (6 : Int32) ≤ v2 then (
 some ((), m))
 else (
 bd (F_X12_knownOf v1 v2 m) fun r5 m6 =>
 gd (okA m6 100 v0 r5) (lt9 (wI m6 v0 (ix r5) (0 : Int32)) fun m7 =>
 lt9 (v2 + (1 : Int32)) fun x8 =>
 L_X12_forgets_23 n v0 v1 x8 m7))
def F_X12_forgets (a0 : Nat) (a1 : Int32) (m : Mm) : Option (Unit × Mm) :=
 gd (okA m 100 a0 ((12 : Int32) + a1)) (lt9 (wI m a0 (ix ((12 : Int32) + a1)) (0 : Int32)) fun m1 =>
 gd (okA m1 100 a0 ((18 : Int32) + a1)) (lt9 (wI m1 a0 (ix ((18 : Int32) + a1)) (0 : Int32)) fun m2 =>
 gd (okA m2 100 a0 ((24 : Int32) + a1)) (lt9 (wI m2 a0 (ix ((24 : Int32) + a1)) (0 : Int32)) fun m3 =>
 lt9 (0 : Int32) fun x4 =>
 L_X12_forgets_23 NF a0 a1 x4 m3)))
def F_X12_crashes (a0 : Nat) (a1 : Int32) (m : Mm) : Option (Int32 × Mm) :=
 gd (okA m 100 a0 (184 : Int32)) (
 bd (F_X12_has (rI m a0 (ix (184 : Int32))) a1 m) fun r1 m2 =>
 if r1 = 0 then (
 some ((0 : Int32), m2))
 else (
 lt9 (((1 : Int32) <<< (a1 &&& 31)) ^^^ (-1 : Int32)) fun x3 =>
 gd (okA m2 100 a0 (184 : Int32)) (
 gd (okA m2 100 a0 (184 : Int32)) (lt9 (wI m2 a0 (ix (184 : Int32)) ((rI m2 a0 (ix (184 : Int32))) &&& x3)) fun m4 =>
 gd (okA m4 100 a0 (183 : Int32)) (
 gd (okA m4 100 a0 (183 : Int32)) (lt9 (wI m4 a0 (ix (183 : Int32)) ((rI m4 a0 (ix (183 : Int32))) &&& x3)) fun m5 =>
 gd (okA m5 100 a0 (185 : Int32)) (
 gd (okA m5 100 a0 (185 : Int32)) (lt9 (wI m5 a0 (ix (185 : Int32)) ((rI m5 a0 (ix (185 : Int32))) &&& x3)) fun m6 =>
 gd (okA m6 100 a0 (186 : Int32)) (
 gd (okA m6 100 a0 (186 : Int32)) (lt9 (wI m6 a0 (ix (186 : Int32)) ((rI m6 a0 (ix (186 : Int32))) &&& x3)) fun m7 =>
 gd (okA m7 100 a0 ((30 : Int32) + a1)) (lt9 (wI m7 a0 (ix ((30 : Int32) + a1)) (0 : Int32)) fun m8 =>
 bd (F_X12_forgets a0 a1 m8) fun r9 m10 =>
 some ((1 : Int32), m10))))))))))))
def F_X12_joins (a0 : Nat) (a1 : Int32) (m : Mm) : Option (Int32 × Mm) :=
 bd (F_X12_isInside a0 a1 m) fun r1 m2 =>
 if r1 = 0 then (
 gd (okA m2 100 a0 (186 : Int32)) (
 bd (F_X12_has (rI m2 a0 (ix (186 : Int32))) a1 m2) fun r3 m4 =>
 if r3 = 0 then (
 gd (okA m4 100 a0 (184 : Int32)) (
 gd (okA m4 100 a0 (184 : Int32)) (lt9 (wI m4 a0 (ix (184 : Int32)) ((rI m4 a0 (ix (184 : Int32))) ||| ((1 : Int32) <<< (a1 &&& 31)))) fun m5 =>
 gd (okA m5 100 a0 (186 : Int32)) (
 gd (okA m5 100 a0 (186 : Int32)) (lt9 (wI m5 a0 (ix (186 : Int32)) ((rI m5 a0 (ix (186 : Int32))) ||| ((1 : Int32) <<< (a1 &&& 31)))) fun m6 =>
 some ((1 : Int32), m6))))))
 else (
 some ((0 : Int32), m4))))
 else (
 some ((0 : Int32), m2))
def F_X12_weightBy (a0 : Nat) (a1 : Int32) (a2 : Int32) (a3 : Int32) (a4 : Int32) (m : Mm) : Option (Int32 × Mm) :=
 gd (okO m a0 12) (oc (rR m a0 20) none fun q1 =>
 gd (okA m 100 q1 (0 : Int32)) (lt9 (wI m q1 (ix (0 : Int32)) a1) fun m2 =>
 gd (okO m2 a0 12) (oc (rR m2 a0 20) none fun q3 =>
 gd (okA m2 100 q3 (1 : Int32)) (lt9 (wI m2 q3 (ix (1 : Int32)) a2) fun m4 =>
 gd (okO m4 a0 12) (oc (rR m4 a0 20) none fun q5 =>
 gd (okA m4 100 q5 (2 : Int32)) (lt9 (wI m4 q5 (ix (2 : Int32)) a3) fun m6 =>
 gd (okO m6 a0 12) (oc (rR m6 a0 20) none fun q7 =>
 gd (okA m6 100 q7 (3 : Int32)) (lt9 (wI m6 q7 (ix (3 : Int32)) a4) fun m8 =>
 gd (okO m8 a0 12) (bd (F_X12_byLaw a0 m8) fun r9 m10 =>
 some (r9, m10))))))))))
def F_X12_weight (a0 : Nat) (a1 : Nat) (a2 : Int32) (m : Mm) : Option (Int32 × Mm) :=
 gd (okA m 100 a1 ((0 : Int32) + a2)) (
 gd (okA m 100 a1 (181 : Int32)) (
 gd (okA m 100 a1 (182 : Int32)) (
 bd (F_X12_ones (rI m a1 (ix (182 : Int32))) m) fun r1 m2 =>
 gd (okO m2 a0 12) (bd (F_X12_weightBy a0 a2 (rI m a1 (ix ((0 : Int32) + a2))) (rI m a1 (ix (181 : Int32))) r1 m2) fun r3 m4 =>
 some (r3, m4)))))
def L_X12_weigh_5  : Nat → Nat → Nat → Int32 → Int32 → Int32 → Mm → Option (Int32 × Mm)
 | 0, _, _, _, _, _, _ => none
 | n + 1, v0, v1, v2, v3, v4, m =>
 gd (okO m v0 12) (oc (rR m v0 12) none fun q3 =>
 gd (okA m 100 q3 (0 : Int32)) (
 if (rI m q3 (ix (0 : Int32))) ≤ v4 then (
 some (v3, m))
 else (
 bd (F_X12_has v2 v4 m) fun r4 m5 =>
 jn (fun (v0 : Nat) (v1 : Nat) (v2 : Int32) (v4 : Int32) (s0 : Int32) (s1 : Int32) (m : Mm) =>
 lt9 (s1 + s0) fun x6 =>
 lt9 (v4 + (1 : Int32)) fun x7 =>
 L_X12_weigh_5 n v0 v1 v2 x6 x7 m) fun J37 =>
 if r4 = 0 then (
 J37 v0 v1 v2 v4 (0 : Int32) v3 m5)
 else (
 gd (okO m5 v0 12) (bd (F_X12_weight v0 v1 v4 m5) fun r8 m9 =>
 J37 v0 v1 v2 v4 r8 v3 m9)))))
def F_X12_weigh (a0 : Nat) (a1 : Nat) (a2 : Int32) (m : Mm) : Option (Int32 × Mm) :=
 lt9 (0 : Int32) fun x1 =>
 lt9 (0 : Int32) fun x2 =>
 L_X12_weigh_5 NF a0 a1 a2 x1 x2 m
def L_X12_primaryBy_27 (K69 : Nat → Int32 → Int32 → Mm → Option (Int32 × Mm)) : Nat → Nat → Nat → Int32 → Int32 → Int32 → Int32 → Int32 → Mm → Option (Int32 × Mm)
 | 0, _, _, _, _, _, _, _, _ => none
 | n + 1, v0, v1, v2, v3, v4, v5, v6, m =>
 if (2 : Int32) ≤ v6 then (
 some ((-1 : Int32), m))
 else (
 jn (fun (v0 : Nat) (v1 : Nat) (v2 : Int32) (v3 : Int32) (v4 : Int32) (v5 : Int32) (v6 : Int32) (s0 : Int32) (m : Mm) =>
 lt9 s0 fun x7 =>
 gd (okO m v0 12) (bd (F_X12_weigh v0 v1 (x7 &&& v3) m) fun r8 m9 =>
 if ((2 : Int32) * r8) ≤ v5 then (
 lt9 (v6 + (1 : Int32)) fun x10 =>
 L_X12_primaryBy_27 K69 n v0 v1 v2 v3 v4 v5 x10 m9)
 else (
 K69 v1 v3 x7 m9))) fun J51 =>
 if v6 = 0 then (
 J51 v0 v1 v2 v3 v4 v5 v6 (v2 &&& v4) m)
 else (
 J51 v0 v1 v2 v3 v4 v5 v6 (v4 &&& (v2 ^^^ (-1 : Int32))) m))
def F_X12_primaryBy (a0 : Nat) (a1 : Nat) (a2 : Int32) (a3 : Int32) (m : Mm) : Option (Int32 × Mm) :=
 gd (okO m a0 12) (oc (rR m a0 12) none fun q1 =>
 gd (okA m 100 q1 (0 : Int32)) (
 lt9 (((1 : Int32) <<< ((rI m q1 (ix (0 : Int32))) &&& 31)) - (1 : Int32)) fun x2 =>
 gd (okA m 100 a1 (182 : Int32)) (
 gd (okO m a0 12) (bd (F_X12_weigh a0 a1 (rI m a1 (ix (182 : Int32))) m) fun r3 m4 =>
 lt9 r3 fun x5 =>
 lt9 (0 : Int32) fun x6 =>
 L_X12_primaryBy_27 (fun v1 v3 v7 m =>
 gd (okA m 100 v1 (184 : Int32)) (
 gd (okA m 100 v1 (186 : Int32)) (
 some ((v7 &&& (v3 ||| ((rI m v1 (ix (184 : Int32))) &&& (rI m v1 (ix (186 : Int32)))))), m)))) NF a0 a1 a2 a3 x2 x5 x6 m4))))
def F_X12_primaryOf (a0 : Nat) (a1 : Nat) (m : Mm) : Option (Int32 × Mm) :=
 gd (okA m 100 a1 (180 : Int32)) (
 gd (okA m 100 a1 (184 : Int32)) (
 gd (okA m 100 a1 (183 : Int32)) (
 gd (okO m a0 12) (bd (F_X12_primaryBy a0 a1 (rI m a1 (ix (180 : Int32))) ((rI m a1 (ix (184 : Int32))) &&& (rI m a1 (ix (183 : Int32)))) m) fun r1 m2 =>
 some (r1, m2)))))
def F_X12_survivors (a0 : Nat) (a1 : Nat) (m : Mm) : Option (Int32 × Mm) :=
 gd (okO m a0 12) (bd (F_X12_primaryOf a0 a1 m) fun r1 m2 =>
 lt9 r1 fun x3 =>
 if x3 = (-1 : Int32) then (
 some ((0 : Int32), m2))
 else (
 gd (okA m2 100 a1 (183 : Int32)) (
 some ((x3 &&& (rI m2 a1 (ix (183 : Int32)))), m2))))
def L_X12_keptBy_5  : Nat → Nat → Nat → Int32 → Int32 → Int32 → Mm → Option (Int32 × Mm)
 | 0, _, _, _, _, _, _ => none
 | n + 1, v0, v1, v2, v3, v4, m =>
 gd (okO m v0 12) (oc (rR m v0 12) none fun q3 =>
 gd (okA m 100 q3 (0 : Int32)) (
 if (rI m q3 (ix (0 : Int32))) ≤ v4 then (
 some (v3, m))
 else (
 bd (F_X12_has v2 v4 m) fun r4 m5 =>
 jn (fun (v0 : Nat) (v1 : Nat) (v2 : Int32) (v4 : Int32) (s0 : Int32) (s1 : Int32) (m : Mm) =>
 lt9 (s1 ||| s0) fun x6 =>
 lt9 (v4 + (1 : Int32)) fun x7 =>
 L_X12_keptBy_5 n v0 v1 v2 x6 x7 m) fun J37 =>
 if r4 = 0 then (
 J37 v0 v1 v2 v4 (0 : Int32) v3 m5)
 else (
 gd (okA m5 100 v1 ((18 : Int32) + v4)) (
 J37 v0 v1 v2 v4 (rI m5 v1 (ix ((18 : Int32) + v4))) v3 m5)))))
def F_X12_keptBy (a0 : Nat) (a1 : Nat) (a2 : Int32) (m : Mm) : Option (Int32 × Mm) :=
 lt9 (0 : Int32) fun x1 =>
 lt9 (0 : Int32) fun x2 =>
 L_X12_keptBy_5 NF a0 a1 a2 x1 x2 m
def F_X12_missingOf (a0 : Nat) (a1 : Nat) (a2 : Int32) (m : Mm) : Option (Int32 × Mm) :=
 gd (okO m a0 12) (bd (F_X12_survivors a0 a1 m) fun r1 m2 =>
 lt9 r1 fun x3 =>
 bd (F_X12_has x3 a2 m2) fun r4 m5 =>
 if r4 = 0 then (
 some ((0 : Int32), m5))
 else (
 gd (okO m5 a0 12) (bd (F_X12_keptBy a0 a1 x3 m5) fun r6 m7 =>
 gd (okA m7 100 a1 ((12 : Int32) + a2)) (
 some ((r6 &&& ((rI m7 a1 (ix ((12 : Int32) + a2))) ^^^ (-1 : Int32))), m7)))))
def L_X12_flushes_24 (K81 : Nat → Nat → Int32 → Int32 → Int32 → Mm → Option (Unit × Mm)) : Nat → Nat → Nat → Int32 → Int32 → Int32 → Int32 → Mm → Option (Unit × Mm)
 | 0, _, _, _, _, _, _, _ => none
 | n + 1, v0, v1, v2, v3, v4, v5, m =>
 gd (okA m 100 v1 (187 : Int32)) (
 if (rI m v1 (ix (187 : Int32))) ≤ v5 then (
 K81 v0 v1 v2 v3 v4 m)
 else (
 bd (F_X12_has v2 v4 m) fun r7 m8 =>
 if r7 = 0 then (
 K81 v0 v1 v2 v3 v4 m8)
 else (
 bd (F_X12_has v3 v5 m8) fun r9 m10 =>
 jn (fun (v0 : Nat) (v1 : Nat) (v2 : Int32) (v3 : Int32) (v4 : Int32) (v5 : Int32) (m : Mm) =>
 lt9 (v5 + (1 : Int32)) fun x11 =>
 L_X12_flushes_24 K81 n v0 v1 v2 v3 v4 x11 m) fun J75 =>
 if r9 = 0 then (
 J75 v0 v1 v2 v3 v4 v5 m10)
 else (
 gd (okA m10 100 v1 ((12 : Int32) + v4)) (
 bd (F_X12_has (rI m10 v1 (ix ((12 : Int32) + v4))) v5 m10) fun r12 m13 =>
 if r12 = 0 then (
 bd (F_X12_delivers v1 v4 v5 m13) fun r14 m15 =>
 J75 v0 v1 v2 v3 v4 v5 m15)
 else (
 J75 v0 v1 v2 v3 v4 v5 m13))))))
def L_X12_flushes_10  : Nat → Nat → Nat → Int32 → Int32 → Int32 → Mm → Option (Unit × Mm)
 | 0, _, _, _, _, _, _ => none
 | n + 1, v0, v1, v2, v3, v4, m =>
 gd (okO m v0 12) (oc (rR m v0 12) none fun q5 =>
 gd (okA m 100 q5 (0 : Int32)) (
 if (rI m q5 (ix (0 : Int32))) ≤ v4 then (
 some ((), m))
 else (
 lt9 (0 : Int32) fun x6 =>
 L_X12_flushes_24 (fun v0 v1 v2 v3 v4 m =>
 lt9 (v4 + (1 : Int32)) fun x16 =>
 L_X12_flushes_10 n v0 v1 v2 v3 x16 m) NF v0 v1 v2 v3 v4 x6 m)))
def F_X12_flushes (a0 : Nat) (a1 : Nat) (a2 : Int32) (m : Mm) : Option (Unit × Mm) :=
 gd (okO m a0 12) (bd (F_X12_keptBy a0 a1 a2 m) fun r1 m2 =>
 lt9 r1 fun x3 =>
 lt9 (0 : Int32) fun x4 =>
 L_X12_flushes_10 NF a0 a1 a2 x3 x4 m2)
def F_X12_holds (a0 : Nat) (a1 : Nat) (m : Mm) : Option (Int32 × Mm) :=
 gd (okO m a0 12) (bd (F_X12_survivors a0 a1 m) fun r1 m2 =>
 lt9 r1 fun x3 =>
 gd (okO m2 a0 12) (bd (F_X12_primaryOf a0 a1 m2) fun r4 m5 =>
 if r4 = (-1 : Int32) then (
 some ((0 : Int32), m5))
 else (
 gd (okA m5 100 a1 (185 : Int32)) (
 if (x3 &&& ((rI m5 a1 (ix (185 : Int32))) ^^^ (-1 : Int32))) = 0 then (
 some ((0 : Int32), m5))
 else (
 gd (okA m5 100 a1 (185 : Int32)) (
 gd (okA m5 100 a1 (185 : Int32)) (lt9 (wI m5 a1 (ix (185 : Int32)) ((rI m5 a1 (ix (185 : Int32))) ||| x3)) fun m6 =>
 some ((1 : Int32), m6))))))))
def L_X12_least_2  : Nat → Int32 → Int32 → Mm → Option (Int32 × Mm)
 | 0, _, _, _ => none
 | n + 1, v0, v1, m =>
 bd (F_X12_has v0 v1 m) fun r2 m3 =>
 if r2 = 0 then (
 lt9 (v1 + (1 : Int32)) fun x4 =>
 L_X12_least_2 n v0 x4 m3)
 else (
 some (v1, m3))
def F_X12_least (a0 : Int32) (m : Mm) : Option (Int32 × Mm) :=
 lt9 (0 : Int32) fun x1 =>
 L_X12_least_2 NF a0 x1 m
def F_X12_comesIn (a0 : Nat) (a1 : Nat) (a2 : Int32) (a3 : Int32) (m : Mm) : Option (Unit × Mm) :=
 gd (okA m 100 a1 ((0 : Int32) + a2)) (
 gd (okA m 100 a1 ((0 : Int32) + a2)) (lt9 (wI m a1 (ix ((0 : Int32) + a2)) ((rI m a1 (ix ((0 : Int32) + a2))) + (1 : Int32))) fun m1 =>
 bd (F_X12_wide a1 ((188 : Int32) + ((2 : Int32) * a3)) m1) fun r2 m3 =>
 bd (F_X12_widens a1 ((188 : Int32) + ((2 : Int32) * a2)) r2 m3) fun r4 m5 =>
 gd (okA m5 100 a1 ((6 : Int32) + a2)) (lt9 (wI m5 a1 (ix ((6 : Int32) + a2)) (0 : Int32)) fun m6 =>
 bd (F_X12_logs a1 a2 m6) fun r7 m8 =>
 some ((), m8))))
def F_X12_leavesOut (a0 : Nat) (a1 : Nat) (a2 : Int32) (m : Mm) : Option (Unit × Mm) :=
 gd (okA m 100 a1 (185 : Int32)) (
 gd (okA m 100 a1 (185 : Int32)) (lt9 (wI m a1 (ix (185 : Int32)) ((rI m a1 (ix (185 : Int32))) &&& (((1 : Int32) <<< (a2 &&& 31)) ^^^ (-1 : Int32)))) fun m1 =>
 gd (okA m1 100 a1 ((30 : Int32) + a2)) (lt9 (wI m1 a1 (ix ((30 : Int32) + a2)) (0 : Int32)) fun m2 =>
 some ((), m2))))
def L_X12_sendsHeld_29 (K60 : Nat → Nat → Int32 → Mm → Option (Unit × Mm)) : Nat → Nat → Nat → Int32 → Int32 → Int32 → Mm → Option (Unit × Mm)
 | 0, _, _, _, _, _, _ => none
 | n + 1, v0, v1, v2, v3, v4, m =>
 if v3 ≤ v4 then (
 K60 v0 v1 v2 m)
 else (
 gd (okA m 100 v1 (((72 : Int32) + ((8 : Int32) * v2)) + v4)) (
 gd (okO m v0 12) (bd (F_X12_sends v0 v1 v2 (rI m v1 (ix (((72 : Int32) + ((8 : Int32) * v2)) + v4))) m) fun r6 m7 =>
 lt9 (v4 + (1 : Int32)) fun x8 =>
 L_X12_sendsHeld_29 K60 n v0 v1 v2 v3 x8 m7)))
def L_X12_sendsHeld_2  : Nat → Nat → Nat → Int32 → Mm → Option (Unit × Mm)
 | 0, _, _, _, _ => none
 | n + 1, v0, v1, v2, m =>
 gd (okO m v0 12) (oc (rR m v0 12) none fun q2 =>
 gd (okA m 100 q2 (0 : Int32)) (
 if (rI m q2 (ix (0 : Int32))) ≤ v2 then (
 some ((), m))
 else (
 gd (okA m 100 v1 ((30 : Int32) + v2)) (
 lt9 (rI m v1 (ix ((30 : Int32) + v2))) fun x3 =>
 gd (okA m 100 v1 ((30 : Int32) + v2)) (lt9 (wI m v1 (ix ((30 : Int32) + v2)) (0 : Int32)) fun m4 =>
 lt9 (0 : Int32) fun x5 =>
 L_X12_sendsHeld_29 (fun v0 v1 v2 m =>
 lt9 (v2 + (1 : Int32)) fun x9 =>
 L_X12_sendsHeld_2 n v0 v1 x9 m) NF v0 v1 v2 x3 x5 m4)))))
def F_X12_sendsHeld (a0 : Nat) (a1 : Nat) (m : Mm) : Option (Unit × Mm) :=
 lt9 (0 : Int32) fun x1 =>
 L_X12_sendsHeld_2 NF a0 a1 x1 m
def L_X12_views_65 (K154 : Nat → Nat → Int32 → Int32 → Mm → Option (Int32 × Mm)) : Nat → Nat → Nat → Int32 → Int32 → Int32 → Mm → Option (Int32 × Mm)
 | 0, _, _, _, _, _, _ => none
 | n + 1, v0, v1, v3, v4, v5, m =>
 gd (okO m v0 12) (oc (rR m v0 12) none fun q11 =>
 gd (okA m 100 q11 (0 : Int32)) (
 if (rI m q11 (ix (0 : Int32))) ≤ v5 then (
 K154 v0 v1 v3 v4 m)
 else (
 bd (F_X12_has v4 v5 m) fun r12 m13 =>
 jn (fun (v0 : Nat) (v1 : Nat) (v3 : Int32) (v4 : Int32) (v5 : Int32) (m : Mm) =>
 bd (F_X12_forgets v1 v5 m) fun r14 m15 =>
 lt9 (v5 + (1 : Int32)) fun x16 =>
 L_X12_views_65 K154 n v0 v1 v3 v4 x16 m15) fun J142 =>
 if r12 = 0 then (
 bd (F_X12_has v3 v5 m13) fun r17 m18 =>
 if r17 = 0 then (
 gd (okA m18 100 v1 (183 : Int32)) (
 bd (F_X12_has (rI m18 v1 (ix (183 : Int32))) v5 m18) fun r19 m20 =>
 if r19 = 0 then (
 J142 v0 v1 v3 v4 v5 m20)
 else (
 gd (okO m20 v0 12) (bd (F_X12_leavesOut v0 v1 v5 m20) fun r21 m22 =>
 J142 v0 v1 v3 v4 v5 m22))))
 else (
 gd (okA m18 100 v1 ((0 : Int32) + v5)) (
 gd (okA m18 100 v1 ((0 : Int32) + v5)) (lt9 (wI m18 v1 (ix ((0 : Int32) + v5)) ((rI m18 v1 (ix ((0 : Int32) + v5))) + (1 : Int32))) fun m23 =>
 J142 v0 v1 v3 v4 v5 m23))))
 else (
 bd (F_X12_least v3 m13) fun r24 m25 =>
 gd (okO m25 v0 12) (bd (F_X12_comesIn v0 v1 v5 r24 m25) fun r26 m27 =>
 J142 v0 v1 v3 v4 v5 m27)))))
def F_X12_views (a0 : Nat) (a1 : Nat) (m : Mm) : Option (Int32 × Mm) :=
 gd (okO m a0 12) (bd (F_X12_primaryOf a0 a1 m) fun r1 m2 =>
 lt9 r1 fun x3 =>
 gd (okO m2 a0 12) (bd (F_X12_survivors a0 a1 m2) fun r4 m5 =>
 lt9 r4 fun x6 =>
 if x3 = (-1 : Int32) then (
 some ((0 : Int32), m5))
 else (
 gd (okA m5 100 a1 (185 : Int32)) (
 if (x6 &&& ((rI m5 a1 (ix (185 : Int32))) ^^^ (-1 : Int32))) = 0 then (
 gd (okA m5 100 a1 (186 : Int32)) (
 lt9 (x3 &&& (rI m5 a1 (ix (186 : Int32)))) fun x7 =>
 gd (okA m5 100 a1 (182 : Int32)) (
 jn (fun (v0 : Nat) (v1 : Nat) (v3 : Int32) (v4 : Int32) (m : Mm) =>
 gd (okO m v0 12) (bd (F_X12_flushes v0 v1 v3 m) fun r8 m9 =>
 lt9 (0 : Int32) fun x10 =>
 L_X12_views_65 (fun v0 v1 v3 v4 m =>
 gd (okA m 100 v1 (181 : Int32)) (
 gd (okA m 100 v1 (181 : Int32)) (lt9 (wI m v1 (ix (181 : Int32)) ((rI m v1 (ix (181 : Int32))) + (1 : Int32))) fun m28 =>
 gd (okA m28 100 v1 (182 : Int32)) (lt9 (wI m28 v1 (ix (182 : Int32)) (v3 ||| v4)) fun m29 =>
 gd (okA m29 100 v1 (183 : Int32)) (lt9 (wI m29 v1 (ix (183 : Int32)) (v3 ||| v4)) fun m30 =>
 gd (okA m30 100 v1 (186 : Int32)) (
 gd (okA m30 100 v1 (186 : Int32)) (lt9 (wI m30 v1 (ix (186 : Int32)) ((rI m30 v1 (ix (186 : Int32))) &&& (v4 ^^^ (-1 : Int32)))) fun m31 =>
 gd (okA m31 100 v1 (185 : Int32)) (
 gd (okA m31 100 v1 (185 : Int32)) (lt9 (wI m31 v1 (ix (185 : Int32)) ((rI m31 v1 (ix (185 : Int32))) &&& (v3 ^^^ (-1 : Int32)))) fun m32 =>
 gd (okA m32 100 v1 (187 : Int32)) (lt9 (wI m32 v1 (ix (187 : Int32)) (0 : Int32)) fun m33 =>
 gd (okO m33 v0 12) (bd (F_X12_sendsHeld v0 v1 m33) fun r34 m35 =>
 some ((1 : Int32), m35)))))))))))) NF v0 v1 v3 v4 x10 m9)) fun J56 =>
 if x6 = (rI m5 a1 (ix (182 : Int32))) then (
 if x7 = 0 then (
 some ((0 : Int32), m5))
 else (
 J56 a0 a1 x6 x7 m5))
 else (
 J56 a0 a1 x6 x7 m5))))
 else (
 some ((0 : Int32), m5))))))
def F_X12_does (a0 : Nat) (a1 : Nat) (a2 : Nat) (m : Mm) : Option (Int32 × Mm) :=
 gd (okA m 100 a2 (1 : Int32)) (
 lt9 (rI m a2 (ix (1 : Int32))) fun x1 =>
 gd (okA m 100 a2 (0 : Int32)) (
 if (rI m a2 (ix (0 : Int32))) = (0 : Int32) then (
 gd (okA m 100 a2 (2 : Int32)) (
 gd (okO m a0 12) (bd (F_X12_sends a0 a1 x1 (rI m a2 (ix (2 : Int32))) m) fun r2 m3 =>
 gd (decide (r2 = 0 ∨ r2 = 1)) (some (r2, m3)))))
 else (
 if (rI m a2 (ix (0 : Int32))) = (1 : Int32) then (
 gd (okO m a0 12) (bd (F_X12_takesOne a0 a1 x1 (0 : Int32) m) fun r4 m5 =>
 gd (decide (r4 = 0 ∨ r4 = 1)) (some (r4, m5))))
 else (
 if (rI m a2 (ix (0 : Int32))) = (2 : Int32) then (
 gd (okO m a0 12) (bd (F_X12_takesOne a0 a1 x1 (1 : Int32) m) fun r6 m7 =>
 gd (decide (r6 = 0 ∨ r6 = 1)) (some (r6, m7))))
 else (
 if (rI m a2 (ix (0 : Int32))) = (3 : Int32) then (
 gd (okO m a0 12) (bd (F_X12_tellsOthers a0 a1 x1 m) fun r8 m9 =>
 gd (decide (r8 = 0 ∨ r8 = 1)) (some (r8, m9))))
 else (
 if (rI m a2 (ix (0 : Int32))) = (4 : Int32) then (
 gd (okO m a0 12) (bd (F_X12_trims a0 a1 x1 m) fun r10 m11 =>
 gd (decide (r10 = 0 ∨ r10 = 1)) (some (r10, m11))))
 else (
 if (rI m a2 (ix (0 : Int32))) = (5 : Int32) then (
 bd (F_X12_crashes a1 x1 m) fun r12 m13 =>
 gd (decide (r12 = 0 ∨ r12 = 1)) (some (r12, m13)))
 else (
 if (rI m a2 (ix (0 : Int32))) = (6 : Int32) then (
 bd (F_X12_joins a1 x1 m) fun r14 m15 =>
 gd (decide (r14 = 0 ∨ r14 = 1)) (some (r14, m15)))
 else (
 if (rI m a2 (ix (0 : Int32))) = (7 : Int32) then (
 gd (okA m 100 a1 (180 : Int32)) (
 if (rI m a1 (ix (180 : Int32))) = x1 then (
 some ((0 : Int32), m))
 else (
 gd (okA m 100 a1 (180 : Int32)) (lt9 (wI m a1 (ix (180 : Int32)) x1) fun m16 =>
 some ((1 : Int32), m16)))))
 else (
 if (rI m a2 (ix (0 : Int32))) = (8 : Int32) then (
 gd (okO m a0 12) (bd (F_X12_holds a0 a1 m) fun r17 m18 =>
 gd (decide (r17 = 0 ∨ r17 = 1)) (some (r17, m18))))
 else (
 gd (okO m a0 12) (bd (F_X12_views a0 a1 m) fun r19 m20 =>
 gd (decide (r19 = 0 ∨ r19 = 1)) (some (r19, m20))))))))))))))
def F_X12_undo (a0 : Nat) (m : Mm) : Option (Int32 × Mm) :=
 gd (okO m a0 12) (lt9 (wI m a0 0 (0 : Int32)) fun m1 =>
 gd (okO m1 a0 12) (
 if (rI m1 a0 28) = 0 then (
 some ((-1 : Int32), m1))
 else (
 gd (okO m1 a0 12) (
 gd (okO m1 a0 12) (lt9 (wI m1 a0 28 ((rI m1 a0 28) - (1 : Int32))) fun m2 =>
 gd (okO m2 a0 12) (oc (rR m2 a0 25) none fun q3 =>
 gd (okO m2 a0 12) (
 gd (okA m2 106 q3 (rI m2 a0 28)) (oc (rR m2 q3 (ix (rI m2 a0 28))) none fun q4 =>
 gd (okO m2 a0 12) (oc (rR m2 a0 23) none fun q5 =>
 bd (F_X12_copies q4 q5 m2) fun r6 m7 =>
 gd (okO m7 a0 12) (lt9 (wI m7 a0 29 (0 : Int32)) fun m8 =>
 gd (okO m8 a0 12) (
 some ((rI m8 a0 28), m8))))))))))))
def L_X12_told_35 (K66 : Nat → Int32 → Int32 → Mm → Option (Int32 × Mm)) : Nat → Nat → Int32 → Int32 → Int32 → Mm → Option (Int32 × Mm)
 | 0, _, _, _, _, _ => none
 | n + 1, v0, v1, v2, v3, m =>
 gd (okO m v0 12) (oc (rR m v0 12) none fun q8 =>
 gd (okA m 100 q8 (0 : Int32)) (
 if (rI m q8 (ix (0 : Int32))) ≤ v3 then (
 K66 v0 v1 v2 m)
 else (
 gd (okO m v0 12) (oc (rR m v0 23) none fun q9 =>
 gd (okA m 100 q9 ((24 : Int32) + v3)) (
 bd (F_X12_ones (rI m q9 (ix ((24 : Int32) + v3))) m) fun r10 m11 =>
 lt9 (v2 + r10) fun x12 =>
 lt9 (v3 + (1 : Int32)) fun x13 =>
 L_X12_told_35 K66 n v0 v1 x12 x13 m11)))))
def F_X12_told (a0 : Nat) (a1 : Int32) (m : Mm) : Option (Int32 × Mm) :=
 gd (okO m a0 12) (lt9 (wI m a0 0 (0 : Int32)) fun m1 =>
 bd (F_X12_in a1 (0 : Int32) (11 : Int32) m1) fun r2 m3 =>
 jn (fun (v0 : Nat) (v1 : Int32) (s0 : Int32) (s1 : Nat) (m : Mm) =>
 gd (okO m s1 12) (bd (F_X12_bad s1 s0 (1 : Int32) (1 : Int32) m) fun r4 m5 =>
 if r4 = 0 then (
 lt9 (0 : Int32) fun x6 =>
 lt9 (0 : Int32) fun x7 =>
 L_X12_told_35 (fun v0 v1 v2 m =>
 if v1 = (0 : Int32) then (
 gd (okO m v0 12) (oc (rR m v0 12) none fun q14 =>
 gd (okA m 100 q14 (0 : Int32)) (
 some ((rI m q14 (ix (0 : Int32))), m))))
 else (
 if v1 = (1 : Int32) then (
 gd (okO m v0 12) (oc (rR m v0 23) none fun q15 =>
 gd (okA m 100 q15 (181 : Int32)) (
 some ((rI m q15 (ix (181 : Int32))), m))))
 else (
 if v1 = (2 : Int32) then (
 gd (okO m v0 12) (oc (rR m v0 23) none fun q16 =>
 gd (okA m 100 q16 (182 : Int32)) (
 some ((rI m q16 (ix (182 : Int32))), m))))
 else (
 if v1 = (3 : Int32) then (
 gd (okO m v0 12) (oc (rR m v0 23) none fun q17 =>
 gd (okA m 100 q17 (184 : Int32)) (
 some ((rI m q17 (ix (184 : Int32))), m))))
 else (
 if v1 = (4 : Int32) then (
 gd (okO m v0 12) (oc (rR m v0 23) none fun q18 =>
 gd (okA m 100 q18 (185 : Int32)) (
 some ((rI m q18 (ix (185 : Int32))), m))))
 else (
 if v1 = (5 : Int32) then (
 gd (okO m v0 12) (oc (rR m v0 23) none fun q19 =>
 gd (okA m 100 q19 (186 : Int32)) (
 some ((rI m q19 (ix (186 : Int32))), m))))
 else (
 if v1 = (6 : Int32) then (
 gd (okO m v0 12) (oc (rR m v0 23) none fun q20 =>
 gd (okA m 100 q20 (180 : Int32)) (
 some ((rI m q20 (ix (180 : Int32))), m))))
 else (
 if v1 = (7 : Int32) then (
 gd (okO m v0 12) (oc (rR m v0 23) none fun q21 =>
 gd (okA m 100 q21 (187 : Int32)) (
 some ((rI m q21 (ix (187 : Int32))), m))))
 else (
 if v1 = (8 : Int32) then (
 some (v2, m))
 else (
 if v1 = (9 : Int32) then (
 gd (okO m v0 12) (
 some ((rI m v0 27), m)))
 else (
 if v1 = (10 : Int32) then (
 gd (okO m v0 12) (
 some ((rI m v0 29), m)))
 else (
 gd (okO m v0 12) (oc (rR m v0 12) none fun q22 =>
 gd (okA m 100 q22 (2 : Int32)) (
 some ((rI m q22 (ix (2 : Int32))), m))))))))))))))) NF v0 v1 x6 x7 m5)
 else (
 some ((0 : Int32), m5)))) fun J21 =>
 if r2 = 0 then (
 J21 a0 a1 (1 : Int32) a0 m3)
 else (
 J21 a0 a1 (0 : Int32) a0 m3))
def F_X12_isMember (a0 : Nat) (a1 : Int32) (m : Mm) : Option (Int32 × Mm) :=
 gd (okO m a0 12) (oc (rR m a0 12) none fun q1 =>
 gd (okA m 100 q1 (0 : Int32)) (
 bd (F_X12_in a1 (0 : Int32) ((rI m q1 (ix (0 : Int32))) - (1 : Int32)) m) fun r2 m3 =>
 gd (decide (r2 = 0 ∨ r2 = 1)) (some (r2, m3))))
def F_X12_member (a0 : Nat) (a1 : Int32) (a2 : Int32) (m : Mm) : Option (Int32 × Mm) :=
 gd (okO m a0 12) (lt9 (wI m a0 0 (0 : Int32)) fun m1 =>
 gd (okO m1 a0 12) (bd (F_X12_isMember a0 a1 m1) fun r2 m3 =>
 jn (fun (v0 : Nat) (v1 : Int32) (v2 : Int32) (s0 : Int32) (s1 : Nat) (m : Mm) =>
 gd (okO m s1 12) (bd (F_X12_bad s1 s0 (1 : Int32) (0 : Int32) m) fun r4 m5 =>
 if r4 = 0 then (
 bd (F_X12_in v2 (0 : Int32) (6 : Int32) m5) fun r6 m7 =>
 jn (fun (v0 : Nat) (v1 : Int32) (v2 : Int32) (s0 : Int32) (s1 : Nat) (m : Mm) =>
 gd (okO m s1 12) (bd (F_X12_bad s1 s0 (2 : Int32) (1 : Int32) m) fun r8 m9 =>
 if r8 = 0 then (
 if v2 = (0 : Int32) then (
 gd (okO m9 v0 12) (oc (rR m9 v0 23) none fun q10 =>
 gd (okA m9 100 q10 (183 : Int32)) (
 bd (F_X12_has (rI m9 q10 (ix (183 : Int32))) v1 m9) fun r11 m12 =>
 if r11 = 0 then (
 some ((0 : Int32), m12))
 else (
 some ((1 : Int32), m12)))))
 else (
 if v2 = (1 : Int32) then (
 gd (okO m9 v0 12) (oc (rR m9 v0 23) none fun q13 =>
 gd (okA m9 100 q13 ((0 : Int32) + v1)) (
 some ((rI m9 q13 (ix ((0 : Int32) + v1))), m9))))
 else (
 if v2 = (2 : Int32) then (
 gd (okO m9 v0 12) (oc (rR m9 v0 23) none fun q14 =>
 gd (okA m9 100 q14 ((12 : Int32) + v1)) (
 bd (F_X12_ones (rI m9 q14 (ix ((12 : Int32) + v1))) m9) fun r15 m16 =>
 some (r15, m16))))
 else (
 if v2 = (3 : Int32) then (
 gd (okO m9 v0 12) (oc (rR m9 v0 23) none fun q17 =>
 gd (okA m9 100 q17 ((18 : Int32) + v1)) (
 bd (F_X12_ones (rI m9 q17 (ix ((18 : Int32) + v1))) m9) fun r18 m19 =>
 some (r18, m19))))
 else (
 if v2 = (4 : Int32) then (
 gd (okO m9 v0 12) (oc (rR m9 v0 23) none fun q20 =>
 gd (okA m9 100 q20 ((30 : Int32) + v1)) (
 some ((rI m9 q20 (ix ((30 : Int32) + v1))), m9))))
 else (
 if v2 = (5 : Int32) then (
 gd (okO m9 v0 12) (oc (rR m9 v0 23) none fun q21 =>
 gd (okO m9 v0 12) (bd (F_X12_weight v0 q21 v1 m9) fun r22 m23 =>
 some (r22, m23))))
 else (
 gd (okO m9 v0 12) (oc (rR m9 v0 23) none fun q24 =>
 gd (okA m9 100 q24 ((6 : Int32) + v1)) (
 bd (F_X12_more (0 : Int32) (rI m9 q24 (ix ((6 : Int32) + v1))) m9) fun r25 m26 =>
 some (r25, m26))))))))))
 else (
 some ((0 : Int32), m9)))) fun J43 =>
 if r6 = 0 then (
 J43 v0 v1 v2 (1 : Int32) v0 m7)
 else (
 J43 v0 v1 v2 (0 : Int32) v0 m7))
 else (
 some ((0 : Int32), m5)))) fun J19 =>
 if r2 = 0 then (
 J19 a0 a1 a2 (1 : Int32) a0 m3)
 else (
 J19 a0 a1 a2 (0 : Int32) a0 m3)))
def F_X12_tally (a0 : Nat) (a1 : Int32) (m : Mm) : Option (Int64 × Mm) :=
 gd (okO m a0 12) (lt9 (wI m a0 0 (0 : Int32)) fun m1 =>
 gd (okO m1 a0 12) (bd (F_X12_isMember a0 a1 m1) fun r2 m3 =>
 jn (fun (v0 : Nat) (v1 : Int32) (s0 : Int32) (s1 : Nat) (m : Mm) =>
 gd (okO m s1 12) (bd (F_X12_bad s1 s0 (1 : Int32) (0 : Int32) m) fun r4 m5 =>
 if r4 = 0 then (
 gd (okO m5 v0 12) (oc (rR m5 v0 23) none fun q6 =>
 bd (F_X12_wide q6 ((188 : Int32) + ((2 : Int32) * v1)) m5) fun r7 m8 =>
 some (r7, m8)))
 else (
 some ((0 : Int64), m5)))) fun J19 =>
 if r2 = 0 then (
 J19 a0 a1 (1 : Int32) a0 m3)
 else (
 J19 a0 a1 (0 : Int32) a0 m3)))
def F_X12_log (a0 : Nat) (a1 : Int32) (a2 : Int32) (m : Mm) : Option (Int64 × Mm) :=
 gd (okO m a0 12) (lt9 (wI m a0 0 (0 : Int32)) fun m1 =>
 gd (okO m1 a0 12) (bd (F_X12_isMember a0 a1 m1) fun r2 m3 =>
 jn (fun (v0 : Nat) (v1 : Int32) (v2 : Int32) (s0 : Int32) (s1 : Nat) (m : Mm) =>
 gd (okO m s1 12) (bd (F_X12_bad s1 s0 (1 : Int32) (0 : Int32) m) fun r4 m5 =>
 if r4 = 0 then (
 gd (okO m5 v0 12) (oc (rR m5 v0 23) none fun q6 =>
 gd (okA m5 100 q6 ((6 : Int32) + v1)) (
 jn (fun (v0 : Nat) (v1 : Int32) (v2 : Int32) (s0 : Int32) (s1 : Nat) (m : Mm) =>
 gd (okO m s1 12) (bd (F_X12_bad s1 s0 (2 : Int32) (2 : Int32) m) fun r7 m8 =>
 if r7 = 0 then (
 gd (okO m8 v0 12) (oc (rR m8 v0 23) none fun q9 =>
 gd (okA m8 100 q9 ((6 : Int32) + v1)) (
 bd (F_X12_in v2 (0 : Int32) ((rI m8 q9 (ix ((6 : Int32) + v1))) - (1 : Int32)) m8) fun r10 m11 =>
 jn (fun (v0 : Nat) (v1 : Int32) (v2 : Int32) (s0 : Int32) (s1 : Nat) (m : Mm) =>
 gd (okO m s1 12) (bd (F_X12_bad s1 s0 (3 : Int32) (3 : Int32) m) fun r12 m13 =>
 if r12 = 0 then (
 gd (okO m13 v0 12) (oc (rR m13 v0 23) none fun q14 =>
 bd (F_X12_entryOf v1 v2 m13) fun r15 m16 =>
 bd (F_X12_wide q14 r15 m16) fun r17 m18 =>
 some (r17, m18)))
 else (
 some ((0 : Int64), m13)))) fun J79 =>
 if r10 = 0 then (
 J79 v0 v1 v2 (1 : Int32) v0 m11)
 else (
 J79 v0 v1 v2 (0 : Int32) v0 m11))))
 else (
 some ((0 : Int64), m8)))) fun J46 =>
 if (rI m5 q6 (ix ((6 : Int32) + v1))) = (-1 : Int32) then (
 J46 v0 v1 v2 (1 : Int32) v0 m5)
 else (
 J46 v0 v1 v2 (0 : Int32) v0 m5))))
 else (
 some ((0 : Int64), m5)))) fun J19 =>
 if r2 = 0 then (
 J19 a0 a1 a2 (1 : Int32) a0 m3)
 else (
 J19 a0 a1 a2 (0 : Int32) a0 m3)))
def L_X12_whoHas_5  : Nat → Nat → Int32 → Int32 → Int32 → Int32 → Mm → Option (Int32 × Mm)
 | 0, _, _, _, _, _, _ => none
 | n + 1, v0, v1, v2, v3, v4, m =>
 gd (okO m v0 12) (oc (rR m v0 12) none fun q3 =>
 gd (okA m 100 q3 (0 : Int32)) (
 if (rI m q3 (ix (0 : Int32))) ≤ v4 then (
 some (v3, m))
 else (
 gd (okO m v0 12) (oc (rR m v0 23) none fun q4 =>
 gd (okA m 100 q4 (v1 + v4)) (
 bd (F_X12_has (rI m q4 (ix (v1 + v4))) v2 m) fun r5 m6 =>
 jn (fun (v0 : Nat) (v1 : Int32) (v2 : Int32) (v4 : Int32) (s0 : Int32) (s1 : Int32) (m : Mm) =>
 lt9 (s1 ||| s0) fun x7 =>
 lt9 (v4 + (1 : Int32)) fun x8 =>
 L_X12_whoHas_5 n v0 v1 v2 x7 x8 m) fun J41 =>
 if r5 = 0 then (
 J41 v0 v1 v2 v4 (0 : Int32) v3 m6)
 else (
 J41 v0 v1 v2 v4 ((1 : Int32) <<< (v4 &&& 31)) v3 m6))))))
def F_X12_whoHas (a0 : Nat) (a1 : Int32) (a2 : Int32) (m : Mm) : Option (Int32 × Mm) :=
 lt9 (0 : Int32) fun x1 =>
 lt9 (0 : Int32) fun x2 =>
 L_X12_whoHas_5 NF a0 a1 a2 x1 x2 m
def F_X12_message (a0 : Nat) (a1 : Int32) (a2 : Int32) (m : Mm) : Option (Int32 × Mm) :=
 gd (okO m a0 12) (lt9 (wI m a0 0 (0 : Int32)) fun m1 =>
 bd (F_X12_in a2 (0 : Int32) (4 : Int32) m1) fun r2 m3 =>
 jn (fun (v0 : Nat) (v1 : Int32) (v2 : Int32) (s0 : Int32) (s1 : Nat) (m : Mm) =>
 gd (okO m s1 12) (bd (F_X12_bad s1 s0 (1 : Int32) (1 : Int32) m) fun r4 m5 =>
 if r4 = 0 then (
 bd (F_X12_in v1 (0 : Int32) (29 : Int32) m5) fun r6 m7 =>
 jn (fun (v0 : Nat) (v1 : Int32) (v2 : Int32) (s0 : Int32) (s1 : Nat) (m : Mm) =>
 gd (okO m s1 12) (bd (F_X12_bad s1 s0 (3 : Int32) (3 : Int32) m) fun r8 m9 =>
 if r8 = 0 then (
 gd (okO m9 v0 12) (oc (rR m9 v0 23) none fun q10 =>
 gd (okA m9 100 q10 (187 : Int32)) (
 jn (fun (v0 : Nat) (v1 : Int32) (v2 : Int32) (s0 : Int32) (s1 : Nat) (m : Mm) =>
 gd (okO m s1 12) (bd (F_X12_bad s1 s0 (2 : Int32) (2 : Int32) m) fun r11 m12 =>
 if r11 = 0 then (
 if v2 = 0 then (
 gd (okO m12 v0 12) (oc (rR m12 v0 23) none fun q16 =>
 gd (okA m12 100 q16 ((120 : Int32) + v1)) (
 some ((rI m12 q16 (ix ((120 : Int32) + v1))), m12))))
 else (
 if v2 = (1 : Int32) then (
 gd (okO m12 v0 12) (oc (rR m12 v0 23) none fun q15 =>
 gd (okA m12 100 q15 ((150 : Int32) + v1)) (
 some ((rI m12 q15 (ix ((150 : Int32) + v1))), m12))))
 else (
 jn (fun (v1 : Int32) (s0 : Int32) (s1 : Nat) (m : Mm) =>
 gd (okO m s1 12) (bd (F_X12_whoHas s1 s0 v1 m) fun r13 m14 =>
 some (r13, m14))) fun J137 =>
 if v2 = (2 : Int32) then (
 J137 v1 (12 : Int32) v0 m12)
 else (
 if v2 = (3 : Int32) then (
 J137 v1 (18 : Int32) v0 m12)
 else (
 J137 v1 (24 : Int32) v0 m12)))))
 else (
 some ((0 : Int32), m12)))) fun J70 =>
 if v1 < (rI m9 q10 (ix (187 : Int32))) then (
 J70 v0 v1 v2 (0 : Int32) v0 m9)
 else (
 J70 v0 v1 v2 (1 : Int32) v0 m9))))
 else (
 some ((0 : Int32), m9)))) fun J44 =>
 if r6 = 0 then (
 J44 v0 v1 v2 (1 : Int32) v0 m7)
 else (
 J44 v0 v1 v2 (0 : Int32) v0 m7))
 else (
 some ((0 : Int32), m5)))) fun J20 =>
 if r2 = 0 then (
 J20 a0 a1 a2 (1 : Int32) a0 m3)
 else (
 J20 a0 a1 a2 (0 : Int32) a0 m3))
set_option maxRecDepth 100000 in
set_option maxHeartbeats 4000000 in
theorem crt_X12_entryOf (l : Launch) (θ : Th) (a0 : Int32) (a1 : Int32) (m : Mm) : Crt l θ yX12_entryOf M_X12_entryOf cvI [.int a0, .int a1] m (F_X12_entryOf a0 a1 m) := by
  refine crt_of 0 (by decide) rfl rfl (Nat.le_of_ble_eq_true rfl) (fun Z hμ => ?_)
  unfold F_X12_entryOf
  show GG Z _ _ 0 [some (.int a0), some (.int a1)] [] m _
  refine g_sipush (v := (200 : Int32)) dX12_entryOf_0 ks_200 ?_
  refine g_iconst (v := (2 : Int32)) dX12_entryOf_3 ki_2 ?_
  refine g_bipush (v := (64 : Int32)) dX12_entryOf_4 kb_64 ?_
  refine g_iload_n (i := 0) dX12_entryOf_6 rfl rfl ?_
  refine g_imul dX12_entryOf_7 ?_
  refine g_iload_n (i := 1) dX12_entryOf_8 rfl rfl ?_
  refine g_iadd dX12_entryOf_9 ?_
  refine g_imul dX12_entryOf_10 ?_
  refine g_iadd dX12_entryOf_11 ?_
  exact g_ireturn rfl dX12_entryOf_12
set_option maxRecDepth 100000 in
set_option maxHeartbeats 4000000 in
theorem crt_X12_logs (l : Launch) (θ : Th) (a0 : Nat) (a1 : Int32) (m : Mm) : Crt l θ yX12_logs M_X12_logs cvV [.ref a0, .int a1] m (F_X12_logs a0 a1 m) := by
  refine crt_of 0 (by decide) rfl rfl (Nat.le_of_ble_eq_true rfl) (fun Z hμ => ?_)
  unfold F_X12_logs
  show GG Z _ _ 0 [some (.ref a0), some (.int a1)] [] m _
  refine g_aload_n (i := 0) dX12_logs_0 rfl rfl ?_
  refine g_bipush (v := (6 : Int32)) dX12_logs_1 kb_6 ?_
  refine g_iload_n (i := 1) dX12_logs_3 rfl rfl ?_
  refine g_iadd dX12_logs_4 ?_
  refine g_iaload dX12_logs_5 ?_
  refine g_bipush (v := (64 : Int32)) dX12_logs_6 kb_64 ?_
  refine g_icmplt (tgt := 12) dX12_logs_8 (by decide) ?_ ?_
  · refine g_aload_n (i := 0) dX12_logs_12 rfl rfl ?_
    refine g_iload_n (i := 1) dX12_logs_13 rfl rfl ?_
    refine g_aload_n (i := 0) dX12_logs_14 rfl rfl ?_
    refine g_bipush (v := (6 : Int32)) dX12_logs_15 kb_6 ?_
    refine g_iload_n (i := 1) dX12_logs_17 rfl rfl ?_
    refine g_iadd dX12_logs_18 ?_
    refine g_iaload dX12_logs_19 ?_
    refine g_callSI (crt_X12_entryOf _ _ _ _ _) cw_X12_entryOf (by decide) rfl q_1659 q_1660 rfl rfl dX12_logs_20 ?_
    intro r1 m2
    refine g_aload_n (i := 0) dX12_logs_23 rfl rfl ?_
    refine g_sipush (v := (188 : Int32)) dX12_logs_24 ks_188 ?_
    refine g_iconst (v := (2 : Int32)) dX12_logs_27 ki_2 ?_
    refine g_iload_n (i := 1) dX12_logs_28 rfl rfl ?_
    refine g_imul dX12_logs_29 ?_
    refine g_iadd dX12_logs_30 ?_
    refine g_callSL (crt_X12_wide _ _ _ _ _) cw_X12_wide (by decide) rfl q_1649 q_1650 rfl rfl dX12_logs_31 ?_
    intro r3 m4
    refine g_callSV (crt_X12_widens _ _ _ _ _ _) cw_X12_widens (by decide) rfl q_1653 q_1654 rfl rfl dX12_logs_34 ?_
    intro r5 m6
    refine g_aload_n (i := 0) dX12_logs_37 rfl rfl ?_
    refine g_bipush (v := (6 : Int32)) dX12_logs_38 kb_6 ?_
    refine g_iload_n (i := 1) dX12_logs_40 rfl rfl ?_
    refine g_iadd dX12_logs_41 ?_
    refine g_dup2 dX12_logs_42 rfl rfl ?_
    refine g_iaload dX12_logs_43 ?_
    refine g_iconst (v := (1 : Int32)) dX12_logs_44 ki_1 ?_
    refine g_iadd dX12_logs_45 ?_
    refine g_iastore dX12_logs_46 ?_
    intro m7
    exact g_return rfl dX12_logs_47
  · exact g_return rfl dX12_logs_11
set_option maxRecDepth 100000 in
set_option maxHeartbeats 4000000 in
theorem c_L_X12_ones_4 {Z : Zx}    : ∀ (n : Nat) (v0 : Int32) (v1 : Int32) (v2 : Int32) (m : Mm), GG Z M_X12_ones (PsN Z cvI) 4 [some (.int v0), some (.int v1), some (.int v2)] [] m (L_X12_ones_4 n v0 v1 v2 m) := by
  intro n
  induction n with
  | zero => intro v0 v1 v2 m; exact g_no
  | succ n ih =>
    intro v0 v1 v2 m
    unfold L_X12_ones_4
    refine g_iload_n (i := 2) dX12_ones_4 rfl rfl ?_
    refine g_bipush (v := (30 : Int32)) dX12_ones_5 kb_30 ?_
    refine g_icmpge (tgt := 24) dX12_ones_7 (by decide) ?_ ?_
    · refine g_iload_n (i := 1) dX12_ones_24 rfl rfl ?_
      exact g_ireturn rfl dX12_ones_25
    · refine g_iload_n (i := 1) dX12_ones_10 rfl rfl ?_
      refine g_iload_n (i := 0) dX12_ones_11 rfl rfl ?_
      refine g_iload_n (i := 2) dX12_ones_12 rfl rfl ?_
      refine g_ishr dX12_ones_13 ?_
      refine g_iconst (v := (1 : Int32)) dX12_ones_14 ki_1 ?_
      refine g_iand dX12_ones_15 ?_
      refine g_iadd dX12_ones_16 ?_
      refine g_istore_n (i := 1) dX12_ones_17 rfl (show 1 < 3 by decide) ?_
      intro x3
      refine g_iinc dX12_ones_18 rfl ki_1 (show 2 < 3 by decide) ?_
      intro x4
      refine g_goto (tgt := 4) dX12_ones_21 (by decide) ?_
      exact g_msk [true, true, true] (ih _ _ _ _)
set_option maxRecDepth 100000 in
set_option maxHeartbeats 4000000 in
theorem crt_X12_ones (l : Launch) (θ : Th) (a0 : Int32) (m : Mm) : Crt l θ yX12_ones M_X12_ones cvI [.int a0] m (F_X12_ones a0 m) := by
  refine crt_of 2 (by decide) rfl rfl (Nat.le_of_ble_eq_true rfl) (fun Z hμ => ?_)
  unfold F_X12_ones
  show GG Z _ _ 0 [some (.int a0), none, none] [] m _
  refine g_iconst (v := (0 : Int32)) dX12_ones_0 ki_0 ?_
  refine g_istore_n (i := 1) dX12_ones_1 rfl (show 1 < 3 by decide) ?_
  intro x1
  refine g_iconst (v := (0 : Int32)) dX12_ones_2 ki_0 ?_
  refine g_istore_n (i := 2) dX12_ones_3 rfl (show 2 < 3 by decide) ?_
  intro x2
  exact g_msk [true, true, true] (c_L_X12_ones_4 NF _ _ _ _)
set_option maxRecDepth 100000 in
set_option maxHeartbeats 4000000 in
theorem crt_X12_isInside (l : Launch) (θ : Th) (a0 : Nat) (a1 : Int32) (m : Mm) : Crt l θ yX12_isInside M_X12_isInside cvI [.ref a0, .int a1] m (F_X12_isInside a0 a1 m) := by
  refine crt_of 0 (by decide) rfl rfl (Nat.le_of_ble_eq_true rfl) (fun Z hμ => ?_)
  unfold F_X12_isInside
  show GG Z _ _ 0 [some (.ref a0), some (.int a1)] [] m _
  refine g_aload_n (i := 0) dX12_isInside_0 rfl rfl ?_
  refine g_sipush (v := (184 : Int32)) dX12_isInside_1 ks_184 ?_
  refine g_iaload dX12_isInside_4 ?_
  refine g_iload_n (i := 1) dX12_isInside_5 rfl rfl ?_
  refine g_callSI (crt_X12_has _ _ _ _ _) cw_X12_has (by decide) rfl q_1378 q_1379 rfl rfl dX12_isInside_6 ?_
  intro r1 m2
  refine g_ifeq (tgt := 28) dX12_isInside_9 (by decide) ?_ ?_
  · refine g_iconst (v := (0 : Int32)) dX12_isInside_28 ki_0 ?_
    exact g_zreturnK rfl (by decide) dX12_isInside_29
  · refine g_aload_n (i := 0) dX12_isInside_12 rfl rfl ?_
    refine g_sipush (v := (183 : Int32)) dX12_isInside_13 ks_183 ?_
    refine g_iaload dX12_isInside_16 ?_
    refine g_iload_n (i := 1) dX12_isInside_17 rfl rfl ?_
    refine g_callSI (crt_X12_has _ _ _ _ _) cw_X12_has (by decide) rfl q_1378 q_1379 rfl rfl dX12_isInside_18 ?_
    intro r3 m4
    refine g_ifeq (tgt := 28) dX12_isInside_21 (by decide) ?_ ?_
    · refine g_iconst (v := (0 : Int32)) dX12_isInside_28 ki_0 ?_
      exact g_zreturnK rfl (by decide) dX12_isInside_29
    · refine g_iconst (v := (1 : Int32)) dX12_isInside_24 ki_1 ?_
      refine g_goto (tgt := 29) dX12_isInside_25 (by decide) ?_
      exact g_zreturnK rfl (by decide) dX12_isInside_29
set_option maxRecDepth 100000 in
set_option maxHeartbeats 4000000 in
theorem crt_X12_reaches (l : Launch) (θ : Th) (a0 : Int32) (a1 : Int32) (a2 : Int32) (m : Mm) : Crt l θ yX12_reaches M_X12_reaches cvI [.int a0, .int a1, .int a2] m (F_X12_reaches a0 a1 a2 m) := by
  refine crt_of 0 (by decide) rfl rfl (Nat.le_of_ble_eq_true rfl) (fun Z hμ => ?_)
  unfold F_X12_reaches
  show GG Z _ _ 0 [some (.int a0), some (.int a1), some (.int a2)] [] m _
  refine g_iload_n (i := 0) dX12_reaches_0 rfl rfl ?_
  refine g_iload_n (i := 1) dX12_reaches_1 rfl rfl ?_
  refine g_callSI (crt_X12_has _ _ _ _ _) cw_X12_has (by decide) rfl q_1378 q_1379 rfl rfl dX12_reaches_2 ?_
  intro r1 m2
  refine g_iload_n (i := 0) dX12_reaches_5 rfl rfl ?_
  refine g_iload_n (i := 2) dX12_reaches_6 rfl rfl ?_
  refine g_callSI (crt_X12_has _ _ _ _ _) cw_X12_has (by decide) rfl q_1378 q_1379 rfl rfl dX12_reaches_7 ?_
  intro r3 m4
  refine g_icmpne (tgt := 17) dX12_reaches_10 (by decide) ?_ ?_
  · refine g_iconst (v := (0 : Int32)) dX12_reaches_17 ki_0 ?_
    exact g_zreturnK rfl (by decide) dX12_reaches_18
  · refine g_iconst (v := (1 : Int32)) dX12_reaches_13 ki_1 ?_
    refine g_goto (tgt := 18) dX12_reaches_14 (by decide) ?_
    exact g_zreturnK rfl (by decide) dX12_reaches_18
set_option maxRecDepth 100000 in
set_option maxHeartbeats 4000000 in
theorem crt_X12_knownOf (l : Launch) (θ : Th) (a0 : Int32) (a1 : Int32) (m : Mm) : Crt l θ yX12_knownOf M_X12_knownOf cvI [.int a0, .int a1] m (F_X12_knownOf a0 a1 m) := by
  refine crt_of 0 (by decide) rfl rfl (Nat.le_of_ble_eq_true rfl) (fun Z hμ => ?_)
  unfold F_X12_knownOf
  show GG Z _ _ 0 [some (.int a0), some (.int a1)] [] m _
  refine g_bipush (v := (36 : Int32)) dX12_knownOf_0 kb_36 ?_
  refine g_bipush (v := (6 : Int32)) dX12_knownOf_2 kb_6 ?_
  refine g_iload_n (i := 0) dX12_knownOf_4 rfl rfl ?_
  refine g_imul dX12_knownOf_5 ?_
  refine g_iadd dX12_knownOf_6 ?_
  refine g_iload_n (i := 1) dX12_knownOf_7 rfl rfl ?_
  refine g_iadd dX12_knownOf_8 ?_
  exact g_ireturn rfl dX12_knownOf_9
set_option maxRecDepth 100000 in
set_option maxHeartbeats 4000000 in
theorem crt_X12_delivers (l : Launch) (θ : Th) (a0 : Nat) (a1 : Int32) (a2 : Int32) (m : Mm) : Crt l θ yX12_delivers M_X12_delivers cvV [.ref a0, .int a1, .int a2] m (F_X12_delivers a0 a1 a2 m) := by
  refine crt_of 0 (by decide) rfl rfl (Nat.le_of_ble_eq_true rfl) (fun Z hμ => ?_)
  unfold F_X12_delivers
  show GG Z _ _ 0 [some (.ref a0), some (.int a1), some (.int a2)] [] m _
  refine g_aload_n (i := 0) dX12_delivers_0 rfl rfl ?_
  refine g_bipush (v := (12 : Int32)) dX12_delivers_1 kb_12 ?_
  refine g_iload_n (i := 1) dX12_delivers_3 rfl rfl ?_
  refine g_iadd dX12_delivers_4 ?_
  refine g_dup2 dX12_delivers_5 rfl rfl ?_
  refine g_iaload dX12_delivers_6 ?_
  refine g_iconst (v := (1 : Int32)) dX12_delivers_7 ki_1 ?_
  refine g_iload_n (i := 2) dX12_delivers_8 rfl rfl ?_
  refine g_ishl dX12_delivers_9 ?_
  refine g_ior dX12_delivers_10 ?_
  refine g_iastore dX12_delivers_11 ?_
  intro m1
  refine g_aload_n (i := 0) dX12_delivers_12 rfl rfl ?_
  refine g_bipush (v := (18 : Int32)) dX12_delivers_13 kb_18 ?_
  refine g_iload_n (i := 1) dX12_delivers_15 rfl rfl ?_
  refine g_iadd dX12_delivers_16 ?_
  refine g_dup2 dX12_delivers_17 rfl rfl ?_
  refine g_iaload dX12_delivers_18 ?_
  refine g_iconst (v := (1 : Int32)) dX12_delivers_19 ki_1 ?_
  refine g_iload_n (i := 2) dX12_delivers_20 rfl rfl ?_
  refine g_ishl dX12_delivers_21 ?_
  refine g_ior dX12_delivers_22 ?_
  refine g_iastore dX12_delivers_23 ?_
  intro m2
  refine g_aload_n (i := 0) dX12_delivers_24 rfl rfl ?_
  refine g_iload_n (i := 1) dX12_delivers_25 rfl rfl ?_
  refine g_iload_n (i := 1) dX12_delivers_26 rfl rfl ?_
  refine g_callSI (crt_X12_knownOf _ _ _ _ _) cw_X12_knownOf (by decide) rfl q_1646 q_1647 rfl rfl dX12_delivers_27 ?_
  intro r3 m4
  refine g_dup2 dX12_delivers_30 rfl rfl ?_
  refine g_iaload dX12_delivers_31 ?_
  refine g_iconst (v := (1 : Int32)) dX12_delivers_32 ki_1 ?_
  refine g_iload_n (i := 2) dX12_delivers_33 rfl rfl ?_
  refine g_ishl dX12_delivers_34 ?_
  refine g_ior dX12_delivers_35 ?_
  refine g_iastore dX12_delivers_36 ?_
  intro m5
  refine g_aload_n (i := 0) dX12_delivers_37 rfl rfl ?_
  refine g_sipush (v := (188 : Int32)) dX12_delivers_38 ks_188 ?_
  refine g_iconst (v := (2 : Int32)) dX12_delivers_41 ki_2 ?_
  refine g_iload_n (i := 1) dX12_delivers_42 rfl rfl ?_
  refine g_imul dX12_delivers_43 ?_
  refine g_iadd dX12_delivers_44 ?_
  refine g_aload_n (i := 0) dX12_delivers_45 rfl rfl ?_
  refine g_sipush (v := (188 : Int32)) dX12_delivers_46 ks_188 ?_
  refine g_iconst (v := (2 : Int32)) dX12_delivers_49 ki_2 ?_
  refine g_iload_n (i := 1) dX12_delivers_50 rfl rfl ?_
  refine g_imul dX12_delivers_51 ?_
  refine g_iadd dX12_delivers_52 ?_
  refine g_callSL (crt_X12_wide _ _ _ _ _) cw_X12_wide (by decide) rfl q_1649 q_1650 rfl rfl dX12_delivers_53 ?_
  intro r6 m7
  refine g_aload_n (i := 0) dX12_delivers_56 rfl rfl ?_
  refine g_sipush (v := (150 : Int32)) dX12_delivers_57 ks_150 ?_
  refine g_iload_n (i := 2) dX12_delivers_60 rfl rfl ?_
  refine g_iadd dX12_delivers_61 ?_
  refine g_iaload dX12_delivers_62 ?_
  refine g_i2l dX12_delivers_63 ?_
  refine g_lconst (v := (1 : Int64)) dX12_delivers_64 rfl ?_
  refine g_ladd dX12_delivers_65 ?_
  refine g_aload_n (i := 0) dX12_delivers_66 rfl rfl ?_
  refine g_bipush (v := (120 : Int32)) dX12_delivers_67 kb_120 ?_
  refine g_iload_n (i := 2) dX12_delivers_69 rfl rfl ?_
  refine g_iadd dX12_delivers_70 ?_
  refine g_iaload dX12_delivers_71 ?_
  refine g_i2l dX12_delivers_72 ?_
  refine g_lconst (v := (1 : Int64)) dX12_delivers_73 rfl ?_
  refine g_ladd dX12_delivers_74 ?_
  refine g_lmul dX12_delivers_75 ?_
  refine g_ladd dX12_delivers_76 ?_
  refine g_callSV (crt_X12_widens _ _ _ _ _ _) cw_X12_widens (by decide) rfl q_1653 q_1654 rfl rfl dX12_delivers_77 ?_
  intro r8 m9
  refine g_aload_n (i := 0) dX12_delivers_80 rfl rfl ?_
  refine g_iload_n (i := 1) dX12_delivers_81 rfl rfl ?_
  refine g_callSV (crt_X12_logs _ _ _ _ _) cw_X12_logs (by decide) rfl q_1656 q_1657 rfl rfl dX12_delivers_82 ?_
  intro r10 m11
  exact g_return rfl dX12_delivers_85
set_option maxRecDepth 100000 in
set_option maxHeartbeats 4000000 in
theorem c_L_X12_sends_120 {Z : Zx}    : ∀ (n : Nat) (v0 : Nat) (v1 : Nat) (v2 : Int32) (v4 : Int32) (v5 : Int32) (m : Mm), GG Z M_X12_sends (PsN Z cvI) 120 [some (.ref v0), some (.ref v1), some (.int v2), none, some (.int v4), some (.int v5)] [] m (L_X12_sends_120 n v0 v1 v2 v4 v5 m) := by
  intro n
  induction n with
  | zero => intro v0 v1 v2 v4 v5 m; exact g_no
  | succ n ih =>
    intro v0 v1 v2 v4 v5 m
    unfold L_X12_sends_120
    refine g_iload dX12_sends_120 rfl ?_
    refine g_aload_n (i := 0) dX12_sends_122 rfl rfl ?_
    refine g_getR (k := 12) cl_X12 (by decide) rfl q_1393 dX12_sends_123 ?_
    intro q13
    refine g_iconst (v := (0 : Int32)) dX12_sends_126 ki_0 ?_
    refine g_iaload dX12_sends_127 ?_
    refine g_icmpge (tgt := 170) dX12_sends_128 (by decide) ?_ ?_
    · refine g_iconst (v := (1 : Int32)) dX12_sends_170 ki_1 ?_
      exact g_zreturnK rfl (by decide) dX12_sends_171
    · refine g_aload_n (i := 1) dX12_sends_131 rfl rfl ?_
      refine g_bipush (v := (24 : Int32)) dX12_sends_132 kb_24 ?_
      refine g_iload dX12_sends_134 rfl ?_
      refine g_iadd dX12_sends_136 ?_
      refine g_dup2 dX12_sends_137 rfl rfl ?_
      refine g_iaload dX12_sends_138 ?_
      refine g_iload dX12_sends_139 rfl ?_
      refine g_iload_n (i := 2) dX12_sends_141 rfl rfl ?_
      refine g_jn (fun J162 => ∀ (v0 : Nat) (v1 : Nat) (v2 : Int32) (v4 : Int32) (v5 : Int32) (s0 : Int32) (s1 : Int32) (s2 : Int32) (s3 : Nat) (m : Mm), GG Z M_X12_sends (PsN Z cvI) 162 [some (.ref v0), some (.ref v1), some (.int v2), none, some (.int v4), some (.int v5)] [.int s0, .int s1, .int s2, .ref s3] m (J162 v0 v1 v2 v4 v5 s0 s1 s2 s3 m)) ?_ ?_
      · intro v0 v1 v2 v4 v5 s0 s1 s2 s3 m
        refine g_ior dX12_sends_162 ?_
        refine g_iastore dX12_sends_163 ?_
        intro m14
        refine g_iinc dX12_sends_164 rfl ki_1 (show 5 < 6 by decide) ?_
        intro x15
        refine g_goto (tgt := 120) dX12_sends_167 (by decide) ?_
        exact g_msk [true, true, true, false, true, true] (ih _ _ _ _ _ _)
      · intro J162 hJ162
        refine g_jn (fun J161 => ∀ (v0 : Nat) (v1 : Nat) (v2 : Int32) (v4 : Int32) (v5 : Int32) (s0 : Int32) (s1 : Int32) (s2 : Nat) (m : Mm), GG Z M_X12_sends (PsN Z cvI) 161 [some (.ref v0), some (.ref v1), some (.int v2), none, some (.int v4), some (.int v5)] [.int s0, .int s1, .ref s2] m (J161 v0 v1 v2 v4 v5 s0 s1 s2 m)) ?_ ?_
        · intro v0 v1 v2 v4 v5 s0 s1 s2 m
          refine g_iconst (v := (0 : Int32)) dX12_sends_161 ki_0 ?_
          exact g_msk [true, true, true, false, true, true] (hJ162 _ _ _ _ _ _ _ _ _ _)
        · intro J161 hJ161
          refine g_icmpeq (tgt := 161) dX12_sends_142 (by decide) ?_ ?_
          · exact g_msk [true, true, true, false, true, true] (hJ161 _ _ _ _ _ _ _ _ _)
          · refine g_aload_n (i := 1) dX12_sends_145 rfl rfl ?_
            refine g_iload dX12_sends_146 rfl ?_
            refine g_callSI (crt_X12_isInside _ _ _ _ _) cw_X12_isInside (by decide) rfl q_1640 q_1641 rfl rfl dX12_sends_148 ?_
            intro r16 m17
            refine g_ifeq (tgt := 161) dX12_sends_151 (by decide) ?_ ?_
            · exact g_msk [true, true, true, false, true, true] (hJ161 _ _ _ _ _ _ _ _ _)
            · refine g_iconst (v := (1 : Int32)) dX12_sends_154 ki_1 ?_
              refine g_iload dX12_sends_155 rfl ?_
              refine g_ishl dX12_sends_157 ?_
              refine g_goto (tgt := 162) dX12_sends_158 (by decide) ?_
              exact g_msk [true, true, true, false, true, true] (hJ162 _ _ _ _ _ _ _ _ _ _)
set_option maxRecDepth 100000 in
set_option maxHeartbeats 4000000 in
theorem crt_X12_sends (l : Launch) (θ : Th) (a0 : Nat) (a1 : Nat) (a2 : Int32) (a3 : Int32) (m : Mm) : Crt l θ yX12_sends M_X12_sends cvI [.ref a0, .ref a1, .int a2, .int a3] m (F_X12_sends a0 a1 a2 a3 m) := by
  refine crt_of 2 (by decide) rfl rfl (Nat.le_of_ble_eq_true rfl) (fun Z hμ => ?_)
  unfold F_X12_sends
  show GG Z _ _ 0 [some (.ref a0), some (.ref a1), some (.int a2), some (.int a3), none, none] [] m _
  refine g_aload_n (i := 1) dX12_sends_0 rfl rfl ?_
  refine g_iload_n (i := 2) dX12_sends_1 rfl rfl ?_
  refine g_callSI (crt_X12_isInside _ _ _ _ _) cw_X12_isInside (by decide) rfl q_1640 q_1641 rfl rfl dX12_sends_2 ?_
  intro r1 m2
  refine g_ifne (tgt := 10) dX12_sends_5 (by decide) ?_ ?_
  · refine g_aload_n (i := 1) dX12_sends_10 rfl rfl ?_
    refine g_sipush (v := (185 : Int32)) dX12_sends_11 ks_185 ?_
    refine g_iaload dX12_sends_14 ?_
    refine g_iload_n (i := 2) dX12_sends_15 rfl rfl ?_
    refine g_callSI (crt_X12_has _ _ _ _ _) cw_X12_has (by decide) rfl q_1378 q_1379 rfl rfl dX12_sends_16 ?_
    intro r3 m4
    refine g_ifeq (tgt := 64) dX12_sends_19 (by decide) ?_ ?_
    · refine g_aload_n (i := 1) dX12_sends_64 rfl rfl ?_
      refine g_sipush (v := (187 : Int32)) dX12_sends_65 ks_187 ?_
      refine g_iaload dX12_sends_68 ?_
      refine g_istore dX12_sends_69 (show 4 < 6 by decide) ?_
      intro x5
      refine g_iload dX12_sends_71 rfl ?_
      refine g_aload_n (i := 0) dX12_sends_73 rfl rfl ?_
      refine g_getR (k := 12) cl_X12 (by decide) rfl q_1393 dX12_sends_74 ?_
      intro q6
      refine g_iconst (v := (2 : Int32)) dX12_sends_77 ki_2 ?_
      refine g_iaload dX12_sends_78 ?_
      refine g_icmplt (tgt := 84) dX12_sends_79 (by decide) ?_ ?_
      · refine g_aload_n (i := 1) dX12_sends_84 rfl rfl ?_
        refine g_sipush (v := (187 : Int32)) dX12_sends_85 ks_187 ?_
        refine g_dup2 dX12_sends_88 rfl rfl ?_
        refine g_iaload dX12_sends_89 ?_
        refine g_iconst (v := (1 : Int32)) dX12_sends_90 ki_1 ?_
        refine g_iadd dX12_sends_91 ?_
        refine g_iastore dX12_sends_92 ?_
        intro m7
        refine g_aload_n (i := 1) dX12_sends_93 rfl rfl ?_
        refine g_bipush (v := (120 : Int32)) dX12_sends_94 kb_120 ?_
        refine g_iload dX12_sends_96 rfl ?_
        refine g_iadd dX12_sends_98 ?_
        refine g_iload_n (i := 2) dX12_sends_99 rfl rfl ?_
        refine g_iastore dX12_sends_100 ?_
        intro m8
        refine g_aload_n (i := 1) dX12_sends_101 rfl rfl ?_
        refine g_sipush (v := (150 : Int32)) dX12_sends_102 ks_150 ?_
        refine g_iload dX12_sends_105 rfl ?_
        refine g_iadd dX12_sends_107 ?_
        refine g_iload_n (i := 3) dX12_sends_108 rfl rfl ?_
        refine g_iastore dX12_sends_109 ?_
        intro m9
        refine g_aload_n (i := 1) dX12_sends_110 rfl rfl ?_
        refine g_iload_n (i := 2) dX12_sends_111 rfl rfl ?_
        refine g_iload dX12_sends_112 rfl ?_
        refine g_callSV (crt_X12_delivers _ _ _ _ _ _) cw_X12_delivers (by decide) rfl q_1643 q_1644 rfl rfl dX12_sends_114 ?_
        intro r10 m11
        refine g_iconst (v := (0 : Int32)) dX12_sends_117 ki_0 ?_
        refine g_istore dX12_sends_118 (show 5 < 6 by decide) ?_
        intro x12
        exact g_msk [true, true, true, false, true, true] (c_L_X12_sends_120 NF _ _ _ _ _ _)
      · refine g_iconst (v := (0 : Int32)) dX12_sends_82 ki_0 ?_
        exact g_zreturnK rfl (by decide) dX12_sends_83
    · refine g_aload_n (i := 1) dX12_sends_22 rfl rfl ?_
      refine g_bipush (v := (30 : Int32)) dX12_sends_23 kb_30 ?_
      refine g_iload_n (i := 2) dX12_sends_25 rfl rfl ?_
      refine g_iadd dX12_sends_26 ?_
      refine g_iaload dX12_sends_27 ?_
      refine g_bipush (v := (8 : Int32)) dX12_sends_28 kb_8 ?_
      refine g_icmpne (tgt := 35) dX12_sends_30 (by decide) ?_ ?_
      · refine g_aload_n (i := 1) dX12_sends_35 rfl rfl ?_
        refine g_bipush (v := (72 : Int32)) dX12_sends_36 kb_72 ?_
        refine g_bipush (v := (8 : Int32)) dX12_sends_38 kb_8 ?_
        refine g_iload_n (i := 2) dX12_sends_40 rfl rfl ?_
        refine g_imul dX12_sends_41 ?_
        refine g_iadd dX12_sends_42 ?_
        refine g_aload_n (i := 1) dX12_sends_43 rfl rfl ?_
        refine g_bipush (v := (30 : Int32)) dX12_sends_44 kb_30 ?_
        refine g_iload_n (i := 2) dX12_sends_46 rfl rfl ?_
        refine g_iadd dX12_sends_47 ?_
        refine g_iaload dX12_sends_48 ?_
        refine g_iadd dX12_sends_49 ?_
        refine g_iload_n (i := 3) dX12_sends_50 rfl rfl ?_
        refine g_iastore dX12_sends_51 ?_
        intro m18
        refine g_aload_n (i := 1) dX12_sends_52 rfl rfl ?_
        refine g_bipush (v := (30 : Int32)) dX12_sends_53 kb_30 ?_
        refine g_iload_n (i := 2) dX12_sends_55 rfl rfl ?_
        refine g_iadd dX12_sends_56 ?_
        refine g_dup2 dX12_sends_57 rfl rfl ?_
        refine g_iaload dX12_sends_58 ?_
        refine g_iconst (v := (1 : Int32)) dX12_sends_59 ki_1 ?_
        refine g_iadd dX12_sends_60 ?_
        refine g_iastore dX12_sends_61 ?_
        intro m19
        refine g_iconst (v := (1 : Int32)) dX12_sends_62 ki_1 ?_
        exact g_zreturnK rfl (by decide) dX12_sends_63
      · refine g_iconst (v := (0 : Int32)) dX12_sends_33 ki_0 ?_
        exact g_zreturnK rfl (by decide) dX12_sends_34
  · refine g_iconst (v := (0 : Int32)) dX12_sends_8 ki_0 ?_
    exact g_zreturnK rfl (by decide) dX12_sends_9
set_option maxRecDepth 100000 in
set_option maxHeartbeats 4000000 in
theorem c_L_X12_nextOf_3 {Z : Zx}    : ∀ (n : Nat) (v1 : Nat) (v2 : Int32) (v3 : Int32) (v4 : Int32) (m : Mm), GG Z M_X12_nextOf (PsN Z cvI) 3 [none, some (.ref v1), some (.int v2), some (.int v3), some (.int v4)] [] m (L_X12_nextOf_3 n v1 v2 v3 v4 m) := by
  intro n
  induction n with
  | zero => intro v1 v2 v3 v4 m; exact g_no
  | succ n ih =>
    intro v1 v2 v3 v4 m
    unfold L_X12_nextOf_3
    refine g_iload dX12_nextOf_3 rfl ?_
    refine g_aload_n (i := 1) dX12_nextOf_5 rfl rfl ?_
    refine g_sipush (v := (187 : Int32)) dX12_nextOf_6 ks_187 ?_
    refine g_iaload dX12_nextOf_9 ?_
    refine g_icmpge (tgt := 67) dX12_nextOf_10 (by decide) ?_ ?_
    · refine g_iconst (v := (-1 : Int32)) dX12_nextOf_67 ki_m1 ?_
      exact g_ireturn rfl dX12_nextOf_68
    · refine g_aload_n (i := 1) dX12_nextOf_13 rfl rfl ?_
      refine g_iload_n (i := 2) dX12_nextOf_14 rfl rfl ?_
      refine g_callSI (crt_X12_isInside _ _ _ _ _) cw_X12_isInside (by decide) rfl q_1640 q_1641 rfl rfl dX12_nextOf_15 ?_
      intro r2 m3
      refine g_ifeq (tgt := 67) dX12_nextOf_18 (by decide) ?_ ?_
      · refine g_iconst (v := (-1 : Int32)) dX12_nextOf_67 ki_m1 ?_
        exact g_ireturn rfl dX12_nextOf_68
      · refine g_aload_n (i := 1) dX12_nextOf_21 rfl rfl ?_
        refine g_bipush (v := (24 : Int32)) dX12_nextOf_22 kb_24 ?_
        refine g_iload_n (i := 2) dX12_nextOf_24 rfl rfl ?_
        refine g_iadd dX12_nextOf_25 ?_
        refine g_iaload dX12_nextOf_26 ?_
        refine g_iload dX12_nextOf_27 rfl ?_
        refine g_callSI (crt_X12_has _ _ _ _ _) cw_X12_has (by decide) rfl q_1378 q_1379 rfl rfl dX12_nextOf_29 ?_
        intro r4 m5
        refine g_jn (fun J61 => ∀ (v1 : Nat) (v2 : Int32) (v3 : Int32) (v4 : Int32) (m : Mm), GG Z M_X12_nextOf (PsN Z cvI) 61 [none, some (.ref v1), some (.int v2), some (.int v3), some (.int v4)] [] m (J61 v1 v2 v3 v4 m)) ?_ ?_
        · intro v1 v2 v3 v4 m
          refine g_iinc dX12_nextOf_61 rfl ki_1 (show 4 < 5 by decide) ?_
          intro x6
          refine g_goto (tgt := 3) dX12_nextOf_64 (by decide) ?_
          exact g_msk [false, true, true, true, true] (ih _ _ _ _ _)
        · intro J61 hJ61
          refine g_ifeq (tgt := 61) dX12_nextOf_32 (by decide) ?_ ?_
          · exact g_msk [false, true, true, true, true] (hJ61 _ _ _ _ _)
          · refine g_iload_n (i := 3) dX12_nextOf_35 rfl rfl ?_
            refine g_ifne (tgt := 58) dX12_nextOf_36 (by decide) ?_ ?_
            · refine g_iload dX12_nextOf_58 rfl ?_
              exact g_ireturn rfl dX12_nextOf_60
            · refine g_aload_n (i := 1) dX12_nextOf_39 rfl rfl ?_
              refine g_sipush (v := (180 : Int32)) dX12_nextOf_40 ks_180 ?_
              refine g_iaload dX12_nextOf_43 ?_
              refine g_iload_n (i := 2) dX12_nextOf_44 rfl rfl ?_
              refine g_aload_n (i := 1) dX12_nextOf_45 rfl rfl ?_
              refine g_bipush (v := (120 : Int32)) dX12_nextOf_46 kb_120 ?_
              refine g_iload dX12_nextOf_48 rfl ?_
              refine g_iadd dX12_nextOf_50 ?_
              refine g_iaload dX12_nextOf_51 ?_
              refine g_callSI (crt_X12_reaches _ _ _ _ _ _) cw_X12_reaches (by decide) rfl q_1670 q_1671 rfl rfl dX12_nextOf_52 ?_
              intro r7 m8
              refine g_ifeq (tgt := 61) dX12_nextOf_55 (by decide) ?_ ?_
              · exact g_msk [false, true, true, true, true] (hJ61 _ _ _ _ _)
              · refine g_iload dX12_nextOf_58 rfl ?_
                exact g_ireturn rfl dX12_nextOf_60
set_option maxRecDepth 100000 in
set_option maxHeartbeats 4000000 in
theorem crt_X12_nextOf (l : Launch) (θ : Th) (a0 : Nat) (a1 : Nat) (a2 : Int32) (a3 : Int32) (m : Mm) : Crt l θ yX12_nextOf M_X12_nextOf cvI [.ref a0, .ref a1, .int a2, .int a3] m (F_X12_nextOf a0 a1 a2 a3 m) := by
  refine crt_of 1 (by decide) rfl rfl (Nat.le_of_ble_eq_true rfl) (fun Z hμ => ?_)
  unfold F_X12_nextOf
  show GG Z _ _ 0 [some (.ref a0), some (.ref a1), some (.int a2), some (.int a3), none] [] m _
  refine g_iconst (v := (0 : Int32)) dX12_nextOf_0 ki_0 ?_
  refine g_istore dX12_nextOf_1 (show 4 < 5 by decide) ?_
  intro x1
  exact g_msk [false, true, true, true, true] (c_L_X12_nextOf_3 NF _ _ _ _ _)
set_option maxRecDepth 100000 in
set_option maxHeartbeats 4000000 in
theorem crt_X12_takesOne (l : Launch) (θ : Th) (a0 : Nat) (a1 : Nat) (a2 : Int32) (a3 : Int32) (m : Mm) : Crt l θ yX12_takesOne M_X12_takesOne cvI [.ref a0, .ref a1, .int a2, .int a3] m (F_X12_takesOne a0 a1 a2 a3 m) := by
  refine crt_of 1 (by decide) rfl rfl (Nat.le_of_ble_eq_true rfl) (fun Z hμ => ?_)
  unfold F_X12_takesOne
  show GG Z _ _ 0 [some (.ref a0), some (.ref a1), some (.int a2), some (.int a3), none] [] m _
  refine g_aload_n (i := 0) dX12_takesOne_0 rfl rfl ?_
  refine g_aload_n (i := 1) dX12_takesOne_1 rfl rfl ?_
  refine g_iload_n (i := 2) dX12_takesOne_2 rfl rfl ?_
  refine g_iload_n (i := 3) dX12_takesOne_3 rfl rfl ?_
  refine g_callVI cl_X12 (crt_X12_nextOf _ _ _ _ _ _ _) cw_X12_nextOf (by decide) rfl q_1666 q_1668 qs_65 rfl rfl dX12_takesOne_4 ?_
  intro r1 m2
  refine g_istore dX12_takesOne_7 (show 4 < 5 by decide) ?_
  intro x3
  refine g_iload dX12_takesOne_9 rfl ?_
  refine g_iconst (v := (-1 : Int32)) dX12_takesOne_11 ki_m1 ?_
  refine g_icmpne (tgt := 17) dX12_takesOne_12 (by decide) ?_ ?_
  · refine g_aload_n (i := 1) dX12_takesOne_17 rfl rfl ?_
    refine g_bipush (v := (24 : Int32)) dX12_takesOne_18 kb_24 ?_
    refine g_iload_n (i := 2) dX12_takesOne_20 rfl rfl ?_
    refine g_iadd dX12_takesOne_21 ?_
    refine g_dup2 dX12_takesOne_22 rfl rfl ?_
    refine g_iaload dX12_takesOne_23 ?_
    refine g_iconst (v := (1 : Int32)) dX12_takesOne_24 ki_1 ?_
    refine g_iload dX12_takesOne_25 rfl ?_
    refine g_ishl dX12_takesOne_27 ?_
    refine g_iconst (v := (-1 : Int32)) dX12_takesOne_28 ki_m1 ?_
    refine g_ixor dX12_takesOne_29 ?_
    refine g_iand dX12_takesOne_30 ?_
    refine g_iastore dX12_takesOne_31 ?_
    intro m4
    refine g_iload_n (i := 3) dX12_takesOne_32 rfl rfl ?_
    refine g_ifne (tgt := 43) dX12_takesOne_33 (by decide) ?_ ?_
    · refine g_iconst (v := (1 : Int32)) dX12_takesOne_43 ki_1 ?_
      exact g_zreturnK rfl (by decide) dX12_takesOne_44
    · refine g_aload_n (i := 1) dX12_takesOne_36 rfl rfl ?_
      refine g_iload_n (i := 2) dX12_takesOne_37 rfl rfl ?_
      refine g_iload dX12_takesOne_38 rfl ?_
      refine g_callSV (crt_X12_delivers _ _ _ _ _ _) cw_X12_delivers (by decide) rfl q_1643 q_1644 rfl rfl dX12_takesOne_40 ?_
      intro r5 m6
      refine g_iconst (v := (1 : Int32)) dX12_takesOne_43 ki_1 ?_
      exact g_zreturnK rfl (by decide) dX12_takesOne_44
  · refine g_iconst (v := (0 : Int32)) dX12_takesOne_15 ki_0 ?_
    exact g_zreturnK rfl (by decide) dX12_takesOne_16
set_option maxRecDepth 100000 in
set_option maxHeartbeats 4000000 in
theorem c_L_X12_tellsOthers_12 {Z : Zx}    : ∀ (n : Nat) (v0 : Nat) (v1 : Nat) (v2 : Int32) (v3 : Int32) (m : Mm), GG Z M_X12_tellsOthers (PsN Z cvI) 12 [some (.ref v0), some (.ref v1), some (.int v2), some (.int v3)] [] m (L_X12_tellsOthers_12 n v0 v1 v2 v3 m) := by
  intro n
  induction n with
  | zero => intro v0 v1 v2 v3 m; exact g_no
  | succ n ih =>
    intro v0 v1 v2 v3 m
    unfold L_X12_tellsOthers_12
    refine g_iload_n (i := 3) dX12_tellsOthers_12 rfl rfl ?_
    refine g_aload_n (i := 0) dX12_tellsOthers_13 rfl rfl ?_
    refine g_getR (k := 12) cl_X12 (by decide) rfl q_1393 dX12_tellsOthers_14 ?_
    intro q4
    refine g_iconst (v := (0 : Int32)) dX12_tellsOthers_17 ki_0 ?_
    refine g_iaload dX12_tellsOthers_18 ?_
    refine g_icmpge (tgt := 65) dX12_tellsOthers_19 (by decide) ?_ ?_
    · refine g_iconst (v := (1 : Int32)) dX12_tellsOthers_65 ki_1 ?_
      exact g_zreturnK rfl (by decide) dX12_tellsOthers_66
    · refine g_aload_n (i := 1) dX12_tellsOthers_22 rfl rfl ?_
      refine g_iload_n (i := 3) dX12_tellsOthers_23 rfl rfl ?_
      refine g_callSI (crt_X12_isInside _ _ _ _ _) cw_X12_isInside (by decide) rfl q_1640 q_1641 rfl rfl dX12_tellsOthers_24 ?_
      intro r5 m6
      refine g_jn (fun J59 => ∀ (v0 : Nat) (v1 : Nat) (v2 : Int32) (v3 : Int32) (m : Mm), GG Z M_X12_tellsOthers (PsN Z cvI) 59 [some (.ref v0), some (.ref v1), some (.int v2), some (.int v3)] [] m (J59 v0 v1 v2 v3 m)) ?_ ?_
      · intro v0 v1 v2 v3 m
        refine g_iinc dX12_tellsOthers_59 rfl ki_1 (show 3 < 4 by decide) ?_
        intro x7
        refine g_goto (tgt := 12) dX12_tellsOthers_62 (by decide) ?_
        exact g_msk [true, true, true, true] (ih _ _ _ _ _)
      · intro J59 hJ59
        refine g_ifeq (tgt := 59) dX12_tellsOthers_27 (by decide) ?_ ?_
        · exact g_msk [true, true, true, true] (hJ59 _ _ _ _ _)
        · refine g_aload_n (i := 1) dX12_tellsOthers_30 rfl rfl ?_
          refine g_sipush (v := (180 : Int32)) dX12_tellsOthers_31 ks_180 ?_
          refine g_iaload dX12_tellsOthers_34 ?_
          refine g_iload_n (i := 2) dX12_tellsOthers_35 rfl rfl ?_
          refine g_iload_n (i := 3) dX12_tellsOthers_36 rfl rfl ?_
          refine g_callSI (crt_X12_reaches _ _ _ _ _ _) cw_X12_reaches (by decide) rfl q_1670 q_1671 rfl rfl dX12_tellsOthers_37 ?_
          intro r8 m9
          refine g_ifeq (tgt := 59) dX12_tellsOthers_40 (by decide) ?_ ?_
          · exact g_msk [true, true, true, true] (hJ59 _ _ _ _ _)
          · refine g_aload_n (i := 1) dX12_tellsOthers_43 rfl rfl ?_
            refine g_iload_n (i := 3) dX12_tellsOthers_44 rfl rfl ?_
            refine g_iload_n (i := 2) dX12_tellsOthers_45 rfl rfl ?_
            refine g_callSI (crt_X12_knownOf _ _ _ _ _) cw_X12_knownOf (by decide) rfl q_1646 q_1647 rfl rfl dX12_tellsOthers_46 ?_
            intro r10 m11
            refine g_dup2 dX12_tellsOthers_49 rfl rfl ?_
            refine g_iaload dX12_tellsOthers_50 ?_
            refine g_aload_n (i := 1) dX12_tellsOthers_51 rfl rfl ?_
            refine g_bipush (v := (12 : Int32)) dX12_tellsOthers_52 kb_12 ?_
            refine g_iload_n (i := 2) dX12_tellsOthers_54 rfl rfl ?_
            refine g_iadd dX12_tellsOthers_55 ?_
            refine g_iaload dX12_tellsOthers_56 ?_
            refine g_ior dX12_tellsOthers_57 ?_
            refine g_iastore dX12_tellsOthers_58 ?_
            intro m12
            exact g_msk [true, true, true, true] (hJ59 _ _ _ _ _)
set_option maxRecDepth 100000 in
set_option maxHeartbeats 4000000 in
theorem crt_X12_tellsOthers (l : Launch) (θ : Th) (a0 : Nat) (a1 : Nat) (a2 : Int32) (m : Mm) : Crt l θ yX12_tellsOthers M_X12_tellsOthers cvI [.ref a0, .ref a1, .int a2] m (F_X12_tellsOthers a0 a1 a2 m) := by
  refine crt_of 1 (by decide) rfl rfl (Nat.le_of_ble_eq_true rfl) (fun Z hμ => ?_)
  unfold F_X12_tellsOthers
  show GG Z _ _ 0 [some (.ref a0), some (.ref a1), some (.int a2), none] [] m _
  refine g_aload_n (i := 1) dX12_tellsOthers_0 rfl rfl ?_
  refine g_iload_n (i := 2) dX12_tellsOthers_1 rfl rfl ?_
  refine g_callSI (crt_X12_isInside _ _ _ _ _) cw_X12_isInside (by decide) rfl q_1640 q_1641 rfl rfl dX12_tellsOthers_2 ?_
  intro r1 m2
  refine g_ifne (tgt := 10) dX12_tellsOthers_5 (by decide) ?_ ?_
  · refine g_iconst (v := (0 : Int32)) dX12_tellsOthers_10 ki_0 ?_
    refine g_istore_n (i := 3) dX12_tellsOthers_11 rfl (show 3 < 4 by decide) ?_
    intro x3
    exact g_msk [true, true, true, true] (c_L_X12_tellsOthers_12 NF _ _ _ _ _)
  · refine g_iconst (v := (0 : Int32)) dX12_tellsOthers_8 ki_0 ?_
    exact g_zreturnK rfl (by decide) dX12_tellsOthers_9
set_option maxRecDepth 100000 in
set_option maxHeartbeats 4000000 in
theorem c_L_X12_stableBy_13 {Z : Zx}    : ∀ (n : Nat) (v0 : Nat) (v1 : Nat) (v2 : Int32) (v3 : Int32) (v4 : Int32) (m : Mm), GG Z M_X12_stableBy (PsN Z cvI) 13 [some (.ref v0), some (.ref v1), some (.int v2), some (.int v3), some (.int v4)] [] m (L_X12_stableBy_13 n v0 v1 v2 v3 v4 m) := by
  intro n
  induction n with
  | zero => intro v0 v1 v2 v3 v4 m; exact g_no
  | succ n ih =>
    intro v0 v1 v2 v3 v4 m
    unfold L_X12_stableBy_13
    refine g_iload dX12_stableBy_13 rfl ?_
    refine g_aload_n (i := 0) dX12_stableBy_15 rfl rfl ?_
    refine g_getR (k := 12) cl_X12 (by decide) rfl q_1393 dX12_stableBy_16 ?_
    intro q3
    refine g_iconst (v := (0 : Int32)) dX12_stableBy_19 ki_0 ?_
    refine g_iaload dX12_stableBy_20 ?_
    refine g_icmpge (tgt := 58) dX12_stableBy_21 (by decide) ?_ ?_
    · refine g_iload_n (i := 3) dX12_stableBy_58 rfl rfl ?_
      exact g_ireturn rfl dX12_stableBy_59
    · refine g_iload_n (i := 3) dX12_stableBy_24 rfl rfl ?_
      refine g_aload_n (i := 1) dX12_stableBy_25 rfl rfl ?_
      refine g_sipush (v := (182 : Int32)) dX12_stableBy_26 ks_182 ?_
      refine g_iaload dX12_stableBy_29 ?_
      refine g_iload dX12_stableBy_30 rfl ?_
      refine g_callSI (crt_X12_has _ _ _ _ _) cw_X12_has (by decide) rfl q_1378 q_1379 rfl rfl dX12_stableBy_32 ?_
      intro r4 m5
      refine g_jn (fun J50 => ∀ (v0 : Nat) (v1 : Nat) (v2 : Int32) (v4 : Int32) (s0 : Int32) (s1 : Int32) (m : Mm), GG Z M_X12_stableBy (PsN Z cvI) 50 [some (.ref v0), some (.ref v1), some (.int v2), none, some (.int v4)] [.int s0, .int s1] m (J50 v0 v1 v2 v4 s0 s1 m)) ?_ ?_
      · intro v0 v1 v2 v4 s0 s1 m
        refine g_iand dX12_stableBy_50 ?_
        refine g_istore_n (i := 3) dX12_stableBy_51 rfl (show 3 < 5 by decide) ?_
        intro x6
        refine g_iinc dX12_stableBy_52 rfl ki_1 (show 4 < 5 by decide) ?_
        intro x7
        refine g_goto (tgt := 13) dX12_stableBy_55 (by decide) ?_
        exact g_msk [true, true, true, true, true] (ih _ _ _ _ _ _)
      · intro J50 hJ50
        refine g_ifeq (tgt := 49) dX12_stableBy_35 (by decide) ?_ ?_
        · refine g_iload_n (i := 3) dX12_stableBy_49 rfl rfl ?_
          exact g_msk [true, true, true, false, true] (hJ50 _ _ _ _ _ _ _)
        · refine g_aload_n (i := 1) dX12_stableBy_38 rfl rfl ?_
          refine g_iload_n (i := 2) dX12_stableBy_39 rfl rfl ?_
          refine g_iload dX12_stableBy_40 rfl ?_
          refine g_callSI (crt_X12_knownOf _ _ _ _ _) cw_X12_knownOf (by decide) rfl q_1646 q_1647 rfl rfl dX12_stableBy_42 ?_
          intro r8 m9
          refine g_iaload dX12_stableBy_45 ?_
          refine g_goto (tgt := 50) dX12_stableBy_46 (by decide) ?_
          exact g_msk [true, true, true, false, true] (hJ50 _ _ _ _ _ _ _)
set_option maxRecDepth 100000 in
set_option maxHeartbeats 4000000 in
theorem crt_X12_stableBy (l : Launch) (θ : Th) (a0 : Nat) (a1 : Nat) (a2 : Int32) (m : Mm) : Crt l θ yX12_stableBy M_X12_stableBy cvI [.ref a0, .ref a1, .int a2] m (F_X12_stableBy a0 a1 a2 m) := by
  refine crt_of 2 (by decide) rfl rfl (Nat.le_of_ble_eq_true rfl) (fun Z hμ => ?_)
  unfold F_X12_stableBy
  show GG Z _ _ 0 [some (.ref a0), some (.ref a1), some (.int a2), none, none] [] m _
  refine g_iconst (v := (1 : Int32)) dX12_stableBy_0 ki_1 ?_
  refine g_aload_n (i := 1) dX12_stableBy_1 rfl rfl ?_
  refine g_sipush (v := (187 : Int32)) dX12_stableBy_2 ks_187 ?_
  refine g_iaload dX12_stableBy_5 ?_
  refine g_ishl dX12_stableBy_6 ?_
  refine g_iconst (v := (1 : Int32)) dX12_stableBy_7 ki_1 ?_
  refine g_isub dX12_stableBy_8 ?_
  refine g_istore_n (i := 3) dX12_stableBy_9 rfl (show 3 < 5 by decide) ?_
  intro x1
  refine g_iconst (v := (0 : Int32)) dX12_stableBy_10 ki_0 ?_
  refine g_istore dX12_stableBy_11 (show 4 < 5 by decide) ?_
  intro x2
  exact g_msk [true, true, true, true, true] (c_L_X12_stableBy_13 NF _ _ _ _ _ _)
set_option maxRecDepth 100000 in
set_option maxHeartbeats 4000000 in
theorem crt_X12_trims (l : Launch) (θ : Th) (a0 : Nat) (a1 : Nat) (a2 : Int32) (m : Mm) : Crt l θ yX12_trims M_X12_trims cvI [.ref a0, .ref a1, .int a2] m (F_X12_trims a0 a1 a2 m) := by
  refine crt_of 1 (by decide) rfl rfl (Nat.le_of_ble_eq_true rfl) (fun Z hμ => ?_)
  unfold F_X12_trims
  show GG Z _ _ 0 [some (.ref a0), some (.ref a1), some (.int a2), none] [] m _
  refine g_aload_n (i := 0) dX12_trims_0 rfl rfl ?_
  refine g_aload_n (i := 1) dX12_trims_1 rfl rfl ?_
  refine g_iload_n (i := 2) dX12_trims_2 rfl rfl ?_
  refine g_callVI cl_X12 (crt_X12_stableBy _ _ _ _ _ _) cw_X12_stableBy (by decide) rfl q_1681 q_1683 qs_68 rfl rfl dX12_trims_3 ?_
  intro r1 m2
  refine g_aload_n (i := 1) dX12_trims_6 rfl rfl ?_
  refine g_bipush (v := (18 : Int32)) dX12_trims_7 kb_18 ?_
  refine g_iload_n (i := 2) dX12_trims_9 rfl rfl ?_
  refine g_iadd dX12_trims_10 ?_
  refine g_iaload dX12_trims_11 ?_
  refine g_iand dX12_trims_12 ?_
  refine g_istore_n (i := 3) dX12_trims_13 rfl (show 3 < 4 by decide) ?_
  intro x3
  refine g_aload_n (i := 1) dX12_trims_14 rfl rfl ?_
  refine g_iload_n (i := 2) dX12_trims_15 rfl rfl ?_
  refine g_callSI (crt_X12_isInside _ _ _ _ _) cw_X12_isInside (by decide) rfl q_1640 q_1641 rfl rfl dX12_trims_16 ?_
  intro r4 m5
  refine g_ifeq (tgt := 26) dX12_trims_19 (by decide) ?_ ?_
  · refine g_iconst (v := (0 : Int32)) dX12_trims_26 ki_0 ?_
    exact g_zreturnK rfl (by decide) dX12_trims_27
  · refine g_iload_n (i := 3) dX12_trims_22 rfl rfl ?_
    refine g_ifne (tgt := 28) dX12_trims_23 (by decide) ?_ ?_
    · refine g_aload_n (i := 1) dX12_trims_28 rfl rfl ?_
      refine g_bipush (v := (18 : Int32)) dX12_trims_29 kb_18 ?_
      refine g_iload_n (i := 2) dX12_trims_31 rfl rfl ?_
      refine g_iadd dX12_trims_32 ?_
      refine g_dup2 dX12_trims_33 rfl rfl ?_
      refine g_iaload dX12_trims_34 ?_
      refine g_iload_n (i := 3) dX12_trims_35 rfl rfl ?_
      refine g_iconst (v := (-1 : Int32)) dX12_trims_36 ki_m1 ?_
      refine g_ixor dX12_trims_37 ?_
      refine g_iand dX12_trims_38 ?_
      refine g_iastore dX12_trims_39 ?_
      intro m6
      refine g_iconst (v := (1 : Int32)) dX12_trims_40 ki_1 ?_
      exact g_zreturnK rfl (by decide) dX12_trims_41
    · refine g_iconst (v := (0 : Int32)) dX12_trims_26 ki_0 ?_
      exact g_zreturnK rfl (by decide) dX12_trims_27
set_option maxRecDepth 100000 in
set_option maxHeartbeats 4000000 in
theorem c_L_X12_forgets_23 {Z : Zx}    : ∀ (n : Nat) (v0 : Nat) (v1 : Int32) (v2 : Int32) (m : Mm), GG Z M_X12_forgets (PsN Z cvV) 23 [some (.ref v0), some (.int v1), some (.int v2)] [] m (L_X12_forgets_23 n v0 v1 v2 m) := by
  intro n
  induction n with
  | zero => intro v0 v1 v2 m; exact g_no
  | succ n ih =>
    intro v0 v1 v2 m
    unfold L_X12_forgets_23
    refine g_iload_n (i := 2) dX12_forgets_23 rfl rfl ?_
    refine g_bipush (v := (6 : Int32)) dX12_forgets_24 kb_6 ?_
    refine g_icmpge (tgt := 43) dX12_forgets_26 (by decide) ?_ ?_
    · exact g_return rfl dX12_forgets_43
    · refine g_aload_n (i := 0) dX12_forgets_29 rfl rfl ?_
      refine g_iload_n (i := 1) dX12_forgets_30 rfl rfl ?_
      refine g_iload_n (i := 2) dX12_forgets_31 rfl rfl ?_
      refine g_callSI (crt_X12_knownOf _ _ _ _ _) cw_X12_knownOf (by decide) rfl q_1646 q_1647 rfl rfl dX12_forgets_32 ?_
      intro r5 m6
      refine g_iconst (v := (0 : Int32)) dX12_forgets_35 ki_0 ?_
      refine g_iastore dX12_forgets_36 ?_
      intro m7
      refine g_iinc dX12_forgets_37 rfl ki_1 (show 2 < 3 by decide) ?_
      intro x8
      refine g_goto (tgt := 23) dX12_forgets_40 (by decide) ?_
      exact g_msk [true, true, true] (ih _ _ _ _)
set_option maxRecDepth 100000 in
set_option maxHeartbeats 4000000 in
theorem crt_X12_forgets (l : Launch) (θ : Th) (a0 : Nat) (a1 : Int32) (m : Mm) : Crt l θ yX12_forgets M_X12_forgets cvV [.ref a0, .int a1] m (F_X12_forgets a0 a1 m) := by
  refine crt_of 1 (by decide) rfl rfl (Nat.le_of_ble_eq_true rfl) (fun Z hμ => ?_)
  unfold F_X12_forgets
  show GG Z _ _ 0 [some (.ref a0), some (.int a1), none] [] m _
  refine g_aload_n (i := 0) dX12_forgets_0 rfl rfl ?_
  refine g_bipush (v := (12 : Int32)) dX12_forgets_1 kb_12 ?_
  refine g_iload_n (i := 1) dX12_forgets_3 rfl rfl ?_
  refine g_iadd dX12_forgets_4 ?_
  refine g_iconst (v := (0 : Int32)) dX12_forgets_5 ki_0 ?_
  refine g_iastore dX12_forgets_6 ?_
  intro m1
  refine g_aload_n (i := 0) dX12_forgets_7 rfl rfl ?_
  refine g_bipush (v := (18 : Int32)) dX12_forgets_8 kb_18 ?_
  refine g_iload_n (i := 1) dX12_forgets_10 rfl rfl ?_
  refine g_iadd dX12_forgets_11 ?_
  refine g_iconst (v := (0 : Int32)) dX12_forgets_12 ki_0 ?_
  refine g_iastore dX12_forgets_13 ?_
  intro m2
  refine g_aload_n (i := 0) dX12_forgets_14 rfl rfl ?_
  refine g_bipush (v := (24 : Int32)) dX12_forgets_15 kb_24 ?_
  refine g_iload_n (i := 1) dX12_forgets_17 rfl rfl ?_
  refine g_iadd dX12_forgets_18 ?_
  refine g_iconst (v := (0 : Int32)) dX12_forgets_19 ki_0 ?_
  refine g_iastore dX12_forgets_20 ?_
  intro m3
  refine g_iconst (v := (0 : Int32)) dX12_forgets_21 ki_0 ?_
  refine g_istore_n (i := 2) dX12_forgets_22 rfl (show 2 < 3 by decide) ?_
  intro x4
  exact g_msk [true, true, true] (c_L_X12_forgets_23 NF _ _ _ _)
set_option maxRecDepth 100000 in
set_option maxHeartbeats 4000000 in
theorem crt_X12_crashes (l : Launch) (θ : Th) (a0 : Nat) (a1 : Int32) (m : Mm) : Crt l θ yX12_crashes M_X12_crashes cvI [.ref a0, .int a1] m (F_X12_crashes a0 a1 m) := by
  refine crt_of 1 (by decide) rfl rfl (Nat.le_of_ble_eq_true rfl) (fun Z hμ => ?_)
  unfold F_X12_crashes
  show GG Z _ _ 0 [some (.ref a0), some (.int a1), none] [] m _
  refine g_aload_n (i := 0) dX12_crashes_0 rfl rfl ?_
  refine g_sipush (v := (184 : Int32)) dX12_crashes_1 ks_184 ?_
  refine g_iaload dX12_crashes_4 ?_
  refine g_iload_n (i := 1) dX12_crashes_5 rfl rfl ?_
  refine g_callSI (crt_X12_has _ _ _ _ _) cw_X12_has (by decide) rfl q_1378 q_1379 rfl rfl dX12_crashes_6 ?_
  intro r1 m2
  refine g_ifne (tgt := 14) dX12_crashes_9 (by decide) ?_ ?_
  · refine g_iconst (v := (1 : Int32)) dX12_crashes_14 ki_1 ?_
    refine g_iload_n (i := 1) dX12_crashes_15 rfl rfl ?_
    refine g_ishl dX12_crashes_16 ?_
    refine g_iconst (v := (-1 : Int32)) dX12_crashes_17 ki_m1 ?_
    refine g_ixor dX12_crashes_18 ?_
    refine g_istore_n (i := 2) dX12_crashes_19 rfl (show 2 < 3 by decide) ?_
    intro x3
    refine g_aload_n (i := 0) dX12_crashes_20 rfl rfl ?_
    refine g_sipush (v := (184 : Int32)) dX12_crashes_21 ks_184 ?_
    refine g_dup2 dX12_crashes_24 rfl rfl ?_
    refine g_iaload dX12_crashes_25 ?_
    refine g_iload_n (i := 2) dX12_crashes_26 rfl rfl ?_
    refine g_iand dX12_crashes_27 ?_
    refine g_iastore dX12_crashes_28 ?_
    intro m4
    refine g_aload_n (i := 0) dX12_crashes_29 rfl rfl ?_
    refine g_sipush (v := (183 : Int32)) dX12_crashes_30 ks_183 ?_
    refine g_dup2 dX12_crashes_33 rfl rfl ?_
    refine g_iaload dX12_crashes_34 ?_
    refine g_iload_n (i := 2) dX12_crashes_35 rfl rfl ?_
    refine g_iand dX12_crashes_36 ?_
    refine g_iastore dX12_crashes_37 ?_
    intro m5
    refine g_aload_n (i := 0) dX12_crashes_38 rfl rfl ?_
    refine g_sipush (v := (185 : Int32)) dX12_crashes_39 ks_185 ?_
    refine g_dup2 dX12_crashes_42 rfl rfl ?_
    refine g_iaload dX12_crashes_43 ?_
    refine g_iload_n (i := 2) dX12_crashes_44 rfl rfl ?_
    refine g_iand dX12_crashes_45 ?_
    refine g_iastore dX12_crashes_46 ?_
    intro m6
    refine g_aload_n (i := 0) dX12_crashes_47 rfl rfl ?_
    refine g_sipush (v := (186 : Int32)) dX12_crashes_48 ks_186 ?_
    refine g_dup2 dX12_crashes_51 rfl rfl ?_
    refine g_iaload dX12_crashes_52 ?_
    refine g_iload_n (i := 2) dX12_crashes_53 rfl rfl ?_
    refine g_iand dX12_crashes_54 ?_
    refine g_iastore dX12_crashes_55 ?_
    intro m7
    refine g_aload_n (i := 0) dX12_crashes_56 rfl rfl ?_
    refine g_bipush (v := (30 : Int32)) dX12_crashes_57 kb_30 ?_
    refine g_iload_n (i := 1) dX12_crashes_59 rfl rfl ?_
    refine g_iadd dX12_crashes_60 ?_
    refine g_iconst (v := (0 : Int32)) dX12_crashes_61 ki_0 ?_
    refine g_iastore dX12_crashes_62 ?_
    intro m8
    refine g_aload_n (i := 0) dX12_crashes_63 rfl rfl ?_
    refine g_iload_n (i := 1) dX12_crashes_64 rfl rfl ?_
    refine g_callSV (crt_X12_forgets _ _ _ _ _) cw_X12_forgets (by decide) rfl q_1688 q_1689 rfl rfl dX12_crashes_65 ?_
    intro r9 m10
    refine g_iconst (v := (1 : Int32)) dX12_crashes_68 ki_1 ?_
    exact g_zreturnK rfl (by decide) dX12_crashes_69
  · refine g_iconst (v := (0 : Int32)) dX12_crashes_12 ki_0 ?_
    exact g_zreturnK rfl (by decide) dX12_crashes_13
set_option maxRecDepth 100000 in
set_option maxHeartbeats 4000000 in
theorem crt_X12_joins (l : Launch) (θ : Th) (a0 : Nat) (a1 : Int32) (m : Mm) : Crt l θ yX12_joins M_X12_joins cvI [.ref a0, .int a1] m (F_X12_joins a0 a1 m) := by
  refine crt_of 0 (by decide) rfl rfl (Nat.le_of_ble_eq_true rfl) (fun Z hμ => ?_)
  unfold F_X12_joins
  show GG Z _ _ 0 [some (.ref a0), some (.int a1)] [] m _
  refine g_aload_n (i := 0) dX12_joins_0 rfl rfl ?_
  refine g_iload_n (i := 1) dX12_joins_1 rfl rfl ?_
  refine g_callSI (crt_X12_isInside _ _ _ _ _) cw_X12_isInside (by decide) rfl q_1640 q_1641 rfl rfl dX12_joins_2 ?_
  intro r1 m2
  refine g_ifne (tgt := 20) dX12_joins_5 (by decide) ?_ ?_
  · refine g_iconst (v := (0 : Int32)) dX12_joins_20 ki_0 ?_
    exact g_zreturnK rfl (by decide) dX12_joins_21
  · refine g_aload_n (i := 0) dX12_joins_8 rfl rfl ?_
    refine g_sipush (v := (186 : Int32)) dX12_joins_9 ks_186 ?_
    refine g_iaload dX12_joins_12 ?_
    refine g_iload_n (i := 1) dX12_joins_13 rfl rfl ?_
    refine g_callSI (crt_X12_has _ _ _ _ _) cw_X12_has (by decide) rfl q_1378 q_1379 rfl rfl dX12_joins_14 ?_
    intro r3 m4
    refine g_ifeq (tgt := 22) dX12_joins_17 (by decide) ?_ ?_
    · refine g_aload_n (i := 0) dX12_joins_22 rfl rfl ?_
      refine g_sipush (v := (184 : Int32)) dX12_joins_23 ks_184 ?_
      refine g_dup2 dX12_joins_26 rfl rfl ?_
      refine g_iaload dX12_joins_27 ?_
      refine g_iconst (v := (1 : Int32)) dX12_joins_28 ki_1 ?_
      refine g_iload_n (i := 1) dX12_joins_29 rfl rfl ?_
      refine g_ishl dX12_joins_30 ?_
      refine g_ior dX12_joins_31 ?_
      refine g_iastore dX12_joins_32 ?_
      intro m5
      refine g_aload_n (i := 0) dX12_joins_33 rfl rfl ?_
      refine g_sipush (v := (186 : Int32)) dX12_joins_34 ks_186 ?_
      refine g_dup2 dX12_joins_37 rfl rfl ?_
      refine g_iaload dX12_joins_38 ?_
      refine g_iconst (v := (1 : Int32)) dX12_joins_39 ki_1 ?_
      refine g_iload_n (i := 1) dX12_joins_40 rfl rfl ?_
      refine g_ishl dX12_joins_41 ?_
      refine g_ior dX12_joins_42 ?_
      refine g_iastore dX12_joins_43 ?_
      intro m6
      refine g_iconst (v := (1 : Int32)) dX12_joins_44 ki_1 ?_
      exact g_zreturnK rfl (by decide) dX12_joins_45
    · refine g_iconst (v := (0 : Int32)) dX12_joins_20 ki_0 ?_
      exact g_zreturnK rfl (by decide) dX12_joins_21
set_option maxRecDepth 100000 in
set_option maxHeartbeats 4000000 in
theorem crt_X12_weightBy (l : Launch) (θ : Th) (a0 : Nat) (a1 : Int32) (a2 : Int32) (a3 : Int32) (a4 : Int32) (m : Mm) : Crt l θ yX12_weightBy M_X12_weightBy cvI [.ref a0, .int a1, .int a2, .int a3, .int a4] m (F_X12_weightBy a0 a1 a2 a3 a4 m) := by
  refine crt_of 0 (by decide) rfl rfl (Nat.le_of_ble_eq_true rfl) (fun Z hμ => ?_)
  unfold F_X12_weightBy
  show GG Z _ _ 0 [some (.ref a0), some (.int a1), some (.int a2), some (.int a3), some (.int a4)] [] m _
  refine g_aload_n (i := 0) dX12_weightBy_0 rfl rfl ?_
  refine g_getR (k := 20) cl_X12 (by decide) rfl q_1401 dX12_weightBy_1 ?_
  intro q1
  refine g_iconst (v := (0 : Int32)) dX12_weightBy_4 ki_0 ?_
  refine g_iload_n (i := 1) dX12_weightBy_5 rfl rfl ?_
  refine g_iastore dX12_weightBy_6 ?_
  intro m2
  refine g_aload_n (i := 0) dX12_weightBy_7 rfl rfl ?_
  refine g_getR (k := 20) cl_X12 (by decide) rfl q_1401 dX12_weightBy_8 ?_
  intro q3
  refine g_iconst (v := (1 : Int32)) dX12_weightBy_11 ki_1 ?_
  refine g_iload_n (i := 2) dX12_weightBy_12 rfl rfl ?_
  refine g_iastore dX12_weightBy_13 ?_
  intro m4
  refine g_aload_n (i := 0) dX12_weightBy_14 rfl rfl ?_
  refine g_getR (k := 20) cl_X12 (by decide) rfl q_1401 dX12_weightBy_15 ?_
  intro q5
  refine g_iconst (v := (2 : Int32)) dX12_weightBy_18 ki_2 ?_
  refine g_iload_n (i := 3) dX12_weightBy_19 rfl rfl ?_
  refine g_iastore dX12_weightBy_20 ?_
  intro m6
  refine g_aload_n (i := 0) dX12_weightBy_21 rfl rfl ?_
  refine g_getR (k := 20) cl_X12 (by decide) rfl q_1401 dX12_weightBy_22 ?_
  intro q7
  refine g_iconst (v := (3 : Int32)) dX12_weightBy_25 ki_3 ?_
  refine g_iload dX12_weightBy_26 rfl ?_
  refine g_iastore dX12_weightBy_28 ?_
  intro m8
  refine g_aload_n (i := 0) dX12_weightBy_29 rfl rfl ?_
  refine g_callVI cl_X12 (crt_X12_byLaw _ _ _ _) cw_X12_byLaw (by decide) rfl q_1725 q_1727 qs_76 rfl rfl dX12_weightBy_30 ?_
  intro r9 m10
  exact g_ireturn rfl dX12_weightBy_33
set_option maxRecDepth 100000 in
set_option maxHeartbeats 4000000 in
theorem crt_X12_weight (l : Launch) (θ : Th) (a0 : Nat) (a1 : Nat) (a2 : Int32) (m : Mm) : Crt l θ yX12_weight M_X12_weight cvI [.ref a0, .ref a1, .int a2] m (F_X12_weight a0 a1 a2 m) := by
  refine crt_of 0 (by decide) rfl rfl (Nat.le_of_ble_eq_true rfl) (fun Z hμ => ?_)
  unfold F_X12_weight
  show GG Z _ _ 0 [some (.ref a0), some (.ref a1), some (.int a2)] [] m _
  refine g_aload_n (i := 0) dX12_weight_0 rfl rfl ?_
  refine g_iload_n (i := 2) dX12_weight_1 rfl rfl ?_
  refine g_aload_n (i := 1) dX12_weight_2 rfl rfl ?_
  refine g_iconst (v := (0 : Int32)) dX12_weight_3 ki_0 ?_
  refine g_iload_n (i := 2) dX12_weight_4 rfl rfl ?_
  refine g_iadd dX12_weight_5 ?_
  refine g_iaload dX12_weight_6 ?_
  refine g_aload_n (i := 1) dX12_weight_7 rfl rfl ?_
  refine g_sipush (v := (181 : Int32)) dX12_weight_8 ks_181 ?_
  refine g_iaload dX12_weight_11 ?_
  refine g_aload_n (i := 1) dX12_weight_12 rfl rfl ?_
  refine g_sipush (v := (182 : Int32)) dX12_weight_13 ks_182 ?_
  refine g_iaload dX12_weight_16 ?_
  refine g_callSI (crt_X12_ones _ _ _ _) cw_X12_ones (by decide) rfl q_1718 q_1719 rfl rfl dX12_weight_17 ?_
  intro r1 m2
  refine g_callVI cl_X12 (crt_X12_weightBy _ _ _ _ _ _ _ _) cw_X12_weightBy (by decide) rfl q_1721 q_1723 qs_75 rfl rfl dX12_weight_20 ?_
  intro r3 m4
  exact g_ireturn rfl dX12_weight_23
set_option maxRecDepth 100000 in
set_option maxHeartbeats 4000000 in
theorem c_L_X12_weigh_5 {Z : Zx}    : ∀ (n : Nat) (v0 : Nat) (v1 : Nat) (v2 : Int32) (v3 : Int32) (v4 : Int32) (m : Mm), GG Z M_X12_weigh (PsN Z cvI) 5 [some (.ref v0), some (.ref v1), some (.int v2), some (.int v3), some (.int v4)] [] m (L_X12_weigh_5 n v0 v1 v2 v3 v4 m) := by
  intro n
  induction n with
  | zero => intro v0 v1 v2 v3 v4 m; exact g_no
  | succ n ih =>
    intro v0 v1 v2 v3 v4 m
    unfold L_X12_weigh_5
    refine g_iload dX12_weigh_5 rfl ?_
    refine g_aload_n (i := 0) dX12_weigh_7 rfl rfl ?_
    refine g_getR (k := 12) cl_X12 (by decide) rfl q_1393 dX12_weigh_8 ?_
    intro q3
    refine g_iconst (v := (0 : Int32)) dX12_weigh_11 ki_0 ?_
    refine g_iaload dX12_weigh_12 ?_
    refine g_icmpge (tgt := 45) dX12_weigh_13 (by decide) ?_ ?_
    · refine g_iload_n (i := 3) dX12_weigh_45 rfl rfl ?_
      exact g_ireturn rfl dX12_weigh_46
    · refine g_iload_n (i := 3) dX12_weigh_16 rfl rfl ?_
      refine g_iload_n (i := 2) dX12_weigh_17 rfl rfl ?_
      refine g_iload dX12_weigh_18 rfl ?_
      refine g_callSI (crt_X12_has _ _ _ _ _) cw_X12_has (by decide) rfl q_1378 q_1379 rfl rfl dX12_weigh_20 ?_
      intro r4 m5
      refine g_jn (fun J37 => ∀ (v0 : Nat) (v1 : Nat) (v2 : Int32) (v4 : Int32) (s0 : Int32) (s1 : Int32) (m : Mm), GG Z M_X12_weigh (PsN Z cvI) 37 [some (.ref v0), some (.ref v1), some (.int v2), none, some (.int v4)] [.int s0, .int s1] m (J37 v0 v1 v2 v4 s0 s1 m)) ?_ ?_
      · intro v0 v1 v2 v4 s0 s1 m
        refine g_iadd dX12_weigh_37 ?_
        refine g_istore_n (i := 3) dX12_weigh_38 rfl (show 3 < 5 by decide) ?_
        intro x6
        refine g_iinc dX12_weigh_39 rfl ki_1 (show 4 < 5 by decide) ?_
        intro x7
        refine g_goto (tgt := 5) dX12_weigh_42 (by decide) ?_
        exact g_msk [true, true, true, true, true] (ih _ _ _ _ _ _)
      · intro J37 hJ37
        refine g_ifeq (tgt := 36) dX12_weigh_23 (by decide) ?_ ?_
        · refine g_iconst (v := (0 : Int32)) dX12_weigh_36 ki_0 ?_
          exact g_msk [true, true, true, false, true] (hJ37 _ _ _ _ _ _ _)
        · refine g_aload_n (i := 0) dX12_weigh_26 rfl rfl ?_
          refine g_aload_n (i := 1) dX12_weigh_27 rfl rfl ?_
          refine g_iload dX12_weigh_28 rfl ?_
          refine g_callVI cl_X12 (crt_X12_weight _ _ _ _ _ _) cw_X12_weight (by decide) rfl q_1714 q_1716 qs_74 rfl rfl dX12_weigh_30 ?_
          intro r8 m9
          refine g_goto (tgt := 37) dX12_weigh_33 (by decide) ?_
          exact g_msk [true, true, true, false, true] (hJ37 _ _ _ _ _ _ _)
set_option maxRecDepth 100000 in
set_option maxHeartbeats 4000000 in
theorem crt_X12_weigh (l : Launch) (θ : Th) (a0 : Nat) (a1 : Nat) (a2 : Int32) (m : Mm) : Crt l θ yX12_weigh M_X12_weigh cvI [.ref a0, .ref a1, .int a2] m (F_X12_weigh a0 a1 a2 m) := by
  refine crt_of 2 (by decide) rfl rfl (Nat.le_of_ble_eq_true rfl) (fun Z hμ => ?_)
  unfold F_X12_weigh
  show GG Z _ _ 0 [some (.ref a0), some (.ref a1), some (.int a2), none, none] [] m _
  refine g_iconst (v := (0 : Int32)) dX12_weigh_0 ki_0 ?_
  refine g_istore_n (i := 3) dX12_weigh_1 rfl (show 3 < 5 by decide) ?_
  intro x1
  refine g_iconst (v := (0 : Int32)) dX12_weigh_2 ki_0 ?_
  refine g_istore dX12_weigh_3 (show 4 < 5 by decide) ?_
  intro x2
  exact g_msk [true, true, true, true, true] (c_L_X12_weigh_5 NF _ _ _ _ _ _)
set_option maxRecDepth 100000 in
set_option maxHeartbeats 4000000 in
theorem c_L_X12_primaryBy_27 {Z : Zx}  {K69 : Nat → Int32 → Int32 → Mm → Option (Int32 × Mm)} (hK69 : ∀ (v1 : Nat) (v3 : Int32) (v7 : Int32) (m : Mm), GG Z M_X12_primaryBy (PsN Z cvI) 69 [none, some (.ref v1), none, some (.int v3), none, none, none, some (.int v7)] [] m (K69 v1 v3 v7 m)) : ∀ (n : Nat) (v0 : Nat) (v1 : Nat) (v2 : Int32) (v3 : Int32) (v4 : Int32) (v5 : Int32) (v6 : Int32) (m : Mm), GG Z M_X12_primaryBy (PsN Z cvI) 27 [some (.ref v0), some (.ref v1), some (.int v2), some (.int v3), some (.int v4), some (.int v5), some (.int v6), none] [] m (L_X12_primaryBy_27 K69 n v0 v1 v2 v3 v4 v5 v6 m) := by
  intro n
  induction n with
  | zero => intro v0 v1 v2 v3 v4 v5 v6 m; exact g_no
  | succ n ih =>
    intro v0 v1 v2 v3 v4 v5 v6 m
    unfold L_X12_primaryBy_27
    refine g_iload dX12_primaryBy_27 rfl ?_
    refine g_iconst (v := (2 : Int32)) dX12_primaryBy_29 ki_2 ?_
    refine g_icmpge (tgt := 92) dX12_primaryBy_30 (by decide) ?_ ?_
    · refine g_iconst (v := (-1 : Int32)) dX12_primaryBy_92 ki_m1 ?_
      exact g_ireturn rfl dX12_primaryBy_93
    · refine g_iload dX12_primaryBy_33 rfl ?_
      refine g_jn (fun J51 => ∀ (v0 : Nat) (v1 : Nat) (v2 : Int32) (v3 : Int32) (v4 : Int32) (v5 : Int32) (v6 : Int32) (s0 : Int32) (m : Mm), GG Z M_X12_primaryBy (PsN Z cvI) 51 [some (.ref v0), some (.ref v1), some (.int v2), some (.int v3), some (.int v4), some (.int v5), some (.int v6), none] [.int s0] m (J51 v0 v1 v2 v3 v4 v5 v6 s0 m)) ?_ ?_
      · intro v0 v1 v2 v3 v4 v5 v6 s0 m
        refine g_istore dX12_primaryBy_51 (show 7 < 8 by decide) ?_
        intro x7
        refine g_iconst (v := (2 : Int32)) dX12_primaryBy_53 ki_2 ?_
        refine g_aload_n (i := 0) dX12_primaryBy_54 rfl rfl ?_
        refine g_aload_n (i := 1) dX12_primaryBy_55 rfl rfl ?_
        refine g_iload dX12_primaryBy_56 rfl ?_
        refine g_iload_n (i := 3) dX12_primaryBy_58 rfl rfl ?_
        refine g_iand dX12_primaryBy_59 ?_
        refine g_callVI cl_X12 (crt_X12_weigh _ _ _ _ _ _) cw_X12_weigh (by decide) rfl q_1710 q_1712 qs_73 rfl rfl dX12_primaryBy_60 ?_
        intro r8 m9
        refine g_imul dX12_primaryBy_63 ?_
        refine g_iload dX12_primaryBy_64 rfl ?_
        refine g_icmple (tgt := 86) dX12_primaryBy_66 (by decide) ?_ ?_
        · refine g_iinc dX12_primaryBy_86 rfl ki_1 (show 6 < 8 by decide) ?_
          intro x10
          refine g_goto (tgt := 27) dX12_primaryBy_89 (by decide) ?_
          exact g_msk [true, true, true, true, true, true, true, false] (ih _ _ _ _ _ _ _ _)
        · exact g_msk [false, true, false, true, false, false, false, true] (hK69 _ _ _ _)
      · intro J51 hJ51
        refine g_ifne (tgt := 45) dX12_primaryBy_35 (by decide) ?_ ?_
        · refine g_iload dX12_primaryBy_45 rfl ?_
          refine g_iload_n (i := 2) dX12_primaryBy_47 rfl rfl ?_
          refine g_iconst (v := (-1 : Int32)) dX12_primaryBy_48 ki_m1 ?_
          refine g_ixor dX12_primaryBy_49 ?_
          refine g_iand dX12_primaryBy_50 ?_
          exact g_msk [true, true, true, true, true, true, true, false] (hJ51 _ _ _ _ _ _ _ _ _)
        · refine g_iload_n (i := 2) dX12_primaryBy_38 rfl rfl ?_
          refine g_iload dX12_primaryBy_39 rfl ?_
          refine g_iand dX12_primaryBy_41 ?_
          refine g_goto (tgt := 51) dX12_primaryBy_42 (by decide) ?_
          exact g_msk [true, true, true, true, true, true, true, false] (hJ51 _ _ _ _ _ _ _ _ _)
set_option maxRecDepth 100000 in
set_option maxHeartbeats 4000000 in
theorem crt_X12_primaryBy (l : Launch) (θ : Th) (a0 : Nat) (a1 : Nat) (a2 : Int32) (a3 : Int32) (m : Mm) : Crt l θ yX12_primaryBy M_X12_primaryBy cvI [.ref a0, .ref a1, .int a2, .int a3] m (F_X12_primaryBy a0 a1 a2 a3 m) := by
  refine crt_of 4 (by decide) rfl rfl (Nat.le_of_ble_eq_true rfl) (fun Z hμ => ?_)
  unfold F_X12_primaryBy
  show GG Z _ _ 0 [some (.ref a0), some (.ref a1), some (.int a2), some (.int a3), none, none, none, none] [] m _
  refine g_iconst (v := (1 : Int32)) dX12_primaryBy_0 ki_1 ?_
  refine g_aload_n (i := 0) dX12_primaryBy_1 rfl rfl ?_
  refine g_getR (k := 12) cl_X12 (by decide) rfl q_1393 dX12_primaryBy_2 ?_
  intro q1
  refine g_iconst (v := (0 : Int32)) dX12_primaryBy_5 ki_0 ?_
  refine g_iaload dX12_primaryBy_6 ?_
  refine g_ishl dX12_primaryBy_7 ?_
  refine g_iconst (v := (1 : Int32)) dX12_primaryBy_8 ki_1 ?_
  refine g_isub dX12_primaryBy_9 ?_
  refine g_istore dX12_primaryBy_10 (show 4 < 8 by decide) ?_
  intro x2
  refine g_aload_n (i := 0) dX12_primaryBy_12 rfl rfl ?_
  refine g_aload_n (i := 1) dX12_primaryBy_13 rfl rfl ?_
  refine g_aload_n (i := 1) dX12_primaryBy_14 rfl rfl ?_
  refine g_sipush (v := (182 : Int32)) dX12_primaryBy_15 ks_182 ?_
  refine g_iaload dX12_primaryBy_18 ?_
  refine g_callVI cl_X12 (crt_X12_weigh _ _ _ _ _ _) cw_X12_weigh (by decide) rfl q_1710 q_1712 qs_73 rfl rfl dX12_primaryBy_19 ?_
  intro r3 m4
  refine g_istore dX12_primaryBy_22 (show 5 < 8 by decide) ?_
  intro x5
  refine g_iconst (v := (0 : Int32)) dX12_primaryBy_24 ki_0 ?_
  refine g_istore dX12_primaryBy_25 (show 6 < 8 by decide) ?_
  intro x6
  refine g_msk [true, true, true, true, true, true, true, false] (c_L_X12_primaryBy_27 ?_ NF _ _ _ _ _ _ _ _)
  intro v1 v3 v7 m
  refine g_iload dX12_primaryBy_69 rfl ?_
  refine g_iload_n (i := 3) dX12_primaryBy_71 rfl rfl ?_
  refine g_aload_n (i := 1) dX12_primaryBy_72 rfl rfl ?_
  refine g_sipush (v := (184 : Int32)) dX12_primaryBy_73 ks_184 ?_
  refine g_iaload dX12_primaryBy_76 ?_
  refine g_aload_n (i := 1) dX12_primaryBy_77 rfl rfl ?_
  refine g_sipush (v := (186 : Int32)) dX12_primaryBy_78 ks_186 ?_
  refine g_iaload dX12_primaryBy_81 ?_
  refine g_iand dX12_primaryBy_82 ?_
  refine g_ior dX12_primaryBy_83 ?_
  refine g_iand dX12_primaryBy_84 ?_
  exact g_ireturn rfl dX12_primaryBy_85
set_option maxRecDepth 100000 in
set_option maxHeartbeats 4000000 in
theorem crt_X12_primaryOf (l : Launch) (θ : Th) (a0 : Nat) (a1 : Nat) (m : Mm) : Crt l θ yX12_primaryOf M_X12_primaryOf cvI [.ref a0, .ref a1] m (F_X12_primaryOf a0 a1 m) := by
  refine crt_of 0 (by decide) rfl rfl (Nat.le_of_ble_eq_true rfl) (fun Z hμ => ?_)
  unfold F_X12_primaryOf
  show GG Z _ _ 0 [some (.ref a0), some (.ref a1)] [] m _
  refine g_aload_n (i := 0) dX12_primaryOf_0 rfl rfl ?_
  refine g_aload_n (i := 1) dX12_primaryOf_1 rfl rfl ?_
  refine g_aload_n (i := 1) dX12_primaryOf_2 rfl rfl ?_
  refine g_sipush (v := (180 : Int32)) dX12_primaryOf_3 ks_180 ?_
  refine g_iaload dX12_primaryOf_6 ?_
  refine g_aload_n (i := 1) dX12_primaryOf_7 rfl rfl ?_
  refine g_sipush (v := (184 : Int32)) dX12_primaryOf_8 ks_184 ?_
  refine g_iaload dX12_primaryOf_11 ?_
  refine g_aload_n (i := 1) dX12_primaryOf_12 rfl rfl ?_
  refine g_sipush (v := (183 : Int32)) dX12_primaryOf_13 ks_183 ?_
  refine g_iaload dX12_primaryOf_16 ?_
  refine g_iand dX12_primaryOf_17 ?_
  refine g_callVI cl_X12 (crt_X12_primaryBy _ _ _ _ _ _ _) cw_X12_primaryBy (by decide) rfl q_1706 q_1708 qs_72 rfl rfl dX12_primaryOf_18 ?_
  intro r1 m2
  exact g_ireturn rfl dX12_primaryOf_21
set_option maxRecDepth 100000 in
set_option maxHeartbeats 4000000 in
theorem crt_X12_survivors (l : Launch) (θ : Th) (a0 : Nat) (a1 : Nat) (m : Mm) : Crt l θ yX12_survivors M_X12_survivors cvI [.ref a0, .ref a1] m (F_X12_survivors a0 a1 m) := by
  refine crt_of 1 (by decide) rfl rfl (Nat.le_of_ble_eq_true rfl) (fun Z hμ => ?_)
  unfold F_X12_survivors
  show GG Z _ _ 0 [some (.ref a0), some (.ref a1), none] [] m _
  refine g_aload_n (i := 0) dX12_survivors_0 rfl rfl ?_
  refine g_aload_n (i := 1) dX12_survivors_1 rfl rfl ?_
  refine g_callVI cl_X12 (crt_X12_primaryOf _ _ _ _ _) cw_X12_primaryOf (by decide) rfl q_1702 q_1704 qs_71 rfl rfl dX12_survivors_2 ?_
  intro r1 m2
  refine g_istore_n (i := 2) dX12_survivors_5 rfl (show 2 < 3 by decide) ?_
  intro x3
  refine g_iload_n (i := 2) dX12_survivors_6 rfl rfl ?_
  refine g_iconst (v := (-1 : Int32)) dX12_survivors_7 ki_m1 ?_
  refine g_icmpne (tgt := 15) dX12_survivors_8 (by decide) ?_ ?_
  · refine g_iload_n (i := 2) dX12_survivors_15 rfl rfl ?_
    refine g_aload_n (i := 1) dX12_survivors_16 rfl rfl ?_
    refine g_sipush (v := (183 : Int32)) dX12_survivors_17 ks_183 ?_
    refine g_iaload dX12_survivors_20 ?_
    refine g_iand dX12_survivors_21 ?_
    exact g_ireturn rfl dX12_survivors_22
  · refine g_iconst (v := (0 : Int32)) dX12_survivors_11 ki_0 ?_
    refine g_goto (tgt := 22) dX12_survivors_12 (by decide) ?_
    exact g_ireturn rfl dX12_survivors_22
set_option maxRecDepth 100000 in
set_option maxHeartbeats 4000000 in
theorem c_L_X12_keptBy_5 {Z : Zx}    : ∀ (n : Nat) (v0 : Nat) (v1 : Nat) (v2 : Int32) (v3 : Int32) (v4 : Int32) (m : Mm), GG Z M_X12_keptBy (PsN Z cvI) 5 [some (.ref v0), some (.ref v1), some (.int v2), some (.int v3), some (.int v4)] [] m (L_X12_keptBy_5 n v0 v1 v2 v3 v4 m) := by
  intro n
  induction n with
  | zero => intro v0 v1 v2 v3 v4 m; exact g_no
  | succ n ih =>
    intro v0 v1 v2 v3 v4 m
    unfold L_X12_keptBy_5
    refine g_iload dX12_keptBy_5 rfl ?_
    refine g_aload_n (i := 0) dX12_keptBy_7 rfl rfl ?_
    refine g_getR (k := 12) cl_X12 (by decide) rfl q_1393 dX12_keptBy_8 ?_
    intro q3
    refine g_iconst (v := (0 : Int32)) dX12_keptBy_11 ki_0 ?_
    refine g_iaload dX12_keptBy_12 ?_
    refine g_icmpge (tgt := 45) dX12_keptBy_13 (by decide) ?_ ?_
    · refine g_iload_n (i := 3) dX12_keptBy_45 rfl rfl ?_
      exact g_ireturn rfl dX12_keptBy_46
    · refine g_iload_n (i := 3) dX12_keptBy_16 rfl rfl ?_
      refine g_iload_n (i := 2) dX12_keptBy_17 rfl rfl ?_
      refine g_iload dX12_keptBy_18 rfl ?_
      refine g_callSI (crt_X12_has _ _ _ _ _) cw_X12_has (by decide) rfl q_1378 q_1379 rfl rfl dX12_keptBy_20 ?_
      intro r4 m5
      refine g_jn (fun J37 => ∀ (v0 : Nat) (v1 : Nat) (v2 : Int32) (v4 : Int32) (s0 : Int32) (s1 : Int32) (m : Mm), GG Z M_X12_keptBy (PsN Z cvI) 37 [some (.ref v0), some (.ref v1), some (.int v2), none, some (.int v4)] [.int s0, .int s1] m (J37 v0 v1 v2 v4 s0 s1 m)) ?_ ?_
      · intro v0 v1 v2 v4 s0 s1 m
        refine g_ior dX12_keptBy_37 ?_
        refine g_istore_n (i := 3) dX12_keptBy_38 rfl (show 3 < 5 by decide) ?_
        intro x6
        refine g_iinc dX12_keptBy_39 rfl ki_1 (show 4 < 5 by decide) ?_
        intro x7
        refine g_goto (tgt := 5) dX12_keptBy_42 (by decide) ?_
        exact g_msk [true, true, true, true, true] (ih _ _ _ _ _ _)
      · intro J37 hJ37
        refine g_ifeq (tgt := 36) dX12_keptBy_23 (by decide) ?_ ?_
        · refine g_iconst (v := (0 : Int32)) dX12_keptBy_36 ki_0 ?_
          exact g_msk [true, true, true, false, true] (hJ37 _ _ _ _ _ _ _)
        · refine g_aload_n (i := 1) dX12_keptBy_26 rfl rfl ?_
          refine g_bipush (v := (18 : Int32)) dX12_keptBy_27 kb_18 ?_
          refine g_iload dX12_keptBy_29 rfl ?_
          refine g_iadd dX12_keptBy_31 ?_
          refine g_iaload dX12_keptBy_32 ?_
          refine g_goto (tgt := 37) dX12_keptBy_33 (by decide) ?_
          exact g_msk [true, true, true, false, true] (hJ37 _ _ _ _ _ _ _)
set_option maxRecDepth 100000 in
set_option maxHeartbeats 4000000 in
theorem crt_X12_keptBy (l : Launch) (θ : Th) (a0 : Nat) (a1 : Nat) (a2 : Int32) (m : Mm) : Crt l θ yX12_keptBy M_X12_keptBy cvI [.ref a0, .ref a1, .int a2] m (F_X12_keptBy a0 a1 a2 m) := by
  refine crt_of 2 (by decide) rfl rfl (Nat.le_of_ble_eq_true rfl) (fun Z hμ => ?_)
  unfold F_X12_keptBy
  show GG Z _ _ 0 [some (.ref a0), some (.ref a1), some (.int a2), none, none] [] m _
  refine g_iconst (v := (0 : Int32)) dX12_keptBy_0 ki_0 ?_
  refine g_istore_n (i := 3) dX12_keptBy_1 rfl (show 3 < 5 by decide) ?_
  intro x1
  refine g_iconst (v := (0 : Int32)) dX12_keptBy_2 ki_0 ?_
  refine g_istore dX12_keptBy_3 (show 4 < 5 by decide) ?_
  intro x2
  exact g_msk [true, true, true, true, true] (c_L_X12_keptBy_5 NF _ _ _ _ _ _)
set_option maxRecDepth 100000 in
set_option maxHeartbeats 4000000 in
theorem crt_X12_missingOf (l : Launch) (θ : Th) (a0 : Nat) (a1 : Nat) (a2 : Int32) (m : Mm) : Crt l θ yX12_missingOf M_X12_missingOf cvI [.ref a0, .ref a1, .int a2] m (F_X12_missingOf a0 a1 a2 m) := by
  refine crt_of 1 (by decide) rfl rfl (Nat.le_of_ble_eq_true rfl) (fun Z hμ => ?_)
  unfold F_X12_missingOf
  show GG Z _ _ 0 [some (.ref a0), some (.ref a1), some (.int a2), none] [] m _
  refine g_aload_n (i := 0) dX12_missingOf_0 rfl rfl ?_
  refine g_aload_n (i := 1) dX12_missingOf_1 rfl rfl ?_
  refine g_callVI cl_X12 (crt_X12_survivors _ _ _ _ _) cw_X12_survivors (by decide) rfl q_1698 q_1700 qs_70 rfl rfl dX12_missingOf_2 ?_
  intro r1 m2
  refine g_istore_n (i := 3) dX12_missingOf_5 rfl (show 3 < 4 by decide) ?_
  intro x3
  refine g_iload_n (i := 3) dX12_missingOf_6 rfl rfl ?_
  refine g_iload_n (i := 2) dX12_missingOf_7 rfl rfl ?_
  refine g_callSI (crt_X12_has _ _ _ _ _) cw_X12_has (by decide) rfl q_1378 q_1379 rfl rfl dX12_missingOf_8 ?_
  intro r4 m5
  refine g_ifeq (tgt := 32) dX12_missingOf_11 (by decide) ?_ ?_
  · refine g_iconst (v := (0 : Int32)) dX12_missingOf_32 ki_0 ?_
    exact g_ireturn rfl dX12_missingOf_33
  · refine g_aload_n (i := 0) dX12_missingOf_14 rfl rfl ?_
    refine g_aload_n (i := 1) dX12_missingOf_15 rfl rfl ?_
    refine g_iload_n (i := 3) dX12_missingOf_16 rfl rfl ?_
    refine g_callVI cl_X12 (crt_X12_keptBy _ _ _ _ _ _) cw_X12_keptBy (by decide) rfl q_1746 q_1748 qs_79 rfl rfl dX12_missingOf_17 ?_
    intro r6 m7
    refine g_aload_n (i := 1) dX12_missingOf_20 rfl rfl ?_
    refine g_bipush (v := (12 : Int32)) dX12_missingOf_21 kb_12 ?_
    refine g_iload_n (i := 2) dX12_missingOf_23 rfl rfl ?_
    refine g_iadd dX12_missingOf_24 ?_
    refine g_iaload dX12_missingOf_25 ?_
    refine g_iconst (v := (-1 : Int32)) dX12_missingOf_26 ki_m1 ?_
    refine g_ixor dX12_missingOf_27 ?_
    refine g_iand dX12_missingOf_28 ?_
    refine g_goto (tgt := 33) dX12_missingOf_29 (by decide) ?_
    exact g_ireturn rfl dX12_missingOf_33
set_option maxRecDepth 100000 in
set_option maxHeartbeats 4000000 in
theorem c_L_X12_flushes_24 {Z : Zx}  {K81 : Nat → Nat → Int32 → Int32 → Int32 → Mm → Option (Unit × Mm)} (hK81 : ∀ (v0 : Nat) (v1 : Nat) (v2 : Int32) (v3 : Int32) (v4 : Int32) (m : Mm), GG Z M_X12_flushes (PsN Z cvV) 81 [some (.ref v0), some (.ref v1), some (.int v2), some (.int v3), some (.int v4), none] [] m (K81 v0 v1 v2 v3 v4 m)) : ∀ (n : Nat) (v0 : Nat) (v1 : Nat) (v2 : Int32) (v3 : Int32) (v4 : Int32) (v5 : Int32) (m : Mm), GG Z M_X12_flushes (PsN Z cvV) 24 [some (.ref v0), some (.ref v1), some (.int v2), some (.int v3), some (.int v4), some (.int v5)] [] m (L_X12_flushes_24 K81 n v0 v1 v2 v3 v4 v5 m) := by
  intro n
  induction n with
  | zero => intro v0 v1 v2 v3 v4 v5 m; exact g_no
  | succ n ih =>
    intro v0 v1 v2 v3 v4 v5 m
    unfold L_X12_flushes_24
    refine g_iload dX12_flushes_24 rfl ?_
    refine g_aload_n (i := 1) dX12_flushes_26 rfl rfl ?_
    refine g_sipush (v := (187 : Int32)) dX12_flushes_27 ks_187 ?_
    refine g_iaload dX12_flushes_30 ?_
    refine g_icmpge (tgt := 81) dX12_flushes_31 (by decide) ?_ ?_
    · exact g_msk [true, true, true, true, true, false] (hK81 _ _ _ _ _ _)
    · refine g_iload_n (i := 2) dX12_flushes_34 rfl rfl ?_
      refine g_iload dX12_flushes_35 rfl ?_
      refine g_callSI (crt_X12_has _ _ _ _ _) cw_X12_has (by decide) rfl q_1378 q_1379 rfl rfl dX12_flushes_37 ?_
      intro r7 m8
      refine g_ifeq (tgt := 81) dX12_flushes_40 (by decide) ?_ ?_
      · exact g_msk [true, true, true, true, true, false] (hK81 _ _ _ _ _ _)
      · refine g_iload_n (i := 3) dX12_flushes_43 rfl rfl ?_
        refine g_iload dX12_flushes_44 rfl ?_
        refine g_callSI (crt_X12_has _ _ _ _ _) cw_X12_has (by decide) rfl q_1378 q_1379 rfl rfl dX12_flushes_46 ?_
        intro r9 m10
        refine g_jn (fun J75 => ∀ (v0 : Nat) (v1 : Nat) (v2 : Int32) (v3 : Int32) (v4 : Int32) (v5 : Int32) (m : Mm), GG Z M_X12_flushes (PsN Z cvV) 75 [some (.ref v0), some (.ref v1), some (.int v2), some (.int v3), some (.int v4), some (.int v5)] [] m (J75 v0 v1 v2 v3 v4 v5 m)) ?_ ?_
        · intro v0 v1 v2 v3 v4 v5 m
          refine g_iinc dX12_flushes_75 rfl ki_1 (show 5 < 6 by decide) ?_
          intro x11
          refine g_goto (tgt := 24) dX12_flushes_78 (by decide) ?_
          exact g_msk [true, true, true, true, true, true] (ih _ _ _ _ _ _ _)
        · intro J75 hJ75
          refine g_ifeq (tgt := 75) dX12_flushes_49 (by decide) ?_ ?_
          · exact g_msk [true, true, true, true, true, true] (hJ75 _ _ _ _ _ _ _)
          · refine g_aload_n (i := 1) dX12_flushes_52 rfl rfl ?_
            refine g_bipush (v := (12 : Int32)) dX12_flushes_53 kb_12 ?_
            refine g_iload dX12_flushes_55 rfl ?_
            refine g_iadd dX12_flushes_57 ?_
            refine g_iaload dX12_flushes_58 ?_
            refine g_iload dX12_flushes_59 rfl ?_
            refine g_callSI (crt_X12_has _ _ _ _ _) cw_X12_has (by decide) rfl q_1378 q_1379 rfl rfl dX12_flushes_61 ?_
            intro r12 m13
            refine g_ifne (tgt := 75) dX12_flushes_64 (by decide) ?_ ?_
            · exact g_msk [true, true, true, true, true, true] (hJ75 _ _ _ _ _ _ _)
            · refine g_aload_n (i := 1) dX12_flushes_67 rfl rfl ?_
              refine g_iload dX12_flushes_68 rfl ?_
              refine g_iload dX12_flushes_70 rfl ?_
              refine g_callSV (crt_X12_delivers _ _ _ _ _ _) cw_X12_delivers (by decide) rfl q_1643 q_1644 rfl rfl dX12_flushes_72 ?_
              intro r14 m15
              exact g_msk [true, true, true, true, true, true] (hJ75 _ _ _ _ _ _ _)
set_option maxRecDepth 100000 in
set_option maxHeartbeats 4000000 in
theorem c_L_X12_flushes_10 {Z : Zx}    : ∀ (n : Nat) (v0 : Nat) (v1 : Nat) (v2 : Int32) (v3 : Int32) (v4 : Int32) (m : Mm), GG Z M_X12_flushes (PsN Z cvV) 10 [some (.ref v0), some (.ref v1), some (.int v2), some (.int v3), some (.int v4), none] [] m (L_X12_flushes_10 n v0 v1 v2 v3 v4 m) := by
  intro n
  induction n with
  | zero => intro v0 v1 v2 v3 v4 m; exact g_no
  | succ n ih =>
    intro v0 v1 v2 v3 v4 m
    unfold L_X12_flushes_10
    refine g_iload dX12_flushes_10 rfl ?_
    refine g_aload_n (i := 0) dX12_flushes_12 rfl rfl ?_
    refine g_getR (k := 12) cl_X12 (by decide) rfl q_1393 dX12_flushes_13 ?_
    intro q5
    refine g_iconst (v := (0 : Int32)) dX12_flushes_16 ki_0 ?_
    refine g_iaload dX12_flushes_17 ?_
    refine g_icmpge (tgt := 87) dX12_flushes_18 (by decide) ?_ ?_
    · exact g_return rfl dX12_flushes_87
    · refine g_iconst (v := (0 : Int32)) dX12_flushes_21 ki_0 ?_
      refine g_istore dX12_flushes_22 (show 5 < 6 by decide) ?_
      intro x6
      refine g_msk [true, true, true, true, true, true] (c_L_X12_flushes_24 ?_ NF _ _ _ _ _ _ _)
      intro v0 v1 v2 v3 v4 m
      refine g_iinc dX12_flushes_81 rfl ki_1 (show 4 < 6 by decide) ?_
      intro x16
      refine g_goto (tgt := 10) dX12_flushes_84 (by decide) ?_
      exact g_msk [true, true, true, true, true, false] (ih _ _ _ _ _ _)
set_option maxRecDepth 100000 in
set_option maxHeartbeats 4000000 in
theorem crt_X12_flushes (l : Launch) (θ : Th) (a0 : Nat) (a1 : Nat) (a2 : Int32) (m : Mm) : Crt l θ yX12_flushes M_X12_flushes cvV [.ref a0, .ref a1, .int a2] m (F_X12_flushes a0 a1 a2 m) := by
  refine crt_of 3 (by decide) rfl rfl (Nat.le_of_ble_eq_true rfl) (fun Z hμ => ?_)
  unfold F_X12_flushes
  show GG Z _ _ 0 [some (.ref a0), some (.ref a1), some (.int a2), none, none, none] [] m _
  refine g_aload_n (i := 0) dX12_flushes_0 rfl rfl ?_
  refine g_aload_n (i := 1) dX12_flushes_1 rfl rfl ?_
  refine g_iload_n (i := 2) dX12_flushes_2 rfl rfl ?_
  refine g_callVI cl_X12 (crt_X12_keptBy _ _ _ _ _ _) cw_X12_keptBy (by decide) rfl q_1746 q_1748 qs_79 rfl rfl dX12_flushes_3 ?_
  intro r1 m2
  refine g_istore_n (i := 3) dX12_flushes_6 rfl (show 3 < 6 by decide) ?_
  intro x3
  refine g_iconst (v := (0 : Int32)) dX12_flushes_7 ki_0 ?_
  refine g_istore dX12_flushes_8 (show 4 < 6 by decide) ?_
  intro x4
  exact g_msk [true, true, true, true, true, false] (c_L_X12_flushes_10 NF _ _ _ _ _ _)
set_option maxRecDepth 100000 in
set_option maxHeartbeats 4000000 in
theorem crt_X12_holds (l : Launch) (θ : Th) (a0 : Nat) (a1 : Nat) (m : Mm) : Crt l θ yX12_holds M_X12_holds cvI [.ref a0, .ref a1] m (F_X12_holds a0 a1 m) := by
  refine crt_of 1 (by decide) rfl rfl (Nat.le_of_ble_eq_true rfl) (fun Z hμ => ?_)
  unfold F_X12_holds
  show GG Z _ _ 0 [some (.ref a0), some (.ref a1), none] [] m _
  refine g_aload_n (i := 0) dX12_holds_0 rfl rfl ?_
  refine g_aload_n (i := 1) dX12_holds_1 rfl rfl ?_
  refine g_callVI cl_X12 (crt_X12_survivors _ _ _ _ _) cw_X12_survivors (by decide) rfl q_1698 q_1700 qs_70 rfl rfl dX12_holds_2 ?_
  intro r1 m2
  refine g_istore_n (i := 2) dX12_holds_5 rfl (show 2 < 3 by decide) ?_
  intro x3
  refine g_aload_n (i := 0) dX12_holds_6 rfl rfl ?_
  refine g_aload_n (i := 1) dX12_holds_7 rfl rfl ?_
  refine g_callVI cl_X12 (crt_X12_primaryOf _ _ _ _ _) cw_X12_primaryOf (by decide) rfl q_1702 q_1704 qs_71 rfl rfl dX12_holds_8 ?_
  intro r4 m5
  refine g_iconst (v := (-1 : Int32)) dX12_holds_11 ki_m1 ?_
  refine g_icmpeq (tgt := 27) dX12_holds_12 (by decide) ?_ ?_
  · refine g_iconst (v := (0 : Int32)) dX12_holds_27 ki_0 ?_
    exact g_zreturnK rfl (by decide) dX12_holds_28
  · refine g_iload_n (i := 2) dX12_holds_15 rfl rfl ?_
    refine g_aload_n (i := 1) dX12_holds_16 rfl rfl ?_
    refine g_sipush (v := (185 : Int32)) dX12_holds_17 ks_185 ?_
    refine g_iaload dX12_holds_20 ?_
    refine g_iconst (v := (-1 : Int32)) dX12_holds_21 ki_m1 ?_
    refine g_ixor dX12_holds_22 ?_
    refine g_iand dX12_holds_23 ?_
    refine g_ifne (tgt := 29) dX12_holds_24 (by decide) ?_ ?_
    · refine g_aload_n (i := 1) dX12_holds_29 rfl rfl ?_
      refine g_sipush (v := (185 : Int32)) dX12_holds_30 ks_185 ?_
      refine g_dup2 dX12_holds_33 rfl rfl ?_
      refine g_iaload dX12_holds_34 ?_
      refine g_iload_n (i := 2) dX12_holds_35 rfl rfl ?_
      refine g_ior dX12_holds_36 ?_
      refine g_iastore dX12_holds_37 ?_
      intro m6
      refine g_iconst (v := (1 : Int32)) dX12_holds_38 ki_1 ?_
      exact g_zreturnK rfl (by decide) dX12_holds_39
    · refine g_iconst (v := (0 : Int32)) dX12_holds_27 ki_0 ?_
      exact g_zreturnK rfl (by decide) dX12_holds_28
set_option maxRecDepth 100000 in
set_option maxHeartbeats 4000000 in
theorem c_L_X12_least_2 {Z : Zx}    : ∀ (n : Nat) (v0 : Int32) (v1 : Int32) (m : Mm), GG Z M_X12_least (PsN Z cvI) 2 [some (.int v0), some (.int v1)] [] m (L_X12_least_2 n v0 v1 m) := by
  intro n
  induction n with
  | zero => intro v0 v1 m; exact g_no
  | succ n ih =>
    intro v0 v1 m
    unfold L_X12_least_2
    refine g_iload_n (i := 0) dX12_least_2 rfl rfl ?_
    refine g_iload_n (i := 1) dX12_least_3 rfl rfl ?_
    refine g_callSI (crt_X12_has _ _ _ _ _) cw_X12_has (by decide) rfl q_1378 q_1379 rfl rfl dX12_least_4 ?_
    intro r2 m3
    refine g_ifne (tgt := 16) dX12_least_7 (by decide) ?_ ?_
    · refine g_iload_n (i := 1) dX12_least_16 rfl rfl ?_
      exact g_ireturn rfl dX12_least_17
    · refine g_iinc dX12_least_10 rfl ki_1 (show 1 < 2 by decide) ?_
      intro x4
      refine g_goto (tgt := 2) dX12_least_13 (by decide) ?_
      exact g_msk [true, true] (ih _ _ _)
set_option maxRecDepth 100000 in
set_option maxHeartbeats 4000000 in
theorem crt_X12_least (l : Launch) (θ : Th) (a0 : Int32) (m : Mm) : Crt l θ yX12_least M_X12_least cvI [.int a0] m (F_X12_least a0 m) := by
  refine crt_of 1 (by decide) rfl rfl (Nat.le_of_ble_eq_true rfl) (fun Z hμ => ?_)
  unfold F_X12_least
  show GG Z _ _ 0 [some (.int a0), none] [] m _
  refine g_iconst (v := (0 : Int32)) dX12_least_0 ki_0 ?_
  refine g_istore_n (i := 1) dX12_least_1 rfl (show 1 < 2 by decide) ?_
  intro x1
  exact g_msk [true, true] (c_L_X12_least_2 NF _ _ _)
set_option maxRecDepth 100000 in
set_option maxHeartbeats 4000000 in
theorem crt_X12_comesIn (l : Launch) (θ : Th) (a0 : Nat) (a1 : Nat) (a2 : Int32) (a3 : Int32) (m : Mm) : Crt l θ yX12_comesIn M_X12_comesIn cvV [.ref a0, .ref a1, .int a2, .int a3] m (F_X12_comesIn a0 a1 a2 a3 m) := by
  refine crt_of 0 (by decide) rfl rfl (Nat.le_of_ble_eq_true rfl) (fun Z hμ => ?_)
  unfold F_X12_comesIn
  show GG Z _ _ 0 [some (.ref a0), some (.ref a1), some (.int a2), some (.int a3)] [] m _
  refine g_aload_n (i := 1) dX12_comesIn_0 rfl rfl ?_
  refine g_iconst (v := (0 : Int32)) dX12_comesIn_1 ki_0 ?_
  refine g_iload_n (i := 2) dX12_comesIn_2 rfl rfl ?_
  refine g_iadd dX12_comesIn_3 ?_
  refine g_dup2 dX12_comesIn_4 rfl rfl ?_
  refine g_iaload dX12_comesIn_5 ?_
  refine g_iconst (v := (1 : Int32)) dX12_comesIn_6 ki_1 ?_
  refine g_iadd dX12_comesIn_7 ?_
  refine g_iastore dX12_comesIn_8 ?_
  intro m1
  refine g_aload_n (i := 1) dX12_comesIn_9 rfl rfl ?_
  refine g_sipush (v := (188 : Int32)) dX12_comesIn_10 ks_188 ?_
  refine g_iconst (v := (2 : Int32)) dX12_comesIn_13 ki_2 ?_
  refine g_iload_n (i := 2) dX12_comesIn_14 rfl rfl ?_
  refine g_imul dX12_comesIn_15 ?_
  refine g_iadd dX12_comesIn_16 ?_
  refine g_aload_n (i := 1) dX12_comesIn_17 rfl rfl ?_
  refine g_sipush (v := (188 : Int32)) dX12_comesIn_18 ks_188 ?_
  refine g_iconst (v := (2 : Int32)) dX12_comesIn_21 ki_2 ?_
  refine g_iload_n (i := 3) dX12_comesIn_22 rfl rfl ?_
  refine g_imul dX12_comesIn_23 ?_
  refine g_iadd dX12_comesIn_24 ?_
  refine g_callSL (crt_X12_wide _ _ _ _ _) cw_X12_wide (by decide) rfl q_1649 q_1650 rfl rfl dX12_comesIn_25 ?_
  intro r2 m3
  refine g_callSV (crt_X12_widens _ _ _ _ _ _) cw_X12_widens (by decide) rfl q_1653 q_1654 rfl rfl dX12_comesIn_28 ?_
  intro r4 m5
  refine g_aload_n (i := 1) dX12_comesIn_31 rfl rfl ?_
  refine g_bipush (v := (6 : Int32)) dX12_comesIn_32 kb_6 ?_
  refine g_iload_n (i := 2) dX12_comesIn_34 rfl rfl ?_
  refine g_iadd dX12_comesIn_35 ?_
  refine g_iconst (v := (0 : Int32)) dX12_comesIn_36 ki_0 ?_
  refine g_iastore dX12_comesIn_37 ?_
  intro m6
  refine g_aload_n (i := 1) dX12_comesIn_38 rfl rfl ?_
  refine g_iload_n (i := 2) dX12_comesIn_39 rfl rfl ?_
  refine g_callSV (crt_X12_logs _ _ _ _ _) cw_X12_logs (by decide) rfl q_1656 q_1657 rfl rfl dX12_comesIn_40 ?_
  intro r7 m8
  exact g_return rfl dX12_comesIn_43
set_option maxRecDepth 100000 in
set_option maxHeartbeats 4000000 in
theorem crt_X12_leavesOut (l : Launch) (θ : Th) (a0 : Nat) (a1 : Nat) (a2 : Int32) (m : Mm) : Crt l θ yX12_leavesOut M_X12_leavesOut cvV [.ref a0, .ref a1, .int a2] m (F_X12_leavesOut a0 a1 a2 m) := by
  refine crt_of 0 (by decide) rfl rfl (Nat.le_of_ble_eq_true rfl) (fun Z hμ => ?_)
  unfold F_X12_leavesOut
  show GG Z _ _ 0 [some (.ref a0), some (.ref a1), some (.int a2)] [] m _
  refine g_aload_n (i := 1) dX12_leavesOut_0 rfl rfl ?_
  refine g_sipush (v := (185 : Int32)) dX12_leavesOut_1 ks_185 ?_
  refine g_dup2 dX12_leavesOut_4 rfl rfl ?_
  refine g_iaload dX12_leavesOut_5 ?_
  refine g_iconst (v := (1 : Int32)) dX12_leavesOut_6 ki_1 ?_
  refine g_iload_n (i := 2) dX12_leavesOut_7 rfl rfl ?_
  refine g_ishl dX12_leavesOut_8 ?_
  refine g_iconst (v := (-1 : Int32)) dX12_leavesOut_9 ki_m1 ?_
  refine g_ixor dX12_leavesOut_10 ?_
  refine g_iand dX12_leavesOut_11 ?_
  refine g_iastore dX12_leavesOut_12 ?_
  intro m1
  refine g_aload_n (i := 1) dX12_leavesOut_13 rfl rfl ?_
  refine g_bipush (v := (30 : Int32)) dX12_leavesOut_14 kb_30 ?_
  refine g_iload_n (i := 2) dX12_leavesOut_16 rfl rfl ?_
  refine g_iadd dX12_leavesOut_17 ?_
  refine g_iconst (v := (0 : Int32)) dX12_leavesOut_18 ki_0 ?_
  refine g_iastore dX12_leavesOut_19 ?_
  intro m2
  exact g_return rfl dX12_leavesOut_20
set_option maxRecDepth 100000 in
set_option maxHeartbeats 4000000 in
theorem c_L_X12_sendsHeld_29 {Z : Zx}  {K60 : Nat → Nat → Int32 → Mm → Option (Unit × Mm)} (hK60 : ∀ (v0 : Nat) (v1 : Nat) (v2 : Int32) (m : Mm), GG Z M_X12_sendsHeld (PsN Z cvV) 60 [some (.ref v0), some (.ref v1), some (.int v2), none, none] [] m (K60 v0 v1 v2 m)) : ∀ (n : Nat) (v0 : Nat) (v1 : Nat) (v2 : Int32) (v3 : Int32) (v4 : Int32) (m : Mm), GG Z M_X12_sendsHeld (PsN Z cvV) 29 [some (.ref v0), some (.ref v1), some (.int v2), some (.int v3), some (.int v4)] [] m (L_X12_sendsHeld_29 K60 n v0 v1 v2 v3 v4 m) := by
  intro n
  induction n with
  | zero => intro v0 v1 v2 v3 v4 m; exact g_no
  | succ n ih =>
    intro v0 v1 v2 v3 v4 m
    unfold L_X12_sendsHeld_29
    refine g_iload dX12_sendsHeld_29 rfl ?_
    refine g_iload_n (i := 3) dX12_sendsHeld_31 rfl rfl ?_
    refine g_icmpge (tgt := 60) dX12_sendsHeld_32 (by decide) ?_ ?_
    · exact g_msk [true, true, true, false, false] (hK60 _ _ _ _)
    · refine g_aload_n (i := 0) dX12_sendsHeld_35 rfl rfl ?_
      refine g_aload_n (i := 1) dX12_sendsHeld_36 rfl rfl ?_
      refine g_iload_n (i := 2) dX12_sendsHeld_37 rfl rfl ?_
      refine g_aload_n (i := 1) dX12_sendsHeld_38 rfl rfl ?_
      refine g_bipush (v := (72 : Int32)) dX12_sendsHeld_39 kb_72 ?_
      refine g_bipush (v := (8 : Int32)) dX12_sendsHeld_41 kb_8 ?_
      refine g_iload_n (i := 2) dX12_sendsHeld_43 rfl rfl ?_
      refine g_imul dX12_sendsHeld_44 ?_
      refine g_iadd dX12_sendsHeld_45 ?_
      refine g_iload dX12_sendsHeld_46 rfl ?_
      refine g_iadd dX12_sendsHeld_48 ?_
      refine g_iaload dX12_sendsHeld_49 ?_
      refine g_callVI cl_X12 (crt_X12_sends _ _ _ _ _ _ _) cw_X12_sends (by decide) rfl q_1636 q_1638 qs_63 rfl rfl dX12_sendsHeld_50 ?_
      intro r6 m7
      refine g_pop dX12_sendsHeld_53 rfl ?_
      refine g_iinc dX12_sendsHeld_54 rfl ki_1 (show 4 < 5 by decide) ?_
      intro x8
      refine g_goto (tgt := 29) dX12_sendsHeld_57 (by decide) ?_
      exact g_msk [true, true, true, true, true] (ih _ _ _ _ _ _)
set_option maxRecDepth 100000 in
set_option maxHeartbeats 4000000 in
theorem c_L_X12_sendsHeld_2 {Z : Zx}    : ∀ (n : Nat) (v0 : Nat) (v1 : Nat) (v2 : Int32) (m : Mm), GG Z M_X12_sendsHeld (PsN Z cvV) 2 [some (.ref v0), some (.ref v1), some (.int v2), none, none] [] m (L_X12_sendsHeld_2 n v0 v1 v2 m) := by
  intro n
  induction n with
  | zero => intro v0 v1 v2 m; exact g_no
  | succ n ih =>
    intro v0 v1 v2 m
    unfold L_X12_sendsHeld_2
    refine g_iload_n (i := 2) dX12_sendsHeld_2 rfl rfl ?_
    refine g_aload_n (i := 0) dX12_sendsHeld_3 rfl rfl ?_
    refine g_getR (k := 12) cl_X12 (by decide) rfl q_1393 dX12_sendsHeld_4 ?_
    intro q2
    refine g_iconst (v := (0 : Int32)) dX12_sendsHeld_7 ki_0 ?_
    refine g_iaload dX12_sendsHeld_8 ?_
    refine g_icmpge (tgt := 66) dX12_sendsHeld_9 (by decide) ?_ ?_
    · exact g_return rfl dX12_sendsHeld_66
    · refine g_aload_n (i := 1) dX12_sendsHeld_12 rfl rfl ?_
      refine g_bipush (v := (30 : Int32)) dX12_sendsHeld_13 kb_30 ?_
      refine g_iload_n (i := 2) dX12_sendsHeld_15 rfl rfl ?_
      refine g_iadd dX12_sendsHeld_16 ?_
      refine g_iaload dX12_sendsHeld_17 ?_
      refine g_istore_n (i := 3) dX12_sendsHeld_18 rfl (show 3 < 5 by decide) ?_
      intro x3
      refine g_aload_n (i := 1) dX12_sendsHeld_19 rfl rfl ?_
      refine g_bipush (v := (30 : Int32)) dX12_sendsHeld_20 kb_30 ?_
      refine g_iload_n (i := 2) dX12_sendsHeld_22 rfl rfl ?_
      refine g_iadd dX12_sendsHeld_23 ?_
      refine g_iconst (v := (0 : Int32)) dX12_sendsHeld_24 ki_0 ?_
      refine g_iastore dX12_sendsHeld_25 ?_
      intro m4
      refine g_iconst (v := (0 : Int32)) dX12_sendsHeld_26 ki_0 ?_
      refine g_istore dX12_sendsHeld_27 (show 4 < 5 by decide) ?_
      intro x5
      refine g_msk [true, true, true, true, true] (c_L_X12_sendsHeld_29 ?_ NF _ _ _ _ _ _)
      intro v0 v1 v2 m
      refine g_iinc dX12_sendsHeld_60 rfl ki_1 (show 2 < 5 by decide) ?_
      intro x9
      refine g_goto (tgt := 2) dX12_sendsHeld_63 (by decide) ?_
      exact g_msk [true, true, true, false, false] (ih _ _ _ _)
set_option maxRecDepth 100000 in
set_option maxHeartbeats 4000000 in
theorem crt_X12_sendsHeld (l : Launch) (θ : Th) (a0 : Nat) (a1 : Nat) (m : Mm) : Crt l θ yX12_sendsHeld M_X12_sendsHeld cvV [.ref a0, .ref a1] m (F_X12_sendsHeld a0 a1 m) := by
  refine crt_of 3 (by decide) rfl rfl (Nat.le_of_ble_eq_true rfl) (fun Z hμ => ?_)
  unfold F_X12_sendsHeld
  show GG Z _ _ 0 [some (.ref a0), some (.ref a1), none, none, none] [] m _
  refine g_iconst (v := (0 : Int32)) dX12_sendsHeld_0 ki_0 ?_
  refine g_istore_n (i := 2) dX12_sendsHeld_1 rfl (show 2 < 5 by decide) ?_
  intro x1
  exact g_msk [true, true, true, false, false] (c_L_X12_sendsHeld_2 NF _ _ _ _)
set_option maxRecDepth 100000 in
set_option maxHeartbeats 4000000 in
theorem c_L_X12_views_65 {Z : Zx}  {K154 : Nat → Nat → Int32 → Int32 → Mm → Option (Int32 × Mm)} (hK154 : ∀ (v0 : Nat) (v1 : Nat) (v3 : Int32) (v4 : Int32) (m : Mm), GG Z M_X12_views (PsN Z cvI) 154 [some (.ref v0), some (.ref v1), none, some (.int v3), some (.int v4), none] [] m (K154 v0 v1 v3 v4 m)) : ∀ (n : Nat) (v0 : Nat) (v1 : Nat) (v3 : Int32) (v4 : Int32) (v5 : Int32) (m : Mm), GG Z M_X12_views (PsN Z cvI) 65 [some (.ref v0), some (.ref v1), none, some (.int v3), some (.int v4), some (.int v5)] [] m (L_X12_views_65 K154 n v0 v1 v3 v4 v5 m) := by
  intro n
  induction n with
  | zero => intro v0 v1 v3 v4 v5 m; exact g_no
  | succ n ih =>
    intro v0 v1 v3 v4 v5 m
    unfold L_X12_views_65
    refine g_iload dX12_views_65 rfl ?_
    refine g_aload_n (i := 0) dX12_views_67 rfl rfl ?_
    refine g_getR (k := 12) cl_X12 (by decide) rfl q_1393 dX12_views_68 ?_
    intro q11
    refine g_iconst (v := (0 : Int32)) dX12_views_71 ki_0 ?_
    refine g_iaload dX12_views_72 ?_
    refine g_icmpge (tgt := 154) dX12_views_73 (by decide) ?_ ?_
    · exact g_msk [true, true, false, true, true, false] (hK154 _ _ _ _ _)
    · refine g_iload dX12_views_76 rfl ?_
      refine g_iload dX12_views_78 rfl ?_
      refine g_callSI (crt_X12_has _ _ _ _ _) cw_X12_has (by decide) rfl q_1378 q_1379 rfl rfl dX12_views_80 ?_
      intro r12 m13
      refine g_jn (fun J142 => ∀ (v0 : Nat) (v1 : Nat) (v3 : Int32) (v4 : Int32) (v5 : Int32) (m : Mm), GG Z M_X12_views (PsN Z cvI) 142 [some (.ref v0), some (.ref v1), none, some (.int v3), some (.int v4), some (.int v5)] [] m (J142 v0 v1 v3 v4 v5 m)) ?_ ?_
      · intro v0 v1 v3 v4 v5 m
        refine g_aload_n (i := 1) dX12_views_142 rfl rfl ?_
        refine g_iload dX12_views_143 rfl ?_
        refine g_callSV (crt_X12_forgets _ _ _ _ _) cw_X12_forgets (by decide) rfl q_1688 q_1689 rfl rfl dX12_views_145 ?_
        intro r14 m15
        refine g_iinc dX12_views_148 rfl ki_1 (show 5 < 6 by decide) ?_
        intro x16
        refine g_goto (tgt := 65) dX12_views_151 (by decide) ?_
        exact g_msk [true, true, false, true, true, true] (ih _ _ _ _ _ _)
      · intro J142 hJ142
        refine g_ifeq (tgt := 100) dX12_views_83 (by decide) ?_ ?_
        · refine g_iload_n (i := 3) dX12_views_100 rfl rfl ?_
          refine g_iload dX12_views_101 rfl ?_
          refine g_callSI (crt_X12_has _ _ _ _ _) cw_X12_has (by decide) rfl q_1378 q_1379 rfl rfl dX12_views_103 ?_
          intro r17 m18
          refine g_ifeq (tgt := 122) dX12_views_106 (by decide) ?_ ?_
          · refine g_aload_n (i := 1) dX12_views_122 rfl rfl ?_
            refine g_sipush (v := (183 : Int32)) dX12_views_123 ks_183 ?_
            refine g_iaload dX12_views_126 ?_
            refine g_iload dX12_views_127 rfl ?_
            refine g_callSI (crt_X12_has _ _ _ _ _) cw_X12_has (by decide) rfl q_1378 q_1379 rfl rfl dX12_views_129 ?_
            intro r19 m20
            refine g_ifeq (tgt := 142) dX12_views_132 (by decide) ?_ ?_
            · exact g_msk [true, true, false, true, true, true] (hJ142 _ _ _ _ _ _)
            · refine g_aload_n (i := 0) dX12_views_135 rfl rfl ?_
              refine g_aload_n (i := 1) dX12_views_136 rfl rfl ?_
              refine g_iload dX12_views_137 rfl ?_
              refine g_callVV cl_X12 (crt_X12_leavesOut _ _ _ _ _ _) cw_X12_leavesOut (by decide) rfl q_1757 q_1759 qs_81 rfl rfl dX12_views_139 ?_
              intro r21 m22
              exact g_msk [true, true, false, true, true, true] (hJ142 _ _ _ _ _ _)
          · refine g_aload_n (i := 1) dX12_views_109 rfl rfl ?_
            refine g_iconst (v := (0 : Int32)) dX12_views_110 ki_0 ?_
            refine g_iload dX12_views_111 rfl ?_
            refine g_iadd dX12_views_113 ?_
            refine g_dup2 dX12_views_114 rfl rfl ?_
            refine g_iaload dX12_views_115 ?_
            refine g_iconst (v := (1 : Int32)) dX12_views_116 ki_1 ?_
            refine g_iadd dX12_views_117 ?_
            refine g_iastore dX12_views_118 ?_
            intro m23
            refine g_goto (tgt := 142) dX12_views_119 (by decide) ?_
            exact g_msk [true, true, false, true, true, true] (hJ142 _ _ _ _ _ _)
        · refine g_aload_n (i := 0) dX12_views_86 rfl rfl ?_
          refine g_aload_n (i := 1) dX12_views_87 rfl rfl ?_
          refine g_iload dX12_views_88 rfl ?_
          refine g_iload_n (i := 3) dX12_views_90 rfl rfl ?_
          refine g_callSI (crt_X12_least _ _ _ _) cw_X12_least (by decide) rfl q_1750 q_1751 rfl rfl dX12_views_91 ?_
          intro r24 m25
          refine g_callVV cl_X12 (crt_X12_comesIn _ _ _ _ _ _ _) cw_X12_comesIn (by decide) rfl q_1753 q_1755 qs_80 rfl rfl dX12_views_94 ?_
          intro r26 m27
          refine g_goto (tgt := 142) dX12_views_97 (by decide) ?_
          exact g_msk [true, true, false, true, true, true] (hJ142 _ _ _ _ _ _)
set_option maxRecDepth 100000 in
set_option maxHeartbeats 4000000 in
theorem crt_X12_views (l : Launch) (θ : Th) (a0 : Nat) (a1 : Nat) (m : Mm) : Crt l θ yX12_views M_X12_views cvI [.ref a0, .ref a1] m (F_X12_views a0 a1 m) := by
  refine crt_of 4 (by decide) rfl rfl (Nat.le_of_ble_eq_true rfl) (fun Z hμ => ?_)
  unfold F_X12_views
  show GG Z _ _ 0 [some (.ref a0), some (.ref a1), none, none, none, none] [] m _
  refine g_aload_n (i := 0) dX12_views_0 rfl rfl ?_
  refine g_aload_n (i := 1) dX12_views_1 rfl rfl ?_
  refine g_callVI cl_X12 (crt_X12_primaryOf _ _ _ _ _) cw_X12_primaryOf (by decide) rfl q_1702 q_1704 qs_71 rfl rfl dX12_views_2 ?_
  intro r1 m2
  refine g_istore_n (i := 2) dX12_views_5 rfl (show 2 < 6 by decide) ?_
  intro x3
  refine g_aload_n (i := 0) dX12_views_6 rfl rfl ?_
  refine g_aload_n (i := 1) dX12_views_7 rfl rfl ?_
  refine g_callVI cl_X12 (crt_X12_survivors _ _ _ _ _) cw_X12_survivors (by decide) rfl q_1698 q_1700 qs_70 rfl rfl dX12_views_8 ?_
  intro r4 m5
  refine g_istore_n (i := 3) dX12_views_11 rfl (show 3 < 6 by decide) ?_
  intro x6
  refine g_iload_n (i := 2) dX12_views_12 rfl rfl ?_
  refine g_iconst (v := (-1 : Int32)) dX12_views_13 ki_m1 ?_
  refine g_icmpeq (tgt := 29) dX12_views_14 (by decide) ?_ ?_
  · refine g_iconst (v := (0 : Int32)) dX12_views_29 ki_0 ?_
    exact g_zreturnK rfl (by decide) dX12_views_30
  · refine g_iload_n (i := 3) dX12_views_17 rfl rfl ?_
    refine g_aload_n (i := 1) dX12_views_18 rfl rfl ?_
    refine g_sipush (v := (185 : Int32)) dX12_views_19 ks_185 ?_
    refine g_iaload dX12_views_22 ?_
    refine g_iconst (v := (-1 : Int32)) dX12_views_23 ki_m1 ?_
    refine g_ixor dX12_views_24 ?_
    refine g_iand dX12_views_25 ?_
    refine g_ifeq (tgt := 31) dX12_views_26 (by decide) ?_ ?_
    · refine g_iload_n (i := 2) dX12_views_31 rfl rfl ?_
      refine g_aload_n (i := 1) dX12_views_32 rfl rfl ?_
      refine g_sipush (v := (186 : Int32)) dX12_views_33 ks_186 ?_
      refine g_iaload dX12_views_36 ?_
      refine g_iand dX12_views_37 ?_
      refine g_istore dX12_views_38 (show 4 < 6 by decide) ?_
      intro x7
      refine g_iload_n (i := 3) dX12_views_40 rfl rfl ?_
      refine g_aload_n (i := 1) dX12_views_41 rfl rfl ?_
      refine g_sipush (v := (182 : Int32)) dX12_views_42 ks_182 ?_
      refine g_iaload dX12_views_45 ?_
      refine g_jn (fun J56 => ∀ (v0 : Nat) (v1 : Nat) (v3 : Int32) (v4 : Int32) (m : Mm), GG Z M_X12_views (PsN Z cvI) 56 [some (.ref v0), some (.ref v1), none, some (.int v3), some (.int v4), none] [] m (J56 v0 v1 v3 v4 m)) ?_ ?_
      · intro v0 v1 v3 v4 m
        refine g_aload_n (i := 0) dX12_views_56 rfl rfl ?_
        refine g_aload_n (i := 1) dX12_views_57 rfl rfl ?_
        refine g_iload_n (i := 3) dX12_views_58 rfl rfl ?_
        refine g_callVV cl_X12 (crt_X12_flushes _ _ _ _ _ _) cw_X12_flushes (by decide) rfl q_1742 q_1744 qs_78 rfl rfl dX12_views_59 ?_
        intro r8 m9
        refine g_iconst (v := (0 : Int32)) dX12_views_62 ki_0 ?_
        refine g_istore dX12_views_63 (show 5 < 6 by decide) ?_
        intro x10
        refine g_msk [true, true, false, true, true, true] (c_L_X12_views_65 ?_ NF _ _ _ _ _ _)
        intro v0 v1 v3 v4 m
        refine g_aload_n (i := 1) dX12_views_154 rfl rfl ?_
        refine g_sipush (v := (181 : Int32)) dX12_views_155 ks_181 ?_
        refine g_dup2 dX12_views_158 rfl rfl ?_
        refine g_iaload dX12_views_159 ?_
        refine g_iconst (v := (1 : Int32)) dX12_views_160 ki_1 ?_
        refine g_iadd dX12_views_161 ?_
        refine g_iastore dX12_views_162 ?_
        intro m28
        refine g_aload_n (i := 1) dX12_views_163 rfl rfl ?_
        refine g_sipush (v := (182 : Int32)) dX12_views_164 ks_182 ?_
        refine g_iload_n (i := 3) dX12_views_167 rfl rfl ?_
        refine g_iload dX12_views_168 rfl ?_
        refine g_ior dX12_views_170 ?_
        refine g_iastore dX12_views_171 ?_
        intro m29
        refine g_aload_n (i := 1) dX12_views_172 rfl rfl ?_
        refine g_sipush (v := (183 : Int32)) dX12_views_173 ks_183 ?_
        refine g_iload_n (i := 3) dX12_views_176 rfl rfl ?_
        refine g_iload dX12_views_177 rfl ?_
        refine g_ior dX12_views_179 ?_
        refine g_iastore dX12_views_180 ?_
        intro m30
        refine g_aload_n (i := 1) dX12_views_181 rfl rfl ?_
        refine g_sipush (v := (186 : Int32)) dX12_views_182 ks_186 ?_
        refine g_dup2 dX12_views_185 rfl rfl ?_
        refine g_iaload dX12_views_186 ?_
        refine g_iload dX12_views_187 rfl ?_
        refine g_iconst (v := (-1 : Int32)) dX12_views_189 ki_m1 ?_
        refine g_ixor dX12_views_190 ?_
        refine g_iand dX12_views_191 ?_
        refine g_iastore dX12_views_192 ?_
        intro m31
        refine g_aload_n (i := 1) dX12_views_193 rfl rfl ?_
        refine g_sipush (v := (185 : Int32)) dX12_views_194 ks_185 ?_
        refine g_dup2 dX12_views_197 rfl rfl ?_
        refine g_iaload dX12_views_198 ?_
        refine g_iload_n (i := 3) dX12_views_199 rfl rfl ?_
        refine g_iconst (v := (-1 : Int32)) dX12_views_200 ki_m1 ?_
        refine g_ixor dX12_views_201 ?_
        refine g_iand dX12_views_202 ?_
        refine g_iastore dX12_views_203 ?_
        intro m32
        refine g_aload_n (i := 1) dX12_views_204 rfl rfl ?_
        refine g_sipush (v := (187 : Int32)) dX12_views_205 ks_187 ?_
        refine g_iconst (v := (0 : Int32)) dX12_views_208 ki_0 ?_
        refine g_iastore dX12_views_209 ?_
        intro m33
        refine g_aload_n (i := 0) dX12_views_210 rfl rfl ?_
        refine g_aload_n (i := 1) dX12_views_211 rfl rfl ?_
        refine g_callVV cl_X12 (crt_X12_sendsHeld _ _ _ _ _) cw_X12_sendsHeld (by decide) rfl q_1761 q_1763 qs_82 rfl rfl dX12_views_212 ?_
        intro r34 m35
        refine g_iconst (v := (1 : Int32)) dX12_views_215 ki_1 ?_
        exact g_zreturnK rfl (by decide) dX12_views_216
      · intro J56 hJ56
        refine g_icmpne (tgt := 56) dX12_views_46 (by decide) ?_ ?_
        · exact g_msk [true, true, false, true, true, false] (hJ56 _ _ _ _ _)
        · refine g_iload dX12_views_49 rfl ?_
          refine g_ifne (tgt := 56) dX12_views_51 (by decide) ?_ ?_
          · exact g_msk [true, true, false, true, true, false] (hJ56 _ _ _ _ _)
          · refine g_iconst (v := (0 : Int32)) dX12_views_54 ki_0 ?_
            exact g_zreturnK rfl (by decide) dX12_views_55
    · refine g_iconst (v := (0 : Int32)) dX12_views_29 ki_0 ?_
      exact g_zreturnK rfl (by decide) dX12_views_30
set_option maxRecDepth 100000 in
set_option maxHeartbeats 4000000 in
theorem crt_X12_does (l : Launch) (θ : Th) (a0 : Nat) (a1 : Nat) (a2 : Nat) (m : Mm) : Crt l θ yX12_does M_X12_does cvI [.ref a0, .ref a1, .ref a2] m (F_X12_does a0 a1 a2 m) := by
  refine crt_of 1 (by decide) rfl rfl (Nat.le_of_ble_eq_true rfl) (fun Z hμ => ?_)
  unfold F_X12_does
  show GG Z _ _ 0 [some (.ref a0), some (.ref a1), some (.ref a2), none] [] m _
  refine g_aload_n (i := 2) dX12_does_0 rfl rfl ?_
  refine g_iconst (v := (1 : Int32)) dX12_does_1 ki_1 ?_
  refine g_iaload dX12_does_2 ?_
  refine g_istore_n (i := 3) dX12_does_3 rfl (show 3 < 4 by decide) ?_
  intro x1
  refine g_aload_n (i := 2) dX12_does_4 rfl rfl ?_
  refine g_iconst (v := (0 : Int32)) dX12_does_5 ki_0 ?_
  refine g_iaload dX12_does_6 ?_
  refine g_sw0 (lo := 0) ?_
  refine g_swc (k := 0) (tgt := 56) dX12_does_7 (by decide) kt_0 rfl (by decide) ?_ ?_
  · refine g_aload_n (i := 0) dX12_does_56 rfl rfl ?_
    refine g_aload_n (i := 1) dX12_does_57 rfl rfl ?_
    refine g_iload_n (i := 3) dX12_does_58 rfl rfl ?_
    refine g_aload_n (i := 2) dX12_does_59 rfl rfl ?_
    refine g_iconst (v := (2 : Int32)) dX12_does_60 ki_2 ?_
    refine g_iaload dX12_does_61 ?_
    refine g_callVI cl_X12 (crt_X12_sends _ _ _ _ _ _ _) cw_X12_sends (by decide) rfl q_1636 q_1638 qs_63 rfl rfl dX12_does_62 ?_
    intro r2 m3
    exact g_zreturn rfl dX12_does_65
  · refine g_swc (k := 1) (tgt := 66) dX12_does_7 (by decide) kt_1 rfl (by decide) ?_ ?_
    · refine g_aload_n (i := 0) dX12_does_66 rfl rfl ?_
      refine g_aload_n (i := 1) dX12_does_67 rfl rfl ?_
      refine g_iload_n (i := 3) dX12_does_68 rfl rfl ?_
      refine g_iconst (v := (0 : Int32)) dX12_does_69 ki_0 ?_
      refine g_callVI cl_X12 (crt_X12_takesOne _ _ _ _ _ _ _) cw_X12_takesOne (by decide) rfl q_1662 q_1664 qs_64 rfl rfl dX12_does_70 ?_
      intro r4 m5
      exact g_zreturn rfl dX12_does_73
    · refine g_swc (k := 2) (tgt := 74) dX12_does_7 (by decide) kt_2 rfl (by decide) ?_ ?_
      · refine g_aload_n (i := 0) dX12_does_74 rfl rfl ?_
        refine g_aload_n (i := 1) dX12_does_75 rfl rfl ?_
        refine g_iload_n (i := 3) dX12_does_76 rfl rfl ?_
        refine g_iconst (v := (1 : Int32)) dX12_does_77 ki_1 ?_
        refine g_callVI cl_X12 (crt_X12_takesOne _ _ _ _ _ _ _) cw_X12_takesOne (by decide) rfl q_1662 q_1664 qs_64 rfl rfl dX12_does_78 ?_
        intro r6 m7
        exact g_zreturn rfl dX12_does_81
      · refine g_swc (k := 3) (tgt := 82) dX12_does_7 (by decide) kt_3 rfl (by decide) ?_ ?_
        · refine g_aload_n (i := 0) dX12_does_82 rfl rfl ?_
          refine g_aload_n (i := 1) dX12_does_83 rfl rfl ?_
          refine g_iload_n (i := 3) dX12_does_84 rfl rfl ?_
          refine g_callVI cl_X12 (crt_X12_tellsOthers _ _ _ _ _ _) cw_X12_tellsOthers (by decide) rfl q_1673 q_1675 qs_66 rfl rfl dX12_does_85 ?_
          intro r8 m9
          exact g_zreturn rfl dX12_does_88
        · refine g_swc (k := 4) (tgt := 89) dX12_does_7 (by decide) kt_4 rfl (by decide) ?_ ?_
          · refine g_aload_n (i := 0) dX12_does_89 rfl rfl ?_
            refine g_aload_n (i := 1) dX12_does_90 rfl rfl ?_
            refine g_iload_n (i := 3) dX12_does_91 rfl rfl ?_
            refine g_callVI cl_X12 (crt_X12_trims _ _ _ _ _ _) cw_X12_trims (by decide) rfl q_1677 q_1679 qs_67 rfl rfl dX12_does_92 ?_
            intro r10 m11
            exact g_zreturn rfl dX12_does_95
          · refine g_swc (k := 5) (tgt := 96) dX12_does_7 (by decide) kt_5 rfl (by decide) ?_ ?_
            · refine g_aload_n (i := 1) dX12_does_96 rfl rfl ?_
              refine g_iload_n (i := 3) dX12_does_97 rfl rfl ?_
              refine g_callSI (crt_X12_crashes _ _ _ _ _) cw_X12_crashes (by decide) rfl q_1685 q_1686 rfl rfl dX12_does_98 ?_
              intro r12 m13
              exact g_zreturn rfl dX12_does_101
            · refine g_swc (k := 6) (tgt := 102) dX12_does_7 (by decide) kt_6 rfl (by decide) ?_ ?_
              · refine g_aload_n (i := 1) dX12_does_102 rfl rfl ?_
                refine g_iload_n (i := 3) dX12_does_103 rfl rfl ?_
                refine g_callSI (crt_X12_joins _ _ _ _ _) cw_X12_joins (by decide) rfl q_1691 q_1692 rfl rfl dX12_does_104 ?_
                intro r14 m15
                exact g_zreturn rfl dX12_does_107
              · refine g_swc (k := 7) (tgt := 108) dX12_does_7 (by decide) kt_7 rfl (by decide) ?_ ?_
                · refine g_aload_n (i := 1) dX12_does_108 rfl rfl ?_
                  refine g_sipush (v := (180 : Int32)) dX12_does_109 ks_180 ?_
                  refine g_iaload dX12_does_112 ?_
                  refine g_iload_n (i := 3) dX12_does_113 rfl rfl ?_
                  refine g_icmpne (tgt := 119) dX12_does_114 (by decide) ?_ ?_
                  · refine g_aload_n (i := 1) dX12_does_119 rfl rfl ?_
                    refine g_sipush (v := (180 : Int32)) dX12_does_120 ks_180 ?_
                    refine g_iload_n (i := 3) dX12_does_123 rfl rfl ?_
                    refine g_iastore dX12_does_124 ?_
                    intro m16
                    refine g_iconst (v := (1 : Int32)) dX12_does_125 ki_1 ?_
                    exact g_zreturnK rfl (by decide) dX12_does_126
                  · refine g_iconst (v := (0 : Int32)) dX12_does_117 ki_0 ?_
                    exact g_zreturnK rfl (by decide) dX12_does_118
                · refine g_swc (k := 8) (tgt := 127) dX12_does_7 (by decide) kt_8 rfl (by decide) ?_ ?_
                  · refine g_aload_n (i := 0) dX12_does_127 rfl rfl ?_
                    refine g_aload_n (i := 1) dX12_does_128 rfl rfl ?_
                    refine g_callVI cl_X12 (crt_X12_holds _ _ _ _ _) cw_X12_holds (by decide) rfl q_1694 q_1696 qs_69 rfl rfl dX12_does_129 ?_
                    intro r17 m18
                    exact g_zreturn rfl dX12_does_132
                  · refine g_swe (n := 9) (tgt := 133) dX12_does_7 (by decide) (by decide) ?_
                    refine g_aload_n (i := 0) dX12_does_133 rfl rfl ?_
                    refine g_aload_n (i := 1) dX12_does_134 rfl rfl ?_
                    refine g_callVI cl_X12 (crt_X12_views _ _ _ _ _) cw_X12_views (by decide) rfl q_1738 q_1740 qs_77 rfl rfl dX12_does_135 ?_
                    intro r19 m20
                    exact g_zreturn rfl dX12_does_138
set_option maxRecDepth 100000 in
set_option maxHeartbeats 4000000 in
theorem crt_X12_undo (l : Launch) (θ : Th) (a0 : Nat) (m : Mm) : Crt l θ yX12_undo M_X12_undo cvI [.ref a0] m (F_X12_undo a0 m) := by
  refine crt_of 0 (by decide) rfl rfl (Nat.le_of_ble_eq_true rfl) (fun Z hμ => ?_)
  unfold F_X12_undo
  show GG Z _ _ 0 [some (.ref a0)] [] m _
  refine g_aload_n (i := 0) dX12_undo_0 rfl rfl ?_
  refine g_iconst (v := (0 : Int32)) dX12_undo_1 ki_0 ?_
  refine g_putI (k := 0) cl_X12 (by decide) rfl rfl q_1381 dX12_undo_2 ?_
  intro m1
  refine g_aload_n (i := 0) dX12_undo_5 rfl rfl ?_
  refine g_getI (k := 28) cl_X12 (by decide) rfl q_1409 dX12_undo_6 ?_
  refine g_ifne (tgt := 14) dX12_undo_9 (by decide) ?_ ?_
  · refine g_aload_n (i := 0) dX12_undo_14 rfl rfl ?_
    refine g_dup dX12_undo_15 rfl ?_
    refine g_getI (k := 28) cl_X12 (by decide) rfl q_1409 dX12_undo_16 ?_
    refine g_iconst (v := (1 : Int32)) dX12_undo_19 ki_1 ?_
    refine g_isub dX12_undo_20 ?_
    refine g_putI (k := 28) cl_X12 (by decide) rfl rfl q_1409 dX12_undo_21 ?_
    intro m2
    refine g_aload_n (i := 0) dX12_undo_24 rfl rfl ?_
    refine g_getR (k := 25) cl_X12 (by decide) rfl q_1406 dX12_undo_25 ?_
    intro q3
    refine g_aload_n (i := 0) dX12_undo_28 rfl rfl ?_
    refine g_getI (k := 28) cl_X12 (by decide) rfl q_1409 dX12_undo_29 ?_
    refine g_aaloadA dX12_undo_32 g_no ?_
    intro q4
    refine g_aload_n (i := 0) dX12_undo_33 rfl rfl ?_
    refine g_getR (k := 23) cl_X12 (by decide) rfl q_1404 dX12_undo_34 ?_
    intro q5
    refine g_callSV (crt_X12_copies _ _ _ _ _) cw_X12_copies (by decide) rfl q_1625 q_1626 rfl rfl dX12_undo_37 ?_
    intro r6 m7
    refine g_aload_n (i := 0) dX12_undo_40 rfl rfl ?_
    refine g_iconst (v := (0 : Int32)) dX12_undo_41 ki_0 ?_
    refine g_putI (k := 29) cl_X12 (by decide) rfl rfl q_1410 dX12_undo_42 ?_
    intro m8
    refine g_aload_n (i := 0) dX12_undo_45 rfl rfl ?_
    refine g_getI (k := 28) cl_X12 (by decide) rfl q_1409 dX12_undo_46 ?_
    exact g_ireturn rfl dX12_undo_49
  · refine g_iconst (v := (-1 : Int32)) dX12_undo_12 ki_m1 ?_
    exact g_ireturn rfl dX12_undo_13
set_option maxRecDepth 100000 in
set_option maxHeartbeats 4000000 in
theorem c_L_X12_told_35 {Z : Zx}  {K66 : Nat → Int32 → Int32 → Mm → Option (Int32 × Mm)} (hK66 : ∀ (v0 : Nat) (v1 : Int32) (v2 : Int32) (m : Mm), GG Z M_X12_told (PsN Z cvI) 66 [some (.ref v0), some (.int v1), some (.int v2), none] [] m (K66 v0 v1 v2 m)) : ∀ (n : Nat) (v0 : Nat) (v1 : Int32) (v2 : Int32) (v3 : Int32) (m : Mm), GG Z M_X12_told (PsN Z cvI) 35 [some (.ref v0), some (.int v1), some (.int v2), some (.int v3)] [] m (L_X12_told_35 K66 n v0 v1 v2 v3 m) := by
  intro n
  induction n with
  | zero => intro v0 v1 v2 v3 m; exact g_no
  | succ n ih =>
    intro v0 v1 v2 v3 m
    unfold L_X12_told_35
    refine g_iload_n (i := 3) dX12_told_35 rfl rfl ?_
    refine g_aload_n (i := 0) dX12_told_36 rfl rfl ?_
    refine g_getR (k := 12) cl_X12 (by decide) rfl q_1393 dX12_told_37 ?_
    intro q8
    refine g_iconst (v := (0 : Int32)) dX12_told_40 ki_0 ?_
    refine g_iaload dX12_told_41 ?_
    refine g_icmpge (tgt := 66) dX12_told_42 (by decide) ?_ ?_
    · exact g_msk [true, true, true, false] (hK66 _ _ _ _)
    · refine g_iload_n (i := 2) dX12_told_45 rfl rfl ?_
      refine g_aload_n (i := 0) dX12_told_46 rfl rfl ?_
      refine g_getR (k := 23) cl_X12 (by decide) rfl q_1404 dX12_told_47 ?_
      intro q9
      refine g_bipush (v := (24 : Int32)) dX12_told_50 kb_24 ?_
      refine g_iload_n (i := 3) dX12_told_52 rfl rfl ?_
      refine g_iadd dX12_told_53 ?_
      refine g_iaload dX12_told_54 ?_
      refine g_callSI (crt_X12_ones _ _ _ _) cw_X12_ones (by decide) rfl q_1718 q_1719 rfl rfl dX12_told_55 ?_
      intro r10 m11
      refine g_iadd dX12_told_58 ?_
      refine g_istore_n (i := 2) dX12_told_59 rfl (show 2 < 4 by decide) ?_
      intro x12
      refine g_iinc dX12_told_60 rfl ki_1 (show 3 < 4 by decide) ?_
      intro x13
      refine g_goto (tgt := 35) dX12_told_63 (by decide) ?_
      exact g_msk [true, true, true, true] (ih _ _ _ _ _)
set_option maxRecDepth 100000 in
set_option maxHeartbeats 4000000 in
theorem crt_X12_told (l : Launch) (θ : Th) (a0 : Nat) (a1 : Int32) (m : Mm) : Crt l θ yX12_told M_X12_told cvI [.ref a0, .int a1] m (F_X12_told a0 a1 m) := by
  refine crt_of 2 (by decide) rfl rfl (Nat.le_of_ble_eq_true rfl) (fun Z hμ => ?_)
  unfold F_X12_told
  show GG Z _ _ 0 [some (.ref a0), some (.int a1), none, none] [] m _
  refine g_aload_n (i := 0) dX12_told_0 rfl rfl ?_
  refine g_iconst (v := (0 : Int32)) dX12_told_1 ki_0 ?_
  refine g_putI (k := 0) cl_X12 (by decide) rfl rfl q_1381 dX12_told_2 ?_
  intro m1
  refine g_aload_n (i := 0) dX12_told_5 rfl rfl ?_
  refine g_iload_n (i := 1) dX12_told_6 rfl rfl ?_
  refine g_iconst (v := (0 : Int32)) dX12_told_7 ki_0 ?_
  refine g_bipush (v := (11 : Int32)) dX12_told_8 kb_11 ?_
  refine g_callSI (crt_X12_in _ _ _ _ _ _) cw_X12_in (by decide) rfl q_1505 q_1506 rfl rfl dX12_told_10 ?_
  intro r2 m3
  refine g_jn (fun J21 => ∀ (v0 : Nat) (v1 : Int32) (s0 : Int32) (s1 : Nat) (m : Mm), GG Z M_X12_told (PsN Z cvI) 21 [some (.ref v0), some (.int v1), none, none] [.int s0, .ref s1] m (J21 v0 v1 s0 s1 m)) ?_ ?_
  · intro v0 v1 s0 s1 m
    refine g_iconst (v := (1 : Int32)) dX12_told_21 ki_1 ?_
    refine g_iconst (v := (1 : Int32)) dX12_told_22 ki_1 ?_
    refine g_callVI cl_X12 (crt_X12_bad _ _ _ _ _ _ _) cw_X12_bad (by decide) rfl q_1508 q_1510 qs_39 rfl rfl dX12_told_23 ?_
    intro r4 m5
    refine g_ifeq (tgt := 31) dX12_told_26 (by decide) ?_ ?_
    · refine g_iconst (v := (0 : Int32)) dX12_told_31 ki_0 ?_
      refine g_istore_n (i := 2) dX12_told_32 rfl (show 2 < 4 by decide) ?_
      intro x6
      refine g_iconst (v := (0 : Int32)) dX12_told_33 ki_0 ?_
      refine g_istore_n (i := 3) dX12_told_34 rfl (show 3 < 4 by decide) ?_
      intro x7
      refine g_msk [true, true, true, true] (c_L_X12_told_35 ?_ NF _ _ _ _ _)
      intro v0 v1 v2 m
      refine g_iload_n (i := 1) dX12_told_66 rfl rfl ?_
      refine g_sw0 (lo := 0) ?_
      refine g_swc (k := 0) (tgt := 124) dX12_told_67 (by decide) kt_0 rfl (by decide) ?_ ?_
      · refine g_aload_n (i := 0) dX12_told_124 rfl rfl ?_
        refine g_getR (k := 12) cl_X12 (by decide) rfl q_1393 dX12_told_125 ?_
        intro q14
        refine g_iconst (v := (0 : Int32)) dX12_told_128 ki_0 ?_
        refine g_iaload dX12_told_129 ?_
        exact g_ireturn rfl dX12_told_130
      · refine g_swc (k := 1) (tgt := 131) dX12_told_67 (by decide) kt_1 rfl (by decide) ?_ ?_
        · refine g_aload_n (i := 0) dX12_told_131 rfl rfl ?_
          refine g_getR (k := 23) cl_X12 (by decide) rfl q_1404 dX12_told_132 ?_
          intro q15
          refine g_sipush (v := (181 : Int32)) dX12_told_135 ks_181 ?_
          refine g_iaload dX12_told_138 ?_
          exact g_ireturn rfl dX12_told_139
        · refine g_swc (k := 2) (tgt := 140) dX12_told_67 (by decide) kt_2 rfl (by decide) ?_ ?_
          · refine g_aload_n (i := 0) dX12_told_140 rfl rfl ?_
            refine g_getR (k := 23) cl_X12 (by decide) rfl q_1404 dX12_told_141 ?_
            intro q16
            refine g_sipush (v := (182 : Int32)) dX12_told_144 ks_182 ?_
            refine g_iaload dX12_told_147 ?_
            exact g_ireturn rfl dX12_told_148
          · refine g_swc (k := 3) (tgt := 149) dX12_told_67 (by decide) kt_3 rfl (by decide) ?_ ?_
            · refine g_aload_n (i := 0) dX12_told_149 rfl rfl ?_
              refine g_getR (k := 23) cl_X12 (by decide) rfl q_1404 dX12_told_150 ?_
              intro q17
              refine g_sipush (v := (184 : Int32)) dX12_told_153 ks_184 ?_
              refine g_iaload dX12_told_156 ?_
              exact g_ireturn rfl dX12_told_157
            · refine g_swc (k := 4) (tgt := 158) dX12_told_67 (by decide) kt_4 rfl (by decide) ?_ ?_
              · refine g_aload_n (i := 0) dX12_told_158 rfl rfl ?_
                refine g_getR (k := 23) cl_X12 (by decide) rfl q_1404 dX12_told_159 ?_
                intro q18
                refine g_sipush (v := (185 : Int32)) dX12_told_162 ks_185 ?_
                refine g_iaload dX12_told_165 ?_
                exact g_ireturn rfl dX12_told_166
              · refine g_swc (k := 5) (tgt := 167) dX12_told_67 (by decide) kt_5 rfl (by decide) ?_ ?_
                · refine g_aload_n (i := 0) dX12_told_167 rfl rfl ?_
                  refine g_getR (k := 23) cl_X12 (by decide) rfl q_1404 dX12_told_168 ?_
                  intro q19
                  refine g_sipush (v := (186 : Int32)) dX12_told_171 ks_186 ?_
                  refine g_iaload dX12_told_174 ?_
                  exact g_ireturn rfl dX12_told_175
                · refine g_swc (k := 6) (tgt := 176) dX12_told_67 (by decide) kt_6 rfl (by decide) ?_ ?_
                  · refine g_aload_n (i := 0) dX12_told_176 rfl rfl ?_
                    refine g_getR (k := 23) cl_X12 (by decide) rfl q_1404 dX12_told_177 ?_
                    intro q20
                    refine g_sipush (v := (180 : Int32)) dX12_told_180 ks_180 ?_
                    refine g_iaload dX12_told_183 ?_
                    exact g_ireturn rfl dX12_told_184
                  · refine g_swc (k := 7) (tgt := 185) dX12_told_67 (by decide) kt_7 rfl (by decide) ?_ ?_
                    · refine g_aload_n (i := 0) dX12_told_185 rfl rfl ?_
                      refine g_getR (k := 23) cl_X12 (by decide) rfl q_1404 dX12_told_186 ?_
                      intro q21
                      refine g_sipush (v := (187 : Int32)) dX12_told_189 ks_187 ?_
                      refine g_iaload dX12_told_192 ?_
                      exact g_ireturn rfl dX12_told_193
                    · refine g_swc (k := 8) (tgt := 194) dX12_told_67 (by decide) kt_8 rfl (by decide) ?_ ?_
                      · refine g_iload_n (i := 2) dX12_told_194 rfl rfl ?_
                        exact g_ireturn rfl dX12_told_195
                      · refine g_swc (k := 9) (tgt := 196) dX12_told_67 (by decide) kt_9 rfl (by decide) ?_ ?_
                        · refine g_aload_n (i := 0) dX12_told_196 rfl rfl ?_
                          refine g_getI (k := 27) cl_X12 (by decide) rfl q_1408 dX12_told_197 ?_
                          exact g_ireturn rfl dX12_told_200
                        · refine g_swc (k := 10) (tgt := 201) dX12_told_67 (by decide) kt_10 rfl (by decide) ?_ ?_
                          · refine g_aload_n (i := 0) dX12_told_201 rfl rfl ?_
                            refine g_getI (k := 29) cl_X12 (by decide) rfl q_1410 dX12_told_202 ?_
                            exact g_ireturn rfl dX12_told_205
                          · refine g_swe (n := 11) (tgt := 206) dX12_told_67 (by decide) (by decide) ?_
                            refine g_aload_n (i := 0) dX12_told_206 rfl rfl ?_
                            refine g_getR (k := 12) cl_X12 (by decide) rfl q_1393 dX12_told_207 ?_
                            intro q22
                            refine g_iconst (v := (2 : Int32)) dX12_told_210 ki_2 ?_
                            refine g_iaload dX12_told_211 ?_
                            exact g_ireturn rfl dX12_told_212
    · refine g_iconst (v := (0 : Int32)) dX12_told_29 ki_0 ?_
      exact g_ireturn rfl dX12_told_30
  · intro J21 hJ21
    refine g_ifne (tgt := 20) dX12_told_13 (by decide) ?_ ?_
    · refine g_iconst (v := (0 : Int32)) dX12_told_20 ki_0 ?_
      exact g_msk [true, true, false, false] (hJ21 _ _ _ _ _)
    · refine g_iconst (v := (1 : Int32)) dX12_told_16 ki_1 ?_
      refine g_goto (tgt := 21) dX12_told_17 (by decide) ?_
      exact g_msk [true, true, false, false] (hJ21 _ _ _ _ _)
set_option maxRecDepth 100000 in
set_option maxHeartbeats 4000000 in
theorem crt_X12_isMember (l : Launch) (θ : Th) (a0 : Nat) (a1 : Int32) (m : Mm) : Crt l θ yX12_isMember M_X12_isMember cvI [.ref a0, .int a1] m (F_X12_isMember a0 a1 m) := by
  refine crt_of 0 (by decide) rfl rfl (Nat.le_of_ble_eq_true rfl) (fun Z hμ => ?_)
  unfold F_X12_isMember
  show GG Z _ _ 0 [some (.ref a0), some (.int a1)] [] m _
  refine g_iload_n (i := 1) dX12_isMember_0 rfl rfl ?_
  refine g_iconst (v := (0 : Int32)) dX12_isMember_1 ki_0 ?_
  refine g_aload_n (i := 0) dX12_isMember_2 rfl rfl ?_
  refine g_getR (k := 12) cl_X12 (by decide) rfl q_1393 dX12_isMember_3 ?_
  intro q1
  refine g_iconst (v := (0 : Int32)) dX12_isMember_6 ki_0 ?_
  refine g_iaload dX12_isMember_7 ?_
  refine g_iconst (v := (1 : Int32)) dX12_isMember_8 ki_1 ?_
  refine g_isub dX12_isMember_9 ?_
  refine g_callSI (crt_X12_in _ _ _ _ _ _) cw_X12_in (by decide) rfl q_1505 q_1506 rfl rfl dX12_isMember_10 ?_
  intro r2 m3
  exact g_zreturn rfl dX12_isMember_13
set_option maxRecDepth 100000 in
set_option maxHeartbeats 4000000 in
theorem crt_X12_member (l : Launch) (θ : Th) (a0 : Nat) (a1 : Int32) (a2 : Int32) (m : Mm) : Crt l θ yX12_member M_X12_member cvI [.ref a0, .int a1, .int a2] m (F_X12_member a0 a1 a2 m) := by
  refine crt_of 0 (by decide) rfl rfl (Nat.le_of_ble_eq_true rfl) (fun Z hμ => ?_)
  unfold F_X12_member
  show GG Z _ _ 0 [some (.ref a0), some (.int a1), some (.int a2)] [] m _
  refine g_aload_n (i := 0) dX12_member_0 rfl rfl ?_
  refine g_iconst (v := (0 : Int32)) dX12_member_1 ki_0 ?_
  refine g_putI (k := 0) cl_X12 (by decide) rfl rfl q_1381 dX12_member_2 ?_
  intro m1
  refine g_aload_n (i := 0) dX12_member_5 rfl rfl ?_
  refine g_aload_n (i := 0) dX12_member_6 rfl rfl ?_
  refine g_iload_n (i := 1) dX12_member_7 rfl rfl ?_
  refine g_callVI cl_X12 (crt_X12_isMember _ _ _ _ _) cw_X12_isMember (by decide) rfl q_1777 q_1779 qs_83 rfl rfl dX12_member_8 ?_
  intro r2 m3
  refine g_jn (fun J19 => ∀ (v0 : Nat) (v1 : Int32) (v2 : Int32) (s0 : Int32) (s1 : Nat) (m : Mm), GG Z M_X12_member (PsN Z cvI) 19 [some (.ref v0), some (.int v1), some (.int v2)] [.int s0, .ref s1] m (J19 v0 v1 v2 s0 s1 m)) ?_ ?_
  · intro v0 v1 v2 s0 s1 m
    refine g_iconst (v := (1 : Int32)) dX12_member_19 ki_1 ?_
    refine g_iconst (v := (0 : Int32)) dX12_member_20 ki_0 ?_
    refine g_callVI cl_X12 (crt_X12_bad _ _ _ _ _ _ _) cw_X12_bad (by decide) rfl q_1508 q_1510 qs_39 rfl rfl dX12_member_21 ?_
    intro r4 m5
    refine g_ifne (tgt := 51) dX12_member_24 (by decide) ?_ ?_
    · refine g_iconst (v := (0 : Int32)) dX12_member_51 ki_0 ?_
      exact g_ireturn rfl dX12_member_52
    · refine g_aload_n (i := 0) dX12_member_27 rfl rfl ?_
      refine g_iload_n (i := 2) dX12_member_28 rfl rfl ?_
      refine g_iconst (v := (0 : Int32)) dX12_member_29 ki_0 ?_
      refine g_bipush (v := (6 : Int32)) dX12_member_30 kb_6 ?_
      refine g_callSI (crt_X12_in _ _ _ _ _ _) cw_X12_in (by decide) rfl q_1505 q_1506 rfl rfl dX12_member_32 ?_
      intro r6 m7
      refine g_jn (fun J43 => ∀ (v0 : Nat) (v1 : Int32) (v2 : Int32) (s0 : Int32) (s1 : Nat) (m : Mm), GG Z M_X12_member (PsN Z cvI) 43 [some (.ref v0), some (.int v1), some (.int v2)] [.int s0, .ref s1] m (J43 v0 v1 v2 s0 s1 m)) ?_ ?_
      · intro v0 v1 v2 s0 s1 m
        refine g_iconst (v := (2 : Int32)) dX12_member_43 ki_2 ?_
        refine g_iconst (v := (1 : Int32)) dX12_member_44 ki_1 ?_
        refine g_callVI cl_X12 (crt_X12_bad _ _ _ _ _ _ _) cw_X12_bad (by decide) rfl q_1508 q_1510 qs_39 rfl rfl dX12_member_45 ?_
        intro r8 m9
        refine g_ifeq (tgt := 53) dX12_member_48 (by decide) ?_ ?_
        · refine g_iload_n (i := 2) dX12_member_53 rfl rfl ?_
          refine g_sw0 (lo := 0) ?_
          refine g_swc (k := 0) (tgt := 92) dX12_member_54 (by decide) kt_0 rfl (by decide) ?_ ?_
          · refine g_aload_n (i := 0) dX12_member_92 rfl rfl ?_
            refine g_getR (k := 23) cl_X12 (by decide) rfl q_1404 dX12_member_93 ?_
            intro q10
            refine g_sipush (v := (183 : Int32)) dX12_member_96 ks_183 ?_
            refine g_iaload dX12_member_99 ?_
            refine g_iload_n (i := 1) dX12_member_100 rfl rfl ?_
            refine g_callSI (crt_X12_has _ _ _ _ _) cw_X12_has (by decide) rfl q_1378 q_1379 rfl rfl dX12_member_101 ?_
            intro r11 m12
            refine g_ifeq (tgt := 111) dX12_member_104 (by decide) ?_ ?_
            · refine g_iconst (v := (0 : Int32)) dX12_member_111 ki_0 ?_
              exact g_ireturn rfl dX12_member_112
            · refine g_iconst (v := (1 : Int32)) dX12_member_107 ki_1 ?_
              refine g_goto (tgt := 112) dX12_member_108 (by decide) ?_
              exact g_ireturn rfl dX12_member_112
          · refine g_swc (k := 1) (tgt := 113) dX12_member_54 (by decide) kt_1 rfl (by decide) ?_ ?_
            · refine g_aload_n (i := 0) dX12_member_113 rfl rfl ?_
              refine g_getR (k := 23) cl_X12 (by decide) rfl q_1404 dX12_member_114 ?_
              intro q13
              refine g_iconst (v := (0 : Int32)) dX12_member_117 ki_0 ?_
              refine g_iload_n (i := 1) dX12_member_118 rfl rfl ?_
              refine g_iadd dX12_member_119 ?_
              refine g_iaload dX12_member_120 ?_
              exact g_ireturn rfl dX12_member_121
            · refine g_swc (k := 2) (tgt := 122) dX12_member_54 (by decide) kt_2 rfl (by decide) ?_ ?_
              · refine g_aload_n (i := 0) dX12_member_122 rfl rfl ?_
                refine g_getR (k := 23) cl_X12 (by decide) rfl q_1404 dX12_member_123 ?_
                intro q14
                refine g_bipush (v := (12 : Int32)) dX12_member_126 kb_12 ?_
                refine g_iload_n (i := 1) dX12_member_128 rfl rfl ?_
                refine g_iadd dX12_member_129 ?_
                refine g_iaload dX12_member_130 ?_
                refine g_callSI (crt_X12_ones _ _ _ _) cw_X12_ones (by decide) rfl q_1718 q_1719 rfl rfl dX12_member_131 ?_
                intro r15 m16
                exact g_ireturn rfl dX12_member_134
              · refine g_swc (k := 3) (tgt := 135) dX12_member_54 (by decide) kt_3 rfl (by decide) ?_ ?_
                · refine g_aload_n (i := 0) dX12_member_135 rfl rfl ?_
                  refine g_getR (k := 23) cl_X12 (by decide) rfl q_1404 dX12_member_136 ?_
                  intro q17
                  refine g_bipush (v := (18 : Int32)) dX12_member_139 kb_18 ?_
                  refine g_iload_n (i := 1) dX12_member_141 rfl rfl ?_
                  refine g_iadd dX12_member_142 ?_
                  refine g_iaload dX12_member_143 ?_
                  refine g_callSI (crt_X12_ones _ _ _ _) cw_X12_ones (by decide) rfl q_1718 q_1719 rfl rfl dX12_member_144 ?_
                  intro r18 m19
                  exact g_ireturn rfl dX12_member_147
                · refine g_swc (k := 4) (tgt := 148) dX12_member_54 (by decide) kt_4 rfl (by decide) ?_ ?_
                  · refine g_aload_n (i := 0) dX12_member_148 rfl rfl ?_
                    refine g_getR (k := 23) cl_X12 (by decide) rfl q_1404 dX12_member_149 ?_
                    intro q20
                    refine g_bipush (v := (30 : Int32)) dX12_member_152 kb_30 ?_
                    refine g_iload_n (i := 1) dX12_member_154 rfl rfl ?_
                    refine g_iadd dX12_member_155 ?_
                    refine g_iaload dX12_member_156 ?_
                    exact g_ireturn rfl dX12_member_157
                  · refine g_swc (k := 5) (tgt := 158) dX12_member_54 (by decide) kt_5 rfl (by decide) ?_ ?_
                    · refine g_aload_n (i := 0) dX12_member_158 rfl rfl ?_
                      refine g_aload_n (i := 0) dX12_member_159 rfl rfl ?_
                      refine g_getR (k := 23) cl_X12 (by decide) rfl q_1404 dX12_member_160 ?_
                      intro q21
                      refine g_iload_n (i := 1) dX12_member_163 rfl rfl ?_
                      refine g_callVI cl_X12 (crt_X12_weight _ _ _ _ _ _) cw_X12_weight (by decide) rfl q_1714 q_1716 qs_74 rfl rfl dX12_member_164 ?_
                      intro r22 m23
                      exact g_ireturn rfl dX12_member_167
                    · refine g_swe (n := 6) (tgt := 168) dX12_member_54 (by decide) (by decide) ?_
                      refine g_iconst (v := (0 : Int32)) dX12_member_168 ki_0 ?_
                      refine g_aload_n (i := 0) dX12_member_169 rfl rfl ?_
                      refine g_getR (k := 23) cl_X12 (by decide) rfl q_1404 dX12_member_170 ?_
                      intro q24
                      refine g_bipush (v := (6 : Int32)) dX12_member_173 kb_6 ?_
                      refine g_iload_n (i := 1) dX12_member_175 rfl rfl ?_
                      refine g_iadd dX12_member_176 ?_
                      refine g_iaload dX12_member_177 ?_
                      refine g_callSI (crt_X12_more _ _ _ _ _) cw_X12_more (by decide) rfl q_1735 q_1736 rfl rfl dX12_member_178 ?_
                      intro r25 m26
                      exact g_ireturn rfl dX12_member_181
        · refine g_iconst (v := (0 : Int32)) dX12_member_51 ki_0 ?_
          exact g_ireturn rfl dX12_member_52
      · intro J43 hJ43
        refine g_ifne (tgt := 42) dX12_member_35 (by decide) ?_ ?_
        · refine g_iconst (v := (0 : Int32)) dX12_member_42 ki_0 ?_
          exact g_msk [true, true, true] (hJ43 _ _ _ _ _ _)
        · refine g_iconst (v := (1 : Int32)) dX12_member_38 ki_1 ?_
          refine g_goto (tgt := 43) dX12_member_39 (by decide) ?_
          exact g_msk [true, true, true] (hJ43 _ _ _ _ _ _)
  · intro J19 hJ19
    refine g_ifne (tgt := 18) dX12_member_11 (by decide) ?_ ?_
    · refine g_iconst (v := (0 : Int32)) dX12_member_18 ki_0 ?_
      exact g_msk [true, true, true] (hJ19 _ _ _ _ _ _)
    · refine g_iconst (v := (1 : Int32)) dX12_member_14 ki_1 ?_
      refine g_goto (tgt := 19) dX12_member_15 (by decide) ?_
      exact g_msk [true, true, true] (hJ19 _ _ _ _ _ _)
set_option maxRecDepth 100000 in
set_option maxHeartbeats 4000000 in
theorem crt_X12_tally (l : Launch) (θ : Th) (a0 : Nat) (a1 : Int32) (m : Mm) : Crt l θ yX12_tally M_X12_tally cvL [.ref a0, .int a1] m (F_X12_tally a0 a1 m) := by
  refine crt_of 0 (by decide) rfl rfl (Nat.le_of_ble_eq_true rfl) (fun Z hμ => ?_)
  unfold F_X12_tally
  show GG Z _ _ 0 [some (.ref a0), some (.int a1)] [] m _
  refine g_aload_n (i := 0) dX12_tally_0 rfl rfl ?_
  refine g_iconst (v := (0 : Int32)) dX12_tally_1 ki_0 ?_
  refine g_putI (k := 0) cl_X12 (by decide) rfl rfl q_1381 dX12_tally_2 ?_
  intro m1
  refine g_aload_n (i := 0) dX12_tally_5 rfl rfl ?_
  refine g_aload_n (i := 0) dX12_tally_6 rfl rfl ?_
  refine g_iload_n (i := 1) dX12_tally_7 rfl rfl ?_
  refine g_callVI cl_X12 (crt_X12_isMember _ _ _ _ _) cw_X12_isMember (by decide) rfl q_1777 q_1779 qs_83 rfl rfl dX12_tally_8 ?_
  intro r2 m3
  refine g_jn (fun J19 => ∀ (v0 : Nat) (v1 : Int32) (s0 : Int32) (s1 : Nat) (m : Mm), GG Z M_X12_tally (PsN Z cvL) 19 [some (.ref v0), some (.int v1)] [.int s0, .ref s1] m (J19 v0 v1 s0 s1 m)) ?_ ?_
  · intro v0 v1 s0 s1 m
    refine g_iconst (v := (1 : Int32)) dX12_tally_19 ki_1 ?_
    refine g_iconst (v := (0 : Int32)) dX12_tally_20 ki_0 ?_
    refine g_callVI cl_X12 (crt_X12_bad _ _ _ _ _ _ _) cw_X12_bad (by decide) rfl q_1508 q_1510 qs_39 rfl rfl dX12_tally_21 ?_
    intro r4 m5
    refine g_ifeq (tgt := 29) dX12_tally_24 (by decide) ?_ ?_
    · refine g_aload_n (i := 0) dX12_tally_29 rfl rfl ?_
      refine g_getR (k := 23) cl_X12 (by decide) rfl q_1404 dX12_tally_30 ?_
      intro q6
      refine g_sipush (v := (188 : Int32)) dX12_tally_33 ks_188 ?_
      refine g_iconst (v := (2 : Int32)) dX12_tally_36 ki_2 ?_
      refine g_iload_n (i := 1) dX12_tally_37 rfl rfl ?_
      refine g_imul dX12_tally_38 ?_
      refine g_iadd dX12_tally_39 ?_
      refine g_callSL (crt_X12_wide _ _ _ _ _) cw_X12_wide (by decide) rfl q_1649 q_1650 rfl rfl dX12_tally_40 ?_
      intro r7 m8
      exact g_lreturn rfl dX12_tally_43
    · refine g_lconst (v := (0 : Int64)) dX12_tally_27 rfl ?_
      exact g_lreturn rfl dX12_tally_28
  · intro J19 hJ19
    refine g_ifne (tgt := 18) dX12_tally_11 (by decide) ?_ ?_
    · refine g_iconst (v := (0 : Int32)) dX12_tally_18 ki_0 ?_
      exact g_msk [true, true] (hJ19 _ _ _ _ _)
    · refine g_iconst (v := (1 : Int32)) dX12_tally_14 ki_1 ?_
      refine g_goto (tgt := 19) dX12_tally_15 (by decide) ?_
      exact g_msk [true, true] (hJ19 _ _ _ _ _)
set_option maxRecDepth 100000 in
set_option maxHeartbeats 4000000 in
theorem crt_X12_log (l : Launch) (θ : Th) (a0 : Nat) (a1 : Int32) (a2 : Int32) (m : Mm) : Crt l θ yX12_log M_X12_log cvL [.ref a0, .int a1, .int a2] m (F_X12_log a0 a1 a2 m) := by
  refine crt_of 0 (by decide) rfl rfl (Nat.le_of_ble_eq_true rfl) (fun Z hμ => ?_)
  unfold F_X12_log
  show GG Z _ _ 0 [some (.ref a0), some (.int a1), some (.int a2)] [] m _
  refine g_aload_n (i := 0) dX12_log_0 rfl rfl ?_
  refine g_iconst (v := (0 : Int32)) dX12_log_1 ki_0 ?_
  refine g_putI (k := 0) cl_X12 (by decide) rfl rfl q_1381 dX12_log_2 ?_
  intro m1
  refine g_aload_n (i := 0) dX12_log_5 rfl rfl ?_
  refine g_aload_n (i := 0) dX12_log_6 rfl rfl ?_
  refine g_iload_n (i := 1) dX12_log_7 rfl rfl ?_
  refine g_callVI cl_X12 (crt_X12_isMember _ _ _ _ _) cw_X12_isMember (by decide) rfl q_1777 q_1779 qs_83 rfl rfl dX12_log_8 ?_
  intro r2 m3
  refine g_jn (fun J19 => ∀ (v0 : Nat) (v1 : Int32) (v2 : Int32) (s0 : Int32) (s1 : Nat) (m : Mm), GG Z M_X12_log (PsN Z cvL) 19 [some (.ref v0), some (.int v1), some (.int v2)] [.int s0, .ref s1] m (J19 v0 v1 v2 s0 s1 m)) ?_ ?_
  · intro v0 v1 v2 s0 s1 m
    refine g_iconst (v := (1 : Int32)) dX12_log_19 ki_1 ?_
    refine g_iconst (v := (0 : Int32)) dX12_log_20 ki_0 ?_
    refine g_callVI cl_X12 (crt_X12_bad _ _ _ _ _ _ _) cw_X12_bad (by decide) rfl q_1508 q_1510 qs_39 rfl rfl dX12_log_21 ?_
    intro r4 m5
    refine g_ifne (tgt := 87) dX12_log_24 (by decide) ?_ ?_
    · refine g_lconst (v := (0 : Int64)) dX12_log_87 rfl ?_
      exact g_lreturn rfl dX12_log_88
    · refine g_aload_n (i := 0) dX12_log_27 rfl rfl ?_
      refine g_aload_n (i := 0) dX12_log_28 rfl rfl ?_
      refine g_getR (k := 23) cl_X12 (by decide) rfl q_1404 dX12_log_29 ?_
      intro q6
      refine g_bipush (v := (6 : Int32)) dX12_log_32 kb_6 ?_
      refine g_iload_n (i := 1) dX12_log_34 rfl rfl ?_
      refine g_iadd dX12_log_35 ?_
      refine g_iaload dX12_log_36 ?_
      refine g_iconst (v := (-1 : Int32)) dX12_log_37 ki_m1 ?_
      refine g_jn (fun J46 => ∀ (v0 : Nat) (v1 : Int32) (v2 : Int32) (s0 : Int32) (s1 : Nat) (m : Mm), GG Z M_X12_log (PsN Z cvL) 46 [some (.ref v0), some (.int v1), some (.int v2)] [.int s0, .ref s1] m (J46 v0 v1 v2 s0 s1 m)) ?_ ?_
      · intro v0 v1 v2 s0 s1 m
        refine g_iconst (v := (2 : Int32)) dX12_log_46 ki_2 ?_
        refine g_iconst (v := (2 : Int32)) dX12_log_47 ki_2 ?_
        refine g_callVI cl_X12 (crt_X12_bad _ _ _ _ _ _ _) cw_X12_bad (by decide) rfl q_1508 q_1510 qs_39 rfl rfl dX12_log_48 ?_
        intro r7 m8
        refine g_ifne (tgt := 87) dX12_log_51 (by decide) ?_ ?_
        · refine g_lconst (v := (0 : Int64)) dX12_log_87 rfl ?_
          exact g_lreturn rfl dX12_log_88
        · refine g_aload_n (i := 0) dX12_log_54 rfl rfl ?_
          refine g_iload_n (i := 2) dX12_log_55 rfl rfl ?_
          refine g_iconst (v := (0 : Int32)) dX12_log_56 ki_0 ?_
          refine g_aload_n (i := 0) dX12_log_57 rfl rfl ?_
          refine g_getR (k := 23) cl_X12 (by decide) rfl q_1404 dX12_log_58 ?_
          intro q9
          refine g_bipush (v := (6 : Int32)) dX12_log_61 kb_6 ?_
          refine g_iload_n (i := 1) dX12_log_63 rfl rfl ?_
          refine g_iadd dX12_log_64 ?_
          refine g_iaload dX12_log_65 ?_
          refine g_iconst (v := (1 : Int32)) dX12_log_66 ki_1 ?_
          refine g_isub dX12_log_67 ?_
          refine g_callSI (crt_X12_in _ _ _ _ _ _) cw_X12_in (by decide) rfl q_1505 q_1506 rfl rfl dX12_log_68 ?_
          intro r10 m11
          refine g_jn (fun J79 => ∀ (v0 : Nat) (v1 : Int32) (v2 : Int32) (s0 : Int32) (s1 : Nat) (m : Mm), GG Z M_X12_log (PsN Z cvL) 79 [some (.ref v0), some (.int v1), some (.int v2)] [.int s0, .ref s1] m (J79 v0 v1 v2 s0 s1 m)) ?_ ?_
          · intro v0 v1 v2 s0 s1 m
            refine g_iconst (v := (3 : Int32)) dX12_log_79 ki_3 ?_
            refine g_iconst (v := (3 : Int32)) dX12_log_80 ki_3 ?_
            refine g_callVI cl_X12 (crt_X12_bad _ _ _ _ _ _ _) cw_X12_bad (by decide) rfl q_1508 q_1510 qs_39 rfl rfl dX12_log_81 ?_
            intro r12 m13
            refine g_ifeq (tgt := 89) dX12_log_84 (by decide) ?_ ?_
            · refine g_aload_n (i := 0) dX12_log_89 rfl rfl ?_
              refine g_getR (k := 23) cl_X12 (by decide) rfl q_1404 dX12_log_90 ?_
              intro q14
              refine g_iload_n (i := 1) dX12_log_93 rfl rfl ?_
              refine g_iload_n (i := 2) dX12_log_94 rfl rfl ?_
              refine g_callSI (crt_X12_entryOf _ _ _ _ _) cw_X12_entryOf (by decide) rfl q_1659 q_1660 rfl rfl dX12_log_95 ?_
              intro r15 m16
              refine g_callSL (crt_X12_wide _ _ _ _ _) cw_X12_wide (by decide) rfl q_1649 q_1650 rfl rfl dX12_log_98 ?_
              intro r17 m18
              exact g_lreturn rfl dX12_log_101
            · refine g_lconst (v := (0 : Int64)) dX12_log_87 rfl ?_
              exact g_lreturn rfl dX12_log_88
          · intro J79 hJ79
            refine g_ifne (tgt := 78) dX12_log_71 (by decide) ?_ ?_
            · refine g_iconst (v := (0 : Int32)) dX12_log_78 ki_0 ?_
              exact g_msk [true, true, true] (hJ79 _ _ _ _ _ _)
            · refine g_iconst (v := (1 : Int32)) dX12_log_74 ki_1 ?_
              refine g_goto (tgt := 79) dX12_log_75 (by decide) ?_
              exact g_msk [true, true, true] (hJ79 _ _ _ _ _ _)
      · intro J46 hJ46
        refine g_icmpne (tgt := 45) dX12_log_38 (by decide) ?_ ?_
        · refine g_iconst (v := (0 : Int32)) dX12_log_45 ki_0 ?_
          exact g_msk [true, true, true] (hJ46 _ _ _ _ _ _)
        · refine g_iconst (v := (1 : Int32)) dX12_log_41 ki_1 ?_
          refine g_goto (tgt := 46) dX12_log_42 (by decide) ?_
          exact g_msk [true, true, true] (hJ46 _ _ _ _ _ _)
  · intro J19 hJ19
    refine g_ifne (tgt := 18) dX12_log_11 (by decide) ?_ ?_
    · refine g_iconst (v := (0 : Int32)) dX12_log_18 ki_0 ?_
      exact g_msk [true, true, true] (hJ19 _ _ _ _ _ _)
    · refine g_iconst (v := (1 : Int32)) dX12_log_14 ki_1 ?_
      refine g_goto (tgt := 19) dX12_log_15 (by decide) ?_
      exact g_msk [true, true, true] (hJ19 _ _ _ _ _ _)
set_option maxRecDepth 100000 in
set_option maxHeartbeats 4000000 in
theorem c_L_X12_whoHas_5 {Z : Zx}    : ∀ (n : Nat) (v0 : Nat) (v1 : Int32) (v2 : Int32) (v3 : Int32) (v4 : Int32) (m : Mm), GG Z M_X12_whoHas (PsN Z cvI) 5 [some (.ref v0), some (.int v1), some (.int v2), some (.int v3), some (.int v4)] [] m (L_X12_whoHas_5 n v0 v1 v2 v3 v4 m) := by
  intro n
  induction n with
  | zero => intro v0 v1 v2 v3 v4 m; exact g_no
  | succ n ih =>
    intro v0 v1 v2 v3 v4 m
    unfold L_X12_whoHas_5
    refine g_iload dX12_whoHas_5 rfl ?_
    refine g_aload_n (i := 0) dX12_whoHas_7 rfl rfl ?_
    refine g_getR (k := 12) cl_X12 (by decide) rfl q_1393 dX12_whoHas_8 ?_
    intro q3
    refine g_iconst (v := (0 : Int32)) dX12_whoHas_11 ki_0 ?_
    refine g_iaload dX12_whoHas_12 ?_
    refine g_icmpge (tgt := 49) dX12_whoHas_13 (by decide) ?_ ?_
    · refine g_iload_n (i := 3) dX12_whoHas_49 rfl rfl ?_
      exact g_ireturn rfl dX12_whoHas_50
    · refine g_iload_n (i := 3) dX12_whoHas_16 rfl rfl ?_
      refine g_aload_n (i := 0) dX12_whoHas_17 rfl rfl ?_
      refine g_getR (k := 23) cl_X12 (by decide) rfl q_1404 dX12_whoHas_18 ?_
      intro q4
      refine g_iload_n (i := 1) dX12_whoHas_21 rfl rfl ?_
      refine g_iload dX12_whoHas_22 rfl ?_
      refine g_iadd dX12_whoHas_24 ?_
      refine g_iaload dX12_whoHas_25 ?_
      refine g_iload_n (i := 2) dX12_whoHas_26 rfl rfl ?_
      refine g_callSI (crt_X12_has _ _ _ _ _) cw_X12_has (by decide) rfl q_1378 q_1379 rfl rfl dX12_whoHas_27 ?_
      intro r5 m6
      refine g_jn (fun J41 => ∀ (v0 : Nat) (v1 : Int32) (v2 : Int32) (v4 : Int32) (s0 : Int32) (s1 : Int32) (m : Mm), GG Z M_X12_whoHas (PsN Z cvI) 41 [some (.ref v0), some (.int v1), some (.int v2), none, some (.int v4)] [.int s0, .int s1] m (J41 v0 v1 v2 v4 s0 s1 m)) ?_ ?_
      · intro v0 v1 v2 v4 s0 s1 m
        refine g_ior dX12_whoHas_41 ?_
        refine g_istore_n (i := 3) dX12_whoHas_42 rfl (show 3 < 5 by decide) ?_
        intro x7
        refine g_iinc dX12_whoHas_43 rfl ki_1 (show 4 < 5 by decide) ?_
        intro x8
        refine g_goto (tgt := 5) dX12_whoHas_46 (by decide) ?_
        exact g_msk [true, true, true, true, true] (ih _ _ _ _ _ _)
      · intro J41 hJ41
        refine g_ifeq (tgt := 40) dX12_whoHas_30 (by decide) ?_ ?_
        · refine g_iconst (v := (0 : Int32)) dX12_whoHas_40 ki_0 ?_
          exact g_msk [true, true, true, false, true] (hJ41 _ _ _ _ _ _ _)
        · refine g_iconst (v := (1 : Int32)) dX12_whoHas_33 ki_1 ?_
          refine g_iload dX12_whoHas_34 rfl ?_
          refine g_ishl dX12_whoHas_36 ?_
          refine g_goto (tgt := 41) dX12_whoHas_37 (by decide) ?_
          exact g_msk [true, true, true, false, true] (hJ41 _ _ _ _ _ _ _)
set_option maxRecDepth 100000 in
set_option maxHeartbeats 4000000 in
theorem crt_X12_whoHas (l : Launch) (θ : Th) (a0 : Nat) (a1 : Int32) (a2 : Int32) (m : Mm) : Crt l θ yX12_whoHas M_X12_whoHas cvI [.ref a0, .int a1, .int a2] m (F_X12_whoHas a0 a1 a2 m) := by
  refine crt_of 2 (by decide) rfl rfl (Nat.le_of_ble_eq_true rfl) (fun Z hμ => ?_)
  unfold F_X12_whoHas
  show GG Z _ _ 0 [some (.ref a0), some (.int a1), some (.int a2), none, none] [] m _
  refine g_iconst (v := (0 : Int32)) dX12_whoHas_0 ki_0 ?_
  refine g_istore_n (i := 3) dX12_whoHas_1 rfl (show 3 < 5 by decide) ?_
  intro x1
  refine g_iconst (v := (0 : Int32)) dX12_whoHas_2 ki_0 ?_
  refine g_istore dX12_whoHas_3 (show 4 < 5 by decide) ?_
  intro x2
  exact g_msk [true, true, true, true, true] (c_L_X12_whoHas_5 NF _ _ _ _ _ _)
set_option maxRecDepth 100000 in
set_option maxHeartbeats 4000000 in
theorem crt_X12_message (l : Launch) (θ : Th) (a0 : Nat) (a1 : Int32) (a2 : Int32) (m : Mm) : Crt l θ yX12_message M_X12_message cvI [.ref a0, .int a1, .int a2] m (F_X12_message a0 a1 a2 m) := by
  refine crt_of 0 (by decide) rfl rfl (Nat.le_of_ble_eq_true rfl) (fun Z hμ => ?_)
  unfold F_X12_message
  show GG Z _ _ 0 [some (.ref a0), some (.int a1), some (.int a2)] [] m _
  refine g_aload_n (i := 0) dX12_message_0 rfl rfl ?_
  refine g_iconst (v := (0 : Int32)) dX12_message_1 ki_0 ?_
  refine g_putI (k := 0) cl_X12 (by decide) rfl rfl q_1381 dX12_message_2 ?_
  intro m1
  refine g_aload_n (i := 0) dX12_message_5 rfl rfl ?_
  refine g_iload_n (i := 2) dX12_message_6 rfl rfl ?_
  refine g_iconst (v := (0 : Int32)) dX12_message_7 ki_0 ?_
  refine g_iconst (v := (4 : Int32)) dX12_message_8 ki_4 ?_
  refine g_callSI (crt_X12_in _ _ _ _ _ _) cw_X12_in (by decide) rfl q_1505 q_1506 rfl rfl dX12_message_9 ?_
  intro r2 m3
  refine g_jn (fun J20 => ∀ (v0 : Nat) (v1 : Int32) (v2 : Int32) (s0 : Int32) (s1 : Nat) (m : Mm), GG Z M_X12_message (PsN Z cvI) 20 [some (.ref v0), some (.int v1), some (.int v2)] [.int s0, .ref s1] m (J20 v0 v1 v2 s0 s1 m)) ?_ ?_
  · intro v0 v1 v2 s0 s1 m
    refine g_iconst (v := (1 : Int32)) dX12_message_20 ki_1 ?_
    refine g_iconst (v := (1 : Int32)) dX12_message_21 ki_1 ?_
    refine g_callVI cl_X12 (crt_X12_bad _ _ _ _ _ _ _) cw_X12_bad (by decide) rfl q_1508 q_1510 qs_39 rfl rfl dX12_message_22 ?_
    intro r4 m5
    refine g_ifne (tgt := 78) dX12_message_25 (by decide) ?_ ?_
    · refine g_iconst (v := (0 : Int32)) dX12_message_78 ki_0 ?_
      exact g_ireturn rfl dX12_message_79
    · refine g_aload_n (i := 0) dX12_message_28 rfl rfl ?_
      refine g_iload_n (i := 1) dX12_message_29 rfl rfl ?_
      refine g_iconst (v := (0 : Int32)) dX12_message_30 ki_0 ?_
      refine g_bipush (v := (29 : Int32)) dX12_message_31 kb_29 ?_
      refine g_callSI (crt_X12_in _ _ _ _ _ _) cw_X12_in (by decide) rfl q_1505 q_1506 rfl rfl dX12_message_33 ?_
      intro r6 m7
      refine g_jn (fun J44 => ∀ (v0 : Nat) (v1 : Int32) (v2 : Int32) (s0 : Int32) (s1 : Nat) (m : Mm), GG Z M_X12_message (PsN Z cvI) 44 [some (.ref v0), some (.int v1), some (.int v2)] [.int s0, .ref s1] m (J44 v0 v1 v2 s0 s1 m)) ?_ ?_
      · intro v0 v1 v2 s0 s1 m
        refine g_iconst (v := (3 : Int32)) dX12_message_44 ki_3 ?_
        refine g_iconst (v := (3 : Int32)) dX12_message_45 ki_3 ?_
        refine g_callVI cl_X12 (crt_X12_bad _ _ _ _ _ _ _) cw_X12_bad (by decide) rfl q_1508 q_1510 qs_39 rfl rfl dX12_message_46 ?_
        intro r8 m9
        refine g_ifne (tgt := 78) dX12_message_49 (by decide) ?_ ?_
        · refine g_iconst (v := (0 : Int32)) dX12_message_78 ki_0 ?_
          exact g_ireturn rfl dX12_message_79
        · refine g_aload_n (i := 0) dX12_message_52 rfl rfl ?_
          refine g_iload_n (i := 1) dX12_message_53 rfl rfl ?_
          refine g_aload_n (i := 0) dX12_message_54 rfl rfl ?_
          refine g_getR (k := 23) cl_X12 (by decide) rfl q_1404 dX12_message_55 ?_
          intro q10
          refine g_sipush (v := (187 : Int32)) dX12_message_58 ks_187 ?_
          refine g_iaload dX12_message_61 ?_
          refine g_jn (fun J70 => ∀ (v0 : Nat) (v1 : Int32) (v2 : Int32) (s0 : Int32) (s1 : Nat) (m : Mm), GG Z M_X12_message (PsN Z cvI) 70 [some (.ref v0), some (.int v1), some (.int v2)] [.int s0, .ref s1] m (J70 v0 v1 v2 s0 s1 m)) ?_ ?_
          · intro v0 v1 v2 s0 s1 m
            refine g_iconst (v := (2 : Int32)) dX12_message_70 ki_2 ?_
            refine g_iconst (v := (2 : Int32)) dX12_message_71 ki_2 ?_
            refine g_callVI cl_X12 (crt_X12_bad _ _ _ _ _ _ _) cw_X12_bad (by decide) rfl q_1508 q_1510 qs_39 rfl rfl dX12_message_72 ?_
            intro r11 m12
            refine g_ifeq (tgt := 80) dX12_message_75 (by decide) ?_ ?_
            · refine g_iload_n (i := 2) dX12_message_80 rfl rfl ?_
              refine g_ifne (tgt := 96) dX12_message_81 (by decide) ?_ ?_
              · refine g_iload_n (i := 2) dX12_message_96 rfl rfl ?_
                refine g_iconst (v := (1 : Int32)) dX12_message_97 ki_1 ?_
                refine g_icmpne (tgt := 114) dX12_message_98 (by decide) ?_ ?_
                · refine g_aload_n (i := 0) dX12_message_114 rfl rfl ?_
                  refine g_iload_n (i := 2) dX12_message_115 rfl rfl ?_
                  refine g_iconst (v := (2 : Int32)) dX12_message_116 ki_2 ?_
                  refine g_jn (fun J137 => ∀ (v1 : Int32) (s0 : Int32) (s1 : Nat) (m : Mm), GG Z M_X12_message (PsN Z cvI) 137 [none, some (.int v1), none] [.int s0, .ref s1] m (J137 v1 s0 s1 m)) ?_ ?_
                  · intro v1 s0 s1 m
                    refine g_iload_n (i := 1) dX12_message_137 rfl rfl ?_
                    refine g_callVI cl_X12 (crt_X12_whoHas _ _ _ _ _ _) cw_X12_whoHas (by decide) rfl q_1793 q_1795 qs_84 rfl rfl dX12_message_138 ?_
                    intro r13 m14
                    exact g_ireturn rfl dX12_message_141
                  · intro J137 hJ137
                    refine g_icmpne (tgt := 125) dX12_message_117 (by decide) ?_ ?_
                    · refine g_iload_n (i := 2) dX12_message_125 rfl rfl ?_
                      refine g_iconst (v := (3 : Int32)) dX12_message_126 ki_3 ?_
                      refine g_icmpne (tgt := 135) dX12_message_127 (by decide) ?_ ?_
                      · refine g_bipush (v := (24 : Int32)) dX12_message_135 kb_24 ?_
                        exact g_msk [false, true, false] (hJ137 _ _ _ _)
                      · refine g_bipush (v := (18 : Int32)) dX12_message_130 kb_18 ?_
                        refine g_goto (tgt := 137) dX12_message_132 (by decide) ?_
                        exact g_msk [false, true, false] (hJ137 _ _ _ _)
                    · refine g_bipush (v := (12 : Int32)) dX12_message_120 kb_12 ?_
                      refine g_goto (tgt := 137) dX12_message_122 (by decide) ?_
                      exact g_msk [false, true, false] (hJ137 _ _ _ _)
                · refine g_aload_n (i := 0) dX12_message_101 rfl rfl ?_
                  refine g_getR (k := 23) cl_X12 (by decide) rfl q_1404 dX12_message_102 ?_
                  intro q15
                  refine g_sipush (v := (150 : Int32)) dX12_message_105 ks_150 ?_
                  refine g_iload_n (i := 1) dX12_message_108 rfl rfl ?_
                  refine g_iadd dX12_message_109 ?_
                  refine g_iaload dX12_message_110 ?_
                  refine g_goto (tgt := 141) dX12_message_111 (by decide) ?_
                  exact g_ireturn rfl dX12_message_141
              · refine g_aload_n (i := 0) dX12_message_84 rfl rfl ?_
                refine g_getR (k := 23) cl_X12 (by decide) rfl q_1404 dX12_message_85 ?_
                intro q16
                refine g_bipush (v := (120 : Int32)) dX12_message_88 kb_120 ?_
                refine g_iload_n (i := 1) dX12_message_90 rfl rfl ?_
                refine g_iadd dX12_message_91 ?_
                refine g_iaload dX12_message_92 ?_
                refine g_goto (tgt := 141) dX12_message_93 (by decide) ?_
                exact g_ireturn rfl dX12_message_141
            · refine g_iconst (v := (0 : Int32)) dX12_message_78 ki_0 ?_
              exact g_ireturn rfl dX12_message_79
          · intro J70 hJ70
            refine g_icmplt (tgt := 69) dX12_message_62 (by decide) ?_ ?_
            · refine g_iconst (v := (0 : Int32)) dX12_message_69 ki_0 ?_
              exact g_msk [true, true, true] (hJ70 _ _ _ _ _ _)
            · refine g_iconst (v := (1 : Int32)) dX12_message_65 ki_1 ?_
              refine g_goto (tgt := 70) dX12_message_66 (by decide) ?_
              exact g_msk [true, true, true] (hJ70 _ _ _ _ _ _)
      · intro J44 hJ44
        refine g_ifne (tgt := 43) dX12_message_36 (by decide) ?_ ?_
        · refine g_iconst (v := (0 : Int32)) dX12_message_43 ki_0 ?_
          exact g_msk [true, true, true] (hJ44 _ _ _ _ _ _)
        · refine g_iconst (v := (1 : Int32)) dX12_message_39 ki_1 ?_
          refine g_goto (tgt := 44) dX12_message_40 (by decide) ?_
          exact g_msk [true, true, true] (hJ44 _ _ _ _ _ _)
  · intro J20 hJ20
    refine g_ifne (tgt := 19) dX12_message_12 (by decide) ?_ ?_
    · refine g_iconst (v := (0 : Int32)) dX12_message_19 ki_0 ?_
      exact g_msk [true, true, true] (hJ20 _ _ _ _ _ _)
    · refine g_iconst (v := (1 : Int32)) dX12_message_15 ki_1 ?_
      refine g_goto (tgt := 20) dX12_message_16 (by decide) ?_
      exact g_msk [true, true, true] (hJ20 _ _ _ _ _ _)
