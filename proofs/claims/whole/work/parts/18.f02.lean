def F_X5_forget (a0 : Nat) (m : Mm) : Option (Unit × Mm) :=
 gd (okO m a0 5) (lt9 (wI m a0 1 (0 : Int32)) fun m1 =>
 some ((), m1))
def F_X7_copy (a0 : Nat) (a1 : Nat) (m : Mm) : Option (Unit × Mm) :=
 gd (okO m a1 7) (
 gd (okO m a0 7) (lt9 (wI m a0 0 (rI m a1 0)) fun m1 =>
 gd (okO m1 a1 7) (
 gd (okO m1 a0 7) (lt9 (wI m1 a0 1 (rI m1 a1 1)) fun m2 =>
 gd (okO m2 a1 7) (
 gd (okO m2 a0 7) (lt9 (wI m2 a0 2 (rI m2 a1 2)) fun m3 =>
 gd (okO m3 a1 7) (
 gd (okO m3 a0 7) (lt9 (wI m3 a0 3 (rI m3 a1 3)) fun m4 =>
 gd (okO m4 a1 7) (
 gd (okO m4 a0 7) (lt9 (wI m4 a0 4 (rI m4 a1 4)) fun m5 =>
 gd (okO m5 a1 7) (
 gd (okO m5 a0 7) (lt9 (wI m5 a0 5 (rI m5 a1 5)) fun m6 =>
 gd (okO m6 a1 7) (
 gd (okO m6 a0 7) (lt9 (wI m6 a0 6 (rI m6 a1 6)) fun m7 =>
 gd (okO m7 a1 7) (
 gd (okO m7 a0 7) (lt9 (wI m7 a0 7 (rI m7 a1 7)) fun m8 =>
 gd (okO m8 a1 7) (oc (rR m8 a1 8) none fun q9 =>
 gd (okO m8 a0 7) (oc (rR m8 a0 8) none fun q10 =>
 gd (okO m8 a0 7) (oc (rR m8 a0 8) none fun q11 =>
 gd (okT m8 100 q11) (
 gd (okC m8 100 q9 (0 : Int32) (ln m8 q11) && okC m8 100 q10 (0 : Int32) (ln m8 q11)) (lt9 (cpI m8 q9 (ix (0 : Int32)) q10 (ix (0 : Int32)) (ix (ln m8 q11))) fun m12 =>
 gd (okO m12 a1 7) (oc (rR m12 a1 9) none fun q13 =>
 gd (okO m12 a0 7) (oc (rR m12 a0 9) none fun q14 =>
 gd (okO m12 a0 7) (oc (rR m12 a0 9) none fun q15 =>
 gd (okT m12 100 q15) (
 gd (okC m12 100 q13 (0 : Int32) (ln m12 q15) && okC m12 100 q14 (0 : Int32) (ln m12 q15)) (lt9 (cpI m12 q13 (ix (0 : Int32)) q14 (ix (0 : Int32)) (ix (ln m12 q15))) fun m16 =>
 gd (okO m16 a1 7) (oc (rR m16 a1 10) none fun q17 =>
 gd (okO m16 a0 7) (oc (rR m16 a0 10) none fun q18 =>
 gd (okO m16 a0 7) (oc (rR m16 a0 10) none fun q19 =>
 gd (okT m16 100 q19) (
 gd (okC m16 100 q17 (0 : Int32) (ln m16 q19) && okC m16 100 q18 (0 : Int32) (ln m16 q19)) (lt9 (cpI m16 q17 (ix (0 : Int32)) q18 (ix (0 : Int32)) (ix (ln m16 q19))) fun m20 =>
 gd (okO m20 a1 7) (oc (rR m20 a1 11) none fun q21 =>
 gd (okO m20 a0 7) (oc (rR m20 a0 11) none fun q22 =>
 gd (okO m20 a0 7) (oc (rR m20 a0 11) none fun q23 =>
 gd (okT m20 100 q23) (
 gd (okC m20 100 q21 (0 : Int32) (ln m20 q23) && okC m20 100 q22 (0 : Int32) (ln m20 q23)) (lt9 (cpI m20 q21 (ix (0 : Int32)) q22 (ix (0 : Int32)) (ix (ln m20 q23))) fun m24 =>
 gd (okO m24 a1 7) (oc (rR m24 a1 12) none fun q25 =>
 gd (okO m24 a0 7) (oc (rR m24 a0 12) none fun q26 =>
 gd (okO m24 a0 7) (oc (rR m24 a0 12) none fun q27 =>
 gd (okT m24 100 q27) (
 gd (okC m24 100 q25 (0 : Int32) (ln m24 q27) && okC m24 100 q26 (0 : Int32) (ln m24 q27)) (lt9 (cpI m24 q25 (ix (0 : Int32)) q26 (ix (0 : Int32)) (ix (ln m24 q27))) fun m28 =>
 gd (okO m28 a1 7) (oc (rR m28 a1 13) none fun q29 =>
 gd (okO m28 a0 7) (oc (rR m28 a0 13) none fun q30 =>
 gd (okO m28 a0 7) (oc (rR m28 a0 13) none fun q31 =>
 gd (okT m28 100 q31) (
 gd (okC m28 100 q29 (0 : Int32) (ln m28 q31) && okC m28 100 q30 (0 : Int32) (ln m28 q31)) (lt9 (cpI m28 q29 (ix (0 : Int32)) q30 (ix (0 : Int32)) (ix (ln m28 q31))) fun m32 =>
 gd (okO m32 a1 7) (oc (rR m32 a1 14) none fun q33 =>
 gd (okO m32 a0 7) (oc (rR m32 a0 14) none fun q34 =>
 gd (okO m32 a0 7) (oc (rR m32 a0 14) none fun q35 =>
 gd (okT m32 100 q35) (
 gd (okC m32 100 q33 (0 : Int32) (ln m32 q35) && okC m32 100 q34 (0 : Int32) (ln m32 q35)) (lt9 (cpI m32 q33 (ix (0 : Int32)) q34 (ix (0 : Int32)) (ix (ln m32 q35))) fun m36 =>
 gd (okO m36 a1 7) (oc (rR m36 a1 15) none fun q37 =>
 gd (okO m36 a0 7) (oc (rR m36 a0 15) none fun q38 =>
 gd (okO m36 a0 7) (oc (rR m36 a0 15) none fun q39 =>
 gd (okT m36 100 q39) (
 gd (okC m36 100 q37 (0 : Int32) (ln m36 q39) && okC m36 100 q38 (0 : Int32) (ln m36 q39)) (lt9 (cpI m36 q37 (ix (0 : Int32)) q38 (ix (0 : Int32)) (ix (ln m36 q39))) fun m40 =>
 gd (okO m40 a1 7) (oc (rR m40 a1 16) none fun q41 =>
 gd (okO m40 a0 7) (oc (rR m40 a0 16) none fun q42 =>
 gd (okO m40 a0 7) (oc (rR m40 a0 16) none fun q43 =>
 gd (okT m40 100 q43) (
 gd (okC m40 100 q41 (0 : Int32) (ln m40 q43) && okC m40 100 q42 (0 : Int32) (ln m40 q43)) (lt9 (cpI m40 q41 (ix (0 : Int32)) q42 (ix (0 : Int32)) (ix (ln m40 q43))) fun m44 =>
 gd (okO m44 a1 7) (oc (rR m44 a1 17) none fun q45 =>
 gd (okO m44 a0 7) (oc (rR m44 a0 17) none fun q46 =>
 gd (okO m44 a0 7) (oc (rR m44 a0 17) none fun q47 =>
 gd (okT m44 100 q47) (
 gd (okC m44 100 q45 (0 : Int32) (ln m44 q47) && okC m44 100 q46 (0 : Int32) (ln m44 q47)) (lt9 (cpI m44 q45 (ix (0 : Int32)) q46 (ix (0 : Int32)) (ix (ln m44 q47))) fun m48 =>
 gd (okO m48 a1 7) (oc (rR m48 a1 18) none fun q49 =>
 gd (okO m48 a0 7) (oc (rR m48 a0 18) none fun q50 =>
 gd (okO m48 a0 7) (oc (rR m48 a0 18) none fun q51 =>
 gd (okT m48 101 q51) (
 gd (okC m48 101 q49 (0 : Int32) (ln m48 q51) && okC m48 101 q50 (0 : Int32) (ln m48 q51)) (lt9 (cpL m48 q49 (ix (0 : Int32)) q50 (ix (0 : Int32)) (ix (ln m48 q51))) fun m52 =>
 gd (okO m52 a1 7) (oc (rR m52 a1 19) none fun q53 =>
 gd (okO m52 a0 7) (oc (rR m52 a0 19) none fun q54 =>
 gd (okO m52 a0 7) (oc (rR m52 a0 19) none fun q55 =>
 gd (okT m52 101 q55) (
 gd (okC m52 101 q53 (0 : Int32) (ln m52 q55) && okC m52 101 q54 (0 : Int32) (ln m52 q55)) (lt9 (cpL m52 q53 (ix (0 : Int32)) q54 (ix (0 : Int32)) (ix (ln m52 q55))) fun m56 =>
 some ((), m56)))))))))))))))))))))))))))))))))))))))))))))))))))))))))))))))))))))))))))))
def F_X5_put (a0 : Nat) (a1 : Int32) (a2 : Nat) (m : Mm) : Option (Int32 × Mm) :=
 if a1 < 0 then (
 some ((0 : Int32), m))
 else (
 gd (okO m a0 5) (oc (rR m a0 0) none fun q1 =>
 gd (okT m 104 q1) (
 if a1 < (ln m q1) then (
 gd (okO m a0 5) (oc (rR m a0 0) none fun q2 =>
 gd (okA m 104 q2 a1) (oc (rR m q2 (ix a1)) (
 jn (fun (v2 : Nat) (v3 : Nat) (m : Mm) =>
 gd (okO m v3 7) (bd (F_X7_copy v3 v2 m) fun r6 m7 =>
 some ((1 : Int32), m7))) fun J41 =>
 gd (decide (mN m + 1 < K9)) (lt9 (nw m 7 20) fun m8 =>
 bd (F_X7_init (mN m) m8) fun r9 m10 =>
 gd (okO m10 a0 5) (oc (rR m10 a0 0) none fun q11 =>
 gd (okA m10 104 q11 a1 && okO m10 (mN m) 7) (lt9 (wR m10 q11 (ix a1) (some (mN m))) fun m12 =>
 J41 a2 (mN m) m12)))) fun q3 =>
 jn (fun (v2 : Nat) (v3 : Nat) (m : Mm) =>
 gd (okO m v3 7) (bd (F_X7_copy v3 v2 m) fun r4 m5 =>
 some ((1 : Int32), m5))) fun J41 =>
 J41 a2 q3 m)))
 else (
 some ((0 : Int32), m)))))
def F_X5_keep (a0 : Nat) (a1 : Nat) (m : Mm) : Option (Unit × Mm) :=
 gd (okO m a0 5) (
 gd (okO m a0 5) (bd (F_X5_put a0 (rI m a0 1) a1 m) fun r1 m2 =>
 if r1 = 0 then (
 some ((), m2))
 else (
 gd (okO m2 a0 5) (
 gd (okO m2 a0 5) (lt9 (wI m2 a0 1 ((rI m2 a0 1) + (1 : Int32))) fun m3 =>
 some ((), m3))))))
def F_X5_giveBack (a0 : Nat) (a1 : Nat) (m : Mm) : Option (Int32 × Mm) :=
 gd (okO m a0 5) (
 if (rI m a0 1) ≤ 0 then (
 some ((0 : Int32), m))
 else (
 gd (okO m a0 5) (
 gd (okO m a0 5) (oc (rR m a0 0) none fun q1 =>
 gd (okT m 104 q1) (
 if (rI m a0 1) ≤ (ln m q1) then (
 gd (okO m a0 5) (
 gd (okO m a0 5) (lt9 (wI m a0 1 ((rI m a0 1) - (1 : Int32))) fun m2 =>
 gd (okO m2 a0 5) (oc (rR m2 a0 0) none fun q3 =>
 gd (okO m2 a0 5) (
 gd (okA m2 104 q3 (rI m2 a0 1)) (oc (rR m2 q3 (ix (rI m2 a0 1))) (
 some ((1 : Int32), m2)) fun q4 =>
 gd (okO m2 a1 7) (bd (F_X7_copy a1 q4 m2) fun r5 m6 =>
 some ((1 : Int32), m6))))))))
 else (
 some ((0 : Int32), m)))))))
def L_X5_copy_2 (K43 : Nat → Nat → Mm → Option (Unit × Mm)) : Nat → Nat → Nat → Int32 → Mm → Option (Unit × Mm)
 | 0, _, _, _, _ => none
 | n + 1, v0, v1, v2, m =>
 gd (okO m v1 5) (
 if (rI m v1 1) ≤ v2 then (
 K43 v0 v1 m)
 else (
 gd (okO m v1 5) (oc (rR m v1 0) none fun q2 =>
 gd (okT m 104 q2) (
 if (ln m q2) ≤ v2 then (
 K43 v0 v1 m)
 else (
 gd (okO m v1 5) (oc (rR m v1 0) none fun q3 =>
 gd (okA m 104 q3 v2) (oc (rR m q3 (ix v2)) (
 jn (fun (v0 : Nat) (v1 : Nat) (v2 : Int32) (m : Mm) =>
 lt9 (v2 + (1 : Int32)) fun x8 =>
 L_X5_copy_2 K43 n v0 v1 x8 m) fun J37 =>
 J37 v0 v1 v2 m) fun q4 =>
 jn (fun (v0 : Nat) (v1 : Nat) (v2 : Int32) (m : Mm) =>
 lt9 (v2 + (1 : Int32)) fun x5 =>
 L_X5_copy_2 K43 n v0 v1 x5 m) fun J37 =>
 gd (okO m v0 5) (bd (F_X5_put v0 v2 q4 m) fun r6 m7 =>
 J37 v0 v1 v2 m7))))))))
def F_X5_copy (a0 : Nat) (a1 : Nat) (m : Mm) : Option (Unit × Mm) :=
 lt9 (0 : Int32) fun x1 =>
 L_X5_copy_2 (fun v0 v1 m =>
 gd (okO m v1 5) (
 gd (okO m v0 5) (lt9 (wI m v0 1 (rI m v1 1)) fun m9 =>
 some ((), m9)))) NF a0 a1 x1 m
def F_X6_init (a0 : Nat) (a1 : Nat) (a2 : Nat) (m : Mm) : Option (Unit × Mm) :=
 gd (decide (mN m + 1 < K9)) (lt9 (nw m 100 6) fun m1 =>
 gd (okO m1 a0 6) (lt9 (wR m1 a0 2 (some (mN m))) fun m2 =>
 gd (okO m2 a0 6) (lt9 (wR m2 a0 0 (some a1)) fun m3 =>
 gd (okO m3 a0 6) (lt9 (wR m3 a0 1 (some a2)) fun m4 =>
 some ((), m4)))))
def F_X6_limit (a0 : Nat) (m : Mm) : Option (Int32 × Mm) :=
 gd (okO m a0 6) (oc (rR m a0 0) none fun q1 =>
 gd (okO m q1 1) (
 some ((rI m q1 2), m)))
def F_X6_members (a0 : Nat) (m : Mm) : Option (Int32 × Mm) :=
 gd (okO m a0 6) (oc (rR m a0 0) none fun q1 =>
 gd (okO m q1 1) (
 some ((rI m q1 0), m)))
def F_X6_partNow (a0 : Nat) (a1 : Nat) (m : Mm) : Option (Int32 × Mm) :=
 gd (okO m a0 6) (bd (F_X6_weigh a0 a1 m) fun r1 m2 =>
 gd (okO m2 a1 7) (
 gd (okO m2 a1 7) (bd (F_X7_standing a1 m2) fun r3 m4 =>
 gd (okO m4 a0 6) (bd (F_X6_partBy a0 a1 (rI m2 a1 6) r3 m4) fun r5 m6 =>
 some (r5, m6)))))
def F_X6_survivorsNow (a0 : Nat) (a1 : Nat) (m : Mm) : Option (Int32 × Mm) :=
 gd (okO m a0 6) (bd (F_X6_partNow a0 a1 m) fun r1 m2 =>
 lt9 r1 fun x3 =>
 if x3 = (-1 : Int32) then (
 some ((0 : Int32), m2))
 else (
 gd (okO m2 a1 7) (bd (F_X7_standing a1 m2) fun r4 m5 =>
 some ((x3 &&& r4), m5))))
def F_X6_hold (a0 : Nat) (a1 : Nat) (m : Mm) : Option (Int32 × Mm) :=
 gd (okO m a0 6) (bd (F_X6_weigh a0 a1 m) fun r1 m2 =>
 gd (okO m2 a1 7) (
 gd (okO m2 a1 7) (bd (F_X7_standing a1 m2) fun r3 m4 =>
 gd (okO m4 a0 6) (bd (F_X6_partBy a0 a1 (rI m2 a1 6) r3 m4) fun r5 m6 =>
 lt9 r5 fun x7 =>
 gd (okO m6 a1 7) (bd (F_X7_standing a1 m6) fun r8 m9 =>
 lt9 (x7 &&& r8) fun x10 =>
 if x7 = (-1 : Int32) then (
 some ((0 : Int32), m9))
 else (
 gd (okO m9 a1 7) (
 if (x10 &&& ((rI m9 a1 4) ^^^ (-1 : Int32))) = 0 then (
 some ((0 : Int32), m9))
 else (
 gd (okO m9 a1 7) (
 gd (okO m9 a1 7) (lt9 (wI m9 a1 4 ((rI m9 a1 4) ||| x10)) fun m11 =>
 some ((1 : Int32), m11)))))))))))
def L_X7_keptBy_4  : Nat → Nat → Int32 → Int32 → Int32 → Mm → Option (Int32 × Mm)
 | 0, _, _, _, _, _ => none
 | n + 1, v0, v1, v2, v3, m =>
 if (6 : Int32) ≤ v3 then (
 some (v2, m))
 else (
 bd (F_X11_has v1 v3 m) fun r3 m4 =>
 jn (fun (v0 : Nat) (v1 : Int32) (v3 : Int32) (s0 : Int32) (s1 : Int32) (m : Mm) =>
 lt9 (s1 ||| s0) fun x5 =>
 lt9 (v3 + (1 : Int32)) fun x6 =>
 L_X7_keptBy_4 n v0 v1 x5 x6 m) fun J29 =>
 if r3 = 0 then (
 J29 v0 v1 v3 (0 : Int32) v2 m4)
 else (
 gd (okO m4 v0 7) (oc (rR m4 v0 10) none fun q7 =>
 gd (okA m4 100 q7 v3) (
 J29 v0 v1 v3 (rI m4 q7 (ix v3)) v2 m4))))
def F_X7_keptBy (a0 : Nat) (a1 : Int32) (m : Mm) : Option (Int32 × Mm) :=
 lt9 (0 : Int32) fun x1 =>
 lt9 (0 : Int32) fun x2 =>
 L_X7_keptBy_4 NF a0 a1 x1 x2 m
def F_X7_worthOf (a0 : Nat) (a1 : Int32) (m : Mm) : Option (Int64 × Mm) :=
 gd (okO m a0 7) (oc (rR m a0 16) none fun q1 =>
 gd (okA m 100 q1 a1) (
 gd (okO m a0 7) (oc (rR m a0 15) none fun q2 =>
 gd (okA m 100 q2 a1) (
 some (((((rI m q1 (ix a1)).toInt64) + (1 : Int64)) * (((rI m q2 (ix a1)).toInt64) + (1 : Int64))), m)))))
def F_X7_deliver (a0 : Nat) (a1 : Int32) (a2 : Int32) (m : Mm) : Option (Unit × Mm) :=
 lt9 ((1 : Int32) <<< (a2 &&& 31)) fun x1 =>
 gd (okO m a0 7) (oc (rR m a0 9) none fun q2 =>
 gd (okA m 100 q2 a1) (
 gd (okA m 100 q2 a1) (lt9 (wI m q2 (ix a1) ((rI m q2 (ix a1)) ||| x1)) fun m3 =>
 gd (okO m3 a0 7) (oc (rR m3 a0 10) none fun q4 =>
 gd (okA m3 100 q4 a1) (
 gd (okA m3 100 q4 a1) (lt9 (wI m3 q4 (ix a1) ((rI m3 q4 (ix a1)) ||| x1)) fun m5 =>
 gd (okO m5 a0 7) (oc (rR m5 a0 11) none fun q6 =>
 gd (okA m5 100 q6 ((a1 * (6 : Int32)) + a1)) (
 gd (okA m5 100 q6 ((a1 * (6 : Int32)) + a1)) (lt9 (wI m5 q6 (ix ((a1 * (6 : Int32)) + a1)) ((rI m5 q6 (ix ((a1 * (6 : Int32)) + a1))) ||| x1)) fun m7 =>
 gd (okO m7 a0 7) (oc (rR m7 a0 18) none fun q8 =>
 gd (okA m7 101 q8 a1) (
 gd (okO m7 a0 7) (bd (F_X7_worthOf a0 a2 m7) fun r9 m10 =>
 gd (okA m10 101 q8 a1) (lt9 (wL m10 q8 (ix a1) ((rL m7 q8 (ix a1)) + r9)) fun m11 =>
 gd (okO m11 a0 7) (oc (rR m11 a0 14) none fun q12 =>
 gd (okA m11 100 q12 a1) (
 lt9 (rI m11 q12 (ix a1)) fun x13 =>
 if x13 < 0 then (
 some ((), m11))
 else (
 if (64 : Int32) ≤ x13 then (
 some ((), m11))
 else (
 gd (okO m11 a0 7) (oc (rR m11 a0 19) none fun q14 =>
 gd (okO m11 a0 7) (oc (rR m11 a0 18) none fun q15 =>
 gd (okA m11 101 q15 a1) (
 gd (okA m11 101 q14 ((a1 * (64 : Int32)) + x13)) (lt9 (wL m11 q14 (ix ((a1 * (64 : Int32)) + x13)) (rL m11 q15 (ix a1))) fun m16 =>
 gd (okO m16 a0 7) (oc (rR m16 a0 14) none fun q17 =>
 gd (okA m16 100 q17 a1) (lt9 (wI m16 q17 (ix a1) (x13 + (1 : Int32))) fun m18 =>
 some ((), m18))))))))))))))))))))))))
def L_X7_flush_41 (K71 : Nat → Int32 → Int32 → Int32 → Mm → Option (Unit × Mm)) : Nat → Nat → Int32 → Int32 → Int32 → Int32 → Int32 → Mm → Option (Unit × Mm)
 | 0, _, _, _, _, _, _, _ => none
 | n + 1, v0, v1, v2, v3, v4, v5, m =>
 if (30 : Int32) ≤ v5 then (
 K71 v0 v1 v2 v3 m)
 else (
 jn (fun (v0 : Nat) (v1 : Int32) (v2 : Int32) (v3 : Int32) (v4 : Int32) (v5 : Int32) (m : Mm) =>
 lt9 (v5 + (1 : Int32)) fun x9 =>
 L_X7_flush_41 K71 n v0 v1 v2 v3 v4 x9 m) fun J65 =>
 if ((v4 >>> (v5 &&& 31)) &&& (1 : Int32)) = 0 then (
 J65 v0 v1 v2 v3 v4 v5 m)
 else (
 gd (okO m v0 7) (bd (F_X7_deliver v0 v3 v5 m) fun r10 m11 =>
 J65 v0 v1 v2 v3 v4 v5 m11)))
def L_X7_flush_8  : Nat → Nat → Int32 → Int32 → Int32 → Mm → Option (Unit × Mm)
 | 0, _, _, _, _, _ => none
 | n + 1, v0, v1, v2, v3, m =>
 if (6 : Int32) ≤ v3 then (
 some ((), m))
 else (
 bd (F_X11_has v1 v3 m) fun r5 m6 =>
 jn (fun (v0 : Nat) (v1 : Int32) (v2 : Int32) (v3 : Int32) (s0 : Int32) (m : Mm) =>
 lt9 s0 fun x7 =>
 lt9 (0 : Int32) fun x8 =>
 L_X7_flush_41 (fun v0 v1 v2 v3 m =>
 lt9 (v3 + (1 : Int32)) fun x12 =>
 L_X7_flush_8 n v0 v1 v2 x12 m) NF v0 v1 v2 v3 x7 x8 m) fun J36 =>
 if r5 = 0 then (
 J36 v0 v1 v2 v3 (0 : Int32) m6)
 else (
 gd (okO m6 v0 7) (oc (rR m6 v0 9) none fun q13 =>
 gd (okA m6 100 q13 v3) (
 J36 v0 v1 v2 v3 (v2 &&& ((rI m6 q13 (ix v3)) ^^^ (-1 : Int32))) m6))))
def F_X7_flush (a0 : Nat) (a1 : Int32) (m : Mm) : Option (Unit × Mm) :=
 gd (okO m a0 7) (bd (F_X7_keptBy a0 a1 m) fun r1 m2 =>
 lt9 r1 fun x3 =>
 lt9 (0 : Int32) fun x4 =>
 L_X7_flush_8 NF a0 a1 x3 x4 m2)
def F_J6_numberOfTrailingZeros_0f7a4 (a0 : Int32) (m : Mm) : Option (Int32 × Mm) :=
 lt9 ((a0 ^^^ (-1 : Int32)) &&& (a0 - (1 : Int32))) fun x1 =>
 if 0 < x1 then (
 lt9 (1 : Int32) fun x2 =>
 jn (fun (v0 : Int32) (v1 : Int32) (m : Mm) =>
 jn (fun (v0 : Int32) (v1 : Int32) (m : Mm) =>
 jn (fun (v0 : Int32) (v1 : Int32) (m : Mm) =>
 jn (fun (v0 : Int32) (v1 : Int32) (m : Mm) =>
 some ((v1 + ((v0.toUInt32 >>> ((1 : Int32).toUInt32 &&& Int32.toUInt32 31)).toInt32)), m)) fun J74 =>
 if v0 ≤ (4 : Int32) then (
 J74 v0 v1 m)
 else (
 lt9 (v1 + (2 : Int32)) fun x3 =>
 lt9 ((v0.toUInt32 >>> ((2 : Int32).toUInt32 &&& Int32.toUInt32 31)).toInt32) fun x4 =>
 J74 x4 x3 m)) fun J62 =>
 if v0 ≤ (16 : Int32) then (
 J62 v0 v1 m)
 else (
 lt9 (v1 + (4 : Int32)) fun x5 =>
 lt9 ((v0.toUInt32 >>> ((4 : Int32).toUInt32 &&& Int32.toUInt32 31)).toInt32) fun x6 =>
 J62 x6 x5 m)) fun J49 =>
 if v0 ≤ (256 : Int32) then (
 J49 v0 v1 m)
 else (
 lt9 (v1 + (8 : Int32)) fun x7 =>
 lt9 ((v0.toUInt32 >>> ((8 : Int32).toUInt32 &&& Int32.toUInt32 31)).toInt32) fun x8 =>
 J49 x8 x7 m)) fun J34 =>
 if x1 ≤ (65536 : Int32) then (
 J34 x1 x2 m)
 else (
 lt9 (x2 + (16 : Int32)) fun x9 =>
 lt9 ((x1.toUInt32 >>> ((16 : Int32).toUInt32 &&& Int32.toUInt32 31)).toInt32) fun x10 =>
 J34 x10 x9 m))
 else (
 some ((x1 &&& (32 : Int32)), m))
def L_X7_dropMessages_7 (K33 : Nat → Mm → Option (Unit × Mm)) : Nat → Nat → Int32 → Mm → Option (Unit × Mm)
 | 0, _, _, _ => none
 | n + 1, v0, v1, m =>
 if (6 : Int32) ≤ v1 then (
 K33 v0 m)
 else (
 gd (okO m v0 7) (oc (rR m v0 9) none fun q3 =>
 gd (okA m 100 q3 v1) (lt9 (wI m q3 (ix v1) (0 : Int32)) fun m4 =>
 gd (okO m4 v0 7) (oc (rR m4 v0 10) none fun q5 =>
 gd (okA m4 100 q5 v1) (lt9 (wI m4 q5 (ix v1) (0 : Int32)) fun m6 =>
 lt9 (v1 + (1 : Int32)) fun x7 =>
 L_X7_dropMessages_7 K33 n v0 x7 m6)))))
def L_X7_dropMessages_35 (K57 : Nat → Mm → Option (Unit × Mm)) : Nat → Nat → Int32 → Mm → Option (Unit × Mm)
 | 0, _, _, _ => none
 | n + 1, v0, v1, m =>
 gd (okO m v0 7) (oc (rR m v0 11) none fun q9 =>
 gd (okT m 100 q9) (
 if (ln m q9) ≤ v1 then (
 K57 v0 m)
 else (
 gd (okO m v0 7) (oc (rR m v0 11) none fun q10 =>
 gd (okA m 100 q10 v1) (lt9 (wI m q10 (ix v1) (0 : Int32)) fun m11 =>
 lt9 (v1 + (1 : Int32)) fun x12 =>
 L_X7_dropMessages_35 K57 n v0 x12 m11)))))
def L_X7_dropMessages_59  : Nat → Nat → Int32 → Mm → Option (Unit × Mm)
 | 0, _, _, _ => none
 | n + 1, v0, v1, m =>
 if (30 : Int32) ≤ v1 then (
 some ((), m))
 else (
 gd (okO m v0 7) (oc (rR m v0 17) none fun q14 =>
 gd (okA m 100 q14 v1) (lt9 (wI m q14 (ix v1) (0 : Int32)) fun m15 =>
 lt9 (v1 + (1 : Int32)) fun x16 =>
 L_X7_dropMessages_59 n v0 x16 m15)))
def F_X7_dropMessages (a0 : Nat) (m : Mm) : Option (Unit × Mm) :=
 gd (okO m a0 7) (lt9 (wI m a0 7 (0 : Int32)) fun m1 =>
 lt9 (0 : Int32) fun x2 =>
 L_X7_dropMessages_7 (fun v0 m =>
 lt9 (0 : Int32) fun x8 =>
 L_X7_dropMessages_35 (fun v0 m =>
 lt9 (0 : Int32) fun x13 =>
 L_X7_dropMessages_59 NF v0 x13 m) NF v0 x8 m) NF a0 x2 m1)
def L_X7_changeView_30 (K130 : Nat → Int32 → Mm → Option (Unit × Mm)) : Nat → Nat → Int32 → Int32 → Int32 → Mm → Option (Unit × Mm)
 | 0, _, _, _, _, _ => none
 | n + 1, v0, v2, v3, v4, m =>
 if (6 : Int32) ≤ v4 then (
 K130 v0 v2 m)
 else (
 gd (okO m v0 7) (
 bd (F_X11_has (rI m v0 1) v4 m) fun r9 m10 =>
 jn (fun (v0 : Nat) (v2 : Int32) (v3 : Int32) (v4 : Int32) (m : Mm) =>
 bd (F_X11_has v2 v4 m) fun r11 m12 =>
 jn (fun (v0 : Nat) (v2 : Int32) (v3 : Int32) (v4 : Int32) (m : Mm) =>
 lt9 (v4 + (1 : Int32)) fun x13 =>
 L_X7_changeView_30 K130 n v0 v2 v3 x13 m) fun J124 =>
 if r11 = 0 then (
 J124 v0 v2 v3 v4 m12)
 else (
 if (6 : Int32) ≤ v3 then (
 J124 v0 v2 v3 v4 m12)
 else (
 gd (okO m12 v0 7) (oc (rR m12 v0 18) none fun q14 =>
 gd (okO m12 v0 7) (oc (rR m12 v0 18) none fun q15 =>
 gd (okA m12 101 q15 v3) (
 gd (okA m12 101 q14 v4) (lt9 (wL m12 q14 (ix v4) (rL m12 q15 (ix v3))) fun m16 =>
 gd (okO m16 v0 7) (oc (rR m16 v0 19) none fun q17 =>
 gd (okO m16 v0 7) (oc (rR m16 v0 18) none fun q18 =>
 gd (okA m16 101 q18 v4) (
 gd (okA m16 101 q17 (v4 * (64 : Int32))) (lt9 (wL m16 q17 (ix (v4 * (64 : Int32))) (rL m16 q18 (ix v4))) fun m19 =>
 gd (okO m19 v0 7) (oc (rR m19 v0 14) none fun q20 =>
 gd (okA m19 100 q20 v4) (lt9 (wI m19 q20 (ix v4) (1 : Int32)) fun m21 =>
 J124 v0 v2 v3 v4 m21))))))))))))) fun J71 =>
 if r9 = 0 then (
 gd (okO m10 v0 7) (oc (rR m10 v0 12) none fun q22 =>
 gd (okA m10 100 q22 v4) (lt9 (wI m10 q22 (ix v4) (0 : Int32)) fun m23 =>
 J71 v0 v2 v3 v4 m23)))
 else (
 gd (okO m10 v0 7) (oc (rR m10 v0 8) none fun q24 =>
 gd (okA m10 100 q24 v4) (
 gd (okA m10 100 q24 v4) (lt9 (wI m10 q24 (ix v4) ((rI m10 q24 (ix v4)) + (1 : Int32))) fun m25 =>
 J71 v0 v2 v3 v4 m25))))))
def F_X7_changeView (a0 : Nat) (a1 : Int32) (a2 : Int32) (m : Mm) : Option (Unit × Mm) :=
 gd (okO m a0 7) (bd (F_X7_flush a0 a1 m) fun r1 m2 =>
 bd (F_J6_numberOfTrailingZeros_0f7a4 a1 m2) fun r3 m4 =>
 lt9 r3 fun x5 =>
 gd (okO m4 a0 7) (
 gd (okO m4 a0 7) (lt9 (wI m4 a0 0 ((rI m4 a0 0) + (1 : Int32))) fun m6 =>
 gd (okO m6 a0 7) (lt9 (wI m6 a0 1 (a1 ||| a2)) fun m7 =>
 lt9 (0 : Int32) fun x8 =>
 L_X7_changeView_30 (fun v0 v2 m =>
 gd (okO m v0 7) (
 gd (okO m v0 7) (lt9 (wI m v0 2 (rI m v0 1)) fun m26 =>
 gd (okO m26 v0 7) (
 gd (okO m26 v0 7) (lt9 (wI m26 v0 5 ((rI m26 v0 5) &&& (v2 ^^^ (-1 : Int32)))) fun m27 =>
 gd (okO m27 v0 7) (lt9 (wI m27 v0 4 (0 : Int32)) fun m28 =>
 gd (okO m28 v0 7) (bd (F_X7_dropMessages v0 m28) fun r29 m30 =>
 some ((), m30)))))))) NF a0 a2 x5 x8 m7))))
def F_X7_post (a0 : Nat) (a1 : Int32) (a2 : Int32) (a3 : Int32) (m : Mm) : Option (Int32 × Mm) :=
 gd (okO m a0 7) (
 lt9 (rI m a0 7) fun x1 =>
 if a3 ≤ x1 then (
 some ((0 : Int32), m))
 else (
 if x1 < 0 then (
 some ((0 : Int32), m))
 else (
 if x1 < (30 : Int32) then (
 gd (okO m a0 7) (lt9 (wI m a0 7 (x1 + (1 : Int32))) fun m2 =>
 gd (okO m2 a0 7) (oc (rR m2 a0 15) none fun q3 =>
 gd (okA m2 100 q3 x1) (lt9 (wI m2 q3 (ix x1) a1) fun m4 =>
 gd (okO m4 a0 7) (oc (rR m4 a0 16) none fun q5 =>
 gd (okA m4 100 q5 x1) (lt9 (wI m4 q5 (ix x1) a2) fun m6 =>
 gd (okO m6 a0 7) (oc (rR m6 a0 17) none fun q7 =>
 gd (okO m6 a0 7) (bd (F_X7_standing a0 m6) fun r8 m9 =>
 gd (okA m9 100 q7 x1) (lt9 (wI m9 q7 (ix x1) (r8 &&& (((1 : Int32) <<< (a1 &&& 31)) ^^^ (-1 : Int32)))) fun m10 =>
 gd (okO m10 a0 7) (bd (F_X7_deliver a0 a1 x1 m10) fun r11 m12 =>
 some ((1 : Int32), m12)))))))))))
 else (
 some ((0 : Int32), m)))))
def L_X7_sendHeld_10 (K50 : Nat → Int32 → Int32 → Mm → Option (Unit × Mm)) : Nat → Nat → Int32 → Int32 → Int32 → Mm → Option (Unit × Mm)
 | 0, _, _, _, _, _ => none
 | n + 1, v0, v1, v2, v3, m =>
 gd (okO m v0 7) (oc (rR m v0 12) none fun q3 =>
 gd (okA m 100 q3 v2) (
 if (rI m q3 (ix v2)) ≤ v3 then (
 K50 v0 v1 v2 m)
 else (
 if (8 : Int32) ≤ v3 then (
 K50 v0 v1 v2 m)
 else (
 gd (okO m v0 7) (oc (rR m v0 13) none fun q4 =>
 gd (okA m 100 q4 ((v2 * (8 : Int32)) + v3)) (
 gd (okO m v0 7) (bd (F_X7_post v0 v2 (rI m q4 (ix ((v2 * (8 : Int32)) + v3))) v1 m) fun r5 m6 =>
 lt9 (v3 + (1 : Int32)) fun x7 =>
 L_X7_sendHeld_10 K50 n v0 v1 v2 x7 m6)))))))
def L_X7_sendHeld_2  : Nat → Nat → Int32 → Int32 → Mm → Option (Unit × Mm)
 | 0, _, _, _, _ => none
 | n + 1, v0, v1, v2, m =>
 if (6 : Int32) ≤ v2 then (
 some ((), m))
 else (
 lt9 (0 : Int32) fun x2 =>
 L_X7_sendHeld_10 (fun v0 v1 v2 m =>
 gd (okO m v0 7) (oc (rR m v0 12) none fun q8 =>
 gd (okA m 100 q8 v2) (lt9 (wI m q8 (ix v2) (0 : Int32)) fun m9 =>
 lt9 (v2 + (1 : Int32)) fun x10 =>
 L_X7_sendHeld_2 n v0 v1 x10 m9))) NF v0 v1 v2 x2 m)
def F_X7_sendHeld (a0 : Nat) (a1 : Int32) (m : Mm) : Option (Unit × Mm) :=
 lt9 (0 : Int32) fun x1 =>
 L_X7_sendHeld_2 NF a0 a1 x1 m
def F_X6_view (a0 : Nat) (a1 : Nat) (m : Mm) : Option (Int32 × Mm) :=
 gd (okO m a0 6) (bd (F_X6_weigh a0 a1 m) fun r1 m2 =>
 gd (okO m2 a1 7) (
 gd (okO m2 a1 7) (bd (F_X7_standing a1 m2) fun r3 m4 =>
 gd (okO m4 a0 6) (bd (F_X6_partBy a0 a1 (rI m2 a1 6) r3 m4) fun r5 m6 =>
 lt9 r5 fun x7 =>
 gd (okO m6 a1 7) (bd (F_X7_standing a1 m6) fun r8 m9 =>
 lt9 (x7 &&& r8) fun x10 =>
 gd (okO m9 a1 7) (
 lt9 (x7 &&& (rI m9 a1 5)) fun x11 =>
 if x7 = (-1 : Int32) then (
 some ((0 : Int32), m9))
 else (
 gd (okO m9 a1 7) (
 if (x10 &&& ((rI m9 a1 4) ^^^ (-1 : Int32))) = 0 then (
 gd (okO m9 a1 7) (
 jn (fun (v0 : Nat) (v1 : Nat) (v3 : Int32) (v4 : Int32) (m : Mm) =>
 gd (okO m v1 7) (bd (F_X7_changeView v1 v3 v4 m) fun r12 m13 =>
 gd (okO m13 v0 6) (oc (rR m13 v0 0) none fun q14 =>
 gd (okO m13 q14 1) (
 gd (okO m13 v1 7) (bd (F_X7_sendHeld v1 (rI m13 q14 2) m13) fun r15 m16 =>
 some ((1 : Int32), m16)))))) fun J65 =>
 if x7 = (rI m9 a1 1) then (
 if x11 = 0 then (
 some ((0 : Int32), m9))
 else (
 J65 a0 a1 x10 x11 m9))
 else (
 J65 a0 a1 x10 x11 m9)))
 else (
 some ((0 : Int32), m9))))))))))
def L_X6_fewestToFall_22  : Nat → Nat → Nat → Int32 → Int32 → Int32 → Mm → Option (Int32 × Mm)
 | 0, _, _, _, _, _, _ => none
 | n + 1, v0, v1, v2, v3, v4, m =>
 gd (okO m v0 6) (bd (F_X6_partings v0 m) fun r8 m9 =>
 if r8 ≤ v4 then (
 some (v3, m9))
 else (
 jn (fun (v0 : Nat) (v1 : Nat) (v2 : Int32) (v3 : Int32) (v4 : Int32) (s0 : Int32) (m : Mm) =>
 lt9 s0 fun x10 =>
 jn (fun (v0 : Nat) (v1 : Nat) (v2 : Int32) (v3 : Int32) (v4 : Int32) (m : Mm) =>
 lt9 (v4 + (1 : Int32)) fun x11 =>
 L_X6_fewestToFall_22 n v0 v1 v2 v3 x11 m) fun J81 =>
 if x10 = 0 then (
 J81 v0 v1 v2 v3 v4 m)
 else (
 gd (okO m v1 7) (
 gd (okO m v0 6) (bd (F_X6_partBy v0 v1 (rI m v1 6) (v2 &&& (v4 ^^^ (-1 : Int32))) m) fun r12 m13 =>
 if r12 = (-1 : Int32) then (
 bd (F_J6_bitCount_0f7a4 v4 m13) fun r14 m15 =>
 lt9 (mnI v3 r14) fun x16 =>
 J81 v0 v1 v2 x16 v4 m15)
 else (
 J81 v0 v1 v2 v3 v4 m13))))) fun J45 =>
 if (v4 &&& (v2 ^^^ (-1 : Int32))) = 0 then (
 J45 v0 v1 v2 v3 v4 (1 : Int32) m9)
 else (
 J45 v0 v1 v2 v3 v4 (0 : Int32) m9)))
def F_X6_fewestToFall (a0 : Nat) (a1 : Nat) (m : Mm) : Option (Int32 × Mm) :=
 gd (okO m a0 6) (bd (F_X6_partNow a0 a1 m) fun r1 m2 =>
 if r1 = (-1 : Int32) then (
 some ((0 : Int32), m2))
 else (
 gd (okO m2 a1 7) (bd (F_X7_standing a1 m2) fun r3 m4 =>
 lt9 r3 fun x5 =>
 lt9 (6 : Int32) fun x6 =>
 lt9 (0 : Int32) fun x7 =>
 L_X6_fewestToFall_22 NF a0 a1 x5 x6 x7 m4)))
def L_X6_countLameSplits_9  : Nat → Nat → Nat → Int32 → Int32 → Mm → Option (Int32 × Mm)
 | 0, _, _, _, _, _ => none
 | n + 1, v0, v1, v2, v3, m =>
 gd (okO m v0 6) (bd (F_X6_partings v0 m) fun r5 m6 =>
 if r5 ≤ v3 then (
 some (v2, m6))
 else (
 gd (okO m6 v1 7) (bd (F_X7_standing v1 m6) fun r7 m8 =>
 gd (okO m8 v0 6) (bd (F_X6_partBy v0 v1 v3 r7 m8) fun r9 m10 =>
 jn (fun (v0 : Nat) (v1 : Nat) (v3 : Int32) (s0 : Int32) (s1 : Int32) (m : Mm) =>
 lt9 (s1 + s0) fun x11 =>
 lt9 (v3 + (1 : Int32)) fun x12 =>
 L_X6_countLameSplits_9 n v0 v1 x11 x12 m) fun J37 =>
 if r9 = (-1 : Int32) then (
 J37 v0 v1 v3 (1 : Int32) v2 m10)
 else (
 J37 v0 v1 v3 (0 : Int32) v2 m10)))))
def F_X6_countLameSplits (a0 : Nat) (a1 : Nat) (m : Mm) : Option (Int32 × Mm) :=
 gd (okO m a0 6) (bd (F_X6_weigh a0 a1 m) fun r1 m2 =>
 lt9 (0 : Int32) fun x3 =>
 lt9 (0 : Int32) fun x4 =>
 L_X6_countLameSplits_9 NF a0 a1 x3 x4 m2)
def F_X11_allOf (a0 : Int32) (m : Mm) : Option (Int32 × Mm) :=
 some ((((1 : Int32) <<< (a0 &&& 31)) - (1 : Int32)), m)
def L_X7_begin_40 (K92 : Nat → Mm → Option (Unit × Mm)) : Nat → Nat → Int32 → Int32 → Mm → Option (Unit × Mm)
 | 0, _, _, _, _ => none
 | n + 1, v0, v2, v3, m =>
 if (6 : Int32) ≤ v3 then (
 K92 v0 m)
 else (
 gd (okO m v0 7) (oc (rR m v0 8) none fun q11 =>
 bd (F_X11_has v2 v3 m) fun r12 m13 =>
 jn (fun (v0 : Nat) (v2 : Int32) (v3 : Int32) (s0 : Int32) (s1 : Int32) (s2 : Nat) (m : Mm) =>
 gd (okA m 100 s2 s1) (lt9 (wI m s2 (ix s1) s0) fun m14 =>
 gd (okO m14 v0 7) (oc (rR m14 v0 12) none fun q15 =>
 gd (okA m14 100 q15 v3) (lt9 (wI m14 q15 (ix v3) (0 : Int32)) fun m16 =>
 gd (okO m16 v0 7) (oc (rR m16 v0 14) none fun q17 =>
 gd (okA m16 100 q17 v3) (lt9 (wI m16 q17 (ix v3) (0 : Int32)) fun m18 =>
 gd (okO m18 v0 7) (oc (rR m18 v0 18) none fun q19 =>
 gd (okA m18 101 q19 v3) (lt9 (wL m18 q19 (ix v3) (0 : Int64)) fun m20 =>
 lt9 (v3 + (1 : Int32)) fun x21 =>
 L_X7_begin_40 K92 n v0 v2 x21 m20)))))))) fun J64 =>
 if r12 = 0 then (
 J64 v0 v2 v3 (0 : Int32) v3 q11 m13)
 else (
 J64 v0 v2 v3 (1 : Int32) v3 q11 m13)))
def F_X7_begin (a0 : Nat) (a1 : Int32) (a2 : Int32) (m : Mm) : Option (Unit × Mm) :=
 gd (okO m a0 7) (lt9 (wI m a0 0 (1 : Int32)) fun m1 =>
 gd (okO m1 a0 7) (lt9 (wI m1 a0 1 a2) fun m2 =>
 gd (okO m2 a0 7) (lt9 (wI m2 a0 2 a2) fun m3 =>
 bd (F_X11_allOf a1 m3) fun r4 m5 =>
 gd (okO m5 a0 7) (lt9 (wI m5 a0 3 r4) fun m6 =>
 gd (okO m6 a0 7) (lt9 (wI m6 a0 4 (0 : Int32)) fun m7 =>
 gd (okO m7 a0 7) (lt9 (wI m7 a0 5 (0 : Int32)) fun m8 =>
 gd (okO m8 a0 7) (lt9 (wI m8 a0 6 (0 : Int32)) fun m9 =>
 lt9 (0 : Int32) fun x10 =>
 L_X7_begin_40 (fun v0 m =>
 gd (okO m v0 7) (bd (F_X7_dropMessages v0 m) fun r22 m23 =>
 some ((), m23))) NF a0 a2 x10 m9)))))))
def F_X7_stands (a0 : Nat) (a1 : Int32) (m : Mm) : Option (Int32 × Mm) :=
 gd (okO m a0 7) (bd (F_X7_standing a0 m) fun r1 m2 =>
 bd (F_X11_has r1 a1 m2) fun r3 m4 =>
 gd (decide (r3 = 0 ∨ r3 = 1)) (some (r3, m4)))
def F_X7_reaches (a0 : Nat) (a1 : Int32) (a2 : Int32) (m : Mm) : Option (Int32 × Mm) :=
 gd (okO m a0 7) (
 bd (F_X11_has (rI m a0 6) a1 m) fun r1 m2 =>
 gd (okO m2 a0 7) (
 bd (F_X11_has (rI m2 a0 6) a2 m2) fun r3 m4 =>
 if r1 = r3 then (
 some ((1 : Int32), m4))
 else (
 some ((0 : Int32), m4))))
def F_X7_keepBack (a0 : Nat) (a1 : Int32) (a2 : Int32) (m : Mm) : Option (Int32 × Mm) :=
 gd (okO m a0 7) (oc (rR m a0 12) none fun q1 =>
 gd (okA m 100 q1 a1) (
 lt9 (rI m q1 (ix a1)) fun x2 =>
 if x2 < 0 then (
 some ((0 : Int32), m))
 else (
 if x2 < (8 : Int32) then (
 gd (okO m a0 7) (oc (rR m a0 13) none fun q3 =>
 gd (okA m 100 q3 ((a1 * (8 : Int32)) + x2)) (lt9 (wI m q3 (ix ((a1 * (8 : Int32)) + x2)) a2) fun m4 =>
 gd (okO m4 a0 7) (oc (rR m4 a0 12) none fun q5 =>
 gd (okA m4 100 q5 a1) (lt9 (wI m4 q5 (ix a1) (x2 + (1 : Int32))) fun m6 =>
 some ((1 : Int32), m6))))))
 else (
 some ((0 : Int32), m)))))
def F_X7_send (a0 : Nat) (a1 : Int32) (a2 : Int32) (a3 : Int32) (m : Mm) : Option (Int32 × Mm) :=
 gd (okO m a0 7) (bd (F_X7_stands a0 a1 m) fun r1 m2 =>
 if r1 = 0 then (
 some ((0 : Int32), m2))
 else (
 gd (okO m2 a0 7) (
 bd (F_X11_has (rI m2 a0 4) a1 m2) fun r3 m4 =>
 if r3 = 0 then (
 gd (okO m4 a0 7) (bd (F_X7_post a0 a1 a2 a3 m4) fun r5 m6 =>
 gd (decide (r5 = 0 ∨ r5 = 1)) (some (r5, m6))))
 else (
 gd (okO m4 a0 7) (bd (F_X7_keepBack a0 a1 a2 m4) fun r7 m8 =>
 gd (decide (r7 = 0 ∨ r7 = 1)) (some (r7, m8)))))))
def L_X7_firstOnTheWay_12  : Nat → Nat → Int32 → Int32 → Int32 → Mm → Option (Int32 × Mm)
 | 0, _, _, _, _, _ => none
 | n + 1, v0, v1, v2, v3, m =>
 gd (okO m v0 7) (
 if (rI m v0 7) ≤ v3 then (
 some ((-1 : Int32), m))
 else (
 if (30 : Int32) ≤ v3 then (
 some ((-1 : Int32), m))
 else (
 gd (okO m v0 7) (oc (rR m v0 17) none fun q4 =>
 gd (okA m 100 q4 v3) (
 bd (F_X11_has (rI m q4 (ix v3)) v1 m) fun r5 m6 =>
 jn (fun (v0 : Nat) (v1 : Int32) (v2 : Int32) (v3 : Int32) (m : Mm) =>
 lt9 (v3 + (1 : Int32)) fun x7 =>
 L_X7_firstOnTheWay_12 n v0 v1 v2 x7 m) fun J59 =>
 if r5 = 0 then (
 J59 v0 v1 v2 v3 m6)
 else (
 if v2 = 0 then (
 some (v3, m6))
 else (
 gd (okO m6 v0 7) (oc (rR m6 v0 15) none fun q8 =>
 gd (okA m6 100 q8 v3) (
 gd (okO m6 v0 7) (bd (F_X7_reaches v0 v1 (rI m6 q8 (ix v3)) m6) fun r9 m10 =>
 if r9 = 0 then (
 J59 v0 v1 v2 v3 m10)
 else (
 some (v3, m10))))))))))))
def F_X7_firstOnTheWay (a0 : Nat) (a1 : Int32) (a2 : Int32) (m : Mm) : Option (Int32 × Mm) :=
 gd (okO m a0 7) (bd (F_X7_stands a0 a1 m) fun r1 m2 =>
 if r1 = 0 then (
 some ((-1 : Int32), m2))
 else (
 lt9 (0 : Int32) fun x3 =>
 L_X7_firstOnTheWay_12 NF a0 a1 a2 x3 m2))
def F_X7_take (a0 : Nat) (a1 : Int32) (m : Mm) : Option (Int32 × Mm) :=
 gd (okO m a0 7) (bd (F_X7_firstOnTheWay a0 a1 (1 : Int32) m) fun r1 m2 =>
 lt9 r1 fun x3 =>
 if 0 ≤ x3 then (
 gd (okO m2 a0 7) (oc (rR m2 a0 17) none fun q4 =>
 gd (okA m2 100 q4 x3) (
 gd (okA m2 100 q4 x3) (lt9 (wI m2 q4 (ix x3) ((rI m2 q4 (ix x3)) &&& (((1 : Int32) <<< (a1 &&& 31)) ^^^ (-1 : Int32)))) fun m5 =>
 gd (okO m5 a0 7) (bd (F_X7_deliver a0 a1 x3 m5) fun r6 m7 =>
 some ((1 : Int32), m7))))))
 else (
 some ((0 : Int32), m2)))
def F_X7_lose (a0 : Nat) (a1 : Int32) (m : Mm) : Option (Int32 × Mm) :=
 gd (okO m a0 7) (bd (F_X7_firstOnTheWay a0 a1 (0 : Int32) m) fun r1 m2 =>
 lt9 r1 fun x3 =>
 if 0 ≤ x3 then (
 gd (okO m2 a0 7) (oc (rR m2 a0 17) none fun q4 =>
 gd (okA m2 100 q4 x3) (
 gd (okA m2 100 q4 x3) (lt9 (wI m2 q4 (ix x3) ((rI m2 q4 (ix x3)) &&& (((1 : Int32) <<< (a1 &&& 31)) ^^^ (-1 : Int32)))) fun m5 =>
 some ((1 : Int32), m5)))))
 else (
 some ((0 : Int32), m2)))
def L_X7_tell_12  : Nat → Nat → Int32 → Int32 → Mm → Option (Int32 × Mm)
 | 0, _, _, _, _ => none
 | n + 1, v0, v1, v2, m =>
 if (6 : Int32) ≤ v2 then (
 some ((1 : Int32), m))
 else (
 gd (okO m v0 7) (bd (F_X7_stands v0 v2 m) fun r4 m5 =>
 jn (fun (v0 : Nat) (v1 : Int32) (v2 : Int32) (m : Mm) =>
 lt9 (v2 + (1 : Int32)) fun x6 =>
 L_X7_tell_12 n v0 v1 x6 m) fun J55 =>
 if r4 = 0 then (
 J55 v0 v1 v2 m5)
 else (
 gd (okO m5 v0 7) (bd (F_X7_reaches v0 v1 v2 m5) fun r7 m8 =>
 if r7 = 0 then (
 J55 v0 v1 v2 m8)
 else (
 gd (okO m8 v0 7) (oc (rR m8 v0 11) none fun q9 =>
 gd (okA m8 100 q9 ((v2 * (6 : Int32)) + v1)) (
 gd (okO m8 v0 7) (oc (rR m8 v0 9) none fun q10 =>
 gd (okA m8 100 q10 v1) (
 gd (okA m8 100 q9 ((v2 * (6 : Int32)) + v1)) (lt9 (wI m8 q9 (ix ((v2 * (6 : Int32)) + v1)) ((rI m8 q9 (ix ((v2 * (6 : Int32)) + v1))) ||| (rI m8 q10 (ix v1)))) fun m11 =>
 J55 v0 v1 v2 m11))))))))))
def F_X7_tell (a0 : Nat) (a1 : Int32) (m : Mm) : Option (Int32 × Mm) :=
 gd (okO m a0 7) (bd (F_X7_stands a0 a1 m) fun r1 m2 =>
 if r1 = 0 then (
 some ((0 : Int32), m2))
 else (
 lt9 (0 : Int32) fun x3 =>
 L_X7_tell_12 NF a0 a1 x3 m2))
def L_X7_stableBy_22  : Nat → Nat → Int32 → Int32 → Int32 → Mm → Option (Int32 × Mm)
 | 0, _, _, _, _, _ => none
 | n + 1, v0, v1, v2, v3, m =>
 if (6 : Int32) ≤ v3 then (
 some (v2, m))
 else (
 gd (okO m v0 7) (
 bd (F_X11_has (rI m v0 1) v3 m) fun r5 m6 =>
 jn (fun (v0 : Nat) (v1 : Int32) (v2 : Int32) (v3 : Int32) (m : Mm) =>
 lt9 (v3 + (1 : Int32)) fun x7 =>
 L_X7_stableBy_22 n v0 v1 v2 x7 m) fun J53 =>
 if r5 = 0 then (
 J53 v0 v1 v2 v3 m6)
 else (
 gd (okO m6 v0 7) (oc (rR m6 v0 11) none fun q8 =>
 gd (okA m6 100 q8 ((v1 * (6 : Int32)) + v3)) (
 lt9 (v2 &&& (rI m6 q8 (ix ((v1 * (6 : Int32)) + v3)))) fun x9 =>
 J53 v0 v1 x9 v3 m6)))))
def F_X7_stableBy (a0 : Nat) (a1 : Int32) (m : Mm) : Option (Int32 × Mm) :=
 if a1 < 0 then (
 some ((0 : Int32), m))
 else (
 if a1 < (6 : Int32) then (
 gd (okO m a0 7) (
 bd (F_X11_allOf (rI m a0 7) m) fun r1 m2 =>
 lt9 r1 fun x3 =>
 lt9 (0 : Int32) fun x4 =>
 L_X7_stableBy_22 NF a0 a1 x3 x4 m2))
 else (
 some ((0 : Int32), m)))
def F_X7_trim (a0 : Nat) (a1 : Int32) (m : Mm) : Option (Int32 × Mm) :=
 gd (okO m a0 7) (bd (F_X7_stands a0 a1 m) fun r1 m2 =>
 if r1 = 0 then (
 some ((0 : Int32), m2))
 else (
 gd (okO m2 a0 7) (oc (rR m2 a0 10) none fun q3 =>
 gd (okA m2 100 q3 a1) (
 gd (okO m2 a0 7) (bd (F_X7_stableBy a0 a1 m2) fun r4 m5 =>
 lt9 ((rI m2 q3 (ix a1)) &&& r4) fun x6 =>
 gd (okO m5 a0 7) (oc (rR m5 a0 10) none fun q7 =>
 gd (okA m5 100 q7 a1) (
 gd (okA m5 100 q7 a1) (lt9 (wI m5 q7 (ix a1) ((rI m5 q7 (ix a1)) &&& (x6 ^^^ (-1 : Int32)))) fun m8 =>
 if x6 = 0 then (
 some ((0 : Int32), m8))
 else (
 some ((1 : Int32), m8))))))))))
def L_X7_crash_82 (K106 : Nat → Int32 → Mm → Option (Int32 × Mm)) : Nat → Nat → Int32 → Int32 → Int32 → Mm → Option (Int32 × Mm)
 | 0, _, _, _, _, _ => none
 | n + 1, v0, v1, v2, v3, m =>
 if (6 : Int32) ≤ v3 then (
 K106 v0 v2 m)
 else (
 gd (okO m v0 7) (oc (rR m v0 11) none fun q15 =>
 gd (okA m 100 q15 ((v1 * (6 : Int32)) + v3)) (lt9 (wI m q15 (ix ((v1 * (6 : Int32)) + v3)) (0 : Int32)) fun m16 =>
 lt9 (v3 + (1 : Int32)) fun x17 =>
 L_X7_crash_82 K106 n v0 v1 v2 x17 m16)))
def L_X7_crash_108  : Nat → Nat → Int32 → Int32 → Mm → Option (Int32 × Mm)
 | 0, _, _, _, _ => none
 | n + 1, v0, v2, v3, m =>
 if (30 : Int32) ≤ v3 then (
 some ((1 : Int32), m))
 else (
 gd (okO m v0 7) (oc (rR m v0 17) none fun q19 =>
 gd (okA m 100 q19 v3) (
 gd (okA m 100 q19 v3) (lt9 (wI m q19 (ix v3) ((rI m q19 (ix v3)) &&& v2)) fun m20 =>
 lt9 (v3 + (1 : Int32)) fun x21 =>
 L_X7_crash_108 n v0 v2 x21 m20))))
def F_X7_crash (a0 : Nat) (a1 : Int32) (m : Mm) : Option (Int32 × Mm) :=
 gd (okO m a0 7) (
 bd (F_X11_has (rI m a0 3) a1 m) fun r1 m2 =>
 if r1 = 0 then (
 some ((0 : Int32), m2))
 else (
 lt9 (((1 : Int32) <<< (a1 &&& 31)) ^^^ (-1 : Int32)) fun x3 =>
 gd (okO m2 a0 7) (
 gd (okO m2 a0 7) (lt9 (wI m2 a0 3 ((rI m2 a0 3) &&& x3)) fun m4 =>
 gd (okO m4 a0 7) (
 gd (okO m4 a0 7) (lt9 (wI m4 a0 2 ((rI m4 a0 2) &&& x3)) fun m5 =>
 gd (okO m5 a0 7) (
 gd (okO m5 a0 7) (lt9 (wI m5 a0 4 ((rI m5 a0 4) &&& x3)) fun m6 =>
 gd (okO m6 a0 7) (
 gd (okO m6 a0 7) (lt9 (wI m6 a0 5 ((rI m6 a0 5) &&& x3)) fun m7 =>
 gd (okO m7 a0 7) (oc (rR m7 a0 12) none fun q8 =>
 gd (okA m7 100 q8 a1) (lt9 (wI m7 q8 (ix a1) (0 : Int32)) fun m9 =>
 gd (okO m9 a0 7) (oc (rR m9 a0 9) none fun q10 =>
 gd (okA m9 100 q10 a1) (lt9 (wI m9 q10 (ix a1) (0 : Int32)) fun m11 =>
 gd (okO m11 a0 7) (oc (rR m11 a0 10) none fun q12 =>
 gd (okA m11 100 q12 a1) (lt9 (wI m11 q12 (ix a1) (0 : Int32)) fun m13 =>
 lt9 (0 : Int32) fun x14 =>
 L_X7_crash_82 (fun v0 v2 m =>
 lt9 (0 : Int32) fun x18 =>
 L_X7_crash_108 NF v0 v2 x18 m) NF a0 a1 x3 x14 m13))))))))))))))))
def F_X7_join (a0 : Nat) (a1 : Int32) (m : Mm) : Option (Int32 × Mm) :=
 gd (okO m a0 7) (bd (F_X7_stands a0 a1 m) fun r1 m2 =>
 if r1 = 0 then (
 gd (okO m2 a0 7) (
 bd (F_X11_has (rI m2 a0 5) a1 m2) fun r3 m4 =>
 if r3 = 0 then (
 gd (okO m4 a0 7) (
 gd (okO m4 a0 7) (lt9 (wI m4 a0 3 ((rI m4 a0 3) ||| ((1 : Int32) <<< (a1 &&& 31)))) fun m5 =>
 gd (okO m5 a0 7) (
 gd (okO m5 a0 7) (lt9 (wI m5 a0 5 ((rI m5 a0 5) ||| ((1 : Int32) <<< (a1 &&& 31)))) fun m6 =>
 some ((1 : Int32), m6))))))
 else (
 some ((0 : Int32), m4))))
 else (
 some ((0 : Int32), m2)))
def F_X7_part (a0 : Nat) (a1 : Int32) (m : Mm) : Option (Int32 × Mm) :=
 gd (okO m a0 7) (
 if (rI m a0 6) = a1 then (
 some ((0 : Int32), m))
 else (
 gd (okO m a0 7) (lt9 (wI m a0 6 a1) fun m1 =>
 some ((1 : Int32), m1))))
def F_X7_lackOf (a0 : Nat) (a1 : Int32) (a2 : Int32) (m : Mm) : Option (Int32 × Mm) :=
 bd (F_X11_has a2 a1 m) fun r1 m2 =>
 if r1 = 0 then (
 some ((0 : Int32), m2))
 else (
 gd (okO m2 a0 7) (bd (F_X7_keptBy a0 a2 m2) fun r3 m4 =>
 gd (okO m4 a0 7) (oc (rR m4 a0 9) none fun q5 =>
 gd (okA m4 100 q5 a1) (
 some ((r3 &&& ((rI m4 q5 (ix a1)) ^^^ (-1 : Int32))), m4)))))
set_option maxRecDepth 100000 in
set_option maxHeartbeats 4000000 in
theorem crt_X5_forget (l : Launch) (θ : Th) (a0 : Nat) (m : Mm) : Crt l θ yX5_forget M_X5_forget cvV [.ref a0] m (F_X5_forget a0 m) := by
  refine crt_of 0 (by decide) rfl rfl (Nat.le_of_ble_eq_true rfl) (fun Z hμ => ?_)
  unfold F_X5_forget
  show GG Z _ _ 0 [some (.ref a0)] [] m _
  refine g_aload_n (i := 0) dX5_forget_0 rfl rfl ?_
  refine g_iconst (v := (0 : Int32)) dX5_forget_1 ki_0 ?_
  refine g_putI (k := 1) cl_X5 (by decide) rfl rfl q_318 dX5_forget_2 ?_
  intro m1
  exact g_return rfl dX5_forget_5
set_option maxRecDepth 100000 in
set_option maxHeartbeats 4000000 in
theorem crt_X7_copy (l : Launch) (θ : Th) (a0 : Nat) (a1 : Nat) (m : Mm) : Crt l θ yX7_copy M_X7_copy cvV [.ref a0, .ref a1] m (F_X7_copy a0 a1 m) := by
  refine crt_of 0 (by decide) rfl rfl (Nat.le_of_ble_eq_true rfl) (fun Z hμ => ?_)
  unfold F_X7_copy
  show GG Z _ _ 0 [some (.ref a0), some (.ref a1)] [] m _
  refine g_aload_n (i := 0) dX7_copy_0 rfl rfl ?_
  refine g_aload_n (i := 1) dX7_copy_1 rfl rfl ?_
  refine g_getI (k := 0) cl_X7 (by decide) rfl q_216 dX7_copy_2 ?_
  refine g_putI (k := 0) cl_X7 (by decide) rfl rfl q_216 dX7_copy_5 ?_
  intro m1
  refine g_aload_n (i := 0) dX7_copy_8 rfl rfl ?_
  refine g_aload_n (i := 1) dX7_copy_9 rfl rfl ?_
  refine g_getI (k := 1) cl_X7 (by decide) rfl q_220 dX7_copy_10 ?_
  refine g_putI (k := 1) cl_X7 (by decide) rfl rfl q_220 dX7_copy_13 ?_
  intro m2
  refine g_aload_n (i := 0) dX7_copy_16 rfl rfl ?_
  refine g_aload_n (i := 1) dX7_copy_17 rfl rfl ?_
  refine g_getI (k := 2) cl_X7 (by decide) rfl q_224 dX7_copy_18 ?_
  refine g_putI (k := 2) cl_X7 (by decide) rfl rfl q_224 dX7_copy_21 ?_
  intro m3
  refine g_aload_n (i := 0) dX7_copy_24 rfl rfl ?_
  refine g_aload_n (i := 1) dX7_copy_25 rfl rfl ?_
  refine g_getI (k := 3) cl_X7 (by decide) rfl q_225 dX7_copy_26 ?_
  refine g_putI (k := 3) cl_X7 (by decide) rfl rfl q_225 dX7_copy_29 ?_
  intro m4
  refine g_aload_n (i := 0) dX7_copy_32 rfl rfl ?_
  refine g_aload_n (i := 1) dX7_copy_33 rfl rfl ?_
  refine g_getI (k := 4) cl_X7 (by decide) rfl q_229 dX7_copy_34 ?_
  refine g_putI (k := 4) cl_X7 (by decide) rfl rfl q_229 dX7_copy_37 ?_
  intro m5
  refine g_aload_n (i := 0) dX7_copy_40 rfl rfl ?_
  refine g_aload_n (i := 1) dX7_copy_41 rfl rfl ?_
  refine g_getI (k := 5) cl_X7 (by decide) rfl q_233 dX7_copy_42 ?_
  refine g_putI (k := 5) cl_X7 (by decide) rfl rfl q_233 dX7_copy_45 ?_
  intro m6
  refine g_aload_n (i := 0) dX7_copy_48 rfl rfl ?_
  refine g_aload_n (i := 1) dX7_copy_49 rfl rfl ?_
  refine g_getI (k := 6) cl_X7 (by decide) rfl q_236 dX7_copy_50 ?_
  refine g_putI (k := 6) cl_X7 (by decide) rfl rfl q_236 dX7_copy_53 ?_
  intro m7
  refine g_aload_n (i := 0) dX7_copy_56 rfl rfl ?_
  refine g_aload_n (i := 1) dX7_copy_57 rfl rfl ?_
  refine g_getI (k := 7) cl_X7 (by decide) rfl q_240 dX7_copy_58 ?_
  refine g_putI (k := 7) cl_X7 (by decide) rfl rfl q_240 dX7_copy_61 ?_
  intro m8
  refine g_aload_n (i := 1) dX7_copy_64 rfl rfl ?_
  refine g_getR (k := 8) cl_X7 (by decide) rfl q_242 dX7_copy_65 ?_
  intro q9
  refine g_iconst (v := (0 : Int32)) dX7_copy_68 ki_0 ?_
  refine g_aload_n (i := 0) dX7_copy_69 rfl rfl ?_
  refine g_getR (k := 8) cl_X7 (by decide) rfl q_242 dX7_copy_70 ?_
  intro q10
  refine g_iconst (v := (0 : Int32)) dX7_copy_73 ki_0 ?_
  refine g_aload_n (i := 0) dX7_copy_74 rfl rfl ?_
  refine g_getR (k := 8) cl_X7 (by decide) rfl q_242 dX7_copy_75 ?_
  intro q11
  refine g_alen100 dX7_copy_78 ?_
  refine g_copyI q_440 q_442 q_441 q_22 (by decide +kernel) rfl dX7_copy_79 ?_
  intro m12
  refine g_aload_n (i := 1) dX7_copy_82 rfl rfl ?_
  refine g_getR (k := 9) cl_X7 (by decide) rfl q_245 dX7_copy_83 ?_
  intro q13
  refine g_iconst (v := (0 : Int32)) dX7_copy_86 ki_0 ?_
  refine g_aload_n (i := 0) dX7_copy_87 rfl rfl ?_
  refine g_getR (k := 9) cl_X7 (by decide) rfl q_245 dX7_copy_88 ?_
  intro q14
  refine g_iconst (v := (0 : Int32)) dX7_copy_91 ki_0 ?_
  refine g_aload_n (i := 0) dX7_copy_92 rfl rfl ?_
  refine g_getR (k := 9) cl_X7 (by decide) rfl q_245 dX7_copy_93 ?_
  intro q15
  refine g_alen100 dX7_copy_96 ?_
  refine g_copyI q_440 q_442 q_441 q_22 (by decide +kernel) rfl dX7_copy_97 ?_
  intro m16
  refine g_aload_n (i := 1) dX7_copy_100 rfl rfl ?_
  refine g_getR (k := 10) cl_X7 (by decide) rfl q_247 dX7_copy_101 ?_
  intro q17
  refine g_iconst (v := (0 : Int32)) dX7_copy_104 ki_0 ?_
  refine g_aload_n (i := 0) dX7_copy_105 rfl rfl ?_
  refine g_getR (k := 10) cl_X7 (by decide) rfl q_247 dX7_copy_106 ?_
  intro q18
  refine g_iconst (v := (0 : Int32)) dX7_copy_109 ki_0 ?_
  refine g_aload_n (i := 0) dX7_copy_110 rfl rfl ?_
  refine g_getR (k := 10) cl_X7 (by decide) rfl q_247 dX7_copy_111 ?_
  intro q19
  refine g_alen100 dX7_copy_114 ?_
  refine g_copyI q_440 q_442 q_441 q_22 (by decide +kernel) rfl dX7_copy_115 ?_
  intro m20
  refine g_aload_n (i := 1) dX7_copy_118 rfl rfl ?_
  refine g_getR (k := 11) cl_X7 (by decide) rfl q_249 dX7_copy_119 ?_
  intro q21
  refine g_iconst (v := (0 : Int32)) dX7_copy_122 ki_0 ?_
  refine g_aload_n (i := 0) dX7_copy_123 rfl rfl ?_
  refine g_getR (k := 11) cl_X7 (by decide) rfl q_249 dX7_copy_124 ?_
  intro q22
  refine g_iconst (v := (0 : Int32)) dX7_copy_127 ki_0 ?_
  refine g_aload_n (i := 0) dX7_copy_128 rfl rfl ?_
  refine g_getR (k := 11) cl_X7 (by decide) rfl q_249 dX7_copy_129 ?_
  intro q23
  refine g_alen100 dX7_copy_132 ?_
  refine g_copyI q_440 q_442 q_441 q_22 (by decide +kernel) rfl dX7_copy_133 ?_
  intro m24
  refine g_aload_n (i := 1) dX7_copy_136 rfl rfl ?_
  refine g_getR (k := 12) cl_X7 (by decide) rfl q_251 dX7_copy_137 ?_
  intro q25
  refine g_iconst (v := (0 : Int32)) dX7_copy_140 ki_0 ?_
  refine g_aload_n (i := 0) dX7_copy_141 rfl rfl ?_
  refine g_getR (k := 12) cl_X7 (by decide) rfl q_251 dX7_copy_142 ?_
  intro q26
  refine g_iconst (v := (0 : Int32)) dX7_copy_145 ki_0 ?_
  refine g_aload_n (i := 0) dX7_copy_146 rfl rfl ?_
  refine g_getR (k := 12) cl_X7 (by decide) rfl q_251 dX7_copy_147 ?_
  intro q27
  refine g_alen100 dX7_copy_150 ?_
  refine g_copyI q_440 q_442 q_441 q_22 (by decide +kernel) rfl dX7_copy_151 ?_
  intro m28
  refine g_aload_n (i := 1) dX7_copy_154 rfl rfl ?_
  refine g_getR (k := 13) cl_X7 (by decide) rfl q_253 dX7_copy_155 ?_
  intro q29
  refine g_iconst (v := (0 : Int32)) dX7_copy_158 ki_0 ?_
  refine g_aload_n (i := 0) dX7_copy_159 rfl rfl ?_
  refine g_getR (k := 13) cl_X7 (by decide) rfl q_253 dX7_copy_160 ?_
  intro q30
  refine g_iconst (v := (0 : Int32)) dX7_copy_163 ki_0 ?_
  refine g_aload_n (i := 0) dX7_copy_164 rfl rfl ?_
  refine g_getR (k := 13) cl_X7 (by decide) rfl q_253 dX7_copy_165 ?_
  intro q31
  refine g_alen100 dX7_copy_168 ?_
  refine g_copyI q_440 q_442 q_441 q_22 (by decide +kernel) rfl dX7_copy_169 ?_
  intro m32
  refine g_aload_n (i := 1) dX7_copy_172 rfl rfl ?_
  refine g_getR (k := 14) cl_X7 (by decide) rfl q_255 dX7_copy_173 ?_
  intro q33
  refine g_iconst (v := (0 : Int32)) dX7_copy_176 ki_0 ?_
  refine g_aload_n (i := 0) dX7_copy_177 rfl rfl ?_
  refine g_getR (k := 14) cl_X7 (by decide) rfl q_255 dX7_copy_178 ?_
  intro q34
  refine g_iconst (v := (0 : Int32)) dX7_copy_181 ki_0 ?_
  refine g_aload_n (i := 0) dX7_copy_182 rfl rfl ?_
  refine g_getR (k := 14) cl_X7 (by decide) rfl q_255 dX7_copy_183 ?_
  intro q35
  refine g_alen100 dX7_copy_186 ?_
  refine g_copyI q_440 q_442 q_441 q_22 (by decide +kernel) rfl dX7_copy_187 ?_
  intro m36
  refine g_aload_n (i := 1) dX7_copy_190 rfl rfl ?_
  refine g_getR (k := 15) cl_X7 (by decide) rfl q_257 dX7_copy_191 ?_
  intro q37
  refine g_iconst (v := (0 : Int32)) dX7_copy_194 ki_0 ?_
  refine g_aload_n (i := 0) dX7_copy_195 rfl rfl ?_
  refine g_getR (k := 15) cl_X7 (by decide) rfl q_257 dX7_copy_196 ?_
  intro q38
  refine g_iconst (v := (0 : Int32)) dX7_copy_199 ki_0 ?_
  refine g_aload_n (i := 0) dX7_copy_200 rfl rfl ?_
  refine g_getR (k := 15) cl_X7 (by decide) rfl q_257 dX7_copy_201 ?_
  intro q39
  refine g_alen100 dX7_copy_204 ?_
  refine g_copyI q_440 q_442 q_441 q_22 (by decide +kernel) rfl dX7_copy_205 ?_
  intro m40
  refine g_aload_n (i := 1) dX7_copy_208 rfl rfl ?_
  refine g_getR (k := 16) cl_X7 (by decide) rfl q_259 dX7_copy_209 ?_
  intro q41
  refine g_iconst (v := (0 : Int32)) dX7_copy_212 ki_0 ?_
  refine g_aload_n (i := 0) dX7_copy_213 rfl rfl ?_
  refine g_getR (k := 16) cl_X7 (by decide) rfl q_259 dX7_copy_214 ?_
  intro q42
  refine g_iconst (v := (0 : Int32)) dX7_copy_217 ki_0 ?_
  refine g_aload_n (i := 0) dX7_copy_218 rfl rfl ?_
  refine g_getR (k := 16) cl_X7 (by decide) rfl q_259 dX7_copy_219 ?_
  intro q43
  refine g_alen100 dX7_copy_222 ?_
  refine g_copyI q_440 q_442 q_441 q_22 (by decide +kernel) rfl dX7_copy_223 ?_
  intro m44
  refine g_aload_n (i := 1) dX7_copy_226 rfl rfl ?_
  refine g_getR (k := 17) cl_X7 (by decide) rfl q_261 dX7_copy_227 ?_
  intro q45
  refine g_iconst (v := (0 : Int32)) dX7_copy_230 ki_0 ?_
  refine g_aload_n (i := 0) dX7_copy_231 rfl rfl ?_
  refine g_getR (k := 17) cl_X7 (by decide) rfl q_261 dX7_copy_232 ?_
  intro q46
  refine g_iconst (v := (0 : Int32)) dX7_copy_235 ki_0 ?_
  refine g_aload_n (i := 0) dX7_copy_236 rfl rfl ?_
  refine g_getR (k := 17) cl_X7 (by decide) rfl q_261 dX7_copy_237 ?_
  intro q47
  refine g_alen100 dX7_copy_240 ?_
  refine g_copyI q_440 q_442 q_441 q_22 (by decide +kernel) rfl dX7_copy_241 ?_
  intro m48
  refine g_aload_n (i := 1) dX7_copy_244 rfl rfl ?_
  refine g_getR (k := 18) cl_X7 (by decide) rfl q_263 dX7_copy_245 ?_
  intro q49
  refine g_iconst (v := (0 : Int32)) dX7_copy_248 ki_0 ?_
  refine g_aload_n (i := 0) dX7_copy_249 rfl rfl ?_
  refine g_getR (k := 18) cl_X7 (by decide) rfl q_263 dX7_copy_250 ?_
  intro q50
  refine g_iconst (v := (0 : Int32)) dX7_copy_253 ki_0 ?_
  refine g_aload_n (i := 0) dX7_copy_254 rfl rfl ?_
  refine g_getR (k := 18) cl_X7 (by decide) rfl q_263 dX7_copy_255 ?_
  intro q51
  refine g_alen101 dX7_copy_258 ?_
  refine g_copyL q_440 q_442 q_441 q_22 (by decide +kernel) rfl dX7_copy_259 ?_
  intro m52
  refine g_aload_n (i := 1) dX7_copy_262 rfl rfl ?_
  refine g_getR (k := 19) cl_X7 (by decide) rfl q_265 dX7_copy_263 ?_
  intro q53
  refine g_iconst (v := (0 : Int32)) dX7_copy_266 ki_0 ?_
  refine g_aload_n (i := 0) dX7_copy_267 rfl rfl ?_
  refine g_getR (k := 19) cl_X7 (by decide) rfl q_265 dX7_copy_268 ?_
  intro q54
  refine g_iconst (v := (0 : Int32)) dX7_copy_271 ki_0 ?_
  refine g_aload_n (i := 0) dX7_copy_272 rfl rfl ?_
  refine g_getR (k := 19) cl_X7 (by decide) rfl q_265 dX7_copy_273 ?_
  intro q55
  refine g_alen101 dX7_copy_276 ?_
  refine g_copyL q_440 q_442 q_441 q_22 (by decide +kernel) rfl dX7_copy_277 ?_
  intro m56
  exact g_return rfl dX7_copy_280
set_option maxRecDepth 100000 in
set_option maxHeartbeats 4000000 in
theorem crt_X5_put (l : Launch) (θ : Th) (a0 : Nat) (a1 : Int32) (a2 : Nat) (m : Mm) : Crt l θ yX5_put M_X5_put cvI [.ref a0, .int a1, .ref a2] m (F_X5_put a0 a1 a2 m) := by
  refine crt_of 1 (by decide) rfl rfl (Nat.le_of_ble_eq_true rfl) (fun Z hμ => ?_)
  unfold F_X5_put
  show GG Z _ _ 0 [some (.ref a0), some (.int a1), some (.ref a2), none] [] m _
  refine g_iload_n (i := 1) dX5_put_0 rfl rfl ?_
  refine g_iflt (tgt := 13) dX5_put_1 (by decide) ?_ ?_
  · refine g_iconst (v := (0 : Int32)) dX5_put_13 ki_0 ?_
    exact g_zreturnK rfl (by decide) dX5_put_14
  · refine g_iload_n (i := 1) dX5_put_4 rfl rfl ?_
    refine g_aload_n (i := 0) dX5_put_5 rfl rfl ?_
    refine g_getR (k := 0) cl_X5 (by decide) rfl q_317 dX5_put_6 ?_
    intro q1
    refine g_alen104 dX5_put_9 ?_
    refine g_icmplt (tgt := 15) dX5_put_10 (by decide) ?_ ?_
    · refine g_aload_n (i := 0) dX5_put_15 rfl rfl ?_
      refine g_getR (k := 0) cl_X5 (by decide) rfl q_317 dX5_put_16 ?_
      intro q2
      refine g_iload_n (i := 1) dX5_put_19 rfl rfl ?_
      refine g_aaloadS dX5_put_20 ?_ ?_
      · refine g_astore_nN (i := 3) dX5_put_21 rfl (show 3 < 4 by decide) ?_
        refine g_aload_nN (i := 3) dX5_put_22 rfl rfl ?_
        refine g_jn (fun J41 => ∀ (v2 : Nat) (v3 : Nat) (m : Mm), GG Z M_X5_put (PsN Z cvI) 41 [none, none, some (.ref v2), some (.ref v3)] [] m (J41 v2 v3 m)) ?_ ?_
        · intro v2 v3 m
          refine g_aload_n (i := 3) dX5_put_41 rfl rfl ?_
          refine g_aload_n (i := 2) dX5_put_42 rfl rfl ?_
          refine g_callVV cl_X7 (crt_X7_copy _ _ _ _ _) cw_X7_copy (by decide) rfl q_436 q_437 q_438 rfl rfl dX5_put_43 ?_
          intro r6 m7
          refine g_iconst (v := (1 : Int32)) dX5_put_46 ki_1 ?_
          exact g_zreturnK rfl (by decide) dX5_put_47
        · intro J41 hJ41
          refine g_ifnonnullN dX5_put_23 ?_
          refine g_new cl_X7 cd_X7 q_315 q_211 q_8 dX5_put_26 ?_
          intro m8
          refine g_dup dX5_put_29 rfl ?_
          refine g_callINV (crt_X7_init _ _ _ _) cw_X7_init (by decide) rfl q_618 q_213 rfl rfl rfl rfl dX5_put_30 ?_
          intro r9 m10
          refine g_astore_n (i := 3) dX5_put_33 rfl (show 3 < 4 by decide) ?_
          refine g_aload_n (i := 0) dX5_put_34 rfl rfl ?_
          refine g_getR (k := 0) cl_X5 (by decide) rfl q_317 dX5_put_35 ?_
          intro q11
          refine g_iload_n (i := 1) dX5_put_38 rfl rfl ?_
          refine g_aload_n (i := 3) dX5_put_39 rfl rfl ?_
          refine g_aastore (t0 := 4) cl_X7 rfl (by decide) (fun _ => rfl) dX5_put_40 ?_
          intro m12
          exact g_msk [false, false, true, true] (hJ41 _ _ _)
      · intro q3
        refine g_astore_n (i := 3) dX5_put_21 rfl (show 3 < 4 by decide) ?_
        refine g_aload_n (i := 3) dX5_put_22 rfl rfl ?_
        refine g_jn (fun J41 => ∀ (v2 : Nat) (v3 : Nat) (m : Mm), GG Z M_X5_put (PsN Z cvI) 41 [none, none, some (.ref v2), some (.ref v3)] [] m (J41 v2 v3 m)) ?_ ?_
        · intro v2 v3 m
          refine g_aload_n (i := 3) dX5_put_41 rfl rfl ?_
          refine g_aload_n (i := 2) dX5_put_42 rfl rfl ?_
          refine g_callVV cl_X7 (crt_X7_copy _ _ _ _ _) cw_X7_copy (by decide) rfl q_436 q_437 q_438 rfl rfl dX5_put_43 ?_
          intro r4 m5
          refine g_iconst (v := (1 : Int32)) dX5_put_46 ki_1 ?_
          exact g_zreturnK rfl (by decide) dX5_put_47
        · intro J41 hJ41
          refine g_ifnonnull (tgt := 41) dX5_put_23 (by decide) ?_
          exact g_msk [false, false, true, true] (hJ41 _ _ _)
    · refine g_iconst (v := (0 : Int32)) dX5_put_13 ki_0 ?_
      exact g_zreturnK rfl (by decide) dX5_put_14
set_option maxRecDepth 100000 in
set_option maxHeartbeats 4000000 in
theorem crt_X5_keep (l : Launch) (θ : Th) (a0 : Nat) (a1 : Nat) (m : Mm) : Crt l θ yX5_keep M_X5_keep cvV [.ref a0, .ref a1] m (F_X5_keep a0 a1 m) := by
  refine crt_of 0 (by decide) rfl rfl (Nat.le_of_ble_eq_true rfl) (fun Z hμ => ?_)
  unfold F_X5_keep
  show GG Z _ _ 0 [some (.ref a0), some (.ref a1)] [] m _
  refine g_aload_n (i := 0) dX5_keep_0 rfl rfl ?_
  refine g_aload_n (i := 0) dX5_keep_1 rfl rfl ?_
  refine g_getI (k := 1) cl_X5 (by decide) rfl q_318 dX5_keep_2 ?_
  refine g_aload_n (i := 1) dX5_keep_5 rfl rfl ?_
  refine g_callVI cl_X5 (crt_X5_put _ _ _ _ _ _) cw_X5_put (by decide) rfl q_614 q_616 qs_10 rfl rfl dX5_keep_6 ?_
  intro r1 m2
  refine g_ifeq (tgt := 22) dX5_keep_9 (by decide) ?_ ?_
  · exact g_return rfl dX5_keep_22
  · refine g_aload_n (i := 0) dX5_keep_12 rfl rfl ?_
    refine g_dup dX5_keep_13 rfl ?_
    refine g_getI (k := 1) cl_X5 (by decide) rfl q_318 dX5_keep_14 ?_
    refine g_iconst (v := (1 : Int32)) dX5_keep_17 ki_1 ?_
    refine g_iadd dX5_keep_18 ?_
    refine g_putI (k := 1) cl_X5 (by decide) rfl rfl q_318 dX5_keep_19 ?_
    intro m3
    exact g_return rfl dX5_keep_22
set_option maxRecDepth 100000 in
set_option maxHeartbeats 4000000 in
theorem crt_X5_giveBack (l : Launch) (θ : Th) (a0 : Nat) (a1 : Nat) (m : Mm) : Crt l θ yX5_giveBack M_X5_giveBack cvI [.ref a0, .ref a1] m (F_X5_giveBack a0 a1 m) := by
  refine crt_of 1 (by decide) rfl rfl (Nat.le_of_ble_eq_true rfl) (fun Z hμ => ?_)
  unfold F_X5_giveBack
  show GG Z _ _ 0 [some (.ref a0), some (.ref a1), none] [] m _
  refine g_aload_n (i := 0) dX5_giveBack_0 rfl rfl ?_
  refine g_getI (k := 1) cl_X5 (by decide) rfl q_318 dX5_giveBack_1 ?_
  refine g_ifle (tgt := 19) dX5_giveBack_4 (by decide) ?_ ?_
  · refine g_iconst (v := (0 : Int32)) dX5_giveBack_19 ki_0 ?_
    exact g_zreturnK rfl (by decide) dX5_giveBack_20
  · refine g_aload_n (i := 0) dX5_giveBack_7 rfl rfl ?_
    refine g_getI (k := 1) cl_X5 (by decide) rfl q_318 dX5_giveBack_8 ?_
    refine g_aload_n (i := 0) dX5_giveBack_11 rfl rfl ?_
    refine g_getR (k := 0) cl_X5 (by decide) rfl q_317 dX5_giveBack_12 ?_
    intro q1
    refine g_alen104 dX5_giveBack_15 ?_
    refine g_icmple (tgt := 21) dX5_giveBack_16 (by decide) ?_ ?_
    · refine g_aload_n (i := 0) dX5_giveBack_21 rfl rfl ?_
      refine g_dup dX5_giveBack_22 rfl ?_
      refine g_getI (k := 1) cl_X5 (by decide) rfl q_318 dX5_giveBack_23 ?_
      refine g_iconst (v := (1 : Int32)) dX5_giveBack_26 ki_1 ?_
      refine g_isub dX5_giveBack_27 ?_
      refine g_putI (k := 1) cl_X5 (by decide) rfl rfl q_318 dX5_giveBack_28 ?_
      intro m2
      refine g_aload_n (i := 0) dX5_giveBack_31 rfl rfl ?_
      refine g_getR (k := 0) cl_X5 (by decide) rfl q_317 dX5_giveBack_32 ?_
      intro q3
      refine g_aload_n (i := 0) dX5_giveBack_35 rfl rfl ?_
      refine g_getI (k := 1) cl_X5 (by decide) rfl q_318 dX5_giveBack_36 ?_
      refine g_aaloadS dX5_giveBack_39 ?_ ?_
      · refine g_astore_nN (i := 2) dX5_giveBack_40 rfl (show 2 < 3 by decide) ?_
        refine g_aload_nN (i := 2) dX5_giveBack_41 rfl rfl ?_
        refine g_ifnullN (tgt := 50) dX5_giveBack_42 (by decide) ?_
        refine g_iconst (v := (1 : Int32)) dX5_giveBack_50 ki_1 ?_
        exact g_zreturnK rfl (by decide) dX5_giveBack_51
      · intro q4
        refine g_astore_n (i := 2) dX5_giveBack_40 rfl (show 2 < 3 by decide) ?_
        refine g_aload_n (i := 2) dX5_giveBack_41 rfl rfl ?_
        refine g_ifnull dX5_giveBack_42 ?_
        refine g_aload_n (i := 1) dX5_giveBack_45 rfl rfl ?_
        refine g_aload_n (i := 2) dX5_giveBack_46 rfl rfl ?_
        refine g_callVV cl_X7 (crt_X7_copy _ _ _ _ _) cw_X7_copy (by decide) rfl q_436 q_437 q_438 rfl rfl dX5_giveBack_47 ?_
        intro r5 m6
        refine g_iconst (v := (1 : Int32)) dX5_giveBack_50 ki_1 ?_
        exact g_zreturnK rfl (by decide) dX5_giveBack_51
    · refine g_iconst (v := (0 : Int32)) dX5_giveBack_19 ki_0 ?_
      exact g_zreturnK rfl (by decide) dX5_giveBack_20
set_option maxRecDepth 100000 in
set_option maxHeartbeats 4000000 in
theorem c_L_X5_copy_2 {Z : Zx}  {K43 : Nat → Nat → Mm → Option (Unit × Mm)} (hK43 : ∀ (v0 : Nat) (v1 : Nat) (m : Mm), GG Z M_X5_copy (PsN Z cvV) 43 [some (.ref v0), some (.ref v1), none, none] [] m (K43 v0 v1 m)) : ∀ (n : Nat) (v0 : Nat) (v1 : Nat) (v2 : Int32) (m : Mm), GG Z M_X5_copy (PsN Z cvV) 2 [some (.ref v0), some (.ref v1), some (.int v2), none] [] m (L_X5_copy_2 K43 n v0 v1 v2 m) := by
  intro n
  induction n with
  | zero => intro v0 v1 v2 m; exact g_no
  | succ n ih =>
    intro v0 v1 v2 m
    unfold L_X5_copy_2
    refine g_iload_n (i := 2) dX5_copy_2 rfl rfl ?_
    refine g_aload_n (i := 1) dX5_copy_3 rfl rfl ?_
    refine g_getI (k := 1) cl_X5 (by decide) rfl q_318 dX5_copy_4 ?_
    refine g_icmpge (tgt := 43) dX5_copy_7 (by decide) ?_ ?_
    · exact g_msk [true, true, false, false] (hK43 _ _ _)
    · refine g_iload_n (i := 2) dX5_copy_10 rfl rfl ?_
      refine g_aload_n (i := 1) dX5_copy_11 rfl rfl ?_
      refine g_getR (k := 0) cl_X5 (by decide) rfl q_317 dX5_copy_12 ?_
      intro q2
      refine g_alen104 dX5_copy_15 ?_
      refine g_icmpge (tgt := 43) dX5_copy_16 (by decide) ?_ ?_
      · exact g_msk [true, true, false, false] (hK43 _ _ _)
      · refine g_aload_n (i := 1) dX5_copy_19 rfl rfl ?_
        refine g_getR (k := 0) cl_X5 (by decide) rfl q_317 dX5_copy_20 ?_
        intro q3
        refine g_iload_n (i := 2) dX5_copy_23 rfl rfl ?_
        refine g_aaloadS dX5_copy_24 ?_ ?_
        · refine g_astore_nN (i := 3) dX5_copy_25 rfl (show 3 < 4 by decide) ?_
          refine g_aload_nN (i := 3) dX5_copy_26 rfl rfl ?_
          refine g_jn (fun J37 => ∀ (v0 : Nat) (v1 : Nat) (v2 : Int32) (m : Mm), GG Z M_X5_copy (PsN Z cvV) 37 [some (.ref v0), some (.ref v1), some (.int v2), none] [] m (J37 v0 v1 v2 m)) ?_ ?_
          · intro v0 v1 v2 m
            refine g_iinc dX5_copy_37 rfl ki_1 (show 2 < 4 by decide) ?_
            intro x8
            refine g_goto (tgt := 2) dX5_copy_40 (by decide) ?_
            exact g_msk [true, true, true, false] (ih _ _ _ _)
          · intro J37 hJ37
            refine g_ifnullN (tgt := 37) dX5_copy_27 (by decide) ?_
            exact g_msk [true, true, true, false] (hJ37 _ _ _ _)
        · intro q4
          refine g_astore_n (i := 3) dX5_copy_25 rfl (show 3 < 4 by decide) ?_
          refine g_aload_n (i := 3) dX5_copy_26 rfl rfl ?_
          refine g_jn (fun J37 => ∀ (v0 : Nat) (v1 : Nat) (v2 : Int32) (m : Mm), GG Z M_X5_copy (PsN Z cvV) 37 [some (.ref v0), some (.ref v1), some (.int v2), none] [] m (J37 v0 v1 v2 m)) ?_ ?_
          · intro v0 v1 v2 m
            refine g_iinc dX5_copy_37 rfl ki_1 (show 2 < 4 by decide) ?_
            intro x5
            refine g_goto (tgt := 2) dX5_copy_40 (by decide) ?_
            exact g_msk [true, true, true, false] (ih _ _ _ _)
          · intro J37 hJ37
            refine g_ifnull dX5_copy_27 ?_
            refine g_aload_n (i := 0) dX5_copy_30 rfl rfl ?_
            refine g_iload_n (i := 2) dX5_copy_31 rfl rfl ?_
            refine g_aload_n (i := 3) dX5_copy_32 rfl rfl ?_
            refine g_callVI cl_X5 (crt_X5_put _ _ _ _ _ _) cw_X5_put (by decide) rfl q_614 q_616 qs_10 rfl rfl dX5_copy_33 ?_
            intro r6 m7
            refine g_pop dX5_copy_36 rfl ?_
            exact g_msk [true, true, true, false] (hJ37 _ _ _ _)
set_option maxRecDepth 100000 in
set_option maxHeartbeats 4000000 in
theorem crt_X5_copy (l : Launch) (θ : Th) (a0 : Nat) (a1 : Nat) (m : Mm) : Crt l θ yX5_copy M_X5_copy cvV [.ref a0, .ref a1] m (F_X5_copy a0 a1 m) := by
  refine crt_of 2 (by decide) rfl rfl (Nat.le_of_ble_eq_true rfl) (fun Z hμ => ?_)
  unfold F_X5_copy
  show GG Z _ _ 0 [some (.ref a0), some (.ref a1), none, none] [] m _
  refine g_iconst (v := (0 : Int32)) dX5_copy_0 ki_0 ?_
  refine g_istore_n (i := 2) dX5_copy_1 rfl (show 2 < 4 by decide) ?_
  intro x1
  refine g_msk [true, true, true, false] (c_L_X5_copy_2 ?_ NF _ _ _ _)
  intro v0 v1 m
  refine g_aload_n (i := 0) dX5_copy_43 rfl rfl ?_
  refine g_aload_n (i := 1) dX5_copy_44 rfl rfl ?_
  refine g_getI (k := 1) cl_X5 (by decide) rfl q_318 dX5_copy_45 ?_
  refine g_putI (k := 1) cl_X5 (by decide) rfl rfl q_318 dX5_copy_48 ?_
  intro m9
  exact g_return rfl dX5_copy_51
set_option maxRecDepth 100000 in
set_option maxHeartbeats 4000000 in
theorem crt_X6_init (l : Launch) (θ : Th) (a0 : Nat) (a1 : Nat) (a2 : Nat) (m : Mm) : Crt l θ yX6_init M_X6_init cvV [.ref a0, .ref a1, .ref a2] m (F_X6_init a0 a1 a2 m) := by
  refine crt_of 0 (by decide) rfl rfl (Nat.le_of_ble_eq_true rfl) (fun Z hμ => ?_)
  unfold F_X6_init
  show GG Z _ _ 0 [some (.ref a0), some (.ref a1), some (.ref a2)] [] m _
  refine g_aload_n (i := 0) dX6_init_0 rfl rfl ?_
  refine g_objInit q_196 q_35 q_36 (by decide) rfl dX6_init_1 ?_
  refine g_aload_n (i := 0) dX6_init_4 rfl rfl ?_
  refine g_bipush (v := (6 : Int32)) dX6_init_5 kb_6 ?_
  refine g_newarr (atype := .int) (ty := .int) (t0 := 0) (N := 6) rfl rfl (fun _ => rfl) (fun _ _ h => h) q_128 (by decide) (by decide) (by decide) (fun _ _ => nwd_i _ _ _ _ (by decide) rfl) dX6_init_7 ?_
  intro m1
  refine g_putRF (k := 2) cl_X6 (by decide) rfl (fun _ => rfl) (fun _ => rfl) rfl rfl rfl q_199 dX6_init_9 ?_
  intro m2
  refine g_aload_n (i := 0) dX6_init_12 rfl rfl ?_
  refine g_aload_n (i := 1) dX6_init_13 rfl rfl ?_
  refine g_putRF (k := 0) cl_X6 (by decide) rfl (fun _ => rfl) (fun _ => rfl) rfl rfl rfl q_197 dX6_init_14 ?_
  intro m3
  refine g_aload_n (i := 0) dX6_init_17 rfl rfl ?_
  refine g_aload_n (i := 2) dX6_init_18 rfl rfl ?_
  refine g_putRF (k := 1) cl_X6 (by decide) rfl (fun _ => rfl) (fun _ => rfl) rfl rfl rfl q_198 dX6_init_19 ?_
  intro m4
  exact g_return rfl dX6_init_22
set_option maxRecDepth 100000 in
set_option maxHeartbeats 4000000 in
theorem crt_X6_limit (l : Launch) (θ : Th) (a0 : Nat) (m : Mm) : Crt l θ yX6_limit M_X6_limit cvI [.ref a0] m (F_X6_limit a0 m) := by
  refine crt_of 0 (by decide) rfl rfl (Nat.le_of_ble_eq_true rfl) (fun Z hμ => ?_)
  unfold F_X6_limit
  show GG Z _ _ 0 [some (.ref a0)] [] m _
  refine g_aload_n (i := 0) dX6_limit_0 rfl rfl ?_
  refine g_getR (k := 0) cl_X6 (by decide) rfl q_197 dX6_limit_1 ?_
  intro q1
  refine g_getIN (k := 2) cl_X1 (by decide) rfl q_93 dX6_limit_4 ?_
  exact g_ireturn rfl dX6_limit_7
set_option maxRecDepth 100000 in
set_option maxHeartbeats 4000000 in
theorem crt_X6_members (l : Launch) (θ : Th) (a0 : Nat) (m : Mm) : Crt l θ yX6_members M_X6_members cvI [.ref a0] m (F_X6_members a0 m) := by
  refine crt_of 0 (by decide) rfl rfl (Nat.le_of_ble_eq_true rfl) (fun Z hμ => ?_)
  unfold F_X6_members
  show GG Z _ _ 0 [some (.ref a0)] [] m _
  refine g_aload_n (i := 0) dX6_members_0 rfl rfl ?_
  refine g_getR (k := 0) cl_X6 (by decide) rfl q_197 dX6_members_1 ?_
  intro q1
  refine g_getIN (k := 0) cl_X1 (by decide) rfl q_88 dX6_members_4 ?_
  exact g_ireturn rfl dX6_members_7
set_option maxRecDepth 100000 in
set_option maxHeartbeats 4000000 in
theorem crt_X6_partNow (l : Launch) (θ : Th) (a0 : Nat) (a1 : Nat) (m : Mm) : Crt l θ yX6_partNow M_X6_partNow cvI [.ref a0, .ref a1] m (F_X6_partNow a0 a1 m) := by
  refine crt_of 0 (by decide) rfl rfl (Nat.le_of_ble_eq_true rfl) (fun Z hμ => ?_)
  unfold F_X6_partNow
  show GG Z _ _ 0 [some (.ref a0), some (.ref a1)] [] m _
  refine g_aload_n (i := 0) dX6_partNow_0 rfl rfl ?_
  refine g_aload_n (i := 1) dX6_partNow_1 rfl rfl ?_
  refine g_callVV cl_X6 (crt_X6_weigh _ _ _ _ _) cw_X6_weigh (by decide) rfl q_451 q_452 q_453 rfl rfl dX6_partNow_2 ?_
  intro r1 m2
  refine g_aload_n (i := 0) dX6_partNow_5 rfl rfl ?_
  refine g_aload_n (i := 1) dX6_partNow_6 rfl rfl ?_
  refine g_aload_n (i := 1) dX6_partNow_7 rfl rfl ?_
  refine g_getIN (k := 6) cl_X7 (by decide) rfl q_237 dX6_partNow_8 ?_
  refine g_aload_n (i := 1) dX6_partNow_11 rfl rfl ?_
  refine g_callVI cl_X7 (crt_X7_standing _ _ _ _) cw_X7_standing (by decide) rfl q_475 q_476 q_477 rfl rfl dX6_partNow_12 ?_
  intro r3 m4
  refine g_callVI cl_X6 (crt_X6_partBy _ _ _ _ _ _ _) cw_X6_partBy (by decide) rfl q_479 q_480 q_481 rfl rfl dX6_partNow_15 ?_
  intro r5 m6
  exact g_ireturn rfl dX6_partNow_18
set_option maxRecDepth 100000 in
set_option maxHeartbeats 4000000 in
theorem crt_X6_survivorsNow (l : Launch) (θ : Th) (a0 : Nat) (a1 : Nat) (m : Mm) : Crt l θ yX6_survivorsNow M_X6_survivorsNow cvI [.ref a0, .ref a1] m (F_X6_survivorsNow a0 a1 m) := by
  refine crt_of 1 (by decide) rfl rfl (Nat.le_of_ble_eq_true rfl) (fun Z hμ => ?_)
  unfold F_X6_survivorsNow
  show GG Z _ _ 0 [some (.ref a0), some (.ref a1), none] [] m _
  refine g_aload_n (i := 0) dX6_survivorsNow_0 rfl rfl ?_
  refine g_aload_n (i := 1) dX6_survivorsNow_1 rfl rfl ?_
  refine g_callVI cl_X6 (crt_X6_partNow _ _ _ _ _) cw_X6_partNow (by decide) rfl q_503 q_448 q_449 rfl rfl dX6_survivorsNow_2 ?_
  intro r1 m2
  refine g_istore_n (i := 2) dX6_survivorsNow_5 rfl (show 2 < 3 by decide) ?_
  intro x3
  refine g_iload_n (i := 2) dX6_survivorsNow_6 rfl rfl ?_
  refine g_iconst (v := (-1 : Int32)) dX6_survivorsNow_7 ki_m1 ?_
  refine g_icmpne (tgt := 15) dX6_survivorsNow_8 (by decide) ?_ ?_
  · refine g_iload_n (i := 2) dX6_survivorsNow_15 rfl rfl ?_
    refine g_aload_n (i := 1) dX6_survivorsNow_16 rfl rfl ?_
    refine g_callVI cl_X7 (crt_X7_standing _ _ _ _) cw_X7_standing (by decide) rfl q_475 q_476 q_477 rfl rfl dX6_survivorsNow_17 ?_
    intro r4 m5
    refine g_iand dX6_survivorsNow_20 ?_
    exact g_ireturn rfl dX6_survivorsNow_21
  · refine g_iconst (v := (0 : Int32)) dX6_survivorsNow_11 ki_0 ?_
    refine g_goto (tgt := 21) dX6_survivorsNow_12 (by decide) ?_
    exact g_ireturn rfl dX6_survivorsNow_21
set_option maxRecDepth 100000 in
set_option maxHeartbeats 4000000 in
theorem crt_X6_hold (l : Launch) (θ : Th) (a0 : Nat) (a1 : Nat) (m : Mm) : Crt l θ yX6_hold M_X6_hold cvI [.ref a0, .ref a1] m (F_X6_hold a0 a1 m) := by
  refine crt_of 2 (by decide) rfl rfl (Nat.le_of_ble_eq_true rfl) (fun Z hμ => ?_)
  unfold F_X6_hold
  show GG Z _ _ 0 [some (.ref a0), some (.ref a1), none, none] [] m _
  refine g_aload_n (i := 0) dX6_hold_0 rfl rfl ?_
  refine g_aload_n (i := 1) dX6_hold_1 rfl rfl ?_
  refine g_callVV cl_X6 (crt_X6_weigh _ _ _ _ _) cw_X6_weigh (by decide) rfl q_451 q_452 q_453 rfl rfl dX6_hold_2 ?_
  intro r1 m2
  refine g_aload_n (i := 0) dX6_hold_5 rfl rfl ?_
  refine g_aload_n (i := 1) dX6_hold_6 rfl rfl ?_
  refine g_aload_n (i := 1) dX6_hold_7 rfl rfl ?_
  refine g_getIN (k := 6) cl_X7 (by decide) rfl q_237 dX6_hold_8 ?_
  refine g_aload_n (i := 1) dX6_hold_11 rfl rfl ?_
  refine g_callVI cl_X7 (crt_X7_standing _ _ _ _) cw_X7_standing (by decide) rfl q_475 q_476 q_477 rfl rfl dX6_hold_12 ?_
  intro r3 m4
  refine g_callVI cl_X6 (crt_X6_partBy _ _ _ _ _ _ _) cw_X6_partBy (by decide) rfl q_479 q_480 q_481 rfl rfl dX6_hold_15 ?_
  intro r5 m6
  refine g_istore_n (i := 2) dX6_hold_18 rfl (show 2 < 4 by decide) ?_
  intro x7
  refine g_iload_n (i := 2) dX6_hold_19 rfl rfl ?_
  refine g_aload_n (i := 1) dX6_hold_20 rfl rfl ?_
  refine g_callVI cl_X7 (crt_X7_standing _ _ _ _) cw_X7_standing (by decide) rfl q_475 q_476 q_477 rfl rfl dX6_hold_21 ?_
  intro r8 m9
  refine g_iand dX6_hold_24 ?_
  refine g_istore_n (i := 3) dX6_hold_25 rfl (show 3 < 4 by decide) ?_
  intro x10
  refine g_iload_n (i := 2) dX6_hold_26 rfl rfl ?_
  refine g_iconst (v := (-1 : Int32)) dX6_hold_27 ki_m1 ?_
  refine g_icmpeq (tgt := 42) dX6_hold_28 (by decide) ?_ ?_
  · refine g_iconst (v := (0 : Int32)) dX6_hold_42 ki_0 ?_
    exact g_zreturnK rfl (by decide) dX6_hold_43
  · refine g_iload_n (i := 3) dX6_hold_31 rfl rfl ?_
    refine g_aload_n (i := 1) dX6_hold_32 rfl rfl ?_
    refine g_getIN (k := 4) cl_X7 (by decide) rfl q_232 dX6_hold_33 ?_
    refine g_iconst (v := (-1 : Int32)) dX6_hold_36 ki_m1 ?_
    refine g_ixor dX6_hold_37 ?_
    refine g_iand dX6_hold_38 ?_
    refine g_ifne (tgt := 44) dX6_hold_39 (by decide) ?_ ?_
    · refine g_aload_n (i := 1) dX6_hold_44 rfl rfl ?_
      refine g_dup dX6_hold_45 rfl ?_
      refine g_getIN (k := 4) cl_X7 (by decide) rfl q_232 dX6_hold_46 ?_
      refine g_iload_n (i := 3) dX6_hold_49 rfl rfl ?_
      refine g_ior dX6_hold_50 ?_
      refine g_putIN (k := 4) cl_X7 (by decide) rfl rfl q_232 dX6_hold_51 ?_
      intro m11
      refine g_iconst (v := (1 : Int32)) dX6_hold_54 ki_1 ?_
      exact g_zreturnK rfl (by decide) dX6_hold_55
    · refine g_iconst (v := (0 : Int32)) dX6_hold_42 ki_0 ?_
      exact g_zreturnK rfl (by decide) dX6_hold_43
set_option maxRecDepth 100000 in
set_option maxHeartbeats 4000000 in
theorem c_L_X7_keptBy_4 {Z : Zx}    : ∀ (n : Nat) (v0 : Nat) (v1 : Int32) (v2 : Int32) (v3 : Int32) (m : Mm), GG Z M_X7_keptBy (PsN Z cvI) 4 [some (.ref v0), some (.int v1), some (.int v2), some (.int v3)] [] m (L_X7_keptBy_4 n v0 v1 v2 v3 m) := by
  intro n
  induction n with
  | zero => intro v0 v1 v2 v3 m; exact g_no
  | succ n ih =>
    intro v0 v1 v2 v3 m
    unfold L_X7_keptBy_4
    refine g_iload_n (i := 3) dX7_keptBy_4 rfl rfl ?_
    refine g_bipush (v := (6 : Int32)) dX7_keptBy_5 kb_6 ?_
    refine g_icmpge (tgt := 37) dX7_keptBy_7 (by decide) ?_ ?_
    · refine g_iload_n (i := 2) dX7_keptBy_37 rfl rfl ?_
      exact g_ireturn rfl dX7_keptBy_38
    · refine g_iload_n (i := 2) dX7_keptBy_10 rfl rfl ?_
      refine g_iload_n (i := 1) dX7_keptBy_11 rfl rfl ?_
      refine g_iload_n (i := 3) dX7_keptBy_12 rfl rfl ?_
      refine g_callSNI (crt_X11_has _ _ _ _ _) cw_X11_has (by decide) rfl q_359 q_360 rfl rfl dX7_keptBy_13 ?_
      intro r3 m4
      refine g_jn (fun J29 => ∀ (v0 : Nat) (v1 : Int32) (v3 : Int32) (s0 : Int32) (s1 : Int32) (m : Mm), GG Z M_X7_keptBy (PsN Z cvI) 29 [some (.ref v0), some (.int v1), none, some (.int v3)] [.int s0, .int s1] m (J29 v0 v1 v3 s0 s1 m)) ?_ ?_
      · intro v0 v1 v3 s0 s1 m
        refine g_ior dX7_keptBy_29 ?_
        refine g_istore_n (i := 2) dX7_keptBy_30 rfl (show 2 < 4 by decide) ?_
        intro x5
        refine g_iinc dX7_keptBy_31 rfl ki_1 (show 3 < 4 by decide) ?_
        intro x6
        refine g_goto (tgt := 4) dX7_keptBy_34 (by decide) ?_
        exact g_msk [true, true, true, true] (ih _ _ _ _ _)
      · intro J29 hJ29
        refine g_ifeq (tgt := 28) dX7_keptBy_16 (by decide) ?_ ?_
        · refine g_iconst (v := (0 : Int32)) dX7_keptBy_28 ki_0 ?_
          exact g_msk [true, true, false, true] (hJ29 _ _ _ _ _ _)
        · refine g_aload_n (i := 0) dX7_keptBy_19 rfl rfl ?_
          refine g_getR (k := 10) cl_X7 (by decide) rfl q_247 dX7_keptBy_20 ?_
          intro q7
          refine g_iload_n (i := 3) dX7_keptBy_23 rfl rfl ?_
          refine g_iaload dX7_keptBy_24 ?_
          refine g_goto (tgt := 29) dX7_keptBy_25 (by decide) ?_
          exact g_msk [true, true, false, true] (hJ29 _ _ _ _ _ _)
set_option maxRecDepth 100000 in
set_option maxHeartbeats 4000000 in
theorem crt_X7_keptBy (l : Launch) (θ : Th) (a0 : Nat) (a1 : Int32) (m : Mm) : Crt l θ yX7_keptBy M_X7_keptBy cvI [.ref a0, .int a1] m (F_X7_keptBy a0 a1 m) := by
  refine crt_of 2 (by decide) rfl rfl (Nat.le_of_ble_eq_true rfl) (fun Z hμ => ?_)
  unfold F_X7_keptBy
  show GG Z _ _ 0 [some (.ref a0), some (.int a1), none, none] [] m _
  refine g_iconst (v := (0 : Int32)) dX7_keptBy_0 ki_0 ?_
  refine g_istore_n (i := 2) dX7_keptBy_1 rfl (show 2 < 4 by decide) ?_
  intro x1
  refine g_iconst (v := (0 : Int32)) dX7_keptBy_2 ki_0 ?_
  refine g_istore_n (i := 3) dX7_keptBy_3 rfl (show 3 < 4 by decide) ?_
  intro x2
  exact g_msk [true, true, true, true] (c_L_X7_keptBy_4 NF _ _ _ _ _)
set_option maxRecDepth 100000 in
set_option maxHeartbeats 4000000 in
theorem crt_X7_worthOf (l : Launch) (θ : Th) (a0 : Nat) (a1 : Int32) (m : Mm) : Crt l θ yX7_worthOf M_X7_worthOf cvL [.ref a0, .int a1] m (F_X7_worthOf a0 a1 m) := by
  refine crt_of 0 (by decide) rfl rfl (Nat.le_of_ble_eq_true rfl) (fun Z hμ => ?_)
  unfold F_X7_worthOf
  show GG Z _ _ 0 [some (.ref a0), some (.int a1)] [] m _
  refine g_aload_n (i := 0) dX7_worthOf_0 rfl rfl ?_
  refine g_getR (k := 16) cl_X7 (by decide) rfl q_259 dX7_worthOf_1 ?_
  intro q1
  refine g_iload_n (i := 1) dX7_worthOf_4 rfl rfl ?_
  refine g_iaload dX7_worthOf_5 ?_
  refine g_i2l dX7_worthOf_6 ?_
  refine g_lconst (v := (1 : Int64)) dX7_worthOf_7 rfl ?_
  refine g_ladd dX7_worthOf_8 ?_
  refine g_aload_n (i := 0) dX7_worthOf_9 rfl rfl ?_
  refine g_getR (k := 15) cl_X7 (by decide) rfl q_257 dX7_worthOf_10 ?_
  intro q2
  refine g_iload_n (i := 1) dX7_worthOf_13 rfl rfl ?_
  refine g_iaload dX7_worthOf_14 ?_
  refine g_i2l dX7_worthOf_15 ?_
  refine g_lconst (v := (1 : Int64)) dX7_worthOf_16 rfl ?_
  refine g_ladd dX7_worthOf_17 ?_
  refine g_lmul dX7_worthOf_18 ?_
  exact g_lreturn rfl dX7_worthOf_19
set_option maxRecDepth 100000 in
set_option maxHeartbeats 4000000 in
theorem crt_X7_deliver (l : Launch) (θ : Th) (a0 : Nat) (a1 : Int32) (a2 : Int32) (m : Mm) : Crt l θ yX7_deliver M_X7_deliver cvV [.ref a0, .int a1, .int a2] m (F_X7_deliver a0 a1 a2 m) := by
  refine crt_of 2 (by decide) rfl rfl (Nat.le_of_ble_eq_true rfl) (fun Z hμ => ?_)
  unfold F_X7_deliver
  show GG Z _ _ 0 [some (.ref a0), some (.int a1), some (.int a2), none, none] [] m _
  refine g_iconst (v := (1 : Int32)) dX7_deliver_0 ki_1 ?_
  refine g_iload_n (i := 2) dX7_deliver_1 rfl rfl ?_
  refine g_ishl dX7_deliver_2 ?_
  refine g_istore_n (i := 3) dX7_deliver_3 rfl (show 3 < 5 by decide) ?_
  intro x1
  refine g_aload_n (i := 0) dX7_deliver_4 rfl rfl ?_
  refine g_getR (k := 9) cl_X7 (by decide) rfl q_245 dX7_deliver_5 ?_
  intro q2
  refine g_iload_n (i := 1) dX7_deliver_8 rfl rfl ?_
  refine g_dup2 dX7_deliver_9 rfl rfl ?_
  refine g_iaload dX7_deliver_10 ?_
  refine g_iload_n (i := 3) dX7_deliver_11 rfl rfl ?_
  refine g_ior dX7_deliver_12 ?_
  refine g_iastore dX7_deliver_13 ?_
  intro m3
  refine g_aload_n (i := 0) dX7_deliver_14 rfl rfl ?_
  refine g_getR (k := 10) cl_X7 (by decide) rfl q_247 dX7_deliver_15 ?_
  intro q4
  refine g_iload_n (i := 1) dX7_deliver_18 rfl rfl ?_
  refine g_dup2 dX7_deliver_19 rfl rfl ?_
  refine g_iaload dX7_deliver_20 ?_
  refine g_iload_n (i := 3) dX7_deliver_21 rfl rfl ?_
  refine g_ior dX7_deliver_22 ?_
  refine g_iastore dX7_deliver_23 ?_
  intro m5
  refine g_aload_n (i := 0) dX7_deliver_24 rfl rfl ?_
  refine g_getR (k := 11) cl_X7 (by decide) rfl q_249 dX7_deliver_25 ?_
  intro q6
  refine g_iload_n (i := 1) dX7_deliver_28 rfl rfl ?_
  refine g_bipush (v := (6 : Int32)) dX7_deliver_29 kb_6 ?_
  refine g_imul dX7_deliver_31 ?_
  refine g_iload_n (i := 1) dX7_deliver_32 rfl rfl ?_
  refine g_iadd dX7_deliver_33 ?_
  refine g_dup2 dX7_deliver_34 rfl rfl ?_
  refine g_iaload dX7_deliver_35 ?_
  refine g_iload_n (i := 3) dX7_deliver_36 rfl rfl ?_
  refine g_ior dX7_deliver_37 ?_
  refine g_iastore dX7_deliver_38 ?_
  intro m7
  refine g_aload_n (i := 0) dX7_deliver_39 rfl rfl ?_
  refine g_getR (k := 18) cl_X7 (by decide) rfl q_263 dX7_deliver_40 ?_
  intro q8
  refine g_iload_n (i := 1) dX7_deliver_43 rfl rfl ?_
  refine g_dup2 dX7_deliver_44 rfl rfl ?_
  refine g_laload dX7_deliver_45 ?_
  refine g_aload_n (i := 0) dX7_deliver_46 rfl rfl ?_
  refine g_iload_n (i := 2) dX7_deliver_47 rfl rfl ?_
  refine g_callVL cl_X7 (crt_X7_worthOf _ _ _ _ _) cw_X7_worthOf (by decide) rfl q_562 q_564 qs_6 rfl rfl dX7_deliver_48 ?_
  intro r9 m10
  refine g_ladd dX7_deliver_51 ?_
  refine g_lastore dX7_deliver_52 ?_
  intro m11
  refine g_aload_n (i := 0) dX7_deliver_53 rfl rfl ?_
  refine g_getR (k := 14) cl_X7 (by decide) rfl q_255 dX7_deliver_54 ?_
  intro q12
  refine g_iload_n (i := 1) dX7_deliver_57 rfl rfl ?_
  refine g_iaload dX7_deliver_58 ?_
  refine g_istore dX7_deliver_59 (show 4 < 5 by decide) ?_
  intro x13
  refine g_iload dX7_deliver_61 rfl ?_
  refine g_iflt (tgt := 101) dX7_deliver_63 (by decide) ?_ ?_
  · exact g_return rfl dX7_deliver_101
  · refine g_iload dX7_deliver_66 rfl ?_
    refine g_bipush (v := (64 : Int32)) dX7_deliver_68 kb_64 ?_
    refine g_icmpge (tgt := 101) dX7_deliver_70 (by decide) ?_ ?_
    · exact g_return rfl dX7_deliver_101
    · refine g_aload_n (i := 0) dX7_deliver_73 rfl rfl ?_
      refine g_getR (k := 19) cl_X7 (by decide) rfl q_265 dX7_deliver_74 ?_
      intro q14
      refine g_iload_n (i := 1) dX7_deliver_77 rfl rfl ?_
      refine g_bipush (v := (64 : Int32)) dX7_deliver_78 kb_64 ?_
      refine g_imul dX7_deliver_80 ?_
      refine g_iload dX7_deliver_81 rfl ?_
      refine g_iadd dX7_deliver_83 ?_
      refine g_aload_n (i := 0) dX7_deliver_84 rfl rfl ?_
      refine g_getR (k := 18) cl_X7 (by decide) rfl q_263 dX7_deliver_85 ?_
      intro q15
      refine g_iload_n (i := 1) dX7_deliver_88 rfl rfl ?_
      refine g_laload dX7_deliver_89 ?_
      refine g_lastore dX7_deliver_90 ?_
      intro m16
      refine g_aload_n (i := 0) dX7_deliver_91 rfl rfl ?_
      refine g_getR (k := 14) cl_X7 (by decide) rfl q_255 dX7_deliver_92 ?_
      intro q17
      refine g_iload_n (i := 1) dX7_deliver_95 rfl rfl ?_
      refine g_iload dX7_deliver_96 rfl ?_
      refine g_iconst (v := (1 : Int32)) dX7_deliver_98 ki_1 ?_
      refine g_iadd dX7_deliver_99 ?_
      refine g_iastore dX7_deliver_100 ?_
      intro m18
      exact g_return rfl dX7_deliver_101
set_option maxRecDepth 100000 in
set_option maxHeartbeats 4000000 in
theorem c_L_X7_flush_41 {Z : Zx}  {K71 : Nat → Int32 → Int32 → Int32 → Mm → Option (Unit × Mm)} (hK71 : ∀ (v0 : Nat) (v1 : Int32) (v2 : Int32) (v3 : Int32) (m : Mm), GG Z M_X7_flush (PsN Z cvV) 71 [some (.ref v0), some (.int v1), some (.int v2), some (.int v3), none, none] [] m (K71 v0 v1 v2 v3 m)) : ∀ (n : Nat) (v0 : Nat) (v1 : Int32) (v2 : Int32) (v3 : Int32) (v4 : Int32) (v5 : Int32) (m : Mm), GG Z M_X7_flush (PsN Z cvV) 41 [some (.ref v0), some (.int v1), some (.int v2), some (.int v3), some (.int v4), some (.int v5)] [] m (L_X7_flush_41 K71 n v0 v1 v2 v3 v4 v5 m) := by
  intro n
  induction n with
  | zero => intro v0 v1 v2 v3 v4 v5 m; exact g_no
  | succ n ih =>
    intro v0 v1 v2 v3 v4 v5 m
    unfold L_X7_flush_41
    refine g_iload dX7_flush_41 rfl ?_
    refine g_bipush (v := (30 : Int32)) dX7_flush_43 kb_30 ?_
    refine g_icmpge (tgt := 71) dX7_flush_45 (by decide) ?_ ?_
    · exact g_msk [true, true, true, true, false, false] (hK71 _ _ _ _ _)
    · refine g_iload dX7_flush_48 rfl ?_
      refine g_iload dX7_flush_50 rfl ?_
      refine g_ishr dX7_flush_52 ?_
      refine g_iconst (v := (1 : Int32)) dX7_flush_53 ki_1 ?_
      refine g_iand dX7_flush_54 ?_
      refine g_jn (fun J65 => ∀ (v0 : Nat) (v1 : Int32) (v2 : Int32) (v3 : Int32) (v4 : Int32) (v5 : Int32) (m : Mm), GG Z M_X7_flush (PsN Z cvV) 65 [some (.ref v0), some (.int v1), some (.int v2), some (.int v3), some (.int v4), some (.int v5)] [] m (J65 v0 v1 v2 v3 v4 v5 m)) ?_ ?_
      · intro v0 v1 v2 v3 v4 v5 m
        refine g_iinc dX7_flush_65 rfl ki_1 (show 5 < 6 by decide) ?_
        intro x9
        refine g_goto (tgt := 41) dX7_flush_68 (by decide) ?_
        exact g_msk [true, true, true, true, true, true] (ih _ _ _ _ _ _ _)
      · intro J65 hJ65
        refine g_ifeq (tgt := 65) dX7_flush_55 (by decide) ?_ ?_
        · exact g_msk [true, true, true, true, true, true] (hJ65 _ _ _ _ _ _ _)
        · refine g_aload_n (i := 0) dX7_flush_58 rfl rfl ?_
          refine g_iload_n (i := 3) dX7_flush_59 rfl rfl ?_
          refine g_iload dX7_flush_60 rfl ?_
          refine g_callVV cl_X7 (crt_X7_deliver _ _ _ _ _ _) cw_X7_deliver (by decide) rfl q_976 q_978 qs_28 rfl rfl dX7_flush_62 ?_
          intro r10 m11
          exact g_msk [true, true, true, true, true, true] (hJ65 _ _ _ _ _ _ _)
set_option maxRecDepth 100000 in
set_option maxHeartbeats 4000000 in
theorem c_L_X7_flush_8 {Z : Zx}    : ∀ (n : Nat) (v0 : Nat) (v1 : Int32) (v2 : Int32) (v3 : Int32) (m : Mm), GG Z M_X7_flush (PsN Z cvV) 8 [some (.ref v0), some (.int v1), some (.int v2), some (.int v3), none, none] [] m (L_X7_flush_8 n v0 v1 v2 v3 m) := by
  intro n
  induction n with
  | zero => intro v0 v1 v2 v3 m; exact g_no
  | succ n ih =>
    intro v0 v1 v2 v3 m
    unfold L_X7_flush_8
    refine g_iload_n (i := 3) dX7_flush_8 rfl rfl ?_
    refine g_bipush (v := (6 : Int32)) dX7_flush_9 kb_6 ?_
    refine g_icmpge (tgt := 77) dX7_flush_11 (by decide) ?_ ?_
    · exact g_return rfl dX7_flush_77
    · refine g_iload_n (i := 1) dX7_flush_14 rfl rfl ?_
      refine g_iload_n (i := 3) dX7_flush_15 rfl rfl ?_
      refine g_callSNI (crt_X11_has _ _ _ _ _) cw_X11_has (by decide) rfl q_359 q_360 rfl rfl dX7_flush_16 ?_
      intro r5 m6
      refine g_jn (fun J36 => ∀ (v0 : Nat) (v1 : Int32) (v2 : Int32) (v3 : Int32) (s0 : Int32) (m : Mm), GG Z M_X7_flush (PsN Z cvV) 36 [some (.ref v0), some (.int v1), some (.int v2), some (.int v3), none, none] [.int s0] m (J36 v0 v1 v2 v3 s0 m)) ?_ ?_
      · intro v0 v1 v2 v3 s0 m
        refine g_istore dX7_flush_36 (show 4 < 6 by decide) ?_
        intro x7
        refine g_iconst (v := (0 : Int32)) dX7_flush_38 ki_0 ?_
        refine g_istore dX7_flush_39 (show 5 < 6 by decide) ?_
        intro x8
        refine g_msk [true, true, true, true, true, true] (c_L_X7_flush_41 ?_ NF _ _ _ _ _ _ _)
        intro v0 v1 v2 v3 m
        refine g_iinc dX7_flush_71 rfl ki_1 (show 3 < 6 by decide) ?_
        intro x12
        refine g_goto (tgt := 8) dX7_flush_74 (by decide) ?_
        exact g_msk [true, true, true, true, false, false] (ih _ _ _ _ _)
      · intro J36 hJ36
        refine g_ifeq (tgt := 35) dX7_flush_19 (by decide) ?_ ?_
        · refine g_iconst (v := (0 : Int32)) dX7_flush_35 ki_0 ?_
          exact g_msk [true, true, true, true, false, false] (hJ36 _ _ _ _ _ _)
        · refine g_iload_n (i := 2) dX7_flush_22 rfl rfl ?_
          refine g_aload_n (i := 0) dX7_flush_23 rfl rfl ?_
          refine g_getR (k := 9) cl_X7 (by decide) rfl q_245 dX7_flush_24 ?_
          intro q13
          refine g_iload_n (i := 3) dX7_flush_27 rfl rfl ?_
          refine g_iaload dX7_flush_28 ?_
          refine g_iconst (v := (-1 : Int32)) dX7_flush_29 ki_m1 ?_
          refine g_ixor dX7_flush_30 ?_
          refine g_iand dX7_flush_31 ?_
          refine g_goto (tgt := 36) dX7_flush_32 (by decide) ?_
          exact g_msk [true, true, true, true, false, false] (hJ36 _ _ _ _ _ _)
set_option maxRecDepth 100000 in
set_option maxHeartbeats 4000000 in
theorem crt_X7_flush (l : Launch) (θ : Th) (a0 : Nat) (a1 : Int32) (m : Mm) : Crt l θ yX7_flush M_X7_flush cvV [.ref a0, .int a1] m (F_X7_flush a0 a1 m) := by
  refine crt_of 4 (by decide) rfl rfl (Nat.le_of_ble_eq_true rfl) (fun Z hμ => ?_)
  unfold F_X7_flush
  show GG Z _ _ 0 [some (.ref a0), some (.int a1), none, none, none, none] [] m _
  refine g_aload_n (i := 0) dX7_flush_0 rfl rfl ?_
  refine g_iload_n (i := 1) dX7_flush_1 rfl rfl ?_
  refine g_callVI cl_X7 (crt_X7_keptBy _ _ _ _ _) cw_X7_keptBy (by decide) rfl q_558 q_560 qs_5 rfl rfl dX7_flush_2 ?_
  intro r1 m2
  refine g_istore_n (i := 2) dX7_flush_5 rfl (show 2 < 6 by decide) ?_
  intro x3
  refine g_iconst (v := (0 : Int32)) dX7_flush_6 ki_0 ?_
  refine g_istore_n (i := 3) dX7_flush_7 rfl (show 3 < 6 by decide) ?_
  intro x4
  exact g_msk [true, true, true, true, false, false] (c_L_X7_flush_8 NF _ _ _ _ _)
set_option maxRecDepth 100000 in
set_option maxHeartbeats 4000000 in
theorem crt_J6_numberOfTrailingZeros_0f7a4 (l : Launch) (θ : Th) (a0 : Int32) (m : Mm) : Crt l θ yJ6_numberOfTrailingZeros_0f7a4 M_J6_numberOfTrailingZeros_0f7a4 cvI [.int a0] m (F_J6_numberOfTrailingZeros_0f7a4 a0 m) := by
  refine crt_of 1 (by decide) rfl rfl (Nat.le_of_ble_eq_true rfl) (fun Z hμ => ?_)
  unfold F_J6_numberOfTrailingZeros_0f7a4
  show GG Z _ _ 0 [some (.int a0), none] [] m _
  refine g_iload_n (i := 0) dJ6_numberOfTrailingZeros_0f7a4_0 rfl rfl ?_
  refine g_iconst (v := (-1 : Int32)) dJ6_numberOfTrailingZeros_0f7a4_1 ki_m1 ?_
  refine g_ixor dJ6_numberOfTrailingZeros_0f7a4_2 ?_
  refine g_iload_n (i := 0) dJ6_numberOfTrailingZeros_0f7a4_3 rfl rfl ?_
  refine g_iconst (v := (1 : Int32)) dJ6_numberOfTrailingZeros_0f7a4_4 ki_1 ?_
  refine g_isub dJ6_numberOfTrailingZeros_0f7a4_5 ?_
  refine g_iand dJ6_numberOfTrailingZeros_0f7a4_6 ?_
  refine g_istore_n (i := 0) dJ6_numberOfTrailingZeros_0f7a4_7 rfl (show 0 < 2 by decide) ?_
  intro x1
  refine g_iload_n (i := 0) dJ6_numberOfTrailingZeros_0f7a4_8 rfl rfl ?_
  refine g_ifgt (tgt := 17) dJ6_numberOfTrailingZeros_0f7a4_9 (by decide) ?_ ?_
  · refine g_iconst (v := (1 : Int32)) dJ6_numberOfTrailingZeros_0f7a4_17 ki_1 ?_
    refine g_istore_n (i := 1) dJ6_numberOfTrailingZeros_0f7a4_18 rfl (show 1 < 2 by decide) ?_
    intro x2
    refine g_iload_n (i := 0) dJ6_numberOfTrailingZeros_0f7a4_19 rfl rfl ?_
    refine g_ldcw (v := (65536 : Int32)) dJ6_numberOfTrailingZeros_0f7a4_20 q_1035 ?_
    refine g_jn (fun J34 => ∀ (v0 : Int32) (v1 : Int32) (m : Mm), GG Z M_J6_numberOfTrailingZeros_0f7a4 (PsN Z cvI) 34 [some (.int v0), some (.int v1)] [] m (J34 v0 v1 m)) ?_ ?_
    · intro v0 v1 m
      refine g_iload_n (i := 0) dJ6_numberOfTrailingZeros_0f7a4_34 rfl rfl ?_
      refine g_sipush (v := (256 : Int32)) dJ6_numberOfTrailingZeros_0f7a4_35 ks_256 ?_
      refine g_jn (fun J49 => ∀ (v0 : Int32) (v1 : Int32) (m : Mm), GG Z M_J6_numberOfTrailingZeros_0f7a4 (PsN Z cvI) 49 [some (.int v0), some (.int v1)] [] m (J49 v0 v1 m)) ?_ ?_
      · intro v0 v1 m
        refine g_iload_n (i := 0) dJ6_numberOfTrailingZeros_0f7a4_49 rfl rfl ?_
        refine g_bipush (v := (16 : Int32)) dJ6_numberOfTrailingZeros_0f7a4_50 kb_16 ?_
        refine g_jn (fun J62 => ∀ (v0 : Int32) (v1 : Int32) (m : Mm), GG Z M_J6_numberOfTrailingZeros_0f7a4 (PsN Z cvI) 62 [some (.int v0), some (.int v1)] [] m (J62 v0 v1 m)) ?_ ?_
        · intro v0 v1 m
          refine g_iload_n (i := 0) dJ6_numberOfTrailingZeros_0f7a4_62 rfl rfl ?_
          refine g_iconst (v := (4 : Int32)) dJ6_numberOfTrailingZeros_0f7a4_63 ki_4 ?_
          refine g_jn (fun J74 => ∀ (v0 : Int32) (v1 : Int32) (m : Mm), GG Z M_J6_numberOfTrailingZeros_0f7a4 (PsN Z cvI) 74 [some (.int v0), some (.int v1)] [] m (J74 v0 v1 m)) ?_ ?_
          · intro v0 v1 m
            refine g_iload_n (i := 1) dJ6_numberOfTrailingZeros_0f7a4_74 rfl rfl ?_
            refine g_iload_n (i := 0) dJ6_numberOfTrailingZeros_0f7a4_75 rfl rfl ?_
            refine g_iconst (v := (1 : Int32)) dJ6_numberOfTrailingZeros_0f7a4_76 ki_1 ?_
            refine g_iushr dJ6_numberOfTrailingZeros_0f7a4_77 ?_
            refine g_iadd dJ6_numberOfTrailingZeros_0f7a4_78 ?_
            exact g_ireturn rfl dJ6_numberOfTrailingZeros_0f7a4_79
          · intro J74 hJ74
            refine g_icmple (tgt := 74) dJ6_numberOfTrailingZeros_0f7a4_64 (by decide) ?_ ?_
            · exact g_msk [true, true] (hJ74 _ _ _)
            · refine g_iinc dJ6_numberOfTrailingZeros_0f7a4_67 rfl ki_2 (show 1 < 2 by decide) ?_
              intro x3
              refine g_iload_n (i := 0) dJ6_numberOfTrailingZeros_0f7a4_70 rfl rfl ?_
              refine g_iconst (v := (2 : Int32)) dJ6_numberOfTrailingZeros_0f7a4_71 ki_2 ?_
              refine g_iushr dJ6_numberOfTrailingZeros_0f7a4_72 ?_
              refine g_istore_n (i := 0) dJ6_numberOfTrailingZeros_0f7a4_73 rfl (show 0 < 2 by decide) ?_
              intro x4
              exact g_msk [true, true] (hJ74 _ _ _)
        · intro J62 hJ62
          refine g_icmple (tgt := 62) dJ6_numberOfTrailingZeros_0f7a4_52 (by decide) ?_ ?_
          · exact g_msk [true, true] (hJ62 _ _ _)
          · refine g_iinc dJ6_numberOfTrailingZeros_0f7a4_55 rfl ki_4 (show 1 < 2 by decide) ?_
            intro x5
            refine g_iload_n (i := 0) dJ6_numberOfTrailingZeros_0f7a4_58 rfl rfl ?_
            refine g_iconst (v := (4 : Int32)) dJ6_numberOfTrailingZeros_0f7a4_59 ki_4 ?_
            refine g_iushr dJ6_numberOfTrailingZeros_0f7a4_60 ?_
            refine g_istore_n (i := 0) dJ6_numberOfTrailingZeros_0f7a4_61 rfl (show 0 < 2 by decide) ?_
            intro x6
            exact g_msk [true, true] (hJ62 _ _ _)
      · intro J49 hJ49
        refine g_icmple (tgt := 49) dJ6_numberOfTrailingZeros_0f7a4_38 (by decide) ?_ ?_
        · exact g_msk [true, true] (hJ49 _ _ _)
        · refine g_iinc dJ6_numberOfTrailingZeros_0f7a4_41 rfl ki_8 (show 1 < 2 by decide) ?_
          intro x7
          refine g_iload_n (i := 0) dJ6_numberOfTrailingZeros_0f7a4_44 rfl rfl ?_
          refine g_bipush (v := (8 : Int32)) dJ6_numberOfTrailingZeros_0f7a4_45 kb_8 ?_
          refine g_iushr dJ6_numberOfTrailingZeros_0f7a4_47 ?_
          refine g_istore_n (i := 0) dJ6_numberOfTrailingZeros_0f7a4_48 rfl (show 0 < 2 by decide) ?_
          intro x8
          exact g_msk [true, true] (hJ49 _ _ _)
    · intro J34 hJ34
      refine g_icmple (tgt := 34) dJ6_numberOfTrailingZeros_0f7a4_23 (by decide) ?_ ?_
      · exact g_msk [true, true] (hJ34 _ _ _)
      · refine g_iinc dJ6_numberOfTrailingZeros_0f7a4_26 rfl ki_16 (show 1 < 2 by decide) ?_
        intro x9
        refine g_iload_n (i := 0) dJ6_numberOfTrailingZeros_0f7a4_29 rfl rfl ?_
        refine g_bipush (v := (16 : Int32)) dJ6_numberOfTrailingZeros_0f7a4_30 kb_16 ?_
        refine g_iushr dJ6_numberOfTrailingZeros_0f7a4_32 ?_
        refine g_istore_n (i := 0) dJ6_numberOfTrailingZeros_0f7a4_33 rfl (show 0 < 2 by decide) ?_
        intro x10
        exact g_msk [true, true] (hJ34 _ _ _)
  · refine g_iload_n (i := 0) dJ6_numberOfTrailingZeros_0f7a4_12 rfl rfl ?_
    refine g_bipush (v := (32 : Int32)) dJ6_numberOfTrailingZeros_0f7a4_13 kb_32 ?_
    refine g_iand dJ6_numberOfTrailingZeros_0f7a4_15 ?_
    exact g_ireturn rfl dJ6_numberOfTrailingZeros_0f7a4_16
set_option maxRecDepth 100000 in
set_option maxHeartbeats 4000000 in
theorem c_L_X7_dropMessages_7 {Z : Zx}  {K33 : Nat → Mm → Option (Unit × Mm)} (hK33 : ∀ (v0 : Nat) (m : Mm), GG Z M_X7_dropMessages (PsN Z cvV) 33 [some (.ref v0), none] [] m (K33 v0 m)) : ∀ (n : Nat) (v0 : Nat) (v1 : Int32) (m : Mm), GG Z M_X7_dropMessages (PsN Z cvV) 7 [some (.ref v0), some (.int v1)] [] m (L_X7_dropMessages_7 K33 n v0 v1 m) := by
  intro n
  induction n with
  | zero => intro v0 v1 m; exact g_no
  | succ n ih =>
    intro v0 v1 m
    unfold L_X7_dropMessages_7
    refine g_iload_n (i := 1) dX7_dropMessages_7 rfl rfl ?_
    refine g_bipush (v := (6 : Int32)) dX7_dropMessages_8 kb_6 ?_
    refine g_icmpge (tgt := 33) dX7_dropMessages_10 (by decide) ?_ ?_
    · exact g_msk [true, false] (hK33 _ _)
    · refine g_aload_n (i := 0) dX7_dropMessages_13 rfl rfl ?_
      refine g_getR (k := 9) cl_X7 (by decide) rfl q_245 dX7_dropMessages_14 ?_
      intro q3
      refine g_iload_n (i := 1) dX7_dropMessages_17 rfl rfl ?_
      refine g_iconst (v := (0 : Int32)) dX7_dropMessages_18 ki_0 ?_
      refine g_iastore dX7_dropMessages_19 ?_
      intro m4
      refine g_aload_n (i := 0) dX7_dropMessages_20 rfl rfl ?_
      refine g_getR (k := 10) cl_X7 (by decide) rfl q_247 dX7_dropMessages_21 ?_
      intro q5
      refine g_iload_n (i := 1) dX7_dropMessages_24 rfl rfl ?_
      refine g_iconst (v := (0 : Int32)) dX7_dropMessages_25 ki_0 ?_
      refine g_iastore dX7_dropMessages_26 ?_
      intro m6
      refine g_iinc dX7_dropMessages_27 rfl ki_1 (show 1 < 2 by decide) ?_
      intro x7
      refine g_goto (tgt := 7) dX7_dropMessages_30 (by decide) ?_
      exact g_msk [true, true] (ih _ _ _)
set_option maxRecDepth 100000 in
set_option maxHeartbeats 4000000 in
theorem c_L_X7_dropMessages_35 {Z : Zx}  {K57 : Nat → Mm → Option (Unit × Mm)} (hK57 : ∀ (v0 : Nat) (m : Mm), GG Z M_X7_dropMessages (PsN Z cvV) 57 [some (.ref v0), none] [] m (K57 v0 m)) : ∀ (n : Nat) (v0 : Nat) (v1 : Int32) (m : Mm), GG Z M_X7_dropMessages (PsN Z cvV) 35 [some (.ref v0), some (.int v1)] [] m (L_X7_dropMessages_35 K57 n v0 v1 m) := by
  intro n
  induction n with
  | zero => intro v0 v1 m; exact g_no
  | succ n ih =>
    intro v0 v1 m
    unfold L_X7_dropMessages_35
    refine g_iload_n (i := 1) dX7_dropMessages_35 rfl rfl ?_
    refine g_aload_n (i := 0) dX7_dropMessages_36 rfl rfl ?_
    refine g_getR (k := 11) cl_X7 (by decide) rfl q_249 dX7_dropMessages_37 ?_
    intro q9
    refine g_alen100 dX7_dropMessages_40 ?_
    refine g_icmpge (tgt := 57) dX7_dropMessages_41 (by decide) ?_ ?_
    · exact g_msk [true, false] (hK57 _ _)
    · refine g_aload_n (i := 0) dX7_dropMessages_44 rfl rfl ?_
      refine g_getR (k := 11) cl_X7 (by decide) rfl q_249 dX7_dropMessages_45 ?_
      intro q10
      refine g_iload_n (i := 1) dX7_dropMessages_48 rfl rfl ?_
      refine g_iconst (v := (0 : Int32)) dX7_dropMessages_49 ki_0 ?_
      refine g_iastore dX7_dropMessages_50 ?_
      intro m11
      refine g_iinc dX7_dropMessages_51 rfl ki_1 (show 1 < 2 by decide) ?_
      intro x12
      refine g_goto (tgt := 35) dX7_dropMessages_54 (by decide) ?_
      exact g_msk [true, true] (ih _ _ _)
set_option maxRecDepth 100000 in
set_option maxHeartbeats 4000000 in
theorem c_L_X7_dropMessages_59 {Z : Zx}    : ∀ (n : Nat) (v0 : Nat) (v1 : Int32) (m : Mm), GG Z M_X7_dropMessages (PsN Z cvV) 59 [some (.ref v0), some (.int v1)] [] m (L_X7_dropMessages_59 n v0 v1 m) := by
  intro n
  induction n with
  | zero => intro v0 v1 m; exact g_no
  | succ n ih =>
    intro v0 v1 m
    unfold L_X7_dropMessages_59
    refine g_iload_n (i := 1) dX7_dropMessages_59 rfl rfl ?_
    refine g_bipush (v := (30 : Int32)) dX7_dropMessages_60 kb_30 ?_
    refine g_icmpge (tgt := 78) dX7_dropMessages_62 (by decide) ?_ ?_
    · exact g_return rfl dX7_dropMessages_78
    · refine g_aload_n (i := 0) dX7_dropMessages_65 rfl rfl ?_
      refine g_getR (k := 17) cl_X7 (by decide) rfl q_261 dX7_dropMessages_66 ?_
      intro q14
      refine g_iload_n (i := 1) dX7_dropMessages_69 rfl rfl ?_
      refine g_iconst (v := (0 : Int32)) dX7_dropMessages_70 ki_0 ?_
      refine g_iastore dX7_dropMessages_71 ?_
      intro m15
      refine g_iinc dX7_dropMessages_72 rfl ki_1 (show 1 < 2 by decide) ?_
      intro x16
      refine g_goto (tgt := 59) dX7_dropMessages_75 (by decide) ?_
      exact g_msk [true, true] (ih _ _ _)
set_option maxRecDepth 100000 in
set_option maxHeartbeats 4000000 in
theorem crt_X7_dropMessages (l : Launch) (θ : Th) (a0 : Nat) (m : Mm) : Crt l θ yX7_dropMessages M_X7_dropMessages cvV [.ref a0] m (F_X7_dropMessages a0 m) := by
  refine crt_of 1 (by decide) rfl rfl (Nat.le_of_ble_eq_true rfl) (fun Z hμ => ?_)
  unfold F_X7_dropMessages
  show GG Z _ _ 0 [some (.ref a0), none] [] m _
  refine g_aload_n (i := 0) dX7_dropMessages_0 rfl rfl ?_
  refine g_iconst (v := (0 : Int32)) dX7_dropMessages_1 ki_0 ?_
  refine g_putI (k := 7) cl_X7 (by decide) rfl rfl q_240 dX7_dropMessages_2 ?_
  intro m1
  refine g_iconst (v := (0 : Int32)) dX7_dropMessages_5 ki_0 ?_
  refine g_istore_n (i := 1) dX7_dropMessages_6 rfl (show 1 < 2 by decide) ?_
  intro x2
  refine g_msk [true, true] (c_L_X7_dropMessages_7 ?_ NF _ _ _)
  intro v0 m
  refine g_iconst (v := (0 : Int32)) dX7_dropMessages_33 ki_0 ?_
  refine g_istore_n (i := 1) dX7_dropMessages_34 rfl (show 1 < 2 by decide) ?_
  intro x8
  refine g_msk [true, true] (c_L_X7_dropMessages_35 ?_ NF _ _ _)
  intro v0 m
  refine g_iconst (v := (0 : Int32)) dX7_dropMessages_57 ki_0 ?_
  refine g_istore_n (i := 1) dX7_dropMessages_58 rfl (show 1 < 2 by decide) ?_
  intro x13
  exact g_msk [true, true] (c_L_X7_dropMessages_59 NF _ _ _)
set_option maxRecDepth 100000 in
set_option maxHeartbeats 4000000 in
theorem c_L_X7_changeView_30 {Z : Zx}  {K130 : Nat → Int32 → Mm → Option (Unit × Mm)} (hK130 : ∀ (v0 : Nat) (v2 : Int32) (m : Mm), GG Z M_X7_changeView (PsN Z cvV) 130 [some (.ref v0), none, some (.int v2), none, none] [] m (K130 v0 v2 m)) : ∀ (n : Nat) (v0 : Nat) (v2 : Int32) (v3 : Int32) (v4 : Int32) (m : Mm), GG Z M_X7_changeView (PsN Z cvV) 30 [some (.ref v0), none, some (.int v2), some (.int v3), some (.int v4)] [] m (L_X7_changeView_30 K130 n v0 v2 v3 v4 m) := by
  intro n
  induction n with
  | zero => intro v0 v2 v3 v4 m; exact g_no
  | succ n ih =>
    intro v0 v2 v3 v4 m
    unfold L_X7_changeView_30
    refine g_iload dX7_changeView_30 rfl ?_
    refine g_bipush (v := (6 : Int32)) dX7_changeView_32 kb_6 ?_
    refine g_icmpge (tgt := 130) dX7_changeView_34 (by decide) ?_ ?_
    · exact g_msk [true, false, true, false, false] (hK130 _ _ _)
    · refine g_aload_n (i := 0) dX7_changeView_37 rfl rfl ?_
      refine g_getI (k := 1) cl_X7 (by decide) rfl q_220 dX7_changeView_38 ?_
      refine g_iload dX7_changeView_41 rfl ?_
      refine g_callSNI (crt_X11_has _ _ _ _ _) cw_X11_has (by decide) rfl q_359 q_360 rfl rfl dX7_changeView_43 ?_
      intro r9 m10
      refine g_jn (fun J71 => ∀ (v0 : Nat) (v2 : Int32) (v3 : Int32) (v4 : Int32) (m : Mm), GG Z M_X7_changeView (PsN Z cvV) 71 [some (.ref v0), none, some (.int v2), some (.int v3), some (.int v4)] [] m (J71 v0 v2 v3 v4 m)) ?_ ?_
      · intro v0 v2 v3 v4 m
        refine g_iload_n (i := 2) dX7_changeView_71 rfl rfl ?_
        refine g_iload dX7_changeView_72 rfl ?_
        refine g_callSNI (crt_X11_has _ _ _ _ _) cw_X11_has (by decide) rfl q_359 q_360 rfl rfl dX7_changeView_74 ?_
        intro r11 m12
        refine g_jn (fun J124 => ∀ (v0 : Nat) (v2 : Int32) (v3 : Int32) (v4 : Int32) (m : Mm), GG Z M_X7_changeView (PsN Z cvV) 124 [some (.ref v0), none, some (.int v2), some (.int v3), some (.int v4)] [] m (J124 v0 v2 v3 v4 m)) ?_ ?_
        · intro v0 v2 v3 v4 m
          refine g_iinc dX7_changeView_124 rfl ki_1 (show 4 < 5 by decide) ?_
          intro x13
          refine g_goto (tgt := 30) dX7_changeView_127 (by decide) ?_
          exact g_msk [true, false, true, true, true] (ih _ _ _ _ _)
        · intro J124 hJ124
          refine g_ifeq (tgt := 124) dX7_changeView_77 (by decide) ?_ ?_
          · exact g_msk [true, false, true, true, true] (hJ124 _ _ _ _ _)
          · refine g_iload_n (i := 3) dX7_changeView_80 rfl rfl ?_
            refine g_bipush (v := (6 : Int32)) dX7_changeView_81 kb_6 ?_
            refine g_icmpge (tgt := 124) dX7_changeView_83 (by decide) ?_ ?_
            · exact g_msk [true, false, true, true, true] (hJ124 _ _ _ _ _)
            · refine g_aload_n (i := 0) dX7_changeView_86 rfl rfl ?_
              refine g_getR (k := 18) cl_X7 (by decide) rfl q_263 dX7_changeView_87 ?_
              intro q14
              refine g_iload dX7_changeView_90 rfl ?_
              refine g_aload_n (i := 0) dX7_changeView_92 rfl rfl ?_
              refine g_getR (k := 18) cl_X7 (by decide) rfl q_263 dX7_changeView_93 ?_
              intro q15
              refine g_iload_n (i := 3) dX7_changeView_96 rfl rfl ?_
              refine g_laload dX7_changeView_97 ?_
              refine g_lastore dX7_changeView_98 ?_
              intro m16
              refine g_aload_n (i := 0) dX7_changeView_99 rfl rfl ?_
              refine g_getR (k := 19) cl_X7 (by decide) rfl q_265 dX7_changeView_100 ?_
              intro q17
              refine g_iload dX7_changeView_103 rfl ?_
              refine g_bipush (v := (64 : Int32)) dX7_changeView_105 kb_64 ?_
              refine g_imul dX7_changeView_107 ?_
              refine g_aload_n (i := 0) dX7_changeView_108 rfl rfl ?_
              refine g_getR (k := 18) cl_X7 (by decide) rfl q_263 dX7_changeView_109 ?_
              intro q18
              refine g_iload dX7_changeView_112 rfl ?_
              refine g_laload dX7_changeView_114 ?_
              refine g_lastore dX7_changeView_115 ?_
              intro m19
              refine g_aload_n (i := 0) dX7_changeView_116 rfl rfl ?_
              refine g_getR (k := 14) cl_X7 (by decide) rfl q_255 dX7_changeView_117 ?_
              intro q20
              refine g_iload dX7_changeView_120 rfl ?_
              refine g_iconst (v := (1 : Int32)) dX7_changeView_122 ki_1 ?_
              refine g_iastore dX7_changeView_123 ?_
              intro m21
              exact g_msk [true, false, true, true, true] (hJ124 _ _ _ _ _)
      · intro J71 hJ71
        refine g_ifeq (tgt := 63) dX7_changeView_46 (by decide) ?_ ?_
        · refine g_aload_n (i := 0) dX7_changeView_63 rfl rfl ?_
          refine g_getR (k := 12) cl_X7 (by decide) rfl q_251 dX7_changeView_64 ?_
          intro q22
          refine g_iload dX7_changeView_67 rfl ?_
          refine g_iconst (v := (0 : Int32)) dX7_changeView_69 ki_0 ?_
          refine g_iastore dX7_changeView_70 ?_
          intro m23
          exact g_msk [true, false, true, true, true] (hJ71 _ _ _ _ _)
        · refine g_aload_n (i := 0) dX7_changeView_49 rfl rfl ?_
          refine g_getR (k := 8) cl_X7 (by decide) rfl q_242 dX7_changeView_50 ?_
          intro q24
          refine g_iload dX7_changeView_53 rfl ?_
          refine g_dup2 dX7_changeView_55 rfl rfl ?_
          refine g_iaload dX7_changeView_56 ?_
          refine g_iconst (v := (1 : Int32)) dX7_changeView_57 ki_1 ?_
          refine g_iadd dX7_changeView_58 ?_
          refine g_iastore dX7_changeView_59 ?_
          intro m25
          refine g_goto (tgt := 71) dX7_changeView_60 (by decide) ?_
          exact g_msk [true, false, true, true, true] (hJ71 _ _ _ _ _)
set_option maxRecDepth 100000 in
set_option maxHeartbeats 4000000 in
theorem crt_X7_changeView (l : Launch) (θ : Th) (a0 : Nat) (a1 : Int32) (a2 : Int32) (m : Mm) : Crt l θ yX7_changeView M_X7_changeView cvV [.ref a0, .int a1, .int a2] m (F_X7_changeView a0 a1 a2 m) := by
  refine crt_of 2 (by decide) rfl rfl (Nat.le_of_ble_eq_true rfl) (fun Z hμ => ?_)
  unfold F_X7_changeView
  show GG Z _ _ 0 [some (.ref a0), some (.int a1), some (.int a2), none, none] [] m _
  refine g_aload_n (i := 0) dX7_changeView_0 rfl rfl ?_
  refine g_iload_n (i := 1) dX7_changeView_1 rfl rfl ?_
  refine g_callVV cl_X7 (crt_X7_flush _ _ _ _ _) cw_X7_flush (by decide) rfl q_1028 q_1030 qs_29 rfl rfl dX7_changeView_2 ?_
  intro r1 m2
  refine g_iload_n (i := 1) dX7_changeView_5 rfl rfl ?_
  refine g_callSI (crt_J6_numberOfTrailingZeros_0f7a4 _ _ _ _) cw_J6_numberOfTrailingZeros_0f7a4 (by decide) rfl q_1032 q_1033 rfl rfl dX7_changeView_6 ?_
  intro r3 m4
  refine g_istore_n (i := 3) dX7_changeView_9 rfl (show 3 < 5 by decide) ?_
  intro x5
  refine g_aload_n (i := 0) dX7_changeView_10 rfl rfl ?_
  refine g_dup dX7_changeView_11 rfl ?_
  refine g_getI (k := 0) cl_X7 (by decide) rfl q_216 dX7_changeView_12 ?_
  refine g_iconst (v := (1 : Int32)) dX7_changeView_15 ki_1 ?_
  refine g_iadd dX7_changeView_16 ?_
  refine g_putI (k := 0) cl_X7 (by decide) rfl rfl q_216 dX7_changeView_17 ?_
  intro m6
  refine g_aload_n (i := 0) dX7_changeView_20 rfl rfl ?_
  refine g_iload_n (i := 1) dX7_changeView_21 rfl rfl ?_
  refine g_iload_n (i := 2) dX7_changeView_22 rfl rfl ?_
  refine g_ior dX7_changeView_23 ?_
  refine g_putI (k := 1) cl_X7 (by decide) rfl rfl q_220 dX7_changeView_24 ?_
  intro m7
  refine g_iconst (v := (0 : Int32)) dX7_changeView_27 ki_0 ?_
  refine g_istore dX7_changeView_28 (show 4 < 5 by decide) ?_
  intro x8
  refine g_msk [true, false, true, true, true] (c_L_X7_changeView_30 ?_ NF _ _ _ _ _)
  intro v0 v2 m
  refine g_aload_n (i := 0) dX7_changeView_130 rfl rfl ?_
  refine g_aload_n (i := 0) dX7_changeView_131 rfl rfl ?_
  refine g_getI (k := 1) cl_X7 (by decide) rfl q_220 dX7_changeView_132 ?_
  refine g_putI (k := 2) cl_X7 (by decide) rfl rfl q_224 dX7_changeView_135 ?_
  intro m26
  refine g_aload_n (i := 0) dX7_changeView_138 rfl rfl ?_
  refine g_dup dX7_changeView_139 rfl ?_
  refine g_getI (k := 5) cl_X7 (by decide) rfl q_233 dX7_changeView_140 ?_
  refine g_iload_n (i := 2) dX7_changeView_143 rfl rfl ?_
  refine g_iconst (v := (-1 : Int32)) dX7_changeView_144 ki_m1 ?_
  refine g_ixor dX7_changeView_145 ?_
  refine g_iand dX7_changeView_146 ?_
  refine g_putI (k := 5) cl_X7 (by decide) rfl rfl q_233 dX7_changeView_147 ?_
  intro m27
  refine g_aload_n (i := 0) dX7_changeView_150 rfl rfl ?_
  refine g_iconst (v := (0 : Int32)) dX7_changeView_151 ki_0 ?_
  refine g_putI (k := 4) cl_X7 (by decide) rfl rfl q_229 dX7_changeView_152 ?_
  intro m28
  refine g_aload_n (i := 0) dX7_changeView_155 rfl rfl ?_
  refine g_callVV cl_X7 (crt_X7_dropMessages _ _ _ _) cw_X7_dropMessages (by decide) rfl q_362 q_364 qs_0 rfl rfl dX7_changeView_156 ?_
  intro r29 m30
  exact g_return rfl dX7_changeView_159
set_option maxRecDepth 100000 in
set_option maxHeartbeats 4000000 in
theorem crt_X7_post (l : Launch) (θ : Th) (a0 : Nat) (a1 : Int32) (a2 : Int32) (a3 : Int32) (m : Mm) : Crt l θ yX7_post M_X7_post cvI [.ref a0, .int a1, .int a2, .int a3] m (F_X7_post a0 a1 a2 a3 m) := by
  refine crt_of 1 (by decide) rfl rfl (Nat.le_of_ble_eq_true rfl) (fun Z hμ => ?_)
  unfold F_X7_post
  show GG Z _ _ 0 [some (.ref a0), some (.int a1), some (.int a2), some (.int a3), none] [] m _
  refine g_aload_n (i := 0) dX7_post_0 rfl rfl ?_
  refine g_getI (k := 7) cl_X7 (by decide) rfl q_240 dX7_post_1 ?_
  refine g_istore dX7_post_4 (show 4 < 5 by decide) ?_
  intro x1
  refine g_iload dX7_post_6 rfl ?_
  refine g_iload_n (i := 3) dX7_post_8 rfl rfl ?_
  refine g_icmpge (tgt := 24) dX7_post_9 (by decide) ?_ ?_
  · refine g_iconst (v := (0 : Int32)) dX7_post_24 ki_0 ?_
    exact g_zreturnK rfl (by decide) dX7_post_25
  · refine g_iload dX7_post_12 rfl ?_
    refine g_iflt (tgt := 24) dX7_post_14 (by decide) ?_ ?_
    · refine g_iconst (v := (0 : Int32)) dX7_post_24 ki_0 ?_
      exact g_zreturnK rfl (by decide) dX7_post_25
    · refine g_iload dX7_post_17 rfl ?_
      refine g_bipush (v := (30 : Int32)) dX7_post_19 kb_30 ?_
      refine g_icmplt (tgt := 26) dX7_post_21 (by decide) ?_ ?_
      · refine g_aload_n (i := 0) dX7_post_26 rfl rfl ?_
        refine g_iload dX7_post_27 rfl ?_
        refine g_iconst (v := (1 : Int32)) dX7_post_29 ki_1 ?_
        refine g_iadd dX7_post_30 ?_
        refine g_putI (k := 7) cl_X7 (by decide) rfl rfl q_240 dX7_post_31 ?_
        intro m2
        refine g_aload_n (i := 0) dX7_post_34 rfl rfl ?_
        refine g_getR (k := 15) cl_X7 (by decide) rfl q_257 dX7_post_35 ?_
        intro q3
        refine g_iload dX7_post_38 rfl ?_
        refine g_iload_n (i := 1) dX7_post_40 rfl rfl ?_
        refine g_iastore dX7_post_41 ?_
        intro m4
        refine g_aload_n (i := 0) dX7_post_42 rfl rfl ?_
        refine g_getR (k := 16) cl_X7 (by decide) rfl q_259 dX7_post_43 ?_
        intro q5
        refine g_iload dX7_post_46 rfl ?_
        refine g_iload_n (i := 2) dX7_post_48 rfl rfl ?_
        refine g_iastore dX7_post_49 ?_
        intro m6
        refine g_aload_n (i := 0) dX7_post_50 rfl rfl ?_
        refine g_getR (k := 17) cl_X7 (by decide) rfl q_261 dX7_post_51 ?_
        intro q7
        refine g_iload dX7_post_54 rfl ?_
        refine g_aload_n (i := 0) dX7_post_56 rfl rfl ?_
        refine g_callVI cl_X7 (crt_X7_standing _ _ _ _) cw_X7_standing (by decide) rfl q_529 q_476 q_477 rfl rfl dX7_post_57 ?_
        intro r8 m9
        refine g_iconst (v := (1 : Int32)) dX7_post_60 ki_1 ?_
        refine g_iload_n (i := 1) dX7_post_61 rfl rfl ?_
        refine g_ishl dX7_post_62 ?_
        refine g_iconst (v := (-1 : Int32)) dX7_post_63 ki_m1 ?_
        refine g_ixor dX7_post_64 ?_
        refine g_iand dX7_post_65 ?_
        refine g_iastore dX7_post_66 ?_
        intro m10
        refine g_aload_n (i := 0) dX7_post_67 rfl rfl ?_
        refine g_iload_n (i := 1) dX7_post_68 rfl rfl ?_
        refine g_iload dX7_post_69 rfl ?_
        refine g_callVV cl_X7 (crt_X7_deliver _ _ _ _ _ _) cw_X7_deliver (by decide) rfl q_976 q_978 qs_28 rfl rfl dX7_post_71 ?_
        intro r11 m12
        refine g_iconst (v := (1 : Int32)) dX7_post_74 ki_1 ?_
        exact g_zreturnK rfl (by decide) dX7_post_75
      · refine g_iconst (v := (0 : Int32)) dX7_post_24 ki_0 ?_
        exact g_zreturnK rfl (by decide) dX7_post_25
set_option maxRecDepth 100000 in
set_option maxHeartbeats 4000000 in
theorem c_L_X7_sendHeld_10 {Z : Zx}  {K50 : Nat → Int32 → Int32 → Mm → Option (Unit × Mm)} (hK50 : ∀ (v0 : Nat) (v1 : Int32) (v2 : Int32) (m : Mm), GG Z M_X7_sendHeld (PsN Z cvV) 50 [some (.ref v0), some (.int v1), some (.int v2), none] [] m (K50 v0 v1 v2 m)) : ∀ (n : Nat) (v0 : Nat) (v1 : Int32) (v2 : Int32) (v3 : Int32) (m : Mm), GG Z M_X7_sendHeld (PsN Z cvV) 10 [some (.ref v0), some (.int v1), some (.int v2), some (.int v3)] [] m (L_X7_sendHeld_10 K50 n v0 v1 v2 v3 m) := by
  intro n
  induction n with
  | zero => intro v0 v1 v2 v3 m; exact g_no
  | succ n ih =>
    intro v0 v1 v2 v3 m
    unfold L_X7_sendHeld_10
    refine g_iload_n (i := 3) dX7_sendHeld_10 rfl rfl ?_
    refine g_aload_n (i := 0) dX7_sendHeld_11 rfl rfl ?_
    refine g_getR (k := 12) cl_X7 (by decide) rfl q_251 dX7_sendHeld_12 ?_
    intro q3
    refine g_iload_n (i := 2) dX7_sendHeld_15 rfl rfl ?_
    refine g_iaload dX7_sendHeld_16 ?_
    refine g_icmpge (tgt := 50) dX7_sendHeld_17 (by decide) ?_ ?_
    · exact g_msk [true, true, true, false] (hK50 _ _ _ _)
    · refine g_iload_n (i := 3) dX7_sendHeld_20 rfl rfl ?_
      refine g_bipush (v := (8 : Int32)) dX7_sendHeld_21 kb_8 ?_
      refine g_icmpge (tgt := 50) dX7_sendHeld_23 (by decide) ?_ ?_
      · exact g_msk [true, true, true, false] (hK50 _ _ _ _)
      · refine g_aload_n (i := 0) dX7_sendHeld_26 rfl rfl ?_
        refine g_iload_n (i := 2) dX7_sendHeld_27 rfl rfl ?_
        refine g_aload_n (i := 0) dX7_sendHeld_28 rfl rfl ?_
        refine g_getR (k := 13) cl_X7 (by decide) rfl q_253 dX7_sendHeld_29 ?_
        intro q4
        refine g_iload_n (i := 2) dX7_sendHeld_32 rfl rfl ?_
        refine g_bipush (v := (8 : Int32)) dX7_sendHeld_33 kb_8 ?_
        refine g_imul dX7_sendHeld_35 ?_
        refine g_iload_n (i := 3) dX7_sendHeld_36 rfl rfl ?_
        refine g_iadd dX7_sendHeld_37 ?_
        refine g_iaload dX7_sendHeld_38 ?_
        refine g_iload_n (i := 1) dX7_sendHeld_39 rfl rfl ?_
        refine g_callVI cl_X7 (crt_X7_post _ _ _ _ _ _ _) cw_X7_post (by decide) rfl q_972 q_974 qs_27 rfl rfl dX7_sendHeld_40 ?_
        intro r5 m6
        refine g_pop dX7_sendHeld_43 rfl ?_
        refine g_iinc dX7_sendHeld_44 rfl ki_1 (show 3 < 4 by decide) ?_
        intro x7
        refine g_goto (tgt := 10) dX7_sendHeld_47 (by decide) ?_
        exact g_msk [true, true, true, true] (ih _ _ _ _ _)
set_option maxRecDepth 100000 in
set_option maxHeartbeats 4000000 in
theorem c_L_X7_sendHeld_2 {Z : Zx}    : ∀ (n : Nat) (v0 : Nat) (v1 : Int32) (v2 : Int32) (m : Mm), GG Z M_X7_sendHeld (PsN Z cvV) 2 [some (.ref v0), some (.int v1), some (.int v2), none] [] m (L_X7_sendHeld_2 n v0 v1 v2 m) := by
  intro n
  induction n with
  | zero => intro v0 v1 v2 m; exact g_no
  | succ n ih =>
    intro v0 v1 v2 m
    unfold L_X7_sendHeld_2
    refine g_iload_n (i := 2) dX7_sendHeld_2 rfl rfl ?_
    refine g_bipush (v := (6 : Int32)) dX7_sendHeld_3 kb_6 ?_
    refine g_icmpge (tgt := 63) dX7_sendHeld_5 (by decide) ?_ ?_
    · exact g_return rfl dX7_sendHeld_63
    · refine g_iconst (v := (0 : Int32)) dX7_sendHeld_8 ki_0 ?_
      refine g_istore_n (i := 3) dX7_sendHeld_9 rfl (show 3 < 4 by decide) ?_
      intro x2
      refine g_msk [true, true, true, true] (c_L_X7_sendHeld_10 ?_ NF _ _ _ _ _)
      intro v0 v1 v2 m
      refine g_aload_n (i := 0) dX7_sendHeld_50 rfl rfl ?_
      refine g_getR (k := 12) cl_X7 (by decide) rfl q_251 dX7_sendHeld_51 ?_
      intro q8
      refine g_iload_n (i := 2) dX7_sendHeld_54 rfl rfl ?_
      refine g_iconst (v := (0 : Int32)) dX7_sendHeld_55 ki_0 ?_
      refine g_iastore dX7_sendHeld_56 ?_
      intro m9
      refine g_iinc dX7_sendHeld_57 rfl ki_1 (show 2 < 4 by decide) ?_
      intro x10
      refine g_goto (tgt := 2) dX7_sendHeld_60 (by decide) ?_
      exact g_msk [true, true, true, false] (ih _ _ _ _)
set_option maxRecDepth 100000 in
set_option maxHeartbeats 4000000 in
theorem crt_X7_sendHeld (l : Launch) (θ : Th) (a0 : Nat) (a1 : Int32) (m : Mm) : Crt l θ yX7_sendHeld M_X7_sendHeld cvV [.ref a0, .int a1] m (F_X7_sendHeld a0 a1 m) := by
  refine crt_of 2 (by decide) rfl rfl (Nat.le_of_ble_eq_true rfl) (fun Z hμ => ?_)
  unfold F_X7_sendHeld
  show GG Z _ _ 0 [some (.ref a0), some (.int a1), none, none] [] m _
  refine g_iconst (v := (0 : Int32)) dX7_sendHeld_0 ki_0 ?_
  refine g_istore_n (i := 2) dX7_sendHeld_1 rfl (show 2 < 4 by decide) ?_
  intro x1
  exact g_msk [true, true, true, false] (c_L_X7_sendHeld_2 NF _ _ _ _)
set_option maxRecDepth 100000 in
set_option maxHeartbeats 4000000 in
theorem crt_X6_view (l : Launch) (θ : Th) (a0 : Nat) (a1 : Nat) (m : Mm) : Crt l θ yX6_view M_X6_view cvI [.ref a0, .ref a1] m (F_X6_view a0 a1 m) := by
  refine crt_of 3 (by decide) rfl rfl (Nat.le_of_ble_eq_true rfl) (fun Z hμ => ?_)
  unfold F_X6_view
  show GG Z _ _ 0 [some (.ref a0), some (.ref a1), none, none, none] [] m _
  refine g_aload_n (i := 0) dX6_view_0 rfl rfl ?_
  refine g_aload_n (i := 1) dX6_view_1 rfl rfl ?_
  refine g_callVV cl_X6 (crt_X6_weigh _ _ _ _ _) cw_X6_weigh (by decide) rfl q_451 q_452 q_453 rfl rfl dX6_view_2 ?_
  intro r1 m2
  refine g_aload_n (i := 0) dX6_view_5 rfl rfl ?_
  refine g_aload_n (i := 1) dX6_view_6 rfl rfl ?_
  refine g_aload_n (i := 1) dX6_view_7 rfl rfl ?_
  refine g_getIN (k := 6) cl_X7 (by decide) rfl q_237 dX6_view_8 ?_
  refine g_aload_n (i := 1) dX6_view_11 rfl rfl ?_
  refine g_callVI cl_X7 (crt_X7_standing _ _ _ _) cw_X7_standing (by decide) rfl q_475 q_476 q_477 rfl rfl dX6_view_12 ?_
  intro r3 m4
  refine g_callVI cl_X6 (crt_X6_partBy _ _ _ _ _ _ _) cw_X6_partBy (by decide) rfl q_479 q_480 q_481 rfl rfl dX6_view_15 ?_
  intro r5 m6
  refine g_istore_n (i := 2) dX6_view_18 rfl (show 2 < 5 by decide) ?_
  intro x7
  refine g_iload_n (i := 2) dX6_view_19 rfl rfl ?_
  refine g_aload_n (i := 1) dX6_view_20 rfl rfl ?_
  refine g_callVI cl_X7 (crt_X7_standing _ _ _ _) cw_X7_standing (by decide) rfl q_475 q_476 q_477 rfl rfl dX6_view_21 ?_
  intro r8 m9
  refine g_iand dX6_view_24 ?_
  refine g_istore_n (i := 3) dX6_view_25 rfl (show 3 < 5 by decide) ?_
  intro x10
  refine g_iload_n (i := 2) dX6_view_26 rfl rfl ?_
  refine g_aload_n (i := 1) dX6_view_27 rfl rfl ?_
  refine g_getIN (k := 5) cl_X7 (by decide) rfl q_234 dX6_view_28 ?_
  refine g_iand dX6_view_31 ?_
  refine g_istore dX6_view_32 (show 4 < 5 by decide) ?_
  intro x11
  refine g_iload_n (i := 2) dX6_view_34 rfl rfl ?_
  refine g_iconst (v := (-1 : Int32)) dX6_view_35 ki_m1 ?_
  refine g_icmpeq (tgt := 63) dX6_view_36 (by decide) ?_ ?_
  · refine g_iconst (v := (0 : Int32)) dX6_view_63 ki_0 ?_
    exact g_zreturnK rfl (by decide) dX6_view_64
  · refine g_iload_n (i := 3) dX6_view_39 rfl rfl ?_
    refine g_aload_n (i := 1) dX6_view_40 rfl rfl ?_
    refine g_getIN (k := 4) cl_X7 (by decide) rfl q_232 dX6_view_41 ?_
    refine g_iconst (v := (-1 : Int32)) dX6_view_44 ki_m1 ?_
    refine g_ixor dX6_view_45 ?_
    refine g_iand dX6_view_46 ?_
    refine g_ifne (tgt := 63) dX6_view_47 (by decide) ?_ ?_
    · refine g_iconst (v := (0 : Int32)) dX6_view_63 ki_0 ?_
      exact g_zreturnK rfl (by decide) dX6_view_64
    · refine g_iload_n (i := 2) dX6_view_50 rfl rfl ?_
      refine g_aload_n (i := 1) dX6_view_51 rfl rfl ?_
      refine g_getIN (k := 1) cl_X7 (by decide) rfl q_222 dX6_view_52 ?_
      refine g_jn (fun J65 => ∀ (v0 : Nat) (v1 : Nat) (v3 : Int32) (v4 : Int32) (m : Mm), GG Z M_X6_view (PsN Z cvI) 65 [some (.ref v0), some (.ref v1), none, some (.int v3), some (.int v4)] [] m (J65 v0 v1 v3 v4 m)) ?_ ?_
      · intro v0 v1 v3 v4 m
        refine g_aload_n (i := 1) dX6_view_65 rfl rfl ?_
        refine g_iload_n (i := 3) dX6_view_66 rfl rfl ?_
        refine g_iload dX6_view_67 rfl ?_
        refine g_callVV cl_X7 (crt_X7_changeView _ _ _ _ _ _) cw_X7_changeView (by decide) rfl q_1024 q_1025 q_1026 rfl rfl dX6_view_69 ?_
        intro r12 m13
        refine g_aload_n (i := 1) dX6_view_72 rfl rfl ?_
        refine g_aload_n (i := 0) dX6_view_73 rfl rfl ?_
        refine g_getR (k := 0) cl_X6 (by decide) rfl q_197 dX6_view_74 ?_
        intro q14
        refine g_getIN (k := 2) cl_X1 (by decide) rfl q_93 dX6_view_77 ?_
        refine g_callVV cl_X7 (crt_X7_sendHeld _ _ _ _ _) cw_X7_sendHeld (by decide) rfl q_1036 q_1037 q_1038 rfl rfl dX6_view_80 ?_
        intro r15 m16
        refine g_iconst (v := (1 : Int32)) dX6_view_83 ki_1 ?_
        exact g_zreturnK rfl (by decide) dX6_view_84
      · intro J65 hJ65
        refine g_icmpne (tgt := 65) dX6_view_55 (by decide) ?_ ?_
        · exact g_msk [true, true, false, true, true] (hJ65 _ _ _ _ _)
        · refine g_iload dX6_view_58 rfl ?_
          refine g_ifne (tgt := 65) dX6_view_60 (by decide) ?_ ?_
          · exact g_msk [true, true, false, true, true] (hJ65 _ _ _ _ _)
          · refine g_iconst (v := (0 : Int32)) dX6_view_63 ki_0 ?_
            exact g_zreturnK rfl (by decide) dX6_view_64
set_option maxRecDepth 100000 in
set_option maxHeartbeats 4000000 in
theorem c_L_X6_fewestToFall_22 {Z : Zx}    : ∀ (n : Nat) (v0 : Nat) (v1 : Nat) (v2 : Int32) (v3 : Int32) (v4 : Int32) (m : Mm), GG Z M_X6_fewestToFall (PsN Z cvI) 22 [some (.ref v0), some (.ref v1), some (.int v2), some (.int v3), some (.int v4), none] [] m (L_X6_fewestToFall_22 n v0 v1 v2 v3 v4 m) := by
  intro n
  induction n with
  | zero => intro v0 v1 v2 v3 v4 m; exact g_no
  | succ n ih =>
    intro v0 v1 v2 v3 v4 m
    unfold L_X6_fewestToFall_22
    refine g_iload dX6_fewestToFall_22 rfl ?_
    refine g_aload_n (i := 0) dX6_fewestToFall_24 rfl rfl ?_
    refine g_callVI cl_X6 (crt_X6_partings _ _ _ _) cw_X6_partings (by decide) rfl q_504 q_505 q_506 rfl rfl dX6_fewestToFall_25 ?_
    intro r8 m9
    refine g_icmpge (tgt := 87) dX6_fewestToFall_28 (by decide) ?_ ?_
    · refine g_iload_n (i := 3) dX6_fewestToFall_87 rfl rfl ?_
      exact g_ireturn rfl dX6_fewestToFall_88
    · refine g_iload dX6_fewestToFall_31 rfl ?_
      refine g_iload_n (i := 2) dX6_fewestToFall_33 rfl rfl ?_
      refine g_iconst (v := (-1 : Int32)) dX6_fewestToFall_34 ki_m1 ?_
      refine g_ixor dX6_fewestToFall_35 ?_
      refine g_iand dX6_fewestToFall_36 ?_
      refine g_jn (fun J45 => ∀ (v0 : Nat) (v1 : Nat) (v2 : Int32) (v3 : Int32) (v4 : Int32) (s0 : Int32) (m : Mm), GG Z M_X6_fewestToFall (PsN Z cvI) 45 [some (.ref v0), some (.ref v1), some (.int v2), some (.int v3), some (.int v4), none] [.int s0] m (J45 v0 v1 v2 v3 v4 s0 m)) ?_ ?_
      · intro v0 v1 v2 v3 v4 s0 m
        refine g_istore dX6_fewestToFall_45 (show 5 < 6 by decide) ?_
        intro x10
        refine g_iload dX6_fewestToFall_47 rfl ?_
        refine g_jn (fun J81 => ∀ (v0 : Nat) (v1 : Nat) (v2 : Int32) (v3 : Int32) (v4 : Int32) (m : Mm), GG Z M_X6_fewestToFall (PsN Z cvI) 81 [some (.ref v0), some (.ref v1), some (.int v2), some (.int v3), some (.int v4), none] [] m (J81 v0 v1 v2 v3 v4 m)) ?_ ?_
        · intro v0 v1 v2 v3 v4 m
          refine g_iinc dX6_fewestToFall_81 rfl ki_1 (show 4 < 6 by decide) ?_
          intro x11
          refine g_goto (tgt := 22) dX6_fewestToFall_84 (by decide) ?_
          exact g_msk [true, true, true, true, true, false] (ih _ _ _ _ _ _)
        · intro J81 hJ81
          refine g_ifeq (tgt := 81) dX6_fewestToFall_49 (by decide) ?_ ?_
          · exact g_msk [true, true, true, true, true, false] (hJ81 _ _ _ _ _ _)
          · refine g_aload_n (i := 0) dX6_fewestToFall_52 rfl rfl ?_
            refine g_aload_n (i := 1) dX6_fewestToFall_53 rfl rfl ?_
            refine g_aload_n (i := 1) dX6_fewestToFall_54 rfl rfl ?_
            refine g_getIN (k := 6) cl_X7 (by decide) rfl q_237 dX6_fewestToFall_55 ?_
            refine g_iload_n (i := 2) dX6_fewestToFall_58 rfl rfl ?_
            refine g_iload dX6_fewestToFall_59 rfl ?_
            refine g_iconst (v := (-1 : Int32)) dX6_fewestToFall_61 ki_m1 ?_
            refine g_ixor dX6_fewestToFall_62 ?_
            refine g_iand dX6_fewestToFall_63 ?_
            refine g_callVI cl_X6 (crt_X6_partBy _ _ _ _ _ _ _) cw_X6_partBy (by decide) rfl q_479 q_480 q_481 rfl rfl dX6_fewestToFall_64 ?_
            intro r12 m13
            refine g_iconst (v := (-1 : Int32)) dX6_fewestToFall_67 ki_m1 ?_
            refine g_icmpne (tgt := 81) dX6_fewestToFall_68 (by decide) ?_ ?_
            · exact g_msk [true, true, true, true, true, false] (hJ81 _ _ _ _ _ _)
            · refine g_iload_n (i := 3) dX6_fewestToFall_71 rfl rfl ?_
              refine g_iload dX6_fewestToFall_72 rfl ?_
              refine g_callSI (crt_J6_bitCount_0f7a4 _ _ _ _) cw_J6_bitCount_0f7a4 (by decide) rfl q_455 q_456 rfl rfl dX6_fewestToFall_74 ?_
              intro r14 m15
              refine g_mmin q_508 q_469 q_13 qm_min (by decide) rfl dX6_fewestToFall_77 ?_
              refine g_istore_n (i := 3) dX6_fewestToFall_80 rfl (show 3 < 6 by decide) ?_
              intro x16
              exact g_msk [true, true, true, true, true, false] (hJ81 _ _ _ _ _ _)
      · intro J45 hJ45
        refine g_ifne (tgt := 44) dX6_fewestToFall_37 (by decide) ?_ ?_
        · refine g_iconst (v := (0 : Int32)) dX6_fewestToFall_44 ki_0 ?_
          exact g_msk [true, true, true, true, true, false] (hJ45 _ _ _ _ _ _ _)
        · refine g_iconst (v := (1 : Int32)) dX6_fewestToFall_40 ki_1 ?_
          refine g_goto (tgt := 45) dX6_fewestToFall_41 (by decide) ?_
          exact g_msk [true, true, true, true, true, false] (hJ45 _ _ _ _ _ _ _)
set_option maxRecDepth 100000 in
set_option maxHeartbeats 4000000 in
theorem crt_X6_fewestToFall (l : Launch) (θ : Th) (a0 : Nat) (a1 : Nat) (m : Mm) : Crt l θ yX6_fewestToFall M_X6_fewestToFall cvI [.ref a0, .ref a1] m (F_X6_fewestToFall a0 a1 m) := by
  refine crt_of 4 (by decide) rfl rfl (Nat.le_of_ble_eq_true rfl) (fun Z hμ => ?_)
  unfold F_X6_fewestToFall
  show GG Z _ _ 0 [some (.ref a0), some (.ref a1), none, none, none, none] [] m _
  refine g_aload_n (i := 0) dX6_fewestToFall_0 rfl rfl ?_
  refine g_aload_n (i := 1) dX6_fewestToFall_1 rfl rfl ?_
  refine g_callVI cl_X6 (crt_X6_partNow _ _ _ _ _) cw_X6_partNow (by decide) rfl q_503 q_448 q_449 rfl rfl dX6_fewestToFall_2 ?_
  intro r1 m2
  refine g_iconst (v := (-1 : Int32)) dX6_fewestToFall_5 ki_m1 ?_
  refine g_icmpne (tgt := 11) dX6_fewestToFall_6 (by decide) ?_ ?_
  · refine g_aload_n (i := 1) dX6_fewestToFall_11 rfl rfl ?_
    refine g_callVI cl_X7 (crt_X7_standing _ _ _ _) cw_X7_standing (by decide) rfl q_475 q_476 q_477 rfl rfl dX6_fewestToFall_12 ?_
    intro r3 m4
    refine g_istore_n (i := 2) dX6_fewestToFall_15 rfl (show 2 < 6 by decide) ?_
    intro x5
    refine g_bipush (v := (6 : Int32)) dX6_fewestToFall_16 kb_6 ?_
    refine g_istore_n (i := 3) dX6_fewestToFall_18 rfl (show 3 < 6 by decide) ?_
    intro x6
    refine g_iconst (v := (0 : Int32)) dX6_fewestToFall_19 ki_0 ?_
    refine g_istore dX6_fewestToFall_20 (show 4 < 6 by decide) ?_
    intro x7
    exact g_msk [true, true, true, true, true, false] (c_L_X6_fewestToFall_22 NF _ _ _ _ _ _)
  · refine g_iconst (v := (0 : Int32)) dX6_fewestToFall_9 ki_0 ?_
    exact g_ireturn rfl dX6_fewestToFall_10
set_option maxRecDepth 100000 in
set_option maxHeartbeats 4000000 in
theorem c_L_X6_countLameSplits_9 {Z : Zx}    : ∀ (n : Nat) (v0 : Nat) (v1 : Nat) (v2 : Int32) (v3 : Int32) (m : Mm), GG Z M_X6_countLameSplits (PsN Z cvI) 9 [some (.ref v0), some (.ref v1), some (.int v2), some (.int v3)] [] m (L_X6_countLameSplits_9 n v0 v1 v2 v3 m) := by
  intro n
  induction n with
  | zero => intro v0 v1 v2 v3 m; exact g_no
  | succ n ih =>
    intro v0 v1 v2 v3 m
    unfold L_X6_countLameSplits_9
    refine g_iload_n (i := 3) dX6_countLameSplits_9 rfl rfl ?_
    refine g_aload_n (i := 0) dX6_countLameSplits_10 rfl rfl ?_
    refine g_callVI cl_X6 (crt_X6_partings _ _ _ _) cw_X6_partings (by decide) rfl q_504 q_505 q_506 rfl rfl dX6_countLameSplits_11 ?_
    intro r5 m6
    refine g_icmpge (tgt := 45) dX6_countLameSplits_14 (by decide) ?_ ?_
    · refine g_iload_n (i := 2) dX6_countLameSplits_45 rfl rfl ?_
      exact g_ireturn rfl dX6_countLameSplits_46
    · refine g_iload_n (i := 2) dX6_countLameSplits_17 rfl rfl ?_
      refine g_aload_n (i := 0) dX6_countLameSplits_18 rfl rfl ?_
      refine g_aload_n (i := 1) dX6_countLameSplits_19 rfl rfl ?_
      refine g_iload_n (i := 3) dX6_countLameSplits_20 rfl rfl ?_
      refine g_aload_n (i := 1) dX6_countLameSplits_21 rfl rfl ?_
      refine g_callVI cl_X7 (crt_X7_standing _ _ _ _) cw_X7_standing (by decide) rfl q_475 q_476 q_477 rfl rfl dX6_countLameSplits_22 ?_
      intro r7 m8
      refine g_callVI cl_X6 (crt_X6_partBy _ _ _ _ _ _ _) cw_X6_partBy (by decide) rfl q_479 q_480 q_481 rfl rfl dX6_countLameSplits_25 ?_
      intro r9 m10
      refine g_iconst (v := (-1 : Int32)) dX6_countLameSplits_28 ki_m1 ?_
      refine g_jn (fun J37 => ∀ (v0 : Nat) (v1 : Nat) (v3 : Int32) (s0 : Int32) (s1 : Int32) (m : Mm), GG Z M_X6_countLameSplits (PsN Z cvI) 37 [some (.ref v0), some (.ref v1), none, some (.int v3)] [.int s0, .int s1] m (J37 v0 v1 v3 s0 s1 m)) ?_ ?_
      · intro v0 v1 v3 s0 s1 m
        refine g_iadd dX6_countLameSplits_37 ?_
        refine g_istore_n (i := 2) dX6_countLameSplits_38 rfl (show 2 < 4 by decide) ?_
        intro x11
        refine g_iinc dX6_countLameSplits_39 rfl ki_1 (show 3 < 4 by decide) ?_
        intro x12
        refine g_goto (tgt := 9) dX6_countLameSplits_42 (by decide) ?_
        exact g_msk [true, true, true, true] (ih _ _ _ _ _)
      · intro J37 hJ37
        refine g_icmpne (tgt := 36) dX6_countLameSplits_29 (by decide) ?_ ?_
        · refine g_iconst (v := (0 : Int32)) dX6_countLameSplits_36 ki_0 ?_
          exact g_msk [true, true, false, true] (hJ37 _ _ _ _ _ _)
        · refine g_iconst (v := (1 : Int32)) dX6_countLameSplits_32 ki_1 ?_
          refine g_goto (tgt := 37) dX6_countLameSplits_33 (by decide) ?_
          exact g_msk [true, true, false, true] (hJ37 _ _ _ _ _ _)
set_option maxRecDepth 100000 in
set_option maxHeartbeats 4000000 in
theorem crt_X6_countLameSplits (l : Launch) (θ : Th) (a0 : Nat) (a1 : Nat) (m : Mm) : Crt l θ yX6_countLameSplits M_X6_countLameSplits cvI [.ref a0, .ref a1] m (F_X6_countLameSplits a0 a1 m) := by
  refine crt_of 2 (by decide) rfl rfl (Nat.le_of_ble_eq_true rfl) (fun Z hμ => ?_)
  unfold F_X6_countLameSplits
  show GG Z _ _ 0 [some (.ref a0), some (.ref a1), none, none] [] m _
  refine g_aload_n (i := 0) dX6_countLameSplits_0 rfl rfl ?_
  refine g_aload_n (i := 1) dX6_countLameSplits_1 rfl rfl ?_
  refine g_callVV cl_X6 (crt_X6_weigh _ _ _ _ _) cw_X6_weigh (by decide) rfl q_451 q_452 q_453 rfl rfl dX6_countLameSplits_2 ?_
  intro r1 m2
  refine g_iconst (v := (0 : Int32)) dX6_countLameSplits_5 ki_0 ?_
  refine g_istore_n (i := 2) dX6_countLameSplits_6 rfl (show 2 < 4 by decide) ?_
  intro x3
  refine g_iconst (v := (0 : Int32)) dX6_countLameSplits_7 ki_0 ?_
  refine g_istore_n (i := 3) dX6_countLameSplits_8 rfl (show 3 < 4 by decide) ?_
  intro x4
  exact g_msk [true, true, true, true] (c_L_X6_countLameSplits_9 NF _ _ _ _ _)
set_option maxRecDepth 100000 in
set_option maxHeartbeats 4000000 in
theorem crt_X11_allOf (l : Launch) (θ : Th) (a0 : Int32) (m : Mm) : Crt l θ yX11_allOf M_X11_allOf cvI [.int a0] m (F_X11_allOf a0 m) := by
  refine crt_of 0 (by decide) rfl rfl (Nat.le_of_ble_eq_true rfl) (fun Z hμ => ?_)
  unfold F_X11_allOf
  show GG Z _ _ 0 [some (.int a0)] [] m _
  refine g_iconst (v := (1 : Int32)) dX11_allOf_0 ki_1 ?_
  refine g_iload_n (i := 0) dX11_allOf_1 rfl rfl ?_
  refine g_ishl dX11_allOf_2 ?_
  refine g_iconst (v := (1 : Int32)) dX11_allOf_3 ki_1 ?_
  refine g_isub dX11_allOf_4 ?_
  exact g_ireturn rfl dX11_allOf_5
set_option maxRecDepth 100000 in
set_option maxHeartbeats 4000000 in
theorem c_L_X7_begin_40 {Z : Zx}  {K92 : Nat → Mm → Option (Unit × Mm)} (hK92 : ∀ (v0 : Nat) (m : Mm), GG Z M_X7_begin (PsN Z cvV) 92 [some (.ref v0), none, none, none] [] m (K92 v0 m)) : ∀ (n : Nat) (v0 : Nat) (v2 : Int32) (v3 : Int32) (m : Mm), GG Z M_X7_begin (PsN Z cvV) 40 [some (.ref v0), none, some (.int v2), some (.int v3)] [] m (L_X7_begin_40 K92 n v0 v2 v3 m) := by
  intro n
  induction n with
  | zero => intro v0 v2 v3 m; exact g_no
  | succ n ih =>
    intro v0 v2 v3 m
    unfold L_X7_begin_40
    refine g_iload_n (i := 3) dX7_begin_40 rfl rfl ?_
    refine g_bipush (v := (6 : Int32)) dX7_begin_41 kb_6 ?_
    refine g_icmpge (tgt := 92) dX7_begin_43 (by decide) ?_ ?_
    · exact g_msk [true, false, false, false] (hK92 _ _)
    · refine g_aload_n (i := 0) dX7_begin_46 rfl rfl ?_
      refine g_getR (k := 8) cl_X7 (by decide) rfl q_242 dX7_begin_47 ?_
      intro q11
      refine g_iload_n (i := 3) dX7_begin_50 rfl rfl ?_
      refine g_iload_n (i := 2) dX7_begin_51 rfl rfl ?_
      refine g_iload_n (i := 3) dX7_begin_52 rfl rfl ?_
      refine g_callSNI (crt_X11_has _ _ _ _ _) cw_X11_has (by decide) rfl q_359 q_360 rfl rfl dX7_begin_53 ?_
      intro r12 m13
      refine g_jn (fun J64 => ∀ (v0 : Nat) (v2 : Int32) (v3 : Int32) (s0 : Int32) (s1 : Int32) (s2 : Nat) (m : Mm), GG Z M_X7_begin (PsN Z cvV) 64 [some (.ref v0), none, some (.int v2), some (.int v3)] [.int s0, .int s1, .ref s2] m (J64 v0 v2 v3 s0 s1 s2 m)) ?_ ?_
      · intro v0 v2 v3 s0 s1 s2 m
        refine g_iastore dX7_begin_64 ?_
        intro m14
        refine g_aload_n (i := 0) dX7_begin_65 rfl rfl ?_
        refine g_getR (k := 12) cl_X7 (by decide) rfl q_251 dX7_begin_66 ?_
        intro q15
        refine g_iload_n (i := 3) dX7_begin_69 rfl rfl ?_
        refine g_iconst (v := (0 : Int32)) dX7_begin_70 ki_0 ?_
        refine g_iastore dX7_begin_71 ?_
        intro m16
        refine g_aload_n (i := 0) dX7_begin_72 rfl rfl ?_
        refine g_getR (k := 14) cl_X7 (by decide) rfl q_255 dX7_begin_73 ?_
        intro q17
        refine g_iload_n (i := 3) dX7_begin_76 rfl rfl ?_
        refine g_iconst (v := (0 : Int32)) dX7_begin_77 ki_0 ?_
        refine g_iastore dX7_begin_78 ?_
        intro m18
        refine g_aload_n (i := 0) dX7_begin_79 rfl rfl ?_
        refine g_getR (k := 18) cl_X7 (by decide) rfl q_263 dX7_begin_80 ?_
        intro q19
        refine g_iload_n (i := 3) dX7_begin_83 rfl rfl ?_
        refine g_lconst (v := (0 : Int64)) dX7_begin_84 rfl ?_
        refine g_lastore dX7_begin_85 ?_
        intro m20
        refine g_iinc dX7_begin_86 rfl ki_1 (show 3 < 4 by decide) ?_
        intro x21
        refine g_goto (tgt := 40) dX7_begin_89 (by decide) ?_
        exact g_msk [true, false, true, true] (ih _ _ _ _)
      · intro J64 hJ64
        refine g_ifeq (tgt := 63) dX7_begin_56 (by decide) ?_ ?_
        · refine g_iconst (v := (0 : Int32)) dX7_begin_63 ki_0 ?_
          exact g_msk [true, false, true, true] (hJ64 _ _ _ _ _ _ _)
        · refine g_iconst (v := (1 : Int32)) dX7_begin_59 ki_1 ?_
          refine g_goto (tgt := 64) dX7_begin_60 (by decide) ?_
          exact g_msk [true, false, true, true] (hJ64 _ _ _ _ _ _ _)
set_option maxRecDepth 100000 in
set_option maxHeartbeats 4000000 in
theorem crt_X7_begin (l : Launch) (θ : Th) (a0 : Nat) (a1 : Int32) (a2 : Int32) (m : Mm) : Crt l θ yX7_begin M_X7_begin cvV [.ref a0, .int a1, .int a2] m (F_X7_begin a0 a1 a2 m) := by
  refine crt_of 1 (by decide) rfl rfl (Nat.le_of_ble_eq_true rfl) (fun Z hμ => ?_)
  unfold F_X7_begin
  show GG Z _ _ 0 [some (.ref a0), some (.int a1), some (.int a2), none] [] m _
  refine g_aload_n (i := 0) dX7_begin_0 rfl rfl ?_
  refine g_iconst (v := (1 : Int32)) dX7_begin_1 ki_1 ?_
  refine g_putI (k := 0) cl_X7 (by decide) rfl rfl q_216 dX7_begin_2 ?_
  intro m1
  refine g_aload_n (i := 0) dX7_begin_5 rfl rfl ?_
  refine g_iload_n (i := 2) dX7_begin_6 rfl rfl ?_
  refine g_putI (k := 1) cl_X7 (by decide) rfl rfl q_220 dX7_begin_7 ?_
  intro m2
  refine g_aload_n (i := 0) dX7_begin_10 rfl rfl ?_
  refine g_iload_n (i := 2) dX7_begin_11 rfl rfl ?_
  refine g_putI (k := 2) cl_X7 (by decide) rfl rfl q_224 dX7_begin_12 ?_
  intro m3
  refine g_aload_n (i := 0) dX7_begin_15 rfl rfl ?_
  refine g_iload_n (i := 1) dX7_begin_16 rfl rfl ?_
  refine g_callSNI (crt_X11_allOf _ _ _ _) cw_X11_allOf (by decide) rfl q_356 q_357 rfl rfl dX7_begin_17 ?_
  intro r4 m5
  refine g_putI (k := 3) cl_X7 (by decide) rfl rfl q_225 dX7_begin_20 ?_
  intro m6
  refine g_aload_n (i := 0) dX7_begin_23 rfl rfl ?_
  refine g_iconst (v := (0 : Int32)) dX7_begin_24 ki_0 ?_
  refine g_putI (k := 4) cl_X7 (by decide) rfl rfl q_229 dX7_begin_25 ?_
  intro m7
  refine g_aload_n (i := 0) dX7_begin_28 rfl rfl ?_
  refine g_iconst (v := (0 : Int32)) dX7_begin_29 ki_0 ?_
  refine g_putI (k := 5) cl_X7 (by decide) rfl rfl q_233 dX7_begin_30 ?_
  intro m8
  refine g_aload_n (i := 0) dX7_begin_33 rfl rfl ?_
  refine g_iconst (v := (0 : Int32)) dX7_begin_34 ki_0 ?_
  refine g_putI (k := 6) cl_X7 (by decide) rfl rfl q_236 dX7_begin_35 ?_
  intro m9
  refine g_iconst (v := (0 : Int32)) dX7_begin_38 ki_0 ?_
  refine g_istore_n (i := 3) dX7_begin_39 rfl (show 3 < 4 by decide) ?_
  intro x10
  refine g_msk [true, false, true, true] (c_L_X7_begin_40 ?_ NF _ _ _ _)
  intro v0 m
  refine g_aload_n (i := 0) dX7_begin_92 rfl rfl ?_
  refine g_callVV cl_X7 (crt_X7_dropMessages _ _ _ _) cw_X7_dropMessages (by decide) rfl q_362 q_364 qs_0 rfl rfl dX7_begin_93 ?_
  intro r22 m23
  exact g_return rfl dX7_begin_96
set_option maxRecDepth 100000 in
set_option maxHeartbeats 4000000 in
theorem crt_X7_stands (l : Launch) (θ : Th) (a0 : Nat) (a1 : Int32) (m : Mm) : Crt l θ yX7_stands M_X7_stands cvI [.ref a0, .int a1] m (F_X7_stands a0 a1 m) := by
  refine crt_of 0 (by decide) rfl rfl (Nat.le_of_ble_eq_true rfl) (fun Z hμ => ?_)
  unfold F_X7_stands
  show GG Z _ _ 0 [some (.ref a0), some (.int a1)] [] m _
  refine g_aload_n (i := 0) dX7_stands_0 rfl rfl ?_
  refine g_callVI cl_X7 (crt_X7_standing _ _ _ _) cw_X7_standing (by decide) rfl q_529 q_476 q_477 rfl rfl dX7_stands_1 ?_
  intro r1 m2
  refine g_iload_n (i := 1) dX7_stands_4 rfl rfl ?_
  refine g_callSNI (crt_X11_has _ _ _ _ _) cw_X11_has (by decide) rfl q_359 q_360 rfl rfl dX7_stands_5 ?_
  intro r3 m4
  exact g_zreturn rfl dX7_stands_8
set_option maxRecDepth 100000 in
set_option maxHeartbeats 4000000 in
theorem crt_X7_reaches (l : Launch) (θ : Th) (a0 : Nat) (a1 : Int32) (a2 : Int32) (m : Mm) : Crt l θ yX7_reaches M_X7_reaches cvI [.ref a0, .int a1, .int a2] m (F_X7_reaches a0 a1 a2 m) := by
  refine crt_of 0 (by decide) rfl rfl (Nat.le_of_ble_eq_true rfl) (fun Z hμ => ?_)
  unfold F_X7_reaches
  show GG Z _ _ 0 [some (.ref a0), some (.int a1), some (.int a2)] [] m _
  refine g_aload_n (i := 0) dX7_reaches_0 rfl rfl ?_
  refine g_getI (k := 6) cl_X7 (by decide) rfl q_236 dX7_reaches_1 ?_
  refine g_iload_n (i := 1) dX7_reaches_4 rfl rfl ?_
  refine g_callSNI (crt_X11_has _ _ _ _ _) cw_X11_has (by decide) rfl q_359 q_360 rfl rfl dX7_reaches_5 ?_
  intro r1 m2
  refine g_aload_n (i := 0) dX7_reaches_8 rfl rfl ?_
  refine g_getI (k := 6) cl_X7 (by decide) rfl q_236 dX7_reaches_9 ?_
  refine g_iload_n (i := 2) dX7_reaches_12 rfl rfl ?_
  refine g_callSNI (crt_X11_has _ _ _ _ _) cw_X11_has (by decide) rfl q_359 q_360 rfl rfl dX7_reaches_13 ?_
  intro r3 m4
  refine g_icmpne (tgt := 23) dX7_reaches_16 (by decide) ?_ ?_
  · refine g_iconst (v := (0 : Int32)) dX7_reaches_23 ki_0 ?_
    exact g_zreturnK rfl (by decide) dX7_reaches_24
  · refine g_iconst (v := (1 : Int32)) dX7_reaches_19 ki_1 ?_
    refine g_goto (tgt := 24) dX7_reaches_20 (by decide) ?_
    exact g_zreturnK rfl (by decide) dX7_reaches_24
set_option maxRecDepth 100000 in
set_option maxHeartbeats 4000000 in
theorem crt_X7_keepBack (l : Launch) (θ : Th) (a0 : Nat) (a1 : Int32) (a2 : Int32) (m : Mm) : Crt l θ yX7_keepBack M_X7_keepBack cvI [.ref a0, .int a1, .int a2] m (F_X7_keepBack a0 a1 a2 m) := by
  refine crt_of 1 (by decide) rfl rfl (Nat.le_of_ble_eq_true rfl) (fun Z hμ => ?_)
  unfold F_X7_keepBack
  show GG Z _ _ 0 [some (.ref a0), some (.int a1), some (.int a2), none] [] m _
  refine g_aload_n (i := 0) dX7_keepBack_0 rfl rfl ?_
  refine g_getR (k := 12) cl_X7 (by decide) rfl q_251 dX7_keepBack_1 ?_
  intro q1
  refine g_iload_n (i := 1) dX7_keepBack_4 rfl rfl ?_
  refine g_iaload dX7_keepBack_5 ?_
  refine g_istore_n (i := 3) dX7_keepBack_6 rfl (show 3 < 4 by decide) ?_
  intro x2
  refine g_iload_n (i := 3) dX7_keepBack_7 rfl rfl ?_
  refine g_iflt (tgt := 17) dX7_keepBack_8 (by decide) ?_ ?_
  · refine g_iconst (v := (0 : Int32)) dX7_keepBack_17 ki_0 ?_
    exact g_zreturnK rfl (by decide) dX7_keepBack_18
  · refine g_iload_n (i := 3) dX7_keepBack_11 rfl rfl ?_
    refine g_bipush (v := (8 : Int32)) dX7_keepBack_12 kb_8 ?_
    refine g_icmplt (tgt := 19) dX7_keepBack_14 (by decide) ?_ ?_
    · refine g_aload_n (i := 0) dX7_keepBack_19 rfl rfl ?_
      refine g_getR (k := 13) cl_X7 (by decide) rfl q_253 dX7_keepBack_20 ?_
      intro q3
      refine g_iload_n (i := 1) dX7_keepBack_23 rfl rfl ?_
      refine g_bipush (v := (8 : Int32)) dX7_keepBack_24 kb_8 ?_
      refine g_imul dX7_keepBack_26 ?_
      refine g_iload_n (i := 3) dX7_keepBack_27 rfl rfl ?_
      refine g_iadd dX7_keepBack_28 ?_
      refine g_iload_n (i := 2) dX7_keepBack_29 rfl rfl ?_
      refine g_iastore dX7_keepBack_30 ?_
      intro m4
      refine g_aload_n (i := 0) dX7_keepBack_31 rfl rfl ?_
      refine g_getR (k := 12) cl_X7 (by decide) rfl q_251 dX7_keepBack_32 ?_
      intro q5
      refine g_iload_n (i := 1) dX7_keepBack_35 rfl rfl ?_
      refine g_iload_n (i := 3) dX7_keepBack_36 rfl rfl ?_
      refine g_iconst (v := (1 : Int32)) dX7_keepBack_37 ki_1 ?_
      refine g_iadd dX7_keepBack_38 ?_
      refine g_iastore dX7_keepBack_39 ?_
      intro m6
      refine g_iconst (v := (1 : Int32)) dX7_keepBack_40 ki_1 ?_
      exact g_zreturnK rfl (by decide) dX7_keepBack_41
    · refine g_iconst (v := (0 : Int32)) dX7_keepBack_17 ki_0 ?_
      exact g_zreturnK rfl (by decide) dX7_keepBack_18
set_option maxRecDepth 100000 in
set_option maxHeartbeats 4000000 in
theorem crt_X7_send (l : Launch) (θ : Th) (a0 : Nat) (a1 : Int32) (a2 : Int32) (a3 : Int32) (m : Mm) : Crt l θ yX7_send M_X7_send cvI [.ref a0, .int a1, .int a2, .int a3] m (F_X7_send a0 a1 a2 a3 m) := by
  refine crt_of 0 (by decide) rfl rfl (Nat.le_of_ble_eq_true rfl) (fun Z hμ => ?_)
  unfold F_X7_send
  show GG Z _ _ 0 [some (.ref a0), some (.int a1), some (.int a2), some (.int a3)] [] m _
  refine g_aload_n (i := 0) dX7_send_0 rfl rfl ?_
  refine g_iload_n (i := 1) dX7_send_1 rfl rfl ?_
  refine g_callVI cl_X7 (crt_X7_stands _ _ _ _ _) cw_X7_stands (by decide) rfl q_525 q_526 q_527 rfl rfl dX7_send_2 ?_
  intro r1 m2
  refine g_ifne (tgt := 10) dX7_send_5 (by decide) ?_ ?_
  · refine g_aload_n (i := 0) dX7_send_10 rfl rfl ?_
    refine g_getI (k := 4) cl_X7 (by decide) rfl q_229 dX7_send_11 ?_
    refine g_iload_n (i := 1) dX7_send_14 rfl rfl ?_
    refine g_callSNI (crt_X11_has _ _ _ _ _) cw_X11_has (by decide) rfl q_359 q_360 rfl rfl dX7_send_15 ?_
    intro r3 m4
    refine g_ifeq (tgt := 30) dX7_send_18 (by decide) ?_ ?_
    · refine g_aload_n (i := 0) dX7_send_30 rfl rfl ?_
      refine g_iload_n (i := 1) dX7_send_31 rfl rfl ?_
      refine g_iload_n (i := 2) dX7_send_32 rfl rfl ?_
      refine g_iload_n (i := 3) dX7_send_33 rfl rfl ?_
      refine g_callVI cl_X7 (crt_X7_post _ _ _ _ _ _ _) cw_X7_post (by decide) rfl q_972 q_974 qs_27 rfl rfl dX7_send_34 ?_
      intro r5 m6
      exact g_zreturn rfl dX7_send_37
    · refine g_aload_n (i := 0) dX7_send_21 rfl rfl ?_
      refine g_iload_n (i := 1) dX7_send_22 rfl rfl ?_
      refine g_iload_n (i := 2) dX7_send_23 rfl rfl ?_
      refine g_callVI cl_X7 (crt_X7_keepBack _ _ _ _ _ _) cw_X7_keepBack (by decide) rfl q_968 q_970 qs_26 rfl rfl dX7_send_24 ?_
      intro r7 m8
      refine g_goto (tgt := 37) dX7_send_27 (by decide) ?_
      exact g_zreturn rfl dX7_send_37
  · refine g_iconst (v := (0 : Int32)) dX7_send_8 ki_0 ?_
    exact g_zreturnK rfl (by decide) dX7_send_9
set_option maxRecDepth 100000 in
set_option maxHeartbeats 4000000 in
theorem c_L_X7_firstOnTheWay_12 {Z : Zx}    : ∀ (n : Nat) (v0 : Nat) (v1 : Int32) (v2 : Int32) (v3 : Int32) (m : Mm), GG Z M_X7_firstOnTheWay (PsN Z cvI) 12 [some (.ref v0), some (.int v1), some (.int v2), some (.int v3)] [] m (L_X7_firstOnTheWay_12 n v0 v1 v2 v3 m) := by
  intro n
  induction n with
  | zero => intro v0 v1 v2 v3 m; exact g_no
  | succ n ih =>
    intro v0 v1 v2 v3 m
    unfold L_X7_firstOnTheWay_12
    refine g_iload_n (i := 3) dX7_firstOnTheWay_12 rfl rfl ?_
    refine g_aload_n (i := 0) dX7_firstOnTheWay_13 rfl rfl ?_
    refine g_getI (k := 7) cl_X7 (by decide) rfl q_240 dX7_firstOnTheWay_14 ?_
    refine g_icmpge (tgt := 65) dX7_firstOnTheWay_17 (by decide) ?_ ?_
    · refine g_iconst (v := (-1 : Int32)) dX7_firstOnTheWay_65 ki_m1 ?_
      exact g_ireturn rfl dX7_firstOnTheWay_66
    · refine g_iload_n (i := 3) dX7_firstOnTheWay_20 rfl rfl ?_
      refine g_bipush (v := (30 : Int32)) dX7_firstOnTheWay_21 kb_30 ?_
      refine g_icmpge (tgt := 65) dX7_firstOnTheWay_23 (by decide) ?_ ?_
      · refine g_iconst (v := (-1 : Int32)) dX7_firstOnTheWay_65 ki_m1 ?_
        exact g_ireturn rfl dX7_firstOnTheWay_66
      · refine g_aload_n (i := 0) dX7_firstOnTheWay_26 rfl rfl ?_
        refine g_getR (k := 17) cl_X7 (by decide) rfl q_261 dX7_firstOnTheWay_27 ?_
        intro q4
        refine g_iload_n (i := 3) dX7_firstOnTheWay_30 rfl rfl ?_
        refine g_iaload dX7_firstOnTheWay_31 ?_
        refine g_iload_n (i := 1) dX7_firstOnTheWay_32 rfl rfl ?_
        refine g_callSNI (crt_X11_has _ _ _ _ _) cw_X11_has (by decide) rfl q_359 q_360 rfl rfl dX7_firstOnTheWay_33 ?_
        intro r5 m6
        refine g_jn (fun J59 => ∀ (v0 : Nat) (v1 : Int32) (v2 : Int32) (v3 : Int32) (m : Mm), GG Z M_X7_firstOnTheWay (PsN Z cvI) 59 [some (.ref v0), some (.int v1), some (.int v2), some (.int v3)] [] m (J59 v0 v1 v2 v3 m)) ?_ ?_
        · intro v0 v1 v2 v3 m
          refine g_iinc dX7_firstOnTheWay_59 rfl ki_1 (show 3 < 4 by decide) ?_
          intro x7
          refine g_goto (tgt := 12) dX7_firstOnTheWay_62 (by decide) ?_
          exact g_msk [true, true, true, true] (ih _ _ _ _ _)
        · intro J59 hJ59
          refine g_ifeq (tgt := 59) dX7_firstOnTheWay_36 (by decide) ?_ ?_
          · exact g_msk [true, true, true, true] (hJ59 _ _ _ _ _)
          · refine g_iload_n (i := 2) dX7_firstOnTheWay_39 rfl rfl ?_
            refine g_ifeq (tgt := 57) dX7_firstOnTheWay_40 (by decide) ?_ ?_
            · refine g_iload_n (i := 3) dX7_firstOnTheWay_57 rfl rfl ?_
              exact g_ireturn rfl dX7_firstOnTheWay_58
            · refine g_aload_n (i := 0) dX7_firstOnTheWay_43 rfl rfl ?_
              refine g_iload_n (i := 1) dX7_firstOnTheWay_44 rfl rfl ?_
              refine g_aload_n (i := 0) dX7_firstOnTheWay_45 rfl rfl ?_
              refine g_getR (k := 15) cl_X7 (by decide) rfl q_257 dX7_firstOnTheWay_46 ?_
              intro q8
              refine g_iload_n (i := 3) dX7_firstOnTheWay_49 rfl rfl ?_
              refine g_iaload dX7_firstOnTheWay_50 ?_
              refine g_callVI cl_X7 (crt_X7_reaches _ _ _ _ _ _) cw_X7_reaches (by decide) rfl q_534 q_536 qs_3 rfl rfl dX7_firstOnTheWay_51 ?_
              intro r9 m10
              refine g_ifeq (tgt := 59) dX7_firstOnTheWay_54 (by decide) ?_ ?_
              · exact g_msk [true, true, true, true] (hJ59 _ _ _ _ _)
              · refine g_iload_n (i := 3) dX7_firstOnTheWay_57 rfl rfl ?_
                exact g_ireturn rfl dX7_firstOnTheWay_58
set_option maxRecDepth 100000 in
set_option maxHeartbeats 4000000 in
theorem crt_X7_firstOnTheWay (l : Launch) (θ : Th) (a0 : Nat) (a1 : Int32) (a2 : Int32) (m : Mm) : Crt l θ yX7_firstOnTheWay M_X7_firstOnTheWay cvI [.ref a0, .int a1, .int a2] m (F_X7_firstOnTheWay a0 a1 a2 m) := by
  refine crt_of 1 (by decide) rfl rfl (Nat.le_of_ble_eq_true rfl) (fun Z hμ => ?_)
  unfold F_X7_firstOnTheWay
  show GG Z _ _ 0 [some (.ref a0), some (.int a1), some (.int a2), none] [] m _
  refine g_aload_n (i := 0) dX7_firstOnTheWay_0 rfl rfl ?_
  refine g_iload_n (i := 1) dX7_firstOnTheWay_1 rfl rfl ?_
  refine g_callVI cl_X7 (crt_X7_stands _ _ _ _ _) cw_X7_stands (by decide) rfl q_525 q_526 q_527 rfl rfl dX7_firstOnTheWay_2 ?_
  intro r1 m2
  refine g_ifne (tgt := 10) dX7_firstOnTheWay_5 (by decide) ?_ ?_
  · refine g_iconst (v := (0 : Int32)) dX7_firstOnTheWay_10 ki_0 ?_
    refine g_istore_n (i := 3) dX7_firstOnTheWay_11 rfl (show 3 < 4 by decide) ?_
    intro x3
    exact g_msk [true, true, true, true] (c_L_X7_firstOnTheWay_12 NF _ _ _ _ _)
  · refine g_iconst (v := (-1 : Int32)) dX7_firstOnTheWay_8 ki_m1 ?_
    exact g_ireturn rfl dX7_firstOnTheWay_9
set_option maxRecDepth 100000 in
set_option maxHeartbeats 4000000 in
theorem crt_X7_take (l : Launch) (θ : Th) (a0 : Nat) (a1 : Int32) (m : Mm) : Crt l θ yX7_take M_X7_take cvI [.ref a0, .int a1] m (F_X7_take a0 a1 m) := by
  refine crt_of 1 (by decide) rfl rfl (Nat.le_of_ble_eq_true rfl) (fun Z hμ => ?_)
  unfold F_X7_take
  show GG Z _ _ 0 [some (.ref a0), some (.int a1), none] [] m _
  refine g_aload_n (i := 0) dX7_take_0 rfl rfl ?_
  refine g_iload_n (i := 1) dX7_take_1 rfl rfl ?_
  refine g_iconst (v := (1 : Int32)) dX7_take_2 ki_1 ?_
  refine g_callVI cl_X7 (crt_X7_firstOnTheWay _ _ _ _ _ _) cw_X7_firstOnTheWay (by decide) rfl q_984 q_985 q_986 rfl rfl dX7_take_3 ?_
  intro r1 m2
  refine g_istore_n (i := 2) dX7_take_6 rfl (show 2 < 3 by decide) ?_
  intro x3
  refine g_iload_n (i := 2) dX7_take_7 rfl rfl ?_
  refine g_ifge (tgt := 13) dX7_take_8 (by decide) ?_ ?_
  · refine g_aload_n (i := 0) dX7_take_13 rfl rfl ?_
    refine g_getR (k := 17) cl_X7 (by decide) rfl q_261 dX7_take_14 ?_
    intro q4
    refine g_iload_n (i := 2) dX7_take_17 rfl rfl ?_
    refine g_dup2 dX7_take_18 rfl rfl ?_
    refine g_iaload dX7_take_19 ?_
    refine g_iconst (v := (1 : Int32)) dX7_take_20 ki_1 ?_
    refine g_iload_n (i := 1) dX7_take_21 rfl rfl ?_
    refine g_ishl dX7_take_22 ?_
    refine g_iconst (v := (-1 : Int32)) dX7_take_23 ki_m1 ?_
    refine g_ixor dX7_take_24 ?_
    refine g_iand dX7_take_25 ?_
    refine g_iastore dX7_take_26 ?_
    intro m5
    refine g_aload_n (i := 0) dX7_take_27 rfl rfl ?_
    refine g_iload_n (i := 1) dX7_take_28 rfl rfl ?_
    refine g_iload_n (i := 2) dX7_take_29 rfl rfl ?_
    refine g_callVV cl_X7 (crt_X7_deliver _ _ _ _ _ _) cw_X7_deliver (by decide) rfl q_976 q_978 qs_28 rfl rfl dX7_take_30 ?_
    intro r6 m7
    refine g_iconst (v := (1 : Int32)) dX7_take_33 ki_1 ?_
    exact g_zreturnK rfl (by decide) dX7_take_34
  · refine g_iconst (v := (0 : Int32)) dX7_take_11 ki_0 ?_
    exact g_zreturnK rfl (by decide) dX7_take_12
set_option maxRecDepth 100000 in
set_option maxHeartbeats 4000000 in
theorem crt_X7_lose (l : Launch) (θ : Th) (a0 : Nat) (a1 : Int32) (m : Mm) : Crt l θ yX7_lose M_X7_lose cvI [.ref a0, .int a1] m (F_X7_lose a0 a1 m) := by
  refine crt_of 1 (by decide) rfl rfl (Nat.le_of_ble_eq_true rfl) (fun Z hμ => ?_)
  unfold F_X7_lose
  show GG Z _ _ 0 [some (.ref a0), some (.int a1), none] [] m _
  refine g_aload_n (i := 0) dX7_lose_0 rfl rfl ?_
  refine g_iload_n (i := 1) dX7_lose_1 rfl rfl ?_
  refine g_iconst (v := (0 : Int32)) dX7_lose_2 ki_0 ?_
  refine g_callVI cl_X7 (crt_X7_firstOnTheWay _ _ _ _ _ _) cw_X7_firstOnTheWay (by decide) rfl q_984 q_985 q_986 rfl rfl dX7_lose_3 ?_
  intro r1 m2
  refine g_istore_n (i := 2) dX7_lose_6 rfl (show 2 < 3 by decide) ?_
  intro x3
  refine g_iload_n (i := 2) dX7_lose_7 rfl rfl ?_
  refine g_ifge (tgt := 13) dX7_lose_8 (by decide) ?_ ?_
  · refine g_aload_n (i := 0) dX7_lose_13 rfl rfl ?_
    refine g_getR (k := 17) cl_X7 (by decide) rfl q_261 dX7_lose_14 ?_
    intro q4
    refine g_iload_n (i := 2) dX7_lose_17 rfl rfl ?_
    refine g_dup2 dX7_lose_18 rfl rfl ?_
    refine g_iaload dX7_lose_19 ?_
    refine g_iconst (v := (1 : Int32)) dX7_lose_20 ki_1 ?_
    refine g_iload_n (i := 1) dX7_lose_21 rfl rfl ?_
    refine g_ishl dX7_lose_22 ?_
    refine g_iconst (v := (-1 : Int32)) dX7_lose_23 ki_m1 ?_
    refine g_ixor dX7_lose_24 ?_
    refine g_iand dX7_lose_25 ?_
    refine g_iastore dX7_lose_26 ?_
    intro m5
    refine g_iconst (v := (1 : Int32)) dX7_lose_27 ki_1 ?_
    exact g_zreturnK rfl (by decide) dX7_lose_28
  · refine g_iconst (v := (0 : Int32)) dX7_lose_11 ki_0 ?_
    exact g_zreturnK rfl (by decide) dX7_lose_12
set_option maxRecDepth 100000 in
set_option maxHeartbeats 4000000 in
theorem c_L_X7_tell_12 {Z : Zx}    : ∀ (n : Nat) (v0 : Nat) (v1 : Int32) (v2 : Int32) (m : Mm), GG Z M_X7_tell (PsN Z cvI) 12 [some (.ref v0), some (.int v1), some (.int v2)] [] m (L_X7_tell_12 n v0 v1 v2 m) := by
  intro n
  induction n with
  | zero => intro v0 v1 v2 m; exact g_no
  | succ n ih =>
    intro v0 v1 v2 m
    unfold L_X7_tell_12
    refine g_iload_n (i := 2) dX7_tell_12 rfl rfl ?_
    refine g_bipush (v := (6 : Int32)) dX7_tell_13 kb_6 ?_
    refine g_icmpge (tgt := 61) dX7_tell_15 (by decide) ?_ ?_
    · refine g_iconst (v := (1 : Int32)) dX7_tell_61 ki_1 ?_
      exact g_zreturnK rfl (by decide) dX7_tell_62
    · refine g_aload_n (i := 0) dX7_tell_18 rfl rfl ?_
      refine g_iload_n (i := 2) dX7_tell_19 rfl rfl ?_
      refine g_callVI cl_X7 (crt_X7_stands _ _ _ _ _) cw_X7_stands (by decide) rfl q_525 q_526 q_527 rfl rfl dX7_tell_20 ?_
      intro r4 m5
      refine g_jn (fun J55 => ∀ (v0 : Nat) (v1 : Int32) (v2 : Int32) (m : Mm), GG Z M_X7_tell (PsN Z cvI) 55 [some (.ref v0), some (.int v1), some (.int v2)] [] m (J55 v0 v1 v2 m)) ?_ ?_
      · intro v0 v1 v2 m
        refine g_iinc dX7_tell_55 rfl ki_1 (show 2 < 3 by decide) ?_
        intro x6
        refine g_goto (tgt := 12) dX7_tell_58 (by decide) ?_
        exact g_msk [true, true, true] (ih _ _ _ _)
      · intro J55 hJ55
        refine g_ifeq (tgt := 55) dX7_tell_23 (by decide) ?_ ?_
        · exact g_msk [true, true, true] (hJ55 _ _ _ _)
        · refine g_aload_n (i := 0) dX7_tell_26 rfl rfl ?_
          refine g_iload_n (i := 1) dX7_tell_27 rfl rfl ?_
          refine g_iload_n (i := 2) dX7_tell_28 rfl rfl ?_
          refine g_callVI cl_X7 (crt_X7_reaches _ _ _ _ _ _) cw_X7_reaches (by decide) rfl q_534 q_536 qs_3 rfl rfl dX7_tell_29 ?_
          intro r7 m8
          refine g_ifeq (tgt := 55) dX7_tell_32 (by decide) ?_ ?_
          · exact g_msk [true, true, true] (hJ55 _ _ _ _)
          · refine g_aload_n (i := 0) dX7_tell_35 rfl rfl ?_
            refine g_getR (k := 11) cl_X7 (by decide) rfl q_249 dX7_tell_36 ?_
            intro q9
            refine g_iload_n (i := 2) dX7_tell_39 rfl rfl ?_
            refine g_bipush (v := (6 : Int32)) dX7_tell_40 kb_6 ?_
            refine g_imul dX7_tell_42 ?_
            refine g_iload_n (i := 1) dX7_tell_43 rfl rfl ?_
            refine g_iadd dX7_tell_44 ?_
            refine g_dup2 dX7_tell_45 rfl rfl ?_
            refine g_iaload dX7_tell_46 ?_
            refine g_aload_n (i := 0) dX7_tell_47 rfl rfl ?_
            refine g_getR (k := 9) cl_X7 (by decide) rfl q_245 dX7_tell_48 ?_
            intro q10
            refine g_iload_n (i := 1) dX7_tell_51 rfl rfl ?_
            refine g_iaload dX7_tell_52 ?_
            refine g_ior dX7_tell_53 ?_
            refine g_iastore dX7_tell_54 ?_
            intro m11
            exact g_msk [true, true, true] (hJ55 _ _ _ _)
set_option maxRecDepth 100000 in
set_option maxHeartbeats 4000000 in
theorem crt_X7_tell (l : Launch) (θ : Th) (a0 : Nat) (a1 : Int32) (m : Mm) : Crt l θ yX7_tell M_X7_tell cvI [.ref a0, .int a1] m (F_X7_tell a0 a1 m) := by
  refine crt_of 1 (by decide) rfl rfl (Nat.le_of_ble_eq_true rfl) (fun Z hμ => ?_)
  unfold F_X7_tell
  show GG Z _ _ 0 [some (.ref a0), some (.int a1), none] [] m _
  refine g_aload_n (i := 0) dX7_tell_0 rfl rfl ?_
  refine g_iload_n (i := 1) dX7_tell_1 rfl rfl ?_
  refine g_callVI cl_X7 (crt_X7_stands _ _ _ _ _) cw_X7_stands (by decide) rfl q_525 q_526 q_527 rfl rfl dX7_tell_2 ?_
  intro r1 m2
  refine g_ifne (tgt := 10) dX7_tell_5 (by decide) ?_ ?_
  · refine g_iconst (v := (0 : Int32)) dX7_tell_10 ki_0 ?_
    refine g_istore_n (i := 2) dX7_tell_11 rfl (show 2 < 3 by decide) ?_
    intro x3
    exact g_msk [true, true, true] (c_L_X7_tell_12 NF _ _ _ _)
  · refine g_iconst (v := (0 : Int32)) dX7_tell_8 ki_0 ?_
    exact g_zreturnK rfl (by decide) dX7_tell_9
set_option maxRecDepth 100000 in
set_option maxHeartbeats 4000000 in
theorem c_L_X7_stableBy_22 {Z : Zx}    : ∀ (n : Nat) (v0 : Nat) (v1 : Int32) (v2 : Int32) (v3 : Int32) (m : Mm), GG Z M_X7_stableBy (PsN Z cvI) 22 [some (.ref v0), some (.int v1), some (.int v2), some (.int v3)] [] m (L_X7_stableBy_22 n v0 v1 v2 v3 m) := by
  intro n
  induction n with
  | zero => intro v0 v1 v2 v3 m; exact g_no
  | succ n ih =>
    intro v0 v1 v2 v3 m
    unfold L_X7_stableBy_22
    refine g_iload_n (i := 3) dX7_stableBy_22 rfl rfl ?_
    refine g_bipush (v := (6 : Int32)) dX7_stableBy_23 kb_6 ?_
    refine g_icmpge (tgt := 59) dX7_stableBy_25 (by decide) ?_ ?_
    · refine g_iload_n (i := 2) dX7_stableBy_59 rfl rfl ?_
      exact g_ireturn rfl dX7_stableBy_60
    · refine g_aload_n (i := 0) dX7_stableBy_28 rfl rfl ?_
      refine g_getI (k := 1) cl_X7 (by decide) rfl q_220 dX7_stableBy_29 ?_
      refine g_iload_n (i := 3) dX7_stableBy_32 rfl rfl ?_
      refine g_callSNI (crt_X11_has _ _ _ _ _) cw_X11_has (by decide) rfl q_359 q_360 rfl rfl dX7_stableBy_33 ?_
      intro r5 m6
      refine g_jn (fun J53 => ∀ (v0 : Nat) (v1 : Int32) (v2 : Int32) (v3 : Int32) (m : Mm), GG Z M_X7_stableBy (PsN Z cvI) 53 [some (.ref v0), some (.int v1), some (.int v2), some (.int v3)] [] m (J53 v0 v1 v2 v3 m)) ?_ ?_
      · intro v0 v1 v2 v3 m
        refine g_iinc dX7_stableBy_53 rfl ki_1 (show 3 < 4 by decide) ?_
        intro x7
        refine g_goto (tgt := 22) dX7_stableBy_56 (by decide) ?_
        exact g_msk [true, true, true, true] (ih _ _ _ _ _)
      · intro J53 hJ53
        refine g_ifeq (tgt := 53) dX7_stableBy_36 (by decide) ?_ ?_
        · exact g_msk [true, true, true, true] (hJ53 _ _ _ _ _)
        · refine g_iload_n (i := 2) dX7_stableBy_39 rfl rfl ?_
          refine g_aload_n (i := 0) dX7_stableBy_40 rfl rfl ?_
          refine g_getR (k := 11) cl_X7 (by decide) rfl q_249 dX7_stableBy_41 ?_
          intro q8
          refine g_iload_n (i := 1) dX7_stableBy_44 rfl rfl ?_
          refine g_bipush (v := (6 : Int32)) dX7_stableBy_45 kb_6 ?_
          refine g_imul dX7_stableBy_47 ?_
          refine g_iload_n (i := 3) dX7_stableBy_48 rfl rfl ?_
          refine g_iadd dX7_stableBy_49 ?_
          refine g_iaload dX7_stableBy_50 ?_
          refine g_iand dX7_stableBy_51 ?_
          refine g_istore_n (i := 2) dX7_stableBy_52 rfl (show 2 < 4 by decide) ?_
          intro x9
          exact g_msk [true, true, true, true] (hJ53 _ _ _ _ _)
set_option maxRecDepth 100000 in
set_option maxHeartbeats 4000000 in
theorem crt_X7_stableBy (l : Launch) (θ : Th) (a0 : Nat) (a1 : Int32) (m : Mm) : Crt l θ yX7_stableBy M_X7_stableBy cvI [.ref a0, .int a1] m (F_X7_stableBy a0 a1 m) := by
  refine crt_of 2 (by decide) rfl rfl (Nat.le_of_ble_eq_true rfl) (fun Z hμ => ?_)
  unfold F_X7_stableBy
  show GG Z _ _ 0 [some (.ref a0), some (.int a1), none, none] [] m _
  refine g_iload_n (i := 1) dX7_stableBy_0 rfl rfl ?_
  refine g_iflt (tgt := 10) dX7_stableBy_1 (by decide) ?_ ?_
  · refine g_iconst (v := (0 : Int32)) dX7_stableBy_10 ki_0 ?_
    exact g_ireturn rfl dX7_stableBy_11
  · refine g_iload_n (i := 1) dX7_stableBy_4 rfl rfl ?_
    refine g_bipush (v := (6 : Int32)) dX7_stableBy_5 kb_6 ?_
    refine g_icmplt (tgt := 12) dX7_stableBy_7 (by decide) ?_ ?_
    · refine g_aload_n (i := 0) dX7_stableBy_12 rfl rfl ?_
      refine g_getI (k := 7) cl_X7 (by decide) rfl q_240 dX7_stableBy_13 ?_
      refine g_callSNI (crt_X11_allOf _ _ _ _) cw_X11_allOf (by decide) rfl q_356 q_357 rfl rfl dX7_stableBy_16 ?_
      intro r1 m2
      refine g_istore_n (i := 2) dX7_stableBy_19 rfl (show 2 < 4 by decide) ?_
      intro x3
      refine g_iconst (v := (0 : Int32)) dX7_stableBy_20 ki_0 ?_
      refine g_istore_n (i := 3) dX7_stableBy_21 rfl (show 3 < 4 by decide) ?_
      intro x4
      exact g_msk [true, true, true, true] (c_L_X7_stableBy_22 NF _ _ _ _ _)
    · refine g_iconst (v := (0 : Int32)) dX7_stableBy_10 ki_0 ?_
      exact g_ireturn rfl dX7_stableBy_11
set_option maxRecDepth 100000 in
set_option maxHeartbeats 4000000 in
theorem crt_X7_trim (l : Launch) (θ : Th) (a0 : Nat) (a1 : Int32) (m : Mm) : Crt l θ yX7_trim M_X7_trim cvI [.ref a0, .int a1] m (F_X7_trim a0 a1 m) := by
  refine crt_of 1 (by decide) rfl rfl (Nat.le_of_ble_eq_true rfl) (fun Z hμ => ?_)
  unfold F_X7_trim
  show GG Z _ _ 0 [some (.ref a0), some (.int a1), none] [] m _
  refine g_aload_n (i := 0) dX7_trim_0 rfl rfl ?_
  refine g_iload_n (i := 1) dX7_trim_1 rfl rfl ?_
  refine g_callVI cl_X7 (crt_X7_stands _ _ _ _ _) cw_X7_stands (by decide) rfl q_525 q_526 q_527 rfl rfl dX7_trim_2 ?_
  intro r1 m2
  refine g_ifne (tgt := 10) dX7_trim_5 (by decide) ?_ ?_
  · refine g_aload_n (i := 0) dX7_trim_10 rfl rfl ?_
    refine g_getR (k := 10) cl_X7 (by decide) rfl q_247 dX7_trim_11 ?_
    intro q3
    refine g_iload_n (i := 1) dX7_trim_14 rfl rfl ?_
    refine g_iaload dX7_trim_15 ?_
    refine g_aload_n (i := 0) dX7_trim_16 rfl rfl ?_
    refine g_iload_n (i := 1) dX7_trim_17 rfl rfl ?_
    refine g_callVI cl_X7 (crt_X7_stableBy _ _ _ _ _) cw_X7_stableBy (by decide) rfl q_1000 q_1001 q_1002 rfl rfl dX7_trim_18 ?_
    intro r4 m5
    refine g_iand dX7_trim_21 ?_
    refine g_istore_n (i := 2) dX7_trim_22 rfl (show 2 < 3 by decide) ?_
    intro x6
    refine g_aload_n (i := 0) dX7_trim_23 rfl rfl ?_
    refine g_getR (k := 10) cl_X7 (by decide) rfl q_247 dX7_trim_24 ?_
    intro q7
    refine g_iload_n (i := 1) dX7_trim_27 rfl rfl ?_
    refine g_dup2 dX7_trim_28 rfl rfl ?_
    refine g_iaload dX7_trim_29 ?_
    refine g_iload_n (i := 2) dX7_trim_30 rfl rfl ?_
    refine g_iconst (v := (-1 : Int32)) dX7_trim_31 ki_m1 ?_
    refine g_ixor dX7_trim_32 ?_
    refine g_iand dX7_trim_33 ?_
    refine g_iastore dX7_trim_34 ?_
    intro m8
    refine g_iload_n (i := 2) dX7_trim_35 rfl rfl ?_
    refine g_ifeq (tgt := 43) dX7_trim_36 (by decide) ?_ ?_
    · refine g_iconst (v := (0 : Int32)) dX7_trim_43 ki_0 ?_
      exact g_zreturnK rfl (by decide) dX7_trim_44
    · refine g_iconst (v := (1 : Int32)) dX7_trim_39 ki_1 ?_
      refine g_goto (tgt := 44) dX7_trim_40 (by decide) ?_
      exact g_zreturnK rfl (by decide) dX7_trim_44
  · refine g_iconst (v := (0 : Int32)) dX7_trim_8 ki_0 ?_
    exact g_zreturnK rfl (by decide) dX7_trim_9
set_option maxRecDepth 100000 in
set_option maxHeartbeats 4000000 in
theorem c_L_X7_crash_82 {Z : Zx}  {K106 : Nat → Int32 → Mm → Option (Int32 × Mm)} (hK106 : ∀ (v0 : Nat) (v2 : Int32) (m : Mm), GG Z M_X7_crash (PsN Z cvI) 106 [some (.ref v0), none, some (.int v2), none] [] m (K106 v0 v2 m)) : ∀ (n : Nat) (v0 : Nat) (v1 : Int32) (v2 : Int32) (v3 : Int32) (m : Mm), GG Z M_X7_crash (PsN Z cvI) 82 [some (.ref v0), some (.int v1), some (.int v2), some (.int v3)] [] m (L_X7_crash_82 K106 n v0 v1 v2 v3 m) := by
  intro n
  induction n with
  | zero => intro v0 v1 v2 v3 m; exact g_no
  | succ n ih =>
    intro v0 v1 v2 v3 m
    unfold L_X7_crash_82
    refine g_iload_n (i := 3) dX7_crash_82 rfl rfl ?_
    refine g_bipush (v := (6 : Int32)) dX7_crash_83 kb_6 ?_
    refine g_icmpge (tgt := 106) dX7_crash_85 (by decide) ?_ ?_
    · exact g_msk [true, false, true, false] (hK106 _ _ _)
    · refine g_aload_n (i := 0) dX7_crash_88 rfl rfl ?_
      refine g_getR (k := 11) cl_X7 (by decide) rfl q_249 dX7_crash_89 ?_
      intro q15
      refine g_iload_n (i := 1) dX7_crash_92 rfl rfl ?_
      refine g_bipush (v := (6 : Int32)) dX7_crash_93 kb_6 ?_
      refine g_imul dX7_crash_95 ?_
      refine g_iload_n (i := 3) dX7_crash_96 rfl rfl ?_
      refine g_iadd dX7_crash_97 ?_
      refine g_iconst (v := (0 : Int32)) dX7_crash_98 ki_0 ?_
      refine g_iastore dX7_crash_99 ?_
      intro m16
      refine g_iinc dX7_crash_100 rfl ki_1 (show 3 < 4 by decide) ?_
      intro x17
      refine g_goto (tgt := 82) dX7_crash_103 (by decide) ?_
      exact g_msk [true, true, true, true] (ih _ _ _ _ _)
set_option maxRecDepth 100000 in
set_option maxHeartbeats 4000000 in
theorem c_L_X7_crash_108 {Z : Zx}    : ∀ (n : Nat) (v0 : Nat) (v2 : Int32) (v3 : Int32) (m : Mm), GG Z M_X7_crash (PsN Z cvI) 108 [some (.ref v0), none, some (.int v2), some (.int v3)] [] m (L_X7_crash_108 n v0 v2 v3 m) := by
  intro n
  induction n with
  | zero => intro v0 v2 v3 m; exact g_no
  | succ n ih =>
    intro v0 v2 v3 m
    unfold L_X7_crash_108
    refine g_iload_n (i := 3) dX7_crash_108 rfl rfl ?_
    refine g_bipush (v := (30 : Int32)) dX7_crash_109 kb_30 ?_
    refine g_icmpge (tgt := 130) dX7_crash_111 (by decide) ?_ ?_
    · refine g_iconst (v := (1 : Int32)) dX7_crash_130 ki_1 ?_
      exact g_zreturnK rfl (by decide) dX7_crash_131
    · refine g_aload_n (i := 0) dX7_crash_114 rfl rfl ?_
      refine g_getR (k := 17) cl_X7 (by decide) rfl q_261 dX7_crash_115 ?_
      intro q19
      refine g_iload_n (i := 3) dX7_crash_118 rfl rfl ?_
      refine g_dup2 dX7_crash_119 rfl rfl ?_
      refine g_iaload dX7_crash_120 ?_
      refine g_iload_n (i := 2) dX7_crash_121 rfl rfl ?_
      refine g_iand dX7_crash_122 ?_
      refine g_iastore dX7_crash_123 ?_
      intro m20
      refine g_iinc dX7_crash_124 rfl ki_1 (show 3 < 4 by decide) ?_
      intro x21
      refine g_goto (tgt := 108) dX7_crash_127 (by decide) ?_
      exact g_msk [true, false, true, true] (ih _ _ _ _)
set_option maxRecDepth 100000 in
set_option maxHeartbeats 4000000 in
theorem crt_X7_crash (l : Launch) (θ : Th) (a0 : Nat) (a1 : Int32) (m : Mm) : Crt l θ yX7_crash M_X7_crash cvI [.ref a0, .int a1] m (F_X7_crash a0 a1 m) := by
  refine crt_of 2 (by decide) rfl rfl (Nat.le_of_ble_eq_true rfl) (fun Z hμ => ?_)
  unfold F_X7_crash
  show GG Z _ _ 0 [some (.ref a0), some (.int a1), none, none] [] m _
  refine g_aload_n (i := 0) dX7_crash_0 rfl rfl ?_
  refine g_getI (k := 3) cl_X7 (by decide) rfl q_225 dX7_crash_1 ?_
  refine g_iload_n (i := 1) dX7_crash_4 rfl rfl ?_
  refine g_callSNI (crt_X11_has _ _ _ _ _) cw_X11_has (by decide) rfl q_359 q_360 rfl rfl dX7_crash_5 ?_
  intro r1 m2
  refine g_ifne (tgt := 13) dX7_crash_8 (by decide) ?_ ?_
  · refine g_iconst (v := (1 : Int32)) dX7_crash_13 ki_1 ?_
    refine g_iload_n (i := 1) dX7_crash_14 rfl rfl ?_
    refine g_ishl dX7_crash_15 ?_
    refine g_iconst (v := (-1 : Int32)) dX7_crash_16 ki_m1 ?_
    refine g_ixor dX7_crash_17 ?_
    refine g_istore_n (i := 2) dX7_crash_18 rfl (show 2 < 4 by decide) ?_
    intro x3
    refine g_aload_n (i := 0) dX7_crash_19 rfl rfl ?_
    refine g_dup dX7_crash_20 rfl ?_
    refine g_getI (k := 3) cl_X7 (by decide) rfl q_225 dX7_crash_21 ?_
    refine g_iload_n (i := 2) dX7_crash_24 rfl rfl ?_
    refine g_iand dX7_crash_25 ?_
    refine g_putI (k := 3) cl_X7 (by decide) rfl rfl q_225 dX7_crash_26 ?_
    intro m4
    refine g_aload_n (i := 0) dX7_crash_29 rfl rfl ?_
    refine g_dup dX7_crash_30 rfl ?_
    refine g_getI (k := 2) cl_X7 (by decide) rfl q_224 dX7_crash_31 ?_
    refine g_iload_n (i := 2) dX7_crash_34 rfl rfl ?_
    refine g_iand dX7_crash_35 ?_
    refine g_putI (k := 2) cl_X7 (by decide) rfl rfl q_224 dX7_crash_36 ?_
    intro m5
    refine g_aload_n (i := 0) dX7_crash_39 rfl rfl ?_
    refine g_dup dX7_crash_40 rfl ?_
    refine g_getI (k := 4) cl_X7 (by decide) rfl q_229 dX7_crash_41 ?_
    refine g_iload_n (i := 2) dX7_crash_44 rfl rfl ?_
    refine g_iand dX7_crash_45 ?_
    refine g_putI (k := 4) cl_X7 (by decide) rfl rfl q_229 dX7_crash_46 ?_
    intro m6
    refine g_aload_n (i := 0) dX7_crash_49 rfl rfl ?_
    refine g_dup dX7_crash_50 rfl ?_
    refine g_getI (k := 5) cl_X7 (by decide) rfl q_233 dX7_crash_51 ?_
    refine g_iload_n (i := 2) dX7_crash_54 rfl rfl ?_
    refine g_iand dX7_crash_55 ?_
    refine g_putI (k := 5) cl_X7 (by decide) rfl rfl q_233 dX7_crash_56 ?_
    intro m7
    refine g_aload_n (i := 0) dX7_crash_59 rfl rfl ?_
    refine g_getR (k := 12) cl_X7 (by decide) rfl q_251 dX7_crash_60 ?_
    intro q8
    refine g_iload_n (i := 1) dX7_crash_63 rfl rfl ?_
    refine g_iconst (v := (0 : Int32)) dX7_crash_64 ki_0 ?_
    refine g_iastore dX7_crash_65 ?_
    intro m9
    refine g_aload_n (i := 0) dX7_crash_66 rfl rfl ?_
    refine g_getR (k := 9) cl_X7 (by decide) rfl q_245 dX7_crash_67 ?_
    intro q10
    refine g_iload_n (i := 1) dX7_crash_70 rfl rfl ?_
    refine g_iconst (v := (0 : Int32)) dX7_crash_71 ki_0 ?_
    refine g_iastore dX7_crash_72 ?_
    intro m11
    refine g_aload_n (i := 0) dX7_crash_73 rfl rfl ?_
    refine g_getR (k := 10) cl_X7 (by decide) rfl q_247 dX7_crash_74 ?_
    intro q12
    refine g_iload_n (i := 1) dX7_crash_77 rfl rfl ?_
    refine g_iconst (v := (0 : Int32)) dX7_crash_78 ki_0 ?_
    refine g_iastore dX7_crash_79 ?_
    intro m13
    refine g_iconst (v := (0 : Int32)) dX7_crash_80 ki_0 ?_
    refine g_istore_n (i := 3) dX7_crash_81 rfl (show 3 < 4 by decide) ?_
    intro x14
    refine g_msk [true, true, true, true] (c_L_X7_crash_82 ?_ NF _ _ _ _ _)
    intro v0 v2 m
    refine g_iconst (v := (0 : Int32)) dX7_crash_106 ki_0 ?_
    refine g_istore_n (i := 3) dX7_crash_107 rfl (show 3 < 4 by decide) ?_
    intro x18
    exact g_msk [true, false, true, true] (c_L_X7_crash_108 NF _ _ _ _)
  · refine g_iconst (v := (0 : Int32)) dX7_crash_11 ki_0 ?_
    exact g_zreturnK rfl (by decide) dX7_crash_12
set_option maxRecDepth 100000 in
set_option maxHeartbeats 4000000 in
theorem crt_X7_join (l : Launch) (θ : Th) (a0 : Nat) (a1 : Int32) (m : Mm) : Crt l θ yX7_join M_X7_join cvI [.ref a0, .int a1] m (F_X7_join a0 a1 m) := by
  refine crt_of 0 (by decide) rfl rfl (Nat.le_of_ble_eq_true rfl) (fun Z hμ => ?_)
  unfold F_X7_join
  show GG Z _ _ 0 [some (.ref a0), some (.int a1)] [] m _
  refine g_aload_n (i := 0) dX7_join_0 rfl rfl ?_
  refine g_iload_n (i := 1) dX7_join_1 rfl rfl ?_
  refine g_callVI cl_X7 (crt_X7_stands _ _ _ _ _) cw_X7_stands (by decide) rfl q_525 q_526 q_527 rfl rfl dX7_join_2 ?_
  intro r1 m2
  refine g_ifne (tgt := 19) dX7_join_5 (by decide) ?_ ?_
  · refine g_iconst (v := (0 : Int32)) dX7_join_19 ki_0 ?_
    exact g_zreturnK rfl (by decide) dX7_join_20
  · refine g_aload_n (i := 0) dX7_join_8 rfl rfl ?_
    refine g_getI (k := 5) cl_X7 (by decide) rfl q_233 dX7_join_9 ?_
    refine g_iload_n (i := 1) dX7_join_12 rfl rfl ?_
    refine g_callSNI (crt_X11_has _ _ _ _ _) cw_X11_has (by decide) rfl q_359 q_360 rfl rfl dX7_join_13 ?_
    intro r3 m4
    refine g_ifeq (tgt := 21) dX7_join_16 (by decide) ?_ ?_
    · refine g_aload_n (i := 0) dX7_join_21 rfl rfl ?_
      refine g_dup dX7_join_22 rfl ?_
      refine g_getI (k := 3) cl_X7 (by decide) rfl q_225 dX7_join_23 ?_
      refine g_iconst (v := (1 : Int32)) dX7_join_26 ki_1 ?_
      refine g_iload_n (i := 1) dX7_join_27 rfl rfl ?_
      refine g_ishl dX7_join_28 ?_
      refine g_ior dX7_join_29 ?_
      refine g_putI (k := 3) cl_X7 (by decide) rfl rfl q_225 dX7_join_30 ?_
      intro m5
      refine g_aload_n (i := 0) dX7_join_33 rfl rfl ?_
      refine g_dup dX7_join_34 rfl ?_
      refine g_getI (k := 5) cl_X7 (by decide) rfl q_233 dX7_join_35 ?_
      refine g_iconst (v := (1 : Int32)) dX7_join_38 ki_1 ?_
      refine g_iload_n (i := 1) dX7_join_39 rfl rfl ?_
      refine g_ishl dX7_join_40 ?_
      refine g_ior dX7_join_41 ?_
      refine g_putI (k := 5) cl_X7 (by decide) rfl rfl q_233 dX7_join_42 ?_
      intro m6
      refine g_iconst (v := (1 : Int32)) dX7_join_45 ki_1 ?_
      exact g_zreturnK rfl (by decide) dX7_join_46
    · refine g_iconst (v := (0 : Int32)) dX7_join_19 ki_0 ?_
      exact g_zreturnK rfl (by decide) dX7_join_20
set_option maxRecDepth 100000 in
set_option maxHeartbeats 4000000 in
theorem crt_X7_part (l : Launch) (θ : Th) (a0 : Nat) (a1 : Int32) (m : Mm) : Crt l θ yX7_part M_X7_part cvI [.ref a0, .int a1] m (F_X7_part a0 a1 m) := by
  refine crt_of 0 (by decide) rfl rfl (Nat.le_of_ble_eq_true rfl) (fun Z hμ => ?_)
  unfold F_X7_part
  show GG Z _ _ 0 [some (.ref a0), some (.int a1)] [] m _
  refine g_aload_n (i := 0) dX7_part_0 rfl rfl ?_
  refine g_getI (k := 6) cl_X7 (by decide) rfl q_236 dX7_part_1 ?_
  refine g_iload_n (i := 1) dX7_part_4 rfl rfl ?_
  refine g_icmpne (tgt := 10) dX7_part_5 (by decide) ?_ ?_
  · refine g_aload_n (i := 0) dX7_part_10 rfl rfl ?_
    refine g_iload_n (i := 1) dX7_part_11 rfl rfl ?_
    refine g_putI (k := 6) cl_X7 (by decide) rfl rfl q_236 dX7_part_12 ?_
    intro m1
    refine g_iconst (v := (1 : Int32)) dX7_part_15 ki_1 ?_
    exact g_zreturnK rfl (by decide) dX7_part_16
  · refine g_iconst (v := (0 : Int32)) dX7_part_8 ki_0 ?_
    exact g_zreturnK rfl (by decide) dX7_part_9
set_option maxRecDepth 100000 in
set_option maxHeartbeats 4000000 in
theorem crt_X7_lackOf (l : Launch) (θ : Th) (a0 : Nat) (a1 : Int32) (a2 : Int32) (m : Mm) : Crt l θ yX7_lackOf M_X7_lackOf cvI [.ref a0, .int a1, .int a2] m (F_X7_lackOf a0 a1 a2 m) := by
  refine crt_of 0 (by decide) rfl rfl (Nat.le_of_ble_eq_true rfl) (fun Z hμ => ?_)
  unfold F_X7_lackOf
  show GG Z _ _ 0 [some (.ref a0), some (.int a1), some (.int a2)] [] m _
  refine g_iload_n (i := 2) dX7_lackOf_0 rfl rfl ?_
  refine g_iload_n (i := 1) dX7_lackOf_1 rfl rfl ?_
  refine g_callSNI (crt_X11_has _ _ _ _ _) cw_X11_has (by decide) rfl q_359 q_360 rfl rfl dX7_lackOf_2 ?_
  intro r1 m2
  refine g_ifeq (tgt := 25) dX7_lackOf_5 (by decide) ?_ ?_
  · refine g_iconst (v := (0 : Int32)) dX7_lackOf_25 ki_0 ?_
    exact g_ireturn rfl dX7_lackOf_26
  · refine g_aload_n (i := 0) dX7_lackOf_8 rfl rfl ?_
    refine g_iload_n (i := 2) dX7_lackOf_9 rfl rfl ?_
    refine g_callVI cl_X7 (crt_X7_keptBy _ _ _ _ _) cw_X7_keptBy (by decide) rfl q_558 q_560 qs_5 rfl rfl dX7_lackOf_10 ?_
    intro r3 m4
    refine g_aload_n (i := 0) dX7_lackOf_13 rfl rfl ?_
    refine g_getR (k := 9) cl_X7 (by decide) rfl q_245 dX7_lackOf_14 ?_
    intro q5
    refine g_iload_n (i := 1) dX7_lackOf_17 rfl rfl ?_
    refine g_iaload dX7_lackOf_18 ?_
    refine g_iconst (v := (-1 : Int32)) dX7_lackOf_19 ki_m1 ?_
    refine g_ixor dX7_lackOf_20 ?_
    refine g_iand dX7_lackOf_21 ?_
    refine g_goto (tgt := 26) dX7_lackOf_22 (by decide) ?_
    exact g_ireturn rfl dX7_lackOf_26
