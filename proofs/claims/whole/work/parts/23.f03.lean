abbrev M_X11_stable : MI := (cX11_stable, RX11, 2, 10, 141, (some .int), "stable")
theorem cw_X11_stable : CwOk M_X11_stable yX11_stable 1 := ⟨q_1217, q_1, by decide +kernel⟩
def F_X11_stable (a0 : Nat) (a1 : Int32) (m : Mm) : Option ((Int32 ⊕ Nat) × Mm) :=
 gd (okO m a0 11) (bx (F_X11_needMember a0 a1 m) (fun r1 m2 =>
 gd (okO m2 a0 11) (oc (rR m2 a0 6) none fun q3 =>
 gd (okO m2 q3 7) (bd (F_X7_stableBy q3 a1 m2) fun r4 m5 =>
 some ((.inl r4), m5)))) (fun k m => some (.inr k, m)))
set_option maxRecDepth 100000 in
set_option maxHeartbeats 4000000 in
theorem crt_X11_stable (l : Launch) (θ : Th) (a0 : Nat) (a1 : Int32) (m : Mm) : CrtX l θ yX11_stable M_X11_stable cvI [.ref a0, .int a1] m (F_X11_stable a0 a1 m) := by
  refine crtx_of 0 (by decide) rfl rfl (Nat.le_of_ble_eq_true rfl) (fun Z hμ ht => ?_)
  unfold F_X11_stable
  show GG Z _ _ 0 [some (.ref a0), some (.int a1)] [] m _
  refine g_aload_n (i := 0) dX11_stable_0 rfl rfl ?_
  refine g_iload_n (i := 1) dX11_stable_1 rfl rfl ?_
  refine g_callXVV ht cl_X11 (crt_X11_needMember _ _ _ _ _) cw_X11_needMember (by decide) rfl q_1082 q_1084 qs_31 rfl rfl dX11_stable_2 ?_
  intro r1 m2
  refine g_aload_n (i := 0) dX11_stable_5 rfl rfl ?_
  refine g_getR (k := 6) cl_X11 (by decide) rfl q_372 dX11_stable_6 ?_
  intro q3
  refine g_iload_n (i := 1) dX11_stable_9 rfl rfl ?_
  refine g_callVI cl_X7 (crt_X7_stableBy _ _ _ _ _) cw_X7_stableBy (by decide) rfl q_1218 q_1001 q_1002 rfl rfl dX11_stable_10 ?_
  intro r4 m5
  exact g_ireturnX rfl dX11_stable_13
abbrev M_X11_would : MI := (cX11_would, RX11, 5, 10, 141, (some .int), "would")
theorem cw_X11_would : CwOk M_X11_would yX11_would 4 := ⟨q_1225, q_1, by decide +kernel⟩
def F_X11_would (a0 : Nat) (a1 : Int32) (a2 : Int32) (a3 : Int32) (a4 : Int32) (m : Mm) : Option ((Int32 ⊕ Nat) × Mm) :=
 bd (F_X11_isWithin a1 (0 : Int32) (5 : Int32) m) fun r1 m2 =>
 jn (fun (v0 : Nat) (v1 : Int32) (v2 : Int32) (v3 : Int32) (v4 : Int32) (s0 : Int32) (s1 : Nat) (m : Mm) =>
 gd (okO m s1 11) (bx (F_X11_need s1 s0 m) (fun r3 m4 =>
 bd (F_X11_isWithin v3 (0 : Int32) (9999 : Int32) m4) fun r5 m6 =>
 jn (fun (v0 : Nat) (v1 : Int32) (v2 : Int32) (v3 : Int32) (v4 : Int32) (s0 : Int32) (s1 : Nat) (m : Mm) =>
 gd (okO m s1 11) (bx (F_X11_need s1 s0 m) (fun r7 m8 =>
 gd (okO m8 v0 11) (oc (rR m8 v0 2) none fun q9 =>
 gd (okO m8 q9 3) (bd (F_X3_weigh q9 v1 v2 v3 v4 m8) fun r10 m11 =>
 some ((.inl r10), m11)))) (fun k m => some (.inr k, m)))) fun J57 =>
 jn (fun (v0 : Nat) (v1 : Int32) (v2 : Int32) (v3 : Int32) (v4 : Int32) (s0 : Nat) (m : Mm) =>
 J57 v0 v1 v2 v3 v4 (0 : Int32) s0 m) fun J56 =>
 if r5 = 0 then (
 J56 v0 v1 v2 v3 v4 v0 m6)
 else (
 bd (F_X11_isWithin v4 (0 : Int32) (6 : Int32) m6) fun r12 m13 =>
 if r12 = 0 then (
 J56 v0 v1 v2 v3 v4 v0 m13)
 else (
 J57 v0 v1 v2 v3 v4 (1 : Int32) v0 m13))) (fun k m => some (.inr k, m)))) fun J26 =>
 jn (fun (v0 : Nat) (v1 : Int32) (v2 : Int32) (v3 : Int32) (v4 : Int32) (s0 : Nat) (m : Mm) =>
 J26 v0 v1 v2 v3 v4 (0 : Int32) s0 m) fun J25 =>
 if r1 = 0 then (
 J25 a0 a1 a2 a3 a4 a0 m2)
 else (
 bd (F_X11_isWithin a2 (0 : Int32) (9999 : Int32) m2) fun r14 m15 =>
 if r14 = 0 then (
 J25 a0 a1 a2 a3 a4 a0 m15)
 else (
 J26 a0 a1 a2 a3 a4 (1 : Int32) a0 m15))
set_option maxRecDepth 100000 in
set_option maxHeartbeats 4000000 in
theorem crt_X11_would (l : Launch) (θ : Th) (a0 : Nat) (a1 : Int32) (a2 : Int32) (a3 : Int32) (a4 : Int32) (m : Mm) : CrtX l θ yX11_would M_X11_would cvI [.ref a0, .int a1, .int a2, .int a3, .int a4] m (F_X11_would a0 a1 a2 a3 a4 m) := by
  refine crtx_of 0 (by decide) rfl rfl (Nat.le_of_ble_eq_true rfl) (fun Z hμ ht => ?_)
  unfold F_X11_would
  show GG Z _ _ 0 [some (.ref a0), some (.int a1), some (.int a2), some (.int a3), some (.int a4)] [] m _
  refine g_aload_n (i := 0) dX11_would_0 rfl rfl ?_
  refine g_iload_n (i := 1) dX11_would_1 rfl rfl ?_
  refine g_iconst (v := (0 : Int32)) dX11_would_2 ki_0 ?_
  refine g_iconst (v := (5 : Int32)) dX11_would_3 ki_5 ?_
  refine g_callSI (crt_X11_isWithin _ _ _ _ _ _) cw_X11_isWithin (by decide) rfl q_627 q_628 rfl rfl dX11_would_4 ?_
  intro r1 m2
  refine g_jn (fun J26 => ∀ (v0 : Nat) (v1 : Int32) (v2 : Int32) (v3 : Int32) (v4 : Int32) (s0 : Int32) (s1 : Nat) (m : Mm), GG Z M_X11_would (PsX Z cvI) 26 [some (.ref v0), some (.int v1), some (.int v2), some (.int v3), some (.int v4)] [.int s0, .ref s1] m (J26 v0 v1 v2 v3 v4 s0 s1 m)) ?_ ?_
  · intro v0 v1 v2 v3 v4 s0 s1 m
    refine g_callXVV ht cl_X11 (crt_X11_need _ _ _ _ _) cw_X11_need (by decide) rfl q_647 q_649 qs_12 rfl rfl dX11_would_26 ?_
    intro r3 m4
    refine g_aload_n (i := 0) dX11_would_29 rfl rfl ?_
    refine g_iload_n (i := 3) dX11_would_30 rfl rfl ?_
    refine g_iconst (v := (0 : Int32)) dX11_would_31 ki_0 ?_
    refine g_sipush (v := (9999 : Int32)) dX11_would_32 ks_9999 ?_
    refine g_callSI (crt_X11_isWithin _ _ _ _ _ _) cw_X11_isWithin (by decide) rfl q_627 q_628 rfl rfl dX11_would_35 ?_
    intro r5 m6
    refine g_jn (fun J57 => ∀ (v0 : Nat) (v1 : Int32) (v2 : Int32) (v3 : Int32) (v4 : Int32) (s0 : Int32) (s1 : Nat) (m : Mm), GG Z M_X11_would (PsX Z cvI) 57 [some (.ref v0), some (.int v1), some (.int v2), some (.int v3), some (.int v4)] [.int s0, .ref s1] m (J57 v0 v1 v2 v3 v4 s0 s1 m)) ?_ ?_
    · intro v0 v1 v2 v3 v4 s0 s1 m
      refine g_callXVV ht cl_X11 (crt_X11_need _ _ _ _ _) cw_X11_need (by decide) rfl q_647 q_649 qs_12 rfl rfl dX11_would_57 ?_
      intro r7 m8
      refine g_aload_n (i := 0) dX11_would_60 rfl rfl ?_
      refine g_getR (k := 2) cl_X11 (by decide) rfl q_368 dX11_would_61 ?_
      intro q9
      refine g_iload_n (i := 1) dX11_would_64 rfl rfl ?_
      refine g_iload_n (i := 2) dX11_would_65 rfl rfl ?_
      refine g_iload_n (i := 3) dX11_would_66 rfl rfl ?_
      refine g_iload dX11_would_67 rfl ?_
      refine g_callVI cl_X3 (crt_X3_weigh _ _ _ _ _ _ _ _) cw_X3_weigh (by decide) rfl q_1103 q_462 q_463 rfl rfl dX11_would_69 ?_
      intro r10 m11
      exact g_ireturnX rfl dX11_would_72
    · intro J57 hJ57
      refine g_jn (fun J56 => ∀ (v0 : Nat) (v1 : Int32) (v2 : Int32) (v3 : Int32) (v4 : Int32) (s0 : Nat) (m : Mm), GG Z M_X11_would (PsX Z cvI) 56 [some (.ref v0), some (.int v1), some (.int v2), some (.int v3), some (.int v4)] [.ref s0] m (J56 v0 v1 v2 v3 v4 s0 m)) ?_ ?_
      · intro v0 v1 v2 v3 v4 s0 m
        refine g_iconst (v := (0 : Int32)) dX11_would_56 ki_0 ?_
        exact g_msk [true, true, true, true, true] (hJ57 _ _ _ _ _ _ _ _)
      · intro J56 hJ56
        refine g_ifeq (tgt := 56) dX11_would_38 (by decide) ?_ ?_
        · exact g_msk [true, true, true, true, true] (hJ56 _ _ _ _ _ _ _)
        · refine g_iload dX11_would_41 rfl ?_
          refine g_iconst (v := (0 : Int32)) dX11_would_43 ki_0 ?_
          refine g_bipush (v := (6 : Int32)) dX11_would_44 kb_6 ?_
          refine g_callSI (crt_X11_isWithin _ _ _ _ _ _) cw_X11_isWithin (by decide) rfl q_627 q_628 rfl rfl dX11_would_46 ?_
          intro r12 m13
          refine g_ifeq (tgt := 56) dX11_would_49 (by decide) ?_ ?_
          · exact g_msk [true, true, true, true, true] (hJ56 _ _ _ _ _ _ _)
          · refine g_iconst (v := (1 : Int32)) dX11_would_52 ki_1 ?_
            refine g_goto (tgt := 57) dX11_would_53 (by decide) ?_
            exact g_msk [true, true, true, true, true] (hJ57 _ _ _ _ _ _ _ _)
  · intro J26 hJ26
    refine g_jn (fun J25 => ∀ (v0 : Nat) (v1 : Int32) (v2 : Int32) (v3 : Int32) (v4 : Int32) (s0 : Nat) (m : Mm), GG Z M_X11_would (PsX Z cvI) 25 [some (.ref v0), some (.int v1), some (.int v2), some (.int v3), some (.int v4)] [.ref s0] m (J25 v0 v1 v2 v3 v4 s0 m)) ?_ ?_
    · intro v0 v1 v2 v3 v4 s0 m
      refine g_iconst (v := (0 : Int32)) dX11_would_25 ki_0 ?_
      exact g_msk [true, true, true, true, true] (hJ26 _ _ _ _ _ _ _ _)
    · intro J25 hJ25
      refine g_ifeq (tgt := 25) dX11_would_7 (by decide) ?_ ?_
      · exact g_msk [true, true, true, true, true] (hJ25 _ _ _ _ _ _ _)
      · refine g_iload_n (i := 2) dX11_would_10 rfl rfl ?_
        refine g_iconst (v := (0 : Int32)) dX11_would_11 ki_0 ?_
        refine g_sipush (v := (9999 : Int32)) dX11_would_12 ks_9999 ?_
        refine g_callSI (crt_X11_isWithin _ _ _ _ _ _) cw_X11_isWithin (by decide) rfl q_627 q_628 rfl rfl dX11_would_15 ?_
        intro r14 m15
        refine g_ifeq (tgt := 25) dX11_would_18 (by decide) ?_ ?_
        · exact g_msk [true, true, true, true, true] (hJ25 _ _ _ _ _ _ _)
        · refine g_iconst (v := (1 : Int32)) dX11_would_21 ki_1 ?_
          refine g_goto (tgt := 26) dX11_would_22 (by decide) ?_
          exact g_msk [true, true, true, true, true] (hJ26 _ _ _ _ _ _ _ _)
abbrev M_X11_missing : MI := (cX11_missing, RX11, 2, 10, 141, (some .int), "missing")
theorem cw_X11_missing : CwOk M_X11_missing yX11_missing 1 := ⟨q_1232, q_1, by decide +kernel⟩
def F_X11_missing (a0 : Nat) (a1 : Int32) (m : Mm) : Option ((Int32 ⊕ Nat) × Mm) :=
 gd (okO m a0 11) (bx (F_X11_needMember a0 a1 m) (fun r1 m2 =>
 gd (okO m2 a0 11) (oc (rR m2 a0 6) none fun q3 =>
 gd (okO m2 a0 11) (oc (rR m2 a0 5) none fun q4 =>
 gd (okO m2 a0 11) (oc (rR m2 a0 6) none fun q5 =>
 gd (okO m2 q4 6) (bd (F_X6_survivorsNow q4 q5 m2) fun r6 m7 =>
 gd (okO m7 q3 7) (bd (F_X7_lackOf q3 a1 r6 m7) fun r8 m9 =>
 some ((.inl r8), m9))))))) (fun k m => some (.inr k, m)))
set_option maxRecDepth 100000 in
set_option maxHeartbeats 4000000 in
theorem crt_X11_missing (l : Launch) (θ : Th) (a0 : Nat) (a1 : Int32) (m : Mm) : CrtX l θ yX11_missing M_X11_missing cvI [.ref a0, .int a1] m (F_X11_missing a0 a1 m) := by
  refine crtx_of 0 (by decide) rfl rfl (Nat.le_of_ble_eq_true rfl) (fun Z hμ ht => ?_)
  unfold F_X11_missing
  show GG Z _ _ 0 [some (.ref a0), some (.int a1)] [] m _
  refine g_aload_n (i := 0) dX11_missing_0 rfl rfl ?_
  refine g_iload_n (i := 1) dX11_missing_1 rfl rfl ?_
  refine g_callXVV ht cl_X11 (crt_X11_needMember _ _ _ _ _) cw_X11_needMember (by decide) rfl q_1082 q_1084 qs_31 rfl rfl dX11_missing_2 ?_
  intro r1 m2
  refine g_aload_n (i := 0) dX11_missing_5 rfl rfl ?_
  refine g_getR (k := 6) cl_X11 (by decide) rfl q_372 dX11_missing_6 ?_
  intro q3
  refine g_iload_n (i := 1) dX11_missing_9 rfl rfl ?_
  refine g_aload_n (i := 0) dX11_missing_10 rfl rfl ?_
  refine g_getR (k := 5) cl_X11 (by decide) rfl q_371 dX11_missing_11 ?_
  intro q4
  refine g_aload_n (i := 0) dX11_missing_14 rfl rfl ?_
  refine g_getR (k := 6) cl_X11 (by decide) rfl q_372 dX11_missing_15 ?_
  intro q5
  refine g_callVI cl_X6 (crt_X6_survivorsNow _ _ _ _ _) cw_X6_survivorsNow (by decide) rfl q_542 q_543 q_544 rfl rfl dX11_missing_18 ?_
  intro r6 m7
  refine g_callVI cl_X7 (crt_X7_lackOf _ _ _ _ _ _) cw_X7_lackOf (by decide) rfl q_1233 q_555 q_556 rfl rfl dX11_missing_21 ?_
  intro r8 m9
  exact g_ireturnX rfl dX11_missing_24
abbrev M_X11_next : MI := (cX11_next, RX11, 2, 10, 141, (some .int), "next")
theorem cw_X11_next : CwOk M_X11_next yX11_next 1 := ⟨q_1240, q_1, by decide +kernel⟩
def F_X11_next (a0 : Nat) (a1 : Int32) (m : Mm) : Option ((Int32 ⊕ Nat) × Mm) :=
 gd (okO m a0 11) (bx (F_X11_needMember a0 a1 m) (fun r1 m2 =>
 gd (okO m2 a0 11) (oc (rR m2 a0 6) none fun q3 =>
 gd (okO m2 q3 7) (bd (F_X7_firstOnTheWay q3 a1 (1 : Int32) m2) fun r4 m5 =>
 some ((.inl r4), m5)))) (fun k m => some (.inr k, m)))
set_option maxRecDepth 100000 in
set_option maxHeartbeats 4000000 in
theorem crt_X11_next (l : Launch) (θ : Th) (a0 : Nat) (a1 : Int32) (m : Mm) : CrtX l θ yX11_next M_X11_next cvI [.ref a0, .int a1] m (F_X11_next a0 a1 m) := by
  refine crtx_of 0 (by decide) rfl rfl (Nat.le_of_ble_eq_true rfl) (fun Z hμ ht => ?_)
  unfold F_X11_next
  show GG Z _ _ 0 [some (.ref a0), some (.int a1)] [] m _
  refine g_aload_n (i := 0) dX11_next_0 rfl rfl ?_
  refine g_iload_n (i := 1) dX11_next_1 rfl rfl ?_
  refine g_callXVV ht cl_X11 (crt_X11_needMember _ _ _ _ _) cw_X11_needMember (by decide) rfl q_1082 q_1084 qs_31 rfl rfl dX11_next_2 ?_
  intro r1 m2
  refine g_aload_n (i := 0) dX11_next_5 rfl rfl ?_
  refine g_getR (k := 6) cl_X11 (by decide) rfl q_372 dX11_next_6 ?_
  intro q3
  refine g_iload_n (i := 1) dX11_next_9 rfl rfl ?_
  refine g_iconst (v := (1 : Int32)) dX11_next_10 ki_1 ?_
  refine g_callVI cl_X7 (crt_X7_firstOnTheWay _ _ _ _ _ _) cw_X7_firstOnTheWay (by decide) rfl q_1241 q_985 q_986 rfl rfl dX11_next_11 ?_
  intro r4 m5
  exact g_ireturnX rfl dX11_next_14
abbrev M_X11_held : MI := (cX11_held, RX11, 3, 10, 141, (some .int), "held")
theorem cw_X11_held : CwOk M_X11_held yX11_held 2 := ⟨q_1248, q_1, by decide +kernel⟩
def F_X11_held (a0 : Nat) (a1 : Int32) (a2 : Int32) (m : Mm) : Option ((Int32 ⊕ Nat) × Mm) :=
 gd (okO m a0 11) (bx (F_X11_needMember a0 a1 m) (fun r1 m2 =>
 jn (fun (v0 : Nat) (v1 : Int32) (v2 : Int32) (s0 : Int32) (s1 : Nat) (m : Mm) =>
 gd (okO m s1 11) (bx (F_X11_need s1 s0 m) (fun r3 m4 =>
 if (8 : Int32) ≤ v2 then (
 some ((.inl (-1 : Int32)), m4))
 else (
 gd (okO m4 v0 11) (oc (rR m4 v0 6) none fun q5 =>
 gd (okO m4 q5 7) (oc (rR m4 q5 12) none fun q6 =>
 gd (okA m4 100 q6 v1) (
 if v2 < (rI m4 q6 (ix v1)) then (
 gd (okO m4 v0 11) (oc (rR m4 v0 6) none fun q7 =>
 gd (okO m4 q7 7) (oc (rR m4 q7 13) none fun q8 =>
 gd (okA m4 100 q8 ((v1 * (8 : Int32)) + v2)) (
 some ((.inl (rI m4 q8 (ix ((v1 * (8 : Int32)) + v2)))), m4)))))
 else (
 some ((.inl (-1 : Int32)), m4))))))) (fun k m => some (.inr k, m)))) fun J15 =>
 if a2 < 0 then (
 J15 a0 a1 a2 (0 : Int32) a0 m2)
 else (
 J15 a0 a1 a2 (1 : Int32) a0 m2)) (fun k m => some (.inr k, m)))
set_option maxRecDepth 100000 in
set_option maxHeartbeats 4000000 in
theorem crt_X11_held (l : Launch) (θ : Th) (a0 : Nat) (a1 : Int32) (a2 : Int32) (m : Mm) : CrtX l θ yX11_held M_X11_held cvI [.ref a0, .int a1, .int a2] m (F_X11_held a0 a1 a2 m) := by
  refine crtx_of 0 (by decide) rfl rfl (Nat.le_of_ble_eq_true rfl) (fun Z hμ ht => ?_)
  unfold F_X11_held
  show GG Z _ _ 0 [some (.ref a0), some (.int a1), some (.int a2)] [] m _
  refine g_aload_n (i := 0) dX11_held_0 rfl rfl ?_
  refine g_iload_n (i := 1) dX11_held_1 rfl rfl ?_
  refine g_callXVV ht cl_X11 (crt_X11_needMember _ _ _ _ _) cw_X11_needMember (by decide) rfl q_1082 q_1084 qs_31 rfl rfl dX11_held_2 ?_
  intro r1 m2
  refine g_aload_n (i := 0) dX11_held_5 rfl rfl ?_
  refine g_iload_n (i := 2) dX11_held_6 rfl rfl ?_
  refine g_jn (fun J15 => ∀ (v0 : Nat) (v1 : Int32) (v2 : Int32) (s0 : Int32) (s1 : Nat) (m : Mm), GG Z M_X11_held (PsX Z cvI) 15 [some (.ref v0), some (.int v1), some (.int v2)] [.int s0, .ref s1] m (J15 v0 v1 v2 s0 s1 m)) ?_ ?_
  · intro v0 v1 v2 s0 s1 m
    refine g_callXVV ht cl_X11 (crt_X11_need _ _ _ _ _) cw_X11_need (by decide) rfl q_647 q_649 qs_12 rfl rfl dX11_held_15 ?_
    intro r3 m4
    refine g_iload_n (i := 2) dX11_held_18 rfl rfl ?_
    refine g_bipush (v := (8 : Int32)) dX11_held_19 kb_8 ?_
    refine g_icmpge (tgt := 37) dX11_held_21 (by decide) ?_ ?_
    · refine g_iconst (v := (-1 : Int32)) dX11_held_37 ki_m1 ?_
      exact g_ireturnX rfl dX11_held_38
    · refine g_iload_n (i := 2) dX11_held_24 rfl rfl ?_
      refine g_aload_n (i := 0) dX11_held_25 rfl rfl ?_
      refine g_getR (k := 6) cl_X11 (by decide) rfl q_372 dX11_held_26 ?_
      intro q5
      refine g_getRN (k := 12) cl_X7 (by decide) rfl q_252 dX11_held_29 ?_
      intro q6
      refine g_iload_n (i := 1) dX11_held_32 rfl rfl ?_
      refine g_iaload dX11_held_33 ?_
      refine g_icmplt (tgt := 39) dX11_held_34 (by decide) ?_ ?_
      · refine g_aload_n (i := 0) dX11_held_39 rfl rfl ?_
        refine g_getR (k := 6) cl_X11 (by decide) rfl q_372 dX11_held_40 ?_
        intro q7
        refine g_getRN (k := 13) cl_X7 (by decide) rfl q_254 dX11_held_43 ?_
        intro q8
        refine g_iload_n (i := 1) dX11_held_46 rfl rfl ?_
        refine g_bipush (v := (8 : Int32)) dX11_held_47 kb_8 ?_
        refine g_imul dX11_held_49 ?_
        refine g_iload_n (i := 2) dX11_held_50 rfl rfl ?_
        refine g_iadd dX11_held_51 ?_
        refine g_iaload dX11_held_52 ?_
        exact g_ireturnX rfl dX11_held_53
      · refine g_iconst (v := (-1 : Int32)) dX11_held_37 ki_m1 ?_
        exact g_ireturnX rfl dX11_held_38
  · intro J15 hJ15
    refine g_iflt (tgt := 14) dX11_held_7 (by decide) ?_ ?_
    · refine g_iconst (v := (0 : Int32)) dX11_held_14 ki_0 ?_
      exact g_msk [true, true, true] (hJ15 _ _ _ _ _ _)
    · refine g_iconst (v := (1 : Int32)) dX11_held_10 ki_1 ?_
      refine g_goto (tgt := 15) dX11_held_11 (by decide) ?_
      exact g_msk [true, true, true] (hJ15 _ _ _ _ _ _)
abbrev M_X11_fits : MI := (cX11_fits, RX11, 2, 10, 141, (some .int), "fits")
theorem cw_X11_fits : CwOk M_X11_fits yX11_fits 1 := ⟨q_1255, q_1, by decide +kernel⟩
def F_X11_fits (a0 : Nat) (a1 : Int32) (m : Mm) : Option ((Int32 ⊕ Nat) × Mm) :=
 bd (F_X11_isWithin a1 (0 : Int32) (1 : Int32) m) fun r1 m2 =>
 gd (okO m2 a0 11) (bx (F_X11_need a0 r1 m2) (fun r3 m4 =>
 gd (okO m4 a0 11) (oc (rR m4 a0 4) none fun q5 =>
 gd (okO m4 a0 11) (oc (rR m4 a0 6) none fun q6 =>
 gd (okO m4 a0 11) (oc (rR m4 a0 5) none fun q7 =>
 gd (okO m4 q5 0) (bd (F_X0_sift q5 q6 q7 m4) fun r8 m9 =>
 if a1 = 0 then (
 gd (okO m9 a0 11) (oc (rR m9 a0 4) none fun q11 =>
 gd (okO m9 q11 0) (
 some ((.inl (rI m9 q11 3)), m9))))
 else (
 gd (okO m9 a0 11) (oc (rR m9 a0 4) none fun q10 =>
 gd (okO m9 q10 0) (
 some ((.inl (rI m9 q10 4)), m9))))))))) (fun k m => some (.inr k, m)))
set_option maxRecDepth 100000 in
set_option maxHeartbeats 4000000 in
theorem crt_X11_fits (l : Launch) (θ : Th) (a0 : Nat) (a1 : Int32) (m : Mm) : CrtX l θ yX11_fits M_X11_fits cvI [.ref a0, .int a1] m (F_X11_fits a0 a1 m) := by
  refine crtx_of 0 (by decide) rfl rfl (Nat.le_of_ble_eq_true rfl) (fun Z hμ ht => ?_)
  unfold F_X11_fits
  show GG Z _ _ 0 [some (.ref a0), some (.int a1)] [] m _
  refine g_aload_n (i := 0) dX11_fits_0 rfl rfl ?_
  refine g_iload_n (i := 1) dX11_fits_1 rfl rfl ?_
  refine g_iconst (v := (0 : Int32)) dX11_fits_2 ki_0 ?_
  refine g_iconst (v := (1 : Int32)) dX11_fits_3 ki_1 ?_
  refine g_callSI (crt_X11_isWithin _ _ _ _ _ _) cw_X11_isWithin (by decide) rfl q_627 q_628 rfl rfl dX11_fits_4 ?_
  intro r1 m2
  refine g_callXVV ht cl_X11 (crt_X11_need _ _ _ _ _) cw_X11_need (by decide) rfl q_647 q_649 qs_12 rfl rfl dX11_fits_7 ?_
  intro r3 m4
  refine g_aload_n (i := 0) dX11_fits_10 rfl rfl ?_
  refine g_getR (k := 4) cl_X11 (by decide) rfl q_370 dX11_fits_11 ?_
  intro q5
  refine g_aload_n (i := 0) dX11_fits_14 rfl rfl ?_
  refine g_getR (k := 6) cl_X11 (by decide) rfl q_372 dX11_fits_15 ?_
  intro q6
  refine g_aload_n (i := 0) dX11_fits_18 rfl rfl ?_
  refine g_getR (k := 5) cl_X11 (by decide) rfl q_371 dX11_fits_19 ?_
  intro q7
  refine g_callVV cl_X0 (crt_X0_sift _ _ _ _ _ _) cw_X0_sift (by decide) rfl q_1256 q_1257 q_1258 rfl rfl dX11_fits_22 ?_
  intro r8 m9
  refine g_iload_n (i := 1) dX11_fits_25 rfl rfl ?_
  refine g_ifne (tgt := 39) dX11_fits_26 (by decide) ?_ ?_
  · refine g_aload_n (i := 0) dX11_fits_39 rfl rfl ?_
    refine g_getR (k := 4) cl_X11 (by decide) rfl q_370 dX11_fits_40 ?_
    intro q10
    refine g_getIN (k := 4) cl_X0 (by decide) rfl q_176 dX11_fits_43 ?_
    exact g_ireturnX rfl dX11_fits_46
  · refine g_aload_n (i := 0) dX11_fits_29 rfl rfl ?_
    refine g_getR (k := 4) cl_X11 (by decide) rfl q_370 dX11_fits_30 ?_
    intro q11
    refine g_getIN (k := 3) cl_X0 (by decide) rfl q_174 dX11_fits_33 ?_
    refine g_goto (tgt := 46) dX11_fits_36 (by decide) ?_
    exact g_ireturnX rfl dX11_fits_46
abbrev M_X11_look : MI := (cX11_look, RX11, 3, 10, 141, (some .int), "look")
theorem cw_X11_look : CwOk M_X11_look yX11_look 1 := ⟨q_1274, q_1, by decide +kernel⟩
def F_X11_look (a0 : Nat) (a1 : Int32) (m : Mm) : Option ((Int32 ⊕ Nat) × Mm) :=
 bd (F_X11_isWithin a1 (0 : Int32) (1 : Int32) m) fun r1 m2 =>
 gd (okO m2 a0 11) (bx (F_X11_need a0 r1 m2) (fun r3 m4 =>
 gd (okO m4 a0 11) (oc (rR m4 a0 4) none fun q5 =>
 gd (okO m4 a0 11) (oc (rR m4 a0 6) none fun q6 =>
 gd (okO m4 a0 11) (oc (rR m4 a0 5) none fun q7 =>
 gd (okO m4 q5 0) (bd (F_X0_sift q5 q6 q7 m4) fun r8 m9 =>
 gd (okO m9 a0 11) (oc (rR m9 a0 4) none fun q10 =>
 gd (okO m9 a0 11) (oc (rR m9 a0 1) none fun q11 =>
 gd (okO m9 q11 1) (
 gd (okO m9 q10 0) (bd (F_X0_bestToAsk q10 (rI m9 q11 0) m9) fun r12 m13 =>
 lt9 r12 fun x14 =>
 if a1 = 0 then (
 some ((.inl x14), m13))
 else (
 if x14 = (-1 : Int32) then (
 some ((.inl x14), m13))
 else (
 gd (okO m13 a0 11) (oc (rR m13 a0 4) none fun q15 =>
 gd (okO m13 q15 0) (bd (F_X0_leftAtWorst q15 x14 m13) fun r16 m17 =>
 some ((.inl r16), m17)))))))))))))) (fun k m => some (.inr k, m)))
set_option maxRecDepth 100000 in
set_option maxHeartbeats 4000000 in
theorem crt_X11_look (l : Launch) (θ : Th) (a0 : Nat) (a1 : Int32) (m : Mm) : CrtX l θ yX11_look M_X11_look cvI [.ref a0, .int a1] m (F_X11_look a0 a1 m) := by
  refine crtx_of 1 (by decide) rfl rfl (Nat.le_of_ble_eq_true rfl) (fun Z hμ ht => ?_)
  unfold F_X11_look
  show GG Z _ _ 0 [some (.ref a0), some (.int a1), none] [] m _
  refine g_aload_n (i := 0) dX11_look_0 rfl rfl ?_
  refine g_iload_n (i := 1) dX11_look_1 rfl rfl ?_
  refine g_iconst (v := (0 : Int32)) dX11_look_2 ki_0 ?_
  refine g_iconst (v := (1 : Int32)) dX11_look_3 ki_1 ?_
  refine g_callSI (crt_X11_isWithin _ _ _ _ _ _) cw_X11_isWithin (by decide) rfl q_627 q_628 rfl rfl dX11_look_4 ?_
  intro r1 m2
  refine g_callXVV ht cl_X11 (crt_X11_need _ _ _ _ _) cw_X11_need (by decide) rfl q_647 q_649 qs_12 rfl rfl dX11_look_7 ?_
  intro r3 m4
  refine g_aload_n (i := 0) dX11_look_10 rfl rfl ?_
  refine g_getR (k := 4) cl_X11 (by decide) rfl q_370 dX11_look_11 ?_
  intro q5
  refine g_aload_n (i := 0) dX11_look_14 rfl rfl ?_
  refine g_getR (k := 6) cl_X11 (by decide) rfl q_372 dX11_look_15 ?_
  intro q6
  refine g_aload_n (i := 0) dX11_look_18 rfl rfl ?_
  refine g_getR (k := 5) cl_X11 (by decide) rfl q_371 dX11_look_19 ?_
  intro q7
  refine g_callVV cl_X0 (crt_X0_sift _ _ _ _ _ _) cw_X0_sift (by decide) rfl q_1256 q_1257 q_1258 rfl rfl dX11_look_22 ?_
  intro r8 m9
  refine g_aload_n (i := 0) dX11_look_25 rfl rfl ?_
  refine g_getR (k := 4) cl_X11 (by decide) rfl q_370 dX11_look_26 ?_
  intro q10
  refine g_aload_n (i := 0) dX11_look_29 rfl rfl ?_
  refine g_getR (k := 1) cl_X11 (by decide) rfl q_367 dX11_look_30 ?_
  intro q11
  refine g_getIN (k := 0) cl_X1 (by decide) rfl q_89 dX11_look_33 ?_
  refine g_callVI cl_X0 (crt_X0_bestToAsk _ _ _ _ _) cw_X0_bestToAsk (by decide) rfl q_1275 q_1276 q_1277 rfl rfl dX11_look_36 ?_
  intro r12 m13
  refine g_istore_n (i := 2) dX11_look_39 rfl (show 2 < 3 by decide) ?_
  intro x14
  refine g_iload_n (i := 1) dX11_look_40 rfl rfl ?_
  refine g_ifeq (tgt := 49) dX11_look_41 (by decide) ?_ ?_
  · refine g_iload_n (i := 2) dX11_look_49 rfl rfl ?_
    exact g_ireturnX rfl dX11_look_50
  · refine g_iload_n (i := 2) dX11_look_44 rfl rfl ?_
    refine g_iconst (v := (-1 : Int32)) dX11_look_45 ki_m1 ?_
    refine g_icmpne (tgt := 51) dX11_look_46 (by decide) ?_ ?_
    · refine g_aload_n (i := 0) dX11_look_51 rfl rfl ?_
      refine g_getR (k := 4) cl_X11 (by decide) rfl q_370 dX11_look_52 ?_
      intro q15
      refine g_iload_n (i := 2) dX11_look_55 rfl rfl ?_
      refine g_callVI cl_X0 (crt_X0_leftAtWorst _ _ _ _ _) cw_X0_leftAtWorst (by decide) rfl q_1284 q_1280 q_1281 rfl rfl dX11_look_56 ?_
      intro r16 m17
      exact g_ireturnX rfl dX11_look_59
    · refine g_iload_n (i := 2) dX11_look_49 rfl rfl ?_
      exact g_ireturnX rfl dX11_look_50
abbrev M_X11_spelt : MI := (cX11_spelt, RX11, 2, 10, 141, (some .int), "spelt")
theorem cw_X11_spelt : CwOk M_X11_spelt yX11_spelt 1 := ⟨q_1291, q_1, by decide +kernel⟩
def F_X11_spelt (a0 : Nat) (a1 : Int32) (m : Mm) : Option ((Int32 ⊕ Nat) × Mm) :=
 jn (fun (v0 : Nat) (v1 : Int32) (s0 : Int32) (s1 : Nat) (m : Mm) =>
 gd (okO m s1 11) (bx (F_X11_need s1 s0 m) (fun r1 m2 =>
 gd (okO m2 v0 11) (oc (rR m2 v0 10) none fun q3 =>
 gd (okO m2 v0 11) (oc (rR m2 v0 6) none fun q4 =>
 gd (okO m2 q3 4) (bd (F_X4_write q3 q4 m2) fun r5 m6 =>
 gd (okO m6 v0 11) (oc (rR m6 v0 10) none fun q7 =>
 gd (okO m6 q7 4) (bd (F_X4_signAt q7 v1 m6) fun r8 m9 =>
 some ((.inl r8), m9))))))) (fun k m => some (.inr k, m)))) fun J10 =>
 if a1 < 0 then (
 J10 a0 a1 (0 : Int32) a0 m)
 else (
 J10 a0 a1 (1 : Int32) a0 m)
set_option maxRecDepth 100000 in
set_option maxHeartbeats 4000000 in
theorem crt_X11_spelt (l : Launch) (θ : Th) (a0 : Nat) (a1 : Int32) (m : Mm) : CrtX l θ yX11_spelt M_X11_spelt cvI [.ref a0, .int a1] m (F_X11_spelt a0 a1 m) := by
  refine crtx_of 0 (by decide) rfl rfl (Nat.le_of_ble_eq_true rfl) (fun Z hμ ht => ?_)
  unfold F_X11_spelt
  show GG Z _ _ 0 [some (.ref a0), some (.int a1)] [] m _
  refine g_aload_n (i := 0) dX11_spelt_0 rfl rfl ?_
  refine g_iload_n (i := 1) dX11_spelt_1 rfl rfl ?_
  refine g_jn (fun J10 => ∀ (v0 : Nat) (v1 : Int32) (s0 : Int32) (s1 : Nat) (m : Mm), GG Z M_X11_spelt (PsX Z cvI) 10 [some (.ref v0), some (.int v1)] [.int s0, .ref s1] m (J10 v0 v1 s0 s1 m)) ?_ ?_
  · intro v0 v1 s0 s1 m
    refine g_callXVV ht cl_X11 (crt_X11_need _ _ _ _ _) cw_X11_need (by decide) rfl q_647 q_649 qs_12 rfl rfl dX11_spelt_10 ?_
    intro r1 m2
    refine g_aload_n (i := 0) dX11_spelt_13 rfl rfl ?_
    refine g_getR (k := 10) cl_X11 (by decide) rfl q_376 dX11_spelt_14 ?_
    intro q3
    refine g_aload_n (i := 0) dX11_spelt_17 rfl rfl ?_
    refine g_getR (k := 6) cl_X11 (by decide) rfl q_372 dX11_spelt_18 ?_
    intro q4
    refine g_callVV cl_X4 (crt_X4_write _ _ _ _ _) cw_X4_write (by decide) rfl q_570 q_571 q_572 rfl rfl dX11_spelt_21 ?_
    intro r5 m6
    refine g_aload_n (i := 0) dX11_spelt_24 rfl rfl ?_
    refine g_getR (k := 10) cl_X11 (by decide) rfl q_376 dX11_spelt_25 ?_
    intro q7
    refine g_iload_n (i := 1) dX11_spelt_28 rfl rfl ?_
    refine g_callVI cl_X4 (crt_X4_signAt _ _ _ _ _) cw_X4_signAt (by decide) rfl q_1292 q_1293 q_1294 rfl rfl dX11_spelt_29 ?_
    intro r8 m9
    exact g_ireturnX rfl dX11_spelt_32
  · intro J10 hJ10
    refine g_iflt (tgt := 9) dX11_spelt_2 (by decide) ?_ ?_
    · refine g_iconst (v := (0 : Int32)) dX11_spelt_9 ki_0 ?_
      exact g_msk [true, true] (hJ10 _ _ _ _ _)
    · refine g_iconst (v := (1 : Int32)) dX11_spelt_5 ki_1 ?_
      refine g_goto (tgt := 10) dX11_spelt_6 (by decide) ?_
      exact g_msk [true, true] (hJ10 _ _ _ _ _)
abbrev M_X11_lore : MI := (cX11_lore, RX11, 2, 10, 141, (some .int), "lore")
theorem cw_X11_lore : CwOk M_X11_lore yX11_lore 1 := ⟨q_1302, q_1, by decide +kernel⟩
def F_X11_lore (a0 : Nat) (a1 : Int32) (m : Mm) : Option ((Int32 ⊕ Nat) × Mm) :=
 gd (okO m a0 11) (bx (F_X11_needMember a0 a1 m) (fun r1 m2 =>
 gd (okO m2 a0 11) (oc (rR m2 a0 6) none fun q3 =>
 gd (okO m2 q3 7) (bd (F_X7_countLore q3 a1 m2) fun r4 m5 =>
 some ((.inl r4), m5)))) (fun k m => some (.inr k, m)))
set_option maxRecDepth 100000 in
set_option maxHeartbeats 4000000 in
theorem crt_X11_lore (l : Launch) (θ : Th) (a0 : Nat) (a1 : Int32) (m : Mm) : CrtX l θ yX11_lore M_X11_lore cvI [.ref a0, .int a1] m (F_X11_lore a0 a1 m) := by
  refine crtx_of 0 (by decide) rfl rfl (Nat.le_of_ble_eq_true rfl) (fun Z hμ ht => ?_)
  unfold F_X11_lore
  show GG Z _ _ 0 [some (.ref a0), some (.int a1)] [] m _
  refine g_aload_n (i := 0) dX11_lore_0 rfl rfl ?_
  refine g_iload_n (i := 1) dX11_lore_1 rfl rfl ?_
  refine g_callXVV ht cl_X11 (crt_X11_needMember _ _ _ _ _) cw_X11_needMember (by decide) rfl q_1082 q_1084 qs_31 rfl rfl dX11_lore_2 ?_
  intro r1 m2
  refine g_aload_n (i := 0) dX11_lore_5 rfl rfl ?_
  refine g_getR (k := 6) cl_X11 (by decide) rfl q_372 dX11_lore_6 ?_
  intro q3
  refine g_iload_n (i := 1) dX11_lore_9 rfl rfl ?_
  refine g_callVI cl_X7 (crt_X7_countLore _ _ _ _ _) cw_X7_countLore (by decide) rfl q_1303 q_1304 q_1305 rfl rfl dX11_lore_10 ?_
  intro r4 m5
  exact g_ireturnX rfl dX11_lore_13
abbrev M_X11_behind : MI := (cX11_behind, RX11, 3, 10, 141, (some .int), "behind")
theorem cw_X11_behind : CwOk M_X11_behind yX11_behind 1 := ⟨q_1313, q_1, by decide +kernel⟩
def F_X11_behind (a0 : Nat) (a1 : Int32) (m : Mm) : Option ((Int32 ⊕ Nat) × Mm) :=
 bd (F_X11_isWithin a1 (0 : Int32) (1 : Int32) m) fun r1 m2 =>
 gd (okO m2 a0 11) (bx (F_X11_need a0 r1 m2) (fun r3 m4 =>
 gd (okO m4 a0 11) (oc (rR m4 a0 6) none fun q5 =>
 gd (okO m4 q5 7) (bd (F_X7_furthestBehind q5 m4) fun r6 m7 =>
 lt9 r6 fun x8 =>
 if a1 = 0 then (
 some ((.inl x8), m7))
 else (
 gd (okO m7 a0 11) (oc (rR m7 a0 6) none fun q9 =>
 gd (okO m7 q9 7) (bd (F_X7_stands q9 x8 m7) fun r10 m11 =>
 if r10 = 0 then (
 some ((.inl x8), m11))
 else (
 gd (okO m11 a0 11) (oc (rR m11 a0 6) none fun q12 =>
 gd (okO m11 q12 7) (oc (rR m11 q12 9) none fun q13 =>
 gd (okA m11 100 q13 x8) (
 bd (F_J6_bitCount_0f7a4 (rI m11 q13 (ix x8)) m11) fun r14 m15 =>
 some ((.inl r14), m15))))))))))) (fun k m => some (.inr k, m)))
set_option maxRecDepth 100000 in
set_option maxHeartbeats 4000000 in
theorem crt_X11_behind (l : Launch) (θ : Th) (a0 : Nat) (a1 : Int32) (m : Mm) : CrtX l θ yX11_behind M_X11_behind cvI [.ref a0, .int a1] m (F_X11_behind a0 a1 m) := by
  refine crtx_of 1 (by decide) rfl rfl (Nat.le_of_ble_eq_true rfl) (fun Z hμ ht => ?_)
  unfold F_X11_behind
  show GG Z _ _ 0 [some (.ref a0), some (.int a1), none] [] m _
  refine g_aload_n (i := 0) dX11_behind_0 rfl rfl ?_
  refine g_iload_n (i := 1) dX11_behind_1 rfl rfl ?_
  refine g_iconst (v := (0 : Int32)) dX11_behind_2 ki_0 ?_
  refine g_iconst (v := (1 : Int32)) dX11_behind_3 ki_1 ?_
  refine g_callSI (crt_X11_isWithin _ _ _ _ _ _) cw_X11_isWithin (by decide) rfl q_627 q_628 rfl rfl dX11_behind_4 ?_
  intro r1 m2
  refine g_callXVV ht cl_X11 (crt_X11_need _ _ _ _ _) cw_X11_need (by decide) rfl q_647 q_649 qs_12 rfl rfl dX11_behind_7 ?_
  intro r3 m4
  refine g_aload_n (i := 0) dX11_behind_10 rfl rfl ?_
  refine g_getR (k := 6) cl_X11 (by decide) rfl q_372 dX11_behind_11 ?_
  intro q5
  refine g_callVI cl_X7 (crt_X7_furthestBehind _ _ _ _) cw_X7_furthestBehind (by decide) rfl q_1314 q_1315 q_1316 rfl rfl dX11_behind_14 ?_
  intro r6 m7
  refine g_istore_n (i := 2) dX11_behind_17 rfl (show 2 < 3 by decide) ?_
  intro x8
  refine g_iload_n (i := 1) dX11_behind_18 rfl rfl ?_
  refine g_ifeq (tgt := 33) dX11_behind_19 (by decide) ?_ ?_
  · refine g_iload_n (i := 2) dX11_behind_33 rfl rfl ?_
    exact g_ireturnX rfl dX11_behind_34
  · refine g_aload_n (i := 0) dX11_behind_22 rfl rfl ?_
    refine g_getR (k := 6) cl_X11 (by decide) rfl q_372 dX11_behind_23 ?_
    intro q9
    refine g_iload_n (i := 2) dX11_behind_26 rfl rfl ?_
    refine g_callVI cl_X7 (crt_X7_stands _ _ _ _ _) cw_X7_stands (by decide) rfl q_1101 q_526 q_527 rfl rfl dX11_behind_27 ?_
    intro r10 m11
    refine g_ifne (tgt := 35) dX11_behind_30 (by decide) ?_ ?_
    · refine g_aload_n (i := 0) dX11_behind_35 rfl rfl ?_
      refine g_getR (k := 6) cl_X11 (by decide) rfl q_372 dX11_behind_36 ?_
      intro q12
      refine g_getRN (k := 9) cl_X7 (by decide) rfl q_246 dX11_behind_39 ?_
      intro q13
      refine g_iload_n (i := 2) dX11_behind_42 rfl rfl ?_
      refine g_iaload dX11_behind_43 ?_
      refine g_callSI (crt_J6_bitCount_0f7a4 _ _ _ _) cw_J6_bitCount_0f7a4 (by decide) rfl q_1102 q_456 rfl rfl dX11_behind_44 ?_
      intro r14 m15
      exact g_ireturnX rfl dX11_behind_47
    · refine g_iload_n (i := 2) dX11_behind_33 rfl rfl ?_
      exact g_ireturnX rfl dX11_behind_34
abbrev M_X11_storm : MI := (cX11_storm, RX11, 5, 10, 168, (some .int), "storm")
theorem cw_X11_storm : CwOk M_X11_storm yX11_storm 4 := ⟨q_1324, q_1, by decide +kernel⟩
def F_X11_storm (a0 : Nat) (a1 : Int32) (a2 : Int32) (a3 : Int32) (a4 : Int32) (m : Mm) : Option ((Int32 ⊕ Nat) × Mm) :=
 bd (F_X11_isWithin a2 (1 : Int32) (96 : Int32) m) fun r1 m2 =>
 jn (fun (v0 : Nat) (v1 : Int32) (v2 : Int32) (v3 : Int32) (v4 : Int32) (s0 : Int32) (s1 : Nat) (m : Mm) =>
 gd (okO m s1 11) (bx (F_X11_need s1 s0 m) (fun r3 m4 =>
 gd (okO m4 v0 11) (oc (rR m4 v0 7) none fun q5 =>
 gd (okO m4 v0 11) (oc (rR m4 v0 6) none fun q6 =>
 gd (okO m4 q5 7) (bd (F_X7_copy q5 q6 m4) fun r7 m8 =>
 gd (okO m8 v0 11) (oc (rR m8 v0 11) none fun q9 =>
 gd (okO m8 v0 11) (oc (rR m8 v0 7) none fun q10 =>
 gd (okO m8 v0 11) (oc (rR m8 v0 5) none fun q11 =>
 gd (okO m8 q9 8) (bd (F_X8_blow q9 q10 q11 v1 v2 v3 m8) fun r12 m13 =>
 if v4 = (0 : Int32) then (
 gd (okO m13 v0 11) (oc (rR m13 v0 7) none fun q14 =>
 gd (okO m13 q14 7) (
 some ((.inl (rI m13 q14 0)), m13))))
 else (
 if v4 = (1 : Int32) then (
 gd (okO m13 v0 11) (oc (rR m13 v0 7) none fun q15 =>
 gd (okO m13 q15 7) (
 some ((.inl (rI m13 q15 1)), m13))))
 else (
 if v4 = (2 : Int32) then (
 gd (okO m13 v0 11) (oc (rR m13 v0 7) none fun q16 =>
 gd (okO m13 q16 7) (
 some ((.inl (rI m13 q16 7)), m13))))
 else (
 gd (okO m13 v0 11) (oc (rR m13 v0 7) none fun q17 =>
 gd (okO m13 v0 11) (oc (rR m13 v0 5) none fun q18 =>
 gd (okO m13 v0 11) (oc (rR m13 v0 7) none fun q19 =>
 gd (okO m13 q18 6) (bd (F_X6_survivorsNow q18 q19 m13) fun r20 m21 =>
 gd (okO m21 q17 7) (bd (F_X7_wouldAgree q17 r20 m21) fun r22 m23 =>
 if r22 = 0 then (
 some ((.inl (0 : Int32)), m23))
 else (
 some ((.inl (1 : Int32)), m23)))))))))))))))))) (fun k m => some (.inr k, m)))) fun J36 =>
 jn (fun (v0 : Nat) (v1 : Int32) (v2 : Int32) (v3 : Int32) (v4 : Int32) (s0 : Nat) (m : Mm) =>
 J36 v0 v1 v2 v3 v4 (0 : Int32) s0 m) fun J35 =>
 if r1 = 0 then (
 J35 a0 a1 a2 a3 a4 a0 m2)
 else (
 bd (F_X11_isWithin a3 (0 : Int32) (16 : Int32) m2) fun r24 m25 =>
 if r24 = 0 then (
 J35 a0 a1 a2 a3 a4 a0 m25)
 else (
 bd (F_X11_isWithin a4 (0 : Int32) (3 : Int32) m25) fun r26 m27 =>
 if r26 = 0 then (
 J35 a0 a1 a2 a3 a4 a0 m27)
 else (
 J36 a0 a1 a2 a3 a4 (1 : Int32) a0 m27)))
set_option maxRecDepth 100000 in
set_option maxHeartbeats 4000000 in
theorem crt_X11_storm (l : Launch) (θ : Th) (a0 : Nat) (a1 : Int32) (a2 : Int32) (a3 : Int32) (a4 : Int32) (m : Mm) : CrtX l θ yX11_storm M_X11_storm cvI [.ref a0, .int a1, .int a2, .int a3, .int a4] m (F_X11_storm a0 a1 a2 a3 a4 m) := by
  refine crtx_of 0 (by decide) rfl rfl (Nat.le_of_ble_eq_true rfl) (fun Z hμ ht => ?_)
  unfold F_X11_storm
  show GG Z _ _ 0 [some (.ref a0), some (.int a1), some (.int a2), some (.int a3), some (.int a4)] [] m _
  refine g_aload_n (i := 0) dX11_storm_0 rfl rfl ?_
  refine g_iload_n (i := 2) dX11_storm_1 rfl rfl ?_
  refine g_iconst (v := (1 : Int32)) dX11_storm_2 ki_1 ?_
  refine g_bipush (v := (96 : Int32)) dX11_storm_3 kb_96 ?_
  refine g_callSI (crt_X11_isWithin _ _ _ _ _ _) cw_X11_isWithin (by decide) rfl q_627 q_628 rfl rfl dX11_storm_5 ?_
  intro r1 m2
  refine g_jn (fun J36 => ∀ (v0 : Nat) (v1 : Int32) (v2 : Int32) (v3 : Int32) (v4 : Int32) (s0 : Int32) (s1 : Nat) (m : Mm), GG Z M_X11_storm (PsX Z cvI) 36 [some (.ref v0), some (.int v1), some (.int v2), some (.int v3), some (.int v4)] [.int s0, .ref s1] m (J36 v0 v1 v2 v3 v4 s0 s1 m)) ?_ ?_
  · intro v0 v1 v2 v3 v4 s0 s1 m
    refine g_callXVV ht cl_X11 (crt_X11_need _ _ _ _ _) cw_X11_need (by decide) rfl q_647 q_649 qs_12 rfl rfl dX11_storm_36 ?_
    intro r3 m4
    refine g_aload_n (i := 0) dX11_storm_39 rfl rfl ?_
    refine g_getR (k := 7) cl_X11 (by decide) rfl q_373 dX11_storm_40 ?_
    intro q5
    refine g_aload_n (i := 0) dX11_storm_43 rfl rfl ?_
    refine g_getR (k := 6) cl_X11 (by decide) rfl q_372 dX11_storm_44 ?_
    intro q6
    refine g_callVV cl_X7 (crt_X7_copy _ _ _ _ _) cw_X7_copy (by decide) rfl q_609 q_437 q_438 rfl rfl dX11_storm_47 ?_
    intro r7 m8
    refine g_aload_n (i := 0) dX11_storm_50 rfl rfl ?_
    refine g_getR (k := 11) cl_X11 (by decide) rfl q_377 dX11_storm_51 ?_
    intro q9
    refine g_aload_n (i := 0) dX11_storm_54 rfl rfl ?_
    refine g_getR (k := 7) cl_X11 (by decide) rfl q_373 dX11_storm_55 ?_
    intro q10
    refine g_aload_n (i := 0) dX11_storm_58 rfl rfl ?_
    refine g_getR (k := 5) cl_X11 (by decide) rfl q_371 dX11_storm_59 ?_
    intro q11
    refine g_iload_n (i := 1) dX11_storm_62 rfl rfl ?_
    refine g_iload_n (i := 2) dX11_storm_63 rfl rfl ?_
    refine g_iload_n (i := 3) dX11_storm_64 rfl rfl ?_
    refine g_callVV cl_X8 (crt_X8_blow _ _ _ _ _ _ _ _ _) cw_X8_blow (by decide) rfl q_1325 q_1326 q_1327 rfl rfl dX11_storm_65 ?_
    intro r12 m13
    refine g_iload dX11_storm_68 rfl ?_
    refine g_sw0 (lo := 0) ?_
    refine g_swc (k := 0) (tgt := 96) dX11_storm_70 (by decide) kt_0 rfl (by decide) ?_ ?_
    · refine g_aload_n (i := 0) dX11_storm_96 rfl rfl ?_
      refine g_getR (k := 7) cl_X11 (by decide) rfl q_373 dX11_storm_97 ?_
      intro q14
      refine g_getIN (k := 0) cl_X7 (by decide) rfl q_219 dX11_storm_100 ?_
      exact g_ireturnX rfl dX11_storm_103
    · refine g_swc (k := 1) (tgt := 104) dX11_storm_70 (by decide) kt_1 rfl (by decide) ?_ ?_
      · refine g_aload_n (i := 0) dX11_storm_104 rfl rfl ?_
        refine g_getR (k := 7) cl_X11 (by decide) rfl q_373 dX11_storm_105 ?_
        intro q15
        refine g_getIN (k := 1) cl_X7 (by decide) rfl q_223 dX11_storm_108 ?_
        exact g_ireturnX rfl dX11_storm_111
      · refine g_swc (k := 2) (tgt := 112) dX11_storm_70 (by decide) kt_2 rfl (by decide) ?_ ?_
        · refine g_aload_n (i := 0) dX11_storm_112 rfl rfl ?_
          refine g_getR (k := 7) cl_X11 (by decide) rfl q_373 dX11_storm_113 ?_
          intro q16
          refine g_getIN (k := 7) cl_X7 (by decide) rfl q_241 dX11_storm_116 ?_
          exact g_ireturnX rfl dX11_storm_119
        · refine g_swe (n := 3) (tgt := 120) dX11_storm_70 (by decide) (by decide) ?_
          refine g_aload_n (i := 0) dX11_storm_120 rfl rfl ?_
          refine g_getR (k := 7) cl_X11 (by decide) rfl q_373 dX11_storm_121 ?_
          intro q17
          refine g_aload_n (i := 0) dX11_storm_124 rfl rfl ?_
          refine g_getR (k := 5) cl_X11 (by decide) rfl q_371 dX11_storm_125 ?_
          intro q18
          refine g_aload_n (i := 0) dX11_storm_128 rfl rfl ?_
          refine g_getR (k := 7) cl_X11 (by decide) rfl q_373 dX11_storm_129 ?_
          intro q19
          refine g_callVI cl_X6 (crt_X6_survivorsNow _ _ _ _ _) cw_X6_survivorsNow (by decide) rfl q_542 q_543 q_544 rfl rfl dX11_storm_132 ?_
          intro r20 m21
          refine g_callVI cl_X7 (crt_X7_wouldAgree _ _ _ _ _) cw_X7_wouldAgree (by decide) rfl q_546 q_547 q_548 rfl rfl dX11_storm_135 ?_
          intro r22 m23
          refine g_ifeq (tgt := 145) dX11_storm_138 (by decide) ?_ ?_
          · refine g_iconst (v := (0 : Int32)) dX11_storm_145 ki_0 ?_
            exact g_ireturnX rfl dX11_storm_146
          · refine g_iconst (v := (1 : Int32)) dX11_storm_141 ki_1 ?_
            refine g_goto (tgt := 146) dX11_storm_142 (by decide) ?_
            exact g_ireturnX rfl dX11_storm_146
  · intro J36 hJ36
    refine g_jn (fun J35 => ∀ (v0 : Nat) (v1 : Int32) (v2 : Int32) (v3 : Int32) (v4 : Int32) (s0 : Nat) (m : Mm), GG Z M_X11_storm (PsX Z cvI) 35 [some (.ref v0), some (.int v1), some (.int v2), some (.int v3), some (.int v4)] [.ref s0] m (J35 v0 v1 v2 v3 v4 s0 m)) ?_ ?_
    · intro v0 v1 v2 v3 v4 s0 m
      refine g_iconst (v := (0 : Int32)) dX11_storm_35 ki_0 ?_
      exact g_msk [true, true, true, true, true] (hJ36 _ _ _ _ _ _ _ _)
    · intro J35 hJ35
      refine g_ifeq (tgt := 35) dX11_storm_8 (by decide) ?_ ?_
      · exact g_msk [true, true, true, true, true] (hJ35 _ _ _ _ _ _ _)
      · refine g_iload_n (i := 3) dX11_storm_11 rfl rfl ?_
        refine g_iconst (v := (0 : Int32)) dX11_storm_12 ki_0 ?_
        refine g_bipush (v := (16 : Int32)) dX11_storm_13 kb_16 ?_
        refine g_callSI (crt_X11_isWithin _ _ _ _ _ _) cw_X11_isWithin (by decide) rfl q_627 q_628 rfl rfl dX11_storm_15 ?_
        intro r24 m25
        refine g_ifeq (tgt := 35) dX11_storm_18 (by decide) ?_ ?_
        · exact g_msk [true, true, true, true, true] (hJ35 _ _ _ _ _ _ _)
        · refine g_iload dX11_storm_21 rfl ?_
          refine g_iconst (v := (0 : Int32)) dX11_storm_23 ki_0 ?_
          refine g_iconst (v := (3 : Int32)) dX11_storm_24 ki_3 ?_
          refine g_callSI (crt_X11_isWithin _ _ _ _ _ _) cw_X11_isWithin (by decide) rfl q_627 q_628 rfl rfl dX11_storm_25 ?_
          intro r26 m27
          refine g_ifeq (tgt := 35) dX11_storm_28 (by decide) ?_ ?_
          · exact g_msk [true, true, true, true, true] (hJ35 _ _ _ _ _ _ _)
          · refine g_iconst (v := (1 : Int32)) dX11_storm_31 ki_1 ?_
            refine g_goto (tgt := 36) dX11_storm_32 (by decide) ?_
            exact g_msk [true, true, true, true, true] (hJ36 _ _ _ _ _ _ _ _)
abbrev M_X11_span : MI := (cX11_span, RX11, 11, 10, 168, (some .int), "span")
theorem cw_X11_span : CwOk M_X11_span yX11_span 6 := ⟨q_1360, q_1, by decide +kernel⟩
def L_X11_span_77 (K187 : Int32 → Int32 → Int32 → Int32 → Mm → Option ((Int32 ⊕ Nat) × Mm)) : Nat → Nat → Int32 → Int32 → Int32 → Int32 → Int32 → Int32 → Int32 → Int32 → Int32 → Int32 → Mm → Option ((Int32 ⊕ Nat) × Mm)
 | 0, _, _, _, _, _, _, _, _, _, _, _, _ => none
 | n + 1, v0, v1, v2, v3, v4, v5, v6, v7, v8, v9, v10, m =>
 if v2 ≤ v10 then (
 K187 v5 v7 v8 v9 m)
 else (
 gd (okO m v0 11) (oc (rR m v0 7) none fun q15 =>
 gd (okO m v0 11) (oc (rR m v0 6) none fun q16 =>
 gd (okO m q15 7) (bd (F_X7_copy q15 q16 m) fun r17 m18 =>
 gd (okO m18 v0 11) (oc (rR m18 v0 11) none fun q19 =>
 gd (okO m18 v0 11) (oc (rR m18 v0 7) none fun q20 =>
 gd (okO m18 v0 11) (oc (rR m18 v0 5) none fun q21 =>
 gd (okO m18 q19 8) (bd (F_X8_blow q19 q20 q21 (v1 + v10) v3 v4 m18) fun r22 m23 =>
 jn (fun (v0 : Nat) (v1 : Int32) (v2 : Int32) (v3 : Int32) (v4 : Int32) (v5 : Int32) (v6 : Int32) (v8 : Int32) (v9 : Int32) (v10 : Int32) (s0 : Int32) (m : Mm) =>
 lt9 s0 fun x24 =>
 gd (okO m v0 11) (oc (rR m v0 7) none fun q25 =>
 gd (okO m q25 7) (
 lt9 (mxI v8 (rI m q25 0)) fun x26 =>
 gd (okO m v0 11) (oc (rR m v0 7) none fun q27 =>
 gd (okO m q27 7) (bd (F_X7_stands q27 v6 m) fun r28 m29 =>
 jn (fun (v0 : Nat) (v1 : Int32) (v2 : Int32) (v3 : Int32) (v4 : Int32) (v5 : Int32) (v6 : Int32) (v7 : Int32) (v8 : Int32) (v10 : Int32) (s0 : Int32) (s1 : Int32) (m : Mm) =>
 lt9 (s1 + s0) fun x30 =>
 lt9 (v10 + (1 : Int32)) fun x31 =>
 L_X11_span_77 K187 n v0 v1 v2 v3 v4 v5 v6 v7 v8 x30 x31 m) fun J178 =>
 if r28 = 0 then (
 J178 v0 v1 v2 v3 v4 v5 v6 x24 x26 v10 (0 : Int32) v9 m29)
 else (
 J178 v0 v1 v2 v3 v4 v5 v6 x24 x26 v10 (1 : Int32) v9 m29)))))) fun J143 =>
 if v10 = 0 then (
 gd (okO m23 v0 11) (oc (rR m23 v0 7) none fun q33 =>
 gd (okO m23 q33 7) (
 J143 v0 v1 v2 v3 v4 v5 v6 v8 v9 v10 (rI m23 q33 0) m23)))
 else (
 gd (okO m23 v0 11) (oc (rR m23 v0 7) none fun q32 =>
 gd (okO m23 q32 7) (
 J143 v0 v1 v2 v3 v4 v5 v6 v8 v9 v10 (mnI v7 (rI m23 q32 0)) m23)))))))))))
def F_X11_span (a0 : Nat) (a1 : Int32) (a2 : Int32) (a3 : Int32) (a4 : Int32) (a5 : Int32) (a6 : Int32) (m : Mm) : Option ((Int32 ⊕ Nat) × Mm) :=
 gd (okO m a0 11) (bx (F_X11_needMember a0 a6 m) (fun r1 m2 =>
 bd (F_X11_isWithin a2 (1 : Int32) (10 : Int32) m2) fun r3 m4 =>
 jn (fun (v0 : Nat) (v1 : Int32) (v2 : Int32) (v3 : Int32) (v4 : Int32) (v5 : Int32) (v6 : Int32) (s0 : Int32) (s1 : Nat) (m : Mm) =>
 gd (okO m s1 11) (bx (F_X11_need s1 s0 m) (fun r5 m6 =>
 bd (F_X11_isWithin v4 (0 : Int32) (16 : Int32) m6) fun r7 m8 =>
 jn (fun (v0 : Nat) (v1 : Int32) (v2 : Int32) (v3 : Int32) (v4 : Int32) (v5 : Int32) (v6 : Int32) (s0 : Int32) (s1 : Nat) (m : Mm) =>
 gd (okO m s1 11) (bx (F_X11_need s1 s0 m) (fun r9 m10 =>
 lt9 (0 : Int32) fun x11 =>
 lt9 (0 : Int32) fun x12 =>
 lt9 (0 : Int32) fun x13 =>
 lt9 (0 : Int32) fun x14 =>
 L_X11_span_77 (fun v5 v7 v8 v9 m =>
 if v5 = 0 then (
 some ((.inl v7), m))
 else (
 if v5 = (1 : Int32) then (
 some ((.inl v8), m))
 else (
 some ((.inl v9), m)))) NF v0 v1 v2 v3 v4 v5 v6 x11 x12 x13 x14 m10) (fun k m => some (.inr k, m)))) fun J62 =>
 jn (fun (v0 : Nat) (v1 : Int32) (v2 : Int32) (v3 : Int32) (v4 : Int32) (v5 : Int32) (v6 : Int32) (s0 : Nat) (m : Mm) =>
 J62 v0 v1 v2 v3 v4 v5 v6 (0 : Int32) s0 m) fun J61 =>
 if r7 = 0 then (
 J61 v0 v1 v2 v3 v4 v5 v6 v0 m8)
 else (
 bd (F_X11_isWithin v5 (0 : Int32) (2 : Int32) m8) fun r34 m35 =>
 if r34 = 0 then (
 J61 v0 v1 v2 v3 v4 v5 v6 v0 m35)
 else (
 J62 v0 v1 v2 v3 v4 v5 v6 (1 : Int32) v0 m35))) (fun k m => some (.inr k, m)))) fun J32 =>
 jn (fun (v0 : Nat) (v1 : Int32) (v2 : Int32) (v3 : Int32) (v4 : Int32) (v5 : Int32) (v6 : Int32) (s0 : Nat) (m : Mm) =>
 J32 v0 v1 v2 v3 v4 v5 v6 (0 : Int32) s0 m) fun J31 =>
 if r3 = 0 then (
 J31 a0 a1 a2 a3 a4 a5 a6 a0 m4)
 else (
 bd (F_X11_isWithin a3 (1 : Int32) (96 : Int32) m4) fun r36 m37 =>
 if r36 = 0 then (
 J31 a0 a1 a2 a3 a4 a5 a6 a0 m37)
 else (
 J32 a0 a1 a2 a3 a4 a5 a6 (1 : Int32) a0 m37))) (fun k m => some (.inr k, m)))
set_option maxRecDepth 100000 in
set_option maxHeartbeats 4000000 in
theorem c_L_X11_span_77 {Z : Zx}  {K187 : Int32 → Int32 → Int32 → Int32 → Mm → Option ((Int32 ⊕ Nat) × Mm)} (hK187 : ∀ (v5 : Int32) (v7 : Int32) (v8 : Int32) (v9 : Int32) (m : Mm), GG Z M_X11_span (PsX Z cvI) 187 [none, none, none, none, none, some (.int v5), none, some (.int v7), some (.int v8), some (.int v9), none] [] m (K187 v5 v7 v8 v9 m)) : ∀ (n : Nat) (v0 : Nat) (v1 : Int32) (v2 : Int32) (v3 : Int32) (v4 : Int32) (v5 : Int32) (v6 : Int32) (v7 : Int32) (v8 : Int32) (v9 : Int32) (v10 : Int32) (m : Mm), GG Z M_X11_span (PsX Z cvI) 77 [some (.ref v0), some (.int v1), some (.int v2), some (.int v3), some (.int v4), some (.int v5), some (.int v6), some (.int v7), some (.int v8), some (.int v9), some (.int v10)] [] m (L_X11_span_77 K187 n v0 v1 v2 v3 v4 v5 v6 v7 v8 v9 v10 m) := by
  intro n
  induction n with
  | zero => intro v0 v1 v2 v3 v4 v5 v6 v7 v8 v9 v10 m; exact g_no
  | succ n ih =>
    intro v0 v1 v2 v3 v4 v5 v6 v7 v8 v9 v10 m
    unfold L_X11_span_77
    refine g_iload dX11_span_77 rfl ?_
    refine g_iload_n (i := 2) dX11_span_79 rfl rfl ?_
    refine g_icmpge (tgt := 187) dX11_span_80 (by decide) ?_ ?_
    · exact g_msk [false, false, false, false, false, true, false, true, true, true, false] (hK187 _ _ _ _ _)
    · refine g_aload_n (i := 0) dX11_span_83 rfl rfl ?_
      refine g_getR (k := 7) cl_X11 (by decide) rfl q_373 dX11_span_84 ?_
      intro q15
      refine g_aload_n (i := 0) dX11_span_87 rfl rfl ?_
      refine g_getR (k := 6) cl_X11 (by decide) rfl q_372 dX11_span_88 ?_
      intro q16
      refine g_callVV cl_X7 (crt_X7_copy _ _ _ _ _) cw_X7_copy (by decide) rfl q_609 q_437 q_438 rfl rfl dX11_span_91 ?_
      intro r17 m18
      refine g_aload_n (i := 0) dX11_span_94 rfl rfl ?_
      refine g_getR (k := 11) cl_X11 (by decide) rfl q_377 dX11_span_95 ?_
      intro q19
      refine g_aload_n (i := 0) dX11_span_98 rfl rfl ?_
      refine g_getR (k := 7) cl_X11 (by decide) rfl q_373 dX11_span_99 ?_
      intro q20
      refine g_aload_n (i := 0) dX11_span_102 rfl rfl ?_
      refine g_getR (k := 5) cl_X11 (by decide) rfl q_371 dX11_span_103 ?_
      intro q21
      refine g_iload_n (i := 1) dX11_span_106 rfl rfl ?_
      refine g_iload dX11_span_107 rfl ?_
      refine g_iadd dX11_span_109 ?_
      refine g_iload_n (i := 3) dX11_span_110 rfl rfl ?_
      refine g_iload dX11_span_111 rfl ?_
      refine g_callVV cl_X8 (crt_X8_blow _ _ _ _ _ _ _ _ _) cw_X8_blow (by decide) rfl q_1325 q_1326 q_1327 rfl rfl dX11_span_113 ?_
      intro r22 m23
      refine g_iload dX11_span_116 rfl ?_
      refine g_jn (fun J143 => ∀ (v0 : Nat) (v1 : Int32) (v2 : Int32) (v3 : Int32) (v4 : Int32) (v5 : Int32) (v6 : Int32) (v8 : Int32) (v9 : Int32) (v10 : Int32) (s0 : Int32) (m : Mm), GG Z M_X11_span (PsX Z cvI) 143 [some (.ref v0), some (.int v1), some (.int v2), some (.int v3), some (.int v4), some (.int v5), some (.int v6), none, some (.int v8), some (.int v9), some (.int v10)] [.int s0] m (J143 v0 v1 v2 v3 v4 v5 v6 v8 v9 v10 s0 m)) ?_ ?_
      · intro v0 v1 v2 v3 v4 v5 v6 v8 v9 v10 s0 m
        refine g_istore dX11_span_143 (show 7 < 11 by decide) ?_
        intro x24
        refine g_iload dX11_span_145 rfl ?_
        refine g_aload_n (i := 0) dX11_span_147 rfl rfl ?_
        refine g_getR (k := 7) cl_X11 (by decide) rfl q_373 dX11_span_148 ?_
        intro q25
        refine g_getIN (k := 0) cl_X7 (by decide) rfl q_219 dX11_span_151 ?_
        refine g_mmax q_1361 q_472 q_13 qm_max (by decide) rfl dX11_span_154 ?_
        refine g_istore dX11_span_157 (show 8 < 11 by decide) ?_
        intro x26
        refine g_iload dX11_span_159 rfl ?_
        refine g_aload_n (i := 0) dX11_span_161 rfl rfl ?_
        refine g_getR (k := 7) cl_X11 (by decide) rfl q_373 dX11_span_162 ?_
        intro q27
        refine g_iload dX11_span_165 rfl ?_
        refine g_callVI cl_X7 (crt_X7_stands _ _ _ _ _) cw_X7_stands (by decide) rfl q_1101 q_526 q_527 rfl rfl dX11_span_167 ?_
        intro r28 m29
        refine g_jn (fun J178 => ∀ (v0 : Nat) (v1 : Int32) (v2 : Int32) (v3 : Int32) (v4 : Int32) (v5 : Int32) (v6 : Int32) (v7 : Int32) (v8 : Int32) (v10 : Int32) (s0 : Int32) (s1 : Int32) (m : Mm), GG Z M_X11_span (PsX Z cvI) 178 [some (.ref v0), some (.int v1), some (.int v2), some (.int v3), some (.int v4), some (.int v5), some (.int v6), some (.int v7), some (.int v8), none, some (.int v10)] [.int s0, .int s1] m (J178 v0 v1 v2 v3 v4 v5 v6 v7 v8 v10 s0 s1 m)) ?_ ?_
        · intro v0 v1 v2 v3 v4 v5 v6 v7 v8 v10 s0 s1 m
          refine g_iadd dX11_span_178 ?_
          refine g_istore dX11_span_179 (show 9 < 11 by decide) ?_
          intro x30
          refine g_iinc dX11_span_181 rfl ki_1 (show 10 < 11 by decide) ?_
          intro x31
          refine g_goto (tgt := 77) dX11_span_184 (by decide) ?_
          exact g_msk [true, true, true, true, true, true, true, true, true, true, true] (ih _ _ _ _ _ _ _ _ _ _ _ _)
        · intro J178 hJ178
          refine g_ifeq (tgt := 177) dX11_span_170 (by decide) ?_ ?_
          · refine g_iconst (v := (0 : Int32)) dX11_span_177 ki_0 ?_
            exact g_msk [true, true, true, true, true, true, true, true, true, false, true] (hJ178 _ _ _ _ _ _ _ _ _ _ _ _ _)
          · refine g_iconst (v := (1 : Int32)) dX11_span_173 ki_1 ?_
            refine g_goto (tgt := 178) dX11_span_174 (by decide) ?_
            exact g_msk [true, true, true, true, true, true, true, true, true, false, true] (hJ178 _ _ _ _ _ _ _ _ _ _ _ _ _)
      · intro J143 hJ143
        refine g_ifne (tgt := 131) dX11_span_118 (by decide) ?_ ?_
        · refine g_iload dX11_span_131 rfl ?_
          refine g_aload_n (i := 0) dX11_span_133 rfl rfl ?_
          refine g_getR (k := 7) cl_X11 (by decide) rfl q_373 dX11_span_134 ?_
          intro q32
          refine g_getIN (k := 0) cl_X7 (by decide) rfl q_219 dX11_span_137 ?_
          refine g_mmin q_646 q_469 q_13 qm_min (by decide) rfl dX11_span_140 ?_
          exact g_msk [true, true, true, true, true, true, true, false, true, true, true] (hJ143 _ _ _ _ _ _ _ _ _ _ _ _)
        · refine g_aload_n (i := 0) dX11_span_121 rfl rfl ?_
          refine g_getR (k := 7) cl_X11 (by decide) rfl q_373 dX11_span_122 ?_
          intro q33
          refine g_getIN (k := 0) cl_X7 (by decide) rfl q_219 dX11_span_125 ?_
          refine g_goto (tgt := 143) dX11_span_128 (by decide) ?_
          exact g_msk [true, true, true, true, true, true, true, false, true, true, true] (hJ143 _ _ _ _ _ _ _ _ _ _ _ _)
set_option maxRecDepth 100000 in
set_option maxHeartbeats 4000000 in
theorem crt_X11_span (l : Launch) (θ : Th) (a0 : Nat) (a1 : Int32) (a2 : Int32) (a3 : Int32) (a4 : Int32) (a5 : Int32) (a6 : Int32) (m : Mm) : CrtX l θ yX11_span M_X11_span cvI [.ref a0, .int a1, .int a2, .int a3, .int a4, .int a5, .int a6] m (F_X11_span a0 a1 a2 a3 a4 a5 a6 m) := by
  refine crtx_of 4 (by decide) rfl rfl (Nat.le_of_ble_eq_true rfl) (fun Z hμ ht => ?_)
  unfold F_X11_span
  show GG Z _ _ 0 [some (.ref a0), some (.int a1), some (.int a2), some (.int a3), some (.int a4), some (.int a5), some (.int a6), none, none, none, none] [] m _
  refine g_aload_n (i := 0) dX11_span_0 rfl rfl ?_
  refine g_iload dX11_span_1 rfl ?_
  refine g_callXVV ht cl_X11 (crt_X11_needMember _ _ _ _ _) cw_X11_needMember (by decide) rfl q_1082 q_1084 qs_31 rfl rfl dX11_span_3 ?_
  intro r1 m2
  refine g_aload_n (i := 0) dX11_span_6 rfl rfl ?_
  refine g_iload_n (i := 2) dX11_span_7 rfl rfl ?_
  refine g_iconst (v := (1 : Int32)) dX11_span_8 ki_1 ?_
  refine g_bipush (v := (10 : Int32)) dX11_span_9 kb_10 ?_
  refine g_callSI (crt_X11_isWithin _ _ _ _ _ _) cw_X11_isWithin (by decide) rfl q_627 q_628 rfl rfl dX11_span_11 ?_
  intro r3 m4
  refine g_jn (fun J32 => ∀ (v0 : Nat) (v1 : Int32) (v2 : Int32) (v3 : Int32) (v4 : Int32) (v5 : Int32) (v6 : Int32) (s0 : Int32) (s1 : Nat) (m : Mm), GG Z M_X11_span (PsX Z cvI) 32 [some (.ref v0), some (.int v1), some (.int v2), some (.int v3), some (.int v4), some (.int v5), some (.int v6), none, none, none, none] [.int s0, .ref s1] m (J32 v0 v1 v2 v3 v4 v5 v6 s0 s1 m)) ?_ ?_
  · intro v0 v1 v2 v3 v4 v5 v6 s0 s1 m
    refine g_callXVV ht cl_X11 (crt_X11_need _ _ _ _ _) cw_X11_need (by decide) rfl q_647 q_649 qs_12 rfl rfl dX11_span_32 ?_
    intro r5 m6
    refine g_aload_n (i := 0) dX11_span_35 rfl rfl ?_
    refine g_iload dX11_span_36 rfl ?_
    refine g_iconst (v := (0 : Int32)) dX11_span_38 ki_0 ?_
    refine g_bipush (v := (16 : Int32)) dX11_span_39 kb_16 ?_
    refine g_callSI (crt_X11_isWithin _ _ _ _ _ _) cw_X11_isWithin (by decide) rfl q_627 q_628 rfl rfl dX11_span_41 ?_
    intro r7 m8
    refine g_jn (fun J62 => ∀ (v0 : Nat) (v1 : Int32) (v2 : Int32) (v3 : Int32) (v4 : Int32) (v5 : Int32) (v6 : Int32) (s0 : Int32) (s1 : Nat) (m : Mm), GG Z M_X11_span (PsX Z cvI) 62 [some (.ref v0), some (.int v1), some (.int v2), some (.int v3), some (.int v4), some (.int v5), some (.int v6), none, none, none, none] [.int s0, .ref s1] m (J62 v0 v1 v2 v3 v4 v5 v6 s0 s1 m)) ?_ ?_
    · intro v0 v1 v2 v3 v4 v5 v6 s0 s1 m
      refine g_callXVV ht cl_X11 (crt_X11_need _ _ _ _ _) cw_X11_need (by decide) rfl q_647 q_649 qs_12 rfl rfl dX11_span_62 ?_
      intro r9 m10
      refine g_iconst (v := (0 : Int32)) dX11_span_65 ki_0 ?_
      refine g_istore dX11_span_66 (show 7 < 11 by decide) ?_
      intro x11
      refine g_iconst (v := (0 : Int32)) dX11_span_68 ki_0 ?_
      refine g_istore dX11_span_69 (show 8 < 11 by decide) ?_
      intro x12
      refine g_iconst (v := (0 : Int32)) dX11_span_71 ki_0 ?_
      refine g_istore dX11_span_72 (show 9 < 11 by decide) ?_
      intro x13
      refine g_iconst (v := (0 : Int32)) dX11_span_74 ki_0 ?_
      refine g_istore dX11_span_75 (show 10 < 11 by decide) ?_
      intro x14
      refine g_msk [true, true, true, true, true, true, true, true, true, true, true] (c_L_X11_span_77 ?_ NF _ _ _ _ _ _ _ _ _ _ _ _)
      intro v5 v7 v8 v9 m
      refine g_iload dX11_span_187 rfl ?_
      refine g_ifne (tgt := 195) dX11_span_189 (by decide) ?_ ?_
      · refine g_iload dX11_span_195 rfl ?_
        refine g_iconst (v := (1 : Int32)) dX11_span_197 ki_1 ?_
        refine g_icmpne (tgt := 206) dX11_span_198 (by decide) ?_ ?_
        · refine g_iload dX11_span_206 rfl ?_
          exact g_ireturnX rfl dX11_span_208
        · refine g_iload dX11_span_201 rfl ?_
          refine g_goto (tgt := 208) dX11_span_203 (by decide) ?_
          exact g_ireturnX rfl dX11_span_208
      · refine g_iload dX11_span_192 rfl ?_
        exact g_ireturnX rfl dX11_span_194
    · intro J62 hJ62
      refine g_jn (fun J61 => ∀ (v0 : Nat) (v1 : Int32) (v2 : Int32) (v3 : Int32) (v4 : Int32) (v5 : Int32) (v6 : Int32) (s0 : Nat) (m : Mm), GG Z M_X11_span (PsX Z cvI) 61 [some (.ref v0), some (.int v1), some (.int v2), some (.int v3), some (.int v4), some (.int v5), some (.int v6), none, none, none, none] [.ref s0] m (J61 v0 v1 v2 v3 v4 v5 v6 s0 m)) ?_ ?_
      · intro v0 v1 v2 v3 v4 v5 v6 s0 m
        refine g_iconst (v := (0 : Int32)) dX11_span_61 ki_0 ?_
        exact g_msk [true, true, true, true, true, true, true, false, false, false, false] (hJ62 _ _ _ _ _ _ _ _ _ _)
      · intro J61 hJ61
        refine g_ifeq (tgt := 61) dX11_span_44 (by decide) ?_ ?_
        · exact g_msk [true, true, true, true, true, true, true, false, false, false, false] (hJ61 _ _ _ _ _ _ _ _ _)
        · refine g_iload dX11_span_47 rfl ?_
          refine g_iconst (v := (0 : Int32)) dX11_span_49 ki_0 ?_
          refine g_iconst (v := (2 : Int32)) dX11_span_50 ki_2 ?_
          refine g_callSI (crt_X11_isWithin _ _ _ _ _ _) cw_X11_isWithin (by decide) rfl q_627 q_628 rfl rfl dX11_span_51 ?_
          intro r34 m35
          refine g_ifeq (tgt := 61) dX11_span_54 (by decide) ?_ ?_
          · exact g_msk [true, true, true, true, true, true, true, false, false, false, false] (hJ61 _ _ _ _ _ _ _ _ _)
          · refine g_iconst (v := (1 : Int32)) dX11_span_57 ki_1 ?_
            refine g_goto (tgt := 62) dX11_span_58 (by decide) ?_
            exact g_msk [true, true, true, true, true, true, true, false, false, false, false] (hJ62 _ _ _ _ _ _ _ _ _ _)
  · intro J32 hJ32
    refine g_jn (fun J31 => ∀ (v0 : Nat) (v1 : Int32) (v2 : Int32) (v3 : Int32) (v4 : Int32) (v5 : Int32) (v6 : Int32) (s0 : Nat) (m : Mm), GG Z M_X11_span (PsX Z cvI) 31 [some (.ref v0), some (.int v1), some (.int v2), some (.int v3), some (.int v4), some (.int v5), some (.int v6), none, none, none, none] [.ref s0] m (J31 v0 v1 v2 v3 v4 v5 v6 s0 m)) ?_ ?_
    · intro v0 v1 v2 v3 v4 v5 v6 s0 m
      refine g_iconst (v := (0 : Int32)) dX11_span_31 ki_0 ?_
      exact g_msk [true, true, true, true, true, true, true, false, false, false, false] (hJ32 _ _ _ _ _ _ _ _ _ _)
    · intro J31 hJ31
      refine g_ifeq (tgt := 31) dX11_span_14 (by decide) ?_ ?_
      · exact g_msk [true, true, true, true, true, true, true, false, false, false, false] (hJ31 _ _ _ _ _ _ _ _ _)
      · refine g_iload_n (i := 3) dX11_span_17 rfl rfl ?_
        refine g_iconst (v := (1 : Int32)) dX11_span_18 ki_1 ?_
        refine g_bipush (v := (96 : Int32)) dX11_span_19 kb_96 ?_
        refine g_callSI (crt_X11_isWithin _ _ _ _ _ _) cw_X11_isWithin (by decide) rfl q_627 q_628 rfl rfl dX11_span_21 ?_
        intro r36 m37
        refine g_ifeq (tgt := 31) dX11_span_24 (by decide) ?_ ?_
        · exact g_msk [true, true, true, true, true, true, true, false, false, false, false] (hJ31 _ _ _ _ _ _ _ _ _)
        · refine g_iconst (v := (1 : Int32)) dX11_span_27 ki_1 ?_
          refine g_goto (tgt := 32) dX11_span_28 (by decide) ?_
          exact g_msk [true, true, true, true, true, true, true, false, false, false, false] (hJ32 _ _ _ _ _ _ _ _ _ _)
