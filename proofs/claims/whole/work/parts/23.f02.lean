abbrev M_X10_read : MI := (cX10_read, RX10, 3, 47, 1111, (some .boolean), "read")
theorem cw_X10_read : CwOk M_X10_read yX10_read 2 := ⟨q_907, q_5, by decide +kernel⟩
def F_X10_read (a0 : Nat) (a1 : Nat) (a2 : Int32) (m : Mm) : Option (Int32 × Mm) :=
 gd (okO m a0 10) (lt9 (wI m a0 3 (0 : Int32)) fun m1 =>
 gd (okO m1 a0 10) (lt9 (wI m1 a0 4 a2) fun m2 =>
 gd (okO m2 a0 10) (bd (F_X10_readSteps 40 a0 a1 (0 : Int32) m2) fun r3 m4 =>
 gd (decide (r3 = 0 ∨ r3 = 1)) (some (r3, m4)))))
set_option maxRecDepth 100000 in
set_option maxHeartbeats 4000000 in
theorem crt_X10_read (l : Launch) (θ : Th) (a0 : Nat) (a1 : Nat) (a2 : Int32) (m : Mm) : Crt l θ yX10_read M_X10_read cvI [.ref a0, .ref a1, .int a2] m (F_X10_read a0 a1 a2 m) := by
  refine crt_of 0 (by decide) rfl rfl (Nat.le_of_ble_eq_true rfl) (fun Z hμ => ?_)
  unfold F_X10_read
  show GG Z _ _ 0 [some (.ref a0), some (.ref a1), some (.int a2)] [] m _
  refine g_aload_n (i := 0) dX10_read_0 rfl rfl ?_
  refine g_iconst (v := (0 : Int32)) dX10_read_1 ki_0 ?_
  refine g_putI (k := 3) cl_X10 (by decide) rfl rfl q_138 dX10_read_2 ?_
  intro m1
  refine g_aload_n (i := 0) dX10_read_5 rfl rfl ?_
  refine g_iload_n (i := 2) dX10_read_6 rfl rfl ?_
  refine g_putI (k := 4) cl_X10 (by decide) rfl rfl q_140 dX10_read_7 ?_
  intro m2
  refine g_aload_n (i := 0) dX10_read_10 rfl rfl ?_
  refine g_aload_n (i := 1) dX10_read_11 rfl rfl ?_
  refine g_iconst (v := (0 : Int32)) dX10_read_12 ki_0 ?_
  refine g_callVI cl_X10 (crt_X10_readSteps _ _ 40 _ _ _ _) (cw_X10_readSteps 40) (by decide) rfl q_908 q_910 qs_20 rfl rfl dX10_read_13 ?_
  intro r3 m4
  exact g_zreturn rfl dX10_read_16
abbrev M_X11_need : MI := (cX11_need, RX11, 2, 9, 120, none, "need")
theorem cw_X11_need : CwOk M_X11_need yX11_need 1 := ⟨q_650, q_1, by decide +kernel⟩
def F_X11_need (a0 : Nat) (a1 : Int32) (m : Mm) : Option ((Unit ⊕ Nat) × Mm) :=
 if a1 = 0 then (
 gd (okO m a0 11) (oc (rR m a0 12) none fun q1 =>
 gd (okA m 100 q1 (1 : Int32)) (
 gd (okA m 100 q1 (1 : Int32)) (lt9 (wI m q1 (ix (1 : Int32)) ((rI m q1 (ix (1 : Int32))) + (1 : Int32))) fun m2 =>
 gd (decide (mN m2 + 1 < K9)) (some (.inr 1, nw m2 50 6))))))
 else (
 some ((.inl ()), m))
set_option maxRecDepth 100000 in
set_option maxHeartbeats 4000000 in
theorem crt_X11_need (l : Launch) (θ : Th) (a0 : Nat) (a1 : Int32) (m : Mm) : CrtX l θ yX11_need M_X11_need cvV [.ref a0, .int a1] m (F_X11_need a0 a1 m) := by
  refine crtx_of 0 (by decide) rfl rfl (Nat.le_of_ble_eq_true rfl) (fun Z hμ ht => ?_)
  unfold F_X11_need
  show GG Z _ _ 0 [some (.ref a0), some (.int a1)] [] m _
  refine g_iload_n (i := 1) dX11_need_0 rfl rfl ?_
  refine g_ifne (tgt := 22) dX11_need_1 (by decide) ?_ ?_
  · exact g_returnX rfl dX11_need_22
  · refine g_aload_n (i := 0) dX11_need_4 rfl rfl ?_
    refine g_getR (k := 12) cl_X11 (by decide) rfl q_378 dX11_need_5 ?_
    intro q1
    refine g_iconst (v := (1 : Int32)) dX11_need_8 ki_1 ?_
    refine g_dup2 dX11_need_9 rfl rfl ?_
    refine g_iaload dX11_need_10 ?_
    refine g_iconst (v := (1 : Int32)) dX11_need_11 ki_1 ?_
    refine g_iadd dX11_need_12 ?_
    refine g_iastore dX11_need_13 ?_
    intro m2
    exact g_throw ht tw_1 (by decide) rfl dX11_need_14 dX11_need_17 dX11_need_18 dX11_need_21
abbrev M_X11_needText : MI := (cX11_needText, RX11, 3, 10, 141, none, "needText")
theorem cw_X11_needText : CwOk M_X11_needText yX11_needText 2 := ⟨q_645, q_1, by decide +kernel⟩
def F_X11_needText (a0 : Nat) (a1 : Int32) (a2 : Int32) (m : Mm) : Option ((Unit ⊕ Nat) × Mm) :=
 gd (okO m a0 11) (oc (rR m a0 0) none fun q1 =>
 gd (okO m q1 9) (
 bd (F_X11_isWithin a1 (0 : Int32) (mnI a2 (rI m q1 1)) m) fun r2 m3 =>
 gd (okO m3 a0 11) (bx (F_X11_need a0 r2 m3) (fun r4 m5 =>
 some ((.inl ()), m5)) (fun k m => some (.inr k, m)))))
set_option maxRecDepth 100000 in
set_option maxHeartbeats 4000000 in
theorem crt_X11_needText (l : Launch) (θ : Th) (a0 : Nat) (a1 : Int32) (a2 : Int32) (m : Mm) : CrtX l θ yX11_needText M_X11_needText cvV [.ref a0, .int a1, .int a2] m (F_X11_needText a0 a1 a2 m) := by
  refine crtx_of 0 (by decide) rfl rfl (Nat.le_of_ble_eq_true rfl) (fun Z hμ ht => ?_)
  unfold F_X11_needText
  show GG Z _ _ 0 [some (.ref a0), some (.int a1), some (.int a2)] [] m _
  refine g_aload_n (i := 0) dX11_needText_0 rfl rfl ?_
  refine g_iload_n (i := 1) dX11_needText_1 rfl rfl ?_
  refine g_iconst (v := (0 : Int32)) dX11_needText_2 ki_0 ?_
  refine g_iload_n (i := 2) dX11_needText_3 rfl rfl ?_
  refine g_aload_n (i := 0) dX11_needText_4 rfl rfl ?_
  refine g_getR (k := 0) cl_X11 (by decide) rfl q_366 dX11_needText_5 ?_
  intro q1
  refine g_getIN (k := 1) cl_X9 (by decide) rfl q_45 dX11_needText_8 ?_
  refine g_mmin q_646 q_469 q_13 qm_min (by decide) rfl dX11_needText_11 ?_
  refine g_callSI (crt_X11_isWithin _ _ _ _ _ _) cw_X11_isWithin (by decide) rfl q_627 q_628 rfl rfl dX11_needText_14 ?_
  intro r2 m3
  refine g_callXVV ht cl_X11 (crt_X11_need _ _ _ _ _) cw_X11_need (by decide) rfl q_647 q_649 qs_12 rfl rfl dX11_needText_17 ?_
  intro r4 m5
  exact g_returnX rfl dX11_needText_20
abbrev M_X11_group : MI := (cX11_group, RX11, 2, 11, 163, (some .int), "group")
theorem cw_X11_group : CwOk M_X11_group yX11_group 1 := ⟨q_641, q_1, by decide +kernel⟩
def F_X11_group (a0 : Nat) (a1 : Int32) (m : Mm) : Option ((Int32 ⊕ Nat) × Mm) :=
 gd (okO m a0 11) (bx (F_X11_needText a0 a1 (600 : Int32) m) (fun r1 m2 =>
 gd (okO m2 a0 11) (oc (rR m2 a0 0) none fun q3 =>
 gd (okO m2 q3 9) (bd (F_X9_open q3 a1 m2) fun r4 m5 =>
 gd (okO m5 a0 11) (oc (rR m5 a0 1) none fun q6 =>
 gd (okO m5 a0 11) (oc (rR m5 a0 0) none fun q7 =>
 gd (okO m5 q6 1) (bd (F_X1_read q6 q7 m5) fun r8 m9 =>
 if r8 = 0 then (
 gd (okO m9 a0 11) (oc (rR m9 a0 0) none fun q27 =>
 gd (okO m9 q27 9) (
 some ((.inl ((rI m9 q27 6) - (10 : Int32))), m9))))
 else (
 gd (okO m9 a0 11) (oc (rR m9 a0 2) none fun q10 =>
 gd (okO m9 q10 3) (bd (F_X3_forget q10 m9) fun r11 m12 =>
 gd (okO m12 a0 11) (oc (rR m12 a0 4) none fun q13 =>
 gd (okO m12 q13 0) (bd (F_X0_forget q13 m12) fun r14 m15 =>
 gd (okO m15 a0 11) (oc (rR m15 a0 8) none fun q16 =>
 gd (okO m15 q16 5) (bd (F_X5_forget q16 m15) fun r17 m18 =>
 gd (okO m18 a0 11) (lt9 (wI m18 a0 13 (0 : Int32)) fun m19 =>
 gd (okO m19 a0 11) (lt9 (wI m19 a0 14 (0 : Int32)) fun m20 =>
 gd (okO m20 a0 11) (oc (rR m20 a0 6) none fun q21 =>
 gd (okO m20 a0 11) (oc (rR m20 a0 1) none fun q22 =>
 gd (okO m20 q22 1) (
 gd (okO m20 a0 11) (oc (rR m20 a0 1) none fun q23 =>
 gd (okO m20 q23 1) (
 gd (okO m20 q21 7) (bd (F_X7_begin q21 (rI m20 q22 0) (rI m20 q23 1) m20) fun r24 m25 =>
 gd (okO m25 a0 11) (oc (rR m25 a0 1) none fun q26 =>
 gd (okO m25 q26 1) (
 some ((.inl (rI m25 q26 0)), m25)))))))))))))))))))))))) (fun k m => some (.inr k, m)))
set_option maxRecDepth 100000 in
set_option maxHeartbeats 4000000 in
theorem crt_X11_group (l : Launch) (θ : Th) (a0 : Nat) (a1 : Int32) (m : Mm) : CrtX l θ yX11_group M_X11_group cvI [.ref a0, .int a1] m (F_X11_group a0 a1 m) := by
  refine crtx_of 0 (by decide) rfl rfl (Nat.le_of_ble_eq_true rfl) (fun Z hμ ht => ?_)
  unfold F_X11_group
  show GG Z _ _ 0 [some (.ref a0), some (.int a1)] [] m _
  refine g_aload_n (i := 0) dX11_group_0 rfl rfl ?_
  refine g_iload_n (i := 1) dX11_group_1 rfl rfl ?_
  refine g_sipush (v := (600 : Int32)) dX11_group_2 ks_600 ?_
  refine g_callXVV ht cl_X11 (crt_X11_needText _ _ _ _ _ _) cw_X11_needText (by decide) rfl q_642 q_644 qs_11 rfl rfl dX11_group_5 ?_
  intro r1 m2
  refine g_aload_n (i := 0) dX11_group_8 rfl rfl ?_
  refine g_getR (k := 0) cl_X11 (by decide) rfl q_366 dX11_group_9 ?_
  intro q3
  refine g_iload_n (i := 1) dX11_group_12 rfl rfl ?_
  refine g_callVV cl_X9 (crt_X9_open _ _ _ _ _) cw_X9_open (by decide) rfl q_730 q_731 q_732 rfl rfl dX11_group_13 ?_
  intro r4 m5
  refine g_aload_n (i := 0) dX11_group_16 rfl rfl ?_
  refine g_getR (k := 1) cl_X11 (by decide) rfl q_367 dX11_group_17 ?_
  intro q6
  refine g_aload_n (i := 0) dX11_group_20 rfl rfl ?_
  refine g_getR (k := 0) cl_X11 (by decide) rfl q_366 dX11_group_21 ?_
  intro q7
  refine g_callVI cl_X1 (crt_X1_read _ _ _ _ _) cw_X1_read (by decide) rfl q_735 q_736 q_737 rfl rfl dX11_group_24 ?_
  intro r8 m9
  refine g_ifne (tgt := 41) dX11_group_27 (by decide) ?_ ?_
  · refine g_aload_n (i := 0) dX11_group_41 rfl rfl ?_
    refine g_getR (k := 2) cl_X11 (by decide) rfl q_368 dX11_group_42 ?_
    intro q10
    refine g_callVV cl_X3 (crt_X3_forget _ _ _ _) cw_X3_forget (by decide) rfl q_833 q_109 q_110 rfl rfl dX11_group_45 ?_
    intro r11 m12
    refine g_aload_n (i := 0) dX11_group_48 rfl rfl ?_
    refine g_getR (k := 4) cl_X11 (by decide) rfl q_370 dX11_group_49 ?_
    intro q13
    refine g_callVV cl_X0 (crt_X0_forget _ _ _ _) cw_X0_forget (by decide) rfl q_834 q_835 q_836 rfl rfl dX11_group_52 ?_
    intro r14 m15
    refine g_aload_n (i := 0) dX11_group_55 rfl rfl ?_
    refine g_getR (k := 8) cl_X11 (by decide) rfl q_374 dX11_group_56 ?_
    intro q16
    refine g_callVV cl_X5 (crt_X5_forget _ _ _ _) cw_X5_forget (by decide) rfl q_838 q_839 q_840 rfl rfl dX11_group_59 ?_
    intro r17 m18
    refine g_aload_n (i := 0) dX11_group_62 rfl rfl ?_
    refine g_iconst (v := (0 : Int32)) dX11_group_63 ki_0 ?_
    refine g_putI (k := 13) cl_X11 (by decide) rfl rfl q_379 dX11_group_64 ?_
    intro m19
    refine g_aload_n (i := 0) dX11_group_67 rfl rfl ?_
    refine g_iconst (v := (0 : Int32)) dX11_group_68 ki_0 ?_
    refine g_putI (k := 14) cl_X11 (by decide) rfl rfl q_380 dX11_group_69 ?_
    intro m20
    refine g_aload_n (i := 0) dX11_group_72 rfl rfl ?_
    refine g_getR (k := 6) cl_X11 (by decide) rfl q_372 dX11_group_73 ?_
    intro q21
    refine g_aload_n (i := 0) dX11_group_76 rfl rfl ?_
    refine g_getR (k := 1) cl_X11 (by decide) rfl q_367 dX11_group_77 ?_
    intro q22
    refine g_getIN (k := 0) cl_X1 (by decide) rfl q_89 dX11_group_80 ?_
    refine g_aload_n (i := 0) dX11_group_83 rfl rfl ?_
    refine g_getR (k := 1) cl_X11 (by decide) rfl q_367 dX11_group_84 ?_
    intro q23
    refine g_getIN (k := 1) cl_X1 (by decide) rfl q_91 dX11_group_87 ?_
    refine g_callVV cl_X7 (crt_X7_begin _ _ _ _ _ _) cw_X7_begin (by decide) rfl q_352 q_353 q_354 rfl rfl dX11_group_90 ?_
    intro r24 m25
    refine g_aload_n (i := 0) dX11_group_93 rfl rfl ?_
    refine g_getR (k := 1) cl_X11 (by decide) rfl q_367 dX11_group_94 ?_
    intro q26
    refine g_getIN (k := 0) cl_X1 (by decide) rfl q_89 dX11_group_97 ?_
    exact g_ireturnX rfl dX11_group_100
  · refine g_aload_n (i := 0) dX11_group_30 rfl rfl ?_
    refine g_getR (k := 0) cl_X11 (by decide) rfl q_366 dX11_group_31 ?_
    intro q27
    refine g_getIN (k := 6) cl_X9 (by decide) rfl q_59 dX11_group_34 ?_
    refine g_bipush (v := (10 : Int32)) dX11_group_37 kb_10 ?_
    refine g_isub dX11_group_39 ?_
    exact g_ireturnX rfl dX11_group_40
abbrev M_X11_law : MI := (cX11_law, RX11, 2, 48, 1256, (some .int), "law")
theorem cw_X11_law : CwOk M_X11_law yX11_law 1 := ⟨q_848, q_1, by decide +kernel⟩
def F_X11_law (a0 : Nat) (a1 : Int32) (m : Mm) : Option ((Int32 ⊕ Nat) × Mm) :=
 gd (okO m a0 11) (bx (F_X11_needText a0 a1 (150 : Int32) m) (fun r1 m2 =>
 gd (okO m2 a0 11) (oc (rR m2 a0 0) none fun q3 =>
 gd (okO m2 q3 9) (bd (F_X9_open q3 a1 m2) fun r4 m5 =>
 gd (okO m5 a0 11) (oc (rR m5 a0 2) none fun q6 =>
 gd (okO m5 a0 11) (oc (rR m5 a0 0) none fun q7 =>
 gd (okO m5 q6 3) (bd (F_X3_read q6 q7 m5) fun r8 m9 =>
 if r8 = 0 then (
 gd (okO m9 a0 11) (oc (rR m9 a0 0) none fun q10 =>
 gd (okO m9 q10 9) (
 some ((.inl ((rI m9 q10 6) - (10 : Int32))), m9))))
 else (
 some ((.inl (1 : Int32)), m9)))))))) (fun k m => some (.inr k, m)))
set_option maxRecDepth 100000 in
set_option maxHeartbeats 4000000 in
theorem crt_X11_law (l : Launch) (θ : Th) (a0 : Nat) (a1 : Int32) (m : Mm) : CrtX l θ yX11_law M_X11_law cvI [.ref a0, .int a1] m (F_X11_law a0 a1 m) := by
  refine crtx_of 0 (by decide) rfl rfl (Nat.le_of_ble_eq_true rfl) (fun Z hμ ht => ?_)
  unfold F_X11_law
  show GG Z _ _ 0 [some (.ref a0), some (.int a1)] [] m _
  refine g_aload_n (i := 0) dX11_law_0 rfl rfl ?_
  refine g_iload_n (i := 1) dX11_law_1 rfl rfl ?_
  refine g_sipush (v := (150 : Int32)) dX11_law_2 ks_150 ?_
  refine g_callXVV ht cl_X11 (crt_X11_needText _ _ _ _ _ _) cw_X11_needText (by decide) rfl q_642 q_644 qs_11 rfl rfl dX11_law_5 ?_
  intro r1 m2
  refine g_aload_n (i := 0) dX11_law_8 rfl rfl ?_
  refine g_getR (k := 0) cl_X11 (by decide) rfl q_366 dX11_law_9 ?_
  intro q3
  refine g_iload_n (i := 1) dX11_law_12 rfl rfl ?_
  refine g_callVV cl_X9 (crt_X9_open _ _ _ _ _) cw_X9_open (by decide) rfl q_730 q_731 q_732 rfl rfl dX11_law_13 ?_
  intro r4 m5
  refine g_aload_n (i := 0) dX11_law_16 rfl rfl ?_
  refine g_getR (k := 2) cl_X11 (by decide) rfl q_368 dX11_law_17 ?_
  intro q6
  refine g_aload_n (i := 0) dX11_law_20 rfl rfl ?_
  refine g_getR (k := 0) cl_X11 (by decide) rfl q_366 dX11_law_21 ?_
  intro q7
  refine g_callVI cl_X3 (crt_X3_read _ _ _ _ _) cw_X3_read (by decide) rfl q_849 q_850 q_851 rfl rfl dX11_law_24 ?_
  intro r8 m9
  refine g_ifeq (tgt := 34) dX11_law_27 (by decide) ?_ ?_
  · refine g_aload_n (i := 0) dX11_law_34 rfl rfl ?_
    refine g_getR (k := 0) cl_X11 (by decide) rfl q_366 dX11_law_35 ?_
    intro q10
    refine g_getIN (k := 6) cl_X9 (by decide) rfl q_59 dX11_law_38 ?_
    refine g_bipush (v := (10 : Int32)) dX11_law_41 kb_10 ?_
    refine g_isub dX11_law_43 ?_
    exact g_ireturnX rfl dX11_law_44
  · refine g_iconst (v := (1 : Int32)) dX11_law_30 ki_1 ?_
    refine g_goto (tgt := 44) dX11_law_31 (by decide) ?_
    exact g_ireturnX rfl dX11_law_44
abbrev M_X11_work : MI := (cX11_work, RX11, 2, 48, 1290, (some .int), "work")
theorem cw_X11_work : CwOk M_X11_work yX11_work 1 := ⟨q_899, q_1, by decide +kernel⟩
def F_X11_work (a0 : Nat) (a1 : Int32) (m : Mm) : Option ((Int32 ⊕ Nat) × Mm) :=
 gd (okO m a0 11) (bx (F_X11_needText a0 a1 (150 : Int32) m) (fun r1 m2 =>
 gd (okO m2 a0 11) (oc (rR m2 a0 8) none fun q3 =>
 gd (okO m2 q3 5) (bd (F_X5_isFull q3 m2) fun r4 m5 =>
 if r4 = 0 then (
 gd (okO m5 a0 11) (oc (rR m5 a0 0) none fun q6 =>
 gd (okO m5 q6 9) (bd (F_X9_open q6 a1 m5) fun r7 m8 =>
 gd (okO m8 a0 11) (oc (rR m8 a0 3) none fun q9 =>
 gd (okO m8 a0 11) (oc (rR m8 a0 0) none fun q10 =>
 gd (okO m8 a0 11) (oc (rR m8 a0 1) none fun q11 =>
 gd (okO m8 q11 1) (
 gd (okO m8 q9 10) (bd (F_X10_read q9 q10 (rI m8 q11 0) m8) fun r12 m13 =>
 if r12 = 0 then (
 gd (okO m13 a0 11) (oc (rR m13 a0 0) none fun q30 =>
 gd (okO m13 q30 9) (
 some ((.inl ((rI m13 q30 6) - (10 : Int32))), m13))))
 else (
 gd (okO m13 a0 11) (oc (rR m13 a0 8) none fun q14 =>
 gd (okO m13 a0 11) (oc (rR m13 a0 6) none fun q15 =>
 gd (okO m13 q14 5) (bd (F_X5_keep q14 q15 m13) fun r16 m17 =>
 gd (okO m17 a0 11) (oc (rR m17 a0 3) none fun q18 =>
 gd (okO m17 q18 10) (bd (F_X10_begin q18 m17) fun r19 m20 =>
 gd (okO m20 a0 11) (oc (rR m20 a0 3) none fun q21 =>
 gd (okO m20 a0 11) (oc (rR m20 a0 6) none fun q22 =>
 gd (okO m20 a0 11) (oc (rR m20 a0 5) none fun q23 =>
 gd (okO m20 a0 11) (oc (rR m20 a0 3) none fun q24 =>
 gd (okO m20 q24 10) (
 gd (okO m20 q21 10) (bd (F_X10_run 40 q21 q22 q23 (0 : Int32) (rI m20 q24 3) (0 : Int32) m20) fun r25 m26 =>
 gd (okO m26 a0 11) (oc (rR m26 a0 3) none fun q27 =>
 gd (okO m26 q27 10) (
 gd (okO m26 a0 11) (lt9 (wI m26 a0 14 (rI m26 q27 7)) fun m28 =>
 gd (okO m28 a0 11) (oc (rR m28 a0 3) none fun q29 =>
 gd (okO m28 q29 10) (
 some ((.inl (rI m28 q29 6)), m28))))))))))))))))))))))))))
 else (
 gd (okO m5 a0 11) (oc (rR m5 a0 0) none fun q31 =>
 gd (okO m5 q31 9) (bd (F_X9_open q31 (0 : Int32) m5) fun r32 m33 =>
 some ((.inl (-20 : Int32)), m33))))))) (fun k m => some (.inr k, m)))
set_option maxRecDepth 100000 in
set_option maxHeartbeats 4000000 in
theorem crt_X11_work (l : Launch) (θ : Th) (a0 : Nat) (a1 : Int32) (m : Mm) : CrtX l θ yX11_work M_X11_work cvI [.ref a0, .int a1] m (F_X11_work a0 a1 m) := by
  refine crtx_of 0 (by decide) rfl rfl (Nat.le_of_ble_eq_true rfl) (fun Z hμ ht => ?_)
  unfold F_X11_work
  show GG Z _ _ 0 [some (.ref a0), some (.int a1)] [] m _
  refine g_aload_n (i := 0) dX11_work_0 rfl rfl ?_
  refine g_iload_n (i := 1) dX11_work_1 rfl rfl ?_
  refine g_sipush (v := (150 : Int32)) dX11_work_2 ks_150 ?_
  refine g_callXVV ht cl_X11 (crt_X11_needText _ _ _ _ _ _) cw_X11_needText (by decide) rfl q_642 q_644 qs_11 rfl rfl dX11_work_5 ?_
  intro r1 m2
  refine g_aload_n (i := 0) dX11_work_8 rfl rfl ?_
  refine g_getR (k := 8) cl_X11 (by decide) rfl q_374 dX11_work_9 ?_
  intro q3
  refine g_callVI cl_X5 (crt_X5_isFull _ _ _ _) cw_X5_isFull (by decide) rfl q_900 q_901 q_902 rfl rfl dX11_work_12 ?_
  intro r4 m5
  refine g_ifeq (tgt := 29) dX11_work_15 (by decide) ?_ ?_
  · refine g_aload_n (i := 0) dX11_work_29 rfl rfl ?_
    refine g_getR (k := 0) cl_X11 (by decide) rfl q_366 dX11_work_30 ?_
    intro q6
    refine g_iload_n (i := 1) dX11_work_33 rfl rfl ?_
    refine g_callVV cl_X9 (crt_X9_open _ _ _ _ _) cw_X9_open (by decide) rfl q_730 q_731 q_732 rfl rfl dX11_work_34 ?_
    intro r7 m8
    refine g_aload_n (i := 0) dX11_work_37 rfl rfl ?_
    refine g_getR (k := 3) cl_X11 (by decide) rfl q_369 dX11_work_38 ?_
    intro q9
    refine g_aload_n (i := 0) dX11_work_41 rfl rfl ?_
    refine g_getR (k := 0) cl_X11 (by decide) rfl q_366 dX11_work_42 ?_
    intro q10
    refine g_aload_n (i := 0) dX11_work_45 rfl rfl ?_
    refine g_getR (k := 1) cl_X11 (by decide) rfl q_367 dX11_work_46 ?_
    intro q11
    refine g_getIN (k := 0) cl_X1 (by decide) rfl q_89 dX11_work_49 ?_
    refine g_callVI cl_X10 (crt_X10_read _ _ _ _ _ _) cw_X10_read (by decide) rfl q_904 q_905 q_906 rfl rfl dX11_work_52 ?_
    intro r12 m13
    refine g_ifne (tgt := 69) dX11_work_55 (by decide) ?_ ?_
    · refine g_aload_n (i := 0) dX11_work_69 rfl rfl ?_
      refine g_getR (k := 8) cl_X11 (by decide) rfl q_374 dX11_work_70 ?_
      intro q14
      refine g_aload_n (i := 0) dX11_work_73 rfl rfl ?_
      refine g_getR (k := 6) cl_X11 (by decide) rfl q_372 dX11_work_74 ?_
      intro q15
      refine g_callVV cl_X5 (crt_X5_keep _ _ _ _ _) cw_X5_keep (by decide) rfl q_944 q_945 q_946 rfl rfl dX11_work_77 ?_
      intro r16 m17
      refine g_aload_n (i := 0) dX11_work_80 rfl rfl ?_
      refine g_getR (k := 3) cl_X11 (by decide) rfl q_369 dX11_work_81 ?_
      intro q18
      refine g_callVV cl_X10 (crt_X10_begin _ _ _ _) cw_X10_begin (by decide) rfl q_948 q_949 q_950 rfl rfl dX11_work_84 ?_
      intro r19 m20
      refine g_aload_n (i := 0) dX11_work_87 rfl rfl ?_
      refine g_getR (k := 3) cl_X11 (by decide) rfl q_369 dX11_work_88 ?_
      intro q21
      refine g_aload_n (i := 0) dX11_work_91 rfl rfl ?_
      refine g_getR (k := 6) cl_X11 (by decide) rfl q_372 dX11_work_92 ?_
      intro q22
      refine g_aload_n (i := 0) dX11_work_95 rfl rfl ?_
      refine g_getR (k := 5) cl_X11 (by decide) rfl q_371 dX11_work_96 ?_
      intro q23
      refine g_iconst (v := (0 : Int32)) dX11_work_99 ki_0 ?_
      refine g_aload_n (i := 0) dX11_work_100 rfl rfl ?_
      refine g_getR (k := 3) cl_X11 (by decide) rfl q_369 dX11_work_101 ?_
      intro q24
      refine g_getIN (k := 3) cl_X10 (by decide) rfl q_139 dX11_work_104 ?_
      refine g_iconst (v := (0 : Int32)) dX11_work_107 ki_0 ?_
      refine g_callVNV cl_X10 (crt_X10_run _ _ 40 _ _ _ _ _ _ _) (cw_X10_run 40) (by decide) rfl q_952 q_954 qs_24 rfl rfl dX11_work_108 ?_
      intro r25 m26
      refine g_aload_n (i := 0) dX11_work_111 rfl rfl ?_
      refine g_aload_n (i := 0) dX11_work_112 rfl rfl ?_
      refine g_getR (k := 3) cl_X11 (by decide) rfl q_369 dX11_work_113 ?_
      intro q27
      refine g_getIN (k := 7) cl_X10 (by decide) rfl q_144 dX11_work_116 ?_
      refine g_putI (k := 14) cl_X11 (by decide) rfl rfl q_380 dX11_work_119 ?_
      intro m28
      refine g_aload_n (i := 0) dX11_work_122 rfl rfl ?_
      refine g_getR (k := 3) cl_X11 (by decide) rfl q_369 dX11_work_123 ?_
      intro q29
      refine g_getIN (k := 6) cl_X10 (by decide) rfl q_142 dX11_work_126 ?_
      exact g_ireturnX rfl dX11_work_129
    · refine g_aload_n (i := 0) dX11_work_58 rfl rfl ?_
      refine g_getR (k := 0) cl_X11 (by decide) rfl q_366 dX11_work_59 ?_
      intro q30
      refine g_getIN (k := 6) cl_X9 (by decide) rfl q_59 dX11_work_62 ?_
      refine g_bipush (v := (10 : Int32)) dX11_work_65 kb_10 ?_
      refine g_isub dX11_work_67 ?_
      exact g_ireturnX rfl dX11_work_68
  · refine g_aload_n (i := 0) dX11_work_18 rfl rfl ?_
    refine g_getR (k := 0) cl_X11 (by decide) rfl q_366 dX11_work_19 ?_
    intro q31
    refine g_iconst (v := (0 : Int32)) dX11_work_22 ki_0 ?_
    refine g_callVV cl_X9 (crt_X9_open _ _ _ _ _) cw_X9_open (by decide) rfl q_730 q_731 q_732 rfl rfl dX11_work_23 ?_
    intro r32 m33
    refine g_bipush (v := (-20 : Int32)) dX11_work_26 kb_m20 ?_
    exact g_ireturnX rfl dX11_work_28
abbrev M_X11_book : MI := (cX11_book, RX11, 2, 11, 163, (some .int), "book")
theorem cw_X11_book : CwOk M_X11_book yX11_book 1 := ⟨q_1051, q_1, by decide +kernel⟩
def F_X11_book (a0 : Nat) (a1 : Int32) (m : Mm) : Option ((Int32 ⊕ Nat) × Mm) :=
 gd (okO m a0 11) (bx (F_X11_needText a0 a1 (60 : Int32) m) (fun r1 m2 =>
 gd (okO m2 a0 11) (oc (rR m2 a0 0) none fun q3 =>
 gd (okO m2 q3 9) (bd (F_X9_open q3 a1 m2) fun r4 m5 =>
 gd (okO m5 a0 11) (oc (rR m5 a0 4) none fun q6 =>
 gd (okO m5 a0 11) (oc (rR m5 a0 0) none fun q7 =>
 gd (okO m5 a0 11) (oc (rR m5 a0 1) none fun q8 =>
 gd (okO m5 q8 1) (
 gd (okO m5 q6 0) (bd (F_X0_read q6 q7 (rI m5 q8 0) m5) fun r9 m10 =>
 if r9 = 0 then (
 gd (okO m10 a0 11) (oc (rR m10 a0 0) none fun q11 =>
 gd (okO m10 q11 9) (
 some ((.inl ((rI m10 q11 6) - (10 : Int32))), m10))))
 else (
 gd (okO m10 a0 11) (oc (rR m10 a0 4) none fun q12 =>
 gd (okO m10 q12 0) (
 some ((.inl (rI m10 q12 0)), m10)))))))))))) (fun k m => some (.inr k, m)))
set_option maxRecDepth 100000 in
set_option maxHeartbeats 4000000 in
theorem crt_X11_book (l : Launch) (θ : Th) (a0 : Nat) (a1 : Int32) (m : Mm) : CrtX l θ yX11_book M_X11_book cvI [.ref a0, .int a1] m (F_X11_book a0 a1 m) := by
  refine crtx_of 0 (by decide) rfl rfl (Nat.le_of_ble_eq_true rfl) (fun Z hμ ht => ?_)
  unfold F_X11_book
  show GG Z _ _ 0 [some (.ref a0), some (.int a1)] [] m _
  refine g_aload_n (i := 0) dX11_book_0 rfl rfl ?_
  refine g_iload_n (i := 1) dX11_book_1 rfl rfl ?_
  refine g_bipush (v := (60 : Int32)) dX11_book_2 kb_60 ?_
  refine g_callXVV ht cl_X11 (crt_X11_needText _ _ _ _ _ _) cw_X11_needText (by decide) rfl q_642 q_644 qs_11 rfl rfl dX11_book_4 ?_
  intro r1 m2
  refine g_aload_n (i := 0) dX11_book_7 rfl rfl ?_
  refine g_getR (k := 0) cl_X11 (by decide) rfl q_366 dX11_book_8 ?_
  intro q3
  refine g_iload_n (i := 1) dX11_book_11 rfl rfl ?_
  refine g_callVV cl_X9 (crt_X9_open _ _ _ _ _) cw_X9_open (by decide) rfl q_730 q_731 q_732 rfl rfl dX11_book_12 ?_
  intro r4 m5
  refine g_aload_n (i := 0) dX11_book_15 rfl rfl ?_
  refine g_getR (k := 4) cl_X11 (by decide) rfl q_370 dX11_book_16 ?_
  intro q6
  refine g_aload_n (i := 0) dX11_book_19 rfl rfl ?_
  refine g_getR (k := 0) cl_X11 (by decide) rfl q_366 dX11_book_20 ?_
  intro q7
  refine g_aload_n (i := 0) dX11_book_23 rfl rfl ?_
  refine g_getR (k := 1) cl_X11 (by decide) rfl q_367 dX11_book_24 ?_
  intro q8
  refine g_getIN (k := 0) cl_X1 (by decide) rfl q_89 dX11_book_27 ?_
  refine g_callVI cl_X0 (crt_X0_read _ _ _ _ _ _) cw_X0_read (by decide) rfl q_1052 q_1053 q_1054 rfl rfl dX11_book_30 ?_
  intro r9 m10
  refine g_ifeq (tgt := 46) dX11_book_33 (by decide) ?_ ?_
  · refine g_aload_n (i := 0) dX11_book_46 rfl rfl ?_
    refine g_getR (k := 0) cl_X11 (by decide) rfl q_366 dX11_book_47 ?_
    intro q11
    refine g_getIN (k := 6) cl_X9 (by decide) rfl q_59 dX11_book_50 ?_
    refine g_bipush (v := (10 : Int32)) dX11_book_53 kb_10 ?_
    refine g_isub dX11_book_55 ?_
    exact g_ireturnX rfl dX11_book_56
  · refine g_aload_n (i := 0) dX11_book_36 rfl rfl ?_
    refine g_getR (k := 4) cl_X11 (by decide) rfl q_370 dX11_book_37 ?_
    intro q12
    refine g_getIN (k := 0) cl_X0 (by decide) rfl q_170 dX11_book_40 ?_
    refine g_goto (tgt := 56) dX11_book_43 (by decide) ?_
    exact g_ireturnX rfl dX11_book_56
abbrev M_X11_told : MI := (cX11_told, RX11, 2, 10, 141, (some .int), "told")
theorem cw_X11_told : CwOk M_X11_told yX11_told 1 := ⟨q_1068, q_1, by decide +kernel⟩
def F_X11_told (a0 : Nat) (a1 : Int32) (m : Mm) : Option ((Int32 ⊕ Nat) × Mm) :=
 bd (F_X11_isWithin a1 (0 : Int32) (11 : Int32) m) fun r1 m2 =>
 gd (okO m2 a0 11) (bx (F_X11_need a0 r1 m2) (fun r3 m4 =>
 if a1 = (0 : Int32) then (
 gd (okO m4 a0 11) (oc (rR m4 a0 1) none fun q5 =>
 gd (okO m4 q5 1) (
 some ((.inl (rI m4 q5 0)), m4))))
 else (
 if a1 = (1 : Int32) then (
 gd (okO m4 a0 11) (oc (rR m4 a0 6) none fun q6 =>
 gd (okO m4 q6 7) (
 some ((.inl (rI m4 q6 0)), m4))))
 else (
 if a1 = (2 : Int32) then (
 gd (okO m4 a0 11) (oc (rR m4 a0 6) none fun q7 =>
 gd (okO m4 q7 7) (
 some ((.inl (rI m4 q7 1)), m4))))
 else (
 if a1 = (3 : Int32) then (
 gd (okO m4 a0 11) (oc (rR m4 a0 6) none fun q8 =>
 gd (okO m4 q8 7) (
 some ((.inl (rI m4 q8 3)), m4))))
 else (
 if a1 = (4 : Int32) then (
 gd (okO m4 a0 11) (oc (rR m4 a0 6) none fun q9 =>
 gd (okO m4 q9 7) (
 some ((.inl (rI m4 q9 4)), m4))))
 else (
 if a1 = (5 : Int32) then (
 gd (okO m4 a0 11) (oc (rR m4 a0 6) none fun q10 =>
 gd (okO m4 q10 7) (
 some ((.inl (rI m4 q10 5)), m4))))
 else (
 if a1 = (6 : Int32) then (
 gd (okO m4 a0 11) (oc (rR m4 a0 6) none fun q11 =>
 gd (okO m4 q11 7) (
 some ((.inl (rI m4 q11 6)), m4))))
 else (
 if a1 = (7 : Int32) then (
 gd (okO m4 a0 11) (oc (rR m4 a0 6) none fun q12 =>
 gd (okO m4 q12 7) (
 some ((.inl (rI m4 q12 7)), m4))))
 else (
 if a1 = (8 : Int32) then (
 gd (okO m4 a0 11) (oc (rR m4 a0 6) none fun q13 =>
 gd (okO m4 q13 7) (bd (F_X7_countOnTheWay q13 m4) fun r14 m15 =>
 some ((.inl r14), m15))))
 else (
 if a1 = (9 : Int32) then (
 gd (okO m4 a0 11) (oc (rR m4 a0 4) none fun q16 =>
 gd (okO m4 q16 0) (
 some ((.inl (rI m4 q16 0)), m4))))
 else (
 if a1 = (10 : Int32) then (
 gd (okO m4 a0 11) (
 some ((.inl (rI m4 a0 14)), m4)))
 else (
 gd (okO m4 a0 11) (oc (rR m4 a0 1) none fun q17 =>
 gd (okO m4 q17 1) (
 some ((.inl (rI m4 q17 2)), m4))))))))))))))) (fun k m => some (.inr k, m)))
set_option maxRecDepth 100000 in
set_option maxHeartbeats 4000000 in
theorem crt_X11_told (l : Launch) (θ : Th) (a0 : Nat) (a1 : Int32) (m : Mm) : CrtX l θ yX11_told M_X11_told cvI [.ref a0, .int a1] m (F_X11_told a0 a1 m) := by
  refine crtx_of 0 (by decide) rfl rfl (Nat.le_of_ble_eq_true rfl) (fun Z hμ ht => ?_)
  unfold F_X11_told
  show GG Z _ _ 0 [some (.ref a0), some (.int a1)] [] m _
  refine g_aload_n (i := 0) dX11_told_0 rfl rfl ?_
  refine g_iload_n (i := 1) dX11_told_1 rfl rfl ?_
  refine g_iconst (v := (0 : Int32)) dX11_told_2 ki_0 ?_
  refine g_bipush (v := (11 : Int32)) dX11_told_3 kb_11 ?_
  refine g_callSI (crt_X11_isWithin _ _ _ _ _ _) cw_X11_isWithin (by decide) rfl q_627 q_628 rfl rfl dX11_told_5 ?_
  intro r1 m2
  refine g_callXVV ht cl_X11 (crt_X11_need _ _ _ _ _) cw_X11_need (by decide) rfl q_647 q_649 qs_12 rfl rfl dX11_told_8 ?_
  intro r3 m4
  refine g_iload_n (i := 1) dX11_told_11 rfl rfl ?_
  refine g_sw0 (lo := 0) ?_
  refine g_swc (k := 0) (tgt := 72) dX11_told_12 (by decide) kt_0 rfl (by decide) ?_ ?_
  · refine g_aload_n (i := 0) dX11_told_72 rfl rfl ?_
    refine g_getR (k := 1) cl_X11 (by decide) rfl q_367 dX11_told_73 ?_
    intro q5
    refine g_getIN (k := 0) cl_X1 (by decide) rfl q_89 dX11_told_76 ?_
    exact g_ireturnX rfl dX11_told_79
  · refine g_swc (k := 1) (tgt := 80) dX11_told_12 (by decide) kt_1 rfl (by decide) ?_ ?_
    · refine g_aload_n (i := 0) dX11_told_80 rfl rfl ?_
      refine g_getR (k := 6) cl_X11 (by decide) rfl q_372 dX11_told_81 ?_
      intro q6
      refine g_getIN (k := 0) cl_X7 (by decide) rfl q_219 dX11_told_84 ?_
      exact g_ireturnX rfl dX11_told_87
    · refine g_swc (k := 2) (tgt := 88) dX11_told_12 (by decide) kt_2 rfl (by decide) ?_ ?_
      · refine g_aload_n (i := 0) dX11_told_88 rfl rfl ?_
        refine g_getR (k := 6) cl_X11 (by decide) rfl q_372 dX11_told_89 ?_
        intro q7
        refine g_getIN (k := 1) cl_X7 (by decide) rfl q_223 dX11_told_92 ?_
        exact g_ireturnX rfl dX11_told_95
      · refine g_swc (k := 3) (tgt := 96) dX11_told_12 (by decide) kt_3 rfl (by decide) ?_ ?_
        · refine g_aload_n (i := 0) dX11_told_96 rfl rfl ?_
          refine g_getR (k := 6) cl_X11 (by decide) rfl q_372 dX11_told_97 ?_
          intro q8
          refine g_getIN (k := 3) cl_X7 (by decide) rfl q_228 dX11_told_100 ?_
          exact g_ireturnX rfl dX11_told_103
        · refine g_swc (k := 4) (tgt := 104) dX11_told_12 (by decide) kt_4 rfl (by decide) ?_ ?_
          · refine g_aload_n (i := 0) dX11_told_104 rfl rfl ?_
            refine g_getR (k := 6) cl_X11 (by decide) rfl q_372 dX11_told_105 ?_
            intro q9
            refine g_getIN (k := 4) cl_X7 (by decide) rfl q_231 dX11_told_108 ?_
            exact g_ireturnX rfl dX11_told_111
          · refine g_swc (k := 5) (tgt := 112) dX11_told_12 (by decide) kt_5 rfl (by decide) ?_ ?_
            · refine g_aload_n (i := 0) dX11_told_112 rfl rfl ?_
              refine g_getR (k := 6) cl_X11 (by decide) rfl q_372 dX11_told_113 ?_
              intro q10
              refine g_getIN (k := 5) cl_X7 (by decide) rfl q_235 dX11_told_116 ?_
              exact g_ireturnX rfl dX11_told_119
            · refine g_swc (k := 6) (tgt := 120) dX11_told_12 (by decide) kt_6 rfl (by decide) ?_ ?_
              · refine g_aload_n (i := 0) dX11_told_120 rfl rfl ?_
                refine g_getR (k := 6) cl_X11 (by decide) rfl q_372 dX11_told_121 ?_
                intro q11
                refine g_getIN (k := 6) cl_X7 (by decide) rfl q_238 dX11_told_124 ?_
                exact g_ireturnX rfl dX11_told_127
              · refine g_swc (k := 7) (tgt := 128) dX11_told_12 (by decide) kt_7 rfl (by decide) ?_ ?_
                · refine g_aload_n (i := 0) dX11_told_128 rfl rfl ?_
                  refine g_getR (k := 6) cl_X11 (by decide) rfl q_372 dX11_told_129 ?_
                  intro q12
                  refine g_getIN (k := 7) cl_X7 (by decide) rfl q_241 dX11_told_132 ?_
                  exact g_ireturnX rfl dX11_told_135
                · refine g_swc (k := 8) (tgt := 136) dX11_told_12 (by decide) kt_8 rfl (by decide) ?_ ?_
                  · refine g_aload_n (i := 0) dX11_told_136 rfl rfl ?_
                    refine g_getR (k := 6) cl_X11 (by decide) rfl q_372 dX11_told_137 ?_
                    intro q13
                    refine g_callVI cl_X7 (crt_X7_countOnTheWay _ _ _ _) cw_X7_countOnTheWay (by decide) rfl q_1069 q_1070 q_1071 rfl rfl dX11_told_140 ?_
                    intro r14 m15
                    exact g_ireturnX rfl dX11_told_143
                  · refine g_swc (k := 9) (tgt := 144) dX11_told_12 (by decide) kt_9 rfl (by decide) ?_ ?_
                    · refine g_aload_n (i := 0) dX11_told_144 rfl rfl ?_
                      refine g_getR (k := 4) cl_X11 (by decide) rfl q_370 dX11_told_145 ?_
                      intro q16
                      refine g_getIN (k := 0) cl_X0 (by decide) rfl q_170 dX11_told_148 ?_
                      exact g_ireturnX rfl dX11_told_151
                    · refine g_swc (k := 10) (tgt := 152) dX11_told_12 (by decide) kt_10 rfl (by decide) ?_ ?_
                      · refine g_aload_n (i := 0) dX11_told_152 rfl rfl ?_
                        refine g_getI (k := 14) cl_X11 (by decide) rfl q_380 dX11_told_153 ?_
                        exact g_ireturnX rfl dX11_told_156
                      · refine g_swe (n := 11) (tgt := 157) dX11_told_12 (by decide) (by decide) ?_
                        refine g_aload_n (i := 0) dX11_told_157 rfl rfl ?_
                        refine g_getR (k := 1) cl_X11 (by decide) rfl q_367 dX11_told_158 ?_
                        intro q17
                        refine g_getIN (k := 2) cl_X1 (by decide) rfl q_94 dX11_told_161 ?_
                        exact g_ireturnX rfl dX11_told_164
abbrev M_X11_needMember : MI := (cX11_needMember, RX11, 2, 9, 120, none, "needMember")
theorem cw_X11_needMember : CwOk M_X11_needMember yX11_needMember 1 := ⟨q_1085, q_1, by decide +kernel⟩
def F_X11_needMember (a0 : Nat) (a1 : Int32) (m : Mm) : Option ((Unit ⊕ Nat) × Mm) :=
 gd (okO m a0 11) (oc (rR m a0 1) none fun q1 =>
 gd (okO m q1 1) (
 bd (F_X11_isWithin a1 (0 : Int32) ((rI m q1 0) - (1 : Int32)) m) fun r2 m3 =>
 if r2 = 0 then (
 gd (okO m3 a0 11) (oc (rR m3 a0 12) none fun q4 =>
 gd (okA m3 100 q4 (0 : Int32)) (
 gd (okA m3 100 q4 (0 : Int32)) (lt9 (wI m3 q4 (ix (0 : Int32)) ((rI m3 q4 (ix (0 : Int32))) + (1 : Int32))) fun m5 =>
 gd (decide (mN m5 + 1 < K9)) (some (.inr 0, nw m5 50 6))))))
 else (
 some ((.inl ()), m3))))
set_option maxRecDepth 100000 in
set_option maxHeartbeats 4000000 in
theorem crt_X11_needMember (l : Launch) (θ : Th) (a0 : Nat) (a1 : Int32) (m : Mm) : CrtX l θ yX11_needMember M_X11_needMember cvV [.ref a0, .int a1] m (F_X11_needMember a0 a1 m) := by
  refine crtx_of 0 (by decide) rfl rfl (Nat.le_of_ble_eq_true rfl) (fun Z hμ ht => ?_)
  unfold F_X11_needMember
  show GG Z _ _ 0 [some (.ref a0), some (.int a1)] [] m _
  refine g_iload_n (i := 1) dX11_needMember_0 rfl rfl ?_
  refine g_iconst (v := (0 : Int32)) dX11_needMember_1 ki_0 ?_
  refine g_aload_n (i := 0) dX11_needMember_2 rfl rfl ?_
  refine g_getR (k := 1) cl_X11 (by decide) rfl q_367 dX11_needMember_3 ?_
  intro q1
  refine g_getIN (k := 0) cl_X1 (by decide) rfl q_89 dX11_needMember_6 ?_
  refine g_iconst (v := (1 : Int32)) dX11_needMember_9 ki_1 ?_
  refine g_isub dX11_needMember_10 ?_
  refine g_callSI (crt_X11_isWithin _ _ _ _ _ _) cw_X11_isWithin (by decide) rfl q_627 q_628 rfl rfl dX11_needMember_11 ?_
  intro r2 m3
  refine g_ifne (tgt := 35) dX11_needMember_14 (by decide) ?_ ?_
  · exact g_returnX rfl dX11_needMember_35
  · refine g_aload_n (i := 0) dX11_needMember_17 rfl rfl ?_
    refine g_getR (k := 12) cl_X11 (by decide) rfl q_378 dX11_needMember_18 ?_
    intro q4
    refine g_iconst (v := (0 : Int32)) dX11_needMember_21 ki_0 ?_
    refine g_dup2 dX11_needMember_22 rfl rfl ?_
    refine g_iaload dX11_needMember_23 ?_
    refine g_iconst (v := (1 : Int32)) dX11_needMember_24 ki_1 ?_
    refine g_iadd dX11_needMember_25 ?_
    refine g_iastore dX11_needMember_26 ?_
    intro m5
    exact g_throw ht tw_0 (by decide) rfl dX11_needMember_27 dX11_needMember_30 dX11_needMember_31 dX11_needMember_34
abbrev M_X11_member : MI := (cX11_member, RX11, 3, 10, 141, (some .int), "member")
theorem cw_X11_member : CwOk M_X11_member yX11_member 2 := ⟨q_1081, q_1, by decide +kernel⟩
def F_X11_member (a0 : Nat) (a1 : Int32) (a2 : Int32) (m : Mm) : Option ((Int32 ⊕ Nat) × Mm) :=
 gd (okO m a0 11) (bx (F_X11_needMember a0 a1 m) (fun r1 m2 =>
 bd (F_X11_isWithin a2 (0 : Int32) (6 : Int32) m2) fun r3 m4 =>
 gd (okO m4 a0 11) (bx (F_X11_need a0 r3 m4) (fun r5 m6 =>
 if a2 = (0 : Int32) then (
 gd (okO m6 a0 11) (oc (rR m6 a0 6) none fun q7 =>
 gd (okO m6 q7 7) (bd (F_X7_stands q7 a1 m6) fun r8 m9 =>
 if r8 = 0 then (
 some ((.inl (0 : Int32)), m9))
 else (
 some ((.inl (1 : Int32)), m9)))))
 else (
 if a2 = (1 : Int32) then (
 gd (okO m6 a0 11) (oc (rR m6 a0 6) none fun q10 =>
 gd (okO m6 q10 7) (oc (rR m6 q10 8) none fun q11 =>
 gd (okA m6 100 q11 a1) (
 some ((.inl (rI m6 q11 (ix a1))), m6)))))
 else (
 if a2 = (2 : Int32) then (
 gd (okO m6 a0 11) (oc (rR m6 a0 6) none fun q12 =>
 gd (okO m6 q12 7) (oc (rR m6 q12 9) none fun q13 =>
 gd (okA m6 100 q13 a1) (
 bd (F_J6_bitCount_0f7a4 (rI m6 q13 (ix a1)) m6) fun r14 m15 =>
 some ((.inl r14), m15)))))
 else (
 if a2 = (3 : Int32) then (
 gd (okO m6 a0 11) (oc (rR m6 a0 6) none fun q16 =>
 gd (okO m6 q16 7) (oc (rR m6 q16 10) none fun q17 =>
 gd (okA m6 100 q17 a1) (
 bd (F_J6_bitCount_0f7a4 (rI m6 q17 (ix a1)) m6) fun r18 m19 =>
 some ((.inl r18), m19)))))
 else (
 if a2 = (4 : Int32) then (
 gd (okO m6 a0 11) (oc (rR m6 a0 6) none fun q20 =>
 gd (okO m6 q20 7) (oc (rR m6 q20 12) none fun q21 =>
 gd (okA m6 100 q21 a1) (
 some ((.inl (rI m6 q21 (ix a1))), m6)))))
 else (
 if a2 = (5 : Int32) then (
 gd (okO m6 a0 11) (oc (rR m6 a0 2) none fun q22 =>
 gd (okO m6 a0 11) (oc (rR m6 a0 6) none fun q23 =>
 gd (okO m6 q23 7) (oc (rR m6 q23 8) none fun q24 =>
 gd (okA m6 100 q24 a1) (
 gd (okO m6 a0 11) (oc (rR m6 a0 6) none fun q25 =>
 gd (okO m6 q25 7) (
 gd (okO m6 a0 11) (oc (rR m6 a0 6) none fun q26 =>
 gd (okO m6 q26 7) (
 bd (F_J6_bitCount_0f7a4 (rI m6 q26 1) m6) fun r27 m28 =>
 gd (okO m28 q22 3) (bd (F_X3_weigh q22 a1 (rI m6 q24 (ix a1)) (rI m6 q25 0) r27 m28) fun r29 m30 =>
 some ((.inl r29), m30)))))))))))
 else (
 gd (okO m6 a0 11) (oc (rR m6 a0 6) none fun q31 =>
 gd (okO m6 q31 7) (oc (rR m6 q31 14) none fun q32 =>
 gd (okA m6 100 q32 a1) (
 some ((.inl (rI m6 q32 (ix a1))), m6))))))))))) (fun k m => some (.inr k, m)))) (fun k m => some (.inr k, m)))
set_option maxRecDepth 100000 in
set_option maxHeartbeats 4000000 in
theorem crt_X11_member (l : Launch) (θ : Th) (a0 : Nat) (a1 : Int32) (a2 : Int32) (m : Mm) : CrtX l θ yX11_member M_X11_member cvI [.ref a0, .int a1, .int a2] m (F_X11_member a0 a1 a2 m) := by
  refine crtx_of 0 (by decide) rfl rfl (Nat.le_of_ble_eq_true rfl) (fun Z hμ ht => ?_)
  unfold F_X11_member
  show GG Z _ _ 0 [some (.ref a0), some (.int a1), some (.int a2)] [] m _
  refine g_aload_n (i := 0) dX11_member_0 rfl rfl ?_
  refine g_iload_n (i := 1) dX11_member_1 rfl rfl ?_
  refine g_callXVV ht cl_X11 (crt_X11_needMember _ _ _ _ _) cw_X11_needMember (by decide) rfl q_1082 q_1084 qs_31 rfl rfl dX11_member_2 ?_
  intro r1 m2
  refine g_aload_n (i := 0) dX11_member_5 rfl rfl ?_
  refine g_iload_n (i := 2) dX11_member_6 rfl rfl ?_
  refine g_iconst (v := (0 : Int32)) dX11_member_7 ki_0 ?_
  refine g_bipush (v := (6 : Int32)) dX11_member_8 kb_6 ?_
  refine g_callSI (crt_X11_isWithin _ _ _ _ _ _) cw_X11_isWithin (by decide) rfl q_627 q_628 rfl rfl dX11_member_10 ?_
  intro r3 m4
  refine g_callXVV ht cl_X11 (crt_X11_need _ _ _ _ _) cw_X11_need (by decide) rfl q_647 q_649 qs_12 rfl rfl dX11_member_13 ?_
  intro r5 m6
  refine g_iload_n (i := 2) dX11_member_16 rfl rfl ?_
  refine g_sw0 (lo := 0) ?_
  refine g_swc (k := 0) (tgt := 56) dX11_member_17 (by decide) kt_0 rfl (by decide) ?_ ?_
  · refine g_aload_n (i := 0) dX11_member_56 rfl rfl ?_
    refine g_getR (k := 6) cl_X11 (by decide) rfl q_372 dX11_member_57 ?_
    intro q7
    refine g_iload_n (i := 1) dX11_member_60 rfl rfl ?_
    refine g_callVI cl_X7 (crt_X7_stands _ _ _ _ _) cw_X7_stands (by decide) rfl q_1101 q_526 q_527 rfl rfl dX11_member_61 ?_
    intro r8 m9
    refine g_ifeq (tgt := 71) dX11_member_64 (by decide) ?_ ?_
    · refine g_iconst (v := (0 : Int32)) dX11_member_71 ki_0 ?_
      exact g_ireturnX rfl dX11_member_72
    · refine g_iconst (v := (1 : Int32)) dX11_member_67 ki_1 ?_
      refine g_goto (tgt := 72) dX11_member_68 (by decide) ?_
      exact g_ireturnX rfl dX11_member_72
  · refine g_swc (k := 1) (tgt := 73) dX11_member_17 (by decide) kt_1 rfl (by decide) ?_ ?_
    · refine g_aload_n (i := 0) dX11_member_73 rfl rfl ?_
      refine g_getR (k := 6) cl_X11 (by decide) rfl q_372 dX11_member_74 ?_
      intro q10
      refine g_getRN (k := 8) cl_X7 (by decide) rfl q_244 dX11_member_77 ?_
      intro q11
      refine g_iload_n (i := 1) dX11_member_80 rfl rfl ?_
      refine g_iaload dX11_member_81 ?_
      exact g_ireturnX rfl dX11_member_82
    · refine g_swc (k := 2) (tgt := 83) dX11_member_17 (by decide) kt_2 rfl (by decide) ?_ ?_
      · refine g_aload_n (i := 0) dX11_member_83 rfl rfl ?_
        refine g_getR (k := 6) cl_X11 (by decide) rfl q_372 dX11_member_84 ?_
        intro q12
        refine g_getRN (k := 9) cl_X7 (by decide) rfl q_246 dX11_member_87 ?_
        intro q13
        refine g_iload_n (i := 1) dX11_member_90 rfl rfl ?_
        refine g_iaload dX11_member_91 ?_
        refine g_callSI (crt_J6_bitCount_0f7a4 _ _ _ _) cw_J6_bitCount_0f7a4 (by decide) rfl q_1102 q_456 rfl rfl dX11_member_92 ?_
        intro r14 m15
        exact g_ireturnX rfl dX11_member_95
      · refine g_swc (k := 3) (tgt := 96) dX11_member_17 (by decide) kt_3 rfl (by decide) ?_ ?_
        · refine g_aload_n (i := 0) dX11_member_96 rfl rfl ?_
          refine g_getR (k := 6) cl_X11 (by decide) rfl q_372 dX11_member_97 ?_
          intro q16
          refine g_getRN (k := 10) cl_X7 (by decide) rfl q_248 dX11_member_100 ?_
          intro q17
          refine g_iload_n (i := 1) dX11_member_103 rfl rfl ?_
          refine g_iaload dX11_member_104 ?_
          refine g_callSI (crt_J6_bitCount_0f7a4 _ _ _ _) cw_J6_bitCount_0f7a4 (by decide) rfl q_1102 q_456 rfl rfl dX11_member_105 ?_
          intro r18 m19
          exact g_ireturnX rfl dX11_member_108
        · refine g_swc (k := 4) (tgt := 109) dX11_member_17 (by decide) kt_4 rfl (by decide) ?_ ?_
          · refine g_aload_n (i := 0) dX11_member_109 rfl rfl ?_
            refine g_getR (k := 6) cl_X11 (by decide) rfl q_372 dX11_member_110 ?_
            intro q20
            refine g_getRN (k := 12) cl_X7 (by decide) rfl q_252 dX11_member_113 ?_
            intro q21
            refine g_iload_n (i := 1) dX11_member_116 rfl rfl ?_
            refine g_iaload dX11_member_117 ?_
            exact g_ireturnX rfl dX11_member_118
          · refine g_swc (k := 5) (tgt := 119) dX11_member_17 (by decide) kt_5 rfl (by decide) ?_ ?_
            · refine g_aload_n (i := 0) dX11_member_119 rfl rfl ?_
              refine g_getR (k := 2) cl_X11 (by decide) rfl q_368 dX11_member_120 ?_
              intro q22
              refine g_iload_n (i := 1) dX11_member_123 rfl rfl ?_
              refine g_aload_n (i := 0) dX11_member_124 rfl rfl ?_
              refine g_getR (k := 6) cl_X11 (by decide) rfl q_372 dX11_member_125 ?_
              intro q23
              refine g_getRN (k := 8) cl_X7 (by decide) rfl q_244 dX11_member_128 ?_
              intro q24
              refine g_iload_n (i := 1) dX11_member_131 rfl rfl ?_
              refine g_iaload dX11_member_132 ?_
              refine g_aload_n (i := 0) dX11_member_133 rfl rfl ?_
              refine g_getR (k := 6) cl_X11 (by decide) rfl q_372 dX11_member_134 ?_
              intro q25
              refine g_getIN (k := 0) cl_X7 (by decide) rfl q_219 dX11_member_137 ?_
              refine g_aload_n (i := 0) dX11_member_140 rfl rfl ?_
              refine g_getR (k := 6) cl_X11 (by decide) rfl q_372 dX11_member_141 ?_
              intro q26
              refine g_getIN (k := 1) cl_X7 (by decide) rfl q_223 dX11_member_144 ?_
              refine g_callSI (crt_J6_bitCount_0f7a4 _ _ _ _) cw_J6_bitCount_0f7a4 (by decide) rfl q_1102 q_456 rfl rfl dX11_member_147 ?_
              intro r27 m28
              refine g_callVI cl_X3 (crt_X3_weigh _ _ _ _ _ _ _ _) cw_X3_weigh (by decide) rfl q_1103 q_462 q_463 rfl rfl dX11_member_150 ?_
              intro r29 m30
              exact g_ireturnX rfl dX11_member_153
            · refine g_swe (n := 6) (tgt := 154) dX11_member_17 (by decide) (by decide) ?_
              refine g_aload_n (i := 0) dX11_member_154 rfl rfl ?_
              refine g_getR (k := 6) cl_X11 (by decide) rfl q_372 dX11_member_155 ?_
              intro q31
              refine g_getRN (k := 14) cl_X7 (by decide) rfl q_256 dX11_member_158 ?_
              intro q32
              refine g_iload_n (i := 1) dX11_member_161 rfl rfl ?_
              refine g_iaload dX11_member_162 ?_
              exact g_ireturnX rfl dX11_member_163
abbrev M_X11_tally : MI := (cX11_tally, RX11, 2, 10, 141, (some .long), "tally")
theorem cw_X11_tally : CwOk M_X11_tally yX11_tally 1 := ⟨q_1110, q_1, by decide +kernel⟩
def F_X11_tally (a0 : Nat) (a1 : Int32) (m : Mm) : Option ((Int64 ⊕ Nat) × Mm) :=
 gd (okO m a0 11) (bx (F_X11_needMember a0 a1 m) (fun r1 m2 =>
 gd (okO m2 a0 11) (oc (rR m2 a0 6) none fun q3 =>
 gd (okO m2 q3 7) (oc (rR m2 q3 18) none fun q4 =>
 gd (okA m2 101 q4 a1) (
 some ((.inl (rL m2 q4 (ix a1))), m2))))) (fun k m => some (.inr k, m)))
set_option maxRecDepth 100000 in
set_option maxHeartbeats 4000000 in
theorem crt_X11_tally (l : Launch) (θ : Th) (a0 : Nat) (a1 : Int32) (m : Mm) : CrtX l θ yX11_tally M_X11_tally cvL [.ref a0, .int a1] m (F_X11_tally a0 a1 m) := by
  refine crtx_of 0 (by decide) rfl rfl (Nat.le_of_ble_eq_true rfl) (fun Z hμ ht => ?_)
  unfold F_X11_tally
  show GG Z _ _ 0 [some (.ref a0), some (.int a1)] [] m _
  refine g_aload_n (i := 0) dX11_tally_0 rfl rfl ?_
  refine g_iload_n (i := 1) dX11_tally_1 rfl rfl ?_
  refine g_callXVV ht cl_X11 (crt_X11_needMember _ _ _ _ _) cw_X11_needMember (by decide) rfl q_1082 q_1084 qs_31 rfl rfl dX11_tally_2 ?_
  intro r1 m2
  refine g_aload_n (i := 0) dX11_tally_5 rfl rfl ?_
  refine g_getR (k := 6) cl_X11 (by decide) rfl q_372 dX11_tally_6 ?_
  intro q3
  refine g_getRN (k := 18) cl_X7 (by decide) rfl q_264 dX11_tally_9 ?_
  intro q4
  refine g_iload_n (i := 1) dX11_tally_12 rfl rfl ?_
  refine g_laload dX11_tally_13 ?_
  exact g_lreturnX rfl dX11_tally_14
abbrev M_X11_needPointer : MI := (cX11_needPointer, RX11, 2, 9, 120, none, "needPointer")
theorem cw_X11_needPointer : CwOk M_X11_needPointer yX11_needPointer 1 := ⟨q_1172, q_1, by decide +kernel⟩
def F_X11_needPointer (a0 : Nat) (a1 : Int32) (m : Mm) : Option ((Unit ⊕ Nat) × Mm) :=
 if a1 = 0 then (
 gd (okO m a0 11) (oc (rR m a0 12) none fun q1 =>
 gd (okA m 100 q1 (2 : Int32)) (
 gd (okA m 100 q1 (2 : Int32)) (lt9 (wI m q1 (ix (2 : Int32)) ((rI m q1 (ix (2 : Int32))) + (1 : Int32))) fun m2 =>
 gd (decide (mN m2 + 1 < K9)) (some (.inr 2, nw m2 50 8))))))
 else (
 some ((.inl ()), m))
set_option maxRecDepth 100000 in
set_option maxHeartbeats 4000000 in
theorem crt_X11_needPointer (l : Launch) (θ : Th) (a0 : Nat) (a1 : Int32) (m : Mm) : CrtX l θ yX11_needPointer M_X11_needPointer cvV [.ref a0, .int a1] m (F_X11_needPointer a0 a1 m) := by
  refine crtx_of 0 (by decide) rfl rfl (Nat.le_of_ble_eq_true rfl) (fun Z hμ ht => ?_)
  unfold F_X11_needPointer
  show GG Z _ _ 0 [some (.ref a0), some (.int a1)] [] m _
  refine g_iload_n (i := 1) dX11_needPointer_0 rfl rfl ?_
  refine g_ifne (tgt := 22) dX11_needPointer_1 (by decide) ?_ ?_
  · exact g_returnX rfl dX11_needPointer_22
  · refine g_aload_n (i := 0) dX11_needPointer_4 rfl rfl ?_
    refine g_getR (k := 12) cl_X11 (by decide) rfl q_378 dX11_needPointer_5 ?_
    intro q1
    refine g_iconst (v := (2 : Int32)) dX11_needPointer_8 ki_2 ?_
    refine g_dup2 dX11_needPointer_9 rfl rfl ?_
    refine g_iaload dX11_needPointer_10 ?_
    refine g_iconst (v := (1 : Int32)) dX11_needPointer_11 ki_1 ?_
    refine g_iadd dX11_needPointer_12 ?_
    refine g_iastore dX11_needPointer_13 ?_
    intro m2
    exact g_throwN ht tw_2 (by decide) rfl dX11_needPointer_14 dX11_needPointer_17 dX11_needPointer_18 dX11_needPointer_21
abbrev M_X11_needIndex : MI := (cX11_needIndex, RX11, 2, 9, 120, none, "needIndex")
theorem cw_X11_needIndex : CwOk M_X11_needIndex yX11_needIndex 1 := ⟨q_1178, q_1, by decide +kernel⟩
def F_X11_needIndex (a0 : Nat) (a1 : Int32) (m : Mm) : Option ((Unit ⊕ Nat) × Mm) :=
 if a1 = 0 then (
 gd (okO m a0 11) (oc (rR m a0 12) none fun q1 =>
 gd (okA m 100 q1 (3 : Int32)) (
 gd (okA m 100 q1 (3 : Int32)) (lt9 (wI m q1 (ix (3 : Int32)) ((rI m q1 (ix (3 : Int32))) + (1 : Int32))) fun m2 =>
 gd (decide (mN m2 + 1 < K9)) (some (.inr 3, nw m2 50 6))))))
 else (
 some ((.inl ()), m))
set_option maxRecDepth 100000 in
set_option maxHeartbeats 4000000 in
theorem crt_X11_needIndex (l : Launch) (θ : Th) (a0 : Nat) (a1 : Int32) (m : Mm) : CrtX l θ yX11_needIndex M_X11_needIndex cvV [.ref a0, .int a1] m (F_X11_needIndex a0 a1 m) := by
  refine crtx_of 0 (by decide) rfl rfl (Nat.le_of_ble_eq_true rfl) (fun Z hμ ht => ?_)
  unfold F_X11_needIndex
  show GG Z _ _ 0 [some (.ref a0), some (.int a1)] [] m _
  refine g_iload_n (i := 1) dX11_needIndex_0 rfl rfl ?_
  refine g_ifne (tgt := 22) dX11_needIndex_1 (by decide) ?_ ?_
  · exact g_returnX rfl dX11_needIndex_22
  · refine g_aload_n (i := 0) dX11_needIndex_4 rfl rfl ?_
    refine g_getR (k := 12) cl_X11 (by decide) rfl q_378 dX11_needIndex_5 ?_
    intro q1
    refine g_iconst (v := (3 : Int32)) dX11_needIndex_8 ki_3 ?_
    refine g_dup2 dX11_needIndex_9 rfl rfl ?_
    refine g_iaload dX11_needIndex_10 ?_
    refine g_iconst (v := (1 : Int32)) dX11_needIndex_11 ki_1 ?_
    refine g_iadd dX11_needIndex_12 ?_
    refine g_iastore dX11_needIndex_13 ?_
    intro m2
    exact g_throw ht tw_3 (by decide) rfl dX11_needIndex_14 dX11_needIndex_17 dX11_needIndex_18 dX11_needIndex_21
abbrev M_X11_log : MI := (cX11_log, RX11, 3, 10, 141, (some .long), "log")
theorem cw_X11_log : CwOk M_X11_log yX11_log 2 := ⟨q_1168, q_1, by decide +kernel⟩
def F_X11_log (a0 : Nat) (a1 : Int32) (a2 : Int32) (m : Mm) : Option ((Int64 ⊕ Nat) × Mm) :=
 gd (okO m a0 11) (bx (F_X11_needMember a0 a1 m) (fun r1 m2 =>
 gd (okO m2 a0 11) (oc (rR m2 a0 6) none fun q3 =>
 gd (okO m2 q3 7) (oc (rR m2 q3 8) none fun q4 =>
 gd (okA m2 100 q4 a1) (
 jn (fun (v0 : Nat) (v1 : Int32) (v2 : Int32) (s0 : Int32) (s1 : Nat) (m : Mm) =>
 gd (okO m s1 11) (bx (F_X11_needPointer s1 s0 m) (fun r5 m6 =>
 bd (F_X11_isWithin v2 (0 : Int32) (63 : Int32) m6) fun r7 m8 =>
 jn (fun (v0 : Nat) (v1 : Int32) (v2 : Int32) (s0 : Int32) (s1 : Nat) (m : Mm) =>
 gd (okO m s1 11) (bx (F_X11_needIndex s1 s0 m) (fun r9 m10 =>
 gd (okO m10 v0 11) (oc (rR m10 v0 6) none fun q11 =>
 gd (okO m10 q11 7) (oc (rR m10 q11 19) none fun q12 =>
 gd (okA m10 101 q12 ((v1 * (64 : Int32)) + v2)) (
 some ((.inl (rL m10 q12 (ix ((v1 * (64 : Int32)) + v2)))), m10))))) (fun k m => some (.inr k, m)))) fun J55 =>
 jn (fun (v0 : Nat) (v1 : Int32) (v2 : Int32) (s0 : Nat) (m : Mm) =>
 J55 v0 v1 v2 (0 : Int32) s0 m) fun J54 =>
 if r7 = 0 then (
 J54 v0 v1 v2 v0 m8)
 else (
 gd (okO m8 v0 11) (oc (rR m8 v0 6) none fun q13 =>
 gd (okO m8 q13 7) (oc (rR m8 q13 14) none fun q14 =>
 gd (okA m8 100 q14 v1) (
 if (rI m8 q14 (ix v1)) ≤ v2 then (
 J54 v0 v1 v2 v0 m8)
 else (
 J55 v0 v1 v2 (1 : Int32) v0 m8)))))) (fun k m => some (.inr k, m)))) fun J23 =>
 if (rI m2 q4 (ix a1)) ≤ 0 then (
 J23 a0 a1 a2 (0 : Int32) a0 m2)
 else (
 J23 a0 a1 a2 (1 : Int32) a0 m2))))) (fun k m => some (.inr k, m)))
set_option maxRecDepth 100000 in
set_option maxHeartbeats 4000000 in
theorem crt_X11_log (l : Launch) (θ : Th) (a0 : Nat) (a1 : Int32) (a2 : Int32) (m : Mm) : CrtX l θ yX11_log M_X11_log cvL [.ref a0, .int a1, .int a2] m (F_X11_log a0 a1 a2 m) := by
  refine crtx_of 0 (by decide) rfl rfl (Nat.le_of_ble_eq_true rfl) (fun Z hμ ht => ?_)
  unfold F_X11_log
  show GG Z _ _ 0 [some (.ref a0), some (.int a1), some (.int a2)] [] m _
  refine g_aload_n (i := 0) dX11_log_0 rfl rfl ?_
  refine g_iload_n (i := 1) dX11_log_1 rfl rfl ?_
  refine g_callXVV ht cl_X11 (crt_X11_needMember _ _ _ _ _) cw_X11_needMember (by decide) rfl q_1082 q_1084 qs_31 rfl rfl dX11_log_2 ?_
  intro r1 m2
  refine g_aload_n (i := 0) dX11_log_5 rfl rfl ?_
  refine g_aload_n (i := 0) dX11_log_6 rfl rfl ?_
  refine g_getR (k := 6) cl_X11 (by decide) rfl q_372 dX11_log_7 ?_
  intro q3
  refine g_getRN (k := 8) cl_X7 (by decide) rfl q_244 dX11_log_10 ?_
  intro q4
  refine g_iload_n (i := 1) dX11_log_13 rfl rfl ?_
  refine g_iaload dX11_log_14 ?_
  refine g_jn (fun J23 => ∀ (v0 : Nat) (v1 : Int32) (v2 : Int32) (s0 : Int32) (s1 : Nat) (m : Mm), GG Z M_X11_log (PsX Z cvL) 23 [some (.ref v0), some (.int v1), some (.int v2)] [.int s0, .ref s1] m (J23 v0 v1 v2 s0 s1 m)) ?_ ?_
  · intro v0 v1 v2 s0 s1 m
    refine g_callXVV ht cl_X11 (crt_X11_needPointer _ _ _ _ _) cw_X11_needPointer (by decide) rfl q_1169 q_1171 qs_32 rfl rfl dX11_log_23 ?_
    intro r5 m6
    refine g_aload_n (i := 0) dX11_log_26 rfl rfl ?_
    refine g_iload_n (i := 2) dX11_log_27 rfl rfl ?_
    refine g_iconst (v := (0 : Int32)) dX11_log_28 ki_0 ?_
    refine g_bipush (v := (63 : Int32)) dX11_log_29 kb_63 ?_
    refine g_callSI (crt_X11_isWithin _ _ _ _ _ _) cw_X11_isWithin (by decide) rfl q_627 q_628 rfl rfl dX11_log_31 ?_
    intro r7 m8
    refine g_jn (fun J55 => ∀ (v0 : Nat) (v1 : Int32) (v2 : Int32) (s0 : Int32) (s1 : Nat) (m : Mm), GG Z M_X11_log (PsX Z cvL) 55 [some (.ref v0), some (.int v1), some (.int v2)] [.int s0, .ref s1] m (J55 v0 v1 v2 s0 s1 m)) ?_ ?_
    · intro v0 v1 v2 s0 s1 m
      refine g_callXVV ht cl_X11 (crt_X11_needIndex _ _ _ _ _) cw_X11_needIndex (by decide) rfl q_1175 q_1177 qs_33 rfl rfl dX11_log_55 ?_
      intro r9 m10
      refine g_aload_n (i := 0) dX11_log_58 rfl rfl ?_
      refine g_getR (k := 6) cl_X11 (by decide) rfl q_372 dX11_log_59 ?_
      intro q11
      refine g_getRN (k := 19) cl_X7 (by decide) rfl q_266 dX11_log_62 ?_
      intro q12
      refine g_iload_n (i := 1) dX11_log_65 rfl rfl ?_
      refine g_bipush (v := (64 : Int32)) dX11_log_66 kb_64 ?_
      refine g_imul dX11_log_68 ?_
      refine g_iload_n (i := 2) dX11_log_69 rfl rfl ?_
      refine g_iadd dX11_log_70 ?_
      refine g_laload dX11_log_71 ?_
      exact g_lreturnX rfl dX11_log_72
    · intro J55 hJ55
      refine g_jn (fun J54 => ∀ (v0 : Nat) (v1 : Int32) (v2 : Int32) (s0 : Nat) (m : Mm), GG Z M_X11_log (PsX Z cvL) 54 [some (.ref v0), some (.int v1), some (.int v2)] [.ref s0] m (J54 v0 v1 v2 s0 m)) ?_ ?_
      · intro v0 v1 v2 s0 m
        refine g_iconst (v := (0 : Int32)) dX11_log_54 ki_0 ?_
        exact g_msk [true, true, true] (hJ55 _ _ _ _ _ _)
      · intro J54 hJ54
        refine g_ifeq (tgt := 54) dX11_log_34 (by decide) ?_ ?_
        · exact g_msk [true, true, true] (hJ54 _ _ _ _ _)
        · refine g_iload_n (i := 2) dX11_log_37 rfl rfl ?_
          refine g_aload_n (i := 0) dX11_log_38 rfl rfl ?_
          refine g_getR (k := 6) cl_X11 (by decide) rfl q_372 dX11_log_39 ?_
          intro q13
          refine g_getRN (k := 14) cl_X7 (by decide) rfl q_256 dX11_log_42 ?_
          intro q14
          refine g_iload_n (i := 1) dX11_log_45 rfl rfl ?_
          refine g_iaload dX11_log_46 ?_
          refine g_icmpge (tgt := 54) dX11_log_47 (by decide) ?_ ?_
          · exact g_msk [true, true, true] (hJ54 _ _ _ _ _)
          · refine g_iconst (v := (1 : Int32)) dX11_log_50 ki_1 ?_
            refine g_goto (tgt := 55) dX11_log_51 (by decide) ?_
            exact g_msk [true, true, true] (hJ55 _ _ _ _ _ _)
  · intro J23 hJ23
    refine g_ifle (tgt := 22) dX11_log_15 (by decide) ?_ ?_
    · refine g_iconst (v := (0 : Int32)) dX11_log_22 ki_0 ?_
      exact g_msk [true, true, true] (hJ23 _ _ _ _ _ _)
    · refine g_iconst (v := (1 : Int32)) dX11_log_18 ki_1 ?_
      refine g_goto (tgt := 23) dX11_log_19 (by decide) ?_
      exact g_msk [true, true, true] (hJ23 _ _ _ _ _ _)
abbrev M_X11_message : MI := (cX11_message, RX11, 3, 10, 141, (some .int), "message")
theorem cw_X11_message : CwOk M_X11_message yX11_message 2 := ⟨q_1200, q_1, by decide +kernel⟩
def F_X11_message (a0 : Nat) (a1 : Int32) (a2 : Int32) (m : Mm) : Option ((Int32 ⊕ Nat) × Mm) :=
 bd (F_X11_isWithin a2 (0 : Int32) (4 : Int32) m) fun r1 m2 =>
 gd (okO m2 a0 11) (bx (F_X11_need a0 r1 m2) (fun r3 m4 =>
 bd (F_X11_isWithin a1 (0 : Int32) (29 : Int32) m4) fun r5 m6 =>
 gd (okO m6 a0 11) (bx (F_X11_needIndex a0 r5 m6) (fun r7 m8 =>
 gd (okO m8 a0 11) (oc (rR m8 a0 6) none fun q9 =>
 gd (okO m8 q9 7) (
 jn (fun (v0 : Nat) (v1 : Int32) (v2 : Int32) (s0 : Int32) (s1 : Nat) (m : Mm) =>
 gd (okO m s1 11) (bx (F_X11_needPointer s1 s0 m) (fun r10 m11 =>
 if v2 = (0 : Int32) then (
 gd (okO m11 v0 11) (oc (rR m11 v0 6) none fun q12 =>
 gd (okO m11 q12 7) (oc (rR m11 q12 15) none fun q13 =>
 gd (okA m11 100 q13 v1) (
 some ((.inl (rI m11 q13 (ix v1))), m11)))))
 else (
 if v2 = (1 : Int32) then (
 gd (okO m11 v0 11) (oc (rR m11 v0 6) none fun q14 =>
 gd (okO m11 q14 7) (oc (rR m11 q14 16) none fun q15 =>
 gd (okA m11 100 q15 v1) (
 some ((.inl (rI m11 q15 (ix v1))), m11)))))
 else (
 if v2 = (2 : Int32) then (
 gd (okO m11 v0 11) (oc (rR m11 v0 6) none fun q16 =>
 gd (okO m11 q16 7) (oc (rR m11 q16 9) none fun q17 =>
 bd (F_X7_ownersOf q17 v1 m11) fun r18 m19 =>
 some ((.inl r18), m19))))
 else (
 if v2 = (3 : Int32) then (
 gd (okO m11 v0 11) (oc (rR m11 v0 6) none fun q20 =>
 gd (okO m11 q20 7) (oc (rR m11 q20 10) none fun q21 =>
 bd (F_X7_ownersOf q21 v1 m11) fun r22 m23 =>
 some ((.inl r22), m23))))
 else (
 gd (okO m11 v0 11) (oc (rR m11 v0 6) none fun q24 =>
 gd (okO m11 q24 7) (oc (rR m11 q24 17) none fun q25 =>
 gd (okA m11 100 q25 v1) (
 some ((.inl (rI m11 q25 (ix v1))), m11))))))))) (fun k m => some (.inr k, m)))) fun J38 =>
 if (rI m8 q9 7) ≤ a1 then (
 J38 a0 a1 a2 (0 : Int32) a0 m8)
 else (
 J38 a0 a1 a2 (1 : Int32) a0 m8)))) (fun k m => some (.inr k, m)))) (fun k m => some (.inr k, m)))
set_option maxRecDepth 100000 in
set_option maxHeartbeats 4000000 in
theorem crt_X11_message (l : Launch) (θ : Th) (a0 : Nat) (a1 : Int32) (a2 : Int32) (m : Mm) : CrtX l θ yX11_message M_X11_message cvI [.ref a0, .int a1, .int a2] m (F_X11_message a0 a1 a2 m) := by
  refine crtx_of 0 (by decide) rfl rfl (Nat.le_of_ble_eq_true rfl) (fun Z hμ ht => ?_)
  unfold F_X11_message
  show GG Z _ _ 0 [some (.ref a0), some (.int a1), some (.int a2)] [] m _
  refine g_aload_n (i := 0) dX11_message_0 rfl rfl ?_
  refine g_iload_n (i := 2) dX11_message_1 rfl rfl ?_
  refine g_iconst (v := (0 : Int32)) dX11_message_2 ki_0 ?_
  refine g_iconst (v := (4 : Int32)) dX11_message_3 ki_4 ?_
  refine g_callSI (crt_X11_isWithin _ _ _ _ _ _) cw_X11_isWithin (by decide) rfl q_627 q_628 rfl rfl dX11_message_4 ?_
  intro r1 m2
  refine g_callXVV ht cl_X11 (crt_X11_need _ _ _ _ _) cw_X11_need (by decide) rfl q_647 q_649 qs_12 rfl rfl dX11_message_7 ?_
  intro r3 m4
  refine g_aload_n (i := 0) dX11_message_10 rfl rfl ?_
  refine g_iload_n (i := 1) dX11_message_11 rfl rfl ?_
  refine g_iconst (v := (0 : Int32)) dX11_message_12 ki_0 ?_
  refine g_bipush (v := (29 : Int32)) dX11_message_13 kb_29 ?_
  refine g_callSI (crt_X11_isWithin _ _ _ _ _ _) cw_X11_isWithin (by decide) rfl q_627 q_628 rfl rfl dX11_message_15 ?_
  intro r5 m6
  refine g_callXVV ht cl_X11 (crt_X11_needIndex _ _ _ _ _) cw_X11_needIndex (by decide) rfl q_1175 q_1177 qs_33 rfl rfl dX11_message_18 ?_
  intro r7 m8
  refine g_aload_n (i := 0) dX11_message_21 rfl rfl ?_
  refine g_iload_n (i := 1) dX11_message_22 rfl rfl ?_
  refine g_aload_n (i := 0) dX11_message_23 rfl rfl ?_
  refine g_getR (k := 6) cl_X11 (by decide) rfl q_372 dX11_message_24 ?_
  intro q9
  refine g_getIN (k := 7) cl_X7 (by decide) rfl q_241 dX11_message_27 ?_
  refine g_jn (fun J38 => ∀ (v0 : Nat) (v1 : Int32) (v2 : Int32) (s0 : Int32) (s1 : Nat) (m : Mm), GG Z M_X11_message (PsX Z cvI) 38 [some (.ref v0), some (.int v1), some (.int v2)] [.int s0, .ref s1] m (J38 v0 v1 v2 s0 s1 m)) ?_ ?_
  · intro v0 v1 v2 s0 s1 m
    refine g_callXVV ht cl_X11 (crt_X11_needPointer _ _ _ _ _) cw_X11_needPointer (by decide) rfl q_1169 q_1171 qs_32 rfl rfl dX11_message_38 ?_
    intro r10 m11
    refine g_iload_n (i := 2) dX11_message_41 rfl rfl ?_
    refine g_sw0 (lo := 0) ?_
    refine g_swc (k := 0) (tgt := 72) dX11_message_42 (by decide) kt_0 rfl (by decide) ?_ ?_
    · refine g_aload_n (i := 0) dX11_message_72 rfl rfl ?_
      refine g_getR (k := 6) cl_X11 (by decide) rfl q_372 dX11_message_73 ?_
      intro q12
      refine g_getRN (k := 15) cl_X7 (by decide) rfl q_258 dX11_message_76 ?_
      intro q13
      refine g_iload_n (i := 1) dX11_message_79 rfl rfl ?_
      refine g_iaload dX11_message_80 ?_
      exact g_ireturnX rfl dX11_message_81
    · refine g_swc (k := 1) (tgt := 82) dX11_message_42 (by decide) kt_1 rfl (by decide) ?_ ?_
      · refine g_aload_n (i := 0) dX11_message_82 rfl rfl ?_
        refine g_getR (k := 6) cl_X11 (by decide) rfl q_372 dX11_message_83 ?_
        intro q14
        refine g_getRN (k := 16) cl_X7 (by decide) rfl q_260 dX11_message_86 ?_
        intro q15
        refine g_iload_n (i := 1) dX11_message_89 rfl rfl ?_
        refine g_iaload dX11_message_90 ?_
        exact g_ireturnX rfl dX11_message_91
      · refine g_swc (k := 2) (tgt := 92) dX11_message_42 (by decide) kt_2 rfl (by decide) ?_ ?_
        · refine g_aload_n (i := 0) dX11_message_92 rfl rfl ?_
          refine g_getR (k := 6) cl_X11 (by decide) rfl q_372 dX11_message_93 ?_
          intro q16
          refine g_getRN (k := 9) cl_X7 (by decide) rfl q_246 dX11_message_96 ?_
          intro q17
          refine g_iload_n (i := 1) dX11_message_99 rfl rfl ?_
          refine g_callSI (crt_X7_ownersOf _ _ _ _ _) cw_X7_ownersOf (by decide) rfl q_1201 q_1202 rfl rfl dX11_message_100 ?_
          intro r18 m19
          exact g_ireturnX rfl dX11_message_103
        · refine g_swc (k := 3) (tgt := 104) dX11_message_42 (by decide) kt_3 rfl (by decide) ?_ ?_
          · refine g_aload_n (i := 0) dX11_message_104 rfl rfl ?_
            refine g_getR (k := 6) cl_X11 (by decide) rfl q_372 dX11_message_105 ?_
            intro q20
            refine g_getRN (k := 10) cl_X7 (by decide) rfl q_248 dX11_message_108 ?_
            intro q21
            refine g_iload_n (i := 1) dX11_message_111 rfl rfl ?_
            refine g_callSI (crt_X7_ownersOf _ _ _ _ _) cw_X7_ownersOf (by decide) rfl q_1201 q_1202 rfl rfl dX11_message_112 ?_
            intro r22 m23
            exact g_ireturnX rfl dX11_message_115
          · refine g_swe (n := 4) (tgt := 116) dX11_message_42 (by decide) (by decide) ?_
            refine g_aload_n (i := 0) dX11_message_116 rfl rfl ?_
            refine g_getR (k := 6) cl_X11 (by decide) rfl q_372 dX11_message_117 ?_
            intro q24
            refine g_getRN (k := 17) cl_X7 (by decide) rfl q_262 dX11_message_120 ?_
            intro q25
            refine g_iload_n (i := 1) dX11_message_123 rfl rfl ?_
            refine g_iaload dX11_message_124 ?_
            exact g_ireturnX rfl dX11_message_125
  · intro J38 hJ38
    refine g_icmpge (tgt := 37) dX11_message_30 (by decide) ?_ ?_
    · refine g_iconst (v := (0 : Int32)) dX11_message_37 ki_0 ?_
      exact g_msk [true, true, true] (hJ38 _ _ _ _ _ _)
    · refine g_iconst (v := (1 : Int32)) dX11_message_33 ki_1 ?_
      refine g_goto (tgt := 38) dX11_message_34 (by decide) ?_
      exact g_msk [true, true, true] (hJ38 _ _ _ _ _ _)
abbrev M_X11_knows : MI := (cX11_knows, RX11, 3, 10, 141, (some .int), "knows")
theorem cw_X11_knows : CwOk M_X11_knows yX11_knows 2 := ⟨q_1210, q_1, by decide +kernel⟩
def F_X11_knows (a0 : Nat) (a1 : Int32) (a2 : Int32) (m : Mm) : Option ((Int32 ⊕ Nat) × Mm) :=
 gd (okO m a0 11) (bx (F_X11_needMember a0 a1 m) (fun r1 m2 =>
 gd (okO m2 a0 11) (bx (F_X11_needMember a0 a2 m2) (fun r3 m4 =>
 gd (okO m4 a0 11) (oc (rR m4 a0 6) none fun q5 =>
 gd (okO m4 q5 7) (oc (rR m4 q5 11) none fun q6 =>
 gd (okA m4 100 q6 ((a1 * (6 : Int32)) + a2)) (
 some ((.inl (rI m4 q6 (ix ((a1 * (6 : Int32)) + a2)))), m4))))) (fun k m => some (.inr k, m)))) (fun k m => some (.inr k, m)))
set_option maxRecDepth 100000 in
set_option maxHeartbeats 4000000 in
theorem crt_X11_knows (l : Launch) (θ : Th) (a0 : Nat) (a1 : Int32) (a2 : Int32) (m : Mm) : CrtX l θ yX11_knows M_X11_knows cvI [.ref a0, .int a1, .int a2] m (F_X11_knows a0 a1 a2 m) := by
  refine crtx_of 0 (by decide) rfl rfl (Nat.le_of_ble_eq_true rfl) (fun Z hμ ht => ?_)
  unfold F_X11_knows
  show GG Z _ _ 0 [some (.ref a0), some (.int a1), some (.int a2)] [] m _
  refine g_aload_n (i := 0) dX11_knows_0 rfl rfl ?_
  refine g_iload_n (i := 1) dX11_knows_1 rfl rfl ?_
  refine g_callXVV ht cl_X11 (crt_X11_needMember _ _ _ _ _) cw_X11_needMember (by decide) rfl q_1082 q_1084 qs_31 rfl rfl dX11_knows_2 ?_
  intro r1 m2
  refine g_aload_n (i := 0) dX11_knows_5 rfl rfl ?_
  refine g_iload_n (i := 2) dX11_knows_6 rfl rfl ?_
  refine g_callXVV ht cl_X11 (crt_X11_needMember _ _ _ _ _) cw_X11_needMember (by decide) rfl q_1082 q_1084 qs_31 rfl rfl dX11_knows_7 ?_
  intro r3 m4
  refine g_aload_n (i := 0) dX11_knows_10 rfl rfl ?_
  refine g_getR (k := 6) cl_X11 (by decide) rfl q_372 dX11_knows_11 ?_
  intro q5
  refine g_getRN (k := 11) cl_X7 (by decide) rfl q_250 dX11_knows_14 ?_
  intro q6
  refine g_iload_n (i := 1) dX11_knows_17 rfl rfl ?_
  refine g_bipush (v := (6 : Int32)) dX11_knows_18 kb_6 ?_
  refine g_imul dX11_knows_20 ?_
  refine g_iload_n (i := 2) dX11_knows_21 rfl rfl ?_
  refine g_iadd dX11_knows_22 ?_
  refine g_iaload dX11_knows_23 ?_
  exact g_ireturnX rfl dX11_knows_24
