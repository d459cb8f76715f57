theorem ks_1005 : (Int16.ofInt 1005).toInt32 = 1005 := by decide +kernel
theorem twg_0 : ∀ w ∈ (vx_at0 RX11 364 (exN 0) ["java/lang/RuntimeException", "java/lang/Exception"]).filter goodWord, w ∈ lw_tbl ∧ goodWord w = true := by decide +kernel
theorem tw_0 : TwOk RX11 0 362 364 ["java/lang/RuntimeException", "java/lang/Exception"] := ⟨by decide +kernel, by decide +kernel, q_1086, q_24, fun w h => TB_in (twg_0 w h).1 (twg_0 w h).2, by decide +kernel, by decide +kernel, by decide, rfl⟩
theorem twg_1 : ∀ w ∈ (vx_at0 RX11 367 (exN 1) ["java/lang/RuntimeException", "java/lang/Exception"]).filter goodWord, w ∈ lw_tbl ∧ goodWord w = true := by decide +kernel
theorem tw_1 : TwOk RX11 1 365 367 ["java/lang/RuntimeException", "java/lang/Exception"] := ⟨by decide +kernel, by decide +kernel, q_651, q_17, fun w h => TB_in (twg_1 w h).1 (twg_1 w h).2, by decide +kernel, by decide +kernel, by decide, rfl⟩
theorem twg_3 : ∀ w ∈ (vx_at0 RX11 373 (exN 3) ["java/lang/RuntimeException", "java/lang/Exception"]).filter goodWord, w ∈ lw_tbl ∧ goodWord w = true := by decide +kernel
theorem tw_3 : TwOk RX11 3 371 373 ["java/lang/RuntimeException", "java/lang/Exception"] := ⟨by decide +kernel, by decide +kernel, q_1179, q_26, fun w h => TB_in (twg_3 w h).1 (twg_3 w h).2, by decide +kernel, by decide +kernel, by decide, rfl⟩
abbrev M_X9_isWord : MI := (cX9_isWord, RX9, 3, 4, 85, (some .boolean), "isWord")
theorem cw_X9_isWord : CwOk M_X9_isWord yX9_isWord 1 := ⟨q_766, q_2, by decide +kernel⟩
def L_X9_isWord_39  : Nat → Nat → Nat → Int32 → Mm → Option (Int32 × Mm)
 | 0, _, _, _, _ => none
 | n + 1, v0, v1, v2, m =>
 gd (strO v1) (bd (F_J0_length_8abf5 v1 m) fun r15 m16 =>
 if r15 ≤ v2 then (
 some ((1 : Int32), m16))
 else (
 gd (okO m16 v0 9) (oc (rR m16 v0 0) none fun q18 =>
 gd (okO m16 v0 9) (
 gd (okA m16 102 q18 ((rI m16 v0 4) + v2)) (
 gd (strO v1) (bd (F_J0_charAt_5068e v1 v2 m16) fun r22 m23 =>
 if (rI m16 q18 (ix ((rI m16 v0 4) + v2))) = r22 then (
 lt9 (v2 + (1 : Int32)) fun x25 =>
 L_X9_isWord_39 n v0 v1 x25 m23)
 else (
 some ((0 : Int32), m23))))))))
def F_X9_isWord (a0 : Nat) (a1 : Nat) (m : Mm) : Option (Int32 × Mm) :=
 gd (okO m a0 9) (
 gd (okO m a0 9) (
 gd (strO a1) (bd (F_J0_length_8abf5 a1 m) fun r26 m27 =>
 if ((rI m a0 3) - (rI m a0 4)) = r26 then (
 gd (okO m27 a0 9) (
 if (rI m27 a0 4) < 0 then (
 some ((0 : Int32), m27))
 else (
 gd (okO m27 a0 9) (
 gd (okO m27 a0 9) (oc (rR m27 a0 0) none fun q29 =>
 gd (okT m27 102 q29) (
 if (rI m27 a0 3) ≤ (ln m27 q29) then (
 lt9 (0 : Int32) fun x30 =>
 L_X9_isWord_39 NF a0 a1 x30 m27)
 else (
 some ((0 : Int32), m27))))))))
 else (
 some ((0 : Int32), m27)))))
set_option maxRecDepth 100000 in
set_option maxHeartbeats 4000000 in
theorem c_L_X9_isWord_39 {Z : Zx}    : ∀ (n : Nat) (v0 : Nat) (v1 : Nat) (v2 : Int32) (m : Mm), GG Z M_X9_isWord (PsN Z cvI) 39 [some (.ref v0), some (.ref v1), some (.int v2)] [] m (L_X9_isWord_39 n v0 v1 v2 m) := by
  intro n
  induction n with
  | zero => intro v0 v1 v2 m; exact g_no
  | succ n ih =>
    intro v0 v1 v2 m
    unfold L_X9_isWord_39
    refine g_iload_n (i := 2) dX9_isWord_39 rfl rfl ?_
    refine g_aload_n (i := 1) dX9_isWord_40 rfl rfl ?_
    refine g_gd fun hs17 => ?_
    refine g_callVS (vs := []) hs17 (crt_J0_length_8abf5 _ _ _ _) cw_J0_length_8abf5 (by decide) rfl q_767 q_768 q_769 rfl rfl dX9_isWord_41 ?_
    intro r15 m16
    show GG Z _ _ 44 _ [.int r15, .int v2] m16 _
    refine g_icmpge (tgt := 74) dX9_isWord_44 (by decide) ?_ ?_
    · refine g_iconst (v := (1 : Int32)) dX9_isWord_74 ki_1 ?_
      exact g_zreturnK rfl (by decide) dX9_isWord_75
    · refine g_aload_n (i := 0) dX9_isWord_47 rfl rfl ?_
      refine g_getR (k := 0) cl_X9 (by decide) rfl q_43 dX9_isWord_48 ?_
      intro q18
      refine g_aload_n (i := 0) dX9_isWord_51 rfl rfl ?_
      refine g_getI (k := 4) cl_X9 (by decide) rfl q_53 dX9_isWord_52 ?_
      refine g_iload_n (i := 2) dX9_isWord_55 rfl rfl ?_
      refine g_iadd dX9_isWord_56 ?_
      refine g_baload dX9_isWord_57 ?_
      refine g_aload_n (i := 1) dX9_isWord_58 rfl rfl ?_
      refine g_iload_n (i := 2) dX9_isWord_59 rfl rfl ?_
      refine g_gd fun hs24 => ?_
      refine g_callVS (vs := [.int v2]) hs24 (crt_J0_charAt_5068e _ _ _ _ _) cw_J0_charAt_5068e (by decide) rfl q_777 q_778 q_779 rfl rfl dX9_isWord_60 ?_
      intro r22 m23
      show GG Z _ _ 63 _ [.int r22, .int (rI m16 q18 (ix ((rI m16 v0 4) + v2)))] m23 _
      refine g_icmpeq (tgt := 68) dX9_isWord_63 (by decide) ?_ ?_
      · refine g_iinc dX9_isWord_68 rfl ki_1 (show 2 < 3 by decide) ?_
        intro x25
        refine g_goto (tgt := 39) dX9_isWord_71 (by decide) ?_
        exact g_msk [true, true, true] (ih _ _ _ _)
      · refine g_iconst (v := (0 : Int32)) dX9_isWord_66 ki_0 ?_
        exact g_zreturnK rfl (by decide) dX9_isWord_67
set_option maxRecDepth 100000 in
set_option maxHeartbeats 4000000 in
theorem crt_X9_isWord (l : Launch) (θ : Th) (a0 : Nat) (a1 : Nat) (m : Mm) : Crt l θ yX9_isWord M_X9_isWord cvI [.ref a0, .ref a1] m (F_X9_isWord a0 a1 m) := by
  refine crt_of 1 (by decide) rfl rfl (Nat.le_of_ble_eq_true rfl) (fun Z hμ => ?_)
  unfold F_X9_isWord
  show GG Z _ _ 0 [some (.ref a0), some (.ref a1), none] [] m _
  refine g_aload_n (i := 0) dX9_isWord_0 rfl rfl ?_
  refine g_getI (k := 3) cl_X9 (by decide) rfl q_48 dX9_isWord_1 ?_
  refine g_aload_n (i := 0) dX9_isWord_4 rfl rfl ?_
  refine g_getI (k := 4) cl_X9 (by decide) rfl q_53 dX9_isWord_5 ?_
  refine g_isub dX9_isWord_8 ?_
  refine g_aload_n (i := 1) dX9_isWord_9 rfl rfl ?_
  refine g_gd fun hs28 => ?_
  refine g_callVS (vs := []) hs28 (crt_J0_length_8abf5 _ _ _ _) cw_J0_length_8abf5 (by decide) rfl q_767 q_768 q_769 rfl rfl dX9_isWord_10 ?_
  intro r26 m27
  show GG Z _ _ 13 _ [.int r26, .int ((rI m a0 3) - (rI m a0 4))] m27 _
  refine g_icmpne (tgt := 35) dX9_isWord_13 (by decide) ?_ ?_
  · refine g_iconst (v := (0 : Int32)) dX9_isWord_35 ki_0 ?_
    exact g_zreturnK rfl (by decide) dX9_isWord_36
  · refine g_aload_n (i := 0) dX9_isWord_16 rfl rfl ?_
    refine g_getI (k := 4) cl_X9 (by decide) rfl q_53 dX9_isWord_17 ?_
    refine g_iflt (tgt := 35) dX9_isWord_20 (by decide) ?_ ?_
    · refine g_iconst (v := (0 : Int32)) dX9_isWord_35 ki_0 ?_
      exact g_zreturnK rfl (by decide) dX9_isWord_36
    · refine g_aload_n (i := 0) dX9_isWord_23 rfl rfl ?_
      refine g_getI (k := 3) cl_X9 (by decide) rfl q_48 dX9_isWord_24 ?_
      refine g_aload_n (i := 0) dX9_isWord_27 rfl rfl ?_
      refine g_getR (k := 0) cl_X9 (by decide) rfl q_43 dX9_isWord_28 ?_
      intro q29
      refine g_alen102 dX9_isWord_31 ?_
      refine g_icmple (tgt := 37) dX9_isWord_32 (by decide) ?_ ?_
      · refine g_iconst (v := (0 : Int32)) dX9_isWord_37 ki_0 ?_
        refine g_istore_n (i := 2) dX9_isWord_38 rfl (show 2 < 3 by decide) ?_
        intro x30
        exact g_msk [true, true, true] (c_L_X9_isWord_39 NF _ _ _ _)
      · refine g_iconst (v := (0 : Int32)) dX9_isWord_35 ki_0 ?_
        exact g_zreturnK rfl (by decide) dX9_isWord_36
abbrev M_X1_read : MI := (cX1_read, RX1, 7, 5, 107, (some .boolean), "read")
theorem cw_X1_read : CwOk M_X1_read yX1_read 1 := ⟨q_738, q_3, by decide +kernel⟩
def L_X1_read_11 (K137 : Nat → Int32 → Int32 → Int32 → Mm → Option (Int32 × Mm)) (K56 : Nat → Mm → Option (Int32 × Mm)) (K84 : Nat → Mm → Option (Int32 × Mm)) : Nat → Nat → Nat → Int32 → Int32 → Int32 → Int32 → Mm → Option (Int32 × Mm)
 | 0, _, _, _, _, _, _, _ => none
 | n + 1, v0, v1, v2, v3, v4, v5, m =>
 if (60 : Int32) < v5 then (
 K137 v0 v2 v3 v4 m)
 else (
 gd (okO m v1 9) (bd (F_X9_isEnded v1 m) fun r5 m6 =>
 if r5 = 0 then (
 gd (okO m6 v1 9) (bd (F_X9_word v1 m6) fun r7 m8 =>
 if r7 = 0 then (
 some ((0 : Int32), m8))
 else (
 gd (okO m8 v1 9) (bd (F_X9_isWord v1 (K9 + 0) m8) fun r9 m10 =>
 lt9 r9 fun x11 =>
 jn (fun (v0 : Nat) (v1 : Nat) (v2 : Int32) (v3 : Int32) (v4 : Int32) (v5 : Int32) (v6 : Int32) (m : Mm) =>
 if v5 = (60 : Int32) then (
 K84 v1 m)
 else (
 jn (fun (v0 : Nat) (v1 : Nat) (v2 : Int32) (v3 : Int32) (v4 : Int32) (v5 : Int32) (v6 : Int32) (m : Mm) =>
 bd (F_X1_readNumber v1 v6 m) fun r12 m13 =>
 if r12 = 0 then (
 some ((0 : Int32), m13))
 else (
 jn (fun (v0 : Nat) (v1 : Nat) (v2 : Int32) (v3 : Int32) (v4 : Int32) (v5 : Int32) (m : Mm) =>
 lt9 (v5 + (1 : Int32)) fun x14 =>
 L_X1_read_11 K137 K56 K84 n v0 v1 v2 v3 v4 x14 m) fun J131 =>
 if v6 = 0 then (
 gd (okO m13 v1 9) (
 lt9 (rI m13 v1 5) fun x15 =>
 J131 v0 v1 v2 v3 x15 v5 m13))
 else (
 gd (okO m13 v1 9) (
 lt9 (v3 ||| ((rI m13 v1 5) <<< (v2 &&& 31))) fun x16 =>
 lt9 (v2 + (1 : Int32)) fun x17 =>
 J131 v0 v1 x17 x16 v4 v5 m13)))) fun J94 =>
 if v6 = 0 then (
 J94 v0 v1 v2 v3 v4 v5 v6 m)
 else (
 if v2 = (6 : Int32) then (
 K84 v1 m)
 else (
 J94 v0 v1 v2 v3 v4 v5 v6 m)))) fun J66 =>
 if x11 = 0 then (
 gd (okO m10 v1 9) (bd (F_X9_isWord v1 (K9 + 1) m10) fun r18 m19 =>
 if r18 = 0 then (
 K56 v1 m19)
 else (
 J66 v0 v1 v2 v3 v4 v5 x11 m19)))
 else (
 J66 v0 v1 v2 v3 v4 v5 x11 m10)))))
 else (
 K137 v0 v2 v3 v4 m6)))
def F_X1_read (a0 : Nat) (a1 : Nat) (m : Mm) : Option (Int32 × Mm) :=
 lt9 (0 : Int32) fun x1 =>
 lt9 (0 : Int32) fun x2 =>
 lt9 (30 : Int32) fun x3 =>
 lt9 (0 : Int32) fun x4 =>
 L_X1_read_11 (fun v0 v2 v3 v4 m =>
 gd (okO m v0 1) (lt9 (wI m v0 0 v2) fun m20 =>
 gd (okO m20 v0 1) (lt9 (wI m20 v0 1 v3) fun m21 =>
 gd (okO m21 v0 1) (lt9 (wI m21 v0 2 v4) fun m22 =>
 some ((1 : Int32), m22))))) (fun v1 m =>
 gd (okO m v1 9) (
 gd (okO m v1 9) (bd (F_X9_fail v1 (1 : Int32) (rI m v1 4) m) fun r23 m24 =>
 gd (decide (r23 = 0 ∨ r23 = 1)) (some (r23, m24))))) (fun v1 m =>
 gd (okO m v1 9) (
 gd (okO m v1 9) (bd (F_X9_fail v1 (3 : Int32) (rI m v1 4) m) fun r25 m26 =>
 gd (decide (r25 = 0 ∨ r25 = 1)) (some (r25, m26))))) NF a0 a1 x1 x2 x3 x4 m
set_option maxRecDepth 100000 in
set_option maxHeartbeats 4000000 in
theorem c_L_X1_read_11 {Z : Zx}  {K137 : Nat → Int32 → Int32 → Int32 → Mm → Option (Int32 × Mm)} {K56 : Nat → Mm → Option (Int32 × Mm)} {K84 : Nat → Mm → Option (Int32 × Mm)} (hK137 : ∀ (v0 : Nat) (v2 : Int32) (v3 : Int32) (v4 : Int32) (m : Mm), GG Z M_X1_read (PsN Z cvI) 137 [some (.ref v0), none, some (.int v2), some (.int v3), some (.int v4), none, none] [] m (K137 v0 v2 v3 v4 m)) (hK56 : ∀ (v1 : Nat) (m : Mm), GG Z M_X1_read (PsN Z cvI) 56 [none, some (.ref v1), none, none, none, none, none] [] m (K56 v1 m)) (hK84 : ∀ (v1 : Nat) (m : Mm), GG Z M_X1_read (PsN Z cvI) 84 [none, some (.ref v1), none, none, none, none, none] [] m (K84 v1 m)) : ∀ (n : Nat) (v0 : Nat) (v1 : Nat) (v2 : Int32) (v3 : Int32) (v4 : Int32) (v5 : Int32) (m : Mm), GG Z M_X1_read (PsN Z cvI) 11 [some (.ref v0), some (.ref v1), some (.int v2), some (.int v3), some (.int v4), some (.int v5), none] [] m (L_X1_read_11 K137 K56 K84 n v0 v1 v2 v3 v4 v5 m) := by
  intro n
  induction n with
  | zero => intro v0 v1 v2 v3 v4 v5 m; exact g_no
  | succ n ih =>
    intro v0 v1 v2 v3 v4 v5 m
    unfold L_X1_read_11
    refine g_iload dX1_read_11 rfl ?_
    refine g_bipush (v := (60 : Int32)) dX1_read_13 kb_60 ?_
    refine g_icmpgt (tgt := 137) dX1_read_15 (by decide) ?_ ?_
    · exact g_msk [true, false, true, true, true, false, false] (hK137 _ _ _ _ _)
    · refine g_aload_n (i := 1) dX1_read_18 rfl rfl ?_
      refine g_callVI cl_X9 (crt_X9_isEnded _ _ _ _) cw_X9_isEnded (by decide) rfl q_739 q_740 q_741 rfl rfl dX1_read_19 ?_
      intro r5 m6
      refine g_ifne (tgt := 137) dX1_read_22 (by decide) ?_ ?_
      · exact g_msk [true, false, true, true, true, false, false] (hK137 _ _ _ _ _)
      · refine g_aload_n (i := 1) dX1_read_25 rfl rfl ?_
        refine g_callVI cl_X9 (crt_X9_word _ _ _ _) cw_X9_word (by decide) rfl q_747 q_748 q_749 rfl rfl dX1_read_26 ?_
        intro r7 m8
        refine g_ifne (tgt := 34) dX1_read_29 (by decide) ?_ ?_
        · refine g_aload_n (i := 1) dX1_read_34 rfl rfl ?_
          refine g_ldcS (k := 0) (tx := "member") dX1_read_35 (by decide) (by decide +kernel) ?_
          refine g_callVI cl_X9 (crt_X9_isWord _ _ _ _ _) cw_X9_isWord (by decide) rfl q_763 q_764 q_765 rfl rfl dX1_read_37 ?_
          intro r9 m10
          refine g_istore dX1_read_40 (show 6 < 7 by decide) ?_
          intro x11
          refine g_iload dX1_read_42 rfl ?_
          refine g_jn (fun J66 => ∀ (v0 : Nat) (v1 : Nat) (v2 : Int32) (v3 : Int32) (v4 : Int32) (v5 : Int32) (v6 : Int32) (m : Mm), GG Z M_X1_read (PsN Z cvI) 66 [some (.ref v0), some (.ref v1), some (.int v2), some (.int v3), some (.int v4), some (.int v5), some (.int v6)] [] m (J66 v0 v1 v2 v3 v4 v5 v6 m)) ?_ ?_
          · intro v0 v1 v2 v3 v4 v5 v6 m
            refine g_iload dX1_read_66 rfl ?_
            refine g_bipush (v := (60 : Int32)) dX1_read_68 kb_60 ?_
            refine g_icmpeq (tgt := 84) dX1_read_70 (by decide) ?_ ?_
            · exact g_msk [false, true, false, false, false, false, false] (hK84 _ _)
            · refine g_iload dX1_read_73 rfl ?_
              refine g_jn (fun J94 => ∀ (v0 : Nat) (v1 : Nat) (v2 : Int32) (v3 : Int32) (v4 : Int32) (v5 : Int32) (v6 : Int32) (m : Mm), GG Z M_X1_read (PsN Z cvI) 94 [some (.ref v0), some (.ref v1), some (.int v2), some (.int v3), some (.int v4), some (.int v5), some (.int v6)] [] m (J94 v0 v1 v2 v3 v4 v5 v6 m)) ?_ ?_
              · intro v0 v1 v2 v3 v4 v5 v6 m
                refine g_aload_n (i := 1) dX1_read_94 rfl rfl ?_
                refine g_iload dX1_read_95 rfl ?_
                refine g_callSI (crt_X1_readNumber _ _ _ _ _) cw_X1_readNumber (by decide) rfl q_817 q_818 rfl rfl dX1_read_97 ?_
                intro r12 m13
                refine g_ifne (tgt := 105) dX1_read_100 (by decide) ?_ ?_
                · refine g_iload dX1_read_105 rfl ?_
                  refine g_jn (fun J131 => ∀ (v0 : Nat) (v1 : Nat) (v2 : Int32) (v3 : Int32) (v4 : Int32) (v5 : Int32) (m : Mm), GG Z M_X1_read (PsN Z cvI) 131 [some (.ref v0), some (.ref v1), some (.int v2), some (.int v3), some (.int v4), some (.int v5), none] [] m (J131 v0 v1 v2 v3 v4 v5 m)) ?_ ?_
                  · intro v0 v1 v2 v3 v4 v5 m
                    refine g_iinc dX1_read_131 rfl ki_1 (show 5 < 7 by decide) ?_
                    intro x14
                    refine g_goto (tgt := 11) dX1_read_134 (by decide) ?_
                    exact g_msk [true, true, true, true, true, true, false] (ih _ _ _ _ _ _ _)
                  · intro J131 hJ131
                    refine g_ifeq (tgt := 125) dX1_read_107 (by decide) ?_ ?_
                    · refine g_aload_n (i := 1) dX1_read_125 rfl rfl ?_
                      refine g_getIN (k := 5) cl_X9 (by decide) rfl q_54 dX1_read_126 ?_
                      refine g_istore dX1_read_129 (show 4 < 7 by decide) ?_
                      intro x15
                      exact g_msk [true, true, true, true, true, true, false] (hJ131 _ _ _ _ _ _ _)
                    · refine g_iload_n (i := 3) dX1_read_110 rfl rfl ?_
                      refine g_aload_n (i := 1) dX1_read_111 rfl rfl ?_
                      refine g_getIN (k := 5) cl_X9 (by decide) rfl q_54 dX1_read_112 ?_
                      refine g_iload_n (i := 2) dX1_read_115 rfl rfl ?_
                      refine g_ishl dX1_read_116 ?_
                      refine g_ior dX1_read_117 ?_
                      refine g_istore_n (i := 3) dX1_read_118 rfl (show 3 < 7 by decide) ?_
                      intro x16
                      refine g_iinc dX1_read_119 rfl ki_1 (show 2 < 7 by decide) ?_
                      intro x17
                      refine g_goto (tgt := 131) dX1_read_122 (by decide) ?_
                      exact g_msk [true, true, true, true, true, true, false] (hJ131 _ _ _ _ _ _ _)
                · refine g_iconst (v := (0 : Int32)) dX1_read_103 ki_0 ?_
                  exact g_zreturnK rfl (by decide) dX1_read_104
              · intro J94 hJ94
                refine g_ifeq (tgt := 94) dX1_read_75 (by decide) ?_ ?_
                · exact g_msk [true, true, true, true, true, true, true] (hJ94 _ _ _ _ _ _ _ _)
                · refine g_iload_n (i := 2) dX1_read_78 rfl rfl ?_
                  refine g_bipush (v := (6 : Int32)) dX1_read_79 kb_6 ?_
                  refine g_icmpne (tgt := 94) dX1_read_81 (by decide) ?_ ?_
                  · exact g_msk [true, true, true, true, true, true, true] (hJ94 _ _ _ _ _ _ _ _)
                  · exact g_msk [false, true, false, false, false, false, false] (hK84 _ _)
          · intro J66 hJ66
            refine g_ifne (tgt := 66) dX1_read_44 (by decide) ?_ ?_
            · exact g_msk [true, true, true, true, true, true, true] (hJ66 _ _ _ _ _ _ _ _)
            · refine g_aload_n (i := 1) dX1_read_47 rfl rfl ?_
              refine g_ldcS (k := 1) (tx := "limit") dX1_read_48 (by decide) (by decide +kernel) ?_
              refine g_callVI cl_X9 (crt_X9_isWord _ _ _ _ _) cw_X9_isWord (by decide) rfl q_763 q_764 q_765 rfl rfl dX1_read_50 ?_
              intro r18 m19
              refine g_ifne (tgt := 66) dX1_read_53 (by decide) ?_ ?_
              · exact g_msk [true, true, true, true, true, true, true] (hJ66 _ _ _ _ _ _ _ _)
              · exact g_msk [false, true, false, false, false, false, false] (hK56 _ _)
        · refine g_iconst (v := (0 : Int32)) dX1_read_32 ki_0 ?_
          exact g_zreturnK rfl (by decide) dX1_read_33
set_option maxRecDepth 100000 in
set_option maxHeartbeats 4000000 in
theorem crt_X1_read (l : Launch) (θ : Th) (a0 : Nat) (a1 : Nat) (m : Mm) : Crt l θ yX1_read M_X1_read cvI [.ref a0, .ref a1] m (F_X1_read a0 a1 m) := by
  refine crt_of 5 (by decide) rfl rfl (Nat.le_of_ble_eq_true rfl) (fun Z hμ => ?_)
  unfold F_X1_read
  show GG Z _ _ 0 [some (.ref a0), some (.ref a1), none, none, none, none, none] [] m _
  refine g_iconst (v := (0 : Int32)) dX1_read_0 ki_0 ?_
  refine g_istore_n (i := 2) dX1_read_1 rfl (show 2 < 7 by decide) ?_
  intro x1
  refine g_iconst (v := (0 : Int32)) dX1_read_2 ki_0 ?_
  refine g_istore_n (i := 3) dX1_read_3 rfl (show 3 < 7 by decide) ?_
  intro x2
  refine g_bipush (v := (30 : Int32)) dX1_read_4 kb_30 ?_
  refine g_istore dX1_read_6 (show 4 < 7 by decide) ?_
  intro x3
  refine g_iconst (v := (0 : Int32)) dX1_read_8 ki_0 ?_
  refine g_istore dX1_read_9 (show 5 < 7 by decide) ?_
  intro x4
  refine g_msk [true, true, true, true, true, true, false] (c_L_X1_read_11 ?_ ?_ ?_ NF _ _ _ _ _ _ _)
  · intro v0 v2 v3 v4 m
    refine g_aload_n (i := 0) dX1_read_137 rfl rfl ?_
    refine g_iload_n (i := 2) dX1_read_138 rfl rfl ?_
    refine g_putI (k := 0) cl_X1 (by decide) rfl rfl q_87 dX1_read_139 ?_
    intro m20
    refine g_aload_n (i := 0) dX1_read_142 rfl rfl ?_
    refine g_iload_n (i := 3) dX1_read_143 rfl rfl ?_
    refine g_putI (k := 1) cl_X1 (by decide) rfl rfl q_90 dX1_read_144 ?_
    intro m21
    refine g_aload_n (i := 0) dX1_read_147 rfl rfl ?_
    refine g_iload dX1_read_148 rfl ?_
    refine g_putI (k := 2) cl_X1 (by decide) rfl rfl q_92 dX1_read_150 ?_
    intro m22
    refine g_iconst (v := (1 : Int32)) dX1_read_153 ki_1 ?_
    exact g_zreturnK rfl (by decide) dX1_read_154
  · intro v1 m
    refine g_aload_n (i := 1) dX1_read_56 rfl rfl ?_
    refine g_iconst (v := (1 : Int32)) dX1_read_57 ki_1 ?_
    refine g_aload_n (i := 1) dX1_read_58 rfl rfl ?_
    refine g_getIN (k := 4) cl_X9 (by decide) rfl q_49 dX1_read_59 ?_
    refine g_callVI cl_X9 (crt_X9_fail _ _ _ _ _ _) cw_X9_fail (by decide) rfl q_816 q_755 q_756 rfl rfl dX1_read_62 ?_
    intro r23 m24
    exact g_zreturn rfl dX1_read_65
  · intro v1 m
    refine g_aload_n (i := 1) dX1_read_84 rfl rfl ?_
    refine g_iconst (v := (3 : Int32)) dX1_read_85 ki_3 ?_
    refine g_aload_n (i := 1) dX1_read_86 rfl rfl ?_
    refine g_getIN (k := 4) cl_X9 (by decide) rfl q_49 dX1_read_87 ?_
    refine g_callVI cl_X9 (crt_X9_fail _ _ _ _ _ _) cw_X9_fail (by decide) rfl q_816 q_755 q_756 rfl rfl dX1_read_90 ?_
    intro r25 m26
    exact g_zreturn rfl dX1_read_93
abbrev M_X3_kindOf : MI := (cX3_kindOf, RX3, 1, 5, 107, (some .int), "kindOf")
theorem cw_X3_kindOf : CwOk M_X3_kindOf yX3_kindOf 1 := ⟨q_875, q_4, by decide +kernel⟩
def F_X3_kindOf (a0 : Nat) (m : Mm) : Option (Int32 × Mm) :=
 gd (okO m a0 9) (bd (F_X9_isWord a0 (K9 + 0) m) fun r1 m2 =>
 if r1 = 0 then (
 gd (okO m2 a0 9) (bd (F_X9_isWord a0 (K9 + 2) m2) fun r3 m4 =>
 if r3 = 0 then (
 gd (okO m4 a0 9) (bd (F_X9_isWord a0 (K9 + 3) m4) fun r5 m6 =>
 if r5 = 0 then (
 gd (okO m6 a0 9) (bd (F_X9_isWord a0 (K9 + 4) m6) fun r7 m8 =>
 if r7 = 0 then (
 gd (okO m8 a0 9) (bd (F_X9_isWord a0 (K9 + 5) m8) fun r9 m10 =>
 if r9 = 0 then (
 gd (okO m10 a0 9) (bd (F_X9_isWord a0 (K9 + 6) m10) fun r11 m12 =>
 if r11 = 0 then (
 some ((-1 : Int32), m12))
 else (
 some ((1005 : Int32), m12))))
 else (
 some ((1004 : Int32), m10))))
 else (
 some ((1003 : Int32), m8))))
 else (
 some ((1002 : Int32), m6))))
 else (
 some ((1001 : Int32), m4))))
 else (
 some ((1000 : Int32), m2)))
set_option maxRecDepth 100000 in
set_option maxHeartbeats 4000000 in
theorem crt_X3_kindOf (l : Launch) (θ : Th) (a0 : Nat) (m : Mm) : Crt l θ yX3_kindOf M_X3_kindOf cvI [.ref a0] m (F_X3_kindOf a0 m) := by
  refine crt_of 0 (by decide) rfl rfl (Nat.le_of_ble_eq_true rfl) (fun Z hμ => ?_)
  unfold F_X3_kindOf
  show GG Z _ _ 0 [some (.ref a0)] [] m _
  refine g_aload_n (i := 0) dX3_kindOf_0 rfl rfl ?_
  refine g_ldcS (k := 0) (tx := "member") dX3_kindOf_1 (by decide) (by decide +kernel) ?_
  refine g_callVI cl_X9 (crt_X9_isWord _ _ _ _ _) cw_X9_isWord (by decide) rfl q_877 q_764 q_765 rfl rfl dX3_kindOf_3 ?_
  intro r1 m2
  refine g_ifeq (tgt := 13) dX3_kindOf_6 (by decide) ?_ ?_
  · refine g_aload_n (i := 0) dX3_kindOf_13 rfl rfl ?_
    refine g_ldcS (k := 2) (tx := "age") dX3_kindOf_14 (by decide) (by decide +kernel) ?_
    refine g_callVI cl_X9 (crt_X9_isWord _ _ _ _ _) cw_X9_isWord (by decide) rfl q_877 q_764 q_765 rfl rfl dX3_kindOf_16 ?_
    intro r3 m4
    refine g_ifeq (tgt := 26) dX3_kindOf_19 (by decide) ?_ ?_
    · refine g_aload_n (i := 0) dX3_kindOf_26 rfl rfl ?_
      refine g_ldcS (k := 3) (tx := "view") dX3_kindOf_27 (by decide) (by decide +kernel) ?_
      refine g_callVI cl_X9 (crt_X9_isWord _ _ _ _ _) cw_X9_isWord (by decide) rfl q_877 q_764 q_765 rfl rfl dX3_kindOf_29 ?_
      intro r5 m6
      refine g_ifeq (tgt := 39) dX3_kindOf_32 (by decide) ?_ ?_
      · refine g_aload_n (i := 0) dX3_kindOf_39 rfl rfl ?_
        refine g_ldcS (k := 4) (tx := "size") dX3_kindOf_40 (by decide) (by decide +kernel) ?_
        refine g_callVI cl_X9 (crt_X9_isWord _ _ _ _ _) cw_X9_isWord (by decide) rfl q_877 q_764 q_765 rfl rfl dX3_kindOf_42 ?_
        intro r7 m8
        refine g_ifeq (tgt := 52) dX3_kindOf_45 (by decide) ?_ ?_
        · refine g_aload_n (i := 0) dX3_kindOf_52 rfl rfl ?_
          refine g_ldcS (k := 5) (tx := "least") dX3_kindOf_53 (by decide) (by decide +kernel) ?_
          refine g_callVI cl_X9 (crt_X9_isWord _ _ _ _ _) cw_X9_isWord (by decide) rfl q_877 q_764 q_765 rfl rfl dX3_kindOf_55 ?_
          intro r9 m10
          refine g_ifeq (tgt := 65) dX3_kindOf_58 (by decide) ?_ ?_
          · refine g_aload_n (i := 0) dX3_kindOf_65 rfl rfl ?_
            refine g_ldcS (k := 6) (tx := "most") dX3_kindOf_66 (by decide) (by decide +kernel) ?_
            refine g_callVI cl_X9 (crt_X9_isWord _ _ _ _ _) cw_X9_isWord (by decide) rfl q_877 q_764 q_765 rfl rfl dX3_kindOf_68 ?_
            intro r11 m12
            refine g_ifeq (tgt := 80) dX3_kindOf_71 (by decide) ?_ ?_
            · refine g_iconst (v := (-1 : Int32)) dX3_kindOf_80 ki_m1 ?_
              exact g_ireturn rfl dX3_kindOf_81
            · refine g_sipush (v := (1005 : Int32)) dX3_kindOf_74 ks_1005 ?_
              refine g_goto (tgt := 81) dX3_kindOf_77 (by decide) ?_
              exact g_ireturn rfl dX3_kindOf_81
          · refine g_sipush (v := (1004 : Int32)) dX3_kindOf_61 ks_1004 ?_
            exact g_ireturn rfl dX3_kindOf_64
        · refine g_sipush (v := (1003 : Int32)) dX3_kindOf_48 ks_1003 ?_
          exact g_ireturn rfl dX3_kindOf_51
      · refine g_sipush (v := (1002 : Int32)) dX3_kindOf_35 ks_1002 ?_
        exact g_ireturn rfl dX3_kindOf_38
    · refine g_sipush (v := (1001 : Int32)) dX3_kindOf_22 ks_1001 ?_
      exact g_ireturn rfl dX3_kindOf_25
  · refine g_sipush (v := (1000 : Int32)) dX3_kindOf_9 ks_1000 ?_
    exact g_ireturn rfl dX3_kindOf_12
abbrev M_X3_readSum (d : Nat) : MI := (cX3_readSum, RX3, 8, 6 + d, 127 + 27 * d, (some .boolean), "readSum")
theorem cw_X3_readSum (d : Nat) : CwOk (M_X3_readSum d) yX3_readSum 2 := ⟨q_856, q_4, by decide +kernel⟩
abbrev M_X3_readUnit (d : Nat) : MI := (cX3_readUnit, RX3, 5, 6 + d, 127 + 27 * d, (some .boolean), "readUnit")
theorem cw_X3_readUnit (d : Nat) : CwOk (M_X3_readUnit d) yX3_readUnit 2 := ⟨q_860, q_4, by decide +kernel⟩
abbrev M_X3_readWord (d : Nat) : MI := (cX3_readWord, RX3, 6, 6 + d, 127 + 27 * d, (some .boolean), "readWord")
theorem cw_X3_readWord (d : Nat) : CwOk (M_X3_readWord d) yX3_readWord 2 := ⟨q_871, q_4, by decide +kernel⟩
def L_X3_readSum_13 (f_X3_readSum : Nat → Nat → Int32 → Mm → Option (Int32 × Mm)) (f_X3_readUnit : Nat → Nat → Int32 → Mm → Option (Int32 × Mm)) (f_X3_readWord : Nat → Nat → Int32 → Mm → Option (Int32 × Mm)) : Nat → Nat → Nat → Int32 → Int32 → Int32 → Int32 → Mm → Option (Int32 × Mm)
 | 0, _, _, _, _, _, _, _ => none
 | n + 1, v0, v1, v2, v3, v4, v5, m =>
 if v4 = 0 then (
 gd (decide (v4 = 0 ∨ v4 = 1)) (some (v4, m)))
 else (
 if (150 : Int32) ≤ v5 then (
 gd (decide (v4 = 0 ∨ v4 = 1)) (some (v4, m)))
 else (
 gd (okO m v1 9) (bd (F_X9_peek v1 m) fun r6 m7 =>
 bd (F_X3_joint r6 m7) fun r8 m9 =>
 lt9 r8 fun x10 =>
 jn (fun (v0 : Nat) (v1 : Nat) (v2 : Int32) (v3 : Int32) (v5 : Int32) (v6 : Int32) (s0 : Int32) (m : Mm) =>
 lt9 s0 fun x11 =>
 jn (fun (v0 : Nat) (v1 : Nat) (v2 : Int32) (v3 : Int32) (v5 : Int32) (v6 : Int32) (v7 : Int32) (m : Mm) =>
 if v6 = (-1 : Int32) then (
 some ((1 : Int32), m))
 else (
 gd (okO m v1 9) (bd (F_X9_skip v1 m) fun r12 m13 =>
 gd (okO m13 v0 3) (bd (f_X3_readUnit v0 v1 v2 m13) fun r14 m15 =>
 lt9 r14 fun x16 =>
 jn (fun (v0 : Nat) (v1 : Nat) (v2 : Int32) (v3 : Int32) (v4 : Int32) (v5 : Int32) (m : Mm) =>
 lt9 (v5 + (1 : Int32)) fun x17 =>
 L_X3_readSum_13 f_X3_readSum f_X3_readUnit f_X3_readWord n v0 v1 v2 v3 v4 x17 m) fun J118 =>
 if v7 = 0 then (
 lt9 v6 fun x18 =>
 J118 v0 v1 v2 x18 x16 v5 m15)
 else (
 gd (okO m15 v0 3) (bd (F_X3_emit v0 v6 m15) fun r19 m20 =>
 J118 v0 v1 v2 v3 x16 v5 m20)))))) fun J81 =>
 if x11 = 0 then (
 if v3 = (-1 : Int32) then (
 J81 v0 v1 v2 v3 v5 v6 x11 m)
 else (
 gd (okO m v0 3) (bd (F_X3_emit v0 v3 m) fun r21 m22 =>
 J81 v0 v1 v2 v3 v5 v6 x11 m22)))
 else (
 J81 v0 v1 v2 v3 v5 v6 x11 m)) fun J64 =>
 jn (fun (v0 : Nat) (v1 : Nat) (v2 : Int32) (v3 : Int32) (v5 : Int32) (v6 : Int32) (m : Mm) =>
 J64 v0 v1 v2 v3 v5 v6 (1 : Int32) m) fun J59 =>
 if x10 = (1008 : Int32) then (
 J59 v0 v1 v2 v3 v5 x10 m9)
 else (
 if x10 = (1009 : Int32) then (
 J59 v0 v1 v2 v3 v5 x10 m9)
 else (
 if x10 = (1010 : Int32) then (
 J59 v0 v1 v2 v3 v5 x10 m9)
 else (
 J64 v0 v1 v2 v3 v5 x10 (0 : Int32) m9))))))
def B_X3_readSum (f_X3_readSum : Nat → Nat → Int32 → Mm → Option (Int32 × Mm)) (f_X3_readUnit : Nat → Nat → Int32 → Mm → Option (Int32 × Mm)) (f_X3_readWord : Nat → Nat → Int32 → Mm → Option (Int32 × Mm)) (a0 : Nat) (a1 : Nat) (a2 : Int32) (m : Mm) : Option (Int32 × Mm) :=
 lt9 (-1 : Int32) fun x1 =>
 gd (okO m a0 3) (bd (f_X3_readUnit a0 a1 a2 m) fun r2 m3 =>
 lt9 r2 fun x4 =>
 lt9 (0 : Int32) fun x5 =>
 L_X3_readSum_13 f_X3_readSum f_X3_readUnit f_X3_readWord NF a0 a1 a2 x1 x4 x5 m3)
def B_X3_readUnit (f_X3_readSum : Nat → Nat → Int32 → Mm → Option (Int32 × Mm)) (f_X3_readUnit : Nat → Nat → Int32 → Mm → Option (Int32 × Mm)) (f_X3_readWord : Nat → Nat → Int32 → Mm → Option (Int32 × Mm)) (a0 : Nat) (a1 : Nat) (a2 : Int32) (m : Mm) : Option (Int32 × Mm) :=
 gd (okO m a1 9) (bd (F_X9_peek a1 m) fun r1 m2 =>
 lt9 r1 fun x3 =>
 bd (F_X9_isDigit x3 m2) fun r4 m5 =>
 if r4 = 0 then (
 if x3 = (40 : Int32) then (
 if a2 < (6 : Int32) then (
 gd (okO m5 a1 9) (bd (F_X9_skip a1 m5) fun r6 m7 =>
 gd (okO m7 a0 3) (bd (f_X3_readSum a0 a1 (a2 + (1 : Int32)) m7) fun r8 m9 =>
 if r8 = 0 then (
 some ((0 : Int32), m9))
 else (
 gd (okO m9 a1 9) (bd (F_X9_sign a1 (41 : Int32) m9) fun r10 m11 =>
 if r10 = 0 then (
 some ((0 : Int32), m11))
 else (
 some ((1 : Int32), m11)))))))
 else (
 gd (okO m5 a1 9) (
 gd (okO m5 a1 9) (bd (F_X9_fail a1 (3 : Int32) (rI m5 a1 3) m5) fun r12 m13 =>
 gd (decide (r12 = 0 ∨ r12 = 1)) (some (r12, m13))))))
 else (
 gd (okO m5 a0 3) (bd (f_X3_readWord a0 a1 a2 m5) fun r14 m15 =>
 gd (decide (r14 = 0 ∨ r14 = 1)) (some (r14, m15)))))
 else (
 gd (okO m5 a1 9) (bd (F_X9_number a1 (0 : Int32) (999 : Int32) m5) fun r16 m17 =>
 lt9 r16 fun x18 =>
 gd (okO m17 a1 9) (
 gd (okO m17 a0 3) (bd (F_X3_emit a0 (rI m17 a1 5) m17) fun r19 m20 =>
 gd (decide (x18 = 0 ∨ x18 = 1)) (some (x18, m20)))))))
def B_X3_readWord (f_X3_readSum : Nat → Nat → Int32 → Mm → Option (Int32 × Mm)) (f_X3_readUnit : Nat → Nat → Int32 → Mm → Option (Int32 × Mm)) (f_X3_readWord : Nat → Nat → Int32 → Mm → Option (Int32 × Mm)) (a0 : Nat) (a1 : Nat) (a2 : Int32) (m : Mm) : Option (Int32 × Mm) :=
 gd (okO m a1 9) (bd (F_X9_word a1 m) fun r1 m2 =>
 if r1 = 0 then (
 some ((0 : Int32), m2))
 else (
 bd (F_X3_kindOf a1 m2) fun r3 m4 =>
 lt9 r3 fun x5 =>
 if x5 = (-1 : Int32) then (
 gd (okO m4 a1 9) (
 gd (okO m4 a1 9) (bd (F_X9_fail a1 (1 : Int32) (rI m4 a1 4) m4) fun r22 m23 =>
 gd (decide (r22 = 0 ∨ r22 = 1)) (some (r22, m23)))))
 else (
 jn (fun (v0 : Nat) (v1 : Nat) (v2 : Int32) (v3 : Int32) (s0 : Int32) (m : Mm) =>
 lt9 s0 fun x6 =>
 jn (fun (v0 : Nat) (v1 : Nat) (v2 : Int32) (v3 : Int32) (v4 : Int32) (m : Mm) =>
 jn (fun (v0 : Nat) (v3 : Int32) (s0 : Int32) (m : Mm) =>
 lt9 s0 fun x7 =>
 gd (okO m v0 3) (bd (F_X3_emit v0 v3 m) fun r8 m9 =>
 gd (decide (x7 = 0 ∨ x7 = 1)) (some (x7, m9)))) fun J130 =>
 jn (fun (v0 : Nat) (v3 : Int32) (m : Mm) =>
 J130 v0 v3 (1 : Int32) m) fun J125 =>
 if v4 = 0 then (
 J125 v0 v3 m)
 else (
 gd (okO m v1 9) (bd (F_X9_sign v1 (91 : Int32) m) fun r10 m11 =>
 jn (fun (v0 : Nat) (v3 : Int32) (m : Mm) =>
 J130 v0 v3 (0 : Int32) m) fun J129 =>
 if r10 = 0 then (
 J129 v0 v3 m11)
 else (
 gd (okO m11 v0 3) (bd (f_X3_readSum v0 v1 (v2 + (1 : Int32)) m11) fun r12 m13 =>
 if r12 = 0 then (
 J129 v0 v3 m13)
 else (
 gd (okO m13 v1 9) (bd (F_X9_sign v1 (44 : Int32) m13) fun r14 m15 =>
 if r14 = 0 then (
 J129 v0 v3 m15)
 else (
 gd (okO m15 v0 3) (bd (f_X3_readSum v0 v1 (v2 + (1 : Int32)) m15) fun r16 m17 =>
 if r16 = 0 then (
 J129 v0 v3 m17)
 else (
 gd (okO m17 v1 9) (bd (F_X9_sign v1 (93 : Int32) m17) fun r18 m19 =>
 if r18 = 0 then (
 J129 v0 v3 m19)
 else (
 J125 v0 v3 m19)))))))))))) fun J71 =>
 if x6 = 0 then (
 J71 v0 v1 v2 v3 x6 m)
 else (
 if v2 < (6 : Int32) then (
 J71 v0 v1 v2 v3 x6 m)
 else (
 gd (okO m v1 9) (
 gd (okO m v1 9) (bd (F_X9_fail v1 (3 : Int32) (rI m v1 4) m) fun r20 m21 =>
 gd (decide (r20 = 0 ∨ r20 = 1)) (some (r20, m21))))))) fun J48 =>
 jn (fun (v0 : Nat) (v1 : Nat) (v2 : Int32) (v3 : Int32) (m : Mm) =>
 J48 v0 v1 v2 v3 (1 : Int32) m) fun J43 =>
 if x5 = (1004 : Int32) then (
 J43 a0 a1 a2 x5 m4)
 else (
 if x5 = (1005 : Int32) then (
 J43 a0 a1 a2 x5 m4)
 else (
 J48 a0 a1 a2 x5 (0 : Int32) m4)))))
def G_X3 : Nat → (Nat → Nat → Int32 → Mm → Option (Int32 × Mm)) × (Nat → Nat → Int32 → Mm → Option (Int32 × Mm)) × (Nat → Nat → Int32 → Mm → Option (Int32 × Mm))
 | 0 => (fun _ _ _ _ => none, fun _ _ _ _ => none, fun _ _ _ _ => none)
 | d + 1 => (B_X3_readSum (G_X3 d).1 (G_X3 d).2.1 (G_X3 d).2.2, B_X3_readUnit (G_X3 d).1 (G_X3 d).2.1 (G_X3 d).2.2, B_X3_readWord (G_X3 d).1 (G_X3 d).2.1 (G_X3 d).2.2)
def F_X3_readSum (d : Nat) (a0 : Nat) (a1 : Nat) (a2 : Int32) (m : Mm) : Option (Int32 × Mm) := (G_X3 d).1 a0 a1 a2 m
def F_X3_readUnit (d : Nat) (a0 : Nat) (a1 : Nat) (a2 : Int32) (m : Mm) : Option (Int32 × Mm) := (G_X3 d).2.1 a0 a1 a2 m
def F_X3_readWord (d : Nat) (a0 : Nat) (a1 : Nat) (a2 : Int32) (m : Mm) : Option (Int32 × Mm) := (G_X3 d).2.2 a0 a1 a2 m
set_option maxRecDepth 100000 in
set_option maxHeartbeats 4000000 in
theorem c_L_X3_readSum_13 {Z : Zx} {d : Nat} {f_X3_readSum : Nat → Nat → Int32 → Mm → Option (Int32 × Mm)} {f_X3_readUnit : Nat → Nat → Int32 → Mm → Option (Int32 × Mm)} {f_X3_readWord : Nat → Nat → Int32 → Mm → Option (Int32 × Mm)} (h_X3_readSum : ∀ (a0 : Nat) (a1 : Nat) (a2 : Int32) (m : Mm), Crt (zl Z) (zθ Z) yX3_readSum (M_X3_readSum d) cvI [.ref a0, .ref a1, .int a2] m (f_X3_readSum a0 a1 a2 m)) (h_X3_readUnit : ∀ (a0 : Nat) (a1 : Nat) (a2 : Int32) (m : Mm), Crt (zl Z) (zθ Z) yX3_readUnit (M_X3_readUnit d) cvI [.ref a0, .ref a1, .int a2] m (f_X3_readUnit a0 a1 a2 m)) (h_X3_readWord : ∀ (a0 : Nat) (a1 : Nat) (a2 : Int32) (m : Mm), Crt (zl Z) (zθ Z) yX3_readWord (M_X3_readWord d) cvI [.ref a0, .ref a1, .int a2] m (f_X3_readWord a0 a1 a2 m))   : ∀ (n : Nat) (v0 : Nat) (v1 : Nat) (v2 : Int32) (v3 : Int32) (v4 : Int32) (v5 : Int32) (m : Mm), GG Z (M_X3_readSum (d + 1)) (PsN Z cvI) 13 [some (.ref v0), some (.ref v1), some (.int v2), some (.int v3), some (.int v4), some (.int v5), none, none] [] m (L_X3_readSum_13 f_X3_readSum f_X3_readUnit f_X3_readWord n v0 v1 v2 v3 v4 v5 m) := by
  intro n
  induction n with
  | zero => intro v0 v1 v2 v3 v4 v5 m; exact g_no
  | succ n ih =>
    intro v0 v1 v2 v3 v4 v5 m
    unfold L_X3_readSum_13
    refine g_iload dX3_readSum_13 rfl ?_
    refine g_ifeq (tgt := 124) dX3_readSum_15 (by decide) ?_ ?_
    · refine g_iload dX3_readSum_124 rfl ?_
      exact g_zreturn rfl dX3_readSum_126
    · refine g_iload dX3_readSum_18 rfl ?_
      refine g_sipush (v := (150 : Int32)) dX3_readSum_20 ks_150 ?_
      refine g_icmpge (tgt := 124) dX3_readSum_23 (by decide) ?_ ?_
      · refine g_iload dX3_readSum_124 rfl ?_
        exact g_zreturn rfl dX3_readSum_126
      · refine g_aload_n (i := 1) dX3_readSum_26 rfl rfl ?_
        refine g_callVI cl_X9 (crt_X9_peek _ _ _ _) cw_X9_peek (decide_eq_true (show 0 + 1 ≤ 6 + (d + 1) ∧ 8 + (2 + 11) + 0 ≤ 127 + 27 * (d + 1) from by omega)) rfl q_861 q_744 q_745 rfl rfl dX3_readSum_27 ?_
        intro r6 m7
        refine g_callSI (crt_X3_joint _ _ _ _) cw_X3_joint (decide_eq_true (show 0 + 1 ≤ 6 + (d + 1) ∧ 8 + (1 + 11) + 0 ≤ 127 + 27 * (d + 1) from by omega)) rfl q_889 q_890 rfl rfl dX3_readSum_30 ?_
        intro r8 m9
        refine g_istore dX3_readSum_33 (show 6 < 8 by decide) ?_
        intro x10
        refine g_iload dX3_readSum_35 rfl ?_
        refine g_sipush (v := (1008 : Int32)) dX3_readSum_37 ks_1008 ?_
        refine g_jn (fun J64 => ∀ (v0 : Nat) (v1 : Nat) (v2 : Int32) (v3 : Int32) (v5 : Int32) (v6 : Int32) (s0 : Int32) (m : Mm), GG Z (M_X3_readSum (d + 1)) (PsN Z cvI) 64 [some (.ref v0), some (.ref v1), some (.int v2), some (.int v3), none, some (.int v5), some (.int v6), none] [.int s0] m (J64 v0 v1 v2 v3 v5 v6 s0 m)) ?_ ?_
        · intro v0 v1 v2 v3 v5 v6 s0 m
          refine g_istore dX3_readSum_64 (show 7 < 8 by decide) ?_
          intro x11
          refine g_iload dX3_readSum_66 rfl ?_
          refine g_jn (fun J81 => ∀ (v0 : Nat) (v1 : Nat) (v2 : Int32) (v3 : Int32) (v5 : Int32) (v6 : Int32) (v7 : Int32) (m : Mm), GG Z (M_X3_readSum (d + 1)) (PsN Z cvI) 81 [some (.ref v0), some (.ref v1), some (.int v2), some (.int v3), none, some (.int v5), some (.int v6), some (.int v7)] [] m (J81 v0 v1 v2 v3 v5 v6 v7 m)) ?_ ?_
          · intro v0 v1 v2 v3 v5 v6 v7 m
            refine g_iload dX3_readSum_81 rfl ?_
            refine g_iconst (v := (-1 : Int32)) dX3_readSum_83 ki_m1 ?_
            refine g_icmpne (tgt := 89) dX3_readSum_84 (by decide) ?_ ?_
            · refine g_aload_n (i := 1) dX3_readSum_89 rfl rfl ?_
              refine g_callVV cl_X9 (crt_X9_skip _ _ _ _) cw_X9_skip (decide_eq_true (show 0 + 1 ≤ 6 + (d + 1) ∧ 8 + (1 + 11) + 0 ≤ 127 + 27 * (d + 1) from by omega)) rfl q_885 q_886 q_887 rfl rfl dX3_readSum_90 ?_
              intro r12 m13
              refine g_aload_n (i := 0) dX3_readSum_93 rfl rfl ?_
              refine g_aload_n (i := 1) dX3_readSum_94 rfl rfl ?_
              refine g_iload_n (i := 2) dX3_readSum_95 rfl rfl ?_
              refine g_callVI cl_X3 (h_X3_readUnit _ _ _ _) (cw_X3_readUnit d) (decide_eq_true (show 6 + d + 1 ≤ 6 + (d + 1) ∧ 8 + (5 + 11) + (127 + 27 * d) ≤ 127 + 27 * (d + 1) from by omega)) rfl q_857 q_859 qs_17 rfl rfl dX3_readSum_96 ?_
              intro r14 m15
              refine g_istore dX3_readSum_99 (show 4 < 8 by decide) ?_
              intro x16
              refine g_iload dX3_readSum_101 rfl ?_
              refine g_jn (fun J118 => ∀ (v0 : Nat) (v1 : Nat) (v2 : Int32) (v3 : Int32) (v4 : Int32) (v5 : Int32) (m : Mm), GG Z (M_X3_readSum (d + 1)) (PsN Z cvI) 118 [some (.ref v0), some (.ref v1), some (.int v2), some (.int v3), some (.int v4), some (.int v5), none, none] [] m (J118 v0 v1 v2 v3 v4 v5 m)) ?_ ?_
              · intro v0 v1 v2 v3 v4 v5 m
                refine g_iinc dX3_readSum_118 rfl ki_1 (show 5 < 8 by decide) ?_
                intro x17
                refine g_goto (tgt := 13) dX3_readSum_121 (by decide) ?_
                exact g_msk [true, true, true, true, true, true, false, false] (ih _ _ _ _ _ _ _)
              · intro J118 hJ118
                refine g_ifeq (tgt := 115) dX3_readSum_103 (by decide) ?_ ?_
                · refine g_iload dX3_readSum_115 rfl ?_
                  refine g_istore_n (i := 3) dX3_readSum_117 rfl (show 3 < 8 by decide) ?_
                  intro x18
                  exact g_msk [true, true, true, true, true, true, false, false] (hJ118 _ _ _ _ _ _ _)
                · refine g_aload_n (i := 0) dX3_readSum_106 rfl rfl ?_
                  refine g_iload dX3_readSum_107 rfl ?_
                  refine g_callVV cl_X3 (crt_X3_emit _ _ _ _ _) cw_X3_emit (decide_eq_true (show 0 + 1 ≤ 6 + (d + 1) ∧ 8 + (2 + 11) + 0 ≤ 127 + 27 * (d + 1) from by omega)) rfl q_864 q_866 qs_18 rfl rfl dX3_readSum_109 ?_
                  intro r19 m20
                  refine g_goto (tgt := 118) dX3_readSum_112 (by decide) ?_
                  exact g_msk [true, true, true, true, true, true, false, false] (hJ118 _ _ _ _ _ _ _)
            · refine g_iconst (v := (1 : Int32)) dX3_readSum_87 ki_1 ?_
              exact g_zreturnK rfl (by decide) dX3_readSum_88
          · intro J81 hJ81
            refine g_ifne (tgt := 81) dX3_readSum_68 (by decide) ?_ ?_
            · exact g_msk [true, true, true, true, false, true, true, true] (hJ81 _ _ _ _ _ _ _ _)
            · refine g_iload_n (i := 3) dX3_readSum_71 rfl rfl ?_
              refine g_iconst (v := (-1 : Int32)) dX3_readSum_72 ki_m1 ?_
              refine g_icmpeq (tgt := 81) dX3_readSum_73 (by decide) ?_ ?_
              · exact g_msk [true, true, true, true, false, true, true, true] (hJ81 _ _ _ _ _ _ _ _)
              · refine g_aload_n (i := 0) dX3_readSum_76 rfl rfl ?_
                refine g_iload_n (i := 3) dX3_readSum_77 rfl rfl ?_
                refine g_callVV cl_X3 (crt_X3_emit _ _ _ _ _) cw_X3_emit (decide_eq_true (show 0 + 1 ≤ 6 + (d + 1) ∧ 8 + (2 + 11) + 0 ≤ 127 + 27 * (d + 1) from by omega)) rfl q_864 q_866 qs_18 rfl rfl dX3_readSum_78 ?_
                intro r21 m22
                exact g_msk [true, true, true, true, false, true, true, true] (hJ81 _ _ _ _ _ _ _ _)
        · intro J64 hJ64
          refine g_jn (fun J59 => ∀ (v0 : Nat) (v1 : Nat) (v2 : Int32) (v3 : Int32) (v5 : Int32) (v6 : Int32) (m : Mm), GG Z (M_X3_readSum (d + 1)) (PsN Z cvI) 59 [some (.ref v0), some (.ref v1), some (.int v2), some (.int v3), none, some (.int v5), some (.int v6), none] [] m (J59 v0 v1 v2 v3 v5 v6 m)) ?_ ?_
          · intro v0 v1 v2 v3 v5 v6 m
            refine g_iconst (v := (1 : Int32)) dX3_readSum_59 ki_1 ?_
            refine g_goto (tgt := 64) dX3_readSum_60 (by decide) ?_
            exact g_msk [true, true, true, true, false, true, true, false] (hJ64 _ _ _ _ _ _ _ _)
          · intro J59 hJ59
            refine g_icmpeq (tgt := 59) dX3_readSum_40 (by decide) ?_ ?_
            · exact g_msk [true, true, true, true, false, true, true, false] (hJ59 _ _ _ _ _ _ _)
            · refine g_iload dX3_readSum_43 rfl ?_
              refine g_sipush (v := (1009 : Int32)) dX3_readSum_45 ks_1009 ?_
              refine g_icmpeq (tgt := 59) dX3_readSum_48 (by decide) ?_ ?_
              · exact g_msk [true, true, true, true, false, true, true, false] (hJ59 _ _ _ _ _ _ _)
              · refine g_iload dX3_readSum_51 rfl ?_
                refine g_sipush (v := (1010 : Int32)) dX3_readSum_53 ks_1010 ?_
                refine g_icmpne (tgt := 63) dX3_readSum_56 (by decide) ?_ ?_
                · refine g_iconst (v := (0 : Int32)) dX3_readSum_63 ki_0 ?_
                  exact g_msk [true, true, true, true, false, true, true, false] (hJ64 _ _ _ _ _ _ _ _)
                · exact g_msk [true, true, true, true, false, true, true, false] (hJ59 _ _ _ _ _ _ _)
set_option maxRecDepth 100000 in
set_option maxHeartbeats 4000000 in
theorem crtB_X3_readSum (l : Launch) (θ : Th) (d : Nat) (f_X3_readSum : Nat → Nat → Int32 → Mm → Option (Int32 × Mm)) (f_X3_readUnit : Nat → Nat → Int32 → Mm → Option (Int32 × Mm)) (f_X3_readWord : Nat → Nat → Int32 → Mm → Option (Int32 × Mm)) (h_X3_readSum : ∀ (a0 : Nat) (a1 : Nat) (a2 : Int32) (m : Mm), Crt l θ yX3_readSum (M_X3_readSum d) cvI [.ref a0, .ref a1, .int a2] m (f_X3_readSum a0 a1 a2 m)) (h_X3_readUnit : ∀ (a0 : Nat) (a1 : Nat) (a2 : Int32) (m : Mm), Crt l θ yX3_readUnit (M_X3_readUnit d) cvI [.ref a0, .ref a1, .int a2] m (f_X3_readUnit a0 a1 a2 m)) (h_X3_readWord : ∀ (a0 : Nat) (a1 : Nat) (a2 : Int32) (m : Mm), Crt l θ yX3_readWord (M_X3_readWord d) cvI [.ref a0, .ref a1, .int a2] m (f_X3_readWord a0 a1 a2 m)) (a0 : Nat) (a1 : Nat) (a2 : Int32) (m : Mm) : Crt l θ yX3_readSum (M_X3_readSum (d + 1)) cvI [.ref a0, .ref a1, .int a2] m (B_X3_readSum f_X3_readSum f_X3_readUnit f_X3_readWord a0 a1 a2 m) := by
  refine crt_of3 5 (by decide) rfl rfl (Nat.le_of_ble_eq_true rfl) (fun Z hμ hl hθ => ?_)
  subst hl
  subst hθ
  unfold B_X3_readSum
  show GG Z _ _ 0 [some (.ref a0), some (.ref a1), some (.int a2), none, none, none, none, none] [] m _
  refine g_iconst (v := (-1 : Int32)) dX3_readSum_0 ki_m1 ?_
  refine g_istore_n (i := 3) dX3_readSum_1 rfl (show 3 < 8 by decide) ?_
  intro x1
  refine g_aload_n (i := 0) dX3_readSum_2 rfl rfl ?_
  refine g_aload_n (i := 1) dX3_readSum_3 rfl rfl ?_
  refine g_iload_n (i := 2) dX3_readSum_4 rfl rfl ?_
  refine g_callVI cl_X3 (h_X3_readUnit _ _ _ _) (cw_X3_readUnit d) (decide_eq_true (show 6 + d + 1 ≤ 6 + (d + 1) ∧ 8 + (5 + 11) + (127 + 27 * d) ≤ 127 + 27 * (d + 1) from by omega)) rfl q_857 q_859 qs_17 rfl rfl dX3_readSum_5 ?_
  intro r2 m3
  refine g_istore dX3_readSum_8 (show 4 < 8 by decide) ?_
  intro x4
  refine g_iconst (v := (0 : Int32)) dX3_readSum_10 ki_0 ?_
  refine g_istore dX3_readSum_11 (show 5 < 8 by decide) ?_
  intro x5
  exact g_msk [true, true, true, true, true, true, false, false] (c_L_X3_readSum_13 h_X3_readSum h_X3_readUnit h_X3_readWord NF _ _ _ _ _ _ _)
set_option maxRecDepth 100000 in
set_option maxHeartbeats 4000000 in
theorem crtB_X3_readUnit (l : Launch) (θ : Th) (d : Nat) (f_X3_readSum : Nat → Nat → Int32 → Mm → Option (Int32 × Mm)) (f_X3_readUnit : Nat → Nat → Int32 → Mm → Option (Int32 × Mm)) (f_X3_readWord : Nat → Nat → Int32 → Mm → Option (Int32 × Mm)) (h_X3_readSum : ∀ (a0 : Nat) (a1 : Nat) (a2 : Int32) (m : Mm), Crt l θ yX3_readSum (M_X3_readSum d) cvI [.ref a0, .ref a1, .int a2] m (f_X3_readSum a0 a1 a2 m)) (h_X3_readUnit : ∀ (a0 : Nat) (a1 : Nat) (a2 : Int32) (m : Mm), Crt l θ yX3_readUnit (M_X3_readUnit d) cvI [.ref a0, .ref a1, .int a2] m (f_X3_readUnit a0 a1 a2 m)) (h_X3_readWord : ∀ (a0 : Nat) (a1 : Nat) (a2 : Int32) (m : Mm), Crt l θ yX3_readWord (M_X3_readWord d) cvI [.ref a0, .ref a1, .int a2] m (f_X3_readWord a0 a1 a2 m)) (a0 : Nat) (a1 : Nat) (a2 : Int32) (m : Mm) : Crt l θ yX3_readUnit (M_X3_readUnit (d + 1)) cvI [.ref a0, .ref a1, .int a2] m (B_X3_readUnit f_X3_readSum f_X3_readUnit f_X3_readWord a0 a1 a2 m) := by
  refine crt_of3 2 (by decide) rfl rfl (Nat.le_of_ble_eq_true rfl) (fun Z hμ hl hθ => ?_)
  subst hl
  subst hθ
  unfold B_X3_readUnit
  show GG Z _ _ 0 [some (.ref a0), some (.ref a1), some (.int a2), none, none] [] m _
  refine g_aload_n (i := 1) dX3_readUnit_0 rfl rfl ?_
  refine g_callVI cl_X9 (crt_X9_peek _ _ _ _) cw_X9_peek (decide_eq_true (show 0 + 1 ≤ 6 + (d + 1) ∧ 8 + (2 + 11) + 0 ≤ 127 + 27 * (d + 1) from by omega)) rfl q_861 q_744 q_745 rfl rfl dX3_readUnit_1 ?_
  intro r1 m2
  refine g_istore_n (i := 3) dX3_readUnit_4 rfl (show 3 < 5 by decide) ?_
  intro x3
  refine g_iload_n (i := 3) dX3_readUnit_5 rfl rfl ?_
  refine g_callSI (crt_X9_isDigit _ _ _ _) cw_X9_isDigit (decide_eq_true (show 0 + 1 ≤ 6 + (d + 1) ∧ 8 + (1 + 11) + 0 ≤ 127 + 27 * (d + 1) from by omega)) rfl q_862 q_825 rfl rfl dX3_readUnit_6 ?_
  intro r4 m5
  refine g_ifeq (tgt := 33) dX3_readUnit_9 (by decide) ?_ ?_
  · refine g_iload_n (i := 3) dX3_readUnit_33 rfl rfl ?_
    refine g_bipush (v := (40 : Int32)) dX3_readUnit_34 kb_40 ?_
    refine g_icmpeq (tgt := 46) dX3_readUnit_36 (by decide) ?_ ?_
    · refine g_iload_n (i := 2) dX3_readUnit_46 rfl rfl ?_
      refine g_bipush (v := (6 : Int32)) dX3_readUnit_47 kb_6 ?_
      refine g_icmplt (tgt := 62) dX3_readUnit_49 (by decide) ?_ ?_
      · refine g_aload_n (i := 1) dX3_readUnit_62 rfl rfl ?_
        refine g_callVV cl_X9 (crt_X9_skip _ _ _ _) cw_X9_skip (decide_eq_true (show 0 + 1 ≤ 6 + (d + 1) ∧ 8 + (1 + 11) + 0 ≤ 127 + 27 * (d + 1) from by omega)) rfl q_885 q_886 q_887 rfl rfl dX3_readUnit_63 ?_
        intro r6 m7
        refine g_aload_n (i := 0) dX3_readUnit_66 rfl rfl ?_
        refine g_aload_n (i := 1) dX3_readUnit_67 rfl rfl ?_
        refine g_iload_n (i := 2) dX3_readUnit_68 rfl rfl ?_
        refine g_iconst (v := (1 : Int32)) dX3_readUnit_69 ki_1 ?_
        refine g_iadd dX3_readUnit_70 ?_
        refine g_callVI cl_X3 (h_X3_readSum _ _ _ _) (cw_X3_readSum d) (decide_eq_true (show 6 + d + 1 ≤ 6 + (d + 1) ∧ 8 + (8 + 11) + (127 + 27 * d) ≤ 127 + 27 * (d + 1) from by omega)) rfl q_853 q_855 qs_16 rfl rfl dX3_readUnit_71 ?_
        intro r8 m9
        refine g_ifeq (tgt := 90) dX3_readUnit_74 (by decide) ?_ ?_
        · refine g_iconst (v := (0 : Int32)) dX3_readUnit_90 ki_0 ?_
          exact g_zreturnK rfl (by decide) dX3_readUnit_91
        · refine g_aload_n (i := 1) dX3_readUnit_77 rfl rfl ?_
          refine g_bipush (v := (41 : Int32)) dX3_readUnit_78 kb_41 ?_
          refine g_callVI cl_X9 (crt_X9_sign _ _ _ _ _) cw_X9_sign (decide_eq_true (show 1 + 1 ≤ 6 + (d + 1) ∧ 8 + (2 + 11) + 22 ≤ 127 + 27 * (d + 1) from by omega)) rfl q_884 q_830 q_831 rfl rfl dX3_readUnit_80 ?_
          intro r10 m11
          refine g_ifeq (tgt := 90) dX3_readUnit_83 (by decide) ?_ ?_
          · refine g_iconst (v := (0 : Int32)) dX3_readUnit_90 ki_0 ?_
            exact g_zreturnK rfl (by decide) dX3_readUnit_91
          · refine g_iconst (v := (1 : Int32)) dX3_readUnit_86 ki_1 ?_
            refine g_goto (tgt := 91) dX3_readUnit_87 (by decide) ?_
            exact g_zreturnK rfl (by decide) dX3_readUnit_91
      · refine g_aload_n (i := 1) dX3_readUnit_52 rfl rfl ?_
        refine g_iconst (v := (3 : Int32)) dX3_readUnit_53 ki_3 ?_
        refine g_aload_n (i := 1) dX3_readUnit_54 rfl rfl ?_
        refine g_getIN (k := 3) cl_X9 (by decide) rfl q_47 dX3_readUnit_55 ?_
        refine g_callVI cl_X9 (crt_X9_fail _ _ _ _ _ _) cw_X9_fail (decide_eq_true (show 0 + 1 ≤ 6 + (d + 1) ∧ 8 + (3 + 11) + 0 ≤ 127 + 27 * (d + 1) from by omega)) rfl q_883 q_755 q_756 rfl rfl dX3_readUnit_58 ?_
        intro r12 m13
        exact g_zreturn rfl dX3_readUnit_61
    · refine g_aload_n (i := 0) dX3_readUnit_39 rfl rfl ?_
      refine g_aload_n (i := 1) dX3_readUnit_40 rfl rfl ?_
      refine g_iload_n (i := 2) dX3_readUnit_41 rfl rfl ?_
      refine g_callVI cl_X3 (h_X3_readWord _ _ _ _) (cw_X3_readWord d) (decide_eq_true (show 6 + d + 1 ≤ 6 + (d + 1) ∧ 8 + (6 + 11) + (127 + 27 * d) ≤ 127 + 27 * (d + 1) from by omega)) rfl q_868 q_870 qs_19 rfl rfl dX3_readUnit_42 ?_
      intro r14 m15
      exact g_zreturn rfl dX3_readUnit_45
  · refine g_aload_n (i := 1) dX3_readUnit_12 rfl rfl ?_
    refine g_iconst (v := (0 : Int32)) dX3_readUnit_13 ki_0 ?_
    refine g_sipush (v := (999 : Int32)) dX3_readUnit_14 ks_999 ?_
    refine g_callVI cl_X9 (crt_X9_number _ _ _ _ _ _) cw_X9_number (decide_eq_true (show 1 + 1 ≤ 6 + (d + 1) ∧ 8 + (4 + 11) + 22 ≤ 127 + 27 * (d + 1) from by omega)) rfl q_863 q_821 q_822 rfl rfl dX3_readUnit_17 ?_
    intro r16 m17
    refine g_istore dX3_readUnit_20 (show 4 < 5 by decide) ?_
    intro x18
    refine g_aload_n (i := 0) dX3_readUnit_22 rfl rfl ?_
    refine g_aload_n (i := 1) dX3_readUnit_23 rfl rfl ?_
    refine g_getIN (k := 5) cl_X9 (by decide) rfl q_57 dX3_readUnit_24 ?_
    refine g_callVV cl_X3 (crt_X3_emit _ _ _ _ _) cw_X3_emit (decide_eq_true (show 0 + 1 ≤ 6 + (d + 1) ∧ 8 + (2 + 11) + 0 ≤ 127 + 27 * (d + 1) from by omega)) rfl q_864 q_866 qs_18 rfl rfl dX3_readUnit_27 ?_
    intro r19 m20
    refine g_iload dX3_readUnit_30 rfl ?_
    exact g_zreturn rfl dX3_readUnit_32
set_option maxRecDepth 100000 in
set_option maxHeartbeats 4000000 in
theorem crtB_X3_readWord (l : Launch) (θ : Th) (d : Nat) (f_X3_readSum : Nat → Nat → Int32 → Mm → Option (Int32 × Mm)) (f_X3_readUnit : Nat → Nat → Int32 → Mm → Option (Int32 × Mm)) (f_X3_readWord : Nat → Nat → Int32 → Mm → Option (Int32 × Mm)) (h_X3_readSum : ∀ (a0 : Nat) (a1 : Nat) (a2 : Int32) (m : Mm), Crt l θ yX3_readSum (M_X3_readSum d) cvI [.ref a0, .ref a1, .int a2] m (f_X3_readSum a0 a1 a2 m)) (h_X3_readUnit : ∀ (a0 : Nat) (a1 : Nat) (a2 : Int32) (m : Mm), Crt l θ yX3_readUnit (M_X3_readUnit d) cvI [.ref a0, .ref a1, .int a2] m (f_X3_readUnit a0 a1 a2 m)) (h_X3_readWord : ∀ (a0 : Nat) (a1 : Nat) (a2 : Int32) (m : Mm), Crt l θ yX3_readWord (M_X3_readWord d) cvI [.ref a0, .ref a1, .int a2] m (f_X3_readWord a0 a1 a2 m)) (a0 : Nat) (a1 : Nat) (a2 : Int32) (m : Mm) : Crt l θ yX3_readWord (M_X3_readWord (d + 1)) cvI [.ref a0, .ref a1, .int a2] m (B_X3_readWord f_X3_readSum f_X3_readUnit f_X3_readWord a0 a1 a2 m) := by
  refine crt_of3 3 (by decide) rfl rfl (Nat.le_of_ble_eq_true rfl) (fun Z hμ hl hθ => ?_)
  subst hl
  subst hθ
  unfold B_X3_readWord
  show GG Z _ _ 0 [some (.ref a0), some (.ref a1), some (.int a2), none, none, none] [] m _
  refine g_aload_n (i := 1) dX3_readWord_0 rfl rfl ?_
  refine g_callVI cl_X9 (crt_X9_word _ _ _ _) cw_X9_word (decide_eq_true (show 1 + 1 ≤ 6 + (d + 1) ∧ 8 + (2 + 11) + 22 ≤ 127 + 27 * (d + 1) from by omega)) rfl q_872 q_748 q_749 rfl rfl dX3_readWord_1 ?_
  intro r1 m2
  refine g_ifne (tgt := 9) dX3_readWord_4 (by decide) ?_ ?_
  · refine g_aload_n (i := 1) dX3_readWord_9 rfl rfl ?_
    refine g_callSI (crt_X3_kindOf _ _ _ _) cw_X3_kindOf (decide_eq_true (show 5 + 1 ≤ 6 + (d + 1) ∧ 8 + (1 + 11) + 107 ≤ 127 + 27 * (d + 1) from by omega)) rfl q_873 q_874 rfl rfl dX3_readWord_10 ?_
    intro r3 m4
    refine g_istore_n (i := 3) dX3_readWord_13 rfl (show 3 < 6 by decide) ?_
    intro x5
    refine g_iload_n (i := 3) dX3_readWord_14 rfl rfl ?_
    refine g_iconst (v := (-1 : Int32)) dX3_readWord_15 ki_m1 ?_
    refine g_icmpne (tgt := 29) dX3_readWord_16 (by decide) ?_ ?_
    · refine g_iload_n (i := 3) dX3_readWord_29 rfl rfl ?_
      refine g_sipush (v := (1004 : Int32)) dX3_readWord_30 ks_1004 ?_
      refine g_jn (fun J48 => ∀ (v0 : Nat) (v1 : Nat) (v2 : Int32) (v3 : Int32) (s0 : Int32) (m : Mm), GG Z (M_X3_readWord (d + 1)) (PsN Z cvI) 48 [some (.ref v0), some (.ref v1), some (.int v2), some (.int v3), none, none] [.int s0] m (J48 v0 v1 v2 v3 s0 m)) ?_ ?_
      · intro v0 v1 v2 v3 s0 m
        refine g_istore dX3_readWord_48 (show 4 < 6 by decide) ?_
        intro x6
        refine g_iload dX3_readWord_50 rfl ?_
        refine g_jn (fun J71 => ∀ (v0 : Nat) (v1 : Nat) (v2 : Int32) (v3 : Int32) (v4 : Int32) (m : Mm), GG Z (M_X3_readWord (d + 1)) (PsN Z cvI) 71 [some (.ref v0), some (.ref v1), some (.int v2), some (.int v3), some (.int v4), none] [] m (J71 v0 v1 v2 v3 v4 m)) ?_ ?_
        · intro v0 v1 v2 v3 v4 m
          refine g_iload dX3_readWord_71 rfl ?_
          refine g_jn (fun J130 => ∀ (v0 : Nat) (v3 : Int32) (s0 : Int32) (m : Mm), GG Z (M_X3_readWord (d + 1)) (PsN Z cvI) 130 [some (.ref v0), none, none, some (.int v3), none, none] [.int s0] m (J130 v0 v3 s0 m)) ?_ ?_
          · intro v0 v3 s0 m
            refine g_istore dX3_readWord_130 (show 5 < 6 by decide) ?_
            intro x7
            refine g_aload_n (i := 0) dX3_readWord_132 rfl rfl ?_
            refine g_iload_n (i := 3) dX3_readWord_133 rfl rfl ?_
            refine g_callVV cl_X3 (crt_X3_emit _ _ _ _ _) cw_X3_emit (decide_eq_true (show 0 + 1 ≤ 6 + (d + 1) ∧ 8 + (2 + 11) + 0 ≤ 127 + 27 * (d + 1) from by omega)) rfl q_864 q_866 qs_18 rfl rfl dX3_readWord_134 ?_
            intro r8 m9
            refine g_iload dX3_readWord_137 rfl ?_
            exact g_zreturn rfl dX3_readWord_139
          · intro J130 hJ130
            refine g_jn (fun J125 => ∀ (v0 : Nat) (v3 : Int32) (m : Mm), GG Z (M_X3_readWord (d + 1)) (PsN Z cvI) 125 [some (.ref v0), none, none, some (.int v3), none, none] [] m (J125 v0 v3 m)) ?_ ?_
            · intro v0 v3 m
              refine g_iconst (v := (1 : Int32)) dX3_readWord_125 ki_1 ?_
              refine g_goto (tgt := 130) dX3_readWord_126 (by decide) ?_
              exact g_msk [true, false, false, true, false, false] (hJ130 _ _ _ _)
            · intro J125 hJ125
              refine g_ifeq (tgt := 125) dX3_readWord_73 (by decide) ?_ ?_
              · exact g_msk [true, false, false, true, false, false] (hJ125 _ _ _)
              · refine g_aload_n (i := 1) dX3_readWord_76 rfl rfl ?_
                refine g_bipush (v := (91 : Int32)) dX3_readWord_77 kb_91 ?_
                refine g_callVI cl_X9 (crt_X9_sign _ _ _ _ _) cw_X9_sign (decide_eq_true (show 1 + 1 ≤ 6 + (d + 1) ∧ 8 + (2 + 11) + 22 ≤ 127 + 27 * (d + 1) from by omega)) rfl q_884 q_830 q_831 rfl rfl dX3_readWord_79 ?_
                intro r10 m11
                refine g_jn (fun J129 => ∀ (v0 : Nat) (v3 : Int32) (m : Mm), GG Z (M_X3_readWord (d + 1)) (PsN Z cvI) 129 [some (.ref v0), none, none, some (.int v3), none, none] [] m (J129 v0 v3 m)) ?_ ?_
                · intro v0 v3 m
                  refine g_iconst (v := (0 : Int32)) dX3_readWord_129 ki_0 ?_
                  exact g_msk [true, false, false, true, false, false] (hJ130 _ _ _ _)
                · intro J129 hJ129
                  refine g_ifeq (tgt := 129) dX3_readWord_82 (by decide) ?_ ?_
                  · exact g_msk [true, false, false, true, false, false] (hJ129 _ _ _)
                  · refine g_aload_n (i := 0) dX3_readWord_85 rfl rfl ?_
                    refine g_aload_n (i := 1) dX3_readWord_86 rfl rfl ?_
                    refine g_iload_n (i := 2) dX3_readWord_87 rfl rfl ?_
                    refine g_iconst (v := (1 : Int32)) dX3_readWord_88 ki_1 ?_
                    refine g_iadd dX3_readWord_89 ?_
                    refine g_callVI cl_X3 (h_X3_readSum _ _ _ _) (cw_X3_readSum d) (decide_eq_true (show 6 + d + 1 ≤ 6 + (d + 1) ∧ 8 + (8 + 11) + (127 + 27 * d) ≤ 127 + 27 * (d + 1) from by omega)) rfl q_853 q_855 qs_16 rfl rfl dX3_readWord_90 ?_
                    intro r12 m13
                    refine g_ifeq (tgt := 129) dX3_readWord_93 (by decide) ?_ ?_
                    · exact g_msk [true, false, false, true, false, false] (hJ129 _ _ _)
                    · refine g_aload_n (i := 1) dX3_readWord_96 rfl rfl ?_
                      refine g_bipush (v := (44 : Int32)) dX3_readWord_97 kb_44 ?_
                      refine g_callVI cl_X9 (crt_X9_sign _ _ _ _ _) cw_X9_sign (decide_eq_true (show 1 + 1 ≤ 6 + (d + 1) ∧ 8 + (2 + 11) + 22 ≤ 127 + 27 * (d + 1) from by omega)) rfl q_884 q_830 q_831 rfl rfl dX3_readWord_99 ?_
                      intro r14 m15
                      refine g_ifeq (tgt := 129) dX3_readWord_102 (by decide) ?_ ?_
                      · exact g_msk [true, false, false, true, false, false] (hJ129 _ _ _)
                      · refine g_aload_n (i := 0) dX3_readWord_105 rfl rfl ?_
                        refine g_aload_n (i := 1) dX3_readWord_106 rfl rfl ?_
                        refine g_iload_n (i := 2) dX3_readWord_107 rfl rfl ?_
                        refine g_iconst (v := (1 : Int32)) dX3_readWord_108 ki_1 ?_
                        refine g_iadd dX3_readWord_109 ?_
                        refine g_callVI cl_X3 (h_X3_readSum _ _ _ _) (cw_X3_readSum d) (decide_eq_true (show 6 + d + 1 ≤ 6 + (d + 1) ∧ 8 + (8 + 11) + (127 + 27 * d) ≤ 127 + 27 * (d + 1) from by omega)) rfl q_853 q_855 qs_16 rfl rfl dX3_readWord_110 ?_
                        intro r16 m17
                        refine g_ifeq (tgt := 129) dX3_readWord_113 (by decide) ?_ ?_
                        · exact g_msk [true, false, false, true, false, false] (hJ129 _ _ _)
                        · refine g_aload_n (i := 1) dX3_readWord_116 rfl rfl ?_
                          refine g_bipush (v := (93 : Int32)) dX3_readWord_117 kb_93 ?_
                          refine g_callVI cl_X9 (crt_X9_sign _ _ _ _ _) cw_X9_sign (decide_eq_true (show 1 + 1 ≤ 6 + (d + 1) ∧ 8 + (2 + 11) + 22 ≤ 127 + 27 * (d + 1) from by omega)) rfl q_884 q_830 q_831 rfl rfl dX3_readWord_119 ?_
                          intro r18 m19
                          refine g_ifeq (tgt := 129) dX3_readWord_122 (by decide) ?_ ?_
                          · exact g_msk [true, false, false, true, false, false] (hJ129 _ _ _)
                          · exact g_msk [true, false, false, true, false, false] (hJ125 _ _ _)
        · intro J71 hJ71
          refine g_ifeq (tgt := 71) dX3_readWord_52 (by decide) ?_ ?_
          · exact g_msk [true, true, true, true, true, false] (hJ71 _ _ _ _ _ _)
          · refine g_iload_n (i := 2) dX3_readWord_55 rfl rfl ?_
            refine g_bipush (v := (6 : Int32)) dX3_readWord_56 kb_6 ?_
            refine g_icmplt (tgt := 71) dX3_readWord_58 (by decide) ?_ ?_
            · exact g_msk [true, true, true, true, true, false] (hJ71 _ _ _ _ _ _)
            · refine g_aload_n (i := 1) dX3_readWord_61 rfl rfl ?_
              refine g_iconst (v := (3 : Int32)) dX3_readWord_62 ki_3 ?_
              refine g_aload_n (i := 1) dX3_readWord_63 rfl rfl ?_
              refine g_getIN (k := 4) cl_X9 (by decide) rfl q_52 dX3_readWord_64 ?_
              refine g_callVI cl_X9 (crt_X9_fail _ _ _ _ _ _) cw_X9_fail (decide_eq_true (show 0 + 1 ≤ 6 + (d + 1) ∧ 8 + (3 + 11) + 0 ≤ 127 + 27 * (d + 1) from by omega)) rfl q_883 q_755 q_756 rfl rfl dX3_readWord_67 ?_
              intro r20 m21
              exact g_zreturn rfl dX3_readWord_70
      · intro J48 hJ48
        refine g_jn (fun J43 => ∀ (v0 : Nat) (v1 : Nat) (v2 : Int32) (v3 : Int32) (m : Mm), GG Z (M_X3_readWord (d + 1)) (PsN Z cvI) 43 [some (.ref v0), some (.ref v1), some (.int v2), some (.int v3), none, none] [] m (J43 v0 v1 v2 v3 m)) ?_ ?_
        · intro v0 v1 v2 v3 m
          refine g_iconst (v := (1 : Int32)) dX3_readWord_43 ki_1 ?_
          refine g_goto (tgt := 48) dX3_readWord_44 (by decide) ?_
          exact g_msk [true, true, true, true, false, false] (hJ48 _ _ _ _ _ _)
        · intro J43 hJ43
          refine g_icmpeq (tgt := 43) dX3_readWord_33 (by decide) ?_ ?_
          · exact g_msk [true, true, true, true, false, false] (hJ43 _ _ _ _ _)
          · refine g_iload_n (i := 3) dX3_readWord_36 rfl rfl ?_
            refine g_sipush (v := (1005 : Int32)) dX3_readWord_37 ks_1005 ?_
            refine g_icmpne (tgt := 47) dX3_readWord_40 (by decide) ?_ ?_
            · refine g_iconst (v := (0 : Int32)) dX3_readWord_47 ki_0 ?_
              exact g_msk [true, true, true, true, false, false] (hJ48 _ _ _ _ _ _)
            · exact g_msk [true, true, true, true, false, false] (hJ43 _ _ _ _ _)
    · refine g_aload_n (i := 1) dX3_readWord_19 rfl rfl ?_
      refine g_iconst (v := (1 : Int32)) dX3_readWord_20 ki_1 ?_
      refine g_aload_n (i := 1) dX3_readWord_21 rfl rfl ?_
      refine g_getIN (k := 4) cl_X9 (by decide) rfl q_52 dX3_readWord_22 ?_
      refine g_callVI cl_X9 (crt_X9_fail _ _ _ _ _ _) cw_X9_fail (decide_eq_true (show 0 + 1 ≤ 6 + (d + 1) ∧ 8 + (3 + 11) + 0 ≤ 127 + 27 * (d + 1) from by omega)) rfl q_883 q_755 q_756 rfl rfl dX3_readWord_25 ?_
      intro r22 m23
      exact g_zreturn rfl dX3_readWord_28
  · refine g_iconst (v := (0 : Int32)) dX3_readWord_7 ki_0 ?_
    exact g_zreturnK rfl (by decide) dX3_readWord_8
set_option maxRecDepth 100000 in
set_option maxHeartbeats 4000000 in
theorem crtG_X3 (l : Launch) (θ : Th) : ∀ d : Nat, (∀ (a0 : Nat) (a1 : Nat) (a2 : Int32) (m : Mm), Crt l θ yX3_readSum (M_X3_readSum d) cvI [.ref a0, .ref a1, .int a2] m ((G_X3 d).1 a0 a1 a2 m)) ∧ (∀ (a0 : Nat) (a1 : Nat) (a2 : Int32) (m : Mm), Crt l θ yX3_readUnit (M_X3_readUnit d) cvI [.ref a0, .ref a1, .int a2] m ((G_X3 d).2.1 a0 a1 a2 m)) ∧ (∀ (a0 : Nat) (a1 : Nat) (a2 : Int32) (m : Mm), Crt l θ yX3_readWord (M_X3_readWord d) cvI [.ref a0, .ref a1, .int a2] m ((G_X3 d).2.2 a0 a1 a2 m)) := by
  intro d
  induction d with
  | zero => exact ⟨fun a0 a1 a2 m => crt_no, fun a0 a1 a2 m => crt_no, fun a0 a1 a2 m => crt_no⟩
  | succ d ih => exact ⟨fun a0 a1 a2 m => crtB_X3_readSum l θ d _ _ _ ih.1 ih.2.1 ih.2.2 a0 a1 a2 m, fun a0 a1 a2 m => crtB_X3_readUnit l θ d _ _ _ ih.1 ih.2.1 ih.2.2 a0 a1 a2 m, fun a0 a1 a2 m => crtB_X3_readWord l θ d _ _ _ ih.1 ih.2.1 ih.2.2 a0 a1 a2 m⟩
theorem crt_X3_readSum (l : Launch) (θ : Th) (d : Nat) (a0 : Nat) (a1 : Nat) (a2 : Int32) (m : Mm) : Crt l θ yX3_readSum (M_X3_readSum d) cvI [.ref a0, .ref a1, .int a2] m (F_X3_readSum d a0 a1 a2 m) := (crtG_X3 l θ d).1 a0 a1 a2 m
theorem crt_X3_readUnit (l : Launch) (θ : Th) (d : Nat) (a0 : Nat) (a1 : Nat) (a2 : Int32) (m : Mm) : Crt l θ yX3_readUnit (M_X3_readUnit d) cvI [.ref a0, .ref a1, .int a2] m (F_X3_readUnit d a0 a1 a2 m) := (crtG_X3 l θ d).2.1 a0 a1 a2 m
theorem crt_X3_readWord (l : Launch) (θ : Th) (d : Nat) (a0 : Nat) (a1 : Nat) (a2 : Int32) (m : Mm) : Crt l θ yX3_readWord (M_X3_readWord d) cvI [.ref a0, .ref a1, .int a2] m (F_X3_readWord d a0 a1 a2 m) := (crtG_X3 l θ d).2.2 a0 a1 a2 m
abbrev M_X3_read : MI := (cX3_read, RX3, 3, 47, 1234, (some .boolean), "read")
theorem cw_X3_read : CwOk M_X3_read yX3_read 1 := ⟨q_852, q_4, by decide +kernel⟩
def F_X3_read (a0 : Nat) (a1 : Nat) (m : Mm) : Option (Int32 × Mm) :=
 gd (okO m a0 3) (lt9 (wI m a0 4 (0 : Int32)) fun m1 =>
 gd (okO m1 a0 3) (bd (F_X3_readSum 40 a0 a1 (0 : Int32) m1) fun r2 m3 =>
 if r2 = 0 then (
 some ((0 : Int32), m3))
 else (
 gd (okO m3 a1 9) (bd (F_X9_isEnded a1 m3) fun r4 m5 =>
 if r4 = 0 then (
 gd (okO m5 a1 9) (
 gd (okO m5 a1 9) (bd (F_X9_fail a1 (1 : Int32) (rI m5 a1 3) m5) fun r11 m12 =>
 gd (decide (r11 = 0 ∨ r11 = 1)) (some (r11, m12)))))
 else (
 gd (okO m5 a0 3) (oc (rR m5 a0 0) none fun q6 =>
 gd (okO m5 a0 3) (oc (rR m5 a0 1) none fun q7 =>
 gd (okO m5 a0 3) (lt9 (wR m5 a0 0 (some q7)) fun m8 =>
 gd (okO m8 a0 3) (lt9 (wR m8 a0 1 (some q6)) fun m9 =>
 gd (okO m9 a0 3) (
 gd (okO m9 a0 3) (lt9 (wI m9 a0 3 (rI m9 a0 4)) fun m10 =>
 some ((1 : Int32), m10))))))))))))
set_option maxRecDepth 100000 in
set_option maxHeartbeats 4000000 in
theorem crt_X3_read (l : Launch) (θ : Th) (a0 : Nat) (a1 : Nat) (m : Mm) : Crt l θ yX3_read M_X3_read cvI [.ref a0, .ref a1] m (F_X3_read a0 a1 m) := by
  refine crt_of 1 (by decide) rfl rfl (Nat.le_of_ble_eq_true rfl) (fun Z hμ => ?_)
  unfold F_X3_read
  show GG Z _ _ 0 [some (.ref a0), some (.ref a1), none] [] m _
  refine g_aload_n (i := 0) dX3_read_0 rfl rfl ?_
  refine g_iconst (v := (0 : Int32)) dX3_read_1 ki_0 ?_
  refine g_putI (k := 4) cl_X3 (by decide) rfl rfl q_116 dX3_read_2 ?_
  intro m1
  refine g_aload_n (i := 0) dX3_read_5 rfl rfl ?_
  refine g_aload_n (i := 1) dX3_read_6 rfl rfl ?_
  refine g_iconst (v := (0 : Int32)) dX3_read_7 ki_0 ?_
  refine g_callVI cl_X3 (crt_X3_readSum _ _ 40 _ _ _ _) (cw_X3_readSum 40) (by decide) rfl q_853 q_855 qs_16 rfl rfl dX3_read_8 ?_
  intro r2 m3
  refine g_ifne (tgt := 16) dX3_read_11 (by decide) ?_ ?_
  · refine g_aload_n (i := 1) dX3_read_16 rfl rfl ?_
    refine g_callVI cl_X9 (crt_X9_isEnded _ _ _ _) cw_X9_isEnded (by decide) rfl q_892 q_740 q_741 rfl rfl dX3_read_17 ?_
    intro r4 m5
    refine g_ifne (tgt := 33) dX3_read_20 (by decide) ?_ ?_
    · refine g_aload_n (i := 0) dX3_read_33 rfl rfl ?_
      refine g_getR (k := 0) cl_X3 (by decide) rfl q_112 dX3_read_34 ?_
      intro q6
      refine g_astore_n (i := 2) dX3_read_37 rfl (show 2 < 3 by decide) ?_
      refine g_aload_n (i := 0) dX3_read_38 rfl rfl ?_
      refine g_aload_n (i := 0) dX3_read_39 rfl rfl ?_
      refine g_getR (k := 1) cl_X3 (by decide) rfl q_113 dX3_read_40 ?_
      intro q7
      refine g_putR (k := 0) cl_X3 (by decide) rfl (fun _ => rfl) (fun _ => rfl) rfl q_112 dX3_read_43 ?_
      intro m8
      refine g_aload_n (i := 0) dX3_read_46 rfl rfl ?_
      refine g_aload_n (i := 2) dX3_read_47 rfl rfl ?_
      refine g_putR (k := 1) cl_X3 (by decide) rfl (fun _ => rfl) (fun _ => rfl) rfl q_113 dX3_read_48 ?_
      intro m9
      refine g_aload_n (i := 0) dX3_read_51 rfl rfl ?_
      refine g_aload_n (i := 0) dX3_read_52 rfl rfl ?_
      refine g_getI (k := 4) cl_X3 (by decide) rfl q_116 dX3_read_53 ?_
      refine g_putI (k := 3) cl_X3 (by decide) rfl rfl q_115 dX3_read_56 ?_
      intro m10
      refine g_iconst (v := (1 : Int32)) dX3_read_59 ki_1 ?_
      exact g_zreturnK rfl (by decide) dX3_read_60
    · refine g_aload_n (i := 1) dX3_read_23 rfl rfl ?_
      refine g_iconst (v := (1 : Int32)) dX3_read_24 ki_1 ?_
      refine g_aload_n (i := 1) dX3_read_25 rfl rfl ?_
      refine g_getIN (k := 3) cl_X9 (by decide) rfl q_47 dX3_read_26 ?_
      refine g_callVI cl_X9 (crt_X9_fail _ _ _ _ _ _) cw_X9_fail (by decide) rfl q_883 q_755 q_756 rfl rfl dX3_read_29 ?_
      intro r11 m12
      exact g_zreturn rfl dX3_read_32
  · refine g_iconst (v := (0 : Int32)) dX3_read_14 ki_0 ?_
    exact g_zreturnK rfl (by decide) dX3_read_15
abbrev M_X10_kindOf : MI := (cX10_kindOf, RX10, 1, 5, 107, (some .int), "kindOf")
theorem cw_X10_kindOf : CwOk M_X10_kindOf yX10_kindOf 1 := ⟨q_920, q_5, by decide +kernel⟩
def F_X10_kindOf (a0 : Nat) (m : Mm) : Option (Int32 × Mm) :=
 gd (okO m a0 9) (bd (F_X9_isWord a0 (K9 + 7) m) fun r1 m2 =>
 if r1 = 0 then (
 gd (okO m2 a0 9) (bd (F_X9_isWord a0 (K9 + 8) m2) fun r3 m4 =>
 if r3 = 0 then (
 gd (okO m4 a0 9) (bd (F_X9_isWord a0 (K9 + 9) m4) fun r5 m6 =>
 if r5 = 0 then (
 gd (okO m6 a0 9) (bd (F_X9_isWord a0 (K9 + 10) m6) fun r7 m8 =>
 if r7 = 0 then (
 gd (okO m8 a0 9) (bd (F_X9_isWord a0 (K9 + 11) m8) fun r9 m10 =>
 if r9 = 0 then (
 gd (okO m10 a0 9) (bd (F_X9_isWord a0 (K9 + 12) m10) fun r11 m12 =>
 if r11 = 0 then (
 gd (okO m12 a0 9) (bd (F_X9_isWord a0 (K9 + 13) m12) fun r13 m14 =>
 if r13 = 0 then (
 gd (okO m14 a0 9) (bd (F_X9_isWord a0 (K9 + 14) m14) fun r15 m16 =>
 if r15 = 0 then (
 gd (okO m16 a0 9) (bd (F_X9_isWord a0 (K9 + 15) m16) fun r17 m18 =>
 if r17 = 0 then (
 gd (okO m18 a0 9) (bd (F_X9_isWord a0 (K9 + 3) m18) fun r19 m20 =>
 if r19 = 0 then (
 gd (okO m20 a0 9) (bd (F_X9_isWord a0 (K9 + 16) m20) fun r21 m22 =>
 if r21 = 0 then (
 some ((-1 : Int32), m22))
 else (
 some ((10 : Int32), m22))))
 else (
 some ((9 : Int32), m20))))
 else (
 some ((8 : Int32), m18))))
 else (
 some ((7 : Int32), m16))))
 else (
 some ((6 : Int32), m14))))
 else (
 some ((5 : Int32), m12))))
 else (
 some ((4 : Int32), m10))))
 else (
 some ((3 : Int32), m8))))
 else (
 some ((2 : Int32), m6))))
 else (
 some ((1 : Int32), m4))))
 else (
 some ((0 : Int32), m2)))
set_option maxRecDepth 100000 in
set_option maxHeartbeats 4000000 in
theorem crt_X10_kindOf (l : Launch) (θ : Th) (a0 : Nat) (m : Mm) : Crt l θ yX10_kindOf M_X10_kindOf cvI [.ref a0] m (F_X10_kindOf a0 m) := by
  refine crt_of 0 (by decide) rfl rfl (Nat.le_of_ble_eq_true rfl) (fun Z hμ => ?_)
  unfold F_X10_kindOf
  show GG Z _ _ 0 [some (.ref a0)] [] m _
  refine g_aload_n (i := 0) dX10_kindOf_0 rfl rfl ?_
  refine g_ldcS (k := 7) (tx := "send") dX10_kindOf_1 (by decide) (by decide +kernel) ?_
  refine g_callVI cl_X9 (crt_X9_isWord _ _ _ _ _) cw_X9_isWord (by decide) rfl q_922 q_764 q_765 rfl rfl dX10_kindOf_3 ?_
  intro r1 m2
  refine g_ifeq (tgt := 11) dX10_kindOf_6 (by decide) ?_ ?_
  · refine g_aload_n (i := 0) dX10_kindOf_11 rfl rfl ?_
    refine g_ldcS (k := 8) (tx := "take") dX10_kindOf_12 (by decide) (by decide +kernel) ?_
    refine g_callVI cl_X9 (crt_X9_isWord _ _ _ _ _) cw_X9_isWord (by decide) rfl q_922 q_764 q_765 rfl rfl dX10_kindOf_14 ?_
    intro r3 m4
    refine g_ifeq (tgt := 22) dX10_kindOf_17 (by decide) ?_ ?_
    · refine g_aload_n (i := 0) dX10_kindOf_22 rfl rfl ?_
      refine g_ldcS (k := 9) (tx := "lose") dX10_kindOf_23 (by decide) (by decide +kernel) ?_
      refine g_callVI cl_X9 (crt_X9_isWord _ _ _ _ _) cw_X9_isWord (by decide) rfl q_922 q_764 q_765 rfl rfl dX10_kindOf_25 ?_
      intro r5 m6
      refine g_ifeq (tgt := 33) dX10_kindOf_28 (by decide) ?_ ?_
      · refine g_aload_n (i := 0) dX10_kindOf_33 rfl rfl ?_
        refine g_ldcS (k := 10) (tx := "tell") dX10_kindOf_34 (by decide) (by decide +kernel) ?_
        refine g_callVI cl_X9 (crt_X9_isWord _ _ _ _ _) cw_X9_isWord (by decide) rfl q_922 q_764 q_765 rfl rfl dX10_kindOf_36 ?_
        intro r7 m8
        refine g_ifeq (tgt := 44) dX10_kindOf_39 (by decide) ?_ ?_
        · refine g_aload_n (i := 0) dX10_kindOf_44 rfl rfl ?_
          refine g_ldcS (k := 11) (tx := "trim") dX10_kindOf_45 (by decide) (by decide +kernel) ?_
          refine g_callVI cl_X9 (crt_X9_isWord _ _ _ _ _) cw_X9_isWord (by decide) rfl q_922 q_764 q_765 rfl rfl dX10_kindOf_47 ?_
          intro r9 m10
          refine g_ifeq (tgt := 55) dX10_kindOf_50 (by decide) ?_ ?_
          · refine g_aload_n (i := 0) dX10_kindOf_55 rfl rfl ?_
            refine g_ldcS (k := 12) (tx := "crash") dX10_kindOf_56 (by decide) (by decide +kernel) ?_
            refine g_callVI cl_X9 (crt_X9_isWord _ _ _ _ _) cw_X9_isWord (by decide) rfl q_922 q_764 q_765 rfl rfl dX10_kindOf_58 ?_
            intro r11 m12
            refine g_ifeq (tgt := 66) dX10_kindOf_61 (by decide) ?_ ?_
            · refine g_aload_n (i := 0) dX10_kindOf_66 rfl rfl ?_
              refine g_ldcS (k := 13) (tx := "join") dX10_kindOf_67 (by decide) (by decide +kernel) ?_
              refine g_callVI cl_X9 (crt_X9_isWord _ _ _ _ _) cw_X9_isWord (by decide) rfl q_922 q_764 q_765 rfl rfl dX10_kindOf_69 ?_
              intro r13 m14
              refine g_ifeq (tgt := 78) dX10_kindOf_72 (by decide) ?_ ?_
              · refine g_aload_n (i := 0) dX10_kindOf_78 rfl rfl ?_
                refine g_ldcS (k := 14) (tx := "part") dX10_kindOf_79 (by decide) (by decide +kernel) ?_
                refine g_callVI cl_X9 (crt_X9_isWord _ _ _ _ _) cw_X9_isWord (by decide) rfl q_922 q_764 q_765 rfl rfl dX10_kindOf_81 ?_
                intro r15 m16
                refine g_ifeq (tgt := 90) dX10_kindOf_84 (by decide) ?_ ?_
                · refine g_aload_n (i := 0) dX10_kindOf_90 rfl rfl ?_
                  refine g_ldcS (k := 15) (tx := "hold") dX10_kindOf_91 (by decide) (by decide +kernel) ?_
                  refine g_callVI cl_X9 (crt_X9_isWord _ _ _ _ _) cw_X9_isWord (by decide) rfl q_922 q_764 q_765 rfl rfl dX10_kindOf_93 ?_
                  intro r17 m18
                  refine g_ifeq (tgt := 102) dX10_kindOf_96 (by decide) ?_ ?_
                  · refine g_aload_n (i := 0) dX10_kindOf_102 rfl rfl ?_
                    refine g_ldcS (k := 3) (tx := "view") dX10_kindOf_103 (by decide) (by decide +kernel) ?_
                    refine g_callVI cl_X9 (crt_X9_isWord _ _ _ _ _) cw_X9_isWord (by decide) rfl q_922 q_764 q_765 rfl rfl dX10_kindOf_105 ?_
                    intro r19 m20
                    refine g_ifeq (tgt := 114) dX10_kindOf_108 (by decide) ?_ ?_
                    · refine g_aload_n (i := 0) dX10_kindOf_114 rfl rfl ?_
                      refine g_ldcS (k := 16) (tx := "again") dX10_kindOf_115 (by decide) (by decide +kernel) ?_
                      refine g_callVI cl_X9 (crt_X9_isWord _ _ _ _ _) cw_X9_isWord (by decide) rfl q_922 q_764 q_765 rfl rfl dX10_kindOf_117 ?_
                      intro r21 m22
                      refine g_ifeq (tgt := 128) dX10_kindOf_120 (by decide) ?_ ?_
                      · refine g_iconst (v := (-1 : Int32)) dX10_kindOf_128 ki_m1 ?_
                        exact g_ireturn rfl dX10_kindOf_129
                      · refine g_bipush (v := (10 : Int32)) dX10_kindOf_123 kb_10 ?_
                        refine g_goto (tgt := 129) dX10_kindOf_125 (by decide) ?_
                        exact g_ireturn rfl dX10_kindOf_129
                    · refine g_bipush (v := (9 : Int32)) dX10_kindOf_111 kb_9 ?_
                      exact g_ireturn rfl dX10_kindOf_113
                  · refine g_bipush (v := (8 : Int32)) dX10_kindOf_99 kb_8 ?_
                    exact g_ireturn rfl dX10_kindOf_101
                · refine g_bipush (v := (7 : Int32)) dX10_kindOf_87 kb_7 ?_
                  exact g_ireturn rfl dX10_kindOf_89
              · refine g_bipush (v := (6 : Int32)) dX10_kindOf_75 kb_6 ?_
                exact g_ireturn rfl dX10_kindOf_77
            · refine g_iconst (v := (5 : Int32)) dX10_kindOf_64 ki_5 ?_
              exact g_ireturn rfl dX10_kindOf_65
          · refine g_iconst (v := (4 : Int32)) dX10_kindOf_53 ki_4 ?_
            exact g_ireturn rfl dX10_kindOf_54
        · refine g_iconst (v := (3 : Int32)) dX10_kindOf_42 ki_3 ?_
          exact g_ireturn rfl dX10_kindOf_43
      · refine g_iconst (v := (2 : Int32)) dX10_kindOf_31 ki_2 ?_
        exact g_ireturn rfl dX10_kindOf_32
    · refine g_iconst (v := (1 : Int32)) dX10_kindOf_20 ki_1 ?_
      exact g_ireturn rfl dX10_kindOf_21
  · refine g_iconst (v := (0 : Int32)) dX10_kindOf_9 ki_0 ?_
    exact g_ireturn rfl dX10_kindOf_10
abbrev M_X10_readSteps (d : Nat) : MI := (cX10_readSteps, RX10, 5, 6 + d, 127 + 24 * d, (some .boolean), "readSteps")
theorem cw_X10_readSteps (d : Nat) : CwOk (M_X10_readSteps d) yX10_readSteps 2 := ⟨q_911, q_5, by decide +kernel⟩
abbrev M_X10_readStep (d : Nat) : MI := (cX10_readStep, RX10, 5, 6 + d, 127 + 24 * d, (some .boolean), "readStep")
theorem cw_X10_readStep (d : Nat) : CwOk (M_X10_readStep d) yX10_readStep 2 := ⟨q_916, q_5, by decide +kernel⟩
abbrev M_X10_readAgain (d : Nat) : MI := (cX10_readAgain, RX10, 4, 6 + d, 127 + 24 * d, (some .boolean), "readAgain")
theorem cw_X10_readAgain (d : Nat) : CwOk (M_X10_readAgain d) yX10_readAgain 2 := ⟨q_937, q_5, by decide +kernel⟩
def L_X10_readSteps_2 (f_X10_readSteps : Nat → Nat → Int32 → Mm → Option (Int32 × Mm)) (f_X10_readStep : Nat → Nat → Int32 → Mm → Option (Int32 × Mm)) (f_X10_readAgain : Nat → Nat → Int32 → Mm → Option (Int32 × Mm)) : Nat → Nat → Nat → Int32 → Int32 → Mm → Option (Int32 × Mm)
 | 0, _, _, _, _, _ => none
 | n + 1, v0, v1, v2, v3, m =>
 if (150 : Int32) ≤ v3 then (
 some ((1 : Int32), m))
 else (
 gd (okO m v1 9) (bd (F_X9_peek v1 m) fun r2 m3 =>
 lt9 r2 fun x4 =>
 jn (fun (v0 : Nat) (v1 : Nat) (v2 : Int32) (v3 : Int32) (m : Mm) =>
 gd (okO m v0 10) (bd (f_X10_readStep v0 v1 v2 m) fun r5 m6 =>
 if r5 = 0 then (
 some ((0 : Int32), m6))
 else (
 gd (okO m6 v1 9) (bd (F_X9_sign v1 (59 : Int32) m6) fun r7 m8 =>
 if r7 = 0 then (
 some ((0 : Int32), m8))
 else (
 lt9 (v3 + (1 : Int32)) fun x9 =>
 L_X10_readSteps_2 f_X10_readSteps f_X10_readStep f_X10_readAgain n v0 v1 v2 x9 m8))))) fun J37 =>
 if v2 = 0 then (
 if x4 = (-1 : Int32) then (
 some ((1 : Int32), m3))
 else (
 J37 v0 v1 v2 v3 m3))
 else (
 if x4 = (93 : Int32) then (
 some ((1 : Int32), m3))
 else (
 J37 v0 v1 v2 v3 m3))))
def B_X10_readSteps (f_X10_readSteps : Nat → Nat → Int32 → Mm → Option (Int32 × Mm)) (f_X10_readStep : Nat → Nat → Int32 → Mm → Option (Int32 × Mm)) (f_X10_readAgain : Nat → Nat → Int32 → Mm → Option (Int32 × Mm)) (a0 : Nat) (a1 : Nat) (a2 : Int32) (m : Mm) : Option (Int32 × Mm) :=
 lt9 (0 : Int32) fun x1 =>
 L_X10_readSteps_2 f_X10_readSteps f_X10_readStep f_X10_readAgain NF a0 a1 a2 x1 m
def B_X10_readStep (f_X10_readSteps : Nat → Nat → Int32 → Mm → Option (Int32 × Mm)) (f_X10_readStep : Nat → Nat → Int32 → Mm → Option (Int32 × Mm)) (f_X10_readAgain : Nat → Nat → Int32 → Mm → Option (Int32 × Mm)) (a0 : Nat) (a1 : Nat) (a2 : Int32) (m : Mm) : Option (Int32 × Mm) :=
 gd (okO m a1 9) (bd (F_X9_word a1 m) fun r1 m2 =>
 if r1 = 0 then (
 some ((0 : Int32), m2))
 else (
 bd (F_X10_kindOf a1 m2) fun r3 m4 =>
 lt9 r3 fun x5 =>
 if x5 = (-1 : Int32) then (
 gd (okO m4 a1 9) (
 gd (okO m4 a1 9) (bd (F_X9_fail a1 (1 : Int32) (rI m4 a1 4) m4) fun r16 m17 =>
 gd (decide (r16 = 0 ∨ r16 = 1)) (some (r16, m17)))))
 else (
 if x5 = (10 : Int32) then (
 gd (okO m4 a0 10) (bd (f_X10_readAgain a0 a1 a2 m4) fun r14 m15 =>
 gd (decide (r14 = 0 ∨ r14 = 1)) (some (r14, m15))))
 else (
 lt9 (0 : Int32) fun x6 =>
 jn (fun (v0 : Nat) (v1 : Nat) (v3 : Int32) (v4 : Int32) (m : Mm) =>
 jn (fun (v0 : Nat) (v1 : Nat) (v3 : Int32) (v4 : Int32) (m : Mm) =>
 jn (fun (s0 : Int32) (s1 : Int32) (s2 : Int32) (s3 : Nat) (m : Mm) =>
 gd (okO m s3 10) (bd (F_X10_emit s3 s2 s1 s0 m) fun r7 m8 =>
 some ((1 : Int32), m8))) fun J123 =>
 if v3 = 0 then (
 gd (okO m v1 9) (
 J123 (rI m v1 5) v4 v3 v0 m))
 else (
 J123 (0 : Int32) v4 v3 v0 m)) fun J107 =>
 if v3 = 0 then (
 gd (okO m v1 9) (bd (F_X9_number v1 (0 : Int32) (999 : Int32) m) fun r9 m10 =>
 if r9 = 0 then (
 some ((0 : Int32), m10))
 else (
 J107 v0 v1 v3 v4 m10)))
 else (
 J107 v0 v1 v3 v4 m)) fun J90 =>
 if x5 = (8 : Int32) then (
 J90 a0 a1 x5 x6 m4)
 else (
 if x5 = (9 : Int32) then (
 J90 a0 a1 x5 x6 m4)
 else (
 jn (fun (v0 : Nat) (v1 : Nat) (v3 : Int32) (s0 : Int32) (s1 : Int32) (s2 : Nat) (m : Mm) =>
 gd (okO m s2 9) (bd (F_X9_number s2 s1 s0 m) fun r11 m12 =>
 if r11 = 0 then (
 some ((0 : Int32), m12))
 else (
 gd (okO m12 v1 9) (
 lt9 (rI m12 v1 5) fun x13 =>
 J90 v0 v1 v3 x13 m12)))) fun J76 =>
 if x5 = (7 : Int32) then (
 J76 a0 a1 x5 (63 : Int32) (0 : Int32) a1 m4)
 else (
 gd (okO m4 a0 10) (
 J76 a0 a1 x5 ((rI m4 a0 4) - (1 : Int32)) (0 : Int32) a1 m4))))))))
def B_X10_readAgain (f_X10_readSteps : Nat → Nat → Int32 → Mm → Option (Int32 × Mm)) (f_X10_readStep : Nat → Nat → Int32 → Mm → Option (Int32 × Mm)) (f_X10_readAgain : Nat → Nat → Int32 → Mm → Option (Int32 × Mm)) (a0 : Nat) (a1 : Nat) (a2 : Int32) (m : Mm) : Option (Int32 × Mm) :=
 if a2 < (6 : Int32) then (
 gd (okO m a1 9) (bd (F_X9_number a1 (0 : Int32) (60 : Int32) m) fun r1 m2 =>
 if r1 = 0 then (
 some ((0 : Int32), m2))
 else (
 gd (okO m2 a0 10) (
 lt9 (rI m2 a0 3) fun x3 =>
 gd (okO m2 a1 9) (
 gd (okO m2 a0 10) (bd (F_X10_emit a0 (10 : Int32) (rI m2 a1 5) (0 : Int32) m2) fun r4 m5 =>
 gd (okO m5 a1 9) (bd (F_X9_sign a1 (91 : Int32) m5) fun r6 m7 =>
 if r6 = 0 then (
 some ((0 : Int32), m7))
 else (
 gd (okO m7 a0 10) (bd (f_X10_readSteps a0 a1 (a2 + (1 : Int32)) m7) fun r8 m9 =>
 if r8 = 0 then (
 some ((0 : Int32), m9))
 else (
 gd (okO m9 a1 9) (bd (F_X9_sign a1 (93 : Int32) m9) fun r10 m11 =>
 if r10 = 0 then (
 some ((0 : Int32), m11))
 else (
 gd (okO m11 a0 10) (oc (rR m11 a0 2) none fun q12 =>
 gd (okT m11 100 q12) (
 if (ln m11 q12) ≤ x3 then (
 some ((1 : Int32), m11))
 else (
 gd (okO m11 a0 10) (oc (rR m11 a0 2) none fun q13 =>
 gd (okO m11 a0 10) (
 gd (okA m11 100 q13 x3) (lt9 (wI m11 q13 (ix x3) (rI m11 a0 3)) fun m14 =>
 some ((1 : Int32), m14)))))))))))))))))))
 else (
 gd (okO m a1 9) (
 gd (okO m a1 9) (bd (F_X9_fail a1 (3 : Int32) (rI m a1 4) m) fun r15 m16 =>
 gd (decide (r15 = 0 ∨ r15 = 1)) (some (r15, m16)))))
def G_X10 : Nat → (Nat → Nat → Int32 → Mm → Option (Int32 × Mm)) × (Nat → Nat → Int32 → Mm → Option (Int32 × Mm)) × (Nat → Nat → Int32 → Mm → Option (Int32 × Mm))
 | 0 => (fun _ _ _ _ => none, fun _ _ _ _ => none, fun _ _ _ _ => none)
 | d + 1 => (B_X10_readSteps (G_X10 d).1 (G_X10 d).2.1 (G_X10 d).2.2, B_X10_readStep (G_X10 d).1 (G_X10 d).2.1 (G_X10 d).2.2, B_X10_readAgain (G_X10 d).1 (G_X10 d).2.1 (G_X10 d).2.2)
def F_X10_readSteps (d : Nat) (a0 : Nat) (a1 : Nat) (a2 : Int32) (m : Mm) : Option (Int32 × Mm) := (G_X10 d).1 a0 a1 a2 m
def F_X10_readStep (d : Nat) (a0 : Nat) (a1 : Nat) (a2 : Int32) (m : Mm) : Option (Int32 × Mm) := (G_X10 d).2.1 a0 a1 a2 m
def F_X10_readAgain (d : Nat) (a0 : Nat) (a1 : Nat) (a2 : Int32) (m : Mm) : Option (Int32 × Mm) := (G_X10 d).2.2 a0 a1 a2 m
set_option maxRecDepth 100000 in
set_option maxHeartbeats 4000000 in
theorem c_L_X10_readSteps_2 {Z : Zx} {d : Nat} {f_X10_readSteps : Nat → Nat → Int32 → Mm → Option (Int32 × Mm)} {f_X10_readStep : Nat → Nat → Int32 → Mm → Option (Int32 × Mm)} {f_X10_readAgain : Nat → Nat → Int32 → Mm → Option (Int32 × Mm)} (h_X10_readSteps : ∀ (a0 : Nat) (a1 : Nat) (a2 : Int32) (m : Mm), Crt (zl Z) (zθ Z) yX10_readSteps (M_X10_readSteps d) cvI [.ref a0, .ref a1, .int a2] m (f_X10_readSteps a0 a1 a2 m)) (h_X10_readStep : ∀ (a0 : Nat) (a1 : Nat) (a2 : Int32) (m : Mm), Crt (zl Z) (zθ Z) yX10_readStep (M_X10_readStep d) cvI [.ref a0, .ref a1, .int a2] m (f_X10_readStep a0 a1 a2 m)) (h_X10_readAgain : ∀ (a0 : Nat) (a1 : Nat) (a2 : Int32) (m : Mm), Crt (zl Z) (zθ Z) yX10_readAgain (M_X10_readAgain d) cvI [.ref a0, .ref a1, .int a2] m (f_X10_readAgain a0 a1 a2 m))   : ∀ (n : Nat) (v0 : Nat) (v1 : Nat) (v2 : Int32) (v3 : Int32) (m : Mm), GG Z (M_X10_readSteps (d + 1)) (PsN Z cvI) 2 [some (.ref v0), some (.ref v1), some (.int v2), some (.int v3), none] [] m (L_X10_readSteps_2 f_X10_readSteps f_X10_readStep f_X10_readAgain n v0 v1 v2 v3 m) := by
  intro n
  induction n with
  | zero => intro v0 v1 v2 v3 m; exact g_no
  | succ n ih =>
    intro v0 v1 v2 v3 m
    unfold L_X10_readSteps_2
    refine g_iload_n (i := 3) dX10_readSteps_2 rfl rfl ?_
    refine g_sipush (v := (150 : Int32)) dX10_readSteps_3 ks_150 ?_
    refine g_icmpge (tgt := 63) dX10_readSteps_6 (by decide) ?_ ?_
    · refine g_iconst (v := (1 : Int32)) dX10_readSteps_63 ki_1 ?_
      exact g_zreturnK rfl (by decide) dX10_readSteps_64
    · refine g_aload_n (i := 1) dX10_readSteps_9 rfl rfl ?_
      refine g_callVI cl_X9 (crt_X9_peek _ _ _ _) cw_X9_peek (decide_eq_true (show 0 + 1 ≤ 6 + (d + 1) ∧ 8 + (2 + 11) + 0 ≤ 127 + 24 * (d + 1) from by omega)) rfl q_912 q_744 q_745 rfl rfl dX10_readSteps_10 ?_
      intro r2 m3
      refine g_istore dX10_readSteps_13 (show 4 < 5 by decide) ?_
      intro x4
      refine g_iload_n (i := 2) dX10_readSteps_15 rfl rfl ?_
      refine g_jn (fun J37 => ∀ (v0 : Nat) (v1 : Nat) (v2 : Int32) (v3 : Int32) (m : Mm), GG Z (M_X10_readSteps (d + 1)) (PsN Z cvI) 37 [some (.ref v0), some (.ref v1), some (.int v2), some (.int v3), none] [] m (J37 v0 v1 v2 v3 m)) ?_ ?_
      · intro v0 v1 v2 v3 m
        refine g_aload_n (i := 0) dX10_readSteps_37 rfl rfl ?_
        refine g_aload_n (i := 1) dX10_readSteps_38 rfl rfl ?_
        refine g_iload_n (i := 2) dX10_readSteps_39 rfl rfl ?_
        refine g_callVI cl_X10 (h_X10_readStep _ _ _ _) (cw_X10_readStep d) (decide_eq_true (show 6 + d + 1 ≤ 6 + (d + 1) ∧ 8 + (5 + 11) + (127 + 24 * d) ≤ 127 + 24 * (d + 1) from by omega)) rfl q_913 q_915 qs_21 rfl rfl dX10_readSteps_40 ?_
        intro r5 m6
        refine g_ifeq (tgt := 55) dX10_readSteps_43 (by decide) ?_ ?_
        · refine g_iconst (v := (0 : Int32)) dX10_readSteps_55 ki_0 ?_
          exact g_zreturnK rfl (by decide) dX10_readSteps_56
        · refine g_aload_n (i := 1) dX10_readSteps_46 rfl rfl ?_
          refine g_bipush (v := (59 : Int32)) dX10_readSteps_47 kb_59 ?_
          refine g_callVI cl_X9 (crt_X9_sign _ _ _ _ _) cw_X9_sign (decide_eq_true (show 1 + 1 ≤ 6 + (d + 1) ∧ 8 + (2 + 11) + 22 ≤ 127 + 24 * (d + 1) from by omega)) rfl q_943 q_830 q_831 rfl rfl dX10_readSteps_49 ?_
          intro r7 m8
          refine g_ifne (tgt := 57) dX10_readSteps_52 (by decide) ?_ ?_
          · refine g_iinc dX10_readSteps_57 rfl ki_1 (show 3 < 5 by decide) ?_
            intro x9
            refine g_goto (tgt := 2) dX10_readSteps_60 (by decide) ?_
            exact g_msk [true, true, true, true, false] (ih _ _ _ _ _)
          · refine g_iconst (v := (0 : Int32)) dX10_readSteps_55 ki_0 ?_
            exact g_zreturnK rfl (by decide) dX10_readSteps_56
      · intro J37 hJ37
        refine g_ifne (tgt := 28) dX10_readSteps_16 (by decide) ?_ ?_
        · refine g_iload dX10_readSteps_28 rfl ?_
          refine g_bipush (v := (93 : Int32)) dX10_readSteps_30 kb_93 ?_
          refine g_icmpne (tgt := 37) dX10_readSteps_32 (by decide) ?_ ?_
          · exact g_msk [true, true, true, true, false] (hJ37 _ _ _ _ _)
          · refine g_iconst (v := (1 : Int32)) dX10_readSteps_35 ki_1 ?_
            exact g_zreturnK rfl (by decide) dX10_readSteps_36
        · refine g_iload dX10_readSteps_19 rfl ?_
          refine g_iconst (v := (-1 : Int32)) dX10_readSteps_21 ki_m1 ?_
          refine g_icmpne (tgt := 37) dX10_readSteps_22 (by decide) ?_ ?_
          · exact g_msk [true, true, true, true, false] (hJ37 _ _ _ _ _)
          · refine g_goto (tgt := 35) dX10_readSteps_25 (by decide) ?_
            refine g_iconst (v := (1 : Int32)) dX10_readSteps_35 ki_1 ?_
            exact g_zreturnK rfl (by decide) dX10_readSteps_36
set_option maxRecDepth 100000 in
set_option maxHeartbeats 4000000 in
theorem crtB_X10_readSteps (l : Launch) (θ : Th) (d : Nat) (f_X10_readSteps : Nat → Nat → Int32 → Mm → Option (Int32 × Mm)) (f_X10_readStep : Nat → Nat → Int32 → Mm → Option (Int32 × Mm)) (f_X10_readAgain : Nat → Nat → Int32 → Mm → Option (Int32 × Mm)) (h_X10_readSteps : ∀ (a0 : Nat) (a1 : Nat) (a2 : Int32) (m : Mm), Crt l θ yX10_readSteps (M_X10_readSteps d) cvI [.ref a0, .ref a1, .int a2] m (f_X10_readSteps a0 a1 a2 m)) (h_X10_readStep : ∀ (a0 : Nat) (a1 : Nat) (a2 : Int32) (m : Mm), Crt l θ yX10_readStep (M_X10_readStep d) cvI [.ref a0, .ref a1, .int a2] m (f_X10_readStep a0 a1 a2 m)) (h_X10_readAgain : ∀ (a0 : Nat) (a1 : Nat) (a2 : Int32) (m : Mm), Crt l θ yX10_readAgain (M_X10_readAgain d) cvI [.ref a0, .ref a1, .int a2] m (f_X10_readAgain a0 a1 a2 m)) (a0 : Nat) (a1 : Nat) (a2 : Int32) (m : Mm) : Crt l θ yX10_readSteps (M_X10_readSteps (d + 1)) cvI [.ref a0, .ref a1, .int a2] m (B_X10_readSteps f_X10_readSteps f_X10_readStep f_X10_readAgain a0 a1 a2 m) := by
  refine crt_of3 2 (by decide) rfl rfl (Nat.le_of_ble_eq_true rfl) (fun Z hμ hl hθ => ?_)
  subst hl
  subst hθ
  unfold B_X10_readSteps
  show GG Z _ _ 0 [some (.ref a0), some (.ref a1), some (.int a2), none, none] [] m _
  refine g_iconst (v := (0 : Int32)) dX10_readSteps_0 ki_0 ?_
  refine g_istore_n (i := 3) dX10_readSteps_1 rfl (show 3 < 5 by decide) ?_
  intro x1
  exact g_msk [true, true, true, true, false] (c_L_X10_readSteps_2 h_X10_readSteps h_X10_readStep h_X10_readAgain NF _ _ _ _ _)
set_option maxRecDepth 100000 in
set_option maxHeartbeats 4000000 in
theorem crtB_X10_readStep (l : Launch) (θ : Th) (d : Nat) (f_X10_readSteps : Nat → Nat → Int32 → Mm → Option (Int32 × Mm)) (f_X10_readStep : Nat → Nat → Int32 → Mm → Option (Int32 × Mm)) (f_X10_readAgain : Nat → Nat → Int32 → Mm → Option (Int32 × Mm)) (h_X10_readSteps : ∀ (a0 : Nat) (a1 : Nat) (a2 : Int32) (m : Mm), Crt l θ yX10_readSteps (M_X10_readSteps d) cvI [.ref a0, .ref a1, .int a2] m (f_X10_readSteps a0 a1 a2 m)) (h_X10_readStep : ∀ (a0 : Nat) (a1 : Nat) (a2 : Int32) (m : Mm), Crt l θ yX10_readStep (M_X10_readStep d) cvI [.ref a0, .ref a1, .int a2] m (f_X10_readStep a0 a1 a2 m)) (h_X10_readAgain : ∀ (a0 : Nat) (a1 : Nat) (a2 : Int32) (m : Mm), Crt l θ yX10_readAgain (M_X10_readAgain d) cvI [.ref a0, .ref a1, .int a2] m (f_X10_readAgain a0 a1 a2 m)) (a0 : Nat) (a1 : Nat) (a2 : Int32) (m : Mm) : Crt l θ yX10_readStep (M_X10_readStep (d + 1)) cvI [.ref a0, .ref a1, .int a2] m (B_X10_readStep f_X10_readSteps f_X10_readStep f_X10_readAgain a0 a1 a2 m) := by
  refine crt_of3 2 (by decide) rfl rfl (Nat.le_of_ble_eq_true rfl) (fun Z hμ hl hθ => ?_)
  subst hl
  subst hθ
  unfold B_X10_readStep
  show GG Z _ _ 0 [some (.ref a0), some (.ref a1), some (.int a2), none, none] [] m _
  refine g_aload_n (i := 1) dX10_readStep_0 rfl rfl ?_
  refine g_callVI cl_X9 (crt_X9_word _ _ _ _) cw_X9_word (decide_eq_true (show 1 + 1 ≤ 6 + (d + 1) ∧ 8 + (2 + 11) + 22 ≤ 127 + 24 * (d + 1) from by omega)) rfl q_917 q_748 q_749 rfl rfl dX10_readStep_1 ?_
  intro r1 m2
  refine g_ifne (tgt := 9) dX10_readStep_4 (by decide) ?_ ?_
  · refine g_aload_n (i := 1) dX10_readStep_9 rfl rfl ?_
    refine g_callSI (crt_X10_kindOf _ _ _ _) cw_X10_kindOf (decide_eq_true (show 5 + 1 ≤ 6 + (d + 1) ∧ 8 + (1 + 11) + 107 ≤ 127 + 24 * (d + 1) from by omega)) rfl q_918 q_919 rfl rfl dX10_readStep_10 ?_
    intro r3 m4
    refine g_istore_n (i := 3) dX10_readStep_13 rfl (show 3 < 5 by decide) ?_
    intro x5
    refine g_iload_n (i := 3) dX10_readStep_14 rfl rfl ?_
    refine g_iconst (v := (-1 : Int32)) dX10_readStep_15 ki_m1 ?_
    refine g_icmpne (tgt := 29) dX10_readStep_16 (by decide) ?_ ?_
    · refine g_iload_n (i := 3) dX10_readStep_29 rfl rfl ?_
      refine g_bipush (v := (10 : Int32)) dX10_readStep_30 kb_10 ?_
      refine g_icmpne (tgt := 42) dX10_readStep_32 (by decide) ?_ ?_
      · refine g_iconst (v := (0 : Int32)) dX10_readStep_42 ki_0 ?_
        refine g_istore dX10_readStep_43 (show 4 < 5 by decide) ?_
        intro x6
        refine g_iload_n (i := 3) dX10_readStep_45 rfl rfl ?_
        refine g_bipush (v := (8 : Int32)) dX10_readStep_46 kb_8 ?_
        refine g_jn (fun J90 => ∀ (v0 : Nat) (v1 : Nat) (v3 : Int32) (v4 : Int32) (m : Mm), GG Z (M_X10_readStep (d + 1)) (PsN Z cvI) 90 [some (.ref v0), some (.ref v1), none, some (.int v3), some (.int v4)] [] m (J90 v0 v1 v3 v4 m)) ?_ ?_
        · intro v0 v1 v3 v4 m
          refine g_iload_n (i := 3) dX10_readStep_90 rfl rfl ?_
          refine g_jn (fun J107 => ∀ (v0 : Nat) (v1 : Nat) (v3 : Int32) (v4 : Int32) (m : Mm), GG Z (M_X10_readStep (d + 1)) (PsN Z cvI) 107 [some (.ref v0), some (.ref v1), none, some (.int v3), some (.int v4)] [] m (J107 v0 v1 v3 v4 m)) ?_ ?_
          · intro v0 v1 v3 v4 m
            refine g_aload_n (i := 0) dX10_readStep_107 rfl rfl ?_
            refine g_iload_n (i := 3) dX10_readStep_108 rfl rfl ?_
            refine g_iload dX10_readStep_109 rfl ?_
            refine g_iload_n (i := 3) dX10_readStep_111 rfl rfl ?_
            refine g_jn (fun J123 => ∀ (s0 : Int32) (s1 : Int32) (s2 : Int32) (s3 : Nat) (m : Mm), GG Z (M_X10_readStep (d + 1)) (PsN Z cvI) 123 [none, none, none, none, none] [.int s0, .int s1, .int s2, .ref s3] m (J123 s0 s1 s2 s3 m)) ?_ ?_
            · intro s0 s1 s2 s3 m
              refine g_callVV cl_X10 (crt_X10_emit _ _ _ _ _ _ _) cw_X10_emit (decide_eq_true (show 0 + 1 ≤ 6 + (d + 1) ∧ 8 + (4 + 11) + 0 ≤ 127 + 24 * (d + 1) from by omega)) rfl q_939 q_941 qs_23 rfl rfl dX10_readStep_123 ?_
              intro r7 m8
              refine g_iconst (v := (1 : Int32)) dX10_readStep_126 ki_1 ?_
              exact g_zreturnK rfl (by decide) dX10_readStep_127
            · intro J123 hJ123
              refine g_ifne (tgt := 122) dX10_readStep_112 (by decide) ?_ ?_
              · refine g_iconst (v := (0 : Int32)) dX10_readStep_122 ki_0 ?_
                exact g_msk [false, false, false, false, false] (hJ123 _ _ _ _ _)
              · refine g_aload_n (i := 1) dX10_readStep_115 rfl rfl ?_
                refine g_getIN (k := 5) cl_X9 (by decide) rfl q_56 dX10_readStep_116 ?_
                refine g_goto (tgt := 123) dX10_readStep_119 (by decide) ?_
                exact g_msk [false, false, false, false, false] (hJ123 _ _ _ _ _)
          · intro J107 hJ107
            refine g_ifne (tgt := 107) dX10_readStep_91 (by decide) ?_ ?_
            · exact g_msk [true, true, false, true, true] (hJ107 _ _ _ _ _)
            · refine g_aload_n (i := 1) dX10_readStep_94 rfl rfl ?_
              refine g_iconst (v := (0 : Int32)) dX10_readStep_95 ki_0 ?_
              refine g_sipush (v := (999 : Int32)) dX10_readStep_96 ks_999 ?_
              refine g_callVI cl_X9 (crt_X9_number _ _ _ _ _ _) cw_X9_number (decide_eq_true (show 1 + 1 ≤ 6 + (d + 1) ∧ 8 + (4 + 11) + 22 ≤ 127 + 24 * (d + 1) from by omega)) rfl q_938 q_821 q_822 rfl rfl dX10_readStep_99 ?_
              intro r9 m10
              refine g_ifne (tgt := 107) dX10_readStep_102 (by decide) ?_ ?_
              · exact g_msk [true, true, false, true, true] (hJ107 _ _ _ _ _)
              · refine g_iconst (v := (0 : Int32)) dX10_readStep_105 ki_0 ?_
                exact g_zreturnK rfl (by decide) dX10_readStep_106
        · intro J90 hJ90
          refine g_icmpeq (tgt := 90) dX10_readStep_48 (by decide) ?_ ?_
          · exact g_msk [true, true, false, true, true] (hJ90 _ _ _ _ _)
          · refine g_iload_n (i := 3) dX10_readStep_51 rfl rfl ?_
            refine g_bipush (v := (9 : Int32)) dX10_readStep_52 kb_9 ?_
            refine g_icmpeq (tgt := 90) dX10_readStep_54 (by decide) ?_ ?_
            · exact g_msk [true, true, false, true, true] (hJ90 _ _ _ _ _)
            · refine g_aload_n (i := 1) dX10_readStep_57 rfl rfl ?_
              refine g_iconst (v := (0 : Int32)) dX10_readStep_58 ki_0 ?_
              refine g_iload_n (i := 3) dX10_readStep_59 rfl rfl ?_
              refine g_bipush (v := (7 : Int32)) dX10_readStep_60 kb_7 ?_
              refine g_jn (fun J76 => ∀ (v0 : Nat) (v1 : Nat) (v3 : Int32) (s0 : Int32) (s1 : Int32) (s2 : Nat) (m : Mm), GG Z (M_X10_readStep (d + 1)) (PsN Z cvI) 76 [some (.ref v0), some (.ref v1), none, some (.int v3), none] [.int s0, .int s1, .ref s2] m (J76 v0 v1 v3 s0 s1 s2 m)) ?_ ?_
              · intro v0 v1 v3 s0 s1 s2 m
                refine g_callVI cl_X9 (crt_X9_number _ _ _ _ _ _) cw_X9_number (decide_eq_true (show 1 + 1 ≤ 6 + (d + 1) ∧ 8 + (4 + 11) + 22 ≤ 127 + 24 * (d + 1) from by omega)) rfl q_938 q_821 q_822 rfl rfl dX10_readStep_76 ?_
                intro r11 m12
                refine g_ifne (tgt := 84) dX10_readStep_79 (by decide) ?_ ?_
                · refine g_aload_n (i := 1) dX10_readStep_84 rfl rfl ?_
                  refine g_getIN (k := 5) cl_X9 (by decide) rfl q_56 dX10_readStep_85 ?_
                  refine g_istore dX10_readStep_88 (show 4 < 5 by decide) ?_
                  intro x13
                  exact g_msk [true, true, false, true, true] (hJ90 _ _ _ _ _)
                · refine g_iconst (v := (0 : Int32)) dX10_readStep_82 ki_0 ?_
                  exact g_zreturnK rfl (by decide) dX10_readStep_83
              · intro J76 hJ76
                refine g_icmpne (tgt := 70) dX10_readStep_62 (by decide) ?_ ?_
                · refine g_aload_n (i := 0) dX10_readStep_70 rfl rfl ?_
                  refine g_getI (k := 4) cl_X10 (by decide) rfl q_140 dX10_readStep_71 ?_
                  refine g_iconst (v := (1 : Int32)) dX10_readStep_74 ki_1 ?_
                  refine g_isub dX10_readStep_75 ?_
                  exact g_msk [true, true, false, true, false] (hJ76 _ _ _ _ _ _ _)
                · refine g_bipush (v := (63 : Int32)) dX10_readStep_65 kb_63 ?_
                  refine g_goto (tgt := 76) dX10_readStep_67 (by decide) ?_
                  exact g_msk [true, true, false, true, false] (hJ76 _ _ _ _ _ _ _)
      · refine g_aload_n (i := 0) dX10_readStep_35 rfl rfl ?_
        refine g_aload_n (i := 1) dX10_readStep_36 rfl rfl ?_
        refine g_iload_n (i := 2) dX10_readStep_37 rfl rfl ?_
        refine g_callVI cl_X10 (h_X10_readAgain _ _ _ _) (cw_X10_readAgain d) (decide_eq_true (show 6 + d + 1 ≤ 6 + (d + 1) ∧ 8 + (4 + 11) + (127 + 24 * d) ≤ 127 + 24 * (d + 1) from by omega)) rfl q_934 q_936 qs_22 rfl rfl dX10_readStep_38 ?_
        intro r14 m15
        exact g_zreturn rfl dX10_readStep_41
    · refine g_aload_n (i := 1) dX10_readStep_19 rfl rfl ?_
      refine g_iconst (v := (1 : Int32)) dX10_readStep_20 ki_1 ?_
      refine g_aload_n (i := 1) dX10_readStep_21 rfl rfl ?_
      refine g_getIN (k := 4) cl_X9 (by decide) rfl q_51 dX10_readStep_22 ?_
      refine g_callVI cl_X9 (crt_X9_fail _ _ _ _ _ _) cw_X9_fail (decide_eq_true (show 0 + 1 ≤ 6 + (d + 1) ∧ 8 + (3 + 11) + 0 ≤ 127 + 24 * (d + 1) from by omega)) rfl q_933 q_755 q_756 rfl rfl dX10_readStep_25 ?_
      intro r16 m17
      exact g_zreturn rfl dX10_readStep_28
  · refine g_iconst (v := (0 : Int32)) dX10_readStep_7 ki_0 ?_
    exact g_zreturnK rfl (by decide) dX10_readStep_8
set_option maxRecDepth 100000 in
set_option maxHeartbeats 4000000 in
theorem crtB_X10_readAgain (l : Launch) (θ : Th) (d : Nat) (f_X10_readSteps : Nat → Nat → Int32 → Mm → Option (Int32 × Mm)) (f_X10_readStep : Nat → Nat → Int32 → Mm → Option (Int32 × Mm)) (f_X10_readAgain : Nat → Nat → Int32 → Mm → Option (Int32 × Mm)) (h_X10_readSteps : ∀ (a0 : Nat) (a1 : Nat) (a2 : Int32) (m : Mm), Crt l θ yX10_readSteps (M_X10_readSteps d) cvI [.ref a0, .ref a1, .int a2] m (f_X10_readSteps a0 a1 a2 m)) (h_X10_readStep : ∀ (a0 : Nat) (a1 : Nat) (a2 : Int32) (m : Mm), Crt l θ yX10_readStep (M_X10_readStep d) cvI [.ref a0, .ref a1, .int a2] m (f_X10_readStep a0 a1 a2 m)) (h_X10_readAgain : ∀ (a0 : Nat) (a1 : Nat) (a2 : Int32) (m : Mm), Crt l θ yX10_readAgain (M_X10_readAgain d) cvI [.ref a0, .ref a1, .int a2] m (f_X10_readAgain a0 a1 a2 m)) (a0 : Nat) (a1 : Nat) (a2 : Int32) (m : Mm) : Crt l θ yX10_readAgain (M_X10_readAgain (d + 1)) cvI [.ref a0, .ref a1, .int a2] m (B_X10_readAgain f_X10_readSteps f_X10_readStep f_X10_readAgain a0 a1 a2 m) := by
  refine crt_of3 1 (by decide) rfl rfl (Nat.le_of_ble_eq_true rfl) (fun Z hμ hl hθ => ?_)
  subst hl
  subst hθ
  unfold B_X10_readAgain
  show GG Z _ _ 0 [some (.ref a0), some (.ref a1), some (.int a2), none] [] m _
  refine g_iload_n (i := 2) dX10_readAgain_0 rfl rfl ?_
  refine g_bipush (v := (6 : Int32)) dX10_readAgain_1 kb_6 ?_
  refine g_icmplt (tgt := 16) dX10_readAgain_3 (by decide) ?_ ?_
  · refine g_aload_n (i := 1) dX10_readAgain_16 rfl rfl ?_
    refine g_iconst (v := (0 : Int32)) dX10_readAgain_17 ki_0 ?_
    refine g_bipush (v := (60 : Int32)) dX10_readAgain_18 kb_60 ?_
    refine g_callVI cl_X9 (crt_X9_number _ _ _ _ _ _) cw_X9_number (decide_eq_true (show 1 + 1 ≤ 6 + (d + 1) ∧ 8 + (4 + 11) + 22 ≤ 127 + 24 * (d + 1) from by omega)) rfl q_938 q_821 q_822 rfl rfl dX10_readAgain_20 ?_
    intro r1 m2
    refine g_ifne (tgt := 28) dX10_readAgain_23 (by decide) ?_ ?_
    · refine g_aload_n (i := 0) dX10_readAgain_28 rfl rfl ?_
      refine g_getI (k := 3) cl_X10 (by decide) rfl q_138 dX10_readAgain_29 ?_
      refine g_istore_n (i := 3) dX10_readAgain_32 rfl (show 3 < 4 by decide) ?_
      intro x3
      refine g_aload_n (i := 0) dX10_readAgain_33 rfl rfl ?_
      refine g_bipush (v := (10 : Int32)) dX10_readAgain_34 kb_10 ?_
      refine g_aload_n (i := 1) dX10_readAgain_36 rfl rfl ?_
      refine g_getIN (k := 5) cl_X9 (by decide) rfl q_56 dX10_readAgain_37 ?_
      refine g_iconst (v := (0 : Int32)) dX10_readAgain_40 ki_0 ?_
      refine g_callVV cl_X10 (crt_X10_emit _ _ _ _ _ _ _) cw_X10_emit (decide_eq_true (show 0 + 1 ≤ 6 + (d + 1) ∧ 8 + (4 + 11) + 0 ≤ 127 + 24 * (d + 1) from by omega)) rfl q_939 q_941 qs_23 rfl rfl dX10_readAgain_41 ?_
      intro r4 m5
      refine g_aload_n (i := 1) dX10_readAgain_44 rfl rfl ?_
      refine g_bipush (v := (91 : Int32)) dX10_readAgain_45 kb_91 ?_
      refine g_callVI cl_X9 (crt_X9_sign _ _ _ _ _) cw_X9_sign (decide_eq_true (show 1 + 1 ≤ 6 + (d + 1) ∧ 8 + (2 + 11) + 22 ≤ 127 + 24 * (d + 1) from by omega)) rfl q_943 q_830 q_831 rfl rfl dX10_readAgain_47 ?_
      intro r6 m7
      refine g_ifeq (tgt := 73) dX10_readAgain_50 (by decide) ?_ ?_
      · refine g_iconst (v := (0 : Int32)) dX10_readAgain_73 ki_0 ?_
        exact g_zreturnK rfl (by decide) dX10_readAgain_74
      · refine g_aload_n (i := 0) dX10_readAgain_53 rfl rfl ?_
        refine g_aload_n (i := 1) dX10_readAgain_54 rfl rfl ?_
        refine g_iload_n (i := 2) dX10_readAgain_55 rfl rfl ?_
        refine g_iconst (v := (1 : Int32)) dX10_readAgain_56 ki_1 ?_
        refine g_iadd dX10_readAgain_57 ?_
        refine g_callVI cl_X10 (h_X10_readSteps _ _ _ _) (cw_X10_readSteps d) (decide_eq_true (show 6 + d + 1 ≤ 6 + (d + 1) ∧ 8 + (5 + 11) + (127 + 24 * d) ≤ 127 + 24 * (d + 1) from by omega)) rfl q_908 q_910 qs_20 rfl rfl dX10_readAgain_58 ?_
        intro r8 m9
        refine g_ifeq (tgt := 73) dX10_readAgain_61 (by decide) ?_ ?_
        · refine g_iconst (v := (0 : Int32)) dX10_readAgain_73 ki_0 ?_
          exact g_zreturnK rfl (by decide) dX10_readAgain_74
        · refine g_aload_n (i := 1) dX10_readAgain_64 rfl rfl ?_
          refine g_bipush (v := (93 : Int32)) dX10_readAgain_65 kb_93 ?_
          refine g_callVI cl_X9 (crt_X9_sign _ _ _ _ _) cw_X9_sign (decide_eq_true (show 1 + 1 ≤ 6 + (d + 1) ∧ 8 + (2 + 11) + 22 ≤ 127 + 24 * (d + 1) from by omega)) rfl q_943 q_830 q_831 rfl rfl dX10_readAgain_67 ?_
          intro r10 m11
          refine g_ifne (tgt := 75) dX10_readAgain_70 (by decide) ?_ ?_
          · refine g_iload_n (i := 3) dX10_readAgain_75 rfl rfl ?_
            refine g_aload_n (i := 0) dX10_readAgain_76 rfl rfl ?_
            refine g_getR (k := 2) cl_X10 (by decide) rfl q_137 dX10_readAgain_77 ?_
            intro q12
            refine g_alen100 dX10_readAgain_80 ?_
            refine g_icmpge (tgt := 94) dX10_readAgain_81 (by decide) ?_ ?_
            · refine g_iconst (v := (1 : Int32)) dX10_readAgain_94 ki_1 ?_
              exact g_zreturnK rfl (by decide) dX10_readAgain_95
            · refine g_aload_n (i := 0) dX10_readAgain_84 rfl rfl ?_
              refine g_getR (k := 2) cl_X10 (by decide) rfl q_137 dX10_readAgain_85 ?_
              intro q13
              refine g_iload_n (i := 3) dX10_readAgain_88 rfl rfl ?_
              refine g_aload_n (i := 0) dX10_readAgain_89 rfl rfl ?_
              refine g_getI (k := 3) cl_X10 (by decide) rfl q_138 dX10_readAgain_90 ?_
              refine g_iastore dX10_readAgain_93 ?_
              intro m14
              refine g_iconst (v := (1 : Int32)) dX10_readAgain_94 ki_1 ?_
              exact g_zreturnK rfl (by decide) dX10_readAgain_95
          · refine g_iconst (v := (0 : Int32)) dX10_readAgain_73 ki_0 ?_
            exact g_zreturnK rfl (by decide) dX10_readAgain_74
    · refine g_iconst (v := (0 : Int32)) dX10_readAgain_26 ki_0 ?_
      exact g_zreturnK rfl (by decide) dX10_readAgain_27
  · refine g_aload_n (i := 1) dX10_readAgain_6 rfl rfl ?_
    refine g_iconst (v := (3 : Int32)) dX10_readAgain_7 ki_3 ?_
    refine g_aload_n (i := 1) dX10_readAgain_8 rfl rfl ?_
    refine g_getIN (k := 4) cl_X9 (by decide) rfl q_51 dX10_readAgain_9 ?_
    refine g_callVI cl_X9 (crt_X9_fail _ _ _ _ _ _) cw_X9_fail (decide_eq_true (show 0 + 1 ≤ 6 + (d + 1) ∧ 8 + (3 + 11) + 0 ≤ 127 + 24 * (d + 1) from by omega)) rfl q_933 q_755 q_756 rfl rfl dX10_readAgain_12 ?_
    intro r15 m16
    exact g_zreturn rfl dX10_readAgain_15
set_option maxRecDepth 100000 in
set_option maxHeartbeats 4000000 in
theorem crtG_X10 (l : Launch) (θ : Th) : ∀ d : Nat, (∀ (a0 : Nat) (a1 : Nat) (a2 : Int32) (m : Mm), Crt l θ yX10_readSteps (M_X10_readSteps d) cvI [.ref a0, .ref a1, .int a2] m ((G_X10 d).1 a0 a1 a2 m)) ∧ (∀ (a0 : Nat) (a1 : Nat) (a2 : Int32) (m : Mm), Crt l θ yX10_readStep (M_X10_readStep d) cvI [.ref a0, .ref a1, .int a2] m ((G_X10 d).2.1 a0 a1 a2 m)) ∧ (∀ (a0 : Nat) (a1 : Nat) (a2 : Int32) (m : Mm), Crt l θ yX10_readAgain (M_X10_readAgain d) cvI [.ref a0, .ref a1, .int a2] m ((G_X10 d).2.2 a0 a1 a2 m)) := by
  intro d
  induction d with
  | zero => exact ⟨fun a0 a1 a2 m => crt_no, fun a0 a1 a2 m => crt_no, fun a0 a1 a2 m => crt_no⟩
  | succ d ih => exact ⟨fun a0 a1 a2 m => crtB_X10_readSteps l θ d _ _ _ ih.1 ih.2.1 ih.2.2 a0 a1 a2 m, fun a0 a1 a2 m => crtB_X10_readStep l θ d _ _ _ ih.1 ih.2.1 ih.2.2 a0 a1 a2 m, fun a0 a1 a2 m => crtB_X10_readAgain l θ d _ _ _ ih.1 ih.2.1 ih.2.2 a0 a1 a2 m⟩
theorem crt_X10_readSteps (l : Launch) (θ : Th) (d : Nat) (a0 : Nat) (a1 : Nat) (a2 : Int32) (m : Mm) : Crt l θ yX10_readSteps (M_X10_readSteps d) cvI [.ref a0, .ref a1, .int a2] m (F_X10_readSteps d a0 a1 a2 m) := (crtG_X10 l θ d).1 a0 a1 a2 m
theorem crt_X10_readStep (l : Launch) (θ : Th) (d : Nat) (a0 : Nat) (a1 : Nat) (a2 : Int32) (m : Mm) : Crt l θ yX10_readStep (M_X10_readStep d) cvI [.ref a0, .ref a1, .int a2] m (F_X10_readStep d a0 a1 a2 m) := (crtG_X10 l θ d).2.1 a0 a1 a2 m
theorem crt_X10_readAgain (l : Launch) (θ : Th) (d : Nat) (a0 : Nat) (a1 : Nat) (a2 : Int32) (m : Mm) : Crt l θ yX10_readAgain (M_X10_readAgain d) cvI [.ref a0, .ref a1, .int a2] m (F_X10_readAgain d a0 a1 a2 m) := (crtG_X10 l θ d).2.2 a0 a1 a2 m
