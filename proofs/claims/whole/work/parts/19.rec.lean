theorem kb_43 : (Int8.ofInt 43).toInt32 = 43 := by decide
theorem kb_45 : (Int8.ofInt 45).toInt32 = 45 := by decide
theorem kb_42 : (Int8.ofInt 42).toInt32 = 42 := by decide
theorem kb_47 : (Int8.ofInt 47).toInt32 = 47 := by decide
theorem kb_37 : (Int8.ofInt 37).toInt32 = 37 := by decide
theorem kb_40 : (Int8.ofInt 40).toInt32 = 40 := by decide
theorem ks_999 : (Int16.ofInt 999).toInt32 = 999 := by decide +kernel
theorem kb_41 : (Int8.ofInt 41).toInt32 = 41 := by decide
theorem kb_91 : (Int8.ofInt 91).toInt32 = 91 := by decide
theorem kb_93 : (Int8.ofInt 93).toInt32 = 93 := by decide
theorem kb_m20 : (Int8.ofInt (-20)).toInt32 = (-20) := by decide
abbrev M_X12_sum (d : Nat) : MI := (cX12_sum, RX12, 2, 6 + d, 136 + 22 * d, none, "sum")
theorem cw_X12_sum (d : Nat) : CwOk (M_X12_sum d) yX12_sum 0 := ⟨q_1573, q_12, by decide +kernel⟩
abbrev M_X12_product (d : Nat) : MI := (cX12_product, RX12, 2, 6 + d, 136 + 22 * d, none, "product")
theorem cw_X12_product (d : Nat) : CwOk (M_X12_product d) yX12_product 0 := ⟨q_1577, q_12, by decide +kernel⟩
abbrev M_X12_one (d : Nat) : MI := (cX12_one, RX12, 3, 6 + d, 136 + 22 * d, none, "one")
theorem cw_X12_one (d : Nat) : CwOk (M_X12_one d) yX12_one 0 := ⟨q_1581, q_12, by decide +kernel⟩
def L_X12_sum_4 (f_X12_sum : Nat → Mm → Option (Unit × Mm)) (f_X12_product : Nat → Mm → Option (Unit × Mm)) (f_X12_one : Nat → Mm → Option (Unit × Mm)) : Nat → Nat → Mm → Option (Unit × Mm)
 | 0, _, _ => none
 | n + 1, v0, m =>
 gd (okO m v0 12) (
 if (rI m v0 5) = 0 then (
 gd (okO m v0 12) (bd (F_X12_takesSign v0 (43 : Int32) m) fun r3 m4 =>
 jn (fun (v0 : Nat) (s0 : Int32) (m : Mm) =>
 lt9 s0 fun x5 =>
 if x5 = (-1 : Int32) then (
 some ((), m))
 else (
 gd (okO m v0 12) (bd (f_X12_product v0 m) fun r6 m7 =>
 gd (okO m7 v0 12) (bd (F_X12_notes v0 x5 (0 : Int32) m7) fun r8 m9 =>
 L_X12_sum_4 f_X12_sum f_X12_product f_X12_one n v0 m9)))) fun J38 =>
 if r3 = 0 then (
 gd (okO m4 v0 12) (bd (F_X12_takesSign v0 (45 : Int32) m4) fun r10 m11 =>
 if r10 = 0 then (
 J38 v0 (-1 : Int32) m11)
 else (
 J38 v0 (3 : Int32) m11)))
 else (
 J38 v0 (2 : Int32) m4)))
 else (
 some ((), m)))
def B_X12_sum (f_X12_sum : Nat → Mm → Option (Unit × Mm)) (f_X12_product : Nat → Mm → Option (Unit × Mm)) (f_X12_one : Nat → Mm → Option (Unit × Mm)) (a0 : Nat) (m : Mm) : Option (Unit × Mm) :=
 gd (okO m a0 12) (bd (f_X12_product a0 m) fun r1 m2 =>
 L_X12_sum_4 f_X12_sum f_X12_product f_X12_one NF a0 m2)
def L_X12_product_4 (f_X12_sum : Nat → Mm → Option (Unit × Mm)) (f_X12_product : Nat → Mm → Option (Unit × Mm)) (f_X12_one : Nat → Mm → Option (Unit × Mm)) : Nat → Nat → Mm → Option (Unit × Mm)
 | 0, _, _ => none
 | n + 1, v0, m =>
 gd (okO m v0 12) (
 if (rI m v0 5) = 0 then (
 gd (okO m v0 12) (bd (F_X12_takesSign v0 (42 : Int32) m) fun r3 m4 =>
 jn (fun (v0 : Nat) (s0 : Int32) (m : Mm) =>
 lt9 s0 fun x5 =>
 if x5 = (-1 : Int32) then (
 some ((), m))
 else (
 gd (okO m v0 12) (bd (f_X12_one v0 m) fun r6 m7 =>
 gd (okO m7 v0 12) (bd (F_X12_notes v0 x5 (0 : Int32) m7) fun r8 m9 =>
 L_X12_product_4 f_X12_sum f_X12_product f_X12_one n v0 m9)))) fun J52 =>
 if r3 = 0 then (
 gd (okO m4 v0 12) (bd (F_X12_takesSign v0 (47 : Int32) m4) fun r10 m11 =>
 if r10 = 0 then (
 gd (okO m11 v0 12) (bd (F_X12_takesSign v0 (37 : Int32) m11) fun r12 m13 =>
 if r12 = 0 then (
 J52 v0 (-1 : Int32) m13)
 else (
 J52 v0 (6 : Int32) m13)))
 else (
 J52 v0 (5 : Int32) m11)))
 else (
 J52 v0 (4 : Int32) m4)))
 else (
 some ((), m)))
def B_X12_product (f_X12_sum : Nat → Mm → Option (Unit × Mm)) (f_X12_product : Nat → Mm → Option (Unit × Mm)) (f_X12_one : Nat → Mm → Option (Unit × Mm)) (a0 : Nat) (m : Mm) : Option (Unit × Mm) :=
 gd (okO m a0 12) (bd (f_X12_one a0 m) fun r1 m2 =>
 L_X12_product_4 f_X12_sum f_X12_product f_X12_one NF a0 m2)
def B_X12_one (f_X12_sum : Nat → Mm → Option (Unit × Mm)) (f_X12_product : Nat → Mm → Option (Unit × Mm)) (f_X12_one : Nat → Mm → Option (Unit × Mm)) (a0 : Nat) (m : Mm) : Option (Unit × Mm) :=
 gd (okO m a0 12) (
 if (rI m a0 5) = 0 then (
 gd (okO m a0 12) (bd (F_X12_blanks a0 m) fun r1 m2 =>
 gd (okO m2 a0 12) (bd (F_X12_isWord a0 (12 : Int32) (5 : Int32) (1 : Int32) (19 : Int32) (20 : Int32) (0 : Int32) m2) fun r3 m4 =>
 jn (fun (v0 : Nat) (s0 : Int32) (m : Mm) =>
 lt9 s0 fun x5 =>
 if x5 = (-1 : Int32) then (
 gd (okO m v0 12) (
 gd (okO m v0 12) (bd (F_X12_byteAt v0 (rI m v0 4) m) fun r6 m7 =>
 if r6 = (40 : Int32) then (
 gd (okO m7 v0 12) (bd (F_X12_opensOne v0 m7) fun r17 m18 =>
 if r17 = 0 then (
 some ((), m18))
 else (
 gd (okO m18 v0 12) (
 gd (okO m18 v0 12) (lt9 (wI m18 v0 4 ((rI m18 v0 4) + (1 : Int32))) fun m19 =>
 gd (okO m19 v0 12) (bd (f_X12_sum v0 m19) fun r20 m21 =>
 gd (okO m21 v0 12) (bd (F_X12_sign v0 (41 : Int32) m21) fun r22 m23 =>
 gd (okO m23 v0 12) (
 gd (okO m23 v0 12) (lt9 (wI m23 v0 8 ((rI m23 v0 8) - (1 : Int32))) fun m24 =>
 some ((), m24))))))))))
 else (
 gd (okO m7 v0 12) (bd (F_X12_knownHere v0 m7) fun r8 m9 =>
 lt9 r8 fun x10 =>
 if x10 = (-1 : Int32) then (
 gd (okO m9 v0 12) (bd (F_X12_number v0 (0 : Int32) (999 : Int32) m9) fun r11 m12 =>
 gd (okO m12 v0 12) (bd (F_X12_notes v0 (0 : Int32) r11 m12) fun r13 m14 =>
 some ((), m14))))
 else (
 gd (okO m9 v0 12) (bd (F_X12_notes v0 (1 : Int32) x10 m9) fun r15 m16 =>
 some ((), m16))))))))
 else (
 gd (okO m v0 12) (bd (F_X12_opensOne v0 m) fun r25 m26 =>
 if r25 = 0 then (
 some ((), m26))
 else (
 gd (okO m26 v0 12) (bd (F_X12_skipWord v0 m26) fun r27 m28 =>
 gd (okO m28 v0 12) (bd (F_X12_sign v0 (91 : Int32) m28) fun r29 m30 =>
 gd (okO m30 v0 12) (bd (f_X12_sum v0 m30) fun r31 m32 =>
 gd (okO m32 v0 12) (bd (F_X12_sign v0 (44 : Int32) m32) fun r33 m34 =>
 gd (okO m34 v0 12) (bd (f_X12_sum v0 m34) fun r35 m36 =>
 gd (okO m36 v0 12) (bd (F_X12_sign v0 (93 : Int32) m36) fun r37 m38 =>
 gd (okO m38 v0 12) (bd (F_X12_notes v0 x5 (0 : Int32) m38) fun r39 m40 =>
 gd (okO m40 v0 12) (
 gd (okO m40 v0 12) (lt9 (wI m40 v0 8 ((rI m40 v0 8) - (1 : Int32))) fun m41 =>
 some ((), m41)))))))))))))) fun J56 =>
 if r3 = 0 then (
 gd (okO m4 a0 12) (bd (F_X12_isWord a0 (13 : Int32) (15 : Int32) (19 : Int32) (20 : Int32) (0 : Int32) (0 : Int32) m4) fun r42 m43 =>
 if r42 = 0 then (
 J56 a0 (-1 : Int32) m43)
 else (
 J56 a0 (8 : Int32) m43)))
 else (
 J56 a0 (7 : Int32) m4))))
 else (
 some ((), m)))
def G_X12 : Nat → (Nat → Mm → Option (Unit × Mm)) × (Nat → Mm → Option (Unit × Mm)) × (Nat → Mm → Option (Unit × Mm))
 | 0 => (fun _ _ => none, fun _ _ => none, fun _ _ => none)
 | d + 1 => (B_X12_sum (G_X12 d).1 (G_X12 d).2.1 (G_X12 d).2.2, B_X12_product (G_X12 d).1 (G_X12 d).2.1 (G_X12 d).2.2, B_X12_one (G_X12 d).1 (G_X12 d).2.1 (G_X12 d).2.2)
def F_X12_sum (d : Nat) (a0 : Nat) (m : Mm) : Option (Unit × Mm) := (G_X12 d).1 a0 m
def F_X12_product (d : Nat) (a0 : Nat) (m : Mm) : Option (Unit × Mm) := (G_X12 d).2.1 a0 m
def F_X12_one (d : Nat) (a0 : Nat) (m : Mm) : Option (Unit × Mm) := (G_X12 d).2.2 a0 m
set_option maxRecDepth 100000 in
set_option maxHeartbeats 4000000 in
theorem c_L_X12_sum_4 {Z : Zx} {d : Nat} {f_X12_sum : Nat → Mm → Option (Unit × Mm)} {f_X12_product : Nat → Mm → Option (Unit × Mm)} {f_X12_one : Nat → Mm → Option (Unit × Mm)} (h_X12_sum : ∀ (a0 : Nat) (m : Mm), Crt (zl Z) (zθ Z) yX12_sum (M_X12_sum d) cvV [.ref a0] m (f_X12_sum a0 m)) (h_X12_product : ∀ (a0 : Nat) (m : Mm), Crt (zl Z) (zθ Z) yX12_product (M_X12_product d) cvV [.ref a0] m (f_X12_product a0 m)) (h_X12_one : ∀ (a0 : Nat) (m : Mm), Crt (zl Z) (zθ Z) yX12_one (M_X12_one d) cvV [.ref a0] m (f_X12_one a0 m))   : ∀ (n : Nat) (v0 : Nat) (m : Mm), GG Z (M_X12_sum (d + 1)) (PsN Z cvV) 4 [some (.ref v0), none] [] m (L_X12_sum_4 f_X12_sum f_X12_product f_X12_one n v0 m) := by
  intro n
  induction n with
  | zero => intro v0 m; exact g_no
  | succ n ih =>
    intro v0 m
    unfold L_X12_sum_4
    refine g_aload_n (i := 0) dX12_sum_4 rfl rfl ?_
    refine g_getI (k := 5) cl_X12 (by decide) rfl q_1386 dX12_sum_5 ?_
    refine g_ifne (tgt := 58) dX12_sum_8 (by decide) ?_ ?_
    · exact g_return rfl dX12_sum_58
    · refine g_aload_n (i := 0) dX12_sum_11 rfl rfl ?_
      refine g_bipush (v := (43 : Int32)) dX12_sum_12 kb_43 ?_
      refine g_callVI cl_X12 (crt_X12_takesSign _ _ _ _ _) cw_X12_takesSign (decide_eq_true (show 2 + 1 ≤ 6 + (d + 1) ∧ 8 + (3 + 11) + 41 ≤ 136 + 22 * (d + 1) from by omega)) rfl q_1598 q_1600 qs_58 rfl rfl dX12_sum_14 ?_
      intro r3 m4
      refine g_jn (fun J38 => ∀ (v0 : Nat) (s0 : Int32) (m : Mm), GG Z (M_X12_sum (d + 1)) (PsN Z cvV) 38 [some (.ref v0), none] [.int s0] m (J38 v0 s0 m)) ?_ ?_
      · intro v0 s0 m
        refine g_istore_n (i := 1) dX12_sum_38 rfl (show 1 < 2 by decide) ?_
        intro x5
        refine g_iload_n (i := 1) dX12_sum_39 rfl rfl ?_
        refine g_iconst (v := (-1 : Int32)) dX12_sum_40 ki_m1 ?_
        refine g_icmpne (tgt := 45) dX12_sum_41 (by decide) ?_ ?_
        · refine g_aload_n (i := 0) dX12_sum_45 rfl rfl ?_
          refine g_callVV cl_X12 (h_X12_product _ _) (cw_X12_product d) (decide_eq_true (show 6 + d + 1 ≤ 6 + (d + 1) ∧ 8 + (2 + 11) + (136 + 22 * d) ≤ 136 + 22 * (d + 1) from by omega)) rfl q_1574 q_1576 qs_52 rfl rfl dX12_sum_46 ?_
          intro r6 m7
          refine g_aload_n (i := 0) dX12_sum_49 rfl rfl ?_
          refine g_iload_n (i := 1) dX12_sum_50 rfl rfl ?_
          refine g_iconst (v := (0 : Int32)) dX12_sum_51 ki_0 ?_
          refine g_callVV cl_X12 (crt_X12_notes _ _ _ _ _ _) cw_X12_notes (decide_eq_true (show 0 + 1 ≤ 6 + (d + 1) ∧ 8 + (3 + 11) + 0 ≤ 136 + 22 * (d + 1) from by omega)) rfl q_1586 q_1588 qs_55 rfl rfl dX12_sum_52 ?_
          intro r8 m9
          refine g_goto (tgt := 4) dX12_sum_55 (by decide) ?_
          exact g_msk [true, false] (ih _ _)
        · exact g_return rfl dX12_sum_44
      · intro J38 hJ38
        refine g_ifeq (tgt := 24) dX12_sum_17 (by decide) ?_ ?_
        · refine g_aload_n (i := 0) dX12_sum_24 rfl rfl ?_
          refine g_bipush (v := (45 : Int32)) dX12_sum_25 kb_45 ?_
          refine g_callVI cl_X12 (crt_X12_takesSign _ _ _ _ _) cw_X12_takesSign (decide_eq_true (show 2 + 1 ≤ 6 + (d + 1) ∧ 8 + (3 + 11) + 41 ≤ 136 + 22 * (d + 1) from by omega)) rfl q_1598 q_1600 qs_58 rfl rfl dX12_sum_27 ?_
          intro r10 m11
          refine g_ifeq (tgt := 37) dX12_sum_30 (by decide) ?_ ?_
          · refine g_iconst (v := (-1 : Int32)) dX12_sum_37 ki_m1 ?_
            exact g_msk [true, false] (hJ38 _ _ _)
          · refine g_iconst (v := (3 : Int32)) dX12_sum_33 ki_3 ?_
            refine g_goto (tgt := 38) dX12_sum_34 (by decide) ?_
            exact g_msk [true, false] (hJ38 _ _ _)
        · refine g_iconst (v := (2 : Int32)) dX12_sum_20 ki_2 ?_
          refine g_goto (tgt := 38) dX12_sum_21 (by decide) ?_
          exact g_msk [true, false] (hJ38 _ _ _)
set_option maxRecDepth 100000 in
set_option maxHeartbeats 4000000 in
theorem crtB_X12_sum (l : Launch) (θ : Th) (d : Nat) (f_X12_sum : Nat → Mm → Option (Unit × Mm)) (f_X12_product : Nat → Mm → Option (Unit × Mm)) (f_X12_one : Nat → Mm → Option (Unit × Mm)) (h_X12_sum : ∀ (a0 : Nat) (m : Mm), Crt l θ yX12_sum (M_X12_sum d) cvV [.ref a0] m (f_X12_sum a0 m)) (h_X12_product : ∀ (a0 : Nat) (m : Mm), Crt l θ yX12_product (M_X12_product d) cvV [.ref a0] m (f_X12_product a0 m)) (h_X12_one : ∀ (a0 : Nat) (m : Mm), Crt l θ yX12_one (M_X12_one d) cvV [.ref a0] m (f_X12_one a0 m)) (a0 : Nat) (m : Mm) : Crt l θ yX12_sum (M_X12_sum (d + 1)) cvV [.ref a0] m (B_X12_sum f_X12_sum f_X12_product f_X12_one a0 m) := by
  refine crt_of3 1 (by decide) rfl rfl (Nat.le_of_ble_eq_true rfl) (fun Z hμ hl hθ => ?_)
  subst hl
  subst hθ
  unfold B_X12_sum
  show GG Z _ _ 0 [some (.ref a0), none] [] m _
  refine g_aload_n (i := 0) dX12_sum_0 rfl rfl ?_
  refine g_callVV cl_X12 (h_X12_product _ _) (cw_X12_product d) (decide_eq_true (show 6 + d + 1 ≤ 6 + (d + 1) ∧ 8 + (2 + 11) + (136 + 22 * d) ≤ 136 + 22 * (d + 1) from by omega)) rfl q_1574 q_1576 qs_52 rfl rfl dX12_sum_1 ?_
  intro r1 m2
  exact g_msk [true, false] (c_L_X12_sum_4 h_X12_sum h_X12_product h_X12_one NF _ _)
set_option maxRecDepth 100000 in
set_option maxHeartbeats 4000000 in
theorem c_L_X12_product_4 {Z : Zx} {d : Nat} {f_X12_sum : Nat → Mm → Option (Unit × Mm)} {f_X12_product : Nat → Mm → Option (Unit × Mm)} {f_X12_one : Nat → Mm → Option (Unit × Mm)} (h_X12_sum : ∀ (a0 : Nat) (m : Mm), Crt (zl Z) (zθ Z) yX12_sum (M_X12_sum d) cvV [.ref a0] m (f_X12_sum a0 m)) (h_X12_product : ∀ (a0 : Nat) (m : Mm), Crt (zl Z) (zθ Z) yX12_product (M_X12_product d) cvV [.ref a0] m (f_X12_product a0 m)) (h_X12_one : ∀ (a0 : Nat) (m : Mm), Crt (zl Z) (zθ Z) yX12_one (M_X12_one d) cvV [.ref a0] m (f_X12_one a0 m))   : ∀ (n : Nat) (v0 : Nat) (m : Mm), GG Z (M_X12_product (d + 1)) (PsN Z cvV) 4 [some (.ref v0), none] [] m (L_X12_product_4 f_X12_sum f_X12_product f_X12_one n v0 m) := by
  intro n
  induction n with
  | zero => intro v0 m; exact g_no
  | succ n ih =>
    intro v0 m
    unfold L_X12_product_4
    refine g_aload_n (i := 0) dX12_product_4 rfl rfl ?_
    refine g_getI (k := 5) cl_X12 (by decide) rfl q_1386 dX12_product_5 ?_
    refine g_ifne (tgt := 72) dX12_product_8 (by decide) ?_ ?_
    · exact g_return rfl dX12_product_72
    · refine g_aload_n (i := 0) dX12_product_11 rfl rfl ?_
      refine g_bipush (v := (42 : Int32)) dX12_product_12 kb_42 ?_
      refine g_callVI cl_X12 (crt_X12_takesSign _ _ _ _ _) cw_X12_takesSign (decide_eq_true (show 2 + 1 ≤ 6 + (d + 1) ∧ 8 + (3 + 11) + 41 ≤ 136 + 22 * (d + 1) from by omega)) rfl q_1598 q_1600 qs_58 rfl rfl dX12_product_14 ?_
      intro r3 m4
      refine g_jn (fun J52 => ∀ (v0 : Nat) (s0 : Int32) (m : Mm), GG Z (M_X12_product (d + 1)) (PsN Z cvV) 52 [some (.ref v0), none] [.int s0] m (J52 v0 s0 m)) ?_ ?_
      · intro v0 s0 m
        refine g_istore_n (i := 1) dX12_product_52 rfl (show 1 < 2 by decide) ?_
        intro x5
        refine g_iload_n (i := 1) dX12_product_53 rfl rfl ?_
        refine g_iconst (v := (-1 : Int32)) dX12_product_54 ki_m1 ?_
        refine g_icmpne (tgt := 59) dX12_product_55 (by decide) ?_ ?_
        · refine g_aload_n (i := 0) dX12_product_59 rfl rfl ?_
          refine g_callVV cl_X12 (h_X12_one _ _) (cw_X12_one d) (decide_eq_true (show 6 + d + 1 ≤ 6 + (d + 1) ∧ 8 + (3 + 11) + (136 + 22 * d) ≤ 136 + 22 * (d + 1) from by omega)) rfl q_1578 q_1580 qs_53 rfl rfl dX12_product_60 ?_
          intro r6 m7
          refine g_aload_n (i := 0) dX12_product_63 rfl rfl ?_
          refine g_iload_n (i := 1) dX12_product_64 rfl rfl ?_
          refine g_iconst (v := (0 : Int32)) dX12_product_65 ki_0 ?_
          refine g_callVV cl_X12 (crt_X12_notes _ _ _ _ _ _) cw_X12_notes (decide_eq_true (show 0 + 1 ≤ 6 + (d + 1) ∧ 8 + (3 + 11) + 0 ≤ 136 + 22 * (d + 1) from by omega)) rfl q_1586 q_1588 qs_55 rfl rfl dX12_product_66 ?_
          intro r8 m9
          refine g_goto (tgt := 4) dX12_product_69 (by decide) ?_
          exact g_msk [true, false] (ih _ _)
        · exact g_return rfl dX12_product_58
      · intro J52 hJ52
        refine g_ifeq (tgt := 24) dX12_product_17 (by decide) ?_ ?_
        · refine g_aload_n (i := 0) dX12_product_24 rfl rfl ?_
          refine g_bipush (v := (47 : Int32)) dX12_product_25 kb_47 ?_
          refine g_callVI cl_X12 (crt_X12_takesSign _ _ _ _ _) cw_X12_takesSign (decide_eq_true (show 2 + 1 ≤ 6 + (d + 1) ∧ 8 + (3 + 11) + 41 ≤ 136 + 22 * (d + 1) from by omega)) rfl q_1598 q_1600 qs_58 rfl rfl dX12_product_27 ?_
          intro r10 m11
          refine g_ifeq (tgt := 37) dX12_product_30 (by decide) ?_ ?_
          · refine g_aload_n (i := 0) dX12_product_37 rfl rfl ?_
            refine g_bipush (v := (37 : Int32)) dX12_product_38 kb_37 ?_
            refine g_callVI cl_X12 (crt_X12_takesSign _ _ _ _ _) cw_X12_takesSign (decide_eq_true (show 2 + 1 ≤ 6 + (d + 1) ∧ 8 + (3 + 11) + 41 ≤ 136 + 22 * (d + 1) from by omega)) rfl q_1598 q_1600 qs_58 rfl rfl dX12_product_40 ?_
            intro r12 m13
            refine g_ifeq (tgt := 51) dX12_product_43 (by decide) ?_ ?_
            · refine g_iconst (v := (-1 : Int32)) dX12_product_51 ki_m1 ?_
              exact g_msk [true, false] (hJ52 _ _ _)
            · refine g_bipush (v := (6 : Int32)) dX12_product_46 kb_6 ?_
              refine g_goto (tgt := 52) dX12_product_48 (by decide) ?_
              exact g_msk [true, false] (hJ52 _ _ _)
          · refine g_iconst (v := (5 : Int32)) dX12_product_33 ki_5 ?_
            refine g_goto (tgt := 52) dX12_product_34 (by decide) ?_
            exact g_msk [true, false] (hJ52 _ _ _)
        · refine g_iconst (v := (4 : Int32)) dX12_product_20 ki_4 ?_
          refine g_goto (tgt := 52) dX12_product_21 (by decide) ?_
          exact g_msk [true, false] (hJ52 _ _ _)
set_option maxRecDepth 100000 in
set_option maxHeartbeats 4000000 in
theorem crtB_X12_product (l : Launch) (θ : Th) (d : Nat) (f_X12_sum : Nat → Mm → Option (Unit × Mm)) (f_X12_product : Nat → Mm → Option (Unit × Mm)) (f_X12_one : Nat → Mm → Option (Unit × Mm)) (h_X12_sum : ∀ (a0 : Nat) (m : Mm), Crt l θ yX12_sum (M_X12_sum d) cvV [.ref a0] m (f_X12_sum a0 m)) (h_X12_product : ∀ (a0 : Nat) (m : Mm), Crt l θ yX12_product (M_X12_product d) cvV [.ref a0] m (f_X12_product a0 m)) (h_X12_one : ∀ (a0 : Nat) (m : Mm), Crt l θ yX12_one (M_X12_one d) cvV [.ref a0] m (f_X12_one a0 m)) (a0 : Nat) (m : Mm) : Crt l θ yX12_product (M_X12_product (d + 1)) cvV [.ref a0] m (B_X12_product f_X12_sum f_X12_product f_X12_one a0 m) := by
  refine crt_of3 1 (by decide) rfl rfl (Nat.le_of_ble_eq_true rfl) (fun Z hμ hl hθ => ?_)
  subst hl
  subst hθ
  unfold B_X12_product
  show GG Z _ _ 0 [some (.ref a0), none] [] m _
  refine g_aload_n (i := 0) dX12_product_0 rfl rfl ?_
  refine g_callVV cl_X12 (h_X12_one _ _) (cw_X12_one d) (decide_eq_true (show 6 + d + 1 ≤ 6 + (d + 1) ∧ 8 + (3 + 11) + (136 + 22 * d) ≤ 136 + 22 * (d + 1) from by omega)) rfl q_1578 q_1580 qs_53 rfl rfl dX12_product_1 ?_
  intro r1 m2
  exact g_msk [true, false] (c_L_X12_product_4 h_X12_sum h_X12_product h_X12_one NF _ _)
set_option maxRecDepth 100000 in
set_option maxHeartbeats 4000000 in
theorem crtB_X12_one (l : Launch) (θ : Th) (d : Nat) (f_X12_sum : Nat → Mm → Option (Unit × Mm)) (f_X12_product : Nat → Mm → Option (Unit × Mm)) (f_X12_one : Nat → Mm → Option (Unit × Mm)) (h_X12_sum : ∀ (a0 : Nat) (m : Mm), Crt l θ yX12_sum (M_X12_sum d) cvV [.ref a0] m (f_X12_sum a0 m)) (h_X12_product : ∀ (a0 : Nat) (m : Mm), Crt l θ yX12_product (M_X12_product d) cvV [.ref a0] m (f_X12_product a0 m)) (h_X12_one : ∀ (a0 : Nat) (m : Mm), Crt l θ yX12_one (M_X12_one d) cvV [.ref a0] m (f_X12_one a0 m)) (a0 : Nat) (m : Mm) : Crt l θ yX12_one (M_X12_one (d + 1)) cvV [.ref a0] m (B_X12_one f_X12_sum f_X12_product f_X12_one a0 m) := by
  refine crt_of3 2 (by decide) rfl rfl (Nat.le_of_ble_eq_true rfl) (fun Z hμ hl hθ => ?_)
  subst hl
  subst hθ
  unfold B_X12_one
  show GG Z _ _ 0 [some (.ref a0), none, none] [] m _
  refine g_aload_n (i := 0) dX12_one_0 rfl rfl ?_
  refine g_getI (k := 5) cl_X12 (by decide) rfl q_1386 dX12_one_1 ?_
  refine g_ifeq (tgt := 8) dX12_one_4 (by decide) ?_ ?_
  · refine g_aload_n (i := 0) dX12_one_8 rfl rfl ?_
    refine g_callVV cl_X12 (crt_X12_blanks _ _ _ _) cw_X12_blanks (decide_eq_true (show 1 + 1 ≤ 6 + (d + 1) ∧ 8 + (1 + 11) + 21 ≤ 136 + 22 * (d + 1) from by omega)) rfl q_1516 q_1518 qs_41 rfl rfl dX12_one_9 ?_
    intro r1 m2
    refine g_aload_n (i := 0) dX12_one_12 rfl rfl ?_
    refine g_bipush (v := (12 : Int32)) dX12_one_13 kb_12 ?_
    refine g_iconst (v := (5 : Int32)) dX12_one_15 ki_5 ?_
    refine g_iconst (v := (1 : Int32)) dX12_one_16 ki_1 ?_
    refine g_bipush (v := (19 : Int32)) dX12_one_17 kb_19 ?_
    refine g_bipush (v := (20 : Int32)) dX12_one_19 kb_20 ?_
    refine g_iconst (v := (0 : Int32)) dX12_one_21 ki_0 ?_
    refine g_callVI cl_X12 (crt_X12_isWord _ _ _ _ _ _ _ _ _ _) cw_X12_isWord (decide_eq_true (show 3 + 1 ≤ 6 + (d + 1) ∧ 8 + (7 + 11) + 63 ≤ 136 + 22 * (d + 1) from by omega)) rfl q_1528 q_1530 qs_44 rfl rfl dX12_one_22 ?_
    intro r3 m4
    refine g_jn (fun J56 => ∀ (v0 : Nat) (s0 : Int32) (m : Mm), GG Z (M_X12_one (d + 1)) (PsN Z cvV) 56 [some (.ref v0), none, none] [.int s0] m (J56 v0 s0 m)) ?_ ?_
    · intro v0 s0 m
      refine g_istore_n (i := 1) dX12_one_56 rfl (show 1 < 3 by decide) ?_
      intro x5
      refine g_iload_n (i := 1) dX12_one_57 rfl rfl ?_
      refine g_iconst (v := (-1 : Int32)) dX12_one_58 ki_m1 ?_
      refine g_icmpeq (tgt := 117) dX12_one_59 (by decide) ?_ ?_
      · refine g_aload_n (i := 0) dX12_one_117 rfl rfl ?_
        refine g_aload_n (i := 0) dX12_one_118 rfl rfl ?_
        refine g_getI (k := 4) cl_X12 (by decide) rfl q_1385 dX12_one_119 ?_
        refine g_callVI cl_X12 (crt_X12_byteAt _ _ _ _ _) cw_X12_byteAt (decide_eq_true (show 0 + 1 ≤ 6 + (d + 1) ∧ 8 + (2 + 11) + 0 ≤ 136 + 22 * (d + 1) from by omega)) rfl q_1520 q_1522 qs_42 rfl rfl dX12_one_122 ?_
        intro r6 m7
        refine g_bipush (v := (40 : Int32)) dX12_one_125 kb_40 ?_
        refine g_icmpne (tgt := 169) dX12_one_127 (by decide) ?_ ?_
        · refine g_aload_n (i := 0) dX12_one_169 rfl rfl ?_
          refine g_callVI cl_X12 (crt_X12_knownHere _ _ _ _) cw_X12_knownHere (decide_eq_true (show 5 + 1 ≤ 6 + (d + 1) ∧ 8 + (1 + 11) + 116 ≤ 136 + 22 * (d + 1) from by omega)) rfl q_1590 q_1592 qs_56 rfl rfl dX12_one_170 ?_
          intro r8 m9
          refine g_istore_n (i := 2) dX12_one_173 rfl (show 2 < 3 by decide) ?_
          intro x10
          refine g_iload_n (i := 2) dX12_one_174 rfl rfl ?_
          refine g_iconst (v := (-1 : Int32)) dX12_one_175 ki_m1 ?_
          refine g_icmpeq (tgt := 188) dX12_one_176 (by decide) ?_ ?_
          · refine g_aload_n (i := 0) dX12_one_188 rfl rfl ?_
            refine g_iconst (v := (0 : Int32)) dX12_one_189 ki_0 ?_
            refine g_aload_n (i := 0) dX12_one_190 rfl rfl ?_
            refine g_iconst (v := (0 : Int32)) dX12_one_191 ki_0 ?_
            refine g_sipush (v := (999 : Int32)) dX12_one_192 ks_999 ?_
            refine g_callVI cl_X12 (crt_X12_number _ _ _ _ _ _) cw_X12_number (decide_eq_true (show 2 + 1 ≤ 6 + (d + 1) ∧ 8 + (5 + 11) + 41 ≤ 136 + 22 * (d + 1) from by omega)) rfl q_1550 q_1552 qs_48 rfl rfl dX12_one_195 ?_
            intro r11 m12
            refine g_callVV cl_X12 (crt_X12_notes _ _ _ _ _ _) cw_X12_notes (decide_eq_true (show 0 + 1 ≤ 6 + (d + 1) ∧ 8 + (3 + 11) + 0 ≤ 136 + 22 * (d + 1) from by omega)) rfl q_1586 q_1588 qs_55 rfl rfl dX12_one_198 ?_
            intro r13 m14
            exact g_return rfl dX12_one_201
          · refine g_aload_n (i := 0) dX12_one_179 rfl rfl ?_
            refine g_iconst (v := (1 : Int32)) dX12_one_180 ki_1 ?_
            refine g_iload_n (i := 2) dX12_one_181 rfl rfl ?_
            refine g_callVV cl_X12 (crt_X12_notes _ _ _ _ _ _) cw_X12_notes (decide_eq_true (show 0 + 1 ≤ 6 + (d + 1) ∧ 8 + (3 + 11) + 0 ≤ 136 + 22 * (d + 1) from by omega)) rfl q_1586 q_1588 qs_55 rfl rfl dX12_one_182 ?_
            intro r15 m16
            refine g_goto (tgt := 201) dX12_one_185 (by decide) ?_
            exact g_return rfl dX12_one_201
        · refine g_aload_n (i := 0) dX12_one_130 rfl rfl ?_
          refine g_callVI cl_X12 (crt_X12_opensOne _ _ _ _) cw_X12_opensOne (decide_eq_true (show 1 + 1 ≤ 6 + (d + 1) ∧ 8 + (1 + 11) + 22 ≤ 136 + 22 * (d + 1) from by omega)) rfl q_1582 q_1584 qs_54 rfl rfl dX12_one_131 ?_
          intro r17 m18
          refine g_ifne (tgt := 138) dX12_one_134 (by decide) ?_ ?_
          · refine g_aload_n (i := 0) dX12_one_138 rfl rfl ?_
            refine g_dup dX12_one_139 rfl ?_
            refine g_getI (k := 4) cl_X12 (by decide) rfl q_1385 dX12_one_140 ?_
            refine g_iconst (v := (1 : Int32)) dX12_one_143 ki_1 ?_
            refine g_iadd dX12_one_144 ?_
            refine g_putI (k := 4) cl_X12 (by decide) rfl rfl q_1385 dX12_one_145 ?_
            intro m19
            refine g_aload_n (i := 0) dX12_one_148 rfl rfl ?_
            refine g_callVV cl_X12 (h_X12_sum _ _) (cw_X12_sum d) (decide_eq_true (show 6 + d + 1 ≤ 6 + (d + 1) ∧ 8 + (2 + 11) + (136 + 22 * d) ≤ 136 + 22 * (d + 1) from by omega)) rfl q_1570 q_1572 qs_51 rfl rfl dX12_one_149 ?_
            intro r20 m21
            refine g_aload_n (i := 0) dX12_one_152 rfl rfl ?_
            refine g_bipush (v := (41 : Int32)) dX12_one_153 kb_41 ?_
            refine g_callVV cl_X12 (crt_X12_sign _ _ _ _ _) cw_X12_sign (decide_eq_true (show 2 + 1 ≤ 6 + (d + 1) ∧ 8 + (2 + 11) + 41 ≤ 136 + 22 * (d + 1) from by omega)) rfl q_1558 q_1560 qs_49 rfl rfl dX12_one_155 ?_
            intro r22 m23
            refine g_aload_n (i := 0) dX12_one_158 rfl rfl ?_
            refine g_dup dX12_one_159 rfl ?_
            refine g_getI (k := 8) cl_X12 (by decide) rfl q_1389 dX12_one_160 ?_
            refine g_iconst (v := (1 : Int32)) dX12_one_163 ki_1 ?_
            refine g_isub dX12_one_164 ?_
            refine g_putI (k := 8) cl_X12 (by decide) rfl rfl q_1389 dX12_one_165 ?_
            intro m24
            exact g_return rfl dX12_one_168
          · exact g_return rfl dX12_one_137
      · refine g_aload_n (i := 0) dX12_one_62 rfl rfl ?_
        refine g_callVI cl_X12 (crt_X12_opensOne _ _ _ _) cw_X12_opensOne (decide_eq_true (show 1 + 1 ≤ 6 + (d + 1) ∧ 8 + (1 + 11) + 22 ≤ 136 + 22 * (d + 1) from by omega)) rfl q_1582 q_1584 qs_54 rfl rfl dX12_one_63 ?_
        intro r25 m26
        refine g_ifne (tgt := 70) dX12_one_66 (by decide) ?_ ?_
        · refine g_aload_n (i := 0) dX12_one_70 rfl rfl ?_
          refine g_callVV cl_X12 (crt_X12_skipWord _ _ _ _) cw_X12_skipWord (decide_eq_true (show 1 + 1 ≤ 6 + (d + 1) ∧ 8 + (1 + 11) + 21 ≤ 136 + 22 * (d + 1) from by omega)) rfl q_1546 q_1548 qs_47 rfl rfl dX12_one_71 ?_
          intro r27 m28
          refine g_aload_n (i := 0) dX12_one_74 rfl rfl ?_
          refine g_bipush (v := (91 : Int32)) dX12_one_75 kb_91 ?_
          refine g_callVV cl_X12 (crt_X12_sign _ _ _ _ _) cw_X12_sign (decide_eq_true (show 2 + 1 ≤ 6 + (d + 1) ∧ 8 + (2 + 11) + 41 ≤ 136 + 22 * (d + 1) from by omega)) rfl q_1558 q_1560 qs_49 rfl rfl dX12_one_77 ?_
          intro r29 m30
          refine g_aload_n (i := 0) dX12_one_80 rfl rfl ?_
          refine g_callVV cl_X12 (h_X12_sum _ _) (cw_X12_sum d) (decide_eq_true (show 6 + d + 1 ≤ 6 + (d + 1) ∧ 8 + (2 + 11) + (136 + 22 * d) ≤ 136 + 22 * (d + 1) from by omega)) rfl q_1570 q_1572 qs_51 rfl rfl dX12_one_81 ?_
          intro r31 m32
          refine g_aload_n (i := 0) dX12_one_84 rfl rfl ?_
          refine g_bipush (v := (44 : Int32)) dX12_one_85 kb_44 ?_
          refine g_callVV cl_X12 (crt_X12_sign _ _ _ _ _) cw_X12_sign (decide_eq_true (show 2 + 1 ≤ 6 + (d + 1) ∧ 8 + (2 + 11) + 41 ≤ 136 + 22 * (d + 1) from by omega)) rfl q_1558 q_1560 qs_49 rfl rfl dX12_one_87 ?_
          intro r33 m34
          refine g_aload_n (i := 0) dX12_one_90 rfl rfl ?_
          refine g_callVV cl_X12 (h_X12_sum _ _) (cw_X12_sum d) (decide_eq_true (show 6 + d + 1 ≤ 6 + (d + 1) ∧ 8 + (2 + 11) + (136 + 22 * d) ≤ 136 + 22 * (d + 1) from by omega)) rfl q_1570 q_1572 qs_51 rfl rfl dX12_one_91 ?_
          intro r35 m36
          refine g_aload_n (i := 0) dX12_one_94 rfl rfl ?_
          refine g_bipush (v := (93 : Int32)) dX12_one_95 kb_93 ?_
          refine g_callVV cl_X12 (crt_X12_sign _ _ _ _ _) cw_X12_sign (decide_eq_true (show 2 + 1 ≤ 6 + (d + 1) ∧ 8 + (2 + 11) + 41 ≤ 136 + 22 * (d + 1) from by omega)) rfl q_1558 q_1560 qs_49 rfl rfl dX12_one_97 ?_
          intro r37 m38
          refine g_aload_n (i := 0) dX12_one_100 rfl rfl ?_
          refine g_iload_n (i := 1) dX12_one_101 rfl rfl ?_
          refine g_iconst (v := (0 : Int32)) dX12_one_102 ki_0 ?_
          refine g_callVV cl_X12 (crt_X12_notes _ _ _ _ _ _) cw_X12_notes (decide_eq_true (show 0 + 1 ≤ 6 + (d + 1) ∧ 8 + (3 + 11) + 0 ≤ 136 + 22 * (d + 1) from by omega)) rfl q_1586 q_1588 qs_55 rfl rfl dX12_one_103 ?_
          intro r39 m40
          refine g_aload_n (i := 0) dX12_one_106 rfl rfl ?_
          refine g_dup dX12_one_107 rfl ?_
          refine g_getI (k := 8) cl_X12 (by decide) rfl q_1389 dX12_one_108 ?_
          refine g_iconst (v := (1 : Int32)) dX12_one_111 ki_1 ?_
          refine g_isub dX12_one_112 ?_
          refine g_putI (k := 8) cl_X12 (by decide) rfl rfl q_1389 dX12_one_113 ?_
          intro m41
          exact g_return rfl dX12_one_116
        · exact g_return rfl dX12_one_69
    · intro J56 hJ56
      refine g_ifeq (tgt := 33) dX12_one_25 (by decide) ?_ ?_
      · refine g_aload_n (i := 0) dX12_one_33 rfl rfl ?_
        refine g_bipush (v := (13 : Int32)) dX12_one_34 kb_13 ?_
        refine g_bipush (v := (15 : Int32)) dX12_one_36 kb_15 ?_
        refine g_bipush (v := (19 : Int32)) dX12_one_38 kb_19 ?_
        refine g_bipush (v := (20 : Int32)) dX12_one_40 kb_20 ?_
        refine g_iconst (v := (0 : Int32)) dX12_one_42 ki_0 ?_
        refine g_iconst (v := (0 : Int32)) dX12_one_43 ki_0 ?_
        refine g_callVI cl_X12 (crt_X12_isWord _ _ _ _ _ _ _ _ _ _) cw_X12_isWord (decide_eq_true (show 3 + 1 ≤ 6 + (d + 1) ∧ 8 + (7 + 11) + 63 ≤ 136 + 22 * (d + 1) from by omega)) rfl q_1528 q_1530 qs_44 rfl rfl dX12_one_44 ?_
        intro r42 m43
        refine g_ifeq (tgt := 55) dX12_one_47 (by decide) ?_ ?_
        · refine g_iconst (v := (-1 : Int32)) dX12_one_55 ki_m1 ?_
          exact g_msk [true, false, false] (hJ56 _ _ _)
        · refine g_bipush (v := (8 : Int32)) dX12_one_50 kb_8 ?_
          refine g_goto (tgt := 56) dX12_one_52 (by decide) ?_
          exact g_msk [true, false, false] (hJ56 _ _ _)
      · refine g_bipush (v := (7 : Int32)) dX12_one_28 kb_7 ?_
        refine g_goto (tgt := 56) dX12_one_30 (by decide) ?_
        exact g_msk [true, false, false] (hJ56 _ _ _)
  · exact g_return rfl dX12_one_7
set_option maxRecDepth 100000 in
set_option maxHeartbeats 4000000 in
theorem crtG_X12 (l : Launch) (θ : Th) : ∀ d : Nat, (∀ (a0 : Nat) (m : Mm), Crt l θ yX12_sum (M_X12_sum d) cvV [.ref a0] m ((G_X12 d).1 a0 m)) ∧ (∀ (a0 : Nat) (m : Mm), Crt l θ yX12_product (M_X12_product d) cvV [.ref a0] m ((G_X12 d).2.1 a0 m)) ∧ (∀ (a0 : Nat) (m : Mm), Crt l θ yX12_one (M_X12_one d) cvV [.ref a0] m ((G_X12 d).2.2 a0 m)) := by
  intro d
  induction d with
  | zero => exact ⟨fun a0 m => crt_no, fun a0 m => crt_no, fun a0 m => crt_no⟩
  | succ d ih => exact ⟨fun a0 m => crtB_X12_sum l θ d _ _ _ ih.1 ih.2.1 ih.2.2 a0 m, fun a0 m => crtB_X12_product l θ d _ _ _ ih.1 ih.2.1 ih.2.2 a0 m, fun a0 m => crtB_X12_one l θ d _ _ _ ih.1 ih.2.1 ih.2.2 a0 m⟩
theorem crt_X12_sum (l : Launch) (θ : Th) (d : Nat) (a0 : Nat) (m : Mm) : Crt l θ yX12_sum (M_X12_sum d) cvV [.ref a0] m (F_X12_sum d a0 m) := (crtG_X12 l θ d).1 a0 m
theorem crt_X12_product (l : Launch) (θ : Th) (d : Nat) (a0 : Nat) (m : Mm) : Crt l θ yX12_product (M_X12_product d) cvV [.ref a0] m (F_X12_product d a0 m) := (crtG_X12 l θ d).2.1 a0 m
theorem crt_X12_one (l : Launch) (θ : Th) (d : Nat) (a0 : Nat) (m : Mm) : Crt l θ yX12_one (M_X12_one d) cvV [.ref a0] m (F_X12_one d a0 m) := (crtG_X12 l θ d).2.2 a0 m
abbrev M_X12_readsStep (d : Nat) : MI := (cX12_readsStep, RX12, 3, 5 + d, 109 + 22 * d, none, "readsStep")
theorem cw_X12_readsStep (d : Nat) : CwOk (M_X12_readsStep d) yX12_readsStep 0 := ⟨q_1620, q_12, by decide +kernel⟩
def L_X12_readsStep_148 (f_X12_readsStep : Nat → Mm → Option (Unit × Mm)) (K179 : Nat → Nat → Mm → Option (Unit × Mm)) : Nat → Nat → Nat → Mm → Option (Unit × Mm)
 | 0, _, _, _ => none
 | n + 1, v0, v2, m =>
 gd (okO m v0 12) (
 if (rI m v0 5) = 0 then (
 gd (okO m v0 12) (
 gd (okO m v0 12) (bd (F_X12_byteAt v0 (rI m v0 4) m) fun r20 m21 =>
 if r20 = (93 : Int32) then (
 K179 v0 v2 m21)
 else (
 gd (okO m21 v0 12) (bd (f_X12_readsStep v0 m21) fun r22 m23 =>
 gd (okO m23 v0 12) (bd (F_X12_blanks v0 m23) fun r24 m25 =>
 L_X12_readsStep_148 f_X12_readsStep K179 n v0 v2 m25))))))
 else (
 K179 v0 v2 m))
def B_X12_readsStep (f_X12_readsStep : Nat → Mm → Option (Unit × Mm)) (a0 : Nat) (m : Mm) : Option (Unit × Mm) :=
 gd (okO m a0 12) (bd (F_X12_stepHere a0 m) fun r1 m2 =>
 lt9 r1 fun x3 =>
 jn (fun (v0 : Nat) (v1 : Int32) (m : Mm) =>
 jn (fun (v0 : Nat) (v1 : Int32) (m : Mm) =>
 gd (okO m v0 12) (
 if (rI m v0 5) = 0 then (
 gd (okO m v0 12) (bd (F_X12_skipWord v0 m) fun r4 m5 =>
 gd (okO m5 v0 12) (oc (rR m5 v0 21) none fun q6 =>
 gd (okO m5 v0 12) (
 gd (okA m5 106 q6 (rI m5 v0 22)) (oc (rR m5 q6 (ix (rI m5 v0 22))) none fun q7 =>
 gd (okO m5 v0 12) (
 gd (okO m5 v0 12) (lt9 (wI m5 v0 22 ((rI m5 v0 22) + (1 : Int32))) fun m8 =>
 gd (okA m8 100 q7 (0 : Int32)) (lt9 (wI m8 q7 (ix (0 : Int32)) v1) fun m9 =>
 jn (fun (v0 : Nat) (v1 : Int32) (v2 : Nat) (m : Mm) =>
 jn (fun (v0 : Nat) (v1 : Int32) (v2 : Nat) (m : Mm) =>
 jn (fun (v0 : Nat) (v1 : Int32) (v2 : Nat) (m : Mm) =>
 jn (fun (v0 : Nat) (v2 : Nat) (m : Mm) =>
 gd (okO m v0 12) (
 gd (okA m 100 v2 (3 : Int32)) (lt9 (wI m v2 (ix (3 : Int32)) (rI m v0 22)) fun m10 =>
 gd (okO m10 v0 12) (bd (F_X12_sign v0 (59 : Int32) m10) fun r11 m12 =>
 some ((), m12))))) fun J195 =>
 if v1 = (10 : Int32) then (
 gd (okO m v0 12) (bd (F_X12_number v0 (0 : Int32) (60 : Int32) m) fun r13 m14 =>
 gd (okA m14 100 v2 (1 : Int32)) (lt9 (wI m14 v2 (ix (1 : Int32)) r13) fun m15 =>
 gd (okO m15 v0 12) (bd (F_X12_sign v0 (91 : Int32) m15) fun r16 m17 =>
 gd (okO m17 v0 12) (bd (F_X12_blanks v0 m17) fun r18 m19 =>
 L_X12_readsStep_148 f_X12_readsStep (fun v0 v2 m =>
 gd (okO m v0 12) (bd (F_X12_sign v0 (93 : Int32) m) fun r26 m27 =>
 gd (okO m27 v0 12) (
 gd (okO m27 v0 12) (lt9 (wI m27 v0 8 ((rI m27 v0 8) - (1 : Int32))) fun m28 =>
 J195 v0 v2 m28)))) NF v0 v2 m19)))))
 else (
 J195 v0 v2 m)) fun J122 =>
 if v1 = (7 : Int32) then (
 gd (okO m v0 12) (bd (F_X12_number v0 (0 : Int32) (63 : Int32) m) fun r29 m30 =>
 gd (okA m30 100 v2 (1 : Int32)) (lt9 (wI m30 v2 (ix (1 : Int32)) r29) fun m31 =>
 J122 v0 v1 v2 m31)))
 else (
 J122 v0 v1 v2 m)) fun J106 =>
 if v1 = 0 then (
 gd (okO m v0 12) (bd (F_X12_number v0 (0 : Int32) (999 : Int32) m) fun r32 m33 =>
 gd (okA m33 100 v2 (2 : Int32)) (lt9 (wI m33 v2 (ix (2 : Int32)) r32) fun m34 =>
 J106 v0 v1 v2 m34)))
 else (
 J106 v0 v1 v2 m)) fun J91 =>
 if (7 : Int32) ≤ v1 then (
 J91 v0 v1 q7 m9)
 else (
 gd (okO m9 v0 12) (oc (rR m9 v0 12) none fun q35 =>
 gd (okA m9 100 q35 (0 : Int32)) (
 gd (okO m9 v0 12) (bd (F_X12_number v0 (0 : Int32) ((rI m9 q35 (ix (0 : Int32))) - (1 : Int32)) m9) fun r36 m37 =>
 gd (okA m37 100 q7 (1 : Int32)) (lt9 (wI m37 q7 (ix (1 : Int32)) r36) fun m38 =>
 J91 v0 v1 q7 m38)))))))))))))
 else (
 some ((), m)))) fun J33 =>
 if v1 = (10 : Int32) then (
 gd (okO m v0 12) (bd (F_X12_opensOne v0 m) fun r39 m40 =>
 if r39 = 0 then (
 some ((), m40))
 else (
 J33 v0 v1 m40)))
 else (
 J33 v0 v1 m)) fun J19 =>
 if x3 = (-1 : Int32) then (
 gd (okO m2 a0 12) (
 gd (okO m2 a0 12) (bd (F_X12_wrong a0 (1 : Int32) (rI m2 a0 4) m2) fun r41 m42 =>
 J19 a0 x3 m42)))
 else (
 J19 a0 x3 m2))
def G_X12s : Nat → (Nat → Mm → Option (Unit × Mm))
 | 0 => fun _ _ => none
 | d + 1 => B_X12_readsStep (G_X12s d)
def F_X12_readsStep (d : Nat) (a0 : Nat) (m : Mm) : Option (Unit × Mm) := G_X12s d a0 m
set_option maxRecDepth 100000 in
set_option maxHeartbeats 4000000 in
theorem c_L_X12_readsStep_148 {Z : Zx} {d : Nat} {f_X12_readsStep : Nat → Mm → Option (Unit × Mm)} (h_X12_readsStep : ∀ (a0 : Nat) (m : Mm), Crt (zl Z) (zθ Z) yX12_readsStep (M_X12_readsStep d) cvV [.ref a0] m (f_X12_readsStep a0 m)) {K179 : Nat → Nat → Mm → Option (Unit × Mm)} (hK179 : ∀ (v0 : Nat) (v2 : Nat) (m : Mm), GG Z (M_X12_readsStep (d + 1)) (PsN Z cvV) 179 [some (.ref v0), none, some (.ref v2)] [] m (K179 v0 v2 m)) : ∀ (n : Nat) (v0 : Nat) (v2 : Nat) (m : Mm), GG Z (M_X12_readsStep (d + 1)) (PsN Z cvV) 148 [some (.ref v0), none, some (.ref v2)] [] m (L_X12_readsStep_148 f_X12_readsStep K179 n v0 v2 m) := by
  intro n
  induction n with
  | zero => intro v0 v2 m; exact g_no
  | succ n ih =>
    intro v0 v2 m
    unfold L_X12_readsStep_148
    refine g_aload_n (i := 0) dX12_readsStep_148 rfl rfl ?_
    refine g_getI (k := 5) cl_X12 (by decide) rfl q_1386 dX12_readsStep_149 ?_
    refine g_ifne (tgt := 179) dX12_readsStep_152 (by decide) ?_ ?_
    · exact g_msk [true, false, true] (hK179 _ _ _)
    · refine g_aload_n (i := 0) dX12_readsStep_155 rfl rfl ?_
      refine g_aload_n (i := 0) dX12_readsStep_156 rfl rfl ?_
      refine g_getI (k := 4) cl_X12 (by decide) rfl q_1385 dX12_readsStep_157 ?_
      refine g_callVI cl_X12 (crt_X12_byteAt _ _ _ _ _) cw_X12_byteAt (decide_eq_true (show 0 + 1 ≤ 5 + (d + 1) ∧ 8 + (2 + 11) + 0 ≤ 109 + 22 * (d + 1) from by omega)) rfl q_1520 q_1522 qs_42 rfl rfl dX12_readsStep_160 ?_
      intro r20 m21
      refine g_bipush (v := (93 : Int32)) dX12_readsStep_163 kb_93 ?_
      refine g_icmpeq (tgt := 179) dX12_readsStep_165 (by decide) ?_ ?_
      · exact g_msk [true, false, true] (hK179 _ _ _)
      · refine g_aload_n (i := 0) dX12_readsStep_168 rfl rfl ?_
        refine g_callVV cl_X12 (h_X12_readsStep _ _) (cw_X12_readsStep d) (decide_eq_true (show 5 + d + 1 ≤ 5 + (d + 1) ∧ 8 + (3 + 11) + (109 + 22 * d) ≤ 109 + 22 * (d + 1) from by omega)) rfl q_1617 q_1619 qs_59 rfl rfl dX12_readsStep_169 ?_
        intro r22 m23
        refine g_aload_n (i := 0) dX12_readsStep_172 rfl rfl ?_
        refine g_callVV cl_X12 (crt_X12_blanks _ _ _ _) cw_X12_blanks (decide_eq_true (show 1 + 1 ≤ 5 + (d + 1) ∧ 8 + (1 + 11) + 21 ≤ 109 + 22 * (d + 1) from by omega)) rfl q_1516 q_1518 qs_41 rfl rfl dX12_readsStep_173 ?_
        intro r24 m25
        refine g_goto (tgt := 148) dX12_readsStep_176 (by decide) ?_
        exact g_msk [true, false, true] (ih _ _ _)
set_option maxRecDepth 100000 in
set_option maxHeartbeats 4000000 in
theorem crtB_X12_readsStep (l : Launch) (θ : Th) (d : Nat) (f_X12_readsStep : Nat → Mm → Option (Unit × Mm)) (h_X12_readsStep : ∀ (a0 : Nat) (m : Mm), Crt l θ yX12_readsStep (M_X12_readsStep d) cvV [.ref a0] m (f_X12_readsStep a0 m)) (a0 : Nat) (m : Mm) : Crt l θ yX12_readsStep (M_X12_readsStep (d + 1)) cvV [.ref a0] m (B_X12_readsStep f_X12_readsStep a0 m) := by
  refine crt_of3 2 (by decide) rfl rfl (Nat.le_of_ble_eq_true rfl) (fun Z hμ hl hθ => ?_)
  subst hl
  subst hθ
  unfold B_X12_readsStep
  show GG Z _ _ 0 [some (.ref a0), none, none] [] m _
  refine g_aload_n (i := 0) dX12_readsStep_0 rfl rfl ?_
  refine g_callVI cl_X12 (crt_X12_stepHere _ _ _ _) cw_X12_stepHere (decide_eq_true (show 4 + 1 ≤ 5 + (d + 1) ∧ 8 + (1 + 11) + 89 ≤ 109 + 22 * (d + 1) from by omega)) rfl q_1621 q_1623 qs_60 rfl rfl dX12_readsStep_1 ?_
  intro r1 m2
  refine g_istore_n (i := 1) dX12_readsStep_4 rfl (show 1 < 3 by decide) ?_
  intro x3
  refine g_iload_n (i := 1) dX12_readsStep_5 rfl rfl ?_
  refine g_iconst (v := (-1 : Int32)) dX12_readsStep_6 ki_m1 ?_
  refine g_jn (fun J19 => ∀ (v0 : Nat) (v1 : Int32) (m : Mm), GG Z (M_X12_readsStep (d + 1)) (PsN Z cvV) 19 [some (.ref v0), some (.int v1), none] [] m (J19 v0 v1 m)) ?_ ?_
  · intro v0 v1 m
    refine g_iload_n (i := 1) dX12_readsStep_19 rfl rfl ?_
    refine g_bipush (v := (10 : Int32)) dX12_readsStep_20 kb_10 ?_
    refine g_jn (fun J33 => ∀ (v0 : Nat) (v1 : Int32) (m : Mm), GG Z (M_X12_readsStep (d + 1)) (PsN Z cvV) 33 [some (.ref v0), some (.int v1), none] [] m (J33 v0 v1 m)) ?_ ?_
    · intro v0 v1 m
      refine g_aload_n (i := 0) dX12_readsStep_33 rfl rfl ?_
      refine g_getI (k := 5) cl_X12 (by decide) rfl q_1386 dX12_readsStep_34 ?_
      refine g_ifeq (tgt := 41) dX12_readsStep_37 (by decide) ?_ ?_
      · refine g_aload_n (i := 0) dX12_readsStep_41 rfl rfl ?_
        refine g_callVV cl_X12 (crt_X12_skipWord _ _ _ _) cw_X12_skipWord (decide_eq_true (show 1 + 1 ≤ 5 + (d + 1) ∧ 8 + (1 + 11) + 21 ≤ 109 + 22 * (d + 1) from by omega)) rfl q_1546 q_1548 qs_47 rfl rfl dX12_readsStep_42 ?_
        intro r4 m5
        refine g_aload_n (i := 0) dX12_readsStep_45 rfl rfl ?_
        refine g_getR (k := 21) cl_X12 (by decide) rfl q_1402 dX12_readsStep_46 ?_
        intro q6
        refine g_aload_n (i := 0) dX12_readsStep_49 rfl rfl ?_
        refine g_getI (k := 22) cl_X12 (by decide) rfl q_1403 dX12_readsStep_50 ?_
        refine g_aaloadA dX12_readsStep_53 g_no ?_
        intro q7
        refine g_astore_n (i := 2) dX12_readsStep_54 rfl (show 2 < 3 by decide) ?_
        refine g_aload_n (i := 0) dX12_readsStep_55 rfl rfl ?_
        refine g_dup dX12_readsStep_56 rfl ?_
        refine g_getI (k := 22) cl_X12 (by decide) rfl q_1403 dX12_readsStep_57 ?_
        refine g_iconst (v := (1 : Int32)) dX12_readsStep_60 ki_1 ?_
        refine g_iadd dX12_readsStep_61 ?_
        refine g_putI (k := 22) cl_X12 (by decide) rfl rfl q_1403 dX12_readsStep_62 ?_
        intro m8
        refine g_aload_n (i := 2) dX12_readsStep_65 rfl rfl ?_
        refine g_iconst (v := (0 : Int32)) dX12_readsStep_66 ki_0 ?_
        refine g_iload_n (i := 1) dX12_readsStep_67 rfl rfl ?_
        refine g_iastore dX12_readsStep_68 ?_
        intro m9
        refine g_iload_n (i := 1) dX12_readsStep_69 rfl rfl ?_
        refine g_bipush (v := (7 : Int32)) dX12_readsStep_70 kb_7 ?_
        refine g_jn (fun J91 => ∀ (v0 : Nat) (v1 : Int32) (v2 : Nat) (m : Mm), GG Z (M_X12_readsStep (d + 1)) (PsN Z cvV) 91 [some (.ref v0), some (.int v1), some (.ref v2)] [] m (J91 v0 v1 v2 m)) ?_ ?_
        · intro v0 v1 v2 m
          refine g_iload_n (i := 1) dX12_readsStep_91 rfl rfl ?_
          refine g_jn (fun J106 => ∀ (v0 : Nat) (v1 : Int32) (v2 : Nat) (m : Mm), GG Z (M_X12_readsStep (d + 1)) (PsN Z cvV) 106 [some (.ref v0), some (.int v1), some (.ref v2)] [] m (J106 v0 v1 v2 m)) ?_ ?_
          · intro v0 v1 v2 m
            refine g_iload_n (i := 1) dX12_readsStep_106 rfl rfl ?_
            refine g_bipush (v := (7 : Int32)) dX12_readsStep_107 kb_7 ?_
            refine g_jn (fun J122 => ∀ (v0 : Nat) (v1 : Int32) (v2 : Nat) (m : Mm), GG Z (M_X12_readsStep (d + 1)) (PsN Z cvV) 122 [some (.ref v0), some (.int v1), some (.ref v2)] [] m (J122 v0 v1 v2 m)) ?_ ?_
            · intro v0 v1 v2 m
              refine g_iload_n (i := 1) dX12_readsStep_122 rfl rfl ?_
              refine g_bipush (v := (10 : Int32)) dX12_readsStep_123 kb_10 ?_
              refine g_jn (fun J195 => ∀ (v0 : Nat) (v2 : Nat) (m : Mm), GG Z (M_X12_readsStep (d + 1)) (PsN Z cvV) 195 [some (.ref v0), none, some (.ref v2)] [] m (J195 v0 v2 m)) ?_ ?_
              · intro v0 v2 m
                refine g_aload_n (i := 2) dX12_readsStep_195 rfl rfl ?_
                refine g_iconst (v := (3 : Int32)) dX12_readsStep_196 ki_3 ?_
                refine g_aload_n (i := 0) dX12_readsStep_197 rfl rfl ?_
                refine g_getI (k := 22) cl_X12 (by decide) rfl q_1403 dX12_readsStep_198 ?_
                refine g_iastore dX12_readsStep_201 ?_
                intro m10
                refine g_aload_n (i := 0) dX12_readsStep_202 rfl rfl ?_
                refine g_bipush (v := (59 : Int32)) dX12_readsStep_203 kb_59 ?_
                refine g_callVV cl_X12 (crt_X12_sign _ _ _ _ _) cw_X12_sign (decide_eq_true (show 2 + 1 ≤ 5 + (d + 1) ∧ 8 + (2 + 11) + 41 ≤ 109 + 22 * (d + 1) from by omega)) rfl q_1558 q_1560 qs_49 rfl rfl dX12_readsStep_205 ?_
                intro r11 m12
                exact g_return rfl dX12_readsStep_208
              · intro J195 hJ195
                refine g_icmpne (tgt := 195) dX12_readsStep_125 (by decide) ?_ ?_
                · exact g_msk [true, false, true] (hJ195 _ _ _)
                · refine g_aload_n (i := 2) dX12_readsStep_128 rfl rfl ?_
                  refine g_iconst (v := (1 : Int32)) dX12_readsStep_129 ki_1 ?_
                  refine g_aload_n (i := 0) dX12_readsStep_130 rfl rfl ?_
                  refine g_iconst (v := (0 : Int32)) dX12_readsStep_131 ki_0 ?_
                  refine g_bipush (v := (60 : Int32)) dX12_readsStep_132 kb_60 ?_
                  refine g_callVI cl_X12 (crt_X12_number _ _ _ _ _ _) cw_X12_number (decide_eq_true (show 2 + 1 ≤ 5 + (d + 1) ∧ 8 + (5 + 11) + 41 ≤ 109 + 22 * (d + 1) from by omega)) rfl q_1550 q_1552 qs_48 rfl rfl dX12_readsStep_134 ?_
                  intro r13 m14
                  refine g_iastore dX12_readsStep_137 ?_
                  intro m15
                  refine g_aload_n (i := 0) dX12_readsStep_138 rfl rfl ?_
                  refine g_bipush (v := (91 : Int32)) dX12_readsStep_139 kb_91 ?_
                  refine g_callVV cl_X12 (crt_X12_sign _ _ _ _ _) cw_X12_sign (decide_eq_true (show 2 + 1 ≤ 5 + (d + 1) ∧ 8 + (2 + 11) + 41 ≤ 109 + 22 * (d + 1) from by omega)) rfl q_1558 q_1560 qs_49 rfl rfl dX12_readsStep_141 ?_
                  intro r16 m17
                  refine g_aload_n (i := 0) dX12_readsStep_144 rfl rfl ?_
                  refine g_callVV cl_X12 (crt_X12_blanks _ _ _ _) cw_X12_blanks (decide_eq_true (show 1 + 1 ≤ 5 + (d + 1) ∧ 8 + (1 + 11) + 21 ≤ 109 + 22 * (d + 1) from by omega)) rfl q_1516 q_1518 qs_41 rfl rfl dX12_readsStep_145 ?_
                  intro r18 m19
                  refine g_msk [true, false, true] (c_L_X12_readsStep_148 h_X12_readsStep ?_ NF _ _ _)
                  intro v0 v2 m
                  refine g_aload_n (i := 0) dX12_readsStep_179 rfl rfl ?_
                  refine g_bipush (v := (93 : Int32)) dX12_readsStep_180 kb_93 ?_
                  refine g_callVV cl_X12 (crt_X12_sign _ _ _ _ _) cw_X12_sign (decide_eq_true (show 2 + 1 ≤ 5 + (d + 1) ∧ 8 + (2 + 11) + 41 ≤ 109 + 22 * (d + 1) from by omega)) rfl q_1558 q_1560 qs_49 rfl rfl dX12_readsStep_182 ?_
                  intro r26 m27
                  refine g_aload_n (i := 0) dX12_readsStep_185 rfl rfl ?_
                  refine g_dup dX12_readsStep_186 rfl ?_
                  refine g_getI (k := 8) cl_X12 (by decide) rfl q_1389 dX12_readsStep_187 ?_
                  refine g_iconst (v := (1 : Int32)) dX12_readsStep_190 ki_1 ?_
                  refine g_isub dX12_readsStep_191 ?_
                  refine g_putI (k := 8) cl_X12 (by decide) rfl rfl q_1389 dX12_readsStep_192 ?_
                  intro m28
                  exact g_msk [true, false, true] (hJ195 _ _ _)
            · intro J122 hJ122
              refine g_icmpne (tgt := 122) dX12_readsStep_109 (by decide) ?_ ?_
              · exact g_msk [true, true, true] (hJ122 _ _ _ _)
              · refine g_aload_n (i := 2) dX12_readsStep_112 rfl rfl ?_
                refine g_iconst (v := (1 : Int32)) dX12_readsStep_113 ki_1 ?_
                refine g_aload_n (i := 0) dX12_readsStep_114 rfl rfl ?_
                refine g_iconst (v := (0 : Int32)) dX12_readsStep_115 ki_0 ?_
                refine g_bipush (v := (63 : Int32)) dX12_readsStep_116 kb_63 ?_
                refine g_callVI cl_X12 (crt_X12_number _ _ _ _ _ _) cw_X12_number (decide_eq_true (show 2 + 1 ≤ 5 + (d + 1) ∧ 8 + (5 + 11) + 41 ≤ 109 + 22 * (d + 1) from by omega)) rfl q_1550 q_1552 qs_48 rfl rfl dX12_readsStep_118 ?_
                intro r29 m30
                refine g_iastore dX12_readsStep_121 ?_
                intro m31
                exact g_msk [true, true, true] (hJ122 _ _ _ _)
          · intro J106 hJ106
            refine g_ifne (tgt := 106) dX12_readsStep_92 (by decide) ?_ ?_
            · exact g_msk [true, true, true] (hJ106 _ _ _ _)
            · refine g_aload_n (i := 2) dX12_readsStep_95 rfl rfl ?_
              refine g_iconst (v := (2 : Int32)) dX12_readsStep_96 ki_2 ?_
              refine g_aload_n (i := 0) dX12_readsStep_97 rfl rfl ?_
              refine g_iconst (v := (0 : Int32)) dX12_readsStep_98 ki_0 ?_
              refine g_sipush (v := (999 : Int32)) dX12_readsStep_99 ks_999 ?_
              refine g_callVI cl_X12 (crt_X12_number _ _ _ _ _ _) cw_X12_number (decide_eq_true (show 2 + 1 ≤ 5 + (d + 1) ∧ 8 + (5 + 11) + 41 ≤ 109 + 22 * (d + 1) from by omega)) rfl q_1550 q_1552 qs_48 rfl rfl dX12_readsStep_102 ?_
              intro r32 m33
              refine g_iastore dX12_readsStep_105 ?_
              intro m34
              exact g_msk [true, true, true] (hJ106 _ _ _ _)
        · intro J91 hJ91
          refine g_icmpge (tgt := 91) dX12_readsStep_72 (by decide) ?_ ?_
          · exact g_msk [true, true, true] (hJ91 _ _ _ _)
          · refine g_aload_n (i := 2) dX12_readsStep_75 rfl rfl ?_
            refine g_iconst (v := (1 : Int32)) dX12_readsStep_76 ki_1 ?_
            refine g_aload_n (i := 0) dX12_readsStep_77 rfl rfl ?_
            refine g_iconst (v := (0 : Int32)) dX12_readsStep_78 ki_0 ?_
            refine g_aload_n (i := 0) dX12_readsStep_79 rfl rfl ?_
            refine g_getR (k := 12) cl_X12 (by decide) rfl q_1393 dX12_readsStep_80 ?_
            intro q35
            refine g_iconst (v := (0 : Int32)) dX12_readsStep_83 ki_0 ?_
            refine g_iaload dX12_readsStep_84 ?_
            refine g_iconst (v := (1 : Int32)) dX12_readsStep_85 ki_1 ?_
            refine g_isub dX12_readsStep_86 ?_
            refine g_callVI cl_X12 (crt_X12_number _ _ _ _ _ _) cw_X12_number (decide_eq_true (show 2 + 1 ≤ 5 + (d + 1) ∧ 8 + (5 + 11) + 41 ≤ 109 + 22 * (d + 1) from by omega)) rfl q_1550 q_1552 qs_48 rfl rfl dX12_readsStep_87 ?_
            intro r36 m37
            refine g_iastore dX12_readsStep_90 ?_
            intro m38
            exact g_msk [true, true, true] (hJ91 _ _ _ _)
      · exact g_return rfl dX12_readsStep_40
    · intro J33 hJ33
      refine g_icmpne (tgt := 33) dX12_readsStep_22 (by decide) ?_ ?_
      · exact g_msk [true, true, false] (hJ33 _ _ _)
      · refine g_aload_n (i := 0) dX12_readsStep_25 rfl rfl ?_
        refine g_callVI cl_X12 (crt_X12_opensOne _ _ _ _) cw_X12_opensOne (decide_eq_true (show 1 + 1 ≤ 5 + (d + 1) ∧ 8 + (1 + 11) + 22 ≤ 109 + 22 * (d + 1) from by omega)) rfl q_1582 q_1584 qs_54 rfl rfl dX12_readsStep_26 ?_
        intro r39 m40
        refine g_ifne (tgt := 33) dX12_readsStep_29 (by decide) ?_ ?_
        · exact g_msk [true, true, false] (hJ33 _ _ _)
        · exact g_return rfl dX12_readsStep_32
  · intro J19 hJ19
    refine g_icmpne (tgt := 19) dX12_readsStep_7 (by decide) ?_ ?_
    · exact g_msk [true, true, false] (hJ19 _ _ _)
    · refine g_aload_n (i := 0) dX12_readsStep_10 rfl rfl ?_
      refine g_iconst (v := (1 : Int32)) dX12_readsStep_11 ki_1 ?_
      refine g_aload_n (i := 0) dX12_readsStep_12 rfl rfl ?_
      refine g_getI (k := 4) cl_X12 (by decide) rfl q_1385 dX12_readsStep_13 ?_
      refine g_callVV cl_X12 (crt_X12_wrong _ _ _ _ _ _) cw_X12_wrong (decide_eq_true (show 0 + 1 ≤ 5 + (d + 1) ∧ 8 + (3 + 11) + 0 ≤ 109 + 22 * (d + 1) from by omega)) rfl q_1542 q_1544 qs_46 rfl rfl dX12_readsStep_16 ?_
      intro r41 m42
      exact g_msk [true, true, false] (hJ19 _ _ _)
set_option maxRecDepth 100000 in
set_option maxHeartbeats 4000000 in
theorem crtG_X12s (l : Launch) (θ : Th) : ∀ d : Nat, (∀ (a0 : Nat) (m : Mm), Crt l θ yX12_readsStep (M_X12_readsStep d) cvV [.ref a0] m (G_X12s d a0 m)) := by
  intro d
  induction d with
  | zero => exact fun a0 m => crt_no
  | succ d ih => exact fun a0 m => crtB_X12_readsStep l θ d _ ih a0 m
theorem crt_X12_readsStep (l : Launch) (θ : Th) (d : Nat) (a0 : Nat) (m : Mm) : Crt l θ yX12_readsStep (M_X12_readsStep d) cvV [.ref a0] m (F_X12_readsStep d a0 m) := (crtG_X12s l θ d) a0 m
abbrev M_X12_goes (d : Nat) : MI := (cX12_goes, RX12, 5, 11 + d, 253 + 24 * d, none, "goes")
theorem cw_X12_goes (d : Nat) : CwOk (M_X12_goes d) yX12_goes 2 := ⟨q_1631, q_12, by decide +kernel⟩
def L_X12_goes_43 (f_X12_goes : Nat → Int32 → Int32 → Mm → Option (Unit × Mm)) (K87 : Nat → Int32 → Int32 → Mm → Option (Unit × Mm)) : Nat → Nat → Int32 → Int32 → Int32 → Mm → Option (Unit × Mm)
 | 0, _, _, _, _, _ => none
 | n + 1, v0, v2, v3, v4, m =>
 gd (okO m v0 12) (oc (rR m v0 21) none fun q17 =>
 gd (okA m 106 q17 v3) (oc (rR m q17 (ix v3)) none fun q18 =>
 gd (okA m 100 q18 (1 : Int32)) (
 if (rI m q18 (ix (1 : Int32))) ≤ v4 then (
 K87 v0 v2 v3 m)
 else (
 gd (okO m v0 12) (
 if (200 : Int32) ≤ (rI m v0 32) then (
 K87 v0 v2 v3 m)
 else (
 gd (okO m v0 12) (oc (rR m v0 21) none fun q19 =>
 gd (okA m 106 q19 v3) (oc (rR m q19 (ix v3)) none fun q20 =>
 gd (okA m 100 q20 (3 : Int32)) (
 gd (okO m v0 12) (bd (f_X12_goes v0 (v3 + (1 : Int32)) (rI m q20 (ix (3 : Int32))) m) fun r21 m22 =>
 lt9 (v4 + (1 : Int32)) fun x23 =>
 L_X12_goes_43 f_X12_goes K87 n v0 v2 v3 x23 m22))))))))))
def L_X12_goes_2 (f_X12_goes : Nat → Int32 → Int32 → Mm → Option (Unit × Mm)) : Nat → Nat → Int32 → Int32 → Mm → Option (Unit × Mm)
 | 0, _, _, _, _ => none
 | n + 1, v0, v2, v3, m =>
 if v2 ≤ v3 then (
 some ((), m))
 else (
 gd (okO m v0 12) (
 if (200 : Int32) ≤ (rI m v0 32) then (
 some ((), m))
 else (
 gd (okO m v0 12) (
 gd (okO m v0 12) (lt9 (wI m v0 32 ((rI m v0 32) + (1 : Int32))) fun m2 =>
 gd (okO m2 v0 12) (oc (rR m2 v0 21) none fun q3 =>
 gd (okA m2 106 q3 v3) (oc (rR m2 q3 (ix v3)) none fun q4 =>
 gd (okA m2 100 q4 (0 : Int32)) (
 jn (fun (v0 : Nat) (v2 : Int32) (v3 : Int32) (m : Mm) =>
 gd (okO m v0 12) (oc (rR m v0 21) none fun q5 =>
 gd (okA m 106 q5 v3) (oc (rR m q5 (ix v3)) none fun q6 =>
 gd (okA m 100 q6 (3 : Int32)) (
 lt9 (rI m q6 (ix (3 : Int32))) fun x7 =>
 L_X12_goes_2 f_X12_goes n v0 v2 x7 m)))) fun J144 =>
 if (rI m2 q4 (ix (0 : Int32))) = (10 : Int32) then (
 lt9 (0 : Int32) fun x16 =>
 L_X12_goes_43 f_X12_goes (fun v0 v2 v3 m =>
 J144 v0 v2 v3 m) NF v0 v2 v3 x16 m2)
 else (
 gd (okO m2 v0 12) (oc (rR m2 v0 23) none fun q8 =>
 gd (okO m2 v0 12) (oc (rR m2 v0 21) none fun q9 =>
 gd (okA m2 106 q9 v3) (oc (rR m2 q9 (ix v3)) none fun q10 =>
 gd (okO m2 v0 12) (bd (F_X12_does v0 q8 q10 m2) fun r11 m12 =>
 lt9 r11 fun x13 =>
 gd (okO m12 v0 12) (
 jn (fun (v0 : Nat) (v2 : Int32) (v3 : Int32) (v4 : Int32) (s0 : Int32) (s1 : Int32) (s2 : Nat) (m : Mm) =>
 gd (okO m s2 12) (lt9 (wI m s2 33 (s1 + s0)) fun m14 =>
 gd (okO m14 v0 12) (
 jn (fun (v0 : Nat) (v2 : Int32) (v3 : Int32) (s0 : Int32) (s1 : Int32) (s2 : Nat) (m : Mm) =>
 gd (okO m s2 12) (lt9 (wI m s2 29 (s1 + s0)) fun m15 =>
 J144 v0 v2 v3 m15)) fun J140 =>
 if v4 = 0 then (
 J140 v0 v2 v3 (1 : Int32) (rI m14 v0 29) v0 m14)
 else (
 J140 v0 v2 v3 (0 : Int32) (rI m14 v0 29) v0 m14)))) fun J121 =>
 if x13 = 0 then (
 J121 v0 v2 v3 x13 (0 : Int32) (rI m12 v0 33) v0 m12)
 else (
 J121 v0 v2 v3 x13 (1 : Int32) (rI m12 v0 33) v0 m12)))))))))))))))
def B_X12_goes (f_X12_goes : Nat → Int32 → Int32 → Mm → Option (Unit × Mm)) (a0 : Nat) (a1 : Int32) (a2 : Int32) (m : Mm) : Option (Unit × Mm) :=
 lt9 a1 fun x1 =>
 L_X12_goes_2 f_X12_goes NF a0 a2 x1 m
def G_X12g : Nat → (Nat → Int32 → Int32 → Mm → Option (Unit × Mm))
 | 0 => fun _ _ _ _ => none
 | d + 1 => B_X12_goes (G_X12g d)
def F_X12_goes (d : Nat) (a0 : Nat) (a1 : Int32) (a2 : Int32) (m : Mm) : Option (Unit × Mm) := G_X12g d a0 a1 a2 m
set_option maxRecDepth 100000 in
set_option maxHeartbeats 4000000 in
theorem c_L_X12_goes_43 {Z : Zx} {d : Nat} {f_X12_goes : Nat → Int32 → Int32 → Mm → Option (Unit × Mm)} (h_X12_goes : ∀ (a0 : Nat) (a1 : Int32) (a2 : Int32) (m : Mm), Crt (zl Z) (zθ Z) yX12_goes (M_X12_goes d) cvV [.ref a0, .int a1, .int a2] m (f_X12_goes a0 a1 a2 m)) {K87 : Nat → Int32 → Int32 → Mm → Option (Unit × Mm)} (hK87 : ∀ (v0 : Nat) (v2 : Int32) (v3 : Int32) (m : Mm), GG Z (M_X12_goes (d + 1)) (PsN Z cvV) 87 [some (.ref v0), none, some (.int v2), some (.int v3), none] [] m (K87 v0 v2 v3 m)) : ∀ (n : Nat) (v0 : Nat) (v2 : Int32) (v3 : Int32) (v4 : Int32) (m : Mm), GG Z (M_X12_goes (d + 1)) (PsN Z cvV) 43 [some (.ref v0), none, some (.int v2), some (.int v3), some (.int v4)] [] m (L_X12_goes_43 f_X12_goes K87 n v0 v2 v3 v4 m) := by
  intro n
  induction n with
  | zero => intro v0 v2 v3 v4 m; exact g_no
  | succ n ih =>
    intro v0 v2 v3 v4 m
    unfold L_X12_goes_43
    refine g_iload dX12_goes_43 rfl ?_
    refine g_aload_n (i := 0) dX12_goes_45 rfl rfl ?_
    refine g_getR (k := 21) cl_X12 (by decide) rfl q_1402 dX12_goes_46 ?_
    intro q17
    refine g_iload_n (i := 3) dX12_goes_49 rfl rfl ?_
    refine g_aaloadA dX12_goes_50 g_no ?_
    intro q18
    refine g_iconst (v := (1 : Int32)) dX12_goes_51 ki_1 ?_
    refine g_iaload dX12_goes_52 ?_
    refine g_icmpge (tgt := 87) dX12_goes_53 (by decide) ?_ ?_
    · exact g_msk [true, false, true, true, false] (hK87 _ _ _ _)
    · refine g_aload_n (i := 0) dX12_goes_56 rfl rfl ?_
      refine g_getI (k := 32) cl_X12 (by decide) rfl q_1413 dX12_goes_57 ?_
      refine g_sipush (v := (200 : Int32)) dX12_goes_60 ks_200 ?_
      refine g_icmpge (tgt := 87) dX12_goes_63 (by decide) ?_ ?_
      · exact g_msk [true, false, true, true, false] (hK87 _ _ _ _)
      · refine g_aload_n (i := 0) dX12_goes_66 rfl rfl ?_
        refine g_iload_n (i := 3) dX12_goes_67 rfl rfl ?_
        refine g_iconst (v := (1 : Int32)) dX12_goes_68 ki_1 ?_
        refine g_iadd dX12_goes_69 ?_
        refine g_aload_n (i := 0) dX12_goes_70 rfl rfl ?_
        refine g_getR (k := 21) cl_X12 (by decide) rfl q_1402 dX12_goes_71 ?_
        intro q19
        refine g_iload_n (i := 3) dX12_goes_74 rfl rfl ?_
        refine g_aaloadA dX12_goes_75 g_no ?_
        intro q20
        refine g_iconst (v := (3 : Int32)) dX12_goes_76 ki_3 ?_
        refine g_iaload dX12_goes_77 ?_
        refine g_callVV cl_X12 (h_X12_goes _ _ _ _) (cw_X12_goes d) (decide_eq_true (show 11 + d + 1 ≤ 11 + (d + 1) ∧ 8 + (5 + 11) + (253 + 24 * d) ≤ 253 + 24 * (d + 1) from by omega)) rfl q_1628 q_1630 qs_61 rfl rfl dX12_goes_78 ?_
        intro r21 m22
        refine g_iinc dX12_goes_81 rfl ki_1 (show 4 < 5 by decide) ?_
        intro x23
        refine g_goto (tgt := 43) dX12_goes_84 (by decide) ?_
        exact g_msk [true, false, true, true, true] (ih _ _ _ _ _)
set_option maxRecDepth 100000 in
set_option maxHeartbeats 4000000 in
theorem c_L_X12_goes_2 {Z : Zx} {d : Nat} {f_X12_goes : Nat → Int32 → Int32 → Mm → Option (Unit × Mm)} (h_X12_goes : ∀ (a0 : Nat) (a1 : Int32) (a2 : Int32) (m : Mm), Crt (zl Z) (zθ Z) yX12_goes (M_X12_goes d) cvV [.ref a0, .int a1, .int a2] m (f_X12_goes a0 a1 a2 m))   : ∀ (n : Nat) (v0 : Nat) (v2 : Int32) (v3 : Int32) (m : Mm), GG Z (M_X12_goes (d + 1)) (PsN Z cvV) 2 [some (.ref v0), none, some (.int v2), some (.int v3), none] [] m (L_X12_goes_2 f_X12_goes n v0 v2 v3 m) := by
  intro n
  induction n with
  | zero => intro v0 v2 v3 m; exact g_no
  | succ n ih =>
    intro v0 v2 v3 m
    unfold L_X12_goes_2
    refine g_iload_n (i := 3) dX12_goes_2 rfl rfl ?_
    refine g_iload_n (i := 2) dX12_goes_3 rfl rfl ?_
    refine g_icmpge (tgt := 156) dX12_goes_4 (by decide) ?_ ?_
    · exact g_return rfl dX12_goes_156
    · refine g_aload_n (i := 0) dX12_goes_7 rfl rfl ?_
      refine g_getI (k := 32) cl_X12 (by decide) rfl q_1413 dX12_goes_8 ?_
      refine g_sipush (v := (200 : Int32)) dX12_goes_11 ks_200 ?_
      refine g_icmpge (tgt := 156) dX12_goes_14 (by decide) ?_ ?_
      · exact g_return rfl dX12_goes_156
      · refine g_aload_n (i := 0) dX12_goes_17 rfl rfl ?_
        refine g_dup dX12_goes_18 rfl ?_
        refine g_getI (k := 32) cl_X12 (by decide) rfl q_1413 dX12_goes_19 ?_
        refine g_iconst (v := (1 : Int32)) dX12_goes_22 ki_1 ?_
        refine g_iadd dX12_goes_23 ?_
        refine g_putI (k := 32) cl_X12 (by decide) rfl rfl q_1413 dX12_goes_24 ?_
        intro m2
        refine g_aload_n (i := 0) dX12_goes_27 rfl rfl ?_
        refine g_getR (k := 21) cl_X12 (by decide) rfl q_1402 dX12_goes_28 ?_
        intro q3
        refine g_iload_n (i := 3) dX12_goes_31 rfl rfl ?_
        refine g_aaloadA dX12_goes_32 g_no ?_
        intro q4
        refine g_iconst (v := (0 : Int32)) dX12_goes_33 ki_0 ?_
        refine g_iaload dX12_goes_34 ?_
        refine g_bipush (v := (10 : Int32)) dX12_goes_35 kb_10 ?_
        refine g_jn (fun J144 => ∀ (v0 : Nat) (v2 : Int32) (v3 : Int32) (m : Mm), GG Z (M_X12_goes (d + 1)) (PsN Z cvV) 144 [some (.ref v0), none, some (.int v2), some (.int v3), none] [] m (J144 v0 v2 v3 m)) ?_ ?_
        · intro v0 v2 v3 m
          refine g_aload_n (i := 0) dX12_goes_144 rfl rfl ?_
          refine g_getR (k := 21) cl_X12 (by decide) rfl q_1402 dX12_goes_145 ?_
          intro q5
          refine g_iload_n (i := 3) dX12_goes_148 rfl rfl ?_
          refine g_aaloadA dX12_goes_149 g_no ?_
          intro q6
          refine g_iconst (v := (3 : Int32)) dX12_goes_150 ki_3 ?_
          refine g_iaload dX12_goes_151 ?_
          refine g_istore_n (i := 3) dX12_goes_152 rfl (show 3 < 5 by decide) ?_
          intro x7
          refine g_goto (tgt := 2) dX12_goes_153 (by decide) ?_
          exact g_msk [true, false, true, true, false] (ih _ _ _ _)
        · intro J144 hJ144
          refine g_icmpne (tgt := 90) dX12_goes_37 (by decide) ?_ ?_
          · refine g_aload_n (i := 0) dX12_goes_90 rfl rfl ?_
            refine g_aload_n (i := 0) dX12_goes_91 rfl rfl ?_
            refine g_getR (k := 23) cl_X12 (by decide) rfl q_1404 dX12_goes_92 ?_
            intro q8
            refine g_aload_n (i := 0) dX12_goes_95 rfl rfl ?_
            refine g_getR (k := 21) cl_X12 (by decide) rfl q_1402 dX12_goes_96 ?_
            intro q9
            refine g_iload_n (i := 3) dX12_goes_99 rfl rfl ?_
            refine g_aaloadA dX12_goes_100 g_no ?_
            intro q10
            refine g_callVI cl_X12 (crt_X12_does _ _ _ _ _ _) cw_X12_does (decide_eq_true (show 10 + 1 ≤ 11 + (d + 1) ∧ 8 + (4 + 11) + 230 ≤ 253 + 24 * (d + 1) from by omega)) rfl q_1632 q_1634 qs_62 rfl rfl dX12_goes_101 ?_
            intro r11 m12
            refine g_istore dX12_goes_104 (show 4 < 5 by decide) ?_
            intro x13
            refine g_aload_n (i := 0) dX12_goes_106 rfl rfl ?_
            refine g_dup dX12_goes_107 rfl ?_
            refine g_getI (k := 33) cl_X12 (by decide) rfl q_1414 dX12_goes_108 ?_
            refine g_iload dX12_goes_111 rfl ?_
            refine g_jn (fun J121 => ∀ (v0 : Nat) (v2 : Int32) (v3 : Int32) (v4 : Int32) (s0 : Int32) (s1 : Int32) (s2 : Nat) (m : Mm), GG Z (M_X12_goes (d + 1)) (PsN Z cvV) 121 [some (.ref v0), none, some (.int v2), some (.int v3), some (.int v4)] [.int s0, .int s1, .ref s2] m (J121 v0 v2 v3 v4 s0 s1 s2 m)) ?_ ?_
            · intro v0 v2 v3 v4 s0 s1 s2 m
              refine g_iadd dX12_goes_121 ?_
              refine g_putI (k := 33) cl_X12 (by decide) rfl rfl q_1414 dX12_goes_122 ?_
              intro m14
              refine g_aload_n (i := 0) dX12_goes_125 rfl rfl ?_
              refine g_dup dX12_goes_126 rfl ?_
              refine g_getI (k := 29) cl_X12 (by decide) rfl q_1410 dX12_goes_127 ?_
              refine g_iload dX12_goes_130 rfl ?_
              refine g_jn (fun J140 => ∀ (v0 : Nat) (v2 : Int32) (v3 : Int32) (s0 : Int32) (s1 : Int32) (s2 : Nat) (m : Mm), GG Z (M_X12_goes (d + 1)) (PsN Z cvV) 140 [some (.ref v0), none, some (.int v2), some (.int v3), none] [.int s0, .int s1, .ref s2] m (J140 v0 v2 v3 s0 s1 s2 m)) ?_ ?_
              · intro v0 v2 v3 s0 s1 s2 m
                refine g_iadd dX12_goes_140 ?_
                refine g_putI (k := 29) cl_X12 (by decide) rfl rfl q_1410 dX12_goes_141 ?_
                intro m15
                exact g_msk [true, false, true, true, false] (hJ144 _ _ _ _)
              · intro J140 hJ140
                refine g_ifeq (tgt := 139) dX12_goes_132 (by decide) ?_ ?_
                · refine g_iconst (v := (1 : Int32)) dX12_goes_139 ki_1 ?_
                  exact g_msk [true, false, true, true, false] (hJ140 _ _ _ _ _ _ _)
                · refine g_iconst (v := (0 : Int32)) dX12_goes_135 ki_0 ?_
                  refine g_goto (tgt := 140) dX12_goes_136 (by decide) ?_
                  exact g_msk [true, false, true, true, false] (hJ140 _ _ _ _ _ _ _)
            · intro J121 hJ121
              refine g_ifeq (tgt := 120) dX12_goes_113 (by decide) ?_ ?_
              · refine g_iconst (v := (0 : Int32)) dX12_goes_120 ki_0 ?_
                exact g_msk [true, false, true, true, true] (hJ121 _ _ _ _ _ _ _ _)
              · refine g_iconst (v := (1 : Int32)) dX12_goes_116 ki_1 ?_
                refine g_goto (tgt := 121) dX12_goes_117 (by decide) ?_
                exact g_msk [true, false, true, true, true] (hJ121 _ _ _ _ _ _ _ _)
          · refine g_iconst (v := (0 : Int32)) dX12_goes_40 ki_0 ?_
            refine g_istore dX12_goes_41 (show 4 < 5 by decide) ?_
            intro x16
            refine g_msk [true, false, true, true, true] (c_L_X12_goes_43 h_X12_goes ?_ NF _ _ _ _ _)
            intro v0 v2 v3 m
            refine g_goto (tgt := 144) dX12_goes_87 (by decide) ?_
            exact g_msk [true, false, true, true, false] (hJ144 _ _ _ _)
set_option maxRecDepth 100000 in
set_option maxHeartbeats 4000000 in
theorem crtB_X12_goes (l : Launch) (θ : Th) (d : Nat) (f_X12_goes : Nat → Int32 → Int32 → Mm → Option (Unit × Mm)) (h_X12_goes : ∀ (a0 : Nat) (a1 : Int32) (a2 : Int32) (m : Mm), Crt l θ yX12_goes (M_X12_goes d) cvV [.ref a0, .int a1, .int a2] m (f_X12_goes a0 a1 a2 m)) (a0 : Nat) (a1 : Int32) (a2 : Int32) (m : Mm) : Crt l θ yX12_goes (M_X12_goes (d + 1)) cvV [.ref a0, .int a1, .int a2] m (B_X12_goes f_X12_goes a0 a1 a2 m) := by
  refine crt_of3 2 (by decide) rfl rfl (Nat.le_of_ble_eq_true rfl) (fun Z hμ hl hθ => ?_)
  subst hl
  subst hθ
  unfold B_X12_goes
  show GG Z _ _ 0 [some (.ref a0), some (.int a1), some (.int a2), none, none] [] m _
  refine g_iload_n (i := 1) dX12_goes_0 rfl rfl ?_
  refine g_istore_n (i := 3) dX12_goes_1 rfl (show 3 < 5 by decide) ?_
  intro x1
  exact g_msk [true, false, true, true, false] (c_L_X12_goes_2 h_X12_goes NF _ _ _ _)
set_option maxRecDepth 100000 in
set_option maxHeartbeats 4000000 in
theorem crtG_X12g (l : Launch) (θ : Th) : ∀ d : Nat, (∀ (a0 : Nat) (a1 : Int32) (a2 : Int32) (m : Mm), Crt l θ yX12_goes (M_X12_goes d) cvV [.ref a0, .int a1, .int a2] m (G_X12g d a0 a1 a2 m)) := by
  intro d
  induction d with
  | zero => exact fun a0 a1 a2 m => crt_no
  | succ d ih => exact fun a0 a1 a2 m => crtB_X12_goes l θ d _ ih a0 a1 a2 m
theorem crt_X12_goes (l : Launch) (θ : Th) (d : Nat) (a0 : Nat) (a1 : Int32) (a2 : Int32) (m : Mm) : Crt l θ yX12_goes (M_X12_goes d) cvV [.ref a0, .int a1, .int a2] m (F_X12_goes d a0 a1 a2 m) := (crtG_X12g l θ d) a0 a1 a2 m
abbrev M_X10_run (d : Nat) : MI := (cX10_run, RX10, 9, 6 + d, 142 + 28 * d, none, "run")
theorem cw_X10_run (d : Nat) : CwOk (M_X10_run d) yX10_run 5 := ⟨q_955, q_5, by decide +kernel⟩
def L_X10_run_96 (f_X10_run : Nat → Nat → Nat → Int32 → Int32 → Int32 → Mm → Option (Unit × Mm)) (K145 : Nat → Nat → Nat → Int32 → Int32 → Int32 → Int32 → Mm → Option (Unit × Mm)) : Nat → Nat → Nat → Nat → Int32 → Int32 → Int32 → Int32 → Int32 → Mm → Option (Unit × Mm)
 | 0, _, _, _, _, _, _, _, _, _ => none
 | n + 1, v0, v1, v2, v4, v5, v6, v7, v8, m =>
 gd (okO m v0 10) (oc (rR m v0 1) none fun q8 =>
 gd (okA m 100 q8 v6) (
 if (rI m q8 (ix v6)) ≤ v8 then (
 K145 v0 v1 v2 v4 v5 v6 v7 m)
 else (
 gd (okO m v0 10) (
 if (200 : Int32) ≤ (rI m v0 5) then (
 K145 v0 v1 v2 v4 v5 v6 v7 m)
 else (
 gd (okO m v0 10) (oc (rR m v0 2) none fun q9 =>
 gd (okA m 100 q9 v6) (
 gd (okO m v0 10) (bd (f_X10_run v0 v1 v2 (v6 + (1 : Int32)) (rI m q9 (ix v6)) (v5 + (1 : Int32)) m) fun r10 m11 =>
 lt9 (v8 + (1 : Int32)) fun x12 =>
 L_X10_run_96 f_X10_run K145 n v0 v1 v2 v4 v5 v6 v7 x12 m11))))))))
def L_X10_run_6 (f_X10_run : Nat → Nat → Nat → Int32 → Int32 → Int32 → Mm → Option (Unit × Mm)) : Nat → Nat → Nat → Nat → Int32 → Int32 → Int32 → Int32 → Mm → Option (Unit × Mm)
 | 0, _, _, _, _, _, _, _, _ => none
 | n + 1, v0, v1, v2, v4, v5, v6, v7, m =>
 if v4 ≤ v7 then (
 some ((), m))
 else (
 if v6 < 0 then (
 some ((), m))
 else (
 if v4 ≤ v6 then (
 some ((), m))
 else (
 gd (okO m v0 10) (oc (rR m v0 0) none fun q3 =>
 gd (okT m 100 q3) (
 if (ln m q3) ≤ v6 then (
 some ((), m))
 else (
 gd (okO m v0 10) (
 if (200 : Int32) ≤ (rI m v0 5) then (
 some ((), m))
 else (
 if v5 ≤ (6 : Int32) then (
 gd (okO m v0 10) (
 gd (okO m v0 10) (lt9 (wI m v0 5 ((rI m v0 5) + (1 : Int32))) fun m4 =>
 gd (okO m4 v0 10) (oc (rR m4 v0 0) none fun q5 =>
 gd (okA m4 100 q5 v6) (
 jn (fun (v0 : Nat) (v1 : Nat) (v2 : Nat) (v4 : Int32) (v5 : Int32) (v6 : Int32) (v7 : Int32) (m : Mm) =>
 lt9 (v7 + (1 : Int32)) fun x6 =>
 L_X10_run_6 f_X10_run n v0 v1 v2 v4 v5 v6 x6 m) fun J154 =>
 if (rI m4 q5 (ix v6)) = (10 : Int32) then (
 lt9 (0 : Int32) fun x7 =>
 L_X10_run_96 f_X10_run (fun v0 v1 v2 v4 v5 v6 v7 m =>
 gd (okO m v0 10) (oc (rR m v0 2) none fun q13 =>
 gd (okA m 100 q13 v6) (
 lt9 (rI m q13 (ix v6)) fun x14 =>
 J154 v0 v1 v2 v4 v5 x14 v7 m))) NF v0 v1 v2 v4 v5 v6 v7 x7 m4)
 else (
 gd (okO m4 v0 10) (bd (F_X10_doStep v0 v1 v2 v6 m4) fun r15 m16 =>
 gd (okO m16 v0 10) (bd (F_X10_score v0 r15 m16) fun r17 m18 =>
 lt9 (v6 + (1 : Int32)) fun x19 =>
 J154 v0 v1 v2 v4 v5 x19 v7 m18))))))))
 else (
 some ((), m))))))))))
def B_X10_run (f_X10_run : Nat → Nat → Nat → Int32 → Int32 → Int32 → Mm → Option (Unit × Mm)) (a0 : Nat) (a1 : Nat) (a2 : Nat) (a3 : Int32) (a4 : Int32) (a5 : Int32) (m : Mm) : Option (Unit × Mm) :=
 lt9 a3 fun x1 =>
 lt9 a3 fun x2 =>
 L_X10_run_6 f_X10_run NF a0 a1 a2 a4 a5 x1 x2 m
def G_X10r : Nat → (Nat → Nat → Nat → Int32 → Int32 → Int32 → Mm → Option (Unit × Mm))
 | 0 => fun _ _ _ _ _ _ _ => none
 | d + 1 => B_X10_run (G_X10r d)
def F_X10_run (d : Nat) (a0 : Nat) (a1 : Nat) (a2 : Nat) (a3 : Int32) (a4 : Int32) (a5 : Int32) (m : Mm) : Option (Unit × Mm) := G_X10r d a0 a1 a2 a3 a4 a5 m
set_option maxRecDepth 100000 in
set_option maxHeartbeats 4000000 in
theorem c_L_X10_run_96 {Z : Zx} {d : Nat} {f_X10_run : Nat → Nat → Nat → Int32 → Int32 → Int32 → Mm → Option (Unit × Mm)} (h_X10_run : ∀ (a0 : Nat) (a1 : Nat) (a2 : Nat) (a3 : Int32) (a4 : Int32) (a5 : Int32) (m : Mm), Crt (zl Z) (zθ Z) yX10_run (M_X10_run d) cvV [.ref a0, .ref a1, .ref a2, .int a3, .int a4, .int a5] m (f_X10_run a0 a1 a2 a3 a4 a5 m)) {K145 : Nat → Nat → Nat → Int32 → Int32 → Int32 → Int32 → Mm → Option (Unit × Mm)} (hK145 : ∀ (v0 : Nat) (v1 : Nat) (v2 : Nat) (v4 : Int32) (v5 : Int32) (v6 : Int32) (v7 : Int32) (m : Mm), GG Z (M_X10_run (d + 1)) (PsN Z cvV) 145 [some (.ref v0), some (.ref v1), some (.ref v2), none, some (.int v4), some (.int v5), some (.int v6), some (.int v7), none] [] m (K145 v0 v1 v2 v4 v5 v6 v7 m)) : ∀ (n : Nat) (v0 : Nat) (v1 : Nat) (v2 : Nat) (v4 : Int32) (v5 : Int32) (v6 : Int32) (v7 : Int32) (v8 : Int32) (m : Mm), GG Z (M_X10_run (d + 1)) (PsN Z cvV) 96 [some (.ref v0), some (.ref v1), some (.ref v2), none, some (.int v4), some (.int v5), some (.int v6), some (.int v7), some (.int v8)] [] m (L_X10_run_96 f_X10_run K145 n v0 v1 v2 v4 v5 v6 v7 v8 m) := by
  intro n
  induction n with
  | zero => intro v0 v1 v2 v4 v5 v6 v7 v8 m; exact g_no
  | succ n ih =>
    intro v0 v1 v2 v4 v5 v6 v7 v8 m
    unfold L_X10_run_96
    refine g_iload dX10_run_96 rfl ?_
    refine g_aload_n (i := 0) dX10_run_98 rfl rfl ?_
    refine g_getR (k := 1) cl_X10 (by decide) rfl q_136 dX10_run_99 ?_
    intro q8
    refine g_iload dX10_run_102 rfl ?_
    refine g_iaload dX10_run_104 ?_
    refine g_icmpge (tgt := 145) dX10_run_105 (by decide) ?_ ?_
    · exact g_msk [true, true, true, false, true, true, true, true, false] (hK145 _ _ _ _ _ _ _ _)
    · refine g_aload_n (i := 0) dX10_run_108 rfl rfl ?_
      refine g_getI (k := 5) cl_X10 (by decide) rfl q_141 dX10_run_109 ?_
      refine g_sipush (v := (200 : Int32)) dX10_run_112 ks_200 ?_
      refine g_icmpge (tgt := 145) dX10_run_115 (by decide) ?_ ?_
      · exact g_msk [true, true, true, false, true, true, true, true, false] (hK145 _ _ _ _ _ _ _ _)
      · refine g_aload_n (i := 0) dX10_run_118 rfl rfl ?_
        refine g_aload_n (i := 1) dX10_run_119 rfl rfl ?_
        refine g_aload_n (i := 2) dX10_run_120 rfl rfl ?_
        refine g_iload dX10_run_121 rfl ?_
        refine g_iconst (v := (1 : Int32)) dX10_run_123 ki_1 ?_
        refine g_iadd dX10_run_124 ?_
        refine g_aload_n (i := 0) dX10_run_125 rfl rfl ?_
        refine g_getR (k := 2) cl_X10 (by decide) rfl q_137 dX10_run_126 ?_
        intro q9
        refine g_iload dX10_run_129 rfl ?_
        refine g_iaload dX10_run_131 ?_
        refine g_iload dX10_run_132 rfl ?_
        refine g_iconst (v := (1 : Int32)) dX10_run_134 ki_1 ?_
        refine g_iadd dX10_run_135 ?_
        refine g_callVV cl_X10 (h_X10_run _ _ _ _ _ _ _) (cw_X10_run d) (decide_eq_true (show 6 + d + 1 ≤ 6 + (d + 1) ∧ 8 + (9 + 11) + (142 + 28 * d) ≤ 142 + 28 * (d + 1) from by omega)) rfl q_1044 q_954 qs_24 rfl rfl dX10_run_136 ?_
        intro r10 m11
        refine g_iinc dX10_run_139 rfl ki_1 (show 8 < 9 by decide) ?_
        intro x12
        refine g_goto (tgt := 96) dX10_run_142 (by decide) ?_
        exact g_msk [true, true, true, false, true, true, true, true, true] (ih _ _ _ _ _ _ _ _ _)
set_option maxRecDepth 100000 in
set_option maxHeartbeats 4000000 in
theorem c_L_X10_run_6 {Z : Zx} {d : Nat} {f_X10_run : Nat → Nat → Nat → Int32 → Int32 → Int32 → Mm → Option (Unit × Mm)} (h_X10_run : ∀ (a0 : Nat) (a1 : Nat) (a2 : Nat) (a3 : Int32) (a4 : Int32) (a5 : Int32) (m : Mm), Crt (zl Z) (zθ Z) yX10_run (M_X10_run d) cvV [.ref a0, .ref a1, .ref a2, .int a3, .int a4, .int a5] m (f_X10_run a0 a1 a2 a3 a4 a5 m))   : ∀ (n : Nat) (v0 : Nat) (v1 : Nat) (v2 : Nat) (v4 : Int32) (v5 : Int32) (v6 : Int32) (v7 : Int32) (m : Mm), GG Z (M_X10_run (d + 1)) (PsN Z cvV) 6 [some (.ref v0), some (.ref v1), some (.ref v2), none, some (.int v4), some (.int v5), some (.int v6), some (.int v7), none] [] m (L_X10_run_6 f_X10_run n v0 v1 v2 v4 v5 v6 v7 m) := by
  intro n
  induction n with
  | zero => intro v0 v1 v2 v4 v5 v6 v7 m; exact g_no
  | succ n ih =>
    intro v0 v1 v2 v4 v5 v6 v7 m
    unfold L_X10_run_6
    refine g_iload dX10_run_6 rfl ?_
    refine g_iload dX10_run_8 rfl ?_
    refine g_icmpge (tgt := 160) dX10_run_10 (by decide) ?_ ?_
    · exact g_return rfl dX10_run_160
    · refine g_iload dX10_run_13 rfl ?_
      refine g_iflt (tgt := 160) dX10_run_15 (by decide) ?_ ?_
      · exact g_return rfl dX10_run_160
      · refine g_iload dX10_run_18 rfl ?_
        refine g_iload dX10_run_20 rfl ?_
        refine g_icmpge (tgt := 160) dX10_run_22 (by decide) ?_ ?_
        · exact g_return rfl dX10_run_160
        · refine g_iload dX10_run_25 rfl ?_
          refine g_aload_n (i := 0) dX10_run_27 rfl rfl ?_
          refine g_getR (k := 0) cl_X10 (by decide) rfl q_135 dX10_run_28 ?_
          intro q3
          refine g_alen100 dX10_run_31 ?_
          refine g_icmpge (tgt := 160) dX10_run_32 (by decide) ?_ ?_
          · exact g_return rfl dX10_run_160
          · refine g_aload_n (i := 0) dX10_run_35 rfl rfl ?_
            refine g_getI (k := 5) cl_X10 (by decide) rfl q_141 dX10_run_36 ?_
            refine g_sipush (v := (200 : Int32)) dX10_run_39 ks_200 ?_
            refine g_icmpge (tgt := 52) dX10_run_42 (by decide) ?_ ?_
            · exact g_return rfl dX10_run_52
            · refine g_iload dX10_run_45 rfl ?_
              refine g_bipush (v := (6 : Int32)) dX10_run_47 kb_6 ?_
              refine g_icmple (tgt := 53) dX10_run_49 (by decide) ?_ ?_
              · refine g_aload_n (i := 0) dX10_run_53 rfl rfl ?_
                refine g_dup dX10_run_54 rfl ?_
                refine g_getI (k := 5) cl_X10 (by decide) rfl q_141 dX10_run_55 ?_
                refine g_iconst (v := (1 : Int32)) dX10_run_58 ki_1 ?_
                refine g_iadd dX10_run_59 ?_
                refine g_putI (k := 5) cl_X10 (by decide) rfl rfl q_141 dX10_run_60 ?_
                intro m4
                refine g_aload_n (i := 0) dX10_run_63 rfl rfl ?_
                refine g_getR (k := 0) cl_X10 (by decide) rfl q_135 dX10_run_64 ?_
                intro q5
                refine g_iload dX10_run_67 rfl ?_
                refine g_iaload dX10_run_69 ?_
                refine g_bipush (v := (10 : Int32)) dX10_run_70 kb_10 ?_
                refine g_jn (fun J154 => ∀ (v0 : Nat) (v1 : Nat) (v2 : Nat) (v4 : Int32) (v5 : Int32) (v6 : Int32) (v7 : Int32) (m : Mm), GG Z (M_X10_run (d + 1)) (PsN Z cvV) 154 [some (.ref v0), some (.ref v1), some (.ref v2), none, some (.int v4), some (.int v5), some (.int v6), some (.int v7), none] [] m (J154 v0 v1 v2 v4 v5 v6 v7 m)) ?_ ?_
                · intro v0 v1 v2 v4 v5 v6 v7 m
                  refine g_iinc dX10_run_154 rfl ki_1 (show 7 < 9 by decide) ?_
                  intro x6
                  refine g_goto (tgt := 6) dX10_run_157 (by decide) ?_
                  exact g_msk [true, true, true, false, true, true, true, true, false] (ih _ _ _ _ _ _ _ _)
                · intro J154 hJ154
                  refine g_icmpeq (tgt := 93) dX10_run_72 (by decide) ?_ ?_
                  · refine g_iconst (v := (0 : Int32)) dX10_run_93 ki_0 ?_
                    refine g_istore dX10_run_94 (show 8 < 9 by decide) ?_
                    intro x7
                    refine g_msk [true, true, true, false, true, true, true, true, true] (c_L_X10_run_96 h_X10_run ?_ NF _ _ _ _ _ _ _ _ _)
                    intro v0 v1 v2 v4 v5 v6 v7 m
                    refine g_aload_n (i := 0) dX10_run_145 rfl rfl ?_
                    refine g_getR (k := 2) cl_X10 (by decide) rfl q_137 dX10_run_146 ?_
                    intro q13
                    refine g_iload dX10_run_149 rfl ?_
                    refine g_iaload dX10_run_151 ?_
                    refine g_istore dX10_run_152 (show 6 < 9 by decide) ?_
                    intro x14
                    exact g_msk [true, true, true, false, true, true, true, true, false] (hJ154 _ _ _ _ _ _ _ _)
                  · refine g_aload_n (i := 0) dX10_run_75 rfl rfl ?_
                    refine g_aload_n (i := 0) dX10_run_76 rfl rfl ?_
                    refine g_aload_n (i := 1) dX10_run_77 rfl rfl ?_
                    refine g_aload_n (i := 2) dX10_run_78 rfl rfl ?_
                    refine g_iload dX10_run_79 rfl ?_
                    refine g_callVI cl_X10 (crt_X10_doStep _ _ _ _ _ _ _) cw_X10_doStep (decide_eq_true (show 5 + 1 ≤ 6 + (d + 1) ∧ 8 + (5 + 11) + 118 ≤ 142 + 28 * (d + 1) from by omega)) rfl q_956 q_958 qs_25 rfl rfl dX10_run_81 ?_
                    intro r15 m16
                    refine g_callVV cl_X10 (crt_X10_score _ _ _ _ _) cw_X10_score (decide_eq_true (show 0 + 1 ≤ 6 + (d + 1) ∧ 8 + (2 + 11) + 0 ≤ 142 + 28 * (d + 1) from by omega)) rfl q_1040 q_1042 qs_30 rfl rfl dX10_run_84 ?_
                    intro r17 m18
                    refine g_iinc dX10_run_87 rfl ki_1 (show 6 < 9 by decide) ?_
                    intro x19
                    refine g_goto (tgt := 154) dX10_run_90 (by decide) ?_
                    exact g_msk [true, true, true, false, true, true, true, true, false] (hJ154 _ _ _ _ _ _ _ _)
              · exact g_return rfl dX10_run_52
set_option maxRecDepth 100000 in
set_option maxHeartbeats 4000000 in
theorem crtB_X10_run (l : Launch) (θ : Th) (d : Nat) (f_X10_run : Nat → Nat → Nat → Int32 → Int32 → Int32 → Mm → Option (Unit × Mm)) (h_X10_run : ∀ (a0 : Nat) (a1 : Nat) (a2 : Nat) (a3 : Int32) (a4 : Int32) (a5 : Int32) (m : Mm), Crt l θ yX10_run (M_X10_run d) cvV [.ref a0, .ref a1, .ref a2, .int a3, .int a4, .int a5] m (f_X10_run a0 a1 a2 a3 a4 a5 m)) (a0 : Nat) (a1 : Nat) (a2 : Nat) (a3 : Int32) (a4 : Int32) (a5 : Int32) (m : Mm) : Crt l θ yX10_run (M_X10_run (d + 1)) cvV [.ref a0, .ref a1, .ref a2, .int a3, .int a4, .int a5] m (B_X10_run f_X10_run a0 a1 a2 a3 a4 a5 m) := by
  refine crt_of3 3 (by decide) rfl rfl (Nat.le_of_ble_eq_true rfl) (fun Z hμ hl hθ => ?_)
  subst hl
  subst hθ
  unfold B_X10_run
  show GG Z _ _ 0 [some (.ref a0), some (.ref a1), some (.ref a2), some (.int a3), some (.int a4), some (.int a5), none, none, none] [] m _
  refine g_iload_n (i := 3) dX10_run_0 rfl rfl ?_
  refine g_istore dX10_run_1 (show 6 < 9 by decide) ?_
  intro x1
  refine g_iload_n (i := 3) dX10_run_3 rfl rfl ?_
  refine g_istore dX10_run_4 (show 7 < 9 by decide) ?_
  intro x2
  exact g_msk [true, true, true, false, true, true, true, true, false] (c_L_X10_run_6 h_X10_run NF _ _ _ _ _ _ _ _)
set_option maxRecDepth 100000 in
set_option maxHeartbeats 4000000 in
theorem crtG_X10r (l : Launch) (θ : Th) : ∀ d : Nat, (∀ (a0 : Nat) (a1 : Nat) (a2 : Nat) (a3 : Int32) (a4 : Int32) (a5 : Int32) (m : Mm), Crt l θ yX10_run (M_X10_run d) cvV [.ref a0, .ref a1, .ref a2, .int a3, .int a4, .int a5] m (G_X10r d a0 a1 a2 a3 a4 a5 m)) := by
  intro d
  induction d with
  | zero => exact fun a0 a1 a2 a3 a4 a5 m => crt_no
  | succ d ih => exact fun a0 a1 a2 a3 a4 a5 m => crtB_X10_run l θ d _ ih a0 a1 a2 a3 a4 a5 m
theorem crt_X10_run (l : Launch) (θ : Th) (d : Nat) (a0 : Nat) (a1 : Nat) (a2 : Nat) (a3 : Int32) (a4 : Int32) (a5 : Int32) (m : Mm) : Crt l θ yX10_run (M_X10_run d) cvV [.ref a0, .ref a1, .ref a2, .int a3, .int a4, .int a5] m (F_X10_run d a0 a1 a2 a3 a4 a5 m) := (crtG_X10r l θ d) a0 a1 a2 a3 a4 a5 m
abbrev M_X12_law : MI := (cX12_law, RX12, 2, 47, 1037, (some .int), "law")
theorem cw_X12_law : CwOk M_X12_law yX12_law 1 := ⟨q_1569, q_12, by decide +kernel⟩
def F_X12_law (a0 : Nat) (a1 : Int32) (m : Mm) : Option (Int32 × Mm) :=
 gd (okO m a0 12) (lt9 (wI m a0 0 (0 : Int32)) fun m1 =>
 gd (okO m1 a0 12) (
 bd (F_X12_in a1 (0 : Int32) (rI m1 a0 1) m1) fun r2 m3 =>
 jn (fun (v0 : Nat) (v1 : Int32) (s0 : Int32) (s1 : Nat) (m : Mm) =>
 gd (okO m s1 12) (bd (F_X12_bad s1 s0 (1 : Int32) (1 : Int32) m) fun r4 m5 =>
 if r4 = 0 then (
 gd (okO m5 v0 12) (bd (F_X12_starts v0 v1 m5) fun r6 m7 =>
 gd (okO m7 v0 12) (lt9 (wI m7 v0 14 (0 : Int32)) fun m8 =>
 gd (okO m8 v0 12) (bd (F_X12_sum 40 v0 m8) fun r9 m10 =>
 gd (okO m10 v0 12) (bd (F_X12_blanks v0 m10) fun r11 m12 =>
 gd (okO m12 v0 12) (
 jn (fun (v0 : Nat) (m : Mm) =>
 gd (okO m v0 12) (
 if (rI m v0 5) = 0 then (
 gd (okO m v0 12) (lt9 (wI m v0 3 (-1 : Int32)) fun m13 =>
 gd (okO m13 v0 12) (
 gd (okO m13 v0 12) (lt9 (wI m13 v0 13 (rI m13 v0 14)) fun m14 =>
 gd (okO m14 v0 12) (oc (rR m14 v0 16) none fun q15 =>
 gd (okO m14 v0 12) (oc (rR m14 v0 15) none fun q16 =>
 gd (okO m14 v0 12) (
 bd (F_X12_lays q15 q16 (rI m14 v0 13) m14) fun r17 m18 =>
 some ((1 : Int32), m18))))))))
 else (
 gd (okO m v0 12) (bd (F_X12_ends v0 m) fun r19 m20 =>
 some (r19, m20))))) fun J85 =>
 if (rI m12 v0 5) = 0 then (
 gd (okO m12 v0 12) (
 gd (okO m12 v0 12) (
 if (rI m12 v0 2) ≤ (rI m12 v0 4) then (
 J85 v0 m12)
 else (
 gd (okO m12 v0 12) (
 gd (okO m12 v0 12) (bd (F_X12_wrong v0 (1 : Int32) (rI m12 v0 4) m12) fun r21 m22 =>
 J85 v0 m22))))))
 else (
 J85 v0 m12)))))))
 else (
 some ((0 : Int32), m5)))) fun J30 =>
 jn (fun (v0 : Nat) (v1 : Int32) (s0 : Nat) (m : Mm) =>
 J30 v0 v1 (1 : Int32) s0 m) fun J25 =>
 if r2 = 0 then (
 J25 a0 a1 a0 m3)
 else (
 if a1 ≤ (150 : Int32) then (
 J30 a0 a1 (0 : Int32) a0 m3)
 else (
 J25 a0 a1 a0 m3))))
set_option maxRecDepth 100000 in
set_option maxHeartbeats 4000000 in
theorem crt_X12_law (l : Launch) (θ : Th) (a0 : Nat) (a1 : Int32) (m : Mm) : Crt l θ yX12_law M_X12_law cvI [.ref a0, .int a1] m (F_X12_law a0 a1 m) := by
  refine crt_of 0 (by decide) rfl rfl (Nat.le_of_ble_eq_true rfl) (fun Z hμ => ?_)
  unfold F_X12_law
  show GG Z _ _ 0 [some (.ref a0), some (.int a1)] [] m _
  refine g_aload_n (i := 0) dX12_law_0 rfl rfl ?_
  refine g_iconst (v := (0 : Int32)) dX12_law_1 ki_0 ?_
  refine g_putI (k := 0) cl_X12 (by decide) rfl rfl q_1381 dX12_law_2 ?_
  intro m1
  refine g_aload_n (i := 0) dX12_law_5 rfl rfl ?_
  refine g_iload_n (i := 1) dX12_law_6 rfl rfl ?_
  refine g_iconst (v := (0 : Int32)) dX12_law_7 ki_0 ?_
  refine g_aload_n (i := 0) dX12_law_8 rfl rfl ?_
  refine g_getI (k := 1) cl_X12 (by decide) rfl q_1382 dX12_law_9 ?_
  refine g_callSI (crt_X12_in _ _ _ _ _ _) cw_X12_in (by decide) rfl q_1505 q_1506 rfl rfl dX12_law_12 ?_
  intro r2 m3
  refine g_jn (fun J30 => ∀ (v0 : Nat) (v1 : Int32) (s0 : Int32) (s1 : Nat) (m : Mm), GG Z M_X12_law (PsN Z cvI) 30 [some (.ref v0), some (.int v1)] [.int s0, .ref s1] m (J30 v0 v1 s0 s1 m)) ?_ ?_
  · intro v0 v1 s0 s1 m
    refine g_iconst (v := (1 : Int32)) dX12_law_30 ki_1 ?_
    refine g_iconst (v := (1 : Int32)) dX12_law_31 ki_1 ?_
    refine g_callVI cl_X12 (crt_X12_bad _ _ _ _ _ _ _) cw_X12_bad (by decide) rfl q_1508 q_1510 qs_39 rfl rfl dX12_law_32 ?_
    intro r4 m5
    refine g_ifeq (tgt := 40) dX12_law_35 (by decide) ?_ ?_
    · refine g_aload_n (i := 0) dX12_law_40 rfl rfl ?_
      refine g_iload_n (i := 1) dX12_law_41 rfl rfl ?_
      refine g_callVV cl_X12 (crt_X12_starts _ _ _ _ _) cw_X12_starts (by decide) rfl q_1512 q_1514 qs_40 rfl rfl dX12_law_42 ?_
      intro r6 m7
      refine g_aload_n (i := 0) dX12_law_45 rfl rfl ?_
      refine g_iconst (v := (0 : Int32)) dX12_law_46 ki_0 ?_
      refine g_putI (k := 14) cl_X12 (by decide) rfl rfl q_1395 dX12_law_47 ?_
      intro m8
      refine g_aload_n (i := 0) dX12_law_50 rfl rfl ?_
      refine g_callVV cl_X12 (crt_X12_sum _ _ 40 _ _) (cw_X12_sum 40) (by decide) rfl q_1570 q_1572 qs_51 rfl rfl dX12_law_51 ?_
      intro r9 m10
      refine g_aload_n (i := 0) dX12_law_54 rfl rfl ?_
      refine g_callVV cl_X12 (crt_X12_blanks _ _ _ _) cw_X12_blanks (by decide) rfl q_1516 q_1518 qs_41 rfl rfl dX12_law_55 ?_
      intro r11 m12
      refine g_aload_n (i := 0) dX12_law_58 rfl rfl ?_
      refine g_getI (k := 5) cl_X12 (by decide) rfl q_1386 dX12_law_59 ?_
      refine g_jn (fun J85 => ∀ (v0 : Nat) (m : Mm), GG Z M_X12_law (PsN Z cvI) 85 [some (.ref v0), none] [] m (J85 v0 m)) ?_ ?_
      · intro v0 m
        refine g_aload_n (i := 0) dX12_law_85 rfl rfl ?_
        refine g_getI (k := 5) cl_X12 (by decide) rfl q_1386 dX12_law_86 ?_
        refine g_ifeq (tgt := 97) dX12_law_89 (by decide) ?_ ?_
        · refine g_aload_n (i := 0) dX12_law_97 rfl rfl ?_
          refine g_iconst (v := (-1 : Int32)) dX12_law_98 ki_m1 ?_
          refine g_putI (k := 3) cl_X12 (by decide) rfl rfl q_1384 dX12_law_99 ?_
          intro m13
          refine g_aload_n (i := 0) dX12_law_102 rfl rfl ?_
          refine g_aload_n (i := 0) dX12_law_103 rfl rfl ?_
          refine g_getI (k := 14) cl_X12 (by decide) rfl q_1395 dX12_law_104 ?_
          refine g_putI (k := 13) cl_X12 (by decide) rfl rfl q_1394 dX12_law_107 ?_
          intro m14
          refine g_aload_n (i := 0) dX12_law_110 rfl rfl ?_
          refine g_getR (k := 16) cl_X12 (by decide) rfl q_1397 dX12_law_111 ?_
          intro q15
          refine g_aload_n (i := 0) dX12_law_114 rfl rfl ?_
          refine g_getR (k := 15) cl_X12 (by decide) rfl q_1396 dX12_law_115 ?_
          intro q16
          refine g_aload_n (i := 0) dX12_law_118 rfl rfl ?_
          refine g_getI (k := 13) cl_X12 (by decide) rfl q_1394 dX12_law_119 ?_
          refine g_callSV (crt_X12_lays _ _ _ _ _ _) cw_X12_lays (by decide) rfl q_1602 q_1603 rfl rfl dX12_law_122 ?_
          intro r17 m18
          refine g_iconst (v := (1 : Int32)) dX12_law_125 ki_1 ?_
          exact g_ireturn rfl dX12_law_126
        · refine g_aload_n (i := 0) dX12_law_92 rfl rfl ?_
          refine g_callVI cl_X12 (crt_X12_ends _ _ _ _) cw_X12_ends (by decide) rfl q_1562 q_1564 qs_50 rfl rfl dX12_law_93 ?_
          intro r19 m20
          exact g_ireturn rfl dX12_law_96
      · intro J85 hJ85
        refine g_ifne (tgt := 85) dX12_law_62 (by decide) ?_ ?_
        · exact g_msk [true, false] (hJ85 _ _)
        · refine g_aload_n (i := 0) dX12_law_65 rfl rfl ?_
          refine g_getI (k := 4) cl_X12 (by decide) rfl q_1385 dX12_law_66 ?_
          refine g_aload_n (i := 0) dX12_law_69 rfl rfl ?_
          refine g_getI (k := 2) cl_X12 (by decide) rfl q_1383 dX12_law_70 ?_
          refine g_icmpge (tgt := 85) dX12_law_73 (by decide) ?_ ?_
          · exact g_msk [true, false] (hJ85 _ _)
          · refine g_aload_n (i := 0) dX12_law_76 rfl rfl ?_
            refine g_iconst (v := (1 : Int32)) dX12_law_77 ki_1 ?_
            refine g_aload_n (i := 0) dX12_law_78 rfl rfl ?_
            refine g_getI (k := 4) cl_X12 (by decide) rfl q_1385 dX12_law_79 ?_
            refine g_callVV cl_X12 (crt_X12_wrong _ _ _ _ _ _) cw_X12_wrong (by decide) rfl q_1542 q_1544 qs_46 rfl rfl dX12_law_82 ?_
            intro r21 m22
            exact g_msk [true, false] (hJ85 _ _)
    · refine g_iconst (v := (0 : Int32)) dX12_law_38 ki_0 ?_
      exact g_ireturn rfl dX12_law_39
  · intro J30 hJ30
    refine g_jn (fun J25 => ∀ (v0 : Nat) (v1 : Int32) (s0 : Nat) (m : Mm), GG Z M_X12_law (PsN Z cvI) 25 [some (.ref v0), some (.int v1)] [.ref s0] m (J25 v0 v1 s0 m)) ?_ ?_
    · intro v0 v1 s0 m
      refine g_iconst (v := (1 : Int32)) dX12_law_25 ki_1 ?_
      refine g_goto (tgt := 30) dX12_law_26 (by decide) ?_
      exact g_msk [true, true] (hJ30 _ _ _ _ _)
    · intro J25 hJ25
      refine g_ifeq (tgt := 25) dX12_law_15 (by decide) ?_ ?_
      · exact g_msk [true, true] (hJ25 _ _ _ _)
      · refine g_iload_n (i := 1) dX12_law_18 rfl rfl ?_
        refine g_sipush (v := (150 : Int32)) dX12_law_19 ks_150 ?_
        refine g_icmple (tgt := 29) dX12_law_22 (by decide) ?_ ?_
        · refine g_iconst (v := (0 : Int32)) dX12_law_29 ki_0 ?_
          exact g_msk [true, true] (hJ30 _ _ _ _ _)
        · exact g_msk [true, true] (hJ25 _ _ _ _)
abbrev M_X12_work : MI := (cX12_work, RX12, 2, 52, 1237, (some .int), "work")
theorem cw_X12_work : CwOk M_X12_work yX12_work 1 := ⟨q_1616, q_12, by decide +kernel⟩
def L_X12_work_72 (K101 : Nat → Mm → Option (Int32 × Mm)) : Nat → Nat → Mm → Option (Int32 × Mm)
 | 0, _, _ => none
 | n + 1, v0, m =>
 gd (okO m v0 12) (
 if (rI m v0 5) = 0 then (
 gd (okO m v0 12) (
 gd (okO m v0 12) (
 if (rI m v0 2) ≤ (rI m v0 4) then (
 K101 v0 m)
 else (
 gd (okO m v0 12) (bd (F_X12_readsStep 40 v0 m) fun r9 m10 =>
 gd (okO m10 v0 12) (bd (F_X12_blanks v0 m10) fun r11 m12 =>
 L_X12_work_72 K101 n v0 m12))))))
 else (
 K101 v0 m))
def F_X12_work (a0 : Nat) (a1 : Int32) (m : Mm) : Option (Int32 × Mm) :=
 gd (okO m a0 12) (lt9 (wI m a0 0 (0 : Int32)) fun m1 =>
 gd (okO m1 a0 12) (
 bd (F_X12_in a1 (0 : Int32) (rI m1 a0 1) m1) fun r2 m3 =>
 jn (fun (v0 : Nat) (v1 : Int32) (s0 : Int32) (s1 : Nat) (m : Mm) =>
 gd (okO m s1 12) (bd (F_X12_bad s1 s0 (1 : Int32) (1 : Int32) m) fun r4 m5 =>
 if r4 = 0 then (
 gd (okO m5 v0 12) (
 if (rI m5 v0 28) = (16 : Int32) then (
 gd (okO m5 v0 12) (lt9 (wI m5 v0 1 (0 : Int32)) fun m27 =>
 gd (okO m27 v0 12) (lt9 (wI m27 v0 3 (-1 : Int32)) fun m28 =>
 some ((-20 : Int32), m28))))
 else (
 gd (okO m5 v0 12) (bd (F_X12_starts v0 v1 m5) fun r6 m7 =>
 gd (okO m7 v0 12) (lt9 (wI m7 v0 22 (0 : Int32)) fun m8 =>
 L_X12_work_72 (fun v0 m =>
 gd (okO m v0 12) (
 if (rI m v0 5) = 0 then (
 gd (okO m v0 12) (lt9 (wI m v0 3 (-1 : Int32)) fun m13 =>
 gd (okO m13 v0 12) (oc (rR m13 v0 23) none fun q14 =>
 gd (okO m13 v0 12) (oc (rR m13 v0 25) none fun q15 =>
 gd (okO m13 v0 12) (
 gd (okA m13 106 q15 (rI m13 v0 28)) (oc (rR m13 q15 (ix (rI m13 v0 28))) none fun q16 =>
 bd (F_X12_copies q14 q16 m13) fun r17 m18 =>
 gd (okO m18 v0 12) (
 gd (okO m18 v0 12) (lt9 (wI m18 v0 28 ((rI m18 v0 28) + (1 : Int32))) fun m19 =>
 gd (okO m19 v0 12) (lt9 (wI m19 v0 32 (0 : Int32)) fun m20 =>
 gd (okO m20 v0 12) (lt9 (wI m20 v0 33 (0 : Int32)) fun m21 =>
 gd (okO m21 v0 12) (lt9 (wI m21 v0 29 (0 : Int32)) fun m22 =>
 gd (okO m22 v0 12) (
 gd (okO m22 v0 12) (bd (F_X12_goes 40 v0 (0 : Int32) (rI m22 v0 22) m22) fun r23 m24 =>
 gd (okO m24 v0 12) (
 some ((rI m24 v0 33), m24)))))))))))))))
 else (
 gd (okO m v0 12) (bd (F_X12_ends v0 m) fun r25 m26 =>
 some (r25, m26))))) NF v0 m8)))))
 else (
 some ((0 : Int32), m5)))) fun J30 =>
 jn (fun (v0 : Nat) (v1 : Int32) (s0 : Nat) (m : Mm) =>
 J30 v0 v1 (1 : Int32) s0 m) fun J25 =>
 if r2 = 0 then (
 J25 a0 a1 a0 m3)
 else (
 if a1 ≤ (150 : Int32) then (
 J30 a0 a1 (0 : Int32) a0 m3)
 else (
 J25 a0 a1 a0 m3))))
set_option maxRecDepth 100000 in
set_option maxHeartbeats 4000000 in
theorem c_L_X12_work_72 {Z : Zx}  {K101 : Nat → Mm → Option (Int32 × Mm)} (hK101 : ∀ (v0 : Nat) (m : Mm), GG Z M_X12_work (PsN Z cvI) 101 [some (.ref v0), none] [] m (K101 v0 m)) : ∀ (n : Nat) (v0 : Nat) (m : Mm), GG Z M_X12_work (PsN Z cvI) 72 [some (.ref v0), none] [] m (L_X12_work_72 K101 n v0 m) := by
  intro n
  induction n with
  | zero => intro v0 m; exact g_no
  | succ n ih =>
    intro v0 m
    unfold L_X12_work_72
    refine g_aload_n (i := 0) dX12_work_72 rfl rfl ?_
    refine g_getI (k := 5) cl_X12 (by decide) rfl q_1386 dX12_work_73 ?_
    refine g_ifne (tgt := 101) dX12_work_76 (by decide) ?_ ?_
    · exact g_msk [true, false] (hK101 _ _)
    · refine g_aload_n (i := 0) dX12_work_79 rfl rfl ?_
      refine g_getI (k := 4) cl_X12 (by decide) rfl q_1385 dX12_work_80 ?_
      refine g_aload_n (i := 0) dX12_work_83 rfl rfl ?_
      refine g_getI (k := 2) cl_X12 (by decide) rfl q_1383 dX12_work_84 ?_
      refine g_icmpge (tgt := 101) dX12_work_87 (by decide) ?_ ?_
      · exact g_msk [true, false] (hK101 _ _)
      · refine g_aload_n (i := 0) dX12_work_90 rfl rfl ?_
        refine g_callVV cl_X12 (crt_X12_readsStep _ _ 40 _ _) (cw_X12_readsStep 40) (by decide) rfl q_1617 q_1619 qs_59 rfl rfl dX12_work_91 ?_
        intro r9 m10
        refine g_aload_n (i := 0) dX12_work_94 rfl rfl ?_
        refine g_callVV cl_X12 (crt_X12_blanks _ _ _ _) cw_X12_blanks (by decide) rfl q_1516 q_1518 qs_41 rfl rfl dX12_work_95 ?_
        intro r11 m12
        refine g_goto (tgt := 72) dX12_work_98 (by decide) ?_
        exact g_msk [true, false] (ih _ _)
set_option maxRecDepth 100000 in
set_option maxHeartbeats 4000000 in
theorem crt_X12_work (l : Launch) (θ : Th) (a0 : Nat) (a1 : Int32) (m : Mm) : Crt l θ yX12_work M_X12_work cvI [.ref a0, .int a1] m (F_X12_work a0 a1 m) := by
  refine crt_of 0 (by decide) rfl rfl (Nat.le_of_ble_eq_true rfl) (fun Z hμ => ?_)
  unfold F_X12_work
  show GG Z _ _ 0 [some (.ref a0), some (.int a1)] [] m _
  refine g_aload_n (i := 0) dX12_work_0 rfl rfl ?_
  refine g_iconst (v := (0 : Int32)) dX12_work_1 ki_0 ?_
  refine g_putI (k := 0) cl_X12 (by decide) rfl rfl q_1381 dX12_work_2 ?_
  intro m1
  refine g_aload_n (i := 0) dX12_work_5 rfl rfl ?_
  refine g_iload_n (i := 1) dX12_work_6 rfl rfl ?_
  refine g_iconst (v := (0 : Int32)) dX12_work_7 ki_0 ?_
  refine g_aload_n (i := 0) dX12_work_8 rfl rfl ?_
  refine g_getI (k := 1) cl_X12 (by decide) rfl q_1382 dX12_work_9 ?_
  refine g_callSI (crt_X12_in _ _ _ _ _ _) cw_X12_in (by decide) rfl q_1505 q_1506 rfl rfl dX12_work_12 ?_
  intro r2 m3
  refine g_jn (fun J30 => ∀ (v0 : Nat) (v1 : Int32) (s0 : Int32) (s1 : Nat) (m : Mm), GG Z M_X12_work (PsN Z cvI) 30 [some (.ref v0), some (.int v1)] [.int s0, .ref s1] m (J30 v0 v1 s0 s1 m)) ?_ ?_
  · intro v0 v1 s0 s1 m
    refine g_iconst (v := (1 : Int32)) dX12_work_30 ki_1 ?_
    refine g_iconst (v := (1 : Int32)) dX12_work_31 ki_1 ?_
    refine g_callVI cl_X12 (crt_X12_bad _ _ _ _ _ _ _) cw_X12_bad (by decide) rfl q_1508 q_1510 qs_39 rfl rfl dX12_work_32 ?_
    intro r4 m5
    refine g_ifeq (tgt := 40) dX12_work_35 (by decide) ?_ ?_
    · refine g_aload_n (i := 0) dX12_work_40 rfl rfl ?_
      refine g_getI (k := 28) cl_X12 (by decide) rfl q_1409 dX12_work_41 ?_
      refine g_bipush (v := (16 : Int32)) dX12_work_44 kb_16 ?_
      refine g_icmpne (tgt := 62) dX12_work_46 (by decide) ?_ ?_
      · refine g_aload_n (i := 0) dX12_work_62 rfl rfl ?_
        refine g_iload_n (i := 1) dX12_work_63 rfl rfl ?_
        refine g_callVV cl_X12 (crt_X12_starts _ _ _ _ _) cw_X12_starts (by decide) rfl q_1512 q_1514 qs_40 rfl rfl dX12_work_64 ?_
        intro r6 m7
        refine g_aload_n (i := 0) dX12_work_67 rfl rfl ?_
        refine g_iconst (v := (0 : Int32)) dX12_work_68 ki_0 ?_
        refine g_putI (k := 22) cl_X12 (by decide) rfl rfl q_1403 dX12_work_69 ?_
        intro m8
        refine g_msk [true, false] (c_L_X12_work_72 ?_ NF _ _)
        intro v0 m
        refine g_aload_n (i := 0) dX12_work_101 rfl rfl ?_
        refine g_getI (k := 5) cl_X12 (by decide) rfl q_1386 dX12_work_102 ?_
        refine g_ifeq (tgt := 113) dX12_work_105 (by decide) ?_ ?_
        · refine g_aload_n (i := 0) dX12_work_113 rfl rfl ?_
          refine g_iconst (v := (-1 : Int32)) dX12_work_114 ki_m1 ?_
          refine g_putI (k := 3) cl_X12 (by decide) rfl rfl q_1384 dX12_work_115 ?_
          intro m13
          refine g_aload_n (i := 0) dX12_work_118 rfl rfl ?_
          refine g_getR (k := 23) cl_X12 (by decide) rfl q_1404 dX12_work_119 ?_
          intro q14
          refine g_aload_n (i := 0) dX12_work_122 rfl rfl ?_
          refine g_getR (k := 25) cl_X12 (by decide) rfl q_1406 dX12_work_123 ?_
          intro q15
          refine g_aload_n (i := 0) dX12_work_126 rfl rfl ?_
          refine g_getI (k := 28) cl_X12 (by decide) rfl q_1409 dX12_work_127 ?_
          refine g_aaloadA dX12_work_130 g_no ?_
          intro q16
          refine g_callSV (crt_X12_copies _ _ _ _ _) cw_X12_copies (by decide) rfl q_1625 q_1626 rfl rfl dX12_work_131 ?_
          intro r17 m18
          refine g_aload_n (i := 0) dX12_work_134 rfl rfl ?_
          refine g_dup dX12_work_135 rfl ?_
          refine g_getI (k := 28) cl_X12 (by decide) rfl q_1409 dX12_work_136 ?_
          refine g_iconst (v := (1 : Int32)) dX12_work_139 ki_1 ?_
          refine g_iadd dX12_work_140 ?_
          refine g_putI (k := 28) cl_X12 (by decide) rfl rfl q_1409 dX12_work_141 ?_
          intro m19
          refine g_aload_n (i := 0) dX12_work_144 rfl rfl ?_
          refine g_iconst (v := (0 : Int32)) dX12_work_145 ki_0 ?_
          refine g_putI (k := 32) cl_X12 (by decide) rfl rfl q_1413 dX12_work_146 ?_
          intro m20
          refine g_aload_n (i := 0) dX12_work_149 rfl rfl ?_
          refine g_iconst (v := (0 : Int32)) dX12_work_150 ki_0 ?_
          refine g_putI (k := 33) cl_X12 (by decide) rfl rfl q_1414 dX12_work_151 ?_
          intro m21
          refine g_aload_n (i := 0) dX12_work_154 rfl rfl ?_
          refine g_iconst (v := (0 : Int32)) dX12_work_155 ki_0 ?_
          refine g_putI (k := 29) cl_X12 (by decide) rfl rfl q_1410 dX12_work_156 ?_
          intro m22
          refine g_aload_n (i := 0) dX12_work_159 rfl rfl ?_
          refine g_iconst (v := (0 : Int32)) dX12_work_160 ki_0 ?_
          refine g_aload_n (i := 0) dX12_work_161 rfl rfl ?_
          refine g_getI (k := 22) cl_X12 (by decide) rfl q_1403 dX12_work_162 ?_
          refine g_callVV cl_X12 (crt_X12_goes _ _ 40 _ _ _ _) (cw_X12_goes 40) (by decide) rfl q_1628 q_1630 qs_61 rfl rfl dX12_work_165 ?_
          intro r23 m24
          refine g_aload_n (i := 0) dX12_work_168 rfl rfl ?_
          refine g_getI (k := 33) cl_X12 (by decide) rfl q_1414 dX12_work_169 ?_
          exact g_ireturn rfl dX12_work_172
        · refine g_aload_n (i := 0) dX12_work_108 rfl rfl ?_
          refine g_callVI cl_X12 (crt_X12_ends _ _ _ _) cw_X12_ends (by decide) rfl q_1562 q_1564 qs_50 rfl rfl dX12_work_109 ?_
          intro r25 m26
          exact g_ireturn rfl dX12_work_112
      · refine g_aload_n (i := 0) dX12_work_49 rfl rfl ?_
        refine g_iconst (v := (0 : Int32)) dX12_work_50 ki_0 ?_
        refine g_putI (k := 1) cl_X12 (by decide) rfl rfl q_1382 dX12_work_51 ?_
        intro m27
        refine g_aload_n (i := 0) dX12_work_54 rfl rfl ?_
        refine g_iconst (v := (-1 : Int32)) dX12_work_55 ki_m1 ?_
        refine g_putI (k := 3) cl_X12 (by decide) rfl rfl q_1384 dX12_work_56 ?_
        intro m28
        refine g_bipush (v := (-20 : Int32)) dX12_work_59 kb_m20 ?_
        exact g_ireturn rfl dX12_work_61
    · refine g_iconst (v := (0 : Int32)) dX12_work_38 ki_0 ?_
      exact g_ireturn rfl dX12_work_39
  · intro J30 hJ30
    refine g_jn (fun J25 => ∀ (v0 : Nat) (v1 : Int32) (s0 : Nat) (m : Mm), GG Z M_X12_work (PsN Z cvI) 25 [some (.ref v0), some (.int v1)] [.ref s0] m (J25 v0 v1 s0 m)) ?_ ?_
    · intro v0 v1 s0 m
      refine g_iconst (v := (1 : Int32)) dX12_work_25 ki_1 ?_
      refine g_goto (tgt := 30) dX12_work_26 (by decide) ?_
      exact g_msk [true, true] (hJ30 _ _ _ _ _)
    · intro J25 hJ25
      refine g_ifeq (tgt := 25) dX12_work_15 (by decide) ?_ ?_
      · exact g_msk [true, true] (hJ25 _ _ _ _)
      · refine g_iload_n (i := 1) dX12_work_18 rfl rfl ?_
        refine g_sipush (v := (150 : Int32)) dX12_work_19 ks_150 ?_
        refine g_icmple (tgt := 29) dX12_work_22 (by decide) ?_ ?_
        · refine g_iconst (v := (0 : Int32)) dX12_work_29 ki_0 ?_
          exact g_msk [true, true] (hJ30 _ _ _ _ _)
        · exact g_msk [true, true] (hJ25 _ _ _ _)
