abbrev M_J0_length_8abf5 : MI := (cJ0_length_8abf5, RJ0, 1, 1, 20, (some .int), "length")
theorem cw_J0_length_8abf5 : CwOk M_J0_length_8abf5 yJ0_length_8abf5 0 := ⟨q_770, q_18, by decide +kernel⟩
abbrev M_J0_charAt_5068e : MI := (cJ0_charAt_5068e, RJ0, 2, 3, 64, (some .char), "charAt")
theorem cw_J0_charAt_5068e : CwOk M_J0_charAt_5068e yJ0_charAt_5068e 1 := ⟨q_780, q_18, by decide +kernel⟩
abbrev M_J0_coder_7d493 : MI := (cJ0_coder_7d493, RJ0, 1, 0, 0, (some .byte), "coder")
theorem cw_J0_coder_7d493 : CwOk M_J0_coder_7d493 yJ0_coder_7d493 0 := ⟨q_774, q_18, by decide +kernel⟩
abbrev M_J0_isLatin1_aae02 : MI := (cJ0_isLatin1_aae02, RJ0, 1, 0, 0, (some .boolean), "isLatin1")
theorem cw_J0_isLatin1_aae02 : CwOk M_J0_isLatin1_aae02 yJ0_isLatin1_aae02 0 := ⟨q_784, q_18, by decide +kernel⟩
abbrev M_J0_checkIndex_df160 : MI := (cJ0_checkIndex_df160, RJ0, 2, 1, 22, none, "checkIndex")
theorem cw_J0_checkIndex_df160 : CwOk M_J0_checkIndex_df160 yJ0_checkIndex_df160 2 := ⟨q_790, q_18, by decide +kernel⟩
abbrev M_J1_charAt_3b067 : MI := (cJ1_charAt_3b067, RJ1, 2, 2, 43, (some .char), "charAt")
theorem cw_J1_charAt_3b067 : CwOk M_J1_charAt_3b067 yJ1_charAt_3b067 2 := ⟨q_787, q_19, by decide +kernel⟩
abbrev M_J3_checkIndex_8e157 : MI := (cJ3_checkIndex_8e157, RJ3, 3, 0, 0, (some .int), "checkIndex")
theorem cw_J3_checkIndex_8e157 : CwOk M_J3_checkIndex_8e157 yJ3_checkIndex_8e157 3 := ⟨q_795, q_20, by decide +kernel⟩
theorem ks_255s : (Int16.ofInt 255).toInt32 = 255 := by decide +kernel
theorem ki0 : Int32.ofInt 1 = 1 := by decide
def F_J3_checkIndex_8e157 (a0 a1 : Int32) (m : Mm) : Option (Int32 × Mm) := gd (decide (0 ≤ a0.toInt ∧ a0.toInt < a1.toInt)) (some (a0, m))
def F_J0_checkIndex_df160 (a0 a1 : Int32) (m : Mm) : Option (Unit × Mm) := bd (F_J3_checkIndex_8e157 a0 a1 m) fun _ m1 => some ((), m1)
def F_J0_coder_7d493 (a0 : Nat) (m : Mm) : Option (Int32 × Mm) := gd (strO a0) (some (0, m))
def F_J0_isLatin1_aae02 (a0 : Nat) (m : Mm) : Option (Int32 × Mm) := gd (strO a0) (some (1, m))
def F_J0_length_8abf5 (a0 : Nat) (m : Mm) : Option (Int32 × Mm) := gd (strO a0) (bd (F_J0_coder_7d493 a0 m) fun r m1 => some (sL a0 >>> (r &&& 31), m1))
def F_J1_charAt_3b067 (a0 : Nat) (a1 : Int32) (m : Mm) : Option (Int32 × Mm) := gd (strO a0) (bd (F_J0_checkIndex_df160 a1 (sL a0) m) fun _ m1 => gd (sIn a0 a1) (some (((sC a0 a1 &&& 255).toUInt32 % 65536).toInt32, m1)))
def F_J0_charAt_5068e (a0 : Nat) (a1 : Int32) (m : Mm) : Option (Int32 × Mm) := gd (strO a0) (bd (F_J0_isLatin1_aae02 a0 m) fun r m1 => if r = 0 then none else bd (F_J1_charAt_3b067 a0 a1 m1) fun v m2 => gd (decide (narrow .char (.int v) = .int v)) (some (v, m2)))
set_option maxRecDepth 100000 in
theorem crt_J3_checkIndex_8e157_n (l : Launch) (θ : Th) (a0 a1 : Int32) (m : Mm) : Crt l θ yJ3_checkIndex_8e157 M_J3_checkIndex_8e157 cvI [.int a0, .int a1, .null] m (F_J3_checkIndex_8e157 a0 a1 m) := by
  refine crt_of 0 (by decide) rfl rfl (Nat.le_of_ble_eq_true rfl) (fun Z hμ => ?_)
  unfold F_J3_checkIndex_8e157
  show GG Z _ _ 0 [some (.int a0), some (.int a1), some .null] [] m _
  refine g_gd fun hb => ?_
  have hb9 := of_decide_eq_true hb
  refine g_iload_n (i := 0) dJ3_checkIndex_8e157_0 rfl rfl ?_
  refine g_ifltF (tgt := 9) (nn_of hb9.1).1 dJ3_checkIndex_8e157_1 (by decide) ?_
  refine g_iload_n (i := 0) dJ3_checkIndex_8e157_4 rfl rfl ?_
  refine g_iload_n (i := 1) dJ3_checkIndex_8e157_5 rfl rfl ?_
  refine g_icmpltT (tgt := 16) (Int32.lt_iff_toInt_lt.mpr hb9.2) dJ3_checkIndex_8e157_6 (by decide) ?_
  refine g_iload_n (i := 0) dJ3_checkIndex_8e157_16 rfl rfl ?_
  exact g_ireturn rfl dJ3_checkIndex_8e157_17
set_option maxRecDepth 100000 in
theorem crt_J3_checkIndex_8e157_r (l : Launch) (θ : Th) (a0 a1 : Int32) (a2 : Nat) (m : Mm) : Crt l θ yJ3_checkIndex_8e157 M_J3_checkIndex_8e157 cvI [.int a0, .int a1, .ref a2] m (F_J3_checkIndex_8e157 a0 a1 m) := by
  refine crt_of 0 (by decide) rfl rfl (Nat.le_of_ble_eq_true rfl) (fun Z hμ => ?_)
  unfold F_J3_checkIndex_8e157
  show GG Z _ _ 0 [some (.int a0), some (.int a1), some (.ref a2)] [] m _
  refine g_gd fun hb => ?_
  have hb9 := of_decide_eq_true hb
  refine g_iload_n (i := 0) dJ3_checkIndex_8e157_0 rfl rfl ?_
  refine g_ifltF (tgt := 9) (nn_of hb9.1).1 dJ3_checkIndex_8e157_1 (by decide) ?_
  refine g_iload_n (i := 0) dJ3_checkIndex_8e157_4 rfl rfl ?_
  refine g_iload_n (i := 1) dJ3_checkIndex_8e157_5 rfl rfl ?_
  refine g_icmpltT (tgt := 16) (Int32.lt_iff_toInt_lt.mpr hb9.2) dJ3_checkIndex_8e157_6 (by decide) ?_
  refine g_iload_n (i := 0) dJ3_checkIndex_8e157_16 rfl rfl ?_
  exact g_ireturn rfl dJ3_checkIndex_8e157_17
set_option maxRecDepth 100000 in
theorem crt_J0_checkIndex_df160 (l : Launch) (θ : Th) (a0 a1 : Int32) (m : Mm) : Crt l θ yJ0_checkIndex_df160 M_J0_checkIndex_df160 cvV [.int a0, .int a1] m (F_J0_checkIndex_df160 a0 a1 m) := by
  refine crt_of 0 (by decide) rfl rfl (Nat.le_of_ble_eq_true rfl) (fun Z hμ => ?_)
  unfold F_J0_checkIndex_df160
  show GG Z _ _ 0 [some (.int a0), some (.int a1)] [] m _
  refine g_iload_n (i := 0) dJ0_checkIndex_df160_0 rfl rfl ?_
  refine g_iload_n (i := 1) dJ0_checkIndex_df160_1 rfl rfl ?_
  refine g_form dJ0_checkIndex_df160_2 q_791 ?_ ?_
  · refine g_callSI (crt_J3_checkIndex_8e157_n _ _ _ _ _) cw_J3_checkIndex_8e157 (by decide) rfl q_793 q_794 rfl rfl dJ0_checkIndex_df160_5 ?_
    intro r m1
    refine g_pop dJ0_checkIndex_df160_8 rfl ?_
    exact g_return rfl dJ0_checkIndex_df160_9
  · refine g_callSI (crt_J3_checkIndex_8e157_r _ _ _ _ _ _) cw_J3_checkIndex_8e157 (by decide) rfl q_793 q_794 rfl rfl dJ0_checkIndex_df160_5 ?_
    intro r m1
    refine g_pop dJ0_checkIndex_df160_8 rfl ?_
    exact g_return rfl dJ0_checkIndex_df160_9
set_option maxRecDepth 100000 in
theorem crt_J0_coder_7d493 (l : Launch) (θ : Th) (a0 : Nat) (m : Mm) : Crt l θ yJ0_coder_7d493 M_J0_coder_7d493 cvI [.ref a0] m (F_J0_coder_7d493 a0 m) := by
  refine crt_of 0 (by decide) rfl rfl (Nat.le_of_ble_eq_true rfl) (fun Z hμ => ?_)
  unfold F_J0_coder_7d493
  show GG Z _ _ 0 [some (.ref a0)] [] m _
  refine g_gd fun hb => ?_
  refine g_compact dJ0_coder_7d493_0 q_775 ?_
  refine g_ifeqF (tgt := 13) (by decide) dJ0_coder_7d493_3 (by decide) ?_
  refine g_aload_n (i := 0) dJ0_coder_7d493_6 rfl rfl ?_
  refine g_getCoder hb dJ0_coder_7d493_7 q_1980 ?_
  refine g_goto (tgt := 14) dJ0_coder_7d493_10 (by decide) ?_
  exact g_nreturn rfl rfl dJ0_coder_7d493_14
set_option maxRecDepth 100000 in
theorem crt_J0_isLatin1_aae02 (l : Launch) (θ : Th) (a0 : Nat) (m : Mm) : Crt l θ yJ0_isLatin1_aae02 M_J0_isLatin1_aae02 cvI [.ref a0] m (F_J0_isLatin1_aae02 a0 m) := by
  refine crt_of 0 (by decide) rfl rfl (Nat.le_of_ble_eq_true rfl) (fun Z hμ => ?_)
  unfold F_J0_isLatin1_aae02
  show GG Z _ _ 0 [some (.ref a0)] [] m _
  refine g_gd fun hb => ?_
  refine g_compact dJ0_isLatin1_aae02_0 q_775 ?_
  refine g_ifeqF (tgt := 17) (by decide) dJ0_isLatin1_aae02_3 (by decide) ?_
  refine g_aload_n (i := 0) dJ0_isLatin1_aae02_6 rfl rfl ?_
  refine g_getCoder hb dJ0_isLatin1_aae02_7 q_1980 ?_
  refine g_ifneF (tgt := 17) rfl dJ0_isLatin1_aae02_10 (by decide) ?_
  refine g_iconst (v := 1) dJ0_isLatin1_aae02_13 ki0 ?_
  refine g_goto (tgt := 18) dJ0_isLatin1_aae02_14 (by decide) ?_
  exact g_nreturn rfl rfl dJ0_isLatin1_aae02_18
set_option maxRecDepth 100000 in
theorem crt_J0_length_8abf5 (l : Launch) (θ : Th) (a0 : Nat) (m : Mm) : Crt l θ yJ0_length_8abf5 M_J0_length_8abf5 cvI [.ref a0] m (F_J0_length_8abf5 a0 m) := by
  refine crt_of 0 (by decide) rfl rfl (Nat.le_of_ble_eq_true rfl) (fun Z hμ => ?_)
  unfold F_J0_length_8abf5
  show GG Z _ _ 0 [some (.ref a0)] [] m _
  refine g_gd fun hb => ?_
  refine g_aload_n (i := 0) dJ0_length_8abf5_0 rfl rfl ?_
  refine g_getValue hb dJ0_length_8abf5_1 q_1979 ?_
  refine g_strLen hb dJ0_length_8abf5_4 ?_
  refine g_aload_n (i := 0) dJ0_length_8abf5_5 rfl rfl ?_
  refine g_callVS (vs := []) hb (crt_J0_coder_7d493 _ _ _ _) cw_J0_coder_7d493 (by decide) rfl q_771 q_772 q_773 rfl rfl dJ0_length_8abf5_6 ?_
  intro r m1
  refine g_ishr dJ0_length_8abf5_9 ?_
  exact g_ireturn rfl dJ0_length_8abf5_10
set_option maxRecDepth 100000 in
theorem crt_J1_charAt_3b067 (l : Launch) (θ : Th) (a0 : Nat) (a1 : Int32) (m : Mm) : Crt l θ yJ1_charAt_3b067 M_J1_charAt_3b067 cvI [.ref (a0 + 1000), .int a1] m (F_J1_charAt_3b067 a0 a1 m) := by
  refine crt_of 0 (by decide) rfl rfl (Nat.le_of_ble_eq_true rfl) (fun Z hμ => ?_)
  unfold F_J1_charAt_3b067
  show GG Z _ _ 0 [some (.ref (a0 + 1000)), some (.int a1)] [] m _
  refine g_gd fun hb => ?_
  refine g_iload_n (i := 1) dJ1_charAt_3b067_0 rfl rfl ?_
  refine g_aload_n (i := 0) dJ1_charAt_3b067_1 rfl rfl ?_
  refine g_strLen hb dJ1_charAt_3b067_2 ?_
  refine g_callSV (crt_J0_checkIndex_df160 _ _ _ _ _) cw_J0_checkIndex_df160 (by decide) rfl q_788 q_789 rfl rfl dJ1_charAt_3b067_3 ?_
  intro r m1
  refine g_gd fun hi => ?_
  refine g_aload_n (i := 0) dJ1_charAt_3b067_6 rfl rfl ?_
  refine g_iload_n (i := 1) dJ1_charAt_3b067_7 rfl rfl ?_
  refine g_strB hb hi dJ1_charAt_3b067_8 ?_
  refine g_sipush (v := 255) dJ1_charAt_3b067_9 ks_255s ?_
  refine g_iand dJ1_charAt_3b067_12 ?_
  refine g_i2c dJ1_charAt_3b067_13 ?_
  exact g_nreturn rfl (pk_nc _) dJ1_charAt_3b067_14
set_option maxRecDepth 100000 in
theorem crt_J0_charAt_5068e (l : Launch) (θ : Th) (a0 : Nat) (a1 : Int32) (m : Mm) : Crt l θ yJ0_charAt_5068e M_J0_charAt_5068e cvI [.ref a0, .int a1] m (F_J0_charAt_5068e a0 a1 m) := by
  refine crt_of 0 (by decide) rfl rfl (Nat.le_of_ble_eq_true rfl) (fun Z hμ => ?_)
  unfold F_J0_charAt_5068e
  show GG Z _ _ 0 [some (.ref a0), some (.int a1)] [] m _
  refine g_gd fun hb => ?_
  refine g_aload_n (i := 0) dJ0_charAt_5068e_0 rfl rfl ?_
  refine g_callVS (vs := []) hb (crt_J0_isLatin1_aae02 _ _ _ _) cw_J0_isLatin1_aae02 (by decide) rfl q_781 q_782 q_783 rfl rfl dJ0_charAt_5068e_1 ?_
  intro r m1
  refine g_ifeq (tgt := 16) dJ0_charAt_5068e_4 (by decide) g_no ?_
  refine g_aload_n (i := 0) dJ0_charAt_5068e_7 rfl rfl ?_
  refine g_getValue hb dJ0_charAt_5068e_8 q_1979 ?_
  refine g_iload_n (i := 1) dJ0_charAt_5068e_11 rfl rfl ?_
  refine g_callSI (crt_J1_charAt_3b067 _ _ _ _ _) cw_J1_charAt_3b067 (by decide) rfl q_785 q_786 rfl rfl dJ0_charAt_5068e_12 ?_
  intro v m2
  refine g_gd fun hv => ?_
  exact g_nreturn rfl (of_decide_eq_true hv) dJ0_charAt_5068e_15

