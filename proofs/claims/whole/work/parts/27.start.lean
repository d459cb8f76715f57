/-! the start -/
def sTm (i : Nat) : Term := match i with
  | 0 => .string "FlushViews$Group" 24
  | 1 => .string "FlushViews$Group" 30
  | 2 => .string "FlushViews$Law" 99
  | 3 => .string "FlushViews$Law" 101
  | 4 => .string "FlushViews$Law" 103
  | 5 => .string "FlushViews$Law" 105
  | 6 => .string "FlushViews$Law" 107
  | 7 => .string "FlushViews$Work" 73
  | 8 => .string "FlushViews$Work" 79
  | 9 => .string "FlushViews$Work" 81
  | 10 => .string "FlushViews$Work" 83
  | 11 => .string "FlushViews$Work" 85
  | 12 => .string "FlushViews$Work" 87
  | 13 => .string "FlushViews$Work" 89
  | 14 => .string "FlushViews$Work" 91
  | 15 => .string "FlushViews$Work" 93
  | _ => .string "FlushViews$Work" 97
abbrev gn9 : Cond := Jvm.Cond.and given_1 narrow_1
theorem sx_len : ∀ i : Nat, i < 17 → sLen.getD i 0 < 2 ^ 31 := by decide +kernel
theorem sx_ex : ∀ i : Nat, i < 17 → Cond.exactly (sTm i) "java/lang/String" ∈ flatC gn9 := by decide +kernel
theorem sx_co : ∀ i : Nat, i < 17 → Cond.eq (.field (sTm i) "java/lang/String" "coder" "B") (.int 0) ∈ flatC gn9 := by decide +kernel
theorem sx_ar : ∀ i : Nat, i < 17 → Cond.arrayOf (.field (sTm i) "java/lang/String" "value" "[B") .byte ∈ flatC gn9 := by decide +kernel
theorem sx_le : ∀ i : Nat, i < 17 → Cond.eq (.length (.field (sTm i) "java/lang/String" "value" "[B")) (.int (Int32.ofNat (sLen.getD i 0))) ∈ flatC gn9 := by decide +kernel
theorem sx_el : ∀ i : Nat, i < 17 → ∀ j : Nat, j < sLen.getD i 0 → Cond.eq (.elem (.field (sTm i) "java/lang/String" "value" "[B") (.int (Int32.ofNat j))) (.int ((sByt.getD i []).getD j 0)) ∈ flatC gn9 := by decide +kernel
theorem sx_ne1 : ∀ i : Nat, i < 1 → Cond.not (Cond.eq (sTm i) (sTm 1)) ∈ flatC gn9 := by decide +kernel
theorem sx_ne2 : ∀ i : Nat, i < 2 → Cond.not (Cond.eq (sTm i) (sTm 2)) ∈ flatC gn9 := by decide +kernel
theorem sx_ne3 : ∀ i : Nat, i < 3 → Cond.not (Cond.eq (sTm i) (sTm 3)) ∈ flatC gn9 := by decide +kernel
theorem sx_ne4 : ∀ i : Nat, i < 4 → Cond.not (Cond.eq (sTm i) (sTm 4)) ∈ flatC gn9 := by decide +kernel
theorem sx_ne5 : ∀ i : Nat, i < 5 → Cond.not (Cond.eq (sTm i) (sTm 5)) ∈ flatC gn9 := by decide +kernel
theorem sx_ne6 : ∀ i : Nat, i < 6 → Cond.not (Cond.eq (sTm i) (sTm 6)) ∈ flatC gn9 := by decide +kernel
theorem sx_ne7 : ∀ i : Nat, i < 7 → Cond.not (Cond.eq (sTm i) (sTm 7)) ∈ flatC gn9 := by decide +kernel
theorem sx_ne8 : ∀ i : Nat, i < 8 → Cond.not (Cond.eq (sTm i) (sTm 8)) ∈ flatC gn9 := by decide +kernel
theorem sx_ne9 : ∀ i : Nat, i < 9 → Cond.not (Cond.eq (sTm i) (sTm 9)) ∈ flatC gn9 := by decide +kernel
theorem sx_ne10 : ∀ i : Nat, i < 10 → Cond.not (Cond.eq (sTm i) (sTm 10)) ∈ flatC gn9 := by decide +kernel
theorem sx_ne11 : ∀ i : Nat, i < 11 → Cond.not (Cond.eq (sTm i) (sTm 11)) ∈ flatC gn9 := by decide +kernel
theorem sx_ne12 : ∀ i : Nat, i < 12 → Cond.not (Cond.eq (sTm i) (sTm 12)) ∈ flatC gn9 := by decide +kernel
theorem sx_ne13 : ∀ i : Nat, i < 13 → Cond.not (Cond.eq (sTm i) (sTm 13)) ∈ flatC gn9 := by decide +kernel
theorem sx_ne14 : ∀ i : Nat, i < 14 → Cond.not (Cond.eq (sTm i) (sTm 14)) ∈ flatC gn9 := by decide +kernel
theorem sx_ne15 : ∀ i : Nat, i < 15 → Cond.not (Cond.eq (sTm i) (sTm 15)) ∈ flatC gn9 := by decide +kernel
theorem sx_ne16 : ∀ i : Nat, i < 16 → Cond.not (Cond.eq (sTm i) (sTm 16)) ∈ flatC gn9 := by decide +kernel
theorem sx_nl : ∀ j : Nat, j < 17 → ∀ i : Nat, i < j → Cond.not (Cond.eq (sTm i) (sTm j)) ∈ flatC gn9 := by
  intro j hj
  match j, hj with
  | 0, _ => exact fun i h => absurd h (Nat.not_lt_zero i)
  | 1, _ => exact sx_ne1
  | 2, _ => exact sx_ne2
  | 3, _ => exact sx_ne3
  | 4, _ => exact sx_ne4
  | 5, _ => exact sx_ne5
  | 6, _ => exact sx_ne6
  | 7, _ => exact sx_ne7
  | 8, _ => exact sx_ne8
  | 9, _ => exact sx_ne9
  | 10, _ => exact sx_ne10
  | 11, _ => exact sx_ne11
  | 12, _ => exact sx_ne12
  | 13, _ => exact sx_ne13
  | 14, _ => exact sx_ne14
  | 15, _ => exact sx_ne15
  | 16, _ => exact sx_ne16
  | j + 17, h => omega
theorem sx_ne : ∀ i : Nat, i < 17 → ∀ j : Nat, j < 17 → i ≠ j → (Cond.not (Cond.eq (sTm i) (sTm j)) ∈ flatC gn9 ∨ Cond.not (Cond.eq (sTm j) (sTm i)) ∈ flatC gn9) := fun i hi j hj hn => by
  rcases Nat.lt_or_gt_of_ne hn with h | h
  · exact Or.inl (sx_nl j hj i h)
  · exact Or.inr (sx_nl i hi j h)
theorem sx_nc : ∀ q ∈ NC, Cond.not (.castable q.1 q.2) ∈ flatC gn9 := by decide +kernel
theorem sx_z1 : Cond.eq (.static "java/lang/String" "COMPACT_STRINGS" "Z") (.int 1) ∈ flatC gn9 := by decide +kernel
theorem sx_z2 : Cond.isRef (.static "jdk/internal/util/Preconditions" "SIOOBE_FORMATTER" "Ljava/util/function/BiFunction;") ∈ flatC gn9 := by decide +kernel
theorem sx_z3 : Cond.isRef (.static Bundle.tN "UNASSIGNED_STACK" Bundle.steD) ∈ flatC gn9 := by decide +kernel
theorem sx_z4 : Cond.isRef (.static Bundle.tN "SUPPRESSED_SENTINEL" Bundle.listD) ∈ flatC gn9 := by decide +kernel
theorem sx_s0 : Cond.eq (sTm 0) (.string "FlushViews$Law" 93) ∈ flatC gn9 ∨ Cond.eq (.string "FlushViews$Law" 93) (sTm 0) ∈ flatC gn9 := by decide +kernel
theorem sx_s1 : Cond.eq (sTm 3) (.string "FlushViews$Work" 95) ∈ flatC gn9 ∨ Cond.eq (.string "FlushViews$Work" 95) (sTm 3) ∈ flatC gn9 := by decide +kernel
theorem sx_cs : ∀ q ∈ CS, Cond.castable q.1 q.2 ∈ lw_tbl := by decide +kernel
theorem sx_dc : ∀ x ∈ DC, Cond.declares x ∈ lw_tbl := by decide +kernel
theorem sx_sk : ∀ e ∈ stK, Cond.stringRef e.1 e.2.1 e.2.2.1 ∈ lw_tbl := by decide +kernel
theorem sx_l : ∀ q ∈ [("java/lang/String", "COMPACT_STRINGS", "Z"), ("jdk/internal/util/Preconditions", "SIOOBE_FORMATTER", "Ljava/util/function/BiFunction;"), (Bundle.tN, "UNASSIGNED_STACK", Bundle.steD), (Bundle.tN, "SUPPRESSED_SENTINEL", Bundle.listD)], Cond.laysStatic q.1 q.2.1 q.2.2 ∈ lw_tbl ∧ Cond.initialized q.1 ∈ lw_tbl := by decide +kernel
theorem sx_ao : ∀ t ∈ [FieldType.object "FlushViews$State", FieldType.object "FlushViews$Image", FieldType.array .int], Cond.arrayOver t ∈ lw_tbl := by decide +kernel
theorem sx_ac : ∀ t ∈ [FieldType.int, FieldType.long, FieldType.byte, FieldType.char], Cond.arrayClass t ∈ lw_tbl := by decide +kernel
theorem sx_iX0 : Cond.instantiable RX0 6 ∈ lw_tbl := by decide +kernel
theorem sx_iX1 : Cond.instantiable RX1 3 ∈ lw_tbl := by decide +kernel
theorem sx_iX2 : Cond.instantiable RX2 2 ∈ lw_tbl := by decide +kernel
theorem sx_iX3 : Cond.instantiable RX3 5 ∈ lw_tbl := by decide +kernel
theorem sx_iX4 : Cond.instantiable RX4 2 ∈ lw_tbl := by decide +kernel
theorem sx_iX5 : Cond.instantiable RX5 2 ∈ lw_tbl := by decide +kernel
theorem sx_iX6 : Cond.instantiable RX6 4 ∈ lw_tbl := by decide +kernel
theorem sx_iX7 : Cond.instantiable RX7 20 ∈ lw_tbl := by decide +kernel
theorem sx_iX8 : Cond.instantiable RX8 1 ∈ lw_tbl := by decide +kernel
theorem sx_iX9 : Cond.instantiable RX9 8 ∈ lw_tbl := by decide +kernel
theorem sx_iX10 : Cond.instantiable RX10 8 ∈ lw_tbl := by decide +kernel
theorem sx_iX11 : Cond.instantiable RX11 15 ∈ lw_tbl := by decide +kernel
theorem sx_iX12 : Cond.instantiable RX12 37 ∈ lw_tbl := by decide +kernel
theorem arr_prim {args : Array Value} {s : State} {ty : FieldType} (h : (Cond.arrayClass ty).before args s = true) (hra : ∀ cA, s.vm.findClass ("[" ++ ty.toString) = some cA → va_RA s cA ty) : ∃ cA : ClassId, ArrOfT s cA ty ∧ va_RA s cA ty := by
  obtain ⟨c, k, comp, h1, h2, h3⟩ := Cond.arrayClass_spec h
  exact ⟨c, fun n z => ⟨fun k9 h9 => (by cases h9), k, h2, comp, h3⟩, hra c h1⟩
theorem arr_obj {args : Array Value} {s : State} {C : String} (h : (Cond.arrayOver (.object C)).before args s = true) : ∃ cA : ClassId, ArrOfT s cA (.object C) ∧ va_RA s cA (.object C) := by
  obtain ⟨comp, c, k, h1, h2, h3, h4, h5⟩ := Cond.arrayOver_spec h
  exact ⟨c, fun n z => ⟨fun k9 h9 => (by cases h9), k, h3, comp, h4⟩, k, comp, h3, h4, h1, h5⟩
theorem arr_arr {args : Array Value} {s : State} {ty : FieldType} (h : (Cond.arrayOver (.array ty)).before args s = true) : ∃ cA : ClassId, ArrOfT s cA (.array ty) ∧ va_RA s cA (.array ty) := by
  obtain ⟨comp, c, k, h1, h2, h3, h4, h5⟩ := arrayOver_specB h
  exact ⟨c, fun n z => ⟨fun k9 h9 => (by cases h9), k, h3, comp, h4⟩, h5⟩
theorem str_same {args : Array Value} {s : State} {t u : Term} {a : Nat} (h : (Cond.eq t u).before args s = true ∨ (Cond.eq u t).before args s = true) (ht : t.eval args s none [] s = some (.ref a)) : u.eval args s none [] s = some (.ref a) := by
  rcases h with h | h
  · simp only [Cond.before, Cond.holds, Cond.value, ht] at h
    cases hu : u.eval args s none [] s with
    | none => simp [hu] at h
    | some v => cases v <;> simp_all
  · simp only [Cond.before, Cond.holds, Cond.value, ht] at h
    cases hu : u.eval args s none [] s with
    | none => simp [hu] at h
    | some v => cases v <;> simp_all
set_option maxRecDepth 100000 in
set_option maxHeartbeats 4000000 in
theorem law_bs {p : Program} {s : State} {m : MethodId} {meth : Method} {c : Code} {b L : Nat} {xs : Nat → Int32} (C0 : lw_At p s m meth c b L xs) : ∃ θ : Th, Bs θ s ∧ tB θ = s.heap.size ∧ ad θ (K9 + 998) = b := by
  obtain ⟨hx, hb, hr, hml, hown, hts, hX, hbl, hlocks, hgv⟩ := id C0
  have hs := flat_of_before _ hgv
  have hA : ∀ a : Nat, a < s.heap.size → ¬ (fun q : Nat => s.heap.size ≤ q) a := fun a h => Nat.not_le.mpr h
  obtain ⟨adK, adV, hSS, hev⟩ := vk_Sof (args := #[Value.ref b]) (s := s) (N := 17) (tm := sTm) (len := sLen) (byt := sByt) (A := fun q : Nat => s.heap.size ≤ q) sx_len (fun i hi => hs _ (sx_ex i hi)) (fun i hi => hs _ (sx_co i hi)) (fun i hi => hs _ (sx_ar i hi)) (fun i hi => hs _ (sx_le i hi)) (fun i hi j hj => hs _ (sx_el i hi j hj)) (fun i j hi hj hn => (sx_ne i hi j hj hn).elim (fun h => Or.inl (hs _ h)) (fun h => Or.inr (hs _ h))) hA
  obtain ⟨c0, i0, hK0⟩ := u_known (C := RX0) (T := TX0) (N := 6) (n := 6) hts (fun w h => (clw_X0 w h).1) (hts _ sx_iX0)
  obtain ⟨c1, i1, hK1⟩ := u_known (C := RX1) (T := TX1) (N := 3) (n := 3) hts (fun w h => (clw_X1 w h).1) (hts _ sx_iX1)
  obtain ⟨c2, i2, hK2⟩ := u_known (C := RX2) (T := TX2) (N := 2) (n := 2) hts (fun w h => (clw_X2 w h).1) (hts _ sx_iX2)
  obtain ⟨c3, i3, hK3⟩ := u_known (C := RX3) (T := TX3) (N := 5) (n := 5) hts (fun w h => (clw_X3 w h).1) (hts _ sx_iX3)
  obtain ⟨c4, i4, hK4⟩ := u_known (C := RX4) (T := TX4) (N := 2) (n := 2) hts (fun w h => (clw_X4 w h).1) (hts _ sx_iX4)
  obtain ⟨c5, i5, hK5⟩ := u_known (C := RX5) (T := TX5) (N := 2) (n := 2) hts (fun w h => (clw_X5 w h).1) (hts _ sx_iX5)
  obtain ⟨c6, i6, hK6⟩ := u_known (C := RX6) (T := TX6) (N := 4) (n := 4) hts (fun w h => (clw_X6 w h).1) (hts _ sx_iX6)
  obtain ⟨c7, i7, hK7⟩ := u_known (C := RX7) (T := TX7) (N := 20) (n := 20) hts (fun w h => (clw_X7 w h).1) (hts _ sx_iX7)
  obtain ⟨c8, i8, hK8⟩ := u_known (C := RX8) (T := TX8) (N := 1) (n := 1) hts (fun w h => (clw_X8 w h).1) (hts _ sx_iX8)
  obtain ⟨c9, i9, hK9⟩ := u_known (C := RX9) (T := TX9) (N := 8) (n := 8) hts (fun w h => (clw_X9 w h).1) (hts _ sx_iX9)
  obtain ⟨c10, i10, hK10⟩ := u_known (C := RX10) (T := TX10) (N := 8) (n := 8) hts (fun w h => (clw_X10 w h).1) (hts _ sx_iX10)
  obtain ⟨c11, i11, hK11⟩ := u_known (C := RX11) (T := TX11) (N := 15) (n := 15) hts (fun w h => (clw_X11 w h).1) (hts _ sx_iX11)
  obtain ⟨c12, i12, hK12⟩ := u_known (C := RX12) (T := TX12) (N := 37) (n := 37) hts (fun w h => (clw_X12 w h).1) (hts _ sx_iX12)
  obtain ⟨dC, dI, hKc⟩ : ∃ (dC : Nat → ClassId) (dI : Nat → Nat → Nat), ∀ (k : Nat) (q : vw_C), cl9[k]? = some q → u_Kn s q.1 q.2.1 q.2.2 (dC k) (dI k) := by
    refine ⟨fun k => match k with | 0 => c0 | 1 => c1 | 2 => c2 | 3 => c3 | 4 => c4 | 5 => c5 | 6 => c6 | 7 => c7 | 8 => c8 | 9 => c9 | 10 => c10 | 11 => c11 | _ => c12, fun k => match k with | 0 => i0 | 1 => i1 | 2 => i2 | 3 => i3 | 4 => i4 | 5 => i5 | 6 => i6 | 7 => i7 | 8 => i8 | 9 => i9 | 10 => i10 | 11 => i11 | _ => i12, ?_⟩
    intro k q hq
    match k, hq with
    | 0, hq => cases hq; exact hK0
    | 1, hq => cases hq; exact hK1
    | 2, hq => cases hq; exact hK2
    | 3, hq => cases hq; exact hK3
    | 4, hq => cases hq; exact hK4
    | 5, hq => cases hq; exact hK5
    | 6, hq => cases hq; exact hK6
    | 7, hq => cases hq; exact hK7
    | 8, hq => cases hq; exact hK8
    | 9, hq => cases hq; exact hK9
    | 10, hq => cases hq; exact hK10
    | 11, hq => cases hq; exact hK11
    | 12, hq => cases hq; exact hK12
    | k + 13, hq => simp [cl9] at hq
  obtain ⟨a0, ha0⟩ := arr_prim (hts _ (sx_ac .int (by decide))) (fun _ h => h)
  obtain ⟨a1, ha1⟩ := arr_prim (hts _ (sx_ac .long (by decide))) (fun _ h => h)
  obtain ⟨a2, ha2⟩ := arr_prim (hts _ (sx_ac .byte (by decide))) (fun _ h => h)
  obtain ⟨a3, ha3⟩ := arr_prim (hts _ (sx_ac .char (by decide))) (fun _ h => h)
  obtain ⟨a4, ha4⟩ := arr_obj (hts _ (sx_ao (.object "FlushViews$State") (by decide)))
  obtain ⟨a5, ha5⟩ := arr_obj (hts _ (sx_ao (.object "FlushViews$Image") (by decide)))
  obtain ⟨a6, ha6⟩ := arr_arr (hts _ (sx_ao (.array .int) (by decide)))
  have hfm := va_Zqof (hts _ (sx_l ("jdk/internal/util/Preconditions", "SIOOBE_FORMATTER", "Ljava/util/function/BiFunction;") (by decide)).1) (hts _ (sx_l ("jdk/internal/util/Preconditions", "SIOOBE_FORMATTER", "Ljava/util/function/BiFunction;") (by decide)).2) (hs _ sx_z2) hA
  obtain ⟨fm, hfm9⟩ : ∃ fm : Nat, va_Z "jdk/internal/util/Preconditions" "SIOOBE_FORMATTER" "Ljava/util/function/BiFunction;" .null (fun q : Nat => s.heap.size ≤ q) s s.heap ∨ va_Z "jdk/internal/util/Preconditions" "SIOOBE_FORMATTER" "Ljava/util/function/BiFunction;" (.ref fm) (fun q : Nat => s.heap.size ≤ q) s s.heap := by
    rcases hfm with h | ⟨t, h⟩
    · exact ⟨0, Or.inl h⟩
    · exact ⟨t, Or.inr h⟩
  refine ⟨(dC, dI, fun k => match k with | 0 => a0 | 1 => a1 | 2 => a2 | 3 => a3 | 4 => a4 | 5 => a5 | _ => a6, s.heap.size, fun k => if k < 17 then adK k else if k = 999 then fm else b, adV), ?_, rfl, ?_⟩
  · refine ⟨⟨hKc, fun k q hq => ?_⟩, fun w hw => va_Nw.of (by have h := (List.mem_filter.mp hw).2; revert h; cases w <;> simp [isNe, Cond.onTables]) (hts w (List.mem_append_right _ (List.mem_filter.mp hw).1)), va_AO.of (hts _ (sx_ao (.object "FlushViews$State") (by decide))), va_AO.of (hts _ (sx_ao (.object "FlushViews$Image") (by decide))), hts _ (sx_ao (.array .int) (by decide)), Nat.le_refl _,
      vx_Zqof (hts _ (sx_l (Bundle.tN, "UNASSIGNED_STACK", Bundle.steD) (by decide)).1) (hts _ (sx_l (Bundle.tN, "UNASSIGNED_STACK", Bundle.steD) (by decide)).2) (hs _ sx_z3) hA, vx_Zqof (hts _ (sx_l (Bundle.tN, "SUPPRESSED_SENTINEL", Bundle.listD) (by decide)).1) (hts _ (sx_l (Bundle.tN, "SUPPRESSED_SENTINEL", Bundle.listD) (by decide)).2) (hs _ sx_z4) hA, ?_, fun e he => ?_, fun q hq => va_Nc.of (hs _ (sx_nc q hq)), fun q hq => va_Nw.of rfl (hts _ (sx_cs q hq)), fun x hx => va_Nw.of rfl (hts _ (sx_dc x hx)),
      va_Zof (hts _ (sx_l ("java/lang/String", "COMPACT_STRINGS", "Z") (by decide)).1) (hts _ (sx_l ("java/lang/String", "COMPACT_STRINGS", "Z") (by decide)).2) (va_eqi (hs _ sx_z1)) hA, hfm9⟩
    · match k, hq with
      | 0, hq => cases hq; exact ha0
      | 1, hq => cases hq; exact ha1
      | 2, hq => cases hq; exact ha2
      | 3, hq => cases hq; exact ha3
      | 4, hq => cases hq; exact ha4
      | 5, hq => cases hq; exact ha5
      | 6, hq => cases hq; exact ha6
      | k + 7, hq => simp [tys9] at hq
    · refine ⟨fun i hi => ?_, fun i j hi hj h => ?_⟩
      · show va_O _ (if i < 17 then adK i else _) _ _ _ ∧ va_OF _ _ _ _ (if i < 17 then adK i else _) _ _ _ ∧ va_OF _ _ _ _ (if i < 17 then adK i else _) _ _ _ ∧ _
        rw [if_pos hi]
        exact hSS.1 i hi
      · have h' : (if i < 17 then adK i else if i = 999 then fm else b) = (if j < 17 then adK j else if j = 999 then fm else b) := h
        rw [if_pos hi, if_pos hj] at h'
        exact hSS.2 i j hi hj h'
    · have hr9 := hts _ (sx_sk e he)
      unfold stK at he
      simp only [List.mem_cons, List.not_mem_nil, or_false] at he
      rcases he with rfl | rfl | rfl | rfl | rfl | rfl | rfl | rfl | rfl | rfl | rfl | rfl | rfl | rfl | rfl | rfl | rfl | rfl | rfl
      · exact vk_R.of hr9 (hev 0 (by decide))
      · exact vk_R.of hr9 (hev 1 (by decide))
      · exact vk_R.of hr9 (str_same (sx_s0.elim (fun h => Or.inl (hs _ h)) (fun h => Or.inr (hs _ h))) (hev 0 (by decide)))
      · exact vk_R.of hr9 (hev 2 (by decide))
      · exact vk_R.of hr9 (hev 3 (by decide))
      · exact vk_R.of hr9 (hev 4 (by decide))
      · exact vk_R.of hr9 (hev 5 (by decide))
      · exact vk_R.of hr9 (hev 6 (by decide))
      · exact vk_R.of hr9 (hev 7 (by decide))
      · exact vk_R.of hr9 (hev 8 (by decide))
      · exact vk_R.of hr9 (hev 9 (by decide))
      · exact vk_R.of hr9 (hev 10 (by decide))
      · exact vk_R.of hr9 (hev 11 (by decide))
      · exact vk_R.of hr9 (hev 12 (by decide))
      · exact vk_R.of hr9 (hev 13 (by decide))
      · exact vk_R.of hr9 (hev 14 (by decide))
      · exact vk_R.of hr9 (hev 15 (by decide))
      · exact vk_R.of hr9 (str_same (sx_s1.elim (fun h => Or.inl (hs _ h)) (fun h => Or.inr (hs _ h))) (hev 3 (by decide)))
      · exact vk_R.of hr9 (hev 16 (by decide))
  · unfold ad
    rw [if_neg (by omega), if_pos (by omega)]
    show (if K9 + 998 - K9 < 17 then adK (K9 + 998 - K9) else if K9 + 998 - K9 = 999 then fm else b) = b
    rw [Nat.add_sub_cancel_left, if_neg (by decide), if_neg (by decide)]
def mE : Mm := (fun _ _ => 0, fun _ _ => 0, fun _ _ => none, [], 0)
theorem mE_K9 : mN mE < K9 := Nat.le_of_ble_eq_true rfl
theorem mE_N : mN mE = 0 := rfl
theorem mE_S : mS mE = 0 := rfl
theorem fl_st {l : Launch} (h : l.flags = flags0) : l.stackTraces = false := by
  unfold Launch.stackTraces
  rw [h]
  decide +kernel
/-- THE LAW, from its entry, if the computation comes out -/
theorem law_start (hF : ∀ (L : Nat) (xs : Nat → Int32), L ≤ 3584 → ∃ μ' : Mm, F_L_law_ L xs mE = some (1, μ') ∧ mN μ' ≤ 603072 ∧ mS μ' ≤ 7219306) {p : Program} {e : Env} {s : State} {m : MethodId} {below : List Frame} {meth : Method} {c : Code} (l : Launch) (hflags : l.flags = flags0) {b L : Nat} {xs : Nat → Int32} (hL : L ≤ 3584) (hnm : meth.name = "law") (C0 : lw_At p s m meth c b L xs) : W p l e room_1 s m #[Value.ref b] below meth c s.heap [] 0 0 (lw_Z below #[Value.ref b] s) (entryFrame m ([Value.ref b] : List Value).toArray 8) := by
  obtain ⟨hx, hb, hr, hml, hown, hts, hX, hbl, hlocks, hgv⟩ := id C0
  obtain ⟨θ, hBs, hB, had⟩ := law_bs C0
  obtain ⟨μ', h1, h2, h3⟩ := hF L xs hL
  have hZ := c_L_law_ (Z := (p, l, e, room_1, s, m, #[Value.ref b], below, meth, c, mE, θ)) (L := L) (xs := xs) ⟨by rw [show ad (zθ (p, l, e, room_1, s, m, #[Value.ref b], below, meth, c, mE, θ)) (K9 + 998) = b from had]; exact hX, by rw [show ad (zθ (p, l, e, room_1, s, m, #[Value.ref b], below, meth, c, mE, θ)) (K9 + 998) = b from had]; exact hbl, by rw [show ad (zθ (p, l, e, room_1, s, m, #[Value.ref b], below, meth, c, mE, θ)) (K9 + 998) = b from had]; show ¬ tB θ ≤ b; rw [hB]; exact Nat.not_le.mpr hbl⟩ ⟨rfl, ⟨b, rfl⟩, hB⟩ mE
  obtain ⟨-, -, h4⟩ := hZ 1 μ' h1
  have hst : l.stackTraces = false := fl_st hflags
  have hsz : s.heap.size = tB θ + mN mE := by rw [hB, mE_N, Nat.add_zero]
  have hlv := lv_entry ([Value.ref b] : List Value) (n := 8) (Nat.le_of_ble_eq_true rfl)
  rw [lg_entry_eq]
  refine h4 ⟨hx, hb, hml, hown, fun w hw => hts w (List.mem_filter.mp hw).1, hlocks, hBs, rfl, rfl, hr, hst, hnm, hsz⟩ ⟨Nat.zero_le _, Nat.zero_le _, Nat.le_trans h2 (Nat.le_add_left _ _), Nat.le_trans h3 (Nat.le_add_left _ _)⟩ s.heap [] _ ⟨hsz, fun i q hi => by simp [mE, sH] at hi, mE_K9⟩ va_S.rf ?_
  refine ⟨hlv.1, hlv.2.1, fun i v hi => ?_⟩
  match i, hi with
  | 0, hi =>
    cases hi
    have h9 := hlv.2.2 (0, .ref b) List.mem_cons_self
    show _ = some (Slot.val (.ref (ad θ (K9 + 998))))
    rw [had]
    exact h9
  | 1, hi => cases hi
  | 2, hi => cases hi
  | 3, hi => cases hi
  | 4, hi => cases hi
  | 5, hi => cases hi
  | 6, hi => cases hi
  | 7, hi => cases hi
  | i + 8, hi => simp at hi
