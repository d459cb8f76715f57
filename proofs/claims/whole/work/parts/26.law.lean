theorem ki_7 : Int32.ofInt 7 = 7 := by decide
theorem kt_35 : (35 : Int32).toInt = 35 := by decide
theorem kt_34 : (34 : Int32).toInt = 34 := by decide
theorem kt_33 : (33 : Int32).toInt = 33 := by decide
theorem kt_32 : (32 : Int32).toInt = 32 := by decide
theorem kt_31 : (31 : Int32).toInt = 31 := by decide
theorem kt_30 : (30 : Int32).toInt = 30 := by decide
theorem kt_29 : (29 : Int32).toInt = 29 := by decide
theorem kt_28 : (28 : Int32).toInt = 28 := by decide
theorem kt_27 : (27 : Int32).toInt = 27 := by decide
theorem kt_26 : (26 : Int32).toInt = 26 := by decide
theorem kt_25 : (25 : Int32).toInt = 25 := by decide
theorem kt_24 : (24 : Int32).toInt = 24 := by decide
theorem kt_23 : (23 : Int32).toInt = 23 := by decide
theorem kt_22 : (22 : Int32).toInt = 22 := by decide
theorem kt_21 : (21 : Int32).toInt = 21 := by decide
theorem kt_20 : (20 : Int32).toInt = 20 := by decide
theorem kt_19 : (19 : Int32).toInt = 19 := by decide
theorem kt_18 : (18 : Int32).toInt = 18 := by decide
theorem kt_17 : (17 : Int32).toInt = 17 := by decide
theorem kt_16 : (16 : Int32).toInt = 16 := by decide
theorem kt_15 : (15 : Int32).toInt = 15 := by decide
theorem kt_14 : (14 : Int32).toInt = 14 := by decide
theorem kt_13 : (13 : Int32).toInt = 13 := by decide
theorem kt_12 : (12 : Int32).toInt = 12 := by decide
theorem kt_11 : (11 : Int32).toInt = 11 := by decide
def R_law : String := "FlushViewsLaw"
def lw_P (b : Addr) (xs : List Int32) (args : Array Value) (s : State) : Prop := args = #[.ref b] ∧ s.IntsAt b xs ∧ xs.length ≤ 3584 ∧ (Jvm.Cond.and given_1 narrow_1).before args s = true
def lw_Q (_ : Array Value) (s : State) (o : Outcome) (t : State) : Prop := o = .returned (some (.int 1)) ∧ Framed s o t [] 603072 7219306
def lw_Z (below : List Frame) (a : Array Value) (s : State) : State → Prop := fun t => ∃ o, t.status = .running ∧ Ended t below o ∧ lw_Q a s o t
/-- the law's own end, with 1 on the stack, nothing written that was there before, its room as the claim has it -/
theorem lw_ret {p : Program} {l : Launch} {e : Env} {s : State} {m : MethodId} {below : List Frame} {meth : Method} {c : Code} {b : Nat} (hx : p.tables.exec = Jvm.exec) (hb : c.code = code) (hr : meth.sig.returnType = ret) (hlocks : meth.locks = false) {pc : Nat} {H : Heap} {ls : Array Slot} (hdg : decode code pc = .ok (.ireturn, 1)) : W p l e room_1 s m #[Value.ref b] below meth c H [] 603072 7219306 (lw_Z below #[Value.ref b] s) (F0 m pc ls [.int 1]) := by
  intro T hT X
  obtain ⟨fs, hret, hrun, hended, hW, hframe⟩ := X.leave (v := some (.int 1)) (hlocks := hlocks) (fun h => by rw [hr] at h; cases h)
  have hmeth' : T.vm.method? m = some meth := X.method'
  refine ⟨T.setFrames fs, ?_, .returned (some (.int 1)), hrun, hended, rfl, ⟨_, rfl⟩, hW, hframe⟩
  jvm_step X.here [X.here.top, hx, hb, hdg, hmeth', hr, ret, narrow_b1]
  (try refine ⟨rfl, ?_⟩); (try refine ⟨rfl, ?_⟩)
  first | (intro acts; rw [hret _ acts rfl rfl rfl]) | rw [hret _ _ rfl rfl rfl]
  exact Steps.refl _
/-- what holds at the law's entry: the machine, the code, the tables' words (any of lw_tbl by 'hts w (by decide +kernel)'), the script of L ints xs at the cell b, what the Statement gives of the start (any of its parts by flat_of_before) -/
def lw_At (p : Program) (s : State) (m : MethodId) (meth : Method) (c : Code) (b L : Nat) (xs : Nat → Int32) : Prop :=
  p.tables.exec = Jvm.exec ∧ c.code = code ∧ meth.sig.returnType = ret ∧ c.maxLocals = 8 ∧ s.vm.findClass R_law = some m.cls ∧ (∀ w ∈ lw_tbl, w.before #[Value.ref b] s = true) ∧ va_X b L xs s s.heap ∧ b < s.heap.size ∧ meth.locks = false ∧ (Jvm.Cond.and given_1 narrow_1).before #[Value.ref b] s = true
/-! the law's own method -/
def scX (Z : Zx) (L : Nat) (xs : Nat → Int32) : Prop := va_X (ad (zθ Z) (K9 + 998)) L xs (zs Z) (zs Z).heap ∧ ad (zθ Z) (K9 + 998) < (zs Z).heap.size ∧ ¬ tA (zθ Z) (ad (zθ Z) (K9 + 998))
def LwZ (Z : Zx) : Prop := zR Z = room_1 ∧ (∃ b, za Z = #[Value.ref b]) ∧ tB (zθ Z) = (zs Z).heap.size
def PsL (Z : Zx) (_ : Int32) (_ : Mm) : State → Prop := lw_Z Z.2.2.2.2.2.2.2.1 (za Z) (zs Z)
abbrev M_L_law_ : MI := (cL_law_, RL, 8, 2048, 94400, (some .boolean), "law")
section G8
variable {α : Type} {Z : Zx} {M : MI} {Ψ : α → Mm → State → Prop} {pc : Nat} {lv : List (Option Value)} {st : List Value} {μ : Mm} {X Y : Option (α × Mm)}
theorem g_slen {L : Nat} {xs : Nat → Int32} (hX : scX Z L xs) (d : decode M.1 pc = .ok (.arraylength, 1)) (k : GG Z M Ψ (pc + 1) lv (.int (Int32.ofNat L) :: st) μ X) : GG Z M Ψ pc lv (.ref (K9 + 998) :: st) μ X :=
  g_pure k (fun C H locs c n Q ls hR hS hl w => va_slen C.1 C.2.1 hX.1 hX.2.1 hX.2.2 hS d w)
theorem g_sld {L : Nat} {xs : Nat → Int32} {i : Int32} (hX : scX Z L xs) (d : decode M.1 pc = .ok (.iaload, 1)) (k : GG Z M Ψ (pc + 1) lv (.int (xs (ix i)) :: st) μ X) : GG Z M Ψ pc lv (.int i :: .ref (K9 + 998) :: st) μ (gd (decide (0 ≤ i.toInt ∧ i.toInt < (L : Int))) X) :=
  g_gp k (fun hb C H locs c n Q ls hR hS hl w => va_sld C.1 C.2.1 hX.1 hX.2.1 hX.2.2 hS (vp_in_iff.mpr (of_decide_eq_true hb)) d w)
theorem g_lawret (hW : LwZ Z) (d : decode cL_law_ pc = .ok (.ireturn, 1)) : GG Z M_L_law_ (PsL Z) pc lv [.int 1] μ (some ((1 : Int32), μ)) := by
  intro r μ' hX
  cases hX
  refine ⟨Nat.le_refl _, Nat.le_refl _, fun C O H locs ls hR hS hl => ?_⟩
  obtain ⟨p, l, e, R, s, m, args, below, meth, c, μ0, θ⟩ := Z
  obtain ⟨hW1, ⟨b, hW2⟩, hW3⟩ := hW
  have hW1' : R = room_1 := hW1
  have hW2' : args = #[Value.ref b] := hW2
  have hW3' : tB θ = s.heap.size := hW3
  subst hW1'
  subst hW2'
  obtain ⟨o1, o2, o3, o4⟩ := O
  have o3' : mN μ ≤ mN μ0 + 603072 := o3
  have o4' : mS μ ≤ mS μ0 + 7219306 := o4
  refine va_forget (fun q hq => by rw [← hW3']; exact hS.2.2 q hq) ?_
  refine W.widen (k := 603072) (n := 7219306) (by show mN μ - mN μ0 ≤ _; omega) (by show mS μ - mS μ0 ≤ _; omega) ?_
  exact lw_ret C.1 C.2.1 C.2.2.2.2.2.2.2.2.2.1 C.2.2.2.2.2.1 d
end G8
def L_L_law__23 (L : Nat) (xs : Nat → Int32) : Nat → Nat → Nat → Nat → Int32 → Mm → Option (Int32 × Mm)
 | 0, _, _, _, _, _ => none
 | n + 1, v1, v2, v3, v4, m =>
 if ((Int32.ofNat L) - (7 : Int32)) < v4 then (
 some ((1 : Int32), m))
 else (
 gd (decide (0 ≤ v4.toInt ∧ v4.toInt < (L : Int))) (
 jn (fun (v1 : Nat) (v2 : Nat) (v3 : Nat) (v4 : Int32) (m : Mm) =>
 lt9 (v4 + (7 : Int32)) fun x9 =>
 L_L_law__23 L xs n v1 v2 v3 x9 m) fun J1890 =>
 if ((xs (ix v4)) &&& (63 : Int32)) = (0 : Int32) then (
 gd (decide (0 ≤ (v4 + (1 : Int32)).toInt ∧ (v4 + (1 : Int32)).toInt < (L : Int))) (
 gd (decide (0 ≤ (v4 + (2 : Int32)).toInt ∧ (v4 + (2 : Int32)).toInt < (L : Int))) (
 gd (decide (0 ≤ (v4 + (3 : Int32)).toInt ∧ (v4 + (3 : Int32)).toInt < (L : Int))) (
 gd (decide (0 ≤ (v4 + (4 : Int32)).toInt ∧ (v4 + (4 : Int32)).toInt < (L : Int))) (
 gd (decide (0 ≤ (v4 + (5 : Int32)).toInt ∧ (v4 + (5 : Int32)).toInt < (L : Int))) (
 gd (okO m v1 11) (bd (F_X11_feed v1 (xs (ix (v4 + (1 : Int32)))) (xs (ix (v4 + (2 : Int32)))) (xs (ix (v4 + (3 : Int32)))) (xs (ix (v4 + (4 : Int32)))) (xs (ix (v4 + (5 : Int32)))) m) fun r10 m11 =>
 gd (decide (0 ≤ (v4 + (1 : Int32)).toInt ∧ (v4 + (1 : Int32)).toInt < (L : Int))) (
 gd (decide (0 ≤ (v4 + (2 : Int32)).toInt ∧ (v4 + (2 : Int32)).toInt < (L : Int))) (
 gd (decide (0 ≤ (v4 + (3 : Int32)).toInt ∧ (v4 + (3 : Int32)).toInt < (L : Int))) (
 gd (decide (0 ≤ (v4 + (4 : Int32)).toInt ∧ (v4 + (4 : Int32)).toInt < (L : Int))) (
 gd (decide (0 ≤ (v4 + (5 : Int32)).toInt ∧ (v4 + (5 : Int32)).toInt < (L : Int))) (
 gd (okO m11 v2 12) (bd (F_X12_feed v2 (xs (ix (v4 + (1 : Int32)))) (xs (ix (v4 + (2 : Int32)))) (xs (ix (v4 + (3 : Int32)))) (xs (ix (v4 + (4 : Int32)))) (xs (ix (v4 + (5 : Int32)))) m11) fun r12 m13 =>
 if r10 = r12 then (
 J1890 v1 v2 v3 v4 m13)
 else (
 none))))))))))))))
 else (
 if ((xs (ix v4)) &&& (63 : Int32)) = (1 : Int32) then (
 gd (decide (0 ≤ (v4 + (1 : Int32)).toInt ∧ (v4 + (1 : Int32)).toInt < (L : Int))) (
 bd (F_L_group v1 (xs (ix (v4 + (1 : Int32)))) v3 m) fun r14 m15 =>
 lt9 r14 fun x16 =>
 gd (decide (0 ≤ (v4 + (1 : Int32)).toInt ∧ (v4 + (1 : Int32)).toInt < (L : Int))) (
 gd (okO m15 v2 12) (bd (F_X12_group v2 (xs (ix (v4 + (1 : Int32)))) m15) fun r17 m18 =>
 lt9 r17 fun x19 =>
 gd (okO m18 v2 12) (bd (F_X12_thrown v2 m18) fun r20 m21 =>
 if r20 = x16 then (
 jn (fun (v1 : Nat) (v2 : Nat) (v3 : Nat) (v4 : Int32) (m : Mm) =>
 J1890 v1 v2 v3 v4 m) fun J326 =>
 if x16 = 0 then (
 gd (okA m21 101 v3 (0 : Int32)) (
 if (lg_cmp (rL m21 v3 (ix (0 : Int32))) (x19.toInt64)) = 0 then (
 J326 v1 v2 v3 v4 m21)
 else (
 none)))
 else (
 J326 v1 v2 v3 v4 m21))
 else (
 none))))))
 else (
 if ((xs (ix v4)) &&& (63 : Int32)) = (2 : Int32) then (
 gd (decide (0 ≤ (v4 + (1 : Int32)).toInt ∧ (v4 + (1 : Int32)).toInt < (L : Int))) (
 bd (F_L_law v1 (xs (ix (v4 + (1 : Int32)))) v3 m) fun r22 m23 =>
 lt9 r22 fun x24 =>
 gd (decide (0 ≤ (v4 + (1 : Int32)).toInt ∧ (v4 + (1 : Int32)).toInt < (L : Int))) (
 gd (okO m23 v2 12) (bd (F_X12_law v2 (xs (ix (v4 + (1 : Int32)))) m23) fun r25 m26 =>
 lt9 r25 fun x27 =>
 gd (okO m26 v2 12) (bd (F_X12_thrown v2 m26) fun r28 m29 =>
 if r28 = x24 then (
 jn (fun (v1 : Nat) (v2 : Nat) (v3 : Nat) (v4 : Int32) (m : Mm) =>
 J1890 v1 v2 v3 v4 m) fun J382 =>
 if x24 = 0 then (
 gd (okA m29 101 v3 (0 : Int32)) (
 if (lg_cmp (rL m29 v3 (ix (0 : Int32))) (x27.toInt64)) = 0 then (
 J382 v1 v2 v3 v4 m29)
 else (
 none)))
 else (
 J382 v1 v2 v3 v4 m29))
 else (
 none))))))
 else (
 if ((xs (ix v4)) &&& (63 : Int32)) = (3 : Int32) then (
 gd (decide (0 ≤ (v4 + (1 : Int32)).toInt ∧ (v4 + (1 : Int32)).toInt < (L : Int))) (
 bd (F_L_work v1 (xs (ix (v4 + (1 : Int32)))) v3 m) fun r30 m31 =>
 lt9 r30 fun x32 =>
 gd (decide (0 ≤ (v4 + (1 : Int32)).toInt ∧ (v4 + (1 : Int32)).toInt < (L : Int))) (
 gd (okO m31 v2 12) (bd (F_X12_work v2 (xs (ix (v4 + (1 : Int32)))) m31) fun r33 m34 =>
 lt9 r33 fun x35 =>
 gd (okO m34 v2 12) (bd (F_X12_thrown v2 m34) fun r36 m37 =>
 if r36 = x32 then (
 jn (fun (v1 : Nat) (v2 : Nat) (v3 : Nat) (v4 : Int32) (m : Mm) =>
 J1890 v1 v2 v3 v4 m) fun J438 =>
 if x32 = 0 then (
 gd (okA m37 101 v3 (0 : Int32)) (
 if (lg_cmp (rL m37 v3 (ix (0 : Int32))) (x35.toInt64)) = 0 then (
 J438 v1 v2 v3 v4 m37)
 else (
 none)))
 else (
 J438 v1 v2 v3 v4 m37))
 else (
 none))))))
 else (
 if ((xs (ix v4)) &&& (63 : Int32)) = (4 : Int32) then (
 gd (decide (0 ≤ (v4 + (1 : Int32)).toInt ∧ (v4 + (1 : Int32)).toInt < (L : Int))) (
 bd (F_L_book v1 (xs (ix (v4 + (1 : Int32)))) v3 m) fun r38 m39 =>
 lt9 r38 fun x40 =>
 gd (decide (0 ≤ (v4 + (1 : Int32)).toInt ∧ (v4 + (1 : Int32)).toInt < (L : Int))) (
 gd (okO m39 v2 12) (bd (F_X12_book v2 (xs (ix (v4 + (1 : Int32)))) m39) fun r41 m42 =>
 lt9 r41 fun x43 =>
 gd (okO m42 v2 12) (bd (F_X12_thrown v2 m42) fun r44 m45 =>
 if r44 = x40 then (
 jn (fun (v1 : Nat) (v2 : Nat) (v3 : Nat) (v4 : Int32) (m : Mm) =>
 J1890 v1 v2 v3 v4 m) fun J494 =>
 if x40 = 0 then (
 gd (okA m45 101 v3 (0 : Int32)) (
 if (lg_cmp (rL m45 v3 (ix (0 : Int32))) (x43.toInt64)) = 0 then (
 J494 v1 v2 v3 v4 m45)
 else (
 none)))
 else (
 J494 v1 v2 v3 v4 m45))
 else (
 none))))))
 else (
 if ((xs (ix v4)) &&& (63 : Int32)) = (5 : Int32) then (
 gd (okO m v1 11) (bd (F_X11_fault v1 m) fun r46 m47 =>
 gd (okO m47 v2 12) (bd (F_X12_fault v2 m47) fun r48 m49 =>
 if r46 = r48 then (
 J1890 v1 v2 v3 v4 m49)
 else (
 none))))
 else (
 if ((xs (ix v4)) &&& (63 : Int32)) = (6 : Int32) then (
 gd (okO m v1 11) (bd (F_X11_undo v1 m) fun r50 m51 =>
 gd (okO m51 v2 12) (bd (F_X12_undo v2 m51) fun r52 m53 =>
 if r50 = r52 then (
 J1890 v1 v2 v3 v4 m53)
 else (
 none))))
 else (
 if ((xs (ix v4)) &&& (63 : Int32)) = (7 : Int32) then (
 gd (decide (0 ≤ (v4 + (1 : Int32)).toInt ∧ (v4 + (1 : Int32)).toInt < (L : Int))) (
 bd (F_L_told v1 (xs (ix (v4 + (1 : Int32)))) v3 m) fun r54 m55 =>
 lt9 r54 fun x56 =>
 gd (decide (0 ≤ (v4 + (1 : Int32)).toInt ∧ (v4 + (1 : Int32)).toInt < (L : Int))) (
 gd (okO m55 v2 12) (bd (F_X12_told v2 (xs (ix (v4 + (1 : Int32)))) m55) fun r57 m58 =>
 lt9 r57 fun x59 =>
 gd (okO m58 v2 12) (bd (F_X12_thrown v2 m58) fun r60 m61 =>
 if r60 = x56 then (
 jn (fun (v1 : Nat) (v2 : Nat) (v3 : Nat) (v4 : Int32) (m : Mm) =>
 J1890 v1 v2 v3 v4 m) fun J576 =>
 if x56 = 0 then (
 gd (okA m61 101 v3 (0 : Int32)) (
 if (lg_cmp (rL m61 v3 (ix (0 : Int32))) (x59.toInt64)) = 0 then (
 J576 v1 v2 v3 v4 m61)
 else (
 none)))
 else (
 J576 v1 v2 v3 v4 m61))
 else (
 none))))))
 else (
 if ((xs (ix v4)) &&& (63 : Int32)) = (8 : Int32) then (
 gd (decide (0 ≤ (v4 + (1 : Int32)).toInt ∧ (v4 + (1 : Int32)).toInt < (L : Int))) (
 gd (decide (0 ≤ (v4 + (2 : Int32)).toInt ∧ (v4 + (2 : Int32)).toInt < (L : Int))) (
 bd (F_L_member v1 (xs (ix (v4 + (1 : Int32)))) (xs (ix (v4 + (2 : Int32)))) v3 m) fun r62 m63 =>
 lt9 r62 fun x64 =>
 gd (decide (0 ≤ (v4 + (1 : Int32)).toInt ∧ (v4 + (1 : Int32)).toInt < (L : Int))) (
 gd (decide (0 ≤ (v4 + (2 : Int32)).toInt ∧ (v4 + (2 : Int32)).toInt < (L : Int))) (
 gd (okO m63 v2 12) (bd (F_X12_member v2 (xs (ix (v4 + (1 : Int32)))) (xs (ix (v4 + (2 : Int32)))) m63) fun r65 m66 =>
 lt9 r65 fun x67 =>
 gd (okO m66 v2 12) (bd (F_X12_thrown v2 m66) fun r68 m69 =>
 if r68 = x64 then (
 jn (fun (v1 : Nat) (v2 : Nat) (v3 : Nat) (v4 : Int32) (m : Mm) =>
 J1890 v1 v2 v3 v4 m) fun J644 =>
 if x64 = 0 then (
 gd (okA m69 101 v3 (0 : Int32)) (
 if (lg_cmp (rL m69 v3 (ix (0 : Int32))) (x67.toInt64)) = 0 then (
 J644 v1 v2 v3 v4 m69)
 else (
 none)))
 else (
 J644 v1 v2 v3 v4 m69))
 else (
 none))))))))
 else (
 if ((xs (ix v4)) &&& (63 : Int32)) = (9 : Int32) then (
 gd (decide (0 ≤ (v4 + (1 : Int32)).toInt ∧ (v4 + (1 : Int32)).toInt < (L : Int))) (
 bd (F_L_tally v1 (xs (ix (v4 + (1 : Int32)))) v3 m) fun r70 m71 =>
 lt9 r70 fun x72 =>
 gd (decide (0 ≤ (v4 + (1 : Int32)).toInt ∧ (v4 + (1 : Int32)).toInt < (L : Int))) (
 gd (okO m71 v2 12) (bd (F_X12_tally v2 (xs (ix (v4 + (1 : Int32)))) m71) fun r73 m74 =>
 lt9 r73 fun x75 =>
 gd (okO m74 v2 12) (bd (F_X12_thrown v2 m74) fun r76 m77 =>
 if r76 = x72 then (
 jn (fun (v1 : Nat) (v2 : Nat) (v3 : Nat) (v4 : Int32) (m : Mm) =>
 J1890 v1 v2 v3 v4 m) fun J699 =>
 if x72 = 0 then (
 gd (okA m77 101 v3 (0 : Int32)) (
 if (lg_cmp (rL m77 v3 (ix (0 : Int32))) x75) = 0 then (
 J699 v1 v2 v3 v4 m77)
 else (
 none)))
 else (
 J699 v1 v2 v3 v4 m77))
 else (
 none))))))
 else (
 if ((xs (ix v4)) &&& (63 : Int32)) = (10 : Int32) then (
 gd (decide (0 ≤ (v4 + (1 : Int32)).toInt ∧ (v4 + (1 : Int32)).toInt < (L : Int))) (
 gd (decide (0 ≤ (v4 + (2 : Int32)).toInt ∧ (v4 + (2 : Int32)).toInt < (L : Int))) (
 bd (F_L_log v1 (xs (ix (v4 + (1 : Int32)))) (xs (ix (v4 + (2 : Int32)))) v3 m) fun r78 m79 =>
 lt9 r78 fun x80 =>
 gd (decide (0 ≤ (v4 + (1 : Int32)).toInt ∧ (v4 + (1 : Int32)).toInt < (L : Int))) (
 gd (decide (0 ≤ (v4 + (2 : Int32)).toInt ∧ (v4 + (2 : Int32)).toInt < (L : Int))) (
 gd (okO m79 v2 12) (bd (F_X12_log v2 (xs (ix (v4 + (1 : Int32)))) (xs (ix (v4 + (2 : Int32)))) m79) fun r81 m82 =>
 lt9 r81 fun x83 =>
 gd (okO m82 v2 12) (bd (F_X12_thrown v2 m82) fun r84 m85 =>
 if r84 = x80 then (
 jn (fun (v1 : Nat) (v2 : Nat) (v3 : Nat) (v4 : Int32) (m : Mm) =>
 J1890 v1 v2 v3 v4 m) fun J766 =>
 if x80 = 0 then (
 gd (okA m85 101 v3 (0 : Int32)) (
 if (lg_cmp (rL m85 v3 (ix (0 : Int32))) x83) = 0 then (
 J766 v1 v2 v3 v4 m85)
 else (
 none)))
 else (
 J766 v1 v2 v3 v4 m85))
 else (
 none))))))))
 else (
 if ((xs (ix v4)) &&& (63 : Int32)) = (11 : Int32) then (
 gd (decide (0 ≤ (v4 + (1 : Int32)).toInt ∧ (v4 + (1 : Int32)).toInt < (L : Int))) (
 gd (decide (0 ≤ (v4 + (2 : Int32)).toInt ∧ (v4 + (2 : Int32)).toInt < (L : Int))) (
 bd (F_L_message v1 (xs (ix (v4 + (1 : Int32)))) (xs (ix (v4 + (2 : Int32)))) v3 m) fun r86 m87 =>
 lt9 r86 fun x88 =>
 gd (decide (0 ≤ (v4 + (1 : Int32)).toInt ∧ (v4 + (1 : Int32)).toInt < (L : Int))) (
 gd (decide (0 ≤ (v4 + (2 : Int32)).toInt ∧ (v4 + (2 : Int32)).toInt < (L : Int))) (
 gd (okO m87 v2 12) (bd (F_X12_message v2 (xs (ix (v4 + (1 : Int32)))) (xs (ix (v4 + (2 : Int32)))) m87) fun r89 m90 =>
 lt9 r89 fun x91 =>
 gd (okO m90 v2 12) (bd (F_X12_thrown v2 m90) fun r92 m93 =>
 if r92 = x88 then (
 jn (fun (v1 : Nat) (v2 : Nat) (v3 : Nat) (v4 : Int32) (m : Mm) =>
 J1890 v1 v2 v3 v4 m) fun J834 =>
 if x88 = 0 then (
 gd (okA m93 101 v3 (0 : Int32)) (
 if (lg_cmp (rL m93 v3 (ix (0 : Int32))) (x91.toInt64)) = 0 then (
 J834 v1 v2 v3 v4 m93)
 else (
 none)))
 else (
 J834 v1 v2 v3 v4 m93))
 else (
 none))))))))
 else (
 if ((xs (ix v4)) &&& (63 : Int32)) = (12 : Int32) then (
 gd (decide (0 ≤ (v4 + (1 : Int32)).toInt ∧ (v4 + (1 : Int32)).toInt < (L : Int))) (
 gd (decide (0 ≤ (v4 + (2 : Int32)).toInt ∧ (v4 + (2 : Int32)).toInt < (L : Int))) (
 bd (F_L_knows v1 (xs (ix (v4 + (1 : Int32)))) (xs (ix (v4 + (2 : Int32)))) v3 m) fun r94 m95 =>
 lt9 r94 fun x96 =>
 gd (decide (0 ≤ (v4 + (1 : Int32)).toInt ∧ (v4 + (1 : Int32)).toInt < (L : Int))) (
 gd (decide (0 ≤ (v4 + (2 : Int32)).toInt ∧ (v4 + (2 : Int32)).toInt < (L : Int))) (
 gd (okO m95 v2 12) (bd (F_X12_knows v2 (xs (ix (v4 + (1 : Int32)))) (xs (ix (v4 + (2 : Int32)))) m95) fun r97 m98 =>
 lt9 r97 fun x99 =>
 gd (okO m98 v2 12) (bd (F_X12_thrown v2 m98) fun r100 m101 =>
 if r100 = x96 then (
 jn (fun (v1 : Nat) (v2 : Nat) (v3 : Nat) (v4 : Int32) (m : Mm) =>
 J1890 v1 v2 v3 v4 m) fun J902 =>
 if x96 = 0 then (
 gd (okA m101 101 v3 (0 : Int32)) (
 if (lg_cmp (rL m101 v3 (ix (0 : Int32))) (x99.toInt64)) = 0 then (
 J902 v1 v2 v3 v4 m101)
 else (
 none)))
 else (
 J902 v1 v2 v3 v4 m101))
 else (
 none))))))))
 else (
 if ((xs (ix v4)) &&& (63 : Int32)) = (13 : Int32) then (
 gd (decide (0 ≤ (v4 + (1 : Int32)).toInt ∧ (v4 + (1 : Int32)).toInt < (L : Int))) (
 bd (F_L_stable v1 (xs (ix (v4 + (1 : Int32)))) v3 m) fun r102 m103 =>
 lt9 r102 fun x104 =>
 gd (decide (0 ≤ (v4 + (1 : Int32)).toInt ∧ (v4 + (1 : Int32)).toInt < (L : Int))) (
 gd (okO m103 v2 12) (bd (F_X12_stable v2 (xs (ix (v4 + (1 : Int32)))) m103) fun r105 m106 =>
 lt9 r105 fun x107 =>
 gd (okO m106 v2 12) (bd (F_X12_thrown v2 m106) fun r108 m109 =>
 if r108 = x104 then (
 jn (fun (v1 : Nat) (v2 : Nat) (v3 : Nat) (v4 : Int32) (m : Mm) =>
 J1890 v1 v2 v3 v4 m) fun J958 =>
 if x104 = 0 then (
 gd (okA m109 101 v3 (0 : Int32)) (
 if (lg_cmp (rL m109 v3 (ix (0 : Int32))) (x107.toInt64)) = 0 then (
 J958 v1 v2 v3 v4 m109)
 else (
 none)))
 else (
 J958 v1 v2 v3 v4 m109))
 else (
 none))))))
 else (
 if ((xs (ix v4)) &&& (63 : Int32)) = (14 : Int32) then (
 gd (decide (0 ≤ (v4 + (1 : Int32)).toInt ∧ (v4 + (1 : Int32)).toInt < (L : Int))) (
 gd (decide (0 ≤ (v4 + (2 : Int32)).toInt ∧ (v4 + (2 : Int32)).toInt < (L : Int))) (
 gd (decide (0 ≤ (v4 + (3 : Int32)).toInt ∧ (v4 + (3 : Int32)).toInt < (L : Int))) (
 gd (decide (0 ≤ (v4 + (4 : Int32)).toInt ∧ (v4 + (4 : Int32)).toInt < (L : Int))) (
 bd (F_L_would v1 (xs (ix (v4 + (1 : Int32)))) (xs (ix (v4 + (2 : Int32)))) (xs (ix (v4 + (3 : Int32)))) (xs (ix (v4 + (4 : Int32)))) v3 m) fun r110 m111 =>
 lt9 r110 fun x112 =>
 gd (decide (0 ≤ (v4 + (1 : Int32)).toInt ∧ (v4 + (1 : Int32)).toInt < (L : Int))) (
 gd (decide (0 ≤ (v4 + (2 : Int32)).toInt ∧ (v4 + (2 : Int32)).toInt < (L : Int))) (
 gd (decide (0 ≤ (v4 + (3 : Int32)).toInt ∧ (v4 + (3 : Int32)).toInt < (L : Int))) (
 gd (decide (0 ≤ (v4 + (4 : Int32)).toInt ∧ (v4 + (4 : Int32)).toInt < (L : Int))) (
 gd (okO m111 v2 12) (bd (F_X12_would v2 (xs (ix (v4 + (1 : Int32)))) (xs (ix (v4 + (2 : Int32)))) (xs (ix (v4 + (3 : Int32)))) (xs (ix (v4 + (4 : Int32)))) m111) fun r113 m114 =>
 lt9 r113 fun x115 =>
 gd (okO m114 v2 12) (bd (F_X12_thrown v2 m114) fun r116 m117 =>
 if r116 = x112 then (
 jn (fun (v1 : Nat) (v2 : Nat) (v3 : Nat) (v4 : Int32) (m : Mm) =>
 J1890 v1 v2 v3 v4 m) fun J1050 =>
 if x112 = 0 then (
 gd (okA m117 101 v3 (0 : Int32)) (
 if (lg_cmp (rL m117 v3 (ix (0 : Int32))) (x115.toInt64)) = 0 then (
 J1050 v1 v2 v3 v4 m117)
 else (
 none)))
 else (
 J1050 v1 v2 v3 v4 m117))
 else (
 none))))))))))))
 else (
 if ((xs (ix v4)) &&& (63 : Int32)) = (15 : Int32) then (
 gd (okO m v1 11) (bd (F_X11_primary v1 m) fun r118 m119 =>
 gd (okO m119 v2 12) (bd (F_X12_primary v2 m119) fun r120 m121 =>
 if r118 = r120 then (
 J1890 v1 v2 v3 v4 m121)
 else (
 none))))
 else (
 if ((xs (ix v4)) &&& (63 : Int32)) = (16 : Int32) then (
 gd (decide (0 ≤ (v4 + (1 : Int32)).toInt ∧ (v4 + (1 : Int32)).toInt < (L : Int))) (
 bd (F_L_missing v1 (xs (ix (v4 + (1 : Int32)))) v3 m) fun r122 m123 =>
 lt9 r122 fun x124 =>
 gd (decide (0 ≤ (v4 + (1 : Int32)).toInt ∧ (v4 + (1 : Int32)).toInt < (L : Int))) (
 gd (okO m123 v2 12) (bd (F_X12_missing v2 (xs (ix (v4 + (1 : Int32)))) m123) fun r125 m126 =>
 lt9 r125 fun x127 =>
 gd (okO m126 v2 12) (bd (F_X12_thrown v2 m126) fun r128 m129 =>
 if r128 = x124 then (
 jn (fun (v1 : Nat) (v2 : Nat) (v3 : Nat) (v4 : Int32) (m : Mm) =>
 J1890 v1 v2 v3 v4 m) fun J1119 =>
 if x124 = 0 then (
 gd (okA m129 101 v3 (0 : Int32)) (
 if (lg_cmp (rL m129 v3 (ix (0 : Int32))) (x127.toInt64)) = 0 then (
 J1119 v1 v2 v3 v4 m129)
 else (
 none)))
 else (
 J1119 v1 v2 v3 v4 m129))
 else (
 none))))))
 else (
 if ((xs (ix v4)) &&& (63 : Int32)) = (17 : Int32) then (
 gd (okO m v1 11) (bd (F_X11_lost v1 m) fun r130 m131 =>
 gd (okO m131 v2 12) (bd (F_X12_lost v2 m131) fun r132 m133 =>
 if r130 = r132 then (
 J1890 v1 v2 v3 v4 m133)
 else (
 none))))
 else (
 if ((xs (ix v4)) &&& (63 : Int32)) = (18 : Int32) then (
 gd (okO m v1 11) (bd (F_X11_fall v1 m) fun r134 m135 =>
 gd (okO m135 v2 12) (bd (F_X12_fall v2 m135) fun r136 m137 =>
 if r134 = r136 then (
 J1890 v1 v2 v3 v4 m137)
 else (
 none))))
 else (
 if ((xs (ix v4)) &&& (63 : Int32)) = (19 : Int32) then (
 gd (okO m v1 11) (bd (F_X11_splits v1 m) fun r138 m139 =>
 gd (okO m139 v2 12) (bd (F_X12_splits v2 m139) fun r140 m141 =>
 if r138 = r140 then (
 J1890 v1 v2 v3 v4 m141)
 else (
 none))))
 else (
 if ((xs (ix v4)) &&& (63 : Int32)) = (20 : Int32) then (
 gd (okO m v1 11) (bd (F_X11_tells v1 m) fun r142 m143 =>
 gd (okO m143 v2 12) (bd (F_X12_tells v2 m143) fun r144 m145 =>
 if r142 = r144 then (
 J1890 v1 v2 v3 v4 m145)
 else (
 none))))
 else (
 if ((xs (ix v4)) &&& (63 : Int32)) = (21 : Int32) then (
 gd (decide (0 ≤ (v4 + (1 : Int32)).toInt ∧ (v4 + (1 : Int32)).toInt < (L : Int))) (
 bd (F_L_next v1 (xs (ix (v4 + (1 : Int32)))) v3 m) fun r146 m147 =>
 lt9 r146 fun x148 =>
 gd (decide (0 ≤ (v4 + (1 : Int32)).toInt ∧ (v4 + (1 : Int32)).toInt < (L : Int))) (
 gd (okO m147 v2 12) (bd (F_X12_next v2 (xs (ix (v4 + (1 : Int32)))) m147) fun r149 m150 =>
 lt9 r149 fun x151 =>
 gd (okO m150 v2 12) (bd (F_X12_thrown v2 m150) fun r152 m153 =>
 if r152 = x148 then (
 jn (fun (v1 : Nat) (v2 : Nat) (v3 : Nat) (v4 : Int32) (m : Mm) =>
 J1890 v1 v2 v3 v4 m) fun J1227 =>
 if x148 = 0 then (
 gd (okA m153 101 v3 (0 : Int32)) (
 if (lg_cmp (rL m153 v3 (ix (0 : Int32))) (x151.toInt64)) = 0 then (
 J1227 v1 v2 v3 v4 m153)
 else (
 none)))
 else (
 J1227 v1 v2 v3 v4 m153))
 else (
 none))))))
 else (
 if ((xs (ix v4)) &&& (63 : Int32)) = (22 : Int32) then (
 gd (decide (0 ≤ (v4 + (1 : Int32)).toInt ∧ (v4 + (1 : Int32)).toInt < (L : Int))) (
 gd (decide (0 ≤ (v4 + (2 : Int32)).toInt ∧ (v4 + (2 : Int32)).toInt < (L : Int))) (
 bd (F_L_held v1 (xs (ix (v4 + (1 : Int32)))) (xs (ix (v4 + (2 : Int32)))) v3 m) fun r154 m155 =>
 lt9 r154 fun x156 =>
 gd (decide (0 ≤ (v4 + (1 : Int32)).toInt ∧ (v4 + (1 : Int32)).toInt < (L : Int))) (
 gd (decide (0 ≤ (v4 + (2 : Int32)).toInt ∧ (v4 + (2 : Int32)).toInt < (L : Int))) (
 gd (okO m155 v2 12) (bd (F_X12_held v2 (xs (ix (v4 + (1 : Int32)))) (xs (ix (v4 + (2 : Int32)))) m155) fun r157 m158 =>
 lt9 r157 fun x159 =>
 gd (okO m158 v2 12) (bd (F_X12_thrown v2 m158) fun r160 m161 =>
 if r160 = x156 then (
 jn (fun (v1 : Nat) (v2 : Nat) (v3 : Nat) (v4 : Int32) (m : Mm) =>
 J1890 v1 v2 v3 v4 m) fun J1295 =>
 if x156 = 0 then (
 gd (okA m161 101 v3 (0 : Int32)) (
 if (lg_cmp (rL m161 v3 (ix (0 : Int32))) (x159.toInt64)) = 0 then (
 J1295 v1 v2 v3 v4 m161)
 else (
 none)))
 else (
 J1295 v1 v2 v3 v4 m161))
 else (
 none))))))))
 else (
 if ((xs (ix v4)) &&& (63 : Int32)) = (23 : Int32) then (
 gd (okO m v1 11) (bd (F_X11_agree v1 m) fun r162 m163 =>
 gd (okO m163 v2 12) (bd (F_X12_agree v2 m163) fun r164 m165 =>
 if r162 = r164 then (
 J1890 v1 v2 v3 v4 m165)
 else (
 none))))
 else (
 if ((xs (ix v4)) &&& (63 : Int32)) = (24 : Int32) then (
 gd (decide (0 ≤ (v4 + (1 : Int32)).toInt ∧ (v4 + (1 : Int32)).toInt < (L : Int))) (
 bd (F_L_fits v1 (xs (ix (v4 + (1 : Int32)))) v3 m) fun r166 m167 =>
 lt9 r166 fun x168 =>
 gd (decide (0 ≤ (v4 + (1 : Int32)).toInt ∧ (v4 + (1 : Int32)).toInt < (L : Int))) (
 gd (okO m167 v2 12) (bd (F_X12_fits v2 (xs (ix (v4 + (1 : Int32)))) m167) fun r169 m170 =>
 lt9 r169 fun x171 =>
 gd (okO m170 v2 12) (bd (F_X12_thrown v2 m170) fun r172 m173 =>
 if r172 = x168 then (
 jn (fun (v1 : Nat) (v2 : Nat) (v3 : Nat) (v4 : Int32) (m : Mm) =>
 J1890 v1 v2 v3 v4 m) fun J1364 =>
 if x168 = 0 then (
 gd (okA m173 101 v3 (0 : Int32)) (
 if (lg_cmp (rL m173 v3 (ix (0 : Int32))) (x171.toInt64)) = 0 then (
 J1364 v1 v2 v3 v4 m173)
 else (
 none)))
 else (
 J1364 v1 v2 v3 v4 m173))
 else (
 none))))))
 else (
 if ((xs (ix v4)) &&& (63 : Int32)) = (25 : Int32) then (
 gd (decide (0 ≤ (v4 + (1 : Int32)).toInt ∧ (v4 + (1 : Int32)).toInt < (L : Int))) (
 bd (F_L_look v1 (xs (ix (v4 + (1 : Int32)))) v3 m) fun r174 m175 =>
 lt9 r174 fun x176 =>
 gd (decide (0 ≤ (v4 + (1 : Int32)).toInt ∧ (v4 + (1 : Int32)).toInt < (L : Int))) (
 gd (okO m175 v2 12) (bd (F_X12_look v2 (xs (ix (v4 + (1 : Int32)))) m175) fun r177 m178 =>
 lt9 r177 fun x179 =>
 gd (okO m178 v2 12) (bd (F_X12_thrown v2 m178) fun r180 m181 =>
 if r180 = x176 then (
 jn (fun (v1 : Nat) (v2 : Nat) (v3 : Nat) (v4 : Int32) (m : Mm) =>
 J1890 v1 v2 v3 v4 m) fun J1420 =>
 if x176 = 0 then (
 gd (okA m181 101 v3 (0 : Int32)) (
 if (lg_cmp (rL m181 v3 (ix (0 : Int32))) (x179.toInt64)) = 0 then (
 J1420 v1 v2 v3 v4 m181)
 else (
 none)))
 else (
 J1420 v1 v2 v3 v4 m181))
 else (
 none))))))
 else (
 if ((xs (ix v4)) &&& (63 : Int32)) = (26 : Int32) then (
 gd (okO m v1 11) (bd (F_X11_note v1 m) fun r182 m183 =>
 gd (okO m183 v2 12) (bd (F_X12_note v2 m183) fun r184 m185 =>
 if r182 = r184 then (
 J1890 v1 v2 v3 v4 m185)
 else (
 none))))
 else (
 if ((xs (ix v4)) &&& (63 : Int32)) = (27 : Int32) then (
 gd (decide (0 ≤ (v4 + (1 : Int32)).toInt ∧ (v4 + (1 : Int32)).toInt < (L : Int))) (
 bd (F_L_spelt v1 (xs (ix (v4 + (1 : Int32)))) v3 m) fun r186 m187 =>
 lt9 r186 fun x188 =>
 gd (decide (0 ≤ (v4 + (1 : Int32)).toInt ∧ (v4 + (1 : Int32)).toInt < (L : Int))) (
 gd (okO m187 v2 12) (bd (F_X12_spelt v2 (xs (ix (v4 + (1 : Int32)))) m187) fun r189 m190 =>
 lt9 r189 fun x191 =>
 gd (okO m190 v2 12) (bd (F_X12_thrown v2 m190) fun r192 m193 =>
 if r192 = x188 then (
 jn (fun (v1 : Nat) (v2 : Nat) (v3 : Nat) (v4 : Int32) (m : Mm) =>
 J1890 v1 v2 v3 v4 m) fun J1489 =>
 if x188 = 0 then (
 gd (okA m193 101 v3 (0 : Int32)) (
 if (lg_cmp (rL m193 v3 (ix (0 : Int32))) (x191.toInt64)) = 0 then (
 J1489 v1 v2 v3 v4 m193)
 else (
 none)))
 else (
 J1489 v1 v2 v3 v4 m193))
 else (
 none))))))
 else (
 if ((xs (ix v4)) &&& (63 : Int32)) = (28 : Int32) then (
 gd (decide (0 ≤ (v4 + (1 : Int32)).toInt ∧ (v4 + (1 : Int32)).toInt < (L : Int))) (
 bd (F_L_lore v1 (xs (ix (v4 + (1 : Int32)))) v3 m) fun r194 m195 =>
 lt9 r194 fun x196 =>
 gd (decide (0 ≤ (v4 + (1 : Int32)).toInt ∧ (v4 + (1 : Int32)).toInt < (L : Int))) (
 gd (okO m195 v2 12) (bd (F_X12_lore v2 (xs (ix (v4 + (1 : Int32)))) m195) fun r197 m198 =>
 lt9 r197 fun x199 =>
 gd (okO m198 v2 12) (bd (F_X12_thrown v2 m198) fun r200 m201 =>
 if r200 = x196 then (
 jn (fun (v1 : Nat) (v2 : Nat) (v3 : Nat) (v4 : Int32) (m : Mm) =>
 J1890 v1 v2 v3 v4 m) fun J1545 =>
 if x196 = 0 then (
 gd (okA m201 101 v3 (0 : Int32)) (
 if (lg_cmp (rL m201 v3 (ix (0 : Int32))) (x199.toInt64)) = 0 then (
 J1545 v1 v2 v3 v4 m201)
 else (
 none)))
 else (
 J1545 v1 v2 v3 v4 m201))
 else (
 none))))))
 else (
 if ((xs (ix v4)) &&& (63 : Int32)) = (29 : Int32) then (
 gd (decide (0 ≤ (v4 + (1 : Int32)).toInt ∧ (v4 + (1 : Int32)).toInt < (L : Int))) (
 bd (F_L_behind v1 (xs (ix (v4 + (1 : Int32)))) v3 m) fun r202 m203 =>
 lt9 r202 fun x204 =>
 gd (decide (0 ≤ (v4 + (1 : Int32)).toInt ∧ (v4 + (1 : Int32)).toInt < (L : Int))) (
 gd (okO m203 v2 12) (bd (F_X12_behind v2 (xs (ix (v4 + (1 : Int32)))) m203) fun r205 m206 =>
 lt9 r205 fun x207 =>
 gd (okO m206 v2 12) (bd (F_X12_thrown v2 m206) fun r208 m209 =>
 if r208 = x204 then (
 jn (fun (v1 : Nat) (v2 : Nat) (v3 : Nat) (v4 : Int32) (m : Mm) =>
 J1890 v1 v2 v3 v4 m) fun J1601 =>
 if x204 = 0 then (
 gd (okA m209 101 v3 (0 : Int32)) (
 if (lg_cmp (rL m209 v3 (ix (0 : Int32))) (x207.toInt64)) = 0 then (
 J1601 v1 v2 v3 v4 m209)
 else (
 none)))
 else (
 J1601 v1 v2 v3 v4 m209))
 else (
 none))))))
 else (
 if ((xs (ix v4)) &&& (63 : Int32)) = (30 : Int32) then (
 gd (decide (0 ≤ (v4 + (1 : Int32)).toInt ∧ (v4 + (1 : Int32)).toInt < (L : Int))) (
 gd (decide (0 ≤ (v4 + (2 : Int32)).toInt ∧ (v4 + (2 : Int32)).toInt < (L : Int))) (
 gd (decide (0 ≤ (v4 + (3 : Int32)).toInt ∧ (v4 + (3 : Int32)).toInt < (L : Int))) (
 gd (decide (0 ≤ (v4 + (4 : Int32)).toInt ∧ (v4 + (4 : Int32)).toInt < (L : Int))) (
 bd (F_L_storm v1 (xs (ix (v4 + (1 : Int32)))) (xs (ix (v4 + (2 : Int32)))) (xs (ix (v4 + (3 : Int32)))) (xs (ix (v4 + (4 : Int32)))) v3 m) fun r210 m211 =>
 lt9 r210 fun x212 =>
 gd (decide (0 ≤ (v4 + (1 : Int32)).toInt ∧ (v4 + (1 : Int32)).toInt < (L : Int))) (
 gd (decide (0 ≤ (v4 + (2 : Int32)).toInt ∧ (v4 + (2 : Int32)).toInt < (L : Int))) (
 gd (decide (0 ≤ (v4 + (3 : Int32)).toInt ∧ (v4 + (3 : Int32)).toInt < (L : Int))) (
 gd (decide (0 ≤ (v4 + (4 : Int32)).toInt ∧ (v4 + (4 : Int32)).toInt < (L : Int))) (
 gd (okO m211 v2 12) (bd (F_X12_storm v2 (xs (ix (v4 + (1 : Int32)))) (xs (ix (v4 + (2 : Int32)))) (xs (ix (v4 + (3 : Int32)))) (xs (ix (v4 + (4 : Int32)))) m211) fun r213 m214 =>
 lt9 r213 fun x215 =>
 gd (okO m214 v2 12) (bd (F_X12_thrown v2 m214) fun r216 m217 =>
 if r216 = x212 then (
 jn (fun (v1 : Nat) (v2 : Nat) (v3 : Nat) (v4 : Int32) (m : Mm) =>
 J1890 v1 v2 v3 v4 m) fun J1693 =>
 if x212 = 0 then (
 gd (okA m217 101 v3 (0 : Int32)) (
 if (lg_cmp (rL m217 v3 (ix (0 : Int32))) (x215.toInt64)) = 0 then (
 J1693 v1 v2 v3 v4 m217)
 else (
 none)))
 else (
 J1693 v1 v2 v3 v4 m217))
 else (
 none))))))))))))
 else (
 if ((xs (ix v4)) &&& (63 : Int32)) = (31 : Int32) then (
 gd (decide (0 ≤ (v4 + (1 : Int32)).toInt ∧ (v4 + (1 : Int32)).toInt < (L : Int))) (
 gd (decide (0 ≤ (v4 + (2 : Int32)).toInt ∧ (v4 + (2 : Int32)).toInt < (L : Int))) (
 gd (decide (0 ≤ (v4 + (3 : Int32)).toInt ∧ (v4 + (3 : Int32)).toInt < (L : Int))) (
 gd (decide (0 ≤ (v4 + (4 : Int32)).toInt ∧ (v4 + (4 : Int32)).toInt < (L : Int))) (
 gd (decide (0 ≤ (v4 + (5 : Int32)).toInt ∧ (v4 + (5 : Int32)).toInt < (L : Int))) (
 gd (decide (0 ≤ (v4 + (6 : Int32)).toInt ∧ (v4 + (6 : Int32)).toInt < (L : Int))) (
 bd (F_L_span v1 (xs (ix (v4 + (1 : Int32)))) (xs (ix (v4 + (2 : Int32)))) (xs (ix (v4 + (3 : Int32)))) (xs (ix (v4 + (4 : Int32)))) (xs (ix (v4 + (5 : Int32)))) (xs (ix (v4 + (6 : Int32)))) v3 m) fun r218 m219 =>
 lt9 r218 fun x220 =>
 gd (decide (0 ≤ (v4 + (1 : Int32)).toInt ∧ (v4 + (1 : Int32)).toInt < (L : Int))) (
 gd (decide (0 ≤ (v4 + (2 : Int32)).toInt ∧ (v4 + (2 : Int32)).toInt < (L : Int))) (
 gd (decide (0 ≤ (v4 + (3 : Int32)).toInt ∧ (v4 + (3 : Int32)).toInt < (L : Int))) (
 gd (decide (0 ≤ (v4 + (4 : Int32)).toInt ∧ (v4 + (4 : Int32)).toInt < (L : Int))) (
 gd (decide (0 ≤ (v4 + (5 : Int32)).toInt ∧ (v4 + (5 : Int32)).toInt < (L : Int))) (
 gd (decide (0 ≤ (v4 + (6 : Int32)).toInt ∧ (v4 + (6 : Int32)).toInt < (L : Int))) (
 gd (okO m219 v2 12) (bd (F_X12_span v2 (xs (ix (v4 + (1 : Int32)))) (xs (ix (v4 + (2 : Int32)))) (xs (ix (v4 + (3 : Int32)))) (xs (ix (v4 + (4 : Int32)))) (xs (ix (v4 + (5 : Int32)))) (xs (ix (v4 + (6 : Int32)))) m219) fun r221 m222 =>
 lt9 r221 fun x223 =>
 gd (okO m222 v2 12) (bd (F_X12_thrown v2 m222) fun r224 m225 =>
 if r224 = x220 then (
 jn (fun (v1 : Nat) (v2 : Nat) (v3 : Nat) (v4 : Int32) (m : Mm) =>
 J1890 v1 v2 v3 v4 m) fun J1811 =>
 if x220 = 0 then (
 gd (okA m225 101 v3 (0 : Int32)) (
 if (lg_cmp (rL m225 v3 (ix (0 : Int32))) (x223.toInt64)) = 0 then (
 J1811 v1 v2 v3 v4 m225)
 else (
 none)))
 else (
 J1811 v1 v2 v3 v4 m225))
 else (
 none))))))))))))))))
 else (
 if ((xs (ix v4)) &&& (63 : Int32)) = (32 : Int32) then (
 gd (okO m v1 11) (bd (F_X11_image v1 m) fun r226 m227 =>
 gd (okO m227 v2 12) (bd (F_X12_image v2 m227) fun r228 m229 =>
 if r226 = r228 then (
 J1890 v1 v2 v3 v4 m229)
 else (
 none))))
 else (
 if ((xs (ix v4)) &&& (63 : Int32)) = (33 : Int32) then (
 gd (okO m v1 11) (bd (F_X11_restore v1 m) fun r230 m231 =>
 gd (okO m231 v2 12) (bd (F_X12_restore v2 m231) fun r232 m233 =>
 if r230 = r232 then (
 J1890 v1 v2 v3 v4 m233)
 else (
 none))))
 else (
 if ((xs (ix v4)) &&& (63 : Int32)) = (34 : Int32) then (
 gd (decide (0 ≤ (v4 + (1 : Int32)).toInt ∧ (v4 + (1 : Int32)).toInt < (L : Int))) (
 gd (okO m v1 11) (bd (F_X11_status v1 (xs (ix (v4 + (1 : Int32)))) m) fun r234 m235 =>
 gd (decide (0 ≤ (v4 + (1 : Int32)).toInt ∧ (v4 + (1 : Int32)).toInt < (L : Int))) (
 gd (okO m235 v2 12) (bd (F_X12_status v2 (xs (ix (v4 + (1 : Int32)))) m235) fun r236 m237 =>
 if r234 = r236 then (
 J1890 v1 v2 v3 v4 m237)
 else (
 none))))))
 else (
 if ((xs (ix v4)) &&& (63 : Int32)) = (35 : Int32) then (
 gd (decide (0 ≤ (v4 + (1 : Int32)).toInt ∧ (v4 + (1 : Int32)).toInt < (L : Int))) (
 gd (okO m v1 11) (bd (F_X11_count v1 (xs (ix (v4 + (1 : Int32)))) m) fun r238 m239 =>
 gd (decide (0 ≤ (v4 + (1 : Int32)).toInt ∧ (v4 + (1 : Int32)).toInt < (L : Int))) (
 gd (okO m239 v2 12) (bd (F_X12_count v2 (xs (ix (v4 + (1 : Int32)))) m239) fun r240 m241 =>
 if r238 = r240 then (
 J1890 v1 v2 v3 v4 m241)
 else (
 none))))))
 else (
 J1890 v1 v2 v3 v4 m))))))))))))))))))))))))))))))))))))))
def F_L_law_ (L : Nat) (xs : Nat → Int32) (m : Mm) : Option (Int32 × Mm) :=
 gd (decide (mN m + 1 < K9)) (lt9 (nw m 11 15) fun m1 =>
 bd (F_X11_init (mN m) m1) fun r2 m3 =>
 gd (decide (mN m3 + 1 < K9)) (lt9 (nw m3 12 37) fun m4 =>
 bd (F_X12_init (mN m3) m4) fun r5 m6 =>
 gd (decide (mN m6 + 1 < K9)) (lt9 (nw m6 101 1) fun m7 =>
 lt9 (0 : Int32) fun x8 =>
 L_L_law__23 L xs NF (mN m) (mN m3) (mN m6) x8 m7)))
set_option maxRecDepth 100000 in
set_option maxHeartbeats 4000000 in
theorem c_L_L_law__23 {Z : Zx} {L : Nat} {xs : Nat → Int32} (hX : scX Z L xs) (hW : LwZ Z)   : ∀ (n : Nat) (v1 : Nat) (v2 : Nat) (v3 : Nat) (v4 : Int32) (m : Mm), GG Z M_L_law_ (PsL Z) 23 [some (.ref (K9 + 998)), some (.ref v1), some (.ref v2), some (.ref v3), some (.int v4), none, none, none] [] m (L_L_law__23 L xs n v1 v2 v3 v4 m) := by
  intro n
  induction n with
  | zero => intro v1 v2 v3 v4 m; exact g_no
  | succ n ih =>
    intro v1 v2 v3 v4 m
    unfold L_L_law__23
    refine g_iload dL_law__23 rfl ?_
    refine g_aload_n (i := 0) dL_law__25 rfl rfl ?_
    refine g_slen hX dL_law__26 ?_
    refine g_bipush (v := (7 : Int32)) dL_law__27 kb_7 ?_
    refine g_isub dL_law__29 ?_
    refine g_icmpgt (tgt := 1896) dL_law__30 (by decide) ?_ ?_
    · refine g_iconst (v := (1 : Int32)) dL_law__1896 ki_1 ?_
      exact g_lawret hW dL_law__1897
    · refine g_aload_n (i := 0) dL_law__33 rfl rfl ?_
      refine g_iload dL_law__34 rfl ?_
      refine g_sld hX dL_law__36 ?_
      refine g_bipush (v := (63 : Int32)) dL_law__37 kb_63 ?_
      refine g_iand dL_law__39 ?_
      refine g_jn (fun J1890 => ∀ (v1 : Nat) (v2 : Nat) (v3 : Nat) (v4 : Int32) (m : Mm), GG Z M_L_law_ (PsL Z) 1890 [some (.ref (K9 + 998)), some (.ref v1), some (.ref v2), some (.ref v3), some (.int v4), none, none, none] [] m (J1890 v1 v2 v3 v4 m)) ?_ ?_
      · intro v1 v2 v3 v4 m
        refine g_iinc dL_law__1890 rfl ki_7 (show 4 < 8 by decide) ?_
        intro x9
        refine g_goto (tgt := 23) dL_law__1893 (by decide) ?_
        exact g_msk [true, true, true, true, true, false, false, false] (ih _ _ _ _ _)
      · intro J1890 hJ1890
        refine g_sw0 (lo := 0) ?_
        refine g_swc (k := 0) (tgt := 200) dL_law__40 (by decide) kt_0 rfl (by decide) ?_ ?_
        · refine g_aload_n (i := 1) dL_law__200 rfl rfl ?_
          refine g_aload_n (i := 0) dL_law__201 rfl rfl ?_
          refine g_iload dL_law__202 rfl ?_
          refine g_iconst (v := (1 : Int32)) dL_law__204 ki_1 ?_
          refine g_iadd dL_law__205 ?_
          refine g_sld hX dL_law__206 ?_
          refine g_aload_n (i := 0) dL_law__207 rfl rfl ?_
          refine g_iload dL_law__208 rfl ?_
          refine g_iconst (v := (2 : Int32)) dL_law__210 ki_2 ?_
          refine g_iadd dL_law__211 ?_
          refine g_sld hX dL_law__212 ?_
          refine g_aload_n (i := 0) dL_law__213 rfl rfl ?_
          refine g_iload dL_law__214 rfl ?_
          refine g_iconst (v := (3 : Int32)) dL_law__216 ki_3 ?_
          refine g_iadd dL_law__217 ?_
          refine g_sld hX dL_law__218 ?_
          refine g_aload_n (i := 0) dL_law__219 rfl rfl ?_
          refine g_iload dL_law__220 rfl ?_
          refine g_iconst (v := (4 : Int32)) dL_law__222 ki_4 ?_
          refine g_iadd dL_law__223 ?_
          refine g_sld hX dL_law__224 ?_
          refine g_aload_n (i := 0) dL_law__225 rfl rfl ?_
          refine g_iload dL_law__226 rfl ?_
          refine g_iconst (v := (5 : Int32)) dL_law__228 ki_5 ?_
          refine g_iadd dL_law__229 ?_
          refine g_sld hX dL_law__230 ?_
          refine g_callVI cl_X11 (crt_X11_feed _ _ _ _ _ _ _ _ _) cw_X11_feed (by decide) rfl q_412 q_413 q_414 rfl rfl dL_law__231 ?_
          intro r10 m11
          refine g_aload_n (i := 2) dL_law__234 rfl rfl ?_
          refine g_aload_n (i := 0) dL_law__235 rfl rfl ?_
          refine g_iload dL_law__236 rfl ?_
          refine g_iconst (v := (1 : Int32)) dL_law__238 ki_1 ?_
          refine g_iadd dL_law__239 ?_
          refine g_sld hX dL_law__240 ?_
          refine g_aload_n (i := 0) dL_law__241 rfl rfl ?_
          refine g_iload dL_law__242 rfl ?_
          refine g_iconst (v := (2 : Int32)) dL_law__244 ki_2 ?_
          refine g_iadd dL_law__245 ?_
          refine g_sld hX dL_law__246 ?_
          refine g_aload_n (i := 0) dL_law__247 rfl rfl ?_
          refine g_iload dL_law__248 rfl ?_
          refine g_iconst (v := (3 : Int32)) dL_law__250 ki_3 ?_
          refine g_iadd dL_law__251 ?_
          refine g_sld hX dL_law__252 ?_
          refine g_aload_n (i := 0) dL_law__253 rfl rfl ?_
          refine g_iload dL_law__254 rfl ?_
          refine g_iconst (v := (4 : Int32)) dL_law__256 ki_4 ?_
          refine g_iadd dL_law__257 ?_
          refine g_sld hX dL_law__258 ?_
          refine g_aload_n (i := 0) dL_law__259 rfl rfl ?_
          refine g_iload dL_law__260 rfl ?_
          refine g_iconst (v := (5 : Int32)) dL_law__262 ki_5 ?_
          refine g_iadd dL_law__263 ?_
          refine g_sld hX dL_law__264 ?_
          refine g_callVI cl_X12 (crt_X12_feed _ _ _ _ _ _ _ _ _) cw_X12_feed (by decide) rfl q_1497 q_1498 q_1499 rfl rfl dL_law__265 ?_
          intro r12 m13
          refine g_icmpeq (tgt := 1890) dL_law__268 (by decide) ?_ ?_
          · exact g_msk [true, true, true, true, true, false, false, false] (hJ1890 _ _ _ _ _)
          · refine g_iconst (v := (0 : Int32)) dL_law__271 ki_0 ?_
            exact g_no
        · refine g_swc (k := 1) (tgt := 273) dL_law__40 (by decide) kt_1 rfl (by decide) ?_ ?_
          · refine g_aload_n (i := 1) dL_law__273 rfl rfl ?_
            refine g_aload_n (i := 0) dL_law__274 rfl rfl ?_
            refine g_iload dL_law__275 rfl ?_
            refine g_iconst (v := (1 : Int32)) dL_law__277 ki_1 ?_
            refine g_iadd dL_law__278 ?_
            refine g_sld hX dL_law__279 ?_
            refine g_aload_n (i := 3) dL_law__280 rfl rfl ?_
            refine g_callSW (n0 := 3) (hh := hh_L_group) (crt_L_group _ _ _ _ _ _) q_636 q_0 (by decide +kernel) (by decide) rfl q_634 q_635 rfl rfl dL_law__281 ?_
            intro r14 m15
            show GG Z _ _ 284 _ [.int r14] m15 _
            refine g_istore dL_law__284 (show 5 < 8 by decide) ?_
            intro x16
            refine g_aload_n (i := 2) dL_law__286 rfl rfl ?_
            refine g_aload_n (i := 0) dL_law__287 rfl rfl ?_
            refine g_iload dL_law__288 rfl ?_
            refine g_iconst (v := (1 : Int32)) dL_law__290 ki_1 ?_
            refine g_iadd dL_law__291 ?_
            refine g_sld hX dL_law__292 ?_
            refine g_callVI cl_X12 (crt_X12_group _ _ _ _ _) cw_X12_group (by decide) rfl q_1501 q_1502 q_1503 rfl rfl dL_law__293 ?_
            intro r17 m18
            refine g_istore dL_law__296 (show 6 < 8 by decide) ?_
            intro x19
            refine g_aload_n (i := 2) dL_law__298 rfl rfl ?_
            refine g_callVI cl_X12 (crt_X12_thrown _ _ _ _) cw_X12_thrown (by decide) rfl q_1493 q_1494 q_1495 rfl rfl dL_law__299 ?_
            intro r20 m21
            refine g_iload dL_law__302 rfl ?_
            refine g_icmpeq (tgt := 309) dL_law__304 (by decide) ?_ ?_
            · refine g_iload dL_law__309 rfl ?_
              refine g_jn (fun J326 => ∀ (v1 : Nat) (v2 : Nat) (v3 : Nat) (v4 : Int32) (m : Mm), GG Z M_L_law_ (PsL Z) 326 [some (.ref (K9 + 998)), some (.ref v1), some (.ref v2), some (.ref v3), some (.int v4), none, none, none] [] m (J326 v1 v2 v3 v4 m)) ?_ ?_
              · intro v1 v2 v3 v4 m
                refine g_goto (tgt := 1890) dL_law__326 (by decide) ?_
                exact g_msk [true, true, true, true, true, false, false, false] (hJ1890 _ _ _ _ _)
              · intro J326 hJ326
                refine g_ifne (tgt := 326) dL_law__311 (by decide) ?_ ?_
                · exact g_msk [true, true, true, true, true, false, false, false] (hJ326 _ _ _ _ _)
                · refine g_aload_n (i := 3) dL_law__314 rfl rfl ?_
                  refine g_iconst (v := (0 : Int32)) dL_law__315 ki_0 ?_
                  refine g_laload dL_law__316 ?_
                  refine g_iload dL_law__317 rfl ?_
                  refine g_i2l dL_law__319 ?_
                  refine g_lcmp dL_law__320 ?_
                  refine g_ifeq (tgt := 326) dL_law__321 (by decide) ?_ ?_
                  · exact g_msk [true, true, true, true, true, false, false, false] (hJ326 _ _ _ _ _)
                  · refine g_iconst (v := (0 : Int32)) dL_law__324 ki_0 ?_
                    exact g_no
            · refine g_iconst (v := (0 : Int32)) dL_law__307 ki_0 ?_
              exact g_no
          · refine g_swc (k := 2) (tgt := 329) dL_law__40 (by decide) kt_2 rfl (by decide) ?_ ?_
            · refine g_aload_n (i := 1) dL_law__329 rfl rfl ?_
              refine g_aload_n (i := 0) dL_law__330 rfl rfl ?_
              refine g_iload dL_law__331 rfl ?_
              refine g_iconst (v := (1 : Int32)) dL_law__333 ki_1 ?_
              refine g_iadd dL_law__334 ?_
              refine g_sld hX dL_law__335 ?_
              refine g_aload_n (i := 3) dL_law__336 rfl rfl ?_
              refine g_callSW (n0 := 3) (hh := hh_L_law) (crt_L_law _ _ _ _ _ _) q_844 q_0 (by decide +kernel) (by decide) rfl q_842 q_843 rfl rfl dL_law__337 ?_
              intro r22 m23
              show GG Z _ _ 340 _ [.int r22] m23 _
              refine g_istore dL_law__340 (show 5 < 8 by decide) ?_
              intro x24
              refine g_aload_n (i := 2) dL_law__342 rfl rfl ?_
              refine g_aload_n (i := 0) dL_law__343 rfl rfl ?_
              refine g_iload dL_law__344 rfl ?_
              refine g_iconst (v := (1 : Int32)) dL_law__346 ki_1 ?_
              refine g_iadd dL_law__347 ?_
              refine g_sld hX dL_law__348 ?_
              refine g_callVI cl_X12 (crt_X12_law _ _ _ _ _) cw_X12_law (by decide) rfl q_1566 q_1567 q_1568 rfl rfl dL_law__349 ?_
              intro r25 m26
              refine g_istore dL_law__352 (show 6 < 8 by decide) ?_
              intro x27
              refine g_aload_n (i := 2) dL_law__354 rfl rfl ?_
              refine g_callVI cl_X12 (crt_X12_thrown _ _ _ _) cw_X12_thrown (by decide) rfl q_1493 q_1494 q_1495 rfl rfl dL_law__355 ?_
              intro r28 m29
              refine g_iload dL_law__358 rfl ?_
              refine g_icmpeq (tgt := 365) dL_law__360 (by decide) ?_ ?_
              · refine g_iload dL_law__365 rfl ?_
                refine g_jn (fun J382 => ∀ (v1 : Nat) (v2 : Nat) (v3 : Nat) (v4 : Int32) (m : Mm), GG Z M_L_law_ (PsL Z) 382 [some (.ref (K9 + 998)), some (.ref v1), some (.ref v2), some (.ref v3), some (.int v4), none, none, none] [] m (J382 v1 v2 v3 v4 m)) ?_ ?_
                · intro v1 v2 v3 v4 m
                  refine g_goto (tgt := 1890) dL_law__382 (by decide) ?_
                  exact g_msk [true, true, true, true, true, false, false, false] (hJ1890 _ _ _ _ _)
                · intro J382 hJ382
                  refine g_ifne (tgt := 382) dL_law__367 (by decide) ?_ ?_
                  · exact g_msk [true, true, true, true, true, false, false, false] (hJ382 _ _ _ _ _)
                  · refine g_aload_n (i := 3) dL_law__370 rfl rfl ?_
                    refine g_iconst (v := (0 : Int32)) dL_law__371 ki_0 ?_
                    refine g_laload dL_law__372 ?_
                    refine g_iload dL_law__373 rfl ?_
                    refine g_i2l dL_law__375 ?_
                    refine g_lcmp dL_law__376 ?_
                    refine g_ifeq (tgt := 382) dL_law__377 (by decide) ?_ ?_
                    · exact g_msk [true, true, true, true, true, false, false, false] (hJ382 _ _ _ _ _)
                    · refine g_iconst (v := (0 : Int32)) dL_law__380 ki_0 ?_
                      exact g_no
              · refine g_iconst (v := (0 : Int32)) dL_law__363 ki_0 ?_
                exact g_no
            · refine g_swc (k := 3) (tgt := 385) dL_law__40 (by decide) kt_3 rfl (by decide) ?_ ?_
              · refine g_aload_n (i := 1) dL_law__385 rfl rfl ?_
                refine g_aload_n (i := 0) dL_law__386 rfl rfl ?_
                refine g_iload dL_law__387 rfl ?_
                refine g_iconst (v := (1 : Int32)) dL_law__389 ki_1 ?_
                refine g_iadd dL_law__390 ?_
                refine g_sld hX dL_law__391 ?_
                refine g_aload_n (i := 3) dL_law__392 rfl rfl ?_
                refine g_callSW (n0 := 3) (hh := hh_L_work) (crt_L_work _ _ _ _ _ _) q_895 q_0 (by decide +kernel) (by decide) rfl q_893 q_894 rfl rfl dL_law__393 ?_
                intro r30 m31
                show GG Z _ _ 396 _ [.int r30] m31 _
                refine g_istore dL_law__396 (show 5 < 8 by decide) ?_
                intro x32
                refine g_aload_n (i := 2) dL_law__398 rfl rfl ?_
                refine g_aload_n (i := 0) dL_law__399 rfl rfl ?_
                refine g_iload dL_law__400 rfl ?_
                refine g_iconst (v := (1 : Int32)) dL_law__402 ki_1 ?_
                refine g_iadd dL_law__403 ?_
                refine g_sld hX dL_law__404 ?_
                refine g_callVI cl_X12 (crt_X12_work _ _ _ _ _) cw_X12_work (by decide) rfl q_1613 q_1614 q_1615 rfl rfl dL_law__405 ?_
                intro r33 m34
                refine g_istore dL_law__408 (show 6 < 8 by decide) ?_
                intro x35
                refine g_aload_n (i := 2) dL_law__410 rfl rfl ?_
                refine g_callVI cl_X12 (crt_X12_thrown _ _ _ _) cw_X12_thrown (by decide) rfl q_1493 q_1494 q_1495 rfl rfl dL_law__411 ?_
                intro r36 m37
                refine g_iload dL_law__414 rfl ?_
                refine g_icmpeq (tgt := 421) dL_law__416 (by decide) ?_ ?_
                · refine g_iload dL_law__421 rfl ?_
                  refine g_jn (fun J438 => ∀ (v1 : Nat) (v2 : Nat) (v3 : Nat) (v4 : Int32) (m : Mm), GG Z M_L_law_ (PsL Z) 438 [some (.ref (K9 + 998)), some (.ref v1), some (.ref v2), some (.ref v3), some (.int v4), none, none, none] [] m (J438 v1 v2 v3 v4 m)) ?_ ?_
                  · intro v1 v2 v3 v4 m
                    refine g_goto (tgt := 1890) dL_law__438 (by decide) ?_
                    exact g_msk [true, true, true, true, true, false, false, false] (hJ1890 _ _ _ _ _)
                  · intro J438 hJ438
                    refine g_ifne (tgt := 438) dL_law__423 (by decide) ?_ ?_
                    · exact g_msk [true, true, true, true, true, false, false, false] (hJ438 _ _ _ _ _)
                    · refine g_aload_n (i := 3) dL_law__426 rfl rfl ?_
                      refine g_iconst (v := (0 : Int32)) dL_law__427 ki_0 ?_
                      refine g_laload dL_law__428 ?_
                      refine g_iload dL_law__429 rfl ?_
                      refine g_i2l dL_law__431 ?_
                      refine g_lcmp dL_law__432 ?_
                      refine g_ifeq (tgt := 438) dL_law__433 (by decide) ?_ ?_
                      · exact g_msk [true, true, true, true, true, false, false, false] (hJ438 _ _ _ _ _)
                      · refine g_iconst (v := (0 : Int32)) dL_law__436 ki_0 ?_
                        exact g_no
                · refine g_iconst (v := (0 : Int32)) dL_law__419 ki_0 ?_
                  exact g_no
              · refine g_swc (k := 4) (tgt := 441) dL_law__40 (by decide) kt_4 rfl (by decide) ?_ ?_
                · refine g_aload_n (i := 1) dL_law__441 rfl rfl ?_
                  refine g_aload_n (i := 0) dL_law__442 rfl rfl ?_
                  refine g_iload dL_law__443 rfl ?_
                  refine g_iconst (v := (1 : Int32)) dL_law__445 ki_1 ?_
                  refine g_iadd dL_law__446 ?_
                  refine g_sld hX dL_law__447 ?_
                  refine g_aload_n (i := 3) dL_law__448 rfl rfl ?_
                  refine g_callSW (n0 := 3) (hh := hh_L_book) (crt_L_book _ _ _ _ _ _) q_1047 q_0 (by decide +kernel) (by decide) rfl q_1045 q_1046 rfl rfl dL_law__449 ?_
                  intro r38 m39
                  show GG Z _ _ 452 _ [.int r38] m39 _
                  refine g_istore dL_law__452 (show 5 < 8 by decide) ?_
                  intro x40
                  refine g_aload_n (i := 2) dL_law__454 rfl rfl ?_
                  refine g_aload_n (i := 0) dL_law__455 rfl rfl ?_
                  refine g_iload dL_law__456 rfl ?_
                  refine g_iconst (v := (1 : Int32)) dL_law__458 ki_1 ?_
                  refine g_iadd dL_law__459 ?_
                  refine g_sld hX dL_law__460 ?_
                  refine g_callVI cl_X12 (crt_X12_book _ _ _ _ _) cw_X12_book (by decide) rfl q_1605 q_1606 q_1607 rfl rfl dL_law__461 ?_
                  intro r41 m42
                  refine g_istore dL_law__464 (show 6 < 8 by decide) ?_
                  intro x43
                  refine g_aload_n (i := 2) dL_law__466 rfl rfl ?_
                  refine g_callVI cl_X12 (crt_X12_thrown _ _ _ _) cw_X12_thrown (by decide) rfl q_1493 q_1494 q_1495 rfl rfl dL_law__467 ?_
                  intro r44 m45
                  refine g_iload dL_law__470 rfl ?_
                  refine g_icmpeq (tgt := 477) dL_law__472 (by decide) ?_ ?_
                  · refine g_iload dL_law__477 rfl ?_
                    refine g_jn (fun J494 => ∀ (v1 : Nat) (v2 : Nat) (v3 : Nat) (v4 : Int32) (m : Mm), GG Z M_L_law_ (PsL Z) 494 [some (.ref (K9 + 998)), some (.ref v1), some (.ref v2), some (.ref v3), some (.int v4), none, none, none] [] m (J494 v1 v2 v3 v4 m)) ?_ ?_
                    · intro v1 v2 v3 v4 m
                      refine g_goto (tgt := 1890) dL_law__494 (by decide) ?_
                      exact g_msk [true, true, true, true, true, false, false, false] (hJ1890 _ _ _ _ _)
                    · intro J494 hJ494
                      refine g_ifne (tgt := 494) dL_law__479 (by decide) ?_ ?_
                      · exact g_msk [true, true, true, true, true, false, false, false] (hJ494 _ _ _ _ _)
                      · refine g_aload_n (i := 3) dL_law__482 rfl rfl ?_
                        refine g_iconst (v := (0 : Int32)) dL_law__483 ki_0 ?_
                        refine g_laload dL_law__484 ?_
                        refine g_iload dL_law__485 rfl ?_
                        refine g_i2l dL_law__487 ?_
                        refine g_lcmp dL_law__488 ?_
                        refine g_ifeq (tgt := 494) dL_law__489 (by decide) ?_ ?_
                        · exact g_msk [true, true, true, true, true, false, false, false] (hJ494 _ _ _ _ _)
                        · refine g_iconst (v := (0 : Int32)) dL_law__492 ki_0 ?_
                          exact g_no
                  · refine g_iconst (v := (0 : Int32)) dL_law__475 ki_0 ?_
                    exact g_no
                · refine g_swc (k := 5) (tgt := 497) dL_law__40 (by decide) kt_5 rfl (by decide) ?_ ?_
                  · refine g_aload_n (i := 1) dL_law__497 rfl rfl ?_
                    refine g_callVI cl_X11 (crt_X11_fault _ _ _ _) cw_X11_fault (by decide) rfl q_424 q_425 q_426 rfl rfl dL_law__498 ?_
                    intro r46 m47
                    refine g_aload_n (i := 2) dL_law__501 rfl rfl ?_
                    refine g_callVI cl_X12 (crt_X12_fault _ _ _ _) cw_X12_fault (by decide) rfl q_1609 q_1610 q_1611 rfl rfl dL_law__502 ?_
                    intro r48 m49
                    refine g_icmpeq (tgt := 1890) dL_law__505 (by decide) ?_ ?_
                    · exact g_msk [true, true, true, true, true, false, false, false] (hJ1890 _ _ _ _ _)
                    · refine g_iconst (v := (0 : Int32)) dL_law__508 ki_0 ?_
                      exact g_no
                  · refine g_swc (k := 6) (tgt := 510) dL_law__40 (by decide) kt_6 rfl (by decide) ?_ ?_
                    · refine g_aload_n (i := 1) dL_law__510 rfl rfl ?_
                      refine g_callVI cl_X11 (crt_X11_undo _ _ _ _) cw_X11_undo (by decide) rfl q_428 q_429 q_430 rfl rfl dL_law__511 ?_
                      intro r50 m51
                      refine g_aload_n (i := 2) dL_law__514 rfl rfl ?_
                      refine g_callVI cl_X12 (crt_X12_undo _ _ _ _) cw_X12_undo (by decide) rfl q_1765 q_1766 q_1767 rfl rfl dL_law__515 ?_
                      intro r52 m53
                      refine g_icmpeq (tgt := 1890) dL_law__518 (by decide) ?_ ?_
                      · exact g_msk [true, true, true, true, true, false, false, false] (hJ1890 _ _ _ _ _)
                      · refine g_iconst (v := (0 : Int32)) dL_law__521 ki_0 ?_
                        exact g_no
                    · refine g_swc (k := 7) (tgt := 523) dL_law__40 (by decide) kt_7 rfl (by decide) ?_ ?_
                      · refine g_aload_n (i := 1) dL_law__523 rfl rfl ?_
                        refine g_aload_n (i := 0) dL_law__524 rfl rfl ?_
                        refine g_iload dL_law__525 rfl ?_
                        refine g_iconst (v := (1 : Int32)) dL_law__527 ki_1 ?_
                        refine g_iadd dL_law__528 ?_
                        refine g_sld hX dL_law__529 ?_
                        refine g_aload_n (i := 3) dL_law__530 rfl rfl ?_
                        refine g_callSW (n0 := 3) (hh := hh_L_told) (crt_L_told _ _ _ _ _ _) q_1064 q_0 (by decide +kernel) (by decide) rfl q_1062 q_1063 rfl rfl dL_law__531 ?_
                        intro r54 m55
                        show GG Z _ _ 534 _ [.int r54] m55 _
                        refine g_istore dL_law__534 (show 5 < 8 by decide) ?_
                        intro x56
                        refine g_aload_n (i := 2) dL_law__536 rfl rfl ?_
                        refine g_aload_n (i := 0) dL_law__537 rfl rfl ?_
                        refine g_iload dL_law__538 rfl ?_
                        refine g_iconst (v := (1 : Int32)) dL_law__540 ki_1 ?_
                        refine g_iadd dL_law__541 ?_
                        refine g_sld hX dL_law__542 ?_
                        refine g_callVI cl_X12 (crt_X12_told _ _ _ _ _) cw_X12_told (by decide) rfl q_1769 q_1770 q_1771 rfl rfl dL_law__543 ?_
                        intro r57 m58
                        refine g_istore dL_law__546 (show 6 < 8 by decide) ?_
                        intro x59
                        refine g_aload_n (i := 2) dL_law__548 rfl rfl ?_
                        refine g_callVI cl_X12 (crt_X12_thrown _ _ _ _) cw_X12_thrown (by decide) rfl q_1493 q_1494 q_1495 rfl rfl dL_law__549 ?_
                        intro r60 m61
                        refine g_iload dL_law__552 rfl ?_
                        refine g_icmpeq (tgt := 559) dL_law__554 (by decide) ?_ ?_
                        · refine g_iload dL_law__559 rfl ?_
                          refine g_jn (fun J576 => ∀ (v1 : Nat) (v2 : Nat) (v3 : Nat) (v4 : Int32) (m : Mm), GG Z M_L_law_ (PsL Z) 576 [some (.ref (K9 + 998)), some (.ref v1), some (.ref v2), some (.ref v3), some (.int v4), none, none, none] [] m (J576 v1 v2 v3 v4 m)) ?_ ?_
                          · intro v1 v2 v3 v4 m
                            refine g_goto (tgt := 1890) dL_law__576 (by decide) ?_
                            exact g_msk [true, true, true, true, true, false, false, false] (hJ1890 _ _ _ _ _)
                          · intro J576 hJ576
                            refine g_ifne (tgt := 576) dL_law__561 (by decide) ?_ ?_
                            · exact g_msk [true, true, true, true, true, false, false, false] (hJ576 _ _ _ _ _)
                            · refine g_aload_n (i := 3) dL_law__564 rfl rfl ?_
                              refine g_iconst (v := (0 : Int32)) dL_law__565 ki_0 ?_
                              refine g_laload dL_law__566 ?_
                              refine g_iload dL_law__567 rfl ?_
                              refine g_i2l dL_law__569 ?_
                              refine g_lcmp dL_law__570 ?_
                              refine g_ifeq (tgt := 576) dL_law__571 (by decide) ?_ ?_
                              · exact g_msk [true, true, true, true, true, false, false, false] (hJ576 _ _ _ _ _)
                              · refine g_iconst (v := (0 : Int32)) dL_law__574 ki_0 ?_
                                exact g_no
                        · refine g_iconst (v := (0 : Int32)) dL_law__557 ki_0 ?_
                          exact g_no
                      · refine g_swc (k := 8) (tgt := 579) dL_law__40 (by decide) kt_8 rfl (by decide) ?_ ?_
                        · refine g_aload_n (i := 1) dL_law__579 rfl rfl ?_
                          refine g_aload_n (i := 0) dL_law__580 rfl rfl ?_
                          refine g_iload dL_law__581 rfl ?_
                          refine g_iconst (v := (1 : Int32)) dL_law__583 ki_1 ?_
                          refine g_iadd dL_law__584 ?_
                          refine g_sld hX dL_law__585 ?_
                          refine g_aload_n (i := 0) dL_law__586 rfl rfl ?_
                          refine g_iload dL_law__587 rfl ?_
                          refine g_iconst (v := (2 : Int32)) dL_law__589 ki_2 ?_
                          refine g_iadd dL_law__590 ?_
                          refine g_sld hX dL_law__591 ?_
                          refine g_aload_n (i := 3) dL_law__592 rfl rfl ?_
                          refine g_callSW (n0 := 4) (hh := hh_L_member) (crt_L_member _ _ _ _ _ _ _) q_1076 q_0 (by decide +kernel) (by decide) rfl q_1074 q_1075 rfl rfl dL_law__593 ?_
                          intro r62 m63
                          show GG Z _ _ 596 _ [.int r62] m63 _
                          refine g_istore dL_law__596 (show 5 < 8 by decide) ?_
                          intro x64
                          refine g_aload_n (i := 2) dL_law__598 rfl rfl ?_
                          refine g_aload_n (i := 0) dL_law__599 rfl rfl ?_
                          refine g_iload dL_law__600 rfl ?_
                          refine g_iconst (v := (1 : Int32)) dL_law__602 ki_1 ?_
                          refine g_iadd dL_law__603 ?_
                          refine g_sld hX dL_law__604 ?_
                          refine g_aload_n (i := 0) dL_law__605 rfl rfl ?_
                          refine g_iload dL_law__606 rfl ?_
                          refine g_iconst (v := (2 : Int32)) dL_law__608 ki_2 ?_
                          refine g_iadd dL_law__609 ?_
                          refine g_sld hX dL_law__610 ?_
                          refine g_callVI cl_X12 (crt_X12_member _ _ _ _ _ _) cw_X12_member (by decide) rfl q_1773 q_1774 q_1775 rfl rfl dL_law__611 ?_
                          intro r65 m66
                          refine g_istore dL_law__614 (show 6 < 8 by decide) ?_
                          intro x67
                          refine g_aload_n (i := 2) dL_law__616 rfl rfl ?_
                          refine g_callVI cl_X12 (crt_X12_thrown _ _ _ _) cw_X12_thrown (by decide) rfl q_1493 q_1494 q_1495 rfl rfl dL_law__617 ?_
                          intro r68 m69
                          refine g_iload dL_law__620 rfl ?_
                          refine g_icmpeq (tgt := 627) dL_law__622 (by decide) ?_ ?_
                          · refine g_iload dL_law__627 rfl ?_
                            refine g_jn (fun J644 => ∀ (v1 : Nat) (v2 : Nat) (v3 : Nat) (v4 : Int32) (m : Mm), GG Z M_L_law_ (PsL Z) 644 [some (.ref (K9 + 998)), some (.ref v1), some (.ref v2), some (.ref v3), some (.int v4), none, none, none] [] m (J644 v1 v2 v3 v4 m)) ?_ ?_
                            · intro v1 v2 v3 v4 m
                              refine g_goto (tgt := 1890) dL_law__644 (by decide) ?_
                              exact g_msk [true, true, true, true, true, false, false, false] (hJ1890 _ _ _ _ _)
                            · intro J644 hJ644
                              refine g_ifne (tgt := 644) dL_law__629 (by decide) ?_ ?_
                              · exact g_msk [true, true, true, true, true, false, false, false] (hJ644 _ _ _ _ _)
                              · refine g_aload_n (i := 3) dL_law__632 rfl rfl ?_
                                refine g_iconst (v := (0 : Int32)) dL_law__633 ki_0 ?_
                                refine g_laload dL_law__634 ?_
                                refine g_iload dL_law__635 rfl ?_
                                refine g_i2l dL_law__637 ?_
                                refine g_lcmp dL_law__638 ?_
                                refine g_ifeq (tgt := 644) dL_law__639 (by decide) ?_ ?_
                                · exact g_msk [true, true, true, true, true, false, false, false] (hJ644 _ _ _ _ _)
                                · refine g_iconst (v := (0 : Int32)) dL_law__642 ki_0 ?_
                                  exact g_no
                          · refine g_iconst (v := (0 : Int32)) dL_law__625 ki_0 ?_
                            exact g_no
                        · refine g_swc (k := 9) (tgt := 647) dL_law__40 (by decide) kt_9 rfl (by decide) ?_ ?_
                          · refine g_aload_n (i := 1) dL_law__647 rfl rfl ?_
                            refine g_aload_n (i := 0) dL_law__648 rfl rfl ?_
                            refine g_iload dL_law__649 rfl ?_
                            refine g_iconst (v := (1 : Int32)) dL_law__651 ki_1 ?_
                            refine g_iadd dL_law__652 ?_
                            refine g_sld hX dL_law__653 ?_
                            refine g_aload_n (i := 3) dL_law__654 rfl rfl ?_
                            refine g_callSW (n0 := 3) (hh := hh_L_tally) (crt_L_tally _ _ _ _ _ _) q_1106 q_0 (by decide +kernel) (by decide) rfl q_1104 q_1105 rfl rfl dL_law__655 ?_
                            intro r70 m71
                            show GG Z _ _ 658 _ [.int r70] m71 _
                            refine g_istore dL_law__658 (show 5 < 8 by decide) ?_
                            intro x72
                            refine g_aload_n (i := 2) dL_law__660 rfl rfl ?_
                            refine g_aload_n (i := 0) dL_law__661 rfl rfl ?_
                            refine g_iload dL_law__662 rfl ?_
                            refine g_iconst (v := (1 : Int32)) dL_law__664 ki_1 ?_
                            refine g_iadd dL_law__665 ?_
                            refine g_sld hX dL_law__666 ?_
                            refine g_callVL cl_X12 (crt_X12_tally _ _ _ _ _) cw_X12_tally (by decide) rfl q_1781 q_1782 q_1783 rfl rfl dL_law__667 ?_
                            intro r73 m74
                            refine g_lstore dL_law__670 (show 7 < 8 by decide) ?_
                            intro x75
                            refine g_aload_n (i := 2) dL_law__672 rfl rfl ?_
                            refine g_callVI cl_X12 (crt_X12_thrown _ _ _ _) cw_X12_thrown (by decide) rfl q_1493 q_1494 q_1495 rfl rfl dL_law__673 ?_
                            intro r76 m77
                            refine g_iload dL_law__676 rfl ?_
                            refine g_icmpeq (tgt := 683) dL_law__678 (by decide) ?_ ?_
                            · refine g_iload dL_law__683 rfl ?_
                              refine g_jn (fun J699 => ∀ (v1 : Nat) (v2 : Nat) (v3 : Nat) (v4 : Int32) (m : Mm), GG Z M_L_law_ (PsL Z) 699 [some (.ref (K9 + 998)), some (.ref v1), some (.ref v2), some (.ref v3), some (.int v4), none, none, none] [] m (J699 v1 v2 v3 v4 m)) ?_ ?_
                              · intro v1 v2 v3 v4 m
                                refine g_goto (tgt := 1890) dL_law__699 (by decide) ?_
                                exact g_msk [true, true, true, true, true, false, false, false] (hJ1890 _ _ _ _ _)
                              · intro J699 hJ699
                                refine g_ifne (tgt := 699) dL_law__685 (by decide) ?_ ?_
                                · exact g_msk [true, true, true, true, true, false, false, false] (hJ699 _ _ _ _ _)
                                · refine g_aload_n (i := 3) dL_law__688 rfl rfl ?_
                                  refine g_iconst (v := (0 : Int32)) dL_law__689 ki_0 ?_
                                  refine g_laload dL_law__690 ?_
                                  refine g_lload dL_law__691 rfl ?_
                                  refine g_lcmp dL_law__693 ?_
                                  refine g_ifeq (tgt := 699) dL_law__694 (by decide) ?_ ?_
                                  · exact g_msk [true, true, true, true, true, false, false, false] (hJ699 _ _ _ _ _)
                                  · refine g_iconst (v := (0 : Int32)) dL_law__697 ki_0 ?_
                                    exact g_no
                            · refine g_iconst (v := (0 : Int32)) dL_law__681 ki_0 ?_
                              exact g_no
                          · refine g_swc (k := 10) (tgt := 702) dL_law__40 (by decide) kt_10 rfl (by decide) ?_ ?_
                            · refine g_aload_n (i := 1) dL_law__702 rfl rfl ?_
                              refine g_aload_n (i := 0) dL_law__703 rfl rfl ?_
                              refine g_iload dL_law__704 rfl ?_
                              refine g_iconst (v := (1 : Int32)) dL_law__706 ki_1 ?_
                              refine g_iadd dL_law__707 ?_
                              refine g_sld hX dL_law__708 ?_
                              refine g_aload_n (i := 0) dL_law__709 rfl rfl ?_
                              refine g_iload dL_law__710 rfl ?_
                              refine g_iconst (v := (2 : Int32)) dL_law__712 ki_2 ?_
                              refine g_iadd dL_law__713 ?_
                              refine g_sld hX dL_law__714 ?_
                              refine g_aload_n (i := 3) dL_law__715 rfl rfl ?_
                              refine g_callSW (n0 := 4) (hh := hh_L_log) (crt_L_log _ _ _ _ _ _ _) q_1113 q_0 (by decide +kernel) (by decide) rfl q_1111 q_1112 rfl rfl dL_law__716 ?_
                              intro r78 m79
                              show GG Z _ _ 719 _ [.int r78] m79 _
                              refine g_istore dL_law__719 (show 5 < 8 by decide) ?_
                              intro x80
                              refine g_aload_n (i := 2) dL_law__721 rfl rfl ?_
                              refine g_aload_n (i := 0) dL_law__722 rfl rfl ?_
                              refine g_iload dL_law__723 rfl ?_
                              refine g_iconst (v := (1 : Int32)) dL_law__725 ki_1 ?_
                              refine g_iadd dL_law__726 ?_
                              refine g_sld hX dL_law__727 ?_
                              refine g_aload_n (i := 0) dL_law__728 rfl rfl ?_
                              refine g_iload dL_law__729 rfl ?_
                              refine g_iconst (v := (2 : Int32)) dL_law__731 ki_2 ?_
                              refine g_iadd dL_law__732 ?_
                              refine g_sld hX dL_law__733 ?_
                              refine g_callVL cl_X12 (crt_X12_log _ _ _ _ _ _) cw_X12_log (by decide) rfl q_1785 q_1786 q_1787 rfl rfl dL_law__734 ?_
                              intro r81 m82
                              refine g_lstore dL_law__737 (show 7 < 8 by decide) ?_
                              intro x83
                              refine g_aload_n (i := 2) dL_law__739 rfl rfl ?_
                              refine g_callVI cl_X12 (crt_X12_thrown _ _ _ _) cw_X12_thrown (by decide) rfl q_1493 q_1494 q_1495 rfl rfl dL_law__740 ?_
                              intro r84 m85
                              refine g_iload dL_law__743 rfl ?_
                              refine g_icmpeq (tgt := 750) dL_law__745 (by decide) ?_ ?_
                              · refine g_iload dL_law__750 rfl ?_
                                refine g_jn (fun J766 => ∀ (v1 : Nat) (v2 : Nat) (v3 : Nat) (v4 : Int32) (m : Mm), GG Z M_L_law_ (PsL Z) 766 [some (.ref (K9 + 998)), some (.ref v1), some (.ref v2), some (.ref v3), some (.int v4), none, none, none] [] m (J766 v1 v2 v3 v4 m)) ?_ ?_
                                · intro v1 v2 v3 v4 m
                                  refine g_goto (tgt := 1890) dL_law__766 (by decide) ?_
                                  exact g_msk [true, true, true, true, true, false, false, false] (hJ1890 _ _ _ _ _)
                                · intro J766 hJ766
                                  refine g_ifne (tgt := 766) dL_law__752 (by decide) ?_ ?_
                                  · exact g_msk [true, true, true, true, true, false, false, false] (hJ766 _ _ _ _ _)
                                  · refine g_aload_n (i := 3) dL_law__755 rfl rfl ?_
                                    refine g_iconst (v := (0 : Int32)) dL_law__756 ki_0 ?_
                                    refine g_laload dL_law__757 ?_
                                    refine g_lload dL_law__758 rfl ?_
                                    refine g_lcmp dL_law__760 ?_
                                    refine g_ifeq (tgt := 766) dL_law__761 (by decide) ?_ ?_
                                    · exact g_msk [true, true, true, true, true, false, false, false] (hJ766 _ _ _ _ _)
                                    · refine g_iconst (v := (0 : Int32)) dL_law__764 ki_0 ?_
                                      exact g_no
                              · refine g_iconst (v := (0 : Int32)) dL_law__748 ki_0 ?_
                                exact g_no
                            · refine g_swc (k := 11) (tgt := 769) dL_law__40 (by decide) kt_11 rfl (by decide) ?_ ?_
                              · refine g_aload_n (i := 1) dL_law__769 rfl rfl ?_
                                refine g_aload_n (i := 0) dL_law__770 rfl rfl ?_
                                refine g_iload dL_law__771 rfl ?_
                                refine g_iconst (v := (1 : Int32)) dL_law__773 ki_1 ?_
                                refine g_iadd dL_law__774 ?_
                                refine g_sld hX dL_law__775 ?_
                                refine g_aload_n (i := 0) dL_law__776 rfl rfl ?_
                                refine g_iload dL_law__777 rfl ?_
                                refine g_iconst (v := (2 : Int32)) dL_law__779 ki_2 ?_
                                refine g_iadd dL_law__780 ?_
                                refine g_sld hX dL_law__781 ?_
                                refine g_aload_n (i := 3) dL_law__782 rfl rfl ?_
                                refine g_callSW (n0 := 4) (hh := hh_L_message) (crt_L_message _ _ _ _ _ _ _) q_1196 q_0 (by decide +kernel) (by decide) rfl q_1194 q_1195 rfl rfl dL_law__783 ?_
                                intro r86 m87
                                show GG Z _ _ 786 _ [.int r86] m87 _
                                refine g_istore dL_law__786 (show 5 < 8 by decide) ?_
                                intro x88
                                refine g_aload_n (i := 2) dL_law__788 rfl rfl ?_
                                refine g_aload_n (i := 0) dL_law__789 rfl rfl ?_
                                refine g_iload dL_law__790 rfl ?_
                                refine g_iconst (v := (1 : Int32)) dL_law__792 ki_1 ?_
                                refine g_iadd dL_law__793 ?_
                                refine g_sld hX dL_law__794 ?_
                                refine g_aload_n (i := 0) dL_law__795 rfl rfl ?_
                                refine g_iload dL_law__796 rfl ?_
                                refine g_iconst (v := (2 : Int32)) dL_law__798 ki_2 ?_
                                refine g_iadd dL_law__799 ?_
                                refine g_sld hX dL_law__800 ?_
                                refine g_callVI cl_X12 (crt_X12_message _ _ _ _ _ _) cw_X12_message (by decide) rfl q_1789 q_1790 q_1791 rfl rfl dL_law__801 ?_
                                intro r89 m90
                                refine g_istore dL_law__804 (show 6 < 8 by decide) ?_
                                intro x91
                                refine g_aload_n (i := 2) dL_law__806 rfl rfl ?_
                                refine g_callVI cl_X12 (crt_X12_thrown _ _ _ _) cw_X12_thrown (by decide) rfl q_1493 q_1494 q_1495 rfl rfl dL_law__807 ?_
                                intro r92 m93
                                refine g_iload dL_law__810 rfl ?_
                                refine g_icmpeq (tgt := 817) dL_law__812 (by decide) ?_ ?_
                                · refine g_iload dL_law__817 rfl ?_
                                  refine g_jn (fun J834 => ∀ (v1 : Nat) (v2 : Nat) (v3 : Nat) (v4 : Int32) (m : Mm), GG Z M_L_law_ (PsL Z) 834 [some (.ref (K9 + 998)), some (.ref v1), some (.ref v2), some (.ref v3), some (.int v4), none, none, none] [] m (J834 v1 v2 v3 v4 m)) ?_ ?_
                                  · intro v1 v2 v3 v4 m
                                    refine g_goto (tgt := 1890) dL_law__834 (by decide) ?_
                                    exact g_msk [true, true, true, true, true, false, false, false] (hJ1890 _ _ _ _ _)
                                  · intro J834 hJ834
                                    refine g_ifne (tgt := 834) dL_law__819 (by decide) ?_ ?_
                                    · exact g_msk [true, true, true, true, true, false, false, false] (hJ834 _ _ _ _ _)
                                    · refine g_aload_n (i := 3) dL_law__822 rfl rfl ?_
                                      refine g_iconst (v := (0 : Int32)) dL_law__823 ki_0 ?_
                                      refine g_laload dL_law__824 ?_
                                      refine g_iload dL_law__825 rfl ?_
                                      refine g_i2l dL_law__827 ?_
                                      refine g_lcmp dL_law__828 ?_
                                      refine g_ifeq (tgt := 834) dL_law__829 (by decide) ?_ ?_
                                      · exact g_msk [true, true, true, true, true, false, false, false] (hJ834 _ _ _ _ _)
                                      · refine g_iconst (v := (0 : Int32)) dL_law__832 ki_0 ?_
                                        exact g_no
                                · refine g_iconst (v := (0 : Int32)) dL_law__815 ki_0 ?_
                                  exact g_no
                              · refine g_swc (k := 12) (tgt := 837) dL_law__40 (by decide) kt_12 rfl (by decide) ?_ ?_
                                · refine g_aload_n (i := 1) dL_law__837 rfl rfl ?_
                                  refine g_aload_n (i := 0) dL_law__838 rfl rfl ?_
                                  refine g_iload dL_law__839 rfl ?_
                                  refine g_iconst (v := (1 : Int32)) dL_law__841 ki_1 ?_
                                  refine g_iadd dL_law__842 ?_
                                  refine g_sld hX dL_law__843 ?_
                                  refine g_aload_n (i := 0) dL_law__844 rfl rfl ?_
                                  refine g_iload dL_law__845 rfl ?_
                                  refine g_iconst (v := (2 : Int32)) dL_law__847 ki_2 ?_
                                  refine g_iadd dL_law__848 ?_
                                  refine g_sld hX dL_law__849 ?_
                                  refine g_aload_n (i := 3) dL_law__850 rfl rfl ?_
                                  refine g_callSW (n0 := 4) (hh := hh_L_knows) (crt_L_knows _ _ _ _ _ _ _) q_1206 q_0 (by decide +kernel) (by decide) rfl q_1204 q_1205 rfl rfl dL_law__851 ?_
                                  intro r94 m95
                                  show GG Z _ _ 854 _ [.int r94] m95 _
                                  refine g_istore dL_law__854 (show 5 < 8 by decide) ?_
                                  intro x96
                                  refine g_aload_n (i := 2) dL_law__856 rfl rfl ?_
                                  refine g_aload_n (i := 0) dL_law__857 rfl rfl ?_
                                  refine g_iload dL_law__858 rfl ?_
                                  refine g_iconst (v := (1 : Int32)) dL_law__860 ki_1 ?_
                                  refine g_iadd dL_law__861 ?_
                                  refine g_sld hX dL_law__862 ?_
                                  refine g_aload_n (i := 0) dL_law__863 rfl rfl ?_
                                  refine g_iload dL_law__864 rfl ?_
                                  refine g_iconst (v := (2 : Int32)) dL_law__866 ki_2 ?_
                                  refine g_iadd dL_law__867 ?_
                                  refine g_sld hX dL_law__868 ?_
                                  refine g_callVI cl_X12 (crt_X12_knows _ _ _ _ _ _) cw_X12_knows (by decide) rfl q_1797 q_1798 q_1799 rfl rfl dL_law__869 ?_
                                  intro r97 m98
                                  refine g_istore dL_law__872 (show 6 < 8 by decide) ?_
                                  intro x99
                                  refine g_aload_n (i := 2) dL_law__874 rfl rfl ?_
                                  refine g_callVI cl_X12 (crt_X12_thrown _ _ _ _) cw_X12_thrown (by decide) rfl q_1493 q_1494 q_1495 rfl rfl dL_law__875 ?_
                                  intro r100 m101
                                  refine g_iload dL_law__878 rfl ?_
                                  refine g_icmpeq (tgt := 885) dL_law__880 (by decide) ?_ ?_
                                  · refine g_iload dL_law__885 rfl ?_
                                    refine g_jn (fun J902 => ∀ (v1 : Nat) (v2 : Nat) (v3 : Nat) (v4 : Int32) (m : Mm), GG Z M_L_law_ (PsL Z) 902 [some (.ref (K9 + 998)), some (.ref v1), some (.ref v2), some (.ref v3), some (.int v4), none, none, none] [] m (J902 v1 v2 v3 v4 m)) ?_ ?_
                                    · intro v1 v2 v3 v4 m
                                      refine g_goto (tgt := 1890) dL_law__902 (by decide) ?_
                                      exact g_msk [true, true, true, true, true, false, false, false] (hJ1890 _ _ _ _ _)
                                    · intro J902 hJ902
                                      refine g_ifne (tgt := 902) dL_law__887 (by decide) ?_ ?_
                                      · exact g_msk [true, true, true, true, true, false, false, false] (hJ902 _ _ _ _ _)
                                      · refine g_aload_n (i := 3) dL_law__890 rfl rfl ?_
                                        refine g_iconst (v := (0 : Int32)) dL_law__891 ki_0 ?_
                                        refine g_laload dL_law__892 ?_
                                        refine g_iload dL_law__893 rfl ?_
                                        refine g_i2l dL_law__895 ?_
                                        refine g_lcmp dL_law__896 ?_
                                        refine g_ifeq (tgt := 902) dL_law__897 (by decide) ?_ ?_
                                        · exact g_msk [true, true, true, true, true, false, false, false] (hJ902 _ _ _ _ _)
                                        · refine g_iconst (v := (0 : Int32)) dL_law__900 ki_0 ?_
                                          exact g_no
                                  · refine g_iconst (v := (0 : Int32)) dL_law__883 ki_0 ?_
                                    exact g_no
                                · refine g_swc (k := 13) (tgt := 905) dL_law__40 (by decide) kt_13 rfl (by decide) ?_ ?_
                                  · refine g_aload_n (i := 1) dL_law__905 rfl rfl ?_
                                    refine g_aload_n (i := 0) dL_law__906 rfl rfl ?_
                                    refine g_iload dL_law__907 rfl ?_
                                    refine g_iconst (v := (1 : Int32)) dL_law__909 ki_1 ?_
                                    refine g_iadd dL_law__910 ?_
                                    refine g_sld hX dL_law__911 ?_
                                    refine g_aload_n (i := 3) dL_law__912 rfl rfl ?_
                                    refine g_callSW (n0 := 3) (hh := hh_L_stable) (crt_L_stable _ _ _ _ _ _) q_1213 q_0 (by decide +kernel) (by decide) rfl q_1211 q_1212 rfl rfl dL_law__913 ?_
                                    intro r102 m103
                                    show GG Z _ _ 916 _ [.int r102] m103 _
                                    refine g_istore dL_law__916 (show 5 < 8 by decide) ?_
                                    intro x104
                                    refine g_aload_n (i := 2) dL_law__918 rfl rfl ?_
                                    refine g_aload_n (i := 0) dL_law__919 rfl rfl ?_
                                    refine g_iload dL_law__920 rfl ?_
                                    refine g_iconst (v := (1 : Int32)) dL_law__922 ki_1 ?_
                                    refine g_iadd dL_law__923 ?_
                                    refine g_sld hX dL_law__924 ?_
                                    refine g_callVI cl_X12 (crt_X12_stable _ _ _ _ _) cw_X12_stable (by decide) rfl q_1801 q_1802 q_1803 rfl rfl dL_law__925 ?_
                                    intro r105 m106
                                    refine g_istore dL_law__928 (show 6 < 8 by decide) ?_
                                    intro x107
                                    refine g_aload_n (i := 2) dL_law__930 rfl rfl ?_
                                    refine g_callVI cl_X12 (crt_X12_thrown _ _ _ _) cw_X12_thrown (by decide) rfl q_1493 q_1494 q_1495 rfl rfl dL_law__931 ?_
                                    intro r108 m109
                                    refine g_iload dL_law__934 rfl ?_
                                    refine g_icmpeq (tgt := 941) dL_law__936 (by decide) ?_ ?_
                                    · refine g_iload dL_law__941 rfl ?_
                                      refine g_jn (fun J958 => ∀ (v1 : Nat) (v2 : Nat) (v3 : Nat) (v4 : Int32) (m : Mm), GG Z M_L_law_ (PsL Z) 958 [some (.ref (K9 + 998)), some (.ref v1), some (.ref v2), some (.ref v3), some (.int v4), none, none, none] [] m (J958 v1 v2 v3 v4 m)) ?_ ?_
                                      · intro v1 v2 v3 v4 m
                                        refine g_goto (tgt := 1890) dL_law__958 (by decide) ?_
                                        exact g_msk [true, true, true, true, true, false, false, false] (hJ1890 _ _ _ _ _)
                                      · intro J958 hJ958
                                        refine g_ifne (tgt := 958) dL_law__943 (by decide) ?_ ?_
                                        · exact g_msk [true, true, true, true, true, false, false, false] (hJ958 _ _ _ _ _)
                                        · refine g_aload_n (i := 3) dL_law__946 rfl rfl ?_
                                          refine g_iconst (v := (0 : Int32)) dL_law__947 ki_0 ?_
                                          refine g_laload dL_law__948 ?_
                                          refine g_iload dL_law__949 rfl ?_
                                          refine g_i2l dL_law__951 ?_
                                          refine g_lcmp dL_law__952 ?_
                                          refine g_ifeq (tgt := 958) dL_law__953 (by decide) ?_ ?_
                                          · exact g_msk [true, true, true, true, true, false, false, false] (hJ958 _ _ _ _ _)
                                          · refine g_iconst (v := (0 : Int32)) dL_law__956 ki_0 ?_
                                            exact g_no
                                    · refine g_iconst (v := (0 : Int32)) dL_law__939 ki_0 ?_
                                      exact g_no
                                  · refine g_swc (k := 14) (tgt := 961) dL_law__40 (by decide) kt_14 rfl (by decide) ?_ ?_
                                    · refine g_aload_n (i := 1) dL_law__961 rfl rfl ?_
                                      refine g_aload_n (i := 0) dL_law__962 rfl rfl ?_
                                      refine g_iload dL_law__963 rfl ?_
                                      refine g_iconst (v := (1 : Int32)) dL_law__965 ki_1 ?_
                                      refine g_iadd dL_law__966 ?_
                                      refine g_sld hX dL_law__967 ?_
                                      refine g_aload_n (i := 0) dL_law__968 rfl rfl ?_
                                      refine g_iload dL_law__969 rfl ?_
                                      refine g_iconst (v := (2 : Int32)) dL_law__971 ki_2 ?_
                                      refine g_iadd dL_law__972 ?_
                                      refine g_sld hX dL_law__973 ?_
                                      refine g_aload_n (i := 0) dL_law__974 rfl rfl ?_
                                      refine g_iload dL_law__975 rfl ?_
                                      refine g_iconst (v := (3 : Int32)) dL_law__977 ki_3 ?_
                                      refine g_iadd dL_law__978 ?_
                                      refine g_sld hX dL_law__979 ?_
                                      refine g_aload_n (i := 0) dL_law__980 rfl rfl ?_
                                      refine g_iload dL_law__981 rfl ?_
                                      refine g_iconst (v := (4 : Int32)) dL_law__983 ki_4 ?_
                                      refine g_iadd dL_law__984 ?_
                                      refine g_sld hX dL_law__985 ?_
                                      refine g_aload_n (i := 3) dL_law__986 rfl rfl ?_
                                      refine g_callSW (n0 := 6) (hh := hh_L_would) (crt_L_would _ _ _ _ _ _ _ _ _) q_1221 q_0 (by decide +kernel) (by decide) rfl q_1219 q_1220 rfl rfl dL_law__987 ?_
                                      intro r110 m111
                                      show GG Z _ _ 990 _ [.int r110] m111 _
                                      refine g_istore dL_law__990 (show 5 < 8 by decide) ?_
                                      intro x112
                                      refine g_aload_n (i := 2) dL_law__992 rfl rfl ?_
                                      refine g_aload_n (i := 0) dL_law__993 rfl rfl ?_
                                      refine g_iload dL_law__994 rfl ?_
                                      refine g_iconst (v := (1 : Int32)) dL_law__996 ki_1 ?_
                                      refine g_iadd dL_law__997 ?_
                                      refine g_sld hX dL_law__998 ?_
                                      refine g_aload_n (i := 0) dL_law__999 rfl rfl ?_
                                      refine g_iload dL_law__1000 rfl ?_
                                      refine g_iconst (v := (2 : Int32)) dL_law__1002 ki_2 ?_
                                      refine g_iadd dL_law__1003 ?_
                                      refine g_sld hX dL_law__1004 ?_
                                      refine g_aload_n (i := 0) dL_law__1005 rfl rfl ?_
                                      refine g_iload dL_law__1006 rfl ?_
                                      refine g_iconst (v := (3 : Int32)) dL_law__1008 ki_3 ?_
                                      refine g_iadd dL_law__1009 ?_
                                      refine g_sld hX dL_law__1010 ?_
                                      refine g_aload_n (i := 0) dL_law__1011 rfl rfl ?_
                                      refine g_iload dL_law__1012 rfl ?_
                                      refine g_iconst (v := (4 : Int32)) dL_law__1014 ki_4 ?_
                                      refine g_iadd dL_law__1015 ?_
                                      refine g_sld hX dL_law__1016 ?_
                                      refine g_callVI cl_X12 (crt_X12_would _ _ _ _ _ _ _ _) cw_X12_would (by decide) rfl q_1805 q_1806 q_1807 rfl rfl dL_law__1017 ?_
                                      intro r113 m114
                                      refine g_istore dL_law__1020 (show 6 < 8 by decide) ?_
                                      intro x115
                                      refine g_aload_n (i := 2) dL_law__1022 rfl rfl ?_
                                      refine g_callVI cl_X12 (crt_X12_thrown _ _ _ _) cw_X12_thrown (by decide) rfl q_1493 q_1494 q_1495 rfl rfl dL_law__1023 ?_
                                      intro r116 m117
                                      refine g_iload dL_law__1026 rfl ?_
                                      refine g_icmpeq (tgt := 1033) dL_law__1028 (by decide) ?_ ?_
                                      · refine g_iload dL_law__1033 rfl ?_
                                        refine g_jn (fun J1050 => ∀ (v1 : Nat) (v2 : Nat) (v3 : Nat) (v4 : Int32) (m : Mm), GG Z M_L_law_ (PsL Z) 1050 [some (.ref (K9 + 998)), some (.ref v1), some (.ref v2), some (.ref v3), some (.int v4), none, none, none] [] m (J1050 v1 v2 v3 v4 m)) ?_ ?_
                                        · intro v1 v2 v3 v4 m
                                          refine g_goto (tgt := 1890) dL_law__1050 (by decide) ?_
                                          exact g_msk [true, true, true, true, true, false, false, false] (hJ1890 _ _ _ _ _)
                                        · intro J1050 hJ1050
                                          refine g_ifne (tgt := 1050) dL_law__1035 (by decide) ?_ ?_
                                          · exact g_msk [true, true, true, true, true, false, false, false] (hJ1050 _ _ _ _ _)
                                          · refine g_aload_n (i := 3) dL_law__1038 rfl rfl ?_
                                            refine g_iconst (v := (0 : Int32)) dL_law__1039 ki_0 ?_
                                            refine g_laload dL_law__1040 ?_
                                            refine g_iload dL_law__1041 rfl ?_
                                            refine g_i2l dL_law__1043 ?_
                                            refine g_lcmp dL_law__1044 ?_
                                            refine g_ifeq (tgt := 1050) dL_law__1045 (by decide) ?_ ?_
                                            · exact g_msk [true, true, true, true, true, false, false, false] (hJ1050 _ _ _ _ _)
                                            · refine g_iconst (v := (0 : Int32)) dL_law__1048 ki_0 ?_
                                              exact g_no
                                      · refine g_iconst (v := (0 : Int32)) dL_law__1031 ki_0 ?_
                                        exact g_no
                                    · refine g_swc (k := 15) (tgt := 1053) dL_law__40 (by decide) kt_15 rfl (by decide) ?_ ?_
                                      · refine g_aload_n (i := 1) dL_law__1053 rfl rfl ?_
                                        refine g_callVI cl_X11 (crt_X11_primary _ _ _ _) cw_X11_primary (by decide) rfl q_443 q_444 q_445 rfl rfl dL_law__1054 ?_
                                        intro r118 m119
                                        refine g_aload_n (i := 2) dL_law__1057 rfl rfl ?_
                                        refine g_callVI cl_X12 (crt_X12_primary _ _ _ _) cw_X12_primary (by decide) rfl q_1809 q_1810 q_1811 rfl rfl dL_law__1058 ?_
                                        intro r120 m121
                                        refine g_icmpeq (tgt := 1890) dL_law__1061 (by decide) ?_ ?_
                                        · exact g_msk [true, true, true, true, true, false, false, false] (hJ1890 _ _ _ _ _)
                                        · refine g_iconst (v := (0 : Int32)) dL_law__1064 ki_0 ?_
                                          exact g_no
                                      · refine g_swc (k := 16) (tgt := 1066) dL_law__40 (by decide) kt_16 rfl (by decide) ?_ ?_
                                        · refine g_aload_n (i := 1) dL_law__1066 rfl rfl ?_
                                          refine g_aload_n (i := 0) dL_law__1067 rfl rfl ?_
                                          refine g_iload dL_law__1068 rfl ?_
                                          refine g_iconst (v := (1 : Int32)) dL_law__1070 ki_1 ?_
                                          refine g_iadd dL_law__1071 ?_
                                          refine g_sld hX dL_law__1072 ?_
                                          refine g_aload_n (i := 3) dL_law__1073 rfl rfl ?_
                                          refine g_callSW (n0 := 3) (hh := hh_L_missing) (crt_L_missing _ _ _ _ _ _) q_1228 q_0 (by decide +kernel) (by decide) rfl q_1226 q_1227 rfl rfl dL_law__1074 ?_
                                          intro r122 m123
                                          show GG Z _ _ 1077 _ [.int r122] m123 _
                                          refine g_istore dL_law__1077 (show 5 < 8 by decide) ?_
                                          intro x124
                                          refine g_aload_n (i := 2) dL_law__1079 rfl rfl ?_
                                          refine g_aload_n (i := 0) dL_law__1080 rfl rfl ?_
                                          refine g_iload dL_law__1081 rfl ?_
                                          refine g_iconst (v := (1 : Int32)) dL_law__1083 ki_1 ?_
                                          refine g_iadd dL_law__1084 ?_
                                          refine g_sld hX dL_law__1085 ?_
                                          refine g_callVI cl_X12 (crt_X12_missing _ _ _ _ _) cw_X12_missing (by decide) rfl q_1813 q_1814 q_1815 rfl rfl dL_law__1086 ?_
                                          intro r125 m126
                                          refine g_istore dL_law__1089 (show 6 < 8 by decide) ?_
                                          intro x127
                                          refine g_aload_n (i := 2) dL_law__1091 rfl rfl ?_
                                          refine g_callVI cl_X12 (crt_X12_thrown _ _ _ _) cw_X12_thrown (by decide) rfl q_1493 q_1494 q_1495 rfl rfl dL_law__1092 ?_
                                          intro r128 m129
                                          refine g_iload dL_law__1095 rfl ?_
                                          refine g_icmpeq (tgt := 1102) dL_law__1097 (by decide) ?_ ?_
                                          · refine g_iload dL_law__1102 rfl ?_
                                            refine g_jn (fun J1119 => ∀ (v1 : Nat) (v2 : Nat) (v3 : Nat) (v4 : Int32) (m : Mm), GG Z M_L_law_ (PsL Z) 1119 [some (.ref (K9 + 998)), some (.ref v1), some (.ref v2), some (.ref v3), some (.int v4), none, none, none] [] m (J1119 v1 v2 v3 v4 m)) ?_ ?_
                                            · intro v1 v2 v3 v4 m
                                              refine g_goto (tgt := 1890) dL_law__1119 (by decide) ?_
                                              exact g_msk [true, true, true, true, true, false, false, false] (hJ1890 _ _ _ _ _)
                                            · intro J1119 hJ1119
                                              refine g_ifne (tgt := 1119) dL_law__1104 (by decide) ?_ ?_
                                              · exact g_msk [true, true, true, true, true, false, false, false] (hJ1119 _ _ _ _ _)
                                              · refine g_aload_n (i := 3) dL_law__1107 rfl rfl ?_
                                                refine g_iconst (v := (0 : Int32)) dL_law__1108 ki_0 ?_
                                                refine g_laload dL_law__1109 ?_
                                                refine g_iload dL_law__1110 rfl ?_
                                                refine g_i2l dL_law__1112 ?_
                                                refine g_lcmp dL_law__1113 ?_
                                                refine g_ifeq (tgt := 1119) dL_law__1114 (by decide) ?_ ?_
                                                · exact g_msk [true, true, true, true, true, false, false, false] (hJ1119 _ _ _ _ _)
                                                · refine g_iconst (v := (0 : Int32)) dL_law__1117 ki_0 ?_
                                                  exact g_no
                                          · refine g_iconst (v := (0 : Int32)) dL_law__1100 ki_0 ?_
                                            exact g_no
                                        · refine g_swc (k := 17) (tgt := 1122) dL_law__40 (by decide) kt_17 rfl (by decide) ?_ ?_
                                          · refine g_aload_n (i := 1) dL_law__1122 rfl rfl ?_
                                            refine g_callVI cl_X11 (crt_X11_lost _ _ _ _) cw_X11_lost (by decide) rfl q_487 q_488 q_489 rfl rfl dL_law__1123 ?_
                                            intro r130 m131
                                            refine g_aload_n (i := 2) dL_law__1126 rfl rfl ?_
                                            refine g_callVI cl_X12 (crt_X12_lost _ _ _ _) cw_X12_lost (by decide) rfl q_1821 q_1822 q_1823 rfl rfl dL_law__1127 ?_
                                            intro r132 m133
                                            refine g_icmpeq (tgt := 1890) dL_law__1130 (by decide) ?_ ?_
                                            · exact g_msk [true, true, true, true, true, false, false, false] (hJ1890 _ _ _ _ _)
                                            · refine g_iconst (v := (0 : Int32)) dL_law__1133 ki_0 ?_
                                              exact g_no
                                          · refine g_swc (k := 18) (tgt := 1135) dL_law__40 (by decide) kt_18 rfl (by decide) ?_ ?_
                                            · refine g_aload_n (i := 1) dL_law__1135 rfl rfl ?_
                                              refine g_callVI cl_X11 (crt_X11_fall _ _ _ _) cw_X11_fall (by decide) rfl q_495 q_496 q_497 rfl rfl dL_law__1136 ?_
                                              intro r134 m135
                                              refine g_aload_n (i := 2) dL_law__1139 rfl rfl ?_
                                              refine g_callVI cl_X12 (crt_X12_fall _ _ _ _) cw_X12_fall (by decide) rfl q_1825 q_1826 q_1827 rfl rfl dL_law__1140 ?_
                                              intro r136 m137
                                              refine g_icmpeq (tgt := 1890) dL_law__1143 (by decide) ?_ ?_
                                              · exact g_msk [true, true, true, true, true, false, false, false] (hJ1890 _ _ _ _ _)
                                              · refine g_iconst (v := (0 : Int32)) dL_law__1146 ki_0 ?_
                                                exact g_no
                                            · refine g_swc (k := 19) (tgt := 1148) dL_law__40 (by decide) kt_19 rfl (by decide) ?_ ?_
                                              · refine g_aload_n (i := 1) dL_law__1148 rfl rfl ?_
                                                refine g_callVI cl_X11 (crt_X11_splits _ _ _ _) cw_X11_splits (by decide) rfl q_509 q_510 q_511 rfl rfl dL_law__1149 ?_
                                                intro r138 m139
                                                refine g_aload_n (i := 2) dL_law__1152 rfl rfl ?_
                                                refine g_callVI cl_X12 (crt_X12_splits _ _ _ _) cw_X12_splits (by decide) rfl q_1829 q_1830 q_1831 rfl rfl dL_law__1153 ?_
                                                intro r140 m141
                                                refine g_icmpeq (tgt := 1890) dL_law__1156 (by decide) ?_ ?_
                                                · exact g_msk [true, true, true, true, true, false, false, false] (hJ1890 _ _ _ _ _)
                                                · refine g_iconst (v := (0 : Int32)) dL_law__1159 ki_0 ?_
                                                  exact g_no
                                              · refine g_swc (k := 20) (tgt := 1161) dL_law__40 (by decide) kt_20 rfl (by decide) ?_ ?_
                                                · refine g_aload_n (i := 1) dL_law__1161 rfl rfl ?_
                                                  refine g_callVI cl_X11 (crt_X11_tells _ _ _ _) cw_X11_tells (by decide) rfl q_517 q_518 q_519 rfl rfl dL_law__1162 ?_
                                                  intro r142 m143
                                                  refine g_aload_n (i := 2) dL_law__1165 rfl rfl ?_
                                                  refine g_callVI cl_X12 (crt_X12_tells _ _ _ _) cw_X12_tells (by decide) rfl q_1837 q_1838 q_1839 rfl rfl dL_law__1166 ?_
                                                  intro r144 m145
                                                  refine g_icmpeq (tgt := 1890) dL_law__1169 (by decide) ?_ ?_
                                                  · exact g_msk [true, true, true, true, true, false, false, false] (hJ1890 _ _ _ _ _)
                                                  · refine g_iconst (v := (0 : Int32)) dL_law__1172 ki_0 ?_
                                                    exact g_no
                                                · refine g_swc (k := 21) (tgt := 1174) dL_law__40 (by decide) kt_21 rfl (by decide) ?_ ?_
                                                  · refine g_aload_n (i := 1) dL_law__1174 rfl rfl ?_
                                                    refine g_aload_n (i := 0) dL_law__1175 rfl rfl ?_
                                                    refine g_iload dL_law__1176 rfl ?_
                                                    refine g_iconst (v := (1 : Int32)) dL_law__1178 ki_1 ?_
                                                    refine g_iadd dL_law__1179 ?_
                                                    refine g_sld hX dL_law__1180 ?_
                                                    refine g_aload_n (i := 3) dL_law__1181 rfl rfl ?_
                                                    refine g_callSW (n0 := 3) (hh := hh_L_next) (crt_L_next _ _ _ _ _ _) q_1236 q_0 (by decide +kernel) (by decide) rfl q_1234 q_1235 rfl rfl dL_law__1182 ?_
                                                    intro r146 m147
                                                    show GG Z _ _ 1185 _ [.int r146] m147 _
                                                    refine g_istore dL_law__1185 (show 5 < 8 by decide) ?_
                                                    intro x148
                                                    refine g_aload_n (i := 2) dL_law__1187 rfl rfl ?_
                                                    refine g_aload_n (i := 0) dL_law__1188 rfl rfl ?_
                                                    refine g_iload dL_law__1189 rfl ?_
                                                    refine g_iconst (v := (1 : Int32)) dL_law__1191 ki_1 ?_
                                                    refine g_iadd dL_law__1192 ?_
                                                    refine g_sld hX dL_law__1193 ?_
                                                    refine g_callVI cl_X12 (crt_X12_next _ _ _ _ _) cw_X12_next (by decide) rfl q_1845 q_1846 q_1847 rfl rfl dL_law__1194 ?_
                                                    intro r149 m150
                                                    refine g_istore dL_law__1197 (show 6 < 8 by decide) ?_
                                                    intro x151
                                                    refine g_aload_n (i := 2) dL_law__1199 rfl rfl ?_
                                                    refine g_callVI cl_X12 (crt_X12_thrown _ _ _ _) cw_X12_thrown (by decide) rfl q_1493 q_1494 q_1495 rfl rfl dL_law__1200 ?_
                                                    intro r152 m153
                                                    refine g_iload dL_law__1203 rfl ?_
                                                    refine g_icmpeq (tgt := 1210) dL_law__1205 (by decide) ?_ ?_
                                                    · refine g_iload dL_law__1210 rfl ?_
                                                      refine g_jn (fun J1227 => ∀ (v1 : Nat) (v2 : Nat) (v3 : Nat) (v4 : Int32) (m : Mm), GG Z M_L_law_ (PsL Z) 1227 [some (.ref (K9 + 998)), some (.ref v1), some (.ref v2), some (.ref v3), some (.int v4), none, none, none] [] m (J1227 v1 v2 v3 v4 m)) ?_ ?_
                                                      · intro v1 v2 v3 v4 m
                                                        refine g_goto (tgt := 1890) dL_law__1227 (by decide) ?_
                                                        exact g_msk [true, true, true, true, true, false, false, false] (hJ1890 _ _ _ _ _)
                                                      · intro J1227 hJ1227
                                                        refine g_ifne (tgt := 1227) dL_law__1212 (by decide) ?_ ?_
                                                        · exact g_msk [true, true, true, true, true, false, false, false] (hJ1227 _ _ _ _ _)
                                                        · refine g_aload_n (i := 3) dL_law__1215 rfl rfl ?_
                                                          refine g_iconst (v := (0 : Int32)) dL_law__1216 ki_0 ?_
                                                          refine g_laload dL_law__1217 ?_
                                                          refine g_iload dL_law__1218 rfl ?_
                                                          refine g_i2l dL_law__1220 ?_
                                                          refine g_lcmp dL_law__1221 ?_
                                                          refine g_ifeq (tgt := 1227) dL_law__1222 (by decide) ?_ ?_
                                                          · exact g_msk [true, true, true, true, true, false, false, false] (hJ1227 _ _ _ _ _)
                                                          · refine g_iconst (v := (0 : Int32)) dL_law__1225 ki_0 ?_
                                                            exact g_no
                                                    · refine g_iconst (v := (0 : Int32)) dL_law__1208 ki_0 ?_
                                                      exact g_no
                                                  · refine g_swc (k := 22) (tgt := 1230) dL_law__40 (by decide) kt_22 rfl (by decide) ?_ ?_
                                                    · refine g_aload_n (i := 1) dL_law__1230 rfl rfl ?_
                                                      refine g_aload_n (i := 0) dL_law__1231 rfl rfl ?_
                                                      refine g_iload dL_law__1232 rfl ?_
                                                      refine g_iconst (v := (1 : Int32)) dL_law__1234 ki_1 ?_
                                                      refine g_iadd dL_law__1235 ?_
                                                      refine g_sld hX dL_law__1236 ?_
                                                      refine g_aload_n (i := 0) dL_law__1237 rfl rfl ?_
                                                      refine g_iload dL_law__1238 rfl ?_
                                                      refine g_iconst (v := (2 : Int32)) dL_law__1240 ki_2 ?_
                                                      refine g_iadd dL_law__1241 ?_
                                                      refine g_sld hX dL_law__1242 ?_
                                                      refine g_aload_n (i := 3) dL_law__1243 rfl rfl ?_
                                                      refine g_callSW (n0 := 4) (hh := hh_L_held) (crt_L_held _ _ _ _ _ _ _) q_1244 q_0 (by decide +kernel) (by decide) rfl q_1242 q_1243 rfl rfl dL_law__1244 ?_
                                                      intro r154 m155
                                                      show GG Z _ _ 1247 _ [.int r154] m155 _
                                                      refine g_istore dL_law__1247 (show 5 < 8 by decide) ?_
                                                      intro x156
                                                      refine g_aload_n (i := 2) dL_law__1249 rfl rfl ?_
                                                      refine g_aload_n (i := 0) dL_law__1250 rfl rfl ?_
                                                      refine g_iload dL_law__1251 rfl ?_
                                                      refine g_iconst (v := (1 : Int32)) dL_law__1253 ki_1 ?_
                                                      refine g_iadd dL_law__1254 ?_
                                                      refine g_sld hX dL_law__1255 ?_
                                                      refine g_aload_n (i := 0) dL_law__1256 rfl rfl ?_
                                                      refine g_iload dL_law__1257 rfl ?_
                                                      refine g_iconst (v := (2 : Int32)) dL_law__1259 ki_2 ?_
                                                      refine g_iadd dL_law__1260 ?_
                                                      refine g_sld hX dL_law__1261 ?_
                                                      refine g_callVI cl_X12 (crt_X12_held _ _ _ _ _ _) cw_X12_held (by decide) rfl q_1849 q_1850 q_1851 rfl rfl dL_law__1262 ?_
                                                      intro r157 m158
                                                      refine g_istore dL_law__1265 (show 6 < 8 by decide) ?_
                                                      intro x159
                                                      refine g_aload_n (i := 2) dL_law__1267 rfl rfl ?_
                                                      refine g_callVI cl_X12 (crt_X12_thrown _ _ _ _) cw_X12_thrown (by decide) rfl q_1493 q_1494 q_1495 rfl rfl dL_law__1268 ?_
                                                      intro r160 m161
                                                      refine g_iload dL_law__1271 rfl ?_
                                                      refine g_icmpeq (tgt := 1278) dL_law__1273 (by decide) ?_ ?_
                                                      · refine g_iload dL_law__1278 rfl ?_
                                                        refine g_jn (fun J1295 => ∀ (v1 : Nat) (v2 : Nat) (v3 : Nat) (v4 : Int32) (m : Mm), GG Z M_L_law_ (PsL Z) 1295 [some (.ref (K9 + 998)), some (.ref v1), some (.ref v2), some (.ref v3), some (.int v4), none, none, none] [] m (J1295 v1 v2 v3 v4 m)) ?_ ?_
                                                        · intro v1 v2 v3 v4 m
                                                          refine g_goto (tgt := 1890) dL_law__1295 (by decide) ?_
                                                          exact g_msk [true, true, true, true, true, false, false, false] (hJ1890 _ _ _ _ _)
                                                        · intro J1295 hJ1295
                                                          refine g_ifne (tgt := 1295) dL_law__1280 (by decide) ?_ ?_
                                                          · exact g_msk [true, true, true, true, true, false, false, false] (hJ1295 _ _ _ _ _)
                                                          · refine g_aload_n (i := 3) dL_law__1283 rfl rfl ?_
                                                            refine g_iconst (v := (0 : Int32)) dL_law__1284 ki_0 ?_
                                                            refine g_laload dL_law__1285 ?_
                                                            refine g_iload dL_law__1286 rfl ?_
                                                            refine g_i2l dL_law__1288 ?_
                                                            refine g_lcmp dL_law__1289 ?_
                                                            refine g_ifeq (tgt := 1295) dL_law__1290 (by decide) ?_ ?_
                                                            · exact g_msk [true, true, true, true, true, false, false, false] (hJ1295 _ _ _ _ _)
                                                            · refine g_iconst (v := (0 : Int32)) dL_law__1293 ki_0 ?_
                                                              exact g_no
                                                      · refine g_iconst (v := (0 : Int32)) dL_law__1276 ki_0 ?_
                                                        exact g_no
                                                    · refine g_swc (k := 23) (tgt := 1298) dL_law__40 (by decide) kt_23 rfl (by decide) ?_ ?_
                                                      · refine g_aload_n (i := 1) dL_law__1298 rfl rfl ?_
                                                        refine g_callVI cl_X11 (crt_X11_agree _ _ _ _) cw_X11_agree (by decide) rfl q_538 q_539 q_540 rfl rfl dL_law__1299 ?_
                                                        intro r162 m163
                                                        refine g_aload_n (i := 2) dL_law__1302 rfl rfl ?_
                                                        refine g_callVI cl_X12 (crt_X12_agree _ _ _ _) cw_X12_agree (by decide) rfl q_1853 q_1854 q_1855 rfl rfl dL_law__1303 ?_
                                                        intro r164 m165
                                                        refine g_icmpeq (tgt := 1890) dL_law__1306 (by decide) ?_ ?_
                                                        · exact g_msk [true, true, true, true, true, false, false, false] (hJ1890 _ _ _ _ _)
                                                        · refine g_iconst (v := (0 : Int32)) dL_law__1309 ki_0 ?_
                                                          exact g_no
                                                      · refine g_swc (k := 24) (tgt := 1311) dL_law__40 (by decide) kt_24 rfl (by decide) ?_ ?_
                                                        · refine g_aload_n (i := 1) dL_law__1311 rfl rfl ?_
                                                          refine g_aload_n (i := 0) dL_law__1312 rfl rfl ?_
                                                          refine g_iload dL_law__1313 rfl ?_
                                                          refine g_iconst (v := (1 : Int32)) dL_law__1315 ki_1 ?_
                                                          refine g_iadd dL_law__1316 ?_
                                                          refine g_sld hX dL_law__1317 ?_
                                                          refine g_aload_n (i := 3) dL_law__1318 rfl rfl ?_
                                                          refine g_callSW (n0 := 3) (hh := hh_L_fits) (crt_L_fits _ _ _ _ _ _) q_1251 q_0 (by decide +kernel) (by decide) rfl q_1249 q_1250 rfl rfl dL_law__1319 ?_
                                                          intro r166 m167
                                                          show GG Z _ _ 1322 _ [.int r166] m167 _
                                                          refine g_istore dL_law__1322 (show 5 < 8 by decide) ?_
                                                          intro x168
                                                          refine g_aload_n (i := 2) dL_law__1324 rfl rfl ?_
                                                          refine g_aload_n (i := 0) dL_law__1325 rfl rfl ?_
                                                          refine g_iload dL_law__1326 rfl ?_
                                                          refine g_iconst (v := (1 : Int32)) dL_law__1328 ki_1 ?_
                                                          refine g_iadd dL_law__1329 ?_
                                                          refine g_sld hX dL_law__1330 ?_
                                                          refine g_callVI cl_X12 (crt_X12_fits _ _ _ _ _) cw_X12_fits (by decide) rfl q_1861 q_1862 q_1863 rfl rfl dL_law__1331 ?_
                                                          intro r169 m170
                                                          refine g_istore dL_law__1334 (show 6 < 8 by decide) ?_
                                                          intro x171
                                                          refine g_aload_n (i := 2) dL_law__1336 rfl rfl ?_
                                                          refine g_callVI cl_X12 (crt_X12_thrown _ _ _ _) cw_X12_thrown (by decide) rfl q_1493 q_1494 q_1495 rfl rfl dL_law__1337 ?_
                                                          intro r172 m173
                                                          refine g_iload dL_law__1340 rfl ?_
                                                          refine g_icmpeq (tgt := 1347) dL_law__1342 (by decide) ?_ ?_
                                                          · refine g_iload dL_law__1347 rfl ?_
                                                            refine g_jn (fun J1364 => ∀ (v1 : Nat) (v2 : Nat) (v3 : Nat) (v4 : Int32) (m : Mm), GG Z M_L_law_ (PsL Z) 1364 [some (.ref (K9 + 998)), some (.ref v1), some (.ref v2), some (.ref v3), some (.int v4), none, none, none] [] m (J1364 v1 v2 v3 v4 m)) ?_ ?_
                                                            · intro v1 v2 v3 v4 m
                                                              refine g_goto (tgt := 1890) dL_law__1364 (by decide) ?_
                                                              exact g_msk [true, true, true, true, true, false, false, false] (hJ1890 _ _ _ _ _)
                                                            · intro J1364 hJ1364
                                                              refine g_ifne (tgt := 1364) dL_law__1349 (by decide) ?_ ?_
                                                              · exact g_msk [true, true, true, true, true, false, false, false] (hJ1364 _ _ _ _ _)
                                                              · refine g_aload_n (i := 3) dL_law__1352 rfl rfl ?_
                                                                refine g_iconst (v := (0 : Int32)) dL_law__1353 ki_0 ?_
                                                                refine g_laload dL_law__1354 ?_
                                                                refine g_iload dL_law__1355 rfl ?_
                                                                refine g_i2l dL_law__1357 ?_
                                                                refine g_lcmp dL_law__1358 ?_
                                                                refine g_ifeq (tgt := 1364) dL_law__1359 (by decide) ?_ ?_
                                                                · exact g_msk [true, true, true, true, true, false, false, false] (hJ1364 _ _ _ _ _)
                                                                · refine g_iconst (v := (0 : Int32)) dL_law__1362 ki_0 ?_
                                                                  exact g_no
                                                          · refine g_iconst (v := (0 : Int32)) dL_law__1345 ki_0 ?_
                                                            exact g_no
                                                        · refine g_swc (k := 25) (tgt := 1367) dL_law__40 (by decide) kt_25 rfl (by decide) ?_ ?_
                                                          · refine g_aload_n (i := 1) dL_law__1367 rfl rfl ?_
                                                            refine g_aload_n (i := 0) dL_law__1368 rfl rfl ?_
                                                            refine g_iload dL_law__1369 rfl ?_
                                                            refine g_iconst (v := (1 : Int32)) dL_law__1371 ki_1 ?_
                                                            refine g_iadd dL_law__1372 ?_
                                                            refine g_sld hX dL_law__1373 ?_
                                                            refine g_aload_n (i := 3) dL_law__1374 rfl rfl ?_
                                                            refine g_callSW (n0 := 3) (hh := hh_L_look) (crt_L_look _ _ _ _ _ _) q_1270 q_0 (by decide +kernel) (by decide) rfl q_1268 q_1269 rfl rfl dL_law__1375 ?_
                                                            intro r174 m175
                                                            show GG Z _ _ 1378 _ [.int r174] m175 _
                                                            refine g_istore dL_law__1378 (show 5 < 8 by decide) ?_
                                                            intro x176
                                                            refine g_aload_n (i := 2) dL_law__1380 rfl rfl ?_
                                                            refine g_aload_n (i := 0) dL_law__1381 rfl rfl ?_
                                                            refine g_iload dL_law__1382 rfl ?_
                                                            refine g_iconst (v := (1 : Int32)) dL_law__1384 ki_1 ?_
                                                            refine g_iadd dL_law__1385 ?_
                                                            refine g_sld hX dL_law__1386 ?_
                                                            refine g_callVI cl_X12 (crt_X12_look _ _ _ _ _) cw_X12_look (by decide) rfl q_1869 q_1870 q_1871 rfl rfl dL_law__1387 ?_
                                                            intro r177 m178
                                                            refine g_istore dL_law__1390 (show 6 < 8 by decide) ?_
                                                            intro x179
                                                            refine g_aload_n (i := 2) dL_law__1392 rfl rfl ?_
                                                            refine g_callVI cl_X12 (crt_X12_thrown _ _ _ _) cw_X12_thrown (by decide) rfl q_1493 q_1494 q_1495 rfl rfl dL_law__1393 ?_
                                                            intro r180 m181
                                                            refine g_iload dL_law__1396 rfl ?_
                                                            refine g_icmpeq (tgt := 1403) dL_law__1398 (by decide) ?_ ?_
                                                            · refine g_iload dL_law__1403 rfl ?_
                                                              refine g_jn (fun J1420 => ∀ (v1 : Nat) (v2 : Nat) (v3 : Nat) (v4 : Int32) (m : Mm), GG Z M_L_law_ (PsL Z) 1420 [some (.ref (K9 + 998)), some (.ref v1), some (.ref v2), some (.ref v3), some (.int v4), none, none, none] [] m (J1420 v1 v2 v3 v4 m)) ?_ ?_
                                                              · intro v1 v2 v3 v4 m
                                                                refine g_goto (tgt := 1890) dL_law__1420 (by decide) ?_
                                                                exact g_msk [true, true, true, true, true, false, false, false] (hJ1890 _ _ _ _ _)
                                                              · intro J1420 hJ1420
                                                                refine g_ifne (tgt := 1420) dL_law__1405 (by decide) ?_ ?_
                                                                · exact g_msk [true, true, true, true, true, false, false, false] (hJ1420 _ _ _ _ _)
                                                                · refine g_aload_n (i := 3) dL_law__1408 rfl rfl ?_
                                                                  refine g_iconst (v := (0 : Int32)) dL_law__1409 ki_0 ?_
                                                                  refine g_laload dL_law__1410 ?_
                                                                  refine g_iload dL_law__1411 rfl ?_
                                                                  refine g_i2l dL_law__1413 ?_
                                                                  refine g_lcmp dL_law__1414 ?_
                                                                  refine g_ifeq (tgt := 1420) dL_law__1415 (by decide) ?_ ?_
                                                                  · exact g_msk [true, true, true, true, true, false, false, false] (hJ1420 _ _ _ _ _)
                                                                  · refine g_iconst (v := (0 : Int32)) dL_law__1418 ki_0 ?_
                                                                    exact g_no
                                                            · refine g_iconst (v := (0 : Int32)) dL_law__1401 ki_0 ?_
                                                              exact g_no
                                                          · refine g_swc (k := 26) (tgt := 1423) dL_law__40 (by decide) kt_26 rfl (by decide) ?_ ?_
                                                            · refine g_aload_n (i := 1) dL_law__1423 rfl rfl ?_
                                                              refine g_callVI cl_X11 (crt_X11_note _ _ _ _) cw_X11_note (by decide) rfl q_566 q_567 q_568 rfl rfl dL_law__1424 ?_
                                                              intro r182 m183
                                                              refine g_aload_n (i := 2) dL_law__1427 rfl rfl ?_
                                                              refine g_callVI cl_X12 (crt_X12_note _ _ _ _) cw_X12_note (by decide) rfl q_1881 q_1882 q_1883 rfl rfl dL_law__1428 ?_
                                                              intro r184 m185
                                                              refine g_icmpeq (tgt := 1890) dL_law__1431 (by decide) ?_ ?_
                                                              · exact g_msk [true, true, true, true, true, false, false, false] (hJ1890 _ _ _ _ _)
                                                              · refine g_iconst (v := (0 : Int32)) dL_law__1434 ki_0 ?_
                                                                exact g_no
                                                            · refine g_swc (k := 27) (tgt := 1436) dL_law__40 (by decide) kt_27 rfl (by decide) ?_ ?_
                                                              · refine g_aload_n (i := 1) dL_law__1436 rfl rfl ?_
                                                                refine g_aload_n (i := 0) dL_law__1437 rfl rfl ?_
                                                                refine g_iload dL_law__1438 rfl ?_
                                                                refine g_iconst (v := (1 : Int32)) dL_law__1440 ki_1 ?_
                                                                refine g_iadd dL_law__1441 ?_
                                                                refine g_sld hX dL_law__1442 ?_
                                                                refine g_aload_n (i := 3) dL_law__1443 rfl rfl ?_
                                                                refine g_callSW (n0 := 3) (hh := hh_L_spelt) (crt_L_spelt _ _ _ _ _ _) q_1287 q_0 (by decide +kernel) (by decide) rfl q_1285 q_1286 rfl rfl dL_law__1444 ?_
                                                                intro r186 m187
                                                                show GG Z _ _ 1447 _ [.int r186] m187 _
                                                                refine g_istore dL_law__1447 (show 5 < 8 by decide) ?_
                                                                intro x188
                                                                refine g_aload_n (i := 2) dL_law__1449 rfl rfl ?_
                                                                refine g_aload_n (i := 0) dL_law__1450 rfl rfl ?_
                                                                refine g_iload dL_law__1451 rfl ?_
                                                                refine g_iconst (v := (1 : Int32)) dL_law__1453 ki_1 ?_
                                                                refine g_iadd dL_law__1454 ?_
                                                                refine g_sld hX dL_law__1455 ?_
                                                                refine g_callVI cl_X12 (crt_X12_spelt _ _ _ _ _) cw_X12_spelt (by decide) rfl q_1897 q_1898 q_1899 rfl rfl dL_law__1456 ?_
                                                                intro r189 m190
                                                                refine g_istore dL_law__1459 (show 6 < 8 by decide) ?_
                                                                intro x191
                                                                refine g_aload_n (i := 2) dL_law__1461 rfl rfl ?_
                                                                refine g_callVI cl_X12 (crt_X12_thrown _ _ _ _) cw_X12_thrown (by decide) rfl q_1493 q_1494 q_1495 rfl rfl dL_law__1462 ?_
                                                                intro r192 m193
                                                                refine g_iload dL_law__1465 rfl ?_
                                                                refine g_icmpeq (tgt := 1472) dL_law__1467 (by decide) ?_ ?_
                                                                · refine g_iload dL_law__1472 rfl ?_
                                                                  refine g_jn (fun J1489 => ∀ (v1 : Nat) (v2 : Nat) (v3 : Nat) (v4 : Int32) (m : Mm), GG Z M_L_law_ (PsL Z) 1489 [some (.ref (K9 + 998)), some (.ref v1), some (.ref v2), some (.ref v3), some (.int v4), none, none, none] [] m (J1489 v1 v2 v3 v4 m)) ?_ ?_
                                                                  · intro v1 v2 v3 v4 m
                                                                    refine g_goto (tgt := 1890) dL_law__1489 (by decide) ?_
                                                                    exact g_msk [true, true, true, true, true, false, false, false] (hJ1890 _ _ _ _ _)
                                                                  · intro J1489 hJ1489
                                                                    refine g_ifne (tgt := 1489) dL_law__1474 (by decide) ?_ ?_
                                                                    · exact g_msk [true, true, true, true, true, false, false, false] (hJ1489 _ _ _ _ _)
                                                                    · refine g_aload_n (i := 3) dL_law__1477 rfl rfl ?_
                                                                      refine g_iconst (v := (0 : Int32)) dL_law__1478 ki_0 ?_
                                                                      refine g_laload dL_law__1479 ?_
                                                                      refine g_iload dL_law__1480 rfl ?_
                                                                      refine g_i2l dL_law__1482 ?_
                                                                      refine g_lcmp dL_law__1483 ?_
                                                                      refine g_ifeq (tgt := 1489) dL_law__1484 (by decide) ?_ ?_
                                                                      · exact g_msk [true, true, true, true, true, false, false, false] (hJ1489 _ _ _ _ _)
                                                                      · refine g_iconst (v := (0 : Int32)) dL_law__1487 ki_0 ?_
                                                                        exact g_no
                                                                · refine g_iconst (v := (0 : Int32)) dL_law__1470 ki_0 ?_
                                                                  exact g_no
                                                              · refine g_swc (k := 28) (tgt := 1492) dL_law__40 (by decide) kt_28 rfl (by decide) ?_ ?_
                                                                · refine g_aload_n (i := 1) dL_law__1492 rfl rfl ?_
                                                                  refine g_aload_n (i := 0) dL_law__1493 rfl rfl ?_
                                                                  refine g_iload dL_law__1494 rfl ?_
                                                                  refine g_iconst (v := (1 : Int32)) dL_law__1496 ki_1 ?_
                                                                  refine g_iadd dL_law__1497 ?_
                                                                  refine g_sld hX dL_law__1498 ?_
                                                                  refine g_aload_n (i := 3) dL_law__1499 rfl rfl ?_
                                                                  refine g_callSW (n0 := 3) (hh := hh_L_lore) (crt_L_lore _ _ _ _ _ _) q_1298 q_0 (by decide +kernel) (by decide) rfl q_1296 q_1297 rfl rfl dL_law__1500 ?_
                                                                  intro r194 m195
                                                                  show GG Z _ _ 1503 _ [.int r194] m195 _
                                                                  refine g_istore dL_law__1503 (show 5 < 8 by decide) ?_
                                                                  intro x196
                                                                  refine g_aload_n (i := 2) dL_law__1505 rfl rfl ?_
                                                                  refine g_aload_n (i := 0) dL_law__1506 rfl rfl ?_
                                                                  refine g_iload dL_law__1507 rfl ?_
                                                                  refine g_iconst (v := (1 : Int32)) dL_law__1509 ki_1 ?_
                                                                  refine g_iadd dL_law__1510 ?_
                                                                  refine g_sld hX dL_law__1511 ?_
                                                                  refine g_callVI cl_X12 (crt_X12_lore _ _ _ _ _) cw_X12_lore (by decide) rfl q_1901 q_1902 q_1903 rfl rfl dL_law__1512 ?_
                                                                  intro r197 m198
                                                                  refine g_istore dL_law__1515 (show 6 < 8 by decide) ?_
                                                                  intro x199
                                                                  refine g_aload_n (i := 2) dL_law__1517 rfl rfl ?_
                                                                  refine g_callVI cl_X12 (crt_X12_thrown _ _ _ _) cw_X12_thrown (by decide) rfl q_1493 q_1494 q_1495 rfl rfl dL_law__1518 ?_
                                                                  intro r200 m201
                                                                  refine g_iload dL_law__1521 rfl ?_
                                                                  refine g_icmpeq (tgt := 1528) dL_law__1523 (by decide) ?_ ?_
                                                                  · refine g_iload dL_law__1528 rfl ?_
                                                                    refine g_jn (fun J1545 => ∀ (v1 : Nat) (v2 : Nat) (v3 : Nat) (v4 : Int32) (m : Mm), GG Z M_L_law_ (PsL Z) 1545 [some (.ref (K9 + 998)), some (.ref v1), some (.ref v2), some (.ref v3), some (.int v4), none, none, none] [] m (J1545 v1 v2 v3 v4 m)) ?_ ?_
                                                                    · intro v1 v2 v3 v4 m
                                                                      refine g_goto (tgt := 1890) dL_law__1545 (by decide) ?_
                                                                      exact g_msk [true, true, true, true, true, false, false, false] (hJ1890 _ _ _ _ _)
                                                                    · intro J1545 hJ1545
                                                                      refine g_ifne (tgt := 1545) dL_law__1530 (by decide) ?_ ?_
                                                                      · exact g_msk [true, true, true, true, true, false, false, false] (hJ1545 _ _ _ _ _)
                                                                      · refine g_aload_n (i := 3) dL_law__1533 rfl rfl ?_
                                                                        refine g_iconst (v := (0 : Int32)) dL_law__1534 ki_0 ?_
                                                                        refine g_laload dL_law__1535 ?_
                                                                        refine g_iload dL_law__1536 rfl ?_
                                                                        refine g_i2l dL_law__1538 ?_
                                                                        refine g_lcmp dL_law__1539 ?_
                                                                        refine g_ifeq (tgt := 1545) dL_law__1540 (by decide) ?_ ?_
                                                                        · exact g_msk [true, true, true, true, true, false, false, false] (hJ1545 _ _ _ _ _)
                                                                        · refine g_iconst (v := (0 : Int32)) dL_law__1543 ki_0 ?_
                                                                          exact g_no
                                                                  · refine g_iconst (v := (0 : Int32)) dL_law__1526 ki_0 ?_
                                                                    exact g_no
                                                                · refine g_swc (k := 29) (tgt := 1548) dL_law__40 (by decide) kt_29 rfl (by decide) ?_ ?_
                                                                  · refine g_aload_n (i := 1) dL_law__1548 rfl rfl ?_
                                                                    refine g_aload_n (i := 0) dL_law__1549 rfl rfl ?_
                                                                    refine g_iload dL_law__1550 rfl ?_
                                                                    refine g_iconst (v := (1 : Int32)) dL_law__1552 ki_1 ?_
                                                                    refine g_iadd dL_law__1553 ?_
                                                                    refine g_sld hX dL_law__1554 ?_
                                                                    refine g_aload_n (i := 3) dL_law__1555 rfl rfl ?_
                                                                    refine g_callSW (n0 := 3) (hh := hh_L_behind) (crt_L_behind _ _ _ _ _ _) q_1309 q_0 (by decide +kernel) (by decide) rfl q_1307 q_1308 rfl rfl dL_law__1556 ?_
                                                                    intro r202 m203
                                                                    show GG Z _ _ 1559 _ [.int r202] m203 _
                                                                    refine g_istore dL_law__1559 (show 5 < 8 by decide) ?_
                                                                    intro x204
                                                                    refine g_aload_n (i := 2) dL_law__1561 rfl rfl ?_
                                                                    refine g_aload_n (i := 0) dL_law__1562 rfl rfl ?_
                                                                    refine g_iload dL_law__1563 rfl ?_
                                                                    refine g_iconst (v := (1 : Int32)) dL_law__1565 ki_1 ?_
                                                                    refine g_iadd dL_law__1566 ?_
                                                                    refine g_sld hX dL_law__1567 ?_
                                                                    refine g_callVI cl_X12 (crt_X12_behind _ _ _ _ _) cw_X12_behind (by decide) rfl q_1905 q_1906 q_1907 rfl rfl dL_law__1568 ?_
                                                                    intro r205 m206
                                                                    refine g_istore dL_law__1571 (show 6 < 8 by decide) ?_
                                                                    intro x207
                                                                    refine g_aload_n (i := 2) dL_law__1573 rfl rfl ?_
                                                                    refine g_callVI cl_X12 (crt_X12_thrown _ _ _ _) cw_X12_thrown (by decide) rfl q_1493 q_1494 q_1495 rfl rfl dL_law__1574 ?_
                                                                    intro r208 m209
                                                                    refine g_iload dL_law__1577 rfl ?_
                                                                    refine g_icmpeq (tgt := 1584) dL_law__1579 (by decide) ?_ ?_
                                                                    · refine g_iload dL_law__1584 rfl ?_
                                                                      refine g_jn (fun J1601 => ∀ (v1 : Nat) (v2 : Nat) (v3 : Nat) (v4 : Int32) (m : Mm), GG Z M_L_law_ (PsL Z) 1601 [some (.ref (K9 + 998)), some (.ref v1), some (.ref v2), some (.ref v3), some (.int v4), none, none, none] [] m (J1601 v1 v2 v3 v4 m)) ?_ ?_
                                                                      · intro v1 v2 v3 v4 m
                                                                        refine g_goto (tgt := 1890) dL_law__1601 (by decide) ?_
                                                                        exact g_msk [true, true, true, true, true, false, false, false] (hJ1890 _ _ _ _ _)
                                                                      · intro J1601 hJ1601
                                                                        refine g_ifne (tgt := 1601) dL_law__1586 (by decide) ?_ ?_
                                                                        · exact g_msk [true, true, true, true, true, false, false, false] (hJ1601 _ _ _ _ _)
                                                                        · refine g_aload_n (i := 3) dL_law__1589 rfl rfl ?_
                                                                          refine g_iconst (v := (0 : Int32)) dL_law__1590 ki_0 ?_
                                                                          refine g_laload dL_law__1591 ?_
                                                                          refine g_iload dL_law__1592 rfl ?_
                                                                          refine g_i2l dL_law__1594 ?_
                                                                          refine g_lcmp dL_law__1595 ?_
                                                                          refine g_ifeq (tgt := 1601) dL_law__1596 (by decide) ?_ ?_
                                                                          · exact g_msk [true, true, true, true, true, false, false, false] (hJ1601 _ _ _ _ _)
                                                                          · refine g_iconst (v := (0 : Int32)) dL_law__1599 ki_0 ?_
                                                                            exact g_no
                                                                    · refine g_iconst (v := (0 : Int32)) dL_law__1582 ki_0 ?_
                                                                      exact g_no
                                                                  · refine g_swc (k := 30) (tgt := 1604) dL_law__40 (by decide) kt_30 rfl (by decide) ?_ ?_
                                                                    · refine g_aload_n (i := 1) dL_law__1604 rfl rfl ?_
                                                                      refine g_aload_n (i := 0) dL_law__1605 rfl rfl ?_
                                                                      refine g_iload dL_law__1606 rfl ?_
                                                                      refine g_iconst (v := (1 : Int32)) dL_law__1608 ki_1 ?_
                                                                      refine g_iadd dL_law__1609 ?_
                                                                      refine g_sld hX dL_law__1610 ?_
                                                                      refine g_aload_n (i := 0) dL_law__1611 rfl rfl ?_
                                                                      refine g_iload dL_law__1612 rfl ?_
                                                                      refine g_iconst (v := (2 : Int32)) dL_law__1614 ki_2 ?_
                                                                      refine g_iadd dL_law__1615 ?_
                                                                      refine g_sld hX dL_law__1616 ?_
                                                                      refine g_aload_n (i := 0) dL_law__1617 rfl rfl ?_
                                                                      refine g_iload dL_law__1618 rfl ?_
                                                                      refine g_iconst (v := (3 : Int32)) dL_law__1620 ki_3 ?_
                                                                      refine g_iadd dL_law__1621 ?_
                                                                      refine g_sld hX dL_law__1622 ?_
                                                                      refine g_aload_n (i := 0) dL_law__1623 rfl rfl ?_
                                                                      refine g_iload dL_law__1624 rfl ?_
                                                                      refine g_iconst (v := (4 : Int32)) dL_law__1626 ki_4 ?_
                                                                      refine g_iadd dL_law__1627 ?_
                                                                      refine g_sld hX dL_law__1628 ?_
                                                                      refine g_aload_n (i := 3) dL_law__1629 rfl rfl ?_
                                                                      refine g_callSW (n0 := 6) (hh := hh_L_storm) (crt_L_storm _ _ _ _ _ _ _ _ _) q_1320 q_0 (by decide +kernel) (by decide) rfl q_1318 q_1319 rfl rfl dL_law__1630 ?_
                                                                      intro r210 m211
                                                                      show GG Z _ _ 1633 _ [.int r210] m211 _
                                                                      refine g_istore dL_law__1633 (show 5 < 8 by decide) ?_
                                                                      intro x212
                                                                      refine g_aload_n (i := 2) dL_law__1635 rfl rfl ?_
                                                                      refine g_aload_n (i := 0) dL_law__1636 rfl rfl ?_
                                                                      refine g_iload dL_law__1637 rfl ?_
                                                                      refine g_iconst (v := (1 : Int32)) dL_law__1639 ki_1 ?_
                                                                      refine g_iadd dL_law__1640 ?_
                                                                      refine g_sld hX dL_law__1641 ?_
                                                                      refine g_aload_n (i := 0) dL_law__1642 rfl rfl ?_
                                                                      refine g_iload dL_law__1643 rfl ?_
                                                                      refine g_iconst (v := (2 : Int32)) dL_law__1645 ki_2 ?_
                                                                      refine g_iadd dL_law__1646 ?_
                                                                      refine g_sld hX dL_law__1647 ?_
                                                                      refine g_aload_n (i := 0) dL_law__1648 rfl rfl ?_
                                                                      refine g_iload dL_law__1649 rfl ?_
                                                                      refine g_iconst (v := (3 : Int32)) dL_law__1651 ki_3 ?_
                                                                      refine g_iadd dL_law__1652 ?_
                                                                      refine g_sld hX dL_law__1653 ?_
                                                                      refine g_aload_n (i := 0) dL_law__1654 rfl rfl ?_
                                                                      refine g_iload dL_law__1655 rfl ?_
                                                                      refine g_iconst (v := (4 : Int32)) dL_law__1657 ki_4 ?_
                                                                      refine g_iadd dL_law__1658 ?_
                                                                      refine g_sld hX dL_law__1659 ?_
                                                                      refine g_callVI cl_X12 (crt_X12_storm _ _ _ _ _ _ _ _) cw_X12_storm (by decide) rfl q_1909 q_1910 q_1911 rfl rfl dL_law__1660 ?_
                                                                      intro r213 m214
                                                                      refine g_istore dL_law__1663 (show 6 < 8 by decide) ?_
                                                                      intro x215
                                                                      refine g_aload_n (i := 2) dL_law__1665 rfl rfl ?_
                                                                      refine g_callVI cl_X12 (crt_X12_thrown _ _ _ _) cw_X12_thrown (by decide) rfl q_1493 q_1494 q_1495 rfl rfl dL_law__1666 ?_
                                                                      intro r216 m217
                                                                      refine g_iload dL_law__1669 rfl ?_
                                                                      refine g_icmpeq (tgt := 1676) dL_law__1671 (by decide) ?_ ?_
                                                                      · refine g_iload dL_law__1676 rfl ?_
                                                                        refine g_jn (fun J1693 => ∀ (v1 : Nat) (v2 : Nat) (v3 : Nat) (v4 : Int32) (m : Mm), GG Z M_L_law_ (PsL Z) 1693 [some (.ref (K9 + 998)), some (.ref v1), some (.ref v2), some (.ref v3), some (.int v4), none, none, none] [] m (J1693 v1 v2 v3 v4 m)) ?_ ?_
                                                                        · intro v1 v2 v3 v4 m
                                                                          refine g_goto (tgt := 1890) dL_law__1693 (by decide) ?_
                                                                          exact g_msk [true, true, true, true, true, false, false, false] (hJ1890 _ _ _ _ _)
                                                                        · intro J1693 hJ1693
                                                                          refine g_ifne (tgt := 1693) dL_law__1678 (by decide) ?_ ?_
                                                                          · exact g_msk [true, true, true, true, true, false, false, false] (hJ1693 _ _ _ _ _)
                                                                          · refine g_aload_n (i := 3) dL_law__1681 rfl rfl ?_
                                                                            refine g_iconst (v := (0 : Int32)) dL_law__1682 ki_0 ?_
                                                                            refine g_laload dL_law__1683 ?_
                                                                            refine g_iload dL_law__1684 rfl ?_
                                                                            refine g_i2l dL_law__1686 ?_
                                                                            refine g_lcmp dL_law__1687 ?_
                                                                            refine g_ifeq (tgt := 1693) dL_law__1688 (by decide) ?_ ?_
                                                                            · exact g_msk [true, true, true, true, true, false, false, false] (hJ1693 _ _ _ _ _)
                                                                            · refine g_iconst (v := (0 : Int32)) dL_law__1691 ki_0 ?_
                                                                              exact g_no
                                                                      · refine g_iconst (v := (0 : Int32)) dL_law__1674 ki_0 ?_
                                                                        exact g_no
                                                                    · refine g_swc (k := 31) (tgt := 1696) dL_law__40 (by decide) kt_31 rfl (by decide) ?_ ?_
                                                                      · refine g_aload_n (i := 1) dL_law__1696 rfl rfl ?_
                                                                        refine g_aload_n (i := 0) dL_law__1697 rfl rfl ?_
                                                                        refine g_iload dL_law__1698 rfl ?_
                                                                        refine g_iconst (v := (1 : Int32)) dL_law__1700 ki_1 ?_
                                                                        refine g_iadd dL_law__1701 ?_
                                                                        refine g_sld hX dL_law__1702 ?_
                                                                        refine g_aload_n (i := 0) dL_law__1703 rfl rfl ?_
                                                                        refine g_iload dL_law__1704 rfl ?_
                                                                        refine g_iconst (v := (2 : Int32)) dL_law__1706 ki_2 ?_
                                                                        refine g_iadd dL_law__1707 ?_
                                                                        refine g_sld hX dL_law__1708 ?_
                                                                        refine g_aload_n (i := 0) dL_law__1709 rfl rfl ?_
                                                                        refine g_iload dL_law__1710 rfl ?_
                                                                        refine g_iconst (v := (3 : Int32)) dL_law__1712 ki_3 ?_
                                                                        refine g_iadd dL_law__1713 ?_
                                                                        refine g_sld hX dL_law__1714 ?_
                                                                        refine g_aload_n (i := 0) dL_law__1715 rfl rfl ?_
                                                                        refine g_iload dL_law__1716 rfl ?_
                                                                        refine g_iconst (v := (4 : Int32)) dL_law__1718 ki_4 ?_
                                                                        refine g_iadd dL_law__1719 ?_
                                                                        refine g_sld hX dL_law__1720 ?_
                                                                        refine g_aload_n (i := 0) dL_law__1721 rfl rfl ?_
                                                                        refine g_iload dL_law__1722 rfl ?_
                                                                        refine g_iconst (v := (5 : Int32)) dL_law__1724 ki_5 ?_
                                                                        refine g_iadd dL_law__1725 ?_
                                                                        refine g_sld hX dL_law__1726 ?_
                                                                        refine g_aload_n (i := 0) dL_law__1727 rfl rfl ?_
                                                                        refine g_iload dL_law__1728 rfl ?_
                                                                        refine g_bipush (v := (6 : Int32)) dL_law__1730 kb_6 ?_
                                                                        refine g_iadd dL_law__1732 ?_
                                                                        refine g_sld hX dL_law__1733 ?_
                                                                        refine g_aload_n (i := 3) dL_law__1734 rfl rfl ?_
                                                                        refine g_callSW (n0 := 8) (hh := hh_L_span) (crt_L_span _ _ _ _ _ _ _ _ _ _ _) q_1356 q_0 (by decide +kernel) (by decide) rfl q_1354 q_1355 rfl rfl dL_law__1735 ?_
                                                                        intro r218 m219
                                                                        show GG Z _ _ 1738 _ [.int r218] m219 _
                                                                        refine g_istore dL_law__1738 (show 5 < 8 by decide) ?_
                                                                        intro x220
                                                                        refine g_aload_n (i := 2) dL_law__1740 rfl rfl ?_
                                                                        refine g_aload_n (i := 0) dL_law__1741 rfl rfl ?_
                                                                        refine g_iload dL_law__1742 rfl ?_
                                                                        refine g_iconst (v := (1 : Int32)) dL_law__1744 ki_1 ?_
                                                                        refine g_iadd dL_law__1745 ?_
                                                                        refine g_sld hX dL_law__1746 ?_
                                                                        refine g_aload_n (i := 0) dL_law__1747 rfl rfl ?_
                                                                        refine g_iload dL_law__1748 rfl ?_
                                                                        refine g_iconst (v := (2 : Int32)) dL_law__1750 ki_2 ?_
                                                                        refine g_iadd dL_law__1751 ?_
                                                                        refine g_sld hX dL_law__1752 ?_
                                                                        refine g_aload_n (i := 0) dL_law__1753 rfl rfl ?_
                                                                        refine g_iload dL_law__1754 rfl ?_
                                                                        refine g_iconst (v := (3 : Int32)) dL_law__1756 ki_3 ?_
                                                                        refine g_iadd dL_law__1757 ?_
                                                                        refine g_sld hX dL_law__1758 ?_
                                                                        refine g_aload_n (i := 0) dL_law__1759 rfl rfl ?_
                                                                        refine g_iload dL_law__1760 rfl ?_
                                                                        refine g_iconst (v := (4 : Int32)) dL_law__1762 ki_4 ?_
                                                                        refine g_iadd dL_law__1763 ?_
                                                                        refine g_sld hX dL_law__1764 ?_
                                                                        refine g_aload_n (i := 0) dL_law__1765 rfl rfl ?_
                                                                        refine g_iload dL_law__1766 rfl ?_
                                                                        refine g_iconst (v := (5 : Int32)) dL_law__1768 ki_5 ?_
                                                                        refine g_iadd dL_law__1769 ?_
                                                                        refine g_sld hX dL_law__1770 ?_
                                                                        refine g_aload_n (i := 0) dL_law__1771 rfl rfl ?_
                                                                        refine g_iload dL_law__1772 rfl ?_
                                                                        refine g_bipush (v := (6 : Int32)) dL_law__1774 kb_6 ?_
                                                                        refine g_iadd dL_law__1776 ?_
                                                                        refine g_sld hX dL_law__1777 ?_
                                                                        refine g_callVI cl_X12 (crt_X12_span _ _ _ _ _ _ _ _ _ _) cw_X12_span (by decide) rfl q_1929 q_1930 q_1931 rfl rfl dL_law__1778 ?_
                                                                        intro r221 m222
                                                                        refine g_istore dL_law__1781 (show 6 < 8 by decide) ?_
                                                                        intro x223
                                                                        refine g_aload_n (i := 2) dL_law__1783 rfl rfl ?_
                                                                        refine g_callVI cl_X12 (crt_X12_thrown _ _ _ _) cw_X12_thrown (by decide) rfl q_1493 q_1494 q_1495 rfl rfl dL_law__1784 ?_
                                                                        intro r224 m225
                                                                        refine g_iload dL_law__1787 rfl ?_
                                                                        refine g_icmpeq (tgt := 1794) dL_law__1789 (by decide) ?_ ?_
                                                                        · refine g_iload dL_law__1794 rfl ?_
                                                                          refine g_jn (fun J1811 => ∀ (v1 : Nat) (v2 : Nat) (v3 : Nat) (v4 : Int32) (m : Mm), GG Z M_L_law_ (PsL Z) 1811 [some (.ref (K9 + 998)), some (.ref v1), some (.ref v2), some (.ref v3), some (.int v4), none, none, none] [] m (J1811 v1 v2 v3 v4 m)) ?_ ?_
                                                                          · intro v1 v2 v3 v4 m
                                                                            refine g_goto (tgt := 1890) dL_law__1811 (by decide) ?_
                                                                            exact g_msk [true, true, true, true, true, false, false, false] (hJ1890 _ _ _ _ _)
                                                                          · intro J1811 hJ1811
                                                                            refine g_ifne (tgt := 1811) dL_law__1796 (by decide) ?_ ?_
                                                                            · exact g_msk [true, true, true, true, true, false, false, false] (hJ1811 _ _ _ _ _)
                                                                            · refine g_aload_n (i := 3) dL_law__1799 rfl rfl ?_
                                                                              refine g_iconst (v := (0 : Int32)) dL_law__1800 ki_0 ?_
                                                                              refine g_laload dL_law__1801 ?_
                                                                              refine g_iload dL_law__1802 rfl ?_
                                                                              refine g_i2l dL_law__1804 ?_
                                                                              refine g_lcmp dL_law__1805 ?_
                                                                              refine g_ifeq (tgt := 1811) dL_law__1806 (by decide) ?_ ?_
                                                                              · exact g_msk [true, true, true, true, true, false, false, false] (hJ1811 _ _ _ _ _)
                                                                              · refine g_iconst (v := (0 : Int32)) dL_law__1809 ki_0 ?_
                                                                                exact g_no
                                                                        · refine g_iconst (v := (0 : Int32)) dL_law__1792 ki_0 ?_
                                                                          exact g_no
                                                                      · refine g_swc (k := 32) (tgt := 1814) dL_law__40 (by decide) kt_32 rfl (by decide) ?_ ?_
                                                                        · refine g_aload_n (i := 1) dL_law__1814 rfl rfl ?_
                                                                          refine g_callVI cl_X11 (crt_X11_image _ _ _ _) cw_X11_image (by decide) rfl q_587 q_588 q_589 rfl rfl dL_law__1815 ?_
                                                                          intro r226 m227
                                                                          refine g_aload_n (i := 2) dL_law__1818 rfl rfl ?_
                                                                          refine g_callVI cl_X12 (crt_X12_image _ _ _ _) cw_X12_image (by decide) rfl q_1933 q_1934 q_1935 rfl rfl dL_law__1819 ?_
                                                                          intro r228 m229
                                                                          refine g_icmpeq (tgt := 1890) dL_law__1822 (by decide) ?_ ?_
                                                                          · exact g_msk [true, true, true, true, true, false, false, false] (hJ1890 _ _ _ _ _)
                                                                          · refine g_iconst (v := (0 : Int32)) dL_law__1825 ki_0 ?_
                                                                            exact g_no
                                                                        · refine g_swc (k := 33) (tgt := 1827) dL_law__40 (by decide) kt_33 rfl (by decide) ?_ ?_
                                                                          · refine g_aload_n (i := 1) dL_law__1827 rfl rfl ?_
                                                                            refine g_callVI cl_X11 (crt_X11_restore _ _ _ _) cw_X11_restore (by decide) rfl q_619 q_620 q_621 rfl rfl dL_law__1828 ?_
                                                                            intro r230 m231
                                                                            refine g_aload_n (i := 2) dL_law__1831 rfl rfl ?_
                                                                            refine g_callVI cl_X12 (crt_X12_restore _ _ _ _) cw_X12_restore (by decide) rfl q_1945 q_1946 q_1947 rfl rfl dL_law__1832 ?_
                                                                            intro r232 m233
                                                                            refine g_icmpeq (tgt := 1890) dL_law__1835 (by decide) ?_ ?_
                                                                            · exact g_msk [true, true, true, true, true, false, false, false] (hJ1890 _ _ _ _ _)
                                                                            · refine g_iconst (v := (0 : Int32)) dL_law__1838 ki_0 ?_
                                                                              exact g_no
                                                                          · refine g_swc (k := 34) (tgt := 1840) dL_law__40 (by decide) kt_34 rfl (by decide) ?_ ?_
                                                                            · refine g_aload_n (i := 1) dL_law__1840 rfl rfl ?_
                                                                              refine g_aload_n (i := 0) dL_law__1841 rfl rfl ?_
                                                                              refine g_iload dL_law__1842 rfl ?_
                                                                              refine g_iconst (v := (1 : Int32)) dL_law__1844 ki_1 ?_
                                                                              refine g_iadd dL_law__1845 ?_
                                                                              refine g_sld hX dL_law__1846 ?_
                                                                              refine g_callVI cl_X11 (crt_X11_status _ _ _ _ _) cw_X11_status (by decide) rfl q_623 q_624 q_625 rfl rfl dL_law__1847 ?_
                                                                              intro r234 m235
                                                                              refine g_aload_n (i := 2) dL_law__1850 rfl rfl ?_
                                                                              refine g_aload_n (i := 0) dL_law__1851 rfl rfl ?_
                                                                              refine g_iload dL_law__1852 rfl ?_
                                                                              refine g_iconst (v := (1 : Int32)) dL_law__1854 ki_1 ?_
                                                                              refine g_iadd dL_law__1855 ?_
                                                                              refine g_sld hX dL_law__1856 ?_
                                                                              refine g_callVI cl_X12 (crt_X12_status _ _ _ _ _) cw_X12_status (by decide) rfl q_1949 q_1950 q_1951 rfl rfl dL_law__1857 ?_
                                                                              intro r236 m237
                                                                              refine g_icmpeq (tgt := 1890) dL_law__1860 (by decide) ?_ ?_
                                                                              · exact g_msk [true, true, true, true, true, false, false, false] (hJ1890 _ _ _ _ _)
                                                                              · refine g_iconst (v := (0 : Int32)) dL_law__1863 ki_0 ?_
                                                                                exact g_no
                                                                            · refine g_swc (k := 35) (tgt := 1865) dL_law__40 (by decide) kt_35 rfl (by decide) ?_ ?_
                                                                              · refine g_aload_n (i := 1) dL_law__1865 rfl rfl ?_
                                                                                refine g_aload_n (i := 0) dL_law__1866 rfl rfl ?_
                                                                                refine g_iload dL_law__1867 rfl ?_
                                                                                refine g_iconst (v := (1 : Int32)) dL_law__1869 ki_1 ?_
                                                                                refine g_iadd dL_law__1870 ?_
                                                                                refine g_sld hX dL_law__1871 ?_
                                                                                refine g_callVI cl_X11 (crt_X11_count _ _ _ _ _) cw_X11_count (by decide) rfl q_630 q_631 q_632 rfl rfl dL_law__1872 ?_
                                                                                intro r238 m239
                                                                                refine g_aload_n (i := 2) dL_law__1875 rfl rfl ?_
                                                                                refine g_aload_n (i := 0) dL_law__1876 rfl rfl ?_
                                                                                refine g_iload dL_law__1877 rfl ?_
                                                                                refine g_iconst (v := (1 : Int32)) dL_law__1879 ki_1 ?_
                                                                                refine g_iadd dL_law__1880 ?_
                                                                                refine g_sld hX dL_law__1881 ?_
                                                                                refine g_callVI cl_X12 (crt_X12_count _ _ _ _ _) cw_X12_count (by decide) rfl q_1953 q_1954 q_1955 rfl rfl dL_law__1882 ?_
                                                                                intro r240 m241
                                                                                refine g_icmpeq (tgt := 1890) dL_law__1885 (by decide) ?_ ?_
                                                                                · exact g_msk [true, true, true, true, true, false, false, false] (hJ1890 _ _ _ _ _)
                                                                                · refine g_iconst (v := (0 : Int32)) dL_law__1888 ki_0 ?_
                                                                                  exact g_no
                                                                              · refine g_swe (n := 36) (tgt := 1890) dL_law__40 (by decide) (by decide) ?_
                                                                                exact g_msk [true, true, true, true, true, false, false, false] (hJ1890 _ _ _ _ _)
set_option maxRecDepth 100000 in
set_option maxHeartbeats 4000000 in
theorem c_L_law_ {Z : Zx} {L : Nat} {xs : Nat → Int32} (hX : scX Z L xs) (hW : LwZ Z) (m : Mm) : GG Z M_L_law_ (PsL Z) 0 [some (.ref (K9 + 998)), none, none, none, none, none, none, none] [] m (F_L_law_ L xs m) := by
  unfold F_L_law_
  refine g_new cl_X11 cd_X11 q_29 q_30 q_1 dL_law__0 ?_
  intro m1
  refine g_dup dL_law__3 rfl ?_
  refine g_callIV (crt_X11_init _ _ _ _) cw_X11_init (by decide) rfl q_31 q_32 rfl rfl rfl rfl dL_law__4 ?_
  intro r2 m3
  refine g_astore_n (i := 1) dL_law__7 rfl (show 1 < 8 by decide) ?_
  refine g_new cl_X12 cd_X12 q_1362 q_1363 q_12 dL_law__8 ?_
  intro m4
  refine g_dup dL_law__11 rfl ?_
  refine g_callIV (crt_X12_init _ _ _ _) cw_X12_init (by decide) rfl q_1364 q_1365 rfl rfl rfl rfl dL_law__12 ?_
  intro r5 m6
  refine g_astore_n (i := 2) dL_law__15 rfl (show 2 < 8 by decide) ?_
  refine g_iconst (v := (1 : Int32)) dL_law__16 ki_1 ?_
  refine g_newarr (atype := .long) (ty := .long) (t0 := 1) (N := 1) rfl rfl (fun _ => rfl) (fun _ _ h => h) q_308 (by decide) (by decide) (by decide) (fun _ _ => nwd_l _ _ _ rfl) dL_law__17 ?_
  intro m7
  refine g_astore_n (i := 3) dL_law__19 rfl (show 3 < 8 by decide) ?_
  refine g_iconst (v := (0 : Int32)) dL_law__20 ki_0 ?_
  refine g_istore dL_law__21 (show 4 < 8 by decide) ?_
  intro x8
  exact g_msk [true, true, true, true, true, false, false, false] (c_L_L_law__23 hX hW NF _ _ _ _ _)
