/-! String constants: length, charAt -/
def strO (a : Nat) : Bool := decide (K9 ≤ a ∧ a < K9 + 17)
def sL (a : Nat) : Int32 := Int32.ofNat (sLen.getD (a - K9) 0)
def sC (a : Nat) (i : Int32) : Int32 := (sByt.getD (a - K9) []).getD (ix i) 0
def sIn (a : Nat) (i : Int32) : Bool := decide (0 ≤ i.toInt ∧ i.toInt < (sLen.getD (a - K9) 0 : Int))
theorem strO_ad {θ : Th} {a : Nat} (h : strO a = true) : a - K9 < 17 ∧ ad θ a = θ.2.2.2.2.1 (a - K9) ∧ ad θ (a + 1000) = θ.2.2.2.2.2 (a - K9) := by
  have h1 := of_decide_eq_true h
  refine ⟨by omega, ?_, ?_⟩
  · unfold ad
    rw [if_neg (by omega), if_pos (by omega)]
  · unfold ad
    rw [if_neg (by omega), if_neg (by omega)]
    exact congrArg _ (Nat.add_sub_add_right a 1000 K9)
section GS
variable {α : Type} {Z : Zx} {M : MI} {Ψ : α → Mm → State → Prop} {pc : Nat} {lv : List (Option Value)} {st : List Value} {μ : Mm} {X Y : Option (α × Mm)}
theorem g_compact {index : Nat} (d : decode M.1 pc = .ok (.getstatic index, 3)) (hw : Cond.fieldLink M.2.1 index "java/lang/String" "COMPACT_STRINGS" "Z" ∈ TB) (k : GG Z M Ψ (pc + 3) lv (.int 1 :: st) μ X) : GG Z M Ψ pc lv st μ X :=
  g_pure k (fun C H locs c n Q ls hR hS hl w => va_gets C.1 C.2.1 C.2.2.2.2.2.2.1.2.2.2.2.2.2.2.2.2.2.2.2.2.1 hS C.2.2.2.1 (C.2.2.2.2.1 _ hw) (fun _ h => h) d w)
theorem g_form {index : Nat} (d : decode M.1 pc = .ok (.getstatic index, 3)) (hw : Cond.fieldLink M.2.1 index "jdk/internal/util/Preconditions" "SIOOBE_FORMATTER" "Ljava/util/function/BiFunction;" ∈ TB) (kn : GG Z M Ψ (pc + 3) lv (.null :: st) μ X) (kr : GG Z M Ψ (pc + 3) lv (.ref (K9 + 999) :: st) μ X) : GG Z M Ψ pc lv st μ X := by
  intro r μ' hX
  obtain ⟨h1, h2, h3⟩ := kn r μ' hX
  obtain ⟨-, -, h4⟩ := kr r μ' hX
  refine ⟨h1, h2, fun C O H locs ls hR hS hl => ?_⟩
  have h5 := h4 C O H locs ls hR hS hl
  have h6 := h3 C O H locs ls hR hS hl
  rcases C.2.2.2.2.2.2.1.2.2.2.2.2.2.2.2.2.2.2.2.2.2 with hz | hz
  · exact va_gets C.1 C.2.1 hz hS C.2.2.2.1 (C.2.2.2.2.1 _ hw) (fun _ h => h) d h6
  · have e : (List.map (re (zθ Z)) (Value.ref (K9 + 999) :: st)) = .ref ((zθ Z).2.2.2.2.1 999) :: st.map (re (zθ Z)) := by
      show Value.ref (ad (zθ Z) (K9 + 999)) :: _ = _
      unfold ad
      rw [if_neg (by omega), if_pos (by omega), Nat.add_sub_cancel_left]
    rw [e] at h5
    exact va_gets C.1 C.2.1 hz hS C.2.2.2.1 (C.2.2.2.2.1 _ hw) (fun _ h => h) d h5
theorem g_getValue {index a : Nat} (hs : strO a = true) (d : decode M.1 pc = .ok (.getfield index, 3)) (hw : Cond.fieldLink M.2.1 index "java/lang/String" "value" "[B" ∈ TB) (k : GG Z M Ψ (pc + 3) lv (.ref (a + 1000) :: st) μ X) : GG Z M Ψ pc lv (.ref a :: st) μ X :=
  g_pure k (fun C H locs c n Q ls hR hS hl w => by
    obtain ⟨h1, h2, h3⟩ := strO_ad (θ := zθ Z) hs
    have w9 : zW Z H locs c n Q (F0 (zm Z) (pc + 3) ls (.ref (ad (zθ Z) (a + 1000)) :: st.map (re (zθ Z)))) := w
    show zW Z H locs c n Q (F0 (zm Z) pc ls (.ref (ad (zθ Z) a) :: st.map (re (zθ Z))))
    rw [h3] at w9
    rw [h2]
    exact vk_getf C.1 C.2.1 (C.2.2.2.2.2.2.1.2.2.2.2.2.2.2.2.1.1 _ h1).2.2.1 hS C.2.2.2.1 (C.2.2.2.2.1 _ hw) (fun _ h => h) d w9)
theorem g_getCoder {index a : Nat} (hs : strO a = true) (d : decode M.1 pc = .ok (.getfield index, 3)) (hw : Cond.fieldLink M.2.1 index "java/lang/String" "coder" "B" ∈ TB) (k : GG Z M Ψ (pc + 3) lv (.int 0 :: st) μ X) : GG Z M Ψ pc lv (.ref a :: st) μ X :=
  g_pure k (fun C H locs c n Q ls hR hS hl w => by
    obtain ⟨h1, h2, h3⟩ := strO_ad (θ := zθ Z) hs
    show zW Z H locs c n Q (F0 (zm Z) pc ls (.ref (ad (zθ Z) a) :: st.map (re (zθ Z))))
    rw [h2]
    exact vk_getf C.1 C.2.1 (C.2.2.2.2.2.2.1.2.2.2.2.2.2.2.2.1.1 _ h1).2.1 hS C.2.2.2.1 (C.2.2.2.2.1 _ hw) (fun _ h => h) d w)
theorem g_strLen {a : Nat} (hs : strO a = true) (d : decode M.1 pc = .ok (.arraylength, 1)) (k : GG Z M Ψ (pc + 1) lv (.int (sL a) :: st) μ X) : GG Z M Ψ pc lv (.ref (a + 1000) :: st) μ X :=
  g_pure k (fun C H locs c n Q ls hR hS hl w => by
    obtain ⟨h1, h2, h3⟩ := strO_ad (θ := zθ Z) hs
    show zW Z H locs c n Q (F0 (zm Z) pc ls (.ref (ad (zθ Z) (a + 1000)) :: st.map (re (zθ Z))))
    rw [h3]
    exact va_tlen C.1 C.2.1 (C.2.2.2.2.2.2.1.2.2.2.2.2.2.2.2.1.1 _ h1).2.2.2 hS rfl d w)
theorem g_strB {a : Nat} {i : Int32} (hs : strO a = true) (hi : sIn a i = true) (d : decode M.1 pc = .ok (.baload, 1)) (k : GG Z M Ψ (pc + 1) lv (.int (sC a i) :: st) μ X) : GG Z M Ψ pc lv (.int i :: .ref (a + 1000) :: st) μ X :=
  g_pure k (fun C H locs c n Q ls hR hS hl w => by
    obtain ⟨h1, h2, h3⟩ := strO_ad (θ := zθ Z) hs
    show zW Z H locs c n Q (F0 (zm Z) pc ls (.int i :: .ref (ad (zθ Z) (a + 1000)) :: st.map (re (zθ Z))))
    rw [h3]
    exact va_tb C.1 C.2.1 (C.2.2.2.2.2.2.1.2.2.2.2.2.2.2.2.1.1 _ h1).2.2.2 hS (vp_in_iff.mpr (of_decide_eq_true hi)) rfl d w)
theorem g_ifeqF {x : Int32} {off : Int} (h : ¬ x = 0) {tgt : Nat} (d : decode M.1 pc = .ok (.ifCond .eq off, 3)) (ht : (pc : Int) + off = (tgt : Int)) (k : GG Z M Ψ (pc + 3) lv st μ X) : GG Z M Ψ pc lv (.int x :: st) μ X := g_pure k (fun C H locs c n Q ls _ _ _ w => lv_if_eq C.1 C.2.1 d ht (fun e => absurd e h) (fun _ => w))
theorem g_ifneF {x : Int32} {off : Int} (h : x = 0) {tgt : Nat} (d : decode M.1 pc = .ok (.ifCond .ne off, 3)) (ht : (pc : Int) + off = (tgt : Int)) (k : GG Z M Ψ (pc + 3) lv st μ X) : GG Z M Ψ pc lv (.int x :: st) μ X := g_pure k (fun C H locs c n Q ls _ _ _ w => lv_if_ne C.1 C.2.1 d ht (fun e => absurd h e) (fun _ => w))
theorem g_ifltF {x : Int32} {off : Int} (h : ¬ x < 0) {tgt : Nat} (d : decode M.1 pc = .ok (.ifCond .lt off, 3)) (ht : (pc : Int) + off = (tgt : Int)) (k : GG Z M Ψ (pc + 3) lv st μ X) : GG Z M Ψ pc lv (.int x :: st) μ X := g_pure k (fun C H locs c n Q ls _ _ _ w => lv_if_lt C.1 C.2.1 d ht (fun e => absurd e h) (fun _ => w))
theorem g_icmpltT {x y : Int32} {off : Int} (h : x < y) {tgt : Nat} (d : decode M.1 pc = .ok (.if_icmp .lt off, 3)) (ht : (pc : Int) + off = (tgt : Int)) (k : GG Z M Ψ tgt lv st μ X) : GG Z M Ψ pc lv (.int y :: .int x :: st) μ X := g_pure k (fun C H locs c n Q ls _ _ _ w => lv_icmp_lt C.1 C.2.1 d ht (fun _ => w) (fun e => absurd h e))
theorem g_nreturn {v : Int32} {ty : FieldType} (hr : M.2.2.2.2.2.1 = some ty) (hv : narrow ty (.int v) = .int v) (d : decode M.1 pc = .ok (.ireturn, 1)) : GG Z M (PsN Z cvI) pc lv [.int v] μ (some (v, μ)) := by
  intro r μ' hX
  cases hX
  refine ⟨Nat.le_refl _, Nat.le_refl _, fun C O H locs ls hR hS hl => ?_⟩
  exact W.zret C.1 C.2.1 (C.2.2.2.2.2.2.2.2.2.1.trans hr) hv (fun t ht hW => ⟨rfl, by rw [ht]; exact hR, hS.F ht⟩) hS.2.2 d C.2.2.2.2.2.1
/-- a call on a String constant -/
theorem g_callVS {β : Type} {cv : β → Option Value} {y : MethodName} {My : MI} {n0 index a : Nat} {vs rest : List Value} {XF : Option (β × Mm)} {f : β → Mm → Option (α × Mm)} (hs9 : strO a = true) (hcr : Crt (zl Z) (zθ Z) y My cv (.ref a :: vs) μ XF) (hcw : CwOk My y n0) (hrm : RmOk M My = true) (hso : stOk rest = true) (hl : Cond.methodLink M.2.1 index y ∈ TB) (hi : Cond.instanceMethod y ∈ TB) (hs : Cond.selects "java/lang/String" y y ∈ TB) (hn : vs.length = n0) (hst : st = vs.reverse ++ .ref a :: rest) (d : decode M.1 pc = .ok (.invokevirtual index, 3)) (k : ∀ (r : β) (μ1 : Mm), GG Z M Ψ (pc + 3) lv ((cv r).toList ++ rest) μ1 (f r μ1)) : GG Z M Ψ pc lv st μ (bd XF f) :=
  g_call hcr k (fun C H locs c n ls r μ1 hR hS hv hf hM => va_runV (As := vs.map (re (zθ Z))) (b := ad (zθ Z) a) ⟨C.1, C.2.1, C.2.2.1, C.2.2.2.1, C.2.2.2.2.1⟩ hM ⟨callB_of n0 C.2.2.2.2.1 hcw.gi rfl rfl rfl (C.2.2.2.2.1 _ hcw.2.1) (C.2.2.2.2.1 _ hl) hcw.2.2 (RmOk.use C hrm), C.2.2.2.2.1 _ hi, C.2.2.2.2.1 _ hs⟩ ⟨Pcc_blind _ _ _, by rw [(strO_ad (θ := zθ Z) hs9).2.1]; exact vk_recv C.2.2.2.2.2.2.1.2.2.2.2.2.2.2.2.1 (strO_ad (θ := zθ Z) hs9).1 hS, fun U hU hW => Pcc_at C.2.2.2.2.2.2.1 hR hS hU hW⟩ rfl (by rw [List.length_map]; exact hn) hv.1 (by show st.map _ = _; rw [hst, List.map_append, List.map_reverse]; rfl) (stOk.use hso) d hf)
end GS
