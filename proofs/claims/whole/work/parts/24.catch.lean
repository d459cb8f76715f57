/-! the law's own small methods: a call, its throws caught -/
def hd9 (o : Option Int32) (m : Mm) : Option (Int32 × Mm) := match o with
  | some v => some (v, m)
  | none => none
def HdOk (M : MI) (hh : List (Nat × Nat × Nat × Nat)) (pc kx : Nat) (v : Int32) : Prop := ∃ (pre : List ExceptionTableEntry) (x : ExceptionTableEntry) (suf : List ExceptionTableEntry) (n : Int) (sl ln : Nat), tableOf hh = pre ++ x :: suf ∧ (∀ z ∈ pre, covers z pc = false ∨ (z.catchType ≠ 0 ∧ ∃ nm, Cond.classLink M.2.1 z.catchType nm ∈ TB ∧ (exN kx, nm) ∈ NC)) ∧ covers x pc = true ∧ x.catchType ≠ 0 ∧ Cond.classLink M.2.1 x.catchType (exN kx) ∈ TB ∧ (exN kx, exN kx) ∈ CS ∧ ((∃ j : Fin 4, (j : Nat) = sl ∧ ln = 1 ∧ decode M.1 x.handlerPc = .ok (.astore_n j, 1)) ∨ (ln = 2 ∧ decode M.1 x.handlerPc = .ok (.astore sl, 2))) ∧ sl < M.2.2.1 ∧ decode M.1 (x.handlerPc + ln) = .ok (.iconst n, 1) ∧ Int32.ofInt n = v ∧ decode M.1 (x.handlerPc + ln + 1) = .ok (.ireturn, 1)
def wsW (y : MethodName) (M : MI) (hh : List (Nat × Nat × Nat × Nat)) : List Cond := .codeWith y M.1 M.2.2.1 M.2.2.2.2.2.1 hh :: TB
def CrtW {β : Type} (l : Launch) (θ : Th) (y : MethodName) (M : MI) (hh : List (Nat × Nat × Nat × Nat)) (cv : β → Option Value) (vs : List Value) (μ : Mm) (X : Option (β × Mm)) : Prop :=
  ∀ (r : β) (μ' : Mm), X = some (r, μ') → mN μ ≤ mN μ' ∧ mS μ ≤ mS μ' ∧ (l.stackTraces = false → Met l y (wsW y M hh) (rmM M (mN μ' - mN μ) (mS μ' - mS μ)) (Pcc θ vs μ) (Qcc θ cv r μ') (mN μ' - mN μ) (mS μ' - mS μ) (tA θ))
section G7
variable {α : Type} {Z : Zx} {M : MI} {Ψ : α → Mm → State → Prop} {pc : Nat} {lv : List (Option Value)} {st : List Value} {μ : Mm} {X Y : Option (α × Mm)}
theorem g_callXC {β : Type} {cv : β → Option Value} {hh : List (Nat × Nat × Nat × Nat)} {y : MethodName} {My : MI} {n0 index a c0 N : Nat} {C0 : String} {T : u_T} {vs rest : List Value} {XF : Option ((β ⊕ Nat) × Mm)} {f : β → Mm → Option (Int32 × Mm)} {hx : Nat → Option Int32} (htab : (zc Z).exceptionTable.toList = tableOf hh) (hrt : M.2.2.2.2.2.1 = some .int) (hcl : ClOk c0 C0 T N) (hcr : CrtX (zl Z) (zθ Z) y My cv (.ref a :: vs) μ XF) (hcw : CwOk My y n0) (hrm : RmOk M My = true) (hso : stOk rest = true) (hl : Cond.methodLink M.2.1 index y ∈ TB) (hi : Cond.instanceMethod y ∈ TB) (hs : Cond.selects C0 y y ∈ TB) (hn : vs.length = n0) (hst : st = vs.reverse ++ .ref a :: rest) (d : decode M.1 pc = .ok (.invokevirtual index, 3)) (hhd : ∀ (kx : Nat) (v : Int32), hx kx = some v → HdOk M hh pc kx v) (k : ∀ (r : β) (μ1 : Mm), GG Z M (PsN Z cvI) (pc + 3) lv ((cv r).toList ++ rest) μ1 (f r μ1)) : GG Z M (PsN Z cvI) pc lv st μ (gd (okO μ a c0) (bx XF f (fun kx m => hd9 (hx kx) m))) := by
  refine g_gd fun ho => ?_
  have hrun : ∀ (C : Cx Z M) (H : Heap) (locs : List Loc) (c n : Nat) (ls : Array Slot) (r : β ⊕ Nat) (μ1 : Mm), Rl (zθ Z) μ H → va_S (tA (zθ Z)) (zs Z).heap H locs → lvh (zθ Z) ls M.2.2.1 lv → c + (mN μ1 - mN μ) ≤ (zR Z).cells ∧ n + (mS μ1 - mS μ) ≤ (zR Z).slots → vx_Met (zl Z) y (wsM y My) (rmM My (mN μ1 - mN μ) (mS μ1 - mS μ)) (Pcc (zθ Z) (.ref a :: vs) μ) (QcX (zθ Z) cv r μ1) (XcX (zθ Z) r μ1) (mN μ1 - mN μ) (mS μ1 - mS μ) (tA (zθ Z)) →
      vx_Run Z.1 Z.2.1 Z.2.2.1 Z.2.2.2.1 Z.2.2.2.2.1 Z.2.2.2.2.2.1 Z.2.2.2.2.2.2.1 Z.2.2.2.2.2.2.2.1 Z.2.2.2.2.2.2.2.2.1 Z.2.2.2.2.2.2.2.2.2.1 H locs c n (mN μ1 - mN μ) (mS μ1 - mS μ) (F0 (zm Z) pc ls (st.map (re (zθ Z)))) (rest.map (re (zθ Z))) (QcX (zθ Z) cv r μ1 (Value.ref (ad (zθ Z) a) :: vs.map (re (zθ Z))).toArray) (XcX (zθ Z) r μ1) (tA (zθ Z)) :=
    fun C H locs c n ls r μ1 hR hS hv hf hM => vx_runV (As := vs.map (re (zθ Z))) (b := ad (zθ Z) a) ⟨C.1, C.2.1, C.2.2.1, C.2.2.2.1, C.2.2.2.2.1⟩ hM ⟨callB_of n0 C.2.2.2.2.1 hcw.gi rfl rfl rfl (C.2.2.2.2.1 _ hcw.2.1) (C.2.2.2.2.1 _ hl) hcw.2.2 (RmOk.use C hrm), C.2.2.2.2.1 _ hi, C.2.2.2.2.1 _ hs⟩ ⟨Pcc_blind _ _ _, recv_at hcl C.2.2.2.2.2.2.1.1 hR ho, fun U hU hW => Pcc_at C.2.2.2.2.2.2.1 hR hS hU hW⟩ rfl (by rw [List.length_map]; exact hn) hv.1 (by show st.map _ = _; rw [hst, List.map_append, List.map_reverse]; rfl) (stOk.use hso) d hf
  have hSk : ∀ {H H' : Heap} {locs L : List Loc}, va_S (tA (zθ Z)) (zs Z).heap H locs → H.size ≤ H'.size → (∀ q : Nat, q < H.size → ¬ tA (zθ Z) q → H'[q]? = H[q]?) → (∀ q ∈ L, tA (zθ Z) q.base) → va_S (tA (zθ Z)) (zs Z).heap H' (locs ++ L) := by
    intro H H' locs L hS hz hk hL
    refine ⟨Nat.le_trans hS.1 hz, fun x g1 g2 => ?_, fun x hx => ?_⟩
    · rw [hk x (Nat.lt_of_lt_of_le g1 hS.1) g2]
      exact hS.2.1 x g1 g2
    · rcases List.mem_append.mp hx with h | h
      · exact hS.2.2 x h
      · exact hL x h
  intro r μ' hX
  unfold bx at hX
  split at hX
  · next q μ1 =>
    obtain ⟨h1, h2, h3⟩ := k q μ1 r μ' hX
    obtain ⟨c1, c2, hM⟩ := hcr (.inl q) μ1 rfl
    refine ⟨Nat.le_trans c1 h1, Nat.le_trans c2 h2, fun C O H locs ls hR hS hv => ?_⟩
    obtain ⟨o1, o2, o3, o4⟩ := O
    have hr := hrun C H locs (mN μ - mN (zμ Z)) (mS μ - mS (zμ Z)) ls (.inl q) μ1 hR hS hv ⟨by omega, by omega⟩ (hM C.2.2.2.2.2.2.2.2.2.2.1)
    intro T hT X
    rcases hr T hT X with ⟨v, st₀, t, T', L, e0, X', hL, e1, e2, ⟨hv9, hRl, hz, hk⟩, st⟩ | ⟨q9, st₀, t, T', L, E, ce, e0, X', hL, e1, e2, hx, -⟩
    · have hv' : v = (cv q).map (re (zθ Z)) := by injection hv9
      subst hv'
      rw [e0] at hz hk
      have hS' := hSk hS (H' := T'.heap) (by rw [e1]; exact hz) (fun x g1 g2 => by rw [e1]; exact hk x g1 g2) hL
      have h4 := h3 C ⟨by omega, by omega, o3, o4⟩ T'.heap (locs ++ L) ls (by rw [e1]; exact hRl) hS' hv
      rw [show mN μ1 - mN (zμ Z) = mN μ - mN (zμ Z) + (mN μ1 - mN μ) by omega, show mS μ1 - mS (zμ Z) = mS μ - mS (zμ Z) + (mS μ1 - mS μ) by omega] at h4
      obtain ⟨t2, a1, b1⟩ := h4 T' rfl X'
      refine ⟨t2, st t2 ?_, b1⟩
      have e9 : ((cv q).toList ++ rest).map (re (zθ Z)) = ((cv q).map (re (zθ Z))).toList ++ rest.map (re (zθ Z)) := by
        rw [List.map_append]
        cases cv q <;> rfl
      rw [e9] at a1
      exact a1
    · exact absurd hx id
  · next kx μ1 =>
    unfold hd9 at hX
    dsimp only at hX
    split at hX
    · next vv hvv =>
      have hr9 : vv = r := by injection hX with h; injection h
      have hm9 : μ1 = μ' := by injection hX with h; injection h
      subst hr9
      subst hm9
      obtain ⟨c1, c2, hM⟩ := hcr (.inr kx) μ1 rfl
      refine ⟨c1, c2, fun C O H locs ls hR hS hv => ?_⟩
      obtain ⟨o1, o2, o3, o4⟩ := O
      have hr := hrun C H locs (mN μ - mN (zμ Z)) (mS μ - mS (zμ Z)) ls (.inr kx) μ1 hR hS hv ⟨by omega, by omega⟩ (hM C.2.2.2.2.2.2.2.2.2.2.1)
      intro T hT X
      rcases hr T hT X with ⟨v, st₀, t, T', L, e0, X', hL, e1, e2, hx, -⟩ | ⟨q9, st₀, t, T', L, E, ce, e0, X', hL, e1, e2, ⟨hE, hRl, hz, hk⟩, hce, hcv, hcl9, hst9⟩
      · exact absurd hx id
      · rw [e0] at hz hk
        have hS' := hSk hS (H' := T'.heap) (by rw [e1]; exact hz) (fun x g1 g2 => by rw [e1]; exact hk x g1 g2) hL
        obtain ⟨pre, x, suf, n9, sl, ln, t1, t2, t3, t4, t5, t6, t7, t8, t9, t10, t11⟩ := hhd kx vv hvv
        subst hE
        obtain ⟨tf, a1, b1⟩ := vx_catch (name := exN kx) (E := exN kx) (ls := ls) (rest := rest.map (re (zθ Z))) (pc := pc) (H := T'.heap) C.2.2.2.1 pre x suf (htab.trans t1) (fun z hz => by
            rcases t2 z hz with h | ⟨h1, nm, h2, h3⟩
            · exact Or.inl h
            · exact Or.inr ⟨h1, nm, C.2.2.2.2.1 _ h2, C.2.2.2.2.2.2.1.2.2.2.2.2.2.2.2.2.2.1 _ h3⟩) t3 t4 (C.2.2.2.2.1 _ t5) (va_Nw.use rfl (C.2.2.2.2.2.2.1.2.2.2.2.2.2.2.2.2.2.2.1 _ t6)) (by rw [e1]; exact hce) hcv hcl9 (Q := PsN Z cvI vv μ1) (by
            have hend : ∀ (ls9 : Array Slot), W Z.1 Z.2.1 Z.2.2.1 Z.2.2.2.1 Z.2.2.2.2.1 Z.2.2.2.2.2.1 Z.2.2.2.2.2.2.1 Z.2.2.2.2.2.2.2.1 Z.2.2.2.2.2.2.2.2.1 Z.2.2.2.2.2.2.2.2.2.1 T'.heap (locs ++ L) (mN μ - mN (zμ Z) + (mN μ1 - mN μ)) (mS μ - mS (zμ Z) + (mS μ1 - mS μ)) (PsN Z cvI vv μ1) (F0 (zm Z) (x.handlerPc + ln) ls9 []) := by
              intro ls9
              refine lv_iconst (v := vv) C.1 C.2.1 t9 t10 ?_
              unfold PsN
              rw [show mN μ1 - mN (zμ Z) = mN μ - mN (zμ Z) + (mN μ1 - mN μ) by omega, show mS μ1 - mS (zμ Z) = mS μ - mS (zμ Z) + (mS μ1 - mS μ) by omega]
              exact W.iret C.1 C.2.1 (C.2.2.2.2.2.2.2.2.2.1.trans hrt) (fun t ht hW => ⟨rfl, by rw [ht, e1]; exact hRl, hS'.F ht⟩) hS'.2.2 t11 C.2.2.2.2.2.1
            rcases t7 with ⟨j, h1, h2, h3⟩ | ⟨h2, h3⟩
            · subst h2
              exact lv_astore_n C.1 C.2.1 h3 h1 (lvh_al hv) t8 rfl (fun ls9 _ => hend ls9)
            · subst h2
              exact lv_astore C.1 C.2.1 h3 (lvh_al hv) t8 rfl (fun ls9 _ => hend ls9)) T' rfl X'
        exact ⟨tf, hst9.trans a1, b1⟩
    · cases hX
  · cases hX
theorem g_callSW {β : Type} {cv : β → Option Value} {hh : List (Nat × Nat × Nat × Nat)} {y : MethodName} {My : MI} {n0 index : Nat} {vs rest : List Value} {XF : Option (β × Mm)} {f : β → Mm → Option (α × Mm)} (hcr : CrtW (zl Z) (zθ Z) y My hh cv vs μ XF) (hcd : Cond.codeWith y My.1 My.2.2.1 My.2.2.2.2.2.1 hh ∈ TB) (hini : Cond.initialized y.cls ∈ TB) (hds : y.cls ≠ "java/lang/invoke/MethodHandle" ∧ y.cls ≠ "java/lang/invoke/VarHandle" ∧ (parseMethodDescriptor y.desc).map (fun d => d.parameters.length) = some n0) (hrm : RmOk M My = true) (hso : stOk rest = true) (hl : Cond.methodLink M.2.1 index y ∈ TB) (hs : Cond.static y ∈ TB) (hn : vs.length = n0) (hst : st = vs.reverse ++ rest) (d : decode M.1 pc = .ok (.invokestatic index, 3)) (k : ∀ (r : β) (μ1 : Mm), GG Z M Ψ (pc + 3) lv ((cv r).toList ++ rest) μ1 (f r μ1)) : GG Z M Ψ pc lv st μ (bd XF f) := by
  intro r μ' hX
  unfold bd at hX
  split at hX
  · next q μ1 =>
    obtain ⟨h1, h2, h3⟩ := k q μ1 r μ' hX
    obtain ⟨c1, c2, hM⟩ := hcr q μ1 rfl
    refine ⟨Nat.le_trans c1 h1, Nat.le_trans c2 h2, fun C O H locs ls hR hS hv => ?_⟩
    obtain ⟨o1, o2, o3, o4⟩ := O
    have hgi : GoodIn TB (wsW y My hh) := fun w hw => by
      rcases List.mem_cons.mp hw with e | e
      · rw [e]
        exact ⟨hcd, TB_good _ hcd⟩
      · exact ⟨e, TB_good w e⟩
    have hRm := RmOk.use (a := mN μ1 - mN μ) (b := mS μ1 - mS μ) C hrm
    have hr := vx_runSW (As := vs.map (re (zθ Z))) (g := F0 (zm Z) pc ls (st.map (re (zθ Z)))) (rest := rest.map (re (zθ Z))) (H := H) (locs := locs) (cells := mN μ - mN (zμ Z)) (slots := mS μ - mS (zμ Z)) (below := Z.2.2.2.2.2.2.2.1) (e := Z.2.2.1) (meth := Z.2.2.2.2.2.2.2.2.1) (n := n0) (bytes := My.1) (maxL := My.2.2.1) (ret := My.2.2.2.2.2.1) (hh := hh) ⟨C.1, C.2.1, C.2.2.1, C.2.2.2.1, C.2.2.2.2.1⟩ (hM C.2.2.2.2.2.2.2.2.2.2.1) ⟨⟨rfl, rfl, hRm.1, hRm.2, pay_in C.2.2.2.2.1 hgi, List.mem_cons_self⟩, C.2.2.2.2.1 _ hcd, C.2.2.2.2.1 _ hini, ⟨hds.1, hds.2.1⟩, fun sig h => by have h9 := hds.2.2; rw [h] at h9; exact (Option.some.inj h9).symm, C.2.2.2.2.1 _ hl, C.2.2.2.2.1 _ hs⟩ ⟨Pcc_blind _ _ _, fun U hU hW => Pcc_at C.2.2.2.2.2.2.1 hR hS hU hW⟩ rfl (by rw [List.length_map]; exact hn) hv.1 (by show st.map _ = _; rw [hst, List.map_append, List.map_reverse]) (stOk.use hso) d ⟨by show _ ≤ (zR Z).cells; omega, by show _ ≤ (zR Z).slots; omega⟩
    intro T hT X
    obtain ⟨v, st₀, t, T', L, e0, X', hL, e1, e2, ⟨hv9, hRl, hz, hk⟩, st⟩ := hr T hT X
    have hv' : v = (cv q).map (re (zθ Z)) := by injection hv9
    subst hv'
    rw [e0] at hz hk
    have hS' : va_S (tA (zθ Z)) (zs Z).heap T'.heap (locs ++ L) := by
      refine ⟨Nat.le_trans hS.1 (by rw [e1]; exact hz), fun x g1 g2 => ?_, fun x hx => ?_⟩
      · rw [e1, hk x (Nat.lt_of_lt_of_le g1 hS.1) g2]
        exact hS.2.1 x g1 g2
      · rcases List.mem_append.mp hx with h | h
        · exact hS.2.2 x h
        · exact hL x h
    have h4 := h3 C ⟨by omega, by omega, o3, o4⟩ T'.heap (locs ++ L) ls (by rw [e1]; exact hRl) hS' hv
    rw [show mN μ1 - mN (zμ Z) = mN μ - mN (zμ Z) + (mN μ1 - mN μ) by omega, show mS μ1 - mS (zμ Z) = mS μ - mS (zμ Z) + (mS μ1 - mS μ) by omega] at h4
    obtain ⟨t2, a1, b1⟩ := h4 T' rfl X'
    refine ⟨t2, st t2 ?_, b1⟩
    have e9 : ((cv q).toList ++ rest).map (re (zθ Z)) = ((cv q).map (re (zθ Z))).toList ++ rest.map (re (zθ Z)) := by
      rw [List.map_append]
      cases cv q <;> rfl
    rw [e9] at a1
    exact a1
  · cases hX
end G7
theorem crtw_of {β : Type} {l : Launch} {θ : Th} {y : MethodName} {M : MI} {hh : List (Nat × Nat × Nat × Nat)} {cv : β → Option Value} {vs : List Value} {μ : Mm} {X : Option (β × Mm)} (k : Nat) (hy : plainName y.cls = true) (ho : y.cls = M.2.1) (hnm : y.name = M.2.2.2.2.2.2) (hln : (lg_sl vs).length ≤ M.2.2.1)
    (h : ∀ Z : Zx, zμ Z = μ → (zc Z).exceptionTable.toList = tableOf hh → GG Z M (PsN Z cv) 0 (lvA vs ++ List.replicate k none) [] μ X) : CrtW l θ y M hh cv vs μ X := by
  intro r μ' hX
  obtain ⟨h1, h2, -⟩ := h (Program.bare "X" "m" "()V", l, { classPath := fun _ => none }, rmM M 0 0, default, default, #[], [], default, { maxStack := 0, maxLocals := 0, code := ⟨#[]⟩, exceptionTable := (tableOf hh).toArray, attributes := #[] }, μ, θ) rfl (by show (tableOf hh).toArray.toList = _; simp) r μ' hX
  refine ⟨h1, h2, fun hl => ?_⟩
  refine MetFree.of_bodyS (code := M.1) (maxLocals := M.2.2.1) (ret := M.2.2.2.2.2.1) hy ?_ ?_
  · intro args s m h hn
    obtain ⟨m9, meth, c, hn9, h1, h2, h3, h4, -, h5, h6, -⟩ := Cond.codeWith_spec (atoms_spec (ws := wsW y M hh) h _ List.mem_cons_self)
    cases hn.symm.trans hn9
    exact ⟨meth, c, h1, h2, h3, h4, h5, h6⟩
  · intro p e s m args below meth c s₁ B hml hv _
    have hh0 : s₁.heap = s.heap := by rw [B.state]; rfl
    obtain ⟨rfl, hR, hBs⟩ := hv
    have hts := atoms_spec (ws := wsW y M hh) B.pre
    have htab := vx_table (x := y) B (hts _ List.mem_cons_self)
    have hown : s.vm.findClass y.cls = some m.cls := findClass_of_methodNamed B.named
    have hnm2 : meth.name = y.name := (name_of_methodNamed B.named B.method).1
    obtain ⟨-, -, h3⟩ := h (p, l, e, (headSpec (wsW y M hh) (rmM M (mN μ' - mN μ) (mS μ' - mS μ))).room, s, m, (vs.map (re θ)).toArray, below, meth, c, μ, θ) rfl htab r μ' hX
    have hlv := lv_entry (vs.map (re θ)) (n := M.2.2.1) (by rw [lgl_re]; exact hln)
    have h4 := h3 ⟨B.exec, B.bytes, hml, by rw [← ho]; exact hown, fun w hw => hts w (List.mem_cons_of_mem _ hw), B.notSynchronized, hBs, rfl, rfl, B.returns, hl, hnm2.trans hnm, hR.1⟩
      ⟨Nat.le_refl _, Nat.le_refl _, by show mN μ' ≤ mN μ + (mN μ' - mN μ); omega, by show mS μ' ≤ mS μ + (mS μ' - mS μ); omega⟩ s.heap [] _ hR va_S.rf (lvA_ok (k := k) hlv)
    rw [show zμ (p, l, e, (headSpec (wsW y M hh) (rmM M (mN μ' - mN μ) (mS μ' - mS μ))).room, s, m, (vs.map (re θ)).toArray, below, meth, c, μ, θ) = μ from rfl, Nat.sub_self, Nat.sub_self] at h4
    obtain ⟨t, a1, o, b1, b2, b3⟩ := h4 s₁ hh0 (Stand.of_body B)
    rw [lg_entry_eq]
    exact ⟨t, o, a1, b1, b2, ⟨b3.1, b3.2⟩⟩
