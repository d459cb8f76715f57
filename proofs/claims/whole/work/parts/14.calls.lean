/-! L1: calls and returns -/
theorem va_AOA.moved {ty : FieldType} {u U : State} (hvm : u.vm.Alike U.vm) (h : va_AOA ty u) : va_AOA ty U := by
  first | exact arrayOver_alikeB hvm h | exact Jvm.Stand.arrayOver_alikeB hvm h
theorem Bs_moved {θ : Th} {s U : State} {H : Heap} {locs : List Loc} (h : Bs θ s) (hS : va_S (tA θ) s.heap H locs) (hU : U.heap = H) (hW : s.WarmedH U.vm) : Bs θ U := by
  obtain ⟨h1, h2, h3, h4, h5, h6, h7, h8, h11, h12, h13, h16, h17, h14, h15⟩ := h
  refine ⟨va_K.moved hW.alike h1, fun w hw => ?_, va_AO.moved hW.alike h3, va_AO.moved hW.alike h4, va_AOA.moved hW.alike h5, by rw [hU]; exact Nat.le_trans h6 hS.1, by rw [hU]; exact vx_Zq.moved hW.alike (h7.kept hS.2.1), by rw [hU]; exact vx_Zq.moved hW.alike (h8.kept hS.2.1), by rw [hU]; exact vk_S.moved hW.alike (h11.kept hS.2.1), fun e he => vk_R.warm hW (h12 e he), fun q hq => va_Nc.moved hW.alike (h13 q hq), fun q hq => va_Nw.warmC hW (h16 q hq), fun x hx => va_Nw.warmD hW (h17 x hx), by rw [hU]; exact va_Z.moved hW.alike (h14.kept hS.2.1), by rw [hU]; exact h15.elim (fun h => Or.inl (va_Z.moved hW.alike (h.kept hS.2.1))) (fun h => Or.inr (va_Z.moved hW.alike (h.kept hS.2.1)))⟩
  have h9 := h2 w hw
  have h10 : isNe w = true := (List.mem_filter.mp hw).2
  unfold isNe at h10
  split at h10
  · exact va_Nw.warmF hW h9
  · exact va_Nw.warmM hW h9
  · cases h10
def Qcc {β : Type} (θ : Th) (cv : β → Option Value) (r : β) (μ' : Mm) : Array Value → State → Outcome → State → Prop := fun _ st oc t => oc = .returned ((cv r).map (re θ)) ∧ Rl θ μ' t.heap ∧ va_F (tA θ) st t
def Pcc (θ : Th) (vs : List Value) (μ : Mm) : Array Value → State → Prop := fun a U => a = (vs.map (re θ)).toArray ∧ Rl θ μ U.heap ∧ Bs θ U
def wsM (y : MethodName) (M : MI) : List Cond := .code y M.1 M.2.2.1 M.2.2.2.2.2.1 :: TB
def rmM (M : MI) (a b : Nat) : Room := { frames := M.2.2.2.1, cells := a, slots := b, locals := M.2.2.2.2.1 }
/-- a method that returns: what its computation says -/
def Crt {β : Type} (l : Launch) (θ : Th) (y : MethodName) (M : MI) (cv : β → Option Value) (vs : List Value) (μ : Mm) (X : Option (β × Mm)) : Prop :=
  ∀ (r : β) (μ' : Mm), X = some (r, μ') → mN μ ≤ mN μ' ∧ mS μ ≤ mS μ' ∧ (l.stackTraces = false → Met l y (wsM y M) (rmM M (mN μ' - mN μ) (mS μ' - mS μ)) (Pcc θ vs μ) (Qcc θ cv r μ') (mN μ' - mN μ) (mS μ' - mS μ) (tA θ))
theorem Pcc_blind (θ : Th) (vs : List Value) (μ : Mm) : FrameBlind (Pcc θ vs μ) := fun a U g mk h => ⟨h.1, h.2.1, Bs_moved (U := U.calling g mk a) h.2.2 va_S.rf rfl (State.WarmedH.refl U)⟩
theorem Pcc_at {θ : Th} {vs : List Value} {μ : Mm} {s U : State} {H : Heap} {locs : List Loc} (hB : Bs θ s) (hR : Rl θ μ H) (hS : va_S (tA θ) s.heap H locs) (hU : U.heap = H) (hW : s.WarmedH U.vm) : Pcc θ vs μ (vs.map (re θ)).toArray U := ⟨rfl, by rw [hU]; exact hR, Bs_moved hB hS hU hW⟩
def PsN {β : Type} (Z : Zx) (cv : β → Option Value) (r : β) (μ' : Mm) : State → Prop := MQ Z.2.2.2.2.2.2.2.1 (Qcc (zθ Z) cv r μ') (za Z) (zs Z) (mN μ' - mN (zμ Z)) (mS μ' - mS (zμ Z)) (tA (zθ Z))
def cvI (x : Int32) : Option Value := some (.int x)
def cvL (x : Int64) : Option Value := some (.long x)
def cvV (_ : Unit) : Option Value := none
section G4
variable {α : Type} {Z : Zx} {M : MI} {Ψ : α → Mm → State → Prop} {pc : Nat} {lv : List (Option Value)} {st : List Value} {μ : Mm} {X Y : Option (α × Mm)}
theorem g_call {β : Type} {cv : β → Option Value} {y : MethodName} {My : MI} {vs rest : List Value} {XF : Option (β × Mm)} {f : β → Mm → Option (α × Mm)} {a9 : Array Value} (hC : Crt (zl Z) (zθ Z) y My cv vs μ XF) (k : ∀ (r : β) (μ1 : Mm), GG Z M Ψ (pc + 3) lv ((cv r).toList ++ rest) μ1 (f r μ1))
    (hrun : ∀ (C : Cx Z M) (H : Heap) (locs : List Loc) (c n : Nat) (ls : Array Slot) (r : β) (μ1 : Mm), Rl (zθ Z) μ H → va_S (tA (zθ Z)) (zs Z).heap H locs → lvh (zθ Z) ls M.2.2.1 lv → c + (mN μ1 - mN μ) ≤ (zR Z).cells ∧ n + (mS μ1 - mS μ) ≤ (zR Z).slots → Met (zl Z) y (wsM y My) (rmM My (mN μ1 - mN μ) (mS μ1 - mS μ)) (Pcc (zθ Z) vs μ) (Qcc (zθ Z) cv r μ1) (mN μ1 - mN μ) (mS μ1 - mS μ) (tA (zθ Z)) →
      va_Run Z.1 Z.2.1 Z.2.2.1 Z.2.2.2.1 Z.2.2.2.2.1 Z.2.2.2.2.2.1 Z.2.2.2.2.2.2.1 Z.2.2.2.2.2.2.2.1 Z.2.2.2.2.2.2.2.2.1 Z.2.2.2.2.2.2.2.2.2.1 H locs c n (mN μ1 - mN μ) (mS μ1 - mS μ) (F0 (zm Z) pc ls (st.map (re (zθ Z)))) (rest.map (re (zθ Z))) (Qcc (zθ Z) cv r μ1 a9) (tA (zθ Z))) :
    GG Z M Ψ pc lv st μ (bd XF f) := by
  intro r μ' hX
  unfold bd at hX
  split at hX
  · next q μ1 =>
    obtain ⟨h1, h2, h3⟩ := k q μ1 r μ' hX
    obtain ⟨c1, c2, hM⟩ := hC q μ1 rfl
    refine ⟨Nat.le_trans c1 h1, Nat.le_trans c2 h2, fun C O H locs ls hR hS hl => ?_⟩
    obtain ⟨o1, o2, o3, o4⟩ := O
    have hr := hrun C H locs (mN μ - mN (zμ Z)) (mS μ - mS (zμ Z)) ls q μ1 hR hS hl ⟨by omega, by omega⟩ (hM C.2.2.2.2.2.2.2.2.2.2.1)
    intro T hT X
    obtain ⟨v, st₀, t, T', L, e0, X', hL, e1, e2, ⟨hv, hRl, hz, hk⟩, st⟩ := hr T hT X
    have hv' : v = (cv q).map (re (zθ Z)) := by injection hv
    subst hv'
    rw [e0] at hz hk
    have hS' : va_S (tA (zθ Z)) (zs Z).heap T'.heap (locs ++ L) := by
      refine ⟨Nat.le_trans hS.1 (by rw [e1]; exact hz), fun x g1 g2 => ?_, fun x hx => ?_⟩
      · rw [e1, hk x (Nat.lt_of_lt_of_le g1 hS.1) g2]
        exact hS.2.1 x g1 g2
      · rcases List.mem_append.mp hx with h | h
        · exact hS.2.2 x h
        · exact hL x h
    have h4 := h3 C ⟨by omega, by omega, o3, o4⟩ T'.heap (locs ++ L) ls (by rw [e1]; exact hRl) hS' hl
    rw [show mN μ1 - mN (zμ Z) = mN μ - mN (zμ Z) + (mN μ1 - mN μ) by omega, show mS μ1 - mS (zμ Z) = mS μ - mS (zμ Z) + (mS μ1 - mS μ) by omega] at h4
    obtain ⟨t2, a1, b1⟩ := h4 T' rfl X'
    refine ⟨t2, st t2 ?_, b1⟩
    have e9 : ((cv q).toList ++ rest).map (re (zθ Z)) = ((cv q).map (re (zθ Z))).toList ++ rest.map (re (zθ Z)) := by
      rw [List.map_append]
      cases cv q <;> rfl
    rw [e9] at a1
    exact a1
  · cases hX
/-- what a call's words must say -/
def CwOk (My : MI) (y : MethodName) (n : Nat) : Prop := Cond.code y My.1 My.2.2.1 My.2.2.2.2.2.1 ∈ TB ∧ Cond.initialized y.cls ∈ TB ∧ (y.cls ≠ "java/lang/invoke/MethodHandle" ∧ y.cls ≠ "java/lang/invoke/VarHandle" ∧ (parseMethodDescriptor y.desc).map (fun d => d.parameters.length) = some n)
theorem CwOk.gi {My : MI} {y : MethodName} {n : Nat} (h : CwOk My y n) : GoodIn TB (wsM y My) := fun w hw => by
  rcases List.mem_cons.mp hw with e | e
  · rw [e]
    exact ⟨h.1, TB_good _ h.1⟩
  · exact ⟨e, TB_good w e⟩
/-- the room of a callee -/
def RmOk (M My : MI) : Bool := decide (My.2.2.2.1 + 1 ≤ M.2.2.2.1 ∧ 8 + (My.2.2.1 + 11) + My.2.2.2.2.1 ≤ M.2.2.2.2.1)
theorem RmOk.use {M My : MI} (C : Cx Z M) (h : RmOk M My = true) {a b : Nat} : (rmM My a b).frames + 1 ≤ (zR Z).frames ∧ 8 + (My.2.2.1 + 11) + (rmM My a b).locals ≤ (zR Z).locals := by
  have h1 := of_decide_eq_true h
  obtain ⟨_, _, _, _, _, _, _, h2, h3, _⟩ := C
  rw [h2, h3]
  exact h1
def stOk (rest : List Value) : Bool := decide ((rest.map (fun v => v.category)).sum ≤ 8)
theorem stOk.use {θ : Th} {rest : List Value} {m : MethodId} {ls : Array Slot} {st2 : List Value} (h : stOk rest = true) : 2 * (F0 m pc ls st2).monitorRoom + ((rest.map (re θ)).map fun v => v.category).sum ≤ 8 := by
  have h1 := of_decide_eq_true h
  have e : (rest.map (re θ)).map (fun v => v.category) = rest.map (fun v => v.category) := by
    rw [List.map_map]
    exact List.map_congr_left (fun v _ => re_cat θ v)
  rw [e]
  show 2 * 0 + _ ≤ 8
  omega
theorem g_callS {β : Type} {cv : β → Option Value} {y : MethodName} {My : MI} {n0 index : Nat} {vs rest : List Value} {XF : Option (β × Mm)} {f : β → Mm → Option (α × Mm)} (hcr : Crt (zl Z) (zθ Z) y My cv vs μ XF) (hcw : CwOk My y n0) (hrm : RmOk M My = true) (hso : stOk rest = true) (hl : Cond.methodLink M.2.1 index y ∈ TB) (hs : Cond.static y ∈ TB) (hn : vs.length = n0) (hst : st = vs.reverse ++ rest) (d : decode M.1 pc = .ok (.invokestatic index, 3)) (k : ∀ (r : β) (μ1 : Mm), GG Z M Ψ (pc + 3) lv ((cv r).toList ++ rest) μ1 (f r μ1)) : GG Z M Ψ pc lv st μ (bd XF f) :=
  g_call hcr k (fun C H locs c n ls r μ1 hR hS hv hf hM => va_runS (As := vs.map (re (zθ Z))) ⟨C.1, C.2.1, C.2.2.1, C.2.2.2.1, C.2.2.2.2.1⟩ hM ⟨callB_of n0 C.2.2.2.2.1 hcw.gi rfl rfl rfl (C.2.2.2.2.1 _ hcw.2.1) (C.2.2.2.2.1 _ hl) hcw.2.2 (RmOk.use C hrm), C.2.2.2.2.1 _ hs⟩ ⟨Pcc_blind _ _ _, fun U hU hW => Pcc_at C.2.2.2.2.2.2.1 hR hS hU hW⟩ rfl (by rw [List.length_map]; exact hn) hv.1 (by show st.map _ = _; rw [hst, List.map_append, List.map_reverse]) (stOk.use hso) d hf)
theorem g_callSN {β : Type} {cv : β → Option Value} {y : MethodName} {My : MI} {n0 index : Nat} {host : String} {vs rest : List Value} {XF : Option (β × Mm)} {f : β → Mm → Option (α × Mm)} (hcr : Crt (zl Z) (zθ Z) y My cv vs μ XF) (hcw : CwOk My y n0) (hrm : RmOk M My = true) (hso : stOk rest = true) (hl : Cond.methodLinkNest M.2.1 index y host ∈ NB) (hs : Cond.static y ∈ TB) (hn : vs.length = n0) (hst : st = vs.reverse ++ rest) (d : decode M.1 pc = .ok (.invokestatic index, 3)) (k : ∀ (r : β) (μ1 : Mm), GG Z M Ψ (pc + 3) lv ((cv r).toList ++ rest) μ1 (f r μ1)) : GG Z M Ψ pc lv st μ (bd XF f) :=
  g_call hcr k (fun C H locs c n ls r μ1 hR hS hv hf hM => va_runSN (As := vs.map (re (zθ Z))) ⟨C.1, C.2.1, C.2.2.1, C.2.2.2.1, C.2.2.2.2.1⟩ hM ⟨va_cnB n0 C.2.2.2.2.1 hcw.gi rfl rfl rfl (C.2.2.2.2.2.2.1.2.1 _ hl) (C.2.2.2.2.1 _ hcw.2.1) hcw.2.2 (RmOk.use C hrm), C.2.2.2.2.1 _ hs, trivial⟩ ⟨Pcc_blind _ _ _, fun U hU hW => Pcc_at C.2.2.2.2.2.2.1 hR hS hU hW⟩ rfl (by rw [List.length_map]; exact hn) hv.1 (by show st.map _ = _; rw [hst, List.map_append, List.map_reverse]) (stOk.use hso) d hf)
theorem recv_at {θ : Th} {s : State} {μ : Mm} {H : Heap} {a c0 N : Nat} {C0 : String} {T : u_T} (hcl : ClOk c0 C0 T N) (hK : va_K (tD θ) cl9 (tys9 θ) s) (hR : Rl θ μ H) (ho : okO μ a c0 = true) : ∃ cell : Cell, H[ad θ a]? = some cell ∧ cell.vm.isStatics = false ∧ s.vm.findClass C0 = some cell.cls := by
  obtain ⟨hc, hN, h50, -, -, -⟩ := hcl
  have hsh := okO_spec ho
  have hat := hR.2.1 a _ hsh (by show c0 ≠ 50; omega)
  rw [el_obj _ _ _ h50] at hat
  rw [Rl_ad hR hsh]
  exact va_recv hK (vaP1 hat) (ci := c0) (q0 := 0) hc rfl
theorem g_callV {β : Type} {cv : β → Option Value} {y : MethodName} {My : MI} {n0 index a c0 N : Nat} {C0 : String} {T : u_T} {vs rest : List Value} {XF : Option (β × Mm)} {f : β → Mm → Option (α × Mm)} (hcl : ClOk c0 C0 T N) (hcr : Crt (zl Z) (zθ Z) y My cv (.ref a :: vs) μ XF) (hcw : CwOk My y n0) (hrm : RmOk M My = true) (hso : stOk rest = true) (hl : Cond.methodLink M.2.1 index y ∈ TB) (hi : Cond.instanceMethod y ∈ TB) (hs : Cond.selects C0 y y ∈ TB) (hn : vs.length = n0) (hst : st = vs.reverse ++ .ref a :: rest) (d : decode M.1 pc = .ok (.invokevirtual index, 3)) (k : ∀ (r : β) (μ1 : Mm), GG Z M Ψ (pc + 3) lv ((cv r).toList ++ rest) μ1 (f r μ1)) : GG Z M Ψ pc lv st μ (gd (okO μ a c0) (bd XF f)) :=
  g_gd fun ho => g_call hcr k (fun C H locs c n ls r μ1 hR hS hv hf hM => va_runV (As := vs.map (re (zθ Z))) (b := ad (zθ Z) a) ⟨C.1, C.2.1, C.2.2.1, C.2.2.2.1, C.2.2.2.2.1⟩ hM ⟨callB_of n0 C.2.2.2.2.1 hcw.gi rfl rfl rfl (C.2.2.2.2.1 _ hcw.2.1) (C.2.2.2.2.1 _ hl) hcw.2.2 (RmOk.use C hrm), C.2.2.2.2.1 _ hi, C.2.2.2.2.1 _ hs⟩ ⟨Pcc_blind _ _ _, recv_at hcl C.2.2.2.2.2.2.1.1 hR ho, fun U hU hW => Pcc_at C.2.2.2.2.2.2.1 hR hS hU hW⟩ rfl (by rw [List.length_map]; exact hn) hv.1 (by show st.map _ = _; rw [hst, List.map_append, List.map_reverse]; rfl) (stOk.use hso) d hf)
theorem g_callVN {β : Type} {cv : β → Option Value} {y : MethodName} {My : MI} {n0 index a c0 N : Nat} {host : String} {C0 : String} {T : u_T} {vs rest : List Value} {XF : Option (β × Mm)} {f : β → Mm → Option (α × Mm)} (hcl : ClOk c0 C0 T N) (hcr : Crt (zl Z) (zθ Z) y My cv (.ref a :: vs) μ XF) (hcw : CwOk My y n0) (hrm : RmOk M My = true) (hso : stOk rest = true) (hl : Cond.methodLinkNest M.2.1 index y host ∈ NB) (hi : Cond.instanceMethod y ∈ TB) (hs : Cond.selects C0 y y ∈ TB) (hn : vs.length = n0) (hst : st = vs.reverse ++ .ref a :: rest) (d : decode M.1 pc = .ok (.invokevirtual index, 3)) (k : ∀ (r : β) (μ1 : Mm), GG Z M Ψ (pc + 3) lv ((cv r).toList ++ rest) μ1 (f r μ1)) : GG Z M Ψ pc lv st μ (gd (okO μ a c0) (bd XF f)) :=
  g_gd fun ho => g_call hcr k (fun C H locs c n ls r μ1 hR hS hv hf hM => va_runVN (As := vs.map (re (zθ Z))) (b := ad (zθ Z) a) ⟨C.1, C.2.1, C.2.2.1, C.2.2.2.1, C.2.2.2.2.1⟩ hM ⟨va_cnB n0 C.2.2.2.2.1 hcw.gi rfl rfl rfl (C.2.2.2.2.2.2.1.2.1 _ hl) (C.2.2.2.2.1 _ hcw.2.1) hcw.2.2 (RmOk.use C hrm), C.2.2.2.2.1 _ hi, C.2.2.2.2.1 _ hs⟩ ⟨Pcc_blind _ _ _, recv_at hcl C.2.2.2.2.2.2.1.1 hR ho, fun U hU hW => Pcc_at C.2.2.2.2.2.2.1 hR hS hU hW⟩ rfl (by rw [List.length_map]; exact hn) hv.1 (by show st.map _ = _; rw [hst, List.map_append, List.map_reverse]; rfl) (stOk.use hso) d hf)
theorem g_callI {β : Type} {cv : β → Option Value} {y : MethodName} {My : MI} {n0 index a : Nat} {vs rest : List Value} {XF : Option (β × Mm)} {f : β → Mm → Option (α × Mm)} (hcr : Crt (zl Z) (zθ Z) y My cv (.ref a :: vs) μ XF) (hcw : CwOk My y n0) (hrm : RmOk M My = true) (hso : stOk rest = true) (hl : Cond.methodLink M.2.1 index y ∈ TB) (hi : Cond.instanceMethod y ∈ TB) (hnm : y.name = "<init>") (hrt : My.2.2.2.2.2.1 = none) (hn : vs.length = n0) (hst : st = vs.reverse ++ .ref a :: rest) (d : decode M.1 pc = .ok (.invokespecial index, 3)) (k : ∀ (r : β) (μ1 : Mm), GG Z M Ψ (pc + 3) lv ((cv r).toList ++ rest) μ1 (f r μ1)) : GG Z M Ψ pc lv st μ (bd XF f) :=
  g_call hcr k (fun C H locs c n ls r μ1 hR hS hv hf hM => va_runI (As := vs.map (re (zθ Z))) (b := ad (zθ Z) a) ⟨C.1, C.2.1, C.2.2.1, C.2.2.2.1, C.2.2.2.2.1⟩ hM ⟨callB_of n0 C.2.2.2.2.1 hcw.gi (by unfold wsM; rw [hrt]) rfl rfl (C.2.2.2.2.1 _ hcw.2.1) (C.2.2.2.2.1 _ hl) hcw.2.2 (RmOk.use C hrm), hnm, C.2.2.2.2.1 _ hi⟩ ⟨Pcc_blind _ _ _, fun U hU hW => Pcc_at C.2.2.2.2.2.2.1 hR hS hU hW⟩ rfl (by rw [List.length_map]; exact hn) hv.1 (by show st.map _ = _; rw [hst, List.map_append, List.map_reverse]; rfl) (stOk.use hso) d hf)
theorem g_callIN {β : Type} {cv : β → Option Value} {y : MethodName} {My : MI} {n0 index a : Nat} {host : String} {vs rest : List Value} {XF : Option (β × Mm)} {f : β → Mm → Option (α × Mm)} (hcr : Crt (zl Z) (zθ Z) y My cv (.ref a :: vs) μ XF) (hcw : CwOk My y n0) (hrm : RmOk M My = true) (hso : stOk rest = true) (hl : Cond.methodLinkNest M.2.1 index y host ∈ NB) (hi : Cond.instanceMethod y ∈ TB) (hnm : y.name = "<init>") (hrt : My.2.2.2.2.2.1 = none) (hn : vs.length = n0) (hst : st = vs.reverse ++ .ref a :: rest) (d : decode M.1 pc = .ok (.invokespecial index, 3)) (k : ∀ (r : β) (μ1 : Mm), GG Z M Ψ (pc + 3) lv ((cv r).toList ++ rest) μ1 (f r μ1)) : GG Z M Ψ pc lv st μ (bd XF f) :=
  g_call hcr k (fun C H locs c n ls r μ1 hR hS hv hf hM => va_runIN (As := vs.map (re (zθ Z))) (b := ad (zθ Z) a) ⟨C.1, C.2.1, C.2.2.1, C.2.2.2.1, C.2.2.2.2.1⟩ hM ⟨va_cnB n0 C.2.2.2.2.1 hcw.gi (by unfold wsM; rw [hrt]) rfl rfl (C.2.2.2.2.2.2.1.2.1 _ hl) (C.2.2.2.2.1 _ hcw.2.1) hcw.2.2 (RmOk.use C hrm), hnm, C.2.2.2.2.1 _ hi⟩ ⟨Pcc_blind _ _ _, fun U hU hW => Pcc_at C.2.2.2.2.2.2.1 hR hS hU hW⟩ rfl (by rw [List.length_map]; exact hn) hv.1 (by show st.map _ = _; rw [hst, List.map_append, List.map_reverse]; rfl) (stOk.use hso) d hf)
theorem g_callSI {y : MethodName} {My : MI} {n0 index : Nat} {vs rest : List Value} {XF : Option (Int32 × Mm)} {f : Int32 → Mm → Option (α × Mm)} (hcr : Crt (zl Z) (zθ Z) y My cvI vs μ XF) (hcw : CwOk My y n0) (hrm : RmOk M My = true) (hso : stOk rest = true) (hl : Cond.methodLink M.2.1 index y ∈ TB) (hs : Cond.static y ∈ TB) (hn : vs.length = n0) (hst : st = vs.reverse ++ rest) (d : decode M.1 pc = .ok (.invokestatic index, 3)) (k : ∀ (r : Int32) (μ1 : Mm), GG Z M Ψ (pc + 3) lv (.int r :: rest) μ1 (f r μ1)) : GG Z M Ψ pc lv st μ (bd XF f) := g_callS (cv := cvI) hcr hcw hrm hso hl hs hn hst d k
theorem g_callSL {y : MethodName} {My : MI} {n0 index : Nat} {vs rest : List Value} {XF : Option (Int64 × Mm)} {f : Int64 → Mm → Option (α × Mm)} (hcr : Crt (zl Z) (zθ Z) y My cvL vs μ XF) (hcw : CwOk My y n0) (hrm : RmOk M My = true) (hso : stOk rest = true) (hl : Cond.methodLink M.2.1 index y ∈ TB) (hs : Cond.static y ∈ TB) (hn : vs.length = n0) (hst : st = vs.reverse ++ rest) (d : decode M.1 pc = .ok (.invokestatic index, 3)) (k : ∀ (r : Int64) (μ1 : Mm), GG Z M Ψ (pc + 3) lv (.long r :: rest) μ1 (f r μ1)) : GG Z M Ψ pc lv st μ (bd XF f) := g_callS (cv := cvL) hcr hcw hrm hso hl hs hn hst d k
theorem g_callSV {y : MethodName} {My : MI} {n0 index : Nat} {vs rest : List Value} {XF : Option (Unit × Mm)} {f : Unit → Mm → Option (α × Mm)} (hcr : Crt (zl Z) (zθ Z) y My cvV vs μ XF) (hcw : CwOk My y n0) (hrm : RmOk M My = true) (hso : stOk rest = true) (hl : Cond.methodLink M.2.1 index y ∈ TB) (hs : Cond.static y ∈ TB) (hn : vs.length = n0) (hst : st = vs.reverse ++ rest) (d : decode M.1 pc = .ok (.invokestatic index, 3)) (k : ∀ (r : Unit) (μ1 : Mm), GG Z M Ψ (pc + 3) lv rest μ1 (f r μ1)) : GG Z M Ψ pc lv st μ (bd XF f) := g_callS (cv := cvV) hcr hcw hrm hso hl hs hn hst d k
theorem g_callSNI {y : MethodName} {My : MI} {n0 index : Nat} {host : String} {vs rest : List Value} {XF : Option (Int32 × Mm)} {f : Int32 → Mm → Option (α × Mm)} (hcr : Crt (zl Z) (zθ Z) y My cvI vs μ XF) (hcw : CwOk My y n0) (hrm : RmOk M My = true) (hso : stOk rest = true) (hl : Cond.methodLinkNest M.2.1 index y host ∈ NB) (hs : Cond.static y ∈ TB) (hn : vs.length = n0) (hst : st = vs.reverse ++ rest) (d : decode M.1 pc = .ok (.invokestatic index, 3)) (k : ∀ (r : Int32) (μ1 : Mm), GG Z M Ψ (pc + 3) lv (.int r :: rest) μ1 (f r μ1)) : GG Z M Ψ pc lv st μ (bd XF f) := g_callSN (cv := cvI) hcr hcw hrm hso hl hs hn hst d k
theorem g_callSNL {y : MethodName} {My : MI} {n0 index : Nat} {host : String} {vs rest : List Value} {XF : Option (Int64 × Mm)} {f : Int64 → Mm → Option (α × Mm)} (hcr : Crt (zl Z) (zθ Z) y My cvL vs μ XF) (hcw : CwOk My y n0) (hrm : RmOk M My = true) (hso : stOk rest = true) (hl : Cond.methodLinkNest M.2.1 index y host ∈ NB) (hs : Cond.static y ∈ TB) (hn : vs.length = n0) (hst : st = vs.reverse ++ rest) (d : decode M.1 pc = .ok (.invokestatic index, 3)) (k : ∀ (r : Int64) (μ1 : Mm), GG Z M Ψ (pc + 3) lv (.long r :: rest) μ1 (f r μ1)) : GG Z M Ψ pc lv st μ (bd XF f) := g_callSN (cv := cvL) hcr hcw hrm hso hl hs hn hst d k
theorem g_callSNV {y : MethodName} {My : MI} {n0 index : Nat} {host : String} {vs rest : List Value} {XF : Option (Unit × Mm)} {f : Unit → Mm → Option (α × Mm)} (hcr : Crt (zl Z) (zθ Z) y My cvV vs μ XF) (hcw : CwOk My y n0) (hrm : RmOk M My = true) (hso : stOk rest = true) (hl : Cond.methodLinkNest M.2.1 index y host ∈ NB) (hs : Cond.static y ∈ TB) (hn : vs.length = n0) (hst : st = vs.reverse ++ rest) (d : decode M.1 pc = .ok (.invokestatic index, 3)) (k : ∀ (r : Unit) (μ1 : Mm), GG Z M Ψ (pc + 3) lv rest μ1 (f r μ1)) : GG Z M Ψ pc lv st μ (bd XF f) := g_callSN (cv := cvV) hcr hcw hrm hso hl hs hn hst d k
theorem g_callVI {y : MethodName} {My : MI} {n0 index a c0 N : Nat} {C0 : String} {T : u_T} {vs rest : List Value} {XF : Option (Int32 × Mm)} {f : Int32 → Mm → Option (α × Mm)} (hcl : ClOk c0 C0 T N) (hcr : Crt (zl Z) (zθ Z) y My cvI (.ref a :: vs) μ XF) (hcw : CwOk My y n0) (hrm : RmOk M My = true) (hso : stOk rest = true) (hl : Cond.methodLink M.2.1 index y ∈ TB) (hi : Cond.instanceMethod y ∈ TB) (hs : Cond.selects C0 y y ∈ TB) (hn : vs.length = n0) (hst : st = vs.reverse ++ .ref a :: rest) (d : decode M.1 pc = .ok (.invokevirtual index, 3)) (k : ∀ (r : Int32) (μ1 : Mm), GG Z M Ψ (pc + 3) lv (.int r :: rest) μ1 (f r μ1)) : GG Z M Ψ pc lv st μ (gd (okO μ a c0) (bd XF f)) := g_callV (cv := cvI) hcl hcr hcw hrm hso hl hi hs hn hst d k
theorem g_callVL {y : MethodName} {My : MI} {n0 index a c0 N : Nat} {C0 : String} {T : u_T} {vs rest : List Value} {XF : Option (Int64 × Mm)} {f : Int64 → Mm → Option (α × Mm)} (hcl : ClOk c0 C0 T N) (hcr : Crt (zl Z) (zθ Z) y My cvL (.ref a :: vs) μ XF) (hcw : CwOk My y n0) (hrm : RmOk M My = true) (hso : stOk rest = true) (hl : Cond.methodLink M.2.1 index y ∈ TB) (hi : Cond.instanceMethod y ∈ TB) (hs : Cond.selects C0 y y ∈ TB) (hn : vs.length = n0) (hst : st = vs.reverse ++ .ref a :: rest) (d : decode M.1 pc = .ok (.invokevirtual index, 3)) (k : ∀ (r : Int64) (μ1 : Mm), GG Z M Ψ (pc + 3) lv (.long r :: rest) μ1 (f r μ1)) : GG Z M Ψ pc lv st μ (gd (okO μ a c0) (bd XF f)) := g_callV (cv := cvL) hcl hcr hcw hrm hso hl hi hs hn hst d k
theorem g_callVV {y : MethodName} {My : MI} {n0 index a c0 N : Nat} {C0 : String} {T : u_T} {vs rest : List Value} {XF : Option (Unit × Mm)} {f : Unit → Mm → Option (α × Mm)} (hcl : ClOk c0 C0 T N) (hcr : Crt (zl Z) (zθ Z) y My cvV (.ref a :: vs) μ XF) (hcw : CwOk My y n0) (hrm : RmOk M My = true) (hso : stOk rest = true) (hl : Cond.methodLink M.2.1 index y ∈ TB) (hi : Cond.instanceMethod y ∈ TB) (hs : Cond.selects C0 y y ∈ TB) (hn : vs.length = n0) (hst : st = vs.reverse ++ .ref a :: rest) (d : decode M.1 pc = .ok (.invokevirtual index, 3)) (k : ∀ (r : Unit) (μ1 : Mm), GG Z M Ψ (pc + 3) lv rest μ1 (f r μ1)) : GG Z M Ψ pc lv st μ (gd (okO μ a c0) (bd XF f)) := g_callV (cv := cvV) hcl hcr hcw hrm hso hl hi hs hn hst d k
theorem g_callVNI {y : MethodName} {My : MI} {n0 index a c0 N : Nat} {host C0 : String} {T : u_T} {vs rest : List Value} {XF : Option (Int32 × Mm)} {f : Int32 → Mm → Option (α × Mm)} (hcl : ClOk c0 C0 T N) (hcr : Crt (zl Z) (zθ Z) y My cvI (.ref a :: vs) μ XF) (hcw : CwOk My y n0) (hrm : RmOk M My = true) (hso : stOk rest = true) (hl : Cond.methodLinkNest M.2.1 index y host ∈ NB) (hi : Cond.instanceMethod y ∈ TB) (hs : Cond.selects C0 y y ∈ TB) (hn : vs.length = n0) (hst : st = vs.reverse ++ .ref a :: rest) (d : decode M.1 pc = .ok (.invokevirtual index, 3)) (k : ∀ (r : Int32) (μ1 : Mm), GG Z M Ψ (pc + 3) lv (.int r :: rest) μ1 (f r μ1)) : GG Z M Ψ pc lv st μ (gd (okO μ a c0) (bd XF f)) := g_callVN (cv := cvI) hcl hcr hcw hrm hso hl hi hs hn hst d k
theorem g_callVNL {y : MethodName} {My : MI} {n0 index a c0 N : Nat} {host C0 : String} {T : u_T} {vs rest : List Value} {XF : Option (Int64 × Mm)} {f : Int64 → Mm → Option (α × Mm)} (hcl : ClOk c0 C0 T N) (hcr : Crt (zl Z) (zθ Z) y My cvL (.ref a :: vs) μ XF) (hcw : CwOk My y n0) (hrm : RmOk M My = true) (hso : stOk rest = true) (hl : Cond.methodLinkNest M.2.1 index y host ∈ NB) (hi : Cond.instanceMethod y ∈ TB) (hs : Cond.selects C0 y y ∈ TB) (hn : vs.length = n0) (hst : st = vs.reverse ++ .ref a :: rest) (d : decode M.1 pc = .ok (.invokevirtual index, 3)) (k : ∀ (r : Int64) (μ1 : Mm), GG Z M Ψ (pc + 3) lv (.long r :: rest) μ1 (f r μ1)) : GG Z M Ψ pc lv st μ (gd (okO μ a c0) (bd XF f)) := g_callVN (cv := cvL) hcl hcr hcw hrm hso hl hi hs hn hst d k
theorem g_callVNV {y : MethodName} {My : MI} {n0 index a c0 N : Nat} {host C0 : String} {T : u_T} {vs rest : List Value} {XF : Option (Unit × Mm)} {f : Unit → Mm → Option (α × Mm)} (hcl : ClOk c0 C0 T N) (hcr : Crt (zl Z) (zθ Z) y My cvV (.ref a :: vs) μ XF) (hcw : CwOk My y n0) (hrm : RmOk M My = true) (hso : stOk rest = true) (hl : Cond.methodLinkNest M.2.1 index y host ∈ NB) (hi : Cond.instanceMethod y ∈ TB) (hs : Cond.selects C0 y y ∈ TB) (hn : vs.length = n0) (hst : st = vs.reverse ++ .ref a :: rest) (d : decode M.1 pc = .ok (.invokevirtual index, 3)) (k : ∀ (r : Unit) (μ1 : Mm), GG Z M Ψ (pc + 3) lv rest μ1 (f r μ1)) : GG Z M Ψ pc lv st μ (gd (okO μ a c0) (bd XF f)) := g_callVN (cv := cvV) hcl hcr hcw hrm hso hl hi hs hn hst d k
theorem g_callIV {y : MethodName} {My : MI} {n0 index a : Nat} {vs rest : List Value} {XF : Option (Unit × Mm)} {f : Unit → Mm → Option (α × Mm)} (hcr : Crt (zl Z) (zθ Z) y My cvV (.ref a :: vs) μ XF) (hcw : CwOk My y n0) (hrm : RmOk M My = true) (hso : stOk rest = true) (hl : Cond.methodLink M.2.1 index y ∈ TB) (hi : Cond.instanceMethod y ∈ TB) (hnm : y.name = "<init>") (hrt : My.2.2.2.2.2.1 = none) (hn : vs.length = n0) (hst : st = vs.reverse ++ .ref a :: rest) (d : decode M.1 pc = .ok (.invokespecial index, 3)) (k : ∀ (r : Unit) (μ1 : Mm), GG Z M Ψ (pc + 3) lv rest μ1 (f r μ1)) : GG Z M Ψ pc lv st μ (bd XF f) := g_callI (cv := cvV) hcr hcw hrm hso hl hi hnm hrt hn hst d k
theorem g_callINV {y : MethodName} {My : MI} {n0 index a : Nat} {host : String} {vs rest : List Value} {XF : Option (Unit × Mm)} {f : Unit → Mm → Option (α × Mm)} (hcr : Crt (zl Z) (zθ Z) y My cvV (.ref a :: vs) μ XF) (hcw : CwOk My y n0) (hrm : RmOk M My = true) (hso : stOk rest = true) (hl : Cond.methodLinkNest M.2.1 index y host ∈ NB) (hi : Cond.instanceMethod y ∈ TB) (hnm : y.name = "<init>") (hrt : My.2.2.2.2.2.1 = none) (hn : vs.length = n0) (hst : st = vs.reverse ++ .ref a :: rest) (d : decode M.1 pc = .ok (.invokespecial index, 3)) (k : ∀ (r : Unit) (μ1 : Mm), GG Z M Ψ (pc + 3) lv rest μ1 (f r μ1)) : GG Z M Ψ pc lv st μ (bd XF f) := g_callIN (cv := cvV) hcr hcw hrm hso hl hi hnm hrt hn hst d k
theorem g_objInit {index a : Nat} (hl : Cond.methodLink M.2.1 index Lib.objectInit ∈ TB) (hi : Cond.instanceMethod Lib.objectInit ∈ TB) (hc : Cond.code Lib.objectInit ⟨#[0xb1]⟩ 1 none ∈ TB) (hrm : decide (1 ≤ M.2.2.2.1 ∧ 20 ≤ M.2.2.2.2.1) = true) (hso : stOk st = true) (d : decode M.1 pc = .ok (.invokespecial index, 3)) (k : GG Z M Ψ (pc + 3) lv st μ X) : GG Z M Ψ pc lv (.ref a :: st) μ X :=
  g_pure k (fun C H locs c n Q ls hR hS hv w => by
    have h1 := of_decide_eq_true hrm
    have h2 := stOk.use (pc := pc) (θ := zθ Z) (m := zm Z) (ls := ls) (st2 := (Value.ref a :: st).map (re (zθ Z))) hso
    obtain ⟨c1, c2, c3, c4, c5, c6, c7, c8, c9, c10, c11⟩ := C
    exact W.objInit c1 c2 c4 (c5 _ hl) (c5 _ hi) (c5 _ hc) rfl (by rw [c3]; exact hv.1) rfl d (by show 1 ≤ (zR Z).frames; rw [c8]; exact h1.1) (by
      show _ ≤ (zR Z).locals
      rw [c9]
      have h3 := h1.2
      omega) w)
/-! returns -/
theorem va_F_S {A : Nat → Prop} {s t : State} {H : Heap} {locs : List Loc} (h : va_S A s.heap H locs) (ht : t.heap = H) : va_F A s t := h.F ht
theorem g_ireturn {v : Int32} (hr : M.2.2.2.2.2.1 = some .int) (d : decode M.1 pc = .ok (.ireturn, 1)) : GG Z M (PsN Z cvI) pc lv [.int v] μ (some (v, μ)) := by
  intro r μ' hX
  cases hX
  refine ⟨Nat.le_refl _, Nat.le_refl _, fun C O H locs ls hR hS hl => ?_⟩
  exact W.iret C.1 C.2.1 (C.2.2.2.2.2.2.2.2.2.1.trans hr) (fun t ht hW => ⟨rfl, by rw [ht]; exact hR, hS.F ht⟩) hS.2.2 d C.2.2.2.2.2.1
theorem g_zreturn {v : Int32} (hr : M.2.2.2.2.2.1 = some .boolean) (d : decode M.1 pc = .ok (.ireturn, 1)) : GG Z M (PsN Z cvI) pc lv [.int v] μ (gd (decide (v = 0 ∨ v = 1)) (some (v, μ))) := by
  refine g_gd fun hb => ?_
  have hb9 := of_decide_eq_true hb
  intro r μ' hX
  cases hX
  refine ⟨Nat.le_refl _, Nat.le_refl _, fun C O H locs ls hR hS hl => ?_⟩
  exact W.zret C.1 C.2.1 (C.2.2.2.2.2.2.2.2.2.1.trans hr) (by rcases hb9 with e | e <;> (rw [e]; rfl)) (fun t ht hW => ⟨rfl, by rw [ht]; exact hR, hS.F ht⟩) hS.2.2 d C.2.2.2.2.2.1
theorem g_zreturnK {v : Int32} (hr : M.2.2.2.2.2.1 = some .boolean) (hv : v = 0 ∨ v = 1) (d : decode M.1 pc = .ok (.ireturn, 1)) : GG Z M (PsN Z cvI) pc lv [.int v] μ (some (v, μ)) := by
  have h := g_zreturn (Z := Z) (lv := lv) (μ := μ) (v := v) hr d
  rw [show decide (v = 0 ∨ v = 1) = true from decide_eq_true hv] at h
  exact h
theorem g_lreturn {v : Int64} (hr : M.2.2.2.2.2.1 = some .long) (d : decode M.1 pc = .ok (.lreturn, 1)) : GG Z M (PsN Z cvL) pc lv [.long v] μ (some (v, μ)) := by
  intro r μ' hX
  cases hX
  refine ⟨Nat.le_refl _, Nat.le_refl _, fun C O H locs ls hR hS hl => ?_⟩
  exact W.lret C.1 C.2.1 (C.2.2.2.2.2.2.2.2.2.1.trans hr) (fun t ht hW => ⟨rfl, by rw [ht]; exact hR, hS.F ht⟩) hS.2.2 d C.2.2.2.2.2.1
theorem g_return (hr : M.2.2.2.2.2.1 = none) (d : decode M.1 pc = .ok (.return_, 1)) : GG Z M (PsN Z cvV) pc lv [] μ (some ((), μ)) := by
  intro r μ' hX
  cases hX
  refine ⟨Nat.le_refl _, Nat.le_refl _, fun C O H locs ls hR hS hl => ?_⟩
  exact W.vret C.1 C.2.1 (C.2.2.2.2.2.2.2.2.2.1.trans hr) (fun t ht hW => ⟨rfl, by rw [ht]; exact hR, hS.F ht⟩) hS.2.2 d C.2.2.2.2.2.1
end G4
/-! a method's certificate out of its walk -/
def lvA : List Value → List (Option Value)
  | [] => []
  | v :: vs => if v.category = 2 then some v :: none :: lvA vs else some v :: lvA vs
theorem lvA_in (θ : Th) : ∀ (vs : List Value) (j i : Nat) (v : Value), (lvA vs)[i]? = some (some v) → (j + i, re θ v) ∈ lv_args j (vs.map (re θ))
  | [], j, i, v, h => by simp [lvA] at h
  | u :: vs, j, i, v, h => by
    show _ ∈ (j, re θ u) :: lv_args (if (re θ u).category = 2 then j + 2 else j + 1) (vs.map (re θ))
    rw [re_cat]
    unfold lvA at h
    by_cases hc : u.category = 2
    · rw [if_pos hc] at h ⊢
      match i, h with
      | 0, h => simp at h; subst h; exact List.mem_cons_self
      | 1, h => simp at h
      | i + 2, h =>
        have h1 := lvA_in θ vs (j + 2) i v (by simpa using h)
        rw [show j + (i + 2) = j + 2 + i by omega]
        exact List.mem_cons_of_mem _ h1
    · rw [if_neg hc] at h ⊢
      match i, h with
      | 0, h => simp at h; subst h; exact List.mem_cons_self
      | i + 1, h =>
        have h1 := lvA_in θ vs (j + 1) i v (by simpa using h)
        rw [show j + (i + 1) = j + 1 + i by omega]
        exact List.mem_cons_of_mem _ h1
theorem lvA_ok {θ : Th} {vs : List Value} {ls : Array Slot} {n k : Nat} (h : lv_has ls n (lv_args 0 (vs.map (re θ)))) : lvh θ ls n (lvA vs ++ List.replicate k none) := by
  refine ⟨h.1, h.2.1, fun i v hi => ?_⟩
  by_cases hl : i < (lvA vs).length
  · rw [List.getElem?_append_left hl] at hi
    have h1 := lvA_in θ vs 0 i v hi
    rw [Nat.zero_add] at h1
    exact h.2.2 _ h1
  · rw [List.getElem?_append_right (by omega)] at hi
    rw [List.getElem?_replicate] at hi
    split at hi <;> simp at hi
theorem lgl_re (θ : Th) : ∀ vs : List Value, (lg_sl (vs.map (re θ))).length = (lg_sl vs).length
  | [] => rfl
  | v :: vs => by
    have h := lgl_re θ vs
    unfold lg_sl at h ⊢
    simp only [List.map_cons, List.flatMap_cons, List.length_append, re_cat]
    rw [h]
    split <;> rfl
theorem crt_of {β : Type} {l : Launch} {θ : Th} {y : MethodName} {M : MI} {cv : β → Option Value} {vs : List Value} {μ : Mm} {X : Option (β × Mm)} (k : Nat) (hy : plainName y.cls = true) (ho : y.cls = M.2.1) (hnm : y.name = M.2.2.2.2.2.2) (hln : (lg_sl vs).length ≤ M.2.2.1)
    (h : ∀ Z : Zx, zμ Z = μ → GG Z M (PsN Z cv) 0 (lvA vs ++ List.replicate k none) [] μ X) : Crt l θ y M cv vs μ X := by
  intro r μ' hX
  obtain ⟨h1, h2, -⟩ := h (Program.bare "X" "m" "()V", l, { classPath := fun _ => none }, rmM M 0 0, default, default, #[], [], default, { maxStack := 0, maxLocals := 0, code := ⟨#[]⟩, exceptionTable := #[], attributes := #[] }, μ, θ) rfl r μ' hX
  refine ⟨h1, h2, fun hl => ?_⟩
  refine Met.ofW (cc := M.1) (maxL := M.2.2.1) (ret := M.2.2.2.2.2.1) hy rfl ?_
  intro p e s m args below meth c s₁ B hml hv
  obtain ⟨rfl, hR, hBs⟩ := hv
  have hts := atoms_spec (ws := wsM y M) B.pre
  have hown : s.vm.findClass y.cls = some m.cls := findClass_of_methodNamed B.named
  have hnm2 : meth.name = y.name := (name_of_methodNamed B.named B.method).1
  obtain ⟨-, -, h3⟩ := h (p, l, e, (headSpec (wsM y M) (rmM M (mN μ' - mN μ) (mS μ' - mS μ))).room, s, m, (vs.map (re θ)).toArray, below, meth, c, μ, θ) rfl r μ' hX
  have hlv := lv_entry (vs.map (re θ)) (n := M.2.2.1) (by rw [lgl_re]; exact hln)
  rw [lg_entry_eq]
  have h4 := h3 ⟨B.exec, B.bytes, hml, by rw [← ho]; exact hown, fun w hw => hts w (List.mem_cons_of_mem _ hw), B.notSynchronized, hBs, rfl, rfl, B.returns, hl, hnm2.trans hnm, hR.1⟩
    ⟨Nat.le_refl _, Nat.le_refl _, by show mN μ' ≤ mN μ + (mN μ' - mN μ); omega, by show mS μ' ≤ mS μ + (mS μ' - mS μ); omega⟩ s.heap [] _ hR va_S.rf (lvA_ok (k := k) hlv)
  rw [show zμ (p, l, e, (headSpec (wsM y M) (rmM M (mN μ' - mN μ) (mS μ' - mS μ))).room, s, m, (vs.map (re θ)).toArray, below, meth, c, μ, θ) = μ from rfl, Nat.sub_self, Nat.sub_self] at h4
  exact h4
theorem crt_of3 {β : Type} {l : Launch} {θ : Th} {y : MethodName} {M : MI} {cv : β → Option Value} {vs : List Value} {μ : Mm} {X : Option (β × Mm)} (k : Nat) (hy : plainName y.cls = true) (ho : y.cls = M.2.1) (hnm : y.name = M.2.2.2.2.2.2) (hln : (lg_sl vs).length ≤ M.2.2.1)
    (h : ∀ Z : Zx, zμ Z = μ → zl Z = l → zθ Z = θ → GG Z M (PsN Z cv) 0 (lvA vs ++ List.replicate k none) [] μ X) : Crt l θ y M cv vs μ X := by
  intro r μ' hX
  obtain ⟨h1, h2, -⟩ := h (Program.bare "X" "m" "()V", l, { classPath := fun _ => none }, rmM M 0 0, default, default, #[], [], default, { maxStack := 0, maxLocals := 0, code := ⟨#[]⟩, exceptionTable := #[], attributes := #[] }, μ, θ) rfl rfl rfl r μ' hX
  refine ⟨h1, h2, fun hl => ?_⟩
  refine Met.ofW (cc := M.1) (maxL := M.2.2.1) (ret := M.2.2.2.2.2.1) hy rfl ?_
  intro p e s m args below meth c s₁ B hml hv
  obtain ⟨rfl, hR, hBs⟩ := hv
  have hts := atoms_spec (ws := wsM y M) B.pre
  have hown : s.vm.findClass y.cls = some m.cls := findClass_of_methodNamed B.named
  have hnm2 : meth.name = y.name := (name_of_methodNamed B.named B.method).1
  obtain ⟨-, -, h3⟩ := h (p, l, e, (headSpec (wsM y M) (rmM M (mN μ' - mN μ) (mS μ' - mS μ))).room, s, m, (vs.map (re θ)).toArray, below, meth, c, μ, θ) rfl rfl rfl r μ' hX
  have hlv := lv_entry (vs.map (re θ)) (n := M.2.2.1) (by rw [lgl_re]; exact hln)
  rw [lg_entry_eq]
  have h4 := h3 ⟨B.exec, B.bytes, hml, by rw [← ho]; exact hown, fun w hw => hts w (List.mem_cons_of_mem _ hw), B.notSynchronized, hBs, rfl, rfl, B.returns, hl, hnm2.trans hnm, hR.1⟩
    ⟨Nat.le_refl _, Nat.le_refl _, by show mN μ' ≤ mN μ + (mN μ' - mN μ); omega, by show mS μ' ≤ mS μ + (mS μ' - mS μ); omega⟩ s.heap [] _ hR va_S.rf (lvA_ok (k := k) hlv)
  rw [show zμ (p, l, e, (headSpec (wsM y M) (rmM M (mN μ' - mN μ) (mS μ' - mS μ))).room, s, m, (vs.map (re θ)).toArray, below, meth, c, μ, θ) = μ from rfl, Nat.sub_self, Nat.sub_self] at h4
  exact h4
theorem crt_no {β : Type} {l : Launch} {θ : Th} {y : MethodName} {M : MI} {cv : β → Option Value} {vs : List Value} {μ : Mm} : Crt l θ y M cv vs μ none := fun _ _ h => by cases h

