/-! methods that throw -/
section XT
variable {p : Program} {l : Launch} {e : Env} {R : Room} {s : State} {m : MethodId} {args : Array Value} {below : List Frame} {meth : Method} {c : Code} {H : Heap} {locs : List Loc} {cells slots : Nat} {Q : State → Prop}
variable {mc ms : Nat} {free : Addr → Prop} {A0 A1 : Nat → Prop} {H0 : Heap} {a : Array Value} {ls : Array Slot} {st0 rest : List Value}
variable {Qc : Array Value → State → Outcome → State → Prop} {XC : String → State → State → Prop}
set_option maxHeartbeats 4000000 in
theorem x_throw0 {cc : ByteArray} {pc : Nat} (hexec : p.tables.exec = Jvm.exec) (hb : c.code = cc) (hl : l.stackTraces = false) {own cls : String} {names : List String} {ik ic mc ms : Nat} {A : Nat → Prop}
    (hown : s.vm.findClass own = some m.cls) (hcls : Bundle.fit cls = true) (hnames : ∀ n ∈ names, Bundle.fit n = true)
    (hk : (Cond.classLink own ik cls).before args s = true) (hini : (Cond.initialized cls).before args s = true) (hat : ∀ w ∈ vx_at0 own ic cls names, w.before args s = true)
    (hgood : ∀ w ∈ Cond.classLink own ik cls :: Cond.initialized cls :: vx_at0 own ic cls names, vx_ot w = true)
    (hU : vx_Zq Bundle.tN "UNASSIGNED_STACK" Bundle.steD A s s.heap) (hN : vx_Zq Bundle.tN "SUPPRESSED_SENTINEL" Bundle.listD A s s.heap) (hS : va_S A s.heap H locs) (hsize : ls.size = c.maxLocals)
    (d0 : decode cc pc = .ok (.new ik, 3)) (d3 : decode cc (pc + 3) = .ok (.dup, 1)) (d4 : decode cc (pc + 4) = .ok (.invokespecial ic, 3)) (d7 : decode cc (pc + 7) = .ok (.athrow, 1))
    (hout : ∀ x ∈ c.exceptionTable.toList, covers x (pc + 7) = false)
    (hRframes : names.length + 3 < R.frames) (hRlocals : (rest.map fun v => v.category).sum + (13 * (names.length + 1) + 42) ≤ R.locals) (hRcells : cells + 1 ≤ R.cells) (hRslots : slots + 6 ≤ R.slots) (hlocks : meth.locks = false)
    (hx : ∀ t : State, s.vm.Alike t.vm → H.size < t.heap.size → t.heap.size ≤ s.heap.size + (cells + 1) → (∀ q : Nat, q < H.size → t.heap[q]? = H[q]?) → XC cls s t)
    (hf : ∀ z ∈ locs, free z.base) (hc : cells + 1 ≤ mc) (hs : slots + 6 ≤ ms) :
    W p l e R s m args below meth c H locs cells slots (vx_MQ below Qc XC args s mc ms free) (F0 m pc ls rest) := by
  intro T hT X
  have htr : e.platform.stackTraces = false := (show e.platform.stackTraces = l.stackTraces by rw [X.admits.platform]).trans hl
  have Y := vx_rebase X (R' := { frames := R.frames, locals := R.locals, cells := 1, slots := 6 }) (Nat.le_refl _) (Nat.le_refl _) hRcells hRslots
  obtain ⟨s', hA⟩ : ∃ z, z = (T.setVm s.vm).setFrames (.invoking m args :: below) := ⟨_, rfl⟩
  rw [← hA] at Y
  have hvm : s'.vm = s.vm := by rw [hA]; rfl
  have hhp : s'.heap = H := by rw [hA]; exact hT
  have hW0 : s.WarmedH s'.vm := by rw [hvm]; exact State.WarmedH.refl s
  have hat' : ∀ w ∈ vx_at0 own ic cls names, w.before args s' = true := fun w hw => vx_ot_at hW0 hvm.symm (hgood w (List.mem_cons_of_mem _ (List.mem_cons_of_mem _ hw))) (hat w hw)
  have hk' : (Cond.classLink own ik cls).before args s' = true := vx_ot_at hW0 hvm.symm (hgood _ List.mem_cons_self) hk
  have hini' : (Cond.initialized cls).before args s' = true := vx_ot_at hW0 hvm.symm (hgood _ (List.mem_cons_of_mem _ List.mem_cons_self)) hini
  have hU' : vx_Zq Bundle.tN "UNASSIGNED_STACK" Bundle.steD A s' s'.heap := by rw [hhp]; exact vx_Zq.moved hW0.alike (hU.kept hS.2.1)
  have hN' : vx_Zq Bundle.tN "SUPPRESSED_SENTINEL" Bundle.listD A s' s'.heap := by rw [hhp]; exact vx_Zq.moved hW0.alike (hN.kept hS.2.1)
  have h : ∀ w ∈ Bundle.ownAtoms0 own ic cls names, w.before args s' = true := vx_own hat' (vx_isRefq hU'.1) (vx_isRefq hN'.1) hU'.2.word hN'.2.word
  have hown' : s'.vm.findClass own = some m.cls := by rw [hvm]; exact hown
  have hins : (Cond.instantiable cls 6).before args s' = true := h _ (by simp [Bundle.ownAtoms0])
  obtain ⟨vm₁, cX, kX, hfX, hkX, -, -, X₁, st1⟩ := Y.newCold hexec (own := own) (C := cls) (index := ik) (n := 6) hown' hk' hins hini'
    (g := F0 m pc ls rest) rfl (by rw [hb]; exact d0) (Nat.le_refl _) (Nat.le_refl _)
  generalize hT1 : (T.setVm vm₁).pushCell { cls := cX, slots := kX.instanceTypes.map defaultValue, vm := .none } = T1 at X₁ st1
  have hcat : (Value.ref T.heap.size).category = 1 := rfl
  have hcellA : T1.heap[T.heap.size]? = some (freshCell cX kX) := by rw [← hT1]; exact State.heap_pushCell_size _ _
  have d3' : decode c.code (pc + 3) = .ok (.dup, 1) := by rw [hb]; exact d3
  obtain ⟨U, hsteps, hrun, hend, hW, hsame, ce, hce, hO⟩ := X₁.ctorThrow0 hexec htr (own := own) (cls := cls) (names := names) (ic := ic) hown' hcls hnames h (fun x hx => nomatch hx) hfX hkX hcellA (by rw [hhp, hT]; exact Nat.le_refl _)
    (g := { method := m, pc := pc + 4, locals := ls, stack := .ref T.heap.size :: .ref T.heap.size :: rest, locked := none }) rfl hsize rfl rfl (rest := rest) rfl
    (by rw [hb]; exact d4) (by rw [hb]; exact d7) hout hRframes (by simp only [List.map_cons, List.sum_cons, hcat]; omega) hlocks
  obtain ⟨f1, f2⟩ := vx_frame hsame
  rw [hhp] at f1 f2
  have hWs : s.WarmedH U.vm := State.WarmedH.trans hW0 hW
  have hcl : s.vm.findClass cls = some ce.cls := by
    have h9 := hO.cls
    rw [hvm] at h9
    exact h9
  have hall2 : s.sameButNew ({ U with vm := s.vm } : State) locs (cells + (0 + 1)) (slots + (0 + 6)) := by
    subst hA
    obtain ⟨e1, e2⟩ := hsame
    rw [State.setFrames_setFrames] at e1
    have h2 : (T.setVm s.vm).sameButNew ({ U with vm := s.vm } : State) [] (0 + 1) (0 + 6) := ⟨e1, e2⟩
    have h3 := X.same.trans h2
    rw [List.append_nil] at h3
    exact h3
  have hall := hall2.mono hc hs
  have hlt9 : H.size < U.heap.size := by
    have h9 := (Array.getElem?_eq_some_iff.mp hce).1
    rw [hT] at h9
    exact h9
  have hle9 : U.heap.size ≤ s.heap.size + (cells + 1) := hall2.2.2.1
  refine ⟨U, ?_, .threw T.heap.size, hrun, hend, Or.inr ⟨T.heap.size, rfl, cls, ce, locs, hx U hWs.alike hlt9 hle9 (fun q hq => f2 q hq (fun z hz => nomatch hz)), hce, hO.vm, hcl, hWs, hall, hf⟩⟩
  refine st1 _ ?_
  show Steps p.tables e below (T1.setTop { method := m, pc := pc + 3, locals := ls, stack := .ref T.heap.size :: rest, locked := none }) _
  jvm_step X₁.here [X₁.here.top, hexec, d3', Value.category]
  exact hsteps
end XT
def exN (k : Nat) : String := match k with
  | 0 => "java/util/NoSuchElementException"
  | 1 => "java/lang/IllegalArgumentException"
  | 2 => "java/lang/NullPointerException"
  | _ => "java/lang/IndexOutOfBoundsException"
def QcX {β : Type} (θ : Th) (cv : β → Option Value) (r : β ⊕ Nat) (μ' : Mm) : Array Value → State → Outcome → State → Prop := fun _ st oc t => match r with
  | .inl v => oc = .returned ((cv v).map (re θ)) ∧ Rl θ μ' t.heap ∧ va_F (tA θ) st t
  | .inr _ => False
def XcX {β : Type} (θ : Th) (r : β ⊕ Nat) (μ' : Mm) : String → State → State → Prop := fun E st t => match r with
  | .inl _ => False
  | .inr k => E = exN k ∧ Rl θ μ' t.heap ∧ va_F (tA θ) st t
def CrtX {β : Type} (l : Launch) (θ : Th) (y : MethodName) (M : MI) (cv : β → Option Value) (vs : List Value) (μ : Mm) (X : Option ((β ⊕ Nat) × Mm)) : Prop :=
  ∀ (r : β ⊕ Nat) (μ' : Mm), X = some (r, μ') → mN μ ≤ mN μ' ∧ mS μ ≤ mS μ' ∧ (l.stackTraces = false → vx_Met l y (wsM y M) (rmM M (mN μ' - mN μ) (mS μ' - mS μ)) (Pcc θ vs μ) (QcX θ cv r μ') (XcX θ r μ') (mN μ' - mN μ) (mS μ' - mS μ) (tA θ))
def PsX {β : Type} (Z : Zx) (cv : β → Option Value) (r : β ⊕ Nat) (μ' : Mm) : State → Prop := vx_MQ Z.2.2.2.2.2.2.2.1 (QcX (zθ Z) cv r μ') (XcX (zθ Z) r μ') (za Z) (zs Z) (mN μ' - mN (zμ Z)) (mS μ' - mS (zμ Z)) (tA (zθ Z))
section G6
variable {α : Type} {Z : Zx} {M : MI} {Ψ : α → Mm → State → Prop} {pc : Nat} {lv : List (Option Value)} {st : List Value} {μ : Mm} {X Y : Option (α × Mm)}
theorem g_ireturnX {v : Int32} (hr : M.2.2.2.2.2.1 = some .int) (d : decode M.1 pc = .ok (.ireturn, 1)) : GG Z M (PsX Z cvI) pc lv [.int v] μ (some (.inl v, μ)) := by
  intro r μ' hX
  cases hX
  refine ⟨Nat.le_refl _, Nat.le_refl _, fun C O H locs ls hR hS hl => ?_⟩
  exact vx_ret (W.iret C.1 C.2.1 (C.2.2.2.2.2.2.2.2.2.1.trans hr) (fun t ht hW => ⟨rfl, by rw [ht]; exact hR, hS.F ht⟩) hS.2.2 d C.2.2.2.2.2.1)
theorem g_lreturnX {v : Int64} (hr : M.2.2.2.2.2.1 = some .long) (d : decode M.1 pc = .ok (.lreturn, 1)) : GG Z M (PsX Z cvL) pc lv [.long v] μ (some (.inl v, μ)) := by
  intro r μ' hX
  cases hX
  refine ⟨Nat.le_refl _, Nat.le_refl _, fun C O H locs ls hR hS hl => ?_⟩
  exact vx_ret (W.lret C.1 C.2.1 (C.2.2.2.2.2.2.2.2.2.1.trans hr) (fun t ht hW => ⟨rfl, by rw [ht]; exact hR, hS.F ht⟩) hS.2.2 d C.2.2.2.2.2.1)
theorem g_returnX (hr : M.2.2.2.2.2.1 = none) (d : decode M.1 pc = .ok (.return_, 1)) : GG Z M (PsX Z cvV) pc lv [] μ (some (.inl (), μ)) := by
  intro r μ' hX
  cases hX
  refine ⟨Nat.le_refl _, Nat.le_refl _, fun C O H locs ls hR hS hl => ?_⟩
  exact vx_ret (W.vret C.1 C.2.1 (C.2.2.2.2.2.2.2.2.2.1.trans hr) (fun t ht hW => ⟨rfl, by rw [ht]; exact hR, hS.F ht⟩) hS.2.2 d C.2.2.2.2.2.1)
/-- what a throw's words must say -/
def TwOk (own : String) (k ik ic : Nat) (names : List String) : Prop := Bundle.fit (exN k) = true ∧ (∀ n ∈ names, Bundle.fit n = true) ∧ Cond.classLink own ik (exN k) ∈ TB ∧ Cond.initialized (exN k) ∈ TB ∧ (∀ w ∈ (vx_at0 own ic (exN k) names).filter goodWord, w ∈ TB) ∧ (∀ w ∈ (vx_at0 own ic (exN k) names).filter (fun w => !goodWord w), w ∈ Cond.castable (exN k) (exN k) :: DC.map Cond.declares) ∧ (∀ w ∈ Cond.classLink own ik (exN k) :: Cond.initialized (exN k) :: vx_at0 own ic (exN k) names, vx_ot w = true) ∧ (exN k, exN k) ∈ CS ∧ names.length = 2
theorem g_throw {β : Type} {cv : β → Option Value} {k ik ic : Nat} {names : List String} (htab : ∀ x ∈ (zc Z).exceptionTable.toList, False) (hw : TwOk M.2.1 k ik ic names) (hrm : decide (6 ≤ M.2.2.2.1 ∧ 100 ≤ M.2.2.2.2.1) = true) (hso : stOk st = true) (d0 : decode M.1 pc = .ok (.new ik, 3)) (d3 : decode M.1 (pc + 3) = .ok (.dup, 1)) (d4 : decode M.1 (pc + 4) = .ok (.invokespecial ic, 3)) (d7 : decode M.1 (pc + 7) = .ok (.athrow, 1)) : GG Z M (PsX Z cv) pc lv st μ (gd (decide (mN μ + 1 < K9)) (some (.inr k, nw μ 50 6))) := by
  refine g_gd fun hb => ?_
  have hb9 : mN μ + 1 < K9 := of_decide_eq_true hb
  intro r μ' hX
  cases hX
  refine ⟨by rw [mN_nw]; omega, by rw [mS_nw]; omega, fun C O H locs ls hR hS hl => ?_⟩
  obtain ⟨w1, w2, w3, w4, w5, w6, w7, w8, w9⟩ := hw
  obtain ⟨o1, o2, o3, o4⟩ := O
  rw [mN_nw] at o3
  rw [mS_nw] at o4
  have hrm9 := of_decide_eq_true hrm
  have hso9 : 2 * 0 + ((st.map (re (zθ Z))).map fun v => v.category).sum ≤ 8 := stOk.use (pc := pc) (θ := zθ Z) (m := zm Z) (ls := ls) (st2 := []) hso
  obtain ⟨c1, c2, c3, c4, c5, c6, c7, c8, c9, c10, c11, c12, c13⟩ := C
  have hcs := c7.2.2.2.2.2.2.2.2.2.2.2.1 _ w8
  refine x_throw0 (own := M.2.1) (cls := exN k) (names := names) (ik := ik) (ic := ic) (A := tA (zθ Z)) c1 c2 c11 c4 w1 w2 (c5 _ w3) (c5 _ w4) (vx_hat (fun w hw => c5 _ (w5 w hw)) w6 (vx_c (va_Nw.use rfl hcs) (fun w hw => by obtain ⟨x, hx, rfl⟩ := List.mem_map.mp hw; exact va_Nw.use rfl (c7.2.2.2.2.2.2.2.2.2.2.2.2.1 x hx)))) w7 c7.2.2.2.2.2.2.1 c7.2.2.2.2.2.2.2.1 hS (by rw [c3]; exact hl.1) d0 d3 d4 d7 (fun x hx => (htab x hx).elim) (by show _ < (zR Z).frames; rw [c8, w9]; have := hrm9.1; omega) (by show _ ≤ (zR Z).locals; rw [c9, w9]; have := hrm9.2; omega) (by show _ ≤ (zR Z).cells; omega) (by show _ ≤ (zR Z).slots; omega) c6 (fun t ht h1 h2 h3 => ⟨rfl, Rl_nw hR hb9 (fun h => absurd rfl h) ?_ h3, ?_⟩) hS.2.2 (by rw [mN_nw]; omega) (by rw [mS_nw]; omega)
  · have e := hR.1
    have e13 : (zs Z).heap.size = tB (zθ Z) + mN (zμ Z) := c13
    have h2' : t.heap.size ≤ (zs Z).heap.size + (mN μ - mN (zμ Z) + 1) := h2
    omega
  · refine ⟨Nat.le_trans hS.1 (Nat.le_of_lt h1), fun q g1 g2 => ?_⟩
    rw [h3 q (Nat.lt_of_lt_of_le g1 hS.1)]
    exact hS.2.1 q g1 g2
theorem g_callX {β γ : Type} {cv : β → Option Value} {cv2 : γ → Option Value} {y : MethodName} {My : MI} {vs rest : List Value} {XF : Option ((β ⊕ Nat) × Mm)} {f : β → Mm → Option ((γ ⊕ Nat) × Mm)} {a9 : Array Value} (htab : ∀ x ∈ (zc Z).exceptionTable.toList, False) (hC : CrtX (zl Z) (zθ Z) y My cv vs μ XF) (k : ∀ (r : β) (μ1 : Mm), GG Z M (PsX Z cv2) (pc + 3) lv ((cv r).toList ++ rest) μ1 (f r μ1))
    (hrun : ∀ (C : Cx Z M) (H : Heap) (locs : List Loc) (c n : Nat) (ls : Array Slot) (r : β ⊕ Nat) (μ1 : Mm), Rl (zθ Z) μ H → va_S (tA (zθ Z)) (zs Z).heap H locs → lvh (zθ Z) ls M.2.2.1 lv → c + (mN μ1 - mN μ) ≤ (zR Z).cells ∧ n + (mS μ1 - mS μ) ≤ (zR Z).slots → vx_Met (zl Z) y (wsM y My) (rmM My (mN μ1 - mN μ) (mS μ1 - mS μ)) (Pcc (zθ Z) vs μ) (QcX (zθ Z) cv r μ1) (XcX (zθ Z) r μ1) (mN μ1 - mN μ) (mS μ1 - mS μ) (tA (zθ Z)) →
      vx_Run Z.1 Z.2.1 Z.2.2.1 Z.2.2.2.1 Z.2.2.2.2.1 Z.2.2.2.2.2.1 Z.2.2.2.2.2.2.1 Z.2.2.2.2.2.2.2.1 Z.2.2.2.2.2.2.2.2.1 Z.2.2.2.2.2.2.2.2.2.1 H locs c n (mN μ1 - mN μ) (mS μ1 - mS μ) (F0 (zm Z) pc ls (st.map (re (zθ Z)))) (rest.map (re (zθ Z))) (QcX (zθ Z) cv r μ1 a9) (XcX (zθ Z) r μ1) (tA (zθ Z))) :
    GG Z M (PsX Z cv2) pc lv st μ (bx XF f (fun k m => some (.inr k, m))) := by
  have hSk : ∀ {H H' : Heap} {locs L : List Loc}, va_S (tA (zθ Z)) (zs Z).heap H locs → H.size ≤ H'.size → (∀ q : Nat, q < H.size → ¬ tA (zθ Z) q → H'[q]? = H[q]?) → (∀ q ∈ L, tA (zθ Z) q.base) → va_S (tA (zθ Z)) (zs Z).heap H' (locs ++ L) := by
    intro H H' locs L hS hz hk hL
    refine ⟨Nat.le_trans hS.1 hz, fun x g1 g2 => ?_, fun x hx => ?_⟩
    · rw [hk x (Nat.lt_of_lt_of_le g1 hS.1) g2]
      exact hS.2.1 x g1 g2
    · rcases List.mem_append.mp hx with h | h
      · exact hS.2.2 x h
      · exact hL x h
  intro r μ' hX
  unfold bx at hX
  split at hX
  · next q μ1 =>
    obtain ⟨h1, h2, h3⟩ := k q μ1 r μ' hX
    obtain ⟨c1, c2, hM⟩ := hC (.inl q) μ1 rfl
    refine ⟨Nat.le_trans c1 h1, Nat.le_trans c2 h2, fun C O H locs ls hR hS hl => ?_⟩
    obtain ⟨o1, o2, o3, o4⟩ := O
    have hr := hrun C H locs (mN μ - mN (zμ Z)) (mS μ - mS (zμ Z)) ls (.inl q) μ1 hR hS hl ⟨by omega, by omega⟩ (hM C.2.2.2.2.2.2.2.2.2.2.1)
    intro T hT X
    rcases hr T hT X with ⟨v, st₀, t, T', L, e0, X', hL, e1, e2, ⟨hv, hRl, hz, hk⟩, st⟩ | ⟨q9, st₀, t, T', L, E, ce, e0, X', hL, e1, e2, hx, -⟩
    · have hv' : v = (cv q).map (re (zθ Z)) := by injection hv
      subst hv'
      rw [e0] at hz hk
      have hS' := hSk hS (H' := T'.heap) (by rw [e1]; exact hz) (fun x g1 g2 => by rw [e1]; exact hk x g1 g2) hL
      have h4 := h3 C ⟨by omega, by omega, o3, o4⟩ T'.heap (locs ++ L) ls (by rw [e1]; exact hRl) hS' hl
      rw [show mN μ1 - mN (zμ Z) = mN μ - mN (zμ Z) + (mN μ1 - mN μ) by omega, show mS μ1 - mS (zμ Z) = mS μ - mS (zμ Z) + (mS μ1 - mS μ) by omega] at h4
      obtain ⟨t2, a1, b1⟩ := h4 T' rfl X'
      refine ⟨t2, st t2 ?_, b1⟩
      have e9 : ((cv q).toList ++ rest).map (re (zθ Z)) = ((cv q).map (re (zθ Z))).toList ++ rest.map (re (zθ Z)) := by
        rw [List.map_append]
        cases cv q <;> rfl
      rw [e9] at a1
      exact a1
    · exact absurd hx id
  · next kx μ1 =>
    have hr9 : Sum.inr kx = r := by injection hX with h; injection h
    have hm9 : μ1 = μ' := by injection hX with h; injection h
    subst hr9
    subst hm9
    obtain ⟨c1, c2, hM⟩ := hC (.inr kx) μ1 rfl
    refine ⟨c1, c2, fun C O H locs ls hR hS hl => ?_⟩
    obtain ⟨o1, o2, o3, o4⟩ := O
    have hr := hrun C H locs (mN μ - mN (zμ Z)) (mS μ - mS (zμ Z)) ls (.inr kx) μ1 hR hS hl ⟨by omega, by omega⟩ (hM C.2.2.2.2.2.2.2.2.2.2.1)
    intro T hT X
    rcases hr T hT X with ⟨v, st₀, t, T', L, e0, X', hL, e1, e2, hx, -⟩ | ⟨q9, st₀, t, T', L, E, ce, e0, X', hL, e1, e2, ⟨hE, hRl, hz, hk⟩, hce, hcv, hcl, hst⟩
    · exact absurd hx id
    · rw [e0] at hz hk
      have hS' := hSk hS (H' := T'.heap) (by rw [e1]; exact hz) (fun x g1 g2 => by rw [e1]; exact hk x g1 g2) hL
      obtain ⟨t2, a1, b1⟩ := vx_out (Qc := QcX (zθ Z) cv2 (.inr kx) μ1) (XC := XcX (β := γ) (zθ Z) (.inr kx) μ1) (free := tA (zθ Z)) (mc := mN μ1 - mN (zμ Z)) (ms := mS μ1 - mS (zμ Z)) (ls := ls) (rest := rest.map (re (zθ Z))) (pc := pc) (E := E) (H := T'.heap) (fun x hx => (htab x hx).elim) C.2.2.2.2.2.1 (by rw [e1]; exact hce) hcv hcl (fun u hu _ => ⟨hE, by rw [hu, e1]; exact hRl, hS'.F hu⟩) hS'.2.2 (by omega) (by omega) T' rfl X'
      exact ⟨t2, hst.trans a1, b1⟩
  · cases hX
theorem g_callXV {β γ : Type} {cv : β → Option Value} {cv2 : γ → Option Value} {y : MethodName} {My : MI} {n0 index a c0 N : Nat} {C0 : String} {T : u_T} {vs rest : List Value} {XF : Option ((β ⊕ Nat) × Mm)} {f : β → Mm → Option ((γ ⊕ Nat) × Mm)} (htab : ∀ x ∈ (zc Z).exceptionTable.toList, False) (hcl : ClOk c0 C0 T N) (hcr : CrtX (zl Z) (zθ Z) y My cv (.ref a :: vs) μ XF) (hcw : CwOk My y n0) (hrm : RmOk M My = true) (hso : stOk rest = true) (hl : Cond.methodLink M.2.1 index y ∈ TB) (hi : Cond.instanceMethod y ∈ TB) (hs : Cond.selects C0 y y ∈ TB) (hn : vs.length = n0) (hst : st = vs.reverse ++ .ref a :: rest) (d : decode M.1 pc = .ok (.invokevirtual index, 3)) (k : ∀ (r : β) (μ1 : Mm), GG Z M (PsX Z cv2) (pc + 3) lv ((cv r).toList ++ rest) μ1 (f r μ1)) : GG Z M (PsX Z cv2) pc lv st μ (gd (okO μ a c0) (bx XF f (fun k m => some (.inr k, m)))) :=
  g_gd fun ho => g_callX htab hcr k (fun C H locs c n ls r μ1 hR hS hv hf hM => vx_runV (As := vs.map (re (zθ Z))) (b := ad (zθ Z) a) ⟨C.1, C.2.1, C.2.2.1, C.2.2.2.1, C.2.2.2.2.1⟩ hM ⟨callB_of n0 C.2.2.2.2.1 hcw.gi rfl rfl rfl (C.2.2.2.2.1 _ hcw.2.1) (C.2.2.2.2.1 _ hl) hcw.2.2 (RmOk.use C hrm), C.2.2.2.2.1 _ hi, C.2.2.2.2.1 _ hs⟩ ⟨Pcc_blind _ _ _, recv_at hcl C.2.2.2.2.2.2.1.1 hR ho, fun U hU hW => Pcc_at C.2.2.2.2.2.2.1 hR hS hU hW⟩ rfl (by rw [List.length_map]; exact hn) hv.1 (by show st.map _ = _; rw [hst, List.map_append, List.map_reverse]; rfl) (stOk.use hso) d hf)
theorem g_callXVI {γ : Type} {cv2 : γ → Option Value} {y : MethodName} {My : MI} {n0 index a c0 N : Nat} {C0 : String} {T : u_T} {vs rest : List Value} {XF : Option ((Int32 ⊕ Nat) × Mm)} {f : Int32 → Mm → Option ((γ ⊕ Nat) × Mm)} (htab : ∀ x ∈ (zc Z).exceptionTable.toList, False) (hcl : ClOk c0 C0 T N) (hcr : CrtX (zl Z) (zθ Z) y My cvI (.ref a :: vs) μ XF) (hcw : CwOk My y n0) (hrm : RmOk M My = true) (hso : stOk rest = true) (hl : Cond.methodLink M.2.1 index y ∈ TB) (hi : Cond.instanceMethod y ∈ TB) (hs : Cond.selects C0 y y ∈ TB) (hn : vs.length = n0) (hst : st = vs.reverse ++ .ref a :: rest) (d : decode M.1 pc = .ok (.invokevirtual index, 3)) (k : ∀ (r : Int32) (μ1 : Mm), GG Z M (PsX Z cv2) (pc + 3) lv (.int r :: rest) μ1 (f r μ1)) : GG Z M (PsX Z cv2) pc lv st μ (gd (okO μ a c0) (bx XF f (fun k m => some (.inr k, m)))) := g_callXV (cv := cvI) htab hcl hcr hcw hrm hso hl hi hs hn hst d k
theorem g_callXVL {γ : Type} {cv2 : γ → Option Value} {y : MethodName} {My : MI} {n0 index a c0 N : Nat} {C0 : String} {T : u_T} {vs rest : List Value} {XF : Option ((Int64 ⊕ Nat) × Mm)} {f : Int64 → Mm → Option ((γ ⊕ Nat) × Mm)} (htab : ∀ x ∈ (zc Z).exceptionTable.toList, False) (hcl : ClOk c0 C0 T N) (hcr : CrtX (zl Z) (zθ Z) y My cvL (.ref a :: vs) μ XF) (hcw : CwOk My y n0) (hrm : RmOk M My = true) (hso : stOk rest = true) (hl : Cond.methodLink M.2.1 index y ∈ TB) (hi : Cond.instanceMethod y ∈ TB) (hs : Cond.selects C0 y y ∈ TB) (hn : vs.length = n0) (hst : st = vs.reverse ++ .ref a :: rest) (d : decode M.1 pc = .ok (.invokevirtual index, 3)) (k : ∀ (r : Int64) (μ1 : Mm), GG Z M (PsX Z cv2) (pc + 3) lv (.long r :: rest) μ1 (f r μ1)) : GG Z M (PsX Z cv2) pc lv st μ (gd (okO μ a c0) (bx XF f (fun k m => some (.inr k, m)))) := g_callXV (cv := cvL) htab hcl hcr hcw hrm hso hl hi hs hn hst d k
theorem g_callXVV {γ : Type} {cv2 : γ → Option Value} {y : MethodName} {My : MI} {n0 index a c0 N : Nat} {C0 : String} {T : u_T} {vs rest : List Value} {XF : Option ((Unit ⊕ Nat) × Mm)} {f : Unit → Mm → Option ((γ ⊕ Nat) × Mm)} (htab : ∀ x ∈ (zc Z).exceptionTable.toList, False) (hcl : ClOk c0 C0 T N) (hcr : CrtX (zl Z) (zθ Z) y My cvV (.ref a :: vs) μ XF) (hcw : CwOk My y n0) (hrm : RmOk M My = true) (hso : stOk rest = true) (hl : Cond.methodLink M.2.1 index y ∈ TB) (hi : Cond.instanceMethod y ∈ TB) (hs : Cond.selects C0 y y ∈ TB) (hn : vs.length = n0) (hst : st = vs.reverse ++ .ref a :: rest) (d : decode M.1 pc = .ok (.invokevirtual index, 3)) (k : ∀ (r : Unit) (μ1 : Mm), GG Z M (PsX Z cv2) (pc + 3) lv rest μ1 (f r μ1)) : GG Z M (PsX Z cv2) pc lv st μ (gd (okO μ a c0) (bx XF f (fun k m => some (.inr k, m)))) := g_callXV (cv := cvV) htab hcl hcr hcw hrm hso hl hi hs hn hst d k
end G6
theorem crtx_of {β : Type} {l : Launch} {θ : Th} {y : MethodName} {M : MI} {cv : β → Option Value} {vs : List Value} {μ : Mm} {X : Option ((β ⊕ Nat) × Mm)} (k : Nat) (hy : plainName y.cls = true) (ho : y.cls = M.2.1) (hnm : y.name = M.2.2.2.2.2.2) (hln : (lg_sl vs).length ≤ M.2.2.1)
    (h : ∀ Z : Zx, zμ Z = μ → (∀ x ∈ (zc Z).exceptionTable.toList, False) → GG Z M (PsX Z cv) 0 (lvA vs ++ List.replicate k none) [] μ X) : CrtX l θ y M cv vs μ X := by
  intro r μ' hX
  obtain ⟨h1, h2, -⟩ := h (Program.bare "X" "m" "()V", l, { classPath := fun _ => none }, rmM M 0 0, default, default, #[], [], default, { maxStack := 0, maxLocals := 0, code := ⟨#[]⟩, exceptionTable := #[], attributes := #[] }, μ, θ) rfl (fun x hx => nomatch hx) r μ' hX
  refine ⟨h1, h2, fun hl => ?_⟩
  refine vx_ofW (cc := M.1) (maxL := M.2.2.1) (ret := M.2.2.2.2.2.1) hy rfl ?_
  intro p e s m args below meth c s₁ B hml htab hv
  obtain ⟨rfl, hR, hBs⟩ := hv
  have hts := atoms_spec (ws := wsM y M) B.pre
  have hown : s.vm.findClass y.cls = some m.cls := findClass_of_methodNamed B.named
  have hnm2 : meth.name = y.name := (name_of_methodNamed B.named B.method).1
  obtain ⟨-, -, h3⟩ := h (p, l, e, (headSpec (wsM y M) (rmM M (mN μ' - mN μ) (mS μ' - mS μ))).room, s, m, (vs.map (re θ)).toArray, below, meth, c, μ, θ) rfl htab r μ' hX
  have hlv := lv_entry (vs.map (re θ)) (n := M.2.2.1) (by rw [lgl_re]; exact hln)
  rw [lg_entry_eq]
  have h4 := h3 ⟨B.exec, B.bytes, hml, by rw [← ho]; exact hown, fun w hw => hts w (List.mem_cons_of_mem _ hw), B.notSynchronized, hBs, rfl, rfl, B.returns, hl, hnm2.trans hnm, hR.1⟩
    ⟨Nat.le_refl _, Nat.le_refl _, by show mN μ' ≤ mN μ + (mN μ' - mN μ); omega, by show mS μ' ≤ mS μ + (mS μ' - mS μ); omega⟩ s.heap [] _ hR va_S.rf (lvA_ok (k := k) hlv)
  rw [show zμ (p, l, e, (headSpec (wsM y M) (rmM M (mN μ' - mN μ) (mS μ' - mS μ))).room, s, m, (vs.map (re θ)).toArray, below, meth, c, μ, θ) = μ from rfl, Nat.sub_self, Nat.sub_self] at h4
  exact h4
