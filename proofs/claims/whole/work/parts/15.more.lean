section G5
variable {α : Type} {Z : Zx} {M : MI} {Ψ : α → Mm → State → Prop} {pc : Nat} {lv : List (Option Value)} {st : List Value} {μ : Mm} {X Y : Option (α × Mm)}
theorem g_jn {κ : Type} {k : κ} {f : κ → Option (α × Mm)} (P : κ → Prop) (hk : P k) (h : ∀ J : κ, P J → GG Z M Ψ pc lv st μ (f J)) : GG Z M Ψ pc lv st μ (jn k f) := h k hk
/-! switches -/
def SWk {α : Type} (Z : Zx) (M : MI) (Ψ : α → Mm → State → Prop) (pc : Nat) (lv : List (Option Value)) (st : List Value) (μ : Mm) (x : Int32) (lo : Int) (k : Nat) (X : Option (α × Mm)) : Prop := (∀ j : Nat, j < k → x.toInt ≠ lo + j) → GG Z M Ψ pc lv (.int x :: st) μ X
theorem g_sw0 {x : Int32} {lo : Int} (h : SWk Z M Ψ pc lv st μ x lo 0 X) : GG Z M Ψ pc lv (.int x :: st) μ X := h (fun j hj => absurd hj (Nat.not_lt_zero j))
theorem g_swc {x y : Int32} {dflt lo hi off : Int} {offs : Array Int} {len k tgt : Nat} (d : decode M.1 pc = .ok (.tableswitch dflt lo hi offs, len)) (hk : lo + (k : Int) ≤ hi) (hy : y.toInt = lo + k) (ho : offs[k]? = some off) (ht : (pc : Int) + off = (tgt : Int)) (kx : GG Z M Ψ tgt lv st μ X) (rest : SWk Z M Ψ pc lv st μ x lo (k + 1) Y) : SWk Z M Ψ pc lv st μ x lo k (if x = y then X else Y) := by
  intro hj
  by_cases he : x = y
  · rw [if_pos he]
    have hx : x.toInt = lo + k := by rw [he]; exact hy
    refine g_pure kx (fun C H locs c n Q ls _ _ _ w => lv_tableIn C.1 C.2.1 d (by omega) (by omega) (by rw [hx, show (lo + (k : Int) - lo).toNat = k by omega]; exact ho) ht w)
  · rw [if_neg he]
    refine rest (fun j h => ?_)
    by_cases e : j = k
    · subst e
      intro q
      exact he (Int32.toInt_inj.mp (q.trans hy.symm))
    · exact hj j (by omega)
theorem g_swe {x : Int32} {dflt lo hi : Int} {offs : Array Int} {len n tgt : Nat} (d : decode M.1 pc = .ok (.tableswitch dflt lo hi offs, len)) (hn : lo + (n : Int) = hi + 1) (ht : (pc : Int) + dflt = (tgt : Int)) (kx : GG Z M Ψ tgt lv st μ X) : SWk Z M Ψ pc lv st μ x lo n X := by
  intro hj
  refine g_pure kx (fun C H locs c n9 Q ls _ _ _ w => lv_tableOut C.1 C.2.1 d ?_ ht w)
  by_cases h1 : x.toInt < lo
  · exact Or.inl h1
  · refine Or.inr ?_
    have h2 := hj (x.toInt - lo).toNat
    by_cases h3 : hi < x.toInt
    · exact h3
    · exfalso
      exact h2 (by omega) (by omega)
/-! new arrays are empty -/
theorem nwd_i (θ : Th) (μ : Mm) (kind N : Nat) {ty : FieldType} {cA : ClassId} (hk : kind ≠ 101 ∧ kind < 104) (hd : defaultValue ty = .int 0) : vp_cell cA (N, ct θ (nw μ kind N) (mN μ) kind) = arrV cA N (fun _ => defaultValue ty) := by
  unfold ct
  rw [if_neg hk.1, if_pos hk.2, vp_cell_i, hd]
  congr 1
  funext j
  simp [rI, nw]
theorem nwd_l (θ : Th) (μ : Mm) (N : Nat) {ty : FieldType} {cA : ClassId} (hd : defaultValue ty = .long 0) : vp_cell cA (N, ct θ (nw μ 101 N) (mN μ) 101) = arrV cA N (fun _ => defaultValue ty) := by
  unfold ct
  rw [if_pos rfl, vp_cell_l, hd]
  congr 1
  funext j
  simp [rL, nw]
/-! copies of arrays -/
def okC (μ : Mm) (t a : Nat) (p n : Int32) : Bool := match (sH μ)[a]? with
  | some q => q.1 == t && (decide (0 ≤ p.toInt) && (decide (0 ≤ n.toInt) && decide (p.toInt + n.toInt ≤ (q.2 : Int))))
  | none => false
theorem okC_spec {μ : Mm} {t a : Nat} {p n : Int32} (h : okC μ t a p n = true) : ∃ N, (sH μ)[a]? = some (t, N) ∧ 0 ≤ p.toInt ∧ 0 ≤ n.toInt ∧ p.toInt + n.toInt ≤ (N : Int) := by
  unfold okC at h
  split at h
  · next q hq =>
    simp only [Bool.and_eq_true, beq_iff_eq, decide_eq_true_eq] at h
    obtain ⟨h1, h2, h3, h4⟩ := h
    subst h1
    exact ⟨q.2, hq, h2, h3, h4⟩
  · cases h
theorem nn_of {z : Int32} (hz : 0 ≤ z.toInt) : ¬ z < 0 ∧ z.toInt = (z.toNatClampNeg : Int) := by
  refine ⟨fun h => ?_, ?_⟩
  · have := Int32.lt_iff_toInt_lt.mp h
    simp at this
    omega
  · show z.toInt = ((z.toInt.toNat : Nat) : Int)
    omega
theorem el_cpI {θ : Th} {μ : Mm} {a sp b dp n i : Nat} {q : Nat × Nat} (h : i ≠ b) : el θ (cpI μ a sp b dp n) i q = el θ μ i q := by
  have e1 : rI (cpI μ a sp b dp n) i = rI μ i := by funext k; simp [rI, cpI, h]
  have e2 : rR (cpI μ a sp b dp n) i = rR μ i := rfl
  have e3 : rL (cpI μ a sp b dp n) i = rL μ i := rfl
  have e4 : fv θ (cpI μ a sp b dp n) i = fv θ μ i := by funext c k; unfold fv; rw [e1, e2]
  unfold el ct
  rw [e1, e2, e3, e4]
theorem g_copyI {a a0 index : Nat} {sp dp n : Int32} {f : Mm → Option (α × Mm)} (hl : Cond.methodLink M.2.1 index arraycopyName ∈ TB) (hna : Cond.native arraycopyName ∈ TB) (hst : Cond.static arraycopyName ∈ TB) (hin : Cond.initialized "java/lang/System" ∈ TB) (hrm : decide (1 ≤ M.2.2.2.1 ∧ 8 + (nativeFrameWords "java/lang/System" "arraycopy" 5 + 11) ≤ M.2.2.2.2.1) = true) (hso : stOk st = true) (d : decode M.1 pc = .ok (.invokestatic index, 3)) (k : ∀ μ1 : Mm, GG Z M Ψ (pc + 3) lv st μ1 (f μ1)) : GG Z M Ψ pc lv (.int n :: .int dp :: .ref a :: .int sp :: .ref a0 :: st) μ (gd (okC μ 100 a0 sp n && okC μ 100 a dp n) (lt9 (cpI μ a0 (ix sp) a (ix dp) (ix n)) f)) := by
  refine g_gd fun hb => g_lt ?_
  rw [Bool.and_eq_true] at hb
  refine g_mem (μ1 := cpI μ a0 (ix sp) a (ix dp) (ix n)) rfl rfl (k _) (fun C H locs c n9 Q ls hR hS hv w => ?_)
  obtain ⟨n0, hs0, p1, p2, p3⟩ := okC_spec hb.1
  obtain ⟨n1, hs1, p4, -, p5⟩ := okC_spec hb.2
  obtain ⟨u1, v1⟩ := nn_of p1
  obtain ⟨u2, v2⟩ := nn_of p4
  obtain ⟨u3, v3⟩ := nn_of p2
  have hc0 : H[tB (zθ Z) + a0]? = some (vp_cell ((zθ Z).2.2.1 0) (n0, .inl (rI μ a0))) := hR.2.1 a0 _ hs0 (by show (100 : Nat) ≠ 50; decide)
  have hc1 : H[tB (zθ Z) + a]? = some (vp_cell ((zθ Z).2.2.1 0) (n1, .inl (rI μ a))) := hR.2.1 a _ hs1 (by show (100 : Nat) ≠ 50; decide)
  have hK := C.2.2.2.2.2.2.1.1
  obtain ⟨-, k0, hk0, cm0, hkk0⟩ := (hK.2 0 _ rfl).1 n0 (fun j => .int (rI μ a0 j))
  obtain ⟨-, k1, hk1, cm1, hkk1⟩ := (hK.2 0 _ rfl).1 n1 (fun j => .int (rI μ a j))
  have hrm9 := of_decide_eq_true hrm
  have hso9 := stOk.use (pc := pc) (θ := zθ Z) (m := zm Z) (ls := ls) (st2 := []) hso
  show zW Z H locs c n9 Q (F0 (zm Z) pc ls (.int n :: .int dp :: .ref (ad (zθ Z) a) :: .int sp :: .ref (ad (zθ Z) a0) :: st.map (re (zθ Z))))
  rw [Rl_ad hR hs0, Rl_ad hR hs1]
  intro T hT X
  obtain ⟨vm', X', step⟩ := X.arraycopy C.1 C.2.2.2.1 (C.2.2.2.2.1 _ hl) (C.2.2.2.2.1 _ hna) (C.2.2.2.2.1 _ hst) (C.2.2.2.2.1 _ hin) (src := tB (zθ Z) + a0) (dst := tB (zθ Z) + a) (cs := vp_cell ((zθ Z).2.2.1 0) (n0, .inl (rI μ a0))) (cd := vp_cell ((zθ Z).2.2.1 0) (n1, .inl (rI μ a))) (srcPos := sp) (destPos := dp) (n := n) (by rw [hT]; exact hc0) (by rw [hT]; exact hc1)
    (fun _ h => by cases h) (fun _ h => by cases h) (fun h => by cases h) (fun h => by cases h) hk0 hk1 hkk0 hkk1 (by rfl) u1 u2 u3
    (by show ¬ _ > ((arrV ((zθ Z).2.2.1 0) n0 (fun j => .int (rI μ a0 j))).slots.size : Int); rw [arrV_size]; omega)
    (by show ¬ _ > ((arrV ((zθ Z).2.2.1 0) n1 (fun j => .int (rI μ a j))).slots.size : Int); rw [arrV_size]; omega)
    (fun vm₁ _ i hi => by
      have e : (vp_cell ((zθ Z).2.2.1 0) (n0, .inl (rI μ a0))).slots.getD (sp.toNatClampNeg + i) .null = .int (rI μ a0 (sp.toNatClampNeg + i)) := by
        show (arrV ((zθ Z).2.2.1 0) n0 (fun j => .int (rI μ a0 j))).slots.getD _ _ = _
        rw [Array.getD_eq_getD_getElem?, arrV_read _ _ (by omega)]
        rfl
      refine ⟨?_, ?_⟩
      · rw [e]
        rfl
      · rw [e]
        exact trivial)
    (g := F0 (zm Z) pc ls (.int n :: .int dp :: .ref (tB (zθ Z) + a) :: .int sp :: .ref (tB (zθ Z) + a0) :: st.map (re (zθ Z)))) rfl (by show ls.size = _; rw [show Z.2.2.2.2.2.2.2.2.2.1.maxLocals = M.2.2.1 from C.2.2.1]; exact hv.1) (rest := st.map (re (zθ Z))) rfl (by rw [show Z.2.2.2.2.2.2.2.2.2.1.code = M.1 from C.2.1]; exact d) (by show 1 ≤ (zR Z).frames; rw [C.2.2.2.2.2.2.2.1]; exact hrm9.1) (by
      show 2 * 0 + _ + _ ≤ (zR Z).locals
      rw [C.2.2.2.2.2.2.2.2.1]
      have h3 := hrm9.2
      have h4 : 2 * 0 + ((st.map (re (zθ Z))).map fun v => v.category).sum ≤ 8 := hso9
      omega)
  have e1 : copied (vp_cell ((zθ Z).2.2.1 0) (n0, .inl (rI μ a0))) (vp_cell ((zθ Z).2.2.1 0) (n1, .inl (rI μ a))) sp dp n = vp_cell ((zθ Z).2.2.1 0) (n1, .inl (va_cpy (rI μ a0) (rI μ a) sp.toNatClampNeg dp.toNatClampNeg n.toNatClampNeg)) := va_copied (fun z => .int z) _ _ (rI μ a0) (rI μ a) (by omega)
  rw [e1] at X' step
  have hl9 : tB (zθ Z) + a < H.size := (Array.getElem?_eq_some_iff.mp hc1).1
  generalize hG : vp_cell ((zθ Z).2.2.1 0) (n1, .inl (va_cpy (rI μ a0) (rI μ a) sp.toNatClampNeg dp.toNatClampNeg n.toNatClampNeg)) = G at X' step
  have hheap : ((T.setVm vm').setCell (tB (zθ Z) + a) G).heap = H.setIfInBounds (tB (zθ Z) + a) G := by rw [← hT]; rfl
  have oq : ∀ q : Nat, q ≠ tB (zθ Z) + a → (H.setIfInBounds (tB (zθ Z) + a) G)[q]? = H[q]? := fun q hq => by simp [Array.getElem?_setIfInBounds, Ne.symm hq]
  have hz : (H.setIfInBounds (tB (zθ Z) + a) G).size = H.size := by simp
  have hRl : Rl (zθ Z) (cpI μ a0 (ix sp) a (ix dp) (ix n)) (H.setIfInBounds (tB (zθ Z) + a) G) := by
    refine Rl_upd hR rfl hs1 (fun i q h => el_cpI h) ?_ hz oq
    show (H.setIfInBounds (tB (zθ Z) + a) G)[tB (zθ Z) + a]? = some (vp_cell ((zθ Z).2.2.1 0) (n1, .inl (rI (cpI μ a0 (ix sp) a (ix dp) (ix n)) a)))
    rw [← hG]
    simp only [Array.getElem?_setIfInBounds, hl9, if_true]
    congr 4
    funext j
    simp [va_cpy, rI, cpI, ix]
  obtain ⟨t, a1, b1⟩ := w _ _ hRl ⟨by rw [hz]; exact hS.1, fun q g1 g2 => by
      rw [oq q (fun e => g2 (by rw [e]; show tB (zθ Z) ≤ _; omega))]
      exact hS.2.1 q g1 g2, fun q hq => by
      rcases List.mem_append.mp hq with h | h
      · exact hS.2.2 q h
      · obtain ⟨z, -, hz⟩ := List.mem_map.mp h
        rw [← hz]
        exact Nat.le_add_right _ _⟩ _ hheap X'
  exact ⟨t, step t a1, b1⟩
theorem el_cpL {θ : Th} {μ : Mm} {a sp b dp n i : Nat} {q : Nat × Nat} (h : i ≠ b) : el θ (cpL μ a sp b dp n) i q = el θ μ i q := by
  have e1 : rL (cpL μ a sp b dp n) i = rL μ i := by funext k; simp [rL, cpL, h]
  have e2 : rR (cpL μ a sp b dp n) i = rR μ i := rfl
  have e3 : rI (cpL μ a sp b dp n) i = rI μ i := rfl
  have e4 : fv θ (cpL μ a sp b dp n) i = fv θ μ i := by funext c k; unfold fv; rw [e3, e2]
  unfold el ct
  rw [e1, e2, e3, e4]
theorem g_copyL {a a0 index : Nat} {sp dp n : Int32} {f : Mm → Option (α × Mm)} (hl : Cond.methodLink M.2.1 index arraycopyName ∈ TB) (hna : Cond.native arraycopyName ∈ TB) (hst : Cond.static arraycopyName ∈ TB) (hin : Cond.initialized "java/lang/System" ∈ TB) (hrm : decide (1 ≤ M.2.2.2.1 ∧ 8 + (nativeFrameWords "java/lang/System" "arraycopy" 5 + 11) ≤ M.2.2.2.2.1) = true) (hso : stOk st = true) (d : decode M.1 pc = .ok (.invokestatic index, 3)) (k : ∀ μ1 : Mm, GG Z M Ψ (pc + 3) lv st μ1 (f μ1)) : GG Z M Ψ pc lv (.int n :: .int dp :: .ref a :: .int sp :: .ref a0 :: st) μ (gd (okC μ 101 a0 sp n && okC μ 101 a dp n) (lt9 (cpL μ a0 (ix sp) a (ix dp) (ix n)) f)) := by
  refine g_gd fun hb => g_lt ?_
  rw [Bool.and_eq_true] at hb
  refine g_mem (μ1 := cpL μ a0 (ix sp) a (ix dp) (ix n)) rfl rfl (k _) (fun C H locs c n9 Q ls hR hS hv w => ?_)
  obtain ⟨n0, hs0, p1, p2, p3⟩ := okC_spec hb.1
  obtain ⟨n1, hs1, p4, -, p5⟩ := okC_spec hb.2
  obtain ⟨u1, v1⟩ := nn_of p1
  obtain ⟨u2, v2⟩ := nn_of p4
  obtain ⟨u3, v3⟩ := nn_of p2
  have hc0 : H[tB (zθ Z) + a0]? = some (vp_cell ((zθ Z).2.2.1 1) (n0, .inr (.inl (rL μ a0)))) := hR.2.1 a0 _ hs0 (by show (101 : Nat) ≠ 50; decide)
  have hc1 : H[tB (zθ Z) + a]? = some (vp_cell ((zθ Z).2.2.1 1) (n1, .inr (.inl (rL μ a)))) := hR.2.1 a _ hs1 (by show (101 : Nat) ≠ 50; decide)
  have hK := C.2.2.2.2.2.2.1.1
  obtain ⟨-, k0, hk0, cm0, hkk0⟩ := (hK.2 1 _ rfl).1 n0 (fun j => .long (rL μ a0 j))
  obtain ⟨-, k1, hk1, cm1, hkk1⟩ := (hK.2 1 _ rfl).1 n1 (fun j => .long (rL μ a j))
  have hrm9 := of_decide_eq_true hrm
  have hso9 := stOk.use (pc := pc) (θ := zθ Z) (m := zm Z) (ls := ls) (st2 := []) hso
  show zW Z H locs c n9 Q (F0 (zm Z) pc ls (.int n :: .int dp :: .ref (ad (zθ Z) a) :: .int sp :: .ref (ad (zθ Z) a0) :: st.map (re (zθ Z))))
  rw [Rl_ad hR hs0, Rl_ad hR hs1]
  intro T hT X
  obtain ⟨vm', X', step⟩ := X.arraycopy C.1 C.2.2.2.1 (C.2.2.2.2.1 _ hl) (C.2.2.2.2.1 _ hna) (C.2.2.2.2.1 _ hst) (C.2.2.2.2.1 _ hin) (src := tB (zθ Z) + a0) (dst := tB (zθ Z) + a) (cs := vp_cell ((zθ Z).2.2.1 1) (n0, .inr (.inl (rL μ a0)))) (cd := vp_cell ((zθ Z).2.2.1 1) (n1, .inr (.inl (rL μ a)))) (srcPos := sp) (destPos := dp) (n := n) (by rw [hT]; exact hc0) (by rw [hT]; exact hc1)
    (fun _ h => by cases h) (fun _ h => by cases h) (fun h => by cases h) (fun h => by cases h) hk0 hk1 hkk0 hkk1 (by rfl) u1 u2 u3
    (by show ¬ _ > ((arrV ((zθ Z).2.2.1 1) n0 (fun j => .long (rL μ a0 j))).slots.size : Int); rw [arrV_size]; omega)
    (by show ¬ _ > ((arrV ((zθ Z).2.2.1 1) n1 (fun j => .long (rL μ a j))).slots.size : Int); rw [arrV_size]; omega)
    (fun vm₁ _ i hi => by
      have e : (vp_cell ((zθ Z).2.2.1 1) (n0, .inr (.inl (rL μ a0)))).slots.getD (sp.toNatClampNeg + i) .null = .long (rL μ a0 (sp.toNatClampNeg + i)) := by
        show (arrV ((zθ Z).2.2.1 1) n0 (fun j => .long (rL μ a0 j))).slots.getD _ _ = _
        rw [Array.getD_eq_getD_getElem?, arrV_read _ _ (by omega)]
        rfl
      refine ⟨?_, ?_⟩
      · rw [e]
        rfl
      · rw [e]
        exact trivial)
    (g := F0 (zm Z) pc ls (.int n :: .int dp :: .ref (tB (zθ Z) + a) :: .int sp :: .ref (tB (zθ Z) + a0) :: st.map (re (zθ Z)))) rfl (by show ls.size = _; rw [show Z.2.2.2.2.2.2.2.2.2.1.maxLocals = M.2.2.1 from C.2.2.1]; exact hv.1) (rest := st.map (re (zθ Z))) rfl (by rw [show Z.2.2.2.2.2.2.2.2.2.1.code = M.1 from C.2.1]; exact d) (by show 1 ≤ (zR Z).frames; rw [C.2.2.2.2.2.2.2.1]; exact hrm9.1) (by
      show 2 * 0 + _ + _ ≤ (zR Z).locals
      rw [C.2.2.2.2.2.2.2.2.1]
      have h3 := hrm9.2
      have h4 : 2 * 0 + ((st.map (re (zθ Z))).map fun v => v.category).sum ≤ 8 := hso9
      omega)
  have e1 : copied (vp_cell ((zθ Z).2.2.1 1) (n0, .inr (.inl (rL μ a0)))) (vp_cell ((zθ Z).2.2.1 1) (n1, .inr (.inl (rL μ a)))) sp dp n = vp_cell ((zθ Z).2.2.1 1) (n1, .inr (.inl (va_cpy (rL μ a0) (rL μ a) sp.toNatClampNeg dp.toNatClampNeg n.toNatClampNeg))) := va_copied (fun z => .long z) _ _ (rL μ a0) (rL μ a) (by omega)
  rw [e1] at X' step
  have hl9 : tB (zθ Z) + a < H.size := (Array.getElem?_eq_some_iff.mp hc1).1
  generalize hG : vp_cell ((zθ Z).2.2.1 1) (n1, .inr (.inl (va_cpy (rL μ a0) (rL μ a) sp.toNatClampNeg dp.toNatClampNeg n.toNatClampNeg))) = G at X' step
  have hheap : ((T.setVm vm').setCell (tB (zθ Z) + a) G).heap = H.setIfInBounds (tB (zθ Z) + a) G := by rw [← hT]; rfl
  have oq : ∀ q : Nat, q ≠ tB (zθ Z) + a → (H.setIfInBounds (tB (zθ Z) + a) G)[q]? = H[q]? := fun q hq => by simp [Array.getElem?_setIfInBounds, Ne.symm hq]
  have hz : (H.setIfInBounds (tB (zθ Z) + a) G).size = H.size := by simp
  have hRl : Rl (zθ Z) (cpL μ a0 (ix sp) a (ix dp) (ix n)) (H.setIfInBounds (tB (zθ Z) + a) G) := by
    refine Rl_upd hR rfl hs1 (fun i q h => el_cpL h) ?_ hz oq
    show (H.setIfInBounds (tB (zθ Z) + a) G)[tB (zθ Z) + a]? = some (vp_cell ((zθ Z).2.2.1 1) (n1, .inr (.inl (rL (cpL μ a0 (ix sp) a (ix dp) (ix n)) a))))
    rw [← hG]
    simp only [Array.getElem?_setIfInBounds, hl9, if_true]
    congr 5
    funext j
    simp [va_cpy, rL, cpL, ix]
  obtain ⟨t, a1, b1⟩ := w _ _ hRl ⟨by rw [hz]; exact hS.1, fun q g1 g2 => by
      rw [oq q (fun e => g2 (by rw [e]; show tB (zθ Z) ≤ _; omega))]
      exact hS.2.1 q g1 g2, fun q hq => by
      rcases List.mem_append.mp hq with h | h
      · exact hS.2.2 q h
      · obtain ⟨z, -, hz⟩ := List.mem_map.mp h
        rw [← hz]
        exact Nat.le_add_right _ _⟩ _ hheap X'
  exact ⟨t, step t a1, b1⟩
/-! Math.min, Math.max -/
theorem g_pureO {pc' : Nat} {st' : List Value} (k : GG Z M Ψ pc' lv st' μ X) (f : ∀ (C : Cx Z M) (H : Heap) (locs : List Loc) (c n : Nat) (Q : State → Prop) (ls : Array Slot), c ≤ (zR Z).cells → n ≤ (zR Z).slots → lvh (zθ Z) ls M.2.2.1 lv → zW Z H locs c n Q (F0 (zm Z) pc' ls (st'.map (re (zθ Z)))) → zW Z H locs c n Q (F0 (zm Z) pc ls (st.map (re (zθ Z))))) : GG Z M Ψ pc lv st μ X := by
  intro r μ' hX
  obtain ⟨h1, h2, h3⟩ := k r μ' hX
  refine ⟨h1, h2, fun C O H locs ls hR hS hl => f C H locs _ _ _ ls ?_ ?_ hl (h3 C O H locs ls hR hS hl)⟩
  · obtain ⟨o1, o2, o3, o4⟩ := O
    omega
  · obtain ⟨o1, o2, o3, o4⟩ := O
    omega
def mnI (x y : Int32) : Int32 := if y < x then y else x
theorem g_mmin {index : Nat} {x y : Int32} (hl : Cond.methodLink M.2.1 index Lib.Math.min.name ∈ TB) (hs : Cond.static Lib.Math.min.name ∈ TB) (hi : Cond.initialized "java/lang/Math" ∈ TB) (hc : Cond.code Lib.Math.min.name Lib.Math.min.code 2 (some .int) ∈ TB) (hrm : decide (1 ≤ M.2.2.2.1 ∧ 21 ≤ M.2.2.2.2.1) = true) (hso : stOk st = true) (d : decode M.1 pc = .ok (.invokestatic index, 3)) (k : GG Z M Ψ (pc + 3) lv (.int (mnI x y) :: st) μ X) : GG Z M Ψ pc lv (.int y :: .int x :: st) μ X :=
  g_pureO k (fun C H locs c n Q ls hc1 hn1 hv w => by
    have h1 := of_decide_eq_true hrm
    have h2 : 2 * 0 + ((st.map (re (zθ Z))).map fun v => v.category).sum ≤ 8 := stOk.use (pc := pc) (θ := zθ Z) (m := zm Z) (ls := ls) (st2 := []) hso
    obtain ⟨c1, c2, c3, c4, c5, c6, c7, c8, c9, c10, c11⟩ := C
    exact va_mmin c1 c2 (c3.trans hv.1.symm) c4 (c5 _ hl) (c5 _ hs) (c5 _ hi) (c5 _ hc) (by show 1 ≤ (zR Z).frames; rw [c8]; exact h1.1) (by
      show _ ≤ (zR Z).locals
      rw [c9]
      have h3 := h1.2
      omega) hc1 hn1 d w)
def mxI (x y : Int32) : Int32 := if x < y then y else x
theorem g_mmax {index : Nat} {x y : Int32} (hl : Cond.methodLink M.2.1 index Lib.Math.max.name ∈ TB) (hs : Cond.static Lib.Math.max.name ∈ TB) (hi : Cond.initialized "java/lang/Math" ∈ TB) (hc : Cond.code Lib.Math.max.name Lib.Math.max.code 2 (some .int) ∈ TB) (hrm : decide (1 ≤ M.2.2.2.1 ∧ 21 ≤ M.2.2.2.2.1) = true) (hso : stOk st = true) (d : decode M.1 pc = .ok (.invokestatic index, 3)) (k : GG Z M Ψ (pc + 3) lv (.int (mxI x y) :: st) μ X) : GG Z M Ψ pc lv (.int y :: .int x :: st) μ X :=
  g_pureO k (fun C H locs c n Q ls hc1 hn1 hv w => by
    have h1 := of_decide_eq_true hrm
    have h2 : 2 * 0 + ((st.map (re (zθ Z))).map fun v => v.category).sum ≤ 8 := stOk.use (pc := pc) (θ := zθ Z) (m := zm Z) (ls := ls) (st2 := []) hso
    obtain ⟨c1, c2, c3, c4, c5, c6, c7, c8, c9, c10, c11⟩ := C
    exact va_mmax c1 c2 (c3.trans hv.1.symm) c4 (c5 _ hl) (c5 _ hs) (c5 _ hi) (c5 _ hc) (by show 1 ≤ (zR Z).frames; rw [c8]; exact h1.1) (by
      show _ ≤ (zR Z).locals
      rw [c9]
      have h3 := h1.2
      omega) hc1 hn1 d w)
/-! arrays of arrays -/
theorem mN_nwG (μ : Mm) (N K : Nat) : mN (nwG μ N K) = mN μ + (1 + N) := by simp [mN, nwG, sH]; omega
theorem mS_nwG (μ : Mm) (N K : Nat) : mS (nwG μ N K) = mS μ + (N + N * K) := rfl
theorem el_nwG {θ : Th} {μ : Mm} {i N K : Nat} {q : Nat × Nat} (h : i < mN μ) : el θ (nwG μ N K) i q = el θ μ i q := by
  have h1 : ¬ mN μ ≤ i := by omega
  have h2 : ¬ i = mN μ := by omega
  have e1 : rR (nwG μ N K) i = rR μ i := by funext j; simp [rR, nwG, h1, h2]
  have e2 : rL (nwG μ N K) i = rL μ i := by funext j; simp [rL, nwG, h1]
  have e3 : rI (nwG μ N K) i = rI μ i := by funext j; simp [rI, nwG, h1]
  have e4 : fv θ (nwG μ N K) i = fv θ μ i := by funext c j; unfold fv; rw [e3, e1]
  unfold el ct
  rw [e1, e2, e3, e4]
theorem g_mna {N K index : Nat} {n k : Int32} {f : Mm → Option (α × Mm)} (hw : Cond.classLink M.2.1 index "[[I" ∈ TB) (hw2 : Cond.arrayClass .int ∈ TB) (hn : ¬ n < 0) (hk : ¬ k < 0) (hN : n.toNatClampNeg = N) (hK : k.toNatClampNeg = K) (hb1 : N * 4 ≤ 536870912) (hb2 : K * componentBytes .int ≤ 536870912) (hb3 : K ≤ 536870912) (d : decode M.1 pc = .ok (.multianewarray index 2, 4)) (kk : ∀ μ1 : Mm, GG Z M Ψ (pc + 4) lv (.ref (mN μ) :: st) μ1 (f μ1)) : GG Z M Ψ pc lv (.int k :: .int n :: st) μ (gd (decide (mN μ + 1 + N < K9)) (lt9 (nwG μ N K) f)) := by
  refine g_gd fun hb => g_lt ?_
  have hb9 : mN μ + 1 + N < K9 := of_decide_eq_true hb
  subst hN
  subst hK
  refine g_mk (mN_nwG μ _ _) (mS_nwG μ _ _) (kk _) (fun C H locs c n9 Q ls hR hS hl h1 h2 w => ?_)
  have hKt := C.2.2.2.2.2.2.1.1
  have ew : "[" ++ (FieldType.array .int).toString = "[[I" := by decide +kernel
  have hcl : (Cond.classLink M.2.1 index ("[" ++ (FieldType.array .int).toString)).before (za Z) (zs Z) = true := by rw [ew]; exact C.2.2.2.2.1 _ hw
  have hcy : (zs Z).vm.findClass (FieldType.array .int).toString = some ((zθ Z).2.2.1 0) := (hKt.2 0 _ rfl).2
  have hcz : (zs Z).vm.findClass ("[" ++ (FieldType.array .int).toString) = some ((zθ Z).2.2.1 6) := (hKt.2 6 _ rfl).2
  intro T hT Xs
  obtain ⟨vm₁, cA, comp, -, fA, fC, hO, -, X', step⟩ := Xs.multianewarray2F C.1 C.2.2.2.1 hcl (va_AOA.use C.2.2.2.2.2.2.1.2.2.2.2.1) (C.2.2.2.2.1 _ hw2) (g := F0 (zm Z) pc ls (.int k :: .int n :: st.map (re (zθ Z)))) rfl (by rw [show Z.2.2.2.2.2.2.2.2.2.1.code = M.1 from C.2.1]; exact d) rfl hn hk hb1 hb2 hb3 (by rfl) (by rfl) h1 h2
  have ec : some ((zθ Z).2.2.1 0) = some comp := hcy.symm.trans fC
  cases ec
  have ec2 : some ((zθ Z).2.2.1 6) = some cA := hcz.symm.trans (by first | exact fA | exact fA.1)
  cases ec2
  generalize hF : Jvm.Free.Multi.fill (T.setVm vm₁) ((zθ Z).2.2.1 6) ((zθ Z).2.2.1 0) n.toNatClampNeg k.toNatClampNeg (defaultValue .int) n.toNatClampNeg = F at X' step
  have hTh : (T.setVm vm₁).heap = H := hT
  obtain ⟨f1, f2, -, -⟩ := Jvm.Free.Multi.fill_facts (T.setVm vm₁) ((zθ Z).2.2.1 6) ((zθ Z).2.2.1 0) n.toNatClampNeg k.toNatClampNeg (defaultValue .int) n.toNatClampNeg
  rw [hF, hTh] at f1 f2
  have hold : ∀ x : Nat, x < H.size → F.heap[x]? = H[x]? := fun x hx => by
    have := Jvm.Free.Multi.fill_old (T.setVm vm₁) ((zθ Z).2.2.1 6) ((zθ Z).2.2.1 0) n.toNatClampNeg k.toNatClampNeg (defaultValue .int) (a := x) (by rw [hTh]; exact hx) n.toNatClampNeg
    rw [hF, hTh] at this
    exact this
  have hz : ∀ c9 : ClassId, Jvm.Free.Multi.innerC c9 k.toNatClampNeg (defaultValue .int) = vp_cell c9 (k.toNatClampNeg, .inl (fun _ => 0)) := fun c9 => by
    rw [vp_cell_i]
    show ({ cls := c9, slots := Array.replicate k.toNatClampNeg (.int 0), vm := .none } : Cell) = _
    rw [arrV_new]
  have hrow : ∀ j : Nat, j < n.toNatClampNeg → F.heap[H.size + 1 + j]? = some (vp_cell ((zθ Z).2.2.1 0) (k.toNatClampNeg, .inl (fun _ => 0))) := fun j hj => by
    have := Jvm.Free.Multi.fill_inner (T.setVm vm₁) ((zθ Z).2.2.1 6) ((zθ Z).2.2.1 0) n.toNatClampNeg k.toNatClampNeg (defaultValue .int) n.toNatClampNeg j hj
    rw [hF, hTh, hz] at this
    exact this
  have hout : Jvm.Free.Multi.outerC ((zθ Z).2.2.1 6) n.toNatClampNeg H.size n.toNatClampNeg = vp_cell ((zθ Z).2.2.1 6) (n.toNatClampNeg, .inr (.inr (.inr (.inr (fun i => if i < n.toNatClampNeg then some (H.size + 1 + i) else none))))) := by
    rw [vp_cell_q]
    exact vr_outer ((zθ Z).2.2.1 6) n.toNatClampNeg H.size n.toNatClampNeg
  rw [hout] at f2
  have hsz : F.heap.size = H.size + 1 + n.toNatClampNeg := by omega
  have hRl : Rl (zθ Z) (nwG μ n.toNatClampNeg k.toNatClampNeg) F.heap := by
    refine ⟨by rw [hsz, mN_nwG, hR.1]; omega, fun i q hi hq => ?_, by rw [mN_nwG]; omega⟩
    have hi' : (sH μ ++ (106, n.toNatClampNeg) :: List.replicate n.toNatClampNeg (100, k.toNatClampNeg))[i]? = some q := hi
    by_cases hlt : i < mN μ
    · rw [List.getElem?_append_left hlt] at hi'
      rw [el_nwG hlt]
      exact va_at.kept (hR.2.1 i q hi' hq) (hold _ (by rw [hR.1]; show tB (zθ Z) + i < _; omega))
    · rw [List.getElem?_append_right (by unfold mN at hlt; omega)] at hi'
      by_cases he : i = mN μ
      · subst he
        rw [show mN μ - (sH μ).length = 0 by unfold mN; omega] at hi'
        cases hi'
        have e8 : el (zθ Z) (nwG μ n.toNatClampNeg k.toNatClampNeg) (mN μ) (106, n.toNatClampNeg) = .inl ((zθ Z).2.2.1 6, n.toNatClampNeg, .inr (.inr (.inr (.inr (fun i => if i < n.toNatClampNeg then some (H.size + 1 + i) else none))))) := by
          show (Sum.inl ((zθ Z).2.2.1 6, n.toNatClampNeg, ct _ _ _ 106) : va_E) = _
          unfold ct
          rw [if_neg (by decide), if_neg (by decide)]
          congr 7
          funext j
          by_cases hj : j < n.toNatClampNeg
          · simp only [rR, nwG, hj, if_true, Option.map_some]
            congr 1
            unfold ad
            rw [if_pos (by omega), hR.1]
            omega
          · simp [rR, nwG, hj]
        rw [e8, ← hR.1]
        exact f2
      · obtain ⟨j, hj⟩ : ∃ j, i = mN μ + 1 + j := ⟨i - mN μ - 1, by omega⟩
        subst hj
        rw [show mN μ + 1 + j - (sH μ).length = j + 1 by unfold mN; omega, List.getElem?_cons_succ, List.getElem?_replicate] at hi'
        split at hi'
        · next hjn =>
          cases hi'
          have e8 : el (zθ Z) (nwG μ n.toNatClampNeg k.toNatClampNeg) (mN μ + 1 + j) (100, k.toNatClampNeg) = .inl ((zθ Z).2.2.1 0, k.toNatClampNeg, .inl (fun _ => 0)) := by
            show (Sum.inl ((zθ Z).2.2.1 0, k.toNatClampNeg, ct _ _ _ 100) : va_E) = _
            unfold ct
            rw [if_neg (by decide), if_pos (by decide)]
            congr 3
            congr 1
            funext z
            simp [rI, nwG, show mN μ ≤ mN μ + 1 + j by omega]
          rw [e8]
          show F.heap[tB (zθ Z) + (mN μ + 1 + j)]? = _
          rw [show tB (zθ Z) + (mN μ + 1 + j) = H.size + 1 + j by rw [hR.1]; omega]
          exact hrow j hjn
        · cases hi'
  have h9 := w F.heap hRl (va_S_nw hS (by omega) hold)
  have e9 : (List.map (re (zθ Z)) (Value.ref (mN μ) :: st)) = .ref H.size :: st.map (re (zθ Z)) := by
    show Value.ref (ad (zθ Z) (mN μ)) :: _ = _
    unfold ad
    rw [if_pos (by omega), hR.1]
  rw [e9] at h9
  subst hT
  obtain ⟨t, a1, b1⟩ := h9 F rfl (by first | exact X' | (rw [show c + (1 + n.toNatClampNeg) = c + 1 + n.toNatClampNeg by omega, show n9 + (n.toNatClampNeg + n.toNatClampNeg * k.toNatClampNeg) = n9 + n.toNatClampNeg + n.toNatClampNeg * k.toNatClampNeg by omega]; exact X'))
  exact ⟨t, step t a1, b1⟩
/-! String constants -/
theorem g_ldcS {index k : Nat} {tx : String} (d : decode M.1 pc = .ok (.ldc index, 2)) (hk9 : k < 1000) (hk : (M.2.1, index, tx, k) ∈ stK) (kk : GG Z M Ψ (pc + 2) lv (.ref (K9 + k) :: st) μ X) : GG Z M Ψ pc lv st μ X :=
  g_pure kk (fun C H locs c n Q ls _ _ _ w => by
    have e : (List.map (re (zθ Z)) (Value.ref (K9 + k) :: st)) = .ref ((zθ Z).2.2.2.2.1 k) :: st.map (re (zθ Z)) := by
      show Value.ref (ad (zθ Z) (K9 + k)) :: _ = _
      unfold ad
      rw [if_neg (by omega), if_pos (by omega), Nat.add_sub_cancel_left]
    rw [e] at w
    exact va_ldcS C.1 C.2.1 C.2.2.2.1 (C.2.2.2.2.2.2.1.2.2.2.2.2.2.2.2.2.1 _ hk) d w)
end G5
