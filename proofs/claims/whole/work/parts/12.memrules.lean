section G2
variable {α : Type} {Z : Zx} {M : MI} {Ψ : α → Mm → State → Prop} {pc : Nat} {lv : List (Option Value)} {st : List Value} {μ : Mm} {X Y : Option (α × Mm)}
theorem vaP1 {D : va_G} {cl : List vw_C} {q : Nat × va_E} {H : Heap} (h : va_at D cl q H) : va_P D cl [q] H := fun k x hx => by
  cases k with
  | zero => cases hx; exact h
  | succ k => simp at hx
theorem okA_spec {μ : Mm} {t a : Nat} {i : Int32} (h : okA μ t a i = true) : ∃ n, (sH μ)[a]? = some (t, n) ∧ vp_in i n := by
  unfold okA at h
  split at h
  · next q hq =>
    simp only [Bool.and_eq_true, beq_iff_eq, decide_eq_true_eq] at h
    obtain ⟨h1, h2⟩ := h
    subst h1
    exact ⟨q.2, hq, vp_in_iff.mpr h2⟩
  · cases h
theorem okO_spec {μ : Mm} {a c : Nat} (h : okO μ a c = true) : (sH μ)[a]? = some (c, fN c) := by
  unfold okO at h
  split at h
  · next q hq =>
    simp only [Bool.and_eq_true, beq_iff_eq] at h
    obtain ⟨h1, h2⟩ := h
    subst h1
    rw [hq, ← h2]
  · cases h
theorem okT_spec {μ : Mm} {t a : Nat} (h : okT μ t a = true) : ∃ n, (sH μ)[a]? = some (t, n) ∧ ln μ a = Int32.ofNat n := by
  unfold okT at h
  split at h
  · next q hq =>
    simp only [beq_iff_eq] at h
    subst h
    exact ⟨q.2, hq, by unfold ln; rw [hq]⟩
  · cases h
theorem Rl_ad {θ : Th} {μ : Mm} {H : Heap} {a : Nat} {q : Nat × Nat} (hR : Rl θ μ H) (h : (sH μ)[a]? = some q) : ad θ a = tB θ + a := by
  have h1 : a < mN μ := (List.getElem?_eq_some_iff.mp h).1
  have h2 := hR.2.2
  unfold ad
  rw [if_pos (by omega)]
theorem Rl_in {θ : Th} {μ : Mm} {H : Heap} {a : Nat} (hR : Rl θ μ H) (h : a < mN μ) : ad θ a = tB θ + a := by
  have h2 := hR.2.2
  unfold ad
  rw [if_pos (by omega)]
theorem el_obj (θ : Th) (μ : Mm) (a : Nat) {c N : Nat} (h : c < 50) : el θ μ a (c, N) = .inr (c, (List.range N).map (fv θ μ a c)) := if_pos h
theorem fv_get (θ : Th) (μ : Mm) (a c : Nat) {k N : Nat} (hk : k < N) : ((List.range N).map (fv θ μ a c))[k]? = some (fv θ μ a c k) := by
  rw [List.getElem?_map, List.getElem?_range hk]
  rfl
theorem fv_V (θ : Th) (μ : Mm) (a c : Nat) {k N : Nat} (hk : k < N) : vp_V ((List.range N).map (fv θ μ a c)) k = fv θ μ a c k := by
  unfold vp_V
  rw [List.getD_eq_getElem?_getD, fv_get θ μ a c hk]
  rfl
/-- what a class's table must say -/
def ClOk (c : Nat) (C : String) (T : u_T) (N : Nat) : Prop := cl9[c]? = some (C, T, N) ∧ fN c = N ∧ c < 50 ∧ (∀ w ∈ u_ws C T N, w ∈ TB) ∧ (∀ k, k < N → parseFieldDescriptor (T k).2.2.1 = some (fty c k)) ∧ (∀ a, a < N → ∀ b, b < N → a ≠ b → (T a).2.1 ≠ (T b).2.1)
/-- a step that changes the memory's contents -/
theorem g_mem {pc' : Nat} {st' : List Value} {μ1 : Mm} (hn : sH μ1 = sH μ) (hs : mS μ1 = mS μ) (k : GG Z M Ψ pc' lv st' μ1 X) (f : ∀ (C : Cx Z M) (H : Heap) (locs : List Loc) (c n : Nat) (Q : State → Prop) (ls : Array Slot), Rl (zθ Z) μ H → va_S (tA (zθ Z)) (zs Z).heap H locs → lvh (zθ Z) ls M.2.2.1 lv → (∀ (H1 : Heap) (locs1 : List Loc), Rl (zθ Z) μ1 H1 → va_S (tA (zθ Z)) (zs Z).heap H1 locs1 → zW Z H1 locs1 c n Q (F0 (zm Z) pc' ls (st'.map (re (zθ Z))))) → zW Z H locs c n Q (F0 (zm Z) pc ls (st.map (re (zθ Z))))) : GG Z M Ψ pc lv st μ X := by
  intro r μ' hX
  obtain ⟨h1, h2, h3⟩ := k r μ' hX
  have e : mN μ1 = mN μ := by unfold mN; rw [hn]
  rw [e] at h1 h3
  rw [hs] at h2 h3
  refine ⟨h1, h2, fun C O H locs ls hR hS hl => f C H locs _ _ _ ls hR hS hl (fun H1 locs1 hR1 hS1 => ?_)⟩
  have O1 : zOk Z μ1 μ' := by
    unfold zOk at O ⊢
    rw [e, hs]
    exact O
  exact h3 C O1 H1 locs1 ls hR1 hS1 hl
theorem Rl_upd {θ : Th} {μ μ1 : Mm} {H H1 : Heap} {a : Nat} {qa : Nat × Nat} (hR : Rl θ μ H) (hs : sH μ1 = sH μ) (ha : (sH μ)[a]? = some qa) (hoth : ∀ (i : Nat) (q : Nat × Nat), i ≠ a → el θ μ1 i q = el θ μ i q) (hat : va_at (tD θ) cl9 (tB θ + a, el θ μ1 a qa) H1) (hz : H1.size = H.size) (oq : ∀ q : Nat, q ≠ tB θ + a → H1[q]? = H[q]?) : Rl θ μ1 H1 := by
  have e : mN μ1 = mN μ := by unfold mN; rw [hs]
  refine ⟨by rw [hz, e]; exact hR.1, fun i q hi hq => ?_, by rw [e]; exact hR.2.2⟩
  rw [hs] at hi
  by_cases h : i = a
  · subst h
    rw [ha] at hi
    cases hi
    exact hat
  · rw [hoth i q h]
    exact va_at.kept (hR.2.1 i q hi hq) (oq _ (by show tB θ + i ≠ tB θ + a; omega))
theorem el_wI {θ : Th} {μ : Mm} {a j i : Nat} {v : Int32} {q : Nat × Nat} (h : i ≠ a) : el θ (wI μ a j v) i q = el θ μ i q := by
  have e1 : rI (wI μ a j v) i = rI μ i := by funext k; simp [rI, wI, h]
  have e2 : rR (wI μ a j v) i = rR μ i := rfl
  have e3 : rL (wI μ a j v) i = rL μ i := rfl
  have e4 : fv θ (wI μ a j v) i = fv θ μ i := by funext c k; unfold fv; rw [e1, e2]
  unfold el ct
  rw [e1, e2, e3, e4]
theorem el_wL {θ : Th} {μ : Mm} {a j i : Nat} {v : Int64} {q : Nat × Nat} (h : i ≠ a) : el θ (wL μ a j v) i q = el θ μ i q := by
  have e1 : rL (wL μ a j v) i = rL μ i := by funext k; simp [rL, wL, h]
  have e2 : rR (wL μ a j v) i = rR μ i := rfl
  have e3 : rI (wL μ a j v) i = rI μ i := rfl
  have e4 : fv θ (wL μ a j v) i = fv θ μ i := by funext c k; unfold fv; rw [e3, e2]
  unfold el ct
  rw [e1, e2, e3, e4]
theorem el_wR {θ : Th} {μ : Mm} {a j i : Nat} {v : Option Nat} {q : Nat × Nat} (h : i ≠ a) : el θ (wR μ a j v) i q = el θ μ i q := by
  have e1 : rR (wR μ a j v) i = rR μ i := by funext k; simp [rR, wR, h]
  have e2 : rL (wR μ a j v) i = rL μ i := rfl
  have e3 : rI (wR μ a j v) i = rI μ i := rfl
  have e4 : fv θ (wR μ a j v) i = fv θ μ i := by funext c k; unfold fv; rw [e3, e1]
  unfold el ct
  rw [e1, e2, e3, e4]
/-! reads of arrays -/
theorem g_iaload {a : Nat} {i : Int32} (d : decode M.1 pc = .ok (.iaload, 1)) (k : GG Z M Ψ (pc + 1) lv (.int (rI μ a (ix i)) :: st) μ X) : GG Z M Ψ pc lv (.int i :: .ref a :: st) μ (gd (okA μ 100 a i) X) :=
  g_gp k (fun hb C H locs c n Q ls hR hS hl w => by
    obtain ⟨n9, hsh, hin⟩ := okA_spec hb
    have hat := vaP1 (hR.2.1 a _ hsh (by show (100 : Nat) ≠ 50; decide))
    show zW Z H locs c n Q (F0 (zm Z) pc ls (.int i :: .ref (ad (zθ Z) a) :: st.map (re (zθ Z))))
    rw [Rl_ad hR hsh]
    exact va_iald C.1 C.2.1 C.2.2.2.2.2.2.1.1 hat 0 0 rfl rfl hin d w)
theorem g_laload {a : Nat} {i : Int32} (d : decode M.1 pc = .ok (.laload, 1)) (k : GG Z M Ψ (pc + 1) lv (.long (rL μ a (ix i)) :: st) μ X) : GG Z M Ψ pc lv (.int i :: .ref a :: st) μ (gd (okA μ 101 a i) X) :=
  g_gp k (fun hb C H locs c n Q ls hR hS hl w => by
    obtain ⟨n9, hsh, hin⟩ := okA_spec hb
    have hat := vaP1 (hR.2.1 a _ hsh (by show (101 : Nat) ≠ 50; decide))
    show zW Z H locs c n Q (F0 (zm Z) pc ls (.int i :: .ref (ad (zθ Z) a) :: st.map (re (zθ Z))))
    rw [Rl_ad hR hsh]
    exact va_lald C.1 C.2.1 C.2.2.2.2.2.2.1.1 hat 0 1 rfl rfl hin d w)
theorem g_baload {a : Nat} {i : Int32} (d : decode M.1 pc = .ok (.baload, 1)) (k : GG Z M Ψ (pc + 1) lv (.int (rI μ a (ix i)) :: st) μ X) : GG Z M Ψ pc lv (.int i :: .ref a :: st) μ (gd (okA μ 102 a i) X) :=
  g_gp k (fun hb C H locs c n Q ls hR hS hl w => by
    obtain ⟨n9, hsh, hin⟩ := okA_spec hb
    have hat := vaP1 (hR.2.1 a _ hsh (by show (102 : Nat) ≠ 50; decide))
    show zW Z H locs c n Q (F0 (zm Z) pc ls (.int i :: .ref (ad (zθ Z) a) :: st.map (re (zθ Z))))
    rw [Rl_ad hR hsh]
    exact va_bald C.1 C.2.1 C.2.2.2.2.2.2.1.1 hat 0 2 rfl rfl hin d w)
theorem g_caload {a : Nat} {i : Int32} (d : decode M.1 pc = .ok (.caload, 1)) (k : GG Z M Ψ (pc + 1) lv (.int (rI μ a (ix i)) :: st) μ X) : GG Z M Ψ pc lv (.int i :: .ref a :: st) μ (gd (okA μ 103 a i) X) :=
  g_gp k (fun hb C H locs c n Q ls hR hS hl w => by
    obtain ⟨n9, hsh, hin⟩ := okA_spec hb
    have hat := vaP1 (hR.2.1 a _ hsh (by show (103 : Nat) ≠ 50; decide))
    show zW Z H locs c n Q (F0 (zm Z) pc ls (.int i :: .ref (ad (zθ Z) a) :: st.map (re (zθ Z))))
    rw [Rl_ad hR hsh]
    exact va_cald C.1 C.2.1 C.2.2.2.2.2.2.1.1 hat 0 3 rfl rfl hin d w)
theorem W_aald {p : Program} {l : Launch} {e : Env} {R : Room} {s : State} {m : MethodId} {args : Array Value} {below : List Frame} {meth : Method} {c : Code} {H : Heap} {locs : List Loc} {cells slots : Nat} {Q : State → Prop} {cc : ByteArray} {pc : Nat} {ls : Array Slot} {rest : List Value} {D : va_G} {cl : List vw_C} {a : Nat} {tys : List (ClassId × FieldType)} {ws : va_W}
    (hexec : p.tables.exec = Jvm.exec) (hb : c.code = cc) (hK : va_K D cl tys s) (hP : va_P D cl ws H) (q0 t0 : Nat) {cA : ClassId} {ty : FieldType} (hty : refKind ty = true) {n : Nat} {f : Nat → Option Nat} (ha : ws[q0]? = some (a, .inl (cA, n, .inr (.inr (.inr (.inr f)))))) (ht : tys[t0]? = some (cA, ty)) {i : Int32} (hin : vp_in i n) (hdg : decode cc pc = .ok (.aaload, 1))
    (kk : W p l e R s m args below meth c H locs cells slots Q (F0 m (pc + 1) ls (va_rf (f i.toNatClampNeg) :: rest))) : W p l e R s m args below meth c H locs cells slots Q (F0 m pc ls (.int i :: .ref a :: rest)) := by
  have hlt : i.toNatClampNeg < n := Nat.not_le.mp fun q => hin (Or.inr q)
  exact W.aald (v := va_rf (f i.toNatClampNeg)) (ty := ty) hexec hb (hP q0 _ ha) ((hK.2 t0 _ ht).1 n (fun j => va_rf (f j))) hty (fun q => by cases q) (by show ¬ (i < 0 ∨ (arrV _ _ _).slots.size ≤ _); rw [arrV_size]; exact hin) (by show (arrV _ _ _).slots[_]? = _; rw [arrV_read _ _ hlt]) rfl rfl hdg kk
theorem re_rf {θ : Th} (o : Option Nat) : va_rf (o.map (ad θ)) = re θ (va_rf o) := by cases o <;> rfl
/-- a reference is read: two ways on -/
theorem g_oc {pc' : Nat} {st' : List Value} {o : Option Nat} {b : Bool} {f : Nat → Option (α × Mm)} (kn : GG Z M Ψ pc' lv (.null :: st') μ X) (ks : ∀ q : Nat, GG Z M Ψ pc' lv (.ref q :: st') μ (f q)) (g : b = true → ∀ (C : Cx Z M) (H : Heap) (locs : List Loc) (c n : Nat) (Q : State → Prop) (ls : Array Slot), Rl (zθ Z) μ H → zW Z H locs c n Q (F0 (zm Z) pc' ls (va_rf (o.map (ad (zθ Z))) :: st'.map (re (zθ Z)))) → zW Z H locs c n Q (F0 (zm Z) pc ls (st.map (re (zθ Z)))))
    : GG Z M Ψ pc lv st μ (gd b (oc o X f)) := by
  refine g_gd fun hb => ?_
  cases o with
  | none => exact g_pure kn (fun C H locs c n Q ls hR _ _ w => g hb C H locs c n Q ls hR w)
  | some q => exact g_pure (ks q) (fun C H locs c n Q ls hR _ _ w => g hb C H locs c n Q ls hR w)
theorem g_aaloadS {a : Nat} {i : Int32} {f : Nat → Option (α × Mm)} (d : decode M.1 pc = .ok (.aaload, 1)) (kn : GG Z M Ψ (pc + 1) lv (.null :: st) μ X) (ks : ∀ q : Nat, GG Z M Ψ (pc + 1) lv (.ref q :: st) μ (f q)) : GG Z M Ψ pc lv (.int i :: .ref a :: st) μ (gd (okA μ 104 a i) (oc (rR μ a (ix i)) X f)) :=
  g_oc kn ks (fun hb C H locs c n Q ls hR w => by
    obtain ⟨n9, hsh, hin⟩ := okA_spec hb
    have hat := vaP1 (hR.2.1 a _ hsh (by show (104 : Nat) ≠ 50; decide))
    show zW Z H locs c n Q (F0 (zm Z) pc ls (.int i :: .ref (ad (zθ Z) a) :: st.map (re (zθ Z))))
    rw [Rl_ad hR hsh]
    exact W_aald C.1 C.2.1 C.2.2.2.2.2.2.1.1 hat 0 4 (by rfl) rfl rfl hin d w)
theorem g_aaloadI {a : Nat} {i : Int32} {f : Nat → Option (α × Mm)} (d : decode M.1 pc = .ok (.aaload, 1)) (kn : GG Z M Ψ (pc + 1) lv (.null :: st) μ X) (ks : ∀ q : Nat, GG Z M Ψ (pc + 1) lv (.ref q :: st) μ (f q)) : GG Z M Ψ pc lv (.int i :: .ref a :: st) μ (gd (okA μ 105 a i) (oc (rR μ a (ix i)) X f)) :=
  g_oc kn ks (fun hb C H locs c n Q ls hR w => by
    obtain ⟨n9, hsh, hin⟩ := okA_spec hb
    have hat := vaP1 (hR.2.1 a _ hsh (by show (105 : Nat) ≠ 50; decide))
    show zW Z H locs c n Q (F0 (zm Z) pc ls (.int i :: .ref (ad (zθ Z) a) :: st.map (re (zθ Z))))
    rw [Rl_ad hR hsh]
    exact W_aald C.1 C.2.1 C.2.2.2.2.2.2.1.1 hat 0 5 (by rfl) rfl rfl hin d w)
theorem g_aaloadA {a : Nat} {i : Int32} {f : Nat → Option (α × Mm)} (d : decode M.1 pc = .ok (.aaload, 1)) (kn : GG Z M Ψ (pc + 1) lv (.null :: st) μ X) (ks : ∀ q : Nat, GG Z M Ψ (pc + 1) lv (.ref q :: st) μ (f q)) : GG Z M Ψ pc lv (.int i :: .ref a :: st) μ (gd (okA μ 106 a i) (oc (rR μ a (ix i)) X f)) :=
  g_oc kn ks (fun hb C H locs c n Q ls hR w => by
    obtain ⟨n9, hsh, hin⟩ := okA_spec hb
    have hat := vaP1 (hR.2.1 a _ hsh (by show (106 : Nat) ≠ 50; decide))
    show zW Z H locs c n Q (F0 (zm Z) pc ls (.int i :: .ref (ad (zθ Z) a) :: st.map (re (zθ Z))))
    rw [Rl_ad hR hsh]
    exact W_aald C.1 C.2.1 C.2.2.2.2.2.2.1.1 hat 0 6 (by rfl) rfl rfl hin d w)
theorem g_alen100 {a : Nat} (d : decode M.1 pc = .ok (.arraylength, 1)) (k : GG Z M Ψ (pc + 1) lv (.int (ln μ a) :: st) μ X) : GG Z M Ψ pc lv (.ref a :: st) μ (gd (okT μ 100 a) X) :=
  g_gp k (fun hb C H locs c n Q ls hR hS hl w => by
    obtain ⟨n9, hsh, hln⟩ := okT_spec hb
    have hat := vaP1 (hR.2.1 a _ hsh (by show (100 : Nat) ≠ 50; decide))
    show zW Z H locs c n Q (F0 (zm Z) pc ls (.ref (ad (zθ Z) a) :: st.map (re (zθ Z))))
    rw [Rl_ad hR hsh]
    exact va_alen C.1 C.2.1 C.2.2.2.2.2.2.1.1 hat 0 0 rfl rfl hln.symm d w)
theorem g_alen101 {a : Nat} (d : decode M.1 pc = .ok (.arraylength, 1)) (k : GG Z M Ψ (pc + 1) lv (.int (ln μ a) :: st) μ X) : GG Z M Ψ pc lv (.ref a :: st) μ (gd (okT μ 101 a) X) :=
  g_gp k (fun hb C H locs c n Q ls hR hS hl w => by
    obtain ⟨n9, hsh, hln⟩ := okT_spec hb
    have hat := vaP1 (hR.2.1 a _ hsh (by show (101 : Nat) ≠ 50; decide))
    show zW Z H locs c n Q (F0 (zm Z) pc ls (.ref (ad (zθ Z) a) :: st.map (re (zθ Z))))
    rw [Rl_ad hR hsh]
    exact va_alen C.1 C.2.1 C.2.2.2.2.2.2.1.1 hat 0 1 rfl rfl hln.symm d w)
theorem g_alen102 {a : Nat} (d : decode M.1 pc = .ok (.arraylength, 1)) (k : GG Z M Ψ (pc + 1) lv (.int (ln μ a) :: st) μ X) : GG Z M Ψ pc lv (.ref a :: st) μ (gd (okT μ 102 a) X) :=
  g_gp k (fun hb C H locs c n Q ls hR hS hl w => by
    obtain ⟨n9, hsh, hln⟩ := okT_spec hb
    have hat := vaP1 (hR.2.1 a _ hsh (by show (102 : Nat) ≠ 50; decide))
    show zW Z H locs c n Q (F0 (zm Z) pc ls (.ref (ad (zθ Z) a) :: st.map (re (zθ Z))))
    rw [Rl_ad hR hsh]
    exact va_alen C.1 C.2.1 C.2.2.2.2.2.2.1.1 hat 0 2 rfl rfl hln.symm d w)
theorem g_alen103 {a : Nat} (d : decode M.1 pc = .ok (.arraylength, 1)) (k : GG Z M Ψ (pc + 1) lv (.int (ln μ a) :: st) μ X) : GG Z M Ψ pc lv (.ref a :: st) μ (gd (okT μ 103 a) X) :=
  g_gp k (fun hb C H locs c n Q ls hR hS hl w => by
    obtain ⟨n9, hsh, hln⟩ := okT_spec hb
    have hat := vaP1 (hR.2.1 a _ hsh (by show (103 : Nat) ≠ 50; decide))
    show zW Z H locs c n Q (F0 (zm Z) pc ls (.ref (ad (zθ Z) a) :: st.map (re (zθ Z))))
    rw [Rl_ad hR hsh]
    exact va_alen C.1 C.2.1 C.2.2.2.2.2.2.1.1 hat 0 3 rfl rfl hln.symm d w)
theorem g_alen104 {a : Nat} (d : decode M.1 pc = .ok (.arraylength, 1)) (k : GG Z M Ψ (pc + 1) lv (.int (ln μ a) :: st) μ X) : GG Z M Ψ pc lv (.ref a :: st) μ (gd (okT μ 104 a) X) :=
  g_gp k (fun hb C H locs c n Q ls hR hS hl w => by
    obtain ⟨n9, hsh, hln⟩ := okT_spec hb
    have hat := vaP1 (hR.2.1 a _ hsh (by show (104 : Nat) ≠ 50; decide))
    show zW Z H locs c n Q (F0 (zm Z) pc ls (.ref (ad (zθ Z) a) :: st.map (re (zθ Z))))
    rw [Rl_ad hR hsh]
    exact va_alen C.1 C.2.1 C.2.2.2.2.2.2.1.1 hat 0 4 rfl rfl hln.symm d w)
theorem g_alen105 {a : Nat} (d : decode M.1 pc = .ok (.arraylength, 1)) (k : GG Z M Ψ (pc + 1) lv (.int (ln μ a) :: st) μ X) : GG Z M Ψ pc lv (.ref a :: st) μ (gd (okT μ 105 a) X) :=
  g_gp k (fun hb C H locs c n Q ls hR hS hl w => by
    obtain ⟨n9, hsh, hln⟩ := okT_spec hb
    have hat := vaP1 (hR.2.1 a _ hsh (by show (105 : Nat) ≠ 50; decide))
    show zW Z H locs c n Q (F0 (zm Z) pc ls (.ref (ad (zθ Z) a) :: st.map (re (zθ Z))))
    rw [Rl_ad hR hsh]
    exact va_alen C.1 C.2.1 C.2.2.2.2.2.2.1.1 hat 0 5 rfl rfl hln.symm d w)
theorem g_alen106 {a : Nat} (d : decode M.1 pc = .ok (.arraylength, 1)) (k : GG Z M Ψ (pc + 1) lv (.int (ln μ a) :: st) μ X) : GG Z M Ψ pc lv (.ref a :: st) μ (gd (okT μ 106 a) X) :=
  g_gp k (fun hb C H locs c n Q ls hR hS hl w => by
    obtain ⟨n9, hsh, hln⟩ := okT_spec hb
    have hat := vaP1 (hR.2.1 a _ hsh (by show (106 : Nat) ≠ 50; decide))
    show zW Z H locs c n Q (F0 (zm Z) pc ls (.ref (ad (zθ Z) a) :: st.map (re (zθ Z))))
    rw [Rl_ad hR hsh]
    exact va_alen C.1 C.2.1 C.2.2.2.2.2.2.1.1 hat 0 6 rfl rfl hln.symm d w)
/-! reads of fields -/
theorem g_getI {a c0 k N index : Nat} {C0 : String} {T : u_T} (hcl : ClOk c0 C0 T N) (hk : k < N) (hf : fR c0 k = false) (hw : Cond.fieldLink M.2.1 index (T k).1 (T k).2.1 (T k).2.2.1 ∈ TB) (d : decode M.1 pc = .ok (.getfield index, 3)) (kk : GG Z M Ψ (pc + 3) lv (.int (rI μ a k) :: st) μ X) : GG Z M Ψ pc lv (.ref a :: st) μ (gd (okO μ a c0) X) :=
  g_gp kk (fun hb C H locs c n Q ls hR hS hl w => by
    obtain ⟨hc, hN, h50, hin, -, -⟩ := hcl
    have hsh := okO_spec hb
    have hat := hR.2.1 a _ hsh (by show c0 ≠ 50; omega)
    rw [el_obj _ _ _ h50, hN] at hat
    show zW Z H locs c n Q (F0 (zm Z) pc ls (.ref (ad (zθ Z) a) :: st.map (re (zθ Z))))
    rw [Rl_ad hR hsh]
    exact va_get (D := tD (zθ Z)) (ci := c0) (v := .int (rI μ a k)) (C := C0) (T := T) (N := N) C.1 C.2.1 C.2.2.2.2.1 hin C.2.2.2.1 C.2.2.2.2.2.2.1.1 (vaP1 hat) 0 rfl hc k hk (C.2.2.2.2.1 _ hw) (fun _ h => h) (by rw [fv_get _ _ _ _ hk]; unfold fv; rw [if_neg (by rw [hf]; decide)]) d w)
theorem g_getR {a c0 k N index : Nat} {C0 : String} {T : u_T} {f : Nat → Option (α × Mm)} (hcl : ClOk c0 C0 T N) (hk : k < N) (hf : fR c0 k = true) (hw : Cond.fieldLink M.2.1 index (T k).1 (T k).2.1 (T k).2.2.1 ∈ TB) (d : decode M.1 pc = .ok (.getfield index, 3)) (ks : ∀ q : Nat, GG Z M Ψ (pc + 3) lv (.ref q :: st) μ (f q)) : GG Z M Ψ pc lv (.ref a :: st) μ (gd (okO μ a c0) (oc (rR μ a k) none f)) :=
  g_oc g_no ks (fun hb C H locs c n Q ls hR w => by
    obtain ⟨hc, hN, h50, hin, -, -⟩ := hcl
    have hsh := okO_spec hb
    have hat := hR.2.1 a _ hsh (by show c0 ≠ 50; omega)
    rw [el_obj _ _ _ h50, hN] at hat
    show zW Z H locs c n Q (F0 (zm Z) pc ls (.ref (ad (zθ Z) a) :: st.map (re (zθ Z))))
    rw [Rl_ad hR hsh]
    exact va_get (D := tD (zθ Z)) (ci := c0) (v := va_rf ((rR μ a k).map (ad (zθ Z)))) (C := C0) (T := T) (N := N) C.1 C.2.1 C.2.2.2.2.1 hin C.2.2.2.1 C.2.2.2.2.2.2.1.1 (vaP1 hat) 0 rfl hc k hk (C.2.2.2.2.1 _ hw) (fun _ h => h) (by rw [fv_get _ _ _ _ hk]; unfold fv; rw [if_pos hf]) d w)
theorem g_getIN {a c0 k N index : Nat} {C0 : String} {T : u_T} {host : String} (hcl : ClOk c0 C0 T N) (hk : k < N) (hf : fR c0 k = false) (hw : Cond.fieldLinkNest M.2.1 index (T k).1 (T k).2.1 (T k).2.2.1 host ∈ NB) (d : decode M.1 pc = .ok (.getfield index, 3)) (kk : GG Z M Ψ (pc + 3) lv (.int (rI μ a k) :: st) μ X) : GG Z M Ψ pc lv (.ref a :: st) μ (gd (okO μ a c0) X) :=
  g_gp kk (fun hb C H locs c n Q ls hR hS hl w => by
    obtain ⟨hc, hN, h50, hin, -, -⟩ := hcl
    have hsh := okO_spec hb
    have hat := hR.2.1 a _ hsh (by show c0 ≠ 50; omega)
    rw [el_obj _ _ _ h50, hN] at hat
    show zW Z H locs c n Q (F0 (zm Z) pc ls (.ref (ad (zθ Z) a) :: st.map (re (zθ Z))))
    rw [Rl_ad hR hsh]
    exact va_getN (D := tD (zθ Z)) (ci := c0) (v := .int (rI μ a k)) (C := C0) (T := T) (N := N) C.1 C.2.1 C.2.2.2.2.1 hin C.2.2.2.1 C.2.2.2.2.2.2.1.1 (vaP1 hat) 0 rfl hc k hk (va_Nw.use rfl (C.2.2.2.2.2.2.1.2.1 _ hw)) (fun _ h => h) (by rw [fv_get _ _ _ _ hk]; unfold fv; rw [if_neg (by rw [hf]; decide)]) d w)
theorem g_getRN {a c0 k N index : Nat} {C0 : String} {T : u_T} {host : String} {f : Nat → Option (α × Mm)} (hcl : ClOk c0 C0 T N) (hk : k < N) (hf : fR c0 k = true) (hw : Cond.fieldLinkNest M.2.1 index (T k).1 (T k).2.1 (T k).2.2.1 host ∈ NB) (d : decode M.1 pc = .ok (.getfield index, 3)) (ks : ∀ q : Nat, GG Z M Ψ (pc + 3) lv (.ref q :: st) μ (f q)) : GG Z M Ψ pc lv (.ref a :: st) μ (gd (okO μ a c0) (oc (rR μ a k) none f)) :=
  g_oc g_no ks (fun hb C H locs c n Q ls hR w => by
    obtain ⟨hc, hN, h50, hin, -, -⟩ := hcl
    have hsh := okO_spec hb
    have hat := hR.2.1 a _ hsh (by show c0 ≠ 50; omega)
    rw [el_obj _ _ _ h50, hN] at hat
    show zW Z H locs c n Q (F0 (zm Z) pc ls (.ref (ad (zθ Z) a) :: st.map (re (zθ Z))))
    rw [Rl_ad hR hsh]
    exact va_getN (D := tD (zθ Z)) (ci := c0) (v := va_rf ((rR μ a k).map (ad (zθ Z)))) (C := C0) (T := T) (N := N) C.1 C.2.1 C.2.2.2.2.1 hin C.2.2.2.1 C.2.2.2.2.2.2.1.1 (vaP1 hat) 0 rfl hc k hk (va_Nw.use rfl (C.2.2.2.2.2.2.1.2.1 _ hw)) (fun _ h => h) (by rw [fv_get _ _ _ _ hk]; unfold fv; rw [if_pos hf]) d w)
/-! writes of arrays -/
theorem g_iastore {a : Nat} {i : Int32} {x : Int32} {f : Mm → Option (α × Mm)} (d : decode M.1 pc = .ok (.iastore, 1)) (k : ∀ μ1 : Mm, GG Z M Ψ (pc + 1) lv st μ1 (f μ1)) : GG Z M Ψ pc lv (.int x :: .int i :: .ref a :: st) μ (gd (okA μ 100 a i) (lt9 (wI μ a (ix i) x) f)) := by
  refine g_gd fun hb => g_lt ?_
  refine g_mem (μ1 := wI μ a (ix i) x) rfl rfl (k _) (fun C H locs c n Q ls hR hS hl w => ?_)
  obtain ⟨n9, hsh, hin⟩ := okA_spec hb
  have hat := hR.2.1 a _ hsh (by show (100 : Nat) ≠ 50; decide)
  show zW Z H locs c n Q (F0 (zm Z) pc ls (.int x :: .int i :: .ref (ad (zθ Z) a) :: st.map (re (zθ Z))))
  rw [Rl_ad hR hsh]
  refine W.iast C.1 C.2.1 hat ((C.2.2.2.2.2.2.1.1.2 0 _ rfl).1 n9 (fun j => .int (rI μ a j))) (fun q => by cases q) (by show ¬ (i < 0 ∨ (arrV _ _ _).slots.size ≤ _); rw [arrV_size]; exact hin) rfl rfl d fun H1 e z oq => ?_
  refine w H1 _ (Rl_upd hR rfl hsh (fun i q h => el_wI h) ?_ z oq) (hS.put z oq (show tB (zθ Z) ≤ _ by omega))
  show H1[tB (zθ Z) + a]? = some (vp_cell ((zθ Z).2.2.1 0) (n9, _))
  rw [e]
  show some ((vp_cell ((zθ Z).2.2.1 0) (n9, .inl (rI μ a))).setSlot _ _) = _
  rw [vp_cell_i, arrV_store]
  show some (arrV _ _ _) = some (vp_cell _ (n9, .inl (rI (wI μ a (ix i) x) a)))
  rw [vp_cell_i]
  congr 2
  funext q
  by_cases hq : q = i.toNatClampNeg
  · subst hq
    simp [updV, rI, wI, ix, vp_nar, narrow]
  · simp [updV, rI, wI, ix, hq]
theorem g_lastore {a : Nat} {i : Int32} {x : Int64} {f : Mm → Option (α × Mm)} (d : decode M.1 pc = .ok (.lastore, 1)) (k : ∀ μ1 : Mm, GG Z M Ψ (pc + 1) lv st μ1 (f μ1)) : GG Z M Ψ pc lv (.long x :: .int i :: .ref a :: st) μ (gd (okA μ 101 a i) (lt9 (wL μ a (ix i) x) f)) := by
  refine g_gd fun hb => g_lt ?_
  refine g_mem (μ1 := wL μ a (ix i) x) rfl rfl (k _) (fun C H locs c n Q ls hR hS hl w => ?_)
  obtain ⟨n9, hsh, hin⟩ := okA_spec hb
  have hat := hR.2.1 a _ hsh (by show (101 : Nat) ≠ 50; decide)
  show zW Z H locs c n Q (F0 (zm Z) pc ls (.long x :: .int i :: .ref (ad (zθ Z) a) :: st.map (re (zθ Z))))
  rw [Rl_ad hR hsh]
  refine W.last C.1 C.2.1 hat ((C.2.2.2.2.2.2.1.1.2 1 _ rfl).1 n9 (fun j => .long (rL μ a j))) (fun q => by cases q) (by show ¬ (i < 0 ∨ (arrV _ _ _).slots.size ≤ _); rw [arrV_size]; exact hin) rfl rfl d fun H1 e z oq => ?_
  refine w H1 _ (Rl_upd hR rfl hsh (fun i q h => el_wL h) ?_ z oq) (hS.put z oq (show tB (zθ Z) ≤ _ by omega))
  show H1[tB (zθ Z) + a]? = some (vp_cell ((zθ Z).2.2.1 1) (n9, _))
  rw [e]
  show some ((vp_cell ((zθ Z).2.2.1 1) (n9, .inr (.inl (rL μ a)))).setSlot _ _) = _
  rw [vp_cell_l, arrV_store]
  show some (arrV _ _ _) = some (vp_cell _ (n9, .inr (.inl (rL (wL μ a (ix i) x) a))))
  rw [vp_cell_l]
  congr 2
  funext q
  by_cases hq : q = i.toNatClampNeg
  · subst hq
    simp [updV, rL, wL, ix, vp_nar, narrow]
  · simp [updV, rL, wL, ix, hq]
theorem g_bastore {a : Nat} {i : Int32} {x : Int32} {f : Mm → Option (α × Mm)} (d : decode M.1 pc = .ok (.bastore, 1)) (k : ∀ μ1 : Mm, GG Z M Ψ (pc + 1) lv st μ1 (f μ1)) : GG Z M Ψ pc lv (.int x :: .int i :: .ref a :: st) μ (gd (okA μ 102 a i) (lt9 (wI μ a (ix i) (vp_nar .byte x)) f)) := by
  refine g_gd fun hb => g_lt ?_
  refine g_mem (μ1 := wI μ a (ix i) (vp_nar .byte x)) rfl rfl (k _) (fun C H locs c n Q ls hR hS hl w => ?_)
  obtain ⟨n9, hsh, hin⟩ := okA_spec hb
  have hat := hR.2.1 a _ hsh (by show (102 : Nat) ≠ 50; decide)
  show zW Z H locs c n Q (F0 (zm Z) pc ls (.int x :: .int i :: .ref (ad (zθ Z) a) :: st.map (re (zθ Z))))
  rw [Rl_ad hR hsh]
  refine W.bast C.1 C.2.1 hat ((C.2.2.2.2.2.2.1.1.2 2 _ rfl).1 n9 (fun j => .int (rI μ a j))) (fun q => by cases q) (by show ¬ (i < 0 ∨ (arrV _ _ _).slots.size ≤ _); rw [arrV_size]; exact hin) rfl rfl d fun H1 e z oq => ?_
  refine w H1 _ (Rl_upd hR rfl hsh (fun i q h => el_wI h) ?_ z oq) (hS.put z oq (show tB (zθ Z) ≤ _ by omega))
  show H1[tB (zθ Z) + a]? = some (vp_cell ((zθ Z).2.2.1 2) (n9, _))
  rw [e]
  show some ((vp_cell ((zθ Z).2.2.1 2) (n9, .inl (rI μ a))).setSlot _ _) = _
  rw [vp_cell_i, arrV_store]
  show some (arrV _ _ _) = some (vp_cell _ (n9, .inl (rI (wI μ a (ix i) (vp_nar .byte x)) a)))
  rw [vp_cell_i]
  congr 2
  funext q
  by_cases hq : q = i.toNatClampNeg
  · subst hq
    simp [updV, rI, wI, ix, vp_nar, narrow]
  · simp [updV, rI, wI, ix, hq]
theorem g_castore {a : Nat} {i : Int32} {x : Int32} {f : Mm → Option (α × Mm)} (d : decode M.1 pc = .ok (.castore, 1)) (k : ∀ μ1 : Mm, GG Z M Ψ (pc + 1) lv st μ1 (f μ1)) : GG Z M Ψ pc lv (.int x :: .int i :: .ref a :: st) μ (gd (okA μ 103 a i) (lt9 (wI μ a (ix i) (vp_nar .char x)) f)) := by
  refine g_gd fun hb => g_lt ?_
  refine g_mem (μ1 := wI μ a (ix i) (vp_nar .char x)) rfl rfl (k _) (fun C H locs c n Q ls hR hS hl w => ?_)
  obtain ⟨n9, hsh, hin⟩ := okA_spec hb
  have hat := hR.2.1 a _ hsh (by show (103 : Nat) ≠ 50; decide)
  show zW Z H locs c n Q (F0 (zm Z) pc ls (.int x :: .int i :: .ref (ad (zθ Z) a) :: st.map (re (zθ Z))))
  rw [Rl_ad hR hsh]
  refine W.cast C.1 C.2.1 hat ((C.2.2.2.2.2.2.1.1.2 3 _ rfl).1 n9 (fun j => .int (rI μ a j))) (fun q => by cases q) (by show ¬ (i < 0 ∨ (arrV _ _ _).slots.size ≤ _); rw [arrV_size]; exact hin) rfl rfl d fun H1 e z oq => ?_
  refine w H1 _ (Rl_upd hR rfl hsh (fun i q h => el_wI h) ?_ z oq) (hS.put z oq (show tB (zθ Z) ≤ _ by omega))
  show H1[tB (zθ Z) + a]? = some (vp_cell ((zθ Z).2.2.1 3) (n9, _))
  rw [e]
  show some ((vp_cell ((zθ Z).2.2.1 3) (n9, .inl (rI μ a))).setSlot _ _) = _
  rw [vp_cell_i, arrV_store]
  show some (arrV _ _ _) = some (vp_cell _ (n9, .inl (rI (wI μ a (ix i) (vp_nar .char x)) a)))
  rw [vp_cell_i]
  congr 2
  funext q
  by_cases hq : q = i.toNatClampNeg
  · subst hq
    simp [updV, rI, wI, ix, vp_nar, narrow]
  · simp [updV, rI, wI, ix, hq]
end G2
