section G3
variable {α : Type} {Z : Zx} {M : MI} {Ψ : α → Mm → State → Prop} {pc : Nat} {lv : List (Option Value)} {st : List Value} {μ : Mm} {X Y : Option (α × Mm)}
theorem fR_int {c k : Nat} (h : fR c k = false) : fty c k = .int := by
  unfold fR at h
  split at h
  · assumption
  · cases h
theorem g_putI {a c0 k N index : Nat} {C0 : String} {T : u_T} {x : Int32} {f : Mm → Option (α × Mm)} (hcl : ClOk c0 C0 T N) (hk : k < N) (hf : fR c0 k = false) (hfin : (T k).2.2.2 = false) (hw : Cond.fieldLink M.2.1 index (T k).1 (T k).2.1 (T k).2.2.1 ∈ TB) (d : decode M.1 pc = .ok (.putfield index, 3)) (kk : ∀ μ1 : Mm, GG Z M Ψ (pc + 3) lv st μ1 (f μ1)) : GG Z M Ψ pc lv (.int x :: .ref a :: st) μ (gd (okO μ a c0) (lt9 (wI μ a k x) f)) := by
  refine g_gd fun hb => g_lt ?_
  refine g_mem (μ1 := wI μ a k x) rfl rfl (kk _) (fun C H locs c n Q ls hR hS hl w => ?_)
  obtain ⟨hc, hN, h50, hin, hty, hnm⟩ := hcl
  have hsh := okO_spec hb
  have hat := hR.2.1 a _ hsh (by show c0 ≠ 50; omega)
  rw [el_obj _ _ _ h50, hN] at hat
  have hK := C.2.2.2.2.2.2.1.1
  have hap := va_apart (own := M.2.1) C.2.2.2.2.1 hin (fty c0) hty hnm hK hc
  obtain ⟨r, h1, cell, q1, q2, q3, q4⟩ := hat
  have hr : r = (C0, T, N) := Option.some.inj (h1.symm.trans hc)
  subst hr
  obtain ⟨hS9, hfc, kC, hkC, hkind⟩ := hK.1 c0 _ hc
  obtain ⟨cf, kf, fi, f9, hi, hsl⟩ := hS9 k hk
  have hlay := C.2.2.2.2.1 _ (hin _ (u_in_lay hk))
  unfold u_lay at hlay
  rw [if_neg (by rw [hfin]; decide)] at hlay
  have hst := (u_facts hfc hkC (u_lays C.2.2.2.2.1 hin hk) hi).1
  have h6 := u_store (v := .int x) hfc hkC hkind hlay hi (hty k hk) (by rw [fR_int hf]; rfl) (by rw [fR_int hf]; rfl)
  show zW Z H locs c n Q (F0 (zm Z) pc ls (.int x :: .ref (ad (zθ Z) a) :: st.map (re (zθ Z))))
  rw [Rl_ad hR hsh]
  refine W.putK C.1 C.2.1 (f := f9) ⟨C.2.2.2.1, C.2.2.2.2.1 _ hw, ⟨_, _, _, hi⟩, hst⟩ (by rw [q2]; exact h6) q1 q3 (by rw [hsl]; exact k2_hasslot (q4 k hk)) rfl rfl d fun H1 e1 e2 e3 => ?_
  rw [hsl] at e1 ⊢
  refine w H1 _ (Rl_upd hR rfl hsh (fun i q h => el_wI h) ?_ e2 e3) (hS.put e2 e3 (show tB (zθ Z) ≤ _ by omega))
  rw [el_obj _ _ _ h50, hN]
  refine ⟨_, hc, t_OB.to (V := updV (vp_V ((List.range N).map (fv (zθ Z) μ a c0))) k (.int x)) ⟨_, e1, q2, q3, t_set q4 hap hk _⟩ (fun j hj => ?_)⟩
  rw [fv_V _ _ _ _ hj]
  unfold updV
  rw [fv_V _ _ _ _ hj]
  by_cases hjk : j = k
  · subst hjk
    rw [if_pos rfl]
    unfold fv
    simp [hf, rI, wI]
  · rw [if_neg hjk]
    unfold fv
    simp [rI, rR, wI, hjk]
theorem g_putIF {a c0 k N index : Nat} {C0 : String} {T : u_T} {x : Int32} {f : Mm → Option (α × Mm)} (hcl : ClOk c0 C0 T N) (hk : k < N) (hf : fR c0 k = false) (hfin : (T k).2.2.2 = true) (hini : M.2.2.2.2.2.2 = "<init>") (hdecl : (T k).1 = M.2.1) (hw : Cond.fieldLink M.2.1 index (T k).1 (T k).2.1 (T k).2.2.1 ∈ TB) (d : decode M.1 pc = .ok (.putfield index, 3)) (kk : ∀ μ1 : Mm, GG Z M Ψ (pc + 3) lv st μ1 (f μ1)) : GG Z M Ψ pc lv (.int x :: .ref a :: st) μ (gd (okO μ a c0) (lt9 (wI μ a k x) f)) := by
  refine g_gd fun hb => g_lt ?_
  refine g_mem (μ1 := wI μ a k x) rfl rfl (kk _) (fun C H locs c n Q ls hR hS hl w => ?_)
  obtain ⟨hc, hN, h50, hin, hty, hnm⟩ := hcl
  have hsh := okO_spec hb
  have hat := hR.2.1 a _ hsh (by show c0 ≠ 50; omega)
  rw [el_obj _ _ _ h50, hN] at hat
  have hK := C.2.2.2.2.2.2.1.1
  have hap := va_apart (own := M.2.1) C.2.2.2.2.1 hin (fty c0) hty hnm hK hc
  obtain ⟨r, h1, cell, q1, q2, q3, q4⟩ := hat
  have hr : r = (C0, T, N) := Option.some.inj (h1.symm.trans hc)
  subst hr
  obtain ⟨hS9, hfc, kC, hkC, hkind⟩ := hK.1 c0 _ hc
  obtain ⟨cf, kf, fi, f9, hi, hsl⟩ := hS9 k hk
  have hlay := C.2.2.2.2.1 _ (hin _ (u_in_lay hk))
  unfold u_lay at hlay
  rw [if_pos hfin] at hlay
  have hst := (u_facts hfc hkC (u_lays C.2.2.2.2.1 hin hk) hi).1
  have hcf : (zm Z).cls = cf := by
    obtain ⟨_, _, c', _, _, _, -, -, hf', -, -, -, hown2, -⟩ := Cond.laysFinal_spec hlay
    have e1 : c' = cf := by have := hi.symm.trans hf'; simp at this; exact this.1.symm
    rw [hdecl] at hown2
    rw [← e1]; exact Option.some.inj (C.2.2.2.1.symm.trans hown2)
  have h6 := u_fits (v := .int x) hfc hkC hkind (Or.inr hlay) hi (hty k hk) (by rw [fR_int hf]; rfl) (by rw [fR_int hf]; rfl)
  show zW Z H locs c n Q (F0 (zm Z) pc ls (.int x :: .ref (ad (zθ Z) a) :: st.map (re (zθ Z))))
  rw [Rl_ad hR hsh]
  refine W.putFinK C.1 C.2.1 C.2.2.2.1 (C.2.2.2.2.1 _ hw) hi hst hcf (C.2.2.2.2.2.2.2.2.2.2.2.1.trans hini) (by rw [q2]; exact h6) q1 q3 (by rw [hsl]; exact k2_hasslot (q4 k hk)) rfl rfl d fun H1 e1 e2 e3 => ?_
  rw [hsl] at e1 ⊢
  refine w H1 _ (Rl_upd hR rfl hsh (fun i q h => el_wI h) ?_ e2 e3) (hS.put e2 e3 (show tB (zθ Z) ≤ _ by omega))
  rw [el_obj _ _ _ h50, hN]
  refine ⟨_, hc, t_OB.to (V := updV (vp_V ((List.range N).map (fv (zθ Z) μ a c0))) k (.int x)) ⟨_, e1, q2, q3, t_set q4 hap hk _⟩ (fun j hj => ?_)⟩
  rw [fv_V _ _ _ _ hj]
  unfold updV
  rw [fv_V _ _ _ _ hj]
  by_cases hjk : j = k
  · subst hjk
    rw [if_pos rfl]
    unfold fv
    simp [hf, rI, wI]
  · rw [if_neg hjk]
    unfold fv
    simp [rI, rR, wI, hjk]
theorem g_putIN {a c0 k N index : Nat} {C0 : String} {T : u_T} {host : String} {x : Int32} {f : Mm → Option (α × Mm)} (hcl : ClOk c0 C0 T N) (hk : k < N) (hf : fR c0 k = false) (hfin : (T k).2.2.2 = false) (hw : Cond.fieldLinkNest M.2.1 index (T k).1 (T k).2.1 (T k).2.2.1 host ∈ NB) (d : decode M.1 pc = .ok (.putfield index, 3)) (kk : ∀ μ1 : Mm, GG Z M Ψ (pc + 3) lv st μ1 (f μ1)) : GG Z M Ψ pc lv (.int x :: .ref a :: st) μ (gd (okO μ a c0) (lt9 (wI μ a k x) f)) := by
  refine g_gd fun hb => g_lt ?_
  refine g_mem (μ1 := wI μ a k x) rfl rfl (kk _) (fun C H locs c n Q ls hR hS hl w => ?_)
  obtain ⟨hc, hN, h50, hin, hty, hnm⟩ := hcl
  have hsh := okO_spec hb
  have hat := hR.2.1 a _ hsh (by show c0 ≠ 50; omega)
  rw [el_obj _ _ _ h50, hN] at hat
  have hK := C.2.2.2.2.2.2.1.1
  have hap := va_apart (own := M.2.1) C.2.2.2.2.1 hin (fty c0) hty hnm hK hc
  obtain ⟨r, h1, cell, q1, q2, q3, q4⟩ := hat
  have hr : r = (C0, T, N) := Option.some.inj (h1.symm.trans hc)
  subst hr
  obtain ⟨hS9, hfc, kC, hkC, hkind⟩ := hK.1 c0 _ hc
  obtain ⟨cf, kf, fi, f9, hi, hsl⟩ := hS9 k hk
  have hlay := C.2.2.2.2.1 _ (hin _ (u_in_lay hk))
  unfold u_lay at hlay
  rw [if_neg (by rw [hfin]; decide)] at hlay
  have hst := (u_facts hfc hkC (u_lays C.2.2.2.2.1 hin hk) hi).1
  have h6 := u_store (v := .int x) hfc hkC hkind hlay hi (hty k hk) (by rw [fR_int hf]; rfl) (by rw [fR_int hf]; rfl)
  show zW Z H locs c n Q (F0 (zm Z) pc ls (.int x :: .ref (ad (zθ Z) a) :: st.map (re (zθ Z))))
  rw [Rl_ad hR hsh]
  refine va_WputK C.1 C.2.1 (f := f9) C.2.2.2.1 (va_Nw.use rfl (C.2.2.2.2.2.2.1.2.1 _ hw)) hi hst (by rw [q2]; exact h6) q1 q3 (by rw [hsl]; exact k2_hasslot (q4 k hk)) rfl rfl d fun H1 e1 e2 e3 => ?_
  rw [hsl] at e1 ⊢
  refine w H1 _ (Rl_upd hR rfl hsh (fun i q h => el_wI h) ?_ e2 e3) (hS.put e2 e3 (show tB (zθ Z) ≤ _ by omega))
  rw [el_obj _ _ _ h50, hN]
  refine ⟨_, hc, t_OB.to (V := updV (vp_V ((List.range N).map (fv (zθ Z) μ a c0))) k (.int x)) ⟨_, e1, q2, q3, t_set q4 hap hk _⟩ (fun j hj => ?_)⟩
  rw [fv_V _ _ _ _ hj]
  unfold updV
  rw [fv_V _ _ _ _ hj]
  by_cases hjk : j = k
  · subst hjk
    rw [if_pos rfl]
    unfold fv
    simp [hf, rI, wI]
  · rw [if_neg hjk]
    unfold fv
    simp [rI, rR, wI, hjk]
theorem g_putR {a c0 k N index : Nat} {C0 : String} {T : u_T} {x : Nat} {f : Mm → Option (α × Mm)} (hcl : ClOk c0 C0 T N) (hk : k < N) (hf : fR c0 k = true) (hna : ∀ q, narrow (fty c0 k) (.ref q) = .ref q) (hft : ∀ q, fits (fty c0 k) (.ref q) = true) (hfin : (T k).2.2.2 = false) (hw : Cond.fieldLink M.2.1 index (T k).1 (T k).2.1 (T k).2.2.1 ∈ TB) (d : decode M.1 pc = .ok (.putfield index, 3)) (kk : ∀ μ1 : Mm, GG Z M Ψ (pc + 3) lv st μ1 (f μ1)) : GG Z M Ψ pc lv (.ref x :: .ref a :: st) μ (gd (okO μ a c0) (lt9 (wR μ a k (some x)) f)) := by
  refine g_gd fun hb => g_lt ?_
  refine g_mem (μ1 := wR μ a k (some x)) rfl rfl (kk _) (fun C H locs c n Q ls hR hS hl w => ?_)
  obtain ⟨hc, hN, h50, hin, hty, hnm⟩ := hcl
  have hsh := okO_spec hb
  have hat := hR.2.1 a _ hsh (by show c0 ≠ 50; omega)
  rw [el_obj _ _ _ h50, hN] at hat
  have hK := C.2.2.2.2.2.2.1.1
  have hap := va_apart (own := M.2.1) C.2.2.2.2.1 hin (fty c0) hty hnm hK hc
  obtain ⟨r, h1, cell, q1, q2, q3, q4⟩ := hat
  have hr : r = (C0, T, N) := Option.some.inj (h1.symm.trans hc)
  subst hr
  obtain ⟨hS9, hfc, kC, hkC, hkind⟩ := hK.1 c0 _ hc
  obtain ⟨cf, kf, fi, f9, hi, hsl⟩ := hS9 k hk
  have hlay := C.2.2.2.2.1 _ (hin _ (u_in_lay hk))
  unfold u_lay at hlay
  rw [if_neg (by rw [hfin]; decide)] at hlay
  have hst := (u_facts hfc hkC (u_lays C.2.2.2.2.1 hin hk) hi).1
  have h6 := u_store (v := .ref (ad (zθ Z) x)) hfc hkC hkind hlay hi (hty k hk) (hna _) (hft _)
  show zW Z H locs c n Q (F0 (zm Z) pc ls (.ref (ad (zθ Z) x) :: .ref (ad (zθ Z) a) :: st.map (re (zθ Z))))
  rw [Rl_ad hR hsh]
  refine W.putK C.1 C.2.1 (f := f9) ⟨C.2.2.2.1, C.2.2.2.2.1 _ hw, ⟨_, _, _, hi⟩, hst⟩ (by rw [q2]; exact h6) q1 q3 (by rw [hsl]; exact k2_hasslot (q4 k hk)) rfl rfl d fun H1 e1 e2 e3 => ?_
  rw [hsl] at e1 ⊢
  refine w H1 _ (Rl_upd hR rfl hsh (fun i q h => el_wR h) ?_ e2 e3) (hS.put e2 e3 (show tB (zθ Z) ≤ _ by omega))
  rw [el_obj _ _ _ h50, hN]
  refine ⟨_, hc, t_OB.to (V := updV (vp_V ((List.range N).map (fv (zθ Z) μ a c0))) k (.ref (ad (zθ Z) x))) ⟨_, e1, q2, q3, t_set q4 hap hk _⟩ (fun j hj => ?_)⟩
  rw [fv_V _ _ _ _ hj]
  unfold updV
  rw [fv_V _ _ _ _ hj]
  by_cases hjk : j = k
  · subst hjk
    rw [if_pos rfl]
    unfold fv
    simp [hf, rR, wR, va_rf]
  · rw [if_neg hjk]
    unfold fv
    simp [rI, rR, wR, hjk]
theorem g_putRF {a c0 k N index : Nat} {C0 : String} {T : u_T} {x : Nat} {f : Mm → Option (α × Mm)} (hcl : ClOk c0 C0 T N) (hk : k < N) (hf : fR c0 k = true) (hna : ∀ q, narrow (fty c0 k) (.ref q) = .ref q) (hft : ∀ q, fits (fty c0 k) (.ref q) = true) (hfin : (T k).2.2.2 = true) (hini : M.2.2.2.2.2.2 = "<init>") (hdecl : (T k).1 = M.2.1) (hw : Cond.fieldLink M.2.1 index (T k).1 (T k).2.1 (T k).2.2.1 ∈ TB) (d : decode M.1 pc = .ok (.putfield index, 3)) (kk : ∀ μ1 : Mm, GG Z M Ψ (pc + 3) lv st μ1 (f μ1)) : GG Z M Ψ pc lv (.ref x :: .ref a :: st) μ (gd (okO μ a c0) (lt9 (wR μ a k (some x)) f)) := by
  refine g_gd fun hb => g_lt ?_
  refine g_mem (μ1 := wR μ a k (some x)) rfl rfl (kk _) (fun C H locs c n Q ls hR hS hl w => ?_)
  obtain ⟨hc, hN, h50, hin, hty, hnm⟩ := hcl
  have hsh := okO_spec hb
  have hat := hR.2.1 a _ hsh (by show c0 ≠ 50; omega)
  rw [el_obj _ _ _ h50, hN] at hat
  have hK := C.2.2.2.2.2.2.1.1
  have hap := va_apart (own := M.2.1) C.2.2.2.2.1 hin (fty c0) hty hnm hK hc
  obtain ⟨r, h1, cell, q1, q2, q3, q4⟩ := hat
  have hr : r = (C0, T, N) := Option.some.inj (h1.symm.trans hc)
  subst hr
  obtain ⟨hS9, hfc, kC, hkC, hkind⟩ := hK.1 c0 _ hc
  obtain ⟨cf, kf, fi, f9, hi, hsl⟩ := hS9 k hk
  have hlay := C.2.2.2.2.1 _ (hin _ (u_in_lay hk))
  unfold u_lay at hlay
  rw [if_pos hfin] at hlay
  have hst := (u_facts hfc hkC (u_lays C.2.2.2.2.1 hin hk) hi).1
  have hcf : (zm Z).cls = cf := by
    obtain ⟨_, _, c', _, _, _, -, -, hf', -, -, -, hown2, -⟩ := Cond.laysFinal_spec hlay
    have e1 : c' = cf := by have := hi.symm.trans hf'; simp at this; exact this.1.symm
    rw [hdecl] at hown2
    rw [← e1]; exact Option.some.inj (C.2.2.2.1.symm.trans hown2)
  have h6 := u_fits (v := .ref (ad (zθ Z) x)) hfc hkC hkind (Or.inr hlay) hi (hty k hk) (hna _) (hft _)
  show zW Z H locs c n Q (F0 (zm Z) pc ls (.ref (ad (zθ Z) x) :: .ref (ad (zθ Z) a) :: st.map (re (zθ Z))))
  rw [Rl_ad hR hsh]
  refine W.putFinK C.1 C.2.1 C.2.2.2.1 (C.2.2.2.2.1 _ hw) hi hst hcf (C.2.2.2.2.2.2.2.2.2.2.2.1.trans hini) (by rw [q2]; exact h6) q1 q3 (by rw [hsl]; exact k2_hasslot (q4 k hk)) rfl rfl d fun H1 e1 e2 e3 => ?_
  rw [hsl] at e1 ⊢
  refine w H1 _ (Rl_upd hR rfl hsh (fun i q h => el_wR h) ?_ e2 e3) (hS.put e2 e3 (show tB (zθ Z) ≤ _ by omega))
  rw [el_obj _ _ _ h50, hN]
  refine ⟨_, hc, t_OB.to (V := updV (vp_V ((List.range N).map (fv (zθ Z) μ a c0))) k (.ref (ad (zθ Z) x))) ⟨_, e1, q2, q3, t_set q4 hap hk _⟩ (fun j hj => ?_)⟩
  rw [fv_V _ _ _ _ hj]
  unfold updV
  rw [fv_V _ _ _ _ hj]
  by_cases hjk : j = k
  · subst hjk
    rw [if_pos rfl]
    unfold fv
    simp [hf, rR, wR, va_rf]
  · rw [if_neg hjk]
    unfold fv
    simp [rI, rR, wR, hjk]
theorem g_putRN {a c0 k N index : Nat} {C0 : String} {T : u_T} {host : String} {x : Nat} {f : Mm → Option (α × Mm)} (hcl : ClOk c0 C0 T N) (hk : k < N) (hf : fR c0 k = true) (hna : ∀ q, narrow (fty c0 k) (.ref q) = .ref q) (hft : ∀ q, fits (fty c0 k) (.ref q) = true) (hfin : (T k).2.2.2 = false) (hw : Cond.fieldLinkNest M.2.1 index (T k).1 (T k).2.1 (T k).2.2.1 host ∈ NB) (d : decode M.1 pc = .ok (.putfield index, 3)) (kk : ∀ μ1 : Mm, GG Z M Ψ (pc + 3) lv st μ1 (f μ1)) : GG Z M Ψ pc lv (.ref x :: .ref a :: st) μ (gd (okO μ a c0) (lt9 (wR μ a k (some x)) f)) := by
  refine g_gd fun hb => g_lt ?_
  refine g_mem (μ1 := wR μ a k (some x)) rfl rfl (kk _) (fun C H locs c n Q ls hR hS hl w => ?_)
  obtain ⟨hc, hN, h50, hin, hty, hnm⟩ := hcl
  have hsh := okO_spec hb
  have hat := hR.2.1 a _ hsh (by show c0 ≠ 50; omega)
  rw [el_obj _ _ _ h50, hN] at hat
  have hK := C.2.2.2.2.2.2.1.1
  have hap := va_apart (own := M.2.1) C.2.2.2.2.1 hin (fty c0) hty hnm hK hc
  obtain ⟨r, h1, cell, q1, q2, q3, q4⟩ := hat
  have hr : r = (C0, T, N) := Option.some.inj (h1.symm.trans hc)
  subst hr
  obtain ⟨hS9, hfc, kC, hkC, hkind⟩ := hK.1 c0 _ hc
  obtain ⟨cf, kf, fi, f9, hi, hsl⟩ := hS9 k hk
  have hlay := C.2.2.2.2.1 _ (hin _ (u_in_lay hk))
  unfold u_lay at hlay
  rw [if_neg (by rw [hfin]; decide)] at hlay
  have hst := (u_facts hfc hkC (u_lays C.2.2.2.2.1 hin hk) hi).1
  have h6 := u_store (v := .ref (ad (zθ Z) x)) hfc hkC hkind hlay hi (hty k hk) (hna _) (hft _)
  show zW Z H locs c n Q (F0 (zm Z) pc ls (.ref (ad (zθ Z) x) :: .ref (ad (zθ Z) a) :: st.map (re (zθ Z))))
  rw [Rl_ad hR hsh]
  refine va_WputK C.1 C.2.1 (f := f9) C.2.2.2.1 (va_Nw.use rfl (C.2.2.2.2.2.2.1.2.1 _ hw)) hi hst (by rw [q2]; exact h6) q1 q3 (by rw [hsl]; exact k2_hasslot (q4 k hk)) rfl rfl d fun H1 e1 e2 e3 => ?_
  rw [hsl] at e1 ⊢
  refine w H1 _ (Rl_upd hR rfl hsh (fun i q h => el_wR h) ?_ e2 e3) (hS.put e2 e3 (show tB (zθ Z) ≤ _ by omega))
  rw [el_obj _ _ _ h50, hN]
  refine ⟨_, hc, t_OB.to (V := updV (vp_V ((List.range N).map (fv (zθ Z) μ a c0))) k (.ref (ad (zθ Z) x))) ⟨_, e1, q2, q3, t_set q4 hap hk _⟩ (fun j hj => ?_)⟩
  rw [fv_V _ _ _ _ hj]
  unfold updV
  rw [fv_V _ _ _ _ hj]
  by_cases hjk : j = k
  · subst hjk
    rw [if_pos rfl]
    unfold fv
    simp [hf, rR, wR, va_rf]
  · rw [if_neg hjk]
    unfold fv
    simp [rI, rR, wR, hjk]
/-! making -/
/-- a step that makes n cells of k slots -/
theorem g_mk {pc' : Nat} {st' : List Value} {μ1 : Mm} {kc ks : Nat} (hn : mN μ1 = mN μ + kc) (hs : mS μ1 = mS μ + ks) (k : GG Z M Ψ pc' lv st' μ1 X) (f : ∀ (C : Cx Z M) (H : Heap) (locs : List Loc) (c n : Nat) (Q : State → Prop) (ls : Array Slot), Rl (zθ Z) μ H → va_S (tA (zθ Z)) (zs Z).heap H locs → lvh (zθ Z) ls M.2.2.1 lv → c + kc ≤ (zR Z).cells → n + ks ≤ (zR Z).slots → (∀ H1 : Heap, Rl (zθ Z) μ1 H1 → va_S (tA (zθ Z)) (zs Z).heap H1 locs → zW Z H1 locs (c + kc) (n + ks) Q (F0 (zm Z) pc' ls (st'.map (re (zθ Z))))) → zW Z H locs c n Q (F0 (zm Z) pc ls (st.map (re (zθ Z))))) : GG Z M Ψ pc lv st μ X := by
  intro r μ' hX
  obtain ⟨h1, h2, h3⟩ := k r μ' hX
  refine ⟨by omega, by omega, fun C O H locs ls hR hS hl => f C H locs _ _ _ ls hR hS hl ?_ ?_ (fun H1 hR1 hS1 => ?_)⟩
  · obtain ⟨o1, o2, o3, o4⟩ := O
    omega
  · obtain ⟨o1, o2, o3, o4⟩ := O
    omega
  · obtain ⟨o1, o2, o3, o4⟩ := O
    have h4 := h3 C ⟨by omega, by omega, o3, o4⟩ H1 locs ls hR1 hS1 hl
    rw [show mN μ - mN (zμ Z) + kc = mN μ1 - mN (zμ Z) by omega, show mS μ - mS (zμ Z) + ks = mS μ1 - mS (zμ Z) by omega]
    exact h4
theorem mN_nw (μ : Mm) (k n : Nat) : mN (nw μ k n) = mN μ + 1 := by simp [mN, nw, sH]
theorem mS_nw (μ : Mm) (k n : Nat) : mS (nw μ k n) = mS μ + n := rfl
theorem el_nw {θ : Th} {μ : Mm} {i k n : Nat} {q : Nat × Nat} (h : i ≠ mN μ) : el θ (nw μ k n) i q = el θ μ i q := by
  have e1 : rR (nw μ k n) i = rR μ i := by funext j; simp [rR, nw, h]
  have e2 : rL (nw μ k n) i = rL μ i := by funext j; simp [rL, nw, h]
  have e3 : rI (nw μ k n) i = rI μ i := by funext j; simp [rI, nw, h]
  have e4 : fv θ (nw μ k n) i = fv θ μ i := by funext c j; unfold fv; rw [e3, e1]
  unfold el ct
  rw [e1, e2, e3, e4]
theorem Rl_nw {θ : Th} {μ : Mm} {H H1 : Heap} {k n : Nat} (hR : Rl θ μ H) (hK : mN μ + 1 < K9) (hat : k ≠ 50 → va_at (tD θ) cl9 (tB θ + mN μ, el θ (nw μ k n) (mN μ) (k, n)) H1) (hz : H1.size = H.size + 1) (oq : ∀ q : Nat, q < H.size → H1[q]? = H[q]?) : Rl θ (nw μ k n) H1 := by
  refine ⟨by rw [hz, mN_nw, hR.1]; omega, fun i q hi hq => ?_, by rw [mN_nw]; exact hK⟩
  have hi' : (sH μ ++ [(k, n)])[i]? = some q := hi
  by_cases h : i < mN μ
  · rw [List.getElem?_append_left h] at hi'
    rw [el_nw (by omega)]
    exact va_at.kept (hR.2.1 i q hi' hq) (oq _ (by rw [hR.1]; show tB θ + i < _; omega))
  · have h2 : i < (sH μ ++ [(k, n)]).length := (List.getElem?_eq_some_iff.mp hi').1
    have h3 : i = mN μ := by simp at h2; unfold mN; unfold mN at h; omega
    subst h3
    have h4 : (sH μ ++ [(k, n)])[mN μ]? = some (k, n) := by unfold mN; simp
    rw [h4] at hi'
    cases hi'
    exact hat hq
theorem va_S_nw {A : Nat → Prop} {H0 H H1 : Heap} {locs : List Loc} (hS : va_S A H0 H locs) (hz : H.size ≤ H1.size) (oq : ∀ q : Nat, q < H.size → H1[q]? = H[q]?) : va_S A H0 H1 locs :=
  ⟨Nat.le_trans hS.1 hz, fun x h1 h2 => (oq x (Nat.lt_of_lt_of_le h1 hS.1)).trans (hS.2.1 x h1 h2), hS.2.2⟩
theorem dflt_fv {θ : Th} {μ : Mm} {k n c j : Nat} (h : fR c j = true → defaultValue (fty c j) = .null) : defaultValue (fty c j) = fv θ (nw μ k n) (mN μ) c j := by
  unfold fv
  by_cases hf : fR c j = true
  · rw [if_pos hf, h hf]
    simp [rR, nw, va_rf]
  · rw [if_neg hf, fR_int (by simpa using hf)]
    simp [rI, nw, defaultValue]
theorem g_new {c0 N index : Nat} {C0 : String} {T : u_T} {f : Mm → Option (α × Mm)} (hcl : ClOk c0 C0 T N) (hdf : ∀ j, j < N → fR c0 j = true → defaultValue (fty c0 j) = .null) (hw : Cond.classLink M.2.1 index C0 ∈ TB) (hw2 : Cond.instantiable C0 N ∈ TB) (hw3 : Cond.initialized C0 ∈ TB) (d : decode M.1 pc = .ok (.new index, 3)) (kk : ∀ μ1 : Mm, GG Z M Ψ (pc + 3) lv (.ref (mN μ) :: st) μ1 (f μ1)) : GG Z M Ψ pc lv st μ (gd (decide (mN μ + 1 < K9)) (lt9 (nw μ c0 N) f)) := by
  refine g_gd fun hb => g_lt ?_
  have hb9 : mN μ + 1 < K9 := of_decide_eq_true hb
  refine g_mk (mN_nw μ c0 N) (mS_nw μ c0 N) (kk _) (fun C H locs c n Q ls hR hS hl h1 h2 w => ?_)
  obtain ⟨hc, hN, h50, hin, hty, hnm⟩ := hcl
  have hK := C.2.2.2.2.2.2.1.1
  have hKn := hK.1 c0 _ hc
  refine W.newcK C.1 C.2.1 C.2.2.2.1 (C.2.2.2.2.1 _ hw) (C.2.2.2.2.1 _ hw2) (C.2.2.2.2.1 _ hw3) rfl d h1 h2 hKn.2.1 rfl fun H1 kC hkC e1 z1 o1 => ?_
  have h9 := w H1 (Rl_nw hR hb9 (fun _ => ?_) z1 o1) (va_S_nw hS (by omega) o1)
  · have e9 : (List.map (re (zθ Z)) (Value.ref (mN μ) :: st)) = .ref H.size :: st.map (re (zθ Z)) := by
      show Value.ref (ad (zθ Z) (mN μ)) :: _ = _
      unfold ad
      rw [if_pos (by omega), hR.1]
    rw [e9] at h9
    exact h9
  · rw [el_obj _ _ _ h50, ← hR.1]
    refine ⟨_, hc, (u_born (fty c0) C.2.2.2.2.1 hin hKn hkC e1 hty).to (fun j hj => ?_)⟩
    rw [fv_V _ _ _ _ hj]
    exact dflt_fv (hdf j hj)
theorem g_newarr {atype : ArrayType} {kind t0 N : Nat} {n : Int32} {ty : FieldType} {f : Mm → Option (α × Mm)} (hty : newarray.typeOf atype = ty) (hk : kind = t0 + 100) (h9 : ∀ θ : Th, (tys9 θ)[t0]? = some (θ.2.2.1 t0, ty)) (hra : ∀ (U : State) (cA : ClassId), va_RA U cA ty → U.vm.findClass ("[" ++ ty.toString) = some cA) (hw : Cond.arrayClass ty ∈ TB) (hn : ¬ n < 0) (hN : n.toNatClampNeg = N) (hby : N * componentBytes ty ≤ 536870912)
    (hdv : ∀ (θ : Th) (cA : ClassId), vp_cell cA (N, ct θ (nw μ kind N) (mN μ) kind) = arrV cA N (fun _ => defaultValue ty)) (d : decode M.1 pc = .ok (.newarray atype, 2)) (kk : ∀ μ1 : Mm, GG Z M Ψ (pc + 2) lv (.ref (mN μ) :: st) μ1 (f μ1)) : GG Z M Ψ pc lv (.int n :: st) μ (gd (decide (mN μ + 1 < K9)) (lt9 (nw μ kind N) f)) := by
  refine g_gd fun hb => g_lt ?_
  have hb9 : mN μ + 1 < K9 := of_decide_eq_true hb
  subst hty
  refine g_mk (mN_nw μ kind N) (mS_nw μ kind N) (kk _) (fun C H locs c n9 Q ls hR hS hl h1 h2 w => ?_)
  have hK := C.2.2.2.2.2.2.1.1
  refine va_newaK C.1 C.2.1 (C.2.2.2.2.1 _ hw) rfl d (n := n) (N := N) (rest := st.map (re (zθ Z))) rfl hn hN hby h1 h2 rfl fun H1 cA e1 z1 o1 hAr hfc => ?_
  have hcA : (zθ Z).2.2.1 t0 = cA := Option.some.inj ((hra _ _ (hK.2 t0 _ (h9 _)).2).symm.trans hfc)
  have h9 := w H1 (Rl_nw hR hb9 (fun _ => ?_) z1 o1) (va_S_nw hS (by omega) o1)
  · have e9 : (List.map (re (zθ Z)) (Value.ref (mN μ) :: st)) = .ref H.size :: st.map (re (zθ Z)) := by
      show Value.ref (ad (zθ Z) (mN μ)) :: _ = _
      unfold ad
      rw [if_pos (by omega), hR.1]
    rw [e9] at h9
    exact h9
  · have e8 : el (zθ Z) (nw μ kind N) (mN μ) (kind, N) = .inl (cA, N, ct (zθ Z) (nw μ kind N) (mN μ) kind) := by
      unfold el
      rw [if_neg (by show ¬ kind < 50; omega)]
      show (Sum.inl ((zθ Z).2.2.1 (kind - 100), N, _) : va_E) = _
      rw [show kind - 100 = t0 by omega, hcA]
    rw [e8, ← hR.1]
    show H1[H.size]? = some (vp_cell cA (N, _))
    rw [e1, hdv]
theorem g_anewarr {kind t0 N index : Nat} {n : Int32} {C0 : String} {f : Mm → Option (α × Mm)} (hk : kind = t0 + 100) (hk4 : 104 ≤ kind) (h9 : ∀ θ : Th, (tys9 θ)[t0]? = some (θ.2.2.1 t0, .object C0)) (hao : ∀ (θ : Th) (U : State), Bs θ U → va_AO C0 U) (hw : Cond.classLink M.2.1 index C0 ∈ TB) (hn : ¬ n < 0) (hN : n.toNatClampNeg = N) (hby : N * 4 ≤ 536870912)
    (d : decode M.1 pc = .ok (.anewarray index, 3)) (kk : ∀ μ1 : Mm, GG Z M Ψ (pc + 3) lv (.ref (mN μ) :: st) μ1 (f μ1)) : GG Z M Ψ pc lv (.int n :: st) μ (gd (decide (mN μ + 1 < K9)) (lt9 (nw μ kind N) f)) := by
  refine g_gd fun hb => g_lt ?_
  have hb9 : mN μ + 1 < K9 := of_decide_eq_true hb
  subst hN
  refine g_mk (mN_nw μ kind _) (mS_nw μ kind _) (kk _) (fun C H locs c n9 Q ls hR hS hl h1 h2 w => ?_)
  have hK := C.2.2.2.2.2.2.1.1
  refine W.anew C.1 C.2.1 C.2.2.2.1 (C.2.2.2.2.1 _ hw) (va_AO.use (hao _ _ C.2.2.2.2.2.2.1)) rfl d (n := n) (rest := st.map (re (zθ Z))) rfl hn hby h1 h2 fun cA kA comp f1 f2 f3 f4 => ?_
  generalize hH1 : H.push ({ cls := cA, slots := Array.replicate n.toNatClampNeg .null, vm := .none } : Cell) = H1
  have z1 : H1.size = H.size + 1 := by rw [← hH1, Array.size_push]
  have e1 : H1[H.size]? = some (arrV cA n.toNatClampNeg (fun _ => .null)) := by rw [← hH1, Array.getElem?_push_size, ← arrV_new]
  have o1 : ∀ q : Nat, q < H.size → H1[q]? = H[q]? := fun q hq => by rw [← hH1, Array.getElem?_push, if_neg (Nat.ne_of_lt hq)]
  have hcA : (zθ Z).2.2.1 t0 = cA := by
    obtain ⟨kA2, comp2, k1, k2, k3, k4⟩ := (hK.2 t0 _ (h9 _)).2
    exact Option.some.inj (k4.symm.trans f1)
  have h9 := w H1 (Rl_nw hR hb9 (fun _ => ?_) z1 o1) (va_S_nw hS (by omega) o1)
  · have e9 : (List.map (re (zθ Z)) (Value.ref (mN μ) :: st)) = .ref H.size :: st.map (re (zθ Z)) := by
      show Value.ref (ad (zθ Z) (mN μ)) :: _ = _
      unfold ad
      rw [if_pos (by omega), hR.1]
    rw [e9] at h9
    exact h9
  · have e8 : el (zθ Z) (nw μ kind n.toNatClampNeg) (mN μ) (kind, n.toNatClampNeg) = .inl (cA, n.toNatClampNeg, .inr (.inr (.inr (.inr (fun _ => none))))) := by
      unfold el
      rw [if_neg (by show ¬ kind < 50; omega)]
      show (Sum.inl ((zθ Z).2.2.1 (kind - 100), n.toNatClampNeg, _) : va_E) = _
      rw [show kind - 100 = t0 by omega, hcA]
      unfold ct
      rw [if_neg (by omega), if_neg (by omega)]
      congr 7
      funext j
      simp [rR, nw]
    rw [e8, ← hR.1]
    show H1[H.size]? = some (vp_cell cA (_, _))
    rw [e1, vp_cell_q]
    rfl
/-- a reference goes into an array of references to objects of one class -/
theorem g_aastore {a x c0 kind t0 N : Nat} {i : Int32} {C0 : String} {T : u_T} {f : Mm → Option (α × Mm)} (hcl : ClOk c0 C0 T N) (hk : kind = t0 + 100) (hk4 : 104 ≤ kind) (h9 : ∀ θ : Th, (tys9 θ)[t0]? = some (θ.2.2.1 t0, .object C0)) (d : decode M.1 pc = .ok (.aastore, 1)) (k : ∀ μ1 : Mm, GG Z M Ψ (pc + 1) lv st μ1 (f μ1)) : GG Z M Ψ pc lv (.ref x :: .int i :: .ref a :: st) μ (gd (okA μ kind a i && okO μ x c0) (lt9 (wR μ a (ix i) (some x)) f)) := by
  refine g_gd fun hb => g_lt ?_
  rw [Bool.and_eq_true] at hb
  refine g_mem (μ1 := wR μ a (ix i) (some x)) rfl rfl (k _) (fun C H locs c n Q ls hR hS hl w => ?_)
  obtain ⟨hc, hN, h50, hin, hty, hnm⟩ := hcl
  obtain ⟨n9, hsh, hin⟩ := okA_spec hb.1
  have hsx := okO_spec hb.2
  have hat := hR.2.1 a _ hsh (by show kind ≠ 50; omega)
  have hax := hR.2.1 x _ hsx (by show c0 ≠ 50; omega)
  rw [el_obj _ _ _ h50, hN] at hax
  have hK := C.2.2.2.2.2.2.1.1
  have ea : ∀ (μ2 : Mm), el (zθ Z) μ2 a (kind, n9) = .inl ((zθ Z).2.2.1 t0, n9, .inr (.inr (.inr (.inr (fun j => (rR μ2 a j).map (ad (zθ Z))))))) := by
    intro μ2
    unfold el
    rw [if_neg (by show ¬ kind < 50; omega)]
    show (Sum.inl ((zθ Z).2.2.1 (kind - 100), n9, _) : va_E) = _
    rw [show kind - 100 = t0 by omega]
    unfold ct
    rw [if_neg (by omega), if_neg (by omega)]
  rw [ea] at hat
  show zW Z H locs c n Q (F0 (zm Z) pc ls (.ref (ad (zθ Z) x) :: .int i :: .ref (ad (zθ Z) a) :: st.map (re (zθ Z))))
  have hadx := Rl_ad hR hsx
  rw [Rl_ad hR hsh, hadx]
  have hlt : i.toNatClampNeg < n9 := Nat.not_le.mp fun q => hin (Or.inr q)
  have h0 : ¬ i < 0 := fun q => hin (Or.inl q)
  obtain ⟨r', hr', cellV, g1, g2, g3, -⟩ := hax
  have hcls := (hK.1 c0 _ hc).2
  obtain ⟨kA, comp, k1, k2, k3, -⟩ := (hK.2 t0 _ (h9 _)).2
  have hcomp : comp = (tD (zθ Z)).1 c0 := Option.some.inj (k3.symm.trans hcls.1)
  subst hcomp
  obtain ⟨kC, hkC, -⟩ := hcls.2
  refine W.aast C.1 C.2.1 hat (fun q h => by cases h) (fun h => by cases h) k1 k2 rfl hkC ⟨h0, by show _ < (arrV _ _ _).slots.size; rw [arrV_size]; exact hlt⟩ g1 (fun q h => by rw [g3] at h; cases h) (by rw [g2]; exact hkC) (by rw [g2]; exact va_assign hcls) rfl rfl d fun H1 e z oq => ?_
  refine w H1 _ (Rl_upd hR rfl hsh (fun i q h => el_wR h) ?_ z oq) (hS.put z oq (show tB (zθ Z) ≤ _ by omega))
  rw [ea]
  show H1[tB (zθ Z) + a]? = some (vp_cell ((zθ Z).2.2.1 t0) (n9, _))
  rw [e, vp_cell_q]
  show some ((arrV _ _ _).setSlot _ _) = _
  rw [arrV_store, vp_cell_q]
  congr 2
  funext q
  by_cases hq : q = i.toNatClampNeg
  · subst hq
    simp [updV, va_rf, rR, wR, ix, hadx]
  · simp [updV, rR, wR, ix, hq]
/-! copies of arrays -/
end G3
