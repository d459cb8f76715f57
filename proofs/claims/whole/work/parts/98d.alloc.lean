/-! L2: new States. -/
def Nk7 (m0 : Mm) (i : Nat) (m : Mm) : Prop := sH m = sH m0 ++ shC.take (i + 1) ∧ mS m = mS m0 + ((shC.take (i + 1)).map (fun q => q.2)).sum ∧ (∀ a, a < i → rR m (mN m0) (8 + a) = some (mN m0 + (1 + a))) ∧ (∀ b, b < mN m0 → rI m b = rI m0 b ∧ rL m b = rL m0 b ∧ rR m b = rR m0 b)
theorem nw_I {m : Mm} {k n b : Nat} (h : b ≠ mN m) : rI (nw m k n) b = rI m b ∧ rL (nw m k n) b = rL m b ∧ rR (nw m k n) b = rR m b := by
  refine ⟨funext fun i => ?_, funext fun i => ?_, funext fun i => ?_⟩
  · show (if b = mN m then (0 : Int32) else m.1 b i) = m.1 b i
    rw [if_neg h]
  · show (if b = mN m then (0 : Int64) else m.2.1 b i) = m.2.1 b i
    rw [if_neg h]
  · show (if b = mN m then none else m.2.2.1 b i) = m.2.2.1 b i
    rw [if_neg h]
theorem nw_R0 (m : Mm) (k n i : Nat) : rR (nw m k n) (mN m) i = none := by
  show (if mN m = mN m then none else m.2.2.1 (mN m) i) = none
  rw [if_pos rfl]
theorem sH_nw (m : Mm) (k n : Nat) : sH (nw m k n) = sH m ++ [(k, n)] := rfl
theorem sH_wR (m : Mm) (a j : Nat) (v : Option Nat) : sH (wR m a j v) = sH m := rfl
theorem nk_0 (m0 : Mm) : Nk7 m0 0 (nw m0 7 20) := ⟨rfl, rfl, fun a ha => by omega, fun b hb => nw_I (by omega)⟩
theorem shC_tl : ∀ i, i < 13 → (shC.take (i + 1)).length = i + 1 := by decide
theorem nk_step {m0 m : Mm} {i k n : Nat} {Q : Option (Unit × Mm) → Prop} {K : Mm → Option (Unit × Mm)} (h : Nk7 m0 i m) (hi : i < 12) (hk : shC[i + 1]? = some (k, n)) (hN : mN m0 + 20 < K9) (c : ∀ m1, Nk7 m0 (i + 1) m1 → Q (K m1)) :
    Q (gd (decide (mN m + 1 < K9)) (lt9 (nw m k n) fun m1 => gd (okO m1 (mN m0) 7) (lt9 (wR m1 (mN m0) (8 + i) (some (mN m))) K))) := by
  obtain ⟨h1, h2, h3, h4⟩ := h
  have hm : mN m = mN m0 + (i + 1) := by
    unfold mN
    rw [h1, List.length_append, shC_tl i (by omega)]
  have ht : shC.take (i + 1 + 1) = shC.take (i + 1) ++ [(k, n)] := by
    rw [List.take_add_one, hk]
    rfl
  have hs : sH (nw m k n) = sH m0 ++ shC.take (i + 1 + 1) := by
    rw [sH_nw, h1, ht, List.append_assoc]
  have ho : okO (nw m k n) (mN m0) 7 = true := okO_of (by
    rw [hs, List.getElem?_append_right (by unfold mN; omega), show mN m0 - (sH m0).length = 0 by unfold mN; omega, List.getElem?_take_of_lt (by omega)]
    rfl)
  rw [decide_eq_true (show mN m + 1 < K9 by omega), gd_t, lt9_e, ho, gd_t, lt9_e]
  refine c _ ⟨by rw [sH_wR]; exact hs, ?_, fun a ha => ?_, fun b hb => ?_⟩
  · show mS m + n = _
    rw [ht, List.map_append, List.sum_append, h2]
    show _ = mS m0 + (_ + (n + 0))
    omega
  · rw [rRw, uf_ap]
    by_cases e : a = i
    · rw [if_pos (by omega), hm, e]
      congr 1
      omega
    · rw [if_neg (by omega), (nw_I (by omega)).2.2]
      exact h3 a (by omega)
  · have z := nw_I (m := m) (k := k) (n := n) (b := b) (by omega)
    have w := h4 b hb
    refine ⟨z.1.trans w.1, z.2.1.trans w.2.1, ?_⟩
    rw [rRw_ne (by omega)]
    exact z.2.2.trans w.2.2
/-- a new State at mN m -/
theorem c_newS {m : Mm} (hN : mN m + 20 < K9) : ∃ m', F_X7_init (mN m) (nw m 7 20) = some ((), m') ∧ Nk7 m 12 m' := by
  have h0 := nk_0 m
  unfold F_X7_init
  refine nk_step (i := 0) (Q := fun X => ∃ m', X = some ((), m') ∧ Nk7 m 12 m') h0 (by omega) rfl hN (fun m1 h1 => ?_)
  refine nk_step (i := 1) (Q := fun X => ∃ m', X = some ((), m') ∧ Nk7 m 12 m') h1 (by omega) rfl hN (fun m2 h2 => ?_)
  refine nk_step (i := 2) (Q := fun X => ∃ m', X = some ((), m') ∧ Nk7 m 12 m') h2 (by omega) rfl hN (fun m3 h3 => ?_)
  refine nk_step (i := 3) (Q := fun X => ∃ m', X = some ((), m') ∧ Nk7 m 12 m') h3 (by omega) rfl hN (fun m4 h4 => ?_)
  refine nk_step (i := 4) (Q := fun X => ∃ m', X = some ((), m') ∧ Nk7 m 12 m') h4 (by omega) rfl hN (fun m5 h5 => ?_)
  refine nk_step (i := 5) (Q := fun X => ∃ m', X = some ((), m') ∧ Nk7 m 12 m') h5 (by omega) rfl hN (fun m6 h6 => ?_)
  refine nk_step (i := 6) (Q := fun X => ∃ m', X = some ((), m') ∧ Nk7 m 12 m') h6 (by omega) rfl hN (fun m7 h7 => ?_)
  refine nk_step (i := 7) (Q := fun X => ∃ m', X = some ((), m') ∧ Nk7 m 12 m') h7 (by omega) rfl hN (fun m8 h8 => ?_)
  refine nk_step (i := 8) (Q := fun X => ∃ m', X = some ((), m') ∧ Nk7 m 12 m') h8 (by omega) rfl hN (fun m9 h9 => ?_)
  refine nk_step (i := 9) (Q := fun X => ∃ m', X = some ((), m') ∧ Nk7 m 12 m') h9 (by omega) rfl hN (fun m10 h10 => ?_)
  refine nk_step (i := 10) (Q := fun X => ∃ m', X = some ((), m') ∧ Nk7 m 12 m') h10 (by omega) rfl hN (fun m11 h11 => ?_)
  refine nk_step (i := 11) (Q := fun X => ∃ m', X = some ((), m') ∧ Nk7 m 12 m') h11 (by omega) rfl hN (fun m12 h12 => ?_)
  exact ⟨m12, rfl, h12⟩
theorem nk_sH {m m' : Mm} (h : Nk7 m 12 m') : sH m' = sH m ++ shC := h.1
theorem nk_N {m m' : Mm} (h : Nk7 m 12 m') : mN m' = mN m + 13 := by
  unfold mN
  rw [nk_sH h, List.length_append]
  rfl
theorem nk_S {m m' : Mm} (h : Nk7 m 12 m') : mS m' = mS m + 614 := h.2.1
theorem nk_CSh {m m' : Mm} (h : Nk7 m 12 m') : CSh m' (mN m) := by
  refine ⟨fun a ha => ?_, h.2.2.1⟩
  rw [nk_sH h, List.getElem?_append_right (by unfold mN; omega), show mN m + a - (sH m).length = a by unfold mN; omega]
theorem nk_Fg {A R : Nat → Prop} {m m' : Mm} (h : Nk7 m 12 m') : Fg A R 13 614 m m' :=
  ⟨fun b hb _ => ⟨(h.2.2.2 b hb).1, (h.2.2.2 b hb).2.1⟩, fun b hb _ => (h.2.2.2 b hb).2.2, ⟨shC, nk_sH h, by decide⟩, by rw [nk_S h]; omega⟩
/-! growing keeps what lies there -/
theorem sH_g {A R : Nat → Prop} {e s : Nat} {m m' : Mm} (f : Fg A R e s m m') {b : Nat} (hb : b < mN m) : (sH m')[b]? = (sH m)[b]? := by
  obtain ⟨x, hx, -⟩ := f.2.2.1
  rw [hx, List.getElem?_append_left hb]
theorem sH_in {m : Mm} {b : Nat} {k : Nat × Nat} (h : (sH m)[b]? = some k) : b < mN m := (List.getElem?_eq_some_iff.mp h).1
theorem CSh_0 {m : Mm} {p : Nat} (c : CSh m p) : p + 12 < mN m := CSh_in c (b := p + 12) ⟨by omega, by omega⟩
theorem CSh_g {A R : Nat → Prop} {e s : Nat} {m m' : Mm} {p : Nat} (f : Fg A R e s m m') (hR : ¬ R p) (c : CSh m p) : CSh m' p := by
  have h := CSh_0 c
  refine ⟨fun a ha => ?_, fun a ha => ?_⟩
  · rw [sH_g f (by omega)]
    exact c.1 a ha
  · rw [f.2.1 p (by omega) hR]
    exact c.2 a ha
theorem abs_g {A R : Nat → Prop} {e s : Nat} {m m' : Mm} {p : Nat} (f : Fg A R e s m m') (c : CSh m p) (hA : ∀ b, reg p b → ¬ A b) : absC m' p = absC m p := by
  have hN := CSh_0 c
  unfold absC
  refine Prod.ext (funext fun b => funext fun k => ?_) (funext fun b => funext fun k => ?_)
  · show (if k < lnC b then rI m' (p + b) k else 0) = (if k < lnC b then rI m (p + b) k else 0)
    by_cases e : k < lnC b
    · have := lnC_12 e
      rw [if_pos e, if_pos e, (f.1 (p + b) (by omega) (hA _ ⟨by omega, by omega⟩)).1]
    · rw [if_neg e, if_neg e]
  · show (if k < lnD b then rL m' (p + b) k else 0) = (if k < lnD b then rL m (p + b) k else 0)
    by_cases e : k < lnD b
    · have := lnD_12 e
      rw [if_pos e, if_pos e, (f.1 (p + b) (by omega) (hA _ ⟨by omega, by omega⟩)).2]
    · rw [if_neg e, if_neg e]
/-- references are kept but in R, which holds no fixed cell, no Image and no row of States -/
theorem adr_g {m m' : Mm} (s : Shp m) (hN : 498 ≤ mN m) (h : ∀ b, b < mN m → rR m' b = rR m b) {u : Nat} (hu : u < 69) : adr m' u = adr m u := by
  unfold adr
  by_cases h0 : u = 0
  · rw [if_pos h0, if_pos h0]
  · rw [if_neg h0, if_neg h0]
    by_cases h1 : u = 1
    · rw [if_pos h1, if_pos h1]
    · rw [if_neg h1, if_neg h1]
      by_cases h2 : u < 18
      · rw [if_pos h2, if_pos h2, h 43 (by omega)]
      · rw [if_neg h2, if_neg h2, h 44 (by omega)]
        cases e : rR m 44 ((u - 18) / 17) with
        | none => rw [oc_n, oc_n]
        | some A =>
          have z := s.2.2 _ A (by omega) e
          have := sH_in z.2.2.2.2.2.1
          rw [oc_s, oc_s, h (A + 15) this]
theorem ImS_g {m m' : Mm} {A : Nat} (h : ∀ b, b < mN m → rR m' b = rR m b) (hs : ∀ b, b < mN m → (sH m')[b]? = (sH m)[b]?) (c : ImS m A) : ImS m' A := by
  obtain ⟨c1, c2, c3, c4, c5, c6, c7⟩ := c
  have i1 := sH_in c1
  have i4 := sH_in c4
  have i6 := sH_in c6
  refine ⟨?_, ?_, ?_, ?_, ?_, ?_, c7⟩
  · rw [hs _ i1]
    exact c1
  · rw [h _ i1]
    exact c2
  · rw [h _ i1]
    exact c3
  · rw [hs _ i4]
    exact c4
  · rw [h _ i4]
    exact c5
  · rw [hs _ i6]
    exact c6
theorem Shp_g {A R : Nat → Prop} {e s : Nat} {m m' : Mm} (c : Shp m) (hN : 498 ≤ mN m) (f : Fg A R e s m m') (hR : ∀ b, ¬ R b) : Shp m' := by
  have h : ∀ b, b < mN m → rR m' b = rR m b := fun b hb => f.2.1 b hb (hR b)
  refine ⟨fun u p hu hp => ?_, fun u v p hu hv h1 h2 => ?_, fun j A' hj hA => ?_⟩
  · rw [adr_g c hN h hu] at hp
    exact ⟨CSh_g f (hR p) (c.1 u p hu hp).1, (c.1 u p hu hp).2⟩
  · rw [adr_g c hN h hu] at h1
    rw [adr_g c hN h hv] at h2
    exact c.2.1 u v p hu hv h1 h2
  · rw [h 44 (by omega)] at hA
    exact ImS_g h (fun b hb => sH_g f hb) (c.2.2 j A' hj hA)
