/-! L2: the past copied; images. -/
theorem PQ_lt {m : Mm} {P Q base : Nat} (g : G m) (s : Shp m) (h : PQ m P Q base) : P < mN m ∧ Q < mN m := ⟨sH_in (PQ_f g s h).1, sH_in (PQ_f g s h).2.2.1⟩
theorem PQ_nA {m : Mm} {P Q base : Nat} (g : G m) (s : Shp m) (h : PQ m P Q base) : ¬ AP m P := fun z => z.2 (PQ_f g s h).1
theorem c_cpL {K : Nat → Nat → Mm → Option (Unit × Mm)} {P Q base P' Q' base' k : Nat} (hk : k ≤ 16) (hfar : base + 16 ≤ base' ∨ base' + 16 ≤ base) : ∀ (d i fuel : Nat) (m : Mm), i + d = k → d < fuel → G m → Shp m → 498 ≤ mN m → mN m + 13 * d + 20 < K9 → PQ m P Q base → PQ m P' Q' base' → rI m P' 1 = ni k → (∀ z, z < k → cn m (base' + z) ≠ none) →
    ∃ m', L_X5_copy_2 K fuel P P' (ni i) m = K P P' m' ∧ G m' ∧ Shp m' ∧ (∀ w, w < 69 → cn m' w = if base + i ≤ w ∧ w < base + k then cn m (base' + (w - base)) else cn m w) ∧ Fg (AP m) (fun b => b = Q) (13 * d) (614 * d) m m' := by
  intro d
  induction d with
  | zero =>
    intro i fuel m hd hf g s hN hK p1 p2 h1 hc
    obtain ⟨fuel, rfl⟩ : ∃ z, fuel = z + 1 := ⟨fuel - 1, by omega⟩
    have F := PQ_f g s p2
    have e : ni k ≤ ni i := by
      rw [ni_le (by omega) (by omega)]
      omega
    refine ⟨m, ?_, g, s, fun w hw => ?_, Fm_Fg (Fm_refl _ _)⟩
    · rw [L_X5_copy_2, okO_of F.1, gd_t, h1, if_pos e]
    · rw [if_neg (by omega)]
  | succ d ih =>
    intro i fuel m hd hf g s hN hK p1 p2 h1 hc
    obtain ⟨fuel, rfl⟩ : ∃ z, fuel = z + 1 := ⟨fuel - 1, by omega⟩
    have F := PQ_f g s p2
    have F1 := PQ_f g s p1
    have L2 := PQ_lt g s p2
    have e : ¬ ni k ≤ ni i := by
      rw [ni_le (by omega) (by omega)]
      omega
    have e16 : ¬ ni 16 ≤ ni i := by
      rw [ni_le (by omega) (by omega)]
      omega
    obtain ⟨σ, hσ⟩ := Option.ne_none_iff_exists'.mp (hc i (by omega))
    obtain ⟨q, hq, -⟩ := cn_p hσ
    have hq' : rR m Q' i = some q := by
      rw [← F.2.2.2.1 i (by omega)]
      exact hq
    have hb1 := F1.2.2.2.2.2.1
    have hb2 := F.2.2.2.2.2.1
    obtain ⟨m1, x1, x2, x3, x4⟩ := c_put5 (i := i) g s hN (by omega) p1 (by omega) (by omega) hq (by omega)
    have g1 := G_fg (fun b z => by rw [z]; exact F1.2.2.2.2.2.2.1) hN x4 g
    have n1 := Fg_N x4
    have r44 : rR m1 44 = rR m 44 := x4.2.1 44 (by omega) (fun z => F1.2.2.2.2.2.2.2.1 z.symm)
    have e1 : rI m1 P' 1 = ni k := by
      rw [(x4.1 P' L2.1 (PQ_nA g s p2)).1]
      exact h1
    obtain ⟨m', y1, y2, y3, y4, y5⟩ := ih (i + 1) fuel m1 (by omega) (by omega) g1 x2 (by omega) (by omega) (PQ_e r44 p1) (PQ_e r44 p2) e1 (fun z hz => by
      rw [x3 _ (by omega), if_neg (by omega)]
      exact hc z hz)
    refine ⟨m', ?_, y2, y3, fun w hw => ?_, ?_⟩
    · rw [L_X5_copy_2, okO_of F.1, gd_t, h1, if_neg e, gd_t, F.2.1, oc_s, okT_of F.2.2.1, gd_t, ln_of F.2.2.1, if_neg e16, gd_t, oc_s, okA_of F.2.2.1 (show i < 16 by omega) (by omega), gd_t, ix_ni (by omega), hq', oc_s, jn_e]
      dsimp only
      rw [okO_of F1.1, gd_t, bdE x1, lt9_e, show ni i + 1 = ni (i + 1) from ni_add i 1]
      exact y1
    · rw [y4 w hw]
      by_cases z : base + i ≤ w ∧ w < base + k
      · rw [if_pos z]
        by_cases z2 : base + (i + 1) ≤ w ∧ w < base + k
        · rw [if_pos z2, x3 _ (by omega), if_neg (by omega)]
        · rw [if_neg z2, x3 w hw, if_pos (by omega), show base' + (w - base) = base' + i by omega]
      · rw [if_neg z, if_neg (by omega), x3 w hw, if_neg (by omega)]
    · exact Fg_mono (e := 13 + 13 * d) (s := 614 + 614 * d) (fun b z => z) (fun b z => z) (by omega) (by omega) (Fg_trans x4 (Fg_mono (AP_g x4) (fun b z => z) (Nat.le_refl _) (Nat.le_refl _) y5))
theorem c_cpP {P Q base P' Q' base' k : Nat} {m : Mm} (hk : k ≤ 16) (hfar : base + 16 ≤ base' ∨ base' + 16 ≤ base) (hne : P ≠ P') (g : G m) (s : Shp m) (hN : 498 ≤ mN m) (hK : mN m + 300 < K9) (p1 : PQ m P Q base) (p2 : PQ m P' Q' base') (h1 : rI m P' 1 = ni k) (hc : ∀ z, z < k → cn m (base' + z) ≠ none) :
    ∃ m', F_X5_copy P P' m = some ((), m') ∧ G m' ∧ Shp m' ∧ (∀ w, w < 69 → cn m' w = if base ≤ w ∧ w < base + k then cn m (base' + (w - base)) else cn m w) ∧ rI m' P 1 = ni k ∧ Fg (fun b => AP m b ∨ b = P) (fun b => b = Q) 208 9824 m m' := by
  have L1 := PQ_lt g s p1
  have L2 := PQ_lt g s p2
  obtain ⟨m1, x1, x2, x3, x4, x5⟩ := c_cpL (K := fun v0 v1 m => gd (okO m v1 5) (gd (okO m v0 5) (lt9 (wI m v0 1 (rI m v1 1)) fun m9 => some ((), m9)))) hk hfar k 0 NF m (by omega) (by unfold NF; omega) g s hN (by omega) p1 p2 h1 hc
  have r44 : rR m1 44 = rR m 44 := x5.2.1 44 (by omega) (fun z => (PQ_f g s p1).2.2.2.2.2.2.2.1 z.symm)
  have F1 := PQ_f x2 x3 (PQ_e r44 p1)
  have F2 := PQ_f x2 x3 (PQ_e r44 p2)
  have e1 : rI m1 P' 1 = ni k := by
    rw [(x5.1 P' L2.1 (PQ_nA g s p2)).1]
    exact h1
  have f1 : Fm (fun b => b = P) m1 (wI m1 P 1 (ni k)) := Fm_wI (Fm_refl _ _) rfl
  refine ⟨wI m1 P 1 (ni k), ?_, G_fr f1 x2, Shp_fr f1 x3, fun w hw => ?_, by rw [rIw, uf_at], ?_⟩
  · unfold F_X5_copy
    rw [lt9_e]
    rw [ni_0] at x1
    rw [x1, okO_of F2.1, gd_t, okO_of F1.1, gd_t, lt9_e, e1]
  · have z := x4 w hw
    rw [Nat.add_zero] at z
    rw [← z]
    refine cn_e rfl (fun q hq => abs_fr f1 (fun b h2 h3 z => ?_))
    subst z
    exact CSh_nk (x3.1 w q hw hq).1 F1.1 (by simp) ⟨h2, h3⟩
  · exact Fg_mono (e := 13 * k + 0) (s := 614 * k + 0) (fun b z => z) (fun b z => z) (by omega) (by omega) (Fg_trans (Fg_mono (fun b z => .inl z) (fun b z => z) (Nat.le_refl _) (Nat.le_refl _) x5) (Fm_Fg (Fm_mono (fun b z => .inr z) f1)))
/-- a new Image at mN m -/
theorem c_newI {m : Mm} (hN : mN m + 40 < K9) (h498 : 498 ≤ mN m) : ∃ m', F_X2_init (mN m) (nw m 2 2) = some ((), m') ∧ ImS m' (mN m) ∧ CSh m' (mN m + 1) ∧ (∀ i, rR m' (mN m + 15) i = none) ∧ Fg (fun _ => False) (fun _ => False) 16 634 m m' ∧ okO m' (mN m) 2 = true := by
  have e1 := mN_nw m 2 2
  obtain ⟨m3, x1, x2⟩ := c_newS (m := nw m 2 2) (by omega)
  rw [e1] at x1
  have h3 := nk_sH x2
  have hn3 : mN m3 = mN m + 14 := by rw [nk_N x2, e1]
  have hA3 : (sH m3)[mN m]? = some (2, 2) := by
    rw [h3, List.getElem?_append_left (by show mN m < mN (nw m 2 2); omega), sH_nw, List.getElem?_append_right (by unfold mN; omega), show mN m - (sH m).length = 0 by unfold mN; omega]
    rfl
  have o3 : okO m3 (mN m) 2 = true := okO_of hA3
  have c3 : CSh m3 (mN m + 1) := by
    have z := nk_CSh x2
    rw [e1] at z
    exact z
  have hn4 : mN (wR m3 (mN m) 0 (some (mN m + 1))) = mN m + 14 := hn3
  have s5 : sH (nw (wR m3 (mN m) 0 (some (mN m + 1))) 5 2) = sH m3 ++ [(5, 2)] := rfl
  have hn5 : mN (nw (wR m3 (mN m) 0 (some (mN m + 1))) 5 2) = mN m + 15 := by rw [mN_nw, hn4]
  have x : ∃ m7, F_X5_init (mN m + 14) (nw (wR m3 (mN m) 0 (some (mN m + 1))) 5 2) = some ((), m7) ∧ m7 = wR (nw (nw (wR m3 (mN m) 0 (some (mN m + 1))) 5 2) 104 16) (mN m + 14) 0 (some (mN m + 15)) := by
    refine ⟨_, ?_, rfl⟩
    unfold F_X5_init
    have o6 : okO (nw (nw (wR m3 (mN m) 0 (some (mN m + 1))) 5 2) 104 16) (mN m + 14) 5 = true := okO_of (by
      rw [sH_nw, s5, List.append_assoc, List.getElem?_append_right (by show (sH m3).length ≤ _; have : (sH m3).length = mN m3 := rfl; omega), show mN m + 14 - (sH m3).length = 0 by have : (sH m3).length = mN m3 := rfl; omega]
      rfl)
    rw [hn5, decide_eq_true (show mN m + 15 + 1 < K9 by omega), gd_t, lt9_e, o6, gd_t, lt9_e]
  obtain ⟨m7, x7, e7⟩ := x
  have s7 : sH m7 = sH m3 ++ [(5, 2), (104, 16)] := by
    rw [e7, sH_wR, sH_nw, s5, List.append_assoc]
    rfl
  have hl3 : (sH m3).length = mN m + 14 := hn3
  have g7 : ∀ b, b < mN m + 14 → (sH m7)[b]? = (sH m3)[b]? := fun b hb => by rw [s7, List.getElem?_append_left (by omega)]
  have r7 : ∀ b, b < mN m + 14 → rR m7 b = rR (wR m3 (mN m) 0 (some (mN m + 1))) b := fun b hb => by
    rw [e7, rRw_ne (by omega), (nw_I (by rw [hn5]; omega)).2.2, (nw_I (by rw [hn4]; omega)).2.2]
  have i7 : ∀ b, b < mN m + 14 → rI m7 b = rI m3 b ∧ rL m7 b = rL m3 b := fun b hb => by
    have z1 := nw_I (m := nw (wR m3 (mN m) 0 (some (mN m + 1))) 5 2) (k := 104) (n := 16) (b := b) (by rw [hn5]; omega)
    have z2 := nw_I (m := wR m3 (mN m) 0 (some (mN m + 1))) (k := 5) (n := 2) (b := b) (by rw [hn4]; omega)
    rw [e7]
    exact ⟨z1.1.trans z2.1, z1.2.1.trans z2.2.1⟩
  have o7 : okO m7 (mN m) 2 = true := okO_of (by rw [g7 _ (by omega)]; exact hA3)
  refine ⟨wR m7 (mN m) 1 (some (mN m + 14)), ?_, ?_, ?_, fun i => ?_, ?_, o7⟩
  · unfold F_X2_init
    rw [e1, decide_eq_true (show mN m + 1 + 1 < K9 by omega), gd_t, lt9_e, bdE x1, o3, gd_t, lt9_e, hn4, decide_eq_true (show mN m + 14 + 1 < K9 by omega), gd_t, lt9_e, bdE x7, o7, gd_t, lt9_e]
  · refine ⟨?_, ?_, ?_, ?_, ?_, ?_, h498⟩
    · rw [sH_wR, g7 _ (by omega)]
      exact hA3
    · rw [rRw, uf_ne (by omega), r7 _ (by omega), rRw, uf_at]
    · rw [rRw, uf_at]
    · rw [sH_wR, s7, List.getElem?_append_right (by omega), show mN m + 14 - (sH m3).length = 0 by omega]
      rfl
    · rw [rRw_ne (by omega), e7, rRw, uf_at]
    · rw [sH_wR, s7, List.getElem?_append_right (by omega), show mN m + 15 - (sH m3).length = 1 by omega]
      rfl
  · refine ⟨fun a ha => ?_, fun a ha => ?_⟩
    · rw [sH_wR, g7 _ (by omega)]
      exact c3.1 a ha
    · rw [rRw_ne (by omega), r7 _ (by omega), rRw_ne (by omega)]
      exact c3.2 a ha
  · rw [rRw_ne (by omega), e7, rRw_ne (by omega)]
    have z := nw_R0 (nw (wR m3 (mN m) 0 (some (mN m + 1))) 5 2) 104 16 i
    rw [hn5] at z
    exact z
  · refine ⟨fun b hb _ => ?_, fun b hb _ => ?_, ⟨(2, 2) :: (shC ++ [(5, 2), (104, 16)]), ?_, by decide⟩, ?_⟩
    · have z := i7 b (by omega)
      have z3 := x2.2.2.2 b (by omega)
      have z0 := nw_I (m := m) (k := 2) (n := 2) (b := b) (by omega)
      exact ⟨z.1.trans (z3.1.trans z0.1), z.2.trans (z3.2.1.trans z0.2.1)⟩
    · have z3 := x2.2.2.2 b (by omega)
      have z0 := nw_I (m := m) (k := 2) (n := 2) (b := b) (by omega)
      rw [rRw_ne (by omega), r7 b (by omega), rRw_ne (by omega)]
      exact z3.2.2.trans z0.2.2
    · rw [sH_wR, s7, h3, sH_nw]
      simp only [List.append_assoc, List.cons_append, List.nil_append]
    · have w : mS m7 = mS m3 + 2 + 16 := by rw [e7]; rfl
      have w3 := nk_S x2
      show mS m7 ≤ _
      rw [w, w3]
      show mS m + 2 + 614 + 2 + 16 ≤ mS m + 634
      omega
theorem adr_wi {m : Mm} {j A : Nat} (s : Shp m) (h : rR m 44 j = none) (hA : 498 ≤ A) (h0 : ∀ i, rR m (A + 15) i = none) {w : Nat} (hw : w < 69) : adr (wR m 44 j (some A)) w = if w = 18 + 17 * j then some (A + 1) else adr m w := by
  unfold adr
  by_cases e0 : w = 0
  · rw [if_pos e0, if_neg (by omega), if_pos e0]
  · rw [if_neg e0]
    by_cases e1 : w = 1
    · rw [if_pos e1, if_neg (by omega), if_neg e0, if_pos e1]
    · rw [if_neg e1]
      by_cases e2 : w < 18
      · rw [if_pos e2, rRw_ne (by omega), if_neg (by omega), if_neg e0, if_neg e1, if_pos e2]
      · rw [if_neg e2, if_neg e0, if_neg e1, if_neg e2, rRw, uf_ap]
        by_cases e3 : (w - 18) / 17 = j
        · rw [if_pos e3, oc_s, e3, h, oc_n]
          by_cases e4 : (w - 18) % 17 = 0
          · rw [if_pos e4, if_pos (by omega)]
          · rw [if_neg e4, if_neg (by omega), rRw_ne (by omega), h0]
        · rw [if_neg e3, if_neg (by omega)]
          cases e : rR m 44 ((w - 18) / 17) with
          | none => rw [oc_n, oc_n]
          | some A' =>
            have z := (s.2.2 _ A' (by omega) e).2.2.2.2.2.2
            rw [oc_s, oc_s, rRw_ne (by omega)]
theorem Shp_wi {m : Mm} {j A : Nat} (s : Shp m) (hj : j < 3) (h : rR m 44 j = none) (iA : ImS m A) (cA : CSh m (A + 1)) (h0 : ∀ i, rR m (A + 15) i = none) (hf : ∀ u, u < 69 → adr m u ≠ some (A + 1)) (g : G m) : Shp (wR m 44 j (some A)) := by
  have h44 : (sH m)[44]? = some (105, 3) := (g.1 44 (by omega)).trans sx44
  have hA := iA.2.2.2.2.2.2
  refine ⟨fun u p hu hp => ?_, fun u v p hu hv h1 h2 => ?_, fun j' A' hj' hA' => ?_⟩
  · rw [adr_wi s h hA h0 hu] at hp
    by_cases e : u = 18 + 17 * j
    · rw [if_pos e] at hp
      cases hp
      exact ⟨CSh_wR cA (by omega), fun _ => by omega⟩
    · rw [if_neg e] at hp
      have z := s.1 u p hu hp
      exact ⟨CSh_wR z.1 (kd_ne (CSh_k z.1) h44 (by decide)), z.2⟩
  · rw [adr_wi s h hA h0 hu] at h1
    rw [adr_wi s h hA h0 hv] at h2
    by_cases e : u = 18 + 17 * j
    · rw [if_pos e] at h1
      cases h1
      by_cases e2 : v = 18 + 17 * j
      · omega
      · rw [if_neg e2] at h2
        exact absurd h2 (hf v hv)
    · rw [if_neg e] at h1
      by_cases e2 : v = 18 + 17 * j
      · rw [if_pos e2] at h2
        cases h2
        exact absurd h1 (hf u hu)
      · rw [if_neg e2] at h2
        exact s.2.1 u v p hu hv h1 h2
  · have hc : ImS m A' := by
      rw [rRw, uf_ap] at hA'
      by_cases e : j' = j
      · rw [if_pos e] at hA'
        cases hA'
        exact iA
      · rw [if_neg e] at hA'
        exact s.2.2 j' A' hj' hA'
    obtain ⟨c1, c2, c3, c4, c5, c6, c7⟩ := hc
    exact ⟨c1, by rw [rRw_ne (by omega)]; exact c2, by rw [rRw_ne (by omega)]; exact c3, c4, by rw [rRw_ne (by omega)]; exact c5, c6, c7⟩
