/-! L2: the past: put, keep, give back, copy. -/
def PQ (m : Mm) (P Q base : Nat) : Prop := (P = 42 ∧ Q = 43 ∧ base = 2) ∨ (∃ j A, j < 3 ∧ rR m 44 j = some A ∧ P = A + 14 ∧ Q = A + 15 ∧ base = 19 + 17 * j)
theorem rfN_43 : rfN 43 := by
  refine ⟨?_, ?_, by omega, by omega⟩
  · decide
  · decide
theorem rfN_44 : rfN 44 := by
  refine ⟨?_, ?_, by omega, by omega⟩
  · decide
  · decide
theorem rfN_hi {b : Nat} (h : 498 ≤ b) : rfN b := ⟨fun e he => by have := rfL_lt e he; omega, fun e he => by have := rfA_lt e he; omega, by omega, by omega⟩
theorem PQ_f {m : Mm} {P Q base : Nat} (g : G m) (s : Shp m) (h : PQ m P Q base) : (sH m)[P]? = some (5, 2) ∧ rR m P 0 = some Q ∧ (sH m)[Q]? = some (104, 16) ∧ (∀ i, i < 16 → adr m (base + i) = rR m Q i) ∧ 2 ≤ base ∧ base + 16 ≤ 69 ∧ rfN Q ∧ Q ≠ 44 ∧ (Q = 43 ∨ 498 ≤ Q) ∧ (P = 42 ∨ 498 ≤ P) := by
  rcases h with ⟨rfl, rfl, rfl⟩ | ⟨j, A, hj, hA, rfl, rfl, rfl⟩
  · exact ⟨(g.1 42 (by omega)).trans sx42, gR42_0 g, (g.1 43 (by omega)).trans sx43, fun i hi => adr_p m hi, by omega, by omega, rfN_43, by omega, .inl rfl, .inl rfl⟩
  · obtain ⟨c1, c2, c3, c4, c5, c6, c7⟩ := s.2.2 j A hj hA
    refine ⟨c4, c5, c6, fun i hi => ?_, by omega, by omega, rfN_hi (by omega), by omega, .inr (by omega), .inr (by omega)⟩
    rw [← adr_q hA hi, show 19 + 17 * j + i = 18 + 17 * j + (1 + i) by omega]
theorem adr_wr {m : Mm} {P Q base i : Nat} (s : Shp m) (h : PQ m P Q base) (hi : i < 16) (v : Option Nat) {w : Nat} (hw : w < 69) : adr (wR m Q i v) w = if w = base + i then v else adr m w := by
  rcases h with ⟨rfl, rfl, rfl⟩ | ⟨j, A, hj, hA, rfl, rfl, rfl⟩
  · unfold adr
    by_cases h0 : w = 0
    · rw [if_pos h0, if_neg (by omega), if_pos h0]
    · rw [if_neg h0]
      by_cases h1 : w = 1
      · rw [if_pos h1, if_neg (by omega), if_neg h0, if_pos h1]
      · rw [if_neg h1]
        by_cases h2 : w < 18
        · rw [if_pos h2, rRw, uf_ap]
          by_cases e : w = 2 + i
          · rw [if_pos e, if_pos (by omega)]
          · rw [if_neg e, if_neg (by omega), if_neg h0, if_neg h1, if_pos h2]
        · rw [if_neg h2, if_neg (by omega), if_neg h0, if_neg h1, if_neg h2, rRw_ne (by omega)]
          cases e : rR m 44 ((w - 18) / 17) with
          | none => rw [oc_n, oc_n]
          | some A =>
            have z := (s.2.2 _ A (by omega) e).2.2.2.2.2.2
            rw [oc_s, oc_s, rRw_ne (by omega)]
  · have zA := (s.2.2 j A hj hA).2.2.2.2.2.2
    unfold adr
    by_cases h0 : w = 0
    · rw [if_pos h0, if_neg (by omega), if_pos h0]
    · rw [if_neg h0]
      by_cases h1 : w = 1
      · rw [if_pos h1, if_neg (by omega), if_neg h0, if_pos h1]
      · rw [if_neg h1]
        by_cases h2 : w < 18
        · rw [if_pos h2, rRw_ne (by omega), if_neg (by omega), if_neg h0, if_neg h1, if_pos h2]
        · rw [if_neg h2, rRw_ne (a := A + 15) (b := 44) (by omega), if_neg h0, if_neg h1, if_neg h2]
          cases e : rR m 44 ((w - 18) / 17) with
          | none =>
            rw [oc_n, oc_n, if_neg]
            intro q
            rw [show (w - 18) / 17 = j by omega, hA] at e
            cases e
          | some A' =>
            rw [oc_s, oc_s]
            by_cases h3 : (w - 18) % 17 = 0
            · rw [if_pos h3, if_pos h3, if_neg (by omega)]
            · rw [if_neg h3, if_neg h3]
              by_cases h4 : A' = A
              · subst h4
                have ej : 18 + 17 * ((w - 18) / 17) = 18 + 17 * j := s.2.1 _ _ (A' + 1) (by omega) (by omega) (adr_i e) (adr_i hA)
                rw [rRw, uf_ap]
                by_cases h5 : w = 19 + 17 * j + i
                · rw [if_pos h5, if_pos (by omega)]
                · rw [if_neg h5, if_neg (by omega)]
              · rw [rRw_ne (by omega), if_neg]
                intro q
                rw [show (w - 18) / 17 = j by omega, hA] at e
                exact h4 (Option.some.inj e).symm
theorem CSh_wR {m : Mm} {p a j : Nat} {v : Option Nat} (c : CSh m p) (h : p ≠ a) : CSh (wR m a j v) p := by
  refine ⟨c.1, fun k hk => ?_⟩
  rw [rRw_ne h]
  exact c.2 k hk
theorem kd_ne {m : Mm} {a b : Nat} {k k' : Nat × Nat} (h : (sH m)[a]? = some k) (h' : (sH m)[b]? = some k') (hk : k ≠ k') : a ≠ b := fun e => by
  subst e
  rw [h] at h'
  exact hk (Option.some.inj h')
theorem CSh_k {m : Mm} {p : Nat} (c : CSh m p) : (sH m)[p]? = some (7, 20) := c.1 0 (by omega)
theorem Shp_wr {m : Mm} {P Q base i N : Nat} (g : G m) (s : Shp m) (h : PQ m P Q base) (hi : i < 16) (cN : CSh m N) (hN : 498 ≤ N) (hf : ∀ u, u < 69 → adr m u ≠ some N) : Shp (wR m Q i (some N)) := by
  have f := PQ_f g s h
  refine ⟨fun u p hu hp => ?_, fun u v p hu hv h1 h2 => ?_, fun j A hj hA => ?_⟩
  · rw [adr_wr s h hi _ hu] at hp
    by_cases e : u = base + i
    · rw [if_pos e] at hp
      cases hp
      exact ⟨CSh_wR cN (kd_ne (CSh_k cN) f.2.2.1 (by decide)), fun _ => hN⟩
    · rw [if_neg e] at hp
      have z := s.1 u p hu hp
      exact ⟨CSh_wR z.1 (kd_ne (CSh_k z.1) f.2.2.1 (by decide)), z.2⟩
  · rw [adr_wr s h hi _ hu] at h1
    rw [adr_wr s h hi _ hv] at h2
    by_cases e : u = base + i
    · rw [if_pos e] at h1
      cases h1
      by_cases e2 : v = base + i
      · omega
      · rw [if_neg e2] at h2
        exact absurd h2 (hf v hv)
    · rw [if_neg e] at h1
      by_cases e2 : v = base + i
      · rw [if_pos e2] at h2
        cases h2
        exact absurd h1 (hf u hu)
      · rw [if_neg e2] at h2
        exact s.2.1 u v p hu hv h1 h2
  · rw [rRw_ne (Ne.symm f.2.2.2.2.2.2.2.1)] at hA
    obtain ⟨c1, c2, c3, c4, c5, c6, c7⟩ := s.2.2 j A hj hA
    have n1 := kd_ne c1 f.2.2.1 (by decide)
    have n4 := kd_ne c4 f.2.2.1 (by decide)
    exact ⟨c1, by rw [rRw_ne n1]; exact c2, by rw [rRw_ne n1]; exact c3, c4, by rw [rRw_ne n4]; exact c5, c6, c7⟩
/-- cells of States laid later -/
def AP (m : Mm) : Nat → Prop := fun b => 498 ≤ b ∧ (sH m)[b]? ≠ some (5, 2)
theorem Fg_wR {A : Nat → Prop} (m : Mm) (a j : Nat) (v : Option Nat) : Fg A (fun b => b = a) 0 0 m (wR m a j v) :=
  ⟨fun _ _ _ => ⟨rfl, rfl⟩, fun b _ hb => rRw_ne hb, ⟨[], by rw [sH_wR, List.append_nil], Nat.le_refl _⟩, Nat.le_refl _⟩
theorem AP_g {A R : Nat → Prop} {e s : Nat} {m m' : Mm} (f : Fg A R e s m m') : ∀ b, AP m' b → AP m b := by
  intro b h
  refine ⟨h.1, fun z => h.2 ?_⟩
  rw [sH_g f (sH_in z)]
  exact z
theorem abs_wR (m : Mm) (a j : Nat) (v : Option Nat) (p : Nat) : absC (wR m a j v) p = absC m p := rfl
theorem reg_AP {m : Mm} {p : Nat} (c : CSh m p) (h : 498 ≤ p) : ∀ b, reg p b → AP m b := fun b r => ⟨by unfold reg at r; omega, fun z => CSh_nk c z (by simp) r⟩
theorem far_reg {p q : Nat} (h : p + 12 < q ∨ q + 12 < p) : ∀ b, q ≤ b → b ≤ q + 12 → ¬ reg p b := by
  intro b h1 h2 r
  unfold reg at r
  omega
theorem PQ_e {m m' : Mm} {P Q base : Nat} (h : rR m' 44 = rR m 44) (p : PQ m P Q base) : PQ m' P Q base := by
  unfold PQ
  rw [h]
  exact p
theorem c_put5 {m : Mm} {P Q base i v r : Nat} (g : G m) (s : Shp m) (hN : 498 ≤ mN m) (hK : mN m + 20 < K9) (pq : PQ m P Q base) (hi : i < 16) (hv : v < 69) (hr : adr m v = some r) (hne : v ≠ base + i) :
    ∃ m', F_X5_put P (ni i) r m = some (1, m') ∧ Shp m' ∧ (∀ w, w < 69 → cn m' w = if w = base + i then cn m v else cn m w) ∧ Fg (AP m) (fun b => b = Q) 13 614 m m' := by
  obtain ⟨f1, f2, f3, f4, f5, f6, f7, f8, f9, f10⟩ := PQ_f g s pq
  have cr := (s.1 v r hv hr).1
  have k0 : ¬ ni i < 0 := fun z => (ni_lt0 (by omega)).mp z
  have k1 : ni i < ln m Q := by
    rw [ln_of f3, ni_lt (by omega) (by omega)]
    omega
  have hb : base + i < 69 := by omega
  cases e : rR m Q i with
  | some p =>
    have ep : adr m (base + i) = some p := (f4 i hi).trans e
    have cp := s.1 (base + i) p hb ep
    have hpr : p ≠ r := fun q => hne (s.2.1 v (base + i) r hv hb hr (by rw [ep, q]))
    obtain ⟨m', x1, x2, x3⟩ := c_copy cp.1 cr (CSh_far cp.1 cr hpr)
    refine ⟨m', ?_, Shp_fr x3 s, fun w hw => ?_, ?_⟩
    · unfold F_X5_put
      rw [if_neg k0, okO_of f1, gd_t, f2, oc_s, okT_of f3, gd_t, if_pos k1, gd_t, oc_s, okA_of f3 hi (by omega), gd_t, ix_ni (by omega), e, oc_s, jn_e]
      dsimp only
      rw [CSh_ok cp.1, gd_t, bdE x1]
    · by_cases ew : w = base + i
      · rw [if_pos ew, ew, cn_s (by rw [adr_fr x3.2.1]; exact ep), x2, cn_s hr]
      · rw [if_neg ew]
        refine cn_e (adr_fr x3.2.1 w) (fun q hq => ?_)
        have cq := (s.1 w q hw hq).1
        have hpq : p ≠ q := fun z => ew (s.2.1 w (base + i) q hw hb hq (by rw [ep, z]))
        exact abs_fr x3 (far_reg (CSh_far cp.1 cq hpq))
    · exact Fg_mono (fun b z => reg_AP cp.1 (cp.2 (by omega)) b z) (fun b z => z) (Nat.zero_le _) (Nat.zero_le _) (Fm_Fg (R := fun b => b = Q) x3)
  | none =>
    obtain ⟨m1, x1, x2⟩ := c_newS (m := m) (by omega)
    have g1f : Fg (fun _ => False) (fun _ => False) 13 614 m m1 := nk_Fg x2
    have hr1 : ∀ b, b < mN m → rR m1 b = rR m b := fun b hb => (x2.2.2.2 b hb).2.2
    have s1 := Shp_g s hN g1f (fun b z => z)
    have g1 := G_fg (fun b z => z.elim) hN g1f g
    have pq1 : PQ m1 P Q base := PQ_e (hr1 44 (by omega)) pq
    have F1 := PQ_f g1 s1 pq1
    have iQ := sH_in f3
    have iP := sH_in f1
    have cN := nk_CSh x2
    have hfr : ∀ u, u < 69 → adr m1 u ≠ some (mN m) := fun u hu z => by
      rw [adr_g s hN hr1 hu] at z
      have := CSh_0 (s.1 u _ hu z).1
      omega
    have s2 := Shp_wr g1 s1 pq1 hi cN hN hfr
    have a2 : ∀ w, w < 69 → adr (wR m1 Q i (some (mN m))) w = if w = base + i then some (mN m) else adr m w := fun w hw => by
      rw [adr_wr s1 pq1 hi _ hw, adr_g s hN hr1 hw]
    have c2N := (s2.1 (base + i) (mN m) hb (by rw [a2 _ hb, if_pos rfl])).1
    have ar : adr (wR m1 Q i (some (mN m))) v = some r := by
      rw [a2 v hv, if_neg hne]
      exact hr
    have c2r := (s2.1 v r hv ar).1
    have lr := CSh_0 cr
    obtain ⟨m', y1, y2, y3⟩ := c_copy c2N c2r (.inr (by omega))
    refine ⟨m', ?_, Shp_fr y3 s2, fun w hw => ?_, ?_⟩
    · unfold F_X5_put
      rw [if_neg k0, okO_of f1, gd_t, f2, oc_s, okT_of f3, gd_t, if_pos k1, gd_t, oc_s, okA_of f3 hi (by omega), gd_t, ix_ni (by omega), e, oc_n, jn_e]
      dsimp only
      rw [decide_eq_true (show mN m + 1 < K9 by omega), gd_t, lt9_e, bdE x1, okO_of F1.1, gd_t, F1.2.1, oc_s, okA_of F1.2.2.1 hi (by omega), CSh_ok cN, Bool.and_self, gd_t, lt9_e, CSh_ok c2N, gd_t, bdE y1]
    · by_cases ew : w = base + i
      · rw [if_pos ew, ew, cn_s (p := mN m) (by rw [adr_fr y3.2.1, a2 _ hb, if_pos rfl]), y2, cn_s hr, abs_wR, abs_g g1f cr (fun b _ z => z)]
      · rw [if_neg ew]
        refine cn_e (by rw [adr_fr y3.2.1, a2 w hw, if_neg ew]) (fun q hq => ?_)
        have cq := (s.1 w q hw hq).1
        have lq := CSh_0 cq
        rw [abs_fr y3 (far_reg (.inr (by omega))), abs_wR, abs_g g1f cq (fun b _ z => z)]
    · refine Fg_mono (e := 13 + (0 + 0)) (s := 614 + (0 + 0)) (fun b z => z) (fun b z => z) (by omega) (by omega) (Fg_trans (nk_Fg x2) (Fg_trans (Fg_wR m1 Q i (some (mN m))) (Fg_mono (fun b z => ?_) (fun b z => z) (Nat.le_refl _) (Nat.le_refl _) (Fm_Fg (R := fun b => b = Q) y3))))
      refine ⟨by unfold reg at z; omega, fun q => ?_⟩
      have := sH_in q
      unfold reg at z
      omega
/-- one work more is kept -/
theorem c_keep {m : Mm} {k : Nat} (g : G m) (s : Shp m) (hN : 498 ≤ mN m) (hK : mN m + 20 < K9) (hk : k < 16) (h1 : rI m 42 1 = ni k) :
    ∃ m', F_X5_keep 42 16 m = some ((), m') ∧ Shp m' ∧ (∀ w, w < 69 → cn m' w = if w = 2 + k then cn m 0 else cn m w) ∧ rI m' 42 1 = ni (k + 1) ∧ Fg (fun b => AP m b ∨ b = 42) (fun b => b = 43) 13 614 m m' := by
  have pq : PQ m 42 43 2 := .inl ⟨rfl, rfl, rfl⟩
  obtain ⟨m1, x1, x2, x3, x4⟩ := c_put5 (v := 0) (r := 16) g s hN hK pq hk (by omega) (adr_0 m) (by omega)
  have g1 := G_fg (fun b z => by rw [z]; exact rfN_43) hN x4 g
  have e1 : rI m1 42 1 = ni k := by
    rw [(x4.1 42 (by omega) (fun z => by have := z.1; omega)).1]
    exact h1
  refine ⟨wI m1 42 1 (ni (k + 1)), ?_, Shp_e rfl rfl x2, fun w hw => ?_, by rw [rIw, uf_at], ?_⟩
  · unfold F_X5_keep
    rw [gO42 g, gd_t, gd_t, h1, bdE x1, if_neg (by decide), gO42 g1, gd_t, gd_t, lt9_e, e1, show ni k + 1 = ni (k + 1) from ni_add k 1]
  · rw [← x3 w hw]
    refine cn_e rfl (fun q hq => abs_fr (Fm_wI (Fm_refl (fun b => b = 42) m1) rfl) (fun b h2 h3 z => ?_))
    subst z
    exact CSh_nk (x2.1 w q hw hq).1 ((g1.1 42 (by omega)).trans sx42) (by simp) ⟨h2, h3⟩
  · exact Fg_mono (e := 13 + 0) (s := 614 + 0) (fun b z => z) (fun b z => z) (by omega) (by omega) (Fg_trans (Fg_mono (fun b z => .inl z) (fun b z => z) (Nat.le_refl _) (Nat.le_refl _) x4) (Fm_Fg (Fm_wI (Fm_refl _ _) (.inr rfl))))
/-- the last work kept is given back -/
theorem c_giveBack {m : Mm} {k : Nat} (g : G m) (s : Shp m) (hk : k < 16) (h1 : rI m 42 1 = ni (k + 1)) (hc : cn m (2 + k) ≠ none) :
    ∃ m', F_X5_giveBack 42 16 m = some (1, m') ∧ Shp m' ∧ (∀ w, w < 69 → cn m' w = if w = 0 then cn m (2 + k) else cn m w) ∧ rI m' 42 1 = ni k ∧ Fm (fun b => b = 42 ∨ reg 16 b) m m' := by
  have f1 : Fm (fun b => b = 42) m (wI m 42 1 (ni k)) := Fm_wI (Fm_refl _ _) rfl
  have g1 := G_fr f1 g
  have s1 := Shp_fr f1 s
  have c1 : ∀ w, w < 69 → cn (wI m 42 1 (ni k)) w = cn m w := fun w hw => cn_e rfl (fun q hq => abs_fr f1 (fun b h2 h3 z => by
    subst z
    exact CSh_nk (s.1 w q hw hq).1 ((g.1 42 (by omega)).trans sx42) (by simp) ⟨h2, h3⟩))
  obtain ⟨σ, hσ⟩ := Option.ne_none_iff_exists'.mp hc
  obtain ⟨p, hp, hσp⟩ := cn_p hσ
  have hp43 : rR m 43 k = some p := by
    rw [← adr_p m hk]
    exact hp
  have cp := s1.1 (2 + k) p (by omega) hp
  have hp16 : 16 + 12 < p := by have := cp.2 (by omega); omega
  obtain ⟨m', y1, y2, y3⟩ := c_copy (G_16 g1) cp.1 (.inl hp16)
  refine ⟨m', ?_, Shp_fr y3 s1, fun w hw => ?_, ?_, Fm_trans (Fm_mono (fun b z => .inl z) f1) (Fm_mono (fun b z => .inr z) y3)⟩
  · unfold F_X5_giveBack
    have k1 : ¬ ni (k + 1) ≤ 0 := fun z => by
      rw [show (0 : Int32) = ni 0 from rfl, ni_le (by omega) (by omega)] at z
      omega
    have k2 : ni (k + 1) ≤ ni 16 := by
      rw [ni_le (by omega) (by omega)]
      omega
    have k3 : ni (k + 1) - 1 = ni k := by
      rw [show (1 : Int32) = ni 1 from rfl, ni_sub (by omega), show k + 1 - 1 = k by omega]
    have e1 : rI (wI m 42 1 (ni k)) 42 1 = ni k := by rw [rIw, uf_at]
    have e2 : rR (wI m 42 1 (ni k)) 43 k = some p := hp43
    rw [gO42 g, gd_t, h1, if_neg k1, gd_t, gd_t, gR42_0 g, oc_s, gT43 g, gd_t, gN43 g, if_pos k2, gd_t, gd_t, lt9_e, k3, gO42 g1, gd_t, gR42_0 g1, oc_s, gd_t, e1, gA43 g1 hk, gd_t, ix_ni (by omega), e2, oc_s, gO16 g1, gd_t, bdE y1]
  · by_cases e : w = 0
    · have hp1 : adr (wI m 42 1 (ni k)) (2 + k) = some p := hp
      rw [if_pos e, e, cn_s (p := 16) (by rw [adr_fr y3.2.1]; rfl), y2, ← cn_s hp1]
      exact c1 (2 + k) (by omega)
    · rw [if_neg e, ← c1 w hw]
      refine cn_e (adr_fr y3.2.1 w) (fun q hq => abs_fr y3 (far_reg (CSh_far (G_16 g1) (s1.1 w q hw hq).1 (fun z => e ?_))))
      exact s1.2.1 w 0 q hw (by omega) hq (by rw [← z]; rfl)
  · rw [(y3.1 42 (by unfold reg; omega)).1, rIw, uf_at]
