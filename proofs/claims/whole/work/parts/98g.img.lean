/-! L2: the class's undo, image, restore. -/
def ICr (n l len : Nat) (cs : Nat → Nat) (bk : List (Nat × Nat)) (y : Nat → Nat) (t : Nat) (pl rf : Int32) (ru : Nat → Int32) (m : Mm) : Prop :=
  (rI m 3 0 = ni n ∧ rI m 3 2 = ni l) ∧ (∃ qc qd, ((qc = 5 ∧ qd = 6) ∨ (qc = 6 ∧ qd = 5)) ∧ rR m 4 1 = some qd ∧ LC 4 qc 7 len cs m) ∧ (rI m 12 0 = ni bk.length ∧ rI m 12 1 = nmB bk ∧ rI m 12 2 = inB bk) ∧ CTp y t m ∧ rI m 1 7 = pl ∧ rI m 0 14 = rf ∧ (∀ i, i < 4 → rI m 48 i = ru i)
theorem IC_mk {n l len : Nat} {cs : Nat → Nat} {bk : List (Nat × Nat)} {y : Nat → Nat} {t : Nat} {pl rf : Int32} {ru : Nat → Int32} {pk ik : Nat} {jk : Nat → Nat} {ct : Nat → St} {m : Mm} (g : G m) (hN : 498 ≤ mN m) (h : ICr n l len cs bk y t pl rf ru m) (s : Shp m) (st : StC pk ik jk ct m) : IC n l len cs bk y t pl rf ru pk ik jk ct m := ⟨g, hN, h.1, h.2.1, h.2.2.1, h.2.2.2.1, h.2.2.2.2.1, h.2.2.2.2.2.1, h.2.2.2.2.2.2, s, st⟩
theorem IC_un {n l len : Nat} {cs : Nat → Nat} {bk : List (Nat × Nat)} {y : Nat → Nat} {t : Nat} {pl rf : Int32} {ru : Nat → Int32} {pk ik : Nat} {jk : Nat → Nat} {ct : Nat → St} {m : Mm} (h : IC n l len cs bk y t pl rf ru pk ik jk ct m) : G m ∧ 498 ≤ mN m ∧ ICr n l len cs bk y t pl rf ru m ∧ Shp m ∧ StC pk ik jk ct m :=
  ⟨h.1, h.2.1, ⟨h.2.2.1, h.2.2.2.1, h.2.2.2.2.1, h.2.2.2.2.2.1, h.2.2.2.2.2.2.1, h.2.2.2.2.2.2.2.1, h.2.2.2.2.2.2.2.2.1⟩, h.2.2.2.2.2.2.2.2.2.1, h.2.2.2.2.2.2.2.2.2.2⟩
theorem ICr_e {n l len : Nat} {cs : Nat → Nat} {bk : List (Nat × Nat)} {y : Nat → Nat} {t : Nat} {pl rf rf' : Int32} {ru : Nat → Int32} {m m' : Mm} (h : ICr n l len cs bk y t pl rf ru m) (w : ∀ b, (b ≤ 6 ∨ b = 12 ∨ b = 48) → b ≠ 0 → rI m' b = rI m b) (w0 : rI m' 0 14 = rf') (r4 : rR m' 4 = rR m 4) (hs : ∀ b, b < 49 → (sH m')[b]? = (sH m)[b]?) : ICr n l len cs bk y t pl rf' ru m' := by
  obtain ⟨⟨a1, a2⟩, ⟨qc, qd, q1, q2, q3⟩, ⟨b1, b2, b3⟩, ⟨t1, t2, t3⟩, e1, e2, e3⟩ := h
  refine ⟨⟨by rw [w 3 (by omega) (by omega)]; exact a1, by rw [w 3 (by omega) (by omega)]; exact a2⟩, ⟨qc, qd, q1, by rw [r4]; exact q2, ?_⟩, ⟨by rw [w 12 (by omega) (by omega)]; exact b1, by rw [w 12 (by omega) (by omega)]; exact b2, by rw [w 12 (by omega) (by omega)]; exact b3⟩, ⟨by rw [w 1 (by omega) (by omega)]; exact t1, t2, fun i hi => by rw [w 2 (by omega) (by omega)]; exact t3 i hi⟩, by rw [w 1 (by omega) (by omega)]; exact e1, w0, fun i hi => by rw [w 48 (by omega) (by omega)]; exact e3 i hi⟩
  unfold LC
  rw [hs 4 (by omega), hs qc (by omega), hs 7 (by omega), r4, w 4 (by omega) (by omega), w qc (by omega) (by omega)]
  exact q3
def Gc (m m' : Mm) : Prop := Fg CZ (fun _ => True) 224 10458 m m'
theorem Gc_m {A : Nat → Prop} {m m' : Mm} (f : Fm A m m') (h : ∀ b, A b → CZ b) : Gc m m' := Fg_mono (fun b z => h b z) (fun _ _ => trivial) (Nat.zero_le _) (Nat.zero_le _) (Fm_Fg (R := fun _ => False) f)
theorem Gc_refl (m : Mm) : Gc m m := Gc_m (Fm_refl (fun _ => False) m) (fun _ z => z.elim)
theorem Val_le {pk pk' ik u : Nat} {jk : Nat → Nat} (h : Val pk' ik jk u) (hp : pk' ≤ pk) : Val pk ik jk u := by
  rcases h with h | h | h
  · exact .inl h
  · exact .inr (.inl (by omega))
  · exact .inr (.inr h)
def ctU (ct : Nat → St) (k : Nat) : Nat → St := fun u => if u = 0 then ct (2 + k) else ct u
theorem c_undo {n l len : Nat} {cs : Nat → Nat} {bk : List (Nat × Nat)} {y : Nat → Nat} {t : Nat} {pl rf : Int32} {ru : Nat → Int32} {pk ik : Nat} {jk : Nat → Nat} {ct : Nat → St} {B : Nat} {m : Mm} (p : IP n l len cs bk pk ik jk ct B) (h : IC n l len cs bk y t pl rf ru pk ik jk ct m) :
    (pk = 0 → F_X11_undo 0 m = some (-1, m)) ∧ (∀ k, pk = k + 1 → ∃ m', F_X11_undo 0 m = some (ni k, m') ∧ IC n l len cs bk y t pl 0 ru k ik jk (ctU ct k) m' ∧ Gc m m') := by
  obtain ⟨g, hN, hr, s, st⟩ := IC_un h
  refine ⟨fun e => ?_, fun k e => ?_⟩
  · subst e
    have e1 : rI m 42 1 = 0 := st.1
    have x : F_X5_giveBack 42 16 m = some (0, m) := by
      unfold F_X5_giveBack
      rw [gO42 g, gd_t, e1, if_pos (by decide)]
    unfold F_X11_undo
    rw [gO0 g, gd_t, gR0_8 g, oc_s, gd_t, gR0_6 g, oc_s, gO42 g, gd_t, bdE x, if_pos rfl]
  · subst e
    have hk : k < 16 := by have := p.2.2.2.2.1; omega
    obtain ⟨m1, x1, x2, x3, x4, x5⟩ := c_giveBack g s hk st.1 (by rw [st.2.2.2 (2 + k) (Val_p (by omega))]; simp)
    have g1 := G_fr x5 g
    have f2 : Fm (fun b => b = 0) m1 (wI m1 0 14 0) := Fm_wI (Fm_refl _ _) rfl
    have f3 : Fm (fun b => b = 0 ∨ b = 42 ∨ reg 16 b) m (wI m1 0 14 0) := Fm_trans (Fm_mono (fun b z => .inr z) x5) (Fm_mono (fun b z => .inl z) f2)
    have h44 : ∀ j A, j < ik → rR m 44 j = some A → 498 ≤ A := fun j A hj hA => (s.2.2 j A (by have := p.2.2.2.2.2.1; omega) hA).2.2.2.2.2.2
    refine ⟨wI m1 0 14 0, ?_, IC_mk (G_fr f2 g1) (by unfold mN; rw [f3.2.2.1]; exact hN) (ICr_e hr (fun b hb h0 => (f3.1 b (by unfold reg; omega)).1) (by rw [rIw, uf_at]) (by rw [f3.2.1]) (fun b _ => by rw [f3.2.2.1])) (Shp_fr f2 x2) ⟨?_, ?_, fun j A hj hA => ?_, fun u hu => ?_⟩, Gc_m f3 (fun b z => by unfold reg at z; unfold CZ; omega)⟩
    · unfold F_X11_undo
      have e42 : rI (wI m1 0 14 0) 42 1 = ni k := by rw [rIw_ne (by omega)]; exact x4
      have g2 := G_fr f2 g1
      rw [gO0 g, gd_t, gR0_8 g, oc_s, gd_t, gR0_6 g, oc_s, gO42 g, gd_t, bdE x1, if_neg (by decide), gO0 g1, gd_t, lt9_e, gO0 g2, gd_t, gR0_8 g2, oc_s, gO42 g2, gd_t, e42]
    · rw [rIw_ne (by omega)]
      exact x4
    · rw [rIw, uf_ne (by omega), (x5.1 0 (by unfold reg; omega)).1]
      exact st.2.1
    · rw [f3.2.1] at hA
      have := h44 j A hj hA
      rw [(f3.1 (A + 14) (by unfold reg; omega)).1]
      exact st.2.2.1 j A hj hA
    · have v := Val_69 p.2.2.2.2.1 p.2.2.2.2.2.1 p.2.2.2.2.2.2.1 (Val_le hu (by omega : k ≤ k + 1))
      have z : cn (wI m1 0 14 0) u = cn m1 u := cn_e rfl (fun q hq => abs_fr f2 (fun b h1 h2 z => by
        by_cases h0 : u = 0
        · subst h0
          cases hq
          omega
        · have := (x2.1 u q v.1 hq).2 (by omega)
          omega))
      rw [z, x3 u v.1]
      unfold ctU
      by_cases h0 : u = 0
      · rw [if_pos h0, if_pos h0]
        exact st.2.2.2 _ (Val_p (by omega))
      · rw [if_neg h0, if_neg h0]
        exact st.2.2.2 u (Val_le hu (by omega))
def ctI (ct : Nat → St) (j : Nat) : Nat → St := fun u => if u = 18 + 17 * j then ct 0 else if 19 + 17 * j ≤ u ∧ u < 35 + 17 * j then ct (2 + (u - (19 + 17 * j))) else ct u
/-- an image is laid, its Image at A there -/
theorem c_imgJ {n l len : Nat} {cs : Nat → Nat} {bk : List (Nat × Nat)} {y : Nat → Nat} {t : Nat} {pl rf : Int32} {ru : Nat → Int32} {pk ik : Nat} {jk : Nat → Nat} {ct : Nat → St} {B A : Nat} {m : Mm} (p : IP n l len cs bk pk ik jk ct B) (h : IC n l len cs bk y t pl rf ru pk ik jk ct m) (hK : mN m + 300 < K9) (hik : ik < 3) (hA : rR m 44 ik = some A) :
    ∃ m1 m2, F_X7_copy (A + 1) 16 m = some ((), m1) ∧ G m1 ∧ okO m1 A 2 = true ∧ rR m1 A 1 = some (A + 14) ∧ okO m1 (A + 14) 5 = true ∧ F_X5_copy (A + 14) 42 m1 = some ((), m2) ∧ G m2 ∧ rI m2 0 13 = ni ik ∧ IC n l len cs bk y t pl rf ru pk (ik + 1) (uf jk ik pk) (ctI ct ik) (wI m2 0 13 (ni (ik + 1))) ∧ Fg CZ (fun _ => True) 208 9824 m (wI m2 0 13 (ni (ik + 1))) := by
  obtain ⟨g, hN, hr, s, st⟩ := IC_un h
  obtain ⟨a1, a2, a3, a4, a5, a6, a7⟩ := s.2.2 ik A hik hA
  have hp := p.2.2.2.2.1
  have adA := adr_i hA
  have cA := s.1 _ _ (by omega) adA
  have c16 := G_16 g
  obtain ⟨m1, x1, x2, x3⟩ := c_copy cA.1 c16 (.inr (by omega))
  have g1 := G_fr x3 g
  have s1 := Shp_fr x3 s
  have cn1 : ∀ w, w < 69 → cn m1 w = if w = 18 + 17 * ik then cn m 0 else cn m w := fun w hw => by
    by_cases e : w = 18 + 17 * ik
    · rw [if_pos e, e, cn_s (p := A + 1) (by rw [adr_fr x3.2.1]; exact adA), x2, cn_s (adr_0 m)]
    · rw [if_neg e]
      refine cn_e (adr_fr x3.2.1 w) (fun q hq => abs_fr x3 (far_reg (CSh_far cA.1 (s.1 w q hw hq).1 (fun z => e ?_))))
      exact s.2.1 w _ q hw (by omega) hq (by rw [← z]; exact adA)
  have hA1 : rR m1 44 ik = some A := by rw [x3.2.1]; exact hA
  have p1 : PQ m1 (A + 14) (A + 15) (19 + 17 * ik) := .inr ⟨ik, A, hik, hA1, rfl, rfl, rfl⟩
  have p2 : PQ m1 42 43 2 := .inl ⟨rfl, rfl, rfl⟩
  have e42 : rI m1 42 1 = ni pk := by
    rw [(x3.1 42 (by unfold reg; omega)).1]
    exact st.1
  have hN1 : mN m1 = mN m := by unfold mN; rw [x3.2.2.1]
  obtain ⟨m2, y1, y2, y3, y4, y5, y6⟩ := c_cpP hp (.inr (by omega)) (by omega) g1 s1 (by omega) (by omega) p1 p2 e42 (fun z hz => by
    rw [cn1 _ (by omega), if_neg (by omega), st.2.2.2 _ (Val_p hz)]
    simp)
  have n2 := Fg_N y6
  have w2 : ∀ b, b < 49 → rI m2 b = rI m b := fun b hb => by
    rw [(y6.1 b (by omega) (fun z => by rcases z with z | z; have := z.1; omega; omega)).1, (x3.1 b (by unfold reg; omega)).1]
  have f3 : Fm (fun b => b = 0) m2 (wI m2 0 13 (ni (ik + 1))) := Fm_wI (Fm_refl _ _) rfl
  have r2 : ∀ b, b < 49 → b ≠ 43 → rR m2 b = rR m b := fun b hb _ => by
    rw [y6.2.1 b (by omega) (by omega), x3.2.1]
  have hs2 : ∀ b, b < mN m → (sH m2)[b]? = (sH m)[b]? := fun b hb => by rw [sH_g y6 (by omega), x3.2.2.1]
  have cn2 : ∀ w, w < 69 → cn (wI m2 0 13 (ni (ik + 1))) w = if w = 18 + 17 * ik then cn m 0 else if 19 + 17 * ik ≤ w ∧ w < 19 + 17 * ik + pk then cn m (2 + (w - (19 + 17 * ik))) else cn m w := fun w hw => by
    have z : cn (wI m2 0 13 (ni (ik + 1))) w = cn m2 w := cn_e rfl (fun q hq => abs_fr f3 (fun b h1 h2 z => by
      by_cases h0 : w = 0
      · subst h0
        cases hq
        omega
      · by_cases h1 : w = 1
        · subst h1
          cases hq
          omega
        · have := (y3.1 w q hw hq).2 (by omega)
          omega))
    rw [z, y4 w hw]
    by_cases e : w = 18 + 17 * ik
    · rw [if_neg (by omega), cn1 w hw, if_pos e, if_pos e]
    · rw [if_neg e]
      by_cases e2 : 19 + 17 * ik ≤ w ∧ w < 19 + 17 * ik + pk
      · rw [if_pos e2, if_pos e2, cn1 _ (by omega), if_neg (by omega)]
      · rw [if_neg e2, if_neg e2, cn1 w hw, if_neg e]
  have i14 := sH_in a4
  have h44 : ∀ j A', j < ik → rR m 44 j = some A' → A' ≠ A := fun j A' hj hA' e => by
    subst e
    have := s.2.1 _ _ (A' + 1) (by omega) (by omega) (adr_i hA') adA
    omega
  refine ⟨m1, m2, x1, g1, okO_of (by rw [x3.2.2.1]; exact a1), by rw [x3.2.1]; exact a3, okO_of (by rw [x3.2.2.1]; exact a4), y1, y2, by rw [w2 0 (by omega)]; exact st.2.1, IC_mk (G_fr f3 y2) (by unfold mN; rw [f3.2.2.1]; show 498 ≤ mN m2; omega) (ICr_e hr (fun b hb h0 => ?_) (by rw [rIw, uf_ne (by omega), w2 0 (by omega)]; exact hr.2.2.2.2.2.1) (r2 4 (by omega) (by omega)) (fun b hb => hs2 b (by omega))) (Shp_fr f3 y3) ⟨?_, by rw [rIw, uf_at], fun j A' hj hA' => ?_, fun u hu => ?_⟩, ?_⟩
  · rw [rIw_ne (by omega)]
    exact w2 b (by omega)
  · rw [rIw_ne (by omega), w2 42 (by omega)]
    exact st.1
  · rw [show rR (wI m2 0 13 (ni (ik + 1))) 44 = rR m 44 from r2 44 (by omega) (by omega)] at hA'
    by_cases e : j = ik
    · subst e
      rw [hA] at hA'
      cases hA'
      rw [rIw_ne (by omega), y5, uf_at]
    · have hne := h44 j A' (by omega) hA'
      have b := s.2.2 j A' (by omega) hA'
      have ib := sH_in b.2.2.2.1
      rw [rIw_ne (by have := b.2.2.2.2.2.2; omega), uf_ne e, (y6.1 (A' + 14) (by omega) (fun z => ?_)).1, (x3.1 (A' + 14) (fun z => CSh_nk cA.1 b.2.2.2.1 (by simp) z)).1]
      · exact st.2.2.1 j A' (by omega) hA'
      · rcases z with z | z
        · exact z.2 (by rw [x3.2.2.1]; exact b.2.2.2.1)
        · omega
  · have v := Val_69 (pk := pk) (ik := ik + 1) (jk := uf jk ik pk) hp (by omega) (fun j hj => by
      rw [uf_ap]
      by_cases e : j = ik
      · rw [if_pos e]
        exact hp
      · rw [if_neg e]
        exact p.2.2.2.2.2.2.1 j (by omega)) hu
    rw [cn2 u v.1]
    unfold ctI
    by_cases e : u = 18 + 17 * ik
    · rw [if_pos e, if_pos e]
      exact st.2.2.2 0 (Val_0 _ _ _)
    · rw [if_neg e, if_neg e]
      rcases hu with hu | hu | ⟨u1, u2, u3⟩
      · rw [if_neg (by omega), if_neg (by omega)]
        exact st.2.2.2 u (.inl hu)
      · rw [if_neg (by omega), if_neg (by omega)]
        exact st.2.2.2 u (.inr (.inl hu))
      · rw [uf_ap] at u3
        by_cases e3 : (u - 18) / 17 = ik
        · rw [if_pos e3] at u3
          rw [if_pos (by omega), if_pos (by omega)]
          exact st.2.2.2 _ (Val_p (by omega))
        · rw [if_neg e3] at u3
          rw [if_neg (by omega), if_neg (by omega)]
          exact st.2.2.2 u (.inr (.inr ⟨u1, by omega, u3⟩))
  · refine Fg_mono (e := 0 + (208 + 0)) (s := 0 + (9824 + 0)) (fun b z => z) (fun _ z => z) (by omega) (by omega) (Fg_trans (Fm_Fg (Fm_mono (fun b z => ?_) x3)) (Fg_trans (Fg_mono (fun b z => ?_) (fun _ _ => trivial) (Nat.le_refl _) (Nat.le_refl _) y6) (Fm_Fg (Fm_mono (fun b z => ?_) f3))))
    · unfold reg at z
      unfold CZ
      omega
    · unfold CZ
      rcases z with z | z
      · have := z.1
        omega
      · omega
    · unfold CZ
      omega
