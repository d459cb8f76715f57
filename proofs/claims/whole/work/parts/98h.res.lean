/-! L2: the class's image and restore. -/
theorem IC_newI {n l len : Nat} {cs : Nat → Nat} {bk : List (Nat × Nat)} {y : Nat → Nat} {t : Nat} {pl rf : Int32} {ru : Nat → Int32} {pk ik : Nat} {jk : Nat → Nat} {ct : Nat → St} {B : Nat} {m m1 : Mm} (p : IP n l len cs bk pk ik jk ct B) (h : IC n l len cs bk y t pl rf ru pk ik jk ct m) (hik : ik < 3) (hA : rR m 44 ik = none) (iA : ImS m1 (mN m)) (cA : CSh m1 (mN m + 1)) (h0 : ∀ i, rR m1 (mN m + 15) i = none) (f : Fg (fun _ => False) (fun _ => False) 16 634 m m1) :
    G m1 ∧ IC n l len cs bk y t pl rf ru pk ik jk ct (wR m1 44 ik (some (mN m))) ∧ Fg CZ (fun _ => True) 16 634 m (wR m1 44 ik (some (mN m))) := by
  obtain ⟨g, hN, hr, s, st⟩ := IC_un h
  have hr1 : ∀ b, b < mN m → rR m1 b = rR m b := fun b hb => f.2.1 b hb (fun z => z)
  have hi1 : ∀ b, b < mN m → rI m1 b = rI m b := fun b hb => (f.1 b hb (fun z => z)).1
  have g1 := G_fg (fun b z => z.elim) hN f g
  have s1 := Shp_g s hN f (fun b z => z)
  have n1 := Fg_N f
  have h44 : rR m1 44 ik = none := by rw [hr1 44 (by omega)]; exact hA
  have s2 := Shp_wi s1 hik h44 iA cA h0 (fun u hu z => by
    rw [adr_g s hN hr1 hu] at z
    have := CSh_0 (s.1 u _ hu z).1
    omega) g1
  have f2 : Fg CZ (fun _ => True) (16 + 0) (634 + 0) m (wR m1 44 ik (some (mN m))) := Fg_trans (Fg_mono (fun b z => z.elim) (fun _ _ => trivial) (Nat.le_refl _) (Nat.le_refl _) f) (Fg_mono (fun b z => z) (fun _ _ => trivial) (Nat.le_refl _) (Nat.le_refl _) (Fg_wR m1 44 ik (some (mN m))))
  have g2 : G (wR m1 44 ik (some (mN m))) := G_fg (R := fun b => b = 44) (A := fun _ => False) (fun b z => by rw [z]; exact rfN_44) (by omega) (Fg_wR m1 44 ik (some (mN m))) g1
  refine ⟨g1, IC_mk g2 (by show 498 ≤ mN m1; omega) (ICr_e hr (fun b hb _ => hi1 b (by omega)) (by rw [show rI (wR m1 44 ik (some (mN m))) 0 = rI m1 0 from rfl, hi1 0 (by omega)]; exact hr.2.2.2.2.2.1) (by rw [rRw_ne (by omega)]; exact hr1 4 (by omega)) (fun b hb => sH_g f (by omega))) s2 ⟨?_, ?_, fun j A hj hA' => ?_, fun u hu => ?_⟩, f2⟩
  · show rI m1 42 1 = _
    rw [hi1 42 (by omega)]
    exact st.1
  · show rI m1 0 13 = _
    rw [hi1 0 (by omega)]
    exact st.2.1
  · rw [rRw, uf_ne (by omega), hr1 44 (by omega)] at hA'
    have b := s.2.2 j A (by omega) hA'
    show rI m1 (A + 14) 1 = _
    rw [hi1 _ (sH_in b.2.2.2.1)]
    exact st.2.2.1 j A hj hA'
  · have v := Val_69 p.2.2.2.2.1 p.2.2.2.2.2.1 p.2.2.2.2.2.2.1 hu
    have e : u ≠ 18 + 17 * ik := fun e => by
      rcases hu with hu | hu | ⟨u1, u2, u3⟩
      · omega
      · have := p.2.2.2.2.1
        omega
      · omega
    have ha : adr (wR m1 44 ik (some (mN m))) u = adr m u := by
      rw [adr_wi s1 h44 iA.2.2.2.2.2.2 h0 v.1, if_neg e, adr_g s hN hr1 v.1]
    rw [cn_e ha (fun q hq => by rw [abs_wR]; exact abs_g f (s.1 u q v.1 hq).1 (fun b _ z => z))]
    exact st.2.2.2 u hu
theorem c_image {n l len : Nat} {cs : Nat → Nat} {bk : List (Nat × Nat)} {y : Nat → Nat} {t : Nat} {pl rf : Int32} {ru : Nat → Int32} {pk ik : Nat} {jk : Nat → Nat} {ct : Nat → St} {B : Nat} {m : Mm} (p : IP n l len cs bk pk ik jk ct B) (h : IC n l len cs bk y t pl rf ru pk ik jk ct m) (hK : mN m + 400 < K9) :
    (ik = 3 → F_X11_image 0 m = some (-1, m)) ∧ (ik < 3 → ∃ m', F_X11_image 0 m = some (ni (ik + 1), m') ∧ IC n l len cs bk y t pl rf ru pk (ik + 1) (uf jk ik pk) (ctI ct ik) m' ∧ Gc m m') := by
  obtain ⟨g, hN, hr, s, st⟩ := IC_un h
  have e13 := st.2.1
  refine ⟨fun e => ?_, fun hik => ?_⟩
  · subst e
    unfold F_X11_image
    rw [gO0 g, gd_t, gd_t, gR0_9 g, oc_s, gT44 g, gd_t, gN44 g, e13, if_neg (by decide)]
  · have k1 : ni ik < ni 3 := by
      rw [ni_lt (by omega) (by omega)]
      exact hik
    have kp : ni ik + 1 = ni (ik + 1) := ni_add ik 1
    cases e : rR m 44 ik with
    | some A =>
      obtain ⟨m1, m2, x1, x2, x3, x4, x5, x6, x7, x8, x9, x10⟩ := c_imgJ p h (by omega) hik e
      obtain ⟨a1, a2, a3, a4, a5, a6, a7⟩ := s.2.2 ik A hik e
      have cA := (s.1 _ _ (by omega) (adr_i e)).1
      refine ⟨_, ?_, x9, Fg_mono (fun _ z => z) (fun _ z => z) (by omega) (by omega) x10⟩
      have o9 : okO (wI m2 0 13 (ni (ik + 1))) 0 11 = true := gO0 (G_wI x7)
      have e9 : rI (wI m2 0 13 (ni (ik + 1))) 0 13 = ni (ik + 1) := by rw [rIw, uf_at]
      unfold F_X11_image
      rw [gO0 g, gd_t, gd_t, gR0_9 g, oc_s, gT44 g, gd_t, gN44 g, e13, if_pos k1, gd_t, oc_s, gd_t, gA44 g hik, gd_t, ix_ni (by omega), e, oc_s, jn_e]
      dsimp only
      rw [okO_of a1, gd_t, a2, oc_s, gO0 g, gd_t, gR0_6 g, oc_s, CSh_ok cA, gd_t, bdE x1, x3, gd_t, x4, oc_s, gO0 x2, gd_t, gR0_8 x2, oc_s, x5, gd_t, bdE x6, gO0 x7, gd_t, gd_t, lt9_e, x8, kp, o9, gd_t, e9]
    | none =>
      obtain ⟨m0, z1, z2, z3, z4, z5, z6⟩ := c_newI (m := m) (by omega) hN
      obtain ⟨g0, h2, f2⟩ := IC_newI p h hik e z2 z3 z4 z5
      have n2 := Fg_N f2
      have hA2 : rR (wR m0 44 ik (some (mN m))) 44 ik = some (mN m) := by rw [rRw, uf_at]
      obtain ⟨m1, m2, x1, x2, x3, x4, x5, x6, x7, x8, x9, x10⟩ := c_imgJ p h2 (by omega) hik hA2
      obtain ⟨g2, -, -, s2, -⟩ := IC_un h2
      obtain ⟨a1, a2, a3, a4, a5, a6, a7⟩ := s2.2.2 ik _ hik hA2
      have cA := (s2.1 _ _ (by omega) (adr_i hA2)).1
      refine ⟨_, ?_, x9, Fg_mono (fun _ z => z) (fun _ z => z) (by omega) (by omega) (Fg_trans f2 x10)⟩
      have o9 : okO (wI m2 0 13 (ni (ik + 1))) 0 11 = true := gO0 (G_wI x7)
      have e9 : rI (wI m2 0 13 (ni (ik + 1))) 0 13 = ni (ik + 1) := by rw [rIw, uf_at]
      have e0 : rI m0 0 13 = ni ik := by
        rw [(z5.1 0 (by omega) (fun z => z)).1]
        exact e13
      unfold F_X11_image
      rw [gO0 g, gd_t, gd_t, gR0_9 g, oc_s, gT44 g, gd_t, gN44 g, e13, if_pos k1, gd_t, oc_s, gd_t, gA44 g hik, gd_t, ix_ni (by omega), e, oc_n, jn_e]
      dsimp only
      rw [decide_eq_true (show mN m + 1 < K9 by omega), gd_t, lt9_e, bdE z1, gO0 g0, gd_t, gR0_9 g0, oc_s, gd_t, e0, gA44 g0 hik, z6, Bool.and_self, gd_t, ix_ni (by omega), lt9_e, okO_of a1, gd_t, a2, oc_s, gO0 g2, gd_t, gR0_6 g2, oc_s, CSh_ok cA, gd_t, bdE x1, x3, gd_t, x4, oc_s, gO0 x2, gd_t, gR0_8 x2, oc_s, x5, gd_t, bdE x6, gO0 x7, gd_t, gd_t, lt9_e, x8, kp, o9, gd_t, e9]
def ctR (ct : Nat → St) (j : Nat) : Nat → St := fun u => if u = 0 then ct (18 + 17 * j) else if 2 ≤ u ∧ u < 18 then ct (19 + 17 * j + (u - 2)) else ct u
theorem c_restore {n l len : Nat} {cs : Nat → Nat} {bk : List (Nat × Nat)} {y : Nat → Nat} {t : Nat} {pl rf : Int32} {ru : Nat → Int32} {pk ik : Nat} {jk : Nat → Nat} {ct : Nat → St} {B : Nat} {m : Mm} (p : IP n l len cs bk pk ik jk ct B) (h : IC n l len cs bk y t pl rf ru pk ik jk ct m) (hK : mN m + 400 < K9) :
    (ik = 0 → F_X11_restore 0 m = some (-1, m)) ∧ (∀ j, ik = j + 1 → ∃ m', F_X11_restore 0 m = some (ni j, m') ∧ IC n l len cs bk y t pl 0 ru (jk j) j jk (ctR ct j) m' ∧ Gc m m') := by
  obtain ⟨g, hN, hr, s, st⟩ := IC_un h
  have e13 := st.2.1
  refine ⟨fun e => ?_, fun j e => ?_⟩
  · subst e
    unfold F_X11_restore
    rw [gO0 g, gd_t, e13, if_pos (by decide)]
  · subst e
    have hp := p.2.2.2.2.1
    have hi := p.2.2.2.2.2.1
    have hjk := p.2.2.2.2.2.2.1 j (by omega)
    have k1 : ¬ ni (j + 1) ≤ 0 := fun z => by
      rw [show (0 : Int32) = ni 0 from rfl, ni_le (by omega) (by omega)] at z
      omega
    have k2 : ni (j + 1) ≤ ni 3 := by
      rw [ni_le (by omega) (by omega)]
      omega
    have k3 : ni (j + 1) - 1 = ni j := by
      rw [show (1 : Int32) = ni 1 from rfl, ni_sub (by omega), show j + 1 - 1 = j by omega]
    obtain ⟨q, hq, hq2⟩ := cn_p (st.2.2.2 (18 + 17 * j) (Val_i (by omega)))
    have hA : ∃ A, rR m 44 j = some A := by
      cases e : rR m 44 j with
      | some A => exact ⟨A, rfl⟩
      | none =>
        rw [show 18 + 17 * j = 18 + 17 * j + 0 from rfl, adr_in e (by omega)] at hq
        cases hq
    obtain ⟨A, hA⟩ := hA
    obtain ⟨a1, a2, a3, a4, a5, a6, a7⟩ := s.2.2 j A (by omega) hA
    have f1 : Fm (fun b => b = 0) m (wI m 0 13 (ni j)) := Fm_wI (Fm_refl _ _) rfl
    have g1 := G_fr f1 g
    have s1 := Shp_fr f1 s
    have lo : ∀ w, w < 69 → ∀ q, adr m w = some q → 16 ≤ q := fun w hw q hq => by
      by_cases h0 : w = 0
      · subst h0
        cases hq
        omega
      · by_cases h1 : w = 1
        · subst h1
          cases hq
          omega
        · have := (s.1 w q hw hq).2 (by omega)
          omega
    have cn1 : ∀ w, w < 69 → cn (wI m 0 13 (ni j)) w = cn m w := fun w hw => cn_e rfl (fun q hq => abs_fr f1 (fun b h1 h2 z => by
      have := lo w hw q hq
      omega))
    have adA : adr (wI m 0 13 (ni j)) (18 + 17 * j) = some (A + 1) := adr_i hA
    have cA := s1.1 _ _ (by omega) adA
    obtain ⟨m2, x1, x2, x3⟩ := c_copy (G_16 g1) cA.1 (.inl (by omega))
    have g2 := G_fr x3 g1
    have s2 := Shp_fr x3 s1
    have cn2 : ∀ w, w < 69 → cn m2 w = if w = 0 then cn m (18 + 17 * j) else cn m w := fun w hw => by
      by_cases e : w = 0
      · rw [if_pos e, e, cn_s (p := 16) (by rw [adr_fr x3.2.1]; rfl), x2, ← cn1 _ (by omega), cn_s adA]
      · rw [if_neg e, ← cn1 w hw]
        refine cn_e (adr_fr x3.2.1 w) (fun q hq => abs_fr x3 (far_reg (CSh_far (G_16 g1) (s1.1 w q hw hq).1 (fun z => e ?_))))
        exact s1.2.1 w 0 q hw (by omega) hq (by rw [← z]; rfl)
    have hA2 : rR m2 44 j = some A := by rw [x3.2.1]; exact hA
    have p2 : PQ m2 (A + 14) (A + 15) (19 + 17 * j) := .inr ⟨j, A, by omega, hA2, rfl, rfl, rfl⟩
    have p1 : PQ m2 42 43 2 := .inl ⟨rfl, rfl, rfl⟩
    have e14 : rI m2 (A + 14) 1 = ni (jk j) := by
      rw [(x3.1 _ (by unfold reg; omega)).1, rIw_ne (by omega)]
      exact st.2.2.1 j A (by omega) hA
    have hN2 : mN m2 = mN m := by unfold mN; rw [x3.2.2.1, f1.2.2.1]
    obtain ⟨m3, y1, y2, y3, y4, y5, y6⟩ := c_cpP hjk (.inl (by omega)) (by omega) g2 s2 (by omega) (by omega) p1 p2 e14 (fun z hz => by
      rw [cn2 _ (by omega), if_neg (by omega), show 19 + 17 * j + z = 18 + 17 * j + (1 + z) by omega, st.2.2.2 _ (Val_q (by omega) hz (by omega))]
      simp)
    have n3 := Fg_N y6
    have f4 : Fm (fun b => b = 0) m3 (wI m3 0 14 0) := Fm_wI (Fm_refl _ _) rfl
    have w3 : ∀ b, b < 49 → b ≠ 42 → ¬ reg 16 b → rI m3 b = rI (wI m 0 13 (ni j)) b := fun b hb h42 h16 => by
      rw [(y6.1 b (by omega) (fun z => by rcases z with z | z; have := z.1; omega; omega)).1, (x3.1 b h16).1]
    have r3 : ∀ b, b < 49 → b ≠ 43 → rR m3 b = rR m b := fun b hb h43 => by
      rw [y6.2.1 b (by omega) h43, x3.2.1]
      rfl
    have e0 : rI m3 0 13 = ni j := by
      rw [w3 0 (by omega) (by omega) (by unfold reg; omega), rIw, uf_at]
    refine ⟨wI m3 0 14 0, ?_, IC_mk (G_fr f4 y2) (by show 498 ≤ mN m3; omega) (ICr_e hr (fun b hb h0 => ?_) (by rw [rIw, uf_at]) (r3 4 (by omega) (by omega)) (fun b hb => ?_)) (Shp_fr f4 y3) ⟨?_, by rw [rIw, uf_ne (by omega)]; exact e0, fun j' A' hj' hA' => ?_, fun u hu => ?_⟩, ?_⟩
    · have g4 := G_fr f4 y2
      have e9 : rI (wI m3 0 14 0) 0 13 = ni j := by rw [rIw, uf_ne (by omega)]; exact e0
      have e1 : rI (wI m 0 13 (ni j)) 0 13 = ni j := by rw [rIw, uf_at]
      have r1 : rR (wI m 0 13 (ni j)) 44 j = some A := hA
      have o2 : okO (wI m 0 13 (ni j)) A 2 = true := okO_of a1
      have q2 : rR (wI m 0 13 (ni j)) A 0 = some (A + 1) := a2
      have o3 : okO m2 A 2 = true := okO_of (by rw [x3.2.2.1]; exact a1)
      have q3 : rR m2 A 1 = some (A + 14) := by rw [x3.2.1]; exact a3
      unfold F_X11_restore
      rw [gO0 g, gd_t, e13, if_neg k1, gd_t, gd_t, gR0_9 g, oc_s, gT44 g, gd_t, gN44 g, if_pos k2, gd_t, gd_t, lt9_e, k3, gO0 g1, gd_t, gR0_9 g1, oc_s, gd_t, e1, gA44 g1 (by omega), gd_t, ix_ni (by omega), r1, oc_s, jn_e]
      dsimp only
      rw [gd_t, gR0_6 g1, oc_s, o2, gd_t, q2, oc_s, gO16 g1, gd_t, bdE x1, gO0 g2, gd_t, gR0_8 g2, oc_s, o3, gd_t, q3, oc_s, gO42 g2, gd_t, bdE y1, gO0 y2, gd_t, lt9_e, gO0 g4, gd_t, e9]
    · rw [rIw_ne (by omega), w3 b (by omega) (by omega) (by unfold reg; omega), rIw_ne (by omega)]
    · rw [show sH (wI m3 0 14 0) = sH m3 from rfl, sH_g y6 (by omega), x3.2.2.1]
      rfl
    · rw [rIw_ne (by omega)]
      exact y5
    · rw [show rR (wI m3 0 14 0) 44 = rR m 44 from r3 44 (by omega) (by omega)] at hA'
      have b := s.2.2 j' A' (by omega) hA'
      have ib := sH_in b.2.2.2.1
      have ba := b.2.2.2.2.2.2
      rw [rIw_ne (by omega), (y6.1 (A' + 14) (by omega) (fun z => ?_)).1, (x3.1 (A' + 14) (by unfold reg; omega)).1, rIw_ne (by omega)]
      · exact st.2.2.1 j' A' (by omega) hA'
      · rcases z with z | z
        · exact z.2 (by rw [x3.2.2.1]; exact b.2.2.2.1)
        · omega
    · have v := Val_69 hjk (by omega) (fun z hz => p.2.2.2.2.2.2.1 z (by omega)) hu
      have z : cn (wI m3 0 14 0) u = cn m3 u := cn_e rfl (fun q hq => abs_fr f4 (fun b h1 h2 z => by
        by_cases h0 : u = 0
        · subst h0
          cases hq
          omega
        · have := (y3.1 u q v.1 hq).2 (by omega)
          omega))
      rw [z, y4 u v.1]
      unfold ctR
      rcases hu with hu | hu | ⟨u1, u2, u3⟩
      · rw [if_neg (by omega), cn2 u v.1, if_pos hu, if_pos hu]
        exact st.2.2.2 _ (Val_i (by omega))
      · rw [if_pos (by omega), cn2 _ (by omega), if_neg (by omega), if_neg (by omega), if_pos (by omega), show 19 + 17 * j + (u - 2) = 18 + 17 * j + (1 + (u - 2)) by omega]
        exact st.2.2.2 _ (Val_q (by omega) (by omega) (by omega))
      · rw [if_neg (by omega), cn2 u v.1, if_neg (by omega), if_neg (by omega), if_neg (by omega)]
        exact st.2.2.2 u (.inr (.inr ⟨u1, by omega, u3⟩))
    · refine Fg_mono (e := 0 + (0 + (208 + 0))) (s := 0 + (0 + (9824 + 0))) (fun b z => z) (fun _ z => z) (by omega) (by omega) (Fg_trans (Fm_Fg (Fm_mono (fun b z => ?_) f1)) (Fg_trans (Fm_Fg (Fm_mono (fun b z => ?_) x3)) (Fg_trans (Fg_mono (fun b z => ?_) (fun _ _ => trivial) (Nat.le_refl _) (Nat.le_refl _) y6) (Fm_Fg (Fm_mono (fun b z => ?_) f4)))))
      · unfold CZ
        omega
      · unfold reg at z
        unfold CZ
        omega
      · unfold CZ
        rcases z with z | z
        · have := z.1
          omega
        · omega
      · unfold CZ
        omega
