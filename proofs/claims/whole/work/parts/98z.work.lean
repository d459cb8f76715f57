/-! L2: the call work (class). -/
theorem IC_now {n l len : Nat} {cs : Nat → Nat} {bk : List (Nat × Nat)} {y : Nat → Nat} {t : Nat} {pl rf : Int32} {ru : Nat → Int32} {pk ik : Nat} {jk : Nat → Nat} {ct : Nat → St} {rf' : Int32} {B : Nat} {σ : St} {A : Nat → Prop} {m m' : Mm} (p : IP n l len cs bk pk ik jk ct B) (h : IC n l len cs bk y t pl rf ru pk ik jk ct m) (f : Fm A m m') (hA : ∀ b, A b → b = 0 ∨ b = 7 ∨ b = 8 ∨ b = 14 ∨ b = 15 ∨ reg 16 b) (h13 : rI m' 0 13 = rI m 0 13) (h14 : rI m' 0 14 = rf') (ha : absC m' 16 = σ) : IC n l len cs bk y t pl rf' ru pk ik jk (fun u => if u = 0 then σ else ct u) m' := by
  obtain ⟨g, hN, hr, s, s1, s2, s3, s4⟩ := IC_un h
  have hp := p.2.2.2.2
  have hi3 : ik ≤ 3 := hp.2.1
  refine IC_mk (G_fr f g) (by unfold mN; rw [f.2.2.1]; exact hN) (ICr_e hr (fun b hb h0 => (f.1 b (fun z => by have := hA b z; unfold reg at this; omega)).1) h14 (by rw [f.2.1]) (fun b _ => by rw [f.2.2.1])) (Shp_fr f s) ⟨by rw [(f.1 42 (fun z => by have := hA 42 z; unfold reg at this; omega)).1]; exact s1, by rw [h13]; exact s2, fun j A' hj hA' => ?_, fun u hu => ?_⟩
  · rw [f.2.1] at hA'
    have := (s.2.2 j A' (by omega) hA').2.2.2.2.2.2
    rw [(f.1 (A' + 14) (fun z => by have := hA _ z; unfold reg at this; omega)).1]
    exact s3 j A' hj hA'
  · by_cases h0 : u = 0
    · subst h0
      rw [cn_s (adr_0 m'), ha]
      rfl
    · have v := Val_69 hp.1 hp.2.1 hp.2.2.1 hu
      show cn m' u = some (if u = 0 then σ else ct u)
      rw [if_neg h0, cn_e (adr_fr f.2.1 u) (fun q hq => abs_fr f (fun b b1 b2 z => ?_))]
      · exact s4 u hu
      · have := hA b z
        have := (s.1 u q v.1 hq).2 (by omega)
        unfold reg at *
        omega
def ctK (ct : Nat → St) (k : Nat) : Nat → St := fun u => if u = 2 + k then ct 0 else ct u
theorem Val_k1 {pk ik u : Nat} {jk : Nat → Nat} (h : Val (pk + 1) ik jk u) (hu : u ≠ 2 + pk) : Val pk ik jk u := by
  rcases h with h | h | h
  · exact .inl h
  · exact .inr (.inl (by omega))
  · exact .inr (.inr h)
/-- one work more is kept, as the class has it -/
theorem IC_keep {n l len : Nat} {cs : Nat → Nat} {bk : List (Nat × Nat)} {y : Nat → Nat} {t : Nat} {pl rf : Int32} {ru : Nat → Int32} {pk ik : Nat} {jk : Nat → Nat} {ct : Nat → St} {B : Nat} {m : Mm} (p : IP n l len cs bk pk ik jk ct B) (h : IC n l len cs bk y t pl rf ru pk ik jk ct m) (hk : pk < 16) (hK : mN m + 20 < K9) : ∃ m', F_X5_keep 42 16 m = some ((), m') ∧ IC n l len cs bk y t pl rf ru (pk + 1) ik jk (ctK ct pk) m' ∧ Fg (fun b => AP m b ∨ b = 42) (fun b => b = 43) 13 614 m m' := by
  obtain ⟨g, hN, hr, s, s1, s2, s3, s4⟩ := IC_un h
  have hp := p.2.2.2.2
  have hi3 : ik ≤ 3 := hp.2.1
  obtain ⟨m', x1, x2, x3, x4, x5⟩ := c_keep g s hN hK hk s1
  have w : ∀ b, b < 498 → b ≠ 42 → rI m' b = rI m b := fun b hb h42 => (x5.1 b (by omega) (fun z => by
    rcases z with z | z
    · have := z.1
      omega
    · exact h42 z)).1
  have r : ∀ b, b < mN m → b ≠ 43 → rR m' b = rR m b := fun b hb h43 => x5.2.1 b hb h43
  refine ⟨m', x1, IC_mk (G_fg (fun b z => by rw [z]; exact rfN_43) hN x5 g) (by have := Fg_N x5; omega) (ICr_e hr (fun b hb h0 => w b (by omega) (by omega)) (by rw [w 0 (by omega) (by omega)]; exact hr.2.2.2.2.2.1) (r 4 (by omega) (by omega)) (fun b hb => sH_g x5 (by omega))) x2 ⟨x4, by rw [w 0 (by omega) (by omega)]; exact s2, fun j A hj hA => ?_, fun u hu => ?_⟩, x5⟩
  · rw [r 44 (by omega) (by omega)] at hA
    have b := s.2.2 j A (by omega) hA
    have k14 := b.2.2.2.1
    rw [(x5.1 (A + 14) (sH_in k14) (fun z => by
      rcases z with z | z
      · exact z.2 k14
      · have := b.2.2.2.2.2.2
        omega)).1]
    exact s3 j A hj hA
  · have v := Val_69 (pk := pk + 1) (by omega) hp.2.1 hp.2.2.1 hu
    rw [x3 u v.1]
    unfold ctK
    by_cases e : u = 2 + pk
    · rw [if_pos e, if_pos e]
      exact s4 0 (Val_0 _ _ _)
    · rw [if_neg e, if_neg e]
      exact s4 u (Val_k1 hu e)
def rnW (cs : Nat → Nat) (len n l : Nat) (acc : List Q4) (σ : St) : Ru := rnP cs len n l (pg acc) 6 0 acc.length (σ, 0, 0, 0)
def ctW (ct : Nat → St) (k : Nat) (σ : St) : Nat → St := fun u => if u = 0 then σ else ctK ct k u
theorem ctK_0 (ct : Nat → St) (k : Nat) : ctK ct k 0 = ct 0 := by
  unfold ctK
  rw [if_neg (by omega)]
theorem c_workF {n l len : Nat} {cs : Nat → Nat} {bk : List (Nat × Nat)} {y : Nat → Nat} {t : Nat} {pl rf : Int32} {ru : Nat → Int32} {pk ik : Nat} {jk : Nat → Nat} {ct : Nat → St} {B x : Nat} {m : Mm} (p : IP n l len cs bk pk ik jk ct B) (hB : B + 201 < 1000000) (h : IC n l len cs bk y t pl rf ru pk ik jk ct m) (hx : x ≤ t) (h150 : x ≤ 150) (hK : mN m + 20 < K9) : (pk = 16 → ∃ m1, F_X11_work 0 (ni x) m = some (.inl (-20), m1) ∧ IC n l len cs bk y 0 (-1) rf ru pk ik jk ct m1 ∧ Gc m m1) ∧ (pk < 16 → (∀ acc e, wkP y x n = .inl (acc, e) → ∃ m1, F_X11_work 0 (ni x) m = some (.inl (ni (rnW cs len n l acc (ct 0)).2.2.1), m1) ∧ IC n l len cs bk y 0 (-1) (ni (rnW cs len n l acc (ct 0)).2.2.2) ru (pk + 1) ik jk (ctW ct pk (rnW cs len n l acc (ct 0)).1) m1 ∧ Gc m m1 ∧ Iq n B (rnW cs len n l acc (ct 0)) ∧ acc.length ≤ 37) ∧ (∀ q s, wkP y x n = .inr (q, s) → ∃ m1, F_X11_work 0 (ni x) m = some (.inl (ni q - 10), m1) ∧ IC n l len cs bk y 0 (ni s) rf ru pk ik jk ct m1 ∧ Gc m m1)) := by
  have g := h.1
  have ct1 := h.2.2.2.2.2.1
  have hn := p.1
  have hp := p.2.2.2.2.1
  have k1 : F_X11_needText 0 (ni x) 150 m = some (.inl (), m) := needT_ok (most := 150) g ct1.1 ct1.2.1 (by omega) ⟨x, rfl, hx, h150⟩
  have s1 : rI m 42 1 = ni pk := (IC_un h).2.2.2.2.1
  refine ⟨fun e => ?_, fun hlt => ?_⟩
  · subst e
    have k2 : F_X5_isFull 42 m = some (1, m) := by
      unfold F_X5_isFull
      rw [gO42 g, gd_t, s1, if_neg (by decide)]
    obtain ⟨m1, x1, x2, x3, x4, x5, x6⟩ := c_open (x := 0) g ct1 (by omega)
    rw [ni_0] at x1
    have h1 : IC n l len cs bk y 0 (-1) rf ru 16 ik jk ct m1 := IC_T p h x6 (fun b z => .inl z) (CTp_0 x4) x5
    refine ⟨m1, ?_, h1, Gc_m x6 (fun b z => by unfold CZ; omega)⟩
    unfold F_X11_work
    simp only [gO0 g, gd_t, bxL k1, gR0_8 g, oc_s, gO42 g, bdE k2, ↓i10, gR0_0 g, gO1 g, bdE x1]
  · have k2 : F_X5_isFull 42 m = some (0, m) := by
      unfold F_X5_isFull
      rw [gO42 g, gd_t, s1, if_pos (by rw [show (16 : Int32) = ni 16 from rfl, ni_lt (by omega) (by omega)]; exact hlt)]
    obtain ⟨m1, x1, x2, x3, x4, x5, x6⟩ := c_open g ct1 hx
    have g1 := x2.1
    have h1 : IC n l len cs bk y 0 (-1) rf ru pk ik jk ct m1 := IC_T p h x6 (fun b z => .inl z) (CTp_0 x4) x5
    have e30 : rI m1 3 0 = ni n := h1.2.2.1.1
    obtain ⟨z1, z2⟩ := c_wk (N := n) h150 hn x2 x3
    have fw : Fm AK m1 (wI (wI m1 8 3 0) 8 4 (ni n)) := Fm_wI (Fm_wI (Fm_refl _ _) (.inr (.inl rfl))) (.inr (.inl rfl))
    have w1 : rI (wI (wI m1 8 3 0) 8 4 (ni n)) 1 = rI m1 1 := by rw [rIw_ne (by omega), rIw_ne (by omega)]
    refine ⟨fun acc e ha => ?_, fun q s ha => ?_⟩
    · obtain ⟨m2, y1, y2, y3, y4⟩ := z1 acc e ha
      have f2 : Fm AK m1 m2 := Fm_trans fw y2.1
      have h2 : IC n l len cs bk y 0 (-1) rf ru pk ik jk ct m2 := IC_T p h1 f2 (fun b z => by unfold AK at z; omega) (CTp_0 (by rw [y2.2.1 1 (by omega), w1]; exact x4)) (by rw [y2.2.1 7 (by omega), w1]; exact x5)
      have g2 := h2.1
      have F2 : Fm AK m m2 := Fm_trans (Fm_mono (fun b z => .inl z) x6) f2
      have n2 : mN m2 = mN m := by unfold mN; rw [F2.2.2.1]
      obtain ⟨m3, v1, v2, v3⟩ := IC_keep p h2 hlt (by omega)
      have g3 := v2.1
      have hN2 := h2.2.1
      have wk : ∀ b, b < 498 → b ≠ 42 → rI m3 b = rI m2 b := fun b hb h42 => (v3.1 b (by omega) (fun z => by
        rcases z with z | z
        · have := z.1
          omega
        · exact h42 z)).1
      generalize e4' : wI (wI (wI m3 8 5 0) 8 6 0) 8 7 0 = m4
      have f4 : Fm (fun b => b = 8) m3 m4 := by rw [← e4']; exact Fm_wI (Fm_wI (Fm_wI (Fm_refl _ _) rfl) rfl) rfl
      have g4 := G_fr f4 g3
      have k4 : F_X10_begin 8 m3 = some ((), m4) := by
        have o1 : okO (wI m3 8 5 0) 8 10 = true := gO8 (G_wI g3)
        have o2 : okO (wI (wI m3 8 5 0) 8 6 0) 8 10 = true := gO8 (G_wI (G_wI g3))
        unfold F_X10_begin
        rw [gO8 g3, gd_t, lt9_e, o1, gd_t, lt9_e, o2, gd_t, lt9_e, e4']
      have p1 : IP n l len cs bk (pk + 1) ik jk (ctK ct pk) B := ⟨p.1, p.2.1, p.2.2.1, p.2.2.2.1, by omega, p.2.2.2.2.2.1, p.2.2.2.2.2.2.1, fun u hu => by
        unfold ctK
        by_cases eu : u = 2 + pk
        · rw [if_pos eu]
          exact p.2.2.2.2.2.2.2 0 (Val_0 _ _ _)
        · rw [if_neg eu]
          exact p.2.2.2.2.2.2.2 u (Val_k1 hu eu)⟩
      have q8 : rI m4 8 3 = ni acc.length := by
        rw [← e4']
        simp (disch := omega) only [rIw, uf_ne]
        rw [wk 8 (by omega) (by omega)]
        exact y3.1
      obtain ⟨qcx, ha3, wf3, -⟩ := IC_ctx p1 v2
      rw [ctK_0] at ha3 wf3
      have ha4 : absC m4 16 = ct 0 := by rw [abs_fr f4 (fun b _ _ => by omega)]; exact ha3
      have cp : CP (pg acc) acc.length m4 := by
        have z := WD_CP y3
        refine ⟨z.1, fun i hi => ?_⟩
        rw [(f4.1 9 (by omega)).1, (f4.1 10 (by omega)).1, (f4.1 11 (by omega)).1, wk 9 (by omega) (by omega), wk 10 (by omega) (by omega), wk 11 (by omega) (by omega)]
        exact z.2 i hi
      have cx : CX n len l acc.length cs (pg acc) m4 := ⟨QC_fr qcx f4 (by omega) (by omega) (by omega) (by omega), by rw [(f4.1 3 (by omega)).1]; exact v2.2.2.1.2, cp⟩
      obtain ⟨gd1, gd2, gd3⟩ := wkP_Gd ha y3.2.1
      have cr : CR 16 (ct 0, 0, 0, 0) m4 := by
        refine ⟨ha4, ?_, ?_, ?_⟩
        · rw [← e4']
          simp (disch := omega) only [rIw, uf_ap, if_neg, if_pos, if_true]
          rfl
        · rw [← e4']
          simp (disch := omega) only [rIw, uf_ap, if_neg, if_pos, if_true]
          rfl
        · rw [← e4']
          simp (disch := omega) only [rIw, uf_ap, if_neg, if_pos, if_true]
          rfl
      obtain ⟨m5, u1, u2, u3, u4⟩ := c_run (n := n) (len := len) (l := l) (L := acc.length) (s := 16) (B0 := B) (cs := cs) (p := pg acc) (.inl rfl) p.2.1 hB gd2 6 40 0 acc.length (ct 0, 0, 0, 0) m4 (by omega) (by omega) gd1 (Nat.le_refl _) cx cr ⟨by show (0 : Nat) ≤ 200; omega, wf3⟩
      have hq : rnP cs len n l (pg acc) 6 0 acc.length (ct 0, 0, 0, 0) = rnW cs len n l acc (ct 0) := rfl
      rw [hq] at u2 u4
      rw [show ni (6 - 6) = 0 from rfl] at u1
      have g5 := G_fr u3 g4
      have n0 : ¬ AX 16 0 := by unfold AX AV AQ reg; omega
      have w50 : rI m5 0 = rI m3 0 := by rw [(u3.1 0 n0).1, (f4.1 0 (by omega)).1]
      have g6 : G (wI m5 0 14 (ni (rnW cs len n l acc (ct 0)).2.2.2)) := G_wI g5
      have F6 : Fm (fun b => b = 0 ∨ b = 7 ∨ b = 8 ∨ b = 14 ∨ b = 15 ∨ reg 16 b) m3 (wI m5 0 14 (ni (rnW cs len n l acc (ct 0)).2.2.2)) := Fm_wI (Fm_trans (Fm_mono (fun b z => by unfold reg; omega) f4) (Fm_mono (fun b z => by unfold AX AV AQ reg at z; unfold reg; omega) u3)) (.inl rfl)
      have h6 := IC_now (rf' := ni (rnW cs len n l acc (ct 0)).2.2.2) (σ := (rnW cs len n l acc (ct 0)).1) p1 v2 F6 (fun b z => z) (by rw [rIw, uf_ne (by omega), w50]) (by rw [rIw, uf_at]) (by rw [abs_fr (Fm_wI (Fm_refl (fun b => b = 0) m5) rfl) (fun b b1 _ z => by omega)]; exact u2.1)
      have e86 : rI (wI m5 0 14 (ni (rnW cs len n l acc (ct 0)).2.2.2)) 8 6 = ni (rnW cs len n l acc (ct 0)).2.2.1 := by rw [rIw_ne (by omega)]; exact u2.2.2.1
      have e87 : rI m5 8 7 = ni (rnW cs len n l acc (ct 0)).2.2.2 := u2.2.2.2
      refine ⟨_, ?_, h6, ?_, u4, by omega⟩
      · unfold F_X11_work
        simp (disch := first | assumption | omega | ((repeat (first | assumption | apply G_wI | apply G_wL | apply CSh_wI | apply CSh_wL)); done) | decide) only [↓dO0, ↓dO1, ↓dA2, ↓dK2, ↓dT2, ↓dO3, ↓dO4, ↓dA5, ↓dK5, ↓dT5, ↓dA6, ↓dK6, ↓dT6, ↓dA7, ↓dK7, ↓dT7, ↓dO8, ↓dA9, ↓dK9, ↓dT9, ↓dA10, ↓dK10, ↓dT10, ↓dA11, ↓dK11, ↓dT11, ↓dO12, ↓dA13, ↓dK13, ↓dT13, ↓dO14, ↓dA15, ↓dK15, ↓dT15, ↓dO16, ↓dO29, ↓dO42, ↓dA43, ↓dK43, ↓dT43, ↓dA44, ↓dK44, ↓dT44, ↓dO45, ↓dA46, ↓dK46, ↓dT46, ↓dO47, ↓dA48, ↓dK48, ↓dT48, ↓dO49, ↓dA50, ↓dK50, ↓dT50, ↓dA51, ↓dK51, ↓dT51, ↓dA52, ↓dK52, ↓dT52, ↓dA53, ↓dK53, ↓dT53, ↓dA54, ↓dK54, ↓dT54, ↓dA215, ↓dK215, ↓dT215, ↓dA376, ↓dK376, ↓dT376, ↓dA383, ↓dK383, ↓dT383, ↓dA390, ↓dK390, ↓dT390, ↓dA391, ↓dK391, ↓dT391, ↓dA392, ↓dK392, ↓dT392, ↓dA473, ↓dK473, ↓dT473, ↓dA474, ↓dK474, ↓dT474, ↓dA475, ↓dK475, ↓dT475, ↓dA492, ↓dK492, ↓dT492, ↓dA496, ↓dK496, ↓dT496, ↓dA497, ↓dK497, ↓dT497, ↓dR0_0, ↓dR0_1, ↓dR0_2, ↓dR0_3, ↓dR0_4, ↓dR0_5, ↓dR0_6, ↓dR0_7, ↓dR0_8, ↓dR0_9, ↓dR0_10, ↓dR0_11, ↓dR0_12, ↓dR1_0, ↓dR4_2, ↓dR8_0, ↓dR8_1, ↓dR8_2, ↓dR12_5, ↓dR14_0, ↓dR14_1, ↓dR14_2, ↓dR42_0, ↓dR45_0, ↓dR49_9, ↓dR49_10, ↓dR49_11, ↓dR49_12, ↓dR49_15, ↓dR49_16, ↓dR49_17, ↓dR49_18, ↓dR49_19, ↓dR49_20, ↓dR49_21, ↓dR49_23, ↓dR49_24, ↓dR49_25, ↓dR49_26, ↓dR49_34, ↓dF54, ↓dB54, ↓dC54, ↓dF215, ↓dB215, ↓dC215, ↓dF376, ↓dB376, ↓dC376, ↓dF383, ↓dB383, ↓dC383, ↓dF392, ↓dB392, ↓dC392, ↓dF475, ↓dB475, ↓dC475, ↓dF492, ↓dB492, ↓dC492, ↓lt9_e, ↓jn_e, ↓bd_s, ↓bxL k1, ↓bdE k2, ↓i00, ↓bdE x1, e30, ↓bdE y1, ↓i10, ↓bdE v1, ↓bdE k4, q8, ↓bdE u1, e87, e86]
      · exact Fg_mono (e := 0 + (13 + 0)) (s := 0 + (614 + 0)) (fun b z => z) (fun b z => z) (by omega) (by omega) (Fg_trans (Fm_Fg (Fm_mono (fun b z => by unfold AK at z; unfold CZ; omega) F2)) (Fg_trans (Fg_mono (fun b z => z.elim (fun z => by have := z.1; unfold CZ; omega) (fun z => by unfold CZ; omega)) (fun _ _ => trivial) (Nat.le_refl _) (Nat.le_refl _) v3) (Fm_Fg (Fm_mono (fun b z => by unfold reg at z; unfold CZ; omega) F6))))
    · obtain ⟨m2, y1, y2⟩ := z2 q s ha
      have f2 : Fm AK m1 m2 := Fm_trans fw y2.1
      have h2 : IC n l len cs bk y 0 (ni s) rf ru pk ik jk ct m2 := IC_T p h1 f2 (fun b z => by unfold AK at z; omega) (CTp_0 (by rw [y2.2.1 1 (by omega), w1]; exact x4)) y2.2.2.2.1
      have g2 := h2.1
      refine ⟨m2, ?_, h2, Gc_m (Fm_trans (Fm_mono (fun b z => .inl z) x6) f2) (fun b z => by unfold AK at z; unfold CZ; omega)⟩
      unfold F_X11_work
      simp (disch := first | assumption | omega | ((repeat (first | assumption | apply G_wI | apply G_wL | apply CSh_wI | apply CSh_wL)); done) | decide) only [↓dO0, ↓dO1, ↓dA2, ↓dK2, ↓dT2, ↓dO3, ↓dO4, ↓dA5, ↓dK5, ↓dT5, ↓dA6, ↓dK6, ↓dT6, ↓dA7, ↓dK7, ↓dT7, ↓dO8, ↓dA9, ↓dK9, ↓dT9, ↓dA10, ↓dK10, ↓dT10, ↓dA11, ↓dK11, ↓dT11, ↓dO12, ↓dA13, ↓dK13, ↓dT13, ↓dO14, ↓dA15, ↓dK15, ↓dT15, ↓dO16, ↓dO29, ↓dO42, ↓dA43, ↓dK43, ↓dT43, ↓dA44, ↓dK44, ↓dT44, ↓dO45, ↓dA46, ↓dK46, ↓dT46, ↓dO47, ↓dA48, ↓dK48, ↓dT48, ↓dO49, ↓dA50, ↓dK50, ↓dT50, ↓dA51, ↓dK51, ↓dT51, ↓dA52, ↓dK52, ↓dT52, ↓dA53, ↓dK53, ↓dT53, ↓dA54, ↓dK54, ↓dT54, ↓dA215, ↓dK215, ↓dT215, ↓dA376, ↓dK376, ↓dT376, ↓dA383, ↓dK383, ↓dT383, ↓dA390, ↓dK390, ↓dT390, ↓dA391, ↓dK391, ↓dT391, ↓dA392, ↓dK392, ↓dT392, ↓dA473, ↓dK473, ↓dT473, ↓dA474, ↓dK474, ↓dT474, ↓dA475, ↓dK475, ↓dT475, ↓dA492, ↓dK492, ↓dT492, ↓dA496, ↓dK496, ↓dT496, ↓dA497, ↓dK497, ↓dT497, ↓dR0_0, ↓dR0_1, ↓dR0_2, ↓dR0_3, ↓dR0_4, ↓dR0_5, ↓dR0_6, ↓dR0_7, ↓dR0_8, ↓dR0_9, ↓dR0_10, ↓dR0_11, ↓dR0_12, ↓dR1_0, ↓dR4_2, ↓dR8_0, ↓dR8_1, ↓dR8_2, ↓dR12_5, ↓dR14_0, ↓dR14_1, ↓dR14_2, ↓dR42_0, ↓dR45_0, ↓dR49_9, ↓dR49_10, ↓dR49_11, ↓dR49_12, ↓dR49_15, ↓dR49_16, ↓dR49_17, ↓dR49_18, ↓dR49_19, ↓dR49_20, ↓dR49_21, ↓dR49_23, ↓dR49_24, ↓dR49_25, ↓dR49_26, ↓dR49_34, ↓dF54, ↓dB54, ↓dC54, ↓dF215, ↓dB215, ↓dC215, ↓dF376, ↓dB376, ↓dC376, ↓dF383, ↓dB383, ↓dC383, ↓dF392, ↓dB392, ↓dC392, ↓dF475, ↓dB475, ↓dC475, ↓dF492, ↓dB492, ↓dC492, ↓lt9_e, ↓jn_e, ↓bd_s, ↓bxL k1, ↓bdE k2, ↓i00, ↓bdE x1, e30, ↓bdE y1, y2.2.2.1]
