/-! L2: the call group. -/
def one9 : Nat → Nat := fun _ => 1
theorem WFl_1 : WFl one9 1 := ⟨fun i _ => ⟨by unfold one9; omega, fun z => by unfold one9 at z; omega⟩, by unfold one9; decide, by omega, by omega⟩
def ctG (ct : Nat → St) (n : Nat) (x : Int32) : Nat → St := fun u => if u = 0 then beginM (ct 0) n x else ct u
theorem Val_00 {jk : Nat → Nat} {u : Nat} (h : Val 0 0 jk u) : u = 0 := by
  rcases h with h | h | ⟨_, h, _⟩
  · exact h
  · omega
  · omega
theorem c_groupF {n l len : Nat} {cs : Nat → Nat} {bk : List (Nat × Nat)} {y : Nat → Nat} {t : Nat} {pl rf : Int32} {ru : Nat → Int32} {pk ik : Nat} {jk : Nat → Nat} {ct : Nat → St} {B x : Nat} {m : Mm} (p : IP n l len cs bk pk ik jk ct B) (h : IC n l len cs bk y t pl rf ru pk ik jk ct m) (hx : x ≤ t) : (∀ mm ii ll, grpP y x 61 0 0 0 30 0 = .inl (mm, ii, ll) → ∃ m1, F_X11_group 0 (ni x) m = some (.inl (ni mm), m1) ∧ IC mm ll 1 one9 [] y 0 (-1) 0 ru 0 0 jk (ctG ct mm ii) m1 ∧ Gc m m1) ∧ (∀ q s, grpP y x 61 0 0 0 30 0 = .inr (q, s) → ∃ m1, F_X11_group 0 (ni x) m = some (.inl (ni q - 10), m1) ∧ IC n l len cs bk y 0 (ni s) rf ru pk ik jk ct m1 ∧ Gc m m1) := by
  have g := h.1
  have ct1 := h.2.2.2.2.2.1
  have k1 : F_X11_needText 0 (ni x) 600 m = some (.inl (), m) := needT_ok (most := 600) g ct1.1 ct1.2.1 (by omega) ⟨x, rfl, hx, by have := ct1.2.1; omega⟩
  obtain ⟨m1, x1, x2, x3, x4, x5, x6⟩ := c_open g ct1 hx
  have g1 := x2.1
  have h1 : IC n l len cs bk y 0 (-1) rf ru pk ik jk ct m1 := IC_T p h x6 (fun b z => .inl z) (CTp_0 x4) x5
  obtain ⟨z1, z2⟩ := c_grp x2 x3
  refine ⟨fun mm ii ll hb => ?_, fun q s hb => ?_⟩
  · obtain ⟨m2, y1, y2⟩ := z1 mm ii ll hb
    have f2 : Fm (fun b => b = 1) m1 m2 := y2.1
    have h2 : IC n l len cs bk y 0 (-1) rf ru pk ik jk ct m2 := IC_T p h1 f2 (fun b z => .inl z) (CTp_0 (by rw [y2.2 1 (by omega)]; exact x4)) (by rw [y2.2 7 (by omega)]; exact x5)
    obtain ⟨g2, hN2, ⟨-, ⟨qc, qd, q1, q2, q3⟩, -, ⟨t1, t2, t3⟩, e1, -, e3⟩, s2, st2⟩ := IC_un h2
    have r0 := q3.2.1
    have kc : (sH m2)[qc]? = some (100, 150) := q3.2.2.2.1
    generalize e3' : wI (wI (wI m2 3 0 (ni mm)) 3 1 ii) 3 2 (ni ll) = m3 at y1
    have f3 : Fm (fun b => b = 3) m2 m3 := by rw [← e3']; exact Fm_wI (Fm_wI (Fm_wI (Fm_refl _ _) rfl) rfl) rfl
    have g3 := G_fr f3 g2
    have a30 : rI m3 3 0 = ni mm := by rw [← e3']; simp (disch := omega) only [rIw, uf_ap, if_neg, if_pos, if_true]
    have a31 : rI m3 3 1 = ii := by rw [← e3']; simp (disch := omega) only [rIw, uf_ap, if_neg, if_pos, if_true]
    have a32 : rI m3 3 2 = ni ll := by rw [← e3']; simp (disch := omega) only [rIw, uf_ap, if_neg, if_pos, if_true]
    -- the law forgotten
    have r3 : rR m3 4 0 = some qc := by rw [f3.2.1]; exact r0
    have kc3 : (sH m3)[qc]? = some (100, 150) := by rw [f3.2.2.1]; exact kc
    generalize e4' : wI (wI m3 qc 0 1) 4 3 1 = m4
    have f4 : Fm (fun b => b = qc ∨ b = 4) m3 m4 := by rw [← e4']; exact Fm_wI (Fm_wI (Fm_refl _ _) (.inl rfl)) (.inr rfl)
    have g4 := G_fr f4 g3
    have k4 : F_X3_forget 4 m3 = some ((), m4) := by
      have o1 : okO (wI m3 qc 0 1) 4 3 = true := gO4 (G_wI g3)
      have o2 : okA m3 100 qc 0 = true := okA_lit kc3 (i := 0) (by omega) (by omega)
      unfold F_X3_forget
      rw [gO4 g3, gd_t, r3, oc_s, o2, gd_t, lt9_e, show ix (0 : Int32) = 0 from by decide, o1, gd_t, lt9_e, e4']
    have b4 : rI m4 4 3 = ni 1 := by rw [← e4', rIw, uf_at]; rfl
    have bc : rI m4 qc 0 = ni 1 := by rw [← e4', rIw_ne (by omega), rIw, uf_at]; rfl
    -- the book
    generalize e5' : wI (wI (wI m4 12 0 0) 12 1 0) 12 2 0 = m5
    have f5 : Fm (fun b => b = 12) m4 m5 := by rw [← e5']; exact Fm_wI (Fm_wI (Fm_wI (Fm_refl _ _) rfl) rfl) rfl
    have g5 := G_fr f5 g4
    have k5 : F_X0_forget 12 m4 = some ((), m5) := by
      have o1 : okO (wI m4 12 0 0) 12 0 = true := gO12 (G_wI g4)
      have o2 : okO (wI (wI m4 12 0 0) 12 1 0) 12 0 = true := gO12 (G_wI (G_wI g4))
      unfold F_X0_forget
      rw [gO12 g4, gd_t, lt9_e, o1, gd_t, lt9_e, o2, gd_t, lt9_e, e5']
    have c0 : rI m5 12 0 = 0 := by rw [← e5']; simp (disch := omega) only [rIw, uf_ap, if_neg, if_pos, if_true]
    have c1 : rI m5 12 1 = 0 := by rw [← e5']; simp (disch := omega) only [rIw, uf_ap, if_neg, if_pos, if_true]
    have c2 : rI m5 12 2 = 0 := by rw [← e5']; simp (disch := omega) only [rIw, uf_ap, if_neg, if_pos, if_true]
    -- past, images, refused
    have k6 : F_X5_forget 42 m5 = some ((), wI m5 42 1 0) := by
      unfold F_X5_forget
      rw [gO42 g5, gd_t, lt9_e]
    have g6 : G (wI m5 42 1 0) := G_wI g5
    have g7 : G (wI (wI m5 42 1 0) 0 13 0) := G_wI g6
    generalize e8' : wI (wI (wI m5 42 1 0) 0 13 0) 0 14 0 = m8
    have f8 : Fm (fun b => b = 42 ∨ b = 0) m5 m8 := by rw [← e8']; exact Fm_wI (Fm_wI (Fm_wI (Fm_refl _ _) (.inl rfl)) (.inr rfl)) (.inr rfl)
    have g8 := G_fr f8 g5
    have d42 : rI m8 42 1 = 0 := by rw [← e8', rIw_ne (by omega), rIw_ne (by omega), rIw, uf_at]
    have d13 : rI m8 0 13 = 0 := by rw [← e8', rIw, uf_ne (by omega), rIw, uf_at]
    have d14 : rI m8 0 14 = 0 := by rw [← e8', rIw, uf_at]
    have F8 : Fm (fun b => b = 0 ∨ b = 1 ∨ b = 3 ∨ b = 4 ∨ b = qc ∨ b = 12 ∨ b = 42) m m8 := Fm_trans (Fm_mono (fun b z => by omega) x6) (Fm_trans (Fm_mono (fun b z => by omega) f2) (Fm_trans (Fm_mono (fun b z => by omega) f3) (Fm_trans (Fm_mono (fun b z => by omega) f4) (Fm_trans (Fm_mono (fun b z => by omega) f5) (Fm_mono (fun b z => by omega) f8)))))
    have w38 : rI m8 3 = rI m3 3 := by rw [(f8.1 3 (by omega)).1, (f5.1 3 (by omega)).1, (f4.1 3 (by omega)).1]
    have w48 : rI m8 4 = rI m4 4 := by rw [(f8.1 4 (by omega)).1, (f5.1 4 (by omega)).1]
    have wc8 : rI m8 qc = rI m4 qc := by rw [(f8.1 qc (by omega)).1, (f5.1 qc (by omega)).1]
    have w12 : rI m8 12 = rI m5 12 := by rw [(f8.1 12 (by omega)).1]
    have w28 : ∀ b, b = 1 ∨ b = 2 ∨ b = 48 → rI m8 b = rI m2 b := fun b hb => by rw [(f8.1 b (by omega)).1, (f5.1 b (by omega)).1, (f4.1 b (by omega)).1, (f3.1 b (by omega)).1]
    obtain ⟨m9, v1, v2, v3⟩ := c_begin (n := mm) (x := ii) (G_16 g8)
    have g9 := G_fr v3 g8
    have a9 : absC m8 16 = ct 0 := by
      rw [abs_fr F8 (fun b h1 h2 => by omega)]
      exact (IC_ctx p h).2.1
    have w9 : ∀ b, ¬ reg 16 b → rI m9 b = rI m8 b := fun b hb => (v3.1 b hb).1
    have F9 : Fm (fun b => b = 0 ∨ b = 1 ∨ b = 3 ∨ b = 4 ∨ b = qc ∨ b = 12 ∨ b = 42 ∨ reg 16 b) m m9 := Fm_trans (Fm_mono (fun b z => by unfold reg; omega) F8) (Fm_mono (fun b z => by unfold reg at z ⊢; omega) v3)
    have z30 : rI m9 3 0 = ni mm := by rw [w9 3 (by unfold reg; omega), w38]; exact a30
    refine ⟨m9, ?_, IC_mk g9 (by unfold mN; rw [F9.2.2.1]; exact h.2.1) ⟨⟨z30, by rw [w9 3 (by unfold reg; omega), w38]; exact a32⟩, ⟨qc, qd, q1, ?_, ?_⟩, ⟨by rw [w9 12 (by unfold reg; omega), w12]; exact c0, by rw [w9 12 (by unfold reg; omega), w12]; exact c1, by rw [w9 12 (by unfold reg; omega), w12]; exact c2⟩, CTp_0 (by rw [w9 1 (by unfold reg; omega), w28 1 (by omega)]; exact t1), by rw [w9 1 (by unfold reg; omega), w28 1 (by omega)]; exact e1, by rw [w9 0 (by unfold reg; omega)]; exact d14, fun i hi => by rw [w9 48 (by unfold reg; omega), w28 48 (by omega)]; exact e3 i hi⟩ (Shp_fr F9 (IC_un h).2.2.2.1) ⟨by rw [w9 42 (by unfold reg; omega)]; exact d42, by rw [w9 0 (by unfold reg; omega)]; exact d13, fun j A hj => by omega, fun u hu => ?_⟩, Gc_m F9 (fun b z => by unfold reg at z; unfold CZ; omega)⟩
    · have e38 : rI m8 3 0 = ni mm := by rw [w38]; exact a30
      have e39 : rI m8 3 1 = ii := by rw [w38]; exact a31
      unfold F_X11_group
      simp (disch := first | assumption | omega | ((repeat (first | assumption | apply G_wI | apply G_wL | apply CSh_wI | apply CSh_wL)); done) | decide) only [↓dO0, ↓dO1, ↓dA2, ↓dK2, ↓dT2, ↓dO3, ↓dO4, ↓dA5, ↓dK5, ↓dT5, ↓dA6, ↓dK6, ↓dT6, ↓dA7, ↓dK7, ↓dT7, ↓dO8, ↓dA9, ↓dK9, ↓dT9, ↓dA10, ↓dK10, ↓dT10, ↓dA11, ↓dK11, ↓dT11, ↓dO12, ↓dA13, ↓dK13, ↓dT13, ↓dO14, ↓dA15, ↓dK15, ↓dT15, ↓dO16, ↓dO29, ↓dO42, ↓dA43, ↓dK43, ↓dT43, ↓dA44, ↓dK44, ↓dT44, ↓dO45, ↓dA46, ↓dK46, ↓dT46, ↓dO47, ↓dA48, ↓dK48, ↓dT48, ↓dO49, ↓dA50, ↓dK50, ↓dT50, ↓dA51, ↓dK51, ↓dT51, ↓dA52, ↓dK52, ↓dT52, ↓dA53, ↓dK53, ↓dT53, ↓dA54, ↓dK54, ↓dT54, ↓dA215, ↓dK215, ↓dT215, ↓dA376, ↓dK376, ↓dT376, ↓dA383, ↓dK383, ↓dT383, ↓dA390, ↓dK390, ↓dT390, ↓dA391, ↓dK391, ↓dT391, ↓dA392, ↓dK392, ↓dT392, ↓dA473, ↓dK473, ↓dT473, ↓dA474, ↓dK474, ↓dT474, ↓dA475, ↓dK475, ↓dT475, ↓dA492, ↓dK492, ↓dT492, ↓dA496, ↓dK496, ↓dT496, ↓dA497, ↓dK497, ↓dT497, ↓dR0_0, ↓dR0_1, ↓dR0_2, ↓dR0_3, ↓dR0_4, ↓dR0_5, ↓dR0_6, ↓dR0_7, ↓dR0_8, ↓dR0_9, ↓dR0_10, ↓dR0_11, ↓dR0_12, ↓dR1_0, ↓dR4_2, ↓dR8_0, ↓dR8_1, ↓dR8_2, ↓dR12_5, ↓dR14_0, ↓dR14_1, ↓dR14_2, ↓dR42_0, ↓dR45_0, ↓dR49_9, ↓dR49_10, ↓dR49_11, ↓dR49_12, ↓dR49_15, ↓dR49_16, ↓dR49_17, ↓dR49_18, ↓dR49_19, ↓dR49_20, ↓dR49_21, ↓dR49_23, ↓dR49_24, ↓dR49_25, ↓dR49_26, ↓dR49_34, ↓dF54, ↓dB54, ↓dC54, ↓dF215, ↓dB215, ↓dC215, ↓dF376, ↓dB376, ↓dC376, ↓dF383, ↓dB383, ↓dC383, ↓dF392, ↓dB392, ↓dC392, ↓dF475, ↓dB475, ↓dC475, ↓dF492, ↓dB492, ↓dC492, ↓lt9_e, ↓jn_e, ↓bd_s, ↓bxL k1, ↓bdE x1, ↓bdE y1, ↓i10, ↓bdE k4, ↓bdE k5, ↓bdE k6, e8', e38, e39, ↓bdE v1, z30]
    · rw [v3.2.1, f8.2.1, f5.2.1, f4.2.1, f3.2.1]
      exact q2
    · unfold LC
      rw [v3.2.1, f8.2.1, f5.2.1, f4.2.1, f3.2.1, v3.2.2.1, f8.2.2.1, f5.2.2.1, f4.2.2.1, f3.2.2.1, w9 4 (by unfold reg; omega), w48, w9 qc (by unfold reg; omega), wc8]
      refine ⟨q3.1, q3.2.1, q3.2.2.1, kc, q3.2.2.2.2.1, q3.2.2.2.2.2.1, q3.2.2.2.2.2.2.1, b4, fun i hi => ?_⟩
      have : i = 0 := by omega
      subst this
      exact bc
    · have := Val_00 hu
      subst this
      rw [cn_s (adr_0 m9), v2, a9]
      rfl
  · obtain ⟨m2, y1, y2⟩ := z2 q s hb
    have f2 : Fm (fun b => b = 1) m1 m2 := y2.1
    have h2 : IC n l len cs bk y 0 (ni s) rf ru pk ik jk ct m2 := IC_T p h1 f2 (fun b z => .inl z) (CTp_0 (by rw [y2.2.1 1 (by omega)]; exact x4)) y2.2.2.2
    have g2 := h2.1
    refine ⟨m2, ?_, h2, Gc_m (Fm_trans x6 f2) (fun b z => by unfold CZ; omega)⟩
    unfold F_X11_group
    simp only [gO0 g, gd_t, bxL k1, gR0_0 g, oc_s, gO1 g, bdE x1, gO0 g1, gR0_0 g1, gR0_1 g1, gO3 g1, bdE y1, ↓i00, if_true, gO0 g2, gR0_0 g2, gO1 g2, y2.2.2.1]
def RgK (v0 : Nat) (m : Mm) : Option (Int32 × Mm) :=
  gd (okO m v0 12) (
  if (rI m v0 5) = 0 then (
  gd (okO m v0 12) (lt9 (wI m v0 3 (-1 : Int32)) fun m14 =>
  gd (okO m14 v0 12) (bd (F_X12_beginsAnew v0 m14) fun r15 m16 =>
  gd (okO m16 v0 12) (oc (rR m16 v0 12) none fun q17 =>
  gd (okA m16 100 q17 (0 : Int32)) (
  some ((rI m16 q17 (ix (0 : Int32))), m16))))))
  else (
  gd (okO m v0 12) (bd (F_X12_ends v0 m) fun r18 m19 =>
  some (r18, m19))))
theorem r_groupF {n l len : Nat} {cs : Nat → Nat} {bk : List (Nat × Nat)} {y : Nat → Nat} {t : Nat} {pl rf : Int32} {ru : Nat → Int32} {pk ik : Nat} {jk : Nat → Nat} {ct : Nat → St} {B x : Nat} {m : Mm} (p : IP n l len cs bk pk ik jk ct B) (g : G m) (h : IR n l len cs bk y t pl rf ru pk ik jk ct m) (hx : x ≤ t) : (∀ mm ii ll, grpP y x 61 0 0 0 30 0 = .inl (mm, ii, ll) → ∃ m1, F_X12_group 49 (ni x) m = some (ni mm, m1) ∧ rI m1 49 0 = 0 ∧ IR mm ll 1 one9 [] y 0 (-1) 0 ru 0 0 jk (ctG ct mm ii) m1 ∧ Gz m m1) ∧ (∀ q s, grpP y x 61 0 0 0 30 0 = .inr (q, s) → ∃ m1, F_X12_group 49 (ni x) m = some (ni q - 10, m1) ∧ rI m1 49 0 = 0 ∧ IR n l len cs bk y 0 (ni s) rf ru pk ik jk ct m1 ∧ Gz m m1) := by
  have g0 : G (wI m 49 0 0) := G_wI g
  have h0 := IR_0 0 h
  have e0 := w0_0 m
  have ht := h0.2.2.2.1
  have ht6 := ht.2.1
  have b0 := bad_f (c := 1) (r := 1) g0 e0
  have w1 := inr (ni x) 0 (rI (wI m 49 0 0) 49 1) (wI m 49 0 0)
  rw [decide_eq_true (by rw [ht.1]; exact txt_in (most := 600) hx ht.2.1), b2i_t] at w1
  obtain ⟨m1, x1, x2, x3, x4, x5, x6, x7, x8, x9, x10⟩ := r_starts (x := y) (n := x) g0 (by omega) (fun i hi => ht.2.2 i (by omega))
  have g1 := x4.1
  have bb := blk_le (x := y) (n := x) (a := 0) (by omega)
  generalize e2' : wI (wI (wI m1 52 0 0) 52 1 0) 52 2 30 = m2
  have f2 : Fm (fun b => b = 52) m1 m2 := by rw [← e2']; exact Fm_wI (Fm_wI (Fm_wI (Fm_refl _ _) rfl) rfl) rfl
  have g2 := G_fr f2 g1
  have k2 : F_X12_tellsNothing 49 m1 = some ((), m2) := by
    rw [← e2']
    unfold F_X12_tellsNothing
    simp (disch := first | assumption | omega | ((repeat (first | assumption | apply G_wI | apply G_wL | apply CSh_wI | apply CSh_wL)); done) | decide) only [↓dO0, ↓dO1, ↓dA2, ↓dK2, ↓dT2, ↓dO3, ↓dO4, ↓dA5, ↓dK5, ↓dT5, ↓dA6, ↓dK6, ↓dT6, ↓dA7, ↓dK7, ↓dT7, ↓dO8, ↓dA9, ↓dK9, ↓dT9, ↓dA10, ↓dK10, ↓dT10, ↓dA11, ↓dK11, ↓dT11, ↓dO12, ↓dA13, ↓dK13, ↓dT13, ↓dO14, ↓dA15, ↓dK15, ↓dT15, ↓dO16, ↓dO29, ↓dO42, ↓dA43, ↓dK43, ↓dT43, ↓dA44, ↓dK44, ↓dT44, ↓dO45, ↓dA46, ↓dK46, ↓dT46, ↓dO47, ↓dA48, ↓dK48, ↓dT48, ↓dO49, ↓dA50, ↓dK50, ↓dT50, ↓dA51, ↓dK51, ↓dT51, ↓dA52, ↓dK52, ↓dT52, ↓dA53, ↓dK53, ↓dT53, ↓dA54, ↓dK54, ↓dT54, ↓dA215, ↓dK215, ↓dT215, ↓dA376, ↓dK376, ↓dT376, ↓dA383, ↓dK383, ↓dT383, ↓dA390, ↓dK390, ↓dT390, ↓dA391, ↓dK391, ↓dT391, ↓dA392, ↓dK392, ↓dT392, ↓dA473, ↓dK473, ↓dT473, ↓dA474, ↓dK474, ↓dT474, ↓dA475, ↓dK475, ↓dT475, ↓dA492, ↓dK492, ↓dT492, ↓dA496, ↓dK496, ↓dT496, ↓dA497, ↓dK497, ↓dT497, ↓dR0_0, ↓dR0_1, ↓dR0_2, ↓dR0_3, ↓dR0_4, ↓dR0_5, ↓dR0_6, ↓dR0_7, ↓dR0_8, ↓dR0_9, ↓dR0_10, ↓dR0_11, ↓dR0_12, ↓dR1_0, ↓dR4_2, ↓dR8_0, ↓dR8_1, ↓dR8_2, ↓dR12_5, ↓dR14_0, ↓dR14_1, ↓dR14_2, ↓dR42_0, ↓dR45_0, ↓dR49_9, ↓dR49_10, ↓dR49_11, ↓dR49_12, ↓dR49_15, ↓dR49_16, ↓dR49_17, ↓dR49_18, ↓dR49_19, ↓dR49_20, ↓dR49_21, ↓dR49_23, ↓dR49_24, ↓dR49_25, ↓dR49_26, ↓dR49_34, ↓dF54, ↓dB54, ↓dC54, ↓dF215, ↓dB215, ↓dC215, ↓dF376, ↓dB376, ↓dC376, ↓dF383, ↓dB383, ↓dC383, ↓dF392, ↓dB392, ↓dC392, ↓dF475, ↓dB475, ↓dC475, ↓dF492, ↓dB492, ↓dC492, ↓lt9_e, ↓jn_e, ↓bd_s, gd_t, bd_s, oc_s, oc_n, lt9_e, jn_e, okOwI, okAwI, okTwI, lnwI, okOwL, okAwL, okTwL, lnwL, rRwI, rRwL, sHwI, sHwL, rIwL, rLwI, gO0, gO1, gA2, gK2, gT2, gN2, gO3, gO4, gA5, gK5, gT5, gN5, gA6, gK6, gT6, gN6, gA7, gK7, gT7, gN7, gO8, gA9, gK9, gT9, gN9, gA10, gK10, gT10, gN10, gA11, gK11, gT11, gN11, gO12, gA13, gK13, gT13, gN13, gO14, gA15, gK15, gT15, gN15, gO16, gO29, gO42, gA43, gK43, gT43, gN43, gA44, gK44, gT44, gN44, gO45, gA46, gK46, gT46, gN46, gO47, gA48, gK48, gT48, gN48, gO49, gA50, gK50, gT50, gN50, gA51, gK51, gT51, gN51, gA52, gK52, gT52, gN52, gA53, gK53, gT53, gN53, gA54, gK54, gT54, gN54, gA215, gK215, gT215, gN215, gA376, gK376, gT376, gN376, gA383, gK383, gT383, gN383, gA390, gK390, gT390, gN390, gA391, gK391, gT391, gN391, gA392, gK392, gT392, gN392, gA473, gK473, gT473, gN473, gA474, gK474, gT474, gN474, gA475, gK475, gT475, gN475, gA492, gK492, gT492, gN492, gA496, gK496, gT496, gN496, gA497, gK497, gT497, gN497, gR0_0, gR0_1, gR0_2, gR0_3, gR0_4, gR0_5, gR0_6, gR0_7, gR0_8, gR0_9, gR0_10, gR0_11, gR0_12, gR1_0, gR4_2, gR8_0, gR8_1, gR8_2, gR12_5, gR14_0, gR14_1, gR14_2, gR42_0, gR45_0, gR49_9, gR49_10, gR49_11, gR49_12, gR49_15, gR49_16, gR49_17, gR49_18, gR49_19, gR49_20, gR49_21, gR49_23, gR49_24, gR49_25, gR49_26, gR49_34, gF54, gB54, gC54, gF215, gB215, gC215, gF376, gB376, gC376, gF383, gB383, gC383, gF392, gB392, gC392, gF475, gB475, gC475, gF492, gB492, gC492, ni_le, ni_lt, ni_eq, ni_add, ni_mul, lni_le, lni_lt, nil_le, nil_lt, lni_eq, nil_eq, lni_add, nil_add, lni_mul, nil_mul, ix_ni, ix_lit, ni_ne1, ni_lt0, ↓reduceIte, Nat.reduceEqDiff, Nat.reduceMul, Nat.reduceAdd, Nat.reduceLeDiff, and_true, true_and, false_and, and_false, if_true, if_false, Nat.not_lt_zero, false_or, or_false, ft9, decide_true, o10, eq_self, b2i_0, b2i_1, b2i_ok, b2i_inj, b2i_t, b2i_f, rIwIk]
  have w49 : rI m2 49 = rI m1 49 := (f2.1 49 (by omega)).1
  have rt : RT 0 30 0 m2 := by
    rw [← e2']
    refine ⟨?_, ?_, ?_⟩
    · simp (disch := omega) only [rIw, uf_ap, if_neg, if_pos, if_true]
      rfl
    · simp (disch := omega) only [rIw, uf_ap, if_neg, if_pos, if_true]
    · simp (disch := omega) only [rIw, uf_ap, if_neg, if_pos, if_true]
      rfl
  have tr2 : TR y x m2 := by
    obtain ⟨c0, c1, c2, c3⟩ := x4
    refine ⟨g2, c1, by rw [w49]; exact c2, fun i hi => ?_⟩
    rw [(f2.1 50 (by omega)).1]
    exact c3 i hi
  have z := r_grpL (K := RgK) (x := y) (n := x) 61 0 0 30 (blk y x 0) NF 0 m2 (by omega) (by omega) (by unfold NF; omega) (by omega) tr2 (by rw [w49]; exact x5) bb.2 (blk_blk (by omega)) (by rw [w49]; exact x6) (by rw [w49]; exact x8) rt
  rw [grp_b 60 (by omega)] at z
  have start : ∀ X, L_X12_group_42 RgK NF 49 m2 = X → F_X12_group 49 (ni x) m = X := by
    intro X hX
    rw [← hX]
    unfold F_X12_group
    have ek : (fun (v0 : Nat) (m : Mm) => gd (okO m v0 12) (if (rI m v0 5) = 0 then (gd (okO m v0 12) (lt9 (wI m v0 3 (-1 : Int32)) fun m14 => gd (okO m14 v0 12) (bd (F_X12_beginsAnew v0 m14) fun r15 m16 => gd (okO m16 v0 12) (oc (rR m16 v0 12) none fun q17 => gd (okA m16 100 q17 (0 : Int32)) (some ((rI m16 q17 (ix (0 : Int32))), m16)))))) else (gd (okO m v0 12) (bd (F_X12_ends v0 m) fun r18 m19 => some (r18, m19))))) = RgK := rfl
    rw [ek]
    simp (disch := first | assumption | omega | ((repeat (first | assumption | apply G_wI | apply G_wL | apply CSh_wI | apply CSh_wL)); done) | decide) only [↓dO0, ↓dO1, ↓dA2, ↓dK2, ↓dT2, ↓dO3, ↓dO4, ↓dA5, ↓dK5, ↓dT5, ↓dA6, ↓dK6, ↓dT6, ↓dA7, ↓dK7, ↓dT7, ↓dO8, ↓dA9, ↓dK9, ↓dT9, ↓dA10, ↓dK10, ↓dT10, ↓dA11, ↓dK11, ↓dT11, ↓dO12, ↓dA13, ↓dK13, ↓dT13, ↓dO14, ↓dA15, ↓dK15, ↓dT15, ↓dO16, ↓dO29, ↓dO42, ↓dA43, ↓dK43, ↓dT43, ↓dA44, ↓dK44, ↓dT44, ↓dO45, ↓dA46, ↓dK46, ↓dT46, ↓dO47, ↓dA48, ↓dK48, ↓dT48, ↓dO49, ↓dA50, ↓dK50, ↓dT50, ↓dA51, ↓dK51, ↓dT51, ↓dA52, ↓dK52, ↓dT52, ↓dA53, ↓dK53, ↓dT53, ↓dA54, ↓dK54, ↓dT54, ↓dA215, ↓dK215, ↓dT215, ↓dA376, ↓dK376, ↓dT376, ↓dA383, ↓dK383, ↓dT383, ↓dA390, ↓dK390, ↓dT390, ↓dA391, ↓dK391, ↓dT391, ↓dA392, ↓dK392, ↓dT392, ↓dA473, ↓dK473, ↓dT473, ↓dA474, ↓dK474, ↓dT474, ↓dA475, ↓dK475, ↓dT475, ↓dA492, ↓dK492, ↓dT492, ↓dA496, ↓dK496, ↓dT496, ↓dA497, ↓dK497, ↓dT497, ↓dR0_0, ↓dR0_1, ↓dR0_2, ↓dR0_3, ↓dR0_4, ↓dR0_5, ↓dR0_6, ↓dR0_7, ↓dR0_8, ↓dR0_9, ↓dR0_10, ↓dR0_11, ↓dR0_12, ↓dR1_0, ↓dR4_2, ↓dR8_0, ↓dR8_1, ↓dR8_2, ↓dR12_5, ↓dR14_0, ↓dR14_1, ↓dR14_2, ↓dR42_0, ↓dR45_0, ↓dR49_9, ↓dR49_10, ↓dR49_11, ↓dR49_12, ↓dR49_15, ↓dR49_16, ↓dR49_17, ↓dR49_18, ↓dR49_19, ↓dR49_20, ↓dR49_21, ↓dR49_23, ↓dR49_24, ↓dR49_25, ↓dR49_26, ↓dR49_34, ↓dF54, ↓dB54, ↓dC54, ↓dF215, ↓dB215, ↓dC215, ↓dF376, ↓dB376, ↓dC376, ↓dF383, ↓dB383, ↓dC383, ↓dF392, ↓dB392, ↓dC392, ↓dF475, ↓dB475, ↓dC475, ↓dF492, ↓dB492, ↓dC492, ↓lt9_e, ↓jn_e, ↓bd_s, ↓bdE w1, ↓i10, ↓i00, ↓bdE b0, ↓bdE x1, ↓bdE k2]
  refine ⟨fun mm ii ll hb => ?_, fun q s hb => ?_⟩
  · obtain ⟨m3, y1, y2, y3, y4⟩ := z.1 mm ii ll hb
    have g3 := G_fr y2.1 g2
    have g4 : G (wI m3 49 3 (-1)) := G_wI g3
    obtain ⟨m5, u1, u2, u3, u4, u5, u6⟩ := r_begA (m := wI m3 49 3 (-1)) (n := mm) (x := ii) (GB_G g4) (by rw [rIw_ne (by omega)]; exact y4.1) (by rw [rIw_ne (by omega)]; exact y4.2.1)
    have g5 := G_fr u2 g4
    have z0 : rI m5 53 0 = ni mm := by rw [u5 0 (by omega), rIw_ne (by omega)]; exact y4.1
    have j49 : ∀ j, j < 4 → j ≠ 1 → j ≠ 2 → j ≠ 3 → rI m5 49 j = rI (wI m 49 0 0) 49 j := fun j h1 h2 h3 h4 => by
      rw [u3 j (by omega) (by omega) (by omega) (by omega) (by omega), rIw, uf_ne (by omega), y2.2 j (by omega), w49, x3 j (by omega) (by omega) (by omega) (by omega) (by omega) (by omega) (by omega)]
    have FF : Fm (fun b => b = 49 ∨ b = 52 ∨ b = 53 ∨ b = 473) (wI m 49 0 0) m5 := Fm_trans (Fm_mono (fun b z => by omega) x2) (Fm_trans (Fm_mono (fun b z => by omega) f2) (Fm_trans (Fm_mono (fun b z => by omega) y2.1) (Fm_trans (Fm_wI (Fm_refl _ _) (by omega)) (Fm_mono (fun b z => by omega) u2))))
    refine ⟨m5, start _ (y1.trans ?_), by rw [j49 0 (by omega) (by omega) (by omega) (by omega)]; exact e0, ⟨⟨z0, by rw [u5 2 (by omega), rIw_ne (by omega)]; exact y4.2.2⟩, .inl ⟨u4 13 (by omega), rfl, rfl⟩, ⟨fun i hi => by simp at hi, u4 27 (by omega)⟩, RTp_0 ?_, ?_, u4 29 (by omega), fun i hi => ?_, u4 28 (by omega), u4 30 (by omega), fun j hj => by omega, fun u hu => ?_⟩, Fm_trans (Gz_0 m 0 0) (Fm_mono (fun b z => by omega) FF)⟩
    · have e5 : (rI m3 49 5 = 0) = True := eq_true y3
      have q53 : okA m5 100 53 0 = true := gK53 g5 (i := 0) (by omega)
      unfold RgK
      simp only [gO49 g3, gd_t, e5, if_true, lt9_e, gO49 g4, bdE u1, gO49 g5, gR49_12 g5, oc_s, q53, show ix (0 : Int32) = 0 from by decide, z0]
    · rw [u3 1 (by omega) (by omega) (by omega) (by omega) (by omega), rIw, uf_ne (by omega), y2.2 1 (by omega), w49]
      exact x10
    · rw [u3 3 (by omega) (by omega) (by omega) (by omega) (by omega), rIw, uf_at]
    · rw [(FF.1 51 (by omega)).1]
      exact h0.2.2.2.2.2.2.1 i hi
    · have := Val_00 hu
      subst this
      refine RR_cp (RR_bg (ct 0) u6) (fun j _ => ?_)
      show rI m5 473 (0 + j) = rI m5 473 j
      rw [Nat.zero_add]
  · obtain ⟨m3, y1, y2, y3, y4, y5, y6⟩ := z.2 q s hb
    have g3 := G_fr y2.1 g2
    have f3 : Fm (fun b => b = 49 ∨ b = 52) (wI m 49 0 0) m3 := Fm_trans (Fm_mono (fun b z => .inl z) x2) (Fm_trans (Fm_mono (fun b z => .inr z) f2) y2.1)
    obtain ⟨a1, a2, a3⟩ := IR_end (x := x) (s := s) p h0 f3 (fun b z => by unfold AT9; omega) (fun j hj => by rw [y2.2 j (by omega), w49, x3 j (by omega) (by omega) (by omega) (by omega) (by omega) (by omega) (by omega)]) (by rw [y2.2 1 (by omega), w49]; exact x10) e0
    refine ⟨_, start _ (y1.trans ?_), a1, a2, Fm_trans (Gz_0 m 0 0) a3⟩
    have e5 : (rI m3 49 5 = 0) = False := by rw [y3]; exact k_n0 y5 y6
    unfold RgK
    simp only [gO49 g3, gd_t, e5, if_false, bdE (r_endF g3 y3 y4)]
theorem hxg_n : (∀ k, hx_L_group k ≠ some 0) := fun k => by
  unfold hx_L_group
  split
  · decide
  · exact fun z => by cases z
theorem C_group {k : Nat} {m : Mm} {a : Int32} (hk : k ≤ 600) (h : Inv k m) : Cl1 k m (wrI hx_L_group (F_X11_group 0 a)) (F_X12_group 49 a) := by
  obtain ⟨n, l, len, cs, bk, y, t, pl, rf, ru, pk, ik, jk, ct, hC, hR, p, h1, h2⟩ := h
  have p' := IP_B p (show 1 + 201 * k ≤ 1 + 201 * (k + 1) by omega) (by omega)
  have ctp := hC.2.2.2.2.2.1
  have t6 := ctp.2.1
  by_cases q : txt t 600 a
  · obtain ⟨x, rfl, hx, h60⟩ := q
    cases e : grpP y x 61 0 0 0 30 0 with
    | inl acc =>
      obtain ⟨mm, ii, ll⟩ := acc
      obtain ⟨m1, x1, x2, x3⟩ := (c_groupF p hC hx).1 mm ii ll e
      obtain ⟨o1, o2, o3⟩ := grp_ok 61 0 0 30 0 0 mm ll ii (by omega) (by omega) (bel_0 _) e
      refine cal3 hC hR p h1 h2 (v := ni mm) ⟨o1, o2, WFl_1, BK_nil o1, by omega, by omega, fun j hj => by omega, fun u hu => ?_⟩ ⟨m1, x1, x2, x3⟩ (fun m1 g1 hR1 => (r_groupF p g1 hR1 hx).1 mm ii ll e)
      have := Val_00 hu
      subst this
      exact WF_bg (ct 0) o1 o3 (by omega) (by omega)
    | inr qs =>
      obtain ⟨q, s⟩ := qs
      exact cal3 hC hR p h1 h2 (v := ni q - 10) p' ((c_groupF p hC hx).2 q s e) (fun m1 g1 hR1 => (r_groupF p g1 hR1 hx).2 q s e)
  · refine cal1 (R := .inr 1) hC hR p h1 h2 hk hxg_n ⟨by omega, 6, by omega, ?_⟩ (fun m1 g1 hR1 => ⟨1, rfl, ?_⟩)
    · have k1 : F_X11_needText 0 a 600 m = _ := needT_no (most := 600) hC.1 ctp.1 ctp.2.1 (by omega) q (by unfold K9; omega)
      unfold F_X11_group
      rw [gO0 hC.1, gd_t, bxR k1]
    · have g0 : G (wI m1 49 0 0) := G_wI g1
      have h0 := IR_0 0 hR1
      have ht := h0.2.2.2.1
      have b1 : F_X12_bad 49 1 1 1 (wI m1 49 0 0) = some (1, bdM m1 1 1) := bad_t (k := 1) g1 (by omega) (by decide)
      have w1 := inr a 0 (rI (wI m1 49 0 0) 49 1) (wI m1 49 0 0)
      have zz : ¬ (¬ a < 0 ∧ ¬ ni t < a) := fun z => q ⟨ix a, nx_of z.1, by
        have z2 := z.2
        rw [nx_of z.1, ni_lt (by omega) (ix_B a)] at z2
        omega, by
        have z2 := z.2
        rw [nx_of z.1, ni_lt (by omega) (ix_B a)] at z2
        omega⟩
      rw [decide_eq_false (by rw [ht.1]; exact zz), b2i_f] at w1
      unfold F_X12_group
      simp (disch := first | assumption | omega | ((repeat (first | assumption | apply G_wI | apply G_wL | apply CSh_wI | apply CSh_wL)); done) | decide) only [↓dO0, ↓dO1, ↓dA2, ↓dK2, ↓dT2, ↓dO3, ↓dO4, ↓dA5, ↓dK5, ↓dT5, ↓dA6, ↓dK6, ↓dT6, ↓dA7, ↓dK7, ↓dT7, ↓dO8, ↓dA9, ↓dK9, ↓dT9, ↓dA10, ↓dK10, ↓dT10, ↓dA11, ↓dK11, ↓dT11, ↓dO12, ↓dA13, ↓dK13, ↓dT13, ↓dO14, ↓dA15, ↓dK15, ↓dT15, ↓dO16, ↓dO29, ↓dO42, ↓dA43, ↓dK43, ↓dT43, ↓dA44, ↓dK44, ↓dT44, ↓dO45, ↓dA46, ↓dK46, ↓dT46, ↓dO47, ↓dA48, ↓dK48, ↓dT48, ↓dO49, ↓dA50, ↓dK50, ↓dT50, ↓dA51, ↓dK51, ↓dT51, ↓dA52, ↓dK52, ↓dT52, ↓dA53, ↓dK53, ↓dT53, ↓dA54, ↓dK54, ↓dT54, ↓dA215, ↓dK215, ↓dT215, ↓dA376, ↓dK376, ↓dT376, ↓dA383, ↓dK383, ↓dT383, ↓dA390, ↓dK390, ↓dT390, ↓dA391, ↓dK391, ↓dT391, ↓dA392, ↓dK392, ↓dT392, ↓dA473, ↓dK473, ↓dT473, ↓dA474, ↓dK474, ↓dT474, ↓dA475, ↓dK475, ↓dT475, ↓dA492, ↓dK492, ↓dT492, ↓dA496, ↓dK496, ↓dT496, ↓dA497, ↓dK497, ↓dT497, ↓dR0_0, ↓dR0_1, ↓dR0_2, ↓dR0_3, ↓dR0_4, ↓dR0_5, ↓dR0_6, ↓dR0_7, ↓dR0_8, ↓dR0_9, ↓dR0_10, ↓dR0_11, ↓dR0_12, ↓dR1_0, ↓dR4_2, ↓dR8_0, ↓dR8_1, ↓dR8_2, ↓dR12_5, ↓dR14_0, ↓dR14_1, ↓dR14_2, ↓dR42_0, ↓dR45_0, ↓dR49_9, ↓dR49_10, ↓dR49_11, ↓dR49_12, ↓dR49_15, ↓dR49_16, ↓dR49_17, ↓dR49_18, ↓dR49_19, ↓dR49_20, ↓dR49_21, ↓dR49_23, ↓dR49_24, ↓dR49_25, ↓dR49_26, ↓dR49_34, ↓dF54, ↓dB54, ↓dC54, ↓dF215, ↓dB215, ↓dC215, ↓dF376, ↓dB376, ↓dC376, ↓dF383, ↓dB383, ↓dC383, ↓dF392, ↓dB392, ↓dC392, ↓dF475, ↓dB475, ↓dC475, ↓dF492, ↓dB492, ↓dC492, ↓lt9_e, ↓jn_e, ↓bd_s, ↓bdE w1, ↓i10, ↓i00, ↓bdE b1]
