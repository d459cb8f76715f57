/-! L2: the call law. -/
theorem oneP_b {x : Nat → Nat} {n k a : Nat} {S : List Nat → Nat → LR} {acc : List Nat} (ha : a ≤ n) : oneP x n S k acc (blk x n a) = oneP x n S k acc a := by
  unfold oneP
  rw [blk_blk ha]
theorem sumL_b {x : Nat → Nat} {n a : Nat} (ha : a ≤ n) (k : Nat) (acc : List Nat) : sumL x n k acc (blk x n a) = sumL x n k acc a := by
  cases k with
  | zero =>
    unfold sumL sumP prodP
    rw [oneP_b ha]
  | succ k =>
    unfold sumL sumP prodP
    rw [oneP_b ha]
/-- a text of a law: read, and ended -/
def lwR (x : Nat → Nat) (n : Nat) : (List Nat) ⊕ (Nat × Nat) := match sumL x n 6 [] 0 with
  | .inr q => .inr q
  | .inl (acc, e) => if n ≤ blk x n e then .inl acc else .inr (1, blk x n e)
theorem rfL4 : ∀ e ∈ rfL, e.1 = 4 → e.2.1 = 2 := by decide
theorem rfA4 : ∀ e ∈ rfA, e.1 ≠ 4 := by decide
theorem G_w4 {m : Mm} {j : Nat} {v : Option Nat} (g : G m) (hj : j < 2) : G (wR m 4 j v) := by
  obtain ⟨g1, g2, g3, g4, g5⟩ := g
  refine ⟨g1, fun e he => ?_, fun e he i hi => ?_, fun a ha => ?_, fun a ha => ?_⟩
  · by_cases q : e.1 = 4
    · rw [q, rRw, uf_ne (by have := rfL4 e he q; omega), ← q]
      exact g2 e he
    · rw [rRw_ne q]
      exact g2 e he
  · rw [rRw_ne (rfA4 e he)]
    exact g3 e he i hi
  · rw [rRw_ne (by omega)]
    exact g4 a ha
  · rw [rRw_ne (by omega)]
    exact g5 a ha
theorem adr_w4 {m : Mm} {j : Nat} {v : Option Nat} (s : Shp m) {u : Nat} (hu : u < 69) : adr (wR m 4 j v) u = adr m u := by
  unfold adr
  rw [rRw_ne (a := 4) (b := 43) (by omega), rRw_ne (a := 4) (b := 44) (by omega)]
  split
  · rfl
  · split
    · rfl
    · split
      · rfl
      · next h0 h1 h2 =>
        cases e : rR m 44 ((u - 18) / 17) with
        | none => rw [oc_n, oc_n]
        | some A =>
          have z := (s.2.2 _ A (by omega) e).2.2.2.2.2.2
          rw [oc_s, oc_s, rRw_ne (by omega)]
theorem Shp_w4 {m : Mm} {j : Nat} {v : Option Nat} (s : Shp m) : Shp (wR m 4 j v) := by
  refine ⟨fun u p hu hp => ?_, fun u w p hu hw h1 h2 => ?_, fun i A hi hA => ?_⟩
  · rw [adr_w4 s hu] at hp
    have z := s.1 u p hu hp
    refine ⟨CSh_wR z.1 ?_, z.2⟩
    by_cases h0 : u = 0
    · subst h0
      cases hp
      omega
    · by_cases h1 : u = 1
      · subst h1
        cases hp
        omega
      · have := z.2 (by omega)
        omega
  · rw [adr_w4 s hu] at h1
    rw [adr_w4 s hw] at h2
    exact s.2.1 u w p hu hw h1 h2
  · rw [rRw_ne (by omega)] at hA
    obtain ⟨c1, c2, c3, c4, c5, c6, c7⟩ := s.2.2 i A hi hA
    exact ⟨c1, by rw [rRw_ne (by omega)]; exact c2, by rw [rRw_ne (by omega)]; exact c3, c4, by rw [rRw_ne (by omega)]; exact c5, c6, c7⟩
theorem StC_w4 {pk ik : Nat} {jk : Nat → Nat} {ct : Nat → St} {m : Mm} {j : Nat} {v : Option Nat} (hp : pk ≤ 16) (hi : ik ≤ 3) (hj : ∀ j, j < ik → jk j ≤ 16) (s : Shp m) (h : StC pk ik jk ct m) : StC pk ik jk ct (wR m 4 j v) := by
  refine ⟨h.1, h.2.1, fun i A hi' hA => ?_, fun u hu => ?_⟩
  · rw [rRw_ne (by omega)] at hA
    exact h.2.2.1 i A hi' hA
  · have w := Val_69 hp hi hj hu
    rw [cn_e (adr_w4 s w.1) (fun p _ => abs_wR m 4 j v p)]
    exact h.2.2.2 u hu
/-- the law read comes into force -/
theorem IC_swap {n l len : Nat} {cs : Nat → Nat} {bk : List (Nat × Nat)} {y : Nat → Nat} {t : Nat} {pl rf : Int32} {ru : Nat → Int32} {pk ik : Nat} {jk : Nat → Nat} {ct : Nat → St} {B qc qd : Nat} {acc : List Nat} {m : Mm} (p : IP n l len cs bk pk ik jk ct B) (h : IC n l len cs bk y t pl rf ru pk ik jk ct m) (hq : (qc = 5 ∧ qd = 6) ∨ (qc = 6 ∧ qd = 5)) (d : LD qd acc m) (h0 : rR m 4 0 = some qc) : IC n l acc.length (cd acc) bk y t pl rf ru pk ik jk ct (wI (wR (wR m 4 0 (some qd)) 4 1 (some qc)) 4 3 (ni acc.length)) := by
  obtain ⟨g, hN, ⟨⟨a1, a2⟩, -, b, c, e1, e2, e3⟩, s, st⟩ := IC_un h
  have hp := p.2.2.2.2
  have g1 : G (wR (wR m 4 0 (some qd)) 4 1 (some qc)) := G_w4 (G_w4 g (by omega)) (by omega)
  have s1 := Shp_w4 (j := 1) (v := some qc) (Shp_w4 (j := 0) (v := some qd) s)
  have t1 := StC_w4 (j := 1) (v := some qc) hp.1 hp.2.1 hp.2.2.1 (Shp_w4 (j := 0) (v := some qd) s) (StC_w4 (j := 0) (v := some qd) hp.1 hp.2.1 hp.2.2.1 s st)
  have f : Fm (fun b => b = 4) (wR (wR m 4 0 (some qd)) 4 1 (some qc)) (wI (wR (wR m 4 0 (some qd)) 4 1 (some qc)) 4 3 (ni acc.length)) := Fm_wI (Fm_refl _ _) rfl
  have w : ∀ b, b ≠ 4 → rI (wI (wR (wR m 4 0 (some qd)) 4 1 (some qc)) 4 3 (ni acc.length)) b = rI m b := fun b hb => rIw_ne hb
  refine IC_mk (G_fr f g1) hN ⟨⟨by rw [w 3 (by omega)]; exact a1, by rw [w 3 (by omega)]; exact a2⟩, ⟨qd, qc, by omega, ?_, ?_⟩, by rw [w 12 (by omega)]; exact b, ⟨by rw [w 1 (by omega)]; exact c.1, c.2.1, fun i hi => by rw [w 2 (by omega)]; exact c.2.2 i hi⟩, by rw [w 1 (by omega)]; exact e1, by rw [w 0 (by omega)]; exact e2, fun i hi => by rw [w 48 (by omega)]; exact e3 i hi⟩ (Shp_fr f s1) (StC_k hp.1 hp.2.1 hp.2.2.1 s1 t1 f (fun b z => by unfold reg; omega) (by rw [w 0 (by omega)]; rfl))
  · rw [rRwI, rRw, uf_at]
  · have k5 : (sH m)[qd]? = some (100, 150) := by
      rcases hq with ⟨-, rfl⟩ | ⟨-, rfl⟩
      · exact (g.1 6 (by omega)).trans sx6
      · exact (g.1 5 (by omega)).trans sx5
    refine ⟨(g.1 4 (by omega)).trans sx4, ?_, ?_, k5, (g.1 7 (by omega)).trans sx7, by omega, by omega, by rw [rIw, uf_at], fun i hi => ?_⟩
    · rw [rRwI, rRw, uf_ne (by omega), rRw, uf_at]
    · rw [rRwI, rRw, uf_ne (by omega), rRw, uf_ne (by omega)]
      exact gR4_2 g
    · rw [w qd (by omega)]
      exact d.2.2.2.2.2 i hi
theorem IC_L {n l len : Nat} {cs : Nat → Nat} {bk : List (Nat × Nat)} {y : Nat → Nat} {t : Nat} {pl rf : Int32} {ru : Nat → Int32} {pk ik : Nat} {jk : Nat → Nat} {ct : Nat → St} {y' : Nat → Nat} {t' : Nat} {pl' : Int32} {B qc qd : Nat} {m m' : Mm} (p : IP n l len cs bk pk ik jk ct B) (h : IC n l len cs bk y t pl rf ru pk ik jk ct m) (hq : (qc = 5 ∧ qd = 6) ∨ (qc = 6 ∧ qd = 5)) (h0 : rR m 4 0 = some qc) (f : Fm (fun b => b = 1 ∨ b = 4 ∨ b = qd) m m') (h4 : ∀ j, j ≠ 4 → rI m' 4 j = rI m 4 j) (c : CTp y' t' m') (e : rI m' 1 7 = pl') : IC n l len cs bk y' t' pl' rf ru pk ik jk ct m' := by
  have hr := (IC_un h).2.2.1
  have w : ∀ b, b ≠ 1 → b ≠ 4 → b ≠ qd → rI m' b = rI m b := fun b h1 h2 h3 => (f.1 b (by omega)).1
  refine IC_st p h f (fun b z => by unfold reg; omega) (by rw [w 0 (by omega) (by omega) (by omega)]) ?_
  obtain ⟨⟨a1, a2⟩, ⟨qc', qd', q1, q2, q3⟩, ⟨b1, b2, b3⟩, -, -, e2, e3⟩ := hr
  have eq : qc' = qc := by
    have z := q3.2.1
    rw [h0] at z
    exact (Option.some.inj z).symm
  subst eq
  refine ⟨⟨by rw [w 3 (by omega) (by omega) (by omega)]; exact a1, by rw [w 3 (by omega) (by omega) (by omega)]; exact a2⟩, ⟨qc', qd', q1, by rw [f.2.1]; exact q2, ?_⟩, ⟨by rw [w 12 (by omega) (by omega) (by omega)]; exact b1, by rw [w 12 (by omega) (by omega) (by omega)]; exact b2, by rw [w 12 (by omega) (by omega) (by omega)]; exact b3⟩, c, e, by rw [w 0 (by omega) (by omega) (by omega)]; exact e2, fun i hi => by rw [w 48 (by omega) (by omega) (by omega)]; exact e3 i hi⟩
  unfold LC
  rw [f.2.1, f.2.2.1, h4 3 (by omega), w qc' (by omega) (by omega) (by omega)]
  exact q3
theorem c_lawF {n l len : Nat} {cs : Nat → Nat} {bk : List (Nat × Nat)} {y : Nat → Nat} {t : Nat} {pl rf : Int32} {ru : Nat → Int32} {pk ik : Nat} {jk : Nat → Nat} {ct : Nat → St} {B x : Nat} {m : Mm} (p : IP n l len cs bk pk ik jk ct B) (h : IC n l len cs bk y t pl rf ru pk ik jk ct m) (hx : x ≤ t) (h150 : x ≤ 150) : (∀ acc, lwR y x = .inl acc → ∃ m1, F_X11_law 0 (ni x) m = some (.inl 1, m1) ∧ IC n l acc.length (cd acc) bk y 0 (-1) rf ru pk ik jk ct m1 ∧ Gc m m1 ∧ WFl (cd acc) acc.length) ∧ (∀ q s, lwR y x = .inr (q, s) → ∃ m1, F_X11_law 0 (ni x) m = some (.inl (ni q - 10), m1) ∧ IC n l len cs bk y 0 (ni s) rf ru pk ik jk ct m1 ∧ Gc m m1) := by
  have g := h.1
  have ct1 := h.2.2.2.2.2.1
  have k1 : F_X11_needText 0 (ni x) 150 m = some (.inl (), m) := needT_ok (most := 150) g ct1.1 ct1.2.1 (by omega) ⟨x, rfl, hx, h150⟩
  obtain ⟨m1, x1, x2, x3, x4, x5, x6⟩ := c_open g ct1 hx
  have g1 := x2.1
  have h1 : IC n l len cs bk y 0 (-1) rf ru pk ik jk ct m1 := IC_T p h x6 (fun b z => .inl z) (CTp_0 x4) x5
  obtain ⟨qc, qd, q1, q2, q3⟩ := h1.2.2.2.1
  have h0 := q3.2.1
  have f2 : Fm (fun b => b = 1 ∨ b = 4 ∨ b = qd) m1 (wI m1 4 4 0) := Fm_wI (Fm_refl _ _) (.inr (.inl rfl))
  have g2 : G (wI m1 4 4 0) := G_wI g1
  have ld : LD qd [] (wI m1 4 4 0) := ⟨g2, q2, by omega, by rw [rIw, uf_at]; rfl, by simp, fun i hi => by simp at hi⟩
  have tc : TC y x (wI m1 4 4 0) := by
    obtain ⟨c0, c1, c2, c3⟩ := x2
    refine ⟨g2, c1, by rw [rIw_ne (by omega)]; exact c2, fun i hi => ?_⟩
    rw [rIw_ne (by omega)]
    exact c3 i hi
  have z := c_lawK (x := y) (n := x) (qd := qd) h150 6 40 (by omega) (by omega) [] 0 0 (wI m1 4 4 0) ld tc (by rw [rIw_ne (by omega)]; exact x3) (by omega) (by simp)
  rw [show ni (6 - 6) = 0 from rfl] at z
  have qd4 : qd ≠ 1 ∧ qd ≠ 4 := by omega
  unfold lwR
  cases es : sumL y x 6 [] 0 with
  | inr qs =>
    obtain ⟨kk, pp⟩ := qs
    obtain ⟨m3, y1, y2⟩ := z.2 kk pp es
    have f3 : Fm (fun b => b = 1 ∨ b = 4 ∨ b = qd) m1 m3 := Fm_trans f2 y2.1
    have w1 : rI (wI m1 4 4 0) 1 = rI m1 1 := rIw_ne (by omega)
    have h3 : IC n l len cs bk y 0 (ni pp) rf ru pk ik jk ct m3 := IC_L p h1 q1 h0 f3 (fun j hj => by rw [y2.2.2.2.2.1 j hj, rIw, uf_ne hj]) (CTp_0 (by rw [y2.2.1 1 (by omega), w1]; exact x4)) y2.2.2.2.1
    have g3 := h3.1
    refine ⟨fun acc ha => (by cases ha), fun q s ha => ?_⟩
    cases ha
    refine ⟨m3, ?_, h3, Gc_m (Fm_trans (Fm_mono (fun b z => .inl z) x6) f3) (fun b z => by unfold CZ; omega)⟩
    have rd : F_X3_read 4 1 m1 = some (0, m3) := by
      unfold F_X3_read
      rw [gO4 g1, gd_t, lt9_e, gO4 g2, gd_t, bdE y1, if_pos rfl]
    unfold F_X11_law
    simp only [gO0 g, gd_t, bxL k1, gR0_0 g, oc_s, gO1 g, bdE x1, gO0 g1, gR0_2 g1, gR0_0 g1, gO4 g1, bdE rd, ↓i00, if_true, gO0 g3, gR0_0 g3, gO1 g3, y2.2.2.1]
  | inl ae =>
    obtain ⟨acc, e⟩ := ae
    obtain ⟨m3, y1, y2, y3, y4, y5, y6, y7⟩ := z.1 acc e es
    have tc3 : TC y x m3 := TC_L tc y2 y3.2.2.1
    obtain ⟨m4, u1, u2, u3, u4⟩ := c_isEnded tc3 y4 y5
    have f3 : Fm (fun b => b = 1 ∨ b = 4 ∨ b = qd) m1 m3 := Fm_trans f2 y2.1
    have f4 : Fm (fun b => b = 1 ∨ b = 4 ∨ b = qd) m1 m4 := Fm_trans f3 (Fm_mono (fun b z => .inl z) u2.1)
    have w1 : rI (wI m1 4 4 0) 1 = rI m1 1 := rIw_ne (by omega)
    have h44 : ∀ j, j ≠ 4 → rI m4 4 j = rI m1 4 j := fun j hj => by
      rw [(u2.1.1 4 (by omega)).1, y2.2.2 j hj, rIw, uf_ne hj]
    have c4 : rI m4 1 1 = ni 0 := by rw [u2.2 1 (by omega), y2.2.1 1 (by omega), w1]; exact x4
    have e4 : rI m4 1 7 = -1 := by rw [u2.2 7 (by omega), y2.2.1 7 (by omega), w1]; exact x5
    have h4 : IC n l len cs bk y 0 (-1) rf ru pk ik jk ct m4 := IC_L p h1 q1 h0 f4 h44 (CTp_0 c4) e4
    have g4 := h4.1
    have g3 := y3.1
    have ld4 : LD qd acc m4 := LD_s y3 u2
    have r0 : rR m4 4 0 = some qc := by rw [f4.2.1]; exact h0
    have r1 : rR m4 4 1 = some qd := by rw [f4.2.1]; exact q2
    refine ⟨fun acc' ha => ?_, fun q s ha => ?_⟩
    · by_cases en : x ≤ blk y x e
      · simp only [if_pos en] at ha
        cases ha
        rw [decide_eq_true en, b2i_t] at u1
        have h5 := IC_swap p h4 q1 ld4 r0
        refine ⟨_, ?_, h5, ?_, sumL_WFl es (by omega)⟩
        · have o8 : okO (wR m4 4 0 (some qd)) 4 3 = true := gO4 (G_w4 g4 (by omega))
          have o9 : okO (wR (wR m4 4 0 (some qd)) 4 1 (some qc)) 4 3 = true := gO4 (G_w4 (G_w4 g4 (by omega)) (by omega))
          have e9 : rI (wR (wR m4 4 0 (some qd)) 4 1 (some qc)) 4 4 = ni acc.length := ld4.2.2.2.1
          have rd : F_X3_read 4 1 m1 = some (1, wI (wR (wR m4 4 0 (some qd)) 4 1 (some qc)) 4 3 (ni acc.length)) := by
            unfold F_X3_read
            rw [gO4 g1, gd_t, lt9_e, gO4 g2, gd_t, bdE y1, if_neg (by decide), gO1 g3, gd_t, bdE u1, if_neg (by decide), gO4 g4, gd_t, r0, oc_s, gd_t, r1, oc_s, gd_t, lt9_e, o8, gd_t, lt9_e, o9, gd_t, gd_t, lt9_e, e9]
          unfold F_X11_law
          simp only [gO0 g, gd_t, bxL k1, gR0_0 g, oc_s, gO1 g, bdE x1, gO0 g1, gR0_2 g1, gR0_0 g1, gO4 g1, bdE rd, ↓i10]
        · refine Fg_mono (e := 0 + (0 + (0 + (0 + 0)))) (s := 0 + (0 + (0 + (0 + 0)))) (fun b z => z) (fun b z => z) (by omega) (by omega) (Fg_trans (Fm_Fg (Fm_mono (fun b z => ?_) x6)) (Fg_trans (Fm_Fg (Fm_mono (fun b z => ?_) f4)) (Fg_trans (Fg_mono (fun b z => z) (fun _ _ => trivial) (Nat.le_refl _) (Nat.le_refl _) (Fg_wR m4 4 0 (some qd))) (Fg_trans (Fg_mono (fun b z => z) (fun _ _ => trivial) (Nat.le_refl _) (Nat.le_refl _) (Fg_wR _ 4 1 (some qc))) (Fm_Fg (Fm_wI (Fm_refl _ _) ?_))))))
          · unfold CZ
            omega
          · unfold CZ
            omega
          · unfold CZ
            omega
      · simp only [if_neg en] at ha
        cases ha
    · by_cases en : x ≤ blk y x e
      · simp only [if_pos en] at ha
        cases ha
      · simp only [if_neg en] at ha
        cases ha
        rw [decide_eq_false en, b2i_f] at u1
        obtain ⟨m5, v1, v2⟩ := c_fail (k := 1) (p := blk y x e) g4
        have f5 : Fm (fun b => b = 1 ∨ b = 4 ∨ b = qd) m1 m5 := Fm_trans f4 (Fm_mono (fun b z => .inl z) v2.1)
        have h5 : IC n l len cs bk y 0 (ni (blk y x e)) rf ru pk ik jk ct m5 := IC_T p h4 v2.1 (fun b z => .inl z) (CTp_0 (by rw [v2.2.1 1 (by omega)]; exact c4)) v2.2.2.2
        have g5 := h5.1
        have v1' : F_X9_fail 1 1 (ni (blk y x e)) m4 = some (0, m5) := v1
        have rd : F_X3_read 4 1 m1 = some (0, m5) := by
          unfold F_X3_read
          rw [gO4 g1, gd_t, lt9_e, gO4 g2, gd_t, bdE y1, if_neg (by decide), gO1 g3, gd_t, bdE u1, if_pos rfl, gO1 g4, gd_t, gd_t, u3, bdE v1']
          rfl
        refine ⟨m5, ?_, h5, Gc_m (Fm_trans (Fm_mono (fun b z => .inl z) x6) f5) (fun b z => by unfold CZ; omega)⟩
        unfold F_X11_law
        simp only [gO0 g, gd_t, bxL k1, gR0_0 g, oc_s, gO1 g, bdE x1, gO0 g1, gR0_2 g1, gR0_0 g1, gO4 g1, bdE rd, ↓i00, if_true, gO0 g5, gR0_0 g5, gO1 g5, v2.2.2.1]
