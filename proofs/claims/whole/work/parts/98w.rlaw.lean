/-! L2: the reference's call law. -/
def RlK (v0 : Nat) (m : Mm) : Option (Int32 × Mm) :=
  gd (okO m v0 12) (
  if (rI m v0 5) = 0 then (
  gd (okO m v0 12) (lt9 (wI m v0 3 (-1 : Int32)) fun m13 =>
  gd (okO m13 v0 12) (
  gd (okO m13 v0 12) (lt9 (wI m13 v0 13 (rI m13 v0 14)) fun m14 =>
  gd (okO m14 v0 12) (oc (rR m14 v0 16) none fun q15 =>
  gd (okO m14 v0 12) (oc (rR m14 v0 15) none fun q16 =>
  gd (okO m14 v0 12) (
  bd (F_X12_lays q15 q16 (rI m14 v0 13) m14) fun r17 m18 =>
  some ((1 : Int32), m18))))))))
  else (
  gd (okO m v0 12) (bd (F_X12_ends v0 m) fun r19 m20 =>
  some (r19, m20))))
theorem RlK_f {m : Mm} {k s : Nat} (g : G m) (h5 : rI m 49 5 = ni k) (h6 : rI m 49 6 = ni s) (k0 : k ≠ 0) (k4 : k < 4) : RlK 49 m = some (ni k - 10, wI m 49 3 (ni s)) := by
  have e5 : (rI m 49 5 = 0) = False := by rw [h5]; exact k_n0 k0 k4
  unfold RlK
  simp only [gO49 g, gd_t, e5, if_false, bdE (r_endF g h5 h6)]
/-- the fault's end -/
theorem IR_end {n l len : Nat} {cs : Nat → Nat} {bk : List (Nat × Nat)} {y : Nat → Nat} {t : Nat} {pl rf : Int32} {ru : Nat → Int32} {pk ik : Nat} {jk : Nat → Nat} {ct : Nat → St} {B x s : Nat} {A : Nat → Prop} {m m1 : Mm} (p : IP n l len cs bk pk ik jk ct B) (h : IR n l len cs bk y t pl rf ru pk ik jk ct m) (f : Fm A m m1) (hA : ∀ b, A b → AT9 b ∧ b ≠ 473) (hj : ∀ j, j = 0 ∨ j = 13 ∨ j = 27 ∨ j = 28 ∨ j = 29 ∨ j = 30 → rI m1 49 j = rI m 49 j) (h1 : rI m1 49 1 = ni 0) (e0 : rI m 49 0 = 0) : rI (wI m1 49 3 (ni s)) 49 0 = 0 ∧ IR n l len cs bk y 0 (ni s) rf ru pk ik jk ct (wI m1 49 3 (ni s)) ∧ Gz m (wI m1 49 3 (ni s)) := by
  have f3 : Fm (fun b => A b ∨ b = 49) m (wI m1 49 3 (ni s)) := Fm_wI (Fm_mono (fun b z => .inl z) f) (.inr rfl)
  refine ⟨by rw [rIw, uf_ne (by omega), hj 0 (by omega)]; exact e0, IR_T p h f3 (fun b z => ?_) (fun j hj' => by rw [rIw, uf_ne (by omega), hj j (by omega)]) (RTp_0 (by rw [rIw, uf_ne (by omega)]; exact h1)) (by rw [rIw, uf_at]), Fm_mono (fun b z => ?_) f3⟩
  · rcases z with z | z
    · exact hA b z
    · unfold AT9
      omega
  · rcases z with z | z
    · have := (hA b z).1
      unfold AT9 at this
      omega
    · omega
theorem r_lawF {n l len : Nat} {cs : Nat → Nat} {bk : List (Nat × Nat)} {y : Nat → Nat} {t : Nat} {pl rf : Int32} {ru : Nat → Int32} {pk ik : Nat} {jk : Nat → Nat} {ct : Nat → St} {B x : Nat} {m : Mm} (p : IP n l len cs bk pk ik jk ct B) (g : G m) (h : IR n l len cs bk y t pl rf ru pk ik jk ct m) (hx : x ≤ t) (h150 : x ≤ 150) : (∀ acc, lwR y x = .inl acc → ∃ m1, F_X12_law 49 (ni x) m = some (1, m1) ∧ rI m1 49 0 = 0 ∧ IR n l acc.length (cd acc) bk y 0 (-1) rf ru pk ik jk ct m1 ∧ Gz m m1) ∧ (∀ q s, lwR y x = .inr (q, s) → ∃ m1, F_X12_law 49 (ni x) m = some (ni q - 10, m1) ∧ rI m1 49 0 = 0 ∧ IR n l len cs bk y 0 (ni s) rf ru pk ik jk ct m1 ∧ Gz m m1) := by
  have g0 : G (wI m 49 0 0) := G_wI g
  have h0 := IR_0 0 h
  have e0 := w0_0 m
  have ht := h0.2.2.2.1
  have b0 := bad_f (c := 1) (r := 1) g0 e0
  have w1 := inr (ni x) 0 (rI (wI m 49 0 0) 49 1) (wI m 49 0 0)
  rw [decide_eq_true (by rw [ht.1]; exact txt_in (most := 150) hx ht.2.1), b2i_t] at w1
  have l150 : (ni x ≤ (150 : Int32)) = True := eq_true (by rw [show (150 : Int32) = ni 150 from rfl, ni_le (by omega) (by omega)]; exact h150)
  obtain ⟨m1, x1, x2, x3, x4, x5, x6, x7, x8, x9, x10⟩ := r_starts (x := y) (n := x) g0 (by omega) (fun i hi => ht.2.2 i (by omega))
  have g1 := x4.1
  have bb := blk_le (x := y) (n := x) (a := 0) (by omega)
  have g2 : G (wI m1 49 14 0) := G_wI g1
  have f2 : Fm (fun b => b = 49) m1 (wI m1 49 14 0) := Fm_wI (Fm_refl _ _) rfl
  have j2 : ∀ j, j ≠ 14 → rI (wI m1 49 14 0) 49 j = rI m1 49 j := fun j hj => by rw [rIw, uf_ne hj]
  have rs : RS y x (blk y x 0) 0 [] (wI m1 49 14 0) := by
    obtain ⟨c0, c1, c2, c3⟩ := x4
    refine ⟨⟨g2, c1, by rw [j2 2 (by omega)]; exact c2, fun i hi => by rw [rIw_ne (by omega)]; exact c3 i hi⟩, by rw [j2 4 (by omega)]; exact x5, bb.2, by rw [j2 5 (by omega)]; exact x6, by rw [j2 8 (by omega)]; exact x9, by rw [rIw, uf_at]; rfl, by simp, fun i hi => by simp at hi⟩
  have z := (r_lawK (x := y) (n := x) h150 6 40 (by omega) (by omega)).2 [] (blk y x 0) 0 (wI m1 49 14 0) rs (by simp)
  rw [sumL_b (by omega)] at z
  have start : ∀ m2 X, F_X12_sum 40 49 (wI m1 49 14 0) = some ((), m2) → G m2 → ∀ m3, F_X12_blanks 49 m2 = some ((), m3) → G m3 → (if rI m3 49 5 = 0 then (if rI m3 49 2 ≤ rI m3 49 4 then RlK 49 m3 else bd (F_X12_wrong 49 1 (rI m3 49 4) m3) fun _ m22 => RlK 49 m22) else RlK 49 m3) = X → F_X12_law 49 (ni x) m = X := by
    intro m2 X k1 g3 m3 k2 g4 hX
    rw [← hX]
    unfold F_X12_law
    have ek : (fun (v0 : Nat) (m : Mm) => gd (okO m v0 12) (if rI m v0 5 = 0 then gd (okO m v0 12) (lt9 (wI m v0 3 (-1 : Int32)) fun m13 => gd (okO m13 v0 12) (gd (okO m13 v0 12) (lt9 (wI m13 v0 13 (rI m13 v0 14)) fun m14 => gd (okO m14 v0 12) (oc (rR m14 v0 16) none fun q15 => gd (okO m14 v0 12) (oc (rR m14 v0 15) none fun q16 => gd (okO m14 v0 12) (bd (F_X12_lays q15 q16 (rI m14 v0 13) m14) fun r17 m18 => some ((1 : Int32), m18))))))) else gd (okO m v0 12) (bd (F_X12_ends v0 m) fun r19 m20 => some (r19, m20)))) = RlK := rfl
    rw [ek]
    simp (disch := first | assumption | omega | ((repeat (first | assumption | apply G_wI | apply G_wL | apply CSh_wI | apply CSh_wL)); done) | decide) only [↓dO0, ↓dO1, ↓dA2, ↓dK2, ↓dT2, ↓dO3, ↓dO4, ↓dA5, ↓dK5, ↓dT5, ↓dA6, ↓dK6, ↓dT6, ↓dA7, ↓dK7, ↓dT7, ↓dO8, ↓dA9, ↓dK9, ↓dT9, ↓dA10, ↓dK10, ↓dT10, ↓dA11, ↓dK11, ↓dT11, ↓dO12, ↓dA13, ↓dK13, ↓dT13, ↓dO14, ↓dA15, ↓dK15, ↓dT15, ↓dO16, ↓dO29, ↓dO42, ↓dA43, ↓dK43, ↓dT43, ↓dA44, ↓dK44, ↓dT44, ↓dO45, ↓dA46, ↓dK46, ↓dT46, ↓dO47, ↓dA48, ↓dK48, ↓dT48, ↓dO49, ↓dA50, ↓dK50, ↓dT50, ↓dA51, ↓dK51, ↓dT51, ↓dA52, ↓dK52, ↓dT52, ↓dA53, ↓dK53, ↓dT53, ↓dA54, ↓dK54, ↓dT54, ↓dA215, ↓dK215, ↓dT215, ↓dA376, ↓dK376, ↓dT376, ↓dA383, ↓dK383, ↓dT383, ↓dA390, ↓dK390, ↓dT390, ↓dA391, ↓dK391, ↓dT391, ↓dA392, ↓dK392, ↓dT392, ↓dA473, ↓dK473, ↓dT473, ↓dA474, ↓dK474, ↓dT474, ↓dA475, ↓dK475, ↓dT475, ↓dA492, ↓dK492, ↓dT492, ↓dA496, ↓dK496, ↓dT496, ↓dA497, ↓dK497, ↓dT497, ↓dR0_0, ↓dR0_1, ↓dR0_2, ↓dR0_3, ↓dR0_4, ↓dR0_5, ↓dR0_6, ↓dR0_7, ↓dR0_8, ↓dR0_9, ↓dR0_10, ↓dR0_11, ↓dR0_12, ↓dR1_0, ↓dR4_2, ↓dR8_0, ↓dR8_1, ↓dR8_2, ↓dR12_5, ↓dR14_0, ↓dR14_1, ↓dR14_2, ↓dR42_0, ↓dR45_0, ↓dR49_9, ↓dR49_10, ↓dR49_11, ↓dR49_12, ↓dR49_15, ↓dR49_16, ↓dR49_17, ↓dR49_18, ↓dR49_19, ↓dR49_20, ↓dR49_21, ↓dR49_23, ↓dR49_24, ↓dR49_25, ↓dR49_26, ↓dR49_34, ↓dF54, ↓dB54, ↓dC54, ↓dF215, ↓dB215, ↓dC215, ↓dF376, ↓dB376, ↓dC376, ↓dF383, ↓dB383, ↓dC383, ↓dF392, ↓dB392, ↓dC392, ↓dF475, ↓dB475, ↓dC475, ↓dF492, ↓dB492, ↓dC492, ↓lt9_e, ↓jn_e, ↓bd_s, ↓bdE w1, ↓i10, ↓i00, l150, ↓reduceIte, ↓bdE b0, ↓bdE x1, ↓bdE k1, ↓bdE k2]
  cases es : sumL y x 6 [] 0 with
  | inr qs =>
    obtain ⟨kk, pp⟩ := qs
    obtain ⟨m2, y1, y2, y3⟩ := z.2 kk pp es
    obtain ⟨tr2, y5, y6, k0, k4, a, ha, y4⟩ := y3
    obtain ⟨m3, u1, u2, u3⟩ := r_blanks tr2 y4 ha
    have g3 := tr2.1
    have g4 := G_fr u2.1 g3
    have v5 : rI m3 49 5 = ni kk := by rw [u2.2 5 (by omega)]; exact y5
    have v6 : rI m3 49 6 = ni pp := by rw [u2.2 6 (by omega)]; exact y6
    unfold lwR
    rw [es]
    refine ⟨fun acc ha => (by cases ha), fun q s ha => ?_⟩
    cases ha
    have e5 : (rI m3 49 5 = 0) = False := by rw [v5]; exact k_n0 k0 k4
    have f3 : Fm (fun b => b = 49 ∨ (216 ≤ b ∧ b < 376)) (wI m 49 0 0) m3 := Fm_trans (Fm_mono (fun b z => .inl z) x2) (Fm_trans (Fm_mono (fun b z => .inl z) f2) (Fm_trans y2.1 (Fm_mono (fun b z => .inl z) u2.1)))
    have w49 : ∀ j, j = 0 ∨ j = 13 ∨ j = 27 ∨ j = 28 ∨ j = 29 ∨ j = 30 → rI m3 49 j = rI (wI m 49 0 0) 49 j := fun j hj => by
      rw [u2.2 j (by omega), y2.2 j (by omega) (by omega) (by omega) (by omega) (by omega), j2 j (by omega), x3 j (by omega) (by omega) (by omega) (by omega) (by omega) (by omega) (by omega)]
    have h1 : rI m3 49 1 = ni 0 := by
      rw [u2.2 1 (by omega), y2.2 1 (by omega) (by omega) (by omega) (by omega) (by omega), j2 1 (by omega)]
      exact x10
    obtain ⟨a1, a2, a3⟩ := IR_end (x := x) (s := pp) p h0 f3 (fun b z => by unfold AT9; omega) w49 h1 e0
    refine ⟨_, start m2 _ y1 g3 m3 u1 g4 ?_, a1, a2, Fm_trans (Gz_0 m 0 0) a3⟩
    rw [if_neg (by rw [e5]; exact fun z => z)]
    exact RlK_f g4 v5 v6 k0 k4
  | inl ae =>
    obtain ⟨acc, e⟩ := ae
    obtain ⟨m2, y1, y2, y3, y4, y5⟩ := z.1 acc e es
    obtain ⟨tr2, y6, he, y7, y8, rn⟩ := y3
    obtain ⟨m3, u1, u2, u3⟩ := r_blanks tr2 y6 he
    have g3 := tr2.1
    have g4 := G_fr u2.1 g3
    have tr3 := TR_s tr2 u2
    have v5 : rI m3 49 5 = 0 := by rw [u2.2 5 (by omega)]; exact y7
    have v5' := eq_true v5
    have v2 : rI m3 49 2 = ni x := tr3.2.2.1
    have rn3 := RN_s rn u2
    have be := blk_le (x := y) (n := x) (a := e) he
    have f3 : Fm (fun b => b = 49 ∨ (216 ≤ b ∧ b < 376)) (wI m 49 0 0) m3 := Fm_trans (Fm_mono (fun b z => .inl z) x2) (Fm_trans (Fm_mono (fun b z => .inl z) f2) (Fm_trans y2.1 (Fm_mono (fun b z => .inl z) u2.1)))
    have w49 : ∀ j, j = 0 ∨ j = 13 ∨ j = 27 ∨ j = 28 ∨ j = 29 ∨ j = 30 → rI m3 49 j = rI (wI m 49 0 0) 49 j := fun j hj => by
      rw [u2.2 j (by omega), y2.2 j (by omega) (by omega) (by omega) (by omega) (by omega), j2 j (by omega), x3 j (by omega) (by omega) (by omega) (by omega) (by omega) (by omega) (by omega)]
    have h1 : rI m3 49 1 = ni 0 := by
      rw [u2.2 1 (by omega), y2.2 1 (by omega) (by omega) (by omega) (by omega) (by omega), j2 1 (by omega)]
      exact x10
    unfold lwR
    rw [es]
    refine ⟨fun acc' ha => ?_, fun q s ha => ?_⟩
    · by_cases en : x ≤ blk y x e
      · simp only [if_pos en] at ha
        cases ha
        have en' : rI m3 49 2 ≤ rI m3 49 4 := by
          rw [v2, u3, ni_le (by omega) (by omega)]
          exact en
        have g5 : G (wI (wI m3 49 3 (-1)) 49 13 (ni acc.length)) := G_wI (G_wI g4)
        obtain ⟨m4, t1, t2, t3⟩ := r_lays (a := 215) (b := 54) (N := 160) (many := acc.length) (by omega) (by have := rn3.2.1; omega) (.inr (by omega)) (Ly_law g5)
        have l150' := rn3.2.1
        have ww : ∀ b, b ≠ 49 → ¬ (55 ≤ b ∧ b ≤ 214) → ¬ (216 ≤ b ∧ b < 376) → rI m4 b = rI (wI m 49 0 0) b := fun b h1 h2 h3 => by
          rw [(t2.1 b (by omega)).1, rIw_ne h1, rIw_ne h1, (f3.1 b (by omega)).1]
        have w4 : ∀ j, j = 0 ∨ j = 27 ∨ j = 28 ∨ j = 29 ∨ j = 30 → rI m4 49 j = rI (wI m 49 0 0) 49 j := fun j hj => by
          rw [(t2.1 49 (by omega)).1, rIw, uf_ne (by omega), rIw, uf_ne (by omega), w49 j (by omega)]
        refine ⟨m4, start m2 _ y1 g3 m3 u1 g4 ?_, by rw [w4 0 (by omega)]; exact e0, ?_, ?_⟩
        · rw [if_pos v5, if_pos en']
          have o1 : okO (wI m3 49 3 (-1)) 49 12 = true := gO49 (G_wI g4)
          have e14 : rI (wI m3 49 3 (-1)) 49 14 = ni acc.length := by rw [rIw, uf_ne (by omega)]; exact rn3.1
          have e13 : rI (wI (wI m3 49 3 (-1)) 49 13 (ni acc.length)) 49 13 = ni acc.length := by rw [rIw, uf_at]
          unfold RlK
          rw [gO49 g4, gd_t, if_pos v5, gd_t, lt9_e, o1, gd_t, gd_t, lt9_e, e14, gO49 g5, gd_t, gR49_16 g5, oc_s, gd_t, gR49_15 g5, oc_s, gd_t, e13, bdE t1]
        · obtain ⟨⟨a1, a2⟩, -, ⟨c1, c2⟩, -, -, e2, e3, s1, s2, s3, s4⟩ := h0
          have hb6 := BK_len p.2.2.2.1
          refine ⟨⟨by rw [ww 53 (by omega) (by omega) (by omega)]; exact a1, by rw [ww 53 (by omega) (by omega) (by omega)]; exact a2⟩, .inr ⟨?_, fun i hi => ?_⟩, ⟨fun i hi => ?_, by rw [w4 27 (by omega)]; exact c2⟩, RTp_0 ?_, ?_, by rw [w4 29 (by omega)]; exact e2, fun i hi => by rw [ww 51 (by omega) (by omega) (by omega)]; exact e3 i hi, by rw [w4 28 (by omega)]; exact s1, by rw [w4 30 (by omega)]; exact s2, fun j hj => by have := p.2.2.2.2.2.1; rw [ww (493 + j) (by omega) (by omega) (by omega)]; exact s3 j hj, fun u hu => ?_⟩
          · rw [(t2.1 49 (by omega)).1, rIw, uf_at]
          · have q1 := t3 i hi 0 (by omega)
            have q2 := t3 i hi 1 (by omega)
            have q3 := rn3.2.2 i hi
            rw [q1, q2, rIw_ne (by omega), rIw_ne (by omega)]
            exact q3
          · rw [ww (376 + 1 + i) (by omega) (by omega) (by omega)]
            exact c1 i hi
          · rw [(t2.1 49 (by omega)).1, rIw, uf_ne (by omega), rIw, uf_ne (by omega)]
            exact h1
          · rw [(t2.1 49 (by omega)).1, rIw, uf_ne (by omega), rIw, uf_at]
          · have zz := rc9_r p.2.2.2.2.1 p.2.2.2.2.2.1 hu
            rw [ww (rc9 u) (by omega) (by omega) (by omega)]
            exact s4 u hu
        · exact Fm_trans (Gz_0 m 0 0) (Fm_trans (Fm_mono (fun b z => by omega) f3) (Fm_trans (Fm_wI (Fm_wI (Fm_refl _ _) (by omega)) (by omega)) (Fm_mono (fun b z => by omega) t2)))
      · simp only [if_neg en] at ha
        cases ha
    · by_cases en : x ≤ blk y x e
      · simp only [if_pos en] at ha
        cases ha
      · simp only [if_neg en] at ha
        cases ha
        have en' : ¬ rI m3 49 2 ≤ rI m3 49 4 := by
          rw [v2, u3, ni_le (by omega) (by omega)]
          exact en
        obtain ⟨m4, t1, t2⟩ := r_wrong (n := x) (k := 1) (p := blk y x e) g4 v5 u3 be.2
        have g5 := G_fr t2.1 g4
        obtain ⟨a1, a2, a3⟩ := IR_end (x := x) (s := blk y x e) (m1 := m4) p h0 (Fm_trans f3 (Fm_mono (fun b z => .inl z) t2.1)) (fun b z => by unfold AT9; omega) (fun j hj => by rw [t2.2.1 j (by omega) (by omega) (by omega), w49 j hj]) (by rw [t2.2.1 1 (by omega) (by omega) (by omega)]; exact h1) e0
        refine ⟨_, start m2 _ y1 g3 m3 u1 g4 ?_, a1, a2, Fm_trans (Gz_0 m 0 0) a3⟩
        rw [if_pos v5, if_neg en', u3]
        have t1' : F_X12_wrong 49 1 (ni (blk y x e)) m3 = some ((), m4) := t1
        rw [bdE t1']
        exact RlK_f g5 t2.2.2.1 t2.2.2.2.1 (by omega) (by omega)
theorem hxl_n : (∀ k, hx_L_law k ≠ some 0) := fun k => by
  unfold hx_L_law
  split
  · decide
  · exact fun z => by cases z
theorem C_law {k : Nat} {m : Mm} {a : Int32} (hk : k ≤ 600) (h : Inv k m) : Cl1 k m (wrI hx_L_law (F_X11_law 0 a)) (F_X12_law 49 a) := by
  obtain ⟨n, l, len, cs, bk, y, t, pl, rf, ru, pk, ik, jk, ct, hC, hR, p, h1, h2⟩ := h
  have p' := IP_B p (show 1 + 201 * k ≤ 1 + 201 * (k + 1) by omega) (by omega)
  have ctp := hC.2.2.2.2.2.1
  by_cases q : txt t 150 a
  · obtain ⟨x, rfl, hx, h60⟩ := q
    cases e : lwR y x with
    | inl acc =>
      obtain ⟨m1, x1, x2, x3, x4⟩ := (c_lawF p hC hx h60).1 acc e
      exact cal3 hC hR p h1 h2 (v := 1) ⟨p'.1, p'.2.1, x4, p'.2.2.2⟩ ⟨m1, x1, x2, x3⟩ (fun m1 g1 hR1 => (r_lawF p g1 hR1 hx h60).1 acc e)
    | inr qs =>
      obtain ⟨q, s⟩ := qs
      exact cal3 hC hR p h1 h2 (v := ni q - 10) p' ((c_lawF p hC hx h60).2 q s e) (fun m1 g1 hR1 => (r_lawF p g1 hR1 hx h60).2 q s e)
  · refine cal1 (R := .inr 1) hC hR p h1 h2 hk hxl_n ⟨by omega, 6, by omega, ?_⟩ (fun m1 g1 hR1 => ⟨1, rfl, ?_⟩)
    · have k1 : F_X11_needText 0 a 150 m = _ := needT_no (most := 150) hC.1 ctp.1 ctp.2.1 (by omega) q (by unfold K9; omega)
      unfold F_X11_law
      rw [gO0 hC.1, gd_t, bxR k1]
    · have g0 : G (wI m1 49 0 0) := G_wI g1
      have h0 := IR_0 0 hR1
      have ht := h0.2.2.2.1
      have b1 : F_X12_bad 49 1 1 1 (wI m1 49 0 0) = some (1, bdM m1 1 1) := bad_t (k := 1) g1 (by omega) (by decide)
      have w1 := inr a 0 (rI (wI m1 49 0 0) 49 1) (wI m1 49 0 0)
      unfold F_X12_law
      rcases txt_no ht.2.1 (by omega) q with z | ⟨z, z2⟩
      · rw [decide_eq_false (by rw [ht.1]; exact z), b2i_f] at w1
        simp (disch := first | assumption | omega | ((repeat (first | assumption | apply G_wI | apply G_wL | apply CSh_wI | apply CSh_wL)); done) | decide) only [↓dO0, ↓dO1, ↓dA2, ↓dK2, ↓dT2, ↓dO3, ↓dO4, ↓dA5, ↓dK5, ↓dT5, ↓dA6, ↓dK6, ↓dT6, ↓dA7, ↓dK7, ↓dT7, ↓dO8, ↓dA9, ↓dK9, ↓dT9, ↓dA10, ↓dK10, ↓dT10, ↓dA11, ↓dK11, ↓dT11, ↓dO12, ↓dA13, ↓dK13, ↓dT13, ↓dO14, ↓dA15, ↓dK15, ↓dT15, ↓dO16, ↓dO29, ↓dO42, ↓dA43, ↓dK43, ↓dT43, ↓dA44, ↓dK44, ↓dT44, ↓dO45, ↓dA46, ↓dK46, ↓dT46, ↓dO47, ↓dA48, ↓dK48, ↓dT48, ↓dO49, ↓dA50, ↓dK50, ↓dT50, ↓dA51, ↓dK51, ↓dT51, ↓dA52, ↓dK52, ↓dT52, ↓dA53, ↓dK53, ↓dT53, ↓dA54, ↓dK54, ↓dT54, ↓dA215, ↓dK215, ↓dT215, ↓dA376, ↓dK376, ↓dT376, ↓dA383, ↓dK383, ↓dT383, ↓dA390, ↓dK390, ↓dT390, ↓dA391, ↓dK391, ↓dT391, ↓dA392, ↓dK392, ↓dT392, ↓dA473, ↓dK473, ↓dT473, ↓dA474, ↓dK474, ↓dT474, ↓dA475, ↓dK475, ↓dT475, ↓dA492, ↓dK492, ↓dT492, ↓dA496, ↓dK496, ↓dT496, ↓dA497, ↓dK497, ↓dT497, ↓dR0_0, ↓dR0_1, ↓dR0_2, ↓dR0_3, ↓dR0_4, ↓dR0_5, ↓dR0_6, ↓dR0_7, ↓dR0_8, ↓dR0_9, ↓dR0_10, ↓dR0_11, ↓dR0_12, ↓dR1_0, ↓dR4_2, ↓dR8_0, ↓dR8_1, ↓dR8_2, ↓dR12_5, ↓dR14_0, ↓dR14_1, ↓dR14_2, ↓dR42_0, ↓dR45_0, ↓dR49_9, ↓dR49_10, ↓dR49_11, ↓dR49_12, ↓dR49_15, ↓dR49_16, ↓dR49_17, ↓dR49_18, ↓dR49_19, ↓dR49_20, ↓dR49_21, ↓dR49_23, ↓dR49_24, ↓dR49_25, ↓dR49_26, ↓dR49_34, ↓dF54, ↓dB54, ↓dC54, ↓dF215, ↓dB215, ↓dC215, ↓dF376, ↓dB376, ↓dC376, ↓dF383, ↓dB383, ↓dC383, ↓dF392, ↓dB392, ↓dC392, ↓dF475, ↓dB475, ↓dC475, ↓dF492, ↓dB492, ↓dC492, ↓lt9_e, ↓jn_e, ↓bd_s, ↓bdE w1, ↓i10, ↓i00, ↓bdE b1]
      · rw [decide_eq_true (by rw [ht.1]; exact z), b2i_t] at w1
        have l60 : (a ≤ (150 : Int32)) = False := eq_false z2
        simp (disch := first | assumption | omega | ((repeat (first | assumption | apply G_wI | apply G_wL | apply CSh_wI | apply CSh_wL)); done) | decide) only [↓dO0, ↓dO1, ↓dA2, ↓dK2, ↓dT2, ↓dO3, ↓dO4, ↓dA5, ↓dK5, ↓dT5, ↓dA6, ↓dK6, ↓dT6, ↓dA7, ↓dK7, ↓dT7, ↓dO8, ↓dA9, ↓dK9, ↓dT9, ↓dA10, ↓dK10, ↓dT10, ↓dA11, ↓dK11, ↓dT11, ↓dO12, ↓dA13, ↓dK13, ↓dT13, ↓dO14, ↓dA15, ↓dK15, ↓dT15, ↓dO16, ↓dO29, ↓dO42, ↓dA43, ↓dK43, ↓dT43, ↓dA44, ↓dK44, ↓dT44, ↓dO45, ↓dA46, ↓dK46, ↓dT46, ↓dO47, ↓dA48, ↓dK48, ↓dT48, ↓dO49, ↓dA50, ↓dK50, ↓dT50, ↓dA51, ↓dK51, ↓dT51, ↓dA52, ↓dK52, ↓dT52, ↓dA53, ↓dK53, ↓dT53, ↓dA54, ↓dK54, ↓dT54, ↓dA215, ↓dK215, ↓dT215, ↓dA376, ↓dK376, ↓dT376, ↓dA383, ↓dK383, ↓dT383, ↓dA390, ↓dK390, ↓dT390, ↓dA391, ↓dK391, ↓dT391, ↓dA392, ↓dK392, ↓dT392, ↓dA473, ↓dK473, ↓dT473, ↓dA474, ↓dK474, ↓dT474, ↓dA475, ↓dK475, ↓dT475, ↓dA492, ↓dK492, ↓dT492, ↓dA496, ↓dK496, ↓dT496, ↓dA497, ↓dK497, ↓dT497, ↓dR0_0, ↓dR0_1, ↓dR0_2, ↓dR0_3, ↓dR0_4, ↓dR0_5, ↓dR0_6, ↓dR0_7, ↓dR0_8, ↓dR0_9, ↓dR0_10, ↓dR0_11, ↓dR0_12, ↓dR1_0, ↓dR4_2, ↓dR8_0, ↓dR8_1, ↓dR8_2, ↓dR12_5, ↓dR14_0, ↓dR14_1, ↓dR14_2, ↓dR42_0, ↓dR45_0, ↓dR49_9, ↓dR49_10, ↓dR49_11, ↓dR49_12, ↓dR49_15, ↓dR49_16, ↓dR49_17, ↓dR49_18, ↓dR49_19, ↓dR49_20, ↓dR49_21, ↓dR49_23, ↓dR49_24, ↓dR49_25, ↓dR49_26, ↓dR49_34, ↓dF54, ↓dB54, ↓dC54, ↓dF215, ↓dB215, ↓dC215, ↓dF376, ↓dB376, ↓dC376, ↓dF383, ↓dB383, ↓dC383, ↓dF392, ↓dB392, ↓dC392, ↓dF475, ↓dB475, ↓dC475, ↓dF492, ↓dB492, ↓dC492, ↓lt9_e, ↓jn_e, ↓bd_s, ↓bdE w1, ↓i10, ↓i00, l60, ↓reduceIte, ↓bdE b1]
