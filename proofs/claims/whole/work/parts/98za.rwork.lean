/-! L2: the call work (reference). -/
def RwK (v0 : Nat) (m : Mm) : Option (Int32 × Mm) :=
  gd (okO m v0 12) (
  if (rI m v0 5) = 0 then (
  gd (okO m v0 12) (lt9 (wI m v0 3 (-1 : Int32)) fun m13 =>
  gd (okO m13 v0 12) (oc (rR m13 v0 23) none fun q14 =>
  gd (okO m13 v0 12) (oc (rR m13 v0 25) none fun q15 =>
  gd (okO m13 v0 12) (
  gd (okA m13 106 q15 (rI m13 v0 28)) (oc (rR m13 q15 (ix (rI m13 v0 28))) none fun q16 =>
  bd (F_X12_copies q14 q16 m13) fun r17 m18 =>
  gd (okO m18 v0 12) (
  gd (okO m18 v0 12) (lt9 (wI m18 v0 28 ((rI m18 v0 28) + (1 : Int32))) fun m19 =>
  gd (okO m19 v0 12) (lt9 (wI m19 v0 32 (0 : Int32)) fun m20 =>
  gd (okO m20 v0 12) (lt9 (wI m20 v0 33 (0 : Int32)) fun m21 =>
  gd (okO m21 v0 12) (lt9 (wI m21 v0 29 (0 : Int32)) fun m22 =>
  gd (okO m22 v0 12) (
  gd (okO m22 v0 12) (bd (F_X12_goes 40 v0 (0 : Int32) (rI m22 v0 22) m22) fun r23 m24 =>
  gd (okO m24 v0 12) (
  some ((rI m24 v0 33), m24)))))))))))))))
  else (
  gd (okO m v0 12) (bd (F_X12_ends v0 m) fun r25 m26 =>
  some (r25, m26))))
theorem sts_b {x : Nat → Nat} {n N k f a : Nat} {top : Bool} {S : List Q4 → Nat → SR} {acc : List Q4} (ha : a ≤ n) : stsP x n N top S k (f + 1) acc (blk x n a) = stsP x n N top S k (f + 1) acc a := by
  rw [stsP, stsP, blk_blk ha]
theorem r_workF {n l len : Nat} {cs : Nat → Nat} {bk : List (Nat × Nat)} {y : Nat → Nat} {t : Nat} {pl rf : Int32} {ru : Nat → Int32} {pk ik : Nat} {jk : Nat → Nat} {ct : Nat → St} {B x : Nat} {m : Mm} (p : IP n l len cs bk pk ik jk ct B) (hB : B + 201 < 1000000) (g : G m) (h : IR n l len cs bk y t pl rf ru pk ik jk ct m) (hx : x ≤ t) (h150 : x ≤ 150) : (pk = 16 → ∃ m1, F_X12_work 49 (ni x) m = some (-20, m1) ∧ rI m1 49 0 = 0 ∧ IR n l len cs bk y 0 (-1) rf ru pk ik jk ct m1 ∧ Gz m m1) ∧ (pk < 16 → (∀ acc e, wkP y x n = .inl (acc, e) → ∃ m1, F_X12_work 49 (ni x) m = some (ni (rnW cs len n l acc (ct 0)).2.2.1, m1) ∧ rI m1 49 0 = 0 ∧ IR n l len cs bk y 0 (-1) (ni (rnW cs len n l acc (ct 0)).2.2.2) ru (pk + 1) ik jk (ctW ct pk (rnW cs len n l acc (ct 0)).1) m1 ∧ Gz m m1) ∧ (∀ q s, wkP y x n = .inr (q, s) → ∃ m1, F_X12_work 49 (ni x) m = some (ni q - 10, m1) ∧ rI m1 49 0 = 0 ∧ IR n l len cs bk y 0 (ni s) rf ru pk ik jk ct m1 ∧ Gz m m1)) := by
  have g0 : G (wI m 49 0 0) := G_wI g
  have h0 := IR_0 0 h
  have e0 := w0_0 m
  have ht := h0.2.2.2.1
  have hp16 := p.2.2.2.2.1
  have b0 := bad_f (c := 1) (r := 1) g0 e0
  have w1 := inr (ni x) 0 (rI (wI m 49 0 0) 49 1) (wI m 49 0 0)
  rw [decide_eq_true (by rw [ht.1]; exact txt_in (most := 150) hx ht.2.1), b2i_t] at w1
  have l150 : (ni x ≤ (150 : Int32)) = True := eq_true (by rw [show (150 : Int32) = ni 150 from rfl, ni_le (by omega) (by omega)]; exact h150)
  have s28 : rI (wI m 49 0 0) 49 28 = ni pk := (IR_un h0).2.1
  refine ⟨fun e => ?_, fun hlt => ?_⟩
  · subst e
    have e16 : (rI (wI m 49 0 0) 49 28 = (16 : Int32)) = True := eq_true s28
    have f1 : Fm (fun b => b = 49) (wI m 49 0 0) (wI (wI (wI m 49 0 0) 49 1 0) 49 3 (-1)) := Fm_wI (Fm_wI (Fm_refl _ _) rfl) rfl
    refine ⟨wI (wI (wI m 49 0 0) 49 1 0) 49 3 (-1), ?_, ?_, IR_T p h0 f1 (fun b z => by unfold AT9; omega) (fun j hj => ?_) (RTp_0 ?_) ?_, Fm_trans (Gz_0 m 0 0) (Fm_mono (fun b z => by omega) f1)⟩
    · unfold F_X12_work
      simp (disch := first | assumption | omega | ((repeat (first | assumption | apply G_wI | apply G_wL | apply CSh_wI | apply CSh_wL)); done) | decide) only [↓dO0, ↓dO1, ↓dA2, ↓dK2, ↓dT2, ↓dO3, ↓dO4, ↓dA5, ↓dK5, ↓dT5, ↓dA6, ↓dK6, ↓dT6, ↓dA7, ↓dK7, ↓dT7, ↓dO8, ↓dA9, ↓dK9, ↓dT9, ↓dA10, ↓dK10, ↓dT10, ↓dA11, ↓dK11, ↓dT11, ↓dO12, ↓dA13, ↓dK13, ↓dT13, ↓dO14, ↓dA15, ↓dK15, ↓dT15, ↓dO16, ↓dO29, ↓dO42, ↓dA43, ↓dK43, ↓dT43, ↓dA44, ↓dK44, ↓dT44, ↓dO45, ↓dA46, ↓dK46, ↓dT46, ↓dO47, ↓dA48, ↓dK48, ↓dT48, ↓dO49, ↓dA50, ↓dK50, ↓dT50, ↓dA51, ↓dK51, ↓dT51, ↓dA52, ↓dK52, ↓dT52, ↓dA53, ↓dK53, ↓dT53, ↓dA54, ↓dK54, ↓dT54, ↓dA215, ↓dK215, ↓dT215, ↓dA376, ↓dK376, ↓dT376, ↓dA383, ↓dK383, ↓dT383, ↓dA390, ↓dK390, ↓dT390, ↓dA391, ↓dK391, ↓dT391, ↓dA392, ↓dK392, ↓dT392, ↓dA473, ↓dK473, ↓dT473, ↓dA474, ↓dK474, ↓dT474, ↓dA475, ↓dK475, ↓dT475, ↓dA492, ↓dK492, ↓dT492, ↓dA496, ↓dK496, ↓dT496, ↓dA497, ↓dK497, ↓dT497, ↓dR0_0, ↓dR0_1, ↓dR0_2, ↓dR0_3, ↓dR0_4, ↓dR0_5, ↓dR0_6, ↓dR0_7, ↓dR0_8, ↓dR0_9, ↓dR0_10, ↓dR0_11, ↓dR0_12, ↓dR1_0, ↓dR4_2, ↓dR8_0, ↓dR8_1, ↓dR8_2, ↓dR12_5, ↓dR14_0, ↓dR14_1, ↓dR14_2, ↓dR42_0, ↓dR45_0, ↓dR49_9, ↓dR49_10, ↓dR49_11, ↓dR49_12, ↓dR49_15, ↓dR49_16, ↓dR49_17, ↓dR49_18, ↓dR49_19, ↓dR49_20, ↓dR49_21, ↓dR49_23, ↓dR49_24, ↓dR49_25, ↓dR49_26, ↓dR49_34, ↓dF54, ↓dB54, ↓dC54, ↓dF215, ↓dB215, ↓dC215, ↓dF376, ↓dB376, ↓dC376, ↓dF383, ↓dB383, ↓dC383, ↓dF392, ↓dB392, ↓dC392, ↓dF475, ↓dB475, ↓dC475, ↓dF492, ↓dB492, ↓dC492, ↓lt9_e, ↓jn_e, ↓bd_s, ↓bdE w1, ↓i10, ↓i00, l150, ↓reduceIte, ↓bdE b0, e16]
    · rw [rIw, uf_ne (by omega), rIw, uf_ne (by omega)]
      exact e0
    · rw [rIw, uf_ne (by omega), rIw, uf_ne (by omega)]
    · rw [rIw, uf_ne (by omega), rIw, uf_at]
      rfl
    · rw [rIw, uf_at]
  · have e16 : (rI (wI m 49 0 0) 49 28 = (16 : Int32)) = False := eq_false (fun z => by
      rw [s28, show (16 : Int32) = ni 16 from rfl, ni_eq (by omega) (by omega)] at z
      omega)
    obtain ⟨m1, x1, x2, x3, x4, x5, x6, x7, x8, x9, x10⟩ := r_starts (x := y) (n := x) g0 (by omega) (fun i hi => ht.2.2 i (by omega))
    have g1 := x4.1
    have bb := blk_le (x := y) (n := x) (a := 0) (by omega)
    have g2 : G (wI m1 49 22 0) := G_wI g1
    have f2 : Fm (fun b => b = 49) m1 (wI m1 49 22 0) := Fm_wI (Fm_refl _ _) rfl
    have j2 : ∀ j, j ≠ 22 → rI (wI m1 49 22 0) 49 j = rI m1 49 j := fun j hj => by rw [rIw, uf_ne hj]
    have e53 : rI (wI m1 49 22 0) 53 0 = ni n := by rw [rIw_ne (by omega), (x2.1 53 (by omega)).1]; exact h0.1.1
    have rw0 : RW y x n (blk y x 0) 0 ([] : List Q4).length [] (wI m1 49 22 0) := by
      obtain ⟨c0, c1, c2, c3⟩ := x4
      refine ⟨⟨g2, c1, by rw [j2 2 (by omega)]; exact c2, fun i hi => by rw [rIw_ne (by omega)]; exact c3 i hi⟩, by rw [j2 4 (by omega)]; exact x5, bb.2, by rw [j2 5 (by omega)]; exact x6, by rw [j2 8 (by omega)]; exact x9, by rw [rIw, uf_at]; rfl, fun i hi => by simp at hi, e53⟩
    have z := r_wkL (K := RwK) (o := 0) (k := 6) (S := stL y x n 5) (N := n) h150 (r_lev h150 p.1 6 40 (by omega) (by omega)) NF 151 [] (blk y x 0) (wI m1 49 22 0) (by unfold NF; omega) (by omega) rw0 (blk_blk (by omega)) (by simp)
    rw [show stsP y x n true (stL y x n 5) 6 151 [] (blk y x 0) = wkP y x n from sts_b (by omega)] at z
    have start : ∀ X, L_X12_work_72 RwK NF 49 (wI m1 49 22 0) = X → F_X12_work 49 (ni x) m = X := by
      intro X hX
      rw [← hX]
      unfold F_X12_work
      have ek : (fun (v0 : Nat) (m : Mm) => gd (okO m v0 12) (if (rI m v0 5) = 0 then (gd (okO m v0 12) (lt9 (wI m v0 3 (-1 : Int32)) fun m13 => gd (okO m13 v0 12) (oc (rR m13 v0 23) none fun q14 => gd (okO m13 v0 12) (oc (rR m13 v0 25) none fun q15 => gd (okO m13 v0 12) (gd (okA m13 106 q15 (rI m13 v0 28)) (oc (rR m13 q15 (ix (rI m13 v0 28))) none fun q16 => bd (F_X12_copies q14 q16 m13) fun r17 m18 => gd (okO m18 v0 12) (gd (okO m18 v0 12) (lt9 (wI m18 v0 28 ((rI m18 v0 28) + (1 : Int32))) fun m19 => gd (okO m19 v0 12) (lt9 (wI m19 v0 32 (0 : Int32)) fun m20 => gd (okO m20 v0 12) (lt9 (wI m20 v0 33 (0 : Int32)) fun m21 => gd (okO m21 v0 12) (lt9 (wI m21 v0 29 (0 : Int32)) fun m22 => gd (okO m22 v0 12) (gd (okO m22 v0 12) (bd (F_X12_goes 40 v0 (0 : Int32) (rI m22 v0 22) m22) fun r23 m24 => gd (okO m24 v0 12) (some ((rI m24 v0 33), m24))))))))))))))) else (gd (okO m v0 12) (bd (F_X12_ends v0 m) fun r25 m26 => some (r25, m26))))) = RwK := rfl
      rw [ek]
      simp (disch := first | assumption | omega | ((repeat (first | assumption | apply G_wI | apply G_wL | apply CSh_wI | apply CSh_wL)); done) | decide) only [↓dO0, ↓dO1, ↓dA2, ↓dK2, ↓dT2, ↓dO3, ↓dO4, ↓dA5, ↓dK5, ↓dT5, ↓dA6, ↓dK6, ↓dT6, ↓dA7, ↓dK7, ↓dT7, ↓dO8, ↓dA9, ↓dK9, ↓dT9, ↓dA10, ↓dK10, ↓dT10, ↓dA11, ↓dK11, ↓dT11, ↓dO12, ↓dA13, ↓dK13, ↓dT13, ↓dO14, ↓dA15, ↓dK15, ↓dT15, ↓dO16, ↓dO29, ↓dO42, ↓dA43, ↓dK43, ↓dT43, ↓dA44, ↓dK44, ↓dT44, ↓dO45, ↓dA46, ↓dK46, ↓dT46, ↓dO47, ↓dA48, ↓dK48, ↓dT48, ↓dO49, ↓dA50, ↓dK50, ↓dT50, ↓dA51, ↓dK51, ↓dT51, ↓dA52, ↓dK52, ↓dT52, ↓dA53, ↓dK53, ↓dT53, ↓dA54, ↓dK54, ↓dT54, ↓dA215, ↓dK215, ↓dT215, ↓dA376, ↓dK376, ↓dT376, ↓dA383, ↓dK383, ↓dT383, ↓dA390, ↓dK390, ↓dT390, ↓dA391, ↓dK391, ↓dT391, ↓dA392, ↓dK392, ↓dT392, ↓dA473, ↓dK473, ↓dT473, ↓dA474, ↓dK474, ↓dT474, ↓dA475, ↓dK475, ↓dT475, ↓dA492, ↓dK492, ↓dT492, ↓dA496, ↓dK496, ↓dT496, ↓dA497, ↓dK497, ↓dT497, ↓dR0_0, ↓dR0_1, ↓dR0_2, ↓dR0_3, ↓dR0_4, ↓dR0_5, ↓dR0_6, ↓dR0_7, ↓dR0_8, ↓dR0_9, ↓dR0_10, ↓dR0_11, ↓dR0_12, ↓dR1_0, ↓dR4_2, ↓dR8_0, ↓dR8_1, ↓dR8_2, ↓dR12_5, ↓dR14_0, ↓dR14_1, ↓dR14_2, ↓dR42_0, ↓dR45_0, ↓dR49_9, ↓dR49_10, ↓dR49_11, ↓dR49_12, ↓dR49_15, ↓dR49_16, ↓dR49_17, ↓dR49_18, ↓dR49_19, ↓dR49_20, ↓dR49_21, ↓dR49_23, ↓dR49_24, ↓dR49_25, ↓dR49_26, ↓dR49_34, ↓dF54, ↓dB54, ↓dC54, ↓dF215, ↓dB215, ↓dC215, ↓dF376, ↓dB376, ↓dC376, ↓dF383, ↓dB383, ↓dC383, ↓dF392, ↓dB392, ↓dC392, ↓dF475, ↓dB475, ↓dC475, ↓dF492, ↓dB492, ↓dC492, ↓lt9_e, ↓jn_e, ↓bd_s, ↓bdE w1, ↓i10, ↓i00, l150, ↓reduceIte, ↓bdE b0, e16, ↓bdE x1]
    refine ⟨fun acc e ha => ?_, fun q s ha => ?_⟩
    · obtain ⟨m3, y1, y2, y3, y4, y5⟩ := z.1 acc e ha
      obtain ⟨tr3, c4, ce, c5, c8, c22, cq, c53⟩ := y3
      have g3 := tr3.1
      have hL : acc.length ≤ 37 := by omega
      obtain ⟨gd1, gd2, gd3⟩ := wkP_Gd ha (by omega)
      have g4 : G (wI m3 49 3 (-1)) := G_wI g3
      have k28 : rI m3 49 28 = ni pk := by
        rw [y2.2 28 (by omega) (by omega) (by omega) (by omega) (by omega), j2 28 (by omega), x3 28 (by omega) (by omega) (by omega) (by omega) (by omega) (by omega) (by omega)]
        exact s28
      have k28' : rI (wI m3 49 3 (-1)) 49 28 = ni pk := by rw [rIw, uf_ne (by omega)]; exact k28
      obtain ⟨m5, u1, u2, u3⟩ := r_cop (a := 473) (b := 475 + 1 + pk) (m := wI m3 49 3 (-1)) (by omega) ((g4.1 473 (by omega)).trans sx473) (gS475 g4 (by omega))
      have g5 := G_fr u2 g4
      have w5 : rI m5 49 = rI (wI m3 49 3 (-1)) 49 := (u2.1 49 (by omega)).1
      have k28'' : rI m5 49 28 = ni pk := by rw [w5]; exact k28'
      generalize e9' : wI (wI (wI (wI m5 49 28 (ni (pk + 1))) 49 32 0) 49 33 0) 49 29 0 = m9
      have f9 : Fm (fun b => b = 49) m5 m9 := by rw [← e9']; exact Fm_wI (Fm_wI (Fm_wI (Fm_wI (Fm_refl _ _) rfl) rfl) rfl) rfl
      have g9 := G_fr f9 g5
      have j9 : ∀ j, j ≠ 28 → j ≠ 32 → j ≠ 33 → j ≠ 29 → rI m9 49 j = rI m5 49 j := fun j h1 h2 h3 h4 => by rw [← e9', rIw, uf_ne h4, rIw, uf_ne h3, rIw, uf_ne h2, rIw, uf_ne h1]
      have j9' : ∀ j, j ≠ 28 → j ≠ 32 → j ≠ 33 → j ≠ 29 → j ≠ 3 → rI m9 49 j = rI m3 49 j := fun j h1 h2 h3 h4 h5 => by rw [j9 j h1 h2 h3 h4, w5, rIw, uf_ne h5]
      have j9'' : ∀ j, j = 0 ∨ j = 1 ∨ j = 13 ∨ j = 27 ∨ j = 30 → rI m9 49 j = rI m1 49 j := fun j hj => by
        rw [j9' j (by omega) (by omega) (by omega) (by omega) (by omega), y2.2 j (by omega) (by omega) (by omega) (by omega) (by omega), j2 j (by omega)]
      have j90 : ∀ j, j = 0 ∨ j = 13 ∨ j = 27 ∨ j = 30 → rI m9 49 j = rI (wI m 49 0 0) 49 j := fun j hj => by
        rw [j9'' j (by omega), x3 j (by omega) (by omega) (by omega) (by omega) (by omega) (by omega) (by omega)]
      have F9 : Fm (fun b => b = 49 ∨ (393 ≤ b ∧ b < 473) ∨ b = 475 + 1 + pk) (wI m 49 0 0) m9 := Fm_trans (Fm_mono (fun b z => by omega) x2) (Fm_trans (Fm_mono (fun b z => by omega) f2) (Fm_trans (Fm_mono (fun b z => by omega) y2.1) (Fm_trans (Fm_wI (Fm_refl _ _) (by omega)) (Fm_trans (Fm_mono (fun b z => by omega) u2) (Fm_mono (fun b z => by omega) f9)))))
      have F9b : ∀ b, b ≠ 49 → b ≠ 475 + 1 + pk → rI m9 b = rI m3 b := fun b h1 h2 => by rw [(f9.1 b h1).1, (u2.1 b h2).1, rIw_ne h1]
      have rr9 : RR (rI m9 473) (ct 0) := by
        have zz := IR_now h0
        rw [(F9.1 473 (by omega)).1]
        exact zz
      have rc9' : RC n (ni l) len cs m9 := by
        have zz := IR_RC p g0 h0
        obtain ⟨a1, a2, a3, a4, a5, a6⟩ := zz
        refine ⟨g9, by rw [(F9.1 53 (by omega)).1]; exact a2, by rw [(F9.1 53 (by omega)).1]; exact a3, a4, ?_, a6⟩
        have hl := p.2.2.1.2.2.2
        unfold RLc at a5 ⊢
        rw [j90 13 (by omega)]
        rcases a5 with b1 | ⟨b1, b2⟩
        · exact .inl b1
        · refine .inr ⟨b1, fun i hi => ?_⟩
          rw [(F9.1 (54 + 1 + i) (by omega)).1]
          exact b2 i hi
      have rp : RP (pg acc) acc.length m9 := by
        obtain ⟨v1, v2⟩ := WQ_RP cq (by omega) gd3
        refine ⟨v1, fun i hi => ?_⟩
        rw [F9b (392 + 1 + i) (by omega) (by omega)]
        exact v2 i hi
      have rg : RG (ct 0, 0, 0, 0) m9 := by
        refine ⟨rr9, ?_, ?_, ?_⟩
        · rw [← e9']
          simp (disch := omega) only [rIw, uf_ap, if_neg, if_pos, if_true]
          rfl
        · rw [← e9']
          simp (disch := omega) only [rIw, uf_ap, if_neg, if_pos, if_true]
          rfl
        · rw [← e9']
          simp (disch := omega) only [rIw, uf_ap, if_neg, if_pos, if_true]
          rfl
      have wf : WF n B (ct 0) := p.2.2.2.2.2.2.2 0 (Val_0 _ _ _)
      obtain ⟨m10, v1, v2, ⟨v3, v4⟩, v5⟩ := r_run (n := n) (len := len) (l := l) (L := acc.length) (B0 := B) (cs := cs) (p := pg acc) p.2.1 hB gd2 6 40 0 acc.length (ct 0, 0, 0, 0) m9 (by omega) gd1 (Nat.le_refl _) ⟨rc9', rp⟩ rg ⟨by show (0 : Nat) ≤ 200; omega, wf⟩
      have hq : rnP cs len n l (pg acc) 6 0 acc.length (ct 0, 0, 0, 0) = rnW cs len n l acc (ct 0) := rfl
      rw [hq] at v2
      rw [ni_0] at v1
      have g10 := G_fr v3 g9
      have w10 : ∀ b, b ≠ 473 → b ≠ 390 → b ≠ 391 → b ≠ 49 → rI m10 b = rI m9 b := fun b h1 h2 h3 h4 => (v3.1 b (by unfold AY AW; omega)).1
      have j10 : ∀ j, j ≠ 29 → j ≠ 32 → j ≠ 33 → rI m10 49 j = rI m9 49 j := v4
      have wA : ∀ b, b ≠ 473 → b ≠ 390 → b ≠ 391 → b ≠ 49 → ¬ (393 ≤ b ∧ b < 473) → b ≠ 475 + 1 + pk → rI m10 b = rI (wI m 49 0 0) b := fun b h1 h2 h3 h4 h5 h6 => by rw [w10 b h1 h2 h3 h4, (F9.1 b (by omega)).1]
      have e22 : rI m9 49 22 = ni acc.length := by rw [j9' 22 (by omega) (by omega) (by omega) (by omega) (by omega)]; exact c22
      refine ⟨m10, start _ (y1.trans ?_), by rw [j10 0 (by omega) (by omega) (by omega), j90 0 (by omega)]; exact e0, ?_, ?_⟩
      · have e5 : (rI m3 49 5 = 0) = True := eq_true c5
        have oA : okA (wI m3 49 3 (-1)) 106 475 (ni pk) = true := gA475 g4 (by omega)
        have oR : rR (wI m3 49 3 (-1)) 475 pk = some (475 + 1 + pk) := gF475 g4 (by omega)
        have i1 : ni pk + 1 = ni (pk + 1) := ni_add pk 1
        have g6 : G (wI m5 49 28 (ni (pk + 1))) := G_wI g5
        have g7 : G (wI (wI m5 49 28 (ni (pk + 1))) 49 32 0) := G_wI g6
        have g8 : G (wI (wI (wI m5 49 28 (ni (pk + 1))) 49 32 0) 49 33 0) := G_wI g7
        have e33 : rI m10 49 33 = ni (rnW cs len n l acc (ct 0)).2.2.1 := v2.2.2.1
        unfold RwK
        simp only [gO49 g3, gd_t, e5, if_true, lt9_e, gO49 g4, gR49_23 g4, gR49_25 g4, oc_s, k28', oA, ix_ni (show pk < 2147483648 by omega), oR, bdE u1, gO49 g5, k28'', i1, gO49 g6, gO49 g7, gO49 g8, e9', gO49 g9, e22, bdE v1, gO49 g10, e33]
      · obtain ⟨⟨a1, a2⟩, b1, ⟨c1, c2⟩, -, -, -, e3, s1, s2, s3, s4⟩ := h0
        have hl := p.2.2.1.2.2.2
        have hb6 := BK_len p.2.2.2.1
        have hi3 := p.2.2.2.2.2.1
        refine ⟨⟨by rw [wA 53 (by omega) (by omega) (by omega) (by omega) (by omega) (by omega)]; exact a1, by rw [wA 53 (by omega) (by omega) (by omega) (by omega) (by omega) (by omega)]; exact a2⟩, ?_, ⟨fun i hi => ?_, by rw [j10 27 (by omega) (by omega) (by omega), j90 27 (by omega)]; exact c2⟩, RTp_0 ?_, ?_, v2.2.2.2, fun i hi => by rw [wA 51 (by omega) (by omega) (by omega) (by omega) (by omega) (by omega)]; exact e3 i hi, ?_, by rw [j10 30 (by omega) (by omega) (by omega), j90 30 (by omega)]; exact s2, fun j hj => by rw [wA (493 + j) (by omega) (by omega) (by omega) (by omega) (by omega) (by omega)]; exact s3 j hj, fun u hu => ?_⟩
        · unfold RLc
          rw [j10 13 (by omega) (by omega) (by omega), j90 13 (by omega)]
          rcases b1 with b1 | ⟨b1, b2⟩
          · exact .inl b1
          · refine .inr ⟨b1, fun i hi => ?_⟩
            rw [wA (54 + 1 + i) (by omega) (by omega) (by omega) (by omega) (by omega) (by omega)]
            exact b2 i hi
        · rw [wA (376 + 1 + i) (by omega) (by omega) (by omega) (by omega) (by omega) (by omega)]
          exact c1 i hi
        · rw [j10 1 (by omega) (by omega) (by omega), j9'' 1 (by omega)]
          exact x10
        · rw [j10 3 (by omega) (by omega) (by omega), j9 3 (by omega) (by omega) (by omega) (by omega), w5, rIw, uf_at]
        · rw [j10 28 (by omega) (by omega) (by omega), ← e9', rIw, uf_ne (by omega), rIw, uf_ne (by omega), rIw, uf_ne (by omega), rIw, uf_at]
        · unfold ctW ctK
          by_cases h0 : u = 0
          · subst h0
            refine RR_cp v2.1 (fun j _ => ?_)
            show rI m10 473 (0 + j) = rI m10 473 j
            rw [Nat.zero_add]
          · rw [if_neg h0]
            by_cases h2 : u = 2 + pk
            · rw [if_pos h2]
              have er : rc9 u = 475 + 1 + pk := by
                unfold rc9
                rw [if_neg h0, if_pos (by omega)]
                omega
              have eo : ro9 u = 0 := by
                unfold ro9
                rw [if_pos (by omega)]
              rw [er, eo]
              refine RR_cp rr9 (fun j hj => ?_)
              show rI m10 (475 + 1 + pk) (0 + j) = rI m9 473 j
              rw [Nat.zero_add, w10 _ (by omega) (by omega) (by omega) (by omega), (f9.1 _ (by omega)).1, u3 j hj, F9b 473 (by omega) (by omega), rIw_ne (by omega)]
            · rw [if_neg h2]
              have hv := Val_k1 hu h2
              have rz : rc9 u ≠ 473 ∧ rc9 u ≠ 390 ∧ rc9 u ≠ 391 ∧ rc9 u ≠ 49 ∧ ¬ (393 ≤ rc9 u ∧ rc9 u < 473) ∧ rc9 u ≠ 475 + 1 + pk := by
                unfold rc9
                rw [if_neg h0]
                rcases hv with hv | hv | ⟨hv1, hv2, hv3⟩
                · omega
                · rw [if_pos (by omega)]
                  omega
                · rw [if_neg (by omega)]
                  omega
              rw [wA (rc9 u) rz.1 rz.2.1 rz.2.2.1 rz.2.2.2.1 rz.2.2.2.2.1 rz.2.2.2.2.2]
              exact s4 u hv
      · exact Fm_trans (Gz_0 m 0 0) (Fm_trans (Fm_mono (fun b z => by omega) F9) (Fm_mono (fun b z => by unfold AY AW at z; omega) v3))
    · obtain ⟨m3, y1, y2, y3⟩ := z.2 q s ha
      obtain ⟨tr3, y5, y6, k0, k4, -⟩ := y3
      have g3 := tr3.1
      have f3 : Fm (fun b => b = 49 ∨ (393 ≤ b ∧ b < 473)) (wI m 49 0 0) m3 := Fm_trans (Fm_mono (fun b z => .inl z) x2) (Fm_trans (Fm_mono (fun b z => .inl z) f2) y2.1)
      obtain ⟨a1, a2, a3⟩ := IR_end (x := x) (s := s) p h0 f3 (fun b z => by unfold AT9; omega) (fun j hj => by rw [y2.2 j (by omega) (by omega) (by omega) (by omega) (by omega), j2 j (by omega), x3 j (by omega) (by omega) (by omega) (by omega) (by omega) (by omega) (by omega)]) (by rw [y2.2 1 (by omega) (by omega) (by omega) (by omega) (by omega), j2 1 (by omega)]; exact x10) e0
      refine ⟨_, start _ (y1.trans ?_), a1, a2, Fm_trans (Gz_0 m 0 0) a3⟩
      have e5 : (rI m3 49 5 = 0) = False := by rw [y5]; exact k_n0 k0 k4
      unfold RwK
      simp only [gO49 g3, gd_t, e5, if_false, bdE (r_endF g3 y5 y6)]
theorem hxw_n : (∀ k, hx_L_work k ≠ some 0) := fun k => by
  unfold hx_L_work
  split
  · decide
  · exact fun z => by cases z
theorem C_work {k : Nat} {m : Mm} {a : Int32} (hk : k ≤ 600) (h : Inv k m) : Cl1 k m (wrI hx_L_work (F_X11_work 0 a)) (F_X12_work 49 a) := by
  obtain ⟨n, l, len, cs, bk, y, t, pl, rf, ru, pk, ik, jk, ct, hC, hR, p, h1, h2⟩ := h
  have p' := IP_B p (show 1 + 201 * k ≤ 1 + 201 * (k + 1) by omega) (by omega)
  have ctp := hC.2.2.2.2.2.1
  have hp16 := p.2.2.2.2.1
  have hB : 1 + 201 * k + 201 < 1000000 := by omega
  have hK : mN m + 20 < K9 := by unfold K9; omega
  by_cases q : txt t 150 a
  · obtain ⟨x, rfl, hx, h60⟩ := q
    by_cases e16 : pk = 16
    · exact cal3 hC hR p h1 h2 (v := -20) p' ((c_workF p hB hC hx h60 hK).1 e16) (fun m1 g1 hR1 => (r_workF p hB g1 hR1 hx h60).1 e16)
    · have hlt : pk < 16 := by omega
      cases e : wkP y x n with
      | inl ae =>
        obtain ⟨acc, ee⟩ := ae
        obtain ⟨m1, x1, x2, x3, x4, x5⟩ := ((c_workF p hB hC hx h60 hK).2 hlt).1 acc ee e
        refine cal3 hC hR p h1 h2 (v := ni (rnW cs len n l acc (ct 0)).2.2.1) ⟨p'.1, p'.2.1, p'.2.2.1, p'.2.2.2.1, by omega, p'.2.2.2.2.2.1, p'.2.2.2.2.2.2.1, fun u hu => ?_⟩ ⟨m1, x1, x2, x3⟩ (fun m1 g1 hR1 => ((r_workF p hB g1 hR1 hx h60).2 hlt).1 acc ee e)
        unfold ctW ctK
        by_cases h0 : u = 0
        · rw [if_pos h0]
          exact WF_B x4.2 (by have := x4.1; omega) (by omega)
        · rw [if_neg h0]
          by_cases h2 : u = 2 + pk
          · rw [if_pos h2]
            exact p'.2.2.2.2.2.2.2 0 (Val_0 _ _ _)
          · rw [if_neg h2]
            exact p'.2.2.2.2.2.2.2 u (Val_k1 hu h2)
      | inr qs =>
        obtain ⟨q, s⟩ := qs
        exact cal3 hC hR p h1 h2 (v := ni q - 10) p' (((c_workF p hB hC hx h60 hK).2 hlt).2 q s e) (fun m1 g1 hR1 => ((r_workF p hB g1 hR1 hx h60).2 hlt).2 q s e)
  · refine cal1 (R := .inr 1) hC hR p h1 h2 hk hxw_n ⟨by omega, 6, by omega, ?_⟩ (fun m1 g1 hR1 => ⟨1, rfl, ?_⟩)
    · have k1 : F_X11_needText 0 a 150 m = _ := needT_no (most := 150) hC.1 ctp.1 ctp.2.1 (by omega) q (by omega)
      unfold F_X11_work
      rw [gO0 hC.1, gd_t, bxR k1]
    · have g0 : G (wI m1 49 0 0) := G_wI g1
      have h0 := IR_0 0 hR1
      have ht := h0.2.2.2.1
      have b1 : F_X12_bad 49 1 1 1 (wI m1 49 0 0) = some (1, bdM m1 1 1) := bad_t (k := 1) g1 (by omega) (by decide)
      have w1 := inr a 0 (rI (wI m1 49 0 0) 49 1) (wI m1 49 0 0)
      unfold F_X12_work
      rcases txt_no ht.2.1 (by omega) q with z | ⟨z, z2⟩
      · rw [decide_eq_false (by rw [ht.1]; exact z), b2i_f] at w1
        simp (disch := first | assumption | omega | ((repeat (first | assumption | apply G_wI | apply G_wL | apply CSh_wI | apply CSh_wL)); done) | decide) only [↓dO0, ↓dO1, ↓dA2, ↓dK2, ↓dT2, ↓dO3, ↓dO4, ↓dA5, ↓dK5, ↓dT5, ↓dA6, ↓dK6, ↓dT6, ↓dA7, ↓dK7, ↓dT7, ↓dO8, ↓dA9, ↓dK9, ↓dT9, ↓dA10, ↓dK10, ↓dT10, ↓dA11, ↓dK11, ↓dT11, ↓dO12, ↓dA13, ↓dK13, ↓dT13, ↓dO14, ↓dA15, ↓dK15, ↓dT15, ↓dO16, ↓dO29, ↓dO42, ↓dA43, ↓dK43, ↓dT43, ↓dA44, ↓dK44, ↓dT44, ↓dO45, ↓dA46, ↓dK46, ↓dT46, ↓dO47, ↓dA48, ↓dK48, ↓dT48, ↓dO49, ↓dA50, ↓dK50, ↓dT50, ↓dA51, ↓dK51, ↓dT51, ↓dA52, ↓dK52, ↓dT52, ↓dA53, ↓dK53, ↓dT53, ↓dA54, ↓dK54, ↓dT54, ↓dA215, ↓dK215, ↓dT215, ↓dA376, ↓dK376, ↓dT376, ↓dA383, ↓dK383, ↓dT383, ↓dA390, ↓dK390, ↓dT390, ↓dA391, ↓dK391, ↓dT391, ↓dA392, ↓dK392, ↓dT392, ↓dA473, ↓dK473, ↓dT473, ↓dA474, ↓dK474, ↓dT474, ↓dA475, ↓dK475, ↓dT475, ↓dA492, ↓dK492, ↓dT492, ↓dA496, ↓dK496, ↓dT496, ↓dA497, ↓dK497, ↓dT497, ↓dR0_0, ↓dR0_1, ↓dR0_2, ↓dR0_3, ↓dR0_4, ↓dR0_5, ↓dR0_6, ↓dR0_7, ↓dR0_8, ↓dR0_9, ↓dR0_10, ↓dR0_11, ↓dR0_12, ↓dR1_0, ↓dR4_2, ↓dR8_0, ↓dR8_1, ↓dR8_2, ↓dR12_5, ↓dR14_0, ↓dR14_1, ↓dR14_2, ↓dR42_0, ↓dR45_0, ↓dR49_9, ↓dR49_10, ↓dR49_11, ↓dR49_12, ↓dR49_15, ↓dR49_16, ↓dR49_17, ↓dR49_18, ↓dR49_19, ↓dR49_20, ↓dR49_21, ↓dR49_23, ↓dR49_24, ↓dR49_25, ↓dR49_26, ↓dR49_34, ↓dF54, ↓dB54, ↓dC54, ↓dF215, ↓dB215, ↓dC215, ↓dF376, ↓dB376, ↓dC376, ↓dF383, ↓dB383, ↓dC383, ↓dF392, ↓dB392, ↓dC392, ↓dF475, ↓dB475, ↓dC475, ↓dF492, ↓dB492, ↓dC492, ↓lt9_e, ↓jn_e, ↓bd_s, ↓bdE w1, ↓i10, ↓i00, ↓bdE b1]
      · rw [decide_eq_true (by rw [ht.1]; exact z), b2i_t] at w1
        have l60 : (a ≤ (150 : Int32)) = False := eq_false z2
        simp (disch := first | assumption | omega | ((repeat (first | assumption | apply G_wI | apply G_wL | apply CSh_wI | apply CSh_wL)); done) | decide) only [↓dO0, ↓dO1, ↓dA2, ↓dK2, ↓dT2, ↓dO3, ↓dO4, ↓dA5, ↓dK5, ↓dT5, ↓dA6, ↓dK6, ↓dT6, ↓dA7, ↓dK7, ↓dT7, ↓dO8, ↓dA9, ↓dK9, ↓dT9, ↓dA10, ↓dK10, ↓dT10, ↓dA11, ↓dK11, ↓dT11, ↓dO12, ↓dA13, ↓dK13, ↓dT13, ↓dO14, ↓dA15, ↓dK15, ↓dT15, ↓dO16, ↓dO29, ↓dO42, ↓dA43, ↓dK43, ↓dT43, ↓dA44, ↓dK44, ↓dT44, ↓dO45, ↓dA46, ↓dK46, ↓dT46, ↓dO47, ↓dA48, ↓dK48, ↓dT48, ↓dO49, ↓dA50, ↓dK50, ↓dT50, ↓dA51, ↓dK51, ↓dT51, ↓dA52, ↓dK52, ↓dT52, ↓dA53, ↓dK53, ↓dT53, ↓dA54, ↓dK54, ↓dT54, ↓dA215, ↓dK215, ↓dT215, ↓dA376, ↓dK376, ↓dT376, ↓dA383, ↓dK383, ↓dT383, ↓dA390, ↓dK390, ↓dT390, ↓dA391, ↓dK391, ↓dT391, ↓dA392, ↓dK392, ↓dT392, ↓dA473, ↓dK473, ↓dT473, ↓dA474, ↓dK474, ↓dT474, ↓dA475, ↓dK475, ↓dT475, ↓dA492, ↓dK492, ↓dT492, ↓dA496, ↓dK496, ↓dT496, ↓dA497, ↓dK497, ↓dT497, ↓dR0_0, ↓dR0_1, ↓dR0_2, ↓dR0_3, ↓dR0_4, ↓dR0_5, ↓dR0_6, ↓dR0_7, ↓dR0_8, ↓dR0_9, ↓dR0_10, ↓dR0_11, ↓dR0_12, ↓dR1_0, ↓dR4_2, ↓dR8_0, ↓dR8_1, ↓dR8_2, ↓dR12_5, ↓dR14_0, ↓dR14_1, ↓dR14_2, ↓dR42_0, ↓dR45_0, ↓dR49_9, ↓dR49_10, ↓dR49_11, ↓dR49_12, ↓dR49_15, ↓dR49_16, ↓dR49_17, ↓dR49_18, ↓dR49_19, ↓dR49_20, ↓dR49_21, ↓dR49_23, ↓dR49_24, ↓dR49_25, ↓dR49_26, ↓dR49_34, ↓dF54, ↓dB54, ↓dC54, ↓dF215, ↓dB215, ↓dC215, ↓dF376, ↓dB376, ↓dC376, ↓dF383, ↓dB383, ↓dC383, ↓dF392, ↓dB392, ↓dC392, ↓dF475, ↓dB475, ↓dC475, ↓dF492, ↓dB492, ↓dC492, ↓lt9_e, ↓jn_e, ↓bd_s, ↓bdE w1, ↓i10, ↓i00, l60, ↓reduceIte, ↓bdE b1]
