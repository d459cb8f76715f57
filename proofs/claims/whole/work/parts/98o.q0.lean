/-! L2: calls without refusals that look. -/
theorem ex9_l {α γ : Type} {st : Nat → α → γ ⊕ α} {fin : α → γ} {d i : Nat} {a : α} {r : γ} (h : st i a = .inl r) : ex9 st fin (d + 1) i a = r := by
  rw [ex9, h]
theorem ex9_r {α γ : Type} {st : Nat → α → γ ⊕ α} {fin : α → γ} {d i : Nat} {a b : α} (h : st i a = .inr b) : ex9 st fin (d + 1) i a = ex9 st fin d (i + 1) b := by
  rw [ex9, h]
theorem qc_fault {n l len : Nat} {cs : Nat → Nat} {bk : List (Nat × Nat)} {y : Nat → Nat} {t : Nat} {pl rf : Int32} {ru : Nat → Int32} {pk ik : Nat} {jk : Nat → Nat} {ct : Nat → St} {m : Mm} (h : IC n l len cs bk y t pl rf ru pk ik jk ct m) : ∃ m1, F_X11_fault 0 m = some (pl, m1) ∧ Qf m m1 := by
  have g := h.1
  have e := h.2.2.2.2.2.2.1
  refine ⟨m, ?_, Qf_refl m⟩
  unfold F_X11_fault
  rw [gO0 g, gd_t, gR0_0 g, oc_s, gO1 g, gd_t, e]
theorem qr_fault {n l len : Nat} {cs : Nat → Nat} {bk : List (Nat × Nat)} {y : Nat → Nat} {t : Nat} {pl rf : Int32} {ru : Nat → Int32} {pk ik : Nat} {jk : Nat → Nat} {ct : Nat → St} {m : Mm} (g : G m) (h : IR n l len cs bk y t pl rf ru pk ik jk ct m) : ∃ m1, F_X12_fault 49 m = some (pl, m1) ∧ Qr m m1 := by
  have g0 : G (wI m 49 0 0) := G_wI g
  have e := (IR_0 0 h).2.2.2.2.1
  refine ⟨wI m 49 0 0, ?_, Qr_0 m 0⟩
  unfold F_X12_fault
  rw [gO49 g, gd_t, lt9_e, gO49 g0, gd_t, e]
theorem qc_primary {n l len : Nat} {cs : Nat → Nat} {bk : List (Nat × Nat)} {y : Nat → Nat} {t : Nat} {pl rf : Int32} {ru : Nat → Int32} {pk ik : Nat} {jk : Nat → Nat} {ct : Nat → St} {B : Nat} {m : Mm} (p : IP n l len cs bk pk ik jk ct B) (h : IC n l len cs bk y t pl rf ru pk ik jk ct m) : ∃ m1, F_X11_primary 0 m = some (partN cs len n (ct 0), m1) ∧ Qf m m1 := by
  obtain ⟨q, ha, wf, g⟩ := IC_ctx p h
  obtain ⟨m1, x1, -, x3⟩ := c_partNow (.inl rfl) q (bel_st (by rw [ha]; exact wf))
  rw [ha] at x1
  refine ⟨m1, ?_, Qf_AQ x3⟩
  unfold F_X11_primary
  simp only [gO0 g, gd_t, gR0_5 g, gR0_6 g, oc_s, gO14 g, bdE x1]
theorem qr_primary {n l len : Nat} {cs : Nat → Nat} {bk : List (Nat × Nat)} {y : Nat → Nat} {t : Nat} {pl rf : Int32} {ru : Nat → Int32} {pk ik : Nat} {jk : Nat → Nat} {ct : Nat → St} {B : Nat} {m : Mm} (p : IP n l len cs bk pk ik jk ct B) (g : G m) (h : IR n l len cs bk y t pl rf ru pk ik jk ct m) : ∃ m1, F_X12_primary 49 m = some (partN cs len n (ct 0), m1) ∧ Qr m m1 := by
  have g0 : G (wI m 49 0 0) := G_wI g
  have rc := IR_RC p g0 (IR_0 0 h)
  have rr := IR_now (IR_0 0 h)
  have wf : WF n B (ct 0) := p.2.2.2.2.2.2.2 0 (Val_0 _ _ _)
  obtain ⟨m1, x1, x2⟩ := r_primOf (.inl rfl) wf rc rr
  refine ⟨m1, ?_, Qr_trans (Qr_0 m 0) (Qr_AR x2)⟩
  unfold F_X12_primary
  simp only [gO49 g, gO49 g0, gd_t, lt9_e, gR49_23 g0, oc_s, bdE x1]
/-! lost -/
def lostP (cs : Nat → Nat) (len n : Nat) (σ : St) : Int32 := if partN cs len n σ = -1 then 0 else gotByNone σ (partN cs len n σ)
theorem qc_lost {n l len : Nat} {cs : Nat → Nat} {bk : List (Nat × Nat)} {y : Nat → Nat} {t : Nat} {pl rf : Int32} {ru : Nat → Int32} {pk ik : Nat} {jk : Nat → Nat} {ct : Nat → St} {B : Nat} {m : Mm} (p : IP n l len cs bk pk ik jk ct B) (h : IC n l len cs bk y t pl rf ru pk ik jk ct m) : ∃ m1, F_X11_lost 0 m = some (lostP cs len n (ct 0), m1) ∧ Qf m m1 := by
  obtain ⟨q, ha, wf, g⟩ := IC_ctx p h
  obtain ⟨m1, x1, -, x3⟩ := c_partNow (.inl rfl) q (bel_st (by rw [ha]; exact wf))
  rw [ha] at x1
  have g1 := G_fr x3 g
  refine ⟨m1, ?_, Qf_AQ x3⟩
  unfold F_X11_lost lostP
  by_cases e : partN cs len n (ct 0) = -1
  · have e' := eq_true e
    simp only [gO0 g, gd_t, gR0_5 g, gR0_6 g, oc_s, gO14 g, bdE x1, lt9_e, e', if_true]
  · have e' := eq_false e
    have k2 := c_gotByNone (x := partN cs len n (ct 0)) (G_16 g1)
    rw [abs_q (.inl rfl) x3, ha] at k2
    simp only [gO0 g, gd_t, gR0_5 g, gR0_6 g, oc_s, gO14 g, bdE x1, lt9_e, e', if_false, gO0 g1, gR0_6 g1, gO16 g1, bdE k2]
def lsF (σ : St) (x : Int32) (i : Nat) (a : Int32) : Int32 := a &&& (if tb x i then gI σ 2 i ^^^ (-1 : Int32) else a)
theorem r_lostL {n : Nat} {x : Int32} {σ : St} {m : Mm} (g : G m) (h53 : rI m 53 0 = ni n) (hn : n ≤ 6) (rr : RR (rI m 473) σ) : ∀ (d i fuel : Nat) (y : Int32), i + d = n → d < fuel → L_X12_lost_36 fuel 49 x y (ni i) m = some (itn (lsF σ x) d i y, m) := by
  intro d
  induction d with
  | zero =>
    intro i fuel y hd hf
    obtain ⟨fuel, rfl⟩ : ∃ z, fuel = z + 1 := ⟨fuel - 1, by omega⟩
    have e : (ni n ≤ ni i) = True := eq_true (by rw [ni_le (by omega) (by omega)]; omega)
    rw [L_X12_lost_36]
    simp (disch := first | assumption | omega | ((repeat (first | assumption | apply G_wI | apply G_wL | apply CSh_wI | apply CSh_wL)); done) | decide) only [↓dO0, ↓dO1, ↓dA2, ↓dK2, ↓dT2, ↓dO3, ↓dO4, ↓dA5, ↓dK5, ↓dT5, ↓dA6, ↓dK6, ↓dT6, ↓dA7, ↓dK7, ↓dT7, ↓dO8, ↓dA9, ↓dK9, ↓dT9, ↓dA10, ↓dK10, ↓dT10, ↓dA11, ↓dK11, ↓dT11, ↓dO12, ↓dA13, ↓dK13, ↓dT13, ↓dO14, ↓dA15, ↓dK15, ↓dT15, ↓dO16, ↓dO29, ↓dO42, ↓dA43, ↓dK43, ↓dT43, ↓dA44, ↓dK44, ↓dT44, ↓dO45, ↓dA46, ↓dK46, ↓dT46, ↓dO47, ↓dA48, ↓dK48, ↓dT48, ↓dO49, ↓dA50, ↓dK50, ↓dT50, ↓dA51, ↓dK51, ↓dT51, ↓dA52, ↓dK52, ↓dT52, ↓dA53, ↓dK53, ↓dT53, ↓dA54, ↓dK54, ↓dT54, ↓dA215, ↓dK215, ↓dT215, ↓dA376, ↓dK376, ↓dT376, ↓dA383, ↓dK383, ↓dT383, ↓dA390, ↓dK390, ↓dT390, ↓dA391, ↓dK391, ↓dT391, ↓dA392, ↓dK392, ↓dT392, ↓dA473, ↓dK473, ↓dT473, ↓dA474, ↓dK474, ↓dT474, ↓dA475, ↓dK475, ↓dT475, ↓dA492, ↓dK492, ↓dT492, ↓dA496, ↓dK496, ↓dT496, ↓dA497, ↓dK497, ↓dT497, ↓dR0_0, ↓dR0_1, ↓dR0_2, ↓dR0_3, ↓dR0_4, ↓dR0_5, ↓dR0_6, ↓dR0_7, ↓dR0_8, ↓dR0_9, ↓dR0_10, ↓dR0_11, ↓dR0_12, ↓dR1_0, ↓dR4_2, ↓dR8_0, ↓dR8_1, ↓dR8_2, ↓dR12_5, ↓dR14_0, ↓dR14_1, ↓dR14_2, ↓dR42_0, ↓dR45_0, ↓dR49_9, ↓dR49_10, ↓dR49_11, ↓dR49_12, ↓dR49_15, ↓dR49_16, ↓dR49_17, ↓dR49_18, ↓dR49_19, ↓dR49_20, ↓dR49_21, ↓dR49_23, ↓dR49_24, ↓dR49_25, ↓dR49_26, ↓dR49_34, ↓dF54, ↓dB54, ↓dC54, ↓dF215, ↓dB215, ↓dC215, ↓dF376, ↓dB376, ↓dC376, ↓dF383, ↓dB383, ↓dC383, ↓dF392, ↓dB392, ↓dC392, ↓dF475, ↓dB475, ↓dC475, ↓dF492, ↓dB492, ↓dC492, ↓lt9_e, ↓jn_e, ↓bd_s, gd_t, bd_s, oc_s, oc_n, lt9_e, jn_e, okOwI, okAwI, okTwI, lnwI, okOwL, okAwL, okTwL, lnwL, rRwI, rRwL, sHwI, sHwL, rIwL, rLwI, gO0, gO1, gA2, gK2, gT2, gN2, gO3, gO4, gA5, gK5, gT5, gN5, gA6, gK6, gT6, gN6, gA7, gK7, gT7, gN7, gO8, gA9, gK9, gT9, gN9, gA10, gK10, gT10, gN10, gA11, gK11, gT11, gN11, gO12, gA13, gK13, gT13, gN13, gO14, gA15, gK15, gT15, gN15, gO16, gO29, gO42, gA43, gK43, gT43, gN43, gA44, gK44, gT44, gN44, gO45, gA46, gK46, gT46, gN46, gO47, gA48, gK48, gT48, gN48, gO49, gA50, gK50, gT50, gN50, gA51, gK51, gT51, gN51, gA52, gK52, gT52, gN52, gA53, gK53, gT53, gN53, gA54, gK54, gT54, gN54, gA215, gK215, gT215, gN215, gA376, gK376, gT376, gN376, gA383, gK383, gT383, gN383, gA390, gK390, gT390, gN390, gA391, gK391, gT391, gN391, gA392, gK392, gT392, gN392, gA473, gK473, gT473, gN473, gA474, gK474, gT474, gN474, gA475, gK475, gT475, gN475, gA492, gK492, gT492, gN492, gA496, gK496, gT496, gN496, gA497, gK497, gT497, gN497, gR0_0, gR0_1, gR0_2, gR0_3, gR0_4, gR0_5, gR0_6, gR0_7, gR0_8, gR0_9, gR0_10, gR0_11, gR0_12, gR1_0, gR4_2, gR8_0, gR8_1, gR8_2, gR12_5, gR14_0, gR14_1, gR14_2, gR42_0, gR45_0, gR49_9, gR49_10, gR49_11, gR49_12, gR49_15, gR49_16, gR49_17, gR49_18, gR49_19, gR49_20, gR49_21, gR49_23, gR49_24, gR49_25, gR49_26, gR49_34, gF54, gB54, gC54, gF215, gB215, gC215, gF376, gB376, gC376, gF383, gB383, gC383, gF392, gB392, gC392, gF475, gB475, gC475, gF492, gB492, gC492, ni_le, ni_lt, ni_eq, ni_add, ni_mul, lni_le, lni_lt, nil_le, nil_lt, lni_eq, nil_eq, lni_add, nil_add, lni_mul, nil_mul, ix_ni, ix_lit, ni_ne1, ni_lt0, ↓reduceIte, Nat.reduceEqDiff, Nat.reduceMul, Nat.reduceAdd, Nat.reduceLeDiff, and_true, true_and, false_and, and_false, if_true, if_false, Nat.not_lt_zero, false_or, or_false, ft9, decide_true, o10, eq_self, b2i_0, b2i_1, b2i_ok, b2i_inj, b2i_t, b2i_f, rIwIk, h53, e]
    rfl
  | succ d ih =>
    intro i fuel y hd hf
    obtain ⟨fuel, rfl⟩ : ∃ z, fuel = z + 1 := ⟨fuel - 1, by omega⟩
    have e : (ni n ≤ ni i) = False := eq_false (fun z => by rw [ni_le (by omega) (by omega)] at z; omega)
    have k6 := hasR (x := x) (i := i) (by omega) m
    have kg := RRg rr (show i < 6 by omega)
    have lt : 12 + i < 968 := by omega
    rw [show itn (lsF σ x) (d + 1) i y = itn (lsF σ x) d (i + 1) (lsF σ x i y) from rfl, ← ih (i + 1) fuel (lsF σ x i y) (by omega) (by omega), L_X12_lost_36]
    cases et : tb x i with
    | false =>
      rw [et, b2i_f] at k6
      have hF : lsF σ x i y = y &&& y := by unfold lsF; rw [et]; rfl
      rw [hF]
      simp (disch := first | assumption | omega | ((repeat (first | assumption | apply G_wI | apply G_wL | apply CSh_wI | apply CSh_wL)); done) | decide) only [↓dO0, ↓dO1, ↓dA2, ↓dK2, ↓dT2, ↓dO3, ↓dO4, ↓dA5, ↓dK5, ↓dT5, ↓dA6, ↓dK6, ↓dT6, ↓dA7, ↓dK7, ↓dT7, ↓dO8, ↓dA9, ↓dK9, ↓dT9, ↓dA10, ↓dK10, ↓dT10, ↓dA11, ↓dK11, ↓dT11, ↓dO12, ↓dA13, ↓dK13, ↓dT13, ↓dO14, ↓dA15, ↓dK15, ↓dT15, ↓dO16, ↓dO29, ↓dO42, ↓dA43, ↓dK43, ↓dT43, ↓dA44, ↓dK44, ↓dT44, ↓dO45, ↓dA46, ↓dK46, ↓dT46, ↓dO47, ↓dA48, ↓dK48, ↓dT48, ↓dO49, ↓dA50, ↓dK50, ↓dT50, ↓dA51, ↓dK51, ↓dT51, ↓dA52, ↓dK52, ↓dT52, ↓dA53, ↓dK53, ↓dT53, ↓dA54, ↓dK54, ↓dT54, ↓dA215, ↓dK215, ↓dT215, ↓dA376, ↓dK376, ↓dT376, ↓dA383, ↓dK383, ↓dT383, ↓dA390, ↓dK390, ↓dT390, ↓dA391, ↓dK391, ↓dT391, ↓dA392, ↓dK392, ↓dT392, ↓dA473, ↓dK473, ↓dT473, ↓dA474, ↓dK474, ↓dT474, ↓dA475, ↓dK475, ↓dT475, ↓dA492, ↓dK492, ↓dT492, ↓dA496, ↓dK496, ↓dT496, ↓dA497, ↓dK497, ↓dT497, ↓dR0_0, ↓dR0_1, ↓dR0_2, ↓dR0_3, ↓dR0_4, ↓dR0_5, ↓dR0_6, ↓dR0_7, ↓dR0_8, ↓dR0_9, ↓dR0_10, ↓dR0_11, ↓dR0_12, ↓dR1_0, ↓dR4_2, ↓dR8_0, ↓dR8_1, ↓dR8_2, ↓dR12_5, ↓dR14_0, ↓dR14_1, ↓dR14_2, ↓dR42_0, ↓dR45_0, ↓dR49_9, ↓dR49_10, ↓dR49_11, ↓dR49_12, ↓dR49_15, ↓dR49_16, ↓dR49_17, ↓dR49_18, ↓dR49_19, ↓dR49_20, ↓dR49_21, ↓dR49_23, ↓dR49_24, ↓dR49_25, ↓dR49_26, ↓dR49_34, ↓dF54, ↓dB54, ↓dC54, ↓dF215, ↓dB215, ↓dC215, ↓dF376, ↓dB376, ↓dC376, ↓dF383, ↓dB383, ↓dC383, ↓dF392, ↓dB392, ↓dC392, ↓dF475, ↓dB475, ↓dC475, ↓dF492, ↓dB492, ↓dC492, ↓lt9_e, ↓jn_e, ↓bd_s, gd_t, bd_s, oc_s, oc_n, lt9_e, jn_e, okOwI, okAwI, okTwI, lnwI, okOwL, okAwL, okTwL, lnwL, rRwI, rRwL, sHwI, sHwL, rIwL, rLwI, gO0, gO1, gA2, gK2, gT2, gN2, gO3, gO4, gA5, gK5, gT5, gN5, gA6, gK6, gT6, gN6, gA7, gK7, gT7, gN7, gO8, gA9, gK9, gT9, gN9, gA10, gK10, gT10, gN10, gA11, gK11, gT11, gN11, gO12, gA13, gK13, gT13, gN13, gO14, gA15, gK15, gT15, gN15, gO16, gO29, gO42, gA43, gK43, gT43, gN43, gA44, gK44, gT44, gN44, gO45, gA46, gK46, gT46, gN46, gO47, gA48, gK48, gT48, gN48, gO49, gA50, gK50, gT50, gN50, gA51, gK51, gT51, gN51, gA52, gK52, gT52, gN52, gA53, gK53, gT53, gN53, gA54, gK54, gT54, gN54, gA215, gK215, gT215, gN215, gA376, gK376, gT376, gN376, gA383, gK383, gT383, gN383, gA390, gK390, gT390, gN390, gA391, gK391, gT391, gN391, gA392, gK392, gT392, gN392, gA473, gK473, gT473, gN473, gA474, gK474, gT474, gN474, gA475, gK475, gT475, gN475, gA492, gK492, gT492, gN492, gA496, gK496, gT496, gN496, gA497, gK497, gT497, gN497, gR0_0, gR0_1, gR0_2, gR0_3, gR0_4, gR0_5, gR0_6, gR0_7, gR0_8, gR0_9, gR0_10, gR0_11, gR0_12, gR1_0, gR4_2, gR8_0, gR8_1, gR8_2, gR12_5, gR14_0, gR14_1, gR14_2, gR42_0, gR45_0, gR49_9, gR49_10, gR49_11, gR49_12, gR49_15, gR49_16, gR49_17, gR49_18, gR49_19, gR49_20, gR49_21, gR49_23, gR49_24, gR49_25, gR49_26, gR49_34, gF54, gB54, gC54, gF215, gB215, gC215, gF376, gB376, gC376, gF383, gB383, gC383, gF392, gB392, gC392, gF475, gB475, gC475, gF492, gB492, gC492, ni_le, ni_lt, ni_eq, ni_add, ni_mul, lni_le, lni_lt, nil_le, nil_lt, lni_eq, nil_eq, lni_add, nil_add, lni_mul, nil_mul, ix_ni, ix_lit, ni_ne1, ni_lt0, ↓reduceIte, Nat.reduceEqDiff, Nat.reduceMul, Nat.reduceAdd, Nat.reduceLeDiff, and_true, true_and, false_and, and_false, if_true, if_false, Nat.not_lt_zero, false_or, or_false, ft9, decide_true, o10, eq_self, b2i_0, b2i_1, b2i_ok, b2i_inj, b2i_t, b2i_f, rIwIk, h53, e, ↓bdE k6]
    | true =>
      rw [et, b2i_t] at k6
      have hF : lsF σ x i y = y &&& (gI σ 2 i ^^^ (-1 : Int32)) := by unfold lsF; rw [et]; rfl
      rw [hF]
      simp (disch := first | assumption | omega | ((repeat (first | assumption | apply G_wI | apply G_wL | apply CSh_wI | apply CSh_wL)); done) | decide) only [↓dO0, ↓dO1, ↓dA2, ↓dK2, ↓dT2, ↓dO3, ↓dO4, ↓dA5, ↓dK5, ↓dT5, ↓dA6, ↓dK6, ↓dT6, ↓dA7, ↓dK7, ↓dT7, ↓dO8, ↓dA9, ↓dK9, ↓dT9, ↓dA10, ↓dK10, ↓dT10, ↓dA11, ↓dK11, ↓dT11, ↓dO12, ↓dA13, ↓dK13, ↓dT13, ↓dO14, ↓dA15, ↓dK15, ↓dT15, ↓dO16, ↓dO29, ↓dO42, ↓dA43, ↓dK43, ↓dT43, ↓dA44, ↓dK44, ↓dT44, ↓dO45, ↓dA46, ↓dK46, ↓dT46, ↓dO47, ↓dA48, ↓dK48, ↓dT48, ↓dO49, ↓dA50, ↓dK50, ↓dT50, ↓dA51, ↓dK51, ↓dT51, ↓dA52, ↓dK52, ↓dT52, ↓dA53, ↓dK53, ↓dT53, ↓dA54, ↓dK54, ↓dT54, ↓dA215, ↓dK215, ↓dT215, ↓dA376, ↓dK376, ↓dT376, ↓dA383, ↓dK383, ↓dT383, ↓dA390, ↓dK390, ↓dT390, ↓dA391, ↓dK391, ↓dT391, ↓dA392, ↓dK392, ↓dT392, ↓dA473, ↓dK473, ↓dT473, ↓dA474, ↓dK474, ↓dT474, ↓dA475, ↓dK475, ↓dT475, ↓dA492, ↓dK492, ↓dT492, ↓dA496, ↓dK496, ↓dT496, ↓dA497, ↓dK497, ↓dT497, ↓dR0_0, ↓dR0_1, ↓dR0_2, ↓dR0_3, ↓dR0_4, ↓dR0_5, ↓dR0_6, ↓dR0_7, ↓dR0_8, ↓dR0_9, ↓dR0_10, ↓dR0_11, ↓dR0_12, ↓dR1_0, ↓dR4_2, ↓dR8_0, ↓dR8_1, ↓dR8_2, ↓dR12_5, ↓dR14_0, ↓dR14_1, ↓dR14_2, ↓dR42_0, ↓dR45_0, ↓dR49_9, ↓dR49_10, ↓dR49_11, ↓dR49_12, ↓dR49_15, ↓dR49_16, ↓dR49_17, ↓dR49_18, ↓dR49_19, ↓dR49_20, ↓dR49_21, ↓dR49_23, ↓dR49_24, ↓dR49_25, ↓dR49_26, ↓dR49_34, ↓dF54, ↓dB54, ↓dC54, ↓dF215, ↓dB215, ↓dC215, ↓dF376, ↓dB376, ↓dC376, ↓dF383, ↓dB383, ↓dC383, ↓dF392, ↓dB392, ↓dC392, ↓dF475, ↓dB475, ↓dC475, ↓dF492, ↓dB492, ↓dC492, ↓lt9_e, ↓jn_e, ↓bd_s, gd_t, bd_s, oc_s, oc_n, lt9_e, jn_e, okOwI, okAwI, okTwI, lnwI, okOwL, okAwL, okTwL, lnwL, rRwI, rRwL, sHwI, sHwL, rIwL, rLwI, gO0, gO1, gA2, gK2, gT2, gN2, gO3, gO4, gA5, gK5, gT5, gN5, gA6, gK6, gT6, gN6, gA7, gK7, gT7, gN7, gO8, gA9, gK9, gT9, gN9, gA10, gK10, gT10, gN10, gA11, gK11, gT11, gN11, gO12, gA13, gK13, gT13, gN13, gO14, gA15, gK15, gT15, gN15, gO16, gO29, gO42, gA43, gK43, gT43, gN43, gA44, gK44, gT44, gN44, gO45, gA46, gK46, gT46, gN46, gO47, gA48, gK48, gT48, gN48, gO49, gA50, gK50, gT50, gN50, gA51, gK51, gT51, gN51, gA52, gK52, gT52, gN52, gA53, gK53, gT53, gN53, gA54, gK54, gT54, gN54, gA215, gK215, gT215, gN215, gA376, gK376, gT376, gN376, gA383, gK383, gT383, gN383, gA390, gK390, gT390, gN390, gA391, gK391, gT391, gN391, gA392, gK392, gT392, gN392, gA473, gK473, gT473, gN473, gA474, gK474, gT474, gN474, gA475, gK475, gT475, gN475, gA492, gK492, gT492, gN492, gA496, gK496, gT496, gN496, gA497, gK497, gT497, gN497, gR0_0, gR0_1, gR0_2, gR0_3, gR0_4, gR0_5, gR0_6, gR0_7, gR0_8, gR0_9, gR0_10, gR0_11, gR0_12, gR1_0, gR4_2, gR8_0, gR8_1, gR8_2, gR12_5, gR14_0, gR14_1, gR14_2, gR42_0, gR45_0, gR49_9, gR49_10, gR49_11, gR49_12, gR49_15, gR49_16, gR49_17, gR49_18, gR49_19, gR49_20, gR49_21, gR49_23, gR49_24, gR49_25, gR49_26, gR49_34, gF54, gB54, gC54, gF215, gB215, gC215, gF376, gB376, gC376, gF383, gB383, gC383, gF392, gB392, gC392, gF475, gB475, gC475, gF492, gB492, gC492, ni_le, ni_lt, ni_eq, ni_add, ni_mul, lni_le, lni_lt, nil_le, nil_lt, lni_eq, nil_eq, lni_add, nil_add, lni_mul, nil_mul, ix_ni, ix_lit, ni_ne1, ni_lt0, ↓reduceIte, Nat.reduceEqDiff, Nat.reduceMul, Nat.reduceAdd, Nat.reduceLeDiff, and_true, true_and, false_and, and_false, if_true, if_false, Nat.not_lt_zero, false_or, or_false, ft9, decide_true, o10, eq_self, b2i_0, b2i_1, b2i_ok, b2i_inj, b2i_t, b2i_f, rIwIk, h53, e, ↓bdE k6, lt, kg]
theorem and_m1 (x : Int32) : x &&& (-1 : Int32) = x := by
  apply tb_ext
  intro k hk
  rw [tb_and, tb_m1, decide_eq_true hk, Bool.and_true]
theorem and_self9 (x : Int32) : x &&& x = x := by
  apply tb_ext
  intro k hk
  rw [tb_and, Bool.and_self]
theorem lost_n {n B : Nat} {x : Int32} {σ : St} (wf : WF n B σ) (hb : bel n x) : itn (lsF σ x) n 0 (((1 : Int32) <<< (gI σ 0 7 &&& 31)) - (1 : Int32)) = gotByNone σ x := by
  have e : ∀ d i y, itn (lsF σ x) d i y = itn (gbnF σ x) d i y := fun d i y => itn_cg (P := fun _ _ => True) d i y trivial (fun k z _ _ _ => ⟨by
    unfold lsF gbnF
    cases tb x k with
    | true => rfl
    | false => rw [if_neg (by decide), if_neg (by decide), and_m1, and_self9], trivial⟩)
  rw [e]
  unfold gotByNone
  refine (itn_tail (WF_6 wf) (fun k h1 h2 => ?_)).symm
  unfold gbnF
  rw [hb k h1, if_neg (by decide), and_m1]
theorem qr_lost {n l len : Nat} {cs : Nat → Nat} {bk : List (Nat × Nat)} {y : Nat → Nat} {t : Nat} {pl rf : Int32} {ru : Nat → Int32} {pk ik : Nat} {jk : Nat → Nat} {ct : Nat → St} {B : Nat} {m : Mm} (p : IP n l len cs bk pk ik jk ct B) (g : G m) (h : IR n l len cs bk y t pl rf ru pk ik jk ct m) : ∃ m1, F_X12_lost 49 m = some (lostP cs len n (ct 0), m1) ∧ Qr m m1 := by
  have g0 : G (wI m 49 0 0) := G_wI g
  have rc := IR_RC p g0 (IR_0 0 h)
  have rr := IR_now (IR_0 0 h)
  have wf : WF n B (ct 0) := p.2.2.2.2.2.2.2 0 (Val_0 _ _ _)
  obtain ⟨m1, x1, x2⟩ := r_primOf (.inl rfl) wf rc rr
  have g1 := G_fr x2 g0
  have rc1 := RC_q rc x2
  have rr1 : RR (rI m1 473) (ct 0) := by rw [AR_w (.inl rfl) x2]; exact rr
  have r187 : rI m1 473 (ix (187 : Int32)) = gI (ct 0) 0 7 := RR187 rr1
  have hn := p.1
  refine ⟨m1, ?_, Qr_trans (Qr_0 m 0) (Qr_AR x2)⟩
  unfold F_X12_lost lostP
  by_cases e : partN cs len n (ct 0) = -1
  · have e' := eq_true e
    simp only [gO49 g, gO49 g0, gO49 g1, gd_t, lt9_e, gR49_23 g0, gR49_23 g1, oc_s, bdE x1, gK473 g1 (show 187 < 968 by omega), r187, e', if_true]
  · have e' := eq_false e
    have hb : bel n (partN cs len n (ct 0)) := (prim_sv wf (bel_st wf) e).2.1
    have z := r_lostL (x := partN cs len n (ct 0)) g1 rc1.2.1 hn rr1 n 0 NF (((1 : Int32) <<< (gI (ct 0) 0 7 &&& 31)) - (1 : Int32)) (by omega) (by unfold NF; omega)
    rw [lost_n wf hb, ni_0] at z
    simp only [gO49 g, gO49 g0, gO49 g1, gd_t, lt9_e, gR49_23 g0, gR49_23 g1, oc_s, bdE x1, gK473 g1 (show 187 < 968 by omega), r187, e', if_false]
    exact z
/-! fall, splits -/
theorem qc_fall {n l len : Nat} {cs : Nat → Nat} {bk : List (Nat × Nat)} {y : Nat → Nat} {t : Nat} {pl rf : Int32} {ru : Nat → Int32} {pk ik : Nat} {jk : Nat → Nat} {ct : Nat → St} {B : Nat} {m : Mm} (p : IP n l len cs bk pk ik jk ct B) (h : IC n l len cs bk y t pl rf ru pk ik jk ct m) : ∃ m1, F_X11_fall 0 m = some (oi (flP (standing (ct 0)) (fpP cs len n (ct 0)) n), m1) ∧ Qf m m1 := by
  obtain ⟨q, ha, wf, g⟩ := IC_ctx p h
  obtain ⟨m1, x1, x3⟩ := c_fall (B := B) (.inl rfl) q (by rw [ha]; exact wf)
  rw [ha] at x1
  refine ⟨m1, ?_, Qf_AQ x3⟩
  unfold F_X11_fall
  simp only [gO0 g, gd_t, gR0_5 g, gR0_6 g, oc_s, gO14 g, bdE x1]
theorem qr_fall {n l len : Nat} {cs : Nat → Nat} {bk : List (Nat × Nat)} {y : Nat → Nat} {t : Nat} {pl rf : Int32} {ru : Nat → Int32} {pk ik : Nat} {jk : Nat → Nat} {ct : Nat → St} {B : Nat} {m : Mm} (p : IP n l len cs bk pk ik jk ct B) (g : G m) (h : IR n l len cs bk y t pl rf ru pk ik jk ct m) : ∃ m1, F_X12_fall 49 m = some (oi (flP (standing (ct 0)) (fpP cs len n (ct 0)) n), m1) ∧ Qr m m1 := by
  have g0 : G (wI m 49 0 0) := G_wI g
  have rc := IR_RC p g0 (IR_0 0 h)
  have rr := IR_now (IR_0 0 h)
  have wf : WF n B (ct 0) := p.2.2.2.2.2.2.2 0 (Val_0 _ _ _)
  have hp := pw_n n p.1
  have r184 : rI (wI m 49 0 0) 473 (ix (184 : Int32)) = gI (ct 0) 0 3 := RR184 rr
  have r183 : rI (wI m 49 0 0) 473 (ix (183 : Int32)) = gI (ct 0) 0 2 := RR183 rr
  obtain ⟨m1, x1, x2⟩ := r_fallL wf (2 ^ n) 0 NF none (wI m 49 0 0) (by omega) (by unfold NF; omega) (fun c hc => by cases hc) rc rr
  refine ⟨m1, ?_, Qr_trans (Qr_0 m 0) (Qr_AR x2)⟩
  unfold F_X12_fall
  simp only [gO49 g, gO49 g0, gd_t, lt9_e, gR49_23 g0, oc_s, gK473 g0 (show 184 < 968 by omega), gK473 g0 (show 183 < 968 by omega), r184, r183]
  exact x1
theorem qc_splits {n l len : Nat} {cs : Nat → Nat} {bk : List (Nat × Nat)} {y : Nat → Nat} {t : Nat} {pl rf : Int32} {ru : Nat → Int32} {pk ik : Nat} {jk : Nat → Nat} {ct : Nat → St} {B : Nat} {m : Mm} (p : IP n l len cs bk pk ik jk ct B) (h : IC n l len cs bk y t pl rf ru pk ik jk ct m) : ∃ m1, F_X11_splits 0 m = some (ni (splP (prP0 cs len n (ct 0)) n), m1) ∧ Qf m m1 := by
  obtain ⟨q, ha, wf, g⟩ := IC_ctx p h
  obtain ⟨m1, x1, x3⟩ := c_splits (.inl rfl) q (bel_st (by rw [ha]; exact wf))
  rw [ha] at x1
  refine ⟨m1, ?_, Qf_AQ x3⟩
  unfold F_X11_splits
  simp only [gO0 g, gd_t, gR0_5 g, gR0_6 g, oc_s, gO14 g, bdE x1]
theorem qr_splits {n l len : Nat} {cs : Nat → Nat} {bk : List (Nat × Nat)} {y : Nat → Nat} {t : Nat} {pl rf : Int32} {ru : Nat → Int32} {pk ik : Nat} {jk : Nat → Nat} {ct : Nat → St} {B : Nat} {m : Mm} (p : IP n l len cs bk pk ik jk ct B) (g : G m) (h : IR n l len cs bk y t pl rf ru pk ik jk ct m) : ∃ m1, F_X12_splits 49 m = some (ni (splP (prP0 cs len n (ct 0)) n), m1) ∧ Qr m m1 := by
  have g0 : G (wI m 49 0 0) := G_wI g
  have rc := IR_RC p g0 (IR_0 0 h)
  have rr := IR_now (IR_0 0 h)
  have wf : WF n B (ct 0) := p.2.2.2.2.2.2.2 0 (Val_0 _ _ _)
  have hp := pw_n n p.1
  obtain ⟨m1, x1, x2⟩ := r_splL wf (2 ^ n) 0 NF 0 (wI m 49 0 0) (by omega) (by unfold NF; omega) rc rr
  refine ⟨m1, ?_, Qr_trans (Qr_0 m 0) (Qr_AR x2)⟩
  unfold F_X12_splits
  rw [gO49 g, gd_t, lt9_e, lt9_e, lt9_e]
  exact x1
/-! tells -/
theorem qc_tells {n l len : Nat} {cs : Nat → Nat} {bk : List (Nat × Nat)} {y : Nat → Nat} {t : Nat} {pl rf : Int32} {ru : Nat → Int32} {pk ik : Nat} {jk : Nat → Nat} {ct : Nat → St} {B : Nat} {m : Mm} (p : IP n l len cs bk pk ik jk ct B) (h : IC n l len cs bk y t pl rf ru pk ik jk ct m) : ∃ m1, F_X11_tells 0 m = some (countUntold (ct 0), m1) ∧ Qf m m1 := by
  obtain ⟨q, ha, wf, g⟩ := IC_ctx p h
  have k2 := c_countUntold (G_16 g)
  rw [ha] at k2
  refine ⟨m, ?_, Qf_refl m⟩
  unfold F_X11_tells
  simp only [gO0 g, gd_t, gR0_6 g, oc_s, gO16 g, bdE k2]
theorem r_hasTo {n B a : Nat} {lim : Int32} {σ : St} {m : Mm} (g : G m) (mc : MC 49 53 473 n lim m) (rr : RR (rI m 473) σ) (wf : WF n B σ) (ha : a < 6) : F_X12_hasToTell 49 (ni a) m = some (b2i (isUntold σ a), m) := by
  have hn := WF_6 wf
  have h53 := mc.2.2.2.1
  have L : ∀ (d i fuel : Nat), i + d = n → d < fuel → L_X12_hasToTell_2 fuel 49 (ni a) (ni i) m = some (b2i (ex9 (untS σ a) (fun _ => false) d i ()), m) := by
    intro d
    induction d with
    | zero =>
      intro i fuel hd hf
      obtain ⟨fuel, rfl⟩ : ∃ z, fuel = z + 1 := ⟨fuel - 1, by omega⟩
      have e : (ni n ≤ ni i) = True := eq_true (by rw [ni_le (by omega) (by omega)]; omega)
      rw [L_X12_hasToTell_2]
      simp (disch := first | assumption | omega | ((repeat (first | assumption | apply G_wI | apply G_wL | apply CSh_wI | apply CSh_wL)); done) | decide) only [↓dO0, ↓dO1, ↓dA2, ↓dK2, ↓dT2, ↓dO3, ↓dO4, ↓dA5, ↓dK5, ↓dT5, ↓dA6, ↓dK6, ↓dT6, ↓dA7, ↓dK7, ↓dT7, ↓dO8, ↓dA9, ↓dK9, ↓dT9, ↓dA10, ↓dK10, ↓dT10, ↓dA11, ↓dK11, ↓dT11, ↓dO12, ↓dA13, ↓dK13, ↓dT13, ↓dO14, ↓dA15, ↓dK15, ↓dT15, ↓dO16, ↓dO29, ↓dO42, ↓dA43, ↓dK43, ↓dT43, ↓dA44, ↓dK44, ↓dT44, ↓dO45, ↓dA46, ↓dK46, ↓dT46, ↓dO47, ↓dA48, ↓dK48, ↓dT48, ↓dO49, ↓dA50, ↓dK50, ↓dT50, ↓dA51, ↓dK51, ↓dT51, ↓dA52, ↓dK52, ↓dT52, ↓dA53, ↓dK53, ↓dT53, ↓dA54, ↓dK54, ↓dT54, ↓dA215, ↓dK215, ↓dT215, ↓dA376, ↓dK376, ↓dT376, ↓dA383, ↓dK383, ↓dT383, ↓dA390, ↓dK390, ↓dT390, ↓dA391, ↓dK391, ↓dT391, ↓dA392, ↓dK392, ↓dT392, ↓dA473, ↓dK473, ↓dT473, ↓dA474, ↓dK474, ↓dT474, ↓dA475, ↓dK475, ↓dT475, ↓dA492, ↓dK492, ↓dT492, ↓dA496, ↓dK496, ↓dT496, ↓dA497, ↓dK497, ↓dT497, ↓dR0_0, ↓dR0_1, ↓dR0_2, ↓dR0_3, ↓dR0_4, ↓dR0_5, ↓dR0_6, ↓dR0_7, ↓dR0_8, ↓dR0_9, ↓dR0_10, ↓dR0_11, ↓dR0_12, ↓dR1_0, ↓dR4_2, ↓dR8_0, ↓dR8_1, ↓dR8_2, ↓dR12_5, ↓dR14_0, ↓dR14_1, ↓dR14_2, ↓dR42_0, ↓dR45_0, ↓dR49_9, ↓dR49_10, ↓dR49_11, ↓dR49_12, ↓dR49_15, ↓dR49_16, ↓dR49_17, ↓dR49_18, ↓dR49_19, ↓dR49_20, ↓dR49_21, ↓dR49_23, ↓dR49_24, ↓dR49_25, ↓dR49_26, ↓dR49_34, ↓dF54, ↓dB54, ↓dC54, ↓dF215, ↓dB215, ↓dC215, ↓dF376, ↓dB376, ↓dC376, ↓dF383, ↓dB383, ↓dC383, ↓dF392, ↓dB392, ↓dC392, ↓dF475, ↓dB475, ↓dC475, ↓dF492, ↓dB492, ↓dC492, ↓lt9_e, ↓jn_e, ↓bd_s, gd_t, bd_s, oc_s, oc_n, lt9_e, jn_e, okOwI, okAwI, okTwI, lnwI, okOwL, okAwL, okTwL, lnwL, rRwI, rRwL, sHwI, sHwL, rIwL, rLwI, gO0, gO1, gA2, gK2, gT2, gN2, gO3, gO4, gA5, gK5, gT5, gN5, gA6, gK6, gT6, gN6, gA7, gK7, gT7, gN7, gO8, gA9, gK9, gT9, gN9, gA10, gK10, gT10, gN10, gA11, gK11, gT11, gN11, gO12, gA13, gK13, gT13, gN13, gO14, gA15, gK15, gT15, gN15, gO16, gO29, gO42, gA43, gK43, gT43, gN43, gA44, gK44, gT44, gN44, gO45, gA46, gK46, gT46, gN46, gO47, gA48, gK48, gT48, gN48, gO49, gA50, gK50, gT50, gN50, gA51, gK51, gT51, gN51, gA52, gK52, gT52, gN52, gA53, gK53, gT53, gN53, gA54, gK54, gT54, gN54, gA215, gK215, gT215, gN215, gA376, gK376, gT376, gN376, gA383, gK383, gT383, gN383, gA390, gK390, gT390, gN390, gA391, gK391, gT391, gN391, gA392, gK392, gT392, gN392, gA473, gK473, gT473, gN473, gA474, gK474, gT474, gN474, gA475, gK475, gT475, gN475, gA492, gK492, gT492, gN492, gA496, gK496, gT496, gN496, gA497, gK497, gT497, gN497, gR0_0, gR0_1, gR0_2, gR0_3, gR0_4, gR0_5, gR0_6, gR0_7, gR0_8, gR0_9, gR0_10, gR0_11, gR0_12, gR1_0, gR4_2, gR8_0, gR8_1, gR8_2, gR12_5, gR14_0, gR14_1, gR14_2, gR42_0, gR45_0, gR49_9, gR49_10, gR49_11, gR49_12, gR49_15, gR49_16, gR49_17, gR49_18, gR49_19, gR49_20, gR49_21, gR49_23, gR49_24, gR49_25, gR49_26, gR49_34, gF54, gB54, gC54, gF215, gB215, gC215, gF376, gB376, gC376, gF383, gB383, gC383, gF392, gB392, gC392, gF475, gB475, gC475, gF492, gB492, gC492, ni_le, ni_lt, ni_eq, ni_add, ni_mul, lni_le, lni_lt, nil_le, nil_lt, lni_eq, nil_eq, lni_add, nil_add, lni_mul, nil_mul, ix_ni, ix_lit, ni_ne1, ni_lt0, ↓reduceIte, Nat.reduceEqDiff, Nat.reduceMul, Nat.reduceAdd, Nat.reduceLeDiff, and_true, true_and, false_and, and_false, if_true, if_false, Nat.not_lt_zero, false_or, or_false, ft9, decide_true, o10, eq_self, b2i_0, b2i_1, b2i_ok, b2i_inj, b2i_t, b2i_f, rIwIk, h53, e]
      rfl
    | succ d ih =>
      intro i fuel hd hf
      obtain ⟨fuel, rfl⟩ : ∃ z, fuel = z + 1 := ⟨fuel - 1, by omega⟩
      have e : (ni n ≤ ni i) = False := eq_false (fun z => by rw [ni_le (by omega) (by omega)] at z; omega)
      have k1 := r_inside (a := i) mc rr (by omega)
      have r180 := RR180 rr
      have k2 := r_reaches (x := gI σ 0 6) (a := a) (b := i) (m := m) (by omega) (by omega)
      have kk := r_knownOf (a := i) (b := a) (m := m) (by omega) ha
      have kl := RRl rr (show i < 6 by omega) ha
      have kg := RRg rr ha
      have l1 : 12 + a < 968 := by omega
      have l2 : 36 + 6 * i + a < 968 := by omega
      have hre : reachI σ (ni a) (ni i) = (tb (gI σ 0 6) a == tb (gI σ 0 6) i) := by
        unfold reachI
        rw [has6_ni ha, has6_ni (by omega)]
      have ih' := ih (i + 1) fuel (by omega) (by omega)
      rw [L_X12_hasToTell_2]
      cases es : stands σ i with
      | false =>
        rw [es, b2i_f] at k1
        have hS : ex9 (untS σ a) (fun _ => false) (d + 1) i () = ex9 (untS σ a) (fun _ => false) d (i + 1) () := ex9_r (by
          unfold untS
          rw [if_pos es])
        rw [hS, ← ih']
        simp (disch := first | assumption | omega | ((repeat (first | assumption | apply G_wI | apply G_wL | apply CSh_wI | apply CSh_wL)); done) | decide) only [↓dO0, ↓dO1, ↓dA2, ↓dK2, ↓dT2, ↓dO3, ↓dO4, ↓dA5, ↓dK5, ↓dT5, ↓dA6, ↓dK6, ↓dT6, ↓dA7, ↓dK7, ↓dT7, ↓dO8, ↓dA9, ↓dK9, ↓dT9, ↓dA10, ↓dK10, ↓dT10, ↓dA11, ↓dK11, ↓dT11, ↓dO12, ↓dA13, ↓dK13, ↓dT13, ↓dO14, ↓dA15, ↓dK15, ↓dT15, ↓dO16, ↓dO29, ↓dO42, ↓dA43, ↓dK43, ↓dT43, ↓dA44, ↓dK44, ↓dT44, ↓dO45, ↓dA46, ↓dK46, ↓dT46, ↓dO47, ↓dA48, ↓dK48, ↓dT48, ↓dO49, ↓dA50, ↓dK50, ↓dT50, ↓dA51, ↓dK51, ↓dT51, ↓dA52, ↓dK52, ↓dT52, ↓dA53, ↓dK53, ↓dT53, ↓dA54, ↓dK54, ↓dT54, ↓dA215, ↓dK215, ↓dT215, ↓dA376, ↓dK376, ↓dT376, ↓dA383, ↓dK383, ↓dT383, ↓dA390, ↓dK390, ↓dT390, ↓dA391, ↓dK391, ↓dT391, ↓dA392, ↓dK392, ↓dT392, ↓dA473, ↓dK473, ↓dT473, ↓dA474, ↓dK474, ↓dT474, ↓dA475, ↓dK475, ↓dT475, ↓dA492, ↓dK492, ↓dT492, ↓dA496, ↓dK496, ↓dT496, ↓dA497, ↓dK497, ↓dT497, ↓dR0_0, ↓dR0_1, ↓dR0_2, ↓dR0_3, ↓dR0_4, ↓dR0_5, ↓dR0_6, ↓dR0_7, ↓dR0_8, ↓dR0_9, ↓dR0_10, ↓dR0_11, ↓dR0_12, ↓dR1_0, ↓dR4_2, ↓dR8_0, ↓dR8_1, ↓dR8_2, ↓dR12_5, ↓dR14_0, ↓dR14_1, ↓dR14_2, ↓dR42_0, ↓dR45_0, ↓dR49_9, ↓dR49_10, ↓dR49_11, ↓dR49_12, ↓dR49_15, ↓dR49_16, ↓dR49_17, ↓dR49_18, ↓dR49_19, ↓dR49_20, ↓dR49_21, ↓dR49_23, ↓dR49_24, ↓dR49_25, ↓dR49_26, ↓dR49_34, ↓dF54, ↓dB54, ↓dC54, ↓dF215, ↓dB215, ↓dC215, ↓dF376, ↓dB376, ↓dC376, ↓dF383, ↓dB383, ↓dC383, ↓dF392, ↓dB392, ↓dC392, ↓dF475, ↓dB475, ↓dC475, ↓dF492, ↓dB492, ↓dC492, ↓lt9_e, ↓jn_e, ↓bd_s, gd_t, bd_s, oc_s, oc_n, lt9_e, jn_e, okOwI, okAwI, okTwI, lnwI, okOwL, okAwL, okTwL, lnwL, rRwI, rRwL, sHwI, sHwL, rIwL, rLwI, gO0, gO1, gA2, gK2, gT2, gN2, gO3, gO4, gA5, gK5, gT5, gN5, gA6, gK6, gT6, gN6, gA7, gK7, gT7, gN7, gO8, gA9, gK9, gT9, gN9, gA10, gK10, gT10, gN10, gA11, gK11, gT11, gN11, gO12, gA13, gK13, gT13, gN13, gO14, gA15, gK15, gT15, gN15, gO16, gO29, gO42, gA43, gK43, gT43, gN43, gA44, gK44, gT44, gN44, gO45, gA46, gK46, gT46, gN46, gO47, gA48, gK48, gT48, gN48, gO49, gA50, gK50, gT50, gN50, gA51, gK51, gT51, gN51, gA52, gK52, gT52, gN52, gA53, gK53, gT53, gN53, gA54, gK54, gT54, gN54, gA215, gK215, gT215, gN215, gA376, gK376, gT376, gN376, gA383, gK383, gT383, gN383, gA390, gK390, gT390, gN390, gA391, gK391, gT391, gN391, gA392, gK392, gT392, gN392, gA473, gK473, gT473, gN473, gA474, gK474, gT474, gN474, gA475, gK475, gT475, gN475, gA492, gK492, gT492, gN492, gA496, gK496, gT496, gN496, gA497, gK497, gT497, gN497, gR0_0, gR0_1, gR0_2, gR0_3, gR0_4, gR0_5, gR0_6, gR0_7, gR0_8, gR0_9, gR0_10, gR0_11, gR0_12, gR1_0, gR4_2, gR8_0, gR8_1, gR8_2, gR12_5, gR14_0, gR14_1, gR14_2, gR42_0, gR45_0, gR49_9, gR49_10, gR49_11, gR49_12, gR49_15, gR49_16, gR49_17, gR49_18, gR49_19, gR49_20, gR49_21, gR49_23, gR49_24, gR49_25, gR49_26, gR49_34, gF54, gB54, gC54, gF215, gB215, gC215, gF376, gB376, gC376, gF383, gB383, gC383, gF392, gB392, gC392, gF475, gB475, gC475, gF492, gB492, gC492, ni_le, ni_lt, ni_eq, ni_add, ni_mul, lni_le, lni_lt, nil_le, nil_lt, lni_eq, nil_eq, lni_add, nil_add, lni_mul, nil_mul, ix_ni, ix_lit, ni_ne1, ni_lt0, ↓reduceIte, Nat.reduceEqDiff, Nat.reduceMul, Nat.reduceAdd, Nat.reduceLeDiff, and_true, true_and, false_and, and_false, if_true, if_false, Nat.not_lt_zero, false_or, or_false, ft9, decide_true, o10, eq_self, b2i_0, b2i_1, b2i_ok, b2i_inj, b2i_t, b2i_f, rIwIk, h53, e, ↓bdE k1]
      | true =>
        rw [es, b2i_t] at k1
        cases er : (tb (gI σ 0 6) a == tb (gI σ 0 6) i) with
        | false =>
          rw [er, b2i_f] at k2
          have hS : ex9 (untS σ a) (fun _ => false) (d + 1) i () = ex9 (untS σ a) (fun _ => false) d (i + 1) () := ex9_r (by
            unfold untS
            rw [if_neg (by rw [es]; decide), if_pos (by rw [hre]; exact er)])
          rw [hS, ← ih']
          simp (disch := first | assumption | omega | ((repeat (first | assumption | apply G_wI | apply G_wL | apply CSh_wI | apply CSh_wL)); done) | decide) only [↓dO0, ↓dO1, ↓dA2, ↓dK2, ↓dT2, ↓dO3, ↓dO4, ↓dA5, ↓dK5, ↓dT5, ↓dA6, ↓dK6, ↓dT6, ↓dA7, ↓dK7, ↓dT7, ↓dO8, ↓dA9, ↓dK9, ↓dT9, ↓dA10, ↓dK10, ↓dT10, ↓dA11, ↓dK11, ↓dT11, ↓dO12, ↓dA13, ↓dK13, ↓dT13, ↓dO14, ↓dA15, ↓dK15, ↓dT15, ↓dO16, ↓dO29, ↓dO42, ↓dA43, ↓dK43, ↓dT43, ↓dA44, ↓dK44, ↓dT44, ↓dO45, ↓dA46, ↓dK46, ↓dT46, ↓dO47, ↓dA48, ↓dK48, ↓dT48, ↓dO49, ↓dA50, ↓dK50, ↓dT50, ↓dA51, ↓dK51, ↓dT51, ↓dA52, ↓dK52, ↓dT52, ↓dA53, ↓dK53, ↓dT53, ↓dA54, ↓dK54, ↓dT54, ↓dA215, ↓dK215, ↓dT215, ↓dA376, ↓dK376, ↓dT376, ↓dA383, ↓dK383, ↓dT383, ↓dA390, ↓dK390, ↓dT390, ↓dA391, ↓dK391, ↓dT391, ↓dA392, ↓dK392, ↓dT392, ↓dA473, ↓dK473, ↓dT473, ↓dA474, ↓dK474, ↓dT474, ↓dA475, ↓dK475, ↓dT475, ↓dA492, ↓dK492, ↓dT492, ↓dA496, ↓dK496, ↓dT496, ↓dA497, ↓dK497, ↓dT497, ↓dR0_0, ↓dR0_1, ↓dR0_2, ↓dR0_3, ↓dR0_4, ↓dR0_5, ↓dR0_6, ↓dR0_7, ↓dR0_8, ↓dR0_9, ↓dR0_10, ↓dR0_11, ↓dR0_12, ↓dR1_0, ↓dR4_2, ↓dR8_0, ↓dR8_1, ↓dR8_2, ↓dR12_5, ↓dR14_0, ↓dR14_1, ↓dR14_2, ↓dR42_0, ↓dR45_0, ↓dR49_9, ↓dR49_10, ↓dR49_11, ↓dR49_12, ↓dR49_15, ↓dR49_16, ↓dR49_17, ↓dR49_18, ↓dR49_19, ↓dR49_20, ↓dR49_21, ↓dR49_23, ↓dR49_24, ↓dR49_25, ↓dR49_26, ↓dR49_34, ↓dF54, ↓dB54, ↓dC54, ↓dF215, ↓dB215, ↓dC215, ↓dF376, ↓dB376, ↓dC376, ↓dF383, ↓dB383, ↓dC383, ↓dF392, ↓dB392, ↓dC392, ↓dF475, ↓dB475, ↓dC475, ↓dF492, ↓dB492, ↓dC492, ↓lt9_e, ↓jn_e, ↓bd_s, gd_t, bd_s, oc_s, oc_n, lt9_e, jn_e, okOwI, okAwI, okTwI, lnwI, okOwL, okAwL, okTwL, lnwL, rRwI, rRwL, sHwI, sHwL, rIwL, rLwI, gO0, gO1, gA2, gK2, gT2, gN2, gO3, gO4, gA5, gK5, gT5, gN5, gA6, gK6, gT6, gN6, gA7, gK7, gT7, gN7, gO8, gA9, gK9, gT9, gN9, gA10, gK10, gT10, gN10, gA11, gK11, gT11, gN11, gO12, gA13, gK13, gT13, gN13, gO14, gA15, gK15, gT15, gN15, gO16, gO29, gO42, gA43, gK43, gT43, gN43, gA44, gK44, gT44, gN44, gO45, gA46, gK46, gT46, gN46, gO47, gA48, gK48, gT48, gN48, gO49, gA50, gK50, gT50, gN50, gA51, gK51, gT51, gN51, gA52, gK52, gT52, gN52, gA53, gK53, gT53, gN53, gA54, gK54, gT54, gN54, gA215, gK215, gT215, gN215, gA376, gK376, gT376, gN376, gA383, gK383, gT383, gN383, gA390, gK390, gT390, gN390, gA391, gK391, gT391, gN391, gA392, gK392, gT392, gN392, gA473, gK473, gT473, gN473, gA474, gK474, gT474, gN474, gA475, gK475, gT475, gN475, gA492, gK492, gT492, gN492, gA496, gK496, gT496, gN496, gA497, gK497, gT497, gN497, gR0_0, gR0_1, gR0_2, gR0_3, gR0_4, gR0_5, gR0_6, gR0_7, gR0_8, gR0_9, gR0_10, gR0_11, gR0_12, gR1_0, gR4_2, gR8_0, gR8_1, gR8_2, gR12_5, gR14_0, gR14_1, gR14_2, gR42_0, gR45_0, gR49_9, gR49_10, gR49_11, gR49_12, gR49_15, gR49_16, gR49_17, gR49_18, gR49_19, gR49_20, gR49_21, gR49_23, gR49_24, gR49_25, gR49_26, gR49_34, gF54, gB54, gC54, gF215, gB215, gC215, gF376, gB376, gC376, gF383, gB383, gC383, gF392, gB392, gC392, gF475, gB475, gC475, gF492, gB492, gC492, ni_le, ni_lt, ni_eq, ni_add, ni_mul, lni_le, lni_lt, nil_le, nil_lt, lni_eq, nil_eq, lni_add, nil_add, lni_mul, nil_mul, ix_ni, ix_lit, ni_ne1, ni_lt0, ↓reduceIte, Nat.reduceEqDiff, Nat.reduceMul, Nat.reduceAdd, Nat.reduceLeDiff, and_true, true_and, false_and, and_false, if_true, if_false, Nat.not_lt_zero, false_or, or_false, ft9, decide_true, o10, eq_self, b2i_0, b2i_1, b2i_ok, b2i_inj, b2i_t, b2i_f, rIwIk, h53, e, ↓bdE k1, r180, ↓bdE k2]
        | true =>
          rw [er, b2i_t] at k2
          by_cases ez : gI σ 2 a &&& (gI σ 4 (i * 6 + a) ^^^ (-1 : Int32)) = 0
          · have ez' := eq_true ez
            have hS : ex9 (untS σ a) (fun _ => false) (d + 1) i () = ex9 (untS σ a) (fun _ => false) d (i + 1) () := ex9_r (by
              unfold untS
              rw [if_neg (by rw [es]; decide), if_neg (by rw [hre, er]; decide), if_pos ez])
            rw [hS, ← ih']
            simp (disch := first | assumption | omega | ((repeat (first | assumption | apply G_wI | apply G_wL | apply CSh_wI | apply CSh_wL)); done) | decide) only [↓dO0, ↓dO1, ↓dA2, ↓dK2, ↓dT2, ↓dO3, ↓dO4, ↓dA5, ↓dK5, ↓dT5, ↓dA6, ↓dK6, ↓dT6, ↓dA7, ↓dK7, ↓dT7, ↓dO8, ↓dA9, ↓dK9, ↓dT9, ↓dA10, ↓dK10, ↓dT10, ↓dA11, ↓dK11, ↓dT11, ↓dO12, ↓dA13, ↓dK13, ↓dT13, ↓dO14, ↓dA15, ↓dK15, ↓dT15, ↓dO16, ↓dO29, ↓dO42, ↓dA43, ↓dK43, ↓dT43, ↓dA44, ↓dK44, ↓dT44, ↓dO45, ↓dA46, ↓dK46, ↓dT46, ↓dO47, ↓dA48, ↓dK48, ↓dT48, ↓dO49, ↓dA50, ↓dK50, ↓dT50, ↓dA51, ↓dK51, ↓dT51, ↓dA52, ↓dK52, ↓dT52, ↓dA53, ↓dK53, ↓dT53, ↓dA54, ↓dK54, ↓dT54, ↓dA215, ↓dK215, ↓dT215, ↓dA376, ↓dK376, ↓dT376, ↓dA383, ↓dK383, ↓dT383, ↓dA390, ↓dK390, ↓dT390, ↓dA391, ↓dK391, ↓dT391, ↓dA392, ↓dK392, ↓dT392, ↓dA473, ↓dK473, ↓dT473, ↓dA474, ↓dK474, ↓dT474, ↓dA475, ↓dK475, ↓dT475, ↓dA492, ↓dK492, ↓dT492, ↓dA496, ↓dK496, ↓dT496, ↓dA497, ↓dK497, ↓dT497, ↓dR0_0, ↓dR0_1, ↓dR0_2, ↓dR0_3, ↓dR0_4, ↓dR0_5, ↓dR0_6, ↓dR0_7, ↓dR0_8, ↓dR0_9, ↓dR0_10, ↓dR0_11, ↓dR0_12, ↓dR1_0, ↓dR4_2, ↓dR8_0, ↓dR8_1, ↓dR8_2, ↓dR12_5, ↓dR14_0, ↓dR14_1, ↓dR14_2, ↓dR42_0, ↓dR45_0, ↓dR49_9, ↓dR49_10, ↓dR49_11, ↓dR49_12, ↓dR49_15, ↓dR49_16, ↓dR49_17, ↓dR49_18, ↓dR49_19, ↓dR49_20, ↓dR49_21, ↓dR49_23, ↓dR49_24, ↓dR49_25, ↓dR49_26, ↓dR49_34, ↓dF54, ↓dB54, ↓dC54, ↓dF215, ↓dB215, ↓dC215, ↓dF376, ↓dB376, ↓dC376, ↓dF383, ↓dB383, ↓dC383, ↓dF392, ↓dB392, ↓dC392, ↓dF475, ↓dB475, ↓dC475, ↓dF492, ↓dB492, ↓dC492, ↓lt9_e, ↓jn_e, ↓bd_s, gd_t, bd_s, oc_s, oc_n, lt9_e, jn_e, okOwI, okAwI, okTwI, lnwI, okOwL, okAwL, okTwL, lnwL, rRwI, rRwL, sHwI, sHwL, rIwL, rLwI, gO0, gO1, gA2, gK2, gT2, gN2, gO3, gO4, gA5, gK5, gT5, gN5, gA6, gK6, gT6, gN6, gA7, gK7, gT7, gN7, gO8, gA9, gK9, gT9, gN9, gA10, gK10, gT10, gN10, gA11, gK11, gT11, gN11, gO12, gA13, gK13, gT13, gN13, gO14, gA15, gK15, gT15, gN15, gO16, gO29, gO42, gA43, gK43, gT43, gN43, gA44, gK44, gT44, gN44, gO45, gA46, gK46, gT46, gN46, gO47, gA48, gK48, gT48, gN48, gO49, gA50, gK50, gT50, gN50, gA51, gK51, gT51, gN51, gA52, gK52, gT52, gN52, gA53, gK53, gT53, gN53, gA54, gK54, gT54, gN54, gA215, gK215, gT215, gN215, gA376, gK376, gT376, gN376, gA383, gK383, gT383, gN383, gA390, gK390, gT390, gN390, gA391, gK391, gT391, gN391, gA392, gK392, gT392, gN392, gA473, gK473, gT473, gN473, gA474, gK474, gT474, gN474, gA475, gK475, gT475, gN475, gA492, gK492, gT492, gN492, gA496, gK496, gT496, gN496, gA497, gK497, gT497, gN497, gR0_0, gR0_1, gR0_2, gR0_3, gR0_4, gR0_5, gR0_6, gR0_7, gR0_8, gR0_9, gR0_10, gR0_11, gR0_12, gR1_0, gR4_2, gR8_0, gR8_1, gR8_2, gR12_5, gR14_0, gR14_1, gR14_2, gR42_0, gR45_0, gR49_9, gR49_10, gR49_11, gR49_12, gR49_15, gR49_16, gR49_17, gR49_18, gR49_19, gR49_20, gR49_21, gR49_23, gR49_24, gR49_25, gR49_26, gR49_34, gF54, gB54, gC54, gF215, gB215, gC215, gF376, gB376, gC376, gF383, gB383, gC383, gF392, gB392, gC392, gF475, gB475, gC475, gF492, gB492, gC492, ni_le, ni_lt, ni_eq, ni_add, ni_mul, lni_le, lni_lt, nil_le, nil_lt, lni_eq, nil_eq, lni_add, nil_add, lni_mul, nil_mul, ix_ni, ix_lit, ni_ne1, ni_lt0, ↓reduceIte, Nat.reduceEqDiff, Nat.reduceMul, Nat.reduceAdd, Nat.reduceLeDiff, and_true, true_and, false_and, and_false, if_true, if_false, Nat.not_lt_zero, false_or, or_false, ft9, decide_true, o10, eq_self, b2i_0, b2i_1, b2i_ok, b2i_inj, b2i_t, b2i_f, rIwIk, h53, e, ↓bdE k1, r180, ↓bdE k2, ↓bdE kk, l1, l2, kl, kg, ez']
          · have ez' := eq_false ez
            have hS : ex9 (untS σ a) (fun _ => false) (d + 1) i () = true := ex9_l (by
              unfold untS
              rw [if_neg (by rw [es]; decide), if_neg (by rw [hre, er]; decide), if_neg ez])
            rw [hS]
            simp (disch := first | assumption | omega | ((repeat (first | assumption | apply G_wI | apply G_wL | apply CSh_wI | apply CSh_wL)); done) | decide) only [↓dO0, ↓dO1, ↓dA2, ↓dK2, ↓dT2, ↓dO3, ↓dO4, ↓dA5, ↓dK5, ↓dT5, ↓dA6, ↓dK6, ↓dT6, ↓dA7, ↓dK7, ↓dT7, ↓dO8, ↓dA9, ↓dK9, ↓dT9, ↓dA10, ↓dK10, ↓dT10, ↓dA11, ↓dK11, ↓dT11, ↓dO12, ↓dA13, ↓dK13, ↓dT13, ↓dO14, ↓dA15, ↓dK15, ↓dT15, ↓dO16, ↓dO29, ↓dO42, ↓dA43, ↓dK43, ↓dT43, ↓dA44, ↓dK44, ↓dT44, ↓dO45, ↓dA46, ↓dK46, ↓dT46, ↓dO47, ↓dA48, ↓dK48, ↓dT48, ↓dO49, ↓dA50, ↓dK50, ↓dT50, ↓dA51, ↓dK51, ↓dT51, ↓dA52, ↓dK52, ↓dT52, ↓dA53, ↓dK53, ↓dT53, ↓dA54, ↓dK54, ↓dT54, ↓dA215, ↓dK215, ↓dT215, ↓dA376, ↓dK376, ↓dT376, ↓dA383, ↓dK383, ↓dT383, ↓dA390, ↓dK390, ↓dT390, ↓dA391, ↓dK391, ↓dT391, ↓dA392, ↓dK392, ↓dT392, ↓dA473, ↓dK473, ↓dT473, ↓dA474, ↓dK474, ↓dT474, ↓dA475, ↓dK475, ↓dT475, ↓dA492, ↓dK492, ↓dT492, ↓dA496, ↓dK496, ↓dT496, ↓dA497, ↓dK497, ↓dT497, ↓dR0_0, ↓dR0_1, ↓dR0_2, ↓dR0_3, ↓dR0_4, ↓dR0_5, ↓dR0_6, ↓dR0_7, ↓dR0_8, ↓dR0_9, ↓dR0_10, ↓dR0_11, ↓dR0_12, ↓dR1_0, ↓dR4_2, ↓dR8_0, ↓dR8_1, ↓dR8_2, ↓dR12_5, ↓dR14_0, ↓dR14_1, ↓dR14_2, ↓dR42_0, ↓dR45_0, ↓dR49_9, ↓dR49_10, ↓dR49_11, ↓dR49_12, ↓dR49_15, ↓dR49_16, ↓dR49_17, ↓dR49_18, ↓dR49_19, ↓dR49_20, ↓dR49_21, ↓dR49_23, ↓dR49_24, ↓dR49_25, ↓dR49_26, ↓dR49_34, ↓dF54, ↓dB54, ↓dC54, ↓dF215, ↓dB215, ↓dC215, ↓dF376, ↓dB376, ↓dC376, ↓dF383, ↓dB383, ↓dC383, ↓dF392, ↓dB392, ↓dC392, ↓dF475, ↓dB475, ↓dC475, ↓dF492, ↓dB492, ↓dC492, ↓lt9_e, ↓jn_e, ↓bd_s, gd_t, bd_s, oc_s, oc_n, lt9_e, jn_e, okOwI, okAwI, okTwI, lnwI, okOwL, okAwL, okTwL, lnwL, rRwI, rRwL, sHwI, sHwL, rIwL, rLwI, gO0, gO1, gA2, gK2, gT2, gN2, gO3, gO4, gA5, gK5, gT5, gN5, gA6, gK6, gT6, gN6, gA7, gK7, gT7, gN7, gO8, gA9, gK9, gT9, gN9, gA10, gK10, gT10, gN10, gA11, gK11, gT11, gN11, gO12, gA13, gK13, gT13, gN13, gO14, gA15, gK15, gT15, gN15, gO16, gO29, gO42, gA43, gK43, gT43, gN43, gA44, gK44, gT44, gN44, gO45, gA46, gK46, gT46, gN46, gO47, gA48, gK48, gT48, gN48, gO49, gA50, gK50, gT50, gN50, gA51, gK51, gT51, gN51, gA52, gK52, gT52, gN52, gA53, gK53, gT53, gN53, gA54, gK54, gT54, gN54, gA215, gK215, gT215, gN215, gA376, gK376, gT376, gN376, gA383, gK383, gT383, gN383, gA390, gK390, gT390, gN390, gA391, gK391, gT391, gN391, gA392, gK392, gT392, gN392, gA473, gK473, gT473, gN473, gA474, gK474, gT474, gN474, gA475, gK475, gT475, gN475, gA492, gK492, gT492, gN492, gA496, gK496, gT496, gN496, gA497, gK497, gT497, gN497, gR0_0, gR0_1, gR0_2, gR0_3, gR0_4, gR0_5, gR0_6, gR0_7, gR0_8, gR0_9, gR0_10, gR0_11, gR0_12, gR1_0, gR4_2, gR8_0, gR8_1, gR8_2, gR12_5, gR14_0, gR14_1, gR14_2, gR42_0, gR45_0, gR49_9, gR49_10, gR49_11, gR49_12, gR49_15, gR49_16, gR49_17, gR49_18, gR49_19, gR49_20, gR49_21, gR49_23, gR49_24, gR49_25, gR49_26, gR49_34, gF54, gB54, gC54, gF215, gB215, gC215, gF376, gB376, gC376, gF383, gB383, gC383, gF392, gB392, gC392, gF475, gB475, gC475, gF492, gB492, gC492, ni_le, ni_lt, ni_eq, ni_add, ni_mul, lni_le, lni_lt, nil_le, nil_lt, lni_eq, nil_eq, lni_add, nil_add, lni_mul, nil_mul, ix_ni, ix_lit, ni_ne1, ni_lt0, ↓reduceIte, Nat.reduceEqDiff, Nat.reduceMul, Nat.reduceAdd, Nat.reduceLeDiff, and_true, true_and, false_and, and_false, if_true, if_false, Nat.not_lt_zero, false_or, or_false, ft9, decide_true, o10, eq_self, b2i_0, b2i_1, b2i_ok, b2i_inj, b2i_t, b2i_f, rIwIk, h53, e, ↓bdE k1, r180, ↓bdE k2, ↓bdE kk, l1, l2, kl, kg, ez']
  have T : ∀ e i, n ≤ i → ex9 (untS σ a) (fun _ => false) e i () = false := by
    intro e
    induction e with
    | zero =>
      intro i _
      rfl
    | succ e ih =>
      intro i hi
      have es : stands σ i = false := by
        cases q : stands σ i with
        | false => rfl
        | true => have := st_n wf q; omega
      rw [ex9_r (b := ()) (by unfold untS; rw [if_pos es])]
      exact ih (i + 1) (by omega)
  have S : ∀ d i, i + d = n → ∀ e, ex9 (untS σ a) (fun _ => false) (d + e) i () = ex9 (untS σ a) (fun _ => false) d i () := by
    intro d
    induction d with
    | zero =>
      intro i hi e
      rw [Nat.zero_add, T e i (by omega)]
      rfl
    | succ d ih =>
      intro i hi e
      rw [show d + 1 + e = (d + e) + 1 by omega]
      cases eu : untS σ a i () with
      | inl r => rw [ex9_l eu, ex9_l eu]
      | inr b =>
        rw [ex9_r eu, ex9_r eu]
        exact ih (i + 1) (by omega) e
  have z := L n 0 NF (by omega) (by unfold NF; omega)
  have z2 := S n 0 (by omega) (6 - n)
  rw [show n + (6 - n) = 6 by omega] at z2
  unfold F_X12_hasToTell isUntold
  rw [lt9_e, z2]
  exact z
theorem qr_tells {n l len : Nat} {cs : Nat → Nat} {bk : List (Nat × Nat)} {y : Nat → Nat} {t : Nat} {pl rf : Int32} {ru : Nat → Int32} {pk ik : Nat} {jk : Nat → Nat} {ct : Nat → St} {B : Nat} {m : Mm} (p : IP n l len cs bk pk ik jk ct B) (g : G m) (h : IR n l len cs bk y t pl rf ru pk ik jk ct m) : ∃ m1, F_X12_tells 49 m = some (countUntold (ct 0), m1) ∧ Qr m m1 := by
  have g0 : G (wI m 49 0 0) := G_wI g
  have rc := IR_RC p g0 (IR_0 0 h)
  have rr := IR_now (IR_0 0 h)
  have mc := RC_MC rc (.inl rfl : 473 = 473 ∨ 473 = 474)
  have wf : WF n B (ct 0) := p.2.2.2.2.2.2.2 0 (Val_0 _ _ _)
  have hn := p.1
  have h53 := rc.2.1
  refine ⟨wI m 49 0 0, ?_, Qr_0 m 0⟩
  have L : ∀ (d i fuel : Nat) (x : Int32), i + d = n → d < fuel → L_X12_tells_9 fuel 49 x (ni i) (wI m 49 0 0) = some (itn (cuF (ct 0)) d i x, wI m 49 0 0) := by
    intro d
    induction d with
    | zero =>
      intro i fuel x hd hf
      obtain ⟨fuel, rfl⟩ : ∃ z, fuel = z + 1 := ⟨fuel - 1, by omega⟩
      have e : (ni n ≤ ni i) = True := eq_true (by rw [ni_le (by omega) (by omega)]; omega)
      rw [L_X12_tells_9]
      simp only [gO49 g0, gd_t, gR49_12 g0, oc_s, gK53 g0 (show 0 < 3 by omega), show ix (0 : Int32) = 0 from by decide, h53, e, if_true]
      rfl
    | succ d ih =>
      intro i fuel x hd hf
      obtain ⟨fuel, rfl⟩ : ∃ z, fuel = z + 1 := ⟨fuel - 1, by omega⟩
      have e : (ni n ≤ ni i) = False := eq_false (fun z => by rw [ni_le (by omega) (by omega)] at z; omega)
      have k1 := r_inside (a := i) mc rr (by omega)
      have k2 := r_hasTo (a := i) g0 mc rr wf (by omega)
      have ip : ni i + 1 = ni (i + 1) := ni_add i 1
      rw [show itn (cuF (ct 0)) (d + 1) i x = itn (cuF (ct 0)) d (i + 1) (cuF (ct 0) i x) from rfl, ← ih (i + 1) fuel (cuF (ct 0) i x) (by omega) (by omega), L_X12_tells_9]
      cases es : stands (ct 0) i with
      | false =>
        rw [es, b2i_f] at k1
        have hF : cuF (ct 0) i x = x + 0 := by unfold cuF; rw [es]; rfl
        rw [hF]
        simp only [gO49 g0, gd_t, gR49_12 g0, gR49_23 g0, oc_s, gK53 g0 (show 0 < 3 by omega), show ix (0 : Int32) = 0 from by decide, h53, e, if_false, bdE k1, jn_e, ↓i00, if_true, lt9_e, ip]
      | true =>
        rw [es, b2i_t] at k1
        cases eu : isUntold (ct 0) i with
        | false =>
          rw [eu, b2i_f] at k2
          have hF : cuF (ct 0) i x = x + 0 := by unfold cuF; rw [es, eu]; rfl
          rw [hF]
          simp only [gO49 g0, gd_t, gR49_12 g0, gR49_23 g0, oc_s, gK53 g0 (show 0 < 3 by omega), show ix (0 : Int32) = 0 from by decide, h53, e, if_false, bdE k1, jn_e, ↓i10, ↓i00, if_true, bdE k2, lt9_e, ip]
        | true =>
          rw [eu, b2i_t] at k2
          have hF : cuF (ct 0) i x = x + 1 := by unfold cuF; rw [es, eu]; rfl
          rw [hF]
          simp only [gO49 g0, gd_t, gR49_12 g0, gR49_23 g0, oc_s, gK53 g0 (show 0 < 3 by omega), show ix (0 : Int32) = 0 from by decide, h53, e, if_false, bdE k1, jn_e, ↓i10, ↓i00, if_true, bdE k2, lt9_e, ip]
  have T : itn (cuF (ct 0)) n 0 0 = countUntold (ct 0) := by
    unfold countUntold
    refine (itn_tail hn (fun k h1 h2 => ?_)).symm
    have es : stands (ct 0) k = false := by
      cases q : stands (ct 0) k with
      | false => rfl
      | true => have := st_n wf q; omega
    unfold cuF
    rw [es, Bool.false_and, b2i_f, Int32.add_zero]
  unfold F_X12_tells
  rw [gO49 g, gd_t, lt9_e, lt9_e, lt9_e, ← T]
  exact L n 0 NF 0 (by omega) (by unfold NF; omega)
