/-! L2: calls of a member. -/
theorem Qr_0 (m : Mm) (v : Int32) : Qr m (wI m 49 0 v) := ⟨Fm_wI (Fm_refl _ _) (.inl rfl), fun j hj => by rw [rIw, uf_ne (by unfold jP at hj; omega)]⟩
theorem Qr_AR {m m' : Mm} (f : Fm AR m m') : Qr m m' := ⟨Fm_mono (fun b z => by unfold AR at z; unfold AQR; omega) f, fun j _ => by rw [(f.1 49 (by unfold AR; omega)).1]⟩
theorem Qf_AQ {m m' : Mm} (f : Fm AQ m m') : Qf m m' := Qf_of f (fun b z => by unfold AQ at z; unfold SQ; omega)
theorem w0_0 (m : Mm) : rI (wI m 49 0 0) 49 0 = 0 := by rw [rIw, uf_at]
theorem i10 {α : Type} (x y : α) : (if (1 : Int32) = 0 then x else y) = y := if_neg (by decide)
theorem i00 {α : Type} (x y : α) : (if (0 : Int32) = 0 then x else y) = x := if_pos rfl
theorem bel_surv {n B len : Nat} {cs : Nat → Nat} {σ : St} (wf : WF n B σ) : bel n (survN cs len n σ) := by
  unfold survN
  split
  · exact bel_0 n
  · exact bel_and2 (bel_st wf)
theorem r_knownOf {a b : Nat} {m : Mm} (ha : a < 6) (hb : b < 6) : F_X12_knownOf (ni a) (ni b) m = some (ni (36 + 6 * a + b), m) := by
  unfold F_X12_knownOf
  simp only [lni_mul, lni_add, ni_add]
theorem r_loreL {n B a : Nat} {lim : Int32} {σ : St} {m : Mm} (g : G m) (mc : MC 49 53 473 n lim m) (rr : RR (rI m 473) σ) (wf : WF n B σ) (ha : a < 6) : ∀ (d i fuel : Nat) (x : Int32), i + d = n → d < fuel → L_X12_lore_33 fuel 49 (ni a) x (ni i) m = some (itn (clF σ a) d i x, m) := by
  have hn := WF_6 wf
  have h53 := mc.2.2.2.1
  intro d
  induction d with
  | zero =>
    intro i fuel x hd hf
    obtain ⟨fuel, rfl⟩ : ∃ z, fuel = z + 1 := ⟨fuel - 1, by omega⟩
    have e : (ni n ≤ ni i) = True := eq_true (by rw [ni_le (by omega) (by omega)]; omega)
    rw [L_X12_lore_33]
    simp (disch := first | assumption | omega | ((repeat (first | assumption | apply G_wI | apply G_wL | apply CSh_wI | apply CSh_wL)); done) | decide) only [↓dO0, ↓dO1, ↓dA2, ↓dK2, ↓dT2, ↓dO3, ↓dO4, ↓dA5, ↓dK5, ↓dT5, ↓dA6, ↓dK6, ↓dT6, ↓dA7, ↓dK7, ↓dT7, ↓dO8, ↓dA9, ↓dK9, ↓dT9, ↓dA10, ↓dK10, ↓dT10, ↓dA11, ↓dK11, ↓dT11, ↓dO12, ↓dA13, ↓dK13, ↓dT13, ↓dO14, ↓dA15, ↓dK15, ↓dT15, ↓dO16, ↓dO29, ↓dO42, ↓dA43, ↓dK43, ↓dT43, ↓dA44, ↓dK44, ↓dT44, ↓dO45, ↓dA46, ↓dK46, ↓dT46, ↓dO47, ↓dA48, ↓dK48, ↓dT48, ↓dO49, ↓dA50, ↓dK50, ↓dT50, ↓dA51, ↓dK51, ↓dT51, ↓dA52, ↓dK52, ↓dT52, ↓dA53, ↓dK53, ↓dT53, ↓dA54, ↓dK54, ↓dT54, ↓dA215, ↓dK215, ↓dT215, ↓dA376, ↓dK376, ↓dT376, ↓dA383, ↓dK383, ↓dT383, ↓dA390, ↓dK390, ↓dT390, ↓dA391, ↓dK391, ↓dT391, ↓dA392, ↓dK392, ↓dT392, ↓dA473, ↓dK473, ↓dT473, ↓dA474, ↓dK474, ↓dT474, ↓dA475, ↓dK475, ↓dT475, ↓dA492, ↓dK492, ↓dT492, ↓dA496, ↓dK496, ↓dT496, ↓dA497, ↓dK497, ↓dT497, ↓dR0_0, ↓dR0_1, ↓dR0_2, ↓dR0_3, ↓dR0_4, ↓dR0_5, ↓dR0_6, ↓dR0_7, ↓dR0_8, ↓dR0_9, ↓dR0_10, ↓dR0_11, ↓dR0_12, ↓dR1_0, ↓dR4_2, ↓dR8_0, ↓dR8_1, ↓dR8_2, ↓dR12_5, ↓dR14_0, ↓dR14_1, ↓dR14_2, ↓dR42_0, ↓dR45_0, ↓dR49_9, ↓dR49_10, ↓dR49_11, ↓dR49_12, ↓dR49_15, ↓dR49_16, ↓dR49_17, ↓dR49_18, ↓dR49_19, ↓dR49_20, ↓dR49_21, ↓dR49_23, ↓dR49_24, ↓dR49_25, ↓dR49_26, ↓dR49_34, ↓dF54, ↓dB54, ↓dC54, ↓dF215, ↓dB215, ↓dC215, ↓dF376, ↓dB376, ↓dC376, ↓dF383, ↓dB383, ↓dC383, ↓dF392, ↓dB392, ↓dC392, ↓dF475, ↓dB475, ↓dC475, ↓dF492, ↓dB492, ↓dC492, ↓lt9_e, ↓jn_e, ↓bd_s, gd_t, bd_s, oc_s, oc_n, lt9_e, jn_e, okOwI, okAwI, okTwI, lnwI, okOwL, okAwL, okTwL, lnwL, rRwI, rRwL, sHwI, sHwL, rIwL, rLwI, gO0, gO1, gA2, gK2, gT2, gN2, gO3, gO4, gA5, gK5, gT5, gN5, gA6, gK6, gT6, gN6, gA7, gK7, gT7, gN7, gO8, gA9, gK9, gT9, gN9, gA10, gK10, gT10, gN10, gA11, gK11, gT11, gN11, gO12, gA13, gK13, gT13, gN13, gO14, gA15, gK15, gT15, gN15, gO16, gO29, gO42, gA43, gK43, gT43, gN43, gA44, gK44, gT44, gN44, gO45, gA46, gK46, gT46, gN46, gO47, gA48, gK48, gT48, gN48, gO49, gA50, gK50, gT50, gN50, gA51, gK51, gT51, gN51, gA52, gK52, gT52, gN52, gA53, gK53, gT53, gN53, gA54, gK54, gT54, gN54, gA215, gK215, gT215, gN215, gA376, gK376, gT376, gN376, gA383, gK383, gT383, gN383, gA390, gK390, gT390, gN390, gA391, gK391, gT391, gN391, gA392, gK392, gT392, gN392, gA473, gK473, gT473, gN473, gA474, gK474, gT474, gN474, gA475, gK475, gT475, gN475, gA492, gK492, gT492, gN492, gA496, gK496, gT496, gN496, gA497, gK497, gT497, gN497, gR0_0, gR0_1, gR0_2, gR0_3, gR0_4, gR0_5, gR0_6, gR0_7, gR0_8, gR0_9, gR0_10, gR0_11, gR0_12, gR1_0, gR4_2, gR8_0, gR8_1, gR8_2, gR12_5, gR14_0, gR14_1, gR14_2, gR42_0, gR45_0, gR49_9, gR49_10, gR49_11, gR49_12, gR49_15, gR49_16, gR49_17, gR49_18, gR49_19, gR49_20, gR49_21, gR49_23, gR49_24, gR49_25, gR49_26, gR49_34, gF54, gB54, gC54, gF215, gB215, gC215, gF376, gB376, gC376, gF383, gB383, gC383, gF392, gB392, gC392, gF475, gB475, gC475, gF492, gB492, gC492, ni_le, ni_lt, ni_eq, ni_add, ni_mul, lni_le, lni_lt, nil_le, nil_lt, lni_eq, nil_eq, lni_add, nil_add, lni_mul, nil_mul, ix_ni, ix_lit, ni_ne1, ni_lt0, ↓reduceIte, Nat.reduceEqDiff, Nat.reduceMul, Nat.reduceAdd, Nat.reduceLeDiff, and_true, true_and, false_and, and_false, if_true, if_false, Nat.not_lt_zero, false_or, or_false, ft9, decide_true, o10, eq_self, b2i_0, b2i_1, b2i_ok, b2i_inj, b2i_t, b2i_f, rIwIk, h53, e]
    rfl
  | succ d ih =>
    intro i fuel x hd hf
    obtain ⟨fuel, rfl⟩ : ∃ z, fuel = z + 1 := ⟨fuel - 1, by omega⟩
    have e : (ni n ≤ ni i) = False := eq_false (fun z => by rw [ni_le (by omega) (by omega)] at z; omega)
    have k6 := hasR (x := gI σ 0 1) (i := i) (by omega) m
    have r182 := RR182 rr
    have kk := r_knownOf (a := a) (b := i) (m := m) ha (by omega)
    have kl := RRl rr ha (show i < 6 by omega)
    have lt : 36 + 6 * a + i < 968 := by omega
    have ob := r_onesB (x := gI σ 4 (a * 6 + i)) (bel_mono (WF_30 wf) (wf.2.1.2.2.2.1 (a * 6 + i) (by omega))) m
    rw [show itn (clF σ a) (d + 1) i x = itn (clF σ a) d (i + 1) (clF σ a i x) from rfl, ← ih (i + 1) fuel (clF σ a i x) (by omega) (by omega), L_X12_lore_33]
    cases et : tb (gI σ 0 1) i with
    | false =>
      rw [et, b2i_f] at k6
      have hF : clF σ a i x = x + 0 := by unfold clF; rw [et]; rfl
      rw [hF]
      simp (disch := first | assumption | omega | ((repeat (first | assumption | apply G_wI | apply G_wL | apply CSh_wI | apply CSh_wL)); done) | decide) only [↓dO0, ↓dO1, ↓dA2, ↓dK2, ↓dT2, ↓dO3, ↓dO4, ↓dA5, ↓dK5, ↓dT5, ↓dA6, ↓dK6, ↓dT6, ↓dA7, ↓dK7, ↓dT7, ↓dO8, ↓dA9, ↓dK9, ↓dT9, ↓dA10, ↓dK10, ↓dT10, ↓dA11, ↓dK11, ↓dT11, ↓dO12, ↓dA13, ↓dK13, ↓dT13, ↓dO14, ↓dA15, ↓dK15, ↓dT15, ↓dO16, ↓dO29, ↓dO42, ↓dA43, ↓dK43, ↓dT43, ↓dA44, ↓dK44, ↓dT44, ↓dO45, ↓dA46, ↓dK46, ↓dT46, ↓dO47, ↓dA48, ↓dK48, ↓dT48, ↓dO49, ↓dA50, ↓dK50, ↓dT50, ↓dA51, ↓dK51, ↓dT51, ↓dA52, ↓dK52, ↓dT52, ↓dA53, ↓dK53, ↓dT53, ↓dA54, ↓dK54, ↓dT54, ↓dA215, ↓dK215, ↓dT215, ↓dA376, ↓dK376, ↓dT376, ↓dA383, ↓dK383, ↓dT383, ↓dA390, ↓dK390, ↓dT390, ↓dA391, ↓dK391, ↓dT391, ↓dA392, ↓dK392, ↓dT392, ↓dA473, ↓dK473, ↓dT473, ↓dA474, ↓dK474, ↓dT474, ↓dA475, ↓dK475, ↓dT475, ↓dA492, ↓dK492, ↓dT492, ↓dA496, ↓dK496, ↓dT496, ↓dA497, ↓dK497, ↓dT497, ↓dR0_0, ↓dR0_1, ↓dR0_2, ↓dR0_3, ↓dR0_4, ↓dR0_5, ↓dR0_6, ↓dR0_7, ↓dR0_8, ↓dR0_9, ↓dR0_10, ↓dR0_11, ↓dR0_12, ↓dR1_0, ↓dR4_2, ↓dR8_0, ↓dR8_1, ↓dR8_2, ↓dR12_5, ↓dR14_0, ↓dR14_1, ↓dR14_2, ↓dR42_0, ↓dR45_0, ↓dR49_9, ↓dR49_10, ↓dR49_11, ↓dR49_12, ↓dR49_15, ↓dR49_16, ↓dR49_17, ↓dR49_18, ↓dR49_19, ↓dR49_20, ↓dR49_21, ↓dR49_23, ↓dR49_24, ↓dR49_25, ↓dR49_26, ↓dR49_34, ↓dF54, ↓dB54, ↓dC54, ↓dF215, ↓dB215, ↓dC215, ↓dF376, ↓dB376, ↓dC376, ↓dF383, ↓dB383, ↓dC383, ↓dF392, ↓dB392, ↓dC392, ↓dF475, ↓dB475, ↓dC475, ↓dF492, ↓dB492, ↓dC492, ↓lt9_e, ↓jn_e, ↓bd_s, gd_t, bd_s, oc_s, oc_n, lt9_e, jn_e, okOwI, okAwI, okTwI, lnwI, okOwL, okAwL, okTwL, lnwL, rRwI, rRwL, sHwI, sHwL, rIwL, rLwI, gO0, gO1, gA2, gK2, gT2, gN2, gO3, gO4, gA5, gK5, gT5, gN5, gA6, gK6, gT6, gN6, gA7, gK7, gT7, gN7, gO8, gA9, gK9, gT9, gN9, gA10, gK10, gT10, gN10, gA11, gK11, gT11, gN11, gO12, gA13, gK13, gT13, gN13, gO14, gA15, gK15, gT15, gN15, gO16, gO29, gO42, gA43, gK43, gT43, gN43, gA44, gK44, gT44, gN44, gO45, gA46, gK46, gT46, gN46, gO47, gA48, gK48, gT48, gN48, gO49, gA50, gK50, gT50, gN50, gA51, gK51, gT51, gN51, gA52, gK52, gT52, gN52, gA53, gK53, gT53, gN53, gA54, gK54, gT54, gN54, gA215, gK215, gT215, gN215, gA376, gK376, gT376, gN376, gA383, gK383, gT383, gN383, gA390, gK390, gT390, gN390, gA391, gK391, gT391, gN391, gA392, gK392, gT392, gN392, gA473, gK473, gT473, gN473, gA474, gK474, gT474, gN474, gA475, gK475, gT475, gN475, gA492, gK492, gT492, gN492, gA496, gK496, gT496, gN496, gA497, gK497, gT497, gN497, gR0_0, gR0_1, gR0_2, gR0_3, gR0_4, gR0_5, gR0_6, gR0_7, gR0_8, gR0_9, gR0_10, gR0_11, gR0_12, gR1_0, gR4_2, gR8_0, gR8_1, gR8_2, gR12_5, gR14_0, gR14_1, gR14_2, gR42_0, gR45_0, gR49_9, gR49_10, gR49_11, gR49_12, gR49_15, gR49_16, gR49_17, gR49_18, gR49_19, gR49_20, gR49_21, gR49_23, gR49_24, gR49_25, gR49_26, gR49_34, gF54, gB54, gC54, gF215, gB215, gC215, gF376, gB376, gC376, gF383, gB383, gC383, gF392, gB392, gC392, gF475, gB475, gC475, gF492, gB492, gC492, ni_le, ni_lt, ni_eq, ni_add, ni_mul, lni_le, lni_lt, nil_le, nil_lt, lni_eq, nil_eq, lni_add, nil_add, lni_mul, nil_mul, ix_ni, ix_lit, ni_ne1, ni_lt0, ↓reduceIte, Nat.reduceEqDiff, Nat.reduceMul, Nat.reduceAdd, Nat.reduceLeDiff, and_true, true_and, false_and, and_false, if_true, if_false, Nat.not_lt_zero, false_or, or_false, ft9, decide_true, o10, eq_self, b2i_0, b2i_1, b2i_ok, b2i_inj, b2i_t, b2i_f, rIwIk, h53, e, r182, ↓bdE k6]
    | true =>
      rw [et, b2i_t] at k6
      have hF : clF σ a i x = x + bcI (gI σ 4 (a * 6 + i)) := by unfold clF; rw [et]; rfl
      rw [hF]
      simp (disch := first | assumption | omega | ((repeat (first | assumption | apply G_wI | apply G_wL | apply CSh_wI | apply CSh_wL)); done) | decide) only [↓dO0, ↓dO1, ↓dA2, ↓dK2, ↓dT2, ↓dO3, ↓dO4, ↓dA5, ↓dK5, ↓dT5, ↓dA6, ↓dK6, ↓dT6, ↓dA7, ↓dK7, ↓dT7, ↓dO8, ↓dA9, ↓dK9, ↓dT9, ↓dA10, ↓dK10, ↓dT10, ↓dA11, ↓dK11, ↓dT11, ↓dO12, ↓dA13, ↓dK13, ↓dT13, ↓dO14, ↓dA15, ↓dK15, ↓dT15, ↓dO16, ↓dO29, ↓dO42, ↓dA43, ↓dK43, ↓dT43, ↓dA44, ↓dK44, ↓dT44, ↓dO45, ↓dA46, ↓dK46, ↓dT46, ↓dO47, ↓dA48, ↓dK48, ↓dT48, ↓dO49, ↓dA50, ↓dK50, ↓dT50, ↓dA51, ↓dK51, ↓dT51, ↓dA52, ↓dK52, ↓dT52, ↓dA53, ↓dK53, ↓dT53, ↓dA54, ↓dK54, ↓dT54, ↓dA215, ↓dK215, ↓dT215, ↓dA376, ↓dK376, ↓dT376, ↓dA383, ↓dK383, ↓dT383, ↓dA390, ↓dK390, ↓dT390, ↓dA391, ↓dK391, ↓dT391, ↓dA392, ↓dK392, ↓dT392, ↓dA473, ↓dK473, ↓dT473, ↓dA474, ↓dK474, ↓dT474, ↓dA475, ↓dK475, ↓dT475, ↓dA492, ↓dK492, ↓dT492, ↓dA496, ↓dK496, ↓dT496, ↓dA497, ↓dK497, ↓dT497, ↓dR0_0, ↓dR0_1, ↓dR0_2, ↓dR0_3, ↓dR0_4, ↓dR0_5, ↓dR0_6, ↓dR0_7, ↓dR0_8, ↓dR0_9, ↓dR0_10, ↓dR0_11, ↓dR0_12, ↓dR1_0, ↓dR4_2, ↓dR8_0, ↓dR8_1, ↓dR8_2, ↓dR12_5, ↓dR14_0, ↓dR14_1, ↓dR14_2, ↓dR42_0, ↓dR45_0, ↓dR49_9, ↓dR49_10, ↓dR49_11, ↓dR49_12, ↓dR49_15, ↓dR49_16, ↓dR49_17, ↓dR49_18, ↓dR49_19, ↓dR49_20, ↓dR49_21, ↓dR49_23, ↓dR49_24, ↓dR49_25, ↓dR49_26, ↓dR49_34, ↓dF54, ↓dB54, ↓dC54, ↓dF215, ↓dB215, ↓dC215, ↓dF376, ↓dB376, ↓dC376, ↓dF383, ↓dB383, ↓dC383, ↓dF392, ↓dB392, ↓dC392, ↓dF475, ↓dB475, ↓dC475, ↓dF492, ↓dB492, ↓dC492, ↓lt9_e, ↓jn_e, ↓bd_s, gd_t, bd_s, oc_s, oc_n, lt9_e, jn_e, okOwI, okAwI, okTwI, lnwI, okOwL, okAwL, okTwL, lnwL, rRwI, rRwL, sHwI, sHwL, rIwL, rLwI, gO0, gO1, gA2, gK2, gT2, gN2, gO3, gO4, gA5, gK5, gT5, gN5, gA6, gK6, gT6, gN6, gA7, gK7, gT7, gN7, gO8, gA9, gK9, gT9, gN9, gA10, gK10, gT10, gN10, gA11, gK11, gT11, gN11, gO12, gA13, gK13, gT13, gN13, gO14, gA15, gK15, gT15, gN15, gO16, gO29, gO42, gA43, gK43, gT43, gN43, gA44, gK44, gT44, gN44, gO45, gA46, gK46, gT46, gN46, gO47, gA48, gK48, gT48, gN48, gO49, gA50, gK50, gT50, gN50, gA51, gK51, gT51, gN51, gA52, gK52, gT52, gN52, gA53, gK53, gT53, gN53, gA54, gK54, gT54, gN54, gA215, gK215, gT215, gN215, gA376, gK376, gT376, gN376, gA383, gK383, gT383, gN383, gA390, gK390, gT390, gN390, gA391, gK391, gT391, gN391, gA392, gK392, gT392, gN392, gA473, gK473, gT473, gN473, gA474, gK474, gT474, gN474, gA475, gK475, gT475, gN475, gA492, gK492, gT492, gN492, gA496, gK496, gT496, gN496, gA497, gK497, gT497, gN497, gR0_0, gR0_1, gR0_2, gR0_3, gR0_4, gR0_5, gR0_6, gR0_7, gR0_8, gR0_9, gR0_10, gR0_11, gR0_12, gR1_0, gR4_2, gR8_0, gR8_1, gR8_2, gR12_5, gR14_0, gR14_1, gR14_2, gR42_0, gR45_0, gR49_9, gR49_10, gR49_11, gR49_12, gR49_15, gR49_16, gR49_17, gR49_18, gR49_19, gR49_20, gR49_21, gR49_23, gR49_24, gR49_25, gR49_26, gR49_34, gF54, gB54, gC54, gF215, gB215, gC215, gF376, gB376, gC376, gF383, gB383, gC383, gF392, gB392, gC392, gF475, gB475, gC475, gF492, gB492, gC492, ni_le, ni_lt, ni_eq, ni_add, ni_mul, lni_le, lni_lt, nil_le, nil_lt, lni_eq, nil_eq, lni_add, nil_add, lni_mul, nil_mul, ix_ni, ix_lit, ni_ne1, ni_lt0, ↓reduceIte, Nat.reduceEqDiff, Nat.reduceMul, Nat.reduceAdd, Nat.reduceLeDiff, and_true, true_and, false_and, and_false, if_true, if_false, Nat.not_lt_zero, false_or, or_false, ft9, decide_true, o10, eq_self, b2i_0, b2i_1, b2i_ok, b2i_inj, b2i_t, b2i_f, rIwIk, h53, e, r182, ↓bdE k6, ↓bdE kk, lt, kl, ↓bdE ob]
theorem lore_n {n B a : Nat} {σ : St} (wf : WF n B σ) : itn (clF σ a) n 0 0 = countLore σ a := by
  unfold countLore
  refine (itn_tail (WF_6 wf) (fun k h1 h2 => ?_)).symm
  unfold clF
  rw [wf.1.2.1 k h1, if_neg (by decide), Int32.add_zero]
theorem qc_stable {n l len : Nat} {cs : Nat → Nat} {bk : List (Nat × Nat)} {y : Nat → Nat} {t : Nat} {pl rf : Int32} {ru : Nat → Int32} {pk ik : Nat} {jk : Nat → Nat} {ct : Nat → St} {B : Nat} {m : Mm} {a : Int32} (p : IP n l len cs bk pk ik jk ct B) (h : IC n l len cs bk y t pl rf ru pk ik jk ct m) (hN : mN m + 1 < K9) : CA (F_X11_stable 0 a m) (if mbr n a then .inl (stableBy (ct 0) (ix a)) else .inr 0 : Int32 ⊕ Nat) m := by
  obtain ⟨q, ha, wf, g⟩ := IC_ctx p h
  have h3 := q.2.1
  have c16 := G_16 g
  have hn := p.1
  by_cases hm : mbr n a
  · rw [if_pos hm]
    obtain ⟨i, hi, rfl⟩ := mbr_i hn hm
    rw [ix_ni (by omega)]
    have k1 := needM_ok g h3 hn hi
    have k2 := c_stableBy (a := i) c16 (by omega)
    rw [ha] at k2
    refine ⟨m, ?_, Qf_refl m⟩
    unfold F_X11_stable
    simp only [gO0 g, gd_t, bxL k1, gR0_6 g, gR0_5 g, oc_s, gO16 g, gO14 g, bdE k2]
  · rw [if_neg hm]
    refine ⟨by omega, 6, by omega, ?_⟩
    unfold F_X11_stable
    rw [gO0 g, gd_t, bxR (needM_no g h3 hm hN)]
theorem qr_stable {n l len : Nat} {cs : Nat → Nat} {bk : List (Nat × Nat)} {y : Nat → Nat} {t : Nat} {pl rf : Int32} {ru : Nat → Int32} {pk ik : Nat} {jk : Nat → Nat} {ct : Nat → St} {B : Nat} {m : Mm} {a : Int32} (p : IP n l len cs bk pk ik jk ct B) (g : G m) (h : IR n l len cs bk y t pl rf ru pk ik jk ct m) : RA (F_X12_stable 49 a m) (if mbr n a then .inl (stableBy (ct 0) (ix a)) else .inr 0 : Int32 ⊕ Nat) hx_L_stable 0 m := by
  have g0 : G (wI m 49 0 0) := G_wI g
  have rc := IR_RC p g0 (IR_0 0 h)
  have rr := IR_now (IR_0 0 h)
  have mc := RC_MC rc (.inl rfl : 473 = 473 ∨ 473 = 474)
  have wf : WF n B (ct 0) := p.2.2.2.2.2.2.2 0 (Val_0 _ _ _)
  have e0 := w0_0 m
  have im := r_isMem (a := a) g0 rc.2.1
  have hn := p.1
  by_cases hm : mbr n a
  · rw [if_pos hm]
    rw [decide_eq_true hm, b2i_t] at im
    obtain ⟨i, hi, rfl⟩ := mbr_i hn hm
    rw [ix_ni (by omega)]
    have b0 := bad_f (c := 1) (r := 0) g0 e0
    have k2 := r_stableBy (a := i) mc rr wf (by omega)
    refine ⟨wI m 49 0 0, ?_, e0, Qr_0 m 0⟩
    unfold F_X12_stable
    simp only [gO49 g, gO49 g0, gd_t, lt9_e, jn_e, bdE im, ↓i10, ↓i00, if_true, bdE b0, gR49_23 g0, oc_s, bdE k2]
  · rw [if_neg hm]
    rw [decide_eq_false hm, b2i_f] at im
    have b1 : F_X12_bad 49 1 1 0 (wI m 49 0 0) = some (1, bdM m 0 1) := bad_t (k := 0) g (by omega) (by decide)
    refine ⟨1, rfl, ?_⟩
    unfold F_X12_stable
    simp only [gO49 g, gO49 g0, gd_t, lt9_e, jn_e, bdE im, ↓i10, ↓i00, if_true, bdE b1]
theorem qc_next {n l len : Nat} {cs : Nat → Nat} {bk : List (Nat × Nat)} {y : Nat → Nat} {t : Nat} {pl rf : Int32} {ru : Nat → Int32} {pk ik : Nat} {jk : Nat → Nat} {ct : Nat → St} {B : Nat} {m : Mm} {a : Int32} (p : IP n l len cs bk pk ik jk ct B) (h : IC n l len cs bk y t pl rf ru pk ik jk ct m) (hN : mN m + 1 < K9) : CA (F_X11_next 0 a m) (if mbr n a then .inl (firstOn (ct 0) (ix a) true) else .inr 0 : Int32 ⊕ Nat) m := by
  obtain ⟨q, ha, wf, g⟩ := IC_ctx p h
  have h3 := q.2.1
  have c16 := G_16 g
  have hn := p.1
  by_cases hm : mbr n a
  · rw [if_pos hm]
    obtain ⟨i, hi, rfl⟩ := mbr_i hn hm
    rw [ix_ni (by omega)]
    have k1 := needM_ok g h3 hn hi
    have k2 := c_firstOn (a := i) (o := true) c16 (by omega)
    rw [ha, b2i_t] at k2
    refine ⟨m, ?_, Qf_refl m⟩
    unfold F_X11_next
    simp only [gO0 g, gd_t, bxL k1, gR0_6 g, gR0_5 g, oc_s, gO16 g, gO14 g, bdE k2]
  · rw [if_neg hm]
    refine ⟨by omega, 6, by omega, ?_⟩
    unfold F_X11_next
    rw [gO0 g, gd_t, bxR (needM_no g h3 hm hN)]
theorem qr_next {n l len : Nat} {cs : Nat → Nat} {bk : List (Nat × Nat)} {y : Nat → Nat} {t : Nat} {pl rf : Int32} {ru : Nat → Int32} {pk ik : Nat} {jk : Nat → Nat} {ct : Nat → St} {B : Nat} {m : Mm} {a : Int32} (p : IP n l len cs bk pk ik jk ct B) (g : G m) (h : IR n l len cs bk y t pl rf ru pk ik jk ct m) : RA (F_X12_next 49 a m) (if mbr n a then .inl (firstOn (ct 0) (ix a) true) else .inr 0 : Int32 ⊕ Nat) hx_L_next 0 m := by
  have g0 : G (wI m 49 0 0) := G_wI g
  have rc := IR_RC p g0 (IR_0 0 h)
  have rr := IR_now (IR_0 0 h)
  have mc := RC_MC rc (.inl rfl : 473 = 473 ∨ 473 = 474)
  have wf : WF n B (ct 0) := p.2.2.2.2.2.2.2 0 (Val_0 _ _ _)
  have e0 := w0_0 m
  have im := r_isMem (a := a) g0 rc.2.1
  have hn := p.1
  by_cases hm : mbr n a
  · rw [if_pos hm]
    rw [decide_eq_true hm, b2i_t] at im
    obtain ⟨i, hi, rfl⟩ := mbr_i hn hm
    rw [ix_ni (by omega)]
    have b0 := bad_f (c := 1) (r := 0) g0 e0
    have k2 := r_nextOf (a := i) (any := false) mc rr wf (by omega)
    rw [b2i_f, show (!false) = true from rfl] at k2
    refine ⟨wI m 49 0 0, ?_, e0, Qr_0 m 0⟩
    unfold F_X12_next
    simp only [gO49 g, gO49 g0, gd_t, lt9_e, jn_e, bdE im, ↓i10, ↓i00, if_true, bdE b0, gR49_23 g0, oc_s, bdE k2]
  · rw [if_neg hm]
    rw [decide_eq_false hm, b2i_f] at im
    have b1 : F_X12_bad 49 1 1 0 (wI m 49 0 0) = some (1, bdM m 0 1) := bad_t (k := 0) g (by omega) (by decide)
    refine ⟨1, rfl, ?_⟩
    unfold F_X12_next
    simp only [gO49 g, gO49 g0, gd_t, lt9_e, jn_e, bdE im, ↓i10, ↓i00, if_true, bdE b1]
theorem qc_tally {n l len : Nat} {cs : Nat → Nat} {bk : List (Nat × Nat)} {y : Nat → Nat} {t : Nat} {pl rf : Int32} {ru : Nat → Int32} {pk ik : Nat} {jk : Nat → Nat} {ct : Nat → St} {B : Nat} {m : Mm} {a : Int32} (p : IP n l len cs bk pk ik jk ct B) (h : IC n l len cs bk y t pl rf ru pk ik jk ct m) (hN : mN m + 1 < K9) : CA (F_X11_tally 0 a m) (if mbr n a then .inl (gL (ct 0) 11 (ix a)) else .inr 0 : Int64 ⊕ Nat) m := by
  obtain ⟨q, ha, wf, g⟩ := IC_ctx p h
  have h3 := q.2.1
  have c16 := G_16 g
  have hn := p.1
  by_cases hm : mbr n a
  · rw [if_pos hm]
    obtain ⟨i, hi, rfl⟩ := mbr_i hn hm
    rw [ix_ni (by omega)]
    have k1 := needM_ok g h3 hn hi
    have k2 : rL m (16 + 11) i = gL (ct 0) 11 i := by
      rw [rI_o11 16 m (by omega), ha]
    refine ⟨m, ?_, Qf_refl m⟩
    unfold F_X11_tally
    simp only [gO0 g, gd_t, bxL k1, gR0_6 g, gR0_5 g, oc_s, gO16 g, gO14 g, CSh_sum c16, CSh_o11 c16 (show i < 6 by omega), ix_ni (show i < 2147483648 by omega), k2]
  · rw [if_neg hm]
    refine ⟨by omega, 6, by omega, ?_⟩
    unfold F_X11_tally
    rw [gO0 g, gd_t, bxR (needM_no g h3 hm hN)]
theorem qr_tally {n l len : Nat} {cs : Nat → Nat} {bk : List (Nat × Nat)} {y : Nat → Nat} {t : Nat} {pl rf : Int32} {ru : Nat → Int32} {pk ik : Nat} {jk : Nat → Nat} {ct : Nat → St} {B : Nat} {m : Mm} {a : Int32} (p : IP n l len cs bk pk ik jk ct B) (g : G m) (h : IR n l len cs bk y t pl rf ru pk ik jk ct m) : RA (F_X12_tally 49 a m) (if mbr n a then .inl (gL (ct 0) 11 (ix a)) else .inr 0 : Int64 ⊕ Nat) hx_L_tally 0 m := by
  have g0 : G (wI m 49 0 0) := G_wI g
  have rc := IR_RC p g0 (IR_0 0 h)
  have rr := IR_now (IR_0 0 h)
  have mc := RC_MC rc (.inl rfl : 473 = 473 ∨ 473 = 474)
  have wf : WF n B (ct 0) := p.2.2.2.2.2.2.2 0 (Val_0 _ _ _)
  have e0 := w0_0 m
  have im := r_isMem (a := a) g0 rc.2.1
  have hn := p.1
  by_cases hm : mbr n a
  · rw [if_pos hm]
    rw [decide_eq_true hm, b2i_t] at im
    obtain ⟨i, hi, rfl⟩ := mbr_i hn hm
    rw [ix_ni (by omega)]
    have b0 := bad_f (c := 1) (r := 0) g0 e0
    have k2 := r_wideS (a := i) mc rr (by omega)
    have k3 : (188 : Int32) + (2 : Int32) * ni i = ni (188 + 2 * i) := by
      rw [lni_mul, lni_add]
    refine ⟨wI m 49 0 0, ?_, e0, Qr_0 m 0⟩
    unfold F_X12_tally
    simp only [gO49 g, gO49 g0, gd_t, lt9_e, jn_e, bdE im, ↓i10, ↓i00, if_true, bdE b0, gR49_23 g0, oc_s, k3, bdE k2]
  · rw [if_neg hm]
    rw [decide_eq_false hm, b2i_f] at im
    have b1 : F_X12_bad 49 1 1 0 (wI m 49 0 0) = some (1, bdM m 0 1) := bad_t (k := 0) g (by omega) (by decide)
    refine ⟨1, rfl, ?_⟩
    unfold F_X12_tally
    simp only [gO49 g, gO49 g0, gd_t, lt9_e, jn_e, bdE im, ↓i10, ↓i00, if_true, bdE b1]
theorem qc_missing {n l len : Nat} {cs : Nat → Nat} {bk : List (Nat × Nat)} {y : Nat → Nat} {t : Nat} {pl rf : Int32} {ru : Nat → Int32} {pk ik : Nat} {jk : Nat → Nat} {ct : Nat → St} {B : Nat} {m : Mm} {a : Int32} (p : IP n l len cs bk pk ik jk ct B) (h : IC n l len cs bk y t pl rf ru pk ik jk ct m) (hN : mN m + 1 < K9) : CA (F_X11_missing 0 a m) (if mbr n a then .inl (lackOf (ct 0) (ix a) (survN cs len n (ct 0))) else .inr 0 : Int32 ⊕ Nat) m := by
  obtain ⟨q, ha, wf, g⟩ := IC_ctx p h
  have h3 := q.2.1
  have c16 := G_16 g
  have hn := p.1
  by_cases hm : mbr n a
  · rw [if_pos hm]
    obtain ⟨i, hi, rfl⟩ := mbr_i hn hm
    rw [ix_ni (by omega)]
    have k1 := needM_ok g h3 hn hi
    obtain ⟨m1, x1, -, x3⟩ := c_survNow (.inl rfl) q (bel_st (by rw [ha]; exact wf))
    rw [ha] at x1
    have g1 := G_fr x3 g
    have k2 := c_lackOf (a := i) (x := survN cs len n (ct 0)) (G_16 g1) (by omega)
    rw [abs_q (.inl rfl) x3, ha] at k2
    refine ⟨m1, ?_, Qf_AQ x3⟩
    unfold F_X11_missing
    simp only [gO0 g, gd_t, bxL k1, gR0_6 g, gR0_5 g, oc_s, gO16 g, gO14 g, bdE x1, gO16 g1, bdE k2]
  · rw [if_neg hm]
    refine ⟨by omega, 6, by omega, ?_⟩
    unfold F_X11_missing
    rw [gO0 g, gd_t, bxR (needM_no g h3 hm hN)]
theorem qr_missing {n l len : Nat} {cs : Nat → Nat} {bk : List (Nat × Nat)} {y : Nat → Nat} {t : Nat} {pl rf : Int32} {ru : Nat → Int32} {pk ik : Nat} {jk : Nat → Nat} {ct : Nat → St} {B : Nat} {m : Mm} {a : Int32} (p : IP n l len cs bk pk ik jk ct B) (g : G m) (h : IR n l len cs bk y t pl rf ru pk ik jk ct m) : RA (F_X12_missing 49 a m) (if mbr n a then .inl (lackOf (ct 0) (ix a) (survN cs len n (ct 0))) else .inr 0 : Int32 ⊕ Nat) hx_L_missing 0 m := by
  have g0 : G (wI m 49 0 0) := G_wI g
  have rc := IR_RC p g0 (IR_0 0 h)
  have rr := IR_now (IR_0 0 h)
  have mc := RC_MC rc (.inl rfl : 473 = 473 ∨ 473 = 474)
  have wf : WF n B (ct 0) := p.2.2.2.2.2.2.2 0 (Val_0 _ _ _)
  have e0 := w0_0 m
  have im := r_isMem (a := a) g0 rc.2.1
  have hn := p.1
  by_cases hm : mbr n a
  · rw [if_pos hm]
    rw [decide_eq_true hm, b2i_t] at im
    obtain ⟨i, hi, rfl⟩ := mbr_i hn hm
    rw [ix_ni (by omega)]
    have b0 := bad_f (c := 1) (r := 0) g0 e0
    obtain ⟨m1, x1, x2⟩ := r_surv (.inl rfl) wf rc rr
    have g1 := G_fr x2 g0
    have rc1 := RC_q rc x2
    have rr1 : RR (rI m1 473) (ct 0) := by rw [AR_w (.inl rfl) x2]; exact rr
    have mc1 := RC_MC rc1 (.inl rfl : 473 = 473 ∨ 473 = 474)
    have hb : bel n (survN cs len n (ct 0)) := bel_surv wf
    have k2 := r_keptBy mc1 rr1 wf hb
    have k3 : (12 : Int32) + ni i = ni (12 + i) := lni_add 12 i
    have k4 : rI m1 473 (12 + i) = gI (ct 0) 2 i := RRg rr1 (by omega)
    have k5 : F_X12_missingOf 49 473 (ni i) (wI m 49 0 0) = some (lackOf (ct 0) i (survN cs len n (ct 0)), m1) := by
      unfold F_X12_missingOf lackOf
      cases et : tb (survN cs len n (ct 0)) i with
      | false =>
        have k6 := hasR (x := survN cs len n (ct 0)) (i := i) (by omega) m1
        rw [et, b2i_f] at k6
        simp only [gO49 g0, gd_t, bdE x1, lt9_e, bdE k6, ↓i00, if_true]
        rfl
      | true =>
        have k6 := hasR (x := survN cs len n (ct 0)) (i := i) (by omega) m1
        rw [et, b2i_t] at k6
        simp only [gO49 g0, gO49 g1, gd_t, bdE x1, lt9_e, bdE k6, ↓i10, bdE k2, k3, gA473 g1 (show 12 + i < 968 by omega), ix_ni (show 12 + i < 2147483648 by omega), k4]
        rfl
    refine ⟨m1, ?_, by rw [(x2.1 49 (by unfold AR; omega)).1]; exact e0, Qr_trans (Qr_0 m 0) (Qr_AR x2)⟩
    unfold F_X12_missing
    simp only [gO49 g, gO49 g0, gd_t, lt9_e, jn_e, bdE im, ↓i10, ↓i00, if_true, bdE b0, gR49_23 g0, oc_s, bdE k5]
  · rw [if_neg hm]
    rw [decide_eq_false hm, b2i_f] at im
    have b1 : F_X12_bad 49 1 1 0 (wI m 49 0 0) = some (1, bdM m 0 1) := bad_t (k := 0) g (by omega) (by decide)
    refine ⟨1, rfl, ?_⟩
    unfold F_X12_missing
    simp only [gO49 g, gO49 g0, gd_t, lt9_e, jn_e, bdE im, ↓i10, ↓i00, if_true, bdE b1]
theorem qc_lore {n l len : Nat} {cs : Nat → Nat} {bk : List (Nat × Nat)} {y : Nat → Nat} {t : Nat} {pl rf : Int32} {ru : Nat → Int32} {pk ik : Nat} {jk : Nat → Nat} {ct : Nat → St} {B : Nat} {m : Mm} {a : Int32} (p : IP n l len cs bk pk ik jk ct B) (h : IC n l len cs bk y t pl rf ru pk ik jk ct m) (hN : mN m + 1 < K9) : CA (F_X11_lore 0 a m) (if mbr n a then .inl (countLore (ct 0) (ix a)) else .inr 0 : Int32 ⊕ Nat) m := by
  obtain ⟨q, ha, wf, g⟩ := IC_ctx p h
  have h3 := q.2.1
  have c16 := G_16 g
  have hn := p.1
  by_cases hm : mbr n a
  · rw [if_pos hm]
    obtain ⟨i, hi, rfl⟩ := mbr_i hn hm
    rw [ix_ni (by omega)]
    have k1 := needM_ok g h3 hn hi
    have k2 := c_countLore (a := i) c16 (by omega)
    rw [ha] at k2
    refine ⟨m, ?_, Qf_refl m⟩
    unfold F_X11_lore
    simp only [gO0 g, gd_t, bxL k1, gR0_6 g, gR0_5 g, oc_s, gO16 g, gO14 g, bdE k2]
  · rw [if_neg hm]
    refine ⟨by omega, 6, by omega, ?_⟩
    unfold F_X11_lore
    rw [gO0 g, gd_t, bxR (needM_no g h3 hm hN)]
theorem qr_lore {n l len : Nat} {cs : Nat → Nat} {bk : List (Nat × Nat)} {y : Nat → Nat} {t : Nat} {pl rf : Int32} {ru : Nat → Int32} {pk ik : Nat} {jk : Nat → Nat} {ct : Nat → St} {B : Nat} {m : Mm} {a : Int32} (p : IP n l len cs bk pk ik jk ct B) (g : G m) (h : IR n l len cs bk y t pl rf ru pk ik jk ct m) : RA (F_X12_lore 49 a m) (if mbr n a then .inl (countLore (ct 0) (ix a)) else .inr 0 : Int32 ⊕ Nat) hx_L_lore 0 m := by
  have g0 : G (wI m 49 0 0) := G_wI g
  have rc := IR_RC p g0 (IR_0 0 h)
  have rr := IR_now (IR_0 0 h)
  have mc := RC_MC rc (.inl rfl : 473 = 473 ∨ 473 = 474)
  have wf : WF n B (ct 0) := p.2.2.2.2.2.2.2 0 (Val_0 _ _ _)
  have e0 := w0_0 m
  have im := r_isMem (a := a) g0 rc.2.1
  have hn := p.1
  by_cases hm : mbr n a
  · rw [if_pos hm]
    rw [decide_eq_true hm, b2i_t] at im
    obtain ⟨i, hi, rfl⟩ := mbr_i hn hm
    rw [ix_ni (by omega)]
    have b0 := bad_f (c := 1) (r := 0) g0 e0
    have k2 := r_loreL (a := i) g0 mc rr wf (by omega) n 0 NF 0 (by omega) (by unfold NF; omega)
    rw [lore_n wf, ni_0] at k2
    refine ⟨wI m 49 0 0, ?_, e0, Qr_0 m 0⟩
    unfold F_X12_lore
    simp only [gO49 g, gO49 g0, gd_t, lt9_e, jn_e, bdE im, ↓i10, ↓i00, if_true, bdE b0, gR49_23 g0, oc_s, k2]
  · rw [if_neg hm]
    rw [decide_eq_false hm, b2i_f] at im
    have b1 : F_X12_bad 49 1 1 0 (wI m 49 0 0) = some (1, bdM m 0 1) := bad_t (k := 0) g (by omega) (by decide)
    refine ⟨1, rfl, ?_⟩
    unfold F_X12_lore
    simp only [gO49 g, gO49 g0, gd_t, lt9_e, jn_e, bdE im, ↓i10, ↓i00, if_true, bdE b1]
