/-! L2: feed. -/
def byN (w : Int32) (j : Nat) : Nat := ((w >>> (ni (24 - 8 * j) &&& 31)) &&& 255).toBitVec.toNat
theorem and255 (x : Int32) : (x &&& 255).toBitVec.toNat < 256 ∧ ni (x &&& 255).toBitVec.toNat = x &&& 255 := by
  have h : (x &&& 255).toBitVec.toNat < 256 := by
    rw [Int32.toBitVec_and, BitVec.toNat_and]
    exact Nat.lt_of_le_of_lt Nat.and_le_right (by decide)
  refine ⟨h, ?_⟩
  apply Int32.toBitVec_inj.mp
  show BitVec.ofNat 32 _ = _
  apply BitVec.eq_of_toNat_eq
  rw [BitVec.toNat_ofNat, Nat.mod_eq_of_lt (by omega)]
theorem byN_lt (w : Int32) (j : Nat) : byN w j < 256 := (and255 _).1
theorem byN_ni (w : Int32) (j : Nat) : ni (byN w j) = (w >>> (ni (24 - 8 * j) &&& 31)) &&& 255 := (and255 _).2
theorem sx_by (x : Int32) : sx (x &&& 255).toBitVec.toNat = x.toInt8.toInt32 := by
  unfold sx
  rw [(and255 x).2, Int32.toInt8_and, show (255 : Int32).toInt8 = -1 from rfl, Int8.and_neg_one]
theorem nar_sx : ∀ k, k < 256 → vp_nar .byte (sx k) = sx k := by decide +kernel
theorem nar_by (w : Int32) (j : Nat) : vp_nar .byte ((w >>> (ni (24 - 8 * j) &&& 31)).toInt8.toInt32) = sx (byN w j) := by
  unfold byN
  rw [← sx_by]
  exact nar_sx _ (and255 _).1
/-- the shift of the class's loop -/
def vv (j : Nat) : Int32 := if j < 4 then ni (24 - 8 * j) else -8
theorem vv_s : ∀ j, j < 4 → vv j + -8 = vv (j + 1) ∧ vv j = ni (24 - 8 * j) ∧ ¬ vv j < 0 := by decide
theorem c_putL {w : Int32} {t : Nat} (ht : t + 4 ≤ 600) : ∀ (d j fuel : Nat) (m : Mm), j + d = 4 → d < fuel → G m → rI m 1 1 = ni (t + j) →
    ∃ m', L_X9_put_3 fuel 1 w (vv j) m = some ((), m') ∧ Fm (fun b => b = 1 ∨ b = 2) m m' ∧ rI m' 1 1 = ni (t + 4) ∧ (∀ k, k ≠ 1 → rI m' 1 k = rI m 1 k) ∧ ∀ i, rI m' 2 i = if t + j ≤ i ∧ i < t + 4 then sx (byN w (i - t)) else rI m 2 i := by
  intro d
  induction d with
  | zero =>
    intro j fuel m hj hf g h1
    obtain ⟨fuel, rfl⟩ : ∃ z, fuel = z + 1 := ⟨fuel - 1, by omega⟩
    have e : j = 4 := by omega
    subst e
    refine ⟨m, ?_, Fm_refl _ _, h1, fun _ _ => rfl, fun i => by rw [if_neg (by omega)]⟩
    rw [L_X9_put_3, if_pos (show vv 4 < 0 by decide)]
  | succ d ih =>
    intro j fuel m hj hf g h1
    obtain ⟨fuel, rfl⟩ : ∃ z, fuel = z + 1 := ⟨fuel - 1, by omega⟩
    obtain ⟨v1, v2, v3⟩ := vv_s j (by omega)
    obtain ⟨m', y1, y2, y3, y4, y5⟩ := ih (j + 1) fuel (wI (wI m 2 (t + j) (sx (byN w j))) 1 1 (ni (t + (j + 1)))) (by omega) (by omega) g (by rw [rIw, uf_at])
    refine ⟨m', ?_, Fm_trans (Fm_wI (Fm_wI (Fm_refl _ _) (.inr rfl)) (.inl rfl)) y2, y3, fun k hk => ?_, fun i => ?_⟩
    · rw [← y1, ← v1, L_X9_put_3]
      have v3' := eq_false v3
      have nb := nar_by w j
      rw [← v2] at nb
      have htj : t + j < 600 := by omega
      have en : (ni 600 ≤ ni (t + j)) = False := eq_false (fun z => by rw [ni_le (by omega) (by omega)] at z; omega)
      have ea : ni (t + j) + 1 = ni (t + (j + 1)) := ni_add _ 1
      simp (disch := first | assumption | omega | ((repeat (first | assumption | apply G_wI | apply G_wL | apply CSh_wI | apply CSh_wL)); done) | decide) only [↓dO0, ↓dO1, ↓dA2, ↓dK2, ↓dT2, ↓dO3, ↓dO4, ↓dA5, ↓dK5, ↓dT5, ↓dA6, ↓dK6, ↓dT6, ↓dA7, ↓dK7, ↓dT7, ↓dO8, ↓dA9, ↓dK9, ↓dT9, ↓dA10, ↓dK10, ↓dT10, ↓dA11, ↓dK11, ↓dT11, ↓dO12, ↓dA13, ↓dK13, ↓dT13, ↓dO14, ↓dA15, ↓dK15, ↓dT15, ↓dO16, ↓dO29, ↓dO42, ↓dA43, ↓dK43, ↓dT43, ↓dA44, ↓dK44, ↓dT44, ↓dO45, ↓dA46, ↓dK46, ↓dT46, ↓dO47, ↓dA48, ↓dK48, ↓dT48, ↓dO49, ↓dA50, ↓dK50, ↓dT50, ↓dA51, ↓dK51, ↓dT51, ↓dA52, ↓dK52, ↓dT52, ↓dA53, ↓dK53, ↓dT53, ↓dA54, ↓dK54, ↓dT54, ↓dA215, ↓dK215, ↓dT215, ↓dA376, ↓dK376, ↓dT376, ↓dA383, ↓dK383, ↓dT383, ↓dA390, ↓dK390, ↓dT390, ↓dA391, ↓dK391, ↓dT391, ↓dA392, ↓dK392, ↓dT392, ↓dA473, ↓dK473, ↓dT473, ↓dA474, ↓dK474, ↓dT474, ↓dA475, ↓dK475, ↓dT475, ↓dA492, ↓dK492, ↓dT492, ↓dA496, ↓dK496, ↓dT496, ↓dA497, ↓dK497, ↓dT497, ↓dR0_0, ↓dR0_1, ↓dR0_2, ↓dR0_3, ↓dR0_4, ↓dR0_5, ↓dR0_6, ↓dR0_7, ↓dR0_8, ↓dR0_9, ↓dR0_10, ↓dR0_11, ↓dR0_12, ↓dR1_0, ↓dR4_2, ↓dR8_0, ↓dR8_1, ↓dR8_2, ↓dR12_5, ↓dR14_0, ↓dR14_1, ↓dR14_2, ↓dR42_0, ↓dR45_0, ↓dR49_9, ↓dR49_10, ↓dR49_11, ↓dR49_12, ↓dR49_15, ↓dR49_16, ↓dR49_17, ↓dR49_18, ↓dR49_19, ↓dR49_20, ↓dR49_21, ↓dR49_23, ↓dR49_24, ↓dR49_25, ↓dR49_26, ↓dR49_34, ↓dF54, ↓dB54, ↓dC54, ↓dF215, ↓dB215, ↓dC215, ↓dF376, ↓dB376, ↓dC376, ↓dF383, ↓dB383, ↓dC383, ↓dF392, ↓dB392, ↓dC392, ↓dF475, ↓dB475, ↓dC475, ↓dF492, ↓dB492, ↓dC492, ↓lt9_e, ↓jn_e, ↓bd_s, gd_t, bd_s, oc_s, oc_n, lt9_e, jn_e, okOwI, okAwI, okTwI, lnwI, okOwL, okAwL, okTwL, lnwL, rRwI, rRwL, sHwI, sHwL, rIwL, rLwI, gO0, gO1, gA2, gK2, gT2, gN2, gO3, gO4, gA5, gK5, gT5, gN5, gA6, gK6, gT6, gN6, gA7, gK7, gT7, gN7, gO8, gA9, gK9, gT9, gN9, gA10, gK10, gT10, gN10, gA11, gK11, gT11, gN11, gO12, gA13, gK13, gT13, gN13, gO14, gA15, gK15, gT15, gN15, gO16, gO29, gO42, gA43, gK43, gT43, gN43, gA44, gK44, gT44, gN44, gO45, gA46, gK46, gT46, gN46, gO47, gA48, gK48, gT48, gN48, gO49, gA50, gK50, gT50, gN50, gA51, gK51, gT51, gN51, gA52, gK52, gT52, gN52, gA53, gK53, gT53, gN53, gA54, gK54, gT54, gN54, gA215, gK215, gT215, gN215, gA376, gK376, gT376, gN376, gA383, gK383, gT383, gN383, gA390, gK390, gT390, gN390, gA391, gK391, gT391, gN391, gA392, gK392, gT392, gN392, gA473, gK473, gT473, gN473, gA474, gK474, gT474, gN474, gA475, gK475, gT475, gN475, gA492, gK492, gT492, gN492, gA496, gK496, gT496, gN496, gA497, gK497, gT497, gN497, gR0_0, gR0_1, gR0_2, gR0_3, gR0_4, gR0_5, gR0_6, gR0_7, gR0_8, gR0_9, gR0_10, gR0_11, gR0_12, gR1_0, gR4_2, gR8_0, gR8_1, gR8_2, gR12_5, gR14_0, gR14_1, gR14_2, gR42_0, gR45_0, gR49_9, gR49_10, gR49_11, gR49_12, gR49_15, gR49_16, gR49_17, gR49_18, gR49_19, gR49_20, gR49_21, gR49_23, gR49_24, gR49_25, gR49_26, gR49_34, gF54, gB54, gC54, gF215, gB215, gC215, gF376, gB376, gC376, gF383, gB383, gC383, gF392, gB392, gC392, gF475, gB475, gC475, gF492, gB492, gC492, ni_le, ni_lt, ni_eq, ni_add, ni_mul, lni_le, lni_lt, nil_le, nil_lt, lni_eq, nil_eq, lni_add, nil_add, lni_mul, nil_mul, ix_ni, ix_lit, ni_ne1, ni_lt0, ↓reduceIte, Nat.reduceEqDiff, Nat.reduceMul, Nat.reduceAdd, Nat.reduceLeDiff, and_true, true_and, false_and, and_false, if_true, if_false, Nat.not_lt_zero, false_or, or_false, ft9, decide_true, o10, eq_self, b2i_0, b2i_1, b2i_ok, b2i_inj, b2i_t, b2i_f, rIwIk, v3', h1, gN2 g, en, nb, ea]
    · rw [y4 k hk, rIw, uf_ne hk, rIw_ne (by omega)]
    · rw [y5 i, rIw_ne (by omega), rIw, uf_ap]
      by_cases e : i = t + j
      · rw [if_neg (by omega), if_pos e, if_pos (by omega), e, show t + j - t = j by omega]
      · rw [if_neg e]
        by_cases q : t + j ≤ i ∧ i < t + 4
        · rw [if_pos q, if_pos (by omega)]
        · rw [if_neg q, if_neg (by omega)]
theorem c_put9 {w : Int32} {t : Nat} {m : Mm} (ht : t + 4 ≤ 600) (g : G m) (h1 : rI m 1 1 = ni t) :
    ∃ m', F_X9_put 1 w m = some ((), m') ∧ Fm (fun b => b = 1 ∨ b = 2) m m' ∧ rI m' 1 1 = ni (t + 4) ∧ (∀ k, k ≠ 1 → rI m' 1 k = rI m 1 k) ∧ ∀ i, rI m' 2 i = if t ≤ i ∧ i < t + 4 then sx (byN w (i - t)) else rI m 2 i := by
  unfold F_X9_put
  simp only [lt9_e]
  exact c_putL ht 4 0 NF m (by omega) (by unfold NF; omega) g h1
/-- the tape: bytes fed -/
def CTp (y : Nat → Nat) (t : Nat) (m : Mm) : Prop := rI m 1 1 = ni t ∧ t ≤ 600 ∧ ∀ i, i < t → y i < 256 ∧ rI m 2 i = sx (y i)
def RTp (y : Nat → Nat) (t : Nat) (m : Mm) : Prop := rI m 49 1 = ni t ∧ t ≤ 600 ∧ ∀ i, i < t → y i < 256 ∧ rI m 50 i = ni (y i)
def wd (a b c d e : Int32) (q : Nat) : Int32 := if q = 0 then a else if q = 1 then b else if q = 2 then c else if q = 3 then d else e
def yF (y : Nat → Nat) (t : Nat) (W : Nat → Int32) (i : Nat) : Nat := if i < t then y i else byN (W ((i - t) / 4)) ((i - t) % 4)
theorem c_feed {y : Nat → Nat} {t : Nat} {a b c d e : Int32} {m : Mm} (g : G m) (h : CTp y t m) :
    if t + 20 ≤ 600 then ∃ m', F_X11_feed 0 a b c d e m = some (ni (t + 20), m') ∧ Fm (fun b => b = 1 ∨ b = 2) m m' ∧ (∀ k, k ≠ 1 → rI m' 1 k = rI m 1 k) ∧ CTp (yF y t (wd a b c d e)) (t + 20) m'
    else F_X11_feed 0 a b c d e m = some (-1, m) := by
  obtain ⟨h1, h2, h3⟩ := h
  have ea : ni t + 20 = ni (t + 20) := ni_add t 20
  have er : ((600 : Int32) < ni (t + 20)) = (600 < t + 20) := propext (by rw [show (600 : Int32) = ni 600 from rfl]; exact ni_lt (by omega) (by omega))
  have hroom : F_X9_hasRoom 1 m = some (if t + 20 ≤ 600 then 1 else 0, m) := by
    unfold F_X9_hasRoom
    simp only [gO1 g, gd_t, h1, ea, er]
    by_cases q : t + 20 ≤ 600
    · rw [if_neg (by omega), if_pos q]
    · rw [if_pos (by omega), if_neg q]
  by_cases q : t + 20 ≤ 600
  · rw [if_pos q]
    rw [if_pos q] at hroom
    obtain ⟨m1, x1, f1, s1, k1, b1⟩ := c_put9 (w := a) (t := t) (by omega) g h1
    obtain ⟨m2, x2, f2, s2, k2, b2⟩ := c_put9 (w := b) (t := t + 4) (by omega) (G_fr f1 g) s1
    have f12 := Fm_trans f1 f2
    obtain ⟨m3, x3, f3, s3, k3, b3⟩ := c_put9 (w := c) (t := t + 4 + 4) (by omega) (G_fr f12 g) s2
    have f13 := Fm_trans f12 f3
    obtain ⟨m4, x4, f4, s4, k4, b4⟩ := c_put9 (w := d) (t := t + 4 + 4 + 4) (by omega) (G_fr f13 g) s3
    have f14 := Fm_trans f13 f4
    obtain ⟨m5, x5, f5, s5, k5, b5⟩ := c_put9 (w := e) (t := t + 4 + 4 + 4 + 4) (by omega) (G_fr f14 g) s4
    have f15 := Fm_trans f14 f5
    have g1 := G_fr f1 g
    have g2 := G_fr f12 g
    have g3 := G_fr f13 g
    have g4 := G_fr f14 g
    have g5 := G_fr f15 g
    refine ⟨m5, ?_, f15, fun k hk => by rw [k5 k hk, k4 k hk, k3 k hk, k2 k hk, k1 k hk], s5, q, fun i hi => ?_⟩
    · unfold F_X11_feed
      have n1 : ((1 : Int32) = 0) = False := o10
      simp (disch := first | assumption | omega | ((repeat (first | assumption | apply G_wI | apply G_wL | apply CSh_wI | apply CSh_wL)); done) | decide) only [↓dO0, ↓dO1, ↓dA2, ↓dK2, ↓dT2, ↓dO3, ↓dO4, ↓dA5, ↓dK5, ↓dT5, ↓dA6, ↓dK6, ↓dT6, ↓dA7, ↓dK7, ↓dT7, ↓dO8, ↓dA9, ↓dK9, ↓dT9, ↓dA10, ↓dK10, ↓dT10, ↓dA11, ↓dK11, ↓dT11, ↓dO12, ↓dA13, ↓dK13, ↓dT13, ↓dO14, ↓dA15, ↓dK15, ↓dT15, ↓dO16, ↓dO29, ↓dO42, ↓dA43, ↓dK43, ↓dT43, ↓dA44, ↓dK44, ↓dT44, ↓dO45, ↓dA46, ↓dK46, ↓dT46, ↓dO47, ↓dA48, ↓dK48, ↓dT48, ↓dO49, ↓dA50, ↓dK50, ↓dT50, ↓dA51, ↓dK51, ↓dT51, ↓dA52, ↓dK52, ↓dT52, ↓dA53, ↓dK53, ↓dT53, ↓dA54, ↓dK54, ↓dT54, ↓dA215, ↓dK215, ↓dT215, ↓dA376, ↓dK376, ↓dT376, ↓dA383, ↓dK383, ↓dT383, ↓dA390, ↓dK390, ↓dT390, ↓dA391, ↓dK391, ↓dT391, ↓dA392, ↓dK392, ↓dT392, ↓dA473, ↓dK473, ↓dT473, ↓dA474, ↓dK474, ↓dT474, ↓dA475, ↓dK475, ↓dT475, ↓dA492, ↓dK492, ↓dT492, ↓dA496, ↓dK496, ↓dT496, ↓dA497, ↓dK497, ↓dT497, ↓dR0_0, ↓dR0_1, ↓dR0_2, ↓dR0_3, ↓dR0_4, ↓dR0_5, ↓dR0_6, ↓dR0_7, ↓dR0_8, ↓dR0_9, ↓dR0_10, ↓dR0_11, ↓dR0_12, ↓dR1_0, ↓dR4_2, ↓dR8_0, ↓dR8_1, ↓dR8_2, ↓dR12_5, ↓dR14_0, ↓dR14_1, ↓dR14_2, ↓dR42_0, ↓dR45_0, ↓dR49_9, ↓dR49_10, ↓dR49_11, ↓dR49_12, ↓dR49_15, ↓dR49_16, ↓dR49_17, ↓dR49_18, ↓dR49_19, ↓dR49_20, ↓dR49_21, ↓dR49_23, ↓dR49_24, ↓dR49_25, ↓dR49_26, ↓dR49_34, ↓dF54, ↓dB54, ↓dC54, ↓dF215, ↓dB215, ↓dC215, ↓dF376, ↓dB376, ↓dC376, ↓dF383, ↓dB383, ↓dC383, ↓dF392, ↓dB392, ↓dC392, ↓dF475, ↓dB475, ↓dC475, ↓dF492, ↓dB492, ↓dC492, ↓lt9_e, ↓jn_e, ↓bd_s, gd_t, bd_s, oc_s, oc_n, lt9_e, jn_e, okOwI, okAwI, okTwI, lnwI, okOwL, okAwL, okTwL, lnwL, rRwI, rRwL, sHwI, sHwL, rIwL, rLwI, gO0, gO1, gA2, gK2, gT2, gN2, gO3, gO4, gA5, gK5, gT5, gN5, gA6, gK6, gT6, gN6, gA7, gK7, gT7, gN7, gO8, gA9, gK9, gT9, gN9, gA10, gK10, gT10, gN10, gA11, gK11, gT11, gN11, gO12, gA13, gK13, gT13, gN13, gO14, gA15, gK15, gT15, gN15, gO16, gO29, gO42, gA43, gK43, gT43, gN43, gA44, gK44, gT44, gN44, gO45, gA46, gK46, gT46, gN46, gO47, gA48, gK48, gT48, gN48, gO49, gA50, gK50, gT50, gN50, gA51, gK51, gT51, gN51, gA52, gK52, gT52, gN52, gA53, gK53, gT53, gN53, gA54, gK54, gT54, gN54, gA215, gK215, gT215, gN215, gA376, gK376, gT376, gN376, gA383, gK383, gT383, gN383, gA390, gK390, gT390, gN390, gA391, gK391, gT391, gN391, gA392, gK392, gT392, gN392, gA473, gK473, gT473, gN473, gA474, gK474, gT474, gN474, gA475, gK475, gT475, gN475, gA492, gK492, gT492, gN492, gA496, gK496, gT496, gN496, gA497, gK497, gT497, gN497, gR0_0, gR0_1, gR0_2, gR0_3, gR0_4, gR0_5, gR0_6, gR0_7, gR0_8, gR0_9, gR0_10, gR0_11, gR0_12, gR1_0, gR4_2, gR8_0, gR8_1, gR8_2, gR12_5, gR14_0, gR14_1, gR14_2, gR42_0, gR45_0, gR49_9, gR49_10, gR49_11, gR49_12, gR49_15, gR49_16, gR49_17, gR49_18, gR49_19, gR49_20, gR49_21, gR49_23, gR49_24, gR49_25, gR49_26, gR49_34, gF54, gB54, gC54, gF215, gB215, gC215, gF376, gB376, gC376, gF383, gB383, gC383, gF392, gB392, gC392, gF475, gB475, gC475, gF492, gB492, gC492, ni_le, ni_lt, ni_eq, ni_add, ni_mul, lni_le, lni_lt, nil_le, nil_lt, lni_eq, nil_eq, lni_add, nil_add, lni_mul, nil_mul, ix_ni, ix_lit, ni_ne1, ni_lt0, ↓reduceIte, Nat.reduceEqDiff, Nat.reduceMul, Nat.reduceAdd, Nat.reduceLeDiff, and_true, true_and, false_and, and_false, if_true, if_false, Nat.not_lt_zero, false_or, or_false, ft9, decide_true, o10, eq_self, b2i_0, b2i_1, b2i_ok, b2i_inj, b2i_t, b2i_f, rIwIk, ↓bdE hroom, ↓bdE x1, ↓bdE x2, ↓bdE x3, ↓bdE x4, ↓bdE x5, n1, s5]
    · unfold yF
      by_cases l : i < t
      · rw [if_pos l]
        refine ⟨(h3 i l).1, ?_⟩
        rw [b5 i, if_neg (by omega), b4 i, if_neg (by omega), b3 i, if_neg (by omega), b2 i, if_neg (by omega), b1 i, if_neg (by omega)]
        exact (h3 i l).2
      · rw [if_neg l]
        refine ⟨byN_lt _ _, ?_⟩
        unfold wd
        by_cases l1 : i < t + 4
        · rw [b5 i, if_neg (by omega), b4 i, if_neg (by omega), b3 i, if_neg (by omega), b2 i, if_neg (by omega), b1 i, if_pos (by omega), if_pos (show (i - t) / 4 = 0 by omega), show (i - t) % 4 = i - t by omega]
        · by_cases l2 : i < t + 8
          · rw [b5 i, if_neg (by omega), b4 i, if_neg (by omega), b3 i, if_neg (by omega), b2 i, if_pos (by omega), if_neg (show ¬ (i - t) / 4 = 0 by omega), if_pos (show (i - t) / 4 = 1 by omega), show (i - t) % 4 = i - (t + 4) by omega]
          · by_cases l3 : i < t + 12
            · rw [b5 i, if_neg (by omega), b4 i, if_neg (by omega), b3 i, if_pos (by omega), if_neg (show ¬ (i - t) / 4 = 0 by omega), if_neg (show ¬ (i - t) / 4 = 1 by omega), if_pos (show (i - t) / 4 = 2 by omega), show (i - t) % 4 = i - (t + 4 + 4) by omega]
            · by_cases l4 : i < t + 16
              · rw [b5 i, if_neg (by omega), b4 i, if_pos (by omega), if_neg (show ¬ (i - t) / 4 = 0 by omega), if_neg (show ¬ (i - t) / 4 = 1 by omega), if_neg (show ¬ (i - t) / 4 = 2 by omega), if_pos (show (i - t) / 4 = 3 by omega), show (i - t) % 4 = i - (t + 4 + 4 + 4) by omega]
              · rw [b5 i, if_pos (by omega), if_neg (show ¬ (i - t) / 4 = 0 by omega), if_neg (show ¬ (i - t) / 4 = 1 by omega), if_neg (show ¬ (i - t) / 4 = 2 by omega), if_neg (show ¬ (i - t) / 4 = 3 by omega), show (i - t) % 4 = i - (t + 4 + 4 + 4 + 4) by omega]
  · rw [if_neg q]
    rw [if_neg q] at hroom
    unfold F_X11_feed
    simp (disch := first | assumption | omega | ((repeat (first | assumption | apply G_wI | apply G_wL | apply CSh_wI | apply CSh_wL)); done) | decide) only [↓dO0, ↓dO1, ↓dA2, ↓dK2, ↓dT2, ↓dO3, ↓dO4, ↓dA5, ↓dK5, ↓dT5, ↓dA6, ↓dK6, ↓dT6, ↓dA7, ↓dK7, ↓dT7, ↓dO8, ↓dA9, ↓dK9, ↓dT9, ↓dA10, ↓dK10, ↓dT10, ↓dA11, ↓dK11, ↓dT11, ↓dO12, ↓dA13, ↓dK13, ↓dT13, ↓dO14, ↓dA15, ↓dK15, ↓dT15, ↓dO16, ↓dO29, ↓dO42, ↓dA43, ↓dK43, ↓dT43, ↓dA44, ↓dK44, ↓dT44, ↓dO45, ↓dA46, ↓dK46, ↓dT46, ↓dO47, ↓dA48, ↓dK48, ↓dT48, ↓dO49, ↓dA50, ↓dK50, ↓dT50, ↓dA51, ↓dK51, ↓dT51, ↓dA52, ↓dK52, ↓dT52, ↓dA53, ↓dK53, ↓dT53, ↓dA54, ↓dK54, ↓dT54, ↓dA215, ↓dK215, ↓dT215, ↓dA376, ↓dK376, ↓dT376, ↓dA383, ↓dK383, ↓dT383, ↓dA390, ↓dK390, ↓dT390, ↓dA391, ↓dK391, ↓dT391, ↓dA392, ↓dK392, ↓dT392, ↓dA473, ↓dK473, ↓dT473, ↓dA474, ↓dK474, ↓dT474, ↓dA475, ↓dK475, ↓dT475, ↓dA492, ↓dK492, ↓dT492, ↓dA496, ↓dK496, ↓dT496, ↓dA497, ↓dK497, ↓dT497, ↓dR0_0, ↓dR0_1, ↓dR0_2, ↓dR0_3, ↓dR0_4, ↓dR0_5, ↓dR0_6, ↓dR0_7, ↓dR0_8, ↓dR0_9, ↓dR0_10, ↓dR0_11, ↓dR0_12, ↓dR1_0, ↓dR4_2, ↓dR8_0, ↓dR8_1, ↓dR8_2, ↓dR12_5, ↓dR14_0, ↓dR14_1, ↓dR14_2, ↓dR42_0, ↓dR45_0, ↓dR49_9, ↓dR49_10, ↓dR49_11, ↓dR49_12, ↓dR49_15, ↓dR49_16, ↓dR49_17, ↓dR49_18, ↓dR49_19, ↓dR49_20, ↓dR49_21, ↓dR49_23, ↓dR49_24, ↓dR49_25, ↓dR49_26, ↓dR49_34, ↓dF54, ↓dB54, ↓dC54, ↓dF215, ↓dB215, ↓dC215, ↓dF376, ↓dB376, ↓dC376, ↓dF383, ↓dB383, ↓dC383, ↓dF392, ↓dB392, ↓dC392, ↓dF475, ↓dB475, ↓dC475, ↓dF492, ↓dB492, ↓dC492, ↓lt9_e, ↓jn_e, ↓bd_s, gd_t, bd_s, oc_s, oc_n, lt9_e, jn_e, okOwI, okAwI, okTwI, lnwI, okOwL, okAwL, okTwL, lnwL, rRwI, rRwL, sHwI, sHwL, rIwL, rLwI, gO0, gO1, gA2, gK2, gT2, gN2, gO3, gO4, gA5, gK5, gT5, gN5, gA6, gK6, gT6, gN6, gA7, gK7, gT7, gN7, gO8, gA9, gK9, gT9, gN9, gA10, gK10, gT10, gN10, gA11, gK11, gT11, gN11, gO12, gA13, gK13, gT13, gN13, gO14, gA15, gK15, gT15, gN15, gO16, gO29, gO42, gA43, gK43, gT43, gN43, gA44, gK44, gT44, gN44, gO45, gA46, gK46, gT46, gN46, gO47, gA48, gK48, gT48, gN48, gO49, gA50, gK50, gT50, gN50, gA51, gK51, gT51, gN51, gA52, gK52, gT52, gN52, gA53, gK53, gT53, gN53, gA54, gK54, gT54, gN54, gA215, gK215, gT215, gN215, gA376, gK376, gT376, gN376, gA383, gK383, gT383, gN383, gA390, gK390, gT390, gN390, gA391, gK391, gT391, gN391, gA392, gK392, gT392, gN392, gA473, gK473, gT473, gN473, gA474, gK474, gT474, gN474, gA475, gK475, gT475, gN475, gA492, gK492, gT492, gN492, gA496, gK496, gT496, gN496, gA497, gK497, gT497, gN497, gR0_0, gR0_1, gR0_2, gR0_3, gR0_4, gR0_5, gR0_6, gR0_7, gR0_8, gR0_9, gR0_10, gR0_11, gR0_12, gR1_0, gR4_2, gR8_0, gR8_1, gR8_2, gR12_5, gR14_0, gR14_1, gR14_2, gR42_0, gR45_0, gR49_9, gR49_10, gR49_11, gR49_12, gR49_15, gR49_16, gR49_17, gR49_18, gR49_19, gR49_20, gR49_21, gR49_23, gR49_24, gR49_25, gR49_26, gR49_34, gF54, gB54, gC54, gF215, gB215, gC215, gF376, gB376, gC376, gF383, gB383, gC383, gF392, gB392, gC392, gF475, gB475, gC475, gF492, gB492, gC492, ni_le, ni_lt, ni_eq, ni_add, ni_mul, lni_le, lni_lt, nil_le, nil_lt, lni_eq, nil_eq, lni_add, nil_add, lni_mul, nil_mul, ix_ni, ix_lit, ni_ne1, ni_lt0, ↓reduceIte, Nat.reduceEqDiff, Nat.reduceMul, Nat.reduceAdd, Nat.reduceLeDiff, and_true, true_and, false_and, and_false, if_true, if_false, Nat.not_lt_zero, false_or, or_false, ft9, decide_true, o10, eq_self, b2i_0, b2i_1, b2i_ok, b2i_inj, b2i_t, b2i_f, rIwIk, ↓bdE hroom]
/-! the reference's -/
theorem sh_i : ∀ i, i < 20 → ((24 : Int32) - ((8 : Int32) * (ni i - ni i / (4 : Int32) * (4 : Int32)))) &&& 31 = ni (24 - 8 * (i % 4)) &&& 31 := by decide
theorem r_feedL {K : Nat → Mm → Option (Int32 × Mm)} {a b c d e : Int32} {t : Nat} (ht : t + 20 ≤ 600) : ∀ (z i fuel : Nat) (m : Mm), i + z = 20 → z < fuel → G m → rI m 49 1 = ni (t + i) →
    ∃ m', L_X12_feed_23 K fuel 49 a b c d e (ni i) m = K 49 m' ∧ Fm (fun b => b = 49 ∨ b = 50) m m' ∧ rI m' 49 1 = ni (t + 20) ∧ (∀ k, k ≠ 1 → rI m' 49 k = rI m 49 k) ∧ ∀ k, rI m' 50 k = if t + i ≤ k ∧ k < t + 20 then ni (byN (wd a b c d e ((k - t) / 4)) ((k - t) % 4)) else rI m 50 k := by
  intro z
  induction z with
  | zero =>
    intro i fuel m hi hf g h1
    obtain ⟨fuel, rfl⟩ : ∃ z, fuel = z + 1 := ⟨fuel - 1, by omega⟩
    have e0 : i = 20 := by omega
    subst e0
    refine ⟨m, ?_, Fm_refl _ _, h1, fun _ _ => rfl, fun k => by rw [if_neg (by omega)]⟩
    rw [L_X12_feed_23, if_pos (show (20 : Int32) ≤ ni 20 by decide)]
  | succ z ih =>
    intro i fuel m hi hf g h1
    obtain ⟨fuel, rfl⟩ : ∃ z, fuel = z + 1 := ⟨fuel - 1, by omega⟩
    obtain ⟨m', y1, y2, y3, y4, y5⟩ := ih (i + 1) fuel (wI (wI m 50 (t + i) (ni (byN (wd a b c d e (i / 4)) (i % 4)))) 49 1 (ni (t + (i + 1)))) (by omega) (by omega) g (by rw [rIw, uf_at])
    have c20 : ((20 : Int32) ≤ ni i) = False := eq_false (fun q => by rw [show (20 : Int32) = ni 20 from rfl, ni_le (by omega) (by omega)] at q; omega)
    have cmp : ∀ v : Nat, v < 30 → (ni v ≤ ni i) = (v ≤ i) := fun v hv => propext (ni_le (by omega) (by omega))
    have c4 := cmp 4 (by omega)
    have c8 := cmp 8 (by omega)
    have c12 := cmp 12 (by omega)
    have c16 := cmp 16 (by omega)
    rw [show ni 4 = 4 from rfl] at c4
    rw [show ni 8 = 8 from rfl] at c8
    rw [show ni 12 = 12 from rfl] at c12
    rw [show ni 16 = 16 from rfl] at c16
    have hs := sh_i i (by omega)
    have htj : t + i < 600 := by omega
    have d4 : decide (¬ (4 : Int32) = 0) = true := by decide
    have ea : ni (t + i) + 1 = ni (t + (i + 1)) := ni_add _ 1
    refine ⟨m', ?_, Fm_trans (Fm_wI (Fm_wI (Fm_refl _ _) (.inr rfl)) (.inl rfl)) y2, y3, fun k hk => ?_, fun k => ?_⟩
    · rw [← y1, L_X12_feed_23]
      have bw := fun w => byN_ni w (i % 4)
      by_cases l1 : 4 ≤ i
      · have l1' := eq_true l1
        by_cases l2 : 8 ≤ i
        · have l2' := eq_true l2
          by_cases l3 : 12 ≤ i
          · have l3' := eq_true l3
            by_cases l4 : 16 ≤ i
            · have l4' := eq_true l4
              have hw : wd a b c d e (i / 4) = e := by unfold wd; rw [if_neg (by omega), if_neg (by omega), if_neg (by omega), if_neg (by omega)]
              simp (disch := first | assumption | omega | ((repeat (first | assumption | apply G_wI | apply G_wL | apply CSh_wI | apply CSh_wL)); done) | decide) only [↓dO0, ↓dO1, ↓dA2, ↓dK2, ↓dT2, ↓dO3, ↓dO4, ↓dA5, ↓dK5, ↓dT5, ↓dA6, ↓dK6, ↓dT6, ↓dA7, ↓dK7, ↓dT7, ↓dO8, ↓dA9, ↓dK9, ↓dT9, ↓dA10, ↓dK10, ↓dT10, ↓dA11, ↓dK11, ↓dT11, ↓dO12, ↓dA13, ↓dK13, ↓dT13, ↓dO14, ↓dA15, ↓dK15, ↓dT15, ↓dO16, ↓dO29, ↓dO42, ↓dA43, ↓dK43, ↓dT43, ↓dA44, ↓dK44, ↓dT44, ↓dO45, ↓dA46, ↓dK46, ↓dT46, ↓dO47, ↓dA48, ↓dK48, ↓dT48, ↓dO49, ↓dA50, ↓dK50, ↓dT50, ↓dA51, ↓dK51, ↓dT51, ↓dA52, ↓dK52, ↓dT52, ↓dA53, ↓dK53, ↓dT53, ↓dA54, ↓dK54, ↓dT54, ↓dA215, ↓dK215, ↓dT215, ↓dA376, ↓dK376, ↓dT376, ↓dA383, ↓dK383, ↓dT383, ↓dA390, ↓dK390, ↓dT390, ↓dA391, ↓dK391, ↓dT391, ↓dA392, ↓dK392, ↓dT392, ↓dA473, ↓dK473, ↓dT473, ↓dA474, ↓dK474, ↓dT474, ↓dA475, ↓dK475, ↓dT475, ↓dA492, ↓dK492, ↓dT492, ↓dA496, ↓dK496, ↓dT496, ↓dA497, ↓dK497, ↓dT497, ↓dR0_0, ↓dR0_1, ↓dR0_2, ↓dR0_3, ↓dR0_4, ↓dR0_5, ↓dR0_6, ↓dR0_7, ↓dR0_8, ↓dR0_9, ↓dR0_10, ↓dR0_11, ↓dR0_12, ↓dR1_0, ↓dR4_2, ↓dR8_0, ↓dR8_1, ↓dR8_2, ↓dR12_5, ↓dR14_0, ↓dR14_1, ↓dR14_2, ↓dR42_0, ↓dR45_0, ↓dR49_9, ↓dR49_10, ↓dR49_11, ↓dR49_12, ↓dR49_15, ↓dR49_16, ↓dR49_17, ↓dR49_18, ↓dR49_19, ↓dR49_20, ↓dR49_21, ↓dR49_23, ↓dR49_24, ↓dR49_25, ↓dR49_26, ↓dR49_34, ↓dF54, ↓dB54, ↓dC54, ↓dF215, ↓dB215, ↓dC215, ↓dF376, ↓dB376, ↓dC376, ↓dF383, ↓dB383, ↓dC383, ↓dF392, ↓dB392, ↓dC392, ↓dF475, ↓dB475, ↓dC475, ↓dF492, ↓dB492, ↓dC492, ↓lt9_e, ↓jn_e, ↓bd_s, gd_t, bd_s, oc_s, oc_n, lt9_e, jn_e, okOwI, okAwI, okTwI, lnwI, okOwL, okAwL, okTwL, lnwL, rRwI, rRwL, sHwI, sHwL, rIwL, rLwI, gO0, gO1, gA2, gK2, gT2, gN2, gO3, gO4, gA5, gK5, gT5, gN5, gA6, gK6, gT6, gN6, gA7, gK7, gT7, gN7, gO8, gA9, gK9, gT9, gN9, gA10, gK10, gT10, gN10, gA11, gK11, gT11, gN11, gO12, gA13, gK13, gT13, gN13, gO14, gA15, gK15, gT15, gN15, gO16, gO29, gO42, gA43, gK43, gT43, gN43, gA44, gK44, gT44, gN44, gO45, gA46, gK46, gT46, gN46, gO47, gA48, gK48, gT48, gN48, gO49, gA50, gK50, gT50, gN50, gA51, gK51, gT51, gN51, gA52, gK52, gT52, gN52, gA53, gK53, gT53, gN53, gA54, gK54, gT54, gN54, gA215, gK215, gT215, gN215, gA376, gK376, gT376, gN376, gA383, gK383, gT383, gN383, gA390, gK390, gT390, gN390, gA391, gK391, gT391, gN391, gA392, gK392, gT392, gN392, gA473, gK473, gT473, gN473, gA474, gK474, gT474, gN474, gA475, gK475, gT475, gN475, gA492, gK492, gT492, gN492, gA496, gK496, gT496, gN496, gA497, gK497, gT497, gN497, gR0_0, gR0_1, gR0_2, gR0_3, gR0_4, gR0_5, gR0_6, gR0_7, gR0_8, gR0_9, gR0_10, gR0_11, gR0_12, gR1_0, gR4_2, gR8_0, gR8_1, gR8_2, gR12_5, gR14_0, gR14_1, gR14_2, gR42_0, gR45_0, gR49_9, gR49_10, gR49_11, gR49_12, gR49_15, gR49_16, gR49_17, gR49_18, gR49_19, gR49_20, gR49_21, gR49_23, gR49_24, gR49_25, gR49_26, gR49_34, gF54, gB54, gC54, gF215, gB215, gC215, gF376, gB376, gC376, gF383, gB383, gC383, gF392, gB392, gC392, gF475, gB475, gC475, gF492, gB492, gC492, ni_le, ni_lt, ni_eq, ni_add, ni_mul, lni_le, lni_lt, nil_le, nil_lt, lni_eq, nil_eq, lni_add, nil_add, lni_mul, nil_mul, ix_ni, ix_lit, ni_ne1, ni_lt0, ↓reduceIte, Nat.reduceEqDiff, Nat.reduceMul, Nat.reduceAdd, Nat.reduceLeDiff, and_true, true_and, false_and, and_false, if_true, if_false, Nat.not_lt_zero, false_or, or_false, ft9, decide_true, o10, eq_self, b2i_0, b2i_1, b2i_ok, b2i_inj, b2i_t, b2i_f, rIwIk, c20, c4, c8, c12, c16, l1', l2', l3', l4', h1, hs, d4, hw, bw, ea]
            · have l4' := eq_false l4
              have hw : wd a b c d e (i / 4) = d := by unfold wd; rw [if_neg (by omega), if_neg (by omega), if_neg (by omega), if_pos (by omega)]
              simp (disch := first | assumption | omega | ((repeat (first | assumption | apply G_wI | apply G_wL | apply CSh_wI | apply CSh_wL)); done) | decide) only [↓dO0, ↓dO1, ↓dA2, ↓dK2, ↓dT2, ↓dO3, ↓dO4, ↓dA5, ↓dK5, ↓dT5, ↓dA6, ↓dK6, ↓dT6, ↓dA7, ↓dK7, ↓dT7, ↓dO8, ↓dA9, ↓dK9, ↓dT9, ↓dA10, ↓dK10, ↓dT10, ↓dA11, ↓dK11, ↓dT11, ↓dO12, ↓dA13, ↓dK13, ↓dT13, ↓dO14, ↓dA15, ↓dK15, ↓dT15, ↓dO16, ↓dO29, ↓dO42, ↓dA43, ↓dK43, ↓dT43, ↓dA44, ↓dK44, ↓dT44, ↓dO45, ↓dA46, ↓dK46, ↓dT46, ↓dO47, ↓dA48, ↓dK48, ↓dT48, ↓dO49, ↓dA50, ↓dK50, ↓dT50, ↓dA51, ↓dK51, ↓dT51, ↓dA52, ↓dK52, ↓dT52, ↓dA53, ↓dK53, ↓dT53, ↓dA54, ↓dK54, ↓dT54, ↓dA215, ↓dK215, ↓dT215, ↓dA376, ↓dK376, ↓dT376, ↓dA383, ↓dK383, ↓dT383, ↓dA390, ↓dK390, ↓dT390, ↓dA391, ↓dK391, ↓dT391, ↓dA392, ↓dK392, ↓dT392, ↓dA473, ↓dK473, ↓dT473, ↓dA474, ↓dK474, ↓dT474, ↓dA475, ↓dK475, ↓dT475, ↓dA492, ↓dK492, ↓dT492, ↓dA496, ↓dK496, ↓dT496, ↓dA497, ↓dK497, ↓dT497, ↓dR0_0, ↓dR0_1, ↓dR0_2, ↓dR0_3, ↓dR0_4, ↓dR0_5, ↓dR0_6, ↓dR0_7, ↓dR0_8, ↓dR0_9, ↓dR0_10, ↓dR0_11, ↓dR0_12, ↓dR1_0, ↓dR4_2, ↓dR8_0, ↓dR8_1, ↓dR8_2, ↓dR12_5, ↓dR14_0, ↓dR14_1, ↓dR14_2, ↓dR42_0, ↓dR45_0, ↓dR49_9, ↓dR49_10, ↓dR49_11, ↓dR49_12, ↓dR49_15, ↓dR49_16, ↓dR49_17, ↓dR49_18, ↓dR49_19, ↓dR49_20, ↓dR49_21, ↓dR49_23, ↓dR49_24, ↓dR49_25, ↓dR49_26, ↓dR49_34, ↓dF54, ↓dB54, ↓dC54, ↓dF215, ↓dB215, ↓dC215, ↓dF376, ↓dB376, ↓dC376, ↓dF383, ↓dB383, ↓dC383, ↓dF392, ↓dB392, ↓dC392, ↓dF475, ↓dB475, ↓dC475, ↓dF492, ↓dB492, ↓dC492, ↓lt9_e, ↓jn_e, ↓bd_s, gd_t, bd_s, oc_s, oc_n, lt9_e, jn_e, okOwI, okAwI, okTwI, lnwI, okOwL, okAwL, okTwL, lnwL, rRwI, rRwL, sHwI, sHwL, rIwL, rLwI, gO0, gO1, gA2, gK2, gT2, gN2, gO3, gO4, gA5, gK5, gT5, gN5, gA6, gK6, gT6, gN6, gA7, gK7, gT7, gN7, gO8, gA9, gK9, gT9, gN9, gA10, gK10, gT10, gN10, gA11, gK11, gT11, gN11, gO12, gA13, gK13, gT13, gN13, gO14, gA15, gK15, gT15, gN15, gO16, gO29, gO42, gA43, gK43, gT43, gN43, gA44, gK44, gT44, gN44, gO45, gA46, gK46, gT46, gN46, gO47, gA48, gK48, gT48, gN48, gO49, gA50, gK50, gT50, gN50, gA51, gK51, gT51, gN51, gA52, gK52, gT52, gN52, gA53, gK53, gT53, gN53, gA54, gK54, gT54, gN54, gA215, gK215, gT215, gN215, gA376, gK376, gT376, gN376, gA383, gK383, gT383, gN383, gA390, gK390, gT390, gN390, gA391, gK391, gT391, gN391, gA392, gK392, gT392, gN392, gA473, gK473, gT473, gN473, gA474, gK474, gT474, gN474, gA475, gK475, gT475, gN475, gA492, gK492, gT492, gN492, gA496, gK496, gT496, gN496, gA497, gK497, gT497, gN497, gR0_0, gR0_1, gR0_2, gR0_3, gR0_4, gR0_5, gR0_6, gR0_7, gR0_8, gR0_9, gR0_10, gR0_11, gR0_12, gR1_0, gR4_2, gR8_0, gR8_1, gR8_2, gR12_5, gR14_0, gR14_1, gR14_2, gR42_0, gR45_0, gR49_9, gR49_10, gR49_11, gR49_12, gR49_15, gR49_16, gR49_17, gR49_18, gR49_19, gR49_20, gR49_21, gR49_23, gR49_24, gR49_25, gR49_26, gR49_34, gF54, gB54, gC54, gF215, gB215, gC215, gF376, gB376, gC376, gF383, gB383, gC383, gF392, gB392, gC392, gF475, gB475, gC475, gF492, gB492, gC492, ni_le, ni_lt, ni_eq, ni_add, ni_mul, lni_le, lni_lt, nil_le, nil_lt, lni_eq, nil_eq, lni_add, nil_add, lni_mul, nil_mul, ix_ni, ix_lit, ni_ne1, ni_lt0, ↓reduceIte, Nat.reduceEqDiff, Nat.reduceMul, Nat.reduceAdd, Nat.reduceLeDiff, and_true, true_and, false_and, and_false, if_true, if_false, Nat.not_lt_zero, false_or, or_false, ft9, decide_true, o10, eq_self, b2i_0, b2i_1, b2i_ok, b2i_inj, b2i_t, b2i_f, rIwIk, c20, c4, c8, c12, c16, l1', l2', l3', l4', h1, hs, d4, hw, bw, ea]
          · have l3' := eq_false l3
            have hw : wd a b c d e (i / 4) = c := by unfold wd; rw [if_neg (by omega), if_neg (by omega), if_pos (by omega)]
            simp (disch := first | assumption | omega | ((repeat (first | assumption | apply G_wI | apply G_wL | apply CSh_wI | apply CSh_wL)); done) | decide) only [↓dO0, ↓dO1, ↓dA2, ↓dK2, ↓dT2, ↓dO3, ↓dO4, ↓dA5, ↓dK5, ↓dT5, ↓dA6, ↓dK6, ↓dT6, ↓dA7, ↓dK7, ↓dT7, ↓dO8, ↓dA9, ↓dK9, ↓dT9, ↓dA10, ↓dK10, ↓dT10, ↓dA11, ↓dK11, ↓dT11, ↓dO12, ↓dA13, ↓dK13, ↓dT13, ↓dO14, ↓dA15, ↓dK15, ↓dT15, ↓dO16, ↓dO29, ↓dO42, ↓dA43, ↓dK43, ↓dT43, ↓dA44, ↓dK44, ↓dT44, ↓dO45, ↓dA46, ↓dK46, ↓dT46, ↓dO47, ↓dA48, ↓dK48, ↓dT48, ↓dO49, ↓dA50, ↓dK50, ↓dT50, ↓dA51, ↓dK51, ↓dT51, ↓dA52, ↓dK52, ↓dT52, ↓dA53, ↓dK53, ↓dT53, ↓dA54, ↓dK54, ↓dT54, ↓dA215, ↓dK215, ↓dT215, ↓dA376, ↓dK376, ↓dT376, ↓dA383, ↓dK383, ↓dT383, ↓dA390, ↓dK390, ↓dT390, ↓dA391, ↓dK391, ↓dT391, ↓dA392, ↓dK392, ↓dT392, ↓dA473, ↓dK473, ↓dT473, ↓dA474, ↓dK474, ↓dT474, ↓dA475, ↓dK475, ↓dT475, ↓dA492, ↓dK492, ↓dT492, ↓dA496, ↓dK496, ↓dT496, ↓dA497, ↓dK497, ↓dT497, ↓dR0_0, ↓dR0_1, ↓dR0_2, ↓dR0_3, ↓dR0_4, ↓dR0_5, ↓dR0_6, ↓dR0_7, ↓dR0_8, ↓dR0_9, ↓dR0_10, ↓dR0_11, ↓dR0_12, ↓dR1_0, ↓dR4_2, ↓dR8_0, ↓dR8_1, ↓dR8_2, ↓dR12_5, ↓dR14_0, ↓dR14_1, ↓dR14_2, ↓dR42_0, ↓dR45_0, ↓dR49_9, ↓dR49_10, ↓dR49_11, ↓dR49_12, ↓dR49_15, ↓dR49_16, ↓dR49_17, ↓dR49_18, ↓dR49_19, ↓dR49_20, ↓dR49_21, ↓dR49_23, ↓dR49_24, ↓dR49_25, ↓dR49_26, ↓dR49_34, ↓dF54, ↓dB54, ↓dC54, ↓dF215, ↓dB215, ↓dC215, ↓dF376, ↓dB376, ↓dC376, ↓dF383, ↓dB383, ↓dC383, ↓dF392, ↓dB392, ↓dC392, ↓dF475, ↓dB475, ↓dC475, ↓dF492, ↓dB492, ↓dC492, ↓lt9_e, ↓jn_e, ↓bd_s, gd_t, bd_s, oc_s, oc_n, lt9_e, jn_e, okOwI, okAwI, okTwI, lnwI, okOwL, okAwL, okTwL, lnwL, rRwI, rRwL, sHwI, sHwL, rIwL, rLwI, gO0, gO1, gA2, gK2, gT2, gN2, gO3, gO4, gA5, gK5, gT5, gN5, gA6, gK6, gT6, gN6, gA7, gK7, gT7, gN7, gO8, gA9, gK9, gT9, gN9, gA10, gK10, gT10, gN10, gA11, gK11, gT11, gN11, gO12, gA13, gK13, gT13, gN13, gO14, gA15, gK15, gT15, gN15, gO16, gO29, gO42, gA43, gK43, gT43, gN43, gA44, gK44, gT44, gN44, gO45, gA46, gK46, gT46, gN46, gO47, gA48, gK48, gT48, gN48, gO49, gA50, gK50, gT50, gN50, gA51, gK51, gT51, gN51, gA52, gK52, gT52, gN52, gA53, gK53, gT53, gN53, gA54, gK54, gT54, gN54, gA215, gK215, gT215, gN215, gA376, gK376, gT376, gN376, gA383, gK383, gT383, gN383, gA390, gK390, gT390, gN390, gA391, gK391, gT391, gN391, gA392, gK392, gT392, gN392, gA473, gK473, gT473, gN473, gA474, gK474, gT474, gN474, gA475, gK475, gT475, gN475, gA492, gK492, gT492, gN492, gA496, gK496, gT496, gN496, gA497, gK497, gT497, gN497, gR0_0, gR0_1, gR0_2, gR0_3, gR0_4, gR0_5, gR0_6, gR0_7, gR0_8, gR0_9, gR0_10, gR0_11, gR0_12, gR1_0, gR4_2, gR8_0, gR8_1, gR8_2, gR12_5, gR14_0, gR14_1, gR14_2, gR42_0, gR45_0, gR49_9, gR49_10, gR49_11, gR49_12, gR49_15, gR49_16, gR49_17, gR49_18, gR49_19, gR49_20, gR49_21, gR49_23, gR49_24, gR49_25, gR49_26, gR49_34, gF54, gB54, gC54, gF215, gB215, gC215, gF376, gB376, gC376, gF383, gB383, gC383, gF392, gB392, gC392, gF475, gB475, gC475, gF492, gB492, gC492, ni_le, ni_lt, ni_eq, ni_add, ni_mul, lni_le, lni_lt, nil_le, nil_lt, lni_eq, nil_eq, lni_add, nil_add, lni_mul, nil_mul, ix_ni, ix_lit, ni_ne1, ni_lt0, ↓reduceIte, Nat.reduceEqDiff, Nat.reduceMul, Nat.reduceAdd, Nat.reduceLeDiff, and_true, true_and, false_and, and_false, if_true, if_false, Nat.not_lt_zero, false_or, or_false, ft9, decide_true, o10, eq_self, b2i_0, b2i_1, b2i_ok, b2i_inj, b2i_t, b2i_f, rIwIk, c20, c4, c8, c12, l1', l2', l3', h1, hs, d4, hw, bw, ea]
        · have l2' := eq_false l2
          have hw : wd a b c d e (i / 4) = b := by unfold wd; rw [if_neg (by omega), if_pos (by omega)]
          simp (disch := first | assumption | omega | ((repeat (first | assumption | apply G_wI | apply G_wL | apply CSh_wI | apply CSh_wL)); done) | decide) only [↓dO0, ↓dO1, ↓dA2, ↓dK2, ↓dT2, ↓dO3, ↓dO4, ↓dA5, ↓dK5, ↓dT5, ↓dA6, ↓dK6, ↓dT6, ↓dA7, ↓dK7, ↓dT7, ↓dO8, ↓dA9, ↓dK9, ↓dT9, ↓dA10, ↓dK10, ↓dT10, ↓dA11, ↓dK11, ↓dT11, ↓dO12, ↓dA13, ↓dK13, ↓dT13, ↓dO14, ↓dA15, ↓dK15, ↓dT15, ↓dO16, ↓dO29, ↓dO42, ↓dA43, ↓dK43, ↓dT43, ↓dA44, ↓dK44, ↓dT44, ↓dO45, ↓dA46, ↓dK46, ↓dT46, ↓dO47, ↓dA48, ↓dK48, ↓dT48, ↓dO49, ↓dA50, ↓dK50, ↓dT50, ↓dA51, ↓dK51, ↓dT51, ↓dA52, ↓dK52, ↓dT52, ↓dA53, ↓dK53, ↓dT53, ↓dA54, ↓dK54, ↓dT54, ↓dA215, ↓dK215, ↓dT215, ↓dA376, ↓dK376, ↓dT376, ↓dA383, ↓dK383, ↓dT383, ↓dA390, ↓dK390, ↓dT390, ↓dA391, ↓dK391, ↓dT391, ↓dA392, ↓dK392, ↓dT392, ↓dA473, ↓dK473, ↓dT473, ↓dA474, ↓dK474, ↓dT474, ↓dA475, ↓dK475, ↓dT475, ↓dA492, ↓dK492, ↓dT492, ↓dA496, ↓dK496, ↓dT496, ↓dA497, ↓dK497, ↓dT497, ↓dR0_0, ↓dR0_1, ↓dR0_2, ↓dR0_3, ↓dR0_4, ↓dR0_5, ↓dR0_6, ↓dR0_7, ↓dR0_8, ↓dR0_9, ↓dR0_10, ↓dR0_11, ↓dR0_12, ↓dR1_0, ↓dR4_2, ↓dR8_0, ↓dR8_1, ↓dR8_2, ↓dR12_5, ↓dR14_0, ↓dR14_1, ↓dR14_2, ↓dR42_0, ↓dR45_0, ↓dR49_9, ↓dR49_10, ↓dR49_11, ↓dR49_12, ↓dR49_15, ↓dR49_16, ↓dR49_17, ↓dR49_18, ↓dR49_19, ↓dR49_20, ↓dR49_21, ↓dR49_23, ↓dR49_24, ↓dR49_25, ↓dR49_26, ↓dR49_34, ↓dF54, ↓dB54, ↓dC54, ↓dF215, ↓dB215, ↓dC215, ↓dF376, ↓dB376, ↓dC376, ↓dF383, ↓dB383, ↓dC383, ↓dF392, ↓dB392, ↓dC392, ↓dF475, ↓dB475, ↓dC475, ↓dF492, ↓dB492, ↓dC492, ↓lt9_e, ↓jn_e, ↓bd_s, gd_t, bd_s, oc_s, oc_n, lt9_e, jn_e, okOwI, okAwI, okTwI, lnwI, okOwL, okAwL, okTwL, lnwL, rRwI, rRwL, sHwI, sHwL, rIwL, rLwI, gO0, gO1, gA2, gK2, gT2, gN2, gO3, gO4, gA5, gK5, gT5, gN5, gA6, gK6, gT6, gN6, gA7, gK7, gT7, gN7, gO8, gA9, gK9, gT9, gN9, gA10, gK10, gT10, gN10, gA11, gK11, gT11, gN11, gO12, gA13, gK13, gT13, gN13, gO14, gA15, gK15, gT15, gN15, gO16, gO29, gO42, gA43, gK43, gT43, gN43, gA44, gK44, gT44, gN44, gO45, gA46, gK46, gT46, gN46, gO47, gA48, gK48, gT48, gN48, gO49, gA50, gK50, gT50, gN50, gA51, gK51, gT51, gN51, gA52, gK52, gT52, gN52, gA53, gK53, gT53, gN53, gA54, gK54, gT54, gN54, gA215, gK215, gT215, gN215, gA376, gK376, gT376, gN376, gA383, gK383, gT383, gN383, gA390, gK390, gT390, gN390, gA391, gK391, gT391, gN391, gA392, gK392, gT392, gN392, gA473, gK473, gT473, gN473, gA474, gK474, gT474, gN474, gA475, gK475, gT475, gN475, gA492, gK492, gT492, gN492, gA496, gK496, gT496, gN496, gA497, gK497, gT497, gN497, gR0_0, gR0_1, gR0_2, gR0_3, gR0_4, gR0_5, gR0_6, gR0_7, gR0_8, gR0_9, gR0_10, gR0_11, gR0_12, gR1_0, gR4_2, gR8_0, gR8_1, gR8_2, gR12_5, gR14_0, gR14_1, gR14_2, gR42_0, gR45_0, gR49_9, gR49_10, gR49_11, gR49_12, gR49_15, gR49_16, gR49_17, gR49_18, gR49_19, gR49_20, gR49_21, gR49_23, gR49_24, gR49_25, gR49_26, gR49_34, gF54, gB54, gC54, gF215, gB215, gC215, gF376, gB376, gC376, gF383, gB383, gC383, gF392, gB392, gC392, gF475, gB475, gC475, gF492, gB492, gC492, ni_le, ni_lt, ni_eq, ni_add, ni_mul, lni_le, lni_lt, nil_le, nil_lt, lni_eq, nil_eq, lni_add, nil_add, lni_mul, nil_mul, ix_ni, ix_lit, ni_ne1, ni_lt0, ↓reduceIte, Nat.reduceEqDiff, Nat.reduceMul, Nat.reduceAdd, Nat.reduceLeDiff, and_true, true_and, false_and, and_false, if_true, if_false, Nat.not_lt_zero, false_or, or_false, ft9, decide_true, o10, eq_self, b2i_0, b2i_1, b2i_ok, b2i_inj, b2i_t, b2i_f, rIwIk, c20, c4, c8, l1', l2', h1, hs, d4, hw, bw, ea]
      · have l1' := eq_false l1
        have hw : wd a b c d e (i / 4) = a := by unfold wd; rw [if_pos (by omega)]
        simp (disch := first | assumption | omega | ((repeat (first | assumption | apply G_wI | apply G_wL | apply CSh_wI | apply CSh_wL)); done) | decide) only [↓dO0, ↓dO1, ↓dA2, ↓dK2, ↓dT2, ↓dO3, ↓dO4, ↓dA5, ↓dK5, ↓dT5, ↓dA6, ↓dK6, ↓dT6, ↓dA7, ↓dK7, ↓dT7, ↓dO8, ↓dA9, ↓dK9, ↓dT9, ↓dA10, ↓dK10, ↓dT10, ↓dA11, ↓dK11, ↓dT11, ↓dO12, ↓dA13, ↓dK13, ↓dT13, ↓dO14, ↓dA15, ↓dK15, ↓dT15, ↓dO16, ↓dO29, ↓dO42, ↓dA43, ↓dK43, ↓dT43, ↓dA44, ↓dK44, ↓dT44, ↓dO45, ↓dA46, ↓dK46, ↓dT46, ↓dO47, ↓dA48, ↓dK48, ↓dT48, ↓dO49, ↓dA50, ↓dK50, ↓dT50, ↓dA51, ↓dK51, ↓dT51, ↓dA52, ↓dK52, ↓dT52, ↓dA53, ↓dK53, ↓dT53, ↓dA54, ↓dK54, ↓dT54, ↓dA215, ↓dK215, ↓dT215, ↓dA376, ↓dK376, ↓dT376, ↓dA383, ↓dK383, ↓dT383, ↓dA390, ↓dK390, ↓dT390, ↓dA391, ↓dK391, ↓dT391, ↓dA392, ↓dK392, ↓dT392, ↓dA473, ↓dK473, ↓dT473, ↓dA474, ↓dK474, ↓dT474, ↓dA475, ↓dK475, ↓dT475, ↓dA492, ↓dK492, ↓dT492, ↓dA496, ↓dK496, ↓dT496, ↓dA497, ↓dK497, ↓dT497, ↓dR0_0, ↓dR0_1, ↓dR0_2, ↓dR0_3, ↓dR0_4, ↓dR0_5, ↓dR0_6, ↓dR0_7, ↓dR0_8, ↓dR0_9, ↓dR0_10, ↓dR0_11, ↓dR0_12, ↓dR1_0, ↓dR4_2, ↓dR8_0, ↓dR8_1, ↓dR8_2, ↓dR12_5, ↓dR14_0, ↓dR14_1, ↓dR14_2, ↓dR42_0, ↓dR45_0, ↓dR49_9, ↓dR49_10, ↓dR49_11, ↓dR49_12, ↓dR49_15, ↓dR49_16, ↓dR49_17, ↓dR49_18, ↓dR49_19, ↓dR49_20, ↓dR49_21, ↓dR49_23, ↓dR49_24, ↓dR49_25, ↓dR49_26, ↓dR49_34, ↓dF54, ↓dB54, ↓dC54, ↓dF215, ↓dB215, ↓dC215, ↓dF376, ↓dB376, ↓dC376, ↓dF383, ↓dB383, ↓dC383, ↓dF392, ↓dB392, ↓dC392, ↓dF475, ↓dB475, ↓dC475, ↓dF492, ↓dB492, ↓dC492, ↓lt9_e, ↓jn_e, ↓bd_s, gd_t, bd_s, oc_s, oc_n, lt9_e, jn_e, okOwI, okAwI, okTwI, lnwI, okOwL, okAwL, okTwL, lnwL, rRwI, rRwL, sHwI, sHwL, rIwL, rLwI, gO0, gO1, gA2, gK2, gT2, gN2, gO3, gO4, gA5, gK5, gT5, gN5, gA6, gK6, gT6, gN6, gA7, gK7, gT7, gN7, gO8, gA9, gK9, gT9, gN9, gA10, gK10, gT10, gN10, gA11, gK11, gT11, gN11, gO12, gA13, gK13, gT13, gN13, gO14, gA15, gK15, gT15, gN15, gO16, gO29, gO42, gA43, gK43, gT43, gN43, gA44, gK44, gT44, gN44, gO45, gA46, gK46, gT46, gN46, gO47, gA48, gK48, gT48, gN48, gO49, gA50, gK50, gT50, gN50, gA51, gK51, gT51, gN51, gA52, gK52, gT52, gN52, gA53, gK53, gT53, gN53, gA54, gK54, gT54, gN54, gA215, gK215, gT215, gN215, gA376, gK376, gT376, gN376, gA383, gK383, gT383, gN383, gA390, gK390, gT390, gN390, gA391, gK391, gT391, gN391, gA392, gK392, gT392, gN392, gA473, gK473, gT473, gN473, gA474, gK474, gT474, gN474, gA475, gK475, gT475, gN475, gA492, gK492, gT492, gN492, gA496, gK496, gT496, gN496, gA497, gK497, gT497, gN497, gR0_0, gR0_1, gR0_2, gR0_3, gR0_4, gR0_5, gR0_6, gR0_7, gR0_8, gR0_9, gR0_10, gR0_11, gR0_12, gR1_0, gR4_2, gR8_0, gR8_1, gR8_2, gR12_5, gR14_0, gR14_1, gR14_2, gR42_0, gR45_0, gR49_9, gR49_10, gR49_11, gR49_12, gR49_15, gR49_16, gR49_17, gR49_18, gR49_19, gR49_20, gR49_21, gR49_23, gR49_24, gR49_25, gR49_26, gR49_34, gF54, gB54, gC54, gF215, gB215, gC215, gF376, gB376, gC376, gF383, gB383, gC383, gF392, gB392, gC392, gF475, gB475, gC475, gF492, gB492, gC492, ni_le, ni_lt, ni_eq, ni_add, ni_mul, lni_le, lni_lt, nil_le, nil_lt, lni_eq, nil_eq, lni_add, nil_add, lni_mul, nil_mul, ix_ni, ix_lit, ni_ne1, ni_lt0, ↓reduceIte, Nat.reduceEqDiff, Nat.reduceMul, Nat.reduceAdd, Nat.reduceLeDiff, and_true, true_and, false_and, and_false, if_true, if_false, Nat.not_lt_zero, false_or, or_false, ft9, decide_true, o10, eq_self, b2i_0, b2i_1, b2i_ok, b2i_inj, b2i_t, b2i_f, rIwIk, c20, c4, l1', h1, hs, d4, hw, bw, ea]
    · rw [y4 k hk, rIw, uf_ne hk, rIw_ne (by omega)]
    · rw [y5 k, rIw_ne (by omega), rIw, uf_ap]
      by_cases e1 : k = t + i
      · rw [if_neg (by omega), if_pos e1, if_pos (by omega), e1, show t + i - t = i by omega]
      · rw [if_neg e1]
        by_cases q : t + i ≤ k ∧ k < t + 20
        · rw [if_pos q, if_pos (by omega)]
        · rw [if_neg q, if_neg (by omega)]
theorem r_feed {y : Nat → Nat} {t : Nat} {a b c d e : Int32} {m : Mm} (g : G m) (h : RTp y t m) :
    if t + 20 ≤ 600 then ∃ m', F_X12_feed 49 a b c d e m = some (ni (t + 20), m') ∧ Fm (fun b => b = 49 ∨ b = 50) m m' ∧ (∀ k, k ≠ 0 → k ≠ 1 → rI m' 49 k = rI m 49 k) ∧ RTp (yF y t (wd a b c d e)) (t + 20) m'
    else F_X12_feed 49 a b c d e m = some (-1, wI m 49 0 0) := by
  obtain ⟨h1, h2, h3⟩ := h
  have ea : ni t + 20 = ni (t + 20) := ni_add t 20
  have er : (ni (t + 20) ≤ (600 : Int32)) = (t + 20 ≤ 600) := propext (by rw [show (600 : Int32) = ni 600 from rfl]; exact ni_le (by omega) (by omega))
  have h1' : rI (wI m 49 0 0) 49 1 = ni (t + 0) := by rw [rIw, uf_ne (by omega)]; exact h1
  by_cases q : t + 20 ≤ 600
  · rw [if_pos q]
    have q' := eq_true q
    obtain ⟨m', y1, y2, y3, y4, y5⟩ := r_feedL (K := fun v0 m => gd (okO m v0 12) (some ((rI m v0 1), m))) (a := a) (b := b) (c := c) (d := d) (e := e) q 20 0 NF (wI m 49 0 0) (by omega) (by unfold NF; omega) g h1'
    have f : Fm (fun b => b = 49 ∨ b = 50) m m' := Fm_trans (Fm_wI (Fm_refl _ _) (.inl rfl)) y2
    have g' := G_fr f g
    refine ⟨m', ?_, f, fun k k0 k1 => by rw [y4 k k1, rIw, uf_ne k0], y3, q, fun i hi => ?_⟩
    · unfold F_X12_feed
      rw [ni_0] at y1
      simp only [gO49 g', gd_t, y3] at y1
      have hm : okO (wI m 49 0 0) 49 12 = true := gO49 (G_wI g)
      have e1 : rI (wI m 49 0 0) 49 1 = ni t := h1'
      simp only [gO49 g, hm, gd_t, lt9_e, e1, ea, er, q', if_true]
      exact y1
    · rw [y5 i, rIw_ne (by omega)]
      unfold yF
      by_cases l : i < t
      · rw [if_pos l, if_neg (by omega)]
        exact h3 i l
      · rw [if_neg l, if_pos (by omega)]
        exact ⟨byN_lt _ _, rfl⟩
  · rw [if_neg q]
    have q' := eq_false q
    have hm : okO (wI m 49 0 0) 49 12 = true := gO49 (G_wI g)
    have e1 : rI (wI m 49 0 0) 49 1 = ni t := h1'
    unfold F_X12_feed
    simp only [gO49 g, hm, gd_t, lt9_e, e1, ea, er, q', if_false]
