/-! L2: numbers written. -/
theorem ni_toI {a : Nat} (ha : a < 2147483648) : (ni a).toInt = (a : Int) := Int32.toInt_ofNat_of_lt (by omega)
theorem ni_dv {a b : Nat} (ha : a < 2147483648) (hb : b < 2147483648) (hb0 : 0 < b) : ni a / ni b = ni (a / b) := by
  apply Int32.toInt_inj.mp
  have h1 := Nat.div_le_self a b
  rw [Int32.toInt_div, ni_toI ha, ni_toI hb, ni_toI (by omega), ← Int.ofNat_tdiv]
  generalize a / b = q at h1 ⊢
  apply Int.bmod_eq_of_le <;> omega
theorem ni_ml {a b : Nat} : ni a * ni b = ni (a * b) := (Int32.ofNat_mul a b).symm
def kd (v : Nat) : Nat := if v < 10 then 0 else if v < 100 then 1 else if v < 1000 then 2 else if v < 10000 then 3 else if v < 100000 then 4 else 5
theorem kd_p {v : Nat} (hv : v < 1000000) : v < 10 ^ (kd v + 1) ∧ (kd v = 0 ∨ 10 ^ kd v ≤ v) ∧ kd v ≤ 5 := by
  have key : ∀ k, k ≤ 5 → kd v = k → v < 10 ^ (k + 1) → (k = 0 ∨ 10 ^ k ≤ v) → v < 10 ^ (kd v + 1) ∧ (kd v = 0 ∨ 10 ^ kd v ≤ v) ∧ kd v ≤ 5 := by
    intro k h1 h2 h3 h4
    rw [h2]
    exact ⟨h3, h4, h1⟩
  by_cases h1 : v < 10
  · exact key 0 (by omega) (by unfold kd; rw [if_pos h1]) h1 (.inl rfl)
  · by_cases h2 : v < 100
    · exact key 1 (by omega) (by unfold kd; rw [if_neg h1, if_pos h2]) h2 (.inr (show 10 ≤ v by omega))
    · by_cases h3 : v < 1000
      · exact key 2 (by omega) (by unfold kd; rw [if_neg h1, if_neg h2, if_pos h3]) h3 (.inr (show 100 ≤ v by omega))
      · by_cases h4 : v < 10000
        · exact key 3 (by omega) (by unfold kd; rw [if_neg h1, if_neg h2, if_neg h3, if_pos h4]) h4 (.inr (show 1000 ≤ v by omega))
        · by_cases h5 : v < 100000
          · exact key 4 (by omega) (by unfold kd; rw [if_neg h1, if_neg h2, if_neg h3, if_neg h4, if_pos h5]) h5 (.inr (show 10000 ≤ v by omega))
          · exact key 5 (by omega) (by unfold kd; rw [if_neg h1, if_neg h2, if_neg h3, if_neg h4, if_neg h5]) hv (.inr (show 100000 ≤ v by omega))
theorem p10 : ∀ j, j ≤ 6 → 10 ^ j ≤ 1000000 ∧ 0 < 10 ^ j := by decide
def dl (v : Nat) : Nat → List Nat
  | 0 => [48 + v % 10]
  | k + 1 => (48 + v / 10 ^ (k + 1) % 10) :: dl v k
def dgs (v : Nat) : List Nat := dl v (kd v)
theorem dl_len (v : Nat) : ∀ k, (dl v k).length = k + 1 := by
  intro k
  induction k with
  | zero => rfl
  | succ k ih => rw [dl, List.length_cons, ih]
/-- class: chars laid -/
def NC4 (l : List Nat) (m : Mm) : Prop := rI m 45 1 = ni l.length ∧ ∀ i, i < l.length → rI m 46 i = ni (l.getD i 0)
def NR4 (l : List Nat) (m : Mm) : Prop := rI m 49 35 = ni l.length ∧ ∀ i, i < l.length → rI m 496 i = ni (l.getD i 0)
theorem getD_n (l : List Nat) (v i : Nat) : (l ++ [v]).getD i 0 = if i = l.length then v else l.getD i 0 := cd_s l v i
theorem nar_c2 : ∀ k, k < 128 → vp_nar .char (ni k) = ni k := by decide +kernel
theorem c_put4 {l : List Nat} {k : Nat} {m : Mm} (g : G m) (h : NC4 l m) (hl : l.length < 60) (hk : k < 128) : ∃ m', F_X4_put 45 (ni k) m = some ((), m') ∧ NC4 (l ++ [k]) m' ∧ Fm (fun b => b = 45 ∨ b = 46) m m' := by
  obtain ⟨h1, h2⟩ := h
  refine ⟨wI (wI m 46 l.length (ni k)) 45 1 (ni (l.length + 1)), ?_, ⟨by rw [rIw, uf_at, len_n], fun i hi => ?_⟩, Fm_wI (Fm_wI (Fm_refl _ _) (.inr rfl)) (.inl rfl)⟩
  · unfold F_X4_put
    have e : (ni 64 ≤ ni l.length) = False := eq_false (fun z => by rw [ni_le (by omega) (by omega)] at z; omega)
    have hl64 : l.length < 64 := by omega
    have ea : ni l.length + 1 = ni (l.length + 1) := ni_add _ 1
    simp (disch := first | assumption | omega | ((repeat (first | assumption | apply G_wI | apply G_wL | apply CSh_wI | apply CSh_wL)); done) | decide) only [↓dO0, ↓dO1, ↓dA2, ↓dK2, ↓dT2, ↓dO3, ↓dO4, ↓dA5, ↓dK5, ↓dT5, ↓dA6, ↓dK6, ↓dT6, ↓dA7, ↓dK7, ↓dT7, ↓dO8, ↓dA9, ↓dK9, ↓dT9, ↓dA10, ↓dK10, ↓dT10, ↓dA11, ↓dK11, ↓dT11, ↓dO12, ↓dA13, ↓dK13, ↓dT13, ↓dO14, ↓dA15, ↓dK15, ↓dT15, ↓dO16, ↓dO29, ↓dO42, ↓dA43, ↓dK43, ↓dT43, ↓dA44, ↓dK44, ↓dT44, ↓dO45, ↓dA46, ↓dK46, ↓dT46, ↓dO47, ↓dA48, ↓dK48, ↓dT48, ↓dO49, ↓dA50, ↓dK50, ↓dT50, ↓dA51, ↓dK51, ↓dT51, ↓dA52, ↓dK52, ↓dT52, ↓dA53, ↓dK53, ↓dT53, ↓dA54, ↓dK54, ↓dT54, ↓dA215, ↓dK215, ↓dT215, ↓dA376, ↓dK376, ↓dT376, ↓dA383, ↓dK383, ↓dT383, ↓dA390, ↓dK390, ↓dT390, ↓dA391, ↓dK391, ↓dT391, ↓dA392, ↓dK392, ↓dT392, ↓dA473, ↓dK473, ↓dT473, ↓dA474, ↓dK474, ↓dT474, ↓dA475, ↓dK475, ↓dT475, ↓dA492, ↓dK492, ↓dT492, ↓dA496, ↓dK496, ↓dT496, ↓dA497, ↓dK497, ↓dT497, ↓dR0_0, ↓dR0_1, ↓dR0_2, ↓dR0_3, ↓dR0_4, ↓dR0_5, ↓dR0_6, ↓dR0_7, ↓dR0_8, ↓dR0_9, ↓dR0_10, ↓dR0_11, ↓dR0_12, ↓dR1_0, ↓dR4_2, ↓dR8_0, ↓dR8_1, ↓dR8_2, ↓dR12_5, ↓dR14_0, ↓dR14_1, ↓dR14_2, ↓dR42_0, ↓dR45_0, ↓dR49_9, ↓dR49_10, ↓dR49_11, ↓dR49_12, ↓dR49_15, ↓dR49_16, ↓dR49_17, ↓dR49_18, ↓dR49_19, ↓dR49_20, ↓dR49_21, ↓dR49_23, ↓dR49_24, ↓dR49_25, ↓dR49_26, ↓dR49_34, ↓dF54, ↓dB54, ↓dC54, ↓dF215, ↓dB215, ↓dC215, ↓dF376, ↓dB376, ↓dC376, ↓dF383, ↓dB383, ↓dC383, ↓dF392, ↓dB392, ↓dC392, ↓dF475, ↓dB475, ↓dC475, ↓dF492, ↓dB492, ↓dC492, ↓lt9_e, ↓jn_e, ↓bd_s, gd_t, bd_s, oc_s, oc_n, lt9_e, jn_e, okOwI, okAwI, okTwI, lnwI, okOwL, okAwL, okTwL, lnwL, rRwI, rRwL, sHwI, sHwL, rIwL, rLwI, gO0, gO1, gA2, gK2, gT2, gN2, gO3, gO4, gA5, gK5, gT5, gN5, gA6, gK6, gT6, gN6, gA7, gK7, gT7, gN7, gO8, gA9, gK9, gT9, gN9, gA10, gK10, gT10, gN10, gA11, gK11, gT11, gN11, gO12, gA13, gK13, gT13, gN13, gO14, gA15, gK15, gT15, gN15, gO16, gO29, gO42, gA43, gK43, gT43, gN43, gA44, gK44, gT44, gN44, gO45, gA46, gK46, gT46, gN46, gO47, gA48, gK48, gT48, gN48, gO49, gA50, gK50, gT50, gN50, gA51, gK51, gT51, gN51, gA52, gK52, gT52, gN52, gA53, gK53, gT53, gN53, gA54, gK54, gT54, gN54, gA215, gK215, gT215, gN215, gA376, gK376, gT376, gN376, gA383, gK383, gT383, gN383, gA390, gK390, gT390, gN390, gA391, gK391, gT391, gN391, gA392, gK392, gT392, gN392, gA473, gK473, gT473, gN473, gA474, gK474, gT474, gN474, gA475, gK475, gT475, gN475, gA492, gK492, gT492, gN492, gA496, gK496, gT496, gN496, gA497, gK497, gT497, gN497, gR0_0, gR0_1, gR0_2, gR0_3, gR0_4, gR0_5, gR0_6, gR0_7, gR0_8, gR0_9, gR0_10, gR0_11, gR0_12, gR1_0, gR4_2, gR8_0, gR8_1, gR8_2, gR12_5, gR14_0, gR14_1, gR14_2, gR42_0, gR45_0, gR49_9, gR49_10, gR49_11, gR49_12, gR49_15, gR49_16, gR49_17, gR49_18, gR49_19, gR49_20, gR49_21, gR49_23, gR49_24, gR49_25, gR49_26, gR49_34, gF54, gB54, gC54, gF215, gB215, gC215, gF376, gB376, gC376, gF383, gB383, gC383, gF392, gB392, gC392, gF475, gB475, gC475, gF492, gB492, gC492, ni_le, ni_lt, ni_eq, ni_add, ni_mul, lni_le, lni_lt, nil_le, nil_lt, lni_eq, nil_eq, lni_add, nil_add, lni_mul, nil_mul, ix_ni, ix_lit, ni_ne1, ni_lt0, ↓reduceIte, Nat.reduceEqDiff, Nat.reduceMul, Nat.reduceAdd, Nat.reduceLeDiff, and_true, true_and, false_and, and_false, if_true, if_false, Nat.not_lt_zero, false_or, or_false, ft9, decide_true, o10, eq_self, b2i_0, b2i_1, b2i_ok, b2i_inj, b2i_t, b2i_f, rIwIk, h1, gN46 g, e, nar_c2 k hk, ea]
  · rw [len_n] at hi
    rw [rIw_ne (by omega), rIw, uf_ap, getD_n]
    by_cases e : i = l.length
    · rw [if_pos e, if_pos e]
    · rw [if_neg e, if_neg e]
      exact h2 i (by omega)
theorem r_put4 {l : List Nat} {k : Nat} {m : Mm} (g : G m) (h : NR4 l m) (hl : l.length < 60) : ∃ m', F_X12_notesSign 49 (ni k) m = some ((), m') ∧ NR4 (l ++ [k]) m' ∧ Fm (fun b => b = 49 ∨ b = 496) m m' ∧ (∀ j, j ≠ 35 → rI m' 49 j = rI m 49 j) := by
  obtain ⟨h1, h2⟩ := h
  refine ⟨wI (wI m 496 l.length (ni k)) 49 35 (ni (l.length + 1)), ?_, ⟨by rw [rIw, uf_at, len_n], fun i hi => ?_⟩, Fm_wI (Fm_wI (Fm_refl _ _) (.inr rfl)) (.inl rfl), fun j hj => by rw [rIw, uf_ne hj, rIw_ne (by omega)]⟩
  · unfold F_X12_notesSign
    have ea : ni l.length + 1 = ni (l.length + 1) := ni_add _ 1
    simp (disch := first | assumption | omega | ((repeat (first | assumption | apply G_wI | apply G_wL | apply CSh_wI | apply CSh_wL)); done) | decide) only [↓dO0, ↓dO1, ↓dA2, ↓dK2, ↓dT2, ↓dO3, ↓dO4, ↓dA5, ↓dK5, ↓dT5, ↓dA6, ↓dK6, ↓dT6, ↓dA7, ↓dK7, ↓dT7, ↓dO8, ↓dA9, ↓dK9, ↓dT9, ↓dA10, ↓dK10, ↓dT10, ↓dA11, ↓dK11, ↓dT11, ↓dO12, ↓dA13, ↓dK13, ↓dT13, ↓dO14, ↓dA15, ↓dK15, ↓dT15, ↓dO16, ↓dO29, ↓dO42, ↓dA43, ↓dK43, ↓dT43, ↓dA44, ↓dK44, ↓dT44, ↓dO45, ↓dA46, ↓dK46, ↓dT46, ↓dO47, ↓dA48, ↓dK48, ↓dT48, ↓dO49, ↓dA50, ↓dK50, ↓dT50, ↓dA51, ↓dK51, ↓dT51, ↓dA52, ↓dK52, ↓dT52, ↓dA53, ↓dK53, ↓dT53, ↓dA54, ↓dK54, ↓dT54, ↓dA215, ↓dK215, ↓dT215, ↓dA376, ↓dK376, ↓dT376, ↓dA383, ↓dK383, ↓dT383, ↓dA390, ↓dK390, ↓dT390, ↓dA391, ↓dK391, ↓dT391, ↓dA392, ↓dK392, ↓dT392, ↓dA473, ↓dK473, ↓dT473, ↓dA474, ↓dK474, ↓dT474, ↓dA475, ↓dK475, ↓dT475, ↓dA492, ↓dK492, ↓dT492, ↓dA496, ↓dK496, ↓dT496, ↓dA497, ↓dK497, ↓dT497, ↓dR0_0, ↓dR0_1, ↓dR0_2, ↓dR0_3, ↓dR0_4, ↓dR0_5, ↓dR0_6, ↓dR0_7, ↓dR0_8, ↓dR0_9, ↓dR0_10, ↓dR0_11, ↓dR0_12, ↓dR1_0, ↓dR4_2, ↓dR8_0, ↓dR8_1, ↓dR8_2, ↓dR12_5, ↓dR14_0, ↓dR14_1, ↓dR14_2, ↓dR42_0, ↓dR45_0, ↓dR49_9, ↓dR49_10, ↓dR49_11, ↓dR49_12, ↓dR49_15, ↓dR49_16, ↓dR49_17, ↓dR49_18, ↓dR49_19, ↓dR49_20, ↓dR49_21, ↓dR49_23, ↓dR49_24, ↓dR49_25, ↓dR49_26, ↓dR49_34, ↓dF54, ↓dB54, ↓dC54, ↓dF215, ↓dB215, ↓dC215, ↓dF376, ↓dB376, ↓dC376, ↓dF383, ↓dB383, ↓dC383, ↓dF392, ↓dB392, ↓dC392, ↓dF475, ↓dB475, ↓dC475, ↓dF492, ↓dB492, ↓dC492, ↓lt9_e, ↓jn_e, ↓bd_s, gd_t, bd_s, oc_s, oc_n, lt9_e, jn_e, okOwI, okAwI, okTwI, lnwI, okOwL, okAwL, okTwL, lnwL, rRwI, rRwL, sHwI, sHwL, rIwL, rLwI, gO0, gO1, gA2, gK2, gT2, gN2, gO3, gO4, gA5, gK5, gT5, gN5, gA6, gK6, gT6, gN6, gA7, gK7, gT7, gN7, gO8, gA9, gK9, gT9, gN9, gA10, gK10, gT10, gN10, gA11, gK11, gT11, gN11, gO12, gA13, gK13, gT13, gN13, gO14, gA15, gK15, gT15, gN15, gO16, gO29, gO42, gA43, gK43, gT43, gN43, gA44, gK44, gT44, gN44, gO45, gA46, gK46, gT46, gN46, gO47, gA48, gK48, gT48, gN48, gO49, gA50, gK50, gT50, gN50, gA51, gK51, gT51, gN51, gA52, gK52, gT52, gN52, gA53, gK53, gT53, gN53, gA54, gK54, gT54, gN54, gA215, gK215, gT215, gN215, gA376, gK376, gT376, gN376, gA383, gK383, gT383, gN383, gA390, gK390, gT390, gN390, gA391, gK391, gT391, gN391, gA392, gK392, gT392, gN392, gA473, gK473, gT473, gN473, gA474, gK474, gT474, gN474, gA475, gK475, gT475, gN475, gA492, gK492, gT492, gN492, gA496, gK496, gT496, gN496, gA497, gK497, gT497, gN497, gR0_0, gR0_1, gR0_2, gR0_3, gR0_4, gR0_5, gR0_6, gR0_7, gR0_8, gR0_9, gR0_10, gR0_11, gR0_12, gR1_0, gR4_2, gR8_0, gR8_1, gR8_2, gR12_5, gR14_0, gR14_1, gR14_2, gR42_0, gR45_0, gR49_9, gR49_10, gR49_11, gR49_12, gR49_15, gR49_16, gR49_17, gR49_18, gR49_19, gR49_20, gR49_21, gR49_23, gR49_24, gR49_25, gR49_26, gR49_34, gF54, gB54, gC54, gF215, gB215, gC215, gF376, gB376, gC376, gF383, gB383, gC383, gF392, gB392, gC392, gF475, gB475, gC475, gF492, gB492, gC492, ni_le, ni_lt, ni_eq, ni_add, ni_mul, lni_le, lni_lt, nil_le, nil_lt, lni_eq, nil_eq, lni_add, nil_add, lni_mul, nil_mul, ix_ni, ix_lit, ni_ne1, ni_lt0, ↓reduceIte, Nat.reduceEqDiff, Nat.reduceMul, Nat.reduceAdd, Nat.reduceLeDiff, and_true, true_and, false_and, and_false, if_true, if_false, Nat.not_lt_zero, false_or, or_false, ft9, decide_true, o10, eq_self, b2i_0, b2i_1, b2i_ok, b2i_inj, b2i_t, b2i_f, rIwIk, h1, ea]
  · rw [len_n] at hi
    rw [rIw_ne (by omega), rIw, uf_ap, getD_n]
    by_cases e : i = l.length
    · rw [if_pos e, if_pos e]
    · rw [if_neg e, if_neg e]
      exact h2 i (by omega)
/-- one digit -/
theorem dig_ni {v q : Nat} (hv : v < 1000000) (hq : 0 < q) (hq2 : q ≤ 1000000) : (48 : Int32) + ((ni v / ni q) - (ni v / ni q) / (10 : Int32) * (10 : Int32)) = ni (48 + v / q % 10) := by
  have h1 := Nat.div_le_self v q
  rw [ni_dv (by omega) (by omega) hq, show (10 : Int32) = ni 10 from rfl, ni_dv (by omega) (by omega) (by omega), ni_mul, ni_sub (by omega), show (48 : Int32) = ni 48 from rfl, ni_add]
  congr 1
  omega
theorem nc32 : ∀ k, k < 128 → ((ni k).toUInt32 % 65536).toInt32 = ni k := by decide +kernel
theorem q_pos {q : Nat} (hq : 0 < q) (hq2 : q ≤ 1000000) : ¬ ni q ≤ 0 ∧ ¬ ni q = 0 := by
  constructor
  · rw [show (0 : Int32) = ni 0 from rfl, ni_le (by omega) (by omega)]
    omega
  · rw [show (0 : Int32) = ni 0 from rfl, ni_eq (by omega) (by omega)]
    omega
theorem c_dig1 {v q i fuel : Nat} {l : List Nat} {m : Mm} (hv : v < 1000000) (hq : 0 < q) (hq2 : q ≤ 1000000) (hi : i < 10) (g : G m) (h : NC4 l m) (hl : l.length < 60) :
    ∃ m1, L_X4_putNumber_26 (fuel + 1) 45 (ni v) (ni q) (ni i) m = L_X4_putNumber_26 fuel 45 (ni v) (ni (q / 10)) (ni (i + 1)) m1 ∧ NC4 (l ++ [48 + v / q % 10]) m1 ∧ Fm (fun b => b = 45 ∨ b = 46) m m1 := by
  obtain ⟨m1, x1, x2, x3⟩ := c_put4 (k := 48 + v / q % 10) g h hl (by omega)
  obtain ⟨q1, q2⟩ := q_pos hq hq2
  refine ⟨m1, ?_, x2, x3⟩
  have e : ¬ (10 : Int32) ≤ ni i := fun z => by
    rw [show (10 : Int32) = ni 10 from rfl, ni_le (by omega) (by omega)] at z
    omega
  have d10 : decide (¬ (10 : Int32) = 0) = true := by decide
  rw [L_X4_putNumber_26, if_neg e, if_neg q1, decide_eq_true q2, gd_t, d10, gd_t, gO45 g, gd_t, dig_ni hv hq hq2, nc32 _ (by omega), bdE x1]
  rw [gd_t, lt9_e, lt9_e, show (10 : Int32) = ni 10 from rfl, ni_dv (by omega) (by omega) (by omega), show ni i + 1 = ni (i + 1) from ni_add _ 1]
theorem c_digL {v : Nat} (hv : v < 1000000) : ∀ (k i fuel : Nat) (l : List Nat) (m : Mm), k ≤ 5 → i + k ≤ 8 → k + 1 < fuel → G m → NC4 l m → l.length + k < 60 →
    ∃ m', L_X4_putNumber_26 fuel 45 (ni v) (ni (10 ^ k)) (ni i) m = some ((), m') ∧ NC4 (l ++ dl v k) m' ∧ Fm (fun b => b = 45 ∨ b = 46) m m' := by
  intro k
  induction k with
  | zero =>
    intro i fuel l m hk hi hf g h hl
    obtain ⟨fuel, rfl⟩ : ∃ z, fuel = z + 1 := ⟨fuel - 1, by omega⟩
    obtain ⟨fuel, rfl⟩ : ∃ z, fuel = z + 1 := ⟨fuel - 1, by omega⟩
    obtain ⟨m1, x1, x2, x3⟩ := c_dig1 (q := 1) (i := i) (fuel := fuel + 1) hv (by omega) (by omega) (by omega) g h (by omega)
    refine ⟨m1, ?_, ?_, x3⟩
    · have e : ¬ (10 : Int32) ≤ ni (i + 1) := fun z => by
        rw [show (10 : Int32) = ni 10 from rfl, ni_le (by omega) (by omega)] at z
        omega
      refine x1.trans ?_
      rw [L_X4_putNumber_26, if_neg e, if_pos (show ni (1 / 10) ≤ 0 by decide)]
    · rw [Nat.div_one] at x2
      exact x2
  | succ k ih =>
    intro i fuel l m hk hi hf g h hl
    obtain ⟨fuel, rfl⟩ : ∃ z, fuel = z + 1 := ⟨fuel - 1, by omega⟩
    have hp := p10 (k + 1) (by omega)
    obtain ⟨m1, x1, x2, x3⟩ := c_dig1 (q := 10 ^ (k + 1)) (i := i) (fuel := fuel) hv hp.2 hp.1 (by omega) g h (by omega)
    obtain ⟨m', y1, y2, y3⟩ := ih (i + 1) fuel _ m1 (by omega) (by omega) (by omega) (G_fr x3 g) x2 (by rw [len_n]; omega)
    refine ⟨m', ?_, ?_, Fm_trans x3 y3⟩
    · rw [x1, show 10 ^ (k + 1) / 10 = 10 ^ k from by rw [Nat.pow_succ]; exact Nat.mul_div_cancel _ (by omega)]
      exact y1
    · rw [List.append_assoc] at y2
      exact y2
theorem c_pwL {v : Nat} {K : Nat → Int32 → Int32 → Mm → Option (Unit × Mm)} {m : Mm} (hv : v < 1000000) : ∀ (d j fuel : Nat), j + d = kd v → d < fuel → L_X4_putNumber_7 K fuel 45 (ni v) (ni (10 ^ j)) (ni (v / 10 ^ (j + 1))) m = K 45 (ni v) (ni (10 ^ kd v)) m := by
  obtain ⟨k1, k2, k3⟩ := kd_p hv
  intro d
  induction d with
  | zero =>
    intro j fuel hj hf
    obtain ⟨fuel, rfl⟩ : ∃ z, fuel = z + 1 := ⟨fuel - 1, by omega⟩
    have e : j = kd v := by omega
    subst e
    have e0 : v / 10 ^ (kd v + 1) = 0 := Nat.div_eq_of_lt k1
    rw [L_X4_putNumber_7, e0, if_pos (show ni 0 ≤ 0 by decide)]
  | succ d ih =>
    intro j fuel hj hf
    obtain ⟨fuel, rfl⟩ : ∃ z, fuel = z + 1 := ⟨fuel - 1, by omega⟩
    have hk : 10 ^ kd v ≤ v := by
      rcases k2 with z | z
      · omega
      · exact z
    have hj1 : 10 ^ (j + 1) ≤ v := Nat.le_trans (Nat.pow_le_pow_right (by omega) (by omega)) hk
    have hpos : 0 < v / 10 ^ (j + 1) := Nat.div_pos hj1 (p10 (j + 1) (by omega)).2
    have hle := Nat.div_le_self v (10 ^ (j + 1))
    obtain ⟨q1, q2⟩ := q_pos hpos (by omega)
    have d10 : decide (¬ (10 : Int32) = 0) = true := by decide
    have hp := p10 j (by omega)
    rw [L_X4_putNumber_7, if_neg q1, lt9_e, d10, gd_t, lt9_e, ← ih (j + 1) fuel (by omega) (by omega)]
    rw [show (10 : Int32) = ni 10 from rfl, ni_dv (by omega) (by omega) (by omega), ni_mul, Nat.div_div_eq_div_mul, ← Nat.pow_succ, ← Nat.pow_succ]
theorem c_number4 {v : Nat} {l : List Nat} {m : Mm} (hv : v < 1000000) (g : G m) (h : NC4 l m) (hl : l.length < 54) :
    ∃ m', F_X4_putNumber 45 (ni v) m = some ((), m') ∧ NC4 (l ++ dgs v) m' ∧ Fm (fun b => b = 45 ∨ b = 46) m m' := by
  obtain ⟨k1, k2, k3⟩ := kd_p hv
  obtain ⟨m', y1, y2, y3⟩ := c_digL hv (kd v) 0 NF l m k3 (by omega) (by unfold NF; omega) g h (by omega)
  refine ⟨m', ?_, y2, y3⟩
  unfold F_X4_putNumber
  have z := c_pwL (K := fun v0 v1 v2 m => L_X4_putNumber_26 NF v0 v1 v2 0 m) (m := m) hv (kd v) 0 NF (by omega) (by unfold NF; omega)
  have d10 : decide (¬ (10 : Int32) = 0) = true := by decide
  rw [ni_0] at y1
  rw [lt9_e, d10, gd_t, lt9_e, show (10 : Int32) = ni 10 from rfl, ni_dv (by omega) (by omega) (by omega)]
  exact z.trans y1
/-! the reference's -/
def Nr4 (m m' : Mm) : Prop := Fm (fun b => b = 49 ∨ b = 496) m m' ∧ (∀ j, j ≠ 35 → rI m' 49 j = rI m 49 j)
theorem Nr4_trans {m m1 m2 : Mm} (h : Nr4 m m1) (h' : Nr4 m1 m2) : Nr4 m m2 := ⟨Fm_trans h.1 h'.1, fun j hj => (h'.2 j hj).trans (h.2 j hj)⟩
theorem r_dig1 {v q fuel : Nat} {l : List Nat} {m : Mm} (hv : v < 1000000) (hq : 0 < q) (hq2 : q ≤ 1000000) (g : G m) (h : NR4 l m) (hl : l.length < 60) :
    ∃ m1, L_X12_notesNumber_20 (fuel + 1) 49 (ni v) (ni q) m = L_X12_notesNumber_20 fuel 49 (ni v) (ni (q / 10)) m1 ∧ NR4 (l ++ [48 + v / q % 10]) m1 ∧ Nr4 m m1 := by
  obtain ⟨m1, x1, x2, x3, x4⟩ := r_put4 (k := 48 + v / q % 10) g h hl
  obtain ⟨q1, q2⟩ := q_pos hq hq2
  refine ⟨m1, ?_, x2, x3, x4⟩
  have d10 : decide (¬ (10 : Int32) = 0) = true := by decide
  rw [L_X12_notesNumber_20, if_neg q1, decide_eq_true q2, gd_t, d10, gd_t, gO49 g, gd_t, dig_ni hv hq hq2, bdE x1]
  rw [gd_t, lt9_e, show (10 : Int32) = ni 10 from rfl, ni_dv (by omega) (by omega) (by omega)]
theorem r_digL {v : Nat} (hv : v < 1000000) : ∀ (k fuel : Nat) (l : List Nat) (m : Mm), k ≤ 5 → k + 1 < fuel → G m → NR4 l m → l.length + k < 60 →
    ∃ m', L_X12_notesNumber_20 fuel 49 (ni v) (ni (10 ^ k)) m = some ((), m') ∧ NR4 (l ++ dl v k) m' ∧ Nr4 m m' := by
  intro k
  induction k with
  | zero =>
    intro fuel l m hk hf g h hl
    obtain ⟨fuel, rfl⟩ : ∃ z, fuel = z + 1 := ⟨fuel - 1, by omega⟩
    obtain ⟨fuel, rfl⟩ : ∃ z, fuel = z + 1 := ⟨fuel - 1, by omega⟩
    obtain ⟨m1, x1, x2, x3⟩ := r_dig1 (q := 1) (fuel := fuel + 1) hv (by omega) (by omega) g h (by omega)
    refine ⟨m1, ?_, ?_, x3⟩
    · refine x1.trans ?_
      rw [L_X12_notesNumber_20, if_pos (show ni (1 / 10) ≤ 0 by decide)]
    · rw [Nat.div_one] at x2
      exact x2
  | succ k ih =>
    intro fuel l m hk hf g h hl
    obtain ⟨fuel, rfl⟩ : ∃ z, fuel = z + 1 := ⟨fuel - 1, by omega⟩
    have hp := p10 (k + 1) (by omega)
    obtain ⟨m1, x1, x2, x3⟩ := r_dig1 (q := 10 ^ (k + 1)) (fuel := fuel) hv hp.2 hp.1 g h (by omega)
    obtain ⟨m', y1, y2, y3⟩ := ih fuel _ m1 (by omega) (by omega) (G_fr x3.1 g) x2 (by rw [len_n]; omega)
    refine ⟨m', ?_, ?_, Nr4_trans x3 y3⟩
    · rw [x1, show 10 ^ (k + 1) / 10 = 10 ^ k from by rw [Nat.pow_succ]; exact Nat.mul_div_cancel _ (by omega)]
      exact y1
    · rw [List.append_assoc] at y2
      exact y2
theorem r_pwL {v : Nat} {K : Nat → Int32 → Int32 → Mm → Option (Unit × Mm)} {m : Mm} (hv : v < 1000000) : ∀ (d j fuel : Nat), j + d = kd v → d < fuel → L_X12_notesNumber_2 K fuel 49 (ni v) (ni (10 ^ j)) m = K 49 (ni v) (ni (10 ^ kd v)) m := by
  obtain ⟨k1, k2, k3⟩ := kd_p hv
  intro d
  induction d with
  | zero =>
    intro j fuel hj hf
    obtain ⟨fuel, rfl⟩ : ∃ z, fuel = z + 1 := ⟨fuel - 1, by omega⟩
    have e : j = kd v := by omega
    subst e
    have hp := p10 (kd v) (by omega)
    have hlt : v / 10 ^ kd v < 10 := by
      rw [Nat.div_lt_iff_lt_mul hp.2, Nat.mul_comm, ← Nat.pow_succ]
      exact k1
    have e1 : ni v / ni (10 ^ kd v) < (10 : Int32) := by
      rw [ni_dv (by omega) (by omega) hp.2, show (10 : Int32) = ni 10 from rfl, ni_lt (by omega) (by omega)]
      exact hlt
    rw [L_X12_notesNumber_2, decide_eq_true (q_pos hp.2 hp.1).2, gd_t, if_pos e1]
  | succ d ih =>
    intro j fuel hj hf
    obtain ⟨fuel, rfl⟩ : ∃ z, fuel = z + 1 := ⟨fuel - 1, by omega⟩
    have hk : 10 ^ kd v ≤ v := by
      rcases k2 with z | z
      · omega
      · exact z
    have hj1 : 10 ^ (j + 1) ≤ v := Nat.le_trans (Nat.pow_le_pow_right (by omega) (by omega)) hk
    have hp := p10 j (by omega)
    have hle := Nat.div_le_self v (10 ^ j)
    have hge : 10 ≤ v / 10 ^ j := by
      rw [Nat.le_div_iff_mul_le hp.2, Nat.mul_comm, ← Nat.pow_succ]
      exact hj1
    have e1 : ¬ ni v / ni (10 ^ j) < (10 : Int32) := by
      rw [ni_dv (by omega) (by omega) hp.2, show (10 : Int32) = ni 10 from rfl, ni_lt (by omega) (by omega)]
      omega
    rw [L_X12_notesNumber_2, decide_eq_true (q_pos hp.2 hp.1).2, gd_t, if_neg e1, lt9_e, ← ih (j + 1) fuel (by omega) (by omega)]
    rw [show (10 : Int32) = ni 10 from rfl, ni_mul, ← Nat.pow_succ]
theorem r_number4 {v : Nat} {l : List Nat} {m : Mm} (hv : v < 1000000) (g : G m) (h : NR4 l m) (hl : l.length < 54) :
    ∃ m', F_X12_notesNumber 49 (ni v) m = some ((), m') ∧ NR4 (l ++ dgs v) m' ∧ Nr4 m m' := by
  obtain ⟨k1, k2, k3⟩ := kd_p hv
  obtain ⟨m', y1, y2, y3⟩ := r_digL hv (kd v) NF l m k3 (by unfold NF; omega) g h (by omega)
  refine ⟨m', ?_, y2, y3⟩
  unfold F_X12_notesNumber
  have z := r_pwL (K := fun v0 v1 v2 m => L_X12_notesNumber_20 NF v0 v1 v2 m) (m := m) hv (kd v) 0 NF (by omega) (by unfold NF; omega)
  rw [lt9_e]
  exact z.trans y1
