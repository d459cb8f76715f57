/-! L2: the reference's words. -/
def wl (f : Nat → Nat) : Nat → Nat
  | 0 => 0
  | r + 1 => 27 * wl f r + (f r - 96)
theorem wl_inj : ∀ (r s : Nat) (f g : Nat → Nat), (∀ i, i < r → 97 ≤ f i ∧ f i ≤ 122) → (∀ i, i < s → 97 ≤ g i ∧ g i ≤ 122) → wl f r = wl g s → r = s ∧ ∀ i, i < r → f i = g i := by
  intro r
  induction r with
  | zero =>
    intro s f g _ hg h
    cases s with
    | zero => exact ⟨rfl, fun i hi => by omega⟩
    | succ s =>
      have := hg s (by omega)
      rw [wl, wl] at h
      omega
  | succ r ih =>
    intro s f g hf hg h
    cases s with
    | zero =>
      have := hf r (by omega)
      rw [wl, wl] at h
      omega
    | succ s =>
      have h1 := hf r (by omega)
      have h2 := hg s (by omega)
      rw [wl, wl] at h
      obtain ⟨e1, e2⟩ := ih s f g (fun i hi => hf i (by omega)) (fun i hi => hg i (by omega)) (by omega)
      subst e1
      refine ⟨rfl, fun i hi => ?_⟩
      by_cases q : i = r
      · rw [q]
        omega
      · exact e2 i (by omega)
theorem wl_lt (f : Nat → Nat) : ∀ r, (∀ i, i < r → f i ≤ 122) → wl f r < 27 ^ r := by
  intro r
  induction r with
  | zero =>
    intro _
    rw [wl]
    omega
  | succ r ih =>
    intro h
    have h1 := ih (fun i hi => h i (by omega))
    have h2 := h r (by omega)
    rw [wl, Nat.pow_succ]
    omega
theorem wl_6 {f : Nat → Nat} {r : Nat} (hr : r ≤ 6) (h : ∀ i, i < r → f i ≤ 122) : wl f r < 387420489 := by
  have h1 := wl_lt f r h
  have h2 : 27 ^ r ≤ 27 ^ 6 := Nat.pow_le_pow_right (by omega) hr
  have h3 : 27 ^ 6 = 387420489 := by decide
  omega
theorem lE_let (x : Nat → Nat) (n : Nat) : ∀ d a i, a ≤ i → i < lE x n d a → isL x n i = true := by
  intro d
  induction d with
  | zero =>
    intro a i h1 h2
    rw [lE] at h2
    omega
  | succ d ih =>
    intro a i h1 h2
    rw [lE] at h2
    split at h2
    · next q =>
      by_cases e : i = a
      · rw [e]
        exact q
      · exact ih (a + 1) i (by omega) h2
    · omega
theorem lE_end (x : Nat → Nat) (n : Nat) : ∀ d a, a + d = n → isL x n (lE x n d a) = false := by
  intro d
  induction d with
  | zero =>
    intro a h
    rw [lE]
    unfold isL
    exact decide_eq_false (by omega)
  | succ d ih =>
    intro a h
    rw [lE]
    split
    · exact ih (a + 1) (by omega)
    · next q =>
      cases e : isL x n a
      · rfl
      · exact absurd e q
theorem isL_x {x : Nat → Nat} {n a : Nat} (h : isL x n a = true) : a < n ∧ 97 ≤ x a ∧ x a ≤ 122 := by
  unfold isL at h
  exact of_decide_eq_true h
theorem r_wordL {K : Int32 → Int32 → Mm → Option (Int32 × Mm)} {x : Nat → Nat} {n b : Nat} {m : Mm} (c : TR x n m) (h4 : rI m 49 4 = ni b) (hb : b ≤ n) :
    ∀ (d r fuel : Nat), b + r + d = wE x n b → d < fuel → L_X12_wordHere_8 K fuel 49 (ni (wl (fun i => x (b + i)) (if r ≤ 6 then r else 6))) (ni r) m = K (ni (wl (fun i => x (b + i)) (if wE x n b - b ≤ 6 then wE x n b - b else 6))) (ni (wE x n b - b)) m := by
  have g := c.1
  have h6 := c.2.1
  have hw := lE_le x n (n - b) b
  have hwn : wE x n b ≤ n := by unfold wE; omega
  intro d
  induction d with
  | zero =>
    intro r fuel hr hf
    obtain ⟨fuel, rfl⟩ : ∃ g, fuel = g + 1 := ⟨fuel - 1, by omega⟩
    rw [L_X12_wordHere_8]
    have e : wE x n b - b = r := by omega
    rw [e]
    have q : isL x n (b + r) = false := by
      rw [show b + r = wE x n b by omega]
      exact lE_end x n (n - b) b (by omega)
    have hby := r_byteAt (a := b + r) c (by omega)
    have hd := isLr (n := n) (a := b + r) m (TR_x c)
    rw [q] at hd
    simp (disch := first | assumption | omega | ((repeat (first | assumption | apply G_wI | apply G_wL | apply CSh_wI | apply CSh_wL)); done) | decide) only [↓dO0, ↓dO1, ↓dA2, ↓dK2, ↓dT2, ↓dO3, ↓dO4, ↓dA5, ↓dK5, ↓dT5, ↓dA6, ↓dK6, ↓dT6, ↓dA7, ↓dK7, ↓dT7, ↓dO8, ↓dA9, ↓dK9, ↓dT9, ↓dA10, ↓dK10, ↓dT10, ↓dA11, ↓dK11, ↓dT11, ↓dO12, ↓dA13, ↓dK13, ↓dT13, ↓dO14, ↓dA15, ↓dK15, ↓dT15, ↓dO16, ↓dO29, ↓dO42, ↓dA43, ↓dK43, ↓dT43, ↓dA44, ↓dK44, ↓dT44, ↓dO45, ↓dA46, ↓dK46, ↓dT46, ↓dO47, ↓dA48, ↓dK48, ↓dT48, ↓dO49, ↓dA50, ↓dK50, ↓dT50, ↓dA51, ↓dK51, ↓dT51, ↓dA52, ↓dK52, ↓dT52, ↓dA53, ↓dK53, ↓dT53, ↓dA54, ↓dK54, ↓dT54, ↓dA215, ↓dK215, ↓dT215, ↓dA376, ↓dK376, ↓dT376, ↓dA383, ↓dK383, ↓dT383, ↓dA390, ↓dK390, ↓dT390, ↓dA391, ↓dK391, ↓dT391, ↓dA392, ↓dK392, ↓dT392, ↓dA473, ↓dK473, ↓dT473, ↓dA474, ↓dK474, ↓dT474, ↓dA475, ↓dK475, ↓dT475, ↓dA492, ↓dK492, ↓dT492, ↓dA496, ↓dK496, ↓dT496, ↓dA497, ↓dK497, ↓dT497, ↓dR0_0, ↓dR0_1, ↓dR0_2, ↓dR0_3, ↓dR0_4, ↓dR0_5, ↓dR0_6, ↓dR0_7, ↓dR0_8, ↓dR0_9, ↓dR0_10, ↓dR0_11, ↓dR0_12, ↓dR1_0, ↓dR4_2, ↓dR8_0, ↓dR8_1, ↓dR8_2, ↓dR12_5, ↓dR14_0, ↓dR14_1, ↓dR14_2, ↓dR42_0, ↓dR45_0, ↓dR49_9, ↓dR49_10, ↓dR49_11, ↓dR49_12, ↓dR49_15, ↓dR49_16, ↓dR49_17, ↓dR49_18, ↓dR49_19, ↓dR49_20, ↓dR49_21, ↓dR49_23, ↓dR49_24, ↓dR49_25, ↓dR49_26, ↓dR49_34, ↓dF54, ↓dB54, ↓dC54, ↓dF215, ↓dB215, ↓dC215, ↓dF376, ↓dB376, ↓dC376, ↓dF383, ↓dB383, ↓dC383, ↓dF392, ↓dB392, ↓dC392, ↓dF475, ↓dB475, ↓dC475, ↓dF492, ↓dB492, ↓dC492, ↓lt9_e, ↓jn_e, ↓bd_s, gd_t, bd_s, oc_s, oc_n, lt9_e, jn_e, okOwI, okAwI, okTwI, lnwI, okOwL, okAwL, okTwL, lnwL, rRwI, rRwL, sHwI, sHwL, rIwL, rLwI, gO0, gO1, gA2, gK2, gT2, gN2, gO3, gO4, gA5, gK5, gT5, gN5, gA6, gK6, gT6, gN6, gA7, gK7, gT7, gN7, gO8, gA9, gK9, gT9, gN9, gA10, gK10, gT10, gN10, gA11, gK11, gT11, gN11, gO12, gA13, gK13, gT13, gN13, gO14, gA15, gK15, gT15, gN15, gO16, gO29, gO42, gA43, gK43, gT43, gN43, gA44, gK44, gT44, gN44, gO45, gA46, gK46, gT46, gN46, gO47, gA48, gK48, gT48, gN48, gO49, gA50, gK50, gT50, gN50, gA51, gK51, gT51, gN51, gA52, gK52, gT52, gN52, gA53, gK53, gT53, gN53, gA54, gK54, gT54, gN54, gA215, gK215, gT215, gN215, gA376, gK376, gT376, gN376, gA383, gK383, gT383, gN383, gA390, gK390, gT390, gN390, gA391, gK391, gT391, gN391, gA392, gK392, gT392, gN392, gA473, gK473, gT473, gN473, gA474, gK474, gT474, gN474, gA475, gK475, gT475, gN475, gA492, gK492, gT492, gN492, gA496, gK496, gT496, gN496, gA497, gK497, gT497, gN497, gR0_0, gR0_1, gR0_2, gR0_3, gR0_4, gR0_5, gR0_6, gR0_7, gR0_8, gR0_9, gR0_10, gR0_11, gR0_12, gR1_0, gR4_2, gR8_0, gR8_1, gR8_2, gR12_5, gR14_0, gR14_1, gR14_2, gR42_0, gR45_0, gR49_9, gR49_10, gR49_11, gR49_12, gR49_15, gR49_16, gR49_17, gR49_18, gR49_19, gR49_20, gR49_21, gR49_23, gR49_24, gR49_25, gR49_26, gR49_34, gF54, gB54, gC54, gF215, gB215, gC215, gF376, gB376, gC376, gF383, gB383, gC383, gF392, gB392, gC392, gF475, gB475, gC475, gF492, gB492, gC492, ni_le, ni_lt, ni_eq, ni_add, ni_mul, lni_le, lni_lt, nil_le, nil_lt, lni_eq, nil_eq, lni_add, nil_add, lni_mul, nil_mul, ix_ni, ix_lit, ni_ne1, ni_lt0, ↓reduceIte, Nat.reduceEqDiff, Nat.reduceMul, Nat.reduceAdd, Nat.reduceLeDiff, and_true, true_and, false_and, and_false, if_true, if_false, Nat.not_lt_zero, false_or, or_false, ft9, decide_true, o10, eq_self, b2i_0, b2i_1, b2i_ok, b2i_inj, b2i_t, b2i_f, rIwIk, h4, hby, hd]
  | succ d ih =>
    intro r fuel hr hf
    obtain ⟨fuel, rfl⟩ : ∃ g, fuel = g + 1 := ⟨fuel - 1, by omega⟩
    rw [L_X12_wordHere_8]
    have q : isL x n (b + r) = true := lE_let x n (n - b) b (b + r) (by omega) (by show b + r < wE x n b; omega)
    have hby := r_byteAt (a := b + r) c (by omega)
    have hd := isLr (n := n) (a := b + r) m (TR_x c)
    rw [q] at hd
    have qx := isL_x q
    have z := ih (r + 1) fuel (by omega) (by omega)
    rw [← z]
    by_cases q6 : 6 ≤ r
    · have e1 : (if r ≤ 6 then r else 6) = 6 := by split <;> omega
      have e2 : (if r + 1 ≤ 6 then r + 1 else 6) = 6 := by split <;> omega
      rw [e1, e2]
      simp (disch := first | assumption | omega | ((repeat (first | assumption | apply G_wI | apply G_wL | apply CSh_wI | apply CSh_wL)); done) | decide) only [↓dO0, ↓dO1, ↓dA2, ↓dK2, ↓dT2, ↓dO3, ↓dO4, ↓dA5, ↓dK5, ↓dT5, ↓dA6, ↓dK6, ↓dT6, ↓dA7, ↓dK7, ↓dT7, ↓dO8, ↓dA9, ↓dK9, ↓dT9, ↓dA10, ↓dK10, ↓dT10, ↓dA11, ↓dK11, ↓dT11, ↓dO12, ↓dA13, ↓dK13, ↓dT13, ↓dO14, ↓dA15, ↓dK15, ↓dT15, ↓dO16, ↓dO29, ↓dO42, ↓dA43, ↓dK43, ↓dT43, ↓dA44, ↓dK44, ↓dT44, ↓dO45, ↓dA46, ↓dK46, ↓dT46, ↓dO47, ↓dA48, ↓dK48, ↓dT48, ↓dO49, ↓dA50, ↓dK50, ↓dT50, ↓dA51, ↓dK51, ↓dT51, ↓dA52, ↓dK52, ↓dT52, ↓dA53, ↓dK53, ↓dT53, ↓dA54, ↓dK54, ↓dT54, ↓dA215, ↓dK215, ↓dT215, ↓dA376, ↓dK376, ↓dT376, ↓dA383, ↓dK383, ↓dT383, ↓dA390, ↓dK390, ↓dT390, ↓dA391, ↓dK391, ↓dT391, ↓dA392, ↓dK392, ↓dT392, ↓dA473, ↓dK473, ↓dT473, ↓dA474, ↓dK474, ↓dT474, ↓dA475, ↓dK475, ↓dT475, ↓dA492, ↓dK492, ↓dT492, ↓dA496, ↓dK496, ↓dT496, ↓dA497, ↓dK497, ↓dT497, ↓dR0_0, ↓dR0_1, ↓dR0_2, ↓dR0_3, ↓dR0_4, ↓dR0_5, ↓dR0_6, ↓dR0_7, ↓dR0_8, ↓dR0_9, ↓dR0_10, ↓dR0_11, ↓dR0_12, ↓dR1_0, ↓dR4_2, ↓dR8_0, ↓dR8_1, ↓dR8_2, ↓dR12_5, ↓dR14_0, ↓dR14_1, ↓dR14_2, ↓dR42_0, ↓dR45_0, ↓dR49_9, ↓dR49_10, ↓dR49_11, ↓dR49_12, ↓dR49_15, ↓dR49_16, ↓dR49_17, ↓dR49_18, ↓dR49_19, ↓dR49_20, ↓dR49_21, ↓dR49_23, ↓dR49_24, ↓dR49_25, ↓dR49_26, ↓dR49_34, ↓dF54, ↓dB54, ↓dC54, ↓dF215, ↓dB215, ↓dC215, ↓dF376, ↓dB376, ↓dC376, ↓dF383, ↓dB383, ↓dC383, ↓dF392, ↓dB392, ↓dC392, ↓dF475, ↓dB475, ↓dC475, ↓dF492, ↓dB492, ↓dC492, ↓lt9_e, ↓jn_e, ↓bd_s, gd_t, bd_s, oc_s, oc_n, lt9_e, jn_e, okOwI, okAwI, okTwI, lnwI, okOwL, okAwL, okTwL, lnwL, rRwI, rRwL, sHwI, sHwL, rIwL, rLwI, gO0, gO1, gA2, gK2, gT2, gN2, gO3, gO4, gA5, gK5, gT5, gN5, gA6, gK6, gT6, gN6, gA7, gK7, gT7, gN7, gO8, gA9, gK9, gT9, gN9, gA10, gK10, gT10, gN10, gA11, gK11, gT11, gN11, gO12, gA13, gK13, gT13, gN13, gO14, gA15, gK15, gT15, gN15, gO16, gO29, gO42, gA43, gK43, gT43, gN43, gA44, gK44, gT44, gN44, gO45, gA46, gK46, gT46, gN46, gO47, gA48, gK48, gT48, gN48, gO49, gA50, gK50, gT50, gN50, gA51, gK51, gT51, gN51, gA52, gK52, gT52, gN52, gA53, gK53, gT53, gN53, gA54, gK54, gT54, gN54, gA215, gK215, gT215, gN215, gA376, gK376, gT376, gN376, gA383, gK383, gT383, gN383, gA390, gK390, gT390, gN390, gA391, gK391, gT391, gN391, gA392, gK392, gT392, gN392, gA473, gK473, gT473, gN473, gA474, gK474, gT474, gN474, gA475, gK475, gT475, gN475, gA492, gK492, gT492, gN492, gA496, gK496, gT496, gN496, gA497, gK497, gT497, gN497, gR0_0, gR0_1, gR0_2, gR0_3, gR0_4, gR0_5, gR0_6, gR0_7, gR0_8, gR0_9, gR0_10, gR0_11, gR0_12, gR1_0, gR4_2, gR8_0, gR8_1, gR8_2, gR12_5, gR14_0, gR14_1, gR14_2, gR42_0, gR45_0, gR49_9, gR49_10, gR49_11, gR49_12, gR49_15, gR49_16, gR49_17, gR49_18, gR49_19, gR49_20, gR49_21, gR49_23, gR49_24, gR49_25, gR49_26, gR49_34, gF54, gB54, gC54, gF215, gB215, gC215, gF376, gB376, gC376, gF383, gB383, gC383, gF392, gB392, gC392, gF475, gB475, gC475, gF492, gB492, gC492, ni_le, ni_lt, ni_eq, ni_add, ni_mul, lni_le, lni_lt, nil_le, nil_lt, lni_eq, nil_eq, lni_add, nil_add, lni_mul, nil_mul, ix_ni, ix_lit, ni_ne1, ni_lt0, ↓reduceIte, Nat.reduceEqDiff, Nat.reduceMul, Nat.reduceAdd, Nat.reduceLeDiff, and_true, true_and, false_and, and_false, if_true, if_false, Nat.not_lt_zero, false_or, or_false, ft9, decide_true, o10, eq_self, b2i_0, b2i_1, b2i_ok, b2i_inj, b2i_t, b2i_f, rIwIk, h4, hby, hd, q6, reduceCtorEq]
    · have e1 : (if r ≤ 6 then r else 6) = r := by split <;> omega
      have e2 : (if r + 1 ≤ 6 then r + 1 else 6) = r + 1 := by split <;> omega
      rw [e1, e2, wl]
      have hch : chr x n (b + r) = ni (x (b + r)) := by
        unfold chr
        rw [if_pos qx.1]
      rw [hch] at hby hd
      generalize wl (fun i => x (b + i)) r = v
      have e : ni (27 * v + x (b + r)) - 97 + 1 = ni (27 * v + (x (b + r) - 96)) := by
        rw [show (97 : Int32) = ni 97 from rfl, ni_sub (by omega), show (1 : Int32) = ni 1 from rfl, ni_add]
        congr 1
        omega
      simp (disch := first | assumption | omega | ((repeat (first | assumption | apply G_wI | apply G_wL | apply CSh_wI | apply CSh_wL)); done) | decide) only [↓dO0, ↓dO1, ↓dA2, ↓dK2, ↓dT2, ↓dO3, ↓dO4, ↓dA5, ↓dK5, ↓dT5, ↓dA6, ↓dK6, ↓dT6, ↓dA7, ↓dK7, ↓dT7, ↓dO8, ↓dA9, ↓dK9, ↓dT9, ↓dA10, ↓dK10, ↓dT10, ↓dA11, ↓dK11, ↓dT11, ↓dO12, ↓dA13, ↓dK13, ↓dT13, ↓dO14, ↓dA15, ↓dK15, ↓dT15, ↓dO16, ↓dO29, ↓dO42, ↓dA43, ↓dK43, ↓dT43, ↓dA44, ↓dK44, ↓dT44, ↓dO45, ↓dA46, ↓dK46, ↓dT46, ↓dO47, ↓dA48, ↓dK48, ↓dT48, ↓dO49, ↓dA50, ↓dK50, ↓dT50, ↓dA51, ↓dK51, ↓dT51, ↓dA52, ↓dK52, ↓dT52, ↓dA53, ↓dK53, ↓dT53, ↓dA54, ↓dK54, ↓dT54, ↓dA215, ↓dK215, ↓dT215, ↓dA376, ↓dK376, ↓dT376, ↓dA383, ↓dK383, ↓dT383, ↓dA390, ↓dK390, ↓dT390, ↓dA391, ↓dK391, ↓dT391, ↓dA392, ↓dK392, ↓dT392, ↓dA473, ↓dK473, ↓dT473, ↓dA474, ↓dK474, ↓dT474, ↓dA475, ↓dK475, ↓dT475, ↓dA492, ↓dK492, ↓dT492, ↓dA496, ↓dK496, ↓dT496, ↓dA497, ↓dK497, ↓dT497, ↓dR0_0, ↓dR0_1, ↓dR0_2, ↓dR0_3, ↓dR0_4, ↓dR0_5, ↓dR0_6, ↓dR0_7, ↓dR0_8, ↓dR0_9, ↓dR0_10, ↓dR0_11, ↓dR0_12, ↓dR1_0, ↓dR4_2, ↓dR8_0, ↓dR8_1, ↓dR8_2, ↓dR12_5, ↓dR14_0, ↓dR14_1, ↓dR14_2, ↓dR42_0, ↓dR45_0, ↓dR49_9, ↓dR49_10, ↓dR49_11, ↓dR49_12, ↓dR49_15, ↓dR49_16, ↓dR49_17, ↓dR49_18, ↓dR49_19, ↓dR49_20, ↓dR49_21, ↓dR49_23, ↓dR49_24, ↓dR49_25, ↓dR49_26, ↓dR49_34, ↓dF54, ↓dB54, ↓dC54, ↓dF215, ↓dB215, ↓dC215, ↓dF376, ↓dB376, ↓dC376, ↓dF383, ↓dB383, ↓dC383, ↓dF392, ↓dB392, ↓dC392, ↓dF475, ↓dB475, ↓dC475, ↓dF492, ↓dB492, ↓dC492, ↓lt9_e, ↓jn_e, ↓bd_s, gd_t, bd_s, oc_s, oc_n, lt9_e, jn_e, okOwI, okAwI, okTwI, lnwI, okOwL, okAwL, okTwL, lnwL, rRwI, rRwL, sHwI, sHwL, rIwL, rLwI, gO0, gO1, gA2, gK2, gT2, gN2, gO3, gO4, gA5, gK5, gT5, gN5, gA6, gK6, gT6, gN6, gA7, gK7, gT7, gN7, gO8, gA9, gK9, gT9, gN9, gA10, gK10, gT10, gN10, gA11, gK11, gT11, gN11, gO12, gA13, gK13, gT13, gN13, gO14, gA15, gK15, gT15, gN15, gO16, gO29, gO42, gA43, gK43, gT43, gN43, gA44, gK44, gT44, gN44, gO45, gA46, gK46, gT46, gN46, gO47, gA48, gK48, gT48, gN48, gO49, gA50, gK50, gT50, gN50, gA51, gK51, gT51, gN51, gA52, gK52, gT52, gN52, gA53, gK53, gT53, gN53, gA54, gK54, gT54, gN54, gA215, gK215, gT215, gN215, gA376, gK376, gT376, gN376, gA383, gK383, gT383, gN383, gA390, gK390, gT390, gN390, gA391, gK391, gT391, gN391, gA392, gK392, gT392, gN392, gA473, gK473, gT473, gN473, gA474, gK474, gT474, gN474, gA475, gK475, gT475, gN475, gA492, gK492, gT492, gN492, gA496, gK496, gT496, gN496, gA497, gK497, gT497, gN497, gR0_0, gR0_1, gR0_2, gR0_3, gR0_4, gR0_5, gR0_6, gR0_7, gR0_8, gR0_9, gR0_10, gR0_11, gR0_12, gR1_0, gR4_2, gR8_0, gR8_1, gR8_2, gR12_5, gR14_0, gR14_1, gR14_2, gR42_0, gR45_0, gR49_9, gR49_10, gR49_11, gR49_12, gR49_15, gR49_16, gR49_17, gR49_18, gR49_19, gR49_20, gR49_21, gR49_23, gR49_24, gR49_25, gR49_26, gR49_34, gF54, gB54, gC54, gF215, gB215, gC215, gF376, gB376, gC376, gF383, gB383, gC383, gF392, gB392, gC392, gF475, gB475, gC475, gF492, gB492, gC492, ni_le, ni_lt, ni_eq, ni_add, ni_mul, lni_le, lni_lt, nil_le, nil_lt, lni_eq, nil_eq, lni_add, nil_add, lni_mul, nil_mul, ix_ni, ix_lit, ni_ne1, ni_lt0, ↓reduceIte, Nat.reduceEqDiff, Nat.reduceMul, Nat.reduceAdd, Nat.reduceLeDiff, and_true, true_and, false_and, and_false, if_true, if_false, Nat.not_lt_zero, false_or, or_false, ft9, decide_true, o10, eq_self, b2i_0, b2i_1, b2i_ok, b2i_inj, b2i_t, b2i_f, rIwIk, h4, hby, hd, q6, e, reduceCtorEq]
theorem r_wordHere {x : Nat → Nat} {n a : Nat} {m : Mm} (c : TR x n m) (ha : rI m 49 4 = ni a) (hn : a ≤ n) :
    ∃ m', F_X12_wordHere 49 m = some (if wE x n (blk x n a) - blk x n a ≤ 6 then ni (wl (fun i => x (blk x n a + i)) (wE x n (blk x n a) - blk x n a)) else -1, m') ∧ Rs m m' ∧ rI m' 49 4 = ni (blk x n a) := by
  unfold F_X12_wordHere
  obtain ⟨m1, y1, y2, y3⟩ := r_blanks c ha hn
  have c1 := TR_s c y2
  have hb := blk_le (x := x) hn
  have h6 := c.2.1
  generalize blk x n a = b at *
  have hw := lE_le x n (n - b) b
  have hwn : wE x n b ≤ n := by unfold wE; omega
  have hwb : b ≤ wE x n b := by unfold wE; omega
  have z := r_wordL (K := fun v1 v2 m => if v2 ≤ (6 : Int32) then some (v1, m) else some ((-1 : Int32), m)) c1 y3 hb.2 (wE x n b - b) 0 NF (by omega) (by unfold NF; omega)
  refine ⟨m1, ?_, y2, y3⟩
  have e0 : wl (fun i => x (b + i)) (if 0 ≤ 6 then 0 else 6) = 0 := rfl
  rw [e0, ni_0] at z
  simp only [gO49 c.1, gd_t, y1, bd_s, lt9_e]
  refine z.trans ?_
  simp (disch := first | omega | decide) only [nil_le]
  by_cases q : wE x n b - b ≤ 6
  · rw [if_pos q, if_pos q, if_pos q]
  · rw [if_neg q, if_neg q]
/-- the code of a word -/
def sV (k : Nat) : Nat := wl (fun i => (sN k).getD i 0) (sN k).length
theorem sV_lt : ∀ k, k < 17 → sV k < 387420489 := by decide +kernel
theorem isW_wl {x : Nat → Nat} {n b k : Nat} (hk : k < 17) (h6 : wE x n b - b ≤ 6) : wl (fun i => x (b + i)) (wE x n b - b) = sV k ↔ isW x b (wE x n b) (sN k) = true := by
  have hl := lE_le x n (n - b) b
  have hlet : ∀ i, i < wE x n b - b → 97 ≤ x (b + i) ∧ x (b + i) ≤ 122 := fun i hi => (isL_x (lE_let x n (n - b) b (b + i) (by omega) (by show b + i < wE x n b; omega))).2
  have hs : ∀ i, i < (sN k).length → 97 ≤ (sN k).getD i 0 ∧ (sN k).getD i 0 ≤ 122 := fun i hi => (sN_lo k hk i hi).2.2.2
  unfold isW
  constructor
  · intro h
    obtain ⟨e1, e2⟩ := wl_inj _ _ _ _ hlet hs h
    exact decide_eq_true ⟨e1, fun i hi => e2 i (by omega)⟩
  · intro h
    obtain ⟨e1, e2⟩ := of_decide_eq_true h
    unfold sV
    rw [e1]
    have : ∀ r, r ≤ (sN k).length → wl (fun i => x (b + i)) r = wl (fun i => (sN k).getD i 0) r := by
      intro r
      induction r with
      | zero =>
        intro _
        rfl
      | succ r ih =>
        intro hr
        rw [wl, wl, ih (by omega), e2 r (by omega)]
    exact this _ (Nat.le_refl _)
theorem r_isWord {x : Nat → Nat} {n a k : Nat} {a1 a2 a3 a4 a5 a6 : Int32} {m : Mm} (hk : k < 17) (hs : ∀ m, F_X12_six a1 a2 a3 a4 a5 a6 m = some (ni (sV k), m)) (c : TR x n m) (ha : rI m 49 4 = ni a) (h5 : rI m 49 5 = 0) (hn : a ≤ n) :
    ∃ m', F_X12_isWord 49 a1 a2 a3 a4 a5 a6 m = some (b2i (isW x (blk x n a) (wE x n (blk x n a)) (sN k)), m') ∧ Rs m m' ∧ rI m' 49 4 = ni (blk x n a) := by
  unfold F_X12_isWord
  obtain ⟨m1, y1, y2, y3⟩ := r_wordHere c ha hn
  have h6 := c.2.1
  have hb := blk_le (x := x) hn
  refine ⟨m1, ?_, y2, y3⟩
  generalize blk x n a = b at *
  have g := c.1
  have hv := sV_lt k hk
  have hlw := lE_le x n (n - b) b
  have hlet : ∀ i, i < wE x n b - b → x (b + i) ≤ 122 := fun i hi => (isL_x (lE_let x n (n - b) b (b + i) (by omega) (by show b + i < wE x n b; omega))).2.2
  by_cases q : wE x n b - b ≤ 6
  · rw [if_pos q] at y1
    have hw6 := wl_6 q hlet
    have hiff := isW_wl (x := x) (n := n) (b := b) hk q
    cases e : isW x b (wE x n b) (sN k)
    · have hne : (ni (wl (fun i => x (b + i)) (wE x n b - b)) = ni (sV k)) = False := eq_false (fun z => by
        rw [ni_eq (by omega) (by omega), hiff, e] at z
        cases z)
      simp only [gO49 g, gd_t, h5, if_true, y1, bd_s, hs, hne, if_false, b2i_f]
    · have hne : (ni (wl (fun i => x (b + i)) (wE x n b - b)) = ni (sV k)) = True := eq_true (by rw [hiff.mpr e])
      simp only [gO49 g, gd_t, h5, if_true, y1, bd_s, hs, hne, b2i_t]
  · rw [if_neg q] at y1
    have hne : ((-1 : Int32) = ni (sV k)) = False := eq_false (fun z => (ni_ne1 (by omega)).mp z.symm)
    have e : isW x b (wE x n b) (sN k) = false := by
      unfold isW
      have := (sN_6 k hk).1
      exact decide_eq_false (fun z => by omega)
    rw [e]
    simp only [gO49 g, gd_t, h5, if_true, y1, bd_s, hs, hne, if_false, b2i_f]
theorem r_isWord0 {a1 a2 a3 a4 a5 a6 : Int32} {m : Mm} (g : G m) (h5 : rI m 49 5 ≠ 0) : F_X12_isWord 49 a1 a2 a3 a4 a5 a6 m = some (0, m) := by
  unfold F_X12_isWord
  simp only [gO49 g, gd_t, h5, if_false]
theorem r_skipL {x : Nat → Nat} {n : Nat} :
    ∀ (d a fuel : Nat) (m : Mm), a + d = n → d < fuel → TR x n m → rI m 49 4 = ni a →
      ∃ m', L_X12_skipWord_0 fuel 49 m = some ((), m') ∧ Rs m m' ∧ rI m' 49 4 = ni (lE x n d a) := by
  intro d
  induction d with
  | zero =>
    intro a fuel m ha hf c h4
    obtain ⟨fuel, rfl⟩ : ∃ g, fuel = g + 1 := ⟨fuel - 1, by omega⟩
    rw [L_X12_skipWord_0, lE]
    have g := c.1
    have h6 := c.2.1
    have hb := r_byteAt (a := a) c (by omega)
    have hd := isLr (n := n) (a := a) m (TR_x c)
    have q : isL x n a = false := by
      unfold isL
      exact decide_eq_false (by omega)
    rw [q] at hd
    refine ⟨m, ?_, Rs_refl m, h4⟩
    simp (disch := first | assumption | omega | ((repeat (first | assumption | apply G_wI | apply G_wL | apply CSh_wI | apply CSh_wL)); done) | decide) only [↓dO0, ↓dO1, ↓dA2, ↓dK2, ↓dT2, ↓dO3, ↓dO4, ↓dA5, ↓dK5, ↓dT5, ↓dA6, ↓dK6, ↓dT6, ↓dA7, ↓dK7, ↓dT7, ↓dO8, ↓dA9, ↓dK9, ↓dT9, ↓dA10, ↓dK10, ↓dT10, ↓dA11, ↓dK11, ↓dT11, ↓dO12, ↓dA13, ↓dK13, ↓dT13, ↓dO14, ↓dA15, ↓dK15, ↓dT15, ↓dO16, ↓dO29, ↓dO42, ↓dA43, ↓dK43, ↓dT43, ↓dA44, ↓dK44, ↓dT44, ↓dO45, ↓dA46, ↓dK46, ↓dT46, ↓dO47, ↓dA48, ↓dK48, ↓dT48, ↓dO49, ↓dA50, ↓dK50, ↓dT50, ↓dA51, ↓dK51, ↓dT51, ↓dA52, ↓dK52, ↓dT52, ↓dA53, ↓dK53, ↓dT53, ↓dA54, ↓dK54, ↓dT54, ↓dA215, ↓dK215, ↓dT215, ↓dA376, ↓dK376, ↓dT376, ↓dA383, ↓dK383, ↓dT383, ↓dA390, ↓dK390, ↓dT390, ↓dA391, ↓dK391, ↓dT391, ↓dA392, ↓dK392, ↓dT392, ↓dA473, ↓dK473, ↓dT473, ↓dA474, ↓dK474, ↓dT474, ↓dA475, ↓dK475, ↓dT475, ↓dA492, ↓dK492, ↓dT492, ↓dA496, ↓dK496, ↓dT496, ↓dA497, ↓dK497, ↓dT497, ↓dR0_0, ↓dR0_1, ↓dR0_2, ↓dR0_3, ↓dR0_4, ↓dR0_5, ↓dR0_6, ↓dR0_7, ↓dR0_8, ↓dR0_9, ↓dR0_10, ↓dR0_11, ↓dR0_12, ↓dR1_0, ↓dR4_2, ↓dR8_0, ↓dR8_1, ↓dR8_2, ↓dR12_5, ↓dR14_0, ↓dR14_1, ↓dR14_2, ↓dR42_0, ↓dR45_0, ↓dR49_9, ↓dR49_10, ↓dR49_11, ↓dR49_12, ↓dR49_15, ↓dR49_16, ↓dR49_17, ↓dR49_18, ↓dR49_19, ↓dR49_20, ↓dR49_21, ↓dR49_23, ↓dR49_24, ↓dR49_25, ↓dR49_26, ↓dR49_34, ↓dF54, ↓dB54, ↓dC54, ↓dF215, ↓dB215, ↓dC215, ↓dF376, ↓dB376, ↓dC376, ↓dF383, ↓dB383, ↓dC383, ↓dF392, ↓dB392, ↓dC392, ↓dF475, ↓dB475, ↓dC475, ↓dF492, ↓dB492, ↓dC492, ↓lt9_e, ↓jn_e, ↓bd_s, gd_t, bd_s, oc_s, oc_n, lt9_e, jn_e, okOwI, okAwI, okTwI, lnwI, okOwL, okAwL, okTwL, lnwL, rRwI, rRwL, sHwI, sHwL, rIwL, rLwI, gO0, gO1, gA2, gK2, gT2, gN2, gO3, gO4, gA5, gK5, gT5, gN5, gA6, gK6, gT6, gN6, gA7, gK7, gT7, gN7, gO8, gA9, gK9, gT9, gN9, gA10, gK10, gT10, gN10, gA11, gK11, gT11, gN11, gO12, gA13, gK13, gT13, gN13, gO14, gA15, gK15, gT15, gN15, gO16, gO29, gO42, gA43, gK43, gT43, gN43, gA44, gK44, gT44, gN44, gO45, gA46, gK46, gT46, gN46, gO47, gA48, gK48, gT48, gN48, gO49, gA50, gK50, gT50, gN50, gA51, gK51, gT51, gN51, gA52, gK52, gT52, gN52, gA53, gK53, gT53, gN53, gA54, gK54, gT54, gN54, gA215, gK215, gT215, gN215, gA376, gK376, gT376, gN376, gA383, gK383, gT383, gN383, gA390, gK390, gT390, gN390, gA391, gK391, gT391, gN391, gA392, gK392, gT392, gN392, gA473, gK473, gT473, gN473, gA474, gK474, gT474, gN474, gA475, gK475, gT475, gN475, gA492, gK492, gT492, gN492, gA496, gK496, gT496, gN496, gA497, gK497, gT497, gN497, gR0_0, gR0_1, gR0_2, gR0_3, gR0_4, gR0_5, gR0_6, gR0_7, gR0_8, gR0_9, gR0_10, gR0_11, gR0_12, gR1_0, gR4_2, gR8_0, gR8_1, gR8_2, gR12_5, gR14_0, gR14_1, gR14_2, gR42_0, gR45_0, gR49_9, gR49_10, gR49_11, gR49_12, gR49_15, gR49_16, gR49_17, gR49_18, gR49_19, gR49_20, gR49_21, gR49_23, gR49_24, gR49_25, gR49_26, gR49_34, gF54, gB54, gC54, gF215, gB215, gC215, gF376, gB376, gC376, gF383, gB383, gC383, gF392, gB392, gC392, gF475, gB475, gC475, gF492, gB492, gC492, ni_le, ni_lt, ni_eq, ni_add, ni_mul, lni_le, lni_lt, nil_le, nil_lt, lni_eq, nil_eq, lni_add, nil_add, lni_mul, nil_mul, ix_ni, ix_lit, ni_ne1, ni_lt0, ↓reduceIte, Nat.reduceEqDiff, Nat.reduceMul, Nat.reduceAdd, Nat.reduceLeDiff, and_true, true_and, false_and, and_false, if_true, if_false, Nat.not_lt_zero, false_or, or_false, ft9, decide_true, o10, eq_self, b2i_0, b2i_1, b2i_ok, b2i_inj, b2i_t, b2i_f, rIwIk, h4, hb, hd]
  | succ d ih =>
    intro a fuel m ha hf c h4
    obtain ⟨fuel, rfl⟩ : ∃ g, fuel = g + 1 := ⟨fuel - 1, by omega⟩
    rw [L_X12_skipWord_0, lE]
    have g := c.1
    have h6 := c.2.1
    have hb := r_byteAt (a := a) c (by omega)
    have hd := isLr (n := n) (a := a) m (TR_x c)
    cases q : isL x n a
    · refine ⟨m, ?_, Rs_refl m, h4⟩
      rw [q] at hd
      simp (disch := first | assumption | omega | ((repeat (first | assumption | apply G_wI | apply G_wL | apply CSh_wI | apply CSh_wL)); done) | decide) only [↓dO0, ↓dO1, ↓dA2, ↓dK2, ↓dT2, ↓dO3, ↓dO4, ↓dA5, ↓dK5, ↓dT5, ↓dA6, ↓dK6, ↓dT6, ↓dA7, ↓dK7, ↓dT7, ↓dO8, ↓dA9, ↓dK9, ↓dT9, ↓dA10, ↓dK10, ↓dT10, ↓dA11, ↓dK11, ↓dT11, ↓dO12, ↓dA13, ↓dK13, ↓dT13, ↓dO14, ↓dA15, ↓dK15, ↓dT15, ↓dO16, ↓dO29, ↓dO42, ↓dA43, ↓dK43, ↓dT43, ↓dA44, ↓dK44, ↓dT44, ↓dO45, ↓dA46, ↓dK46, ↓dT46, ↓dO47, ↓dA48, ↓dK48, ↓dT48, ↓dO49, ↓dA50, ↓dK50, ↓dT50, ↓dA51, ↓dK51, ↓dT51, ↓dA52, ↓dK52, ↓dT52, ↓dA53, ↓dK53, ↓dT53, ↓dA54, ↓dK54, ↓dT54, ↓dA215, ↓dK215, ↓dT215, ↓dA376, ↓dK376, ↓dT376, ↓dA383, ↓dK383, ↓dT383, ↓dA390, ↓dK390, ↓dT390, ↓dA391, ↓dK391, ↓dT391, ↓dA392, ↓dK392, ↓dT392, ↓dA473, ↓dK473, ↓dT473, ↓dA474, ↓dK474, ↓dT474, ↓dA475, ↓dK475, ↓dT475, ↓dA492, ↓dK492, ↓dT492, ↓dA496, ↓dK496, ↓dT496, ↓dA497, ↓dK497, ↓dT497, ↓dR0_0, ↓dR0_1, ↓dR0_2, ↓dR0_3, ↓dR0_4, ↓dR0_5, ↓dR0_6, ↓dR0_7, ↓dR0_8, ↓dR0_9, ↓dR0_10, ↓dR0_11, ↓dR0_12, ↓dR1_0, ↓dR4_2, ↓dR8_0, ↓dR8_1, ↓dR8_2, ↓dR12_5, ↓dR14_0, ↓dR14_1, ↓dR14_2, ↓dR42_0, ↓dR45_0, ↓dR49_9, ↓dR49_10, ↓dR49_11, ↓dR49_12, ↓dR49_15, ↓dR49_16, ↓dR49_17, ↓dR49_18, ↓dR49_19, ↓dR49_20, ↓dR49_21, ↓dR49_23, ↓dR49_24, ↓dR49_25, ↓dR49_26, ↓dR49_34, ↓dF54, ↓dB54, ↓dC54, ↓dF215, ↓dB215, ↓dC215, ↓dF376, ↓dB376, ↓dC376, ↓dF383, ↓dB383, ↓dC383, ↓dF392, ↓dB392, ↓dC392, ↓dF475, ↓dB475, ↓dC475, ↓dF492, ↓dB492, ↓dC492, ↓lt9_e, ↓jn_e, ↓bd_s, gd_t, bd_s, oc_s, oc_n, lt9_e, jn_e, okOwI, okAwI, okTwI, lnwI, okOwL, okAwL, okTwL, lnwL, rRwI, rRwL, sHwI, sHwL, rIwL, rLwI, gO0, gO1, gA2, gK2, gT2, gN2, gO3, gO4, gA5, gK5, gT5, gN5, gA6, gK6, gT6, gN6, gA7, gK7, gT7, gN7, gO8, gA9, gK9, gT9, gN9, gA10, gK10, gT10, gN10, gA11, gK11, gT11, gN11, gO12, gA13, gK13, gT13, gN13, gO14, gA15, gK15, gT15, gN15, gO16, gO29, gO42, gA43, gK43, gT43, gN43, gA44, gK44, gT44, gN44, gO45, gA46, gK46, gT46, gN46, gO47, gA48, gK48, gT48, gN48, gO49, gA50, gK50, gT50, gN50, gA51, gK51, gT51, gN51, gA52, gK52, gT52, gN52, gA53, gK53, gT53, gN53, gA54, gK54, gT54, gN54, gA215, gK215, gT215, gN215, gA376, gK376, gT376, gN376, gA383, gK383, gT383, gN383, gA390, gK390, gT390, gN390, gA391, gK391, gT391, gN391, gA392, gK392, gT392, gN392, gA473, gK473, gT473, gN473, gA474, gK474, gT474, gN474, gA475, gK475, gT475, gN475, gA492, gK492, gT492, gN492, gA496, gK496, gT496, gN496, gA497, gK497, gT497, gN497, gR0_0, gR0_1, gR0_2, gR0_3, gR0_4, gR0_5, gR0_6, gR0_7, gR0_8, gR0_9, gR0_10, gR0_11, gR0_12, gR1_0, gR4_2, gR8_0, gR8_1, gR8_2, gR12_5, gR14_0, gR14_1, gR14_2, gR42_0, gR45_0, gR49_9, gR49_10, gR49_11, gR49_12, gR49_15, gR49_16, gR49_17, gR49_18, gR49_19, gR49_20, gR49_21, gR49_23, gR49_24, gR49_25, gR49_26, gR49_34, gF54, gB54, gC54, gF215, gB215, gC215, gF376, gB376, gC376, gF383, gB383, gC383, gF392, gB392, gC392, gF475, gB475, gC475, gF492, gB492, gC492, ni_le, ni_lt, ni_eq, ni_add, ni_mul, lni_le, lni_lt, nil_le, nil_lt, lni_eq, nil_eq, lni_add, nil_add, lni_mul, nil_mul, ix_ni, ix_lit, ni_ne1, ni_lt0, ↓reduceIte, Nat.reduceEqDiff, Nat.reduceMul, Nat.reduceAdd, Nat.reduceLeDiff, and_true, true_and, false_and, and_false, if_true, if_false, Nat.not_lt_zero, false_or, or_false, ft9, decide_true, o10, eq_self, b2i_0, b2i_1, b2i_ok, b2i_inj, b2i_t, b2i_f, rIwIk, h4, hb, hd]
    · rw [q] at hd
      simp only [if_true]
      obtain ⟨m', y1, y2, y3⟩ := ih (a + 1) fuel (wI m 49 4 (ni (a + 1))) (by omega) (by omega) (TR_s c (Rs_w (Rs_refl m))) (by rw [rIw, uf_at])
      refine ⟨m', ?_, Rs_trans (Rs_w (Rs_refl m)) y2, y3⟩
      rw [← y1]
      simp (disch := first | assumption | omega | ((repeat (first | assumption | apply G_wI | apply G_wL | apply CSh_wI | apply CSh_wL)); done) | decide) only [↓dO0, ↓dO1, ↓dA2, ↓dK2, ↓dT2, ↓dO3, ↓dO4, ↓dA5, ↓dK5, ↓dT5, ↓dA6, ↓dK6, ↓dT6, ↓dA7, ↓dK7, ↓dT7, ↓dO8, ↓dA9, ↓dK9, ↓dT9, ↓dA10, ↓dK10, ↓dT10, ↓dA11, ↓dK11, ↓dT11, ↓dO12, ↓dA13, ↓dK13, ↓dT13, ↓dO14, ↓dA15, ↓dK15, ↓dT15, ↓dO16, ↓dO29, ↓dO42, ↓dA43, ↓dK43, ↓dT43, ↓dA44, ↓dK44, ↓dT44, ↓dO45, ↓dA46, ↓dK46, ↓dT46, ↓dO47, ↓dA48, ↓dK48, ↓dT48, ↓dO49, ↓dA50, ↓dK50, ↓dT50, ↓dA51, ↓dK51, ↓dT51, ↓dA52, ↓dK52, ↓dT52, ↓dA53, ↓dK53, ↓dT53, ↓dA54, ↓dK54, ↓dT54, ↓dA215, ↓dK215, ↓dT215, ↓dA376, ↓dK376, ↓dT376, ↓dA383, ↓dK383, ↓dT383, ↓dA390, ↓dK390, ↓dT390, ↓dA391, ↓dK391, ↓dT391, ↓dA392, ↓dK392, ↓dT392, ↓dA473, ↓dK473, ↓dT473, ↓dA474, ↓dK474, ↓dT474, ↓dA475, ↓dK475, ↓dT475, ↓dA492, ↓dK492, ↓dT492, ↓dA496, ↓dK496, ↓dT496, ↓dA497, ↓dK497, ↓dT497, ↓dR0_0, ↓dR0_1, ↓dR0_2, ↓dR0_3, ↓dR0_4, ↓dR0_5, ↓dR0_6, ↓dR0_7, ↓dR0_8, ↓dR0_9, ↓dR0_10, ↓dR0_11, ↓dR0_12, ↓dR1_0, ↓dR4_2, ↓dR8_0, ↓dR8_1, ↓dR8_2, ↓dR12_5, ↓dR14_0, ↓dR14_1, ↓dR14_2, ↓dR42_0, ↓dR45_0, ↓dR49_9, ↓dR49_10, ↓dR49_11, ↓dR49_12, ↓dR49_15, ↓dR49_16, ↓dR49_17, ↓dR49_18, ↓dR49_19, ↓dR49_20, ↓dR49_21, ↓dR49_23, ↓dR49_24, ↓dR49_25, ↓dR49_26, ↓dR49_34, ↓dF54, ↓dB54, ↓dC54, ↓dF215, ↓dB215, ↓dC215, ↓dF376, ↓dB376, ↓dC376, ↓dF383, ↓dB383, ↓dC383, ↓dF392, ↓dB392, ↓dC392, ↓dF475, ↓dB475, ↓dC475, ↓dF492, ↓dB492, ↓dC492, ↓lt9_e, ↓jn_e, ↓bd_s, gd_t, bd_s, oc_s, oc_n, lt9_e, jn_e, okOwI, okAwI, okTwI, lnwI, okOwL, okAwL, okTwL, lnwL, rRwI, rRwL, sHwI, sHwL, rIwL, rLwI, gO0, gO1, gA2, gK2, gT2, gN2, gO3, gO4, gA5, gK5, gT5, gN5, gA6, gK6, gT6, gN6, gA7, gK7, gT7, gN7, gO8, gA9, gK9, gT9, gN9, gA10, gK10, gT10, gN10, gA11, gK11, gT11, gN11, gO12, gA13, gK13, gT13, gN13, gO14, gA15, gK15, gT15, gN15, gO16, gO29, gO42, gA43, gK43, gT43, gN43, gA44, gK44, gT44, gN44, gO45, gA46, gK46, gT46, gN46, gO47, gA48, gK48, gT48, gN48, gO49, gA50, gK50, gT50, gN50, gA51, gK51, gT51, gN51, gA52, gK52, gT52, gN52, gA53, gK53, gT53, gN53, gA54, gK54, gT54, gN54, gA215, gK215, gT215, gN215, gA376, gK376, gT376, gN376, gA383, gK383, gT383, gN383, gA390, gK390, gT390, gN390, gA391, gK391, gT391, gN391, gA392, gK392, gT392, gN392, gA473, gK473, gT473, gN473, gA474, gK474, gT474, gN474, gA475, gK475, gT475, gN475, gA492, gK492, gT492, gN492, gA496, gK496, gT496, gN496, gA497, gK497, gT497, gN497, gR0_0, gR0_1, gR0_2, gR0_3, gR0_4, gR0_5, gR0_6, gR0_7, gR0_8, gR0_9, gR0_10, gR0_11, gR0_12, gR1_0, gR4_2, gR8_0, gR8_1, gR8_2, gR12_5, gR14_0, gR14_1, gR14_2, gR42_0, gR45_0, gR49_9, gR49_10, gR49_11, gR49_12, gR49_15, gR49_16, gR49_17, gR49_18, gR49_19, gR49_20, gR49_21, gR49_23, gR49_24, gR49_25, gR49_26, gR49_34, gF54, gB54, gC54, gF215, gB215, gC215, gF376, gB376, gC376, gF383, gB383, gC383, gF392, gB392, gC392, gF475, gB475, gC475, gF492, gB492, gC492, ni_le, ni_lt, ni_eq, ni_add, ni_mul, lni_le, lni_lt, nil_le, nil_lt, lni_eq, nil_eq, lni_add, nil_add, lni_mul, nil_mul, ix_ni, ix_lit, ni_ne1, ni_lt0, ↓reduceIte, Nat.reduceEqDiff, Nat.reduceMul, Nat.reduceAdd, Nat.reduceLeDiff, and_true, true_and, false_and, and_false, if_true, if_false, Nat.not_lt_zero, false_or, or_false, ft9, decide_true, o10, eq_self, b2i_0, b2i_1, b2i_ok, b2i_inj, b2i_t, b2i_f, rIwIk, h4, hb, hd, reduceCtorEq]
theorem r_skipWord {x : Nat → Nat} {n b : Nat} {m : Mm} (c : TR x n m) (hb : rI m 49 4 = ni b) (hn : b ≤ n) : ∃ m', F_X12_skipWord 49 m = some ((), m') ∧ Rs m m' ∧ rI m' 49 4 = ni (wE x n b) := by
  unfold F_X12_skipWord wE
  have := c.2.1
  exact r_skipL (n - b) b NF m (by omega) (by unfold NF; omega) c hb
theorem wE_le {x : Nat → Nat} {n b : Nat} (h : b ≤ n) : b ≤ wE x n b ∧ wE x n b ≤ n := by
  have := lE_le x n (n - b) b
  unfold wE
  omega
theorem six0 (m : Mm) : F_X12_six 13 5 13 2 5 18 m = some (ni (sV 0), m) := by
  have e : ni (sV 0) = 189450486 := by decide +kernel
  rw [e]
  rfl
theorem six1 (m : Mm) : F_X12_six 12 9 13 9 20 0 m = some (ni (sV 1), m) := by
  have e : ni (sV 1) = 6564179 := by decide +kernel
  rw [e]
  rfl
theorem six2 (m : Mm) : F_X12_six 1 7 5 0 0 0 m = some (ni (sV 2), m) := by
  have e : ni (sV 2) = 923 := by decide +kernel
  rw [e]
  rfl
theorem six3 (m : Mm) : F_X12_six 22 9 5 23 0 0 m = some (ni (sV 3), m) := by
  have e : ni (sV 3) = 439745 := by decide +kernel
  rw [e]
  rfl
theorem six4 (m : Mm) : F_X12_six 19 9 26 5 0 0 m = some (ni (sV 4), m) := by
  have e : ni (sV 4) = 381245 := by decide +kernel
  rw [e]
  rfl
theorem six5 (m : Mm) : F_X12_six 12 5 1 19 20 0 m = some (ni (sV 5), m) := by
  have e : ni (sV 5) = 6476969 := by decide +kernel
  rw [e]
  rfl
theorem six6 (m : Mm) : F_X12_six 13 15 19 20 0 0 m = some (ni (sV 6), m) := by
  have e : ni (sV 6) = 267347 := by decide +kernel
  rw [e]
  rfl
theorem six7 (m : Mm) : F_X12_six 19 5 14 4 0 0 m = some (ni (sV 7), m) := by
  have e : ni (sV 7) = 378004 := by decide +kernel
  rw [e]
  rfl
theorem six8 (m : Mm) : F_X12_six 20 1 11 5 0 0 m = some (ni (sV 8), m) := by
  have e : ni (sV 8) = 394691 := by decide +kernel
  rw [e]
  rfl
theorem six9 (m : Mm) : F_X12_six 12 15 19 5 0 0 m = some (ni (sV 9), m) := by
  have e : ni (sV 9) = 247649 := by decide +kernel
  rw [e]
  rfl
theorem six10 (m : Mm) : F_X12_six 20 5 12 12 0 0 m = some (ni (sV 10), m) := by
  have e : ni (sV 10) = 397641 := by decide +kernel
  rw [e]
  rfl
theorem six11 (m : Mm) : F_X12_six 20 18 9 13 0 0 m = some (ni (sV 11), m) := by
  have e : ni (sV 11) = 407038 := by decide +kernel
  rw [e]
  rfl
theorem six12 (m : Mm) : F_X12_six 3 18 1 19 8 0 m = some (ni (sV 12), m) := by
  have e : ni (sV 12) = 1949867 := by decide +kernel
  rw [e]
  rfl
theorem six13 (m : Mm) : F_X12_six 10 15 9 14 0 0 m = some (ni (sV 13), m) := by
  have e : ni (sV 13) = 208022 := by decide +kernel
  rw [e]
  rfl
theorem six14 (m : Mm) : F_X12_six 16 1 18 20 0 0 m = some (ni (sV 14), m) := by
  have e : ni (sV 14) = 316163 := by decide +kernel
  rw [e]
  rfl
theorem six15 (m : Mm) : F_X12_six 8 15 12 4 0 0 m = some (ni (sV 15), m) := by
  have e : ni (sV 15) = 168727 := by decide +kernel
  rw [e]
  rfl
theorem six16 (m : Mm) : F_X12_six 1 7 1 9 14 0 m = some (ni (sV 16), m) := by
  have e : ni (sV 16) = 670208 := by decide +kernel
  rw [e]
  rfl
