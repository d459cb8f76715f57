/-! L2: the reference's group. -/
theorem bdE {α β : Type} {X : Option (α × Mm)} {r : α} {m : Mm} (h : X = some (r, m)) (f : α → Mm → Option β) : bd X f = f r m := by rw [h, bd_s]
theorem isW_no {x : Nat → Nat} {n b k : Nat} (hk : k < 17) (h : isL x n b = false) : isW x b (wE x n b) (sN k) = false := by
  have e : wE x n b = b := by
    unfold wE
    by_cases q : n - b = 0
    · rw [q]
      rfl
    · rw [show n - b = (n - b - 1) + 1 by omega, lE, h]
      rfl
  rw [e]
  unfold isW
  have := (sN_6 k hk).2
  exact decide_eq_false (fun z => by omega)
theorem r_clauseF {x : Nat → Nat} {n b cl many lim : Nat} {ins : Int32} {m : Mm} (c : TR x n m) (h4 : rI m 49 4 = ni b) (hb : b ≤ n) (hbb : blk x n b = b) (h5 : rI m 49 5 = 0) (h7 : rI m 49 7 = ni cl) (rt : RT many lim ins m) (hm : many ≤ 6) (hcl : cl ≤ 60) :
    ((isW x b (wE x n b) (sN 0) = false ∧ isW x b (wE x n b) (sN 1) = false) → ∃ m', F_X12_clause 49 m = some ((), m') ∧ Rf n 1 b m m') ∧
    (isW x b (wE x n b) (sN 0) = true → (cl = 60 ∨ many = 6) → ∃ m', F_X12_clause 49 m = some ((), m') ∧ Rf n 3 b m m') ∧
    (isW x b (wE x n b) (sN 0) = true → ¬ (cl = 60 ∨ many = 6) →
      (∀ v e, nsP x n (wE x n b) 0 2 = .inl (v, e) → ∃ m', F_X12_clause 49 m = some ((), m') ∧ Gq m m' ∧ rI m' 49 4 = ni e ∧ rI m' 49 5 = 0 ∧ rI m' 49 7 = ni (cl + 1) ∧ RT (many + 1) lim (ins ||| (ni v <<< (ni many &&& 31))) m' ∧ e ≤ n) ∧
      (∀ k p, nsP x n (wE x n b) 0 2 = .inr (k, p) → ∃ m', F_X12_clause 49 m = some ((), m') ∧ Gq m m' ∧ rI m' 49 5 = ni k ∧ rI m' 49 6 = ni p ∧ k ≠ 0 ∧ k < 4 ∧ ∃ a, a ≤ n ∧ rI m' 49 4 = ni a)) ∧
    (isW x b (wE x n b) (sN 0) = false → isW x b (wE x n b) (sN 1) = true → cl = 60 → ∃ m', F_X12_clause 49 m = some ((), m') ∧ Rf n 3 b m m') ∧
    (isW x b (wE x n b) (sN 0) = false → isW x b (wE x n b) (sN 1) = true → ¬ cl = 60 →
      (∀ v e, nsP x n (wE x n b) 1 31 = .inl (v, e) → ∃ m', F_X12_clause 49 m = some ((), m') ∧ Gq m m' ∧ rI m' 49 4 = ni e ∧ rI m' 49 5 = 0 ∧ rI m' 49 7 = ni (cl + 1) ∧ RT many v ins m' ∧ e ≤ n) ∧
      (∀ k p, nsP x n (wE x n b) 1 31 = .inr (k, p) → ∃ m', F_X12_clause 49 m = some ((), m') ∧ Gq m m' ∧ rI m' 49 5 = ni k ∧ rI m' 49 6 = ni p ∧ k ≠ 0 ∧ k < 4 ∧ ∃ a, a ≤ n ∧ rI m' 49 4 = ni a)) := by
  obtain ⟨m1, w1, w2, w3⟩ := r_isWord (k := 0) (by omega) six0 c h4 h5 hb
  rw [hbb] at w1 w3
  have c1 := TR_s c w2
  have h51 := (w2.2 5 (by omega)).trans h5
  have h71 := (w2.2 7 (by omega)).trans h7
  have rt1 := RT_s rt w2
  obtain ⟨m2, u1, u2, u3⟩ := r_isWord (k := 1) (by omega) six1 c1 w3 h51 hb
  rw [hbb] at u1 u3
  have c2 := TR_s c1 u2
  have h52 := (u2.2 5 (by omega)).trans h51
  have h72 := (u2.2 7 (by omega)).trans h71
  have rt2 := RT_s rt1 u2
  have g := c.1
  have g1 := c1.1
  have g2 := c2.1
  have wu := Rs_trans w2 u2
  have hwe := wE_le (x := x) hb
  have cl60 : (ni cl = (60 : Int32)) = (cl = 60) := by
    rw [show (60 : Int32) = ni 60 from rfl]
    exact propext (ni_eq (by omega) (by omega))
  have m6 : (ni many = (6 : Int32)) = (many = 6) := by
    rw [show (6 : Int32) = ni 6 from rfl]
    exact propext (ni_eq (by omega) (by omega))
  have n10 : ((-1 : Int32) = 0) = False := by decide
  have n01 : ((0 : Int32) = -1) = False := by decide
  have n11 : ((1 : Int32) = -1) = False := by decide
  have z01 : ((0 : Int32) = 1) = False := by decide
  refine ⟨fun q => ?_, fun q qq => ?_, fun q qq => ?_, fun q q1 qq => ?_, fun q q1 qq => ?_⟩
  · rw [q.1] at w1
    rw [q.2] at u1
    obtain ⟨m3, z1, z2⟩ := r_wrong (n := n) (k := 1) (p := b) g2 h52 u3 hb
    have h53 := Rf_5 z2 (by omega) (by omega)
    have g3 := (TR_f c2 z2).1
    refine ⟨m3, ?_, Rs_Rf wu z2⟩
    rw [ni_1] at z1
    unfold F_X12_clause
    simp only [gO49 g, gO49 g1, gO49 g2, gO49 g3, gd_t, w1, bd_s, jn_e, lt9_e, b2i_f, if_true, u1, u3, z1, h53, if_false]
  · rw [q] at w1
    obtain ⟨m3, z1, z2⟩ := r_wrong (n := n) (k := 3) (p := b) g1 h51 w3 hb
    have h53 := Rf_5 z2 (by omega) (by omega)
    have g3 := (TR_f c1 z2).1
    refine ⟨m3, ?_, Rs_Rf w2 z2⟩
    rw [show ni 3 = 3 from rfl] at z1
    unfold F_X12_clause
    by_cases q6 : cl = 60
    · replace q6 := eq_true q6
      simp only [gO49 g, gO49 g1, gO49 g3, gd_t, w1, bd_s, jn_e, lt9_e, b2i_t, o10, if_true, if_false, w3, n01, h71, cl60, q6, z1, h53]
    · have q7 := eq_true (qq.resolve_left q6)
      have r0 := rt1.1
      have k0 : okA m1 100 52 0 = true := gK52 (i := 0) g1 (by omega)
      have i0 : ix (0 : Int32) = 0 := by decide
      simp only [gO49 g, gO49 g1, gO49 g3, gR49_11 g1, oc_s, gd_t, w1, bd_s, jn_e, lt9_e, b2i_t, o10, if_true, if_false, w3, n01, h71, cl60, q6, z1, h53, k0, i0, r0, m6, q7]
  · rw [q] at w1
    have q6 : ¬ cl = 60 := fun z => qq (.inl z)
    have q7 : ¬ many = 6 := fun z => qq (.inr z)
    have r0 := rt1.1
    have k0 : okA m1 100 52 0 = true := gK52 (i := 0) g1 (by omega)
    have i0 : ix (0 : Int32) = 0 := by decide
    obtain ⟨m3, s1, s2, s3⟩ := r_skipWord c1 w3 hb
    have c3 := TR_s c1 s2
    have g3 := c3.1
    have h73 := (s2.2 7 (by omega)).trans h71
    have q4 : Gq m3 (wI m3 49 7 (rI m3 49 7 + 1)) := ⟨Fm_wI (Fm_refl _ _) (.inl rfl), fun j hj => by rw [rIw, uf_ne (by omega)]⟩
    have c4 := TR_g c3 q4
    have g4 := c4.1
    obtain ⟨t1, t2⟩ := r_ns (lo := 0) c4 (a := wE x n b) (by rw [rIw, uf_ne (by omega)]; exact s3) (by rw [rIw, uf_ne (by omega), s2.2 5 (by omega)]; exact h51) hwe.2 hi1 (by omega) (by omega)
    have pre : Gq m (wI m3 49 7 (rI m3 49 7 + 1)) := Gq_trans (Rs_Gq (Rs_trans w2 s2)) q4
    have rt4 : RT many lim ins (wI m3 49 7 (rI m3 49 7 + 1)) := by
      have := RT_s rt1 s2
      unfold RT
      rw [rIw_ne (by omega)]
      exact this
    rw [ni_0] at t1 t2
    refine ⟨fun v e z => ?_, fun k p z => ?_⟩
    · obtain ⟨m5, m6', v1, v2, v3, v4, v5, v6, v7, v8⟩ := t1 v e z
      have c6 := TR_s c4 v4
      have g6 := c6.1
      obtain ⟨rt60, rt61, rt62⟩ := RT_s rt4 v4
      have h56 : rI m6' 49 5 = 0 := by
        rw [v4.2 5 (by omega), rIw, uf_ne (by omega), s2.2 5 (by omega)]
        exact h51
      refine ⟨wI (wI m6' 52 1 (ins ||| (ni v <<< (ni many &&& 31)))) 52 0 (ni (many + 1)), ?_, ?_, ?_, ?_, ?_, ?_, v6⟩
      · unfold F_X12_clause
        simp (disch := first | assumption | omega | ((repeat (first | assumption | apply G_wI | apply G_wL | apply CSh_wI | apply CSh_wL)); done) | decide) only [↓dO0, ↓dO1, ↓dA2, ↓dK2, ↓dT2, ↓dO3, ↓dO4, ↓dA5, ↓dK5, ↓dT5, ↓dA6, ↓dK6, ↓dT6, ↓dA7, ↓dK7, ↓dT7, ↓dO8, ↓dA9, ↓dK9, ↓dT9, ↓dA10, ↓dK10, ↓dT10, ↓dA11, ↓dK11, ↓dT11, ↓dO12, ↓dA13, ↓dK13, ↓dT13, ↓dO14, ↓dA15, ↓dK15, ↓dT15, ↓dO16, ↓dO29, ↓dO42, ↓dA43, ↓dK43, ↓dT43, ↓dA44, ↓dK44, ↓dT44, ↓dO45, ↓dA46, ↓dK46, ↓dT46, ↓dO47, ↓dA48, ↓dK48, ↓dT48, ↓dO49, ↓dA50, ↓dK50, ↓dT50, ↓dA51, ↓dK51, ↓dT51, ↓dA52, ↓dK52, ↓dT52, ↓dA53, ↓dK53, ↓dT53, ↓dA54, ↓dK54, ↓dT54, ↓dA215, ↓dK215, ↓dT215, ↓dA376, ↓dK376, ↓dT376, ↓dA383, ↓dK383, ↓dT383, ↓dA390, ↓dK390, ↓dT390, ↓dA391, ↓dK391, ↓dT391, ↓dA392, ↓dK392, ↓dT392, ↓dA473, ↓dK473, ↓dT473, ↓dA474, ↓dK474, ↓dT474, ↓dA475, ↓dK475, ↓dT475, ↓dA492, ↓dK492, ↓dT492, ↓dA496, ↓dK496, ↓dT496, ↓dA497, ↓dK497, ↓dT497, ↓dR0_0, ↓dR0_1, ↓dR0_2, ↓dR0_3, ↓dR0_4, ↓dR0_5, ↓dR0_6, ↓dR0_7, ↓dR0_8, ↓dR0_9, ↓dR0_10, ↓dR0_11, ↓dR0_12, ↓dR1_0, ↓dR4_2, ↓dR8_0, ↓dR8_1, ↓dR8_2, ↓dR12_5, ↓dR14_0, ↓dR14_1, ↓dR14_2, ↓dR42_0, ↓dR45_0, ↓dR49_9, ↓dR49_10, ↓dR49_11, ↓dR49_12, ↓dR49_15, ↓dR49_16, ↓dR49_17, ↓dR49_18, ↓dR49_19, ↓dR49_20, ↓dR49_21, ↓dR49_23, ↓dR49_24, ↓dR49_25, ↓dR49_26, ↓dR49_34, ↓dF54, ↓dB54, ↓dC54, ↓dF215, ↓dB215, ↓dC215, ↓dF376, ↓dB376, ↓dC376, ↓dF383, ↓dB383, ↓dC383, ↓dF392, ↓dB392, ↓dC392, ↓dF475, ↓dB475, ↓dC475, ↓dF492, ↓dB492, ↓dC492, ↓lt9_e, ↓jn_e, ↓bd_s, ↓bdE w1, ↓bdE s1, ↓bdE v1, ↓bdE v3, gd_t, bd_s, oc_s, oc_n, lt9_e, jn_e, okOwI, okAwI, okTwI, lnwI, okOwL, okAwL, okTwL, lnwL, rRwI, rRwL, sHwI, sHwL, rIwL, rLwI, gO0, gO1, gA2, gK2, gT2, gN2, gO3, gO4, gA5, gK5, gT5, gN5, gA6, gK6, gT6, gN6, gA7, gK7, gT7, gN7, gO8, gA9, gK9, gT9, gN9, gA10, gK10, gT10, gN10, gA11, gK11, gT11, gN11, gO12, gA13, gK13, gT13, gN13, gO14, gA15, gK15, gT15, gN15, gO16, gO29, gO42, gA43, gK43, gT43, gN43, gA44, gK44, gT44, gN44, gO45, gA46, gK46, gT46, gN46, gO47, gA48, gK48, gT48, gN48, gO49, gA50, gK50, gT50, gN50, gA51, gK51, gT51, gN51, gA52, gK52, gT52, gN52, gA53, gK53, gT53, gN53, gA54, gK54, gT54, gN54, gA215, gK215, gT215, gN215, gA376, gK376, gT376, gN376, gA383, gK383, gT383, gN383, gA390, gK390, gT390, gN390, gA391, gK391, gT391, gN391, gA392, gK392, gT392, gN392, gA473, gK473, gT473, gN473, gA474, gK474, gT474, gN474, gA475, gK475, gT475, gN475, gA492, gK492, gT492, gN492, gA496, gK496, gT496, gN496, gA497, gK497, gT497, gN497, gR0_0, gR0_1, gR0_2, gR0_3, gR0_4, gR0_5, gR0_6, gR0_7, gR0_8, gR0_9, gR0_10, gR0_11, gR0_12, gR1_0, gR4_2, gR8_0, gR8_1, gR8_2, gR12_5, gR14_0, gR14_1, gR14_2, gR42_0, gR45_0, gR49_9, gR49_10, gR49_11, gR49_12, gR49_15, gR49_16, gR49_17, gR49_18, gR49_19, gR49_20, gR49_21, gR49_23, gR49_24, gR49_25, gR49_26, gR49_34, gF54, gB54, gC54, gF215, gB215, gC215, gF376, gB376, gC376, gF383, gB383, gC383, gF392, gB392, gC392, gF475, gB475, gC475, gF492, gB492, gC492, ni_le, ni_lt, ni_eq, ni_add, ni_mul, lni_le, lni_lt, nil_le, nil_lt, lni_eq, nil_eq, lni_add, nil_add, lni_mul, nil_mul, ix_ni, ix_lit, ni_ne1, ni_lt0, ↓reduceIte, Nat.reduceEqDiff, Nat.reduceMul, Nat.reduceAdd, Nat.reduceLeDiff, and_true, true_and, false_and, and_false, if_true, if_false, Nat.not_lt_zero, false_or, or_false, ft9, decide_true, o10, eq_self, b2i_0, b2i_1, b2i_ok, b2i_inj, b2i_t, b2i_f, rIwIk, n01, h71, cl60, q6, r0, m6, q7, h51, h56, rt60, rt61, z01]
      · exact Gq_trans (Gq_trans pre (Rs_Gq v4)) ⟨Fm_wI (Fm_wI (Fm_refl _ _) (.inr rfl)) (.inr rfl), fun j hj => by rw [rIw_ne (by omega), rIw_ne (by omega)]⟩
      · rw [rIw_ne (by omega), rIw_ne (by omega)]
        exact v5
      · rw [rIw_ne (by omega), rIw_ne (by omega)]
        exact h56
      · rw [rIw_ne (by omega), rIw_ne (by omega), v4.2 7 (by omega), rIw, uf_at, h73]
        exact ni_add cl 1
      · refine ⟨?_, ?_, ?_⟩
        · rw [rIw, uf_at]
        · rw [rIw, uf_ne (by omega), rIw, uf_at]
        · rw [rIw, uf_ne (by omega), rIw, uf_ne (by omega)]
          exact rt62
    · obtain ⟨r, m5, m6', v1, v2, v3, v4, v5, v6⟩ := t2 k p z
      have g6 := (TR_f c4 v4).1
      have h56 := Rf_5 v4 v5 v6
      refine ⟨m6', ?_, Gq_trans pre (Rf_Gq v4), v4.2.2.1, v4.2.2.2.1, v5, v6, v4.2.2.2.2⟩
      unfold F_X12_clause
      simp (disch := first | assumption | omega | ((repeat (first | assumption | apply G_wI | apply G_wL | apply CSh_wI | apply CSh_wL)); done) | decide) only [↓dO0, ↓dO1, ↓dA2, ↓dK2, ↓dT2, ↓dO3, ↓dO4, ↓dA5, ↓dK5, ↓dT5, ↓dA6, ↓dK6, ↓dT6, ↓dA7, ↓dK7, ↓dT7, ↓dO8, ↓dA9, ↓dK9, ↓dT9, ↓dA10, ↓dK10, ↓dT10, ↓dA11, ↓dK11, ↓dT11, ↓dO12, ↓dA13, ↓dK13, ↓dT13, ↓dO14, ↓dA15, ↓dK15, ↓dT15, ↓dO16, ↓dO29, ↓dO42, ↓dA43, ↓dK43, ↓dT43, ↓dA44, ↓dK44, ↓dT44, ↓dO45, ↓dA46, ↓dK46, ↓dT46, ↓dO47, ↓dA48, ↓dK48, ↓dT48, ↓dO49, ↓dA50, ↓dK50, ↓dT50, ↓dA51, ↓dK51, ↓dT51, ↓dA52, ↓dK52, ↓dT52, ↓dA53, ↓dK53, ↓dT53, ↓dA54, ↓dK54, ↓dT54, ↓dA215, ↓dK215, ↓dT215, ↓dA376, ↓dK376, ↓dT376, ↓dA383, ↓dK383, ↓dT383, ↓dA390, ↓dK390, ↓dT390, ↓dA391, ↓dK391, ↓dT391, ↓dA392, ↓dK392, ↓dT392, ↓dA473, ↓dK473, ↓dT473, ↓dA474, ↓dK474, ↓dT474, ↓dA475, ↓dK475, ↓dT475, ↓dA492, ↓dK492, ↓dT492, ↓dA496, ↓dK496, ↓dT496, ↓dA497, ↓dK497, ↓dT497, ↓dR0_0, ↓dR0_1, ↓dR0_2, ↓dR0_3, ↓dR0_4, ↓dR0_5, ↓dR0_6, ↓dR0_7, ↓dR0_8, ↓dR0_9, ↓dR0_10, ↓dR0_11, ↓dR0_12, ↓dR1_0, ↓dR4_2, ↓dR8_0, ↓dR8_1, ↓dR8_2, ↓dR12_5, ↓dR14_0, ↓dR14_1, ↓dR14_2, ↓dR42_0, ↓dR45_0, ↓dR49_9, ↓dR49_10, ↓dR49_11, ↓dR49_12, ↓dR49_15, ↓dR49_16, ↓dR49_17, ↓dR49_18, ↓dR49_19, ↓dR49_20, ↓dR49_21, ↓dR49_23, ↓dR49_24, ↓dR49_25, ↓dR49_26, ↓dR49_34, ↓dF54, ↓dB54, ↓dC54, ↓dF215, ↓dB215, ↓dC215, ↓dF376, ↓dB376, ↓dC376, ↓dF383, ↓dB383, ↓dC383, ↓dF392, ↓dB392, ↓dC392, ↓dF475, ↓dB475, ↓dC475, ↓dF492, ↓dB492, ↓dC492, ↓lt9_e, ↓jn_e, ↓bd_s, ↓bdE w1, ↓bdE s1, ↓bdE v1, ↓bdE v3, gd_t, bd_s, oc_s, oc_n, lt9_e, jn_e, okOwI, okAwI, okTwI, lnwI, okOwL, okAwL, okTwL, lnwL, rRwI, rRwL, sHwI, sHwL, rIwL, rLwI, gO0, gO1, gA2, gK2, gT2, gN2, gO3, gO4, gA5, gK5, gT5, gN5, gA6, gK6, gT6, gN6, gA7, gK7, gT7, gN7, gO8, gA9, gK9, gT9, gN9, gA10, gK10, gT10, gN10, gA11, gK11, gT11, gN11, gO12, gA13, gK13, gT13, gN13, gO14, gA15, gK15, gT15, gN15, gO16, gO29, gO42, gA43, gK43, gT43, gN43, gA44, gK44, gT44, gN44, gO45, gA46, gK46, gT46, gN46, gO47, gA48, gK48, gT48, gN48, gO49, gA50, gK50, gT50, gN50, gA51, gK51, gT51, gN51, gA52, gK52, gT52, gN52, gA53, gK53, gT53, gN53, gA54, gK54, gT54, gN54, gA215, gK215, gT215, gN215, gA376, gK376, gT376, gN376, gA383, gK383, gT383, gN383, gA390, gK390, gT390, gN390, gA391, gK391, gT391, gN391, gA392, gK392, gT392, gN392, gA473, gK473, gT473, gN473, gA474, gK474, gT474, gN474, gA475, gK475, gT475, gN475, gA492, gK492, gT492, gN492, gA496, gK496, gT496, gN496, gA497, gK497, gT497, gN497, gR0_0, gR0_1, gR0_2, gR0_3, gR0_4, gR0_5, gR0_6, gR0_7, gR0_8, gR0_9, gR0_10, gR0_11, gR0_12, gR1_0, gR4_2, gR8_0, gR8_1, gR8_2, gR12_5, gR14_0, gR14_1, gR14_2, gR42_0, gR45_0, gR49_9, gR49_10, gR49_11, gR49_12, gR49_15, gR49_16, gR49_17, gR49_18, gR49_19, gR49_20, gR49_21, gR49_23, gR49_24, gR49_25, gR49_26, gR49_34, gF54, gB54, gC54, gF215, gB215, gC215, gF376, gB376, gC376, gF383, gB383, gC383, gF392, gB392, gC392, gF475, gB475, gC475, gF492, gB492, gC492, ni_le, ni_lt, ni_eq, ni_add, ni_mul, lni_le, lni_lt, nil_le, nil_lt, lni_eq, nil_eq, lni_add, nil_add, lni_mul, nil_mul, ix_ni, ix_lit, ni_ne1, ni_lt0, ↓reduceIte, Nat.reduceEqDiff, Nat.reduceMul, Nat.reduceAdd, Nat.reduceLeDiff, and_true, true_and, false_and, and_false, if_true, if_false, Nat.not_lt_zero, false_or, or_false, ft9, decide_true, o10, eq_self, b2i_0, b2i_1, b2i_ok, b2i_inj, b2i_t, b2i_f, rIwIk, n01, h71, cl60, q6, r0, m6, q7, h51, h56]
  · rw [q] at w1
    rw [q1] at u1
    obtain ⟨m3, z1, z2⟩ := r_wrong (n := n) (k := 3) (p := b) g2 h52 u3 hb
    have h53 := Rf_5 z2 (by omega) (by omega)
    have g3 := (TR_f c2 z2).1
    refine ⟨m3, ?_, Rs_Rf wu z2⟩
    rw [show ni 3 = 3 from rfl] at z1
    replace qq := eq_true qq
    unfold F_X12_clause
    simp only [gO49 g, gO49 g1, gO49 g2, gO49 g3, gd_t, w1, bd_s, jn_e, lt9_e, b2i_t, b2i_f, o10, if_true, if_false, u1, u3, n11, h72, cl60, qq, z1, h53]
  · rw [q] at w1
    rw [q1] at u1
    obtain ⟨m3, s1, s2, s3⟩ := r_skipWord c2 u3 hb
    have c3 := TR_s c2 s2
    have g3 := c3.1
    have h73 := (s2.2 7 (by omega)).trans h72
    have q4 : Gq m3 (wI m3 49 7 (rI m3 49 7 + 1)) := ⟨Fm_wI (Fm_refl _ _) (.inl rfl), fun j hj => by rw [rIw, uf_ne (by omega)]⟩
    have c4 := TR_g c3 q4
    have g4 := c4.1
    obtain ⟨t1, t2⟩ := r_ns (lo := 1) c4 (a := wE x n b) (by rw [rIw, uf_ne (by omega)]; exact s3) (by rw [rIw, uf_ne (by omega), s2.2 5 (by omega)]; exact h52) hwe.2 hi30 (by omega) (by omega)
    have pre : Gq m (wI m3 49 7 (rI m3 49 7 + 1)) := Gq_trans (Rs_Gq (Rs_trans wu s2)) q4
    have rt4 : RT many lim ins (wI m3 49 7 (rI m3 49 7 + 1)) := by
      have := RT_s rt2 s2
      unfold RT
      rw [rIw_ne (by omega)]
      exact this
    rw [ni_1] at t1 t2
    refine ⟨fun v e z => ?_, fun k p z => ?_⟩
    · obtain ⟨m5, m6', v1, v2, v3, v4, v5, v6, v7, v8⟩ := t1 v e z
      have c6 := TR_s c4 v4
      have g6 := c6.1
      obtain ⟨rt60, rt61, rt62⟩ := RT_s rt4 v4
      have h56 : rI m6' 49 5 = 0 := by
        rw [v4.2 5 (by omega), rIw, uf_ne (by omega), s2.2 5 (by omega)]
        exact h52
      refine ⟨wI m6' 52 2 (ni v), ?_, ?_, ?_, ?_, ?_, ?_, v6⟩
      · unfold F_X12_clause
        simp (disch := first | assumption | omega | ((repeat (first | assumption | apply G_wI | apply G_wL | apply CSh_wI | apply CSh_wL)); done) | decide) only [↓dO0, ↓dO1, ↓dA2, ↓dK2, ↓dT2, ↓dO3, ↓dO4, ↓dA5, ↓dK5, ↓dT5, ↓dA6, ↓dK6, ↓dT6, ↓dA7, ↓dK7, ↓dT7, ↓dO8, ↓dA9, ↓dK9, ↓dT9, ↓dA10, ↓dK10, ↓dT10, ↓dA11, ↓dK11, ↓dT11, ↓dO12, ↓dA13, ↓dK13, ↓dT13, ↓dO14, ↓dA15, ↓dK15, ↓dT15, ↓dO16, ↓dO29, ↓dO42, ↓dA43, ↓dK43, ↓dT43, ↓dA44, ↓dK44, ↓dT44, ↓dO45, ↓dA46, ↓dK46, ↓dT46, ↓dO47, ↓dA48, ↓dK48, ↓dT48, ↓dO49, ↓dA50, ↓dK50, ↓dT50, ↓dA51, ↓dK51, ↓dT51, ↓dA52, ↓dK52, ↓dT52, ↓dA53, ↓dK53, ↓dT53, ↓dA54, ↓dK54, ↓dT54, ↓dA215, ↓dK215, ↓dT215, ↓dA376, ↓dK376, ↓dT376, ↓dA383, ↓dK383, ↓dT383, ↓dA390, ↓dK390, ↓dT390, ↓dA391, ↓dK391, ↓dT391, ↓dA392, ↓dK392, ↓dT392, ↓dA473, ↓dK473, ↓dT473, ↓dA474, ↓dK474, ↓dT474, ↓dA475, ↓dK475, ↓dT475, ↓dA492, ↓dK492, ↓dT492, ↓dA496, ↓dK496, ↓dT496, ↓dA497, ↓dK497, ↓dT497, ↓dR0_0, ↓dR0_1, ↓dR0_2, ↓dR0_3, ↓dR0_4, ↓dR0_5, ↓dR0_6, ↓dR0_7, ↓dR0_8, ↓dR0_9, ↓dR0_10, ↓dR0_11, ↓dR0_12, ↓dR1_0, ↓dR4_2, ↓dR8_0, ↓dR8_1, ↓dR8_2, ↓dR12_5, ↓dR14_0, ↓dR14_1, ↓dR14_2, ↓dR42_0, ↓dR45_0, ↓dR49_9, ↓dR49_10, ↓dR49_11, ↓dR49_12, ↓dR49_15, ↓dR49_16, ↓dR49_17, ↓dR49_18, ↓dR49_19, ↓dR49_20, ↓dR49_21, ↓dR49_23, ↓dR49_24, ↓dR49_25, ↓dR49_26, ↓dR49_34, ↓dF54, ↓dB54, ↓dC54, ↓dF215, ↓dB215, ↓dC215, ↓dF376, ↓dB376, ↓dC376, ↓dF383, ↓dB383, ↓dC383, ↓dF392, ↓dB392, ↓dC392, ↓dF475, ↓dB475, ↓dC475, ↓dF492, ↓dB492, ↓dC492, ↓lt9_e, ↓jn_e, ↓bd_s, ↓bdE w1, ↓bdE u1, ↓bdE s1, ↓bdE v1, ↓bdE v3, gd_t, bd_s, oc_s, oc_n, lt9_e, jn_e, okOwI, okAwI, okTwI, lnwI, okOwL, okAwL, okTwL, lnwL, rRwI, rRwL, sHwI, sHwL, rIwL, rLwI, gO0, gO1, gA2, gK2, gT2, gN2, gO3, gO4, gA5, gK5, gT5, gN5, gA6, gK6, gT6, gN6, gA7, gK7, gT7, gN7, gO8, gA9, gK9, gT9, gN9, gA10, gK10, gT10, gN10, gA11, gK11, gT11, gN11, gO12, gA13, gK13, gT13, gN13, gO14, gA15, gK15, gT15, gN15, gO16, gO29, gO42, gA43, gK43, gT43, gN43, gA44, gK44, gT44, gN44, gO45, gA46, gK46, gT46, gN46, gO47, gA48, gK48, gT48, gN48, gO49, gA50, gK50, gT50, gN50, gA51, gK51, gT51, gN51, gA52, gK52, gT52, gN52, gA53, gK53, gT53, gN53, gA54, gK54, gT54, gN54, gA215, gK215, gT215, gN215, gA376, gK376, gT376, gN376, gA383, gK383, gT383, gN383, gA390, gK390, gT390, gN390, gA391, gK391, gT391, gN391, gA392, gK392, gT392, gN392, gA473, gK473, gT473, gN473, gA474, gK474, gT474, gN474, gA475, gK475, gT475, gN475, gA492, gK492, gT492, gN492, gA496, gK496, gT496, gN496, gA497, gK497, gT497, gN497, gR0_0, gR0_1, gR0_2, gR0_3, gR0_4, gR0_5, gR0_6, gR0_7, gR0_8, gR0_9, gR0_10, gR0_11, gR0_12, gR1_0, gR4_2, gR8_0, gR8_1, gR8_2, gR12_5, gR14_0, gR14_1, gR14_2, gR42_0, gR45_0, gR49_9, gR49_10, gR49_11, gR49_12, gR49_15, gR49_16, gR49_17, gR49_18, gR49_19, gR49_20, gR49_21, gR49_23, gR49_24, gR49_25, gR49_26, gR49_34, gF54, gB54, gC54, gF215, gB215, gC215, gF376, gB376, gC376, gF383, gB383, gC383, gF392, gB392, gC392, gF475, gB475, gC475, gF492, gB492, gC492, ni_le, ni_lt, ni_eq, ni_add, ni_mul, lni_le, lni_lt, nil_le, nil_lt, lni_eq, nil_eq, lni_add, nil_add, lni_mul, nil_mul, ix_ni, ix_lit, ni_ne1, ni_lt0, ↓reduceIte, Nat.reduceEqDiff, Nat.reduceMul, Nat.reduceAdd, Nat.reduceLeDiff, and_true, true_and, false_and, and_false, if_true, if_false, Nat.not_lt_zero, false_or, or_false, ft9, decide_true, o10, eq_self, b2i_0, b2i_1, b2i_ok, b2i_inj, b2i_t, b2i_f, rIwIk, n11, h72, cl60, qq, h52, h56]
      · exact Gq_trans (Gq_trans pre (Rs_Gq v4)) ⟨Fm_wI (Fm_refl _ _) (.inr rfl), fun j hj => by rw [rIw_ne (by omega)]⟩
      · rw [rIw_ne (by omega)]
        exact v5
      · rw [rIw_ne (by omega)]
        exact h56
      · rw [rIw_ne (by omega), v4.2 7 (by omega), rIw, uf_at, h73]
        exact ni_add cl 1
      · refine ⟨?_, ?_, ?_⟩
        · rw [rIw, uf_ne (by omega)]
          exact rt60
        · rw [rIw, uf_ne (by omega)]
          exact rt61
        · rw [rIw, uf_at]
    · obtain ⟨r, m5, m6', v1, v2, v3, v4, v5, v6⟩ := t2 k p z
      have g6 := (TR_f c4 v4).1
      have h56 := Rf_5 v4 v5 v6
      refine ⟨m6', ?_, Gq_trans pre (Rf_Gq v4), v4.2.2.1, v4.2.2.2.1, v5, v6, v4.2.2.2.2⟩
      unfold F_X12_clause
      simp (disch := first | assumption | omega | ((repeat (first | assumption | apply G_wI | apply G_wL | apply CSh_wI | apply CSh_wL)); done) | decide) only [↓dO0, ↓dO1, ↓dA2, ↓dK2, ↓dT2, ↓dO3, ↓dO4, ↓dA5, ↓dK5, ↓dT5, ↓dA6, ↓dK6, ↓dT6, ↓dA7, ↓dK7, ↓dT7, ↓dO8, ↓dA9, ↓dK9, ↓dT9, ↓dA10, ↓dK10, ↓dT10, ↓dA11, ↓dK11, ↓dT11, ↓dO12, ↓dA13, ↓dK13, ↓dT13, ↓dO14, ↓dA15, ↓dK15, ↓dT15, ↓dO16, ↓dO29, ↓dO42, ↓dA43, ↓dK43, ↓dT43, ↓dA44, ↓dK44, ↓dT44, ↓dO45, ↓dA46, ↓dK46, ↓dT46, ↓dO47, ↓dA48, ↓dK48, ↓dT48, ↓dO49, ↓dA50, ↓dK50, ↓dT50, ↓dA51, ↓dK51, ↓dT51, ↓dA52, ↓dK52, ↓dT52, ↓dA53, ↓dK53, ↓dT53, ↓dA54, ↓dK54, ↓dT54, ↓dA215, ↓dK215, ↓dT215, ↓dA376, ↓dK376, ↓dT376, ↓dA383, ↓dK383, ↓dT383, ↓dA390, ↓dK390, ↓dT390, ↓dA391, ↓dK391, ↓dT391, ↓dA392, ↓dK392, ↓dT392, ↓dA473, ↓dK473, ↓dT473, ↓dA474, ↓dK474, ↓dT474, ↓dA475, ↓dK475, ↓dT475, ↓dA492, ↓dK492, ↓dT492, ↓dA496, ↓dK496, ↓dT496, ↓dA497, ↓dK497, ↓dT497, ↓dR0_0, ↓dR0_1, ↓dR0_2, ↓dR0_3, ↓dR0_4, ↓dR0_5, ↓dR0_6, ↓dR0_7, ↓dR0_8, ↓dR0_9, ↓dR0_10, ↓dR0_11, ↓dR0_12, ↓dR1_0, ↓dR4_2, ↓dR8_0, ↓dR8_1, ↓dR8_2, ↓dR12_5, ↓dR14_0, ↓dR14_1, ↓dR14_2, ↓dR42_0, ↓dR45_0, ↓dR49_9, ↓dR49_10, ↓dR49_11, ↓dR49_12, ↓dR49_15, ↓dR49_16, ↓dR49_17, ↓dR49_18, ↓dR49_19, ↓dR49_20, ↓dR49_21, ↓dR49_23, ↓dR49_24, ↓dR49_25, ↓dR49_26, ↓dR49_34, ↓dF54, ↓dB54, ↓dC54, ↓dF215, ↓dB215, ↓dC215, ↓dF376, ↓dB376, ↓dC376, ↓dF383, ↓dB383, ↓dC383, ↓dF392, ↓dB392, ↓dC392, ↓dF475, ↓dB475, ↓dC475, ↓dF492, ↓dB492, ↓dC492, ↓lt9_e, ↓jn_e, ↓bd_s, ↓bdE w1, ↓bdE u1, ↓bdE s1, ↓bdE v1, ↓bdE v3, gd_t, bd_s, oc_s, oc_n, lt9_e, jn_e, okOwI, okAwI, okTwI, lnwI, okOwL, okAwL, okTwL, lnwL, rRwI, rRwL, sHwI, sHwL, rIwL, rLwI, gO0, gO1, gA2, gK2, gT2, gN2, gO3, gO4, gA5, gK5, gT5, gN5, gA6, gK6, gT6, gN6, gA7, gK7, gT7, gN7, gO8, gA9, gK9, gT9, gN9, gA10, gK10, gT10, gN10, gA11, gK11, gT11, gN11, gO12, gA13, gK13, gT13, gN13, gO14, gA15, gK15, gT15, gN15, gO16, gO29, gO42, gA43, gK43, gT43, gN43, gA44, gK44, gT44, gN44, gO45, gA46, gK46, gT46, gN46, gO47, gA48, gK48, gT48, gN48, gO49, gA50, gK50, gT50, gN50, gA51, gK51, gT51, gN51, gA52, gK52, gT52, gN52, gA53, gK53, gT53, gN53, gA54, gK54, gT54, gN54, gA215, gK215, gT215, gN215, gA376, gK376, gT376, gN376, gA383, gK383, gT383, gN383, gA390, gK390, gT390, gN390, gA391, gK391, gT391, gN391, gA392, gK392, gT392, gN392, gA473, gK473, gT473, gN473, gA474, gK474, gT474, gN474, gA475, gK475, gT475, gN475, gA492, gK492, gT492, gN492, gA496, gK496, gT496, gN496, gA497, gK497, gT497, gN497, gR0_0, gR0_1, gR0_2, gR0_3, gR0_4, gR0_5, gR0_6, gR0_7, gR0_8, gR0_9, gR0_10, gR0_11, gR0_12, gR1_0, gR4_2, gR8_0, gR8_1, gR8_2, gR12_5, gR14_0, gR14_1, gR14_2, gR42_0, gR45_0, gR49_9, gR49_10, gR49_11, gR49_12, gR49_15, gR49_16, gR49_17, gR49_18, gR49_19, gR49_20, gR49_21, gR49_23, gR49_24, gR49_25, gR49_26, gR49_34, gF54, gB54, gC54, gF215, gB215, gC215, gF376, gB376, gC376, gF383, gB383, gC383, gF392, gB392, gC392, gF475, gB475, gC475, gF492, gB492, gC492, ni_le, ni_lt, ni_eq, ni_add, ni_mul, lni_le, lni_lt, nil_le, nil_lt, lni_eq, nil_eq, lni_add, nil_add, lni_mul, nil_mul, ix_ni, ix_lit, ni_ne1, ni_lt0, ↓reduceIte, Nat.reduceEqDiff, Nat.reduceMul, Nat.reduceAdd, Nat.reduceLeDiff, and_true, true_and, false_and, and_false, if_true, if_false, Nat.not_lt_zero, false_or, or_false, ft9, decide_true, o10, eq_self, b2i_0, b2i_1, b2i_ok, b2i_inj, b2i_t, b2i_f, rIwIk, n11, h72, cl60, qq, h52, h56]
theorem r_grpL {K : Nat → Mm → Option (Int32 × Mm)} {x : Nat → Nat} {n : Nat} :
    ∀ (f cl many lim a fuel : Nat) (ins : Int32) (m : Mm), f + cl = 61 → 0 < f → f < fuel → many ≤ 6 → TR x n m → rI m 49 4 = ni a → a ≤ n → blk x n a = a → rI m 49 5 = 0 → rI m 49 7 = ni cl → RT many lim ins m →
      (∀ mm ii ll, grpP x n f cl many ins lim a = .inl (mm, ii, ll) → ∃ m', L_X12_group_42 K fuel 49 m = K 49 m' ∧ Gq m m' ∧ rI m' 49 5 = 0 ∧ RT mm ll ii m') ∧
      (∀ k p, grpP x n f cl many ins lim a = .inr (k, p) → ∃ m', L_X12_group_42 K fuel 49 m = K 49 m' ∧ Gq m m' ∧ rI m' 49 5 = ni k ∧ rI m' 49 6 = ni p ∧ k ≠ 0 ∧ k < 4) := by
  intro f
  induction f with
  | zero =>
    intro cl many lim a fuel ins m h1 h2
    omega
  | succ f ih =>
    intro cl many lim a fuel ins m hcl _ hf hm c h4 hn hbb h5 h7 rt
    obtain ⟨fuel, rfl⟩ : ∃ g, fuel = g + 1 := ⟨fuel - 1, by omega⟩
    have g := c.1
    have h2 := c.2.2.1
    have h6 := c.2.1
    rw [grpP, hbb]
    by_cases q0 : n ≤ a
    · rw [if_pos q0, L_X12_group_42]
      refine ⟨fun mm ii ll z => ?_, fun k p z => (by cases z)⟩
      cases z
      refine ⟨m, ?_, Gq_refl m, h5, rt⟩
      simp (disch := first | assumption | omega | ((repeat (first | assumption | apply G_wI | apply G_wL | apply CSh_wI | apply CSh_wL)); done) | decide) only [↓dO0, ↓dO1, ↓dA2, ↓dK2, ↓dT2, ↓dO3, ↓dO4, ↓dA5, ↓dK5, ↓dT5, ↓dA6, ↓dK6, ↓dT6, ↓dA7, ↓dK7, ↓dT7, ↓dO8, ↓dA9, ↓dK9, ↓dT9, ↓dA10, ↓dK10, ↓dT10, ↓dA11, ↓dK11, ↓dT11, ↓dO12, ↓dA13, ↓dK13, ↓dT13, ↓dO14, ↓dA15, ↓dK15, ↓dT15, ↓dO16, ↓dO29, ↓dO42, ↓dA43, ↓dK43, ↓dT43, ↓dA44, ↓dK44, ↓dT44, ↓dO45, ↓dA46, ↓dK46, ↓dT46, ↓dO47, ↓dA48, ↓dK48, ↓dT48, ↓dO49, ↓dA50, ↓dK50, ↓dT50, ↓dA51, ↓dK51, ↓dT51, ↓dA52, ↓dK52, ↓dT52, ↓dA53, ↓dK53, ↓dT53, ↓dA54, ↓dK54, ↓dT54, ↓dA215, ↓dK215, ↓dT215, ↓dA376, ↓dK376, ↓dT376, ↓dA383, ↓dK383, ↓dT383, ↓dA390, ↓dK390, ↓dT390, ↓dA391, ↓dK391, ↓dT391, ↓dA392, ↓dK392, ↓dT392, ↓dA473, ↓dK473, ↓dT473, ↓dA474, ↓dK474, ↓dT474, ↓dA475, ↓dK475, ↓dT475, ↓dA492, ↓dK492, ↓dT492, ↓dA496, ↓dK496, ↓dT496, ↓dA497, ↓dK497, ↓dT497, ↓dR0_0, ↓dR0_1, ↓dR0_2, ↓dR0_3, ↓dR0_4, ↓dR0_5, ↓dR0_6, ↓dR0_7, ↓dR0_8, ↓dR0_9, ↓dR0_10, ↓dR0_11, ↓dR0_12, ↓dR1_0, ↓dR4_2, ↓dR8_0, ↓dR8_1, ↓dR8_2, ↓dR12_5, ↓dR14_0, ↓dR14_1, ↓dR14_2, ↓dR42_0, ↓dR45_0, ↓dR49_9, ↓dR49_10, ↓dR49_11, ↓dR49_12, ↓dR49_15, ↓dR49_16, ↓dR49_17, ↓dR49_18, ↓dR49_19, ↓dR49_20, ↓dR49_21, ↓dR49_23, ↓dR49_24, ↓dR49_25, ↓dR49_26, ↓dR49_34, ↓dF54, ↓dB54, ↓dC54, ↓dF215, ↓dB215, ↓dC215, ↓dF376, ↓dB376, ↓dC376, ↓dF383, ↓dB383, ↓dC383, ↓dF392, ↓dB392, ↓dC392, ↓dF475, ↓dB475, ↓dC475, ↓dF492, ↓dB492, ↓dC492, ↓lt9_e, ↓jn_e, ↓bd_s, gd_t, bd_s, oc_s, oc_n, lt9_e, jn_e, okOwI, okAwI, okTwI, lnwI, okOwL, okAwL, okTwL, lnwL, rRwI, rRwL, sHwI, sHwL, rIwL, rLwI, gO0, gO1, gA2, gK2, gT2, gN2, gO3, gO4, gA5, gK5, gT5, gN5, gA6, gK6, gT6, gN6, gA7, gK7, gT7, gN7, gO8, gA9, gK9, gT9, gN9, gA10, gK10, gT10, gN10, gA11, gK11, gT11, gN11, gO12, gA13, gK13, gT13, gN13, gO14, gA15, gK15, gT15, gN15, gO16, gO29, gO42, gA43, gK43, gT43, gN43, gA44, gK44, gT44, gN44, gO45, gA46, gK46, gT46, gN46, gO47, gA48, gK48, gT48, gN48, gO49, gA50, gK50, gT50, gN50, gA51, gK51, gT51, gN51, gA52, gK52, gT52, gN52, gA53, gK53, gT53, gN53, gA54, gK54, gT54, gN54, gA215, gK215, gT215, gN215, gA376, gK376, gT376, gN376, gA383, gK383, gT383, gN383, gA390, gK390, gT390, gN390, gA391, gK391, gT391, gN391, gA392, gK392, gT392, gN392, gA473, gK473, gT473, gN473, gA474, gK474, gT474, gN474, gA475, gK475, gT475, gN475, gA492, gK492, gT492, gN492, gA496, gK496, gT496, gN496, gA497, gK497, gT497, gN497, gR0_0, gR0_1, gR0_2, gR0_3, gR0_4, gR0_5, gR0_6, gR0_7, gR0_8, gR0_9, gR0_10, gR0_11, gR0_12, gR1_0, gR4_2, gR8_0, gR8_1, gR8_2, gR12_5, gR14_0, gR14_1, gR14_2, gR42_0, gR45_0, gR49_9, gR49_10, gR49_11, gR49_12, gR49_15, gR49_16, gR49_17, gR49_18, gR49_19, gR49_20, gR49_21, gR49_23, gR49_24, gR49_25, gR49_26, gR49_34, gF54, gB54, gC54, gF215, gB215, gC215, gF376, gB376, gC376, gF383, gB383, gC383, gF392, gB392, gC392, gF475, gB475, gC475, gF492, gB492, gC492, ni_le, ni_lt, ni_eq, ni_add, ni_mul, lni_le, lni_lt, nil_le, nil_lt, lni_eq, nil_eq, lni_add, nil_add, lni_mul, nil_mul, ix_ni, ix_lit, ni_ne1, ni_lt0, ↓reduceIte, Nat.reduceEqDiff, Nat.reduceMul, Nat.reduceAdd, Nat.reduceLeDiff, and_true, true_and, false_and, and_false, if_true, if_false, Nat.not_lt_zero, false_or, or_false, ft9, decide_true, o10, eq_self, b2i_0, b2i_1, b2i_ok, b2i_inj, b2i_t, b2i_f, rIwIk, h5, h2, h4, q0]
    · rw [if_neg q0]
      obtain ⟨z1, z2, z3, z4, z5⟩ := r_clauseF c h4 hn hbb h5 h7 rt hm (by omega)
      -- a fault ends the loop
      have fin : ∀ (k p : Nat) (m' : Mm), F_X12_clause 49 m = some ((), m') → Gq m m' → rI m' 49 5 = ni k → rI m' 49 6 = ni p → k ≠ 0 → k < 4 → (∃ a, a ≤ n ∧ rI m' 49 4 = ni a) → ∃ m2, L_X12_group_42 K (fuel + 1) 49 m = K 49 m2 ∧ Gq m m2 ∧ rI m2 49 5 = ni k ∧ rI m2 49 6 = ni p ∧ k ≠ 0 ∧ k < 4 := by
        rintro k p m' e1 e2 e3 e4 e5 e6 ⟨a', ha', e7⟩
        have c' := TR_g c e2
        obtain ⟨m2, b1, b2, b3⟩ := r_blanks c' e7 ha'
        have c2 := TR_s c' b2
        have g' := c'.1
        have g2 := c2.1
        have h52 : rI m2 49 5 = ni k := (b2.2 5 (by omega)).trans e3
        have h5n : ¬ ni k = 0 := fun z => e5 ((ni_eq (b := 0) (by omega) (by omega)).mp z)
        refine ⟨m2, ?_, Gq_trans e2 (Rs_Gq b2), h52, (b2.2 6 (by omega)).trans e4, e5, e6⟩
        obtain ⟨fuel, rfl⟩ : ∃ g, fuel = g + 1 := ⟨fuel - 1, by omega⟩
        rw [L_X12_group_42]
        simp (disch := first | assumption | omega | ((repeat (first | assumption | apply G_wI | apply G_wL | apply CSh_wI | apply CSh_wL)); done) | decide) only [↓dO0, ↓dO1, ↓dA2, ↓dK2, ↓dT2, ↓dO3, ↓dO4, ↓dA5, ↓dK5, ↓dT5, ↓dA6, ↓dK6, ↓dT6, ↓dA7, ↓dK7, ↓dT7, ↓dO8, ↓dA9, ↓dK9, ↓dT9, ↓dA10, ↓dK10, ↓dT10, ↓dA11, ↓dK11, ↓dT11, ↓dO12, ↓dA13, ↓dK13, ↓dT13, ↓dO14, ↓dA15, ↓dK15, ↓dT15, ↓dO16, ↓dO29, ↓dO42, ↓dA43, ↓dK43, ↓dT43, ↓dA44, ↓dK44, ↓dT44, ↓dO45, ↓dA46, ↓dK46, ↓dT46, ↓dO47, ↓dA48, ↓dK48, ↓dT48, ↓dO49, ↓dA50, ↓dK50, ↓dT50, ↓dA51, ↓dK51, ↓dT51, ↓dA52, ↓dK52, ↓dT52, ↓dA53, ↓dK53, ↓dT53, ↓dA54, ↓dK54, ↓dT54, ↓dA215, ↓dK215, ↓dT215, ↓dA376, ↓dK376, ↓dT376, ↓dA383, ↓dK383, ↓dT383, ↓dA390, ↓dK390, ↓dT390, ↓dA391, ↓dK391, ↓dT391, ↓dA392, ↓dK392, ↓dT392, ↓dA473, ↓dK473, ↓dT473, ↓dA474, ↓dK474, ↓dT474, ↓dA475, ↓dK475, ↓dT475, ↓dA492, ↓dK492, ↓dT492, ↓dA496, ↓dK496, ↓dT496, ↓dA497, ↓dK497, ↓dT497, ↓dR0_0, ↓dR0_1, ↓dR0_2, ↓dR0_3, ↓dR0_4, ↓dR0_5, ↓dR0_6, ↓dR0_7, ↓dR0_8, ↓dR0_9, ↓dR0_10, ↓dR0_11, ↓dR0_12, ↓dR1_0, ↓dR4_2, ↓dR8_0, ↓dR8_1, ↓dR8_2, ↓dR12_5, ↓dR14_0, ↓dR14_1, ↓dR14_2, ↓dR42_0, ↓dR45_0, ↓dR49_9, ↓dR49_10, ↓dR49_11, ↓dR49_12, ↓dR49_15, ↓dR49_16, ↓dR49_17, ↓dR49_18, ↓dR49_19, ↓dR49_20, ↓dR49_21, ↓dR49_23, ↓dR49_24, ↓dR49_25, ↓dR49_26, ↓dR49_34, ↓dF54, ↓dB54, ↓dC54, ↓dF215, ↓dB215, ↓dC215, ↓dF376, ↓dB376, ↓dC376, ↓dF383, ↓dB383, ↓dC383, ↓dF392, ↓dB392, ↓dC392, ↓dF475, ↓dB475, ↓dC475, ↓dF492, ↓dB492, ↓dC492, ↓lt9_e, ↓jn_e, ↓bd_s, gd_t, bd_s, oc_s, oc_n, lt9_e, jn_e, okOwI, okAwI, okTwI, lnwI, okOwL, okAwL, okTwL, lnwL, rRwI, rRwL, sHwI, sHwL, rIwL, rLwI, gO0, gO1, gA2, gK2, gT2, gN2, gO3, gO4, gA5, gK5, gT5, gN5, gA6, gK6, gT6, gN6, gA7, gK7, gT7, gN7, gO8, gA9, gK9, gT9, gN9, gA10, gK10, gT10, gN10, gA11, gK11, gT11, gN11, gO12, gA13, gK13, gT13, gN13, gO14, gA15, gK15, gT15, gN15, gO16, gO29, gO42, gA43, gK43, gT43, gN43, gA44, gK44, gT44, gN44, gO45, gA46, gK46, gT46, gN46, gO47, gA48, gK48, gT48, gN48, gO49, gA50, gK50, gT50, gN50, gA51, gK51, gT51, gN51, gA52, gK52, gT52, gN52, gA53, gK53, gT53, gN53, gA54, gK54, gT54, gN54, gA215, gK215, gT215, gN215, gA376, gK376, gT376, gN376, gA383, gK383, gT383, gN383, gA390, gK390, gT390, gN390, gA391, gK391, gT391, gN391, gA392, gK392, gT392, gN392, gA473, gK473, gT473, gN473, gA474, gK474, gT474, gN474, gA475, gK475, gT475, gN475, gA492, gK492, gT492, gN492, gA496, gK496, gT496, gN496, gA497, gK497, gT497, gN497, gR0_0, gR0_1, gR0_2, gR0_3, gR0_4, gR0_5, gR0_6, gR0_7, gR0_8, gR0_9, gR0_10, gR0_11, gR0_12, gR1_0, gR4_2, gR8_0, gR8_1, gR8_2, gR12_5, gR14_0, gR14_1, gR14_2, gR42_0, gR45_0, gR49_9, gR49_10, gR49_11, gR49_12, gR49_15, gR49_16, gR49_17, gR49_18, gR49_19, gR49_20, gR49_21, gR49_23, gR49_24, gR49_25, gR49_26, gR49_34, gF54, gB54, gC54, gF215, gB215, gC215, gF376, gB376, gC376, gF383, gB383, gC383, gF392, gB392, gC392, gF475, gB475, gC475, gF492, gB492, gC492, ni_le, ni_lt, ni_eq, ni_add, ni_mul, lni_le, lni_lt, nil_le, nil_lt, lni_eq, nil_eq, lni_add, nil_add, lni_mul, nil_mul, ix_ni, ix_lit, ni_ne1, ni_lt0, ↓reduceIte, Nat.reduceEqDiff, Nat.reduceMul, Nat.reduceAdd, Nat.reduceLeDiff, and_true, true_and, false_and, and_false, if_true, if_false, Nat.not_lt_zero, false_or, or_false, ft9, decide_true, o10, eq_self, b2i_0, b2i_1, b2i_ok, b2i_inj, b2i_t, b2i_f, rIwIk, h5, h2, h4, q0, ↓bdE e1, ↓bdE b1]
        rw [L_X12_group_42]
        simp (disch := first | assumption | omega | ((repeat (first | assumption | apply G_wI | apply G_wL | apply CSh_wI | apply CSh_wL)); done) | decide) only [↓dO0, ↓dO1, ↓dA2, ↓dK2, ↓dT2, ↓dO3, ↓dO4, ↓dA5, ↓dK5, ↓dT5, ↓dA6, ↓dK6, ↓dT6, ↓dA7, ↓dK7, ↓dT7, ↓dO8, ↓dA9, ↓dK9, ↓dT9, ↓dA10, ↓dK10, ↓dT10, ↓dA11, ↓dK11, ↓dT11, ↓dO12, ↓dA13, ↓dK13, ↓dT13, ↓dO14, ↓dA15, ↓dK15, ↓dT15, ↓dO16, ↓dO29, ↓dO42, ↓dA43, ↓dK43, ↓dT43, ↓dA44, ↓dK44, ↓dT44, ↓dO45, ↓dA46, ↓dK46, ↓dT46, ↓dO47, ↓dA48, ↓dK48, ↓dT48, ↓dO49, ↓dA50, ↓dK50, ↓dT50, ↓dA51, ↓dK51, ↓dT51, ↓dA52, ↓dK52, ↓dT52, ↓dA53, ↓dK53, ↓dT53, ↓dA54, ↓dK54, ↓dT54, ↓dA215, ↓dK215, ↓dT215, ↓dA376, ↓dK376, ↓dT376, ↓dA383, ↓dK383, ↓dT383, ↓dA390, ↓dK390, ↓dT390, ↓dA391, ↓dK391, ↓dT391, ↓dA392, ↓dK392, ↓dT392, ↓dA473, ↓dK473, ↓dT473, ↓dA474, ↓dK474, ↓dT474, ↓dA475, ↓dK475, ↓dT475, ↓dA492, ↓dK492, ↓dT492, ↓dA496, ↓dK496, ↓dT496, ↓dA497, ↓dK497, ↓dT497, ↓dR0_0, ↓dR0_1, ↓dR0_2, ↓dR0_3, ↓dR0_4, ↓dR0_5, ↓dR0_6, ↓dR0_7, ↓dR0_8, ↓dR0_9, ↓dR0_10, ↓dR0_11, ↓dR0_12, ↓dR1_0, ↓dR4_2, ↓dR8_0, ↓dR8_1, ↓dR8_2, ↓dR12_5, ↓dR14_0, ↓dR14_1, ↓dR14_2, ↓dR42_0, ↓dR45_0, ↓dR49_9, ↓dR49_10, ↓dR49_11, ↓dR49_12, ↓dR49_15, ↓dR49_16, ↓dR49_17, ↓dR49_18, ↓dR49_19, ↓dR49_20, ↓dR49_21, ↓dR49_23, ↓dR49_24, ↓dR49_25, ↓dR49_26, ↓dR49_34, ↓dF54, ↓dB54, ↓dC54, ↓dF215, ↓dB215, ↓dC215, ↓dF376, ↓dB376, ↓dC376, ↓dF383, ↓dB383, ↓dC383, ↓dF392, ↓dB392, ↓dC392, ↓dF475, ↓dB475, ↓dC475, ↓dF492, ↓dB492, ↓dC492, ↓lt9_e, ↓jn_e, ↓bd_s, gd_t, bd_s, oc_s, oc_n, lt9_e, jn_e, okOwI, okAwI, okTwI, lnwI, okOwL, okAwL, okTwL, lnwL, rRwI, rRwL, sHwI, sHwL, rIwL, rLwI, gO0, gO1, gA2, gK2, gT2, gN2, gO3, gO4, gA5, gK5, gT5, gN5, gA6, gK6, gT6, gN6, gA7, gK7, gT7, gN7, gO8, gA9, gK9, gT9, gN9, gA10, gK10, gT10, gN10, gA11, gK11, gT11, gN11, gO12, gA13, gK13, gT13, gN13, gO14, gA15, gK15, gT15, gN15, gO16, gO29, gO42, gA43, gK43, gT43, gN43, gA44, gK44, gT44, gN44, gO45, gA46, gK46, gT46, gN46, gO47, gA48, gK48, gT48, gN48, gO49, gA50, gK50, gT50, gN50, gA51, gK51, gT51, gN51, gA52, gK52, gT52, gN52, gA53, gK53, gT53, gN53, gA54, gK54, gT54, gN54, gA215, gK215, gT215, gN215, gA376, gK376, gT376, gN376, gA383, gK383, gT383, gN383, gA390, gK390, gT390, gN390, gA391, gK391, gT391, gN391, gA392, gK392, gT392, gN392, gA473, gK473, gT473, gN473, gA474, gK474, gT474, gN474, gA475, gK475, gT475, gN475, gA492, gK492, gT492, gN492, gA496, gK496, gT496, gN496, gA497, gK497, gT497, gN497, gR0_0, gR0_1, gR0_2, gR0_3, gR0_4, gR0_5, gR0_6, gR0_7, gR0_8, gR0_9, gR0_10, gR0_11, gR0_12, gR1_0, gR4_2, gR8_0, gR8_1, gR8_2, gR12_5, gR14_0, gR14_1, gR14_2, gR42_0, gR45_0, gR49_9, gR49_10, gR49_11, gR49_12, gR49_15, gR49_16, gR49_17, gR49_18, gR49_19, gR49_20, gR49_21, gR49_23, gR49_24, gR49_25, gR49_26, gR49_34, gF54, gB54, gC54, gF215, gB215, gC215, gF376, gB376, gC376, gF383, gB383, gC383, gF392, gB392, gC392, gF475, gB475, gC475, gF492, gB492, gC492, ni_le, ni_lt, ni_eq, ni_add, ni_mul, lni_le, lni_lt, nil_le, nil_lt, lni_eq, nil_eq, lni_add, nil_add, lni_mul, nil_mul, ix_ni, ix_lit, ni_ne1, ni_lt0, ↓reduceIte, Nat.reduceEqDiff, Nat.reduceMul, Nat.reduceAdd, Nat.reduceLeDiff, and_true, true_and, false_and, and_false, if_true, if_false, Nat.not_lt_zero, false_or, or_false, ft9, decide_true, o10, eq_self, b2i_0, b2i_1, b2i_ok, b2i_inj, b2i_t, b2i_f, rIwIk, h52, h5n]
      -- a good clause goes on
      have go : ∀ (e many' lim' : Nat) (ins' : Int32) (m' : Mm), F_X12_clause 49 m = some ((), m') → Gq m m' → rI m' 49 4 = ni e → rI m' 49 5 = 0 → rI m' 49 7 = ni (cl + 1) → RT many' lim' ins' m' → e ≤ n → 0 < f → many' ≤ 6 →
          (∀ mm ii ll, grpP x n f (cl + 1) many' ins' lim' e = .inl (mm, ii, ll) → ∃ m2, L_X12_group_42 K (fuel + 1) 49 m = K 49 m2 ∧ Gq m m2 ∧ rI m2 49 5 = 0 ∧ RT mm ll ii m2) ∧
          (∀ k p, grpP x n f (cl + 1) many' ins' lim' e = .inr (k, p) → ∃ m2, L_X12_group_42 K (fuel + 1) 49 m = K 49 m2 ∧ Gq m m2 ∧ rI m2 49 5 = ni k ∧ rI m2 49 6 = ni p ∧ k ≠ 0 ∧ k < 4) := by
        intro e many' lim' ins' m' e1 e2 e3 e4 e5 e6 e7 e8 e9
        have c' := TR_g c e2
        obtain ⟨m2, b1, b2, b3⟩ := r_blanks c' e3 e7
        have c2 := TR_s c' b2
        have g' := c'.1
        have hb := blk_le (x := x) e7
        have hp : L_X12_group_42 K (fuel + 1) 49 m = L_X12_group_42 K fuel 49 m2 := by
          rw [L_X12_group_42]
          simp (disch := first | assumption | omega | ((repeat (first | assumption | apply G_wI | apply G_wL | apply CSh_wI | apply CSh_wL)); done) | decide) only [↓dO0, ↓dO1, ↓dA2, ↓dK2, ↓dT2, ↓dO3, ↓dO4, ↓dA5, ↓dK5, ↓dT5, ↓dA6, ↓dK6, ↓dT6, ↓dA7, ↓dK7, ↓dT7, ↓dO8, ↓dA9, ↓dK9, ↓dT9, ↓dA10, ↓dK10, ↓dT10, ↓dA11, ↓dK11, ↓dT11, ↓dO12, ↓dA13, ↓dK13, ↓dT13, ↓dO14, ↓dA15, ↓dK15, ↓dT15, ↓dO16, ↓dO29, ↓dO42, ↓dA43, ↓dK43, ↓dT43, ↓dA44, ↓dK44, ↓dT44, ↓dO45, ↓dA46, ↓dK46, ↓dT46, ↓dO47, ↓dA48, ↓dK48, ↓dT48, ↓dO49, ↓dA50, ↓dK50, ↓dT50, ↓dA51, ↓dK51, ↓dT51, ↓dA52, ↓dK52, ↓dT52, ↓dA53, ↓dK53, ↓dT53, ↓dA54, ↓dK54, ↓dT54, ↓dA215, ↓dK215, ↓dT215, ↓dA376, ↓dK376, ↓dT376, ↓dA383, ↓dK383, ↓dT383, ↓dA390, ↓dK390, ↓dT390, ↓dA391, ↓dK391, ↓dT391, ↓dA392, ↓dK392, ↓dT392, ↓dA473, ↓dK473, ↓dT473, ↓dA474, ↓dK474, ↓dT474, ↓dA475, ↓dK475, ↓dT475, ↓dA492, ↓dK492, ↓dT492, ↓dA496, ↓dK496, ↓dT496, ↓dA497, ↓dK497, ↓dT497, ↓dR0_0, ↓dR0_1, ↓dR0_2, ↓dR0_3, ↓dR0_4, ↓dR0_5, ↓dR0_6, ↓dR0_7, ↓dR0_8, ↓dR0_9, ↓dR0_10, ↓dR0_11, ↓dR0_12, ↓dR1_0, ↓dR4_2, ↓dR8_0, ↓dR8_1, ↓dR8_2, ↓dR12_5, ↓dR14_0, ↓dR14_1, ↓dR14_2, ↓dR42_0, ↓dR45_0, ↓dR49_9, ↓dR49_10, ↓dR49_11, ↓dR49_12, ↓dR49_15, ↓dR49_16, ↓dR49_17, ↓dR49_18, ↓dR49_19, ↓dR49_20, ↓dR49_21, ↓dR49_23, ↓dR49_24, ↓dR49_25, ↓dR49_26, ↓dR49_34, ↓dF54, ↓dB54, ↓dC54, ↓dF215, ↓dB215, ↓dC215, ↓dF376, ↓dB376, ↓dC376, ↓dF383, ↓dB383, ↓dC383, ↓dF392, ↓dB392, ↓dC392, ↓dF475, ↓dB475, ↓dC475, ↓dF492, ↓dB492, ↓dC492, ↓lt9_e, ↓jn_e, ↓bd_s, gd_t, bd_s, oc_s, oc_n, lt9_e, jn_e, okOwI, okAwI, okTwI, lnwI, okOwL, okAwL, okTwL, lnwL, rRwI, rRwL, sHwI, sHwL, rIwL, rLwI, gO0, gO1, gA2, gK2, gT2, gN2, gO3, gO4, gA5, gK5, gT5, gN5, gA6, gK6, gT6, gN6, gA7, gK7, gT7, gN7, gO8, gA9, gK9, gT9, gN9, gA10, gK10, gT10, gN10, gA11, gK11, gT11, gN11, gO12, gA13, gK13, gT13, gN13, gO14, gA15, gK15, gT15, gN15, gO16, gO29, gO42, gA43, gK43, gT43, gN43, gA44, gK44, gT44, gN44, gO45, gA46, gK46, gT46, gN46, gO47, gA48, gK48, gT48, gN48, gO49, gA50, gK50, gT50, gN50, gA51, gK51, gT51, gN51, gA52, gK52, gT52, gN52, gA53, gK53, gT53, gN53, gA54, gK54, gT54, gN54, gA215, gK215, gT215, gN215, gA376, gK376, gT376, gN376, gA383, gK383, gT383, gN383, gA390, gK390, gT390, gN390, gA391, gK391, gT391, gN391, gA392, gK392, gT392, gN392, gA473, gK473, gT473, gN473, gA474, gK474, gT474, gN474, gA475, gK475, gT475, gN475, gA492, gK492, gT492, gN492, gA496, gK496, gT496, gN496, gA497, gK497, gT497, gN497, gR0_0, gR0_1, gR0_2, gR0_3, gR0_4, gR0_5, gR0_6, gR0_7, gR0_8, gR0_9, gR0_10, gR0_11, gR0_12, gR1_0, gR4_2, gR8_0, gR8_1, gR8_2, gR12_5, gR14_0, gR14_1, gR14_2, gR42_0, gR45_0, gR49_9, gR49_10, gR49_11, gR49_12, gR49_15, gR49_16, gR49_17, gR49_18, gR49_19, gR49_20, gR49_21, gR49_23, gR49_24, gR49_25, gR49_26, gR49_34, gF54, gB54, gC54, gF215, gB215, gC215, gF376, gB376, gC376, gF383, gB383, gC383, gF392, gB392, gC392, gF475, gB475, gC475, gF492, gB492, gC492, ni_le, ni_lt, ni_eq, ni_add, ni_mul, lni_le, lni_lt, nil_le, nil_lt, lni_eq, nil_eq, lni_add, nil_add, lni_mul, nil_mul, ix_ni, ix_lit, ni_ne1, ni_lt0, ↓reduceIte, Nat.reduceEqDiff, Nat.reduceMul, Nat.reduceAdd, Nat.reduceLeDiff, and_true, true_and, false_and, and_false, if_true, if_false, Nat.not_lt_zero, false_or, or_false, ft9, decide_true, o10, eq_self, b2i_0, b2i_1, b2i_ok, b2i_inj, b2i_t, b2i_f, rIwIk, h5, h2, h4, q0, ↓bdE e1, ↓bdE b1]
        have hG : grpP x n f (cl + 1) many' ins' lim' e = grpP x n f (cl + 1) many' ins' lim' (blk x n e) := by
          cases f with
          | zero => omega
          | succ f => rw [grpP, grpP, blk_blk e7]
        have z := ih (cl + 1) many' lim' (blk x n e) fuel ins' m2 (by omega) e8 (by omega) e9 c2 b3 hb.2 (blk_blk e7) ((b2.2 5 (by omega)).trans e4) ((b2.2 7 (by omega)).trans e5) (RT_s e6 b2)
        rw [hp, hG]
        refine ⟨fun mm ii ll w => ?_, fun k p w => ?_⟩
        · obtain ⟨m3, s1, s2, s3, s4⟩ := z.1 mm ii ll w
          exact ⟨m3, s1, Gq_trans (Gq_trans e2 (Rs_Gq b2)) s2, s3, s4⟩
        · obtain ⟨m3, s1, s2, s3⟩ := z.2 k p w
          exact ⟨m3, s1, Gq_trans (Gq_trans e2 (Rs_Gq b2)) s2, s3⟩
      have finR : ∀ (k : Nat), (∃ m', F_X12_clause 49 m = some ((), m') ∧ Rf n k a m m') → k ≠ 0 → k < 4 → ∃ m2, L_X12_group_42 K (fuel + 1) 49 m = K 49 m2 ∧ Gq m m2 ∧ rI m2 49 5 = ni k ∧ rI m2 49 6 = ni a ∧ k ≠ 0 ∧ k < 4 := by
        rintro k ⟨m', e1, e2⟩ e3 e4
        exact fin k a m' e1 (Rf_Gq e2) e2.2.2.1 e2.2.2.2.1 e3 e4 e2.2.2.2.2
      cases q1 : isL x n a
      · simp only [if_true]
        refine ⟨fun mm ii ll z => (by cases z), fun k p z => ?_⟩
        cases z
        exact finR 1 (z1 ⟨isW_no (by omega) q1, isW_no (by omega) q1⟩) (by omega) (by omega)
      · simp only [reduceCtorEq, if_false]
        cases q2 : isW x a (wE x n a) (sN 0)
        · simp only [reduceCtorEq, if_false]
          cases q3 : isW x a (wE x n a) (sN 1)
          · simp only [reduceCtorEq, if_false]
            refine ⟨fun mm ii ll z => (by cases z), fun k p z => ?_⟩
            cases z
            exact finR 1 (z1 ⟨q2, q3⟩) (by omega) (by omega)
          · simp only [if_true]
            by_cases q4 : cl = 60
            · rw [if_pos q4]
              refine ⟨fun mm ii ll z => (by cases z), fun k p z => ?_⟩
              cases z
              exact finR 3 (z4 q2 q3 q4) (by omega) (by omega)
            · rw [if_neg q4]
              obtain ⟨y1, y2⟩ := z5 q2 q3 q4
              cases q5 : nsP x n (wE x n a) 1 31 with
              | inr q =>
                obtain ⟨k, p⟩ := q
                refine ⟨fun mm ii ll z => (by cases z), fun k' p' z => ?_⟩
                cases z
                obtain ⟨m', e1, e2, e3, e4, e5, e6, e7⟩ := y2 k p q5
                exact fin k p m' e1 e2 e3 e4 e5 e6 e7
              | inl q =>
                obtain ⟨v, e⟩ := q
                obtain ⟨m', e1, e2, e3, e4, e5, e6, e7⟩ := y1 v e q5
                exact go e many v ins m' e1 e2 e3 e4 e5 e6 e7 (by omega) hm
        · simp only [if_true]
          by_cases q4 : cl = 60 ∨ many = 6
          · rw [if_pos q4]
            refine ⟨fun mm ii ll z => (by cases z), fun k p z => ?_⟩
            cases z
            exact finR 3 (z2 q2 q4) (by omega) (by omega)
          · rw [if_neg q4]
            obtain ⟨y1, y2⟩ := z3 q2 q4
            cases q5 : nsP x n (wE x n a) 0 2 with
            | inr q =>
              obtain ⟨k, p⟩ := q
              refine ⟨fun mm ii ll z => (by cases z), fun k' p' z => ?_⟩
              cases z
              obtain ⟨m', e1, e2, e3, e4, e5, e6, e7⟩ := y2 k p q5
              exact fin k p m' e1 e2 e3 e4 e5 e6 e7
            | inl q =>
              obtain ⟨v, e⟩ := q
              obtain ⟨m', e1, e2, e3, e4, e5, e6, e7⟩ := y1 v e q5
              exact go e (many + 1) lim _ m' e1 e2 e3 e4 e5 e6 e7 (by omega) (by omega)
