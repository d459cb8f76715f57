/-! L2: the class's reading of a work. -/
def PreP (P : List Q4 → Nat → SR) : Prop := ∀ acc a acc' e, P acc a = .inl (acc', e) → acc.length ≤ acc'.length ∧ ∀ i, i < acc.length → acc'.getD i q0 = acc.getD i q0
theorem pre_s (acc : List Q4) (q : Q4) : acc.length ≤ (acc ++ [q]).length ∧ ∀ i, i < acc.length → (acc ++ [q]).getD i q0 = acc.getD i q0 := ⟨by rw [len_q]; omega, fun i hi => by rw [getD_s, if_neg (by omega)]⟩
theorem agP_pre {x : Nat → Nat} {n : Nat} {S : List Q4 → Nat → SR} (hS : PreP S) {acc : List Q4} {e : Nat} {acc' : List Q4} {e' : Nat} (h : agP x n S acc e = .inl (acc', e')) :
    ∃ v e1 e2 acc2 e3, numP x n e 0 61 = .inl (v, e1) ∧ sgnP x n e1 91 = .inl e2 ∧ S (acc ++ [(10, v, 0, 0)]) e2 = .inl (acc2, e3) ∧ sgnP x n e3 93 = .inl e' ∧ acc' = acc2.set acc.length (10, v, 0, acc2.length) ∧ acc.length < acc2.length ∧ acc2.getD acc.length q0 = (10, v, 0, 0) ∧ (∀ i, i < acc.length → acc2.getD i q0 = acc.getD i q0) := by
  unfold agP at h
  cases p1 : numP x n e 0 61 with
  | inr q => rw [p1] at h; cases h
  | inl q =>
    obtain ⟨v, e1⟩ := q
    rw [p1] at h
    dsimp only at h
    cases p2 : sgnP x n e1 91 with
    | inr q => rw [p2] at h; cases h
    | inl e2 =>
      rw [p2] at h
      dsimp only at h
      cases p3 : S (acc ++ [(10, v, 0, 0)]) e2 with
      | inr q => rw [p3] at h; cases h
      | inl q =>
        obtain ⟨acc2, e3⟩ := q
        rw [p3] at h
        dsimp only at h
        cases p4 : sgnP x n e3 93 with
        | inr q => rw [p4] at h; cases h
        | inl e4 =>
          rw [p4] at h
          dsimp only at h
          cases h
          obtain ⟨z1, z2⟩ := hS _ _ _ _ p3
          rw [len_q] at z1 z2
          refine ⟨v, e1, e2, acc2, e3, rfl, p2, p3, p4, rfl, by omega, ?_, fun i hi => ?_⟩
          · rw [z2 _ (by omega), getD_s, if_pos rfl]
          · rw [z2 i (by omega), getD_s, if_neg (by omega)]
theorem stP_pre {x : Nat → Nat} {n N k : Nat} {S : List Q4 → Nat → SR} (hS : PreP S) : PreP (stP x n N S k) := by
  intro acc b acc' e h
  unfold stP at h
  split at h
  · cases h
  · split at h
    · split at h
      · cases h
      · obtain ⟨v, e1, e2, acc2, e3, h1, h2, h3, h4, rfl, h6, h7, h8⟩ := agP_pre hS h
        refine ⟨by rw [List.length_set]; omega, fun i hi => ?_⟩
        rw [getD_set _ _ _ _ h6, if_neg (by omega)]
        exact h8 i hi
    · split at h
      · cases h
        exact pre_s _ _
      · split at h
        · cases h
        · split at h
          · split at h
            · cases h
            · cases h
              exact pre_s _ _
          · cases h
            exact pre_s _ _
theorem stP_lt {x : Nat → Nat} {n N k : Nat} {S : List Q4 → Nat → SR} (hS : PreP S) {acc : List Q4} {b : Nat} {acc' : List Q4} {e : Nat} (h : stP x n N S k acc b = .inl (acc', e)) : acc.length < acc'.length := by
  unfold stP at h
  split at h
  · cases h
  · split at h
    · split at h
      · cases h
      · obtain ⟨v, e1, e2, acc2, e3, h1, h2, h3, h4, rfl, h6, h7, h8⟩ := agP_pre hS h
        rw [List.length_set]
        exact h6
    · split at h
      · cases h
        rw [len_q]
        omega
      · split at h
        · cases h
        · split at h
          · split at h
            · cases h
            · cases h
              rw [len_q]
              omega
          · cases h
            rw [len_q]
            omega
theorem stsP_pre {x : Nat → Nat} {n N k : Nat} {top : Bool} {S : List Q4 → Nat → SR} (hS : PreP S) : ∀ f, PreP (stsP x n N top S k f) := by
  intro f
  induction f with
  | zero =>
    intro acc a acc' e h
    cases h
    exact ⟨Nat.le_refl _, fun _ _ => rfl⟩
  | succ f ih =>
    intro acc a acc' e h
    rw [stsP] at h
    by_cases q : (if top then n ≤ blk x n a else blk x n a < n ∧ x (blk x n a) = 93)
    · rw [if_pos q] at h
      cases h
      exact ⟨Nat.le_refl _, fun _ _ => rfl⟩
    · rw [if_neg q] at h
      cases p1 : stP x n N S k acc (blk x n a) with
      | inr q => rw [p1] at h; cases h
      | inl q =>
        obtain ⟨acc1, e1⟩ := q
        rw [p1] at h
        dsimp only at h
        cases p2 : sgnP x n e1 59 with
        | inr q => rw [p2] at h; cases h
        | inl e2 =>
          rw [p2] at h
          dsimp only at h
          obtain ⟨a1, a2⟩ := stP_pre hS _ _ _ _ p1
          obtain ⟨b1, b2⟩ := ih _ _ _ _ h
          exact ⟨by omega, fun i hi => (b2 i (by omega)).trans (a2 i hi)⟩
theorem stL_pre {x : Nat → Nat} {n N : Nat} : ∀ k, PreP (stL x n N k) := by
  intro k
  induction k with
  | zero =>
    rw [stL]
    exact stsP_pre (fun _ _ _ _ h => by cases h) 151
  | succ k ih =>
    rw [stL]
    exact stsP_pre ih 151
def KSp (x : Nat → Nat) (n N o : Nat) (P : List Q4 → Nat → SR) (F : Nat → Nat → Int32 → Mm → Option (Int32 × Mm)) : Prop := ∀ (acc : List Q4) (a : Nat) (m : Mm), WD acc m → TC x n m → rI m 8 4 = ni N → rI m 1 3 = ni a → a ≤ n → 4 * acc.length ≤ a →
  (∀ acc' e, P acc a = .inl (acc', e) → ∃ m', F 8 1 (ni o) m = some (1, m') ∧ Ks m m' ∧ WD acc' m' ∧ rI m' 1 3 = ni e ∧ e ≤ n ∧ a ≤ e ∧ 4 * acc'.length ≤ e) ∧
  (∀ k p, P acc a = .inr (k, p) → ∃ m', F 8 1 (ni o) m = some (0, m') ∧ Kf k p m m')
/-- again: behind its word -/
def KAp (x : Nat → Nat) (n N o k : Nat) (S : List Q4 → Nat → SR) (F : Nat → Nat → Int32 → Mm → Option (Int32 × Mm)) : Prop := ∀ (acc : List Q4) (a b : Nat) (m : Mm), WD acc m → TC x n m → rI m 8 4 = ni N → rI m 1 3 = ni a → rI m 1 4 = ni b → a ≤ n → 4 * (acc.length + 1) ≤ a →
  (∀ acc' e, (if k = 0 then .inr (3, b) else agP x n S acc a) = (.inl (acc', e) : SR) → ∃ m', F 8 1 (ni o) m = some (1, m') ∧ Ks m m' ∧ WD acc' m' ∧ rI m' 1 3 = ni e ∧ e ≤ n ∧ a ≤ e ∧ 4 * acc'.length ≤ e) ∧
  (∀ kk p, (if k = 0 then .inr (3, b) else agP x n S acc a) = (.inr (kk, p) : SR) → ∃ m', F 8 1 (ni o) m = some (0, m') ∧ Kf kk p m m')
theorem c_againB {x : Nat → Nat} {n N k : Nat} {S : List Q4 → Nat → SR} {fS fU fW : Nat → Nat → Int32 → Mm → Option (Int32 × Mm)} (hn : n ≤ 150) (hk : k ≤ 6) (hp : PreP S) (hS : 0 < k → KSp x n N (6 - k + 1) S fS) :
    KAp x n N (6 - k) k S (B_X10_readAgain fS fU fW) := by
  intro acc a b m d c h84 h3 h4 han hl
  have g := c.1
  have n1 : ((1 : Int32) = 0) = False := o10
  unfold B_X10_readAgain
  by_cases q0 : k = 0
  · rw [if_pos q0]
    refine ⟨fun acc' e z => (by cases z), fun kk p z => ?_⟩
    cases z
    obtain ⟨m1, v1, v2⟩ := c_fail (k := 3) (p := b) g
    refine ⟨m1, ?_, Tf_Kf v2⟩
    rw [show ni 3 = 3 from rfl] at v1
    have l6 : (ni (6 - k) < (6 : Int32)) = False := by
      rw [q0]
      decide
    simp only [l6, if_false, gO1 g, gd_t, h4, bdE v1, true_or, decide_true]
  · rw [if_neg q0]
    have l6 : (ni (6 - k) < (6 : Int32)) = True := eq_true (by
      rw [show (6 : Int32) = ni 6 from rfl, ni_lt (by omega) (by omega)]
      omega)
    have o1 : ni (6 - k) + 1 = ni (6 - k + 1) := ni_add _ 1
    obtain ⟨w1, w2⟩ := c_number (lo := 0) (h := 61) (hi := 60) c h3 han (by decide) (by omega) (by omega)
    rw [ni_0] at w1 w2
    unfold agP
    cases p1 : numP x n a 0 61 with
    | inr f =>
      obtain ⟨kk, p⟩ := f
      obtain ⟨m1, v1, v2⟩ := w2 kk p p1
      refine ⟨fun acc' e z => (by cases z), fun kk p z => ?_⟩
      cases z
      refine ⟨m1, ?_, Tf_Kf v2⟩
      simp only [l6, if_true, gO1 g, gd_t, bdE v1]
    | inl f =>
      obtain ⟨v, e1⟩ := f
      obtain ⟨m1, v1, v2, v3, v4, v5, v6, v7, v8⟩ := w1 v e1 p1
      have c1 := TC_s c v2
      have d1 := WD_s d v2
      have g1 := c1.1
      have hb := blk_le (x := x) han
      obtain ⟨m2, u1, u2, u3, u4⟩ := c_put (k := 10) (a := v) (v := 0) (q := (10, v, 0, 0)) g1 d1 (by omega) rfl rfl rfl
      rw [show ni 10 = 10 from rfl, ni_0] at u1
      have c2 := TC_K c1 u3
      have g2 := c2.1
      have k2 := Ks_trans (Ts_Ks v2) u3
      obtain ⟨s1, s2⟩ := c_sign (cc := 91) c2 (a := e1) (by rw [u4]; exact v3) v6 (by omega)
      rw [show ni 91 = 91 from rfl] at s1 s2
      have d13 : rI m1 8 3 = ni acc.length := d1.1
      dsimp only
      cases p2 : sgnP x n e1 91 with
      | inr f =>
        obtain ⟨kk, p⟩ := f
        obtain ⟨m3, x1, x2⟩ := s2 _ _ p2
        refine ⟨fun acc' e z => (by cases z), fun kk p z => ?_⟩
        cases z
        refine ⟨m3, ?_, Ks_Kf k2 (Tf_Kf x2)⟩
        simp only [l6, if_true, gO1 g, gO1 g1, gO8 g1, gO1 g2, gd_t, bdE v1, lt9_e, n1, if_false, v5, bdE u1, bdE x1]
      | inl e2 =>
        obtain ⟨m3, x1, x2, x3, x4, x5, x6⟩ := s1 _ p2
        have c3 := TC_s c2 x2
        have d3 := WD_s u2 x2
        have g3 := c3.1
        have k3 := Ks_trans k2 (Ts_Ks x2)
        obtain ⟨t1, t2⟩ := hS (by omega) (acc ++ [(10, v, 0, 0)]) e2 m3 d3 c3 (by rw [k3.2.2 4 (by omega)]; exact h84) x3 x5 (by rw [len_q]; omega)
        dsimp only
        cases p3 : S (acc ++ [(10, v, 0, 0)]) e2 with
        | inr f =>
          obtain ⟨kk, p⟩ := f
          obtain ⟨m4, y1, y2⟩ := t2 _ _ p3
          refine ⟨fun acc' e z => (by cases z), fun kk p z => ?_⟩
          cases z
          refine ⟨m4, ?_, Ks_Kf k3 y2⟩
          simp only [l6, if_true, o1, gO1 g, gO1 g1, gO8 g1, gO1 g2, gO8 g3, gd_t, bdE v1, lt9_e, n1, if_false, v5, bdE u1, bdE x1, bdE y1]
        | inl f =>
          obtain ⟨acc2, e3⟩ := f
          obtain ⟨m4, y1, y2, y3, y4, y5, y6, y7⟩ := t1 _ _ p3
          have c4 := TC_K c3 y2
          have g4 := c4.1
          have k4 := Ks_trans k3 y2
          obtain ⟨z1, z2⟩ := hp _ _ _ _ p3
          rw [len_q] at z1 z2
          obtain ⟨s3, s4⟩ := c_sign (cc := 93) c4 y4 y5 (by omega)
          rw [show ni 93 = 93 from rfl] at s3 s4
          dsimp only
          cases p4 : sgnP x n e3 93 with
          | inr f =>
            obtain ⟨kk, p⟩ := f
            obtain ⟨m5, r1, r2⟩ := s4 _ _ p4
            refine ⟨fun acc' e z => (by cases z), fun kk p z => ?_⟩
            cases z
            refine ⟨m5, ?_, Ks_Kf k4 (Tf_Kf r2)⟩
            simp only [l6, if_true, o1, gO1 g, gO1 g1, gO8 g1, gO1 g2, gO8 g3, gO1 g4, gd_t, bdE v1, lt9_e, n1, if_false, v5, bdE u1, bdE x1, bdE y1, bdE r1]
          | inl e4 =>
            obtain ⟨m5, r1, r2, r3, r4, r5, r6⟩ := s3 _ p4
            have c5 := TC_s c4 r2
            have d5 := WD_s y3 r2
            have g5 := c5.1
            obtain ⟨d51, d52, d53⟩ := d5
            refine ⟨fun acc' e z => ?_, fun kk p z => (by cases z)⟩
            cases z
            refine ⟨wI m5 11 acc.length (ni acc2.length), ?_, Ks_trans (Ks_trans k4 (Ts_Ks r2)) ⟨Fm_wI (Fm_refl _ _) (by unfold AK; omega), fun j _ => by rw [rIw_ne (by omega)], fun j _ => by rw [rIw_ne (by omega)]⟩, ⟨?_, ?_, fun i hi => ?_⟩, ?_, r5, by omega, by rw [List.length_set]; omega⟩
            · have hle : ¬ (150 ≤ acc.length) := by omega
              simp (disch := first | assumption | omega | ((repeat (first | assumption | apply G_wI | apply G_wL | apply CSh_wI | apply CSh_wL)); done) | decide) only [↓dO0, ↓dO1, ↓dA2, ↓dK2, ↓dT2, ↓dO3, ↓dO4, ↓dA5, ↓dK5, ↓dT5, ↓dA6, ↓dK6, ↓dT6, ↓dA7, ↓dK7, ↓dT7, ↓dO8, ↓dA9, ↓dK9, ↓dT9, ↓dA10, ↓dK10, ↓dT10, ↓dA11, ↓dK11, ↓dT11, ↓dO12, ↓dA13, ↓dK13, ↓dT13, ↓dO14, ↓dA15, ↓dK15, ↓dT15, ↓dO16, ↓dO29, ↓dO42, ↓dA43, ↓dK43, ↓dT43, ↓dA44, ↓dK44, ↓dT44, ↓dO45, ↓dA46, ↓dK46, ↓dT46, ↓dO47, ↓dA48, ↓dK48, ↓dT48, ↓dO49, ↓dA50, ↓dK50, ↓dT50, ↓dA51, ↓dK51, ↓dT51, ↓dA52, ↓dK52, ↓dT52, ↓dA53, ↓dK53, ↓dT53, ↓dA54, ↓dK54, ↓dT54, ↓dA215, ↓dK215, ↓dT215, ↓dA376, ↓dK376, ↓dT376, ↓dA383, ↓dK383, ↓dT383, ↓dA390, ↓dK390, ↓dT390, ↓dA391, ↓dK391, ↓dT391, ↓dA392, ↓dK392, ↓dT392, ↓dA473, ↓dK473, ↓dT473, ↓dA474, ↓dK474, ↓dT474, ↓dA475, ↓dK475, ↓dT475, ↓dA492, ↓dK492, ↓dT492, ↓dA496, ↓dK496, ↓dT496, ↓dA497, ↓dK497, ↓dT497, ↓dR0_0, ↓dR0_1, ↓dR0_2, ↓dR0_3, ↓dR0_4, ↓dR0_5, ↓dR0_6, ↓dR0_7, ↓dR0_8, ↓dR0_9, ↓dR0_10, ↓dR0_11, ↓dR0_12, ↓dR1_0, ↓dR4_2, ↓dR8_0, ↓dR8_1, ↓dR8_2, ↓dR12_5, ↓dR14_0, ↓dR14_1, ↓dR14_2, ↓dR42_0, ↓dR45_0, ↓dR49_9, ↓dR49_10, ↓dR49_11, ↓dR49_12, ↓dR49_15, ↓dR49_16, ↓dR49_17, ↓dR49_18, ↓dR49_19, ↓dR49_20, ↓dR49_21, ↓dR49_23, ↓dR49_24, ↓dR49_25, ↓dR49_26, ↓dR49_34, ↓dF54, ↓dB54, ↓dC54, ↓dF215, ↓dB215, ↓dC215, ↓dF376, ↓dB376, ↓dC376, ↓dF383, ↓dB383, ↓dC383, ↓dF392, ↓dB392, ↓dC392, ↓dF475, ↓dB475, ↓dC475, ↓dF492, ↓dB492, ↓dC492, ↓lt9_e, ↓jn_e, ↓bd_s, gd_t, bd_s, oc_s, oc_n, lt9_e, jn_e, okOwI, okAwI, okTwI, lnwI, okOwL, okAwL, okTwL, lnwL, rRwI, rRwL, sHwI, sHwL, rIwL, rLwI, gO0, gO1, gA2, gK2, gT2, gN2, gO3, gO4, gA5, gK5, gT5, gN5, gA6, gK6, gT6, gN6, gA7, gK7, gT7, gN7, gO8, gA9, gK9, gT9, gN9, gA10, gK10, gT10, gN10, gA11, gK11, gT11, gN11, gO12, gA13, gK13, gT13, gN13, gO14, gA15, gK15, gT15, gN15, gO16, gO29, gO42, gA43, gK43, gT43, gN43, gA44, gK44, gT44, gN44, gO45, gA46, gK46, gT46, gN46, gO47, gA48, gK48, gT48, gN48, gO49, gA50, gK50, gT50, gN50, gA51, gK51, gT51, gN51, gA52, gK52, gT52, gN52, gA53, gK53, gT53, gN53, gA54, gK54, gT54, gN54, gA215, gK215, gT215, gN215, gA376, gK376, gT376, gN376, gA383, gK383, gT383, gN383, gA390, gK390, gT390, gN390, gA391, gK391, gT391, gN391, gA392, gK392, gT392, gN392, gA473, gK473, gT473, gN473, gA474, gK474, gT474, gN474, gA475, gK475, gT475, gN475, gA492, gK492, gT492, gN492, gA496, gK496, gT496, gN496, gA497, gK497, gT497, gN497, gR0_0, gR0_1, gR0_2, gR0_3, gR0_4, gR0_5, gR0_6, gR0_7, gR0_8, gR0_9, gR0_10, gR0_11, gR0_12, gR1_0, gR4_2, gR8_0, gR8_1, gR8_2, gR12_5, gR14_0, gR14_1, gR14_2, gR42_0, gR45_0, gR49_9, gR49_10, gR49_11, gR49_12, gR49_15, gR49_16, gR49_17, gR49_18, gR49_19, gR49_20, gR49_21, gR49_23, gR49_24, gR49_25, gR49_26, gR49_34, gF54, gB54, gC54, gF215, gB215, gC215, gF376, gB376, gC376, gF383, gB383, gC383, gF392, gB392, gC392, gF475, gB475, gC475, gF492, gB492, gC492, ni_le, ni_lt, ni_eq, ni_add, ni_mul, lni_le, lni_lt, nil_le, nil_lt, lni_eq, nil_eq, lni_add, nil_add, lni_mul, nil_mul, ix_ni, ix_lit, ni_ne1, ni_lt0, ↓reduceIte, Nat.reduceEqDiff, Nat.reduceMul, Nat.reduceAdd, Nat.reduceLeDiff, and_true, true_and, false_and, and_false, if_true, if_false, Nat.not_lt_zero, false_or, or_false, ft9, decide_true, o10, eq_self, b2i_0, b2i_1, b2i_ok, b2i_inj, b2i_t, b2i_f, rIwIk, l6, o1, ↓bdE v1, v5, ↓bdE u1, ↓bdE x1, ↓bdE y1, ↓bdE r1, d13, d51, hle]
            · rw [rIw_ne (by omega), List.length_set]
              exact d51
            · rw [List.length_set]
              exact d52
            · rw [List.length_set] at hi
              rw [rIw_ne (by omega), rIw_ne (b := 10) (by omega), rIw, getD_set _ _ _ _ (by omega)]
              obtain ⟨q1, q2, q3⟩ := d53 i hi
              by_cases e : i = acc.length
              · rw [if_pos e, e, uf_at]
                rw [e, z2 _ (by omega), getD_s, if_pos rfl] at q1 q2
                exact ⟨q1, q2, rfl⟩
              · rw [if_neg e, uf_ne e]
                exact ⟨q1, q2, q3⟩
            · rw [rIw_ne (by omega)]
              exact r3
theorem c_stepB {x : Nat → Nat} {n N k : Nat} {S : List Q4 → Nat → SR} {fS fU fW : Nat → Nat → Int32 → Mm → Option (Int32 × Mm)} (hn : n ≤ 150) (hN : N ≤ 6) (hk : k ≤ 6) (hA : KAp x n N (6 - k) k S fW) :
    KSp x n N (6 - k) (fun acc a => stP x n N S k acc (blk x n a)) (B_X10_readStep fS fU fW) := by
  intro acc a m d c h84 h3 han hl
  have g := c.1
  have n1 : ((1 : Int32) = 0) = False := o10
  have hb := blk_le (x := x) han
  obtain ⟨w1, w2⟩ := c_word c h3 han
  dsimp only
  unfold stP B_X10_readStep
  generalize blk x n a = b at *
  cases q1 : isL x n b
  · rw [if_pos (kwS_no q1)]
    obtain ⟨m1, u1, u2⟩ := w2 q1
    refine ⟨fun acc' e z => (by cases z), fun k p z => ?_⟩
    cases z
    refine ⟨m1, ?_, Tf_Kf u2⟩
    simp only [gO1 g, gd_t, bdE u1, if_true]
  · obtain ⟨m1, u1, u2, u3, u4, u5, u6⟩ := w1 q1
    have c1 := TC_s c u2
    have d1 := WD_s d u2
    have g1 := c1.1
    have hk1 := c_kindS c1 u3 u4 hb.2
    have h841 : rI m1 8 4 = ni N := by
      rw [(u2.1.1 8 (by omega)).1]
      exact h84
    by_cases q2 : kwS x n b = 11
    · rw [if_pos q2]
      rw [if_pos q2] at hk1
      obtain ⟨m2, v1, v2⟩ := c_fail (k := 1) (p := b) g1
      refine ⟨fun acc' e z => (by cases z), fun k p z => ?_⟩
      cases z
      refine ⟨m2, ?_, Ks_Kf (Ts_Ks u2) (Tf_Kf v2)⟩
      rw [ni_1] at v1
      simp only [gO1 g, gO1 g1, gd_t, bdE u1, bdE hk1, lt9_e, n1, if_false, if_true, u4, bdE v1, true_or, decide_true]
    · rw [if_neg q2]
      rw [if_neg q2] at hk1
      have hwl := (kwS_W q2).2
      have hle := kwS_le x n b
      have hm1 : (ni (kwS x n b) = (-1 : Int32)) = False := eq_false (fun z => (ni_ne1 (by omega)).mp z)
      have ek : ∀ v : Nat, v < 11 → (ni (kwS x n b) = ni v) = (kwS x n b = v) := fun v hv => propext (ni_eq (by omega) (by omega))
      have ek10 := ek 10 (by omega)
      have ek8 := ek 8 (by omega)
      have ek9 := ek 9 (by omega)
      have ek7 := ek 7 (by omega)
      have ek0 := ek 0 (by omega)
      rw [show ni 10 = 10 from rfl] at ek10
      rw [show ni 8 = 8 from rfl] at ek8
      rw [show ni 9 = 9 from rfl] at ek9
      rw [show ni 7 = 7 from rfl] at ek7
      rw [show ni 0 = 0 from rfl] at ek0
      by_cases q3 : kwS x n b = 10
      · rw [if_pos q3]
        have q3' := eq_true q3
        obtain ⟨s1, s2⟩ := hA acc (wE x n b) b m1 d1 c1 h841 u3 u4 u5 (by omega)
        refine ⟨fun acc' e z => ?_, fun k p z => ?_⟩
        · obtain ⟨m2, x1, x2, x3, x4, x5, x6, x7⟩ := s1 acc' e z
          refine ⟨m2, ?_, Ks_trans (Ts_Ks u2) x2, x3, x4, x5, by omega, x7⟩
          simp only [gO1 g, gO8 g1, gd_t, bdE u1, bdE hk1, lt9_e, n1, if_false, hm1, ek10, q3', if_true, bdE x1, or_true, decide_true]
        · obtain ⟨m2, x1, x2⟩ := s2 k p z
          refine ⟨m2, ?_, Ks_Kf (Ts_Ks u2) x2⟩
          simp only [gO1 g, gO8 g1, gd_t, bdE u1, bdE hk1, lt9_e, n1, if_false, hm1, ek10, q3', if_true, bdE x1, true_or, decide_true]
      · rw [if_neg q3]
        by_cases q4 : 8 ≤ kwS x n b
        · rw [if_pos q4]
          obtain ⟨m2, v1, v2, v3, v4⟩ := c_put (k := kwS x n b) (a := 0) (v := 0) (q := (kwS x n b, 0, 0, 0)) g1 d1 (by omega) rfl rfl (by unfold sc9; split <;> rfl)
          rw [ni_0] at v1
          refine ⟨fun acc' e z => ?_, fun k p z => (by cases z)⟩
          cases z
          refine ⟨m2, ?_, Ks_trans (Ts_Ks u2) v3, v2, by rw [v4]; exact u3, u5, by omega, by rw [len_q]; omega⟩
          have n0 : ¬ kwS x n b = 0 := by omega
          by_cases q5 : kwS x n b = 8
          · have q5' := eq_true q5
            simp only [gO1 g, gO8 g1, gd_t, bdE u1, bdE hk1, lt9_e, jn_e, n1, if_false, hm1, ek10, q3, ek8, q5', if_true, ek0, n0, bdE v1]
          · have q6' := eq_true (show kwS x n b = 9 by omega)
            simp only [gO1 g, gO8 g1, gd_t, bdE u1, bdE hk1, lt9_e, jn_e, n1, if_false, hm1, ek10, q3, ek8, q5, ek9, q6', if_true, ek0, n0, bdE v1]
        · rw [if_neg q4]
          have n8 : ¬ kwS x n b = 8 := by omega
          have n9 : ¬ kwS x n b = 9 := by omega
          -- the first number
          have num : ∃ hi : Int32, hi.toInt = ((if kwS x n b = 7 then 64 else N : Nat) : Int) - 1 ∧ ∀ X, (bd (F_X9_number 1 0 hi m1) fun r11 m12 => if r11 = 0 then some ((0 : Int32), m12) else gd (okO m12 1 9) (if kwS x n b = 0 then gd (okO m12 1 9) (bd (F_X9_number 1 0 999 m12) fun r9 m10 => if r9 = 0 then some ((0 : Int32), m10) else gd (okO m10 1 9) (gd (okO m10 8 10) (bd (F_X10_emit 8 (ni (kwS x n b)) (rI m12 1 5) (rI m10 1 5) m10) fun _ m8 => some ((1 : Int32), m8)))) else gd (okO m12 8 10) (bd (F_X10_emit 8 (ni (kwS x n b)) (rI m12 1 5) 0 m12) fun _ m8 => some ((1 : Int32), m8)))) = X → B_X10_readStep fS fU fW 8 1 (ni (6 - k)) m = X := by
            by_cases q7 : kwS x n b = 7
            · have q7' := eq_true q7
              refine ⟨63, by rw [if_pos q7]; decide, fun X hX => ?_⟩
              rw [← hX]
              unfold B_X10_readStep
              have n0 : ¬ kwS x n b = 0 := by omega
              simp only [gO1 g, gO1 g1, gO8 g1, gd_t, bdE u1, bdE hk1, lt9_e, jn_e, n1, if_false, hm1, ek10, q3, ek8, ek9, n8, n9, ek7, q7', if_true, ek0, n0]
            · refine ⟨ni N - 1, by rw [if_neg q7]; exact hiN hN, fun X hX => ?_⟩
              rw [← hX]
              unfold B_X10_readStep
              by_cases n0 : kwS x n b = 0
              · have n0' := eq_true n0
                simp only [gO1 g, gO1 g1, gO8 g1, gd_t, bdE u1, bdE hk1, lt9_e, jn_e, n1, if_false, hm1, ek10, q3, ek8, ek9, n8, n9, ek7, q7, if_true, ek0, n0', h841]
              · simp only [gO1 g, gO1 g1, gO8 g1, gd_t, bdE u1, bdE hk1, lt9_e, jn_e, n1, if_false, hm1, ek10, q3, ek8, ek9, n8, n9, ek7, q7, if_true, ek0, n0, h841]
          obtain ⟨hi, hh, head⟩ := num
          unfold B_X10_readStep at head
          obtain ⟨s1, s2⟩ := c_number (lo := 0) c1 u3 u5 hh (by split <;> omega) (by omega)
          rw [ni_0] at s1 s2
          have hb2 := blk_le (x := x) u5
          cases p1 : numP x n (wE x n b) 0 (if kwS x n b = 7 then 64 else N) with
          | inr f =>
            obtain ⟨kk, p⟩ := f
            obtain ⟨m2, v1, v2⟩ := s2 _ _ p1
            refine ⟨fun acc' e z => (by cases z), fun k p z => ?_⟩
            cases z
            refine ⟨m2, head _ ?_, Ks_Kf (Ts_Ks u2) (Tf_Kf v2)⟩
            simp only [bdE v1, if_true]
          | inl f =>
            obtain ⟨av, e1⟩ := f
            obtain ⟨m2, v1, v2, v3, v4, v5, v6, v7, v8⟩ := s1 _ _ p1
            have c2 := TC_s c1 v2
            have d2 := WD_s d1 v2
            have g2 := c2.1
            have k2 := Ks_trans (Ts_Ks u2) (Ts_Ks v2)
            dsimp only
            by_cases q5 : kwS x n b = 0
            · rw [if_pos q5]
              obtain ⟨t1, t2⟩ := c_number (lo := 0) (h := 1000) (hi := 999) c2 v3 v6 (by decide) (by omega) (by omega)
              rw [ni_0] at t1 t2
              have q5' := eq_true q5
              cases p2 : numP x n e1 0 1000 with
              | inr f =>
                obtain ⟨kk, p⟩ := f
                obtain ⟨m3, x1, x2⟩ := t2 _ _ p2
                refine ⟨fun acc' e z => (by cases z), fun k p z => ?_⟩
                cases z
                refine ⟨m3, head _ ?_, Ks_Kf k2 (Tf_Kf x2)⟩
                simp only [bdE v1, n1, if_false, gO1 g2, gd_t, q5', if_true, bdE x1]
              | inl f =>
                obtain ⟨vv, e2⟩ := f
                obtain ⟨m3, x1, x2, x3, x4, x5, x6, x7, x8⟩ := t1 _ _ p2
                have hb3 := blk_le (x := x) v6
                have c3 := TC_s c2 x2
                have d3 := WD_s d2 x2
                have g3 := c3.1
                obtain ⟨m4, y1, y2, y3, y4⟩ := c_put (k := kwS x n b) (a := av) (v := vv) (q := (0, av, vv, 0)) g3 d3 (by omega) q5.symm rfl rfl
                refine ⟨fun acc' e z => ?_, fun k p z => (by cases z)⟩
                cases z
                refine ⟨m4, head _ ?_, Ks_trans (Ks_trans k2 (Ts_Ks x2)) y3, y2, by rw [y4]; exact x3, x6, by omega, by rw [len_q]; omega⟩
                simp only [bdE v1, n1, if_false, gO1 g2, gO1 g3, gO8 g3, gd_t, q5', if_true, bdE x1, v5, x5, bdE y1]
            · rw [if_neg q5]
              obtain ⟨m4, y1, y2, y3, y4⟩ := c_put (k := kwS x n b) (a := av) (v := 0) (q := (kwS x n b, av, 0, 0)) g2 d2 (by omega) rfl rfl (by unfold sc9; split <;> rfl)
              rw [ni_0] at y1
              refine ⟨fun acc' e z => ?_, fun k p z => (by cases z)⟩
              cases z
              refine ⟨m4, head _ ?_, Ks_trans k2 y3, y2, by rw [y4]; exact v3, v6, by omega, by rw [len_q]; omega⟩
              simp only [bdE v1, n1, if_false, gO1 g2, gO8 g2, gd_t, q5, v5, bdE y1]
theorem c_stsB {x : Nat → Nat} {n N o k : Nat} {S : List Q4 → Nat → SR} {fS fU fW : Nat → Nat → Int32 → Mm → Option (Int32 × Mm)} (hn : n ≤ 150) (ho : o ≤ 6) (hp : PreP S) (hU : KSp x n N o (fun acc a => stP x n N S k acc (blk x n a)) fU) :
    ∀ (g f i : Nat) (acc : List Q4) (a : Nat) (m : Mm), n - a < g → n - a < f → i ≤ acc.length → WD acc m → TC x n m → rI m 8 4 = ni N → rI m 1 3 = ni a → a ≤ n → 4 * acc.length ≤ a →
      (∀ acc' e, stsP x n N (decide (o = 0)) S k f acc a = .inl (acc', e) → ∃ m', L_X10_readSteps_2 fS fU fW g 8 1 (ni o) (ni i) m = some (1, m') ∧ Ks m m' ∧ WD acc' m' ∧ rI m' 1 3 = ni e ∧ e ≤ n ∧ a ≤ e ∧ 4 * acc'.length ≤ e) ∧
      (∀ kk p, stsP x n N (decide (o = 0)) S k f acc a = .inr (kk, p) → ∃ m', L_X10_readSteps_2 fS fU fW g 8 1 (ni o) (ni i) m = some (0, m') ∧ Kf kk p m m') := by
  intro g
  induction g with
  | zero =>
    intro f i acc a m h1
    omega
  | succ g ih =>
    intro f i acc a m hg hf hi d c h84 h3 han hl
    obtain ⟨f, rfl⟩ : ∃ z, f = z + 1 := ⟨f - 1, by omega⟩
    have gg := c.1
    have hb := blk_le (x := x) han
    have hbb := blk_blk (x := x) han
    have n1 : ((1 : Int32) = 0) = False := o10
    obtain ⟨m1, y1, y2, y3, y4⟩ := c_peek c h3 han
    have c1 := TC_s c y2
    have d1 := WD_s d y2
    have g1 := c1.1
    have h841 : rI m1 8 4 = ni N := by
      rw [(y2.1.1 8 (by omega)).1]
      exact h84
    have i150 : ((150 : Int32) ≤ ni i) = False := eq_false (by
      rw [show (150 : Int32) = ni 150 from rfl, ni_le (by omega) (by omega)]
      omega)
    have h93 := chr_c (n := n) (a := blk x n a) (c := 93) (TC_x c1) (by omega)
    rw [show ni 93 = 93 from rfl] at h93
    have hend : (chr x n (blk x n a) = (-1 : Int32)) ↔ n ≤ blk x n a := by
      unfold chr
      by_cases q : blk x n a < n
      · rw [if_pos q]
        have := TC_x c1 q
        exact ⟨fun z => absurd z (fun z => (ni_ne1 (by omega)).mp z), fun z => by omega⟩
      · rw [if_neg q]
        exact ⟨fun _ => by omega, fun _ => rfl⟩
    have eo : (ni o = (0 : Int32)) = (o = 0) := propext (ni_eq (b := 0) (by omega) (by omega))
    obtain ⟨s1, s2⟩ := hU acc (blk x n a) m1 d1 c1 h841 y3 hb.2 (by omega)
    dsimp only at s1 s2
    rw [hbb] at s1 s2
    rw [stsP]
    generalize blk x n a = b at *
    -- a step more
    have go : ¬ (if decide (o = 0) = true then n ≤ b else b < n ∧ x b = 93) → ∀ X, (gd (okO m1 8 10) (bd (fU 8 1 (ni o) m1) fun r5 m6 => if r5 = 0 then some ((0 : Int32), m6) else gd (okO m6 1 9) (bd (F_X9_sign 1 59 m6) fun r7 m8 => if r7 = 0 then some ((0 : Int32), m8) else L_X10_readSteps_2 fS fU fW g 8 1 (ni o) (ni (i + 1)) m8))) = X → L_X10_readSteps_2 fS fU fW (g + 1) 8 1 (ni o) (ni i) m = X := by
      intro hne X hX
      rw [← hX, L_X10_readSteps_2]
      by_cases q : o = 0
      · have hq := eq_true q
        rw [if_pos (decide_eq_true q)] at hne
        have he := eq_false (fun z => hne (hend.mp z))
        simp only [i150, if_false, gO1 gg, gd_t, bdE y1, lt9_e, jn_e, eo, hq, if_true, he, nil_add]
      · rw [if_neg (by simp [q])] at hne
        have he := eq_false (fun z => hne (h93.mp z))
        simp only [i150, if_false, gO1 gg, gd_t, bdE y1, lt9_e, jn_e, eo, q, he, nil_add]
    by_cases q1 : (if decide (o = 0) = true then n ≤ b else b < n ∧ x b = 93)
    · rw [if_pos q1]
      refine ⟨fun acc' e z => ?_, fun k p z => (by cases z)⟩
      cases z
      refine ⟨m1, ?_, Ts_Ks y2, d1, y3, hb.2, hb.1, by omega⟩
      rw [L_X10_readSteps_2]
      by_cases q : o = 0
      · have hq := eq_true q
        rw [if_pos (decide_eq_true q)] at q1
        have he := eq_true (hend.mpr q1)
        simp only [i150, if_false, gO1 gg, gd_t, bdE y1, lt9_e, jn_e, eo, hq, if_true, he]
      · rw [if_neg (by simp [q])] at q1
        have he := eq_true (h93.mpr q1)
        simp only [i150, if_false, gO1 gg, gd_t, bdE y1, lt9_e, jn_e, eo, q, he, if_true]
    · rw [if_neg q1]
      cases p1 : stP x n N S k acc b with
      | inr q =>
        obtain ⟨kk, p⟩ := q
        refine ⟨fun acc' e z => (by cases z), fun k p z => ?_⟩
        cases z
        obtain ⟨m2, x1, x2⟩ := s2 _ _ p1
        refine ⟨m2, go q1 _ ?_, Ks_Kf (Ts_Ks y2) x2⟩
        simp only [gO8 g1, gd_t, bdE x1, if_true]
      | inl q =>
        obtain ⟨acc1, e⟩ := q
        obtain ⟨m2, x1, x2, x3, x4, x5, x6, x7⟩ := s1 _ _ p1
        have c2 := TC_K c1 x2
        have g2 := c2.1
        have k2 := Ks_trans (Ts_Ks y2) x2
        obtain ⟨t1, t2⟩ := c_sign (cc := 59) c2 x4 x5 (by omega)
        rw [show ni 59 = 59 from rfl] at t1 t2
        dsimp only
        cases p2 : sgnP x n e 59 with
        | inr q =>
          obtain ⟨kk, p⟩ := q
          refine ⟨fun acc' e z => (by cases z), fun k p z => ?_⟩
          cases z
          obtain ⟨m3, z1, z2⟩ := t2 _ _ p2
          refine ⟨m3, go q1 _ ?_, Ks_Kf k2 (Tf_Kf z2)⟩
          simp only [gO8 g1, gO1 g2, gd_t, bdE x1, n1, if_false, bdE z1, if_true]
        | inl e2 =>
          obtain ⟨m3, z1, z2, z3, z4, z5, z6⟩ := t1 _ p2
          have c3 := TC_s c2 z2
          have k3 := Ks_trans k2 (Ts_Ks z2)
          have hlt := stP_lt hp p1
          have zz := ih f (i + 1) acc1 e2 m3 (by omega) (by omega) (by omega) (WD_s x3 z2) c3 (by rw [k3.2.2 4 (by omega)]; exact h84) z3 z5 (by omega)
          dsimp only
          refine ⟨fun acc' e' u => ?_, fun k p u => ?_⟩
          · obtain ⟨m4, r1, r2, r3, r4, r5, r6, r7⟩ := zz.1 acc' e' u
            refine ⟨m4, go q1 _ ?_, Ks_trans k3 r2, r3, r4, r5, by omega, r7⟩
            simp only [gO8 g1, gO1 g2, gd_t, bdE x1, n1, if_false, bdE z1, r1]
          · obtain ⟨m4, r1, r2⟩ := zz.2 k p u
            refine ⟨m4, go q1 _ ?_, Ks_Kf k3 r2⟩
            simp only [gO8 g1, gO1 g2, gd_t, bdE x1, n1, if_false, bdE z1, r1]

theorem c_stsF {x : Nat → Nat} {n N o k : Nat} {S : List Q4 → Nat → SR} {fS fU fW : Nat → Nat → Int32 → Mm → Option (Int32 × Mm)} (hn : n ≤ 150) (ho : o ≤ 6) (hp : PreP S) (hU : KSp x n N o (fun acc a => stP x n N S k acc (blk x n a)) fU) : KSp x n N o (stsP x n N (decide (o = 0)) S k 151) (B_X10_readSteps fS fU fW) := by
  intro acc a m d c h84 h3 han hl
  unfold B_X10_readSteps
  simp only [lt9_e]
  exact c_stsB (fS := fS) (fW := fW) hn ho hp hU NF 151 0 acc a m (by unfold NF; omega) (by omega) (by omega) d c h84 h3 han hl
theorem G_X10s (D : Nat) : G_X10 (D + 1) = (B_X10_readSteps (G_X10 D).1 (G_X10 D).2.1 (G_X10 D).2.2, B_X10_readStep (G_X10 D).1 (G_X10 D).2.1 (G_X10 D).2.2, B_X10_readAgain (G_X10 D).1 (G_X10 D).2.1 (G_X10 D).2.2) := by
  rw [G_X10]
/-- a level: steps at depth k with this inner reader -/
theorem c_lev {x : Nat → Nat} {n N k D : Nat} {S : List Q4 → Nat → SR} (hn : n ≤ 150) (hN : N ≤ 6) (hk : k ≤ 6) (hp : PreP S) (hS : 0 < k → KSp x n N (6 - k + 1) S (G_X10 D).1) :
    KSp x n N (6 - k) (stsP x n N (decide (6 - k = 0)) S k 151) (F_X10_readSteps (D + 1 + 1 + 1)) := by
  have hA : KAp x n N (6 - k) k S (G_X10 (D + 1)).2.2 := by
    rw [G_X10s]
    exact c_againB (fS := (G_X10 D).1) (fU := (G_X10 D).2.1) (fW := (G_X10 D).2.2) hn hk hp hS
  have hU : KSp x n N (6 - k) (fun acc a => stP x n N S k acc (blk x n a)) (G_X10 (D + 1 + 1)).2.1 := by
    rw [G_X10s]
    exact c_stepB (fS := (G_X10 (D + 1)).1) (fU := (G_X10 (D + 1)).2.1) (fW := (G_X10 (D + 1)).2.2) hn hN hk hA
  have hF : F_X10_readSteps (D + 1 + 1 + 1) = B_X10_readSteps (G_X10 (D + 1 + 1)).1 (G_X10 (D + 1 + 1)).2.1 (G_X10 (D + 1 + 1)).2.2 := by
    funext a0 a1 a2 m
    unfold F_X10_readSteps
    rw [G_X10s]
  rw [hF]
  exact c_stsF (fS := (G_X10 (D + 1 + 1)).1) (fW := (G_X10 (D + 1 + 1)).2.2) hn (by omega) hp hU
theorem c_wkK {x : Nat → Nat} {n N : Nat} (hn : n ≤ 150) (hN : N ≤ 6) : ∀ (k D : Nat), k ≤ 5 → 3 * k + 3 ≤ D → KSp x n N (6 - k) (stL x n N k) (F_X10_readSteps D) := by
  intro k
  induction k with
  | zero =>
    intro D hk hD
    obtain ⟨D, rfl⟩ : ∃ z, D = z + 1 + 1 + 1 := ⟨D - 3, by omega⟩
    have z := c_lev (x := x) (n := n) (N := N) (k := 0) (D := D) (S := fun _ _ => .inr (1, 0)) hn hN (by omega) (fun _ _ _ _ h => by cases h) (fun z => by omega)
    rw [stL]
    exact z
  | succ k ih =>
    intro D hk hD
    obtain ⟨D, rfl⟩ : ∃ z, D = z + 1 + 1 + 1 := ⟨D - 3, by omega⟩
    have hS := ih D (by omega) (by omega)
    have z := c_lev (x := x) (n := n) (N := N) (k := k + 1) (D := D) (S := stL x n N k) hn hN (by omega) (stL_pre k) (fun _ => by
      rw [show 6 - (k + 1) + 1 = 6 - k by omega]
      exact hS)
    rw [decide_eq_false (show ¬ 6 - (k + 1) = 0 by omega)] at z
    rw [stL]
    exact z
theorem c_wk {x : Nat → Nat} {n N : Nat} {m : Mm} (hn : n ≤ 150) (hN : N ≤ 6) (c : TC x n m) (h3 : rI m 1 3 = ni 0) :
    (∀ acc e, wkP x n N = .inl (acc, e) → ∃ m', F_X10_read 8 1 (ni N) m = some (1, m') ∧ Ks (wI (wI m 8 3 0) 8 4 (ni N)) m' ∧ WD acc m' ∧ 4 * acc.length ≤ 150) ∧
    (∀ k p, wkP x n N = .inr (k, p) → ∃ m', F_X10_read 8 1 (ni N) m = some (0, m') ∧ Kf k p (wI (wI m 8 3 0) 8 4 (ni N)) m') := by
  have g := c.1
  have hS := c_wkK (x := x) (n := n) (N := N) hn hN 5 37 (by omega) (by omega)
  have z := c_lev (x := x) (n := n) (N := N) (k := 6) (D := 37) (S := stL x n N 5) hn hN (by omega) (stL_pre 5) (fun _ => hS)
  rw [decide_eq_true (show 6 - 6 = 0 by omega)] at z
  have c' : TC x n (wI (wI m 8 3 0) 8 4 (ni N)) := by
    obtain ⟨c0, c1, c2, c3⟩ := c
    refine ⟨c0, c1, by rw [rIw_ne (by omega), rIw_ne (by omega)]; exact c2, fun i hi => ?_⟩
    rw [rIw_ne (by omega), rIw_ne (by omega)]
    exact c3 i hi
  obtain ⟨s1, s2⟩ := z [] 0 (wI (wI m 8 3 0) 8 4 (ni N)) ⟨by rw [rIw, uf_ne (by omega), rIw, uf_at]; rfl, by simp, fun i hi => by simp at hi⟩ c' (by rw [rIw, uf_at]) (by rw [rIw_ne (by omega), rIw_ne (by omega)]; exact h3) (by omega) (by simp)
  have g' := c'.1
  unfold F_X10_read
  have e0 : ni (6 - 6) = 0 := rfl
  rw [e0] at s1 s2
  refine ⟨fun acc e w => ?_, fun k p w => ?_⟩
  · obtain ⟨m', x1, x2, x3, x4, x5, x6, x7⟩ := s1 acc e w
    refine ⟨m', ?_, x2, x3, by omega⟩
    simp (disch := first | assumption | omega | ((repeat (first | assumption | apply G_wI | apply G_wL | apply CSh_wI | apply CSh_wL)); done) | decide) only [↓dO0, ↓dO1, ↓dA2, ↓dK2, ↓dT2, ↓dO3, ↓dO4, ↓dA5, ↓dK5, ↓dT5, ↓dA6, ↓dK6, ↓dT6, ↓dA7, ↓dK7, ↓dT7, ↓dO8, ↓dA9, ↓dK9, ↓dT9, ↓dA10, ↓dK10, ↓dT10, ↓dA11, ↓dK11, ↓dT11, ↓dO12, ↓dA13, ↓dK13, ↓dT13, ↓dO14, ↓dA15, ↓dK15, ↓dT15, ↓dO16, ↓dO29, ↓dO42, ↓dA43, ↓dK43, ↓dT43, ↓dA44, ↓dK44, ↓dT44, ↓dO45, ↓dA46, ↓dK46, ↓dT46, ↓dO47, ↓dA48, ↓dK48, ↓dT48, ↓dO49, ↓dA50, ↓dK50, ↓dT50, ↓dA51, ↓dK51, ↓dT51, ↓dA52, ↓dK52, ↓dT52, ↓dA53, ↓dK53, ↓dT53, ↓dA54, ↓dK54, ↓dT54, ↓dA215, ↓dK215, ↓dT215, ↓dA376, ↓dK376, ↓dT376, ↓dA383, ↓dK383, ↓dT383, ↓dA390, ↓dK390, ↓dT390, ↓dA391, ↓dK391, ↓dT391, ↓dA392, ↓dK392, ↓dT392, ↓dA473, ↓dK473, ↓dT473, ↓dA474, ↓dK474, ↓dT474, ↓dA475, ↓dK475, ↓dT475, ↓dA492, ↓dK492, ↓dT492, ↓dA496, ↓dK496, ↓dT496, ↓dA497, ↓dK497, ↓dT497, ↓dR0_0, ↓dR0_1, ↓dR0_2, ↓dR0_3, ↓dR0_4, ↓dR0_5, ↓dR0_6, ↓dR0_7, ↓dR0_8, ↓dR0_9, ↓dR0_10, ↓dR0_11, ↓dR0_12, ↓dR1_0, ↓dR4_2, ↓dR8_0, ↓dR8_1, ↓dR8_2, ↓dR12_5, ↓dR14_0, ↓dR14_1, ↓dR14_2, ↓dR42_0, ↓dR45_0, ↓dR49_9, ↓dR49_10, ↓dR49_11, ↓dR49_12, ↓dR49_15, ↓dR49_16, ↓dR49_17, ↓dR49_18, ↓dR49_19, ↓dR49_20, ↓dR49_21, ↓dR49_23, ↓dR49_24, ↓dR49_25, ↓dR49_26, ↓dR49_34, ↓dF54, ↓dB54, ↓dC54, ↓dF215, ↓dB215, ↓dC215, ↓dF376, ↓dB376, ↓dC376, ↓dF383, ↓dB383, ↓dC383, ↓dF392, ↓dB392, ↓dC392, ↓dF475, ↓dB475, ↓dC475, ↓dF492, ↓dB492, ↓dC492, ↓lt9_e, ↓jn_e, ↓bd_s, ↓bdE x1, gd_t, bd_s, oc_s, oc_n, lt9_e, jn_e, okOwI, okAwI, okTwI, lnwI, okOwL, okAwL, okTwL, lnwL, rRwI, rRwL, sHwI, sHwL, rIwL, rLwI, gO0, gO1, gA2, gK2, gT2, gN2, gO3, gO4, gA5, gK5, gT5, gN5, gA6, gK6, gT6, gN6, gA7, gK7, gT7, gN7, gO8, gA9, gK9, gT9, gN9, gA10, gK10, gT10, gN10, gA11, gK11, gT11, gN11, gO12, gA13, gK13, gT13, gN13, gO14, gA15, gK15, gT15, gN15, gO16, gO29, gO42, gA43, gK43, gT43, gN43, gA44, gK44, gT44, gN44, gO45, gA46, gK46, gT46, gN46, gO47, gA48, gK48, gT48, gN48, gO49, gA50, gK50, gT50, gN50, gA51, gK51, gT51, gN51, gA52, gK52, gT52, gN52, gA53, gK53, gT53, gN53, gA54, gK54, gT54, gN54, gA215, gK215, gT215, gN215, gA376, gK376, gT376, gN376, gA383, gK383, gT383, gN383, gA390, gK390, gT390, gN390, gA391, gK391, gT391, gN391, gA392, gK392, gT392, gN392, gA473, gK473, gT473, gN473, gA474, gK474, gT474, gN474, gA475, gK475, gT475, gN475, gA492, gK492, gT492, gN492, gA496, gK496, gT496, gN496, gA497, gK497, gT497, gN497, gR0_0, gR0_1, gR0_2, gR0_3, gR0_4, gR0_5, gR0_6, gR0_7, gR0_8, gR0_9, gR0_10, gR0_11, gR0_12, gR1_0, gR4_2, gR8_0, gR8_1, gR8_2, gR12_5, gR14_0, gR14_1, gR14_2, gR42_0, gR45_0, gR49_9, gR49_10, gR49_11, gR49_12, gR49_15, gR49_16, gR49_17, gR49_18, gR49_19, gR49_20, gR49_21, gR49_23, gR49_24, gR49_25, gR49_26, gR49_34, gF54, gB54, gC54, gF215, gB215, gC215, gF376, gB376, gC376, gF383, gB383, gC383, gF392, gB392, gC392, gF475, gB475, gC475, gF492, gB492, gC492, ni_le, ni_lt, ni_eq, ni_add, ni_mul, lni_le, lni_lt, nil_le, nil_lt, lni_eq, nil_eq, lni_add, nil_add, lni_mul, nil_mul, ix_ni, ix_lit, ni_ne1, ni_lt0, ↓reduceIte, Nat.reduceEqDiff, Nat.reduceMul, Nat.reduceAdd, Nat.reduceLeDiff, and_true, true_and, false_and, and_false, if_true, if_false, Nat.not_lt_zero, false_or, or_false, ft9, decide_true, o10, eq_self, b2i_0, b2i_1, b2i_ok, b2i_inj, b2i_t, b2i_f, rIwIk, or_true]
  · obtain ⟨m', x1, x2⟩ := s2 k p w
    refine ⟨m', ?_, x2⟩
    simp (disch := first | assumption | omega | ((repeat (first | assumption | apply G_wI | apply G_wL | apply CSh_wI | apply CSh_wL)); done) | decide) only [↓dO0, ↓dO1, ↓dA2, ↓dK2, ↓dT2, ↓dO3, ↓dO4, ↓dA5, ↓dK5, ↓dT5, ↓dA6, ↓dK6, ↓dT6, ↓dA7, ↓dK7, ↓dT7, ↓dO8, ↓dA9, ↓dK9, ↓dT9, ↓dA10, ↓dK10, ↓dT10, ↓dA11, ↓dK11, ↓dT11, ↓dO12, ↓dA13, ↓dK13, ↓dT13, ↓dO14, ↓dA15, ↓dK15, ↓dT15, ↓dO16, ↓dO29, ↓dO42, ↓dA43, ↓dK43, ↓dT43, ↓dA44, ↓dK44, ↓dT44, ↓dO45, ↓dA46, ↓dK46, ↓dT46, ↓dO47, ↓dA48, ↓dK48, ↓dT48, ↓dO49, ↓dA50, ↓dK50, ↓dT50, ↓dA51, ↓dK51, ↓dT51, ↓dA52, ↓dK52, ↓dT52, ↓dA53, ↓dK53, ↓dT53, ↓dA54, ↓dK54, ↓dT54, ↓dA215, ↓dK215, ↓dT215, ↓dA376, ↓dK376, ↓dT376, ↓dA383, ↓dK383, ↓dT383, ↓dA390, ↓dK390, ↓dT390, ↓dA391, ↓dK391, ↓dT391, ↓dA392, ↓dK392, ↓dT392, ↓dA473, ↓dK473, ↓dT473, ↓dA474, ↓dK474, ↓dT474, ↓dA475, ↓dK475, ↓dT475, ↓dA492, ↓dK492, ↓dT492, ↓dA496, ↓dK496, ↓dT496, ↓dA497, ↓dK497, ↓dT497, ↓dR0_0, ↓dR0_1, ↓dR0_2, ↓dR0_3, ↓dR0_4, ↓dR0_5, ↓dR0_6, ↓dR0_7, ↓dR0_8, ↓dR0_9, ↓dR0_10, ↓dR0_11, ↓dR0_12, ↓dR1_0, ↓dR4_2, ↓dR8_0, ↓dR8_1, ↓dR8_2, ↓dR12_5, ↓dR14_0, ↓dR14_1, ↓dR14_2, ↓dR42_0, ↓dR45_0, ↓dR49_9, ↓dR49_10, ↓dR49_11, ↓dR49_12, ↓dR49_15, ↓dR49_16, ↓dR49_17, ↓dR49_18, ↓dR49_19, ↓dR49_20, ↓dR49_21, ↓dR49_23, ↓dR49_24, ↓dR49_25, ↓dR49_26, ↓dR49_34, ↓dF54, ↓dB54, ↓dC54, ↓dF215, ↓dB215, ↓dC215, ↓dF376, ↓dB376, ↓dC376, ↓dF383, ↓dB383, ↓dC383, ↓dF392, ↓dB392, ↓dC392, ↓dF475, ↓dB475, ↓dC475, ↓dF492, ↓dB492, ↓dC492, ↓lt9_e, ↓jn_e, ↓bd_s, ↓bdE x1, gd_t, bd_s, oc_s, oc_n, lt9_e, jn_e, okOwI, okAwI, okTwI, lnwI, okOwL, okAwL, okTwL, lnwL, rRwI, rRwL, sHwI, sHwL, rIwL, rLwI, gO0, gO1, gA2, gK2, gT2, gN2, gO3, gO4, gA5, gK5, gT5, gN5, gA6, gK6, gT6, gN6, gA7, gK7, gT7, gN7, gO8, gA9, gK9, gT9, gN9, gA10, gK10, gT10, gN10, gA11, gK11, gT11, gN11, gO12, gA13, gK13, gT13, gN13, gO14, gA15, gK15, gT15, gN15, gO16, gO29, gO42, gA43, gK43, gT43, gN43, gA44, gK44, gT44, gN44, gO45, gA46, gK46, gT46, gN46, gO47, gA48, gK48, gT48, gN48, gO49, gA50, gK50, gT50, gN50, gA51, gK51, gT51, gN51, gA52, gK52, gT52, gN52, gA53, gK53, gT53, gN53, gA54, gK54, gT54, gN54, gA215, gK215, gT215, gN215, gA376, gK376, gT376, gN376, gA383, gK383, gT383, gN383, gA390, gK390, gT390, gN390, gA391, gK391, gT391, gN391, gA392, gK392, gT392, gN392, gA473, gK473, gT473, gN473, gA474, gK474, gT474, gN474, gA475, gK475, gT475, gN475, gA492, gK492, gT492, gN492, gA496, gK496, gT496, gN496, gA497, gK497, gT497, gN497, gR0_0, gR0_1, gR0_2, gR0_3, gR0_4, gR0_5, gR0_6, gR0_7, gR0_8, gR0_9, gR0_10, gR0_11, gR0_12, gR1_0, gR4_2, gR8_0, gR8_1, gR8_2, gR12_5, gR14_0, gR14_1, gR14_2, gR42_0, gR45_0, gR49_9, gR49_10, gR49_11, gR49_12, gR49_15, gR49_16, gR49_17, gR49_18, gR49_19, gR49_20, gR49_21, gR49_23, gR49_24, gR49_25, gR49_26, gR49_34, gF54, gB54, gC54, gF215, gB215, gC215, gF376, gB376, gC376, gF383, gB383, gC383, gF392, gB392, gC392, gF475, gB475, gC475, gF492, gB492, gC492, ni_le, ni_lt, ni_eq, ni_add, ni_mul, lni_le, lni_lt, nil_le, nil_lt, lni_eq, nil_eq, lni_add, nil_add, lni_mul, nil_mul, ix_ni, ix_lit, ni_ne1, ni_lt0, ↓reduceIte, Nat.reduceEqDiff, Nat.reduceMul, Nat.reduceAdd, Nat.reduceLeDiff, and_true, true_and, false_and, and_false, if_true, if_false, Nat.not_lt_zero, false_or, or_false, ft9, decide_true, o10, eq_self, b2i_0, b2i_1, b2i_ok, b2i_inj, b2i_t, b2i_f, rIwIk, true_or]
