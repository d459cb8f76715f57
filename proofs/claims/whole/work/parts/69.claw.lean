/-! L2: the class's reading of a law. -/
def RSp (x : Nat → Nat) (n qd o : Nat) (P : List Nat → Nat → LR) (F : Nat → Nat → Int32 → Mm → Option (Int32 × Mm)) : Prop := ∀ (acc : List Nat) (a s : Nat) (m : Mm), LD qd acc m → TC x n m → rI m 1 3 = ni a → a ≤ n → acc.length + s ≤ a →
  (∀ acc' e, P acc a = .inl (acc', e) → ∃ m', F 4 1 (ni o) m = some (1, m') ∧ Ls qd m m' ∧ LD qd acc' m' ∧ rI m' 1 3 = ni e ∧ e ≤ n ∧ a < e ∧ acc'.length + s ≤ e) ∧
  (∀ k p, P acc a = .inr (k, p) → ∃ m', F 4 1 (ni o) m = some (0, m') ∧ Lf qd k p m m')
theorem len_s (l : List Nat) (v : Nat) : (l ++ [v]).length = l.length + 1 := by rw [List.length_append]; rfl
theorem c_skip {x : Nat → Nat} {n b : Nat} {m : Mm} (c : TC x n m) (h3 : rI m 1 3 = ni b) : F_X9_skip 1 m = some ((), wI m 1 3 (ni (b + 1))) := by
  unfold F_X9_skip
  have g := c.1
  simp (disch := first | assumption | omega | ((repeat (first | assumption | apply G_wI | apply G_wL | apply CSh_wI | apply CSh_wL)); done) | decide) only [↓dO0, ↓dO1, ↓dA2, ↓dK2, ↓dT2, ↓dO3, ↓dO4, ↓dA5, ↓dK5, ↓dT5, ↓dA6, ↓dK6, ↓dT6, ↓dA7, ↓dK7, ↓dT7, ↓dO8, ↓dA9, ↓dK9, ↓dT9, ↓dA10, ↓dK10, ↓dT10, ↓dA11, ↓dK11, ↓dT11, ↓dO12, ↓dA13, ↓dK13, ↓dT13, ↓dO14, ↓dA15, ↓dK15, ↓dT15, ↓dO16, ↓dO29, ↓dO42, ↓dA43, ↓dK43, ↓dT43, ↓dA44, ↓dK44, ↓dT44, ↓dO45, ↓dA46, ↓dK46, ↓dT46, ↓dO47, ↓dA48, ↓dK48, ↓dT48, ↓dO49, ↓dA50, ↓dK50, ↓dT50, ↓dA51, ↓dK51, ↓dT51, ↓dA52, ↓dK52, ↓dT52, ↓dA53, ↓dK53, ↓dT53, ↓dA54, ↓dK54, ↓dT54, ↓dA215, ↓dK215, ↓dT215, ↓dA376, ↓dK376, ↓dT376, ↓dA383, ↓dK383, ↓dT383, ↓dA390, ↓dK390, ↓dT390, ↓dA391, ↓dK391, ↓dT391, ↓dA392, ↓dK392, ↓dT392, ↓dA473, ↓dK473, ↓dT473, ↓dA474, ↓dK474, ↓dT474, ↓dA475, ↓dK475, ↓dT475, ↓dA492, ↓dK492, ↓dT492, ↓dA496, ↓dK496, ↓dT496, ↓dA497, ↓dK497, ↓dT497, ↓dR0_0, ↓dR0_1, ↓dR0_2, ↓dR0_3, ↓dR0_4, ↓dR0_5, ↓dR0_6, ↓dR0_7, ↓dR0_8, ↓dR0_9, ↓dR0_10, ↓dR0_11, ↓dR0_12, ↓dR1_0, ↓dR4_2, ↓dR8_0, ↓dR8_1, ↓dR8_2, ↓dR12_5, ↓dR14_0, ↓dR14_1, ↓dR14_2, ↓dR42_0, ↓dR45_0, ↓dR49_9, ↓dR49_10, ↓dR49_11, ↓dR49_12, ↓dR49_15, ↓dR49_16, ↓dR49_17, ↓dR49_18, ↓dR49_19, ↓dR49_20, ↓dR49_21, ↓dR49_23, ↓dR49_24, ↓dR49_25, ↓dR49_26, ↓dR49_34, ↓dF54, ↓dB54, ↓dC54, ↓dF215, ↓dB215, ↓dC215, ↓dF376, ↓dB376, ↓dC376, ↓dF383, ↓dB383, ↓dC383, ↓dF392, ↓dB392, ↓dC392, ↓dF475, ↓dB475, ↓dC475, ↓dF492, ↓dB492, ↓dC492, ↓lt9_e, ↓jn_e, ↓bd_s, gd_t, bd_s, oc_s, oc_n, lt9_e, jn_e, okOwI, okAwI, okTwI, lnwI, okOwL, okAwL, okTwL, lnwL, rRwI, rRwL, sHwI, sHwL, rIwL, rLwI, gO0, gO1, gA2, gK2, gT2, gN2, gO3, gO4, gA5, gK5, gT5, gN5, gA6, gK6, gT6, gN6, gA7, gK7, gT7, gN7, gO8, gA9, gK9, gT9, gN9, gA10, gK10, gT10, gN10, gA11, gK11, gT11, gN11, gO12, gA13, gK13, gT13, gN13, gO14, gA15, gK15, gT15, gN15, gO16, gO29, gO42, gA43, gK43, gT43, gN43, gA44, gK44, gT44, gN44, gO45, gA46, gK46, gT46, gN46, gO47, gA48, gK48, gT48, gN48, gO49, gA50, gK50, gT50, gN50, gA51, gK51, gT51, gN51, gA52, gK52, gT52, gN52, gA53, gK53, gT53, gN53, gA54, gK54, gT54, gN54, gA215, gK215, gT215, gN215, gA376, gK376, gT376, gN376, gA383, gK383, gT383, gN383, gA390, gK390, gT390, gN390, gA391, gK391, gT391, gN391, gA392, gK392, gT392, gN392, gA473, gK473, gT473, gN473, gA474, gK474, gT474, gN474, gA475, gK475, gT475, gN475, gA492, gK492, gT492, gN492, gA496, gK496, gT496, gN496, gA497, gK497, gT497, gN497, gR0_0, gR0_1, gR0_2, gR0_3, gR0_4, gR0_5, gR0_6, gR0_7, gR0_8, gR0_9, gR0_10, gR0_11, gR0_12, gR1_0, gR4_2, gR8_0, gR8_1, gR8_2, gR12_5, gR14_0, gR14_1, gR14_2, gR42_0, gR45_0, gR49_9, gR49_10, gR49_11, gR49_12, gR49_15, gR49_16, gR49_17, gR49_18, gR49_19, gR49_20, gR49_21, gR49_23, gR49_24, gR49_25, gR49_26, gR49_34, gF54, gB54, gC54, gF215, gB215, gC215, gF376, gB376, gC376, gF383, gB383, gC383, gF392, gB392, gC392, gF475, gB475, gC475, gF492, gB492, gC492, ni_le, ni_lt, ni_eq, ni_add, ni_mul, lni_le, lni_lt, nil_le, nil_lt, lni_eq, nil_eq, lni_add, nil_add, lni_mul, nil_mul, ix_ni, ix_lit, ni_ne1, ni_lt0, ↓reduceIte, Nat.reduceEqDiff, Nat.reduceMul, Nat.reduceAdd, Nat.reduceLeDiff, and_true, true_and, false_and, and_false, if_true, if_false, Nat.not_lt_zero, false_or, or_false, ft9, decide_true, o10, eq_self, b2i_0, b2i_1, b2i_ok, b2i_inj, b2i_t, b2i_f, rIwIk, h3]
theorem LD_q {qd : Nat} {acc : List Nat} {m : Mm} (d : LD qd acc m) : qd = 5 ∨ qd = 6 := d.2.2.1
theorem c_wordB {x : Nat → Nat} {n qd k : Nat} {S : List Nat → Nat → LR} {fS fU fW : Nat → Nat → Int32 → Mm → Option (Int32 × Mm)} (hn : n ≤ 150) (hk : k ≤ 6) (hS : 0 < k → RSp x n qd (6 - k + 1) S fS) :
    RSp x n qd (6 - k) (fun acc a => wordP x n S k acc (blk x n a)) (B_X3_readWord fS fU fW) := by
  intro acc a s m d c h3 han hs
  have g := c.1
  have hq := LD_q d
  have hb := blk_le (x := x) han
  obtain ⟨w1, w2⟩ := c_word c h3 han
  dsimp only
  unfold wordP B_X3_readWord
  generalize blk x n a = b at *
  cases q1 : isL x n b
  · simp only [if_true]
    obtain ⟨m1, u1, u2⟩ := w2 q1
    refine ⟨fun acc' e z => (by cases z), fun k p z => ?_⟩
    cases z
    refine ⟨m1, ?_, Tf_Lf u2 d⟩
    simp only [gO1 g, gd_t, bdE u1, if_true]
  · simp only [reduceCtorEq, if_false]
    obtain ⟨m1, u1, u2, u3, u4, u5, u6⟩ := w1 q1
    have c1 := TC_s c u2
    have d1 := LD_s d u2
    have g1 := c1.1
    have hk1 := c_kindOf c1 u3 u4 hb.2
    have n1 : ((1 : Int32) = 0) = False := o10
    rcases kwL_le x n b with q2 | ⟨q2, q3⟩
    · rw [if_pos q2] at hk1
      simp only [q2, if_true]
      obtain ⟨m2, v1, v2⟩ := c_fail (k := 1) (p := b) g1
      refine ⟨fun acc' e z => (by cases z), fun k p z => ?_⟩
      cases z
      refine ⟨m2, ?_, Ls_Lf (Ts_Ls u2) (Tf_Lf v2 d1)⟩
      rw [ni_1] at v1
      simp only [gO1 g, gO1 g1, gd_t, bdE u1, bdE hk1, lt9_e, n1, if_false, if_true, u4, bdE v1, true_or, decide_true]
    · rw [if_neg (show ¬ kwL x n b = 0 by omega)] at hk1
      rw [if_neg (show ¬ kwL x n b = 0 by omega)]
      have hm1 : (ni (kwL x n b) = (-1 : Int32)) = False := eq_false (fun z => (ni_ne1 (by omega)).mp z)
      have e4 : (ni (kwL x n b) = (1004 : Int32)) = (kwL x n b = 1004) := by
        rw [show (1004 : Int32) = ni 1004 from rfl]
        exact propext (ni_eq (by omega) (by omega))
      have e5 : (ni (kwL x n b) = (1005 : Int32)) = (kwL x n b = 1005) := by
        rw [show (1005 : Int32) = ni 1005 from rfl]
        exact propext (ni_eq (by omega) (by omega))
      by_cases q4 : kwL x n b < 1004
      · rw [if_pos q4]
        have f4 : ¬ kwL x n b = 1004 := by omega
        have f5 : ¬ kwL x n b = 1005 := by omega
        obtain ⟨m2, v1, v2, v3, v4⟩ := c_emit (v := kwL x n b) d1 (by omega)
        have ht : RSp x n qd (6 - k) (fun _ _ => .inl (acc ++ [kwL x n b], wE x n b)) (fun _ _ _ _ => some (1, m2)) ∨ True := .inr trivial
        refine ⟨fun acc' e z => ?_, fun k p z => (by cases z)⟩
        cases z
        refine ⟨m2, ?_, Ls_trans (Ts_Ls u2) v3, v2, by rw [v4]; exact u3, u5, by omega, by rw [len_s]; omega⟩
        simp only [gO1 g, gO1 g1, gO4 g1, gd_t, bdE u1, bdE hk1, lt9_e, jn_e, n1, hm1, e4, e5, f4, f5, if_false, if_true, bdE v1, or_true, decide_true]
      · rw [if_neg q4]
        by_cases q5 : k = 0
        · rw [if_pos q5]
          obtain ⟨m2, v1, v2⟩ := c_fail (k := 3) (p := b) g1
          refine ⟨fun acc' e z => (by cases z), fun k p z => ?_⟩
          cases z
          refine ⟨m2, ?_, Ls_Lf (Ts_Ls u2) (Tf_Lf v2 d1)⟩
          rw [show ni 3 = 3 from rfl] at v1
          have l6 : (ni (6 - k) < (6 : Int32)) = False := by
            rw [q5]
            decide
          have f45 : kwL x n b = 1004 ∨ kwL x n b = 1005 := by omega
          rcases f45 with f | f
          · have f4 := eq_true f
            simp only [gO1 g, gO1 g1, gd_t, bdE u1, bdE hk1, lt9_e, jn_e, n1, hm1, e4, f4, if_false, if_true, l6, u4, bdE v1, true_or, decide_true]
          · have f5 := eq_true f
            have f4 : ¬ kwL x n b = 1004 := by omega
            simp only [gO1 g, gO1 g1, gd_t, bdE u1, bdE hk1, lt9_e, jn_e, n1, hm1, e4, e5, f4, f5, if_false, if_true, l6, u4, bdE v1, true_or, decide_true]
        · rw [if_neg q5]
          have hSS := hS (by omega)
          have l6 : (ni (6 - k) < (6 : Int32)) = True := eq_true (by
            rw [show (6 : Int32) = ni 6 from rfl, ni_lt (by omega) (by omega)]
            omega)
          have o1 : ni (6 - k) + 1 = ni (6 - k + 1) := ni_add _ 1
          -- the head
          have head : ∀ (X : Option (Int32 × Mm)), (bd (F_X9_sign 1 91 m1) fun r10 m11 => if r10 = 0 then gd (okO m11 4 3) (bd (F_X3_emit 4 (ni (kwL x n b)) m11) fun _ m9 => some (0, m9)) else gd (okO m11 4 3) (bd (fS 4 1 (ni (6 - k + 1)) m11) fun r12 m13 => if r12 = 0 then gd (okO m13 4 3) (bd (F_X3_emit 4 (ni (kwL x n b)) m13) fun _ m9 => some (0, m9)) else gd (okO m13 1 9) (bd (F_X9_sign 1 44 m13) fun r14 m15 => if r14 = 0 then gd (okO m15 4 3) (bd (F_X3_emit 4 (ni (kwL x n b)) m15) fun _ m9 => some (0, m9)) else gd (okO m15 4 3) (bd (fS 4 1 (ni (6 - k + 1)) m15) fun r16 m17 => if r16 = 0 then gd (okO m17 4 3) (bd (F_X3_emit 4 (ni (kwL x n b)) m17) fun _ m9 => some (0, m9)) else gd (okO m17 1 9) (bd (F_X9_sign 1 93 m17) fun r18 m19 => if r18 = 0 then gd (okO m19 4 3) (bd (F_X3_emit 4 (ni (kwL x n b)) m19) fun _ m9 => some (0, m9)) else gd (okO m19 4 3) (bd (F_X3_emit 4 (ni (kwL x n b)) m19) fun _ m9 => some (1, m9))))))) = X → B_X3_readWord fS fU fW 4 1 (ni (6 - k)) m = X := by
            intro X hX
            rw [← hX]
            unfold B_X3_readWord
            have f45 : kwL x n b = 1004 ∨ kwL x n b = 1005 := by omega
            rcases f45 with f | f
            · have f4 := eq_true f
              simp only [gO1 g, gO1 g1, gd_t, bdE u1, bdE hk1, lt9_e, jn_e, n1, hm1, e4, f4, if_false, if_true, l6, o1, true_or, or_true, decide_true]
            · have f5 := eq_true f
              have f4 : ¬ kwL x n b = 1004 := by omega
              simp only [gO1 g, gO1 g1, gd_t, bdE u1, bdE hk1, lt9_e, jn_e, n1, hm1, e4, e5, f4, f5, if_false, if_true, l6, o1, true_or, or_true, decide_true]
          have bad : ∀ (kk p : Nat) (M : Mm), Lf qd kk p m M → ∃ M', gd (okO M 4 3) (bd (F_X3_emit 4 (ni (kwL x n b)) M) fun _ m9 => some ((0 : Int32), m9)) = some (0, M') ∧ Lf qd kk p m M' := by
            intro kk p M hM
            obtain ⟨gM, rM⟩ := Lf_G hM d
            obtain ⟨M', z1, z2⟩ := c_emitF (v := ni (kwL x n b)) hM gM rM hq
            exact ⟨M', by rw [gO4 gM, gd_t, z1, bd_s], z2⟩
          have lu : Ls qd m m1 := Ts_Ls u2
          unfold B_X3_readWord at head
          unfold pairP
          obtain ⟨s1, s2⟩ := c_sign (cc := 91) c1 u3 u5 (by omega)
          rw [show ni 91 = 91 from rfl] at s1 s2
          cases p1 : sgnP x n (wE x n b) 91 with
          | inr f =>
            obtain ⟨kk, p⟩ := f
            refine ⟨fun acc' e z => (by cases z), fun k p z => ?_⟩
            cases z
            obtain ⟨m2, v1, v2⟩ := s2 _ _ p1
            obtain ⟨m3, r1, r2⟩ := bad kk p m2 (Ls_Lf lu (Tf_Lf v2 d1))
            refine ⟨m3, head _ ?_, r2⟩
            simp only [bdE v1, if_true, r1]
          | inl e1 =>
            obtain ⟨m2, v1, v2, v3, v4, v5, v6⟩ := s1 _ p1
            have c2 := TC_s c1 v2
            have d2 := LD_s d1 v2
            have g2 := c2.1
            have l2 := Ls_trans lu (Ts_Ls v2)
            obtain ⟨t1, t2⟩ := hSS acc e1 s m2 d2 c2 v3 v5 (by omega)
            dsimp only
            cases p2 : S acc e1 with
            | inr f =>
              obtain ⟨kk, p⟩ := f
              refine ⟨fun acc' e z => (by cases z), fun k p z => ?_⟩
              cases z
              obtain ⟨m3, x1, x2⟩ := t2 _ _ p2
              obtain ⟨m4, r1, r2⟩ := bad kk p m3 (Ls_Lf l2 x2)
              refine ⟨m4, head _ ?_, r2⟩
              simp only [bdE v1, n1, if_false, gO4 g2, gd_t, bdE x1, if_true, r1]
            | inl f =>
              obtain ⟨acc1, e2⟩ := f
              obtain ⟨m3, x1, x2, x3, x4, x5, x6, x7⟩ := t1 _ _ p2
              have c3 := TC_L c2 x2 hq
              have g3 := c3.1
              have l3 := Ls_trans l2 x2
              obtain ⟨s3, s4⟩ := c_sign (cc := 44) c3 x4 x5 (by omega)
              rw [show ni 44 = 44 from rfl] at s3 s4
              dsimp only
              cases p3 : sgnP x n e2 44 with
              | inr f =>
                obtain ⟨kk, p⟩ := f
                refine ⟨fun acc' e z => (by cases z), fun k p z => ?_⟩
                cases z
                obtain ⟨m4, y1, y2⟩ := s4 _ _ p3
                obtain ⟨m5, r1, r2⟩ := bad kk p m4 (Ls_Lf l3 (Tf_Lf y2 x3))
                refine ⟨m5, head _ ?_, r2⟩
                simp only [bdE v1, n1, if_false, gO4 g2, gO1 g3, gd_t, bdE x1, bdE y1, if_true, r1]
              | inl e3 =>
                obtain ⟨m4, y1, y2, y3, y4, y5, y6⟩ := s3 _ p3
                have c4 := TC_s c3 y2
                have d4 := LD_s x3 y2
                have g4 := c4.1
                have l4 := Ls_trans l3 (Ts_Ls y2)
                obtain ⟨t3, t4⟩ := hSS acc1 e3 s m4 d4 c4 y3 y5 (by omega)
                dsimp only
                cases p4 : S acc1 e3 with
                | inr f =>
                  obtain ⟨kk, p⟩ := f
                  refine ⟨fun acc' e z => (by cases z), fun k p z => ?_⟩
                  cases z
                  obtain ⟨m5, z1, z2⟩ := t4 _ _ p4
                  obtain ⟨m6, r1, r2⟩ := bad kk p m5 (Ls_Lf l4 z2)
                  refine ⟨m6, head _ ?_, r2⟩
                  simp only [bdE v1, n1, if_false, gO4 g2, gO1 g3, gO4 g4, gd_t, bdE x1, bdE y1, bdE z1, if_true, r1]
                | inl f =>
                  obtain ⟨acc2, e4⟩ := f
                  obtain ⟨m5, z1, z2, z3, z4, z5, z6, z7⟩ := t3 _ _ p4
                  have c5 := TC_L c4 z2 hq
                  have g5 := c5.1
                  have l5 := Ls_trans l4 z2
                  obtain ⟨s5, s6⟩ := c_sign (cc := 93) c5 z4 z5 (by omega)
                  rw [show ni 93 = 93 from rfl] at s5 s6
                  dsimp only
                  cases p5 : sgnP x n e4 93 with
                  | inr f =>
                    obtain ⟨kk, p⟩ := f
                    refine ⟨fun acc' e z => (by cases z), fun k p z => ?_⟩
                    cases z
                    obtain ⟨m6, a1, a2⟩ := s6 _ _ p5
                    obtain ⟨m7, r1, r2⟩ := bad kk p m6 (Ls_Lf l5 (Tf_Lf a2 z3))
                    refine ⟨m7, head _ ?_, r2⟩
                    simp only [bdE v1, n1, if_false, gO4 g2, gO1 g3, gO4 g4, gO1 g5, gd_t, bdE x1, bdE y1, bdE z1, bdE a1, if_true, r1]
                  | inl e5 =>
                    obtain ⟨m6, a1, a2, a3, a4, a5, a6⟩ := s5 _ p5
                    have c6 := TC_s c5 a2
                    have d6 := LD_s z3 a2
                    have g6 := c6.1
                    obtain ⟨m7, b1, b2, b3, b4⟩ := c_emit (v := kwL x n b) d6 (by omega)
                    refine ⟨fun acc' e z => ?_, fun k p z => (by cases z)⟩
                    cases z
                    refine ⟨m7, head _ ?_, Ls_trans (Ls_trans l5 (Ts_Ls a2)) b3, b2, by rw [b4]; exact a3, a5, by omega, by rw [len_s]; omega⟩
                    simp only [bdE v1, n1, if_false, gO4 g2, gO1 g3, gO4 g4, gO1 g5, gO4 g6, gd_t, bdE x1, bdE y1, bdE z1, bdE a1, bdE b1]
theorem c_unitB {x : Nat → Nat} {n qd k : Nat} {S : List Nat → Nat → LR} {fS fU fW : Nat → Nat → Int32 → Mm → Option (Int32 × Mm)} (hn : n ≤ 150) (hk : k ≤ 6) (hS : 0 < k → RSp x n qd (6 - k + 1) S fS) (hW : RSp x n qd (6 - k) (fun acc a => wordP x n S k acc (blk x n a)) fW) :
    RSp x n qd (6 - k) (oneP x n S k) (B_X3_readUnit fS fU fW) := by
  intro acc a s m d c h3 han hs
  have g := c.1
  have hq := LD_q d
  have hb := blk_le (x := x) han
  have hbb := blk_blk (x := x) han
  obtain ⟨m1, y1, y2, y3, y4⟩ := c_peek c h3 han
  have c1 := TC_s c y2
  have d1 := LD_s d y2
  have g1 := c1.1
  have l1 : Ls qd m m1 := Ts_Ls y2
  have hd := isDc (n := n) (a := blk x n a) m1 (TC_x c1)
  have h40 := chr_c (n := n) (a := blk x n a) (c := 40) (TC_x c1) (by omega)
  have n1 : ((1 : Int32) = 0) = False := o10
  unfold oneP B_X3_readUnit
  generalize blk x n a = b at *
  cases q1 : isD x n b
  · rw [q1] at hd
    simp only [reduceCtorEq, if_false]
    by_cases q2 : b < n ∧ x b = 40
    · rw [if_pos q2]
      have e40 : (chr x n b = (40 : Int32)) = True := eq_true (h40.mpr q2)
      by_cases q3 : k = 0
      · rw [if_pos q3]
        obtain ⟨m2, v1, v2⟩ := c_fail (k := 3) (p := b) g1
        refine ⟨fun acc' e z => (by cases z), fun k p z => ?_⟩
        cases z
        refine ⟨m2, ?_, Ls_Lf l1 (Tf_Lf v2 d1)⟩
        have l6 : (ni (6 - k) < (6 : Int32)) = False := by
          rw [q3]
          decide
        rw [show ni 3 = 3 from rfl] at v1
        simp only [gO1 g, gO1 g1, gd_t, bdE y1, lt9_e, bdE hd, b2i_f, if_true, e40, l6, if_false, y3, bdE v1, true_or, decide_true]
      · rw [if_neg q3]
        have l6 : (ni (6 - k) < (6 : Int32)) = True := eq_true (by
          rw [show (6 : Int32) = ni 6 from rfl, ni_lt (by omega) (by omega)]
          omega)
        have o1 : ni (6 - k) + 1 = ni (6 - k + 1) := ni_add _ 1
        have sk := c_skip c1 y3
        have t2 : Ts m1 (wI m1 1 3 (ni (b + 1))) := Ts_w (Ts_refl m1) (by omega)
        have c2 := TC_s c1 t2
        have d2 := LD_s d1 t2
        have g2 := c2.1
        obtain ⟨s1, s2⟩ := hS (by omega) acc (b + 1) s _ d2 c2 (by rw [rIw, uf_at]) (by omega) (by omega)
        have l2 := Ls_trans l1 (Ts_Ls t2)
        unfold parP
        cases p1 : S acc (b + 1) with
        | inr f =>
          obtain ⟨kk, p⟩ := f
          refine ⟨fun acc' e z => (by cases z), fun k p z => ?_⟩
          cases z
          obtain ⟨m3, x1, x2⟩ := s2 _ _ p1
          refine ⟨m3, ?_, Ls_Lf l2 x2⟩
          simp only [gO1 g, gO1 g1, gO4 g2, gd_t, bdE y1, lt9_e, bdE hd, b2i_f, if_true, e40, l6, o1, bdE sk, bdE x1]
        | inl f =>
          obtain ⟨acc1, e⟩ := f
          obtain ⟨m3, x1, x2, x3, x4, x5, x6, x7⟩ := s1 _ _ p1
          have c3 := TC_L c2 x2 hq
          have g3 := c3.1
          have l3 := Ls_trans l2 x2
          obtain ⟨s3, s4⟩ := c_sign (cc := 41) c3 x4 x5 (by omega)
          rw [show ni 41 = 41 from rfl] at s3 s4
          dsimp only
          cases p2 : sgnP x n e 41 with
          | inr f =>
            obtain ⟨kk, p⟩ := f
            refine ⟨fun acc' e z => (by cases z), fun k p z => ?_⟩
            cases z
            obtain ⟨m4, z1, z2⟩ := s4 _ _ p2
            refine ⟨m4, ?_, Ls_Lf l3 (Tf_Lf z2 x3)⟩
            simp only [gO1 g, gO1 g1, gO4 g2, gO1 g3, gd_t, bdE y1, lt9_e, bdE hd, b2i_f, if_true, e40, l6, o1, bdE sk, bdE x1, n1, if_false, bdE z1]
          | inl e2 =>
            obtain ⟨m4, z1, z2, z3, z4, z5, z6⟩ := s3 _ p2
            refine ⟨fun acc' e z => ?_, fun k p z => (by cases z)⟩
            cases z
            refine ⟨m4, ?_, Ls_trans l3 (Ts_Ls z2), LD_s x3 z2, z3, z5, by omega, by omega⟩
            simp only [gO1 g, gO1 g1, gO4 g2, gO1 g3, gd_t, bdE y1, lt9_e, bdE hd, b2i_f, if_true, e40, l6, o1, bdE sk, bdE x1, n1, if_false, bdE z1]
    · rw [if_neg q2]
      have e40 : (chr x n b = (40 : Int32)) = False := eq_false (fun z => q2 (h40.mp z))
      obtain ⟨s1, s2⟩ := hW acc b s m1 d1 c1 y3 hb.2 (by omega)
      dsimp only at s1 s2
      rw [hbb] at s1 s2
      refine ⟨fun acc' e z => ?_, fun k p z => ?_⟩
      · obtain ⟨m2, x1, x2, x3, x4, x5, x6, x7⟩ := s1 acc' e z
        refine ⟨m2, ?_, Ls_trans l1 x2, x3, x4, x5, by omega, x7⟩
        simp only [gO1 g, gO4 g1, gd_t, bdE y1, lt9_e, bdE hd, b2i_f, if_true, e40, if_false, bdE x1, or_true, decide_true]
      · obtain ⟨m2, x1, x2⟩ := s2 k p z
        refine ⟨m2, ?_, Ls_Lf l1 x2⟩
        simp only [gO1 g, gO4 g1, gd_t, bdE y1, lt9_e, bdE hd, b2i_f, if_true, e40, if_false, bdE x1, true_or, decide_true]
  · rw [q1] at hd
    simp only [if_true]
    obtain ⟨w1, w2⟩ := c_number (lo := 0) (h := 1000) (hi := 999) c1 y3 hb.2 (by decide) (by omega) (by omega)
    rw [ni_0] at w1 w2
    cases q2 : numP x n b 0 1000 with
    | inr f =>
      obtain ⟨kk, p⟩ := f
      obtain ⟨m2, v1, v2⟩ := w2 kk p q2
      have lf := Ls_Lf l1 (Tf_Lf v2 d1)
      obtain ⟨gM, rM⟩ := Lf_G lf d
      obtain ⟨m3, z1, z2⟩ := c_emitF (v := rI m2 1 5) lf gM rM hq
      refine ⟨fun acc' e z => (by cases z), fun k p z => ?_⟩
      cases z
      refine ⟨m3, ?_, z2⟩
      simp only [gO1 g, gO1 g1, gO1 gM, gO4 gM, gd_t, bdE y1, lt9_e, bdE hd, b2i_t, n1, if_false, bdE v1, bdE z1, true_or, decide_true]
    | inl f =>
      obtain ⟨v, e⟩ := f
      obtain ⟨m2, v1, v2, v3, v4, v5, v6, v7, v8⟩ := w1 v e q2
      rw [hbb] at v7
      have c2 := TC_s c1 v2
      have d2 := LD_s d1 v2
      have g2 := c2.1
      obtain ⟨m3, z1, z2, z3, z4⟩ := c_emit (v := v) d2 (by omega)
      refine ⟨fun acc' e z => ?_, fun k p z => (by cases z)⟩
      cases z
      refine ⟨m3, ?_, Ls_trans (Ls_trans l1 (Ts_Ls v2)) z3, z2, by rw [z4]; exact v3, v6, by omega, by rw [len_s]; omega⟩
      simp only [gO1 g, gO1 g1, gO1 g2, gO4 g2, gd_t, bdE y1, lt9_e, bdE hd, b2i_t, n1, if_false, bdE v1, v5, bdE z1, or_true, decide_true]
