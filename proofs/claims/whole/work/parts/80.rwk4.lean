/-! L2: the reference's reading of a work: levels, the loop at the top, the start. -/
def Sd (x : Nat → Nat) (n N : Nat) : Nat → List Q4 → Nat → SR
  | 0 => fun _ _ => .inr (1, 0)
  | k + 1 => stL x n N k
theorem stL_Sd (x : Nat → Nat) (n N k : Nat) : stL x n N k = stsP x n N false (Sd x n N k) k 151 := by
  cases k with
  | zero => rw [stL]; rfl
  | succ k => rw [stL]; rfl
theorem Sd_pre {x : Nat → Nat} {n N : Nat} (k : Nat) : PreP (Sd x n N k) := by
  cases k with
  | zero => exact fun _ _ _ _ h => by cases h
  | succ k => exact stL_pre k
theorem r_lev {x : Nat → Nat} {n N : Nat} (hn : n ≤ 150) (hN : N ≤ 6) : ∀ (k D : Nat), k ≤ 6 → k + 1 ≤ D → HSp x n N (6 - k) (stqP x n N (Sd x n N k) k) (G_X12s D) := by
  intro k
  induction k with
  | zero =>
    intro D hk hD
    obtain ⟨D, rfl⟩ : ∃ z, D = z + 1 := ⟨D - 1, by omega⟩
    rw [G_X12s]
    exact r_rstepB hn hN hk (Sd_pre 0) (fun z => by omega)
  | succ k ih =>
    intro D hk hD
    obtain ⟨D, rfl⟩ : ∃ z, D = z + 1 := ⟨D - 1, by omega⟩
    rw [G_X12s]
    refine r_rstepB hn hN hk (Sd_pre (k + 1)) (fun z => ⟨Sd x n N k, ?_, ?_⟩)
    · exact stL_Sd x n N k
    · have q := ih D (by omega) (by omega)
      rw [show 6 - (k + 1) + 1 = 6 - k by omega, show k + 1 - 1 = k by omega]
      exact q
theorem r_wkL {x : Nat → Nat} {n N o k : Nat} {S : List Q4 → Nat → SR} {K : Nat → Mm → Option (Int32 × Mm)} (hn : n ≤ 150) (hF : HSp x n N o (stqP x n N S k) (F_X12_readsStep 40)) :
    ∀ (g f : Nat) (acc : List Q4) (a : Nat) (m : Mm), n - a + 1 < g → n - a < f → RW x n N a o acc.length acc m → blk x n a = a → 4 * acc.length ≤ a →
      (∀ acc' e, stsP x n N true S k f acc a = .inl (acc', e) → ∃ m', L_X12_work_72 K g 49 m = K 49 m' ∧ Hq m m' ∧ RW x n N e o acc'.length acc' m' ∧ a ≤ e ∧ 4 * acc'.length ≤ e) ∧
      (∀ kk p, stsP x n N true S k f acc a = .inr (kk, p) → ∃ m', L_X12_work_72 K g 49 m = K 49 m' ∧ Hq m m' ∧ RE x n kk p m') := by
  intro g
  induction g with
  | zero =>
    intro f acc a m h1
    omega
  | succ g ih =>
    intro f acc a m hg hf r hbb hl
    obtain ⟨f, rfl⟩ : ∃ z, f = z + 1 := ⟨f - 1, by omega⟩
    obtain ⟨t, h4, han, h5, h8, h22, wq, h53⟩ := id r
    have gg := t.1
    have h2 := t.2.2.1
    have hle : (ni n ≤ ni a) = (n ≤ a) := propext (ni_le (by omega) (by omega))
    rw [stsP, hbb]
    simp only [if_true]
    by_cases q1 : n ≤ a
    · rw [if_pos q1]
      refine ⟨fun acc' e z => ?_, fun k p z => (by cases z)⟩
      cases z
      refine ⟨m, ?_, Hq_refl m, r, Nat.le_refl _, hl⟩
      rw [L_X12_work_72]
      simp only [gO49 gg, gd_t, h5, if_true, h4, h2, hle, q1]
    · rw [if_neg q1]
      have e1 := eq_false q1
      obtain ⟨s1, s2⟩ := hF acc a m r hbb hl
      unfold stqP at s1 s2
      have fault : ∀ kk p, (∃ m', F_X12_readsStep 40 49 m = some ((), m') ∧ Hq m m' ∧ RE x n kk p m') → ∃ m', L_X12_work_72 K (g + 1) 49 m = K 49 m' ∧ Hq m m' ∧ RE x n kk p m' := by
        rintro kk p ⟨m1, x1, x2, x3⟩
        obtain ⟨a', ha', h4'⟩ := x3.2.2.2.2.2
        obtain ⟨m2, b1, b2, b3⟩ := r_blanks x3.1 h4' ha'
        have hb' := blk_le (x := x) ha'
        have re2 := RE_Rs x3 b2 b3 hb'.2
        have g2 := re2.1.1
        refine ⟨m2, ?_, Hq_trans x2 (Rs_Hq b2), re2⟩
        obtain ⟨g, rfl⟩ : ∃ z, g = z + 1 := ⟨g - 1, by omega⟩
        rw [L_X12_work_72]
        simp only [gO49 gg, gO49 x3.1.1, gd_t, h5, if_true, h4, h2, hle, e1, if_false, bdE x1, bdE b1]
        rw [L_X12_work_72]
        simp only [gO49 g2, gd_t, RE_5 re2, if_false]
      cases p1 : stP x n N S k acc a with
      | inr q =>
        obtain ⟨kk, p⟩ := q
        rw [p1] at s2
        refine ⟨fun acc' e z => (by cases z), fun k p z => ?_⟩
        cases z
        exact fault kk p (s2 kk p rfl)
      | inl q =>
        obtain ⟨acc1, e⟩ := q
        rw [p1] at s1 s2
        dsimp only at s1 s2 ⊢
        cases p2 : sgnP x n e 59 with
        | inr q =>
          obtain ⟨kk, p⟩ := q
          rw [p2] at s2
          refine ⟨fun acc' e z => (by cases z), fun k p z => ?_⟩
          cases z
          exact fault kk p (s2 kk p rfl)
        | inl e2 =>
          rw [p2] at s1
          obtain ⟨m1, x1, x2, x3, x4, x5⟩ := s1 acc1 e2 rfl
          have he := x3.2.2.1
          obtain ⟨m2, b1, b2, b3⟩ := r_blanks x3.1 x3.2.1 he
          have hb := blk_le (x := x) he
          have r2 := RW_s x3 b2 b3 hb.2
          have zz := ih f acc1 (blk x n e2) m2 (by omega) (by omega) r2 (blk_blk he) (by omega)
          have hG : stsP x n N true S k f acc1 e2 = stsP x n N true S k f acc1 (blk x n e2) := by
            cases f with
            | zero => omega
            | succ f => rw [stsP, stsP, blk_blk he]
          have hp : L_X12_work_72 K (g + 1) 49 m = L_X12_work_72 K g 49 m2 := by
            rw [L_X12_work_72]
            simp only [gO49 gg, gO49 x3.1.1, gd_t, h5, if_true, h4, h2, hle, e1, if_false, bdE x1, bdE b1]
          dsimp only
          rw [hp, hG]
          have qq := Hq_trans x2 (Rs_Hq b2)
          refine ⟨fun acc' e' u => ?_, fun k p u => ?_⟩
          · obtain ⟨m3, r1, r2, r3, r4, r5⟩ := zz.1 acc' e' u
            exact ⟨m3, r1, Hq_trans qq r2, r3, by omega, r5⟩
          · obtain ⟨m3, r1, r2, r3⟩ := zz.2 k p u
            exact ⟨m3, r1, Hq_trans qq r2, r3⟩
/-- the tape is begun anew -/
theorem r_starts {x : Nat → Nat} {n : Nat} {m : Mm} (g : G m) (hn : n ≤ 600) (hx : ∀ i, i < n → x i < 256 ∧ rI m 50 i = ni (x i)) :
    ∃ m', F_X12_starts 49 (ni n) m = some ((), m') ∧ Fm (fun b => b = 49) m m' ∧ (∀ j, j ≠ 1 → j ≠ 2 → j ≠ 4 → j ≠ 5 → j ≠ 6 → j ≠ 7 → j ≠ 8 → rI m' 49 j = rI m 49 j) ∧ TR x n m' ∧ rI m' 49 4 = ni (blk x n 0) ∧ rI m' 49 5 = 0 ∧ rI m' 49 6 = -1 ∧ rI m' 49 7 = 0 ∧ rI m' 49 8 = 0 ∧ rI m' 49 1 = 0 := by
  have t : TR x n (wI (wI (wI (wI (wI (wI (wI m 49 1 0) 49 2 (ni n)) 49 4 0) 49 5 0) 49 6 (-1)) 49 7 0) 49 8 0) := by
    refine ⟨g, hn, by simp only [rIw, uf_ap, Nat.reduceEqDiff, if_false, if_true], fun i hi => ⟨(hx i hi).1, ?_⟩⟩
    rw [rIw_ne (by omega), rIw_ne (by omega), rIw_ne (by omega), rIw_ne (by omega), rIw_ne (by omega), rIw_ne (by omega), rIw_ne (by omega)]
    exact (hx i hi).2
  obtain ⟨m', s1, s2, s3⟩ := r_blanks (a := 0) t (by simp only [rIw, uf_ap, Nat.reduceEqDiff, if_false, if_true]; rfl) (by omega)
  refine ⟨m', ?_, ?_, fun j h1 h2 h4 h5 h6 h7 h8 => ?_, TR_s t s2, s3, ?_, ?_, ?_, ?_, ?_⟩
  · unfold F_X12_starts
    simp (disch := first | assumption | omega | ((repeat (first | assumption | apply G_wI | apply G_wL | apply CSh_wI | apply CSh_wL)); done) | decide) only [↓dO0, ↓dO1, ↓dA2, ↓dK2, ↓dT2, ↓dO3, ↓dO4, ↓dA5, ↓dK5, ↓dT5, ↓dA6, ↓dK6, ↓dT6, ↓dA7, ↓dK7, ↓dT7, ↓dO8, ↓dA9, ↓dK9, ↓dT9, ↓dA10, ↓dK10, ↓dT10, ↓dA11, ↓dK11, ↓dT11, ↓dO12, ↓dA13, ↓dK13, ↓dT13, ↓dO14, ↓dA15, ↓dK15, ↓dT15, ↓dO16, ↓dO29, ↓dO42, ↓dA43, ↓dK43, ↓dT43, ↓dA44, ↓dK44, ↓dT44, ↓dO45, ↓dA46, ↓dK46, ↓dT46, ↓dO47, ↓dA48, ↓dK48, ↓dT48, ↓dO49, ↓dA50, ↓dK50, ↓dT50, ↓dA51, ↓dK51, ↓dT51, ↓dA52, ↓dK52, ↓dT52, ↓dA53, ↓dK53, ↓dT53, ↓dA54, ↓dK54, ↓dT54, ↓dA215, ↓dK215, ↓dT215, ↓dA376, ↓dK376, ↓dT376, ↓dA383, ↓dK383, ↓dT383, ↓dA390, ↓dK390, ↓dT390, ↓dA391, ↓dK391, ↓dT391, ↓dA392, ↓dK392, ↓dT392, ↓dA473, ↓dK473, ↓dT473, ↓dA474, ↓dK474, ↓dT474, ↓dA475, ↓dK475, ↓dT475, ↓dA492, ↓dK492, ↓dT492, ↓dA496, ↓dK496, ↓dT496, ↓dA497, ↓dK497, ↓dT497, ↓dR0_0, ↓dR0_1, ↓dR0_2, ↓dR0_3, ↓dR0_4, ↓dR0_5, ↓dR0_6, ↓dR0_7, ↓dR0_8, ↓dR0_9, ↓dR0_10, ↓dR0_11, ↓dR0_12, ↓dR1_0, ↓dR4_2, ↓dR8_0, ↓dR8_1, ↓dR8_2, ↓dR12_5, ↓dR14_0, ↓dR14_1, ↓dR14_2, ↓dR42_0, ↓dR45_0, ↓dR49_9, ↓dR49_10, ↓dR49_11, ↓dR49_12, ↓dR49_15, ↓dR49_16, ↓dR49_17, ↓dR49_18, ↓dR49_19, ↓dR49_20, ↓dR49_21, ↓dR49_23, ↓dR49_24, ↓dR49_25, ↓dR49_26, ↓dR49_34, ↓dF54, ↓dB54, ↓dC54, ↓dF215, ↓dB215, ↓dC215, ↓dF376, ↓dB376, ↓dC376, ↓dF383, ↓dB383, ↓dC383, ↓dF392, ↓dB392, ↓dC392, ↓dF475, ↓dB475, ↓dC475, ↓dF492, ↓dB492, ↓dC492, ↓lt9_e, ↓jn_e, ↓bd_s, ↓bdE s1, gd_t, bd_s, oc_s, oc_n, lt9_e, jn_e, okOwI, okAwI, okTwI, lnwI, okOwL, okAwL, okTwL, lnwL, rRwI, rRwL, sHwI, sHwL, rIwL, rLwI, gO0, gO1, gA2, gK2, gT2, gN2, gO3, gO4, gA5, gK5, gT5, gN5, gA6, gK6, gT6, gN6, gA7, gK7, gT7, gN7, gO8, gA9, gK9, gT9, gN9, gA10, gK10, gT10, gN10, gA11, gK11, gT11, gN11, gO12, gA13, gK13, gT13, gN13, gO14, gA15, gK15, gT15, gN15, gO16, gO29, gO42, gA43, gK43, gT43, gN43, gA44, gK44, gT44, gN44, gO45, gA46, gK46, gT46, gN46, gO47, gA48, gK48, gT48, gN48, gO49, gA50, gK50, gT50, gN50, gA51, gK51, gT51, gN51, gA52, gK52, gT52, gN52, gA53, gK53, gT53, gN53, gA54, gK54, gT54, gN54, gA215, gK215, gT215, gN215, gA376, gK376, gT376, gN376, gA383, gK383, gT383, gN383, gA390, gK390, gT390, gN390, gA391, gK391, gT391, gN391, gA392, gK392, gT392, gN392, gA473, gK473, gT473, gN473, gA474, gK474, gT474, gN474, gA475, gK475, gT475, gN475, gA492, gK492, gT492, gN492, gA496, gK496, gT496, gN496, gA497, gK497, gT497, gN497, gR0_0, gR0_1, gR0_2, gR0_3, gR0_4, gR0_5, gR0_6, gR0_7, gR0_8, gR0_9, gR0_10, gR0_11, gR0_12, gR1_0, gR4_2, gR8_0, gR8_1, gR8_2, gR12_5, gR14_0, gR14_1, gR14_2, gR42_0, gR45_0, gR49_9, gR49_10, gR49_11, gR49_12, gR49_15, gR49_16, gR49_17, gR49_18, gR49_19, gR49_20, gR49_21, gR49_23, gR49_24, gR49_25, gR49_26, gR49_34, gF54, gB54, gC54, gF215, gB215, gC215, gF376, gB376, gC376, gF383, gB383, gC383, gF392, gB392, gC392, gF475, gB475, gC475, gF492, gB492, gC492, ni_le, ni_lt, ni_eq, ni_add, ni_mul, lni_le, lni_lt, nil_le, nil_lt, lni_eq, nil_eq, lni_add, nil_add, lni_mul, nil_mul, ix_ni, ix_lit, ni_ne1, ni_lt0, ↓reduceIte, Nat.reduceEqDiff, Nat.reduceMul, Nat.reduceAdd, Nat.reduceLeDiff, and_true, true_and, false_and, and_false, if_true, if_false, Nat.not_lt_zero, false_or, or_false, ft9, decide_true, o10, eq_self, b2i_0, b2i_1, b2i_ok, b2i_inj, b2i_t, b2i_f, rIwIk]
  · refine Fm_trans ?_ s2.1
    exact Fm_wI (Fm_wI (Fm_wI (Fm_wI (Fm_wI (Fm_wI (Fm_wI (Fm_refl _ _) rfl) rfl) rfl) rfl) rfl) rfl) rfl
  · rw [s2.2 j h4]
    rw [rIw, uf_ne h8, rIw, uf_ne h7, rIw, uf_ne h6, rIw, uf_ne h5, rIw, uf_ne h4, rIw, uf_ne h2, rIw, uf_ne h1]
  · rw [s2.2 _ (by omega)]
    simp only [rIw, uf_ap, Nat.reduceEqDiff, if_false, if_true]
  · rw [s2.2 _ (by omega)]
    simp only [rIw, uf_ap, Nat.reduceEqDiff, if_false, if_true]
  · rw [s2.2 _ (by omega)]
    simp only [rIw, uf_ap, Nat.reduceEqDiff, if_false, if_true]
  · rw [s2.2 _ (by omega)]
    simp only [rIw, uf_ap, Nat.reduceEqDiff, if_false, if_true]
  · rw [s2.2 _ (by omega)]
    simp only [rIw, uf_ap, Nat.reduceEqDiff, if_false, if_true]
