/-! L2: the class's gust. -/
def AG (s : Nat) : Nat → Prop := fun b => AV s b ∨ b = 47
theorem sS0 (cs : Nat → Nat) (len n l a v : Nat) (σ : St) : stepS cs len n l 0 a v σ = send σ a (ni v) (ni l) := rfl
theorem sS1 (cs : Nat → Nat) (len n l a v : Nat) (σ : St) : stepS cs len n l 1 a v σ = takeS σ a := rfl
theorem sS2 (cs : Nat → Nat) (len n l a v : Nat) (σ : St) : stepS cs len n l 2 a v σ = loseS σ a := rfl
theorem sS3 (cs : Nat → Nat) (len n l a v : Nat) (σ : St) : stepS cs len n l 3 a v σ = tellS σ a := rfl
theorem sS5 (cs : Nat → Nat) (len n l a v : Nat) (σ : St) : stepS cs len n l 5 a v σ = crashS σ a := rfl
theorem sS6 (cs : Nat → Nat) (len n l a v : Nat) (σ : St) : stepS cs len n l 6 a v σ = joinS σ a := rfl
theorem sS8 (cs : Nat → Nat) (len n l a v : Nat) (σ : St) : stepS cs len n l 8 a v σ = holdS cs len n σ := rfl
theorem sS9 (cs : Nat → Nat) (len n l a v : Nat) (σ : St) : stepS cs len n l 9 a v σ = viewS cs len n (ni l) σ := rfl
def gsX (r : Nat) (x2 : Int32) : Int32 := if r < 2 ∨ r = 6 then dwS x2 else x2
theorem c_gust {n len s B l a r : Nat} {cs : Nat → Nat} {x w : Int32} {m : Mm} (hs : s = 16 ∨ s = 29) (hn : 0 < n) (c : QC n len cs m) (wf : WF n B (absC m s)) (hB : B + 2 < 1000000) (hl : l ≤ 30) (h3 : rI m 3 2 = ni l) (h47 : rI m 47 0 = x) (ea : a = dwN (dwS x) % n) (er : r = dwN (dwS (dwS x)) % 8) :
    ∃ m', F_X8_gust 47 s 14 w m = some ((), m') ∧ absC m' s = gsS cs len n l (decide (w ≤ ni (dwN (dwS (dwS (dwS x))) % 16))) a r (dwN (dwS (dwS (dwS x))) % 100) (absC m s) ∧ rI m' 47 0 = gsX r (dwS (dwS x)) ∧ Fm (AG s) m m' := by
  have g := c.1
  have hn6 := c.2.2.1
  have ha : a < n := by rw [ea]; exact Nat.mod_lt _ hn
  have hr : r < 8 := by rw [er]; exact Nat.mod_lt _ (by omega)
  have hmem : F_X6_members 14 m = some (ni n, m) := by
    unfold F_X6_members
    have h30 := c.2.1
    simp (disch := first | assumption | omega | ((repeat (first | assumption | apply G_wI | apply G_wL | apply CSh_wI | apply CSh_wL)); done) | decide) only [↓dO0, ↓dO1, ↓dA2, ↓dK2, ↓dT2, ↓dO3, ↓dO4, ↓dA5, ↓dK5, ↓dT5, ↓dA6, ↓dK6, ↓dT6, ↓dA7, ↓dK7, ↓dT7, ↓dO8, ↓dA9, ↓dK9, ↓dT9, ↓dA10, ↓dK10, ↓dT10, ↓dA11, ↓dK11, ↓dT11, ↓dO12, ↓dA13, ↓dK13, ↓dT13, ↓dO14, ↓dA15, ↓dK15, ↓dT15, ↓dO16, ↓dO29, ↓dO42, ↓dA43, ↓dK43, ↓dT43, ↓dA44, ↓dK44, ↓dT44, ↓dO45, ↓dA46, ↓dK46, ↓dT46, ↓dO47, ↓dA48, ↓dK48, ↓dT48, ↓dO49, ↓dA50, ↓dK50, ↓dT50, ↓dA51, ↓dK51, ↓dT51, ↓dA52, ↓dK52, ↓dT52, ↓dA53, ↓dK53, ↓dT53, ↓dA54, ↓dK54, ↓dT54, ↓dA215, ↓dK215, ↓dT215, ↓dA376, ↓dK376, ↓dT376, ↓dA383, ↓dK383, ↓dT383, ↓dA390, ↓dK390, ↓dT390, ↓dA391, ↓dK391, ↓dT391, ↓dA392, ↓dK392, ↓dT392, ↓dA473, ↓dK473, ↓dT473, ↓dA474, ↓dK474, ↓dT474, ↓dA475, ↓dK475, ↓dT475, ↓dA492, ↓dK492, ↓dT492, ↓dA496, ↓dK496, ↓dT496, ↓dA497, ↓dK497, ↓dT497, ↓dR0_0, ↓dR0_1, ↓dR0_2, ↓dR0_3, ↓dR0_4, ↓dR0_5, ↓dR0_6, ↓dR0_7, ↓dR0_8, ↓dR0_9, ↓dR0_10, ↓dR0_11, ↓dR0_12, ↓dR1_0, ↓dR4_2, ↓dR8_0, ↓dR8_1, ↓dR8_2, ↓dR12_5, ↓dR14_0, ↓dR14_1, ↓dR14_2, ↓dR42_0, ↓dR45_0, ↓dR49_9, ↓dR49_10, ↓dR49_11, ↓dR49_12, ↓dR49_15, ↓dR49_16, ↓dR49_17, ↓dR49_18, ↓dR49_19, ↓dR49_20, ↓dR49_21, ↓dR49_23, ↓dR49_24, ↓dR49_25, ↓dR49_26, ↓dR49_34, ↓dF54, ↓dB54, ↓dC54, ↓dF215, ↓dB215, ↓dC215, ↓dF376, ↓dB376, ↓dC376, ↓dF383, ↓dB383, ↓dC383, ↓dF392, ↓dB392, ↓dC392, ↓dF475, ↓dB475, ↓dC475, ↓dF492, ↓dB492, ↓dC492, ↓lt9_e, ↓jn_e, ↓bd_s, gd_t, bd_s, oc_s, oc_n, lt9_e, jn_e, okOwI, okAwI, okTwI, lnwI, okOwL, okAwL, okTwL, lnwL, rRwI, rRwL, sHwI, sHwL, rIwL, rLwI, gO0, gO1, gA2, gK2, gT2, gN2, gO3, gO4, gA5, gK5, gT5, gN5, gA6, gK6, gT6, gN6, gA7, gK7, gT7, gN7, gO8, gA9, gK9, gT9, gN9, gA10, gK10, gT10, gN10, gA11, gK11, gT11, gN11, gO12, gA13, gK13, gT13, gN13, gO14, gA15, gK15, gT15, gN15, gO16, gO29, gO42, gA43, gK43, gT43, gN43, gA44, gK44, gT44, gN44, gO45, gA46, gK46, gT46, gN46, gO47, gA48, gK48, gT48, gN48, gO49, gA50, gK50, gT50, gN50, gA51, gK51, gT51, gN51, gA52, gK52, gT52, gN52, gA53, gK53, gT53, gN53, gA54, gK54, gT54, gN54, gA215, gK215, gT215, gN215, gA376, gK376, gT376, gN376, gA383, gK383, gT383, gN383, gA390, gK390, gT390, gN390, gA391, gK391, gT391, gN391, gA392, gK392, gT392, gN392, gA473, gK473, gT473, gN473, gA474, gK474, gT474, gN474, gA475, gK475, gT475, gN475, gA492, gK492, gT492, gN492, gA496, gK496, gT496, gN496, gA497, gK497, gT497, gN497, gR0_0, gR0_1, gR0_2, gR0_3, gR0_4, gR0_5, gR0_6, gR0_7, gR0_8, gR0_9, gR0_10, gR0_11, gR0_12, gR1_0, gR4_2, gR8_0, gR8_1, gR8_2, gR12_5, gR14_0, gR14_1, gR14_2, gR42_0, gR45_0, gR49_9, gR49_10, gR49_11, gR49_12, gR49_15, gR49_16, gR49_17, gR49_18, gR49_19, gR49_20, gR49_21, gR49_23, gR49_24, gR49_25, gR49_26, gR49_34, gF54, gB54, gC54, gF215, gB215, gC215, gF376, gB376, gC376, gF383, gB383, gC383, gF392, gB392, gC392, gF475, gB475, gC475, gF492, gB492, gC492, ni_le, ni_lt, ni_eq, ni_add, ni_mul, lni_le, lni_lt, nil_le, nil_lt, lni_eq, nil_eq, lni_add, nil_add, lni_mul, nil_mul, ix_ni, ix_lit, ni_ne1, ni_lt0, ↓reduceIte, Nat.reduceEqDiff, Nat.reduceMul, Nat.reduceAdd, Nat.reduceLeDiff, and_true, true_and, false_and, and_false, if_true, if_false, Nat.not_lt_zero, false_or, or_false, ft9, decide_true, o10, eq_self, b2i_0, b2i_1, b2i_ok, b2i_inj, b2i_t, b2i_f, rIwIk, h30]
  have hd1 := c_draw g hn (by omega) h47
  rw [← ea] at hd1
  have hd2 := c_draw (k := 8) (m := wI m 47 0 (dwS x)) (x := dwS x) g (by omega) (by omega) (by rw [rIw, uf_at])
  rw [← er, show ni 8 = 8 from rfl] at hd2
  have f2 : Fm (fun b => b = 47) m (wI (wI m 47 0 (dwS x)) 47 0 (dwS (dwS x))) := Fm_wI (Fm_wI (Fm_refl _ _) rfl) rfl
  generalize em1 : wI m 47 0 (dwS x) = m1 at hd1 hd2 f2
  generalize em2 : wI m1 47 0 (dwS (dwS x)) = m2 at hd2 f2
  have g1 : G m1 := by rw [← em1]; exact g
  have g2 : G m2 := G_fr f2 g
  have a2 : absC m2 s = absC m s := abs_fr f2 (fun b h1 h2 => by omega)
  have r2 : rI m2 47 0 = dwS (dwS x) := by rw [← em2, rIw, uf_at]
  have c2 : QC n len cs m2 := QC_fr c f2 (by omega) (by omega) (by omega) (by omega)
  have h32 : rI m2 3 2 = ni l := by rw [(f2.1 3 (by omega)).1]; exact h3
  have hO : ∀ M, G M → okO M s 7 = true := fun M gM => by
    rcases hs with rfl | rfl
    · exact gO16 gM
    · exact gO29 gM
  have k2 := G_s g2 hs
  have ek : ∀ k : Nat, k < 8 → (ni r = ni k) = (r = k) := fun k hk => propext (ni_eq (by omega) (by omega))
  have e0 : (ni r = (0 : Int32)) = (r = 0) := ek 0 (by omega)
  have e1 : (ni r = (1 : Int32)) = (r = 1) := ek 1 (by omega)
  have e2 : (ni r = (2 : Int32)) = (r = 2) := ek 2 (by omega)
  have e3 : (ni r = (3 : Int32)) = (r = 3) := ek 3 (by omega)
  have e4 : (ni r = (4 : Int32)) = (r = 4) := ek 4 (by omega)
  have e5 : (ni r = (5 : Int32)) = (r = 5) := ek 5 (by omega)
  have e6 : (ni r = (6 : Int32)) = (r = 6) := ek 6 (by omega)
  have n47 : ∀ M, Fm (AV s) m2 M → rI M 47 0 = dwS (dwS x) ∧ Fm (AG s) m M := fun M fM => ⟨by rw [(fM.1 47 (by unfold AV AQ reg; omega)).1]; exact r2, Fm_trans (Fm_mono (fun _ z => .inr z) f2) (Fm_mono (fun _ z => .inl z) fM)⟩
  unfold F_X8_gust gsS gsX
  by_cases h4 : r = 4
  · obtain ⟨m', y1, y2, y3⟩ := Up_AV (c_lose (a := a) k2 (by omega))
    obtain ⟨z1, z2⟩ := n47 m' y3
    refine ⟨m', ?_, ?_, by rw [if_neg (by omega)]; exact z1, z2⟩
    · have q0 := eq_false (show ¬ r = 0 by omega)
      have q1 := eq_false (show ¬ r = 1 by omega)
      have q2 := eq_false (show ¬ r = 2 by omega)
      have q3 := eq_false (show ¬ r = 3 by omega)
      have q4 := eq_true h4
      simp only [gO14 g, gd_t, bdE hmem, gO47 g, gO47 g1, bdE hd1, lt9_e, bdE hd2, jn_e, e0, e1, e2, e3, e4, q0, q1, q2, q3, q4, if_false, if_true, hO m2 g2, bdE y1]
    · rw [if_neg (by omega), if_neg (by omega), if_pos h4, sS2, y2, a2]
  · by_cases h5 : r = 5
    · obtain ⟨m', y1, y2, y3⟩ := Up_AV (c_tell (a := a) k2 (by omega))
      obtain ⟨z1, z2⟩ := n47 m' y3
      refine ⟨m', ?_, ?_, by rw [if_neg (by omega)]; exact z1, z2⟩
      · have q0 := eq_false (show ¬ r = 0 by omega)
        have q1 := eq_false (show ¬ r = 1 by omega)
        have q2 := eq_false (show ¬ r = 2 by omega)
        have q3 := eq_false (show ¬ r = 3 by omega)
        have q4 := eq_false h4
        have q5 := eq_true h5
        simp only [gO14 g, gd_t, bdE hmem, gO47 g, gO47 g1, bdE hd1, lt9_e, bdE hd2, jn_e, e0, e1, e2, e3, e4, e5, q0, q1, q2, q3, q4, q5, if_false, if_true, hO m2 g2, bdE y1]
      · rw [if_neg (by omega), if_neg (by omega), if_neg h4, if_pos h5, sS3, y2, a2]
    · have q4 := eq_false h4
      have q5 := eq_false h5
      -- the third draw
      have hd3 := fun (k : Nat) (h1 : 0 < k) (h2 : k ≤ 100) => c_draw (k := k) g2 h1 h2 r2
      have f3 : Fm (fun b => b = 47) m (wI m2 47 0 (dwS (dwS (dwS x)))) := Fm_wI f2 rfl
      generalize em3 : wI m2 47 0 (dwS (dwS (dwS x))) = m3 at hd3 f3
      have g3 : G m3 := G_fr f3 g
      have a3 : absC m3 s = absC m s := abs_fr f3 (fun b h1 h2 => by omega)
      have r3 : rI m3 47 0 = dwS (dwS (dwS x)) := by rw [← em3, rIw, uf_at]
      have h33 : rI m3 3 2 = ni l := by rw [(f3.1 3 (by omega)).1]; exact h3
      have k3 := G_s g3 hs
      have n47' : ∀ M, Fm (AV s) m3 M → rI M 47 0 = dwS (dwS (dwS x)) ∧ Fm (AG s) m M := fun M fM => ⟨by rw [(fM.1 47 (by unfold AV AQ reg; omega)).1]; exact r3, Fm_trans (Fm_mono (fun _ z => .inr z) f3) (Fm_mono (fun _ z => .inl z) fM)⟩
      by_cases h2 : r < 2
      · have hd := hd3 100 (by omega) (by omega)
        rw [show ni 100 = 100 from rfl] at hd
        have hlim : F_X6_limit 14 m3 = some (ni l, m3) := by
          unfold F_X6_limit
          have g := g3
          simp (disch := first | assumption | omega | ((repeat (first | assumption | apply G_wI | apply G_wL | apply CSh_wI | apply CSh_wL)); done) | decide) only [↓dO0, ↓dO1, ↓dA2, ↓dK2, ↓dT2, ↓dO3, ↓dO4, ↓dA5, ↓dK5, ↓dT5, ↓dA6, ↓dK6, ↓dT6, ↓dA7, ↓dK7, ↓dT7, ↓dO8, ↓dA9, ↓dK9, ↓dT9, ↓dA10, ↓dK10, ↓dT10, ↓dA11, ↓dK11, ↓dT11, ↓dO12, ↓dA13, ↓dK13, ↓dT13, ↓dO14, ↓dA15, ↓dK15, ↓dT15, ↓dO16, ↓dO29, ↓dO42, ↓dA43, ↓dK43, ↓dT43, ↓dA44, ↓dK44, ↓dT44, ↓dO45, ↓dA46, ↓dK46, ↓dT46, ↓dO47, ↓dA48, ↓dK48, ↓dT48, ↓dO49, ↓dA50, ↓dK50, ↓dT50, ↓dA51, ↓dK51, ↓dT51, ↓dA52, ↓dK52, ↓dT52, ↓dA53, ↓dK53, ↓dT53, ↓dA54, ↓dK54, ↓dT54, ↓dA215, ↓dK215, ↓dT215, ↓dA376, ↓dK376, ↓dT376, ↓dA383, ↓dK383, ↓dT383, ↓dA390, ↓dK390, ↓dT390, ↓dA391, ↓dK391, ↓dT391, ↓dA392, ↓dK392, ↓dT392, ↓dA473, ↓dK473, ↓dT473, ↓dA474, ↓dK474, ↓dT474, ↓dA475, ↓dK475, ↓dT475, ↓dA492, ↓dK492, ↓dT492, ↓dA496, ↓dK496, ↓dT496, ↓dA497, ↓dK497, ↓dT497, ↓dR0_0, ↓dR0_1, ↓dR0_2, ↓dR0_3, ↓dR0_4, ↓dR0_5, ↓dR0_6, ↓dR0_7, ↓dR0_8, ↓dR0_9, ↓dR0_10, ↓dR0_11, ↓dR0_12, ↓dR1_0, ↓dR4_2, ↓dR8_0, ↓dR8_1, ↓dR8_2, ↓dR12_5, ↓dR14_0, ↓dR14_1, ↓dR14_2, ↓dR42_0, ↓dR45_0, ↓dR49_9, ↓dR49_10, ↓dR49_11, ↓dR49_12, ↓dR49_15, ↓dR49_16, ↓dR49_17, ↓dR49_18, ↓dR49_19, ↓dR49_20, ↓dR49_21, ↓dR49_23, ↓dR49_24, ↓dR49_25, ↓dR49_26, ↓dR49_34, ↓dF54, ↓dB54, ↓dC54, ↓dF215, ↓dB215, ↓dC215, ↓dF376, ↓dB376, ↓dC376, ↓dF383, ↓dB383, ↓dC383, ↓dF392, ↓dB392, ↓dC392, ↓dF475, ↓dB475, ↓dC475, ↓dF492, ↓dB492, ↓dC492, ↓lt9_e, ↓jn_e, ↓bd_s, gd_t, bd_s, oc_s, oc_n, lt9_e, jn_e, okOwI, okAwI, okTwI, lnwI, okOwL, okAwL, okTwL, lnwL, rRwI, rRwL, sHwI, sHwL, rIwL, rLwI, gO0, gO1, gA2, gK2, gT2, gN2, gO3, gO4, gA5, gK5, gT5, gN5, gA6, gK6, gT6, gN6, gA7, gK7, gT7, gN7, gO8, gA9, gK9, gT9, gN9, gA10, gK10, gT10, gN10, gA11, gK11, gT11, gN11, gO12, gA13, gK13, gT13, gN13, gO14, gA15, gK15, gT15, gN15, gO16, gO29, gO42, gA43, gK43, gT43, gN43, gA44, gK44, gT44, gN44, gO45, gA46, gK46, gT46, gN46, gO47, gA48, gK48, gT48, gN48, gO49, gA50, gK50, gT50, gN50, gA51, gK51, gT51, gN51, gA52, gK52, gT52, gN52, gA53, gK53, gT53, gN53, gA54, gK54, gT54, gN54, gA215, gK215, gT215, gN215, gA376, gK376, gT376, gN376, gA383, gK383, gT383, gN383, gA390, gK390, gT390, gN390, gA391, gK391, gT391, gN391, gA392, gK392, gT392, gN392, gA473, gK473, gT473, gN473, gA474, gK474, gT474, gN474, gA475, gK475, gT475, gN475, gA492, gK492, gT492, gN492, gA496, gK496, gT496, gN496, gA497, gK497, gT497, gN497, gR0_0, gR0_1, gR0_2, gR0_3, gR0_4, gR0_5, gR0_6, gR0_7, gR0_8, gR0_9, gR0_10, gR0_11, gR0_12, gR1_0, gR4_2, gR8_0, gR8_1, gR8_2, gR12_5, gR14_0, gR14_1, gR14_2, gR42_0, gR45_0, gR49_9, gR49_10, gR49_11, gR49_12, gR49_15, gR49_16, gR49_17, gR49_18, gR49_19, gR49_20, gR49_21, gR49_23, gR49_24, gR49_25, gR49_26, gR49_34, gF54, gB54, gC54, gF215, gB215, gC215, gF376, gB376, gC376, gF383, gB383, gC383, gF392, gB392, gC392, gF475, gB475, gC475, gF492, gB492, gC492, ni_le, ni_lt, ni_eq, ni_add, ni_mul, lni_le, lni_lt, nil_le, nil_lt, lni_eq, nil_eq, lni_add, nil_add, lni_mul, nil_mul, ix_ni, ix_lit, ni_ne1, ni_lt0, ↓reduceIte, Nat.reduceEqDiff, Nat.reduceMul, Nat.reduceAdd, Nat.reduceLeDiff, and_true, true_and, false_and, and_false, if_true, if_false, Nat.not_lt_zero, false_or, or_false, ft9, decide_true, o10, eq_self, b2i_0, b2i_1, b2i_ok, b2i_inj, b2i_t, b2i_f, rIwIk, h33]
        obtain ⟨m', y1, y2, y3⟩ := Up_AV (c_send (w := ni (dwN (dwS (dwS (dwS x))) % 100)) (lim := ni l) (a := a) k3 (by omega))
        obtain ⟨z1, z2⟩ := n47' m' y3
        refine ⟨m', ?_, ?_, by rw [if_pos (.inl h2)]; exact z1, z2⟩
        · by_cases h0 : r = 0
          · have q0 := eq_true h0
            simp only [gO14 g, gO14 g3, gd_t, bdE hmem, gO47 g, gO47 g1, gO47 g2, bdE hd1, lt9_e, bdE hd2, jn_e, e0, q0, if_true, bdE hd, bdE hlim, hO m3 g3, bdE y1]
          · have q0 := eq_false h0
            have q1 := eq_true (show r = 1 by omega)
            simp only [gO14 g, gO14 g3, gd_t, bdE hmem, gO47 g, gO47 g1, gO47 g2, bdE hd1, lt9_e, bdE hd2, jn_e, e0, e1, q0, q1, if_false, if_true, bdE hd, bdE hlim, hO m3 g3, bdE y1]
        · rw [if_pos h2, sS0, y2, a3]
      · have q0 := eq_false (show ¬ r = 0 by omega)
        have q1 := eq_false (show ¬ r = 1 by omega)
        by_cases h4' : r < 4
        · obtain ⟨m', y1, y2, y3⟩ := Up_AV (c_take (a := a) k2 (by omega))
          obtain ⟨z1, z2⟩ := n47 m' y3
          refine ⟨m', ?_, ?_, by rw [if_neg (by omega)]; exact z1, z2⟩
          · by_cases h0 : r = 2
            · have q2 := eq_true h0
              simp only [gO14 g, gd_t, bdE hmem, gO47 g, gO47 g1, bdE hd1, lt9_e, bdE hd2, jn_e, e0, e1, e2, q0, q1, q2, if_false, if_true, hO m2 g2, bdE y1]
            · have q2 := eq_false h0
              have q3 := eq_true (show r = 3 by omega)
              simp only [gO14 g, gd_t, bdE hmem, gO47 g, gO47 g1, bdE hd1, lt9_e, bdE hd2, jn_e, e0, e1, e2, e3, q0, q1, q2, q3, if_false, if_true, hO m2 g2, bdE y1]
          · rw [if_neg h2, if_pos h4', sS1, y2, a2]
        · have q2 := eq_false (show ¬ r = 2 by omega)
          have q3 := eq_false (show ¬ r = 3 by omega)
          by_cases h6 : r = 6
          · have q6 := eq_true h6
            have hd := hd3 16 (by omega) (by omega)
            rw [show ni 16 = 16 from rfl] at hd
            rw [if_neg h2, if_neg h4', if_neg h4, if_neg h5, if_pos h6, if_pos (show r < 2 ∨ r = 6 from .inr h6)]
            by_cases hw : w ≤ ni (dwN (dwS (dwS (dwS x))) % 16)
            · have hw' := eq_true hw
              obtain ⟨m', y1, y2, y3⟩ := Up_AV (c_join (a := a) k3 (by omega))
              obtain ⟨z1, z2⟩ := n47' m' y3
              refine ⟨m', ?_, ?_, z1, z2⟩
              · unfold F_X8_crashOrJoin
                simp only [gO14 g, gd_t, bdE hmem, gO47 g, gO47 g1, gO47 g2, bdE hd1, lt9_e, bdE hd2, jn_e, e0, e1, e2, e3, e4, e5, e6, q0, q1, q2, q3, q4, q5, q6, if_false, if_true, bdE hd, hw', hO m3 g3, bdE y1, bd_s]
              · rw [decide_eq_true hw, if_pos rfl, sS6, y2, a3]
            · have hw' := eq_false hw
              obtain ⟨m', y1, y2, y3⟩ := Up_AV (c_crash (a := a) k3 (by omega))
              obtain ⟨z1, z2⟩ := n47' m' y3
              refine ⟨m', ?_, ?_, z1, z2⟩
              · unfold F_X8_crashOrJoin
                simp only [gO14 g, gd_t, bdE hmem, gO47 g, gO47 g1, gO47 g2, bdE hd1, lt9_e, bdE hd2, jn_e, e0, e1, e2, e3, e4, e5, e6, q0, q1, q2, q3, q4, q5, q6, if_false, if_true, bdE hd, hw', o10, hO m3 g3, bdE y1, bd_s]
              · rw [decide_eq_false hw, if_neg (by decide), sS5, y2, a3]
          · have q6 := eq_false h6
            have wf2 : WF n B (absC m2 s) := by rw [a2]; exact wf
            obtain ⟨m4, y1, y2, y3⟩ := c_hold hs c2 wf2
            have c4 := QC_v c2 hs y3
            have g4 := c4.1
            have h34 : rI m4 3 2 = ni l := by rw [(y3.1 3 (by unfold AV AQ reg; omega)).1]; exact h32
            have wf4 : WF n (B + 1) (absC m4 s) := by
              rw [y2, a2]
              have z := WF_step (cs := cs) (len := len) (k := 8) (a := a) (v := 0) wf (by omega) hl (by omega) (fun z => by omega) (fun z => by omega)
              rw [sS8] at z
              exact z
            obtain ⟨m', u1, u2, u3⟩ := c_view hs c4 wf4 h34
            obtain ⟨z1, z2⟩ := n47 m' (Fm_trans y3 u3)
            refine ⟨m', ?_, ?_, by rw [if_neg (by omega)]; exact z1, z2⟩
            · simp only [gO14 g, gO14 g2, gO14 g4, gd_t, bdE hmem, gO47 g, gO47 g1, bdE hd1, lt9_e, bdE hd2, jn_e, e0, e1, e2, e3, e4, e5, e6, q0, q1, q2, q3, q4, q5, q6, if_false, bdE y1, bdE u1]
            · rw [if_neg h2, if_neg h4', if_neg h4, if_neg h5, if_neg h6, sS8, sS9, u2, y2, a2]
