/-! L2: the storm. -/
def gsF (cs : Nat → Nat) (len n l : Nat) (w : Int32) (q : Int32 × St) : Int32 × St := (gsX (dwN (dwS (dwS q.1)) % 8) (dwS (dwS q.1)), gsS cs len n l (decide (w ≤ ni (dwN (dwS (dwS (dwS q.1))) % 16))) (dwN (dwS q.1) % n) (dwN (dwS (dwS q.1)) % 8) (dwN (dwS (dwS (dwS q.1))) % 100) q.2)
def blP (cs : Nat → Nat) (len n l : Nat) (w : Int32) (d i : Nat) (q : Int32 × St) : Int32 × St := itn (fun _ q => if n = 0 then q else gsF cs len n l w q) d i q
theorem AG_q {n len s : Nat} {cs : Nat → Nat} {m m' : Mm} (c : QC n len cs m) (hs : s = 16 ∨ s = 29) (f : Fm (AG s) m m') : QC n len cs m' := QC_fr c f (by unfold AG AV AQ reg; omega) (by unfold AG AV AQ reg; omega) (by unfold AG AV AQ reg; omega) (by unfold AG AV AQ reg; omega)
theorem c_blowL {n len s B l t : Nat} {cs : Nat → Nat} {w : Int32} (hs : s = 16 ∨ s = 29) (ht : t ≤ 96) (hB : B + 200 < 1000000) (hl : l ≤ 30) : ∀ (d i fuel : Nat) (q : Int32 × St) (m : Mm), i + d = t → d < fuel → QC n len cs m → WF n (B + 2 * i) q.2 → absC m s = q.2 → rI m 47 0 = q.1 → rI m 3 2 = ni l →
    ∃ m', L_X8_blow_8 fuel 47 s 14 (ni t) w (ni i) m = some ((), m') ∧ absC m' s = (blP cs len n l w d i q).2 ∧ Fm (AG s) m m' ∧ WF n (B + 2 * t) (blP cs len n l w d i q).2 := by
  intro d
  induction d with
  | zero =>
    intro i fuel q m hi hf c wf ha h47 h3
    obtain ⟨fuel, rfl⟩ : ∃ z, fuel = z + 1 := ⟨fuel - 1, by omega⟩
    have e0 : i = t := by omega
    subst e0
    refine ⟨m, ?_, ha, Fm_refl _ _, wf⟩
    rw [L_X8_blow_8, if_pos (by rw [ni_le (by omega) (by omega)]; omega)]
  | succ d ih =>
    intro i fuel q m hi hf c wf ha h47 h3
    obtain ⟨fuel, rfl⟩ : ∃ z, fuel = z + 1 := ⟨fuel - 1, by omega⟩
    have g := c.1
    have hn6 := c.2.2.1
    have e1 : (ni t ≤ ni i) = False := eq_false (fun z => by rw [ni_le (by omega) (by omega)] at z; omega)
    have e2 : ((96 : Int32) ≤ ni i) = False := eq_false (fun z => by rw [show (96 : Int32) = ni 96 from rfl, ni_le (by omega) (by omega)] at z; omega)
    have hmem : F_X6_members 14 m = some (ni n, m) := by
      unfold F_X6_members
      have h30 := c.2.1
      simp (disch := first | assumption | omega | ((repeat (first | assumption | apply G_wI | apply G_wL | apply CSh_wI | apply CSh_wL)); done) | decide) only [↓dO0, ↓dO1, ↓dA2, ↓dK2, ↓dT2, ↓dO3, ↓dO4, ↓dA5, ↓dK5, ↓dT5, ↓dA6, ↓dK6, ↓dT6, ↓dA7, ↓dK7, ↓dT7, ↓dO8, ↓dA9, ↓dK9, ↓dT9, ↓dA10, ↓dK10, ↓dT10, ↓dA11, ↓dK11, ↓dT11, ↓dO12, ↓dA13, ↓dK13, ↓dT13, ↓dO14, ↓dA15, ↓dK15, ↓dT15, ↓dO16, ↓dO29, ↓dO42, ↓dA43, ↓dK43, ↓dT43, ↓dA44, ↓dK44, ↓dT44, ↓dO45, ↓dA46, ↓dK46, ↓dT46, ↓dO47, ↓dA48, ↓dK48, ↓dT48, ↓dO49, ↓dA50, ↓dK50, ↓dT50, ↓dA51, ↓dK51, ↓dT51, ↓dA52, ↓dK52, ↓dT52, ↓dA53, ↓dK53, ↓dT53, ↓dA54, ↓dK54, ↓dT54, ↓dA215, ↓dK215, ↓dT215, ↓dA376, ↓dK376, ↓dT376, ↓dA383, ↓dK383, ↓dT383, ↓dA390, ↓dK390, ↓dT390, ↓dA391, ↓dK391, ↓dT391, ↓dA392, ↓dK392, ↓dT392, ↓dA473, ↓dK473, ↓dT473, ↓dA474, ↓dK474, ↓dT474, ↓dA475, ↓dK475, ↓dT475, ↓dA492, ↓dK492, ↓dT492, ↓dA496, ↓dK496, ↓dT496, ↓dA497, ↓dK497, ↓dT497, ↓dR0_0, ↓dR0_1, ↓dR0_2, ↓dR0_3, ↓dR0_4, ↓dR0_5, ↓dR0_6, ↓dR0_7, ↓dR0_8, ↓dR0_9, ↓dR0_10, ↓dR0_11, ↓dR0_12, ↓dR1_0, ↓dR4_2, ↓dR8_0, ↓dR8_1, ↓dR8_2, ↓dR12_5, ↓dR14_0, ↓dR14_1, ↓dR14_2, ↓dR42_0, ↓dR45_0, ↓dR49_9, ↓dR49_10, ↓dR49_11, ↓dR49_12, ↓dR49_15, ↓dR49_16, ↓dR49_17, ↓dR49_18, ↓dR49_19, ↓dR49_20, ↓dR49_21, ↓dR49_23, ↓dR49_24, ↓dR49_25, ↓dR49_26, ↓dR49_34, ↓dF54, ↓dB54, ↓dC54, ↓dF215, ↓dB215, ↓dC215, ↓dF376, ↓dB376, ↓dC376, ↓dF383, ↓dB383, ↓dC383, ↓dF392, ↓dB392, ↓dC392, ↓dF475, ↓dB475, ↓dC475, ↓dF492, ↓dB492, ↓dC492, ↓lt9_e, ↓jn_e, ↓bd_s, gd_t, bd_s, oc_s, oc_n, lt9_e, jn_e, okOwI, okAwI, okTwI, lnwI, okOwL, okAwL, okTwL, lnwL, rRwI, rRwL, sHwI, sHwL, rIwL, rLwI, gO0, gO1, gA2, gK2, gT2, gN2, gO3, gO4, gA5, gK5, gT5, gN5, gA6, gK6, gT6, gN6, gA7, gK7, gT7, gN7, gO8, gA9, gK9, gT9, gN9, gA10, gK10, gT10, gN10, gA11, gK11, gT11, gN11, gO12, gA13, gK13, gT13, gN13, gO14, gA15, gK15, gT15, gN15, gO16, gO29, gO42, gA43, gK43, gT43, gN43, gA44, gK44, gT44, gN44, gO45, gA46, gK46, gT46, gN46, gO47, gA48, gK48, gT48, gN48, gO49, gA50, gK50, gT50, gN50, gA51, gK51, gT51, gN51, gA52, gK52, gT52, gN52, gA53, gK53, gT53, gN53, gA54, gK54, gT54, gN54, gA215, gK215, gT215, gN215, gA376, gK376, gT376, gN376, gA383, gK383, gT383, gN383, gA390, gK390, gT390, gN390, gA391, gK391, gT391, gN391, gA392, gK392, gT392, gN392, gA473, gK473, gT473, gN473, gA474, gK474, gT474, gN474, gA475, gK475, gT475, gN475, gA492, gK492, gT492, gN492, gA496, gK496, gT496, gN496, gA497, gK497, gT497, gN497, gR0_0, gR0_1, gR0_2, gR0_3, gR0_4, gR0_5, gR0_6, gR0_7, gR0_8, gR0_9, gR0_10, gR0_11, gR0_12, gR1_0, gR4_2, gR8_0, gR8_1, gR8_2, gR12_5, gR14_0, gR14_1, gR14_2, gR42_0, gR45_0, gR49_9, gR49_10, gR49_11, gR49_12, gR49_15, gR49_16, gR49_17, gR49_18, gR49_19, gR49_20, gR49_21, gR49_23, gR49_24, gR49_25, gR49_26, gR49_34, gF54, gB54, gC54, gF215, gB215, gC215, gF376, gB376, gC376, gF383, gB383, gC383, gF392, gB392, gC392, gF475, gB475, gC475, gF492, gB492, gC492, ni_le, ni_lt, ni_eq, ni_add, ni_mul, lni_le, lni_lt, nil_le, nil_lt, lni_eq, nil_eq, lni_add, nil_add, lni_mul, nil_mul, ix_ni, ix_lit, ni_ne1, ni_lt0, ↓reduceIte, Nat.reduceEqDiff, Nat.reduceMul, Nat.reduceAdd, Nat.reduceLeDiff, and_true, true_and, false_and, and_false, if_true, if_false, Nat.not_lt_zero, false_or, or_false, ft9, decide_true, o10, eq_self, b2i_0, b2i_1, b2i_ok, b2i_inj, b2i_t, b2i_f, rIwIk, h30]
    have ea : ni i + 1 = ni (i + 1) := ni_add _ 1
    have hs1 : blP cs len n l w (d + 1) i q = blP cs len n l w d (i + 1) (if n = 0 then q else gsF cs len n l w q) := rfl
    rw [hs1]
    by_cases n0 : n = 0
    · rw [if_pos n0]
      have en : (ni n ≤ 0) = True := eq_true (by rw [n0]; decide)
      obtain ⟨m', y1, y2, y3, y4⟩ := ih (i + 1) fuel q m (by omega) (by omega) c (WF_B wf (by omega) (by omega)) ha h47 h3
      refine ⟨m', ?_, y2, y3, y4⟩
      rw [← y1, L_X8_blow_8]
      simp only [e1, e2, if_false, gO14 g, gd_t, bdE hmem, jn_e, en, if_true, lt9_e, ea]
    · rw [if_neg n0]
      have en : (ni n ≤ 0) = False := eq_false (q_pos (q := n) (by omega) (by omega)).1
      obtain ⟨m1, x1, x2, x3, x4⟩ := c_gust (w := w) (a := dwN (dwS q.1) % n) (r := dwN (dwS (dwS q.1)) % 8) hs (by omega) c (by rw [ha]; exact wf) (by omega) hl h3 h47 rfl rfl
      rw [ha] at x2
      have wf1 : WF n (B + 2 * (i + 1)) (gsF cs len n l w q).2 := WF_gs (B := B + 2 * i) (Nat.mod_lt _ (by omega)) wf (by omega) hl
      obtain ⟨m', y1, y2, y3, y4⟩ := ih (i + 1) fuel (gsF cs len n l w q) m1 (by omega) (by omega) (AG_q c hs x4) wf1 x2 x3 (by rw [(x4.1 3 (by unfold AG AV AQ reg; omega)).1]; exact h3)
      refine ⟨m', ?_, y2, Fm_trans x4 y3, y4⟩
      rw [← y1, L_X8_blow_8]
      simp only [e1, e2, if_false, gO14 g, gO47 g, gd_t, bdE hmem, jn_e, en, bdE x1, lt9_e, ea]
/-! the reference's -/
theorem RC_gw {n len w : Nat} {lim : Int32} {cs : Nat → Nat} {m m' : Mm} (hw : w = 473 ∨ w = 474) (c : RC n lim len cs m) (f : Gw w m m') : RC n lim len cs m' := by
  obtain ⟨c1, c2, c3, c4, c5, c6⟩ := c
  refine ⟨G_fr f.1 c1, by rw [(f.1.1 53 (by unfold AW; omega)).1]; exact c2, by rw [(f.1.1 53 (by unfold AW; omega)).1]; exact c3, c4, ?_, c6⟩
  unfold RLc at c5 ⊢
  rw [f.2 13 (by omega)]
  have hlen := c6.2.2.2
  rcases c5 with c5 | ⟨c5, c7⟩
  · exact .inl c5
  · refine .inr ⟨c5, fun i hi => ?_⟩
    rw [(f.1.1 _ (by unfold AW; omega)).1]
    exact c7 i hi
theorem Gw_refl (w : Nat) (m : Mm) : Gw w m m := ⟨Fm_refl _ _, fun _ _ => rfl⟩
theorem bl_0 {cs : Nat → Nat} {len l : Nat} {w : Int32} (d i : Nat) (q : Int32 × St) : blP cs len 0 l w d i q = q := itn_id d i (fun _ _ _ => if_pos rfl)
theorem r_blowL {n len B l t : Nat} {cs : Nat → Nat} {y : Int32} (ht : t ≤ 96) (hB : B + 200 < 1000000) (hl : l ≤ 30) : ∀ (d i fuel : Nat) (q : Int32 × St) (m : Mm), i + d = t → d < fuel → RC n (ni l) len cs m → WF n (B + 2 * i) q.2 → RR (rI m 474) q.2 → rI m 49 36 = q.1 →
    ∃ m', L_X12_stormBy_19 fuel 49 (ni t) y (ni i) m = some ((), m') ∧ RR (rI m' 474) (blP cs len n l y d i q).2 ∧ Gw 474 m m' := by
  intro d
  induction d with
  | zero =>
    intro i fuel q m hi hf c wf h h36
    obtain ⟨fuel, rfl⟩ : ∃ z, fuel = z + 1 := ⟨fuel - 1, by omega⟩
    refine ⟨m, ?_, h, Gw_refl _ _⟩
    rw [L_X12_stormBy_19, if_pos (by rw [ni_le (by omega) (by omega)]; omega)]
  | succ d ih =>
    intro i fuel q m hi hf c wf h h36
    obtain ⟨fuel, rfl⟩ : ∃ z, fuel = z + 1 := ⟨fuel - 1, by omega⟩
    have g := c.1
    have hn6 := c.2.2.2.1
    have h53 := c.2.1
    have e1 : (ni t ≤ ni i) = False := eq_false (fun z => by rw [ni_le (by omega) (by omega)] at z; omega)
    have ea : ni i + 1 = ni (i + 1) := ni_add _ 1
    by_cases n0 : n = 0
    · have en : (ni n ≤ 0) = True := eq_true (by rw [n0]; decide)
      refine ⟨m, ?_, ?_, Gw_refl _ _⟩
      · rw [L_X12_stormBy_19]
        simp only [e1, if_false, gO49 g, gd_t, gR49_12 g, oc_s, gK53 (i := 0) g (by omega), ix0', h53, en, if_true]
      · subst n0
        rw [bl_0]
        exact h
    · have en : (ni n ≤ 0) = False := eq_false (q_pos (q := n) (by omega) (by omega)).1
      obtain ⟨m1, x1, x2, x3, x4⟩ := r_gust (w := 474) (y := y) (a := dwN (dwS q.1) % n) (r := dwN (dwS (dwS q.1)) % 8) (.inr rfl) (by omega) c h wf (by omega) hl h36 rfl rfl
      have wf1 : WF n (B + 2 * (i + 1)) (gsF cs len n l y q).2 := WF_gs (B := B + 2 * i) (Nat.mod_lt _ (by omega)) wf (by omega) hl
      obtain ⟨m', y1, y2, y3⟩ := ih (i + 1) fuel (gsF cs len n l y q) m1 (by omega) (by omega) (RC_gw (.inr rfl) c x4) wf1 x2 x3
      have hs1 : blP cs len n l y (d + 1) i q = blP cs len n l y d (i + 1) (if n = 0 then q else gsF cs len n l y q) := rfl
      rw [hs1, if_neg n0]
      refine ⟨m', ?_, y2, Gw_trans x4 y3⟩
      rw [← y1, L_X12_stormBy_19]
      simp only [e1, if_false, gO49 g, gd_t, gR49_12 g, gR49_24 g, oc_s, gK53 (i := 0) g (by omega), ix0', h53, en, bdE x1, lt9_e, ea]
