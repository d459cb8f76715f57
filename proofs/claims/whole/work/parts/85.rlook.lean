/-! L2: the BOOK: the reference's. -/
/-- what the reference knows when it looks -/
def RB (n len l : Nat) (cs : Nat → Nat) (bk : List (Nat × Nat)) (σ : St) (m : Mm) : Prop := RC n (ni l) len cs m ∧ RR (rI m 473) σ ∧ RLn 376 bk m ∧ rI m 49 27 = ni bk.length
theorem RB_q {n len l : Nat} {cs : Nat → Nat} {bk : List (Nat × Nat)} {σ : St} {m m' : Mm} (h : RB n len l cs bk σ m) (hb : bk.length ≤ 6) (f : Fm AR m m') : RB n len l cs bk σ m' := by
  obtain ⟨h1, h2, h3, h4⟩ := h
  refine ⟨RC_q h1 f, by rw [AR_w (.inl rfl) f]; exact h2, fun i hi => ?_, by rw [(f.1 49 (by unfold AR; omega)).1]; exact h4⟩
  rw [(f.1 _ (by unfold AR; omega)).1]
  exact h3 i hi
theorem r_primIf {n len l B p : Nat} {cs : Nat → Nat} {σ : St} {m : Mm} (wf : WF n B σ) (c : RC n (ni l) len cs m) (h : RR (rI m 473) σ) :
    ∃ m', F_X12_primaryIf 49 (ni p) m = some (prim cs len n σ (ni p) (standing σ), m') ∧ Fm AR m m' := by
  obtain ⟨m', e, f⟩ := r_primBy (p := ni p) (st := standing σ) (.inl rfl) wf c h (bel_st wf)
  refine ⟨m', ?_, f⟩
  unfold F_X12_primaryIf
  unfold standing at e
  have g := c.1
  have c := RC_MC c (.inl rfl)
  simp (disch := first | omega | exact MC_ne c | ((repeat (first | exact c | apply MC_w1)); done) | decide) only [gd_t, bd_s, oc_s, oc_n, lt9_e, jn_e, okOwI, okAwI, okTwI, lnwI, okOwL, okAwL, okTwL, lnwL, rRwI, rRwL, sHwI, sHwL, rIwL, rLwI, bit_f, uf_ap, ↓if_pos, ↓if_neg, MC_o c, MC_t c, MC_0 c, MC_2 c, MC_n c, MC_l c, MC_w c, MC_wk c, rIw, rIw_ne, ni_le, ni_lt, ni_eq, ni_add, ni_mul, lni_le, lni_lt, nil_le, nil_lt, lni_eq, nil_eq, lni_add, nil_add, lni_mul, nil_mul, ix_ni, ix_lit, ni_ne1, ni_lt0, ↓reduceIte, Nat.reduceEqDiff, Nat.reduceMul, Nat.reduceAdd, Nat.reduceLeDiff, and_true, true_and, false_and, and_false, if_true, if_false, Nat.not_lt_zero, false_or, or_false, ft9, decide_true, o10, eq_self, b2i_0, b2i_1, b2i_ok, b2i_inj, b2i_t, b2i_f, gR49_23 g, RR184 h, RR183 h, e]
  rfl
theorem r_isSoL {x : Int32} {N : Nat} {bk : List (Nat × Nat)} {m : Mm} (g : G m) (hl : RLn 376 bk m) (h27 : rI m 49 27 = ni bk.length) (hb : BK N bk) :
    ∀ (d i fuel : Nat), i + d = bk.length → d < fuel → L_X12_isSo_8 fuel 49 x (ni i) m = some (b2i (soB x (bk.drop i)), m) := by
  have h6 := BK_len hb
  intro d
  induction d with
  | zero =>
    intro i fuel hi hf
    obtain ⟨fuel, rfl⟩ : ∃ z, fuel = z + 1 := ⟨fuel - 1, by omega⟩
    have e : (ni bk.length ≤ ni i) = True := eq_true (by rw [ni_le (by omega) (by omega)]; omega)
    rw [L_X12_isSo_8, List.drop_eq_nil_of_le (by omega), h27]
    simp only [gO49 g, gd_t, e, if_true]
    rfl
  | succ d ih =>
    intro i fuel hi hf
    obtain ⟨fuel, rfl⟩ : ∃ z, fuel = z + 1 := ⟨fuel - 1, by omega⟩
    have hi6 : i < 6 := by omega
    have hib : i < bk.length := by omega
    have e : (ni bk.length ≤ ni i) = False := eq_false (fun z => by rw [ni_le (by omega) (by omega)] at z; omega)
    have ed : bk.drop i = bk.getD i (0, 0) :: bk.drop (i + 1) := by
      rw [List.drop_eq_getElem_cons hib, List.getD_eq_getElem?_getD, List.getElem?_eq_getElem hib]
      rfl
    have hmem : bk.getD i (0, 0) ∈ bk := by
      rw [List.getD_eq_getElem?_getD, List.getElem?_eq_getElem hib]
      exact List.getElem_mem hib
    obtain ⟨r0, r1⟩ := hl i hib
    have hq := hb.2.2.2.1 _ hmem
    have hN := hb.1
    have z := ih (i + 1) fuel (by omega) (by omega)
    have es : soB x (bk.getD i (0, 0) :: bk.drop (i + 1)) = (decide ((tb (wz x) (bk.getD i (0, 0)).1).toNat = (bk.getD i (0, 0)).2) && soB x (bk.drop (i + 1))) := rfl
    rw [ed, es, L_X12_isSo_8, h27]
    have hh := hasR (x := x) (i := (bk.getD i (0, 0)).1) (by omega) m
    have ix1' : ix (1 : Int32) = 1 := rfl
    -- what is held against the list
    have tail : ∀ b : Bool, b = tb (wz x) (bk.getD i (0, 0)).1 → (if b2i b = ni (bk.getD i (0, 0)).2 then L_X12_isSo_8 fuel 49 x (ni i + 1) m else some ((0 : Int32), m)) = some (b2i (decide ((tb (wz x) (bk.getD i (0, 0)).1).toNat = (bk.getD i (0, 0)).2) && soB x (bk.drop (i + 1))), m) := by
      intro b hbb
      rw [← hbb, b2i_ni]
      have en : (ni b.toNat = ni (bk.getD i (0, 0)).2) = (b.toNat = (bk.getD i (0, 0)).2) := propext (ni_eq (by cases b <;> decide) (by omega))
      by_cases c : b.toNat = (bk.getD i (0, 0)).2
      · rw [if_pos (by rw [en]; exact c), decide_eq_true c, Bool.true_and, ← z, show ni i + 1 = ni (i + 1) from ni_add i 1]
      · rw [if_neg (by rw [en]; exact c), decide_eq_false c, Bool.false_and]
        rfl
    by_cases x1 : x = -1
    · have w0 : wz x = 0 := by rw [x1]; rfl
      have t := tail false (by rw [w0, tb_0])
      have x1' := eq_true x1
      rw [b2i_f] at t
      rw [← t]
      simp (disch := first | assumption | omega | ((repeat (first | assumption | apply G_wI | apply G_wL | apply CSh_wI | apply CSh_wL)); done) | decide) only [↓dO0, ↓dO1, ↓dA2, ↓dK2, ↓dT2, ↓dO3, ↓dO4, ↓dA5, ↓dK5, ↓dT5, ↓dA6, ↓dK6, ↓dT6, ↓dA7, ↓dK7, ↓dT7, ↓dO8, ↓dA9, ↓dK9, ↓dT9, ↓dA10, ↓dK10, ↓dT10, ↓dA11, ↓dK11, ↓dT11, ↓dO12, ↓dA13, ↓dK13, ↓dT13, ↓dO14, ↓dA15, ↓dK15, ↓dT15, ↓dO16, ↓dO29, ↓dO42, ↓dA43, ↓dK43, ↓dT43, ↓dA44, ↓dK44, ↓dT44, ↓dO45, ↓dA46, ↓dK46, ↓dT46, ↓dO47, ↓dA48, ↓dK48, ↓dT48, ↓dO49, ↓dA50, ↓dK50, ↓dT50, ↓dA51, ↓dK51, ↓dT51, ↓dA52, ↓dK52, ↓dT52, ↓dA53, ↓dK53, ↓dT53, ↓dA54, ↓dK54, ↓dT54, ↓dA215, ↓dK215, ↓dT215, ↓dA376, ↓dK376, ↓dT376, ↓dA383, ↓dK383, ↓dT383, ↓dA390, ↓dK390, ↓dT390, ↓dA391, ↓dK391, ↓dT391, ↓dA392, ↓dK392, ↓dT392, ↓dA473, ↓dK473, ↓dT473, ↓dA474, ↓dK474, ↓dT474, ↓dA475, ↓dK475, ↓dT475, ↓dA492, ↓dK492, ↓dT492, ↓dA496, ↓dK496, ↓dT496, ↓dA497, ↓dK497, ↓dT497, ↓dR0_0, ↓dR0_1, ↓dR0_2, ↓dR0_3, ↓dR0_4, ↓dR0_5, ↓dR0_6, ↓dR0_7, ↓dR0_8, ↓dR0_9, ↓dR0_10, ↓dR0_11, ↓dR0_12, ↓dR1_0, ↓dR4_2, ↓dR8_0, ↓dR8_1, ↓dR8_2, ↓dR12_5, ↓dR14_0, ↓dR14_1, ↓dR14_2, ↓dR42_0, ↓dR45_0, ↓dR49_9, ↓dR49_10, ↓dR49_11, ↓dR49_12, ↓dR49_15, ↓dR49_16, ↓dR49_17, ↓dR49_18, ↓dR49_19, ↓dR49_20, ↓dR49_21, ↓dR49_23, ↓dR49_24, ↓dR49_25, ↓dR49_26, ↓dR49_34, ↓dF54, ↓dB54, ↓dC54, ↓dF215, ↓dB215, ↓dC215, ↓dF376, ↓dB376, ↓dC376, ↓dF383, ↓dB383, ↓dC383, ↓dF392, ↓dB392, ↓dC392, ↓dF475, ↓dB475, ↓dC475, ↓dF492, ↓dB492, ↓dC492, ↓lt9_e, ↓jn_e, ↓bd_s, gd_t, bd_s, oc_s, oc_n, lt9_e, jn_e, okOwI, okAwI, okTwI, lnwI, okOwL, okAwL, okTwL, lnwL, rRwI, rRwL, sHwI, sHwL, rIwL, rLwI, gO0, gO1, gA2, gK2, gT2, gN2, gO3, gO4, gA5, gK5, gT5, gN5, gA6, gK6, gT6, gN6, gA7, gK7, gT7, gN7, gO8, gA9, gK9, gT9, gN9, gA10, gK10, gT10, gN10, gA11, gK11, gT11, gN11, gO12, gA13, gK13, gT13, gN13, gO14, gA15, gK15, gT15, gN15, gO16, gO29, gO42, gA43, gK43, gT43, gN43, gA44, gK44, gT44, gN44, gO45, gA46, gK46, gT46, gN46, gO47, gA48, gK48, gT48, gN48, gO49, gA50, gK50, gT50, gN50, gA51, gK51, gT51, gN51, gA52, gK52, gT52, gN52, gA53, gK53, gT53, gN53, gA54, gK54, gT54, gN54, gA215, gK215, gT215, gN215, gA376, gK376, gT376, gN376, gA383, gK383, gT383, gN383, gA390, gK390, gT390, gN390, gA391, gK391, gT391, gN391, gA392, gK392, gT392, gN392, gA473, gK473, gT473, gN473, gA474, gK474, gT474, gN474, gA475, gK475, gT475, gN475, gA492, gK492, gT492, gN492, gA496, gK496, gT496, gN496, gA497, gK497, gT497, gN497, gR0_0, gR0_1, gR0_2, gR0_3, gR0_4, gR0_5, gR0_6, gR0_7, gR0_8, gR0_9, gR0_10, gR0_11, gR0_12, gR1_0, gR4_2, gR8_0, gR8_1, gR8_2, gR12_5, gR14_0, gR14_1, gR14_2, gR42_0, gR45_0, gR49_9, gR49_10, gR49_11, gR49_12, gR49_15, gR49_16, gR49_17, gR49_18, gR49_19, gR49_20, gR49_21, gR49_23, gR49_24, gR49_25, gR49_26, gR49_34, gF54, gB54, gC54, gF215, gB215, gC215, gF376, gB376, gC376, gF383, gB383, gC383, gF392, gB392, gC392, gF475, gB475, gC475, gF492, gB492, gC492, ni_le, ni_lt, ni_eq, ni_add, ni_mul, lni_le, lni_lt, nil_le, nil_lt, lni_eq, nil_eq, lni_add, nil_add, lni_mul, nil_mul, ix_ni, ix_lit, ni_ne1, ni_lt0, ↓reduceIte, Nat.reduceEqDiff, Nat.reduceMul, Nat.reduceAdd, Nat.reduceLeDiff, and_true, true_and, false_and, and_false, if_true, if_false, Nat.not_lt_zero, false_or, or_false, ft9, decide_true, o10, eq_self, b2i_0, b2i_1, b2i_ok, b2i_inj, b2i_t, b2i_f, rIwIk, e, x1', r1, ix1']
    · have w0 : wz x = x := if_neg x1
      have x1' := eq_false x1
      have t := tail (tb x (bk.getD i (0, 0)).1) (by rw [w0])
      rw [← t]
      cases q : tb x (bk.getD i (0, 0)).1
      · rw [q] at hh
        simp (disch := first | assumption | omega | ((repeat (first | assumption | apply G_wI | apply G_wL | apply CSh_wI | apply CSh_wL)); done) | decide) only [↓dO0, ↓dO1, ↓dA2, ↓dK2, ↓dT2, ↓dO3, ↓dO4, ↓dA5, ↓dK5, ↓dT5, ↓dA6, ↓dK6, ↓dT6, ↓dA7, ↓dK7, ↓dT7, ↓dO8, ↓dA9, ↓dK9, ↓dT9, ↓dA10, ↓dK10, ↓dT10, ↓dA11, ↓dK11, ↓dT11, ↓dO12, ↓dA13, ↓dK13, ↓dT13, ↓dO14, ↓dA15, ↓dK15, ↓dT15, ↓dO16, ↓dO29, ↓dO42, ↓dA43, ↓dK43, ↓dT43, ↓dA44, ↓dK44, ↓dT44, ↓dO45, ↓dA46, ↓dK46, ↓dT46, ↓dO47, ↓dA48, ↓dK48, ↓dT48, ↓dO49, ↓dA50, ↓dK50, ↓dT50, ↓dA51, ↓dK51, ↓dT51, ↓dA52, ↓dK52, ↓dT52, ↓dA53, ↓dK53, ↓dT53, ↓dA54, ↓dK54, ↓dT54, ↓dA215, ↓dK215, ↓dT215, ↓dA376, ↓dK376, ↓dT376, ↓dA383, ↓dK383, ↓dT383, ↓dA390, ↓dK390, ↓dT390, ↓dA391, ↓dK391, ↓dT391, ↓dA392, ↓dK392, ↓dT392, ↓dA473, ↓dK473, ↓dT473, ↓dA474, ↓dK474, ↓dT474, ↓dA475, ↓dK475, ↓dT475, ↓dA492, ↓dK492, ↓dT492, ↓dA496, ↓dK496, ↓dT496, ↓dA497, ↓dK497, ↓dT497, ↓dR0_0, ↓dR0_1, ↓dR0_2, ↓dR0_3, ↓dR0_4, ↓dR0_5, ↓dR0_6, ↓dR0_7, ↓dR0_8, ↓dR0_9, ↓dR0_10, ↓dR0_11, ↓dR0_12, ↓dR1_0, ↓dR4_2, ↓dR8_0, ↓dR8_1, ↓dR8_2, ↓dR12_5, ↓dR14_0, ↓dR14_1, ↓dR14_2, ↓dR42_0, ↓dR45_0, ↓dR49_9, ↓dR49_10, ↓dR49_11, ↓dR49_12, ↓dR49_15, ↓dR49_16, ↓dR49_17, ↓dR49_18, ↓dR49_19, ↓dR49_20, ↓dR49_21, ↓dR49_23, ↓dR49_24, ↓dR49_25, ↓dR49_26, ↓dR49_34, ↓dF54, ↓dB54, ↓dC54, ↓dF215, ↓dB215, ↓dC215, ↓dF376, ↓dB376, ↓dC376, ↓dF383, ↓dB383, ↓dC383, ↓dF392, ↓dB392, ↓dC392, ↓dF475, ↓dB475, ↓dC475, ↓dF492, ↓dB492, ↓dC492, ↓lt9_e, ↓jn_e, ↓bd_s, gd_t, bd_s, oc_s, oc_n, lt9_e, jn_e, okOwI, okAwI, okTwI, lnwI, okOwL, okAwL, okTwL, lnwL, rRwI, rRwL, sHwI, sHwL, rIwL, rLwI, gO0, gO1, gA2, gK2, gT2, gN2, gO3, gO4, gA5, gK5, gT5, gN5, gA6, gK6, gT6, gN6, gA7, gK7, gT7, gN7, gO8, gA9, gK9, gT9, gN9, gA10, gK10, gT10, gN10, gA11, gK11, gT11, gN11, gO12, gA13, gK13, gT13, gN13, gO14, gA15, gK15, gT15, gN15, gO16, gO29, gO42, gA43, gK43, gT43, gN43, gA44, gK44, gT44, gN44, gO45, gA46, gK46, gT46, gN46, gO47, gA48, gK48, gT48, gN48, gO49, gA50, gK50, gT50, gN50, gA51, gK51, gT51, gN51, gA52, gK52, gT52, gN52, gA53, gK53, gT53, gN53, gA54, gK54, gT54, gN54, gA215, gK215, gT215, gN215, gA376, gK376, gT376, gN376, gA383, gK383, gT383, gN383, gA390, gK390, gT390, gN390, gA391, gK391, gT391, gN391, gA392, gK392, gT392, gN392, gA473, gK473, gT473, gN473, gA474, gK474, gT474, gN474, gA475, gK475, gT475, gN475, gA492, gK492, gT492, gN492, gA496, gK496, gT496, gN496, gA497, gK497, gT497, gN497, gR0_0, gR0_1, gR0_2, gR0_3, gR0_4, gR0_5, gR0_6, gR0_7, gR0_8, gR0_9, gR0_10, gR0_11, gR0_12, gR1_0, gR4_2, gR8_0, gR8_1, gR8_2, gR12_5, gR14_0, gR14_1, gR14_2, gR42_0, gR45_0, gR49_9, gR49_10, gR49_11, gR49_12, gR49_15, gR49_16, gR49_17, gR49_18, gR49_19, gR49_20, gR49_21, gR49_23, gR49_24, gR49_25, gR49_26, gR49_34, gF54, gB54, gC54, gF215, gB215, gC215, gF376, gB376, gC376, gF383, gB383, gC383, gF392, gB392, gC392, gF475, gB475, gC475, gF492, gB492, gC492, ni_le, ni_lt, ni_eq, ni_add, ni_mul, lni_le, lni_lt, nil_le, nil_lt, lni_eq, nil_eq, lni_add, nil_add, lni_mul, nil_mul, ix_ni, ix_lit, ni_ne1, ni_lt0, ↓reduceIte, Nat.reduceEqDiff, Nat.reduceMul, Nat.reduceAdd, Nat.reduceLeDiff, and_true, true_and, false_and, and_false, if_true, if_false, Nat.not_lt_zero, false_or, or_false, ft9, decide_true, o10, eq_self, b2i_0, b2i_1, b2i_ok, b2i_inj, b2i_t, b2i_f, rIwIk, e, x1', r0, r1, ix1', ↓bdE hh]
      · rw [q] at hh
        simp (disch := first | assumption | omega | ((repeat (first | assumption | apply G_wI | apply G_wL | apply CSh_wI | apply CSh_wL)); done) | decide) only [↓dO0, ↓dO1, ↓dA2, ↓dK2, ↓dT2, ↓dO3, ↓dO4, ↓dA5, ↓dK5, ↓dT5, ↓dA6, ↓dK6, ↓dT6, ↓dA7, ↓dK7, ↓dT7, ↓dO8, ↓dA9, ↓dK9, ↓dT9, ↓dA10, ↓dK10, ↓dT10, ↓dA11, ↓dK11, ↓dT11, ↓dO12, ↓dA13, ↓dK13, ↓dT13, ↓dO14, ↓dA15, ↓dK15, ↓dT15, ↓dO16, ↓dO29, ↓dO42, ↓dA43, ↓dK43, ↓dT43, ↓dA44, ↓dK44, ↓dT44, ↓dO45, ↓dA46, ↓dK46, ↓dT46, ↓dO47, ↓dA48, ↓dK48, ↓dT48, ↓dO49, ↓dA50, ↓dK50, ↓dT50, ↓dA51, ↓dK51, ↓dT51, ↓dA52, ↓dK52, ↓dT52, ↓dA53, ↓dK53, ↓dT53, ↓dA54, ↓dK54, ↓dT54, ↓dA215, ↓dK215, ↓dT215, ↓dA376, ↓dK376, ↓dT376, ↓dA383, ↓dK383, ↓dT383, ↓dA390, ↓dK390, ↓dT390, ↓dA391, ↓dK391, ↓dT391, ↓dA392, ↓dK392, ↓dT392, ↓dA473, ↓dK473, ↓dT473, ↓dA474, ↓dK474, ↓dT474, ↓dA475, ↓dK475, ↓dT475, ↓dA492, ↓dK492, ↓dT492, ↓dA496, ↓dK496, ↓dT496, ↓dA497, ↓dK497, ↓dT497, ↓dR0_0, ↓dR0_1, ↓dR0_2, ↓dR0_3, ↓dR0_4, ↓dR0_5, ↓dR0_6, ↓dR0_7, ↓dR0_8, ↓dR0_9, ↓dR0_10, ↓dR0_11, ↓dR0_12, ↓dR1_0, ↓dR4_2, ↓dR8_0, ↓dR8_1, ↓dR8_2, ↓dR12_5, ↓dR14_0, ↓dR14_1, ↓dR14_2, ↓dR42_0, ↓dR45_0, ↓dR49_9, ↓dR49_10, ↓dR49_11, ↓dR49_12, ↓dR49_15, ↓dR49_16, ↓dR49_17, ↓dR49_18, ↓dR49_19, ↓dR49_20, ↓dR49_21, ↓dR49_23, ↓dR49_24, ↓dR49_25, ↓dR49_26, ↓dR49_34, ↓dF54, ↓dB54, ↓dC54, ↓dF215, ↓dB215, ↓dC215, ↓dF376, ↓dB376, ↓dC376, ↓dF383, ↓dB383, ↓dC383, ↓dF392, ↓dB392, ↓dC392, ↓dF475, ↓dB475, ↓dC475, ↓dF492, ↓dB492, ↓dC492, ↓lt9_e, ↓jn_e, ↓bd_s, gd_t, bd_s, oc_s, oc_n, lt9_e, jn_e, okOwI, okAwI, okTwI, lnwI, okOwL, okAwL, okTwL, lnwL, rRwI, rRwL, sHwI, sHwL, rIwL, rLwI, gO0, gO1, gA2, gK2, gT2, gN2, gO3, gO4, gA5, gK5, gT5, gN5, gA6, gK6, gT6, gN6, gA7, gK7, gT7, gN7, gO8, gA9, gK9, gT9, gN9, gA10, gK10, gT10, gN10, gA11, gK11, gT11, gN11, gO12, gA13, gK13, gT13, gN13, gO14, gA15, gK15, gT15, gN15, gO16, gO29, gO42, gA43, gK43, gT43, gN43, gA44, gK44, gT44, gN44, gO45, gA46, gK46, gT46, gN46, gO47, gA48, gK48, gT48, gN48, gO49, gA50, gK50, gT50, gN50, gA51, gK51, gT51, gN51, gA52, gK52, gT52, gN52, gA53, gK53, gT53, gN53, gA54, gK54, gT54, gN54, gA215, gK215, gT215, gN215, gA376, gK376, gT376, gN376, gA383, gK383, gT383, gN383, gA390, gK390, gT390, gN390, gA391, gK391, gT391, gN391, gA392, gK392, gT392, gN392, gA473, gK473, gT473, gN473, gA474, gK474, gT474, gN474, gA475, gK475, gT475, gN475, gA492, gK492, gT492, gN492, gA496, gK496, gT496, gN496, gA497, gK497, gT497, gN497, gR0_0, gR0_1, gR0_2, gR0_3, gR0_4, gR0_5, gR0_6, gR0_7, gR0_8, gR0_9, gR0_10, gR0_11, gR0_12, gR1_0, gR4_2, gR8_0, gR8_1, gR8_2, gR12_5, gR14_0, gR14_1, gR14_2, gR42_0, gR45_0, gR49_9, gR49_10, gR49_11, gR49_12, gR49_15, gR49_16, gR49_17, gR49_18, gR49_19, gR49_20, gR49_21, gR49_23, gR49_24, gR49_25, gR49_26, gR49_34, gF54, gB54, gC54, gF215, gB215, gC215, gF376, gB376, gC376, gF383, gB383, gC383, gF392, gB392, gC392, gF475, gB475, gC475, gF492, gB492, gC492, ni_le, ni_lt, ni_eq, ni_add, ni_mul, lni_le, lni_lt, nil_le, nil_lt, lni_eq, nil_eq, lni_add, nil_add, lni_mul, nil_mul, ix_ni, ix_lit, ni_ne1, ni_lt0, ↓reduceIte, Nat.reduceEqDiff, Nat.reduceMul, Nat.reduceAdd, Nat.reduceLeDiff, and_true, true_and, false_and, and_false, if_true, if_false, Nat.not_lt_zero, false_or, or_false, ft9, decide_true, o10, eq_self, b2i_0, b2i_1, b2i_ok, b2i_inj, b2i_t, b2i_f, rIwIk, e, x1', r0, r1, ix1', ↓bdE hh]
def soP (W : Nat → Int32) (bk : List (Nat × Nat)) (p : Nat) : Bool := decide (W p &&& nmB bk = inB bk)
theorem r_isSo {n len l B p : Nat} {cs : Nat → Nat} {bk : List (Nat × Nat)} {σ : St} {m : Mm} (wf : WF n B σ) (hb : BK n bk) (h : RB n len l cs bk σ m) :
    ∃ m', F_X12_isSo 49 (ni p) m = some (b2i (soP (wp cs len n σ) bk p), m') ∧ Fm AR m m' := by
  obtain ⟨m1, x1, x2⟩ := r_primIf (p := p) wf h.1 h.2.1
  have h1 := RB_q h (BK_len hb) x2
  have g1 := h1.1.1
  have z := r_isSoL (x := prim cs len n σ (ni p) (standing σ)) g1 h1.2.2.1 h1.2.2.2 hb bk.length 0 NF (by omega) (by have := BK_len hb; unfold NF; omega)
  refine ⟨m1, ?_, x2⟩
  rw [List.drop_zero, soB_eq hb] at z
  unfold F_X12_isSo
  simp only [gO49 h.1.1, gd_t, bdE x1, lt9_e]
  exact z
theorem r_isToldL {N k : Nat} {bk : List (Nat × Nat)} {m : Mm} (g : G m) (hl : RLn 376 bk m) (h27 : rI m 49 27 = ni bk.length) (hb : BK N bk) (hk : k < 6) :
    ∀ (d i fuel : Nat), i + d = bk.length → d < fuel → L_X12_isTold_2 fuel 49 (ni k) (ni i) m = some (b2i ((bk.drop i).any (fun q => decide (q.1 = k))), m) := by
  have h6 := BK_len hb
  intro d
  induction d with
  | zero =>
    intro i fuel hi hf
    obtain ⟨fuel, rfl⟩ : ∃ z, fuel = z + 1 := ⟨fuel - 1, by omega⟩
    have e : (ni bk.length ≤ ni i) = True := eq_true (by rw [ni_le (by omega) (by omega)]; omega)
    rw [L_X12_isTold_2, List.drop_eq_nil_of_le (by omega), h27]
    simp only [gO49 g, gd_t, e, if_true]
    rfl
  | succ d ih =>
    intro i fuel hi hf
    obtain ⟨fuel, rfl⟩ : ∃ z, fuel = z + 1 := ⟨fuel - 1, by omega⟩
    have hi6 : i < 6 := by omega
    have hib : i < bk.length := by omega
    have e : (ni bk.length ≤ ni i) = False := eq_false (fun z => by rw [ni_le (by omega) (by omega)] at z; omega)
    have ed : bk.drop i = bk.getD i (0, 0) :: bk.drop (i + 1) := by
      rw [List.drop_eq_getElem_cons hib, List.getD_eq_getElem?_getD, List.getElem?_eq_getElem hib]
      rfl
    have hmem : bk.getD i (0, 0) ∈ bk := by
      rw [List.getD_eq_getElem?_getD, List.getElem?_eq_getElem hib]
      exact List.getElem_mem hib
    obtain ⟨r0, r1⟩ := hl i hib
    have hq := hb.2.2.2.1 _ hmem
    have hN := hb.1
    have z := ih (i + 1) fuel (by omega) (by omega)
    have en : (ni (bk.getD i (0, 0)).1 = ni k) = ((bk.getD i (0, 0)).1 = k) := propext (ni_eq (by omega) (by omega))
    rw [ed, List.any_cons, L_X12_isTold_2, h27]
    by_cases c : (bk.getD i (0, 0)).1 = k
    · have c' := eq_true c
      rw [decide_eq_true c, Bool.true_or]
      simp (disch := first | assumption | omega | ((repeat (first | assumption | apply G_wI | apply G_wL | apply CSh_wI | apply CSh_wL)); done) | decide) only [↓dO0, ↓dO1, ↓dA2, ↓dK2, ↓dT2, ↓dO3, ↓dO4, ↓dA5, ↓dK5, ↓dT5, ↓dA6, ↓dK6, ↓dT6, ↓dA7, ↓dK7, ↓dT7, ↓dO8, ↓dA9, ↓dK9, ↓dT9, ↓dA10, ↓dK10, ↓dT10, ↓dA11, ↓dK11, ↓dT11, ↓dO12, ↓dA13, ↓dK13, ↓dT13, ↓dO14, ↓dA15, ↓dK15, ↓dT15, ↓dO16, ↓dO29, ↓dO42, ↓dA43, ↓dK43, ↓dT43, ↓dA44, ↓dK44, ↓dT44, ↓dO45, ↓dA46, ↓dK46, ↓dT46, ↓dO47, ↓dA48, ↓dK48, ↓dT48, ↓dO49, ↓dA50, ↓dK50, ↓dT50, ↓dA51, ↓dK51, ↓dT51, ↓dA52, ↓dK52, ↓dT52, ↓dA53, ↓dK53, ↓dT53, ↓dA54, ↓dK54, ↓dT54, ↓dA215, ↓dK215, ↓dT215, ↓dA376, ↓dK376, ↓dT376, ↓dA383, ↓dK383, ↓dT383, ↓dA390, ↓dK390, ↓dT390, ↓dA391, ↓dK391, ↓dT391, ↓dA392, ↓dK392, ↓dT392, ↓dA473, ↓dK473, ↓dT473, ↓dA474, ↓dK474, ↓dT474, ↓dA475, ↓dK475, ↓dT475, ↓dA492, ↓dK492, ↓dT492, ↓dA496, ↓dK496, ↓dT496, ↓dA497, ↓dK497, ↓dT497, ↓dR0_0, ↓dR0_1, ↓dR0_2, ↓dR0_3, ↓dR0_4, ↓dR0_5, ↓dR0_6, ↓dR0_7, ↓dR0_8, ↓dR0_9, ↓dR0_10, ↓dR0_11, ↓dR0_12, ↓dR1_0, ↓dR4_2, ↓dR8_0, ↓dR8_1, ↓dR8_2, ↓dR12_5, ↓dR14_0, ↓dR14_1, ↓dR14_2, ↓dR42_0, ↓dR45_0, ↓dR49_9, ↓dR49_10, ↓dR49_11, ↓dR49_12, ↓dR49_15, ↓dR49_16, ↓dR49_17, ↓dR49_18, ↓dR49_19, ↓dR49_20, ↓dR49_21, ↓dR49_23, ↓dR49_24, ↓dR49_25, ↓dR49_26, ↓dR49_34, ↓dF54, ↓dB54, ↓dC54, ↓dF215, ↓dB215, ↓dC215, ↓dF376, ↓dB376, ↓dC376, ↓dF383, ↓dB383, ↓dC383, ↓dF392, ↓dB392, ↓dC392, ↓dF475, ↓dB475, ↓dC475, ↓dF492, ↓dB492, ↓dC492, ↓lt9_e, ↓jn_e, ↓bd_s, gd_t, bd_s, oc_s, oc_n, lt9_e, jn_e, okOwI, okAwI, okTwI, lnwI, okOwL, okAwL, okTwL, lnwL, rRwI, rRwL, sHwI, sHwL, rIwL, rLwI, gO0, gO1, gA2, gK2, gT2, gN2, gO3, gO4, gA5, gK5, gT5, gN5, gA6, gK6, gT6, gN6, gA7, gK7, gT7, gN7, gO8, gA9, gK9, gT9, gN9, gA10, gK10, gT10, gN10, gA11, gK11, gT11, gN11, gO12, gA13, gK13, gT13, gN13, gO14, gA15, gK15, gT15, gN15, gO16, gO29, gO42, gA43, gK43, gT43, gN43, gA44, gK44, gT44, gN44, gO45, gA46, gK46, gT46, gN46, gO47, gA48, gK48, gT48, gN48, gO49, gA50, gK50, gT50, gN50, gA51, gK51, gT51, gN51, gA52, gK52, gT52, gN52, gA53, gK53, gT53, gN53, gA54, gK54, gT54, gN54, gA215, gK215, gT215, gN215, gA376, gK376, gT376, gN376, gA383, gK383, gT383, gN383, gA390, gK390, gT390, gN390, gA391, gK391, gT391, gN391, gA392, gK392, gT392, gN392, gA473, gK473, gT473, gN473, gA474, gK474, gT474, gN474, gA475, gK475, gT475, gN475, gA492, gK492, gT492, gN492, gA496, gK496, gT496, gN496, gA497, gK497, gT497, gN497, gR0_0, gR0_1, gR0_2, gR0_3, gR0_4, gR0_5, gR0_6, gR0_7, gR0_8, gR0_9, gR0_10, gR0_11, gR0_12, gR1_0, gR4_2, gR8_0, gR8_1, gR8_2, gR12_5, gR14_0, gR14_1, gR14_2, gR42_0, gR45_0, gR49_9, gR49_10, gR49_11, gR49_12, gR49_15, gR49_16, gR49_17, gR49_18, gR49_19, gR49_20, gR49_21, gR49_23, gR49_24, gR49_25, gR49_26, gR49_34, gF54, gB54, gC54, gF215, gB215, gC215, gF376, gB376, gC376, gF383, gB383, gC383, gF392, gB392, gC392, gF475, gB475, gC475, gF492, gB492, gC492, ni_le, ni_lt, ni_eq, ni_add, ni_mul, lni_le, lni_lt, nil_le, nil_lt, lni_eq, nil_eq, lni_add, nil_add, lni_mul, nil_mul, ix_ni, ix_lit, ni_ne1, ni_lt0, ↓reduceIte, Nat.reduceEqDiff, Nat.reduceMul, Nat.reduceAdd, Nat.reduceLeDiff, and_true, true_and, false_and, and_false, if_true, if_false, Nat.not_lt_zero, false_or, or_false, ft9, decide_true, o10, eq_self, b2i_0, b2i_1, b2i_ok, b2i_inj, b2i_t, b2i_f, rIwIk, e, r0, en, c']
    · have c' := eq_false c
      rw [decide_eq_false c, Bool.false_or, ← z]
      simp (disch := first | assumption | omega | ((repeat (first | assumption | apply G_wI | apply G_wL | apply CSh_wI | apply CSh_wL)); done) | decide) only [↓dO0, ↓dO1, ↓dA2, ↓dK2, ↓dT2, ↓dO3, ↓dO4, ↓dA5, ↓dK5, ↓dT5, ↓dA6, ↓dK6, ↓dT6, ↓dA7, ↓dK7, ↓dT7, ↓dO8, ↓dA9, ↓dK9, ↓dT9, ↓dA10, ↓dK10, ↓dT10, ↓dA11, ↓dK11, ↓dT11, ↓dO12, ↓dA13, ↓dK13, ↓dT13, ↓dO14, ↓dA15, ↓dK15, ↓dT15, ↓dO16, ↓dO29, ↓dO42, ↓dA43, ↓dK43, ↓dT43, ↓dA44, ↓dK44, ↓dT44, ↓dO45, ↓dA46, ↓dK46, ↓dT46, ↓dO47, ↓dA48, ↓dK48, ↓dT48, ↓dO49, ↓dA50, ↓dK50, ↓dT50, ↓dA51, ↓dK51, ↓dT51, ↓dA52, ↓dK52, ↓dT52, ↓dA53, ↓dK53, ↓dT53, ↓dA54, ↓dK54, ↓dT54, ↓dA215, ↓dK215, ↓dT215, ↓dA376, ↓dK376, ↓dT376, ↓dA383, ↓dK383, ↓dT383, ↓dA390, ↓dK390, ↓dT390, ↓dA391, ↓dK391, ↓dT391, ↓dA392, ↓dK392, ↓dT392, ↓dA473, ↓dK473, ↓dT473, ↓dA474, ↓dK474, ↓dT474, ↓dA475, ↓dK475, ↓dT475, ↓dA492, ↓dK492, ↓dT492, ↓dA496, ↓dK496, ↓dT496, ↓dA497, ↓dK497, ↓dT497, ↓dR0_0, ↓dR0_1, ↓dR0_2, ↓dR0_3, ↓dR0_4, ↓dR0_5, ↓dR0_6, ↓dR0_7, ↓dR0_8, ↓dR0_9, ↓dR0_10, ↓dR0_11, ↓dR0_12, ↓dR1_0, ↓dR4_2, ↓dR8_0, ↓dR8_1, ↓dR8_2, ↓dR12_5, ↓dR14_0, ↓dR14_1, ↓dR14_2, ↓dR42_0, ↓dR45_0, ↓dR49_9, ↓dR49_10, ↓dR49_11, ↓dR49_12, ↓dR49_15, ↓dR49_16, ↓dR49_17, ↓dR49_18, ↓dR49_19, ↓dR49_20, ↓dR49_21, ↓dR49_23, ↓dR49_24, ↓dR49_25, ↓dR49_26, ↓dR49_34, ↓dF54, ↓dB54, ↓dC54, ↓dF215, ↓dB215, ↓dC215, ↓dF376, ↓dB376, ↓dC376, ↓dF383, ↓dB383, ↓dC383, ↓dF392, ↓dB392, ↓dC392, ↓dF475, ↓dB475, ↓dC475, ↓dF492, ↓dB492, ↓dC492, ↓lt9_e, ↓jn_e, ↓bd_s, gd_t, bd_s, oc_s, oc_n, lt9_e, jn_e, okOwI, okAwI, okTwI, lnwI, okOwL, okAwL, okTwL, lnwL, rRwI, rRwL, sHwI, sHwL, rIwL, rLwI, gO0, gO1, gA2, gK2, gT2, gN2, gO3, gO4, gA5, gK5, gT5, gN5, gA6, gK6, gT6, gN6, gA7, gK7, gT7, gN7, gO8, gA9, gK9, gT9, gN9, gA10, gK10, gT10, gN10, gA11, gK11, gT11, gN11, gO12, gA13, gK13, gT13, gN13, gO14, gA15, gK15, gT15, gN15, gO16, gO29, gO42, gA43, gK43, gT43, gN43, gA44, gK44, gT44, gN44, gO45, gA46, gK46, gT46, gN46, gO47, gA48, gK48, gT48, gN48, gO49, gA50, gK50, gT50, gN50, gA51, gK51, gT51, gN51, gA52, gK52, gT52, gN52, gA53, gK53, gT53, gN53, gA54, gK54, gT54, gN54, gA215, gK215, gT215, gN215, gA376, gK376, gT376, gN376, gA383, gK383, gT383, gN383, gA390, gK390, gT390, gN390, gA391, gK391, gT391, gN391, gA392, gK392, gT392, gN392, gA473, gK473, gT473, gN473, gA474, gK474, gT474, gN474, gA475, gK475, gT475, gN475, gA492, gK492, gT492, gN492, gA496, gK496, gT496, gN496, gA497, gK497, gT497, gN497, gR0_0, gR0_1, gR0_2, gR0_3, gR0_4, gR0_5, gR0_6, gR0_7, gR0_8, gR0_9, gR0_10, gR0_11, gR0_12, gR1_0, gR4_2, gR8_0, gR8_1, gR8_2, gR12_5, gR14_0, gR14_1, gR14_2, gR42_0, gR45_0, gR49_9, gR49_10, gR49_11, gR49_12, gR49_15, gR49_16, gR49_17, gR49_18, gR49_19, gR49_20, gR49_21, gR49_23, gR49_24, gR49_25, gR49_26, gR49_34, gF54, gB54, gC54, gF215, gB215, gC215, gF376, gB376, gC376, gF383, gB383, gC383, gF392, gB392, gC392, gF475, gB475, gC475, gF492, gB492, gC492, ni_le, ni_lt, ni_eq, ni_add, ni_mul, lni_le, lni_lt, nil_le, nil_lt, lni_eq, nil_eq, lni_add, nil_add, lni_mul, nil_mul, ix_ni, ix_lit, ni_ne1, ni_lt0, ↓reduceIte, Nat.reduceEqDiff, Nat.reduceMul, Nat.reduceAdd, Nat.reduceLeDiff, and_true, true_and, false_and, and_false, if_true, if_false, Nat.not_lt_zero, false_or, or_false, ft9, decide_true, o10, eq_self, b2i_0, b2i_1, b2i_ok, b2i_inj, b2i_t, b2i_f, rIwIk, e, r0, en, c']
theorem r_isTold {N k : Nat} {bk : List (Nat × Nat)} {m : Mm} (g : G m) (hl : RLn 376 bk m) (h27 : rI m 49 27 = ni bk.length) (hb : BK N bk) (hk : k < 6) : F_X12_isTold 49 (ni k) m = some (b2i (tb (nmB bk) k), m) := by
  unfold F_X12_isTold
  simp only [lt9_e]
  have z := r_isToldL g hl h27 hb hk bk.length 0 NF (by omega) (by have := BK_len hb; unfold NF; omega)
  rw [List.drop_zero] at z
  have e : bk.any (fun q => decide (q.1 = k)) = tb (nmB bk) k := by
    cases t : tb (nmB bk) k
    · rw [List.any_eq_false]
      intro q hq w
      have w' := of_decide_eq_true w
      obtain ⟨a, v⟩ := q
      dsimp only at w'
      subst w'
      rw [(hb.2.2.2.2.2.1 a v hq).1] at t
      cases t
    · obtain ⟨v, hv⟩ := hb.2.2.2.2.1 k hk t
      rw [List.any_eq_true]
      exact ⟨(k, v), hv, decide_eq_true rfl⟩
  rw [e] at z
  exact z
