/-! L2: the text of a work: steps (kind, first, second, place behind). -/
abbrev Q4 : Type := Nat × Nat × Nat × Nat
abbrev SR : Type := (List Q4 × Nat) ⊕ (Nat × Nat)
def kwS (x : Nat → Nat) (n b : Nat) : Nat :=
  if isW x b (wE x n b) (sN 7) = true then 0 else if isW x b (wE x n b) (sN 8) = true then 1 else if isW x b (wE x n b) (sN 9) = true then 2 else if isW x b (wE x n b) (sN 10) = true then 3 else if isW x b (wE x n b) (sN 11) = true then 4 else if isW x b (wE x n b) (sN 12) = true then 5 else if isW x b (wE x n b) (sN 13) = true then 6 else if isW x b (wE x n b) (sN 14) = true then 7 else if isW x b (wE x n b) (sN 15) = true then 8 else if isW x b (wE x n b) (sN 3) = true then 9 else if isW x b (wE x n b) (sN 16) = true then 10 else 11
def agP (x : Nat → Nat) (n : Nat) (S : List Q4 → Nat → SR) (acc : List Q4) (e : Nat) : SR := match numP x n e 0 61 with
  | .inr q => .inr q
  | .inl (v, e1) => match sgnP x n e1 91 with
    | .inr q => .inr q
    | .inl e2 => match S (acc ++ [(10, v, 0, 0)]) e2 with
      | .inr q => .inr q
      | .inl (acc2, e3) => match sgnP x n e3 93 with
        | .inr q => .inr q
        | .inl e4 => .inl (acc2.set acc.length (10, v, 0, acc2.length), e4)
def stP (x : Nat → Nat) (n N : Nat) (S : List Q4 → Nat → SR) (k : Nat) (acc : List Q4) (b : Nat) : SR :=
  if kwS x n b = 11 then .inr (1, b)
  else if kwS x n b = 10 then (if k = 0 then .inr (3, b) else agP x n S acc (wE x n b))
  else if 8 ≤ kwS x n b then .inl (acc ++ [(kwS x n b, 0, 0, 0)], wE x n b)
  else match numP x n (wE x n b) 0 (if kwS x n b = 7 then 64 else N) with
    | .inr q => .inr q
    | .inl (a, e1) => if kwS x n b = 0 then (match numP x n e1 0 1000 with
        | .inr q => .inr q
        | .inl (v, e2) => .inl (acc ++ [(0, a, v, 0)], e2))
      else .inl (acc ++ [(kwS x n b, a, 0, 0)], e1)
def stsP (x : Nat → Nat) (n N : Nat) (top : Bool) (S : List Q4 → Nat → SR) (k : Nat) : Nat → List Q4 → Nat → SR
  | 0, acc, a => .inl (acc, a)
  | f + 1, acc, a => if (if top then n ≤ blk x n a else blk x n a < n ∧ x (blk x n a) = 93) then .inl (acc, blk x n a) else match stP x n N S k acc (blk x n a) with
    | .inr q => .inr q
    | .inl (acc1, e) => match sgnP x n e 59 with
      | .inr q => .inr q
      | .inl e2 => stsP x n N top S k f acc1 e2
def stL (x : Nat → Nat) (n N : Nat) : Nat → List Q4 → Nat → SR
  | 0 => stsP x n N false (fun _ _ => .inr (1, 0)) 0 151
  | k + 1 => stsP x n N false (stL x n N k) (k + 1) 151
def wkP (x : Nat → Nat) (n N : Nat) : SR := stsP x n N true (stL x n N 5) 6 151 [] 0
theorem kwS_le (x : Nat → Nat) (n b : Nat) : kwS x n b ≤ 11 := by
  unfold kwS
  repeat' split
  all_goals omega
theorem kwS_W {x : Nat → Nat} {n b : Nat} (h : kwS x n b ≠ 11) : isL x n b = true ∧ b + 4 ≤ wE x n b := by
  have hl : ∀ k, k < 17 → k ≠ 2 → 4 ≤ (sN k).length := by decide +kernel
  have key : ∀ k, k < 17 → k ≠ 2 → isW x b (wE x n b) (sN k) = true → isL x n b = true ∧ b + 4 ≤ wE x n b := by
    intro k hk h2 hw
    have h4 := hl k hk h2
    unfold isW at hw
    obtain ⟨e1, _⟩ := of_decide_eq_true hw
    refine ⟨?_, by omega⟩
    cases q : isL x n b
    · have := isW_no (x := x) (n := n) (b := b) hk q
      unfold isW at this
      rw [decide_eq_true (of_decide_eq_true hw)] at this
      cases this
    · rfl
  unfold kwS at h
  by_cases q7 : isW x b (wE x n b) (sN 7) = true
  · exact key 7 (by omega) (by omega) q7
  · rw [if_neg q7] at h
    by_cases q8 : isW x b (wE x n b) (sN 8) = true
    · exact key 8 (by omega) (by omega) q8
    · rw [if_neg q8] at h
      by_cases q9 : isW x b (wE x n b) (sN 9) = true
      · exact key 9 (by omega) (by omega) q9
      · rw [if_neg q9] at h
        by_cases q10 : isW x b (wE x n b) (sN 10) = true
        · exact key 10 (by omega) (by omega) q10
        · rw [if_neg q10] at h
          by_cases q11 : isW x b (wE x n b) (sN 11) = true
          · exact key 11 (by omega) (by omega) q11
          · rw [if_neg q11] at h
            by_cases q12 : isW x b (wE x n b) (sN 12) = true
            · exact key 12 (by omega) (by omega) q12
            · rw [if_neg q12] at h
              by_cases q13 : isW x b (wE x n b) (sN 13) = true
              · exact key 13 (by omega) (by omega) q13
              · rw [if_neg q13] at h
                by_cases q14 : isW x b (wE x n b) (sN 14) = true
                · exact key 14 (by omega) (by omega) q14
                · rw [if_neg q14] at h
                  by_cases q15 : isW x b (wE x n b) (sN 15) = true
                  · exact key 15 (by omega) (by omega) q15
                  · rw [if_neg q15] at h
                    by_cases q3 : isW x b (wE x n b) (sN 3) = true
                    · exact key 3 (by omega) (by omega) q3
                    · rw [if_neg q3] at h
                      by_cases q16 : isW x b (wE x n b) (sN 16) = true
                      · exact key 16 (by omega) (by omega) q16
                      · rw [if_neg q16] at h
                        exact absurd rfl h
theorem kwS_no {x : Nat → Nat} {n b : Nat} (h : isL x n b = false) : kwS x n b = 11 := by
  by_cases q : kwS x n b = 11
  · exact q
  · rw [(kwS_W q).1] at h
    cases h
/-! the class's -/
def sc9 (q : Q4) : Nat := if q.1 = 10 then q.2.2.2 else q.2.2.1
def q0 : Q4 := (0, 0, 0, 0)
def WD (acc : List Q4) (m : Mm) : Prop := rI m 8 3 = ni acc.length ∧ acc.length ≤ 150 ∧ ∀ i, i < acc.length → rI m 9 i = ni (acc.getD i q0).1 ∧ rI m 10 i = ni (acc.getD i q0).2.1 ∧ rI m 11 i = ni (sc9 (acc.getD i q0))
def AK : Nat → Prop := fun b => b = 1 ∨ b = 8 ∨ b = 9 ∨ b = 10 ∨ b = 11
def Ks (m m' : Mm) : Prop := Fm AK m m' ∧ (∀ j, j < 3 ∨ 6 ≤ j → rI m' 1 j = rI m 1 j) ∧ (∀ j, j ≠ 3 → rI m' 8 j = rI m 8 j)
def Kf (k p : Nat) (m m' : Mm) : Prop := Fm AK m m' ∧ (∀ j, j < 3 → rI m' 1 j = rI m 1 j) ∧ rI m' 1 6 = ni k ∧ rI m' 1 7 = ni p ∧ (∀ j, j ≠ 3 → rI m' 8 j = rI m 8 j)
theorem Ks_refl (m : Mm) : Ks m m := ⟨Fm_refl _ _, fun _ _ => rfl, fun _ _ => rfl⟩
theorem Ks_trans {m m1 m2 : Mm} (h : Ks m m1) (h' : Ks m1 m2) : Ks m m2 := ⟨Fm_trans h.1 h'.1, fun j hj => (h'.2.1 j hj).trans (h.2.1 j hj), fun j hj => (h'.2.2 j hj).trans (h.2.2 j hj)⟩
theorem Ks_Kf {k p : Nat} {m m1 m2 : Mm} (h : Ks m m1) (h' : Kf k p m1 m2) : Kf k p m m2 := ⟨Fm_trans h.1 h'.1, fun j hj => (h'.2.1 j hj).trans (h.2.1 j (by omega)), h'.2.2.1, h'.2.2.2.1, fun j hj => (h'.2.2.2.2 j hj).trans (h.2.2 j hj)⟩
theorem Ts_Ks {m m' : Mm} (h : Ts m m') : Ks m m' := ⟨Fm_mono (fun _ q => .inl q) h.1, h.2, fun j _ => by rw [(h.1.1 8 (by omega)).1]⟩
theorem Tf_Kf {k p : Nat} {m m' : Mm} (h : Tf k p m m') : Kf k p m m' := ⟨Fm_mono (fun _ q => .inl q) h.1, h.2.1, h.2.2.1, h.2.2.2, fun j _ => by rw [(h.1.1 8 (by omega)).1]⟩
theorem TC_K {x : Nat → Nat} {n : Nat} {m m' : Mm} (c : TC x n m) (h : Ks m m') : TC x n m' := by
  obtain ⟨g, c1, c2, c3⟩ := c
  refine ⟨G_fr h.1 g, c1, (h.2.1 2 (by omega)).trans c2, ?_⟩
  rw [(h.1.1 2 (by unfold AK; omega)).1]
  exact c3
theorem WD_s {acc : List Q4} {m m' : Mm} (d : WD acc m) (h : Ts m m') : WD acc m' := by
  unfold WD
  rw [(h.1.1 8 (by omega)).1, (h.1.1 9 (by omega)).1, (h.1.1 10 (by omega)).1, (h.1.1 11 (by omega)).1]
  exact d
theorem len_q (l : List Q4) (v : Q4) : (l ++ [v]).length = l.length + 1 := by rw [List.length_append]; rfl
theorem getD_s (l : List Q4) (v : Q4) (i : Nat) : (l ++ [v]).getD i q0 = if i = l.length then v else l.getD i q0 := by
  rw [List.getD_eq_getElem?_getD, List.getD_eq_getElem?_getD]
  by_cases e : i = l.length
  · rw [if_pos e, e, List.getElem?_append_right (Nat.le_refl _), Nat.sub_self]
    rfl
  · rw [if_neg e]
    by_cases e2 : i < l.length
    · rw [List.getElem?_append_left e2]
    · rw [List.getElem?_eq_none (by rw [len_q]; omega), List.getElem?_eq_none (by omega)]
theorem getD_set (l : List Q4) (h : Nat) (v : Q4) (i : Nat) (hh : h < l.length) : (l.set h v).getD i q0 = if i = h then v else l.getD i q0 := by
  rw [List.getD_eq_getElem?_getD, List.getD_eq_getElem?_getD, List.getElem?_set]
  by_cases e : h = i
  · rw [if_pos e, if_pos e.symm, if_pos (by omega)]
    rfl
  · rw [if_neg e, if_neg (fun z => e z.symm)]
theorem c_put {acc : List Q4} {k a v : Nat} {q : Q4} {m : Mm} (g : G m) (d : WD acc m) (hl : acc.length < 150) (h1 : q.1 = k) (h2 : q.2.1 = a) (h3 : sc9 q = v) : ∃ m', F_X10_emit 8 (ni k) (ni a) (ni v) m = some ((), m') ∧ WD (acc ++ [q]) m' ∧ Ks m m' ∧ rI m' 1 = rI m 1 := by
  obtain ⟨d1, d2, d3⟩ := d
  refine ⟨wI (wI (wI (wI m 9 acc.length (ni k)) 10 acc.length (ni a)) 11 acc.length (ni v)) 8 3 (ni (acc.length + 1)), ?_, ⟨?_, ?_, fun i hi => ?_⟩, ⟨?_, fun j _ => ?_, fun j hj => ?_⟩, ?_⟩
  · unfold F_X10_emit
    have hle : ¬ 150 ≤ acc.length := by omega
    simp (disch := first | assumption | omega | ((repeat (first | assumption | apply G_wI | apply G_wL | apply CSh_wI | apply CSh_wL)); done) | decide) only [↓dO0, ↓dO1, ↓dA2, ↓dK2, ↓dT2, ↓dO3, ↓dO4, ↓dA5, ↓dK5, ↓dT5, ↓dA6, ↓dK6, ↓dT6, ↓dA7, ↓dK7, ↓dT7, ↓dO8, ↓dA9, ↓dK9, ↓dT9, ↓dA10, ↓dK10, ↓dT10, ↓dA11, ↓dK11, ↓dT11, ↓dO12, ↓dA13, ↓dK13, ↓dT13, ↓dO14, ↓dA15, ↓dK15, ↓dT15, ↓dO16, ↓dO29, ↓dO42, ↓dA43, ↓dK43, ↓dT43, ↓dA44, ↓dK44, ↓dT44, ↓dO45, ↓dA46, ↓dK46, ↓dT46, ↓dO47, ↓dA48, ↓dK48, ↓dT48, ↓dO49, ↓dA50, ↓dK50, ↓dT50, ↓dA51, ↓dK51, ↓dT51, ↓dA52, ↓dK52, ↓dT52, ↓dA53, ↓dK53, ↓dT53, ↓dA54, ↓dK54, ↓dT54, ↓dA215, ↓dK215, ↓dT215, ↓dA376, ↓dK376, ↓dT376, ↓dA383, ↓dK383, ↓dT383, ↓dA390, ↓dK390, ↓dT390, ↓dA391, ↓dK391, ↓dT391, ↓dA392, ↓dK392, ↓dT392, ↓dA473, ↓dK473, ↓dT473, ↓dA474, ↓dK474, ↓dT474, ↓dA475, ↓dK475, ↓dT475, ↓dA492, ↓dK492, ↓dT492, ↓dA496, ↓dK496, ↓dT496, ↓dA497, ↓dK497, ↓dT497, ↓dR0_0, ↓dR0_1, ↓dR0_2, ↓dR0_3, ↓dR0_4, ↓dR0_5, ↓dR0_6, ↓dR0_7, ↓dR0_8, ↓dR0_9, ↓dR0_10, ↓dR0_11, ↓dR0_12, ↓dR1_0, ↓dR4_2, ↓dR8_0, ↓dR8_1, ↓dR8_2, ↓dR12_5, ↓dR14_0, ↓dR14_1, ↓dR14_2, ↓dR42_0, ↓dR45_0, ↓dR49_9, ↓dR49_10, ↓dR49_11, ↓dR49_12, ↓dR49_15, ↓dR49_16, ↓dR49_17, ↓dR49_18, ↓dR49_19, ↓dR49_20, ↓dR49_21, ↓dR49_23, ↓dR49_24, ↓dR49_25, ↓dR49_26, ↓dR49_34, ↓dF54, ↓dB54, ↓dC54, ↓dF215, ↓dB215, ↓dC215, ↓dF376, ↓dB376, ↓dC376, ↓dF383, ↓dB383, ↓dC383, ↓dF392, ↓dB392, ↓dC392, ↓dF475, ↓dB475, ↓dC475, ↓dF492, ↓dB492, ↓dC492, ↓lt9_e, ↓jn_e, ↓bd_s, gd_t, bd_s, oc_s, oc_n, lt9_e, jn_e, okOwI, okAwI, okTwI, lnwI, okOwL, okAwL, okTwL, lnwL, rRwI, rRwL, sHwI, sHwL, rIwL, rLwI, gO0, gO1, gA2, gK2, gT2, gN2, gO3, gO4, gA5, gK5, gT5, gN5, gA6, gK6, gT6, gN6, gA7, gK7, gT7, gN7, gO8, gA9, gK9, gT9, gN9, gA10, gK10, gT10, gN10, gA11, gK11, gT11, gN11, gO12, gA13, gK13, gT13, gN13, gO14, gA15, gK15, gT15, gN15, gO16, gO29, gO42, gA43, gK43, gT43, gN43, gA44, gK44, gT44, gN44, gO45, gA46, gK46, gT46, gN46, gO47, gA48, gK48, gT48, gN48, gO49, gA50, gK50, gT50, gN50, gA51, gK51, gT51, gN51, gA52, gK52, gT52, gN52, gA53, gK53, gT53, gN53, gA54, gK54, gT54, gN54, gA215, gK215, gT215, gN215, gA376, gK376, gT376, gN376, gA383, gK383, gT383, gN383, gA390, gK390, gT390, gN390, gA391, gK391, gT391, gN391, gA392, gK392, gT392, gN392, gA473, gK473, gT473, gN473, gA474, gK474, gT474, gN474, gA475, gK475, gT475, gN475, gA492, gK492, gT492, gN492, gA496, gK496, gT496, gN496, gA497, gK497, gT497, gN497, gR0_0, gR0_1, gR0_2, gR0_3, gR0_4, gR0_5, gR0_6, gR0_7, gR0_8, gR0_9, gR0_10, gR0_11, gR0_12, gR1_0, gR4_2, gR8_0, gR8_1, gR8_2, gR12_5, gR14_0, gR14_1, gR14_2, gR42_0, gR45_0, gR49_9, gR49_10, gR49_11, gR49_12, gR49_15, gR49_16, gR49_17, gR49_18, gR49_19, gR49_20, gR49_21, gR49_23, gR49_24, gR49_25, gR49_26, gR49_34, gF54, gB54, gC54, gF215, gB215, gC215, gF376, gB376, gC376, gF383, gB383, gC383, gF392, gB392, gC392, gF475, gB475, gC475, gF492, gB492, gC492, ni_le, ni_lt, ni_eq, ni_add, ni_mul, lni_le, lni_lt, nil_le, nil_lt, lni_eq, nil_eq, lni_add, nil_add, lni_mul, nil_mul, ix_ni, ix_lit, ni_ne1, ni_lt0, ↓reduceIte, Nat.reduceEqDiff, Nat.reduceMul, Nat.reduceAdd, Nat.reduceLeDiff, and_true, true_and, false_and, and_false, if_true, if_false, Nat.not_lt_zero, false_or, or_false, ft9, decide_true, o10, eq_self, b2i_0, b2i_1, b2i_ok, b2i_inj, b2i_t, b2i_f, rIwIk, d1, hle]
  · rw [rIw, uf_at, len_q]
  · rw [len_q]
    omega
  · rw [len_q] at hi
    rw [getD_s, rIw_ne (by omega), rIw_ne (by omega), rIw_ne (by omega), rIw, rIw_ne (b := 10) (by omega), rIw_ne (b := 10) (by omega), rIw, rIw_ne (b := 10) (by omega), rIw_ne (b := 11) (by omega), rIw, rIw_ne (b := 11) (by omega), rIw_ne (b := 11) (by omega)]
    by_cases e : i = acc.length
    · rw [if_pos e, e, uf_at, uf_at, uf_at, h1, h2, h3]
      exact ⟨rfl, rfl, rfl⟩
    · rw [if_neg e, uf_ne e, uf_ne e, uf_ne e]
      exact d3 i (by omega)
  · exact Fm_wI (Fm_wI (Fm_wI (Fm_wI (Fm_refl _ _) (by unfold AK; omega)) (by unfold AK; omega)) (by unfold AK; omega)) (by unfold AK; omega)
  · rw [rIw_ne (by omega), rIw_ne (by omega), rIw_ne (by omega), rIw_ne (by omega)]
  · rw [rIw, uf_ne hj, rIw_ne (by omega), rIw_ne (by omega), rIw_ne (by omega)]
  · rw [rIw_ne (by omega), rIw_ne (by omega), rIw_ne (by omega), rIw_ne (by omega)]
theorem c_kindS {x : Nat → Nat} {n b : Nat} {m : Mm} (c : TC x n m) (h3 : rI m 1 3 = ni (wE x n b)) (h4 : rI m 1 4 = ni b) (hb : b ≤ n) : F_X10_kindOf 1 m = some (if kwS x n b = 11 then -1 else ni (kwS x n b), m) := by
  have hw := wE_le (x := x) hb
  have z := fun k hk => c_isWord (k := k) c h3 h4 hw.1 hw.2 hk
  have g := c.1
  unfold F_X10_kindOf kwS
  cases q7 : isW x b (wE x n b) (sN 7)
  · have z7 := z 7 (by omega)
    rw [q7] at z7
    simp only [gO1 g, gd_t, bdE z7, b2i_f, if_true, reduceCtorEq, if_false]
    cases q8 : isW x b (wE x n b) (sN 8)
    · have z8 := z 8 (by omega)
      rw [q8] at z8
      simp only [gO1 g, gd_t, bdE z8, b2i_f, if_true, reduceCtorEq, if_false]
      cases q9 : isW x b (wE x n b) (sN 9)
      · have z9 := z 9 (by omega)
        rw [q9] at z9
        simp only [gO1 g, gd_t, bdE z9, b2i_f, if_true, reduceCtorEq, if_false]
        cases q10 : isW x b (wE x n b) (sN 10)
        · have z10 := z 10 (by omega)
          rw [q10] at z10
          simp only [gO1 g, gd_t, bdE z10, b2i_f, if_true, reduceCtorEq, if_false]
          cases q11 : isW x b (wE x n b) (sN 11)
          · have z11 := z 11 (by omega)
            rw [q11] at z11
            simp only [gO1 g, gd_t, bdE z11, b2i_f, if_true, reduceCtorEq, if_false]
            cases q12 : isW x b (wE x n b) (sN 12)
            · have z12 := z 12 (by omega)
              rw [q12] at z12
              simp only [gO1 g, gd_t, bdE z12, b2i_f, if_true, reduceCtorEq, if_false]
              cases q13 : isW x b (wE x n b) (sN 13)
              · have z13 := z 13 (by omega)
                rw [q13] at z13
                simp only [gO1 g, gd_t, bdE z13, b2i_f, if_true, reduceCtorEq, if_false]
                cases q14 : isW x b (wE x n b) (sN 14)
                · have z14 := z 14 (by omega)
                  rw [q14] at z14
                  simp only [gO1 g, gd_t, bdE z14, b2i_f, if_true, reduceCtorEq, if_false]
                  cases q15 : isW x b (wE x n b) (sN 15)
                  · have z15 := z 15 (by omega)
                    rw [q15] at z15
                    simp only [gO1 g, gd_t, bdE z15, b2i_f, if_true, reduceCtorEq, if_false]
                    cases q3 : isW x b (wE x n b) (sN 3)
                    · have z3 := z 3 (by omega)
                      rw [q3] at z3
                      simp only [gO1 g, gd_t, bdE z3, b2i_f, if_true, reduceCtorEq, if_false]
                      cases q16 : isW x b (wE x n b) (sN 16)
                      · have z16 := z 16 (by omega)
                        rw [q16] at z16
                        simp only [gO1 g, gd_t, bdE z16, b2i_f, if_true, reduceCtorEq, if_false]
                      · have z16 := z 16 (by omega)
                        rw [q16] at z16
                        simp only [gO1 g, gd_t, bdE z16, b2i_t, o10, if_false, if_true]
                        rfl
                    · have z3 := z 3 (by omega)
                      rw [q3] at z3
                      simp only [gO1 g, gd_t, bdE z3, b2i_t, o10, if_false, if_true]
                      rfl
                  · have z15 := z 15 (by omega)
                    rw [q15] at z15
                    simp only [gO1 g, gd_t, bdE z15, b2i_t, o10, if_false, if_true]
                    rfl
                · have z14 := z 14 (by omega)
                  rw [q14] at z14
                  simp only [gO1 g, gd_t, bdE z14, b2i_t, o10, if_false, if_true]
                  rfl
              · have z13 := z 13 (by omega)
                rw [q13] at z13
                simp only [gO1 g, gd_t, bdE z13, b2i_t, o10, if_false, if_true]
                rfl
            · have z12 := z 12 (by omega)
              rw [q12] at z12
              simp only [gO1 g, gd_t, bdE z12, b2i_t, o10, if_false, if_true]
              rfl
          · have z11 := z 11 (by omega)
            rw [q11] at z11
            simp only [gO1 g, gd_t, bdE z11, b2i_t, o10, if_false, if_true]
            rfl
        · have z10 := z 10 (by omega)
          rw [q10] at z10
          simp only [gO1 g, gd_t, bdE z10, b2i_t, o10, if_false, if_true]
          rfl
      · have z9 := z 9 (by omega)
        rw [q9] at z9
        simp only [gO1 g, gd_t, bdE z9, b2i_t, o10, if_false, if_true]
        rfl
    · have z8 := z 8 (by omega)
      rw [q8] at z8
      simp only [gO1 g, gd_t, bdE z8, b2i_t, o10, if_false, if_true]
      rfl
  · have z7 := z 7 (by omega)
    rw [q7] at z7
    simp only [gO1 g, gd_t, bdE z7, b2i_t, o10, if_false, if_true]
    rfl
