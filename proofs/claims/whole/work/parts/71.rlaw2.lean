/-! L2: the reference's reading of a law. -/
def Nq (m m' : Mm) : Prop := Fm (fun b => b = 49 ∨ (216 ≤ b ∧ b < 376)) m m' ∧ ∀ j, j ≠ 4 → j ≠ 5 → j ≠ 6 → j ≠ 8 → j ≠ 14 → rI m' 49 j = rI m 49 j
theorem Nq_refl (m : Mm) : Nq m m := ⟨Fm_refl _ _, fun _ _ _ _ _ _ => rfl⟩
theorem Nq_trans {m m1 m2 : Mm} (h : Nq m m1) (h' : Nq m1 m2) : Nq m m2 := ⟨Fm_trans h.1 h'.1, fun j h1 h2 h3 h4 h5 => (h'.2 j h1 h2 h3 h4 h5).trans (h.2 j h1 h2 h3 h4 h5)⟩
theorem Rs_Nq {m m' : Mm} (h : Rs m m') : Nq m m' := ⟨Fm_mono (fun _ q => .inl q) h.1, fun j h1 _ _ _ _ => h.2 j h1⟩
theorem Rf_Nq {n k p : Nat} {m m' : Mm} (h : Rf n k p m m') : Nq m m' := ⟨Fm_mono (fun _ q => .inl q) h.1, fun j h1 h2 h3 _ _ => h.2.1 j h1 h2 h3⟩
theorem TR_n {x : Nat → Nat} {n : Nat} {m m' : Mm} (c : TR x n m) (h : Nq m m') : TR x n m' := by
  obtain ⟨g, c1, c2, c3⟩ := c
  refine ⟨G_fr h.1 g, c1, (h.2 2 (by omega) (by omega) (by omega) (by omega) (by omega)).trans c2, ?_⟩
  rw [(h.1.1 50 (by omega)).1]
  exact c3
def RN (acc : List Nat) (m : Mm) : Prop := rI m 49 14 = ni acc.length ∧ acc.length ≤ 150 ∧ ∀ i, i < acc.length → rI m (215 + 1 + i) 0 = cdA (acc.getD i 0) ∧ rI m (215 + 1 + i) 1 = cdB (acc.getD i 0)
theorem RN_s {acc : List Nat} {m m' : Mm} (h : RN acc m) (r : Rs m m') : RN acc m' := by
  obtain ⟨h1, h2, h3⟩ := h
  refine ⟨(r.2 14 (by omega)).trans h1, h2, fun i hi => ?_⟩
  rw [(r.1.1 _ (by omega)).1]
  exact h3 i hi
/-- the reference's state while it reads: text, place, codes, open -/
def RS (x : Nat → Nat) (n a o : Nat) (acc : List Nat) (m : Mm) : Prop := TR x n m ∧ rI m 49 4 = ni a ∧ a ≤ n ∧ rI m 49 5 = 0 ∧ rI m 49 8 = ni o ∧ RN acc m
/-- at a fault -/
def RE (x : Nat → Nat) (n k p : Nat) (m : Mm) : Prop := TR x n m ∧ rI m 49 5 = ni k ∧ rI m 49 6 = ni p ∧ k ≠ 0 ∧ k < 4 ∧ ∃ a, a ≤ n ∧ rI m 49 4 = ni a
theorem RS_s {x : Nat → Nat} {n a a' o : Nat} {acc : List Nat} {m m' : Mm} (h : RS x n a o acc m) (r : Rs m m') (h4 : rI m' 49 4 = ni a') (ha : a' ≤ n) : RS x n a' o acc m' :=
  ⟨TR_s h.1 r, h4, ha, (r.2 5 (by omega)).trans h.2.2.2.1, (r.2 8 (by omega)).trans h.2.2.2.2.1, RN_s h.2.2.2.2.2 r⟩
theorem RE_f {x : Nat → Nat} {n k p : Nat} {m m' : Mm} (c : TR x n m) (h : Rf n k p m m') (h0 : k ≠ 0) (h4 : k < 4) : RE x n k p m' := ⟨TR_f c h, h.2.2.1, h.2.2.2.1, h0, h4, h.2.2.2.2⟩
theorem RE_5 {x : Nat → Nat} {n k p : Nat} {m : Mm} (h : RE x n k p m) : rI m 49 5 ≠ 0 := by
  rw [h.2.1]
  have := h.2.2.2.2.1
  exact fun z => h.2.2.2.1 ((ni_eq (b := 0) (by omega) (by omega)).mp z)
theorem RE_w {x : Nat → Nat} {n k p : Nat} {v : Int32} {m : Mm} (h : RE x n k p m) : RE x n k p (wI m 49 8 v) ∧ Nq m (wI m 49 8 v) := by
  have q : Nq m (wI m 49 8 v) := ⟨Fm_wI (Fm_refl _ _) (.inl rfl), fun j h1 h2 h3 h4 h5 => by rw [rIw, uf_ne h4]⟩
  obtain ⟨h1, h2, h3, h4, h5, a, h6, h7⟩ := h
  exact ⟨⟨TR_n h1 q, by rw [rIw, uf_ne (by omega)]; exact h2, by rw [rIw, uf_ne (by omega)]; exact h3, h4, h5, a, h6, by rw [rIw, uf_ne (by omega)]; exact h7⟩, q⟩
theorem r_notes0 {u v : Int32} {m : Mm} (g : G m) (h5 : rI m 49 5 ≠ 0) : F_X12_notes 49 u v m = some ((), m) := by
  unfold F_X12_notes
  simp only [gO49 g, gd_t, h5, if_false]
theorem r_notes {x : Nat → Nat} {n a o c : Nat} {acc : List Nat} {m : Mm} (h : RS x n a o acc m) (hl : acc.length < 150) : ∃ m', F_X12_notes 49 (cdA c) (cdB c) m = some ((), m') ∧ RS x n a o (acc ++ [c]) m' ∧ Nq m m' := by
  obtain ⟨t, h4, han, h5, h8, r1, r2, r3⟩ := h
  have g := t.1
  have q : Nq m (wI (wI (wI m (215 + 1 + acc.length) 0 (cdA c)) (215 + 1 + acc.length) 1 (cdB c)) 49 14 (ni (acc.length + 1))) := ⟨Fm_wI (Fm_wI (Fm_wI (Fm_refl _ _) (.inr (by omega))) (.inr (by omega))) (.inl rfl), fun j h1 h2 h3 h4 h5 => by rw [rIw, uf_ne h5, rIw_ne (by omega), rIw_ne (by omega)]⟩
  refine ⟨_, ?_, ⟨TR_n t q, ?_, han, ?_, ?_, ?_, ?_, fun i hi => ?_⟩, q⟩
  · unfold F_X12_notes
    have n49 : ¬ (49 = 215 + 1 + acc.length) := by omega
    simp (disch := first | assumption | omega | ((repeat (first | assumption | apply G_wI | apply G_wL | apply CSh_wI | apply CSh_wL)); done) | decide) only [↓dO0, ↓dO1, ↓dA2, ↓dK2, ↓dT2, ↓dO3, ↓dO4, ↓dA5, ↓dK5, ↓dT5, ↓dA6, ↓dK6, ↓dT6, ↓dA7, ↓dK7, ↓dT7, ↓dO8, ↓dA9, ↓dK9, ↓dT9, ↓dA10, ↓dK10, ↓dT10, ↓dA11, ↓dK11, ↓dT11, ↓dO12, ↓dA13, ↓dK13, ↓dT13, ↓dO14, ↓dA15, ↓dK15, ↓dT15, ↓dO16, ↓dO29, ↓dO42, ↓dA43, ↓dK43, ↓dT43, ↓dA44, ↓dK44, ↓dT44, ↓dO45, ↓dA46, ↓dK46, ↓dT46, ↓dO47, ↓dA48, ↓dK48, ↓dT48, ↓dO49, ↓dA50, ↓dK50, ↓dT50, ↓dA51, ↓dK51, ↓dT51, ↓dA52, ↓dK52, ↓dT52, ↓dA53, ↓dK53, ↓dT53, ↓dA54, ↓dK54, ↓dT54, ↓dA215, ↓dK215, ↓dT215, ↓dA376, ↓dK376, ↓dT376, ↓dA383, ↓dK383, ↓dT383, ↓dA390, ↓dK390, ↓dT390, ↓dA391, ↓dK391, ↓dT391, ↓dA392, ↓dK392, ↓dT392, ↓dA473, ↓dK473, ↓dT473, ↓dA474, ↓dK474, ↓dT474, ↓dA475, ↓dK475, ↓dT475, ↓dA492, ↓dK492, ↓dT492, ↓dA496, ↓dK496, ↓dT496, ↓dA497, ↓dK497, ↓dT497, ↓dR0_0, ↓dR0_1, ↓dR0_2, ↓dR0_3, ↓dR0_4, ↓dR0_5, ↓dR0_6, ↓dR0_7, ↓dR0_8, ↓dR0_9, ↓dR0_10, ↓dR0_11, ↓dR0_12, ↓dR1_0, ↓dR4_2, ↓dR8_0, ↓dR8_1, ↓dR8_2, ↓dR12_5, ↓dR14_0, ↓dR14_1, ↓dR14_2, ↓dR42_0, ↓dR45_0, ↓dR49_9, ↓dR49_10, ↓dR49_11, ↓dR49_12, ↓dR49_15, ↓dR49_16, ↓dR49_17, ↓dR49_18, ↓dR49_19, ↓dR49_20, ↓dR49_21, ↓dR49_23, ↓dR49_24, ↓dR49_25, ↓dR49_26, ↓dR49_34, ↓dF54, ↓dB54, ↓dC54, ↓dF215, ↓dB215, ↓dC215, ↓dF376, ↓dB376, ↓dC376, ↓dF383, ↓dB383, ↓dC383, ↓dF392, ↓dB392, ↓dC392, ↓dF475, ↓dB475, ↓dC475, ↓dF492, ↓dB492, ↓dC492, ↓lt9_e, ↓jn_e, ↓bd_s, gd_t, bd_s, oc_s, oc_n, lt9_e, jn_e, okOwI, okAwI, okTwI, lnwI, okOwL, okAwL, okTwL, lnwL, rRwI, rRwL, sHwI, sHwL, rIwL, rLwI, gO0, gO1, gA2, gK2, gT2, gN2, gO3, gO4, gA5, gK5, gT5, gN5, gA6, gK6, gT6, gN6, gA7, gK7, gT7, gN7, gO8, gA9, gK9, gT9, gN9, gA10, gK10, gT10, gN10, gA11, gK11, gT11, gN11, gO12, gA13, gK13, gT13, gN13, gO14, gA15, gK15, gT15, gN15, gO16, gO29, gO42, gA43, gK43, gT43, gN43, gA44, gK44, gT44, gN44, gO45, gA46, gK46, gT46, gN46, gO47, gA48, gK48, gT48, gN48, gO49, gA50, gK50, gT50, gN50, gA51, gK51, gT51, gN51, gA52, gK52, gT52, gN52, gA53, gK53, gT53, gN53, gA54, gK54, gT54, gN54, gA215, gK215, gT215, gN215, gA376, gK376, gT376, gN376, gA383, gK383, gT383, gN383, gA390, gK390, gT390, gN390, gA391, gK391, gT391, gN391, gA392, gK392, gT392, gN392, gA473, gK473, gT473, gN473, gA474, gK474, gT474, gN474, gA475, gK475, gT475, gN475, gA492, gK492, gT492, gN492, gA496, gK496, gT496, gN496, gA497, gK497, gT497, gN497, gR0_0, gR0_1, gR0_2, gR0_3, gR0_4, gR0_5, gR0_6, gR0_7, gR0_8, gR0_9, gR0_10, gR0_11, gR0_12, gR1_0, gR4_2, gR8_0, gR8_1, gR8_2, gR12_5, gR14_0, gR14_1, gR14_2, gR42_0, gR45_0, gR49_9, gR49_10, gR49_11, gR49_12, gR49_15, gR49_16, gR49_17, gR49_18, gR49_19, gR49_20, gR49_21, gR49_23, gR49_24, gR49_25, gR49_26, gR49_34, gF54, gB54, gC54, gF215, gB215, gC215, gF376, gB376, gC376, gF383, gB383, gC383, gF392, gB392, gC392, gF475, gB475, gC475, gF492, gB492, gC492, ni_le, ni_lt, ni_eq, ni_add, ni_mul, lni_le, lni_lt, nil_le, nil_lt, lni_eq, nil_eq, lni_add, nil_add, lni_mul, nil_mul, ix_ni, ix_lit, ni_ne1, ni_lt0, ↓reduceIte, Nat.reduceEqDiff, Nat.reduceMul, Nat.reduceAdd, Nat.reduceLeDiff, and_true, true_and, false_and, and_false, if_true, if_false, Nat.not_lt_zero, false_or, or_false, ft9, decide_true, o10, eq_self, b2i_0, b2i_1, b2i_ok, b2i_inj, b2i_t, b2i_f, rIwIk, h5, r1, n49]
  · rw [rIw, uf_ne (by omega), rIw_ne (by omega), rIw_ne (by omega)]
    exact h4
  · rw [rIw, uf_ne (by omega), rIw_ne (by omega), rIw_ne (by omega)]
    exact h5
  · rw [rIw, uf_ne (by omega), rIw_ne (by omega), rIw_ne (by omega)]
    exact h8
  · rw [rIw, uf_at, len_s]
  · rw [len_s]
    omega
  · rw [len_s] at hi
    rw [rIw_ne (by omega)]
    by_cases e : i = acc.length
    · subst e
      rw [List.getD_eq_getElem?_getD, List.getElem?_append_right (Nat.le_refl _), Nat.sub_self]
      rw [rIw, uf_ne (by omega), rIw, uf_at, uf_at]
      exact ⟨rfl, rfl⟩
    · rw [rIw_ne (by omega), rIw_ne (by omega), List.getD_eq_getElem?_getD, List.getElem?_append_left (by omega), ← List.getD_eq_getElem?_getD]
      exact r3 i (by omega)
def NSp (x : Nat → Nat) (n o : Nat) (P : List Nat → Nat → LR) (F : Nat → Mm → Option (Unit × Mm)) : Prop := (∀ m, G m → rI m 49 5 ≠ 0 → F 49 m = some ((), m)) ∧ ∀ (acc : List Nat) (a s : Nat) (m : Mm), RS x n a o acc m → acc.length + s ≤ a →
  (∀ acc' e, P acc a = .inl (acc', e) → ∃ m', F 49 m = some ((), m') ∧ Nq m m' ∧ RS x n e o acc' m' ∧ a < e ∧ acc'.length + s ≤ e) ∧
  (∀ k p, P acc a = .inr (k, p) → ∃ m', F 49 m = some ((), m') ∧ Nq m m' ∧ RE x n k p m')
theorem isW_ex {x : Nat → Nat} {b e i j : Nat} (hi : i < 17) (hj : j < 17) (h1 : isW x b e (sN i) = true) (h2 : isW x b e (sN j) = true) : i = j := by
  unfold isW at h1 h2
  obtain ⟨a1, a2⟩ := of_decide_eq_true h1
  obtain ⟨b1, b2⟩ := of_decide_eq_true h2
  have hl : sN i = sN j := by
    apply List.ext_getElem (by omega)
    intro k k1 k2
    have e1 := a2 k k1
    have e2 := b2 k k2
    rw [e1, List.getD_eq_getElem?_getD, List.getD_eq_getElem?_getD, List.getElem?_eq_getElem k1, List.getElem?_eq_getElem k2] at e2
    exact e2
  have dec : ∀ i, i < 17 → ∀ j, j < 17 → sN i = sN j → i = j := by decide +kernel
  exact dec i hi j hj hl
theorem isW_oth {x : Nat → Nat} {b e i j : Nat} (hi : i < 17) (hj : j < 17) (h1 : isW x b e (sN i) = true) (hne : i ≠ j) : isW x b e (sN j) = false := by
  cases q : isW x b e (sN j)
  · rfl
  · exact absurd (isW_ex hi hj h1 q) hne
theorem r_takes {x : Nat → Nat} {n b k : Nat} {a1 a2 a3 a4 a5 a6 : Int32} {m : Mm} (hk : k < 17) (hs : ∀ m, F_X12_six a1 a2 a3 a4 a5 a6 m = some (ni (sV k), m)) (c : TR x n m) (hb : rI m 49 4 = ni b) (h5 : rI m 49 5 = 0) (hn : b ≤ n) (hbb : blk x n b = b) :
    ∃ m', F_X12_takes 49 a1 a2 a3 a4 a5 a6 m = some (b2i (isW x b (wE x n b) (sN k)), m') ∧ Rs m m' ∧ rI m' 49 4 = ni (if isW x b (wE x n b) (sN k) = true then wE x n b else b) := by
  obtain ⟨m1, y1, y2, y3⟩ := r_isWord hk hs c hb h5 hn
  rw [hbb] at y1 y3
  have c1 := TR_s c y2
  unfold F_X12_takes
  cases q : isW x b (wE x n b) (sN k)
  · rw [q] at y1
    refine ⟨m1, ?_, y2, y3⟩
    simp only [gO49 c.1, gd_t, bdE y1, lt9_e, b2i_f, if_true, true_or, decide_true]
  · rw [q] at y1
    obtain ⟨m2, z1, z2, z3⟩ := r_skipWord c1 y3 hn
    refine ⟨m2, ?_, Rs_trans y2 z2, z3⟩
    simp only [gO49 c.1, gO49 c1.1, gd_t, bdE y1, lt9_e, b2i_t, o10, if_false, bdE z1, or_true, decide_true]
theorem r_opens {x : Nat → Nat} {n a o : Nat} {acc : List Nat} {m : Mm} (h : RS x n a o acc m) (ho : o ≤ 6) :
    (o = 6 → ∃ m', F_X12_opensOne 49 m = some (0, m') ∧ Nq m m' ∧ RE x n 3 a m') ∧
    (o < 6 → ∃ m', F_X12_opensOne 49 m = some (1, m') ∧ Nq m m' ∧ RS x n a (o + 1) acc m') := by
  obtain ⟨t, h4, han, h5, h8, rn⟩ := h
  have g := t.1
  have e6 : (ni o = (6 : Int32)) = (o = 6) := by
    rw [show (6 : Int32) = ni 6 from rfl]
    exact propext (ni_eq (by omega) (by omega))
  refine ⟨fun q => ?_, fun q => ?_⟩
  · obtain ⟨m1, z1, z2⟩ := r_wrong (n := n) (k := 3) (p := a) g h5 h4 han
    have re := RE_f t z2 (by omega) (by omega)
    refine ⟨m1, ?_, Rf_Nq z2, re⟩
    unfold F_X12_opensOne
    rw [show ni 3 = 3 from rfl] at z1
    have q' := eq_true q
    simp only [gO49 g, gO49 re.1.1, gd_t, jn_e, h5, if_true, h8, e6, q', h4, bdE z1, RE_5 re, if_false]
  · have q9 : Nq m (wI m 49 8 (ni (o + 1))) := ⟨Fm_wI (Fm_refl _ _) (.inl rfl), fun j h1 h2 h3 h4 h5 => by rw [rIw, uf_ne h4]⟩
    have t' := TR_n t q9
    have g' := t'.1
    refine ⟨_, ?_, q9, t', ?_, han, ?_, ?_, ?_⟩
    · unfold F_X12_opensOne
      have q' : ¬ o = 6 := by omega
      simp (disch := first | assumption | omega | ((repeat (first | assumption | apply G_wI | apply G_wL | apply CSh_wI | apply CSh_wL)); done) | decide) only [↓dO0, ↓dO1, ↓dA2, ↓dK2, ↓dT2, ↓dO3, ↓dO4, ↓dA5, ↓dK5, ↓dT5, ↓dA6, ↓dK6, ↓dT6, ↓dA7, ↓dK7, ↓dT7, ↓dO8, ↓dA9, ↓dK9, ↓dT9, ↓dA10, ↓dK10, ↓dT10, ↓dA11, ↓dK11, ↓dT11, ↓dO12, ↓dA13, ↓dK13, ↓dT13, ↓dO14, ↓dA15, ↓dK15, ↓dT15, ↓dO16, ↓dO29, ↓dO42, ↓dA43, ↓dK43, ↓dT43, ↓dA44, ↓dK44, ↓dT44, ↓dO45, ↓dA46, ↓dK46, ↓dT46, ↓dO47, ↓dA48, ↓dK48, ↓dT48, ↓dO49, ↓dA50, ↓dK50, ↓dT50, ↓dA51, ↓dK51, ↓dT51, ↓dA52, ↓dK52, ↓dT52, ↓dA53, ↓dK53, ↓dT53, ↓dA54, ↓dK54, ↓dT54, ↓dA215, ↓dK215, ↓dT215, ↓dA376, ↓dK376, ↓dT376, ↓dA383, ↓dK383, ↓dT383, ↓dA390, ↓dK390, ↓dT390, ↓dA391, ↓dK391, ↓dT391, ↓dA392, ↓dK392, ↓dT392, ↓dA473, ↓dK473, ↓dT473, ↓dA474, ↓dK474, ↓dT474, ↓dA475, ↓dK475, ↓dT475, ↓dA492, ↓dK492, ↓dT492, ↓dA496, ↓dK496, ↓dT496, ↓dA497, ↓dK497, ↓dT497, ↓dR0_0, ↓dR0_1, ↓dR0_2, ↓dR0_3, ↓dR0_4, ↓dR0_5, ↓dR0_6, ↓dR0_7, ↓dR0_8, ↓dR0_9, ↓dR0_10, ↓dR0_11, ↓dR0_12, ↓dR1_0, ↓dR4_2, ↓dR8_0, ↓dR8_1, ↓dR8_2, ↓dR12_5, ↓dR14_0, ↓dR14_1, ↓dR14_2, ↓dR42_0, ↓dR45_0, ↓dR49_9, ↓dR49_10, ↓dR49_11, ↓dR49_12, ↓dR49_15, ↓dR49_16, ↓dR49_17, ↓dR49_18, ↓dR49_19, ↓dR49_20, ↓dR49_21, ↓dR49_23, ↓dR49_24, ↓dR49_25, ↓dR49_26, ↓dR49_34, ↓dF54, ↓dB54, ↓dC54, ↓dF215, ↓dB215, ↓dC215, ↓dF376, ↓dB376, ↓dC376, ↓dF383, ↓dB383, ↓dC383, ↓dF392, ↓dB392, ↓dC392, ↓dF475, ↓dB475, ↓dC475, ↓dF492, ↓dB492, ↓dC492, ↓lt9_e, ↓jn_e, ↓bd_s, gd_t, bd_s, oc_s, oc_n, lt9_e, jn_e, okOwI, okAwI, okTwI, lnwI, okOwL, okAwL, okTwL, lnwL, rRwI, rRwL, sHwI, sHwL, rIwL, rLwI, gO0, gO1, gA2, gK2, gT2, gN2, gO3, gO4, gA5, gK5, gT5, gN5, gA6, gK6, gT6, gN6, gA7, gK7, gT7, gN7, gO8, gA9, gK9, gT9, gN9, gA10, gK10, gT10, gN10, gA11, gK11, gT11, gN11, gO12, gA13, gK13, gT13, gN13, gO14, gA15, gK15, gT15, gN15, gO16, gO29, gO42, gA43, gK43, gT43, gN43, gA44, gK44, gT44, gN44, gO45, gA46, gK46, gT46, gN46, gO47, gA48, gK48, gT48, gN48, gO49, gA50, gK50, gT50, gN50, gA51, gK51, gT51, gN51, gA52, gK52, gT52, gN52, gA53, gK53, gT53, gN53, gA54, gK54, gT54, gN54, gA215, gK215, gT215, gN215, gA376, gK376, gT376, gN376, gA383, gK383, gT383, gN383, gA390, gK390, gT390, gN390, gA391, gK391, gT391, gN391, gA392, gK392, gT392, gN392, gA473, gK473, gT473, gN473, gA474, gK474, gT474, gN474, gA475, gK475, gT475, gN475, gA492, gK492, gT492, gN492, gA496, gK496, gT496, gN496, gA497, gK497, gT497, gN497, gR0_0, gR0_1, gR0_2, gR0_3, gR0_4, gR0_5, gR0_6, gR0_7, gR0_8, gR0_9, gR0_10, gR0_11, gR0_12, gR1_0, gR4_2, gR8_0, gR8_1, gR8_2, gR12_5, gR14_0, gR14_1, gR14_2, gR42_0, gR45_0, gR49_9, gR49_10, gR49_11, gR49_12, gR49_15, gR49_16, gR49_17, gR49_18, gR49_19, gR49_20, gR49_21, gR49_23, gR49_24, gR49_25, gR49_26, gR49_34, gF54, gB54, gC54, gF215, gB215, gC215, gF376, gB376, gC376, gF383, gB383, gC383, gF392, gB392, gC392, gF475, gB475, gC475, gF492, gB492, gC492, ni_le, ni_lt, ni_eq, ni_add, ni_mul, lni_le, lni_lt, nil_le, nil_lt, lni_eq, nil_eq, lni_add, nil_add, lni_mul, nil_mul, ix_ni, ix_lit, ni_ne1, ni_lt0, ↓reduceIte, Nat.reduceEqDiff, Nat.reduceMul, Nat.reduceAdd, Nat.reduceLeDiff, and_true, true_and, false_and, and_false, if_true, if_false, Nat.not_lt_zero, false_or, or_false, ft9, decide_true, o10, eq_self, b2i_0, b2i_1, b2i_ok, b2i_inj, b2i_t, b2i_f, rIwIk, h5, h8, e6, q']
    · rw [rIw, uf_ne (by omega)]
      exact h4
    · rw [rIw, uf_ne (by omega)]
      exact h5
    · rw [rIw, uf_at]
    · obtain ⟨r1, r2, r3⟩ := rn
      refine ⟨by rw [rIw, uf_ne (by omega)]; exact r1, r2, fun i hi => ?_⟩
      rw [rIw_ne (by omega)]
      exact r3 i hi
theorem RS_o {x : Nat → Nat} {n a o : Nat} {acc : List Nat} {m : Mm} (h : RS x n a (o + 1) acc m) : RS x n a o acc (wI m 49 8 (rI m 49 8 - 1)) ∧ Nq m (wI m 49 8 (rI m 49 8 - 1)) := by
  obtain ⟨t, h4, han, h5, h8, r1, r2, r3⟩ := h
  have q9 : Nq m (wI m 49 8 (rI m 49 8 - 1)) := ⟨Fm_wI (Fm_refl _ _) (.inl rfl), fun j h1 h2 h3 h4 h5 => by rw [rIw, uf_ne h4]⟩
  refine ⟨⟨TR_n t q9, ?_, han, ?_, ?_, ?_, r2, fun i hi => ?_⟩, q9⟩
  · rw [rIw, uf_ne (by omega)]
    exact h4
  · rw [rIw, uf_ne (by omega)]
    exact h5
  · rw [rIw, uf_at, h8]
    exact (ni_sub (a := o + 1) (b := 1) (by omega)).trans (by rw [Nat.add_sub_cancel])
  · rw [rIw, uf_ne (by omega)]
    exact r1
  · rw [rIw_ne (by omega)]
    exact r3 i hi
/-- a sign, in the reader's words -/
theorem r_sg {x : Nat → Nat} {n a o cc : Nat} {acc : List Nat} {m : Mm} (h : RS x n a o acc m) (hc : cc < 256) :
    (∀ e, sgnP x n a cc = .inl e → ∃ m', F_X12_sign 49 (ni cc) m = some ((), m') ∧ Nq m m' ∧ RS x n e o acc m' ∧ a < e) ∧
    (∀ k p, sgnP x n a cc = .inr (k, p) → ∃ m', F_X12_sign 49 (ni cc) m = some ((), m') ∧ Nq m m' ∧ RE x n k p m') := by
  obtain ⟨s1, s2⟩ := r_sign h.1 h.2.1 h.2.2.2.1 h.2.2.1 hc
  refine ⟨fun e z => ?_, fun k p z => ?_⟩
  · obtain ⟨m', u1, u2, u3, u4, u5⟩ := s1 e z
    exact ⟨m', u1, Rs_Nq u2, RS_s h u2 u3 u4, u5⟩
  · obtain ⟨m', u1, u2, u3, u4⟩ := s2 k p z
    exact ⟨m', u1, Rf_Nq u2, RE_f h.1 u2 u3 u4⟩
