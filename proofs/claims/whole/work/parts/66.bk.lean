/-! L2: the text of a book: lines (member, whether inside). -/
def nmB (l : List (Nat × Nat)) : Int32 := l.foldl (fun a q => a ||| bit q.1) 0
def inB (l : List (Nat × Nat)) : Int32 := l.foldl (fun a q => a ||| (ni q.2 <<< (ni q.1 &&& 31))) 0
def bkP (x : Nat → Nat) (n N : Nat) : Nat → List (Nat × Nat) → Nat → (List (Nat × Nat)) ⊕ (Nat × Nat)
  | 0, l, _ => .inl l
  | f + 1, l, a => if n ≤ blk x n a then .inl l else match numP x n (blk x n a) 0 N with
    | .inr q => .inr q
    | .inl (k, e) => if tb (nmB l) k = true then .inr (2, blk x n a) else match nsP x n e 0 2 with
      | .inr q => .inr q
      | .inl (v, e2) => bkP x n N f (l ++ [(k, v)]) e2
theorem nmB_s (l : List (Nat × Nat)) (q : Nat × Nat) : nmB (l ++ [q]) = nmB l ||| bit q.1 := by
  unfold nmB
  rw [List.foldl_append]
  rfl
theorem inB_s (l : List (Nat × Nat)) (q : Nat × Nat) : inB (l ++ [q]) = inB l ||| (ni q.2 <<< (ni q.1 &&& 31)) := by
  unfold inB
  rw [List.foldl_append]
  rfl
theorem smN_upd {f g : Nat → Nat} {k : Nat} (hk : g k = f k + 1) (h : ∀ i, i ≠ k → g i = f i) : ∀ d, smN g d = smN f d + (if k < d then 1 else 0) := by
  intro d
  induction d with
  | zero => rfl
  | succ d ih =>
    rw [smN, smN, ih]
    by_cases e : d = k
    · rw [e, hk, if_neg (by omega), if_pos (by omega)]
      omega
    · rw [h d e]
      split <;> split <;> omega
theorem cb_bit {x : Int32} {k d : Nat} (h : tb x k = false) (hk : k < d) (h32 : k < 32) : cb (x ||| bit k) d = cb x d + 1 := by
  unfold cb
  rw [smN_upd (f := fun k => (tb x k).toNat) (k := k)]
  · rw [if_pos hk]
  · rw [tb_or, h, bit, tb_bit h32]
    simp
  · intro i hi
    rw [tb_or, bit, tb_bit h32]
    simp [hi]
/-- a book's lines: members told once, below N -/
def BK (N : Nat) (l : List (Nat × Nat)) : Prop := N ≤ 6 ∧ bel N (nmB l) ∧ cb (nmB l) 6 = l.length ∧ (∀ q ∈ l, q.1 < N ∧ q.2 < 2) ∧ (∀ k, k < 6 → tb (nmB l) k = true → ∃ v, (k, v) ∈ l) ∧ (∀ k v, (k, v) ∈ l → tb (nmB l) k = true ∧ tb (inB l) k = decide (v = 1)) ∧ (∀ k, tb (nmB l) k = false → tb (inB l) k = false)
theorem sh_v : ∀ v, v < 2 → ∀ k, k < 6 → ∀ j, j < 32 → tb (ni v <<< (ni k &&& 31)) j = (decide (j = k) && decide (v = 1)) := by decide +kernel
theorem BK_nil {N : Nat} (h : N ≤ 6) : BK N [] := ⟨h, bel_0 _, rfl, fun q hq => absurd hq List.not_mem_nil, fun k hk h => (by rw [show nmB [] = 0 from rfl, tb_0] at h; cases h), fun k v h => absurd h List.not_mem_nil, fun k _ => tb_0 k⟩
theorem BK_s {N k v : Nat} {l : List (Nat × Nat)} (h : BK N l) (hk : k < N) (hv : v < 2) (hn : tb (nmB l) k = false) : BK N (l ++ [(k, v)]) := by
  obtain ⟨h1, h2, h3, h4, h5, h6, h7⟩ := h
  have sv : ∀ j, tb (ni v <<< (ni k &&& 31)) j = (decide (j = k) && decide (v = 1)) := fun j => by
    by_cases q : j < 32
    · exact sh_v v hv k (by omega) j q
    · rw [tb_ge (by omega)]
      have : ¬ j = k := by omega
      simp [this]
  refine ⟨h1, ?_, ?_, fun q hq => ?_, fun j hj h => ?_, fun j w hj => ?_, fun j h => ?_⟩
  · rw [nmB_s]
    exact bel_or h2 (bel_bit hk (by omega))
  · rw [nmB_s, cb_bit hn (by omega) (by omega), h3, List.length_append]
    rfl
  · rcases List.mem_append.mp hq with q1 | q1
    · exact h4 q q1
    · rw [List.mem_singleton.mp q1]
      exact ⟨hk, hv⟩
  · rw [nmB_s, tb_or, bit, tb_bit (by omega)] at h
    cases q : tb (nmB l) j
    · rw [q] at h
      simp at h
      exact ⟨v, List.mem_append.mpr (.inr (by rw [h]; exact List.mem_singleton.mpr rfl))⟩
    · obtain ⟨w, hw⟩ := h5 j hj q
      exact ⟨w, List.mem_append.mpr (.inl hw)⟩
  · rw [nmB_s, inB_s, tb_or, tb_or, bit, tb_bit (by omega), sv j]
    rcases List.mem_append.mp hj with q1 | q1
    · obtain ⟨e1, e2⟩ := h6 j w q1
      rw [e1, e2]
      have : ¬ j = k := fun z => by
        rw [z, hn] at e1
        cases e1
      simp [this]
    · have e := List.mem_singleton.mp q1
      cases e
      rw [h7 k hn]
      simp
  · rw [nmB_s, tb_or, bit, tb_bit (by omega)] at h
    simp at h
    rw [inB_s, tb_or, sv j, h7 j h.1]
    simp [h.2]
theorem BK_len {N : Nat} {l : List (Nat × Nat)} (h : BK N l) : l.length ≤ 6 := by
  rw [← h.2.2.1]
  exact cb_le _ 6
theorem BK_lt {N k : Nat} {l : List (Nat × Nat)} (h : BK N l) (hk : k < N) (hn : tb (nmB l) k = false) : l.length < 6 := by
  have := BK_len (BK_s (v := 0) h hk (by omega) hn)
  rw [List.length_append] at this
  have e : [(k, 0)].length = 1 := rfl
  omega
theorem hiN {N : Nat} (h : N ≤ 6) : (ni N - 1).toInt = (N : Int) - 1 := by
  have e : ∀ N : Nat, N < 7 → (ni N - 1).toInt = (N : Int) - 1 := by decide
  exact e N (by omega)
theorem c_bkL {K1 : Nat → Int32 → Int32 → Mm → Option (Int32 × Mm)} {K2 : Nat → Mm → Option (Int32 × Mm)} {x : Nat → Nat} {n N : Nat}
    (hK2 : ∀ (m : Mm) b, G m → rI m 1 4 = ni b → ∃ m', K2 1 m = some (0, m') ∧ Tf 2 b m m') :
    ∀ (f a fuel : Nat) (l : List (Nat × Nat)) (m : Mm), f + l.length = 7 → f < fuel → BK N l → TC x n m → rI m 1 3 = ni a → a ≤ n →
      (∀ l', bkP x n N f l a = .inl l' → ∃ m', L_X0_read_8 K1 K2 fuel 12 1 (ni N) (nmB l) (inB l) (ni l.length) m = K1 12 (nmB l') (inB l') m' ∧ Ts m m' ∧ BK N l') ∧
      (∀ k p, bkP x n N f l a = .inr (k, p) → ∃ m', L_X0_read_8 K1 K2 fuel 12 1 (ni N) (nmB l) (inB l) (ni l.length) m = some (0, m') ∧ Tf k p m m') := by
  intro f
  induction f with
  | zero =>
    intro a fuel l m h1 h2 bk
    have := BK_len bk
    omega
  | succ f ih =>
    intro a fuel l m hl hf bk c ha hn
    obtain ⟨fuel, rfl⟩ : ∃ g, fuel = g + 1 := ⟨fuel - 1, by omega⟩
    rw [L_X0_read_8, bkP]
    rw [if_neg (show ¬ (6 : Int32) < ni l.length by rw [show (6 : Int32) = ni 6 from rfl, ni_lt (by omega) (by omega)]; omega)]
    obtain ⟨m1, y1, y2, y3, y4⟩ := c_isEnded c ha hn
    have c1 := TC_s c y2
    have g := c.1
    have g1 := c1.1
    have hb := blk_le (x := x) hn
    have hbb := blk_blk (x := x) hn
    generalize blk x n a = b at *
    by_cases q0 : n ≤ b
    · rw [if_pos q0]
      rw [decide_eq_true q0] at y1
      refine ⟨fun l' z => ?_, fun k p z => (by cases z)⟩
      cases z
      refine ⟨m1, ?_, y2, bk⟩
      simp only [gO1 g, gd_t, y1, bd_s, b2i_t, o10, if_false]
    · rw [if_neg q0]
      rw [decide_eq_false q0] at y1
      obtain ⟨w1, w2⟩ := c_number (lo := 0) c1 y3 hb.2 (hiN bk.1) (by have := bk.1; omega) (by omega)
      rw [hbb, ni_0] at w1
      rw [ni_0] at w2
      cases q1 : numP x n b 0 N with
      | inr q =>
        obtain ⟨k, p⟩ := q
        obtain ⟨m2, u1, u2⟩ := w2 k p q1
        refine ⟨fun l' z => (by cases z), fun k' p' z => ?_⟩
        cases z
        refine ⟨m2, ?_, Ts_Tf y2 u2⟩
        simp only [gO1 g, gO1 g1, gd_t, y1, bd_s, b2i_f, if_true, u1]
      | inl q =>
        obtain ⟨k, e⟩ := q
        obtain ⟨m2, u1, u2, u3, u4, u5, u6, u7, u8⟩ := w1 k e q1
        have c2 := TC_s c1 u2
        have g2 := c2.1
        have hN := bk.1
        have y12 := Ts_trans y2 u2
        dsimp only
        cases q2 : tb (nmB l) k
        · simp only [reduceCtorEq, if_false]
          obtain ⟨t1, t2⟩ := c_ns (lo := 0) c2 u3 u6 hi1 (by omega) (by omega)
          rw [ni_0] at t1 t2
          cases q3 : nsP x n e 0 2 with
          | inr q =>
            obtain ⟨kk, p⟩ := q
            refine ⟨fun l' z => (by cases z), fun k' p' z => ?_⟩
            cases z
            obtain ⟨m3, s1, s2 | ⟨m4, s2, s3, s4⟩⟩ := t2 kk p q3
            · refine ⟨m3, ?_, Ts_Tf y12 s1⟩
              simp (disch := omega) only [gO1 g, gO1 g1, gO1 g2, gd_t, y1, bd_s, lt9_e, b2i_f, if_true, u1, o10, if_false, u5, hasC, has6_ni, q2, s2]
            · refine ⟨m3, ?_, Ts_Tf y12 s1⟩
              simp (disch := omega) only [gO1 g, gO1 g1, gO1 g2, gO1 s3, gd_t, y1, bd_s, lt9_e, b2i_f, if_true, u1, o10, if_false, u5, hasC, has6_ni, q2, s2, s4]
          | inl q =>
            obtain ⟨v, e2⟩ := q
            obtain ⟨m3, m4, s1, s2, s3, s4, s5, s6, s7, s8, s9⟩ := t1 v e2 q3
            have c4 := TC_s c2 s4
            have g4 := c4.1
            have bk' := BK_s bk u8 s9 q2
            have z := ih e2 fuel (l ++ [(k, v)]) m4 (by rw [List.length_append]; have : [(k, v)].length = 1 := rfl; omega) (by omega) bk' c4 s5 s7
            have hlen : (l ++ [(k, v)]).length = l.length + 1 := by rw [List.length_append]; rfl
            rw [hlen, nmB_s, inB_s] at z
            dsimp only at z ⊢
            simp (disch := omega) only [gO1 g, gO1 g1, gO1 g2, gO1 s2, gO1 g4, gd_t, y1, bd_s, lt9_e, b2i_f, if_true, u1, o10, if_false, u5, hasC, has6_ni, q2, s1, s3, s6, nil_add]
            refine ⟨fun l' w => ?_, fun k p w => ?_⟩
            · obtain ⟨m5, r1, r2, r3⟩ := z.1 l' w
              exact ⟨m5, r1, Ts_trans (Ts_trans y12 s4) r2, r3⟩
            · obtain ⟨m5, r1, r2⟩ := z.2 k p w
              exact ⟨m5, r1, Ts_Tf (Ts_trans y12 s4) r2⟩
        · simp only [if_true]
          refine ⟨fun l' z => (by cases z), fun k' p' z => ?_⟩
          cases z
          obtain ⟨m3, s1, s2⟩ := hK2 m2 b g2 u4
          refine ⟨m3, ?_, Ts_Tf y12 s2⟩
          simp (disch := omega) only [gO1 g, gO1 g1, gO1 g2, gd_t, y1, bd_s, lt9_e, b2i_f, b2i_t, if_true, u1, o10, if_false, u5, hasC, has6_ni, q2, s1]
theorem c_bk {x : Nat → Nat} {n N : Nat} {m : Mm} (c : TC x n m) (ha : rI m 1 3 = ni 0) (hN : N ≤ 6) :
    (∀ l, bkP x n N 7 [] 0 = .inl l → ∃ m1, F_X0_read 12 1 (ni N) m = some (1, wI (wI (wI m1 12 0 (ni l.length)) 12 1 (nmB l)) 12 2 (inB l)) ∧ Ts m m1 ∧ BK N l) ∧
    (∀ k p, bkP x n N 7 [] 0 = .inr (k, p) → ∃ m', F_X0_read 12 1 (ni N) m = some (0, m') ∧ Tf k p m m') := by
  unfold F_X0_read
  simp only [lt9_e]
  have z := c_bkL (K1 := fun v0 v3 v4 m => bd (F_J6_bitCount_0f7a4 v3 m) fun r18 m19 => gd (okO m19 v0 0) (gd (okO (wI m19 v0 0 r18) v0 0) (gd (okO (wI (wI m19 v0 0 r18) v0 1 v3) v0 0) (some ((1 : Int32), wI (wI (wI m19 v0 0 r18) v0 1 v3) v0 2 v4))))) (K2 := fun v1 m => gd (okO m v1 9) (gd (okO m v1 9) (bd (F_X9_fail v1 (2 : Int32) (rI m v1 4) m) fun r23 m24 => gd (decide (r23 = 0 ∨ r23 = 1)) (some (r23, m24))))) (x := x) (n := n) (N := N) (fun m b g h => c_failK (k := 2) g h) 7 0 NF [] m rfl (by unfold NF; omega) (BK_nil hN) c ha (by omega)
  refine ⟨fun l w => ?_, fun k p w => z.2 k p w⟩
  obtain ⟨m1, u1, u2, u3⟩ := z.1 l w
  refine ⟨m1, ?_, u2, u3⟩
  have g1 := (TC_s c u2).1
  refine u1.trans ?_
  have e : bcI (nmB l) = ni l.length := by
    rw [bc_cb, cb_tail (n := 6) (by omega) (bel_mono u3.1 u3.2.1), u3.2.2.1]
  rw [c_bc, bd_s, e]
  simp (disch := first | assumption | omega | ((repeat (first | assumption | apply G_wI | apply G_wL | apply CSh_wI | apply CSh_wL)); done) | decide) only [↓dO0, ↓dO1, ↓dA2, ↓dK2, ↓dT2, ↓dO3, ↓dO4, ↓dA5, ↓dK5, ↓dT5, ↓dA6, ↓dK6, ↓dT6, ↓dA7, ↓dK7, ↓dT7, ↓dO8, ↓dA9, ↓dK9, ↓dT9, ↓dA10, ↓dK10, ↓dT10, ↓dA11, ↓dK11, ↓dT11, ↓dO12, ↓dA13, ↓dK13, ↓dT13, ↓dO14, ↓dA15, ↓dK15, ↓dT15, ↓dO16, ↓dO29, ↓dO42, ↓dA43, ↓dK43, ↓dT43, ↓dA44, ↓dK44, ↓dT44, ↓dO45, ↓dA46, ↓dK46, ↓dT46, ↓dO47, ↓dA48, ↓dK48, ↓dT48, ↓dO49, ↓dA50, ↓dK50, ↓dT50, ↓dA51, ↓dK51, ↓dT51, ↓dA52, ↓dK52, ↓dT52, ↓dA53, ↓dK53, ↓dT53, ↓dA54, ↓dK54, ↓dT54, ↓dA215, ↓dK215, ↓dT215, ↓dA376, ↓dK376, ↓dT376, ↓dA383, ↓dK383, ↓dT383, ↓dA390, ↓dK390, ↓dT390, ↓dA391, ↓dK391, ↓dT391, ↓dA392, ↓dK392, ↓dT392, ↓dA473, ↓dK473, ↓dT473, ↓dA474, ↓dK474, ↓dT474, ↓dA475, ↓dK475, ↓dT475, ↓dA492, ↓dK492, ↓dT492, ↓dA496, ↓dK496, ↓dT496, ↓dA497, ↓dK497, ↓dT497, ↓dR0_0, ↓dR0_1, ↓dR0_2, ↓dR0_3, ↓dR0_4, ↓dR0_5, ↓dR0_6, ↓dR0_7, ↓dR0_8, ↓dR0_9, ↓dR0_10, ↓dR0_11, ↓dR0_12, ↓dR1_0, ↓dR4_2, ↓dR8_0, ↓dR8_1, ↓dR8_2, ↓dR12_5, ↓dR14_0, ↓dR14_1, ↓dR14_2, ↓dR42_0, ↓dR45_0, ↓dR49_9, ↓dR49_10, ↓dR49_11, ↓dR49_12, ↓dR49_15, ↓dR49_16, ↓dR49_17, ↓dR49_18, ↓dR49_19, ↓dR49_20, ↓dR49_21, ↓dR49_23, ↓dR49_24, ↓dR49_25, ↓dR49_26, ↓dR49_34, ↓dF54, ↓dB54, ↓dC54, ↓dF215, ↓dB215, ↓dC215, ↓dF376, ↓dB376, ↓dC376, ↓dF383, ↓dB383, ↓dC383, ↓dF392, ↓dB392, ↓dC392, ↓dF475, ↓dB475, ↓dC475, ↓dF492, ↓dB492, ↓dC492, ↓lt9_e, ↓jn_e, ↓bd_s]
