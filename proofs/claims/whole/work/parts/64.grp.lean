/-! L2: the text of a group. -/
/-- a number and the sign behind it -/
def nsP (x : Nat → Nat) (n a lo h : Nat) : (Nat × Nat) ⊕ (Nat × Nat) := match numP x n a lo h with
  | .inr f => .inr f
  | .inl (v, e) => match sgnP x n e 59 with
    | .inl e2 => .inl (v, e2)
    | .inr f => .inr f
def grpP (x : Nat → Nat) (n : Nat) : Nat → Nat → Nat → Int32 → Nat → Nat → (Nat × Int32 × Nat) ⊕ (Nat × Nat)
  | 0, _, many, ins, lim, _ => .inl (many, ins, lim)
  | f + 1, cl, many, ins, lim, a =>
    if n ≤ blk x n a then .inl (many, ins, lim) else if isL x n (blk x n a) = false then .inr (1, blk x n a)
    else if isW x (blk x n a) (wE x n (blk x n a)) (sN 0) = true then
      (if cl = 60 ∨ many = 6 then .inr (3, blk x n a) else match nsP x n (wE x n (blk x n a)) 0 2 with
        | .inr q => .inr q
        | .inl (v, e) => grpP x n f (cl + 1) (many + 1) (ins ||| (ni v <<< (ni many &&& 31))) lim e)
    else if isW x (blk x n a) (wE x n (blk x n a)) (sN 1) = true then
      (if cl = 60 then .inr (3, blk x n a) else match nsP x n (wE x n (blk x n a)) 1 31 with
        | .inr q => .inr q
        | .inl (v, e) => grpP x n f (cl + 1) many ins v e)
    else .inr (1, blk x n a)
theorem c_isEnded {x : Nat → Nat} {n a : Nat} {m : Mm} (c : TC x n m) (ha : rI m 1 3 = ni a) (hn : a ≤ n) :
    ∃ m', F_X9_isEnded 1 m = some (b2i (decide (n ≤ blk x n a)), m') ∧ Ts m m' ∧ rI m' 1 3 = ni (blk x n a) ∧ (∀ j, j ≠ 3 → rI m' 1 j = rI m 1 j) := by
  obtain ⟨m1, y1, y2, y3, y4⟩ := c_peek c ha hn
  refine ⟨m1, ?_, y2, y3, y4⟩
  unfold F_X9_isEnded
  have hx := TC_x c (a := blk x n a)
  by_cases q : n ≤ blk x n a
  · have e : chr x n (blk x n a) = -1 := by
      unfold chr
      rw [if_neg (by omega)]
    rw [decide_eq_true q]
    simp only [gO1 c.1, gd_t, y1, bd_s, e, if_true, b2i_t]
  · have e : (chr x n (blk x n a) = -1) = False := by
      unfold chr
      rw [if_pos (by omega)]
      have := hx (by omega)
      exact eq_false (fun z => (ni_ne1 (by omega)).mp z)
    rw [decide_eq_false q]
    simp only [gO1 c.1, gd_t, y1, bd_s, e, if_false, b2i_f]
theorem hi1 : (1 : Int32).toInt = ((2 : Nat) : Int) - 1 := by decide
theorem hi30 : (30 : Int32).toInt = ((31 : Nat) : Int) - 1 := by decide
theorem c_ns {x : Nat → Nat} {n a lo h : Nat} {hi : Int32} {m : Mm} (c : TC x n m) (ha : rI m 1 3 = ni a) (hn : a ≤ n) (hh : hi.toInt = (h : Int) - 1) (h5 : h ≤ 100000) (hl : lo ≤ 100000) :
    (∀ v e, nsP x n a lo h = .inl (v, e) → ∃ m1 m', F_X9_number 1 (ni lo) hi m = some (1, m1) ∧ G m1 ∧ F_X9_sign 1 59 m1 = some (1, m') ∧ Ts m m' ∧ rI m' 1 3 = ni e ∧ rI m' 1 5 = ni v ∧ e ≤ n ∧ a < e ∧ v < h) ∧
    (∀ k p, nsP x n a lo h = .inr (k, p) → ∃ m', Tf k p m m' ∧ (F_X9_number 1 (ni lo) hi m = some (0, m') ∨ ∃ m1, F_X9_number 1 (ni lo) hi m = some (1, m1) ∧ G m1 ∧ F_X9_sign 1 59 m1 = some (0, m'))) := by
  obtain ⟨z1, z2⟩ := c_number c ha hn hh h5 hl
  have hb := blk_le (x := x) hn
  unfold nsP
  cases e0 : numP x n a lo h with
  | inr f =>
    obtain ⟨k, p⟩ := f
    refine ⟨fun v e z => (by cases z), fun k' p' z => ?_⟩
    cases z
    obtain ⟨m', w1, w2⟩ := z2 k p e0
    exact ⟨m', w2, .inl w1⟩
  | inl q =>
    obtain ⟨v, e⟩ := q
    obtain ⟨m1, w1, w2, w3, w4, w5, w6, w7, w8⟩ := z1 v e e0
    have c1 := TC_s c w2
    obtain ⟨s1, s2⟩ := c_sign (cc := 59) c1 w3 w6 (by omega)
    dsimp only
    cases e1 : sgnP x n e 59 with
    | inl e2 =>
      refine ⟨fun v' e' z => ?_, fun k' p' z => (by cases z)⟩
      cases z
      obtain ⟨m2, u1, u2, u3, u4, u5, u6⟩ := s1 _ e1
      exact ⟨m1, m2, w1, c1.1, u1, Ts_trans w2 u2, u3, by rw [u4 5 (by omega)]; exact w5, u5, by omega, w8⟩
    | inr f =>
      obtain ⟨k, p⟩ := f
      refine ⟨fun v e z => (by cases z), fun k' p' z => ?_⟩
      cases z
      obtain ⟨m2, u1, u2⟩ := s2 _ _ e1
      exact ⟨m2, Ts_Tf w2 u2, .inr ⟨m1, w1, c1.1, u1⟩⟩
theorem c_readNum {x : Nat → Nat} {n a : Nat} {b : Bool} {m : Mm} (c : TC x n m) (ha : rI m 1 3 = ni a) (hn : a ≤ n) :
    (∀ v e, nsP x n a (if b then 0 else 1) (if b then 2 else 31) = .inl (v, e) → ∃ m', F_X1_readNumber 1 (b2i b) m = some (1, m') ∧ Ts m m' ∧ rI m' 1 3 = ni e ∧ rI m' 1 5 = ni v ∧ e ≤ n ∧ a < e ∧ v < 31) ∧
    (∀ k p, nsP x n a (if b then 0 else 1) (if b then 2 else 31) = .inr (k, p) → ∃ m', F_X1_readNumber 1 (b2i b) m = some (0, m') ∧ Tf k p m m') := by
  unfold F_X1_readNumber
  have g := c.1
  cases b
  · obtain ⟨s1, s2⟩ := c_ns (lo := 1) c ha hn hi30 (by omega) (by omega)
    simp only [reduceCtorEq, if_false]
    rw [show ni 1 = 1 from rfl] at s1 s2
    refine ⟨fun v e z => ?_, fun k p z => ?_⟩
    · obtain ⟨m1, m2, u1, u2, u3, u4, u5, u6, u7, u8, u9⟩ := s1 v e z
      refine ⟨m2, ?_, u4, u5, u6, u7, u8, u9⟩
      simp only [b2i_f, if_true, gO1 g, gO1 u2, gd_t, u1, bd_s, jn_e, lt9_e, o10, if_false, u3]
    · obtain ⟨m2, u1, u2 | ⟨m1, u2, u3, u4⟩⟩ := s2 k p z
      · refine ⟨m2, ?_, u1⟩
        simp only [b2i_f, if_true, gO1 g, gd_t, u2, bd_s, jn_e, lt9_e]
      · refine ⟨m2, ?_, u1⟩
        simp only [b2i_f, if_true, gO1 g, gO1 u3, gd_t, u2, bd_s, jn_e, lt9_e, o10, if_false, u4]
  · obtain ⟨s1, s2⟩ := c_ns (lo := 0) c ha hn hi1 (by omega) (by omega)
    simp only [if_true]
    rw [ni_0] at s1 s2
    refine ⟨fun v e z => ?_, fun k p z => ?_⟩
    · obtain ⟨m1, m2, u1, u2, u3, u4, u5, u6, u7, u8, u9⟩ := s1 v e z
      refine ⟨m2, ?_, u4, u5, u6, u7, u8, by omega⟩
      simp only [b2i_t, if_true, gO1 g, gO1 u2, gd_t, u1, bd_s, jn_e, lt9_e, o10, if_false, u3]
    · obtain ⟨m2, u1, u2 | ⟨m1, u2, u3, u4⟩⟩ := s2 k p z
      · refine ⟨m2, ?_, u1⟩
        simp only [b2i_t, if_true, o10, if_false, gO1 g, gd_t, u2, bd_s, jn_e, lt9_e]
      · refine ⟨m2, ?_, u1⟩
        simp only [b2i_t, if_true, gO1 g, gO1 u3, gd_t, u2, bd_s, jn_e, lt9_e, o10, if_false, u4]
theorem c_grpL {K1 : Nat → Int32 → Int32 → Int32 → Mm → Option (Int32 × Mm)} {K2 K3 : Nat → Mm → Option (Int32 × Mm)} {x : Nat → Nat} {n : Nat}
    (hK2 : ∀ (m : Mm) b, G m → rI m 1 4 = ni b → ∃ m', K2 1 m = some (0, m') ∧ Tf 1 b m m') (hK3 : ∀ (m : Mm) b, G m → rI m 1 4 = ni b → ∃ m', K3 1 m = some (0, m') ∧ Tf 3 b m m') :
    ∀ (f cl many lim a fuel : Nat) (ins : Int32) (m : Mm), f + cl = 61 → 0 < f → f < fuel → many ≤ 6 → TC x n m → rI m 1 3 = ni a → a ≤ n →
      (∀ mm ii ll, grpP x n f cl many ins lim a = .inl (mm, ii, ll) → ∃ m', L_X1_read_11 K1 K2 K3 fuel 3 1 (ni many) ins (ni lim) (ni cl) m = K1 3 (ni mm) ii (ni ll) m' ∧ Ts m m') ∧
      (∀ k p, grpP x n f cl many ins lim a = .inr (k, p) → ∃ m', L_X1_read_11 K1 K2 K3 fuel 3 1 (ni many) ins (ni lim) (ni cl) m = some (0, m') ∧ Tf k p m m') := by
  intro f
  induction f with
  | zero =>
    intro cl many lim a fuel ins m h1 h2
    omega
  | succ f ih =>
    intro cl many lim a fuel ins m hcl _ hf hm c ha hn
    obtain ⟨fuel, rfl⟩ : ∃ g, fuel = g + 1 := ⟨fuel - 1, by omega⟩
    rw [L_X1_read_11, grpP]
    rw [if_neg (show ¬ (60 : Int32) < ni cl by rw [show (60 : Int32) = ni 60 from rfl, ni_lt (by omega) (by omega)]; omega)]
    obtain ⟨m1, y1, y2, y3, y4⟩ := c_isEnded c ha hn
    have c1 := TC_s c y2
    have g := c.1
    have g1 := c1.1
    have hb := blk_le (x := x) hn
    have hbb := blk_blk (x := x) hn
    generalize blk x n a = b at *
    by_cases q0 : n ≤ b
    · rw [if_pos q0]
      rw [decide_eq_true q0] at y1
      refine ⟨fun mm ii ll z => ?_, fun k p z => (by cases z)⟩
      cases z
      refine ⟨m1, ?_, y2⟩
      simp only [gO1 g, gd_t, y1, bd_s, b2i_t, o10, if_false]
    · rw [if_neg q0]
      rw [decide_eq_false q0] at y1
      obtain ⟨w1, w2⟩ := c_word c1 y3 hb.2
      rw [hbb] at w1 w2
      cases q1 : isL x n b
      · simp only [if_true]
        obtain ⟨m2, u1, u2⟩ := w2 q1
        refine ⟨fun mm ii ll z => (by cases z), fun k p z => ?_⟩
        cases z
        refine ⟨m2, ?_, Ts_Tf y2 u2⟩
        simp only [gO1 g, gO1 g1, gd_t, y1, bd_s, b2i_f, if_true, u1]
      · simp only [reduceCtorEq, if_false]
        obtain ⟨m2, u1, u2, u3, u4, u5, u6⟩ := w1 q1
        have c2 := TC_s c1 u2
        have g2 := c2.1
        have v0 := c_isWord (k := 0) c2 u3 u4 (by omega) u5 (by omega)
        have v1 := c_isWord (k := 1) c2 u3 u4 (by omega) u5 (by omega)
        generalize wE x n b = e at *
        have cl60 : (ni cl = (60 : Int32)) = (cl = 60) := by
          rw [show (60 : Int32) = ni 60 from rfl]
          exact propext (ni_eq (by omega) (by omega))
        have m6 : (ni many = (6 : Int32)) = (many = 6) := by
          rw [show (6 : Int32) = ni 6 from rfl]
          exact propext (ni_eq (by omega) (by omega))
        have y12 := Ts_trans y2 u2
        cases q2 : isW x b e (sN 0)
        · rw [q2] at v0
          simp only [reduceCtorEq, if_false]
          cases q3 : isW x b e (sN 1)
          · rw [q3] at v1
            simp only [reduceCtorEq, if_false]
            obtain ⟨m3, t1, t2⟩ := hK2 m2 b g2 u4
            refine ⟨fun mm ii ll z => (by cases z), fun k p z => ?_⟩
            cases z
            refine ⟨m3, ?_, Ts_Tf y12 t2⟩
            simp only [gO1 g, gO1 g1, gO1 g2, gd_t, y1, bd_s, lt9_e, jn_e, b2i_f, if_true, u1, o10, if_false, v0, v1, t1]
          · rw [q3] at v1
            simp only [if_true]
            by_cases q4 : cl = 60
            · rw [if_pos q4]
              replace q4 := eq_true q4
              obtain ⟨m3, t1, t2⟩ := hK3 m2 b g2 u4
              refine ⟨fun mm ii ll z => (by cases z), fun k p z => ?_⟩
              cases z
              refine ⟨m3, ?_, Ts_Tf y12 t2⟩
              simp only [gO1 g, gO1 g1, gO1 g2, gd_t, y1, bd_s, lt9_e, jn_e, b2i_f, b2i_t, if_true, u1, o10, if_false, v0, v1, cl60, q4, t1]
            · rw [if_neg q4]
              obtain ⟨r1, r2⟩ := c_readNum (b := false) c2 u3 u5
              simp only [reduceCtorEq, if_false, b2i_f] at r1 r2
              cases q5 : nsP x n e 1 31 with
              | inr q =>
                obtain ⟨k, p⟩ := q
                obtain ⟨m3, t1, t2⟩ := r2 k p q5
                refine ⟨fun mm ii ll z => (by cases z), fun k' p' z => ?_⟩
                cases z
                refine ⟨m3, ?_, Ts_Tf y12 t2⟩
                simp only [gO1 g, gO1 g1, gO1 g2, gd_t, y1, bd_s, lt9_e, jn_e, b2i_f, b2i_t, if_true, u1, o10, if_false, v0, v1, cl60, q4, t1]
              | inl q =>
                obtain ⟨v, e2⟩ := q
                obtain ⟨m3, t1, t2, t3, t4, t5, t6, t7⟩ := r1 v e2 q5
                have c3 := TC_s c2 t2
                have z := ih (cl + 1) many v e2 fuel ins m3 (by omega) (by omega) (by omega) hm c3 t3 t5
                have hp : L_X1_read_11 K1 K2 K3 fuel 3 1 (ni many) ins (ni v) (ni (cl + 1)) m3 = L_X1_read_11 K1 K2 K3 fuel 3 1 (ni many) ins (ni v) (ni (cl + 1)) m3 := rfl
                dsimp only
                simp only [gO1 g, gO1 g1, gO1 g2, gO1 c3.1, gd_t, y1, bd_s, lt9_e, jn_e, b2i_f, b2i_t, if_true, u1, o10, if_false, v0, v1, cl60, q4, t1, t4, nil_add]
                refine ⟨fun mm ii ll w => ?_, fun k p w => ?_⟩
                · obtain ⟨m4, s1, s2⟩ := z.1 mm ii ll w
                  exact ⟨m4, s1, Ts_trans (Ts_trans y12 t2) s2⟩
                · obtain ⟨m4, s1, s2⟩ := z.2 k p w
                  exact ⟨m4, s1, Ts_Tf (Ts_trans y12 t2) s2⟩
        · rw [q2] at v0
          simp only [if_true]
          by_cases q4 : cl = 60 ∨ many = 6
          · rw [if_pos q4]
            obtain ⟨m3, t1, t2⟩ := hK3 m2 b g2 u4
            refine ⟨fun mm ii ll z => (by cases z), fun k p z => ?_⟩
            cases z
            refine ⟨m3, ?_, Ts_Tf y12 t2⟩
            by_cases q6 : cl = 60
            · replace q6 := eq_true q6
              simp only [gO1 g, gO1 g1, gO1 g2, gd_t, y1, bd_s, lt9_e, jn_e, b2i_f, b2i_t, if_true, u1, o10, if_false, v0, cl60, q6, t1]
            · have q7 := eq_true (q4.resolve_left q6)
              simp only [gO1 g, gO1 g1, gO1 g2, gd_t, y1, bd_s, lt9_e, jn_e, b2i_f, b2i_t, if_true, u1, o10, if_false, v0, cl60, m6, q6, q7, t1]
          · rw [if_neg q4]
            have q6 : ¬ cl = 60 := fun z => q4 (.inl z)
            have q7 : ¬ many = 6 := fun z => q4 (.inr z)
            obtain ⟨r1, r2⟩ := c_readNum (b := true) c2 u3 u5
            simp only [if_true, b2i_t] at r1 r2
            cases q5 : nsP x n e 0 2 with
            | inr q =>
              obtain ⟨k, p⟩ := q
              obtain ⟨m3, t1, t2⟩ := r2 k p q5
              refine ⟨fun mm ii ll z => (by cases z), fun k' p' z => ?_⟩
              cases z
              refine ⟨m3, ?_, Ts_Tf y12 t2⟩
              simp only [gO1 g, gO1 g1, gO1 g2, gd_t, y1, bd_s, lt9_e, jn_e, b2i_f, b2i_t, if_true, u1, o10, if_false, v0, cl60, m6, q6, q7, t1]
            | inl q =>
              obtain ⟨v, e2⟩ := q
              obtain ⟨m3, t1, t2, t3, t4, t5, t6, t7⟩ := r1 v e2 q5
              have c3 := TC_s c2 t2
              have z := ih (cl + 1) (many + 1) lim e2 fuel (ins ||| (ni v <<< (ni many &&& 31))) m3 (by omega) (by omega) (by omega) (by omega) c3 t3 t5
              dsimp only
              simp only [gO1 g, gO1 g1, gO1 g2, gO1 c3.1, gd_t, y1, bd_s, lt9_e, jn_e, b2i_f, b2i_t, if_true, u1, o10, if_false, v0, cl60, m6, q6, q7, t1, t4, nil_add]
              refine ⟨fun mm ii ll w => ?_, fun k p w => ?_⟩
              · obtain ⟨m4, s1, s2⟩ := z.1 mm ii ll w
                exact ⟨m4, s1, Ts_trans (Ts_trans y12 t2) s2⟩
              · obtain ⟨m4, s1, s2⟩ := z.2 k p w
                exact ⟨m4, s1, Ts_Tf (Ts_trans y12 t2) s2⟩
theorem c_failK {k : Nat} {m : Mm} {b : Nat} (g : G m) (h4 : rI m 1 4 = ni b) : ∃ m', (gd (okO m 1 9) (gd (okO m 1 9) (bd (F_X9_fail 1 (ni k) (rI m 1 4) m) fun r m' => gd (decide (r = 0 ∨ r = 1)) (some (r, m'))))) = some ((0 : Int32), m') ∧ Tf k b m m' := by
  obtain ⟨m', z1, z2⟩ := c_fail (k := k) (p := b) g
  refine ⟨m', ?_, z2⟩
  simp only [gO1 g, gd_t, h4, z1, bd_s, true_or, decide_true]
theorem c_grp {x : Nat → Nat} {n : Nat} {m : Mm} (c : TC x n m) (ha : rI m 1 3 = ni 0) :
    (∀ mm ii ll, grpP x n 61 0 0 0 30 0 = .inl (mm, ii, ll) → ∃ m1, F_X1_read 3 1 m = some (1, wI (wI (wI m1 3 0 (ni mm)) 3 1 ii) 3 2 (ni ll)) ∧ Ts m m1) ∧
    (∀ k p, grpP x n 61 0 0 0 30 0 = .inr (k, p) → ∃ m', F_X1_read 3 1 m = some (0, m') ∧ Tf k p m m') := by
  unfold F_X1_read
  simp only [lt9_e]
  have z := c_grpL (K1 := fun v0 v2 v3 v4 m => gd (okO m v0 1) (gd (okO (wI m v0 0 v2) v0 1) (gd (okO (wI (wI m v0 0 v2) v0 1 v3) v0 1) (some ((1 : Int32), wI (wI (wI m v0 0 v2) v0 1 v3) v0 2 v4))))) (K2 := fun v1 m => gd (okO m v1 9) (gd (okO m v1 9) (bd (F_X9_fail v1 (1 : Int32) (rI m v1 4) m) fun r23 m24 => gd (decide (r23 = 0 ∨ r23 = 1)) (some (r23, m24))))) (K3 := fun v1 m => gd (okO m v1 9) (gd (okO m v1 9) (bd (F_X9_fail v1 (3 : Int32) (rI m v1 4) m) fun r25 m26 => gd (decide (r25 = 0 ∨ r25 = 1)) (some (r25, m26))))) (x := x) (n := n) (fun m b g h => c_failK (k := 1) g h) (fun m b g h => c_failK (k := 3) g h) 61 0 0 30 0 NF 0 m (by omega) (by omega) (by unfold NF; omega) (by omega) c ha (by omega)
  refine ⟨fun mm ii ll w => ?_, fun k p w => z.2 k p w⟩
  obtain ⟨m1, u1, u2⟩ := z.1 mm ii ll w
  refine ⟨m1, ?_, u2⟩
  have g1 := (TC_s c u2).1
  refine u1.trans ?_
  simp (disch := first | assumption | omega | ((repeat (first | assumption | apply G_wI | apply G_wL | apply CSh_wI | apply CSh_wL)); done) | decide) only [↓dO0, ↓dO1, ↓dA2, ↓dK2, ↓dT2, ↓dO3, ↓dO4, ↓dA5, ↓dK5, ↓dT5, ↓dA6, ↓dK6, ↓dT6, ↓dA7, ↓dK7, ↓dT7, ↓dO8, ↓dA9, ↓dK9, ↓dT9, ↓dA10, ↓dK10, ↓dT10, ↓dA11, ↓dK11, ↓dT11, ↓dO12, ↓dA13, ↓dK13, ↓dT13, ↓dO14, ↓dA15, ↓dK15, ↓dT15, ↓dO16, ↓dO29, ↓dO42, ↓dA43, ↓dK43, ↓dT43, ↓dA44, ↓dK44, ↓dT44, ↓dO45, ↓dA46, ↓dK46, ↓dT46, ↓dO47, ↓dA48, ↓dK48, ↓dT48, ↓dO49, ↓dA50, ↓dK50, ↓dT50, ↓dA51, ↓dK51, ↓dT51, ↓dA52, ↓dK52, ↓dT52, ↓dA53, ↓dK53, ↓dT53, ↓dA54, ↓dK54, ↓dT54, ↓dA215, ↓dK215, ↓dT215, ↓dA376, ↓dK376, ↓dT376, ↓dA383, ↓dK383, ↓dT383, ↓dA390, ↓dK390, ↓dT390, ↓dA391, ↓dK391, ↓dT391, ↓dA392, ↓dK392, ↓dT392, ↓dA473, ↓dK473, ↓dT473, ↓dA474, ↓dK474, ↓dT474, ↓dA475, ↓dK475, ↓dT475, ↓dA492, ↓dK492, ↓dT492, ↓dA496, ↓dK496, ↓dT496, ↓dA497, ↓dK497, ↓dT497, ↓dR0_0, ↓dR0_1, ↓dR0_2, ↓dR0_3, ↓dR0_4, ↓dR0_5, ↓dR0_6, ↓dR0_7, ↓dR0_8, ↓dR0_9, ↓dR0_10, ↓dR0_11, ↓dR0_12, ↓dR1_0, ↓dR4_2, ↓dR8_0, ↓dR8_1, ↓dR8_2, ↓dR12_5, ↓dR14_0, ↓dR14_1, ↓dR14_2, ↓dR42_0, ↓dR45_0, ↓dR49_9, ↓dR49_10, ↓dR49_11, ↓dR49_12, ↓dR49_15, ↓dR49_16, ↓dR49_17, ↓dR49_18, ↓dR49_19, ↓dR49_20, ↓dR49_21, ↓dR49_23, ↓dR49_24, ↓dR49_25, ↓dR49_26, ↓dR49_34, ↓dF54, ↓dB54, ↓dC54, ↓dF215, ↓dB215, ↓dC215, ↓dF376, ↓dB376, ↓dC376, ↓dF383, ↓dB383, ↓dC383, ↓dF392, ↓dB392, ↓dC392, ↓dF475, ↓dB475, ↓dC475, ↓dF492, ↓dB492, ↓dC492, ↓lt9_e, ↓jn_e, ↓bd_s]

/-! the reference's -/
def Gq (m m' : Mm) : Prop := Fm (fun b => b = 49 ∨ b = 52) m m' ∧ ∀ j, j < 4 ∨ 8 ≤ j → rI m' 49 j = rI m 49 j
theorem Gq_refl (m : Mm) : Gq m m := ⟨Fm_refl _ _, fun _ _ => rfl⟩
theorem Gq_trans {m m1 m2 : Mm} (h : Gq m m1) (h' : Gq m1 m2) : Gq m m2 := ⟨Fm_trans h.1 h'.1, fun j hj => (h'.2 j hj).trans (h.2 j hj)⟩
theorem Rs_Gq {m m' : Mm} (h : Rs m m') : Gq m m' := ⟨Fm_mono (fun _ q => .inl q) h.1, fun j hj => h.2 j (by omega)⟩
theorem Rf_Gq {n k p : Nat} {m m' : Mm} (h : Rf n k p m m') : Gq m m' := ⟨Fm_mono (fun _ q => .inl q) h.1, fun j hj => h.2.1 j (by omega) (by omega) (by omega)⟩
theorem TR_g {x : Nat → Nat} {n : Nat} {m m' : Mm} (c : TR x n m) (h : Gq m m') : TR x n m' := by
  obtain ⟨g, c1, c2, c3⟩ := c
  refine ⟨G_fr h.1 g, c1, (h.2 2 (by omega)).trans c2, ?_⟩
  rw [(h.1.1 50 (by omega)).1]
  exact c3
/-- what is told so far -/
def RT (many lim : Nat) (ins : Int32) (m : Mm) : Prop := rI m 52 0 = ni many ∧ rI m 52 1 = ins ∧ rI m 52 2 = ni lim
theorem RT_s {many lim : Nat} {ins : Int32} {m m' : Mm} (h : RT many lim ins m) (r : Rs m m') : RT many lim ins m' := by
  unfold RT
  rw [(r.1.1 52 (by omega)).1]
  exact h
theorem r_ns {x : Nat → Nat} {n a lo h : Nat} {hi : Int32} {m : Mm} (c : TR x n m) (ha : rI m 49 4 = ni a) (h5 : rI m 49 5 = 0) (hn : a ≤ n) (hh : hi.toInt = (h : Int) - 1) (hh5 : h ≤ 100000) (hl : lo ≤ 100000) :
    (∀ v e, nsP x n a lo h = .inl (v, e) → ∃ m1 m', F_X12_number 49 (ni lo) hi m = some (ni v, m1) ∧ G m1 ∧ F_X12_sign 49 59 m1 = some ((), m') ∧ Rs m m' ∧ rI m' 49 4 = ni e ∧ e ≤ n ∧ a < e ∧ v < h) ∧
    (∀ k p, nsP x n a lo h = .inr (k, p) → ∃ r m1 m', F_X12_number 49 (ni lo) hi m = some (r, m1) ∧ G m1 ∧ F_X12_sign 49 59 m1 = some ((), m') ∧ Rf n k p m m' ∧ k ≠ 0 ∧ k < 4) := by
  obtain ⟨z1, z2⟩ := r_number c ha h5 hn hh hh5 hl
  have hb := blk_le (x := x) hn
  unfold nsP
  cases e0 : numP x n a lo h with
  | inr f =>
    obtain ⟨k, p⟩ := f
    refine ⟨fun v e z => (by cases z), fun k' p' z => ?_⟩
    cases z
    obtain ⟨m', w1, w2, w3, w4⟩ := z2 k p e0
    have c1 := TR_f c w2
    exact ⟨0, m', m', w1, c1.1, r_sign0 c1.1 (by rw [w2.2.2.1]; exact fun z => w3 ((ni_eq (b := 0) (by omega) (by omega)).mp z)), w2, w3, w4⟩
  | inl q =>
    obtain ⟨v, e⟩ := q
    obtain ⟨m1, w1, w2, w3, w6, w7, w8⟩ := z1 v e e0
    have c1 := TR_s c w2
    obtain ⟨s1, s2⟩ := r_sign (cc := 59) c1 w3 ((w2.2 5 (by omega)).trans h5) w6 (by omega)
    dsimp only
    cases e1 : sgnP x n e 59 with
    | inl e2 =>
      refine ⟨fun v' e' z => ?_, fun k' p' z => (by cases z)⟩
      cases z
      obtain ⟨m2, u1, u2, u3, u5, u6⟩ := s1 _ e1
      exact ⟨m1, m2, w1, c1.1, u1, Rs_trans w2 u2, u3, u5, by omega, w8⟩
    | inr f =>
      obtain ⟨k, p⟩ := f
      refine ⟨fun v e z => (by cases z), fun k' p' z => ?_⟩
      cases z
      obtain ⟨m2, u1, u2, u3, u4⟩ := s2 _ _ e1
      exact ⟨_, m1, m2, w1, c1.1, u1, Rs_Rf w2 u2, u3, u4⟩
theorem Rf_5 {n k p : Nat} {m m' : Mm} (h : Rf n k p m m') (h0 : k ≠ 0) (h4 : k < 4) : rI m' 49 5 ≠ 0 := by
  rw [h.2.2.1]
  exact fun z => h0 ((ni_eq (b := 0) (by omega) (by omega)).mp z)
