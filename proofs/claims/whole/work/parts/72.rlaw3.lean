/-! L2: the reference's reading of a law: units, products, sums. -/
theorem kw_4 {x : Nat → Nat} {n b : Nat} : (isW x b (wE x n b) (sN 5) = true ↔ kwL x n b = 1004) ∧ (isW x b (wE x n b) (sN 6) = true ↔ kwL x n b = 1005) ∧ (isW x b (wE x n b) (sN 0) = true ↔ kwL x n b = 1000) ∧ (isW x b (wE x n b) (sN 2) = true ↔ kwL x n b = 1001) ∧ (isW x b (wE x n b) (sN 3) = true ↔ kwL x n b = 1002) ∧ (isW x b (wE x n b) (sN 4) = true ↔ kwL x n b = 1003) := by
  have ex := fun i j hi hj h1 hne => isW_oth (x := x) (b := b) (e := wE x n b) (i := i) (j := j) hi hj h1 hne
  unfold kwL
  cases q0 : isW x b (wE x n b) (sN 0)
  · cases q2 : isW x b (wE x n b) (sN 2)
    · cases q3 : isW x b (wE x n b) (sN 3)
      · cases q4 : isW x b (wE x n b) (sN 4)
        · cases q5 : isW x b (wE x n b) (sN 5)
          · cases q6 : isW x b (wE x n b) (sN 6) <;> simp
          · simp [ex 5 6 (by omega) (by omega) q5 (by omega)]
        · simp [ex 4 5 (by omega) (by omega) q4 (by omega), ex 4 6 (by omega) (by omega) q4 (by omega)]
      · simp [ex 3 4 (by omega) (by omega) q3 (by omega), ex 3 5 (by omega) (by omega) q3 (by omega), ex 3 6 (by omega) (by omega) q3 (by omega)]
    · simp [ex 2 3 (by omega) (by omega) q2 (by omega), ex 2 4 (by omega) (by omega) q2 (by omega), ex 2 5 (by omega) (by omega) q2 (by omega), ex 2 6 (by omega) (by omega) q2 (by omega)]
  · simp [ex 0 2 (by omega) (by omega) q0 (by omega), ex 0 3 (by omega) (by omega) q0 (by omega), ex 0 4 (by omega) (by omega) q0 (by omega), ex 0 5 (by omega) (by omega) q0 (by omega), ex 0 6 (by omega) (by omega) q0 (by omega)]
theorem kw_no {x : Nat → Nat} {n b : Nat} (h : isL x n b = false) : kwL x n b = 0 := by
  unfold kwL
  rw [isW_no (by omega) h, isW_no (by omega) h, isW_no (by omega) h, isW_no (by omega) h, isW_no (by omega) h, isW_no (by omega) h]
  rfl
theorem r_known {x : Nat → Nat} {n b o : Nat} {acc : List Nat} {m : Mm} (h : RS x n b o acc m) (hbb : blk x n b = b) :
    ∃ m', F_X12_knownHere 49 m = some (if 1000 ≤ kwL x n b ∧ kwL x n b < 1004 then ni (kwL x n b - 1000) else -1, m') ∧ Rs m m' ∧ rI m' 49 4 = ni (if 1000 ≤ kwL x n b ∧ kwL x n b < 1004 then wE x n b else b) := by
  obtain ⟨t, h4, han, h5, h8, rn⟩ := h
  obtain ⟨k5, k6, k0, k2, k3, k4⟩ := kw_4 (x := x) (n := n) (b := b)
  have g := t.1
  have hkw := kwL_le x n b
  obtain ⟨m1, a1, a2, a3⟩ := r_takes (k := 0) (by omega) six0 t h4 h5 han hbb
  have t1 := TR_s t a2
  unfold F_X12_knownHere
  cases q0 : isW x b (wE x n b) (sN 0)
  · rw [q0] at a1 a3 k0
    have n0 : ¬ kwL x n b = 1000 := fun z => by
      have := k0.mpr z
      cases this
    simp only [reduceCtorEq, if_false] at a3
    have h51 := (a2.2 5 (by omega)).trans h5
    obtain ⟨m2, b1, b2, b3⟩ := r_takes (k := 2) (by omega) six2 t1 a3 h51 han hbb
    have t2 := TR_s t1 b2
    cases q2 : isW x b (wE x n b) (sN 2)
    · rw [q2] at b1 b3 k2
      have n2 : ¬ kwL x n b = 1001 := fun z => by
        have := k2.mpr z
        cases this
      simp only [reduceCtorEq, if_false] at b3
      have h52 := (b2.2 5 (by omega)).trans h51
      obtain ⟨m3, c1, c2, c3⟩ := r_takes (k := 3) (by omega) six3 t2 b3 h52 han hbb
      have t3 := TR_s t2 c2
      cases q3 : isW x b (wE x n b) (sN 3)
      · rw [q3] at c1 c3 k3
        have n3 : ¬ kwL x n b = 1002 := fun z => by
          have := k3.mpr z
          cases this
        simp only [reduceCtorEq, if_false] at c3
        have h53 := (c2.2 5 (by omega)).trans h52
        obtain ⟨m4, d1, d2, d3⟩ := r_takes (k := 4) (by omega) six4 t3 c3 h53 han hbb
        cases q4 : isW x b (wE x n b) (sN 4)
        · rw [q4] at d1 d3 k4
          have n4 : ¬ kwL x n b = 1003 := fun z => by
            have := k4.mpr z
            cases this
          simp only [reduceCtorEq, if_false] at d3
          refine ⟨m4, ?_, Rs_trans (Rs_trans (Rs_trans a2 b2) c2) d2, ?_⟩
          · rw [if_neg (show ¬ (1000 ≤ kwL x n b ∧ kwL x n b < 1004) by omega)]
            simp only [gO49 g, gO49 t1.1, gO49 t2.1, gO49 t3.1, gd_t, bdE a1, bdE b1, bdE c1, bdE d1, b2i_f, if_true]
          · rw [if_neg (show ¬ (1000 ≤ kwL x n b ∧ kwL x n b < 1004) by omega)]
            exact d3
        · rw [q4] at d1 d3
          have e := k4.mp q4
          simp only [if_true] at d3
          refine ⟨m4, ?_, Rs_trans (Rs_trans (Rs_trans a2 b2) c2) d2, ?_⟩
          · rw [if_pos (by omega), e]
            simp only [gO49 g, gO49 t1.1, gO49 t2.1, gO49 t3.1, gd_t, bdE a1, bdE b1, bdE c1, bdE d1, b2i_f, b2i_t, o10, if_true, if_false]
            rfl
          · rw [if_pos (by omega)]
            exact d3
      · rw [q3] at c1 c3
        have e := k3.mp q3
        simp only [if_true] at c3
        refine ⟨m3, ?_, Rs_trans (Rs_trans a2 b2) c2, ?_⟩
        · rw [if_pos (by omega), e]
          simp only [gO49 g, gO49 t1.1, gO49 t2.1, gd_t, bdE a1, bdE b1, bdE c1, b2i_f, b2i_t, o10, if_true, if_false]
          rfl
        · rw [if_pos (by omega)]
          exact c3
    · rw [q2] at b1 b3
      have e := k2.mp q2
      simp only [if_true] at b3
      refine ⟨m2, ?_, Rs_trans a2 b2, ?_⟩
      · rw [if_pos (by omega), e]
        simp only [gO49 g, gO49 t1.1, gd_t, bdE a1, bdE b1, b2i_f, b2i_t, o10, if_true, if_false]
        rfl
      · rw [if_pos (by omega)]
        exact b3
  · rw [q0] at a1 a3
    have e := k0.mp q0
    simp only [if_true] at a3
    refine ⟨m1, ?_, a2, ?_⟩
    · rw [if_pos (by omega), e]
      simp only [gO49 g, gd_t, bdE a1, b2i_t, o10, if_false]
      rfl
    · rw [if_pos (by omega)]
      exact a3
theorem r_pair {x : Nat → Nat} {n o c : Nat} {S : List Nat → Nat → LR} {fS : Nat → Mm → Option (Unit × Mm)} (hn : n ≤ 150) (hS : NSp x n (o + 1) S fS) (hc : c = 1004 ∨ c = 1005) {acc : List Nat} {a s : Nat} {m : Mm} (h : RS x n a (o + 1) acc m) (hs : acc.length + s ≤ a) :
    (∀ acc' e, pairP x n S c acc a = .inl (acc', e) → ∃ m', (bd (F_X12_sign 49 91 m) fun _ m30 => gd (okO m30 49 12) (bd (fS 49 m30) fun _ m32 => gd (okO m32 49 12) (bd (F_X12_sign 49 44 m32) fun _ m34 => gd (okO m34 49 12) (bd (fS 49 m34) fun _ m36 => gd (okO m36 49 12) (bd (F_X12_sign 49 93 m36) fun _ m38 => gd (okO m38 49 12) (bd (F_X12_notes 49 (cdA c) 0 m38) fun _ m40 => gd (okO m40 49 12) (some ((), wI m40 49 8 (rI m40 49 8 - 1))))))))) = some ((), m') ∧ Nq m m' ∧ RS x n e o acc' m' ∧ a < e ∧ acc'.length + s ≤ e) ∧
    (∀ k p, pairP x n S c acc a = .inr (k, p) → ∃ m', (bd (F_X12_sign 49 91 m) fun _ m30 => gd (okO m30 49 12) (bd (fS 49 m30) fun _ m32 => gd (okO m32 49 12) (bd (F_X12_sign 49 44 m32) fun _ m34 => gd (okO m34 49 12) (bd (fS 49 m34) fun _ m36 => gd (okO m36 49 12) (bd (F_X12_sign 49 93 m36) fun _ m38 => gd (okO m38 49 12) (bd (F_X12_notes 49 (cdA c) 0 m38) fun _ m40 => gd (okO m40 49 12) (some ((), wI m40 49 8 (rI m40 49 8 - 1))))))))) = some ((), m') ∧ Nq m m' ∧ RE x n k p m') := by
  obtain ⟨hS0, hS1⟩ := hS
  have hcB : cdB c = 0 := by
    rcases hc with rfl | rfl <;> rfl
  unfold pairP
  obtain ⟨s1, s2⟩ := r_sg (cc := 91) h (by omega)
  rw [show ni 91 = 91 from rfl] at s1 s2
  cases p1 : sgnP x n a 91 with
  | inr f =>
    obtain ⟨kk, p⟩ := f
    refine ⟨fun acc' e z => (by cases z), fun k p z => ?_⟩
    cases z
    obtain ⟨m1, u1, u2, u3⟩ := s2 _ _ p1
    have g1 := u3.1.1
    have h5 := RE_5 u3
    obtain ⟨w1, w2⟩ := RE_w (v := rI m1 49 8 - 1) u3
    refine ⟨_, ?_, Nq_trans u2 w2, w1⟩
    simp only [bdE u1, gO49 g1, gd_t, bdE (hS0 m1 g1 h5), bdE (r_sign0 (k := 44) g1 h5), bdE (r_sign0 (k := 93) g1 h5), bdE (r_notes0 (u := cdA c) (v := 0) g1 h5)]
  | inl e1 =>
    obtain ⟨m1, u1, u2, u3, u4⟩ := s1 _ p1
    have g1 := u3.1.1
    obtain ⟨t1, t2⟩ := hS1 acc e1 s m1 u3 (by omega)
    dsimp only
    cases p2 : S acc e1 with
    | inr f =>
      obtain ⟨kk, p⟩ := f
      refine ⟨fun acc' e z => (by cases z), fun k p z => ?_⟩
      cases z
      obtain ⟨m2, v1, v2, v3⟩ := t2 _ _ p2
      have g2 := v3.1.1
      have h5 := RE_5 v3
      obtain ⟨w1, w2⟩ := RE_w (v := rI m2 49 8 - 1) v3
      refine ⟨_, ?_, Nq_trans (Nq_trans u2 v2) w2, w1⟩
      simp only [bdE u1, gO49 g1, gO49 g2, gd_t, bdE v1, bdE (hS0 m2 g2 h5), bdE (r_sign0 (k := 44) g2 h5), bdE (r_sign0 (k := 93) g2 h5), bdE (r_notes0 (u := cdA c) (v := 0) g2 h5)]
    | inl f =>
      obtain ⟨acc1, e2⟩ := f
      obtain ⟨m2, v1, v2, v3, v4, v5⟩ := t1 _ _ p2
      have g2 := v3.1.1
      obtain ⟨s3, s4⟩ := r_sg (cc := 44) v3 (by omega)
      rw [show ni 44 = 44 from rfl] at s3 s4
      dsimp only
      cases p3 : sgnP x n e2 44 with
      | inr f =>
        obtain ⟨kk, p⟩ := f
        refine ⟨fun acc' e z => (by cases z), fun k p z => ?_⟩
        cases z
        obtain ⟨m3, w1, w2, w3⟩ := s4 _ _ p3
        have g3 := w3.1.1
        have h5 := RE_5 w3
        obtain ⟨q1, q2⟩ := RE_w (v := rI m3 49 8 - 1) w3
        refine ⟨_, ?_, Nq_trans (Nq_trans (Nq_trans u2 v2) w2) q2, q1⟩
        simp only [bdE u1, gO49 g1, gO49 g2, gO49 g3, gd_t, bdE v1, bdE w1, bdE (hS0 m3 g3 h5), bdE (r_sign0 (k := 93) g3 h5), bdE (r_notes0 (u := cdA c) (v := 0) g3 h5)]
      | inl e3 =>
        obtain ⟨m3, w1, w2, w3, w4⟩ := s3 _ p3
        have g3 := w3.1.1
        obtain ⟨t3, t4⟩ := hS1 acc1 e3 s m3 w3 (by omega)
        dsimp only
        cases p4 : S acc1 e3 with
        | inr f =>
          obtain ⟨kk, p⟩ := f
          refine ⟨fun acc' e z => (by cases z), fun k p z => ?_⟩
          cases z
          obtain ⟨m4, y1, y2, y3⟩ := t4 _ _ p4
          have g4 := y3.1.1
          have h5 := RE_5 y3
          obtain ⟨q1, q2⟩ := RE_w (v := rI m4 49 8 - 1) y3
          refine ⟨_, ?_, Nq_trans (Nq_trans (Nq_trans (Nq_trans u2 v2) w2) y2) q2, q1⟩
          simp only [bdE u1, gO49 g1, gO49 g2, gO49 g3, gO49 g4, gd_t, bdE v1, bdE w1, bdE y1, bdE (r_sign0 (k := 93) g4 h5), bdE (r_notes0 (u := cdA c) (v := 0) g4 h5)]
        | inl f =>
          obtain ⟨acc2, e4⟩ := f
          obtain ⟨m4, y1, y2, y3, y4, y5⟩ := t3 _ _ p4
          have g4 := y3.1.1
          obtain ⟨s5, s6⟩ := r_sg (cc := 93) y3 (by omega)
          rw [show ni 93 = 93 from rfl] at s5 s6
          dsimp only
          cases p5 : sgnP x n e4 93 with
          | inr f =>
            obtain ⟨kk, p⟩ := f
            refine ⟨fun acc' e z => (by cases z), fun k p z => ?_⟩
            cases z
            obtain ⟨m5, z1, z2, z3⟩ := s6 _ _ p5
            have g5 := z3.1.1
            have h5 := RE_5 z3
            obtain ⟨q1, q2⟩ := RE_w (v := rI m5 49 8 - 1) z3
            refine ⟨_, ?_, Nq_trans (Nq_trans (Nq_trans (Nq_trans (Nq_trans u2 v2) w2) y2) z2) q2, q1⟩
            simp only [bdE u1, gO49 g1, gO49 g2, gO49 g3, gO49 g4, gO49 g5, gd_t, bdE v1, bdE w1, bdE y1, bdE z1, bdE (r_notes0 (u := cdA c) (v := 0) g5 h5)]
          | inl e5 =>
            obtain ⟨m5, z1, z2, z3, z4⟩ := s5 _ p5
            have g5 := z3.1.1
            have := z3.2.2.1
            obtain ⟨m6, n1, n2, n3⟩ := r_notes (c := c) z3 (by omega)
            rw [hcB] at n1
            have g6 := n2.1.1
            obtain ⟨q1, q2⟩ := RS_o n2
            refine ⟨fun acc' e z => ?_, fun k p z => (by cases z)⟩
            cases z
            refine ⟨_, ?_, Nq_trans (Nq_trans (Nq_trans (Nq_trans (Nq_trans (Nq_trans u2 v2) w2) y2) z2) n3) q2, q1, by omega, by rw [len_s]; omega⟩
            simp only [bdE u1, gO49 g1, gO49 g2, gO49 g3, gO49 g4, gO49 g5, gO49 g6, gd_t, bdE v1, bdE w1, bdE y1, bdE z1, bdE n1]
