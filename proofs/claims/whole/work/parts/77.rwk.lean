/-! L2: the reference's reading of a work. -/
theorem r_stepHere {x : Nat → Nat} {n b : Nat} {m : Mm} (c : TR x n m) (h4 : rI m 49 4 = ni b) (h5 : rI m 49 5 = 0) (hb : b ≤ n) (hbb : blk x n b = b) : ∃ m', F_X12_stepHere 49 m = some (if kwS x n b = 11 then -1 else ni (kwS x n b), m') ∧ Rs m m' ∧ rI m' 49 4 = ni b := by
  have st := fun (k : Nat) (hk : k < 17) {a1 a2 a3 a4 a5 a6 : Int32} (hs : ∀ m, F_X12_six a1 a2 a3 a4 a5 a6 m = some (ni (sV k), m)) (M : Mm) (hM : Rs m M) (h4M : rI M 49 4 = ni b) => r_isWord (k := k) hk hs (TR_s c hM) h4M ((hM.2 5 (by omega)).trans h5) hb
  rw [hbb] at st
  unfold F_X12_stepHere kwS
  obtain ⟨m0, a0, b0, c0⟩ := st 7 (by omega) six7 m (Rs_refl m) h4
  have r0 := Rs_trans (Rs_refl m) b0
  cases q7 : isW x b (wE x n b) (sN 7)
  · rw [q7] at a0
    simp only [gO49 (TR_s c (Rs_refl m)).1, gd_t, bdE a0, b2i_f, if_true, reduceCtorEq, if_false]
    obtain ⟨m1, a1, b1, c1⟩ := st 8 (by omega) six8 m0 r0 c0
    have r1 := Rs_trans r0 b1
    cases q8 : isW x b (wE x n b) (sN 8)
    · rw [q8] at a1
      simp only [gO49 (TR_s c r0).1, gd_t, bdE a1, b2i_f, if_true, reduceCtorEq, if_false]
      obtain ⟨m2, a2, b2, c2⟩ := st 9 (by omega) six9 m1 r1 c1
      have r2 := Rs_trans r1 b2
      cases q9 : isW x b (wE x n b) (sN 9)
      · rw [q9] at a2
        simp only [gO49 (TR_s c r1).1, gd_t, bdE a2, b2i_f, if_true, reduceCtorEq, if_false]
        obtain ⟨m3, a3, b3, c3⟩ := st 10 (by omega) six10 m2 r2 c2
        have r3 := Rs_trans r2 b3
        cases q10 : isW x b (wE x n b) (sN 10)
        · rw [q10] at a3
          simp only [gO49 (TR_s c r2).1, gd_t, bdE a3, b2i_f, if_true, reduceCtorEq, if_false]
          obtain ⟨m4, a4, b4, c4⟩ := st 11 (by omega) six11 m3 r3 c3
          have r4 := Rs_trans r3 b4
          cases q11 : isW x b (wE x n b) (sN 11)
          · rw [q11] at a4
            simp only [gO49 (TR_s c r3).1, gd_t, bdE a4, b2i_f, if_true, reduceCtorEq, if_false]
            obtain ⟨m5, a5, b5, c5⟩ := st 12 (by omega) six12 m4 r4 c4
            have r5 := Rs_trans r4 b5
            cases q12 : isW x b (wE x n b) (sN 12)
            · rw [q12] at a5
              simp only [gO49 (TR_s c r4).1, gd_t, bdE a5, b2i_f, if_true, reduceCtorEq, if_false]
              obtain ⟨m6, a6, b6, c6⟩ := st 13 (by omega) six13 m5 r5 c5
              have r6 := Rs_trans r5 b6
              cases q13 : isW x b (wE x n b) (sN 13)
              · rw [q13] at a6
                simp only [gO49 (TR_s c r5).1, gd_t, bdE a6, b2i_f, if_true, reduceCtorEq, if_false]
                obtain ⟨m7, a7, b7, c7⟩ := st 14 (by omega) six14 m6 r6 c6
                have r7 := Rs_trans r6 b7
                cases q14 : isW x b (wE x n b) (sN 14)
                · rw [q14] at a7
                  simp only [gO49 (TR_s c r6).1, gd_t, bdE a7, b2i_f, if_true, reduceCtorEq, if_false]
                  obtain ⟨m8, a8, b8, c8⟩ := st 15 (by omega) six15 m7 r7 c7
                  have r8 := Rs_trans r7 b8
                  cases q15 : isW x b (wE x n b) (sN 15)
                  · rw [q15] at a8
                    simp only [gO49 (TR_s c r7).1, gd_t, bdE a8, b2i_f, if_true, reduceCtorEq, if_false]
                    obtain ⟨m9, a9, b9, c9⟩ := st 3 (by omega) six3 m8 r8 c8
                    have r9 := Rs_trans r8 b9
                    cases q3 : isW x b (wE x n b) (sN 3)
                    · rw [q3] at a9
                      simp only [gO49 (TR_s c r8).1, gd_t, bdE a9, b2i_f, if_true, reduceCtorEq, if_false]
                      obtain ⟨m10, a10, b10, c10⟩ := st 16 (by omega) six16 m9 r9 c9
                      have r10 := Rs_trans r9 b10
                      cases q16 : isW x b (wE x n b) (sN 16)
                      · rw [q16] at a10
                        simp only [gO49 (TR_s c r9).1, gd_t, bdE a10, b2i_f, if_true, reduceCtorEq, if_false]
                        exact ⟨m10, rfl, r10, c10⟩
                      · rw [q16] at a10
                        simp only [gO49 (TR_s c r9).1, gd_t, bdE a10, b2i_t, o10, if_false, if_true]
                        exact ⟨m10, rfl, r10, c10⟩
                    · rw [q3] at a9
                      simp only [gO49 (TR_s c r8).1, gd_t, bdE a9, b2i_t, o10, if_false, if_true]
                      exact ⟨m9, rfl, r9, c9⟩
                  · rw [q15] at a8
                    simp only [gO49 (TR_s c r7).1, gd_t, bdE a8, b2i_t, o10, if_false, if_true]
                    exact ⟨m8, rfl, r8, c8⟩
                · rw [q14] at a7
                  simp only [gO49 (TR_s c r6).1, gd_t, bdE a7, b2i_t, o10, if_false, if_true]
                  exact ⟨m7, rfl, r7, c7⟩
              · rw [q13] at a6
                simp only [gO49 (TR_s c r5).1, gd_t, bdE a6, b2i_t, o10, if_false, if_true]
                exact ⟨m6, rfl, r6, c6⟩
            · rw [q12] at a5
              simp only [gO49 (TR_s c r4).1, gd_t, bdE a5, b2i_t, o10, if_false, if_true]
              exact ⟨m5, rfl, r5, c5⟩
          · rw [q11] at a4
            simp only [gO49 (TR_s c r3).1, gd_t, bdE a4, b2i_t, o10, if_false, if_true]
            exact ⟨m4, rfl, r4, c4⟩
        · rw [q10] at a3
          simp only [gO49 (TR_s c r2).1, gd_t, bdE a3, b2i_t, o10, if_false, if_true]
          exact ⟨m3, rfl, r3, c3⟩
      · rw [q9] at a2
        simp only [gO49 (TR_s c r1).1, gd_t, bdE a2, b2i_t, o10, if_false, if_true]
        exact ⟨m2, rfl, r2, c2⟩
    · rw [q8] at a1
      simp only [gO49 (TR_s c r0).1, gd_t, bdE a1, b2i_t, o10, if_false, if_true]
      exact ⟨m1, rfl, r1, c1⟩
  · rw [q7] at a0
    simp only [gO49 (TR_s c (Rs_refl m)).1, gd_t, bdE a0, b2i_t, o10, if_false, if_true]
    exact ⟨m0, rfl, r0, c0⟩
def Hq (m m' : Mm) : Prop := Fm (fun b => b = 49 ∨ (393 ≤ b ∧ b < 473)) m m' ∧ ∀ j, j ≠ 4 → j ≠ 5 → j ≠ 6 → j ≠ 8 → j ≠ 22 → rI m' 49 j = rI m 49 j
theorem Hq_refl (m : Mm) : Hq m m := ⟨Fm_refl _ _, fun _ _ _ _ _ _ => rfl⟩
theorem Hq_trans {m m1 m2 : Mm} (h : Hq m m1) (h' : Hq m1 m2) : Hq m m2 := ⟨Fm_trans h.1 h'.1, fun j h1 h2 h3 h4 h5 => (h'.2 j h1 h2 h3 h4 h5).trans (h.2 j h1 h2 h3 h4 h5)⟩
theorem Rs_Hq {m m' : Mm} (h : Rs m m') : Hq m m' := ⟨Fm_mono (fun _ q => .inl q) h.1, fun j h1 _ _ _ _ => h.2 j h1⟩
theorem Rf_Hq {n k p : Nat} {m m' : Mm} (h : Rf n k p m m') : Hq m m' := ⟨Fm_mono (fun _ q => .inl q) h.1, fun j h1 h2 h3 _ _ => h.2.1 j h1 h2 h3⟩
theorem TR_h {x : Nat → Nat} {n : Nat} {m m' : Mm} (c : TR x n m) (h : Hq m m') : TR x n m' := by
  obtain ⟨g, c1, c2, c3⟩ := c
  refine ⟨G_fr h.1 g, c1, (h.2 2 (by omega) (by omega) (by omega) (by omega) (by omega)).trans c2, ?_⟩
  rw [(h.1.1 50 (by omega)).1]
  exact c3
def WQ (acc : List Q4) (m : Mm) : Prop := ∀ i, i < acc.length → rI m (392 + 1 + i) 0 = ni (acc.getD i q0).1 ∧ ((acc.getD i q0).1 ≠ 8 → (acc.getD i q0).1 ≠ 9 → rI m (392 + 1 + i) 1 = ni (acc.getD i q0).2.1) ∧ ((acc.getD i q0).1 = 0 → rI m (392 + 1 + i) 2 = ni (acc.getD i q0).2.2.1) ∧ ((acc.getD i q0).1 ≠ 10 → rI m (392 + 1 + i) 3 = ni (i + 1)) ∧ ((acc.getD i q0).1 = 10 → (acc.getD i q0).2.2.2 ≠ 0 → rI m (392 + 1 + i) 3 = ni (acc.getD i q0).2.2.2)
/-- text, place, open, steps counted, steps told, members -/
def RW (x : Nat → Nat) (n N a o L : Nat) (acc : List Q4) (m : Mm) : Prop := TR x n m ∧ rI m 49 4 = ni a ∧ a ≤ n ∧ rI m 49 5 = 0 ∧ rI m 49 8 = ni o ∧ rI m 49 22 = ni L ∧ WQ acc m ∧ rI m 53 0 = ni N
theorem RW_s {x : Nat → Nat} {n N a a' o L : Nat} {acc : List Q4} {m m' : Mm} (h : RW x n N a o L acc m) (r : Rs m m') (h4 : rI m' 49 4 = ni a') (ha : a' ≤ n) : RW x n N a' o L acc m' := by
  obtain ⟨t, h1, h2, h3, h5, h6, h7, h8⟩ := h
  refine ⟨TR_s t r, h4, ha, (r.2 5 (by omega)).trans h3, (r.2 8 (by omega)).trans h5, (r.2 22 (by omega)).trans h6, fun i hi => ?_, by rw [(r.1.1 53 (by omega)).1]; exact h8⟩
  rw [(r.1.1 _ (by omega)).1]
  exact h7 i hi
theorem RW_r {x : Nat → Nat} {n N a o L j h : Nat} {v : Int32} {acc : List Q4} {m : Mm} (r : RW x n N a o L acc m) (hl : acc.length ≤ h) (hh : h < 80) : RW x n N a o L acc (wI m (392 + 1 + h) j v) ∧ Hq m (wI m (392 + 1 + h) j v) := by
  obtain ⟨t, h1, h2, h3, h5, h6, h7, h8⟩ := r
  have q : Hq m (wI m (392 + 1 + h) j v) := ⟨Fm_wI (Fm_refl _ _) (.inr (by omega)), fun j _ _ _ _ _ => by rw [rIw_ne (by omega)]⟩
  refine ⟨⟨TR_h t q, ?_, h2, ?_, ?_, ?_, fun i hi => ?_, ?_⟩, q⟩
  · rw [rIw_ne (by omega)]
    exact h1
  · rw [rIw_ne (by omega)]
    exact h3
  · rw [rIw_ne (by omega)]
    exact h5
  · rw [rIw_ne (by omega)]
    exact h6
  · rw [rIw_ne (by omega)]
    exact h7 i hi
  · rw [rIw_ne (by omega)]
    exact h8
theorem RW_c {x : Nat → Nat} {n N a o L j : Nat} {v : Int32} {acc : List Q4} {m : Mm} (r : RW x n N a o L acc m) (hj : j = 8 ∨ j = 22) : RW x n N a (if j = 8 then ix v else o) (if j = 22 then ix v else L) acc (wI m 49 j (ni (ix v))) ∧ Hq m (wI m 49 j (ni (ix v))) := by
  obtain ⟨t, h1, h2, h3, h5, h6, h7, h8⟩ := r
  have q : Hq m (wI m 49 j (ni (ix v))) := ⟨Fm_wI (Fm_refl _ _) (.inl rfl), fun k _ _ _ _ _ => by rw [rIw, uf_ne (by omega)]⟩
  refine ⟨⟨TR_h t q, ?_, h2, ?_, ?_, ?_, fun i hi => ?_, ?_⟩, q⟩
  · rw [rIw, uf_ne (by omega)]
    exact h1
  · rw [rIw, uf_ne (by omega)]
    exact h3
  · rw [rIw, uf_ap]
    by_cases e : j = 8
    · rw [if_pos e.symm, if_pos e]
    · rw [if_neg (fun z => e z.symm), if_neg e]
      exact h5
  · rw [rIw, uf_ap]
    by_cases e : j = 22
    · rw [if_pos e.symm, if_pos e]
    · rw [if_neg (fun z => e z.symm), if_neg e]
      exact h6
  · rw [rIw_ne (by omega)]
    exact h7 i hi
  · rw [rIw_ne (by omega)]
    exact h8
theorem RE_r {x : Nat → Nat} {n k p j h : Nat} {v : Int32} {m : Mm} (r : RE x n k p m) (hh : h < 80) : RE x n k p (wI m (392 + 1 + h) j v) ∧ Hq m (wI m (392 + 1 + h) j v) := by
  have q : Hq m (wI m (392 + 1 + h) j v) := ⟨Fm_wI (Fm_refl _ _) (.inr (by omega)), fun j _ _ _ _ _ => by rw [rIw_ne (by omega)]⟩
  obtain ⟨h1, h2, h3, h4, h5, a, h6, h7⟩ := r
  exact ⟨⟨TR_h h1 q, by rw [rIw_ne (by omega)]; exact h2, by rw [rIw_ne (by omega)]; exact h3, h4, h5, a, h6, by rw [rIw_ne (by omega)]; exact h7⟩, q⟩
theorem RE_o {x : Nat → Nat} {n k p : Nat} {v : Int32} {m : Mm} (h : RE x n k p m) : RE x n k p (wI m 49 8 v) ∧ Hq m (wI m 49 8 v) := by
  obtain ⟨h1, _⟩ := RE_w (v := v) h
  exact ⟨h1, Fm_wI (Fm_refl _ _) (.inl rfl), fun j _ _ _ h4 _ => by rw [rIw, uf_ne h4]⟩
theorem RE_n {x : Nat → Nat} {n k p : Nat} {m m' : Mm} (c : TR x n m) (h : Rf n k p m m') (h0 : k ≠ 0) (h4 : k < 4) : RE x n k p m' ∧ Hq m m' := ⟨RE_f c h h0 h4, Rf_Hq h⟩
theorem rw_num {x : Nat → Nat} {n N a o L lo h : Nat} {hi : Int32} {acc : List Q4} {m : Mm} (r : RW x n N a o L acc m) (hh : hi.toInt = (h : Int) - 1) (hh5 : h ≤ 100000) (hl : lo ≤ 100000) :
    (∀ v e, numP x n a lo h = .inl (v, e) → ∃ m', F_X12_number 49 (ni lo) hi m = some (ni v, m') ∧ Rs m m' ∧ RW x n N e o L acc m' ∧ a < e ∧ v < h) ∧
    (∀ k p, numP x n a lo h = .inr (k, p) → ∃ m', F_X12_number 49 (ni lo) hi m = some (0, m') ∧ RE x n k p m' ∧ Hq m m') := by
  obtain ⟨s1, s2⟩ := r_number (lo := lo) r.1 r.2.1 r.2.2.2.1 r.2.2.1 hh hh5 hl
  have hb := blk_le (x := x) r.2.2.1
  refine ⟨fun v e z => ?_, fun k p z => ?_⟩
  · obtain ⟨m', u1, u2, u3, u4, u5, u6⟩ := s1 v e z
    exact ⟨m', u1, u2, RW_s r u2 u3 u4, by omega, u6⟩
  · obtain ⟨m', u1, u2, u3, u4⟩ := s2 k p z
    exact ⟨m', u1, RE_n r.1 u2 u3 u4⟩
theorem rw_sg {x : Nat → Nat} {n N a o L cc : Nat} {acc : List Q4} {m : Mm} (r : RW x n N a o L acc m) (hc : cc < 256) :
    (∀ e, sgnP x n a cc = .inl e → ∃ m', F_X12_sign 49 (ni cc) m = some ((), m') ∧ Rs m m' ∧ RW x n N e o L acc m' ∧ a < e) ∧
    (∀ k p, sgnP x n a cc = .inr (k, p) → ∃ m', F_X12_sign 49 (ni cc) m = some ((), m') ∧ RE x n k p m' ∧ Hq m m') := by
  obtain ⟨s1, s2⟩ := r_sign r.1 r.2.1 r.2.2.2.1 r.2.2.1 hc
  refine ⟨fun e z => ?_, fun k p z => ?_⟩
  · obtain ⟨m', u1, u2, u3, u4, u5⟩ := s1 e z
    exact ⟨m', u1, u2, RW_s r u2 u3 u4, u5⟩
  · obtain ⟨m', u1, u2, u3, u4⟩ := s2 k p z
    exact ⟨m', u1, RE_n r.1 u2 u3 u4⟩
theorem rw_opens {x : Nat → Nat} {n N a o L : Nat} {acc : List Q4} {m : Mm} (h : RW x n N a o L acc m) (ho : o ≤ 6) :
    (o = 6 → ∃ m', F_X12_opensOne 49 m = some (0, m') ∧ RE x n 3 a m' ∧ Hq m m') ∧
    (o < 6 → ∃ m', F_X12_opensOne 49 m = some (1, m') ∧ RW x n N a (o + 1) L acc m' ∧ Hq m m') := by
  obtain ⟨t, h4, han, h5, h8, rn⟩ := id h
  have g := t.1
  have e6 : (ni o = (6 : Int32)) = (o = 6) := by
    rw [show (6 : Int32) = ni 6 from rfl]
    exact propext (ni_eq (by omega) (by omega))
  refine ⟨fun q => ?_, fun q => ?_⟩
  · obtain ⟨m1, z1, z2⟩ := r_wrong (n := n) (k := 3) (p := a) g h5 h4 han
    have re := RE_f t z2 (by omega) (by omega)
    refine ⟨m1, ?_, re, Rf_Hq z2⟩
    unfold F_X12_opensOne
    rw [show ni 3 = 3 from rfl] at z1
    have q' := eq_true q
    simp only [gO49 g, gO49 re.1.1, gd_t, jn_e, h5, if_true, h8, e6, q', h4, bdE z1, RE_5 re, if_false]
  · obtain ⟨z1, z2⟩ := RW_c (j := 8) (v := ni (o + 1)) h (by omega)
    rw [ix_ni (by omega)] at z1 z2
    simp only [if_true, Nat.reduceEqDiff, if_false] at z1
    have g' := z1.1.1
    refine ⟨_, ?_, z1, z2⟩
    unfold F_X12_opensOne
    have q' : ¬ o = 6 := by omega
    simp (disch := first | assumption | omega | ((repeat (first | assumption | apply G_wI | apply G_wL | apply CSh_wI | apply CSh_wL)); done) | decide) only [↓dO0, ↓dO1, ↓dA2, ↓dK2, ↓dT2, ↓dO3, ↓dO4, ↓dA5, ↓dK5, ↓dT5, ↓dA6, ↓dK6, ↓dT6, ↓dA7, ↓dK7, ↓dT7, ↓dO8, ↓dA9, ↓dK9, ↓dT9, ↓dA10, ↓dK10, ↓dT10, ↓dA11, ↓dK11, ↓dT11, ↓dO12, ↓dA13, ↓dK13, ↓dT13, ↓dO14, ↓dA15, ↓dK15, ↓dT15, ↓dO16, ↓dO29, ↓dO42, ↓dA43, ↓dK43, ↓dT43, ↓dA44, ↓dK44, ↓dT44, ↓dO45, ↓dA46, ↓dK46, ↓dT46, ↓dO47, ↓dA48, ↓dK48, ↓dT48, ↓dO49, ↓dA50, ↓dK50, ↓dT50, ↓dA51, ↓dK51, ↓dT51, ↓dA52, ↓dK52, ↓dT52, ↓dA53, ↓dK53, ↓dT53, ↓dA54, ↓dK54, ↓dT54, ↓dA215, ↓dK215, ↓dT215, ↓dA376, ↓dK376, ↓dT376, ↓dA383, ↓dK383, ↓dT383, ↓dA390, ↓dK390, ↓dT390, ↓dA391, ↓dK391, ↓dT391, ↓dA392, ↓dK392, ↓dT392, ↓dA473, ↓dK473, ↓dT473, ↓dA474, ↓dK474, ↓dT474, ↓dA475, ↓dK475, ↓dT475, ↓dA492, ↓dK492, ↓dT492, ↓dA496, ↓dK496, ↓dT496, ↓dA497, ↓dK497, ↓dT497, ↓dR0_0, ↓dR0_1, ↓dR0_2, ↓dR0_3, ↓dR0_4, ↓dR0_5, ↓dR0_6, ↓dR0_7, ↓dR0_8, ↓dR0_9, ↓dR0_10, ↓dR0_11, ↓dR0_12, ↓dR1_0, ↓dR4_2, ↓dR8_0, ↓dR8_1, ↓dR8_2, ↓dR12_5, ↓dR14_0, ↓dR14_1, ↓dR14_2, ↓dR42_0, ↓dR45_0, ↓dR49_9, ↓dR49_10, ↓dR49_11, ↓dR49_12, ↓dR49_15, ↓dR49_16, ↓dR49_17, ↓dR49_18, ↓dR49_19, ↓dR49_20, ↓dR49_21, ↓dR49_23, ↓dR49_24, ↓dR49_25, ↓dR49_26, ↓dR49_34, ↓dF54, ↓dB54, ↓dC54, ↓dF215, ↓dB215, ↓dC215, ↓dF376, ↓dB376, ↓dC376, ↓dF383, ↓dB383, ↓dC383, ↓dF392, ↓dB392, ↓dC392, ↓dF475, ↓dB475, ↓dC475, ↓dF492, ↓dB492, ↓dC492, ↓lt9_e, ↓jn_e, ↓bd_s, gd_t, bd_s, oc_s, oc_n, lt9_e, jn_e, okOwI, okAwI, okTwI, lnwI, okOwL, okAwL, okTwL, lnwL, rRwI, rRwL, sHwI, sHwL, rIwL, rLwI, gO0, gO1, gA2, gK2, gT2, gN2, gO3, gO4, gA5, gK5, gT5, gN5, gA6, gK6, gT6, gN6, gA7, gK7, gT7, gN7, gO8, gA9, gK9, gT9, gN9, gA10, gK10, gT10, gN10, gA11, gK11, gT11, gN11, gO12, gA13, gK13, gT13, gN13, gO14, gA15, gK15, gT15, gN15, gO16, gO29, gO42, gA43, gK43, gT43, gN43, gA44, gK44, gT44, gN44, gO45, gA46, gK46, gT46, gN46, gO47, gA48, gK48, gT48, gN48, gO49, gA50, gK50, gT50, gN50, gA51, gK51, gT51, gN51, gA52, gK52, gT52, gN52, gA53, gK53, gT53, gN53, gA54, gK54, gT54, gN54, gA215, gK215, gT215, gN215, gA376, gK376, gT376, gN376, gA383, gK383, gT383, gN383, gA390, gK390, gT390, gN390, gA391, gK391, gT391, gN391, gA392, gK392, gT392, gN392, gA473, gK473, gT473, gN473, gA474, gK474, gT474, gN474, gA475, gK475, gT475, gN475, gA492, gK492, gT492, gN492, gA496, gK496, gT496, gN496, gA497, gK497, gT497, gN497, gR0_0, gR0_1, gR0_2, gR0_3, gR0_4, gR0_5, gR0_6, gR0_7, gR0_8, gR0_9, gR0_10, gR0_11, gR0_12, gR1_0, gR4_2, gR8_0, gR8_1, gR8_2, gR12_5, gR14_0, gR14_1, gR14_2, gR42_0, gR45_0, gR49_9, gR49_10, gR49_11, gR49_12, gR49_15, gR49_16, gR49_17, gR49_18, gR49_19, gR49_20, gR49_21, gR49_23, gR49_24, gR49_25, gR49_26, gR49_34, gF54, gB54, gC54, gF215, gB215, gC215, gF376, gB376, gC376, gF383, gB383, gC383, gF392, gB392, gC392, gF475, gB475, gC475, gF492, gB492, gC492, ni_le, ni_lt, ni_eq, ni_add, ni_mul, lni_le, lni_lt, nil_le, nil_lt, lni_eq, nil_eq, lni_add, nil_add, lni_mul, nil_mul, ix_ni, ix_lit, ni_ne1, ni_lt0, ↓reduceIte, Nat.reduceEqDiff, Nat.reduceMul, Nat.reduceAdd, Nat.reduceLeDiff, and_true, true_and, false_and, and_false, if_true, if_false, Nat.not_lt_zero, false_or, or_false, ft9, decide_true, o10, eq_self, b2i_0, b2i_1, b2i_ok, b2i_inj, b2i_t, b2i_f, rIwIk, h5, h8, e6, q']
