/-! L2: the class's sums; its reading of a law. -/
def w9 (w : Option Nat) : Int32 := match w with
  | none => -1
  | some c => ni c
def wl9 (w : Option Nat) : List Nat := match w with
  | none => []
  | some c => [c]
def lpR (x : Nat → Nat) (n : Nat) (U : List Nat → Nat → LR) (f f2 : Nat) (acc : List Nat) (w : Option Nat) (a : Nat) : LR := match prP x n U f acc a with
  | .inr q => .inr q
  | .inl (acc1, b) => smP x n U f2 (acc1 ++ wl9 w) b
theorem c_sumLp {x : Nat → Nat} {n qd o : Nat} {U : List Nat → Nat → LR} {fS fU fW : Nat → Nat → Int32 → Mm → Option (Int32 × Mm)} (hn : n ≤ 150) (hU : RSp x n qd o U fU) :
    ∀ (g f f2 i : Nat) (acc : List Nat) (w : Option Nat) (a s : Nat) (m : Mm), n - a + 1 < g → n - a < f → n - a < f2 → i < a → (∀ c, w = some c → 1006 ≤ c ∧ c ≤ 1010) → LD qd acc m → TC x n m → rI m 1 3 = ni a → a ≤ n → acc.length + (wl9 w).length + s ≤ a →
      (∀ acc' e, lpR x n U f f2 acc w a = .inl (acc', e) → ∃ m', L_X3_readSum_13 fS fU fW g 4 1 (ni o) (w9 w) 1 (ni i) m = some (1, m') ∧ Ls qd m m' ∧ LD qd acc' m' ∧ rI m' 1 3 = ni e ∧ e ≤ n ∧ a ≤ e ∧ acc'.length + s ≤ e) ∧
      (∀ k p, lpR x n U f f2 acc w a = .inr (k, p) → ∃ m', L_X3_readSum_13 fS fU fW g 4 1 (ni o) (w9 w) 1 (ni i) m = some (0, m') ∧ Lf qd k p m m') := by
  intro g
  induction g with
  | zero =>
    intro f f2 i acc w a s m h1
    omega
  | succ g ih =>
    intro f f2 i acc w a s m hg hf hf2 hi hw d c h3 han hs
    have gg := c.1
    have hq := LD_q d
    have hb := blk_le (x := x) han
    have hbb := blk_blk (x := x) han
    obtain ⟨m1, y1, y2, y3, y4⟩ := c_peek c h3 han
    have c1 := TC_s c y2
    have d1 := LD_s d y2
    have g1 := c1.1
    have l1 : Ls qd m m1 := Ts_Ls y2
    have hj := c_joint (n := n) (b := blk x n a) (m := m1) (TC_x c1)
    have n1 : ((1 : Int32) = 0) = False := o10
    have n11 : ((-1 : Int32) = 1008) = False ∧ ((-1 : Int32) = 1009) = False ∧ ((-1 : Int32) = 1010) = False := by decide
    have i150 : ((150 : Int32) ≤ ni i) = False := eq_false (by
      rw [show (150 : Int32) = ni 150 from rfl, ni_le (by omega) (by omega)]
      omega)
    have sk := c_skip c1 y3
    have t2 : Ts m1 (wI m1 1 3 (ni (blk x n a + 1))) := Ts_w (Ts_refl m1) (by omega)
    obtain ⟨f, rfl⟩ : ∃ z, f = z + 1 := ⟨f - 1, by omega⟩
    obtain ⟨f2, rfl⟩ : ∃ z, f2 = z + 1 := ⟨f2 - 1, by omega⟩
    have hsg := sgL_le x n (blk x n a)
    -- the head of a turn
    have ek : ∀ v : Nat, v = 1008 ∨ v = 1009 ∨ v = 1010 → (ni (sgL x n (blk x n a)) = ni v) = (sgL x n (blk x n a) = v) := fun v hv => propext (ni_eq (by omega) (by omega))
    have ek8 := ek 1008 (by omega)
    have ek9 := ek 1009 (by omega)
    have ek10 := ek 1010 (by omega)
    rw [show ni 1008 = (1008 : Int32) from rfl] at ek8
    rw [show ni 1009 = (1009 : Int32) from rfl] at ek9
    rw [show ni 1010 = (1010 : Int32) from rfl] at ek10
    unfold lpR
    rw [prP]
    by_cases q1 : 1008 ≤ sgL x n (blk x n a)
    · -- a product's sign
      have hne : sgL x n (blk x n a) ≠ 0 := by omega
      rw [if_neg hne] at hj
      rw [if_pos q1]
      have hbn : blk x n a < n := by omega
      generalize blk x n a = b at *
      have hm1 : (ni (sgL x n b) = (-1 : Int32)) = False := eq_false (fun z => (ni_ne1 (by omega)).mp z)
      have head : L_X3_readSum_13 fS fU fW (g + 1) 4 1 (ni o) (w9 w) 1 (ni i) m = bd (fU 4 1 (ni o) (wI m1 1 3 (ni (b + 1)))) (fun r14 m15 => gd (okO m15 4 3) (bd (F_X3_emit 4 (ni (sgL x n b)) m15) fun r19 m20 => L_X3_readSum_13 fS fU fW g 4 1 (ni o) (w9 w) r14 (ni (i + 1)) m20)) := by
        rw [L_X3_readSum_13]
        have g2 : G (wI m1 1 3 (ni (b + 1))) := g1
        have hc : sgL x n b = 1008 ∨ sgL x n b = 1009 ∨ sgL x n b = 1010 := by omega
        rcases hc with z | z | z
        · have z' := eq_true z
          simp only [n1, if_false, i150, gO1 gg, gO1 g1, gO4 g2, gd_t, bdE y1, bdE hj, lt9_e, jn_e, ek8, z', if_true, hm1, bdE sk, nil_add]
        · have z' := eq_true z
          have z0 : ¬ sgL x n b = 1008 := by omega
          simp only [n1, if_false, i150, gO1 gg, gO1 g1, gO4 g2, gd_t, bdE y1, bdE hj, lt9_e, jn_e, ek8, ek9, z0, z', if_true, hm1, bdE sk, nil_add]
        · have z' := eq_true z
          have z0 : ¬ sgL x n b = 1008 := by omega
          have z1 : ¬ sgL x n b = 1009 := by omega
          simp only [n1, if_false, i150, gO1 gg, gO1 g1, gO4 g2, gd_t, bdE y1, bdE hj, lt9_e, jn_e, ek8, ek9, ek10, z0, z1, z', if_true, hm1, bdE sk, nil_add]
      have c2 := TC_s c1 t2
      have d2 := LD_s d1 t2
      have l2 := Ls_trans l1 (Ts_Ls (qd := qd) t2)
      obtain ⟨s1, s2⟩ := hU acc (b + 1) ((wl9 w).length + s + 1) _ d2 c2 (by rw [rIw, uf_at]) (by omega) (by omega)
      rw [head]
      cases p1 : U acc (b + 1) with
      | inr q =>
        obtain ⟨kk, p⟩ := q
        refine ⟨fun acc' e z => (by cases z), fun k p z => ?_⟩
        cases z
        obtain ⟨m3, x1, x2⟩ := s2 _ _ p1
        have lf := Ls_Lf l2 x2
        obtain ⟨gM, rM⟩ := Lf_G lf d
        obtain ⟨m4, z1, z2⟩ := c_emitF (v := ni (sgL x n b)) lf gM rM hq
        refine ⟨m4, ?_, z2⟩
        obtain ⟨g, rfl⟩ : ∃ z, g = z + 1 := ⟨g - 1, by omega⟩
        rw [bdE x1, gO4 gM, gd_t, bdE z1, L_X3_readSum_13]
        simp only [if_true, true_or, decide_true, gd_t]
      | inl q =>
        obtain ⟨acc1, e⟩ := q
        obtain ⟨m3, x1, x2, x3, x4, x5, x6, x7⟩ := s1 _ _ p1
        have c3 := TC_L c2 x2 hq
        have g3 := c3.1
        obtain ⟨m4, z1, z2, z3, z4⟩ := c_emit (v := sgL x n b) x3 (by omega)
        have c4 := TC_L c3 z3 hq
        have l4 := Ls_trans (Ls_trans l2 x2) z3
        have zz := ih f (f2 + 1) (i + 1) (acc1 ++ [sgL x n b]) w e s m4 (by omega) (by omega) (by omega) (by omega) hw z2 c4 (by rw [z4]; exact x4) x5 (by rw [len_s]; omega)
        unfold lpR at zz
        dsimp only
        rw [bdE x1, gO4 g3, gd_t, bdE z1]
        refine ⟨fun acc' e' u => ?_, fun k p u => ?_⟩
        · obtain ⟨m5, r1, r2, r3, r4, r5, r6, r7⟩ := zz.1 acc' e' u
          exact ⟨m5, r1, Ls_trans l4 r2, r3, r4, r5, by omega, r7⟩
        · obtain ⟨m5, r1, r2⟩ := zz.2 k p u
          exact ⟨m5, r1, Ls_Lf l4 r2⟩
    · rw [if_neg q1]
      have f8 : ¬ sgL x n (blk x n a) = 1008 := by omega
      have f9 : ¬ sgL x n (blk x n a) = 1009 := by omega
      have f10 : ¬ sgL x n (blk x n a) = 1010 := by omega
      dsimp only
      rw [smP, hbb]
      generalize blk x n a = b at *
      -- what waits is put
      have put : ∃ m2, Ls qd m m2 ∧ LD qd (acc ++ wl9 w) m2 ∧ rI m2 1 = rI m1 1 ∧ ∀ (X : Option (Int32 × Mm)), (if sgL x n b = 0 then some ((1 : Int32), m2) else bd (fU 4 1 (ni o) (wI m2 1 3 (ni (b + 1)))) (fun r14 m15 => L_X3_readSum_13 fS fU fW g 4 1 (ni o) (ni (sgL x n b)) r14 (ni (i + 1)) m15)) = X → L_X3_readSum_13 fS fU fW (g + 1) 4 1 (ni o) (w9 w) 1 (ni i) m = X := by
        cases w with
        | none =>
          refine ⟨m1, l1, by rw [show acc ++ wl9 none = acc from List.append_nil acc]; exact d1, rfl, fun X hX => ?_⟩
          rw [← hX, L_X3_readSum_13]
          have g2 : G (wI m1 1 3 (ni (b + 1))) := g1
          by_cases q2 : sgL x n b = 0
          · rw [if_pos q2] at hj
            rw [if_pos q2]
            simp only [n1, if_false, i150, gO1 gg, gd_t, bdE y1, bdE hj, lt9_e, jn_e, n11, if_true, w9]
          · rw [if_neg q2] at hj
            rw [if_neg q2]
            have hm1 : (ni (sgL x n b) = (-1 : Int32)) = False := eq_false (fun z => (ni_ne1 (by omega)).mp z)
            simp only [n1, if_false, i150, gO1 gg, gO1 g1, gO4 g2, gd_t, bdE y1, bdE hj, lt9_e, jn_e, ek8, ek9, ek10, f8, f9, f10, if_true, hm1, bdE sk, nil_add, w9]
        | some cw =>
          obtain ⟨w1, w2⟩ := hw cw rfl
          have hlw : (wl9 (some cw)).length = 1 := rfl
          obtain ⟨m2, z1, z2, z3, z4⟩ := c_emit (v := cw) d1 (by omega)
          have c2 := TC_L c1 z3 hq
          have g2 := c2.1
          have sk2 := c_skip c2 (b := b) (by rw [z4]; exact y3)
          refine ⟨m2, Ls_trans l1 z3, z2, z4, fun X hX => ?_⟩
          have hmw : (ni cw = (-1 : Int32)) = False := eq_false (fun z => (ni_ne1 (by omega)).mp z)
          rw [← hX, L_X3_readSum_13]
          have g3 : G (wI m2 1 3 (ni (b + 1))) := g2
          by_cases q2 : sgL x n b = 0
          · rw [if_pos q2] at hj
            rw [if_pos q2]
            simp only [n1, if_false, i150, gO1 gg, gO4 g1, gd_t, bdE y1, bdE hj, lt9_e, jn_e, n11, if_true, w9, hmw, bdE z1]
          · rw [if_neg q2] at hj
            rw [if_neg q2]
            have hm1 : (ni (sgL x n b) = (-1 : Int32)) = False := eq_false (fun z => (ni_ne1 (by omega)).mp z)
            simp only [n1, if_false, i150, gO1 gg, gO4 g1, gO1 g2, gO4 g3, gd_t, bdE y1, bdE hj, lt9_e, jn_e, ek8, ek9, ek10, f8, f9, f10, if_true, hm1, w9, hmw, bdE z1, bdE sk2, nil_add]
      obtain ⟨m2, e1, e2, e3, e4⟩ := put
      have c2 := TC_L c e1 hq
      have hlen : (acc ++ wl9 w).length = acc.length + (wl9 w).length := List.length_append
      by_cases q2 : 1006 ≤ sgL x n b
      · rw [if_pos q2]
        have hbn : b < n := by omega
        have hne : ¬ sgL x n b = 0 := by omega
        rw [if_neg hne] at e4
        have t3 : Ts m2 (wI m2 1 3 (ni (b + 1))) := Ts_w (Ts_refl m2) (by omega)
        have c3 := TC_s c2 t3
        have d3 := LD_s e2 t3
        have l3 := Ls_trans e1 (Ts_Ls (qd := qd) t3)
        obtain ⟨s1, s2⟩ := hU (acc ++ wl9 w) (b + 1) (s + 1) _ d3 c3 (by rw [rIw, uf_at]) (by omega) (by omega)
        unfold prodP
        cases p1 : U (acc ++ wl9 w) (b + 1) with
        | inr q =>
          obtain ⟨kk, p⟩ := q
          refine ⟨fun acc' e z => (by cases z), fun k p z => ?_⟩
          cases z
          obtain ⟨m4, x1, x2⟩ := s2 _ _ p1
          refine ⟨m4, e4 _ ?_, Ls_Lf l3 x2⟩
          obtain ⟨g, rfl⟩ : ∃ z, g = z + 1 := ⟨g - 1, by omega⟩
          rw [bdE x1, L_X3_readSum_13]
          simp only [if_true, true_or, decide_true, gd_t]
        | inl q =>
          obtain ⟨acc1, e⟩ := q
          obtain ⟨m4, x1, x2, x3, x4, x5, x6, x7⟩ := s1 _ _ p1
          have c4 := TC_L c3 x2 hq
          have l4 := Ls_trans l3 x2
          have zz := ih 151 f2 (i + 1) acc1 (some (sgL x n b)) e s m4 (by omega) (by omega) (by omega) (by omega) (fun c hc => by cases hc; omega) x3 c4 x4 x5 (by have : (wl9 (some (sgL x n b))).length = 1 := rfl; omega)
          unfold lpR at zz
          dsimp only
          refine ⟨fun acc' e' u => ?_, fun k p u => ?_⟩
          · obtain ⟨m5, r1, r2, r3, r4, r5, r6, r7⟩ := zz.1 acc' e' (by
              cases hp : prP x n U 151 acc1 e with
              | inr q => rw [hp] at u; exact u
              | inl q => rw [hp] at u; exact u)
            refine ⟨m5, e4 _ ?_, Ls_trans l4 r2, r3, r4, r5, by omega, r7⟩
            rw [bdE x1]
            exact r1
          · obtain ⟨m5, r1, r2⟩ := zz.2 k p (by
              cases hp : prP x n U 151 acc1 e with
              | inr q => rw [hp] at u; exact u
              | inl q => rw [hp] at u; exact u)
            refine ⟨m5, e4 _ ?_, Ls_Lf l4 r2⟩
            rw [bdE x1]
            exact r1
      · rw [if_neg q2]
        have h0 : sgL x n b = 0 := by omega
        rw [if_pos h0] at e4
        refine ⟨fun acc' e z => ?_, fun k p z => (by cases z)⟩
        cases z
        exact ⟨m2, e4 _ rfl, e1, e2, by rw [e3]; exact y3, hb.2, hb.1, by omega⟩
theorem sum_lp {x : Nat → Nat} {n : Nat} {U : List Nat → Nat → LR} {acc : List Nat} {a : Nat} : sumP x n U acc a = (match U acc a with
    | .inr q => (.inr q : LR)
    | .inl (acc1, e) => lpR x n U 151 151 acc1 none e) := by
  unfold sumP prodP lpR
  cases U acc a with
  | inr q => rfl
  | inl q =>
    obtain ⟨acc1, e⟩ := q
    dsimp only
    cases prP x n U 151 acc1 e with
    | inr q => rfl
    | inl q =>
      obtain ⟨a1, b1⟩ := q
      dsimp only
      rw [show a1 ++ wl9 none = a1 from List.append_nil _]
theorem c_sumB {x : Nat → Nat} {n qd o : Nat} {U : List Nat → Nat → LR} {fS fU fW : Nat → Nat → Int32 → Mm → Option (Int32 × Mm)} (hn : n ≤ 150) (hU : RSp x n qd o U fU) : RSp x n qd o (sumP x n U) (B_X3_readSum fS fU fW) := by
  intro acc a s m d c h3 han hs
  have g := c.1
  have hq := LD_q d
  obtain ⟨s1, s2⟩ := hU acc a s m d c h3 han hs
  rw [sum_lp]
  unfold B_X3_readSum
  cases p1 : U acc a with
  | inr q =>
    obtain ⟨kk, p⟩ := q
    refine ⟨fun acc' e z => (by cases z), fun k p z => ?_⟩
    cases z
    obtain ⟨m1, x1, x2⟩ := s2 _ _ p1
    refine ⟨m1, ?_, x2⟩
    simp only [lt9_e, gO4 g, gd_t, bdE x1]
    rw [show NF = 99999 + 1 from rfl, L_X3_readSum_13]
    simp only [if_true, true_or, decide_true, gd_t]
  | inl q =>
    obtain ⟨acc1, e⟩ := q
    obtain ⟨m1, x1, x2, x3, x4, x5, x6, x7⟩ := s1 _ _ p1
    have c1 := TC_L c x2 hq
    have zz := c_sumLp (fS := fS) (fU := fU) (fW := fW) hn hU NF 151 151 0 acc1 none e s m1 (by unfold NF; omega) (by omega) (by omega) (by omega) (fun c hc => by cases hc) x3 c1 x4 x5 (by have : (wl9 none).length = 0 := rfl; omega)
    dsimp only
    simp only [lt9_e, gO4 g, gd_t, bdE x1]
    refine ⟨fun acc' e' u => ?_, fun k p u => ?_⟩
    · obtain ⟨m2, r1, r2, r3, r4, r5, r6, r7⟩ := zz.1 acc' e' u
      exact ⟨m2, r1, Ls_trans x2 r2, r3, r4, r5, by omega, r7⟩
    · obtain ⟨m2, r1, r2⟩ := zz.2 k p u
      exact ⟨m2, r1, Ls_Lf x2 r2⟩
theorem G_X3s (D : Nat) : G_X3 (D + 1) = (B_X3_readSum (G_X3 D).1 (G_X3 D).2.1 (G_X3 D).2.2, B_X3_readUnit (G_X3 D).1 (G_X3 D).2.1 (G_X3 D).2.2, B_X3_readWord (G_X3 D).1 (G_X3 D).2.1 (G_X3 D).2.2) := by
  rw [G_X3]
theorem c_lawK {x : Nat → Nat} {n qd : Nat} (hn : n ≤ 150) : ∀ (k D : Nat), k ≤ 6 → 3 * k + 3 ≤ D → RSp x n qd (6 - k) (sumL x n k) (F_X3_readSum D) := by
  intro k
  induction k with
  | zero =>
    intro D hk hD
    obtain ⟨D, rfl⟩ : ∃ z, D = z + 1 + 1 + 1 := ⟨D - 3, by omega⟩
    have hW : RSp x n qd (6 - 0) (fun acc a => wordP x n (fun _ _ => .inr (1, 0)) 0 acc (blk x n a)) (G_X3 (D + 1)).2.2 := by
      rw [G_X3s]
      exact c_wordB (fS := (G_X3 D).1) (fU := (G_X3 D).2.1) (fW := (G_X3 D).2.2) hn (by omega) (fun z => by omega)
    have hU : RSp x n qd (6 - 0) (oneP x n (fun _ _ => .inr (1, 0)) 0) (G_X3 (D + 1 + 1)).2.1 := by
      rw [G_X3s]
      exact c_unitB (fS := (G_X3 (D + 1)).1) (fU := (G_X3 (D + 1)).2.1) (fW := (G_X3 (D + 1)).2.2) hn (by omega) (fun z => by omega) hW
    have hF : F_X3_readSum (D + 1 + 1 + 1) = B_X3_readSum (G_X3 (D + 1 + 1)).1 (G_X3 (D + 1 + 1)).2.1 (G_X3 (D + 1 + 1)).2.2 := by
      funext a0 a1 a2 m
      unfold F_X3_readSum
      rw [G_X3s]
    rw [hF, sumL]
    exact c_sumB (fS := (G_X3 (D + 1 + 1)).1) (fW := (G_X3 (D + 1 + 1)).2.2) hn hU
  | succ k ih =>
    intro D hk hD
    obtain ⟨D, rfl⟩ : ∃ z, D = z + 1 + 1 + 1 := ⟨D - 3, by omega⟩
    have hS : ∀ D', 3 * k + 3 ≤ D' → RSp x n qd (6 - (k + 1) + 1) (sumL x n k) (G_X3 D').1 := fun D' hD' => by
      have := ih D' (by omega) hD'
      rw [show 6 - (k + 1) + 1 = 6 - k by omega]
      exact this
    have hW : RSp x n qd (6 - (k + 1)) (fun acc a => wordP x n (sumL x n k) (k + 1) acc (blk x n a)) (G_X3 (D + 1)).2.2 := by
      rw [G_X3s]
      exact c_wordB (fS := (G_X3 D).1) (fU := (G_X3 D).2.1) (fW := (G_X3 D).2.2) hn (by omega) (fun _ => hS D (by omega))
    have hU : RSp x n qd (6 - (k + 1)) (oneP x n (sumL x n k) (k + 1)) (G_X3 (D + 1 + 1)).2.1 := by
      rw [G_X3s]
      exact c_unitB (fS := (G_X3 (D + 1)).1) (fU := (G_X3 (D + 1)).2.1) (fW := (G_X3 (D + 1)).2.2) hn (by omega) (fun _ => hS (D + 1) (by omega)) hW
    have hF : F_X3_readSum (D + 1 + 1 + 1) = B_X3_readSum (G_X3 (D + 1 + 1)).1 (G_X3 (D + 1 + 1)).2.1 (G_X3 (D + 1 + 1)).2.2 := by
      funext a0 a1 a2 m
      unfold F_X3_readSum
      rw [G_X3s]
    rw [hF, sumL]
    exact c_sumB (fS := (G_X3 (D + 1 + 1)).1) (fW := (G_X3 (D + 1 + 1)).2.2) hn hU
