/-! L2: the reference's reading of a law: products and sums. -/
def PSp (x : Nat → Nat) (n o : Nat) (P : List Nat → Nat → LR) (F : Nat → Mm → Option (Unit × Mm)) : Prop := (∀ m, G m → rI m 49 5 ≠ 0 → F 49 m = some ((), m)) ∧ ∀ (acc : List Nat) (a s : Nat) (m : Mm), RS x n a o acc m → acc.length + s ≤ a →
  (∀ acc' e, P acc a = .inl (acc', e) → ∃ m', F 49 m = some ((), m') ∧ Nq m m' ∧ RS x n e o acc' m' ∧ a < e ∧ acc'.length + s ≤ e ∧ sgL x n (blk x n e) < 1008) ∧
  (∀ k p, P acc a = .inr (k, p) → ∃ m', F 49 m = some ((), m') ∧ Nq m m' ∧ RE x n k p m')
theorem sg_42 {x : Nat → Nat} {n b : Nat} : ((b < n ∧ x b = 42) ↔ sgL x n b = 1008) ∧ ((b < n ∧ x b = 47) ↔ sgL x n b = 1009) ∧ ((b < n ∧ x b = 37) ↔ sgL x n b = 1010) ∧ ((b < n ∧ x b = 43) ↔ sgL x n b = 1006) ∧ ((b < n ∧ x b = 45) ↔ sgL x n b = 1007) := by
  unfold sgL
  by_cases q : b < n
  · simp only [q, if_true, true_and]
    refine ⟨?_, ?_, ?_, ?_, ?_⟩
    all_goals (constructor <;> intro h)
    all_goals first | (rw [h]; rfl) | (repeat' (split at h)) <;> omega
  · simp [q]
/-- one of the signs -/
theorem r_tk {x : Nat → Nat} {n a o cc : Nat} {acc : List Nat} {m : Mm} (h : RS x n a o acc m) (hc : cc < 256) :
    ∃ m', F_X12_takesSign 49 (ni cc) m = some (b2i (decide (blk x n a < n ∧ x (blk x n a) = cc)), m') ∧ Rs m m' ∧ RS x n (if blk x n a < n ∧ x (blk x n a) = cc then blk x n a + 1 else blk x n a) o acc m' := by
  obtain ⟨m', z1, z2, z3⟩ := r_takesSign h.1 h.2.1 h.2.2.2.1 h.2.2.1 hc
  have hb := blk_le (x := x) h.2.2.1
  refine ⟨m', z1, z2, RS_s h z2 z3 ?_⟩
  split <;> omega
theorem r_prN {fS fP fO : Nat → Mm → Option (Unit × Mm)} (g : Nat) {m : Mm} (gm : G m) (h5 : rI m 49 5 ≠ 0) : L_X12_product_4 fS fP fO (g + 1) 49 m = some ((), m) := by
  rw [L_X12_product_4]
  simp only [gO49 gm, gd_t, h5, if_false]
theorem r_smN {fS fP fO : Nat → Mm → Option (Unit × Mm)} (g : Nat) {m : Mm} (gm : G m) (h5 : rI m 49 5 ≠ 0) : L_X12_sum_4 fS fP fO (g + 1) 49 m = some ((), m) := by
  rw [L_X12_sum_4]
  simp only [gO49 gm, gd_t, h5, if_false]
theorem r_prL {x : Nat → Nat} {n o : Nat} {U : List Nat → Nat → LR} {fS fP fO : Nat → Mm → Option (Unit × Mm)} (hn : n ≤ 150) (hU : NSp x n o U fO) :
    ∀ (g f : Nat) (acc : List Nat) (a s : Nat) (m : Mm), n - a + 1 < g → n - a < f → RS x n a o acc m → acc.length + s ≤ a →
      (∀ acc' e, prP x n U f acc a = .inl (acc', e) → ∃ m', L_X12_product_4 fS fP fO g 49 m = some ((), m') ∧ Nq m m' ∧ RS x n e o acc' m' ∧ a ≤ e ∧ acc'.length + s ≤ e ∧ sgL x n (blk x n e) < 1008) ∧
      (∀ k p, prP x n U f acc a = .inr (k, p) → ∃ m', L_X12_product_4 fS fP fO g 49 m = some ((), m') ∧ Nq m m' ∧ RE x n k p m') := by
  intro g
  induction g with
  | zero =>
    intro f acc a s m h1
    omega
  | succ g ih =>
    intro f acc a s m hg hf h hs
    obtain ⟨f, rfl⟩ : ∃ z, f = z + 1 := ⟨f - 1, by omega⟩
    obtain ⟨t, h4, han, h5, h8, rn⟩ := id h
    have g0 := t.1
    have hb := blk_le (x := x) han
    have hbb := blk_blk (x := x) han
    obtain ⟨k42, k47, k37, _⟩ := sg_42 (x := x) (n := n) (b := blk x n a)
    have n1 : ((1 : Int32) = 0) = False := o10
    have n4 : ((4 : Int32) = -1) = False ∧ ((5 : Int32) = -1) = False ∧ ((6 : Int32) = -1) = False := by decide
    rw [prP]
    -- a sign was taken: how it goes on
    have go : ∀ (c : Nat) (M : Mm), c = sgL x n (blk x n a) → 1008 ≤ c → RS x n (blk x n a + 1) o acc M → Nq m M → blk x n a < n →
        (∀ X, (gd (okO M 49 12) (bd (fO 49 M) fun _ m7 => gd (okO m7 49 12) (bd (F_X12_notes 49 (cdA c) 0 m7) fun _ m9 => L_X12_product_4 fS fP fO g 49 m9))) = X → L_X12_product_4 fS fP fO (g + 1) 49 m = X) →
        (∀ acc' e, (match U acc (blk x n a + 1) with
          | .inr q => (.inr q : LR)
          | .inl (acc1, e) => prP x n U f (acc1 ++ [sgL x n (blk x n a)]) e) = .inl (acc', e) → ∃ m', L_X12_product_4 fS fP fO (g + 1) 49 m = some ((), m') ∧ Nq m m' ∧ RS x n e o acc' m' ∧ a ≤ e ∧ acc'.length + s ≤ e ∧ sgL x n (blk x n e) < 1008) ∧
        (∀ k p, (match U acc (blk x n a + 1) with
          | .inr q => (.inr q : LR)
          | .inl (acc1, e) => prP x n U f (acc1 ++ [sgL x n (blk x n a)]) e) = .inr (k, p) → ∃ m', L_X12_product_4 fS fP fO (g + 1) 49 m = some ((), m') ∧ Nq m m' ∧ RE x n k p m') := by
      intro c M hc hc8 rM qM hbn head
      have gM := rM.1.1
      have hle := sgL_le x n (blk x n a)
      have hcB : cdB c = 0 := by
        unfold cdB
        rw [if_neg (by omega), if_neg (by omega)]
      obtain ⟨s1, s2⟩ := hU.2 acc (blk x n a + 1) (s + 1) M rM (by omega)
      rw [← hc]
      cases p1 : U acc (blk x n a + 1) with
      | inr q =>
        obtain ⟨kk, p⟩ := q
        refine ⟨fun acc' e z => (by cases z), fun k p z => ?_⟩
        cases z
        obtain ⟨m1, x1, x2, x3⟩ := s2 _ _ p1
        have g1 := x3.1.1
        have h51 := RE_5 x3
        refine ⟨m1, head _ ?_, Nq_trans qM x2, x3⟩
        obtain ⟨g, rfl⟩ : ∃ z, g = z + 1 := ⟨g - 1, by omega⟩
        simp only [gO49 gM, gO49 g1, gd_t, bdE x1, bdE (r_notes0 (u := cdA c) (v := 0) g1 h51), r_prN g g1 h51]
      | inl q =>
        obtain ⟨acc1, e⟩ := q
        obtain ⟨m1, x1, x2, x3, x4, x5⟩ := s1 _ _ p1
        have g1 := x3.1.1
        have := x3.2.2.1
        obtain ⟨m2, z1, z2, z3⟩ := r_notes (c := c) x3 (by omega)
        rw [hcB] at z1
        have zz := ih f (acc1 ++ [c]) e s m2 (by omega) (by omega) z2 (by rw [len_s]; omega)
        have qq := Nq_trans (Nq_trans qM x2) z3
        dsimp only
        refine ⟨fun acc' e' u => ?_, fun k p u => ?_⟩
        · obtain ⟨m3, r1, r2, r3, r4, r5, r6⟩ := zz.1 acc' e' u
          refine ⟨m3, head _ ?_, Nq_trans qq r2, r3, by omega, r5, r6⟩
          simp only [gO49 gM, gO49 g1, gd_t, bdE x1, bdE z1, r1]
        · obtain ⟨m3, r1, r2, r3⟩ := zz.2 k p u
          refine ⟨m3, head _ ?_, Nq_trans qq r2, r3⟩
          simp only [gO49 gM, gO49 g1, gd_t, bdE x1, bdE z1, r1]
    obtain ⟨m1, a1, a2, a3⟩ := r_tk (cc := 42) h (by omega)
    rw [show ni 42 = 42 from rfl] at a1
    by_cases q1 : blk x n a < n ∧ x (blk x n a) = 42
    · rw [decide_eq_true q1] at a1
      rw [if_pos q1] at a3
      have hc := k42.mp q1
      rw [if_pos (show 1008 ≤ sgL x n (blk x n a) by omega)]
      refine go 1008 m1 hc.symm (by omega) a3 (Rs_Nq a2) q1.1 (fun X hX => ?_)
      rw [← hX, L_X12_product_4, show cdA 1008 = 4 from rfl]
      simp only [gO49 g0, gd_t, h5, if_true, bdE a1, jn_e, lt9_e, b2i_t, n1, n4, if_false]
    · rw [decide_eq_false q1] at a1
      rw [if_neg q1] at a3
      have nc1 : ¬ sgL x n (blk x n a) = 1008 := fun z => q1 (k42.mpr z)
      have g1 := a3.1.1
      obtain ⟨m2, b1, b2, b3⟩ := r_tk (cc := 47) a3 (by omega)
      rw [hbb] at b1 b3
      rw [show ni 47 = 47 from rfl] at b1
      by_cases q2 : blk x n a < n ∧ x (blk x n a) = 47
      · rw [decide_eq_true q2] at b1
        rw [if_pos q2] at b3
        have hc := k47.mp q2
        rw [if_pos (show 1008 ≤ sgL x n (blk x n a) by omega)]
        refine go 1009 m2 hc.symm (by omega) b3 (Rs_Nq (Rs_trans a2 b2)) q2.1 (fun X hX => ?_)
        rw [← hX, L_X12_product_4, show cdA 1009 = 5 from rfl]
        simp only [gO49 g0, gO49 g1, gd_t, h5, if_true, bdE a1, bdE b1, jn_e, lt9_e, b2i_f, b2i_t, n1, n4, if_false]
      · rw [decide_eq_false q2] at b1
        rw [if_neg q2] at b3
        have nc2 : ¬ sgL x n (blk x n a) = 1009 := fun z => q2 (k47.mpr z)
        have g2 := b3.1.1
        obtain ⟨m3, c1, c2, c3⟩ := r_tk (cc := 37) b3 (by omega)
        rw [hbb] at c1 c3
        rw [show ni 37 = 37 from rfl] at c1
        have q123 := Rs_trans (Rs_trans a2 b2) c2
        by_cases q3 : blk x n a < n ∧ x (blk x n a) = 37
        · rw [decide_eq_true q3] at c1
          rw [if_pos q3] at c3
          have hc := k37.mp q3
          rw [if_pos (show 1008 ≤ sgL x n (blk x n a) by omega)]
          refine go 1010 m3 hc.symm (by omega) c3 (Rs_Nq q123) q3.1 (fun X hX => ?_)
          rw [← hX, L_X12_product_4, show cdA 1010 = 6 from rfl]
          simp only [gO49 g0, gO49 g1, gO49 g2, gd_t, h5, if_true, bdE a1, bdE b1, bdE c1, jn_e, lt9_e, b2i_f, b2i_t, n1, n4, if_false]
        · rw [decide_eq_false q3] at c1
          rw [if_neg q3] at c3
          have nc3 : ¬ sgL x n (blk x n a) = 1010 := fun z => q3 (k37.mpr z)
          have hle := sgL_le x n (blk x n a)
          rw [if_neg (show ¬ 1008 ≤ sgL x n (blk x n a) by omega)]
          refine ⟨fun acc' e z => ?_, fun k p z => (by cases z)⟩
          cases z
          refine ⟨m3, ?_, Rs_Nq q123, c3, hb.1, by omega, by rw [hbb]; omega⟩
          rw [L_X12_product_4]
          simp only [gO49 g0, gO49 g1, gO49 g2, gd_t, h5, if_true, bdE a1, bdE b1, bdE c1, jn_e, lt9_e, b2i_f]
theorem r_prodB {x : Nat → Nat} {n o : Nat} {U : List Nat → Nat → LR} {fS fP fO : Nat → Mm → Option (Unit × Mm)} (hn : n ≤ 150) (hU : NSp x n o U fO) : PSp x n o (prodP x n U) (B_X12_product fS fP fO) := by
  refine ⟨fun m g h5 => ?_, fun acc a s m h hs => ?_⟩
  · unfold B_X12_product
    rw [gO49 g, gd_t, bdE (hU.1 m g h5), show NF = 99999 + 1 from rfl]
    exact r_prN _ g h5
  · have g := h.1.1
    obtain ⟨s1, s2⟩ := hU.2 acc a s m h hs
    unfold prodP B_X12_product
    cases p1 : U acc a with
    | inr q =>
      obtain ⟨kk, p⟩ := q
      refine ⟨fun acc' e z => (by cases z), fun k p z => ?_⟩
      cases z
      obtain ⟨m1, x1, x2, x3⟩ := s2 _ _ p1
      refine ⟨m1, ?_, x2, x3⟩
      rw [gO49 g, gd_t, bdE x1, show NF = 99999 + 1 from rfl]
      exact r_prN _ x3.1.1 (RE_5 x3)
    | inl q =>
      obtain ⟨acc1, e⟩ := q
      obtain ⟨m1, x1, x2, x3, x4, x5⟩ := s1 _ _ p1
      have zz := r_prL (fS := fS) (fP := fP) hn hU NF 151 acc1 e s m1 (by unfold NF; omega) (by omega) x3 x5
      dsimp only
      refine ⟨fun acc' e' u => ?_, fun k p u => ?_⟩
      · obtain ⟨m2, r1, r2, r3, r4, r5, r6⟩ := zz.1 acc' e' u
        exact ⟨m2, by rw [gO49 g, gd_t, bdE x1]; exact r1, Nq_trans x2 r2, r3, by omega, r5, r6⟩
      · obtain ⟨m2, r1, r2, r3⟩ := zz.2 k p u
        exact ⟨m2, by rw [gO49 g, gd_t, bdE x1]; exact r1, Nq_trans x2 r2, r3⟩
theorem r_smL {x : Nat → Nat} {n o : Nat} {U : List Nat → Nat → LR} {fS fP fO : Nat → Mm → Option (Unit × Mm)} (hn : n ≤ 150) (hU : PSp x n o (prodP x n U) fP) :
    ∀ (g f : Nat) (acc : List Nat) (a s : Nat) (m : Mm), n - a + 1 < g → n - a < f → RS x n a o acc m → acc.length + s ≤ a → sgL x n (blk x n a) < 1008 →
      (∀ acc' e, smP x n U f acc a = .inl (acc', e) → ∃ m', L_X12_sum_4 fS fP fO g 49 m = some ((), m') ∧ Nq m m' ∧ RS x n e o acc' m' ∧ a ≤ e ∧ acc'.length + s ≤ e) ∧
      (∀ k p, smP x n U f acc a = .inr (k, p) → ∃ m', L_X12_sum_4 fS fP fO g 49 m = some ((), m') ∧ Nq m m' ∧ RE x n k p m') := by
  intro g
  induction g with
  | zero =>
    intro f acc a s m h1
    omega
  | succ g ih =>
    intro f acc a s m hg hf h hs hsg
    obtain ⟨f, rfl⟩ : ∃ z, f = z + 1 := ⟨f - 1, by omega⟩
    obtain ⟨t, h4, han, h5, h8, rn⟩ := id h
    have g0 := t.1
    have hb := blk_le (x := x) han
    have hbb := blk_blk (x := x) han
    obtain ⟨_, _, _, k43, k45⟩ := sg_42 (x := x) (n := n) (b := blk x n a)
    have n1 : ((1 : Int32) = 0) = False := o10
    have n4 : ((2 : Int32) = -1) = False ∧ ((3 : Int32) = -1) = False := by decide
    rw [smP]
    have go : ∀ (c : Nat) (M : Mm), c = sgL x n (blk x n a) → 1006 ≤ c → RS x n (blk x n a + 1) o acc M → Nq m M → blk x n a < n →
        (∀ X, (gd (okO M 49 12) (bd (fP 49 M) fun _ m7 => gd (okO m7 49 12) (bd (F_X12_notes 49 (cdA c) 0 m7) fun _ m9 => L_X12_sum_4 fS fP fO g 49 m9))) = X → L_X12_sum_4 fS fP fO (g + 1) 49 m = X) →
        (∀ acc' e, (match prodP x n U acc (blk x n a + 1) with
          | .inr q => (.inr q : LR)
          | .inl (acc1, e) => smP x n U f (acc1 ++ [sgL x n (blk x n a)]) e) = .inl (acc', e) → ∃ m', L_X12_sum_4 fS fP fO (g + 1) 49 m = some ((), m') ∧ Nq m m' ∧ RS x n e o acc' m' ∧ a ≤ e ∧ acc'.length + s ≤ e) ∧
        (∀ k p, (match prodP x n U acc (blk x n a + 1) with
          | .inr q => (.inr q : LR)
          | .inl (acc1, e) => smP x n U f (acc1 ++ [sgL x n (blk x n a)]) e) = .inr (k, p) → ∃ m', L_X12_sum_4 fS fP fO (g + 1) 49 m = some ((), m') ∧ Nq m m' ∧ RE x n k p m') := by
      intro c M hc hc8 rM qM hbn head
      have gM := rM.1.1
      have hle := sgL_le x n (blk x n a)
      have hcB : cdB c = 0 := by
        unfold cdB
        rw [if_neg (by omega), if_neg (by omega)]
      obtain ⟨s1, s2⟩ := hU.2 acc (blk x n a + 1) (s + 1) M rM (by omega)
      rw [← hc]
      cases p1 : prodP x n U acc (blk x n a + 1) with
      | inr q =>
        obtain ⟨kk, p⟩ := q
        refine ⟨fun acc' e z => (by cases z), fun k p z => ?_⟩
        cases z
        obtain ⟨m1, x1, x2, x3⟩ := s2 _ _ p1
        have g1 := x3.1.1
        have h51 := RE_5 x3
        refine ⟨m1, head _ ?_, Nq_trans qM x2, x3⟩
        obtain ⟨g, rfl⟩ : ∃ z, g = z + 1 := ⟨g - 1, by omega⟩
        simp only [gO49 gM, gO49 g1, gd_t, bdE x1, bdE (r_notes0 (u := cdA c) (v := 0) g1 h51), r_smN g g1 h51]
      | inl q =>
        obtain ⟨acc1, e⟩ := q
        obtain ⟨m1, x1, x2, x3, x4, x5, x6⟩ := s1 _ _ p1
        have g1 := x3.1.1
        have := x3.2.2.1
        obtain ⟨m2, z1, z2, z3⟩ := r_notes (c := c) x3 (by omega)
        rw [hcB] at z1
        have zz := ih f (acc1 ++ [c]) e s m2 (by omega) (by omega) z2 (by rw [len_s]; omega) x6
        have qq := Nq_trans (Nq_trans qM x2) z3
        dsimp only
        refine ⟨fun acc' e' u => ?_, fun k p u => ?_⟩
        · obtain ⟨m3, r1, r2, r3, r4, r5⟩ := zz.1 acc' e' u
          refine ⟨m3, head _ ?_, Nq_trans qq r2, r3, by omega, r5⟩
          simp only [gO49 gM, gO49 g1, gd_t, bdE x1, bdE z1, r1]
        · obtain ⟨m3, r1, r2, r3⟩ := zz.2 k p u
          refine ⟨m3, head _ ?_, Nq_trans qq r2, r3⟩
          simp only [gO49 gM, gO49 g1, gd_t, bdE x1, bdE z1, r1]
    obtain ⟨m1, a1, a2, a3⟩ := r_tk (cc := 43) h (by omega)
    rw [show ni 43 = 43 from rfl] at a1
    by_cases q1 : blk x n a < n ∧ x (blk x n a) = 43
    · rw [decide_eq_true q1] at a1
      rw [if_pos q1] at a3
      have hc := k43.mp q1
      rw [if_pos (show 1006 ≤ sgL x n (blk x n a) by omega)]
      refine go 1006 m1 hc.symm (by omega) a3 (Rs_Nq a2) q1.1 (fun X hX => ?_)
      rw [← hX, L_X12_sum_4, show cdA 1006 = 2 from rfl]
      simp only [gO49 g0, gd_t, h5, if_true, bdE a1, jn_e, lt9_e, b2i_t, n1, n4, if_false]
    · rw [decide_eq_false q1] at a1
      rw [if_neg q1] at a3
      have nc1 : ¬ sgL x n (blk x n a) = 1006 := fun z => q1 (k43.mpr z)
      have g1 := a3.1.1
      obtain ⟨m2, b1, b2, b3⟩ := r_tk (cc := 45) a3 (by omega)
      rw [hbb] at b1 b3
      rw [show ni 45 = 45 from rfl] at b1
      by_cases q2 : blk x n a < n ∧ x (blk x n a) = 45
      · rw [decide_eq_true q2] at b1
        rw [if_pos q2] at b3
        have hc := k45.mp q2
        rw [if_pos (show 1006 ≤ sgL x n (blk x n a) by omega)]
        refine go 1007 m2 hc.symm (by omega) b3 (Rs_Nq (Rs_trans a2 b2)) q2.1 (fun X hX => ?_)
        rw [← hX, L_X12_sum_4, show cdA 1007 = 3 from rfl]
        simp only [gO49 g0, gO49 g1, gd_t, h5, if_true, bdE a1, bdE b1, jn_e, lt9_e, b2i_f, b2i_t, n1, n4, if_false]
      · rw [decide_eq_false q2] at b1
        rw [if_neg q2] at b3
        have nc2 : ¬ sgL x n (blk x n a) = 1007 := fun z => q2 (k45.mpr z)
        have hle := sgL_le x n (blk x n a)
        rw [if_neg (show ¬ 1006 ≤ sgL x n (blk x n a) by omega)]
        refine ⟨fun acc' e z => ?_, fun k p z => (by cases z)⟩
        cases z
        refine ⟨m2, ?_, Rs_Nq (Rs_trans a2 b2), b3, hb.1, by omega⟩
        rw [L_X12_sum_4]
        simp only [gO49 g0, gO49 g1, gd_t, h5, if_true, bdE a1, bdE b1, jn_e, lt9_e, b2i_f]
theorem r_sumB {x : Nat → Nat} {n o : Nat} {U : List Nat → Nat → LR} {fS fP fO : Nat → Mm → Option (Unit × Mm)} (hn : n ≤ 150) (hU : PSp x n o (prodP x n U) fP) : NSp x n o (sumP x n U) (B_X12_sum fS fP fO) := by
  refine ⟨fun m g h5 => ?_, fun acc a s m h hs => ?_⟩
  · unfold B_X12_sum
    rw [gO49 g, gd_t, bdE (hU.1 m g h5), show NF = 99999 + 1 from rfl]
    exact r_smN _ g h5
  · have g := h.1.1
    obtain ⟨s1, s2⟩ := hU.2 acc a s m h hs
    unfold sumP B_X12_sum
    cases p1 : prodP x n U acc a with
    | inr q =>
      obtain ⟨kk, p⟩ := q
      refine ⟨fun acc' e z => (by cases z), fun k p z => ?_⟩
      cases z
      obtain ⟨m1, x1, x2, x3⟩ := s2 _ _ p1
      refine ⟨m1, ?_, x2, x3⟩
      rw [gO49 g, gd_t, bdE x1, show NF = 99999 + 1 from rfl]
      exact r_smN _ x3.1.1 (RE_5 x3)
    | inl q =>
      obtain ⟨acc1, e⟩ := q
      obtain ⟨m1, x1, x2, x3, x4, x5, x6⟩ := s1 _ _ p1
      have zz := r_smL (fS := fS) (fO := fO) hn hU NF 151 acc1 e s m1 (by unfold NF; omega) (by omega) x3 x5 x6
      dsimp only
      refine ⟨fun acc' e' u => ?_, fun k p u => ?_⟩
      · obtain ⟨m2, r1, r2, r3, r4, r5⟩ := zz.1 acc' e' u
        exact ⟨m2, by rw [gO49 g, gd_t, bdE x1]; exact r1, Nq_trans x2 r2, r3, by omega, r5⟩
      · obtain ⟨m2, r1, r2, r3⟩ := zz.2 k p u
        exact ⟨m2, by rw [gO49 g, gd_t, bdE x1]; exact r1, Nq_trans x2 r2, r3⟩
theorem G_X12s' (D : Nat) : G_X12 (D + 1) = (B_X12_sum (G_X12 D).1 (G_X12 D).2.1 (G_X12 D).2.2, B_X12_product (G_X12 D).1 (G_X12 D).2.1 (G_X12 D).2.2, B_X12_one (G_X12 D).1 (G_X12 D).2.1 (G_X12 D).2.2) := by
  rw [G_X12]
theorem r_lawK {x : Nat → Nat} {n : Nat} (hn : n ≤ 150) : ∀ (k D : Nat), k ≤ 6 → 3 * k + 3 ≤ D → NSp x n (6 - k) (sumL x n k) (F_X12_sum D) := by
  intro k
  induction k with
  | zero =>
    intro D hk hD
    obtain ⟨D, rfl⟩ : ∃ z, D = z + 1 + 1 + 1 := ⟨D - 3, by omega⟩
    have hO : NSp x n (6 - 0) (oneP x n (fun _ _ => .inr (1, 0)) 0) (G_X12 (D + 1)).2.2 := by
      rw [G_X12s']
      exact r_oneB (fS := (G_X12 D).1) (fP := (G_X12 D).2.1) (fO := (G_X12 D).2.2) hn (by omega) (fun z => by omega)
    have hP : PSp x n (6 - 0) (prodP x n (oneP x n (fun _ _ => .inr (1, 0)) 0)) (G_X12 (D + 1 + 1)).2.1 := by
      rw [G_X12s']
      exact r_prodB (fS := (G_X12 (D + 1)).1) (fP := (G_X12 (D + 1)).2.1) hn hO
    have hF : F_X12_sum (D + 1 + 1 + 1) = B_X12_sum (G_X12 (D + 1 + 1)).1 (G_X12 (D + 1 + 1)).2.1 (G_X12 (D + 1 + 1)).2.2 := by
      funext a0 m
      unfold F_X12_sum
      rw [G_X12s']
    rw [hF, sumL]
    exact r_sumB (fS := (G_X12 (D + 1 + 1)).1) (fO := (G_X12 (D + 1 + 1)).2.2) hn hP
  | succ k ih =>
    intro D hk hD
    obtain ⟨D, rfl⟩ : ∃ z, D = z + 1 + 1 + 1 := ⟨D - 3, by omega⟩
    have hS : NSp x n (6 - (k + 1) + 1) (sumL x n k) (G_X12 D).1 := by
      have := ih D (by omega) (by omega)
      rw [show 6 - (k + 1) + 1 = 6 - k by omega]
      exact this
    have hO : NSp x n (6 - (k + 1)) (oneP x n (sumL x n k) (k + 1)) (G_X12 (D + 1)).2.2 := by
      rw [G_X12s']
      exact r_oneB (fS := (G_X12 D).1) (fP := (G_X12 D).2.1) (fO := (G_X12 D).2.2) hn (by omega) (fun _ => hS)
    have hP : PSp x n (6 - (k + 1)) (prodP x n (oneP x n (sumL x n k) (k + 1))) (G_X12 (D + 1 + 1)).2.1 := by
      rw [G_X12s']
      exact r_prodB (fS := (G_X12 (D + 1)).1) (fP := (G_X12 (D + 1)).2.1) hn hO
    have hF : F_X12_sum (D + 1 + 1 + 1) = B_X12_sum (G_X12 (D + 1 + 1)).1 (G_X12 (D + 1 + 1)).2.1 (G_X12 (D + 1 + 1)).2.2 := by
      funext a0 m
      unfold F_X12_sum
      rw [G_X12s']
    rw [hF, sumL]
    exact r_sumB (fS := (G_X12 (D + 1 + 1)).1) (fO := (G_X12 (D + 1 + 1)).2.2) hn hP
