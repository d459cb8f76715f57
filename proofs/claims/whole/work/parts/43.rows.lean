/-! L2: the reference's sends, tells, trims, crashes, joins. -/
theorem tI_way {σ : St} {k b j : Nat} {y v : Int32} (h : b ≠ 10) : tI (tI σ 10 k y) b j v = tI (tI σ b j v) 10 k y := by
  refine Prod.ext (funext fun x => funext fun z => ?_) rfl
  show (if x = b ∧ z = j then v else if x = 10 ∧ z = k then y else σ.1 x z) = (if x = 10 ∧ z = k then y else if x = b ∧ z = j then v else σ.1 x z)
  by_cases e : x = b
  · have : ¬ x = 10 := by omega
    simp [this]
  · simp [e]
theorem tL_way {σ : St} {k b j : Nat} {y : Int32} {v : Int64} : tL (tI σ 10 k y) b j v = tI (tL σ b j v) 10 k y := rfl
theorem deliver_way {σ : St} {k a k' : Nat} {y : Int32} : deliver (tI σ 10 k y) a k' = tI (deliver σ a k') 10 k y := by
  unfold deliver worth
  simp (disch := decide) only [gI_tI, gL_tI, ↓reduceIte, Nat.reduceEqDiff, Nat.reduceMul, Nat.reduceAdd, Nat.reduceLeDiff, and_true, true_and, false_and, and_false, if_true, if_false, Nat.not_lt_zero, false_or, or_false, tI_way, tL_way]
  split
  · rfl
  · split <;> rfl
theorem tI_same {σ : St} {b j : Nat} {v : Int32} (h : gI σ b j = v) : tI σ b j v = σ := by
  refine Prod.ext (funext fun x => funext fun z => ?_) rfl
  show (if x = b ∧ z = j then v else σ.1 x z) = σ.1 x z
  by_cases e : x = b ∧ z = j
  · rw [if_pos e, e.1, e.2]
    exact h.symm
  · rw [if_neg e]
theorem tI_tI {σ : St} {b j : Nat} {v v' : Int32} : tI (tI σ b j v) b j v' = tI σ b j v' := by
  refine Prod.ext (funext fun x => funext fun z => ?_) rfl
  show (if x = b ∧ z = j then v' else if x = b ∧ z = j then v else σ.1 x z) = (if x = b ∧ z = j then v' else σ.1 x z)
  by_cases e : x = b ∧ z = j
  · rw [if_pos e, if_pos e]
  · rw [if_neg e, if_neg e, if_neg e]
theorem RR_put {ρ : Nat → Int32} {τ : St} {i k : Nat} {y y' : Int32} {q : Bool} (h : RR ρ (tI τ 10 k y)) (hi : i < 6) (hk : k < 30) (hy : ∀ e, e < 6 → tb y' e = (tb y e || (decide (e = i) && q))) : RR (uf ρ (24 + i) (ρ (24 + i) ||| (if q then bit k else 0))) (tI τ 10 k y') := by
  refine RR_way h (fun j hj => ?_) (fun b j hb => ?_) (fun b j => rfl) (fun e he k' => ?_)
  · rw [uf_ap, if_neg (by omega)]
  · rw [gI_tI, gI_tI, if_neg (by omega), if_neg (by omega)]
  · have z := RRw h he k'
    rw [gI_tI] at z ⊢
    rw [uf_ap]
    by_cases e1 : e = i
    · subst e1
      rw [if_pos rfl, tb_or, z]
      by_cases e2 : k' = k
      · subst e2
        simp only [and_self, if_true]
        rw [hy e he]
        cases q
        · simp [tb_0]
        · simp [bit, tb_bit (show k' < 32 by omega), hk]
      · simp only [e2, and_false, if_false]
        cases q
        · simp [tb_0]
        · simp [bit, tb_bit (show k < 32 by omega), e2]
    · rw [if_neg (by omega), z]
      by_cases e2 : k' = k
      · subst e2
        simp only [and_self, if_true]
        rw [hy e he]
        simp [e1]
      · simp only [e2, and_false, if_false]
theorem r_wayLoop {o t w n a k : Nat} {lim : Int32} {τ : St} (ha : a < 6) (hk : k < 30) (hb : bel n (standing τ)) (hn : n ≤ 6) :
    ∀ (d i f : Nat) (m : Mm), i + d = n → d < f → MC o t w n lim m → RR (rI m w) (tI τ 10 k ((standing τ &&& (bit a ^^^ (-1 : Int32))) &&& allB i)) →
      UW w m (L_X12_sends_120 f o w (ni a) (ni k) (ni i) m) 1 (tI τ 10 k (standing τ &&& (bit a ^^^ (-1 : Int32)))) := by
  intro d
  induction d with
  | zero =>
    intro i f m hi hf c h
    obtain ⟨f, rfl⟩ : ∃ g, f = g + 1 := ⟨f - 1, by omega⟩
    have : i = n := by omega
    subst this
    rw [L_X12_sends_120]
    have e : (standing τ &&& (bit a ^^^ (-1 : Int32))) &&& allB i = standing τ &&& (bit a ^^^ (-1 : Int32)) := by
      apply tb_ext
      intro j hj
      rw [tb_and, allB_tb (by omega)]
      by_cases e : j < i
      · simp [e]
      · rw [tb_and, hb j (by omega)]
        simp
    rw [e] at h
    simp (disch := first | omega | exact MC_ne c | ((repeat (first | exact c | apply MC_w1)); done) | decide) only [gd_t, bd_s, oc_s, oc_n, lt9_e, jn_e, okOwI, okAwI, okTwI, lnwI, okOwL, okAwL, okTwL, lnwL, rRwI, rRwL, sHwI, sHwL, rIwL, rLwI, bit_f, uf_ap, ↓if_pos, ↓if_neg, MC_o c, MC_t c, MC_0 c, MC_2 c, MC_n c, MC_l c, MC_w c, MC_wk c, rIw, rIw_ne, ni_le, ni_lt, ni_eq, ni_add, ni_mul, lni_le, lni_lt, nil_le, nil_lt, lni_eq, nil_eq, lni_add, nil_add, lni_mul, nil_mul, ix_ni, ix_lit, ni_ne1, ni_lt0, ↓reduceIte, Nat.reduceEqDiff, Nat.reduceMul, Nat.reduceAdd, Nat.reduceLeDiff, and_true, true_and, false_and, and_false, if_true, if_false, Nat.not_lt_zero, false_or, or_false, ft9, decide_true, o10, eq_self, b2i_0, b2i_1, b2i_ok, b2i_inj, b2i_t, b2i_f, Nat.le_refl]
    exact ⟨m, rfl, h, Fm_refl _ _, Wk_refl _ _⟩
  | succ d ih =>
    intro i f m hi hf c h
    obtain ⟨f, rfl⟩ : ∃ g, f = g + 1 := ⟨f - 1, by omega⟩
    rw [L_X12_sends_120]
    have hy : ∀ e, e < 6 → tb ((standing τ &&& (bit a ^^^ (-1 : Int32))) &&& allB (i + 1)) e = (tb ((standing τ &&& (bit a ^^^ (-1 : Int32))) &&& allB i) e || (decide (e = i) && (!(decide (i = a)) && stands τ i))) := by
      intro e he
      have e32 : e < 32 := by omega
      simp (disch := omega) only [tb_and, allB_tb, tb_not, bit, tb_bit]
      by_cases e1 : e = i
      · subst e1
        unfold stands
        have this : e < e + 1 := by omega
        have h2 : ¬ e < e := by omega
        simp only [e32, this, h2, decide_true, decide_false, Bool.true_and, Bool.and_false, Bool.false_or, Bool.and_true]
        exact Bool.and_comm _ _
      · have h3 : (e < i + 1) = (e < i) := by
          apply propext
          omega
        simp only [e1, h3, decide_false, Bool.false_and, Bool.or_false]
    have h1 := RR_put (q := (!(decide (i = a)) && stands τ i)) h (show i < 6 by omega) hk hy
    have hin : ∀ (m : Mm), MC o t w n lim m → RR (rI m w) (tI τ 10 k ((standing τ &&& (bit a ^^^ (-1 : Int32))) &&& allB i)) → F_X12_isInside w (ni i) m = some (b2i (stands τ i), m) := fun m c h => by
      have z := r_inside (a := i) c h (by omega)
      exact z
    rw [← rIw] at h1
    obtain ⟨m', x1, x2, x3⟩ := ih (i + 1) f _ (by omega) (by omega) (MC_w1 c) h1
    refine ⟨m', ?_, x2, Fm_trans (Fm_wI (Fm_refl _ _) rfl) x3.1, Wk_trans (Wk_wI (Wk_refl _ _) (by omega)) x3.2⟩
    rw [← x1]
    by_cases e : i = a
    · subst e
      simp (disch := first | omega | exact MC_ne c | ((repeat (first | exact c | apply MC_w1)); done) | decide) only [gd_t, bd_s, oc_s, oc_n, lt9_e, jn_e, okOwI, okAwI, okTwI, lnwI, okOwL, okAwL, okTwL, lnwL, rRwI, rRwL, sHwI, sHwL, rIwL, rLwI, bit_f, uf_ap, ↓if_pos, ↓if_neg, MC_o c, MC_t c, MC_0 c, MC_2 c, MC_n c, MC_l c, MC_w c, MC_wk c, rIw, rIw_ne, ni_le, ni_lt, ni_eq, ni_add, ni_mul, lni_le, lni_lt, nil_le, nil_lt, lni_eq, nil_eq, lni_add, nil_add, lni_mul, nil_mul, ix_ni, ix_lit, ni_ne1, ni_lt0, ↓reduceIte, Nat.reduceEqDiff, Nat.reduceMul, Nat.reduceAdd, Nat.reduceLeDiff, and_true, true_and, false_and, and_false, if_true, if_false, Nat.not_lt_zero, false_or, or_false, ft9, decide_true, o10, eq_self, b2i_0, b2i_1, b2i_ok, b2i_inj, b2i_t, b2i_f, decide_true, Bool.not_true, Bool.false_and, reduceCtorEq]
    · cases e2 : stands τ i
      · simp (disch := first | omega | exact MC_ne c | ((repeat (first | exact c | apply MC_w1)); done) | decide) only [gd_t, bd_s, oc_s, oc_n, lt9_e, jn_e, okOwI, okAwI, okTwI, lnwI, okOwL, okAwL, okTwL, lnwL, rRwI, rRwL, sHwI, sHwL, rIwL, rLwI, bit_f, uf_ap, ↓if_pos, ↓if_neg, MC_o c, MC_t c, MC_0 c, MC_2 c, MC_n c, MC_l c, MC_w c, MC_wk c, rIw, rIw_ne, ni_le, ni_lt, ni_eq, ni_add, ni_mul, lni_le, lni_lt, nil_le, nil_lt, lni_eq, nil_eq, lni_add, nil_add, lni_mul, nil_mul, ix_ni, ix_lit, ni_ne1, ni_lt0, ↓reduceIte, Nat.reduceEqDiff, Nat.reduceMul, Nat.reduceAdd, Nat.reduceLeDiff, and_true, true_and, false_and, and_false, if_true, if_false, Nat.not_lt_zero, false_or, or_false, ft9, decide_true, o10, eq_self, b2i_0, b2i_1, b2i_ok, b2i_inj, b2i_t, b2i_f, hin m c h, e, e2, decide_true, decide_false, Bool.not_true, Bool.not_false, Bool.and_false, reduceCtorEq]
      · simp (disch := first | omega | exact MC_ne c | ((repeat (first | exact c | apply MC_w1)); done) | decide) only [gd_t, bd_s, oc_s, oc_n, lt9_e, jn_e, okOwI, okAwI, okTwI, lnwI, okOwL, okAwL, okTwL, lnwL, rRwI, rRwL, sHwI, sHwL, rIwL, rLwI, bit_f, uf_ap, ↓if_pos, ↓if_neg, MC_o c, MC_t c, MC_0 c, MC_2 c, MC_n c, MC_l c, MC_w c, MC_wk c, rIw, rIw_ne, ni_le, ni_lt, ni_eq, ni_add, ni_mul, lni_le, lni_lt, nil_le, nil_lt, lni_eq, nil_eq, lni_add, nil_add, lni_mul, nil_mul, ix_ni, ix_lit, ni_ne1, ni_lt0, ↓reduceIte, Nat.reduceEqDiff, Nat.reduceMul, Nat.reduceAdd, Nat.reduceLeDiff, and_true, true_and, false_and, and_false, if_true, if_false, Nat.not_lt_zero, false_or, or_false, ft9, decide_true, o10, eq_self, b2i_0, b2i_1, b2i_ok, b2i_inj, b2i_t, b2i_f, hin m c h, e, e2, decide_true, decide_false, Bool.not_true, Bool.not_false, Bool.and_true, reduceCtorEq]
theorem r_sends {o t w n B a l : Nat} {v : Int32} {m : Mm} {σ : St} (c : MC o t w n (ni l) m) (h : RR (rI m w) σ) (hw : WF n B σ) (ha : a < 6) (hl : l ≤ 30) :
    ∃ m', F_X12_sends o w (ni a) v m = some (b2i (send σ a v (ni l)).1, m') ∧ RR (rI m' w) (send σ a v (ni l)).2 ∧ Fm (fun b => b = w) m m' ∧ (tb (gI σ 0 4) a = false → Wk w m m') := by
  unfold F_X12_sends send
  have h30 := WF_30 hw
  have hmc := WF_mc hw
  cases hs : stands σ a
  · simp (disch := first | omega | exact MC_ne c | ((repeat (first | exact c | apply MC_w1)); done) | decide) only [gd_t, bd_s, oc_s, oc_n, lt9_e, jn_e, okOwI, okAwI, okTwI, lnwI, okOwL, okAwL, okTwL, lnwL, rRwI, rRwL, sHwI, sHwL, rIwL, rLwI, bit_f, uf_ap, ↓if_pos, ↓if_neg, MC_o c, MC_t c, MC_0 c, MC_2 c, MC_n c, MC_l c, MC_w c, MC_wk c, rIw, rIw_ne, ni_le, ni_lt, ni_eq, ni_add, ni_mul, lni_le, lni_lt, nil_le, nil_lt, lni_eq, nil_eq, lni_add, nil_add, lni_mul, nil_mul, ix_ni, ix_lit, ni_ne1, ni_lt0, ↓reduceIte, Nat.reduceEqDiff, Nat.reduceMul, Nat.reduceAdd, Nat.reduceLeDiff, and_true, true_and, false_and, and_false, if_true, if_false, Nat.not_lt_zero, false_or, or_false, ft9, decide_true, o10, eq_self, b2i_0, b2i_1, b2i_ok, b2i_inj, b2i_t, b2i_f, r_inside c h, hs]
    exact ⟨m, rfl, h, Fm_refl _ _, fun _ => Wk_refl _ _⟩
  · cases hb : tb (gI σ 0 4) a
    · unfold post
      by_cases hk : mc σ < l
      · have h1 := RR_msg (k := mc σ) (x := ni a) (w := v) h (by omega) hmc
        have f1 : Fm (fun b => b = w) m (wI (wI (wI m w 187 (ni (mc σ + 1))) w (120 + mc σ) (ni a)) w (150 + mc σ) v) := (by repeat' (first | exact Fm_refl _ _ | apply Fm_wI | apply Fm_wL | rfl))
        have k1 : Wk w m (wI (wI (wI m w 187 (ni (mc σ + 1))) w (120 + mc σ) (ni a)) w (150 + mc σ) v) := (by repeat' (first | exact Wk_refl _ _ | apply Wk_wI | omega))
        rw [← rIw, ← rIw, ← rIw] at h1
        obtain ⟨m1, x1, x2, x3⟩ := r_delivers (k := mc σ) (MC_fr c f1) h1 ha (by omega) (by show mc σ < ix (ni (mc σ + 1)); rw [ix_ni (by omega)]; omega) (by have z := WF_lg hw ha hs; exact z)
        have c1 := MC_fr (MC_fr c f1) x3.1
        have hst : ∀ x y : Nat, gI (deliver (tI (tI (tI σ 0 7 (ni (mc σ + 1))) 8 (mc σ) (ni a)) 9 (mc σ) v) a (mc σ)) 10 x = gI σ 10 x ∧ standing (deliver (tI (tI (tI σ 0 7 (ni (mc σ + 1))) 8 (mc σ) (ni a)) 9 (mc σ) v) a (mc σ)) = standing σ ∧ y = y := by
          intro x y
          unfold deliver
          dsimp only
          split
          · exact ⟨rfl, rfl, rfl⟩
          · split <;> exact ⟨rfl, rfl, rfl⟩
        have hz : gI σ 10 (mc σ) = 0 := hw.2.1.2.2.2.2.2.1 (mc σ) (by omega) (by omega)
        have e0 : (standing (deliver (tI (tI (tI σ 0 7 (ni (mc σ + 1))) 8 (mc σ) (ni a)) 9 (mc σ) v) a (mc σ)) &&& (bit a ^^^ (-1 : Int32))) &&& allB 0 = 0 := by
          apply tb_ext
          intro j _
          rw [tb_and, allB_tb (by omega), tb_0]
          simp
        have x2' := x2
        rw [← tI_same (σ := deliver (tI (tI (tI σ 0 7 (ni (mc σ + 1))) 8 (mc σ) (ni a)) 9 (mc σ) v) a (mc σ)) (b := 10) (j := mc σ) (v := 0) (((hst (mc σ) 0).1).trans hz), ← e0] at x2'
        have hbel : bel n (standing (deliver (tI (tI (tI σ 0 7 (ni (mc σ + 1))) 8 (mc σ) (ni a)) 9 (mc σ) v) a (mc σ))) := by
          rw [(hst 0 0).2.1]
          exact bel_and hw.1.2.2.2.1
        obtain ⟨m2, y1, y2, y3⟩ := r_wayLoop (a := a) (k := mc σ) ha (by omega) hbel (WF_6 hw) n 0 NF m1 (by omega) (by have := WF_6 hw; unfold NF; omega) c1 x2'
        rw [ni_0] at y1
        rw [(hst 0 0).2.1, ← deliver_way] at y2
        have q1 : ¬ ni l ≤ gI σ 0 7 := by
          rw [hmc, ni_le (by omega) (by omega)]
          omega
        have q2 : ¬ gI σ 0 7 < 0 := by
          rw [hmc, ni_lt0 (by omega)]
          exact id
        have q3 : gI σ 0 7 < 30 := by
          rw [hmc]
          exact (ni_lt (b := 30) (by omega) (by omega)).mpr (by omega)
        simp (disch := first | omega | exact MC_ne c | ((repeat (first | exact c | apply MC_w1)); done) | decide) only [gd_t, bd_s, oc_s, oc_n, lt9_e, jn_e, okOwI, okAwI, okTwI, lnwI, okOwL, okAwL, okTwL, lnwL, rRwI, rRwL, sHwI, sHwL, rIwL, rLwI, bit_f, uf_ap, ↓if_pos, ↓if_neg, MC_o c, MC_t c, MC_0 c, MC_2 c, MC_n c, MC_l c, MC_w c, MC_wk c, rIw, rIw_ne, ni_le, ni_lt, ni_eq, ni_add, ni_mul, lni_le, lni_lt, nil_le, nil_lt, lni_eq, nil_eq, lni_add, nil_add, lni_mul, nil_mul, ix_ni, ix_lit, ni_ne1, ni_lt0, ↓reduceIte, Nat.reduceEqDiff, Nat.reduceMul, Nat.reduceAdd, Nat.reduceLeDiff, and_true, true_and, false_and, and_false, if_true, if_false, Nat.not_lt_zero, false_or, or_false, ft9, decide_true, o10, eq_self, b2i_0, b2i_1, b2i_ok, b2i_inj, b2i_t, b2i_f, r_inside c h, hs, RR185 h, hasR, hb, RR187 h, q1, q2, q3, reduceCtorEq]
        simp (disch := first | omega | exact MC_ne c | ((repeat (first | exact c | apply MC_w1)); done) | decide) only [gd_t, bd_s, oc_s, oc_n, lt9_e, jn_e, okOwI, okAwI, okTwI, lnwI, okOwL, okAwL, okTwL, lnwL, rRwI, rRwL, sHwI, sHwL, rIwL, rLwI, bit_f, uf_ap, ↓if_pos, ↓if_neg, MC_o c, MC_t c, MC_0 c, MC_2 c, MC_n c, MC_l c, MC_w c, MC_wk c, rIw, rIw_ne, ni_le, ni_lt, ni_eq, ni_add, ni_mul, lni_le, lni_lt, nil_le, nil_lt, lni_eq, nil_eq, lni_add, nil_add, lni_mul, nil_mul, ix_ni, ix_lit, ni_ne1, ni_lt0, ↓reduceIte, Nat.reduceEqDiff, Nat.reduceMul, Nat.reduceAdd, Nat.reduceLeDiff, and_true, true_and, false_and, and_false, if_true, if_false, Nat.not_lt_zero, false_or, or_false, ft9, decide_true, o10, eq_self, b2i_0, b2i_1, b2i_ok, b2i_inj, b2i_t, b2i_f, hmc, x1, y1]
        exact ⟨m2, rfl, y2, Fm_trans (Fm_trans f1 x3.1) y3.1, fun _ => Wk_trans (Wk_trans k1 x3.2) y3.2⟩
      · have q1 : ni l ≤ gI σ 0 7 := by
          rw [hmc, ni_le (by omega) (by omega)]
          omega
        simp (disch := first | omega | exact MC_ne c | ((repeat (first | exact c | apply MC_w1)); done) | decide) only [gd_t, bd_s, oc_s, oc_n, lt9_e, jn_e, okOwI, okAwI, okTwI, lnwI, okOwL, okAwL, okTwL, lnwL, rRwI, rRwL, sHwI, sHwL, rIwL, rLwI, bit_f, uf_ap, ↓if_pos, ↓if_neg, MC_o c, MC_t c, MC_0 c, MC_2 c, MC_n c, MC_l c, MC_w c, MC_wk c, rIw, rIw_ne, ni_le, ni_lt, ni_eq, ni_add, ni_mul, lni_le, lni_lt, nil_le, nil_lt, lni_eq, nil_eq, lni_add, nil_add, lni_mul, nil_mul, ix_ni, ix_lit, ni_ne1, ni_lt0, ↓reduceIte, Nat.reduceEqDiff, Nat.reduceMul, Nat.reduceAdd, Nat.reduceLeDiff, and_true, true_and, false_and, and_false, if_true, if_false, Nat.not_lt_zero, false_or, or_false, ft9, decide_true, o10, eq_self, b2i_0, b2i_1, b2i_ok, b2i_inj, b2i_t, b2i_f, r_inside c h, hs, RR185 h, hasR, hb, RR187 h, q1, reduceCtorEq]
        simp (disch := first | omega | exact MC_ne c | ((repeat (first | exact c | apply MC_w1)); done) | decide) only [gd_t, bd_s, oc_s, oc_n, lt9_e, jn_e, okOwI, okAwI, okTwI, lnwI, okOwL, okAwL, okTwL, lnwL, rRwI, rRwL, sHwI, sHwL, rIwL, rLwI, bit_f, uf_ap, ↓if_pos, ↓if_neg, MC_o c, MC_t c, MC_0 c, MC_2 c, MC_n c, MC_l c, MC_w c, MC_wk c, rIw, rIw_ne, ni_le, ni_lt, ni_eq, ni_add, ni_mul, lni_le, lni_lt, nil_le, nil_lt, lni_eq, nil_eq, lni_add, nil_add, lni_mul, nil_mul, ix_ni, ix_lit, ni_ne1, ni_lt0, ↓reduceIte, Nat.reduceEqDiff, Nat.reduceMul, Nat.reduceAdd, Nat.reduceLeDiff, and_true, true_and, false_and, and_false, if_true, if_false, Nat.not_lt_zero, false_or, or_false, ft9, decide_true, o10, eq_self, b2i_0, b2i_1, b2i_ok, b2i_inj, b2i_t, b2i_f, hmc]
        exact ⟨m, rfl, h, Fm_refl _ _, fun _ => Wk_refl _ _⟩
    · unfold keepBack
      obtain ⟨e, he, hx, _⟩ := hw.2.1.2.2.2.2.2.2.2.1 a ha
      by_cases h8 : e = 8
      · subst h8
        simp (disch := first | omega | exact MC_ne c | ((repeat (first | exact c | apply MC_w1)); done) | decide) only [gd_t, bd_s, oc_s, oc_n, lt9_e, jn_e, okOwI, okAwI, okTwI, lnwI, okOwL, okAwL, okTwL, lnwL, rRwI, rRwL, sHwI, sHwL, rIwL, rLwI, bit_f, uf_ap, ↓if_pos, ↓if_neg, MC_o c, MC_t c, MC_0 c, MC_2 c, MC_n c, MC_l c, MC_w c, MC_wk c, rIw, rIw_ne, ni_le, ni_lt, ni_eq, ni_add, ni_mul, lni_le, lni_lt, nil_le, nil_lt, lni_eq, nil_eq, lni_add, nil_add, lni_mul, nil_mul, ix_ni, ix_lit, ni_ne1, ni_lt0, ↓reduceIte, Nat.reduceEqDiff, Nat.reduceMul, Nat.reduceAdd, Nat.reduceLeDiff, and_true, true_and, false_and, and_false, if_true, if_false, Nat.not_lt_zero, false_or, or_false, ft9, decide_true, o10, eq_self, b2i_0, b2i_1, b2i_ok, b2i_inj, b2i_t, b2i_f, r_inside c h, hs, RR185 h, hasR, hb, RRh h, hx, reduceCtorEq]
        exact ⟨m, rfl, h, Fm_refl _ _, fun _ => Wk_refl _ _⟩
      · have h1 := RR_hold (w := v) h ha (by omega) hx
        have f1 : Fm (fun b => b = w) m (wI (wI m w (72 + 8 * a + e) v) w (30 + a) (ni (e + 1))) := (by repeat' (first | exact Fm_refl _ _ | apply Fm_wI | apply Fm_wL | rfl))
        rw [← rIw, ← rIw] at h1
        simp (disch := first | omega | exact MC_ne c | ((repeat (first | exact c | apply MC_w1)); done) | decide) only [gd_t, bd_s, oc_s, oc_n, lt9_e, jn_e, okOwI, okAwI, okTwI, lnwI, okOwL, okAwL, okTwL, lnwL, rRwI, rRwL, sHwI, sHwL, rIwL, rLwI, bit_f, uf_ap, ↓if_pos, ↓if_neg, MC_o c, MC_t c, MC_0 c, MC_2 c, MC_n c, MC_l c, MC_w c, MC_wk c, rIw, rIw_ne, ni_le, ni_lt, ni_eq, ni_add, ni_mul, lni_le, lni_lt, nil_le, nil_lt, lni_eq, nil_eq, lni_add, nil_add, lni_mul, nil_mul, ix_ni, ix_lit, ni_ne1, ni_lt0, ↓reduceIte, Nat.reduceEqDiff, Nat.reduceMul, Nat.reduceAdd, Nat.reduceLeDiff, and_true, true_and, false_and, and_false, if_true, if_false, Nat.not_lt_zero, false_or, or_false, ft9, decide_true, o10, eq_self, b2i_0, b2i_1, b2i_ok, b2i_inj, b2i_t, b2i_f, r_inside c h, hs, RR185 h, hasR, hb, RRh h, hx, reduceCtorEq]
        exact ⟨_, rfl, h1, f1, fun q => by cases q⟩
